def CCl (ad : Nat → Nat) (cy : Nat → ClassId) (fi : Nat → Int32) (fl : Nat → Int64) : List va_E := [.inr (1, [.ref (ad 1), .ref (ad 8), .ref (ad 9), .ref (ad 14), .ref (ad 15), .ref (ad 22), .ref (ad 29), .int (fi 7), .ref (ad 30), .ref (ad 34), .ref (ad 35), .ref (ad 42), .int (fi 12), .int (fi 13), .long (fl 14), .long (fl 15)]),
  .inl (cy 3, 6, .inr (.inr (.inr (.inr (fun j => if j < 6 then some (ad (2 + j)) else none))))),
  .inl (cy 0, 40, .inl fi),
  .inl (cy 0, 40, .inl fi),
  .inl (cy 0, 40, .inl fi),
  .inl (cy 0, 40, .inl fi),
  .inl (cy 0, 40, .inl fi),
  .inl (cy 0, 40, .inl fi),
  .inl (cy 0, 6, .inl fi),
  .inl (cy 4, 4, .inr (.inr (.inr (.inr (fun j => if j < 4 then some (ad (10 + j)) else none))))),
  .inl (cy 1, 60, .inl fi),
  .inl (cy 1, 60, .inl fi),
  .inl (cy 1, 60, .inl fi),
  .inl (cy 1, 60, .inl fi),
  .inl (cy 0, 4, .inl fi),
  .inr (0, [.ref (ad 16), .ref (ad 17), .ref (ad 18), .ref (ad 19), .ref (ad 20), .ref (ad 21), .int (fi 6), .int (fi 7)]),
  .inl (cy 0, 7, .inl fi),
  .inl (cy 0, 7, .inl fi),
  .inl (cy 0, 7, .inl fi),
  .inl (cy 0, 7, .inl fi),
  .inl (cy 0, 7, .inl fi),
  .inl (cy 0, 7, .inl fi),
  .inr (0, [.ref (ad 23), .ref (ad 24), .ref (ad 25), .ref (ad 26), .ref (ad 27), .ref (ad 28), .int (fi 6), .int (fi 7)]),
  .inl (cy 0, 7, .inl fi),
  .inl (cy 0, 7, .inl fi),
  .inl (cy 0, 7, .inl fi),
  .inl (cy 0, 7, .inl fi),
  .inl (cy 0, 7, .inl fi),
  .inl (cy 0, 7, .inl fi),
  .inl (cy 0, 40, .inl fi),
  .inl (cy 3, 3, .inr (.inr (.inr (.inr (fun j => if j < 3 then some (ad (31 + j)) else none))))),
  .inl (cy 0, 40, .inl fi),
  .inl (cy 0, 40, .inl fi),
  .inl (cy 0, 40, .inl fi),
  .inl (cy 0, 3, .inl fi),
  .inl (cy 3, 6, .inr (.inr (.inr (.inr (fun j => if j < 6 then some (ad (36 + j)) else none))))),
  .inl (cy 0, 20, .inl fi),
  .inl (cy 0, 20, .inl fi),
  .inl (cy 0, 20, .inl fi),
  .inl (cy 0, 20, .inl fi),
  .inl (cy 0, 20, .inl fi),
  .inl (cy 0, 20, .inl fi),
  .inl (cy 0, 6, .inl fi)]
def CC (ad : Nat → Nat) (cy : Nat → ClassId) : CF := fun k fi fl => (CCl ad cy fi fl).getD k (.inr (0, []))
def CMl (ad : Nat → Nat) (cy : Nat → ClassId) (fi : Nat → Int32) (fl : Nat → Int64) : List va_E := [.inr (2, [.ref (ad 1), .ref (ad 2), .ref (ad 3), .ref (ad 4), .int (fi 4), .ref (ad 5), .ref (ad 6), .ref (ad 7), .ref (ad 8), .ref (ad 9), .ref (ad 10), .int (fi 11), .ref (ad 11), .ref (ad 12), .int (fi 14), .long (fl 15), .long (fl 16), .int (fi 17), .ref (ad 13), .int (fi 19), .ref (ad 14), .ref (ad 15), .ref (ad 16), .ref (ad 17), .ref (ad 18), .ref (ad 19)]),
  .inl (cy 0, 6, .inl fi),
  .inl (cy 0, 240, .inl fi),
  .inl (cy 0, 4, .inl fi),
  .inl (cy 0, 240, .inl fi),
  .inl (cy 0, 7, .inl fi),
  .inl (cy 0, 7, .inl fi),
  .inl (cy 0, 7, .inl fi),
  .inl (cy 0, 15, .inl fi),
  .inl (cy 0, 15, .inl fi),
  .inl (cy 0, 600, .inl fi),
  .inl (cy 0, 1848, .inl fi),
  .inl (cy 2, 3, .inl fi),
  .inl (cy 0, 6, .inl fi),
  .inl (cy 0, 7, .inl fi),
  .inl (cy 0, 7, .inl fi),
  .inl (cy 0, 7, .inl fi),
  .inl (cy 0, 7, .inl fi),
  .inl (cy 0, 6, .inl fi),
  .inl (cy 0, 512, .inl fi)]
def CM (ad : Nat → Nat) (cy : Nat → ClassId) : CF := fun k fi fl => (CMl ad cy fi fl).getD k (.inr (0, []))
theorem iG_rows {ad : Nat → Nat} {cy : Nat → ClassId} : isG ad (CC ad cy) 43 1 (cy 3) 6 2 := ⟨by decide, fun _ _ => rfl⟩
theorem iA_rows_r {ad : Nat → Nat} {cy : Nat → ClassId} {r : Nat} (h : r < 6) : isA (CC ad cy) 43 (2 + r) (cy 0) 40 := by
  rcases (show r = 0 ∨ r = 1 ∨ r = 2 ∨ r = 3 ∨ r = 4 ∨ r = 5 by omega) with rfl | rfl | rfl | rfl | rfl | rfl <;> exact ⟨by decide, fun _ _ => rfl⟩
theorem iA_rowSizes {ad : Nat → Nat} {cy : Nat → ClassId} : isA (CC ad cy) 43 8 (cy 0) 6 := ⟨by decide, fun _ _ => rfl⟩
theorem iG_texts {ad : Nat → Nat} {cy : Nat → ClassId} : isG ad (CC ad cy) 43 9 (cy 4) 4 10 := ⟨by decide, fun _ _ => rfl⟩
theorem iA_texts_r {ad : Nat → Nat} {cy : Nat → ClassId} {r : Nat} (h : r < 4) : isA (CC ad cy) 43 (10 + r) (cy 1) 60 := by
  rcases (show r = 0 ∨ r = 1 ∨ r = 2 ∨ r = 3 by omega) with rfl | rfl | rfl | rfl <;> exact ⟨by decide, fun _ _ => rfl⟩
theorem iA_textSizes {ad : Nat → Nat} {cy : Nat → ClassId} : isA (CC ad cy) 43 14 (cy 0) 4 := ⟨by decide, fun _ _ => rfl⟩
theorem iA_deeds {ad : Nat → Nat} {cy : Nat → ClassId} : isA (CC ad cy) 43 29 (cy 0) 40 := ⟨by decide, fun _ _ => rfl⟩
theorem iG_keptDeeds {ad : Nat → Nat} {cy : Nat → ClassId} : isG ad (CC ad cy) 43 30 (cy 3) 3 31 := ⟨by decide, fun _ _ => rfl⟩
theorem iA_keptDeeds_r {ad : Nat → Nat} {cy : Nat → ClassId} {r : Nat} (h : r < 3) : isA (CC ad cy) 43 (31 + r) (cy 0) 40 := by
  rcases (show r = 0 ∨ r = 1 ∨ r = 2 by omega) with rfl | rfl | rfl <;> exact ⟨by decide, fun _ _ => rfl⟩
theorem iA_keptSizes {ad : Nat → Nat} {cy : Nat → ClassId} : isA (CC ad cy) 43 34 (cy 0) 3 := ⟨by decide, fun _ _ => rfl⟩
theorem iG_looks {ad : Nat → Nat} {cy : Nat → ClassId} : isG ad (CC ad cy) 43 35 (cy 3) 6 36 := ⟨by decide, fun _ _ => rfl⟩
theorem iA_looks_r {ad : Nat → Nat} {cy : Nat → ClassId} {r : Nat} (h : r < 6) : isA (CC ad cy) 43 (36 + r) (cy 0) 20 := by
  rcases (show r = 0 ∨ r = 1 ∨ r = 2 ∨ r = 3 ∨ r = 4 ∨ r = 5 by omega) with rfl | rfl | rfl | rfl | rfl | rfl <;> exact ⟨by decide, fun _ _ => rfl⟩
theorem iA_findingCounts {ad : Nat → Nat} {cy : Nat → ClassId} : isA (CC ad cy) 43 42 (cy 0) 6 := ⟨by decide, fun _ _ => rfl⟩
def isSt (o : Nat) : Prop := o = 15 ∨ o = 22
theorem isSt15 : isSt 15 := Or.inl rfl
theorem isSt22 : isSt 22 := Or.inr rfl
theorem iA_st1 {ad : Nat → Nat} {cy : Nat → ClassId} {o : Nat} (h : isSt o) : isA (CC ad cy) 43 (o + 1) (cy 0) 7 := by
  rcases h with rfl | rfl <;> exact ⟨by decide, fun _ _ => rfl⟩
theorem iA_st2 {ad : Nat → Nat} {cy : Nat → ClassId} {o : Nat} (h : isSt o) : isA (CC ad cy) 43 (o + 2) (cy 0) 7 := by
  rcases h with rfl | rfl <;> exact ⟨by decide, fun _ _ => rfl⟩
theorem iA_st3 {ad : Nat → Nat} {cy : Nat → ClassId} {o : Nat} (h : isSt o) : isA (CC ad cy) 43 (o + 3) (cy 0) 7 := by
  rcases h with rfl | rfl <;> exact ⟨by decide, fun _ _ => rfl⟩
theorem iA_st4 {ad : Nat → Nat} {cy : Nat → ClassId} {o : Nat} (h : isSt o) : isA (CC ad cy) 43 (o + 4) (cy 0) 7 := by
  rcases h with rfl | rfl <;> exact ⟨by decide, fun _ _ => rfl⟩
theorem iA_st5 {ad : Nat → Nat} {cy : Nat → ClassId} {o : Nat} (h : isSt o) : isA (CC ad cy) 43 (o + 5) (cy 0) 7 := by
  rcases h with rfl | rfl <;> exact ⟨by decide, fun _ _ => rfl⟩
theorem iA_st6 {ad : Nat → Nat} {cy : Nat → ClassId} {o : Nat} (h : isSt o) : isA (CC ad cy) 43 (o + 6) (cy 0) 7 := by
  rcases h with rfl | rfl <;> exact ⟨by decide, fun _ _ => rfl⟩
theorem iO_st {ad : Nat → Nat} {cy : Nat → ClassId} {o : Nat} (h : isSt o) : isO (CC ad cy) 43 o RX0 := by
  rcases h with rfl | rfl <;> exact ⟨by decide, 0, _, rfl, rfl, fun _ _ => ⟨_, rfl⟩⟩
theorem iO_X1 {ad : Nat → Nat} {cy : Nat → ClassId} : isO (CC ad cy) 43 0 RX1 := ⟨by decide, 1, _, rfl, rfl, fun _ _ => ⟨_, rfl⟩⟩
theorem iO_X2 {ad : Nat → Nat} {cy : Nat → ClassId} : isO (CM ad cy) 20 0 RX2 := ⟨by decide, 2, _, rfl, rfl, fun _ _ => ⟨_, rfl⟩⟩
theorem iM_rowSize {ad : Nat → Nat} {cy : Nat → ClassId} : isA (CM ad cy) 20 1 (cy 0) 6 := ⟨by decide, fun _ _ => rfl⟩
theorem iM_rows {ad : Nat → Nat} {cy : Nat → ClassId} : isA (CM ad cy) 20 2 (cy 0) 240 := ⟨by decide, fun _ _ => rfl⟩
theorem iM_textSize {ad : Nat → Nat} {cy : Nat → ClassId} : isA (CM ad cy) 20 3 (cy 0) 4 := ⟨by decide, fun _ _ => rfl⟩
theorem iM_texts {ad : Nat → Nat} {cy : Nat → ClassId} : isA (CM ad cy) 20 4 (cy 0) 240 := ⟨by decide, fun _ _ => rfl⟩
theorem iM_kind {ad : Nat → Nat} {cy : Nat → ClassId} : isA (CM ad cy) 20 5 (cy 0) 7 := ⟨by decide, fun _ _ => rfl⟩
theorem iM_size {ad : Nat → Nat} {cy : Nat → ClassId} : isA (CM ad cy) 20 6 (cy 0) 7 := ⟨by decide, fun _ _ => rfl⟩
theorem iM_mark {ad : Nat → Nat} {cy : Nat → ClassId} : isA (CM ad cy) 20 7 (cy 0) 7 := ⟨by decide, fun _ _ => rfl⟩
theorem iM_st {ad : Nat → Nat} {cy : Nat → ClassId} : isA (CM ad cy) 20 8 (cy 0) 15 := ⟨by decide, fun _ _ => rfl⟩
theorem iM_now {ad : Nat → Nat} {cy : Nat → ClassId} : isA (CM ad cy) 20 9 (cy 0) 15 := ⟨by decide, fun _ _ => rfl⟩
theorem iM_book {ad : Nat → Nat} {cy : Nat → ClassId} : isA (CM ad cy) 20 10 (cy 0) 600 := ⟨by decide, fun _ _ => rfl⟩
theorem iM_kept {ad : Nat → Nat} {cy : Nat → ClassId} : isA (CM ad cy) 20 11 (cy 0) 1848 := ⟨by decide, fun _ _ => rfl⟩
theorem iM_isKept {ad : Nat → Nat} {cy : Nat → ClassId} : isA (CM ad cy) 20 12 (cy 2) 3 := ⟨by decide, fun _ _ => rfl⟩
theorem iM_findings {ad : Nat → Nat} {cy : Nat → ClassId} : isA (CM ad cy) 20 13 (cy 0) 6 := ⟨by decide, fun _ _ => rfl⟩
theorem iM_readKind {ad : Nat → Nat} {cy : Nat → ClassId} : isA (CM ad cy) 20 14 (cy 0) 7 := ⟨by decide, fun _ _ => rfl⟩
theorem iM_readSize {ad : Nat → Nat} {cy : Nat → ClassId} : isA (CM ad cy) 20 15 (cy 0) 7 := ⟨by decide, fun _ _ => rfl⟩
theorem iM_readMark {ad : Nat → Nat} {cy : Nat → ClassId} : isA (CM ad cy) 20 16 (cy 0) 7 := ⟨by decide, fun _ _ => rfl⟩
theorem iM_then {ad : Nat → Nat} {cy : Nat → ClassId} : isA (CM ad cy) 20 17 (cy 0) 7 := ⟨by decide, fun _ _ => rfl⟩
theorem iM_looks {ad : Nat → Nat} {cy : Nat → ClassId} : isA (CM ad cy) 20 18 (cy 0) 6 := ⟨by decide, fun _ _ => rfl⟩
theorem iM_worth {ad : Nat → Nat} {cy : Nat → ClassId} : isA (CM ad cy) 20 19 (cy 0) 512 := ⟨by decide, fun _ _ => rfl⟩
section G3
variable {p : Program} {l : Launch} {e : Env} {s : State} {m : MethodId} {args : Array Value} {below : List Frame} {meth : Method} {c : Code} {H : Heap} {locs : List Loc} {R : Room} {Q : State → Prop}
variable {cc : ByteArray} {pc nL : Nat} {ls : Array Slot} {rest : List Value} {D : va_G} {A : Nat → Prop} {cy : Nat → ClassId} {ad : Nat → Nat} {M : Mem}
theorem gf_X0_9 {o : Nat} (ho : isSt o) (X : Cx p s m args c cc nL RX0 D cy) (hW : Wd D 43 ad (CC ad cy) A s.heap M H locs) (hdg : decode cc pc = .ok (.getfield 9, 3)) (kk : W p l e R s m args below meth c H locs 0 0 Q (F0 m (pc + 3) ls (.ref (ad (o + 1)) :: rest))) : W p l e R s m args below meth c H locs 0 0 Q (F0 m pc ls (.ref (ad o) :: rest)) := by
  rcases ho with rfl | rfl
  · exact g_get X hW (k := 15) (by decide) rfl rfl inX0g 0 (by decide) (mem_g (i := 105) (by decide +kernel) (by decide +kernel)) rfl hdg kk
  · exact g_get X hW (k := 22) (by decide) rfl rfl inX0g 0 (by decide) (mem_g (i := 105) (by decide +kernel) (by decide +kernel)) rfl hdg kk
theorem gf_X1_243 {o : Nat} (ho : isSt o) (X : Cx p s m args c cc nL RX1 D cy) (hW : Wd D 43 ad (CC ad cy) A s.heap M H locs) (hdg : decode cc pc = .ok (.getfield 243, 3)) (kk : W p l e R s m args below meth c H locs 0 0 Q (F0 m (pc + 3) ls (.ref (ad (o + 1)) :: rest))) : W p l e R s m args below meth c H locs 0 0 Q (F0 m pc ls (.ref (ad o) :: rest)) := by
  rcases ho with rfl | rfl
  · exact g_getN (host := "TubeWords") X hW (k := 15) (by decide) rfl rfl inX0g 0 (by decide) (by decide +kernel) rfl hdg kk
  · exact g_getN (host := "TubeWords") X hW (k := 22) (by decide) rfl rfl inX0g 0 (by decide) (by decide +kernel) rfl hdg kk
theorem gf_X0_15 {o : Nat} (ho : isSt o) (X : Cx p s m args c cc nL RX0 D cy) (hW : Wd D 43 ad (CC ad cy) A s.heap M H locs) (hdg : decode cc pc = .ok (.getfield 15, 3)) (kk : W p l e R s m args below meth c H locs 0 0 Q (F0 m (pc + 3) ls (.ref (ad (o + 2)) :: rest))) : W p l e R s m args below meth c H locs 0 0 Q (F0 m pc ls (.ref (ad o) :: rest)) := by
  rcases ho with rfl | rfl
  · exact g_get X hW (k := 15) (by decide) rfl rfl inX0g 1 (by decide) (mem_g (i := 107) (by decide +kernel) (by decide +kernel)) rfl hdg kk
  · exact g_get X hW (k := 22) (by decide) rfl rfl inX0g 1 (by decide) (mem_g (i := 107) (by decide +kernel) (by decide +kernel)) rfl hdg kk
theorem gf_X1_141 {o : Nat} (ho : isSt o) (X : Cx p s m args c cc nL RX1 D cy) (hW : Wd D 43 ad (CC ad cy) A s.heap M H locs) (hdg : decode cc pc = .ok (.getfield 141, 3)) (kk : W p l e R s m args below meth c H locs 0 0 Q (F0 m (pc + 3) ls (.ref (ad (o + 2)) :: rest))) : W p l e R s m args below meth c H locs 0 0 Q (F0 m pc ls (.ref (ad o) :: rest)) := by
  rcases ho with rfl | rfl
  · exact g_getN (host := "TubeWords") X hW (k := 15) (by decide) rfl rfl inX0g 1 (by decide) (by decide +kernel) rfl hdg kk
  · exact g_getN (host := "TubeWords") X hW (k := 22) (by decide) rfl rfl inX0g 1 (by decide) (by decide +kernel) rfl hdg kk
theorem gf_X0_18 {o : Nat} (ho : isSt o) (X : Cx p s m args c cc nL RX0 D cy) (hW : Wd D 43 ad (CC ad cy) A s.heap M H locs) (hdg : decode cc pc = .ok (.getfield 18, 3)) (kk : W p l e R s m args below meth c H locs 0 0 Q (F0 m (pc + 3) ls (.ref (ad (o + 3)) :: rest))) : W p l e R s m args below meth c H locs 0 0 Q (F0 m pc ls (.ref (ad o) :: rest)) := by
  rcases ho with rfl | rfl
  · exact g_get X hW (k := 15) (by decide) rfl rfl inX0g 2 (by decide) (mem_g (i := 109) (by decide +kernel) (by decide +kernel)) rfl hdg kk
  · exact g_get X hW (k := 22) (by decide) rfl rfl inX0g 2 (by decide) (mem_g (i := 109) (by decide +kernel) (by decide +kernel)) rfl hdg kk
theorem gf_X0_21 {o : Nat} (ho : isSt o) (X : Cx p s m args c cc nL RX0 D cy) (hW : Wd D 43 ad (CC ad cy) A s.heap M H locs) (hdg : decode cc pc = .ok (.getfield 21, 3)) (kk : W p l e R s m args below meth c H locs 0 0 Q (F0 m (pc + 3) ls (.ref (ad (o + 4)) :: rest))) : W p l e R s m args below meth c H locs 0 0 Q (F0 m pc ls (.ref (ad o) :: rest)) := by
  rcases ho with rfl | rfl
  · exact g_get X hW (k := 15) (by decide) rfl rfl inX0g 3 (by decide) (mem_g (i := 110) (by decide +kernel) (by decide +kernel)) rfl hdg kk
  · exact g_get X hW (k := 22) (by decide) rfl rfl inX0g 3 (by decide) (mem_g (i := 110) (by decide +kernel) (by decide +kernel)) rfl hdg kk
theorem gf_X1_144 {o : Nat} (ho : isSt o) (X : Cx p s m args c cc nL RX1 D cy) (hW : Wd D 43 ad (CC ad cy) A s.heap M H locs) (hdg : decode cc pc = .ok (.getfield 144, 3)) (kk : W p l e R s m args below meth c H locs 0 0 Q (F0 m (pc + 3) ls (.ref (ad (o + 4)) :: rest))) : W p l e R s m args below meth c H locs 0 0 Q (F0 m pc ls (.ref (ad o) :: rest)) := by
  rcases ho with rfl | rfl
  · exact g_getN (host := "TubeWords") X hW (k := 15) (by decide) rfl rfl inX0g 3 (by decide) (by decide +kernel) rfl hdg kk
  · exact g_getN (host := "TubeWords") X hW (k := 22) (by decide) rfl rfl inX0g 3 (by decide) (by decide +kernel) rfl hdg kk
theorem gf_X0_24 {o : Nat} (ho : isSt o) (X : Cx p s m args c cc nL RX0 D cy) (hW : Wd D 43 ad (CC ad cy) A s.heap M H locs) (hdg : decode cc pc = .ok (.getfield 24, 3)) (kk : W p l e R s m args below meth c H locs 0 0 Q (F0 m (pc + 3) ls (.ref (ad (o + 5)) :: rest))) : W p l e R s m args below meth c H locs 0 0 Q (F0 m pc ls (.ref (ad o) :: rest)) := by
  rcases ho with rfl | rfl
  · exact g_get X hW (k := 15) (by decide) rfl rfl inX0g 4 (by decide) (mem_g (i := 112) (by decide +kernel) (by decide +kernel)) rfl hdg kk
  · exact g_get X hW (k := 22) (by decide) rfl rfl inX0g 4 (by decide) (mem_g (i := 112) (by decide +kernel) (by decide +kernel)) rfl hdg kk
theorem gf_X1_147 {o : Nat} (ho : isSt o) (X : Cx p s m args c cc nL RX1 D cy) (hW : Wd D 43 ad (CC ad cy) A s.heap M H locs) (hdg : decode cc pc = .ok (.getfield 147, 3)) (kk : W p l e R s m args below meth c H locs 0 0 Q (F0 m (pc + 3) ls (.ref (ad (o + 5)) :: rest))) : W p l e R s m args below meth c H locs 0 0 Q (F0 m pc ls (.ref (ad o) :: rest)) := by
  rcases ho with rfl | rfl
  · exact g_getN (host := "TubeWords") X hW (k := 15) (by decide) rfl rfl inX0g 4 (by decide) (by decide +kernel) rfl hdg kk
  · exact g_getN (host := "TubeWords") X hW (k := 22) (by decide) rfl rfl inX0g 4 (by decide) (by decide +kernel) rfl hdg kk
theorem gf_X0_27 {o : Nat} (ho : isSt o) (X : Cx p s m args c cc nL RX0 D cy) (hW : Wd D 43 ad (CC ad cy) A s.heap M H locs) (hdg : decode cc pc = .ok (.getfield 27, 3)) (kk : W p l e R s m args below meth c H locs 0 0 Q (F0 m (pc + 3) ls (.ref (ad (o + 6)) :: rest))) : W p l e R s m args below meth c H locs 0 0 Q (F0 m pc ls (.ref (ad o) :: rest)) := by
  rcases ho with rfl | rfl
  · exact g_get X hW (k := 15) (by decide) rfl rfl inX0g 5 (by decide) (mem_g (i := 114) (by decide +kernel) (by decide +kernel)) rfl hdg kk
  · exact g_get X hW (k := 22) (by decide) rfl rfl inX0g 5 (by decide) (mem_g (i := 114) (by decide +kernel) (by decide +kernel)) rfl hdg kk
theorem gf_X0_30 {o : Nat} (ho : isSt o) (X : Cx p s m args c cc nL RX0 D cy) (hW : Wd D 43 ad (CC ad cy) A s.heap M H locs) (hdg : decode cc pc = .ok (.getfield 30, 3)) (kk : W p l e R s m args below meth c H locs 0 0 Q (F0 m (pc + 3) ls (.int (M.1 o 6) :: rest))) : W p l e R s m args below meth c H locs 0 0 Q (F0 m pc ls (.ref (ad o) :: rest)) := by
  rcases ho with rfl | rfl
  · exact g_get X hW (k := 15) (by decide) rfl rfl inX0g 6 (by decide) (mem_g (i := 115) (by decide +kernel) (by decide +kernel)) rfl hdg kk
  · exact g_get X hW (k := 22) (by decide) rfl rfl inX0g 6 (by decide) (mem_g (i := 115) (by decide +kernel) (by decide +kernel)) rfl hdg kk
theorem gp_X0_30 {o : Nat} (ho : isSt o) (X : Cx p s m args c cc nL RX0 D cy) (hW : Wd D 43 ad (CC ad cy) A s.heap M H locs) {v : Int32} (hdg : decode cc pc = .ok (.putfield 30, 3)) (kk : ∀ (H1 : Heap) (locs1 : List Loc), Wd D 43 ad (CC ad cy) A s.heap (sI M o 6 v) H1 locs1 → W p l e R s m args below meth c H1 locs1 0 0 Q (F0 m (pc + 3) ls (rest))) : W p l e R s m args below meth c H locs 0 0 Q (F0 m pc ls (.int v :: .ref (ad o) :: rest)) := by
  rcases ho with rfl | rfl
  · exact g_putI X hW (k := 15) (by decide) rfl rfl inX0g tyX0 tyX0_ok nmX0 6 (by decide) (mem_g (i := 115) (by decide +kernel) (by decide +kernel)) rfl rfl (show 6 < 8 from by decide) rfl hdg kk
  · exact g_putI X hW (k := 22) (by decide) rfl rfl inX0g tyX0 tyX0_ok nmX0 6 (by decide) (mem_g (i := 115) (by decide +kernel) (by decide +kernel)) rfl rfl (show 6 < 8 from by decide) rfl hdg kk
theorem gf_X1_108 {o : Nat} (ho : isSt o) (X : Cx p s m args c cc nL RX1 D cy) (hW : Wd D 43 ad (CC ad cy) A s.heap M H locs) (hdg : decode cc pc = .ok (.getfield 108, 3)) (kk : W p l e R s m args below meth c H locs 0 0 Q (F0 m (pc + 3) ls (.int (M.1 o 6) :: rest))) : W p l e R s m args below meth c H locs 0 0 Q (F0 m pc ls (.ref (ad o) :: rest)) := by
  rcases ho with rfl | rfl
  · exact g_getN (host := "TubeWords") X hW (k := 15) (by decide) rfl rfl inX0g 6 (by decide) (by decide +kernel) rfl hdg kk
  · exact g_getN (host := "TubeWords") X hW (k := 22) (by decide) rfl rfl inX0g 6 (by decide) (by decide +kernel) rfl hdg kk
theorem gf_X0_34 {o : Nat} (ho : isSt o) (X : Cx p s m args c cc nL RX0 D cy) (hW : Wd D 43 ad (CC ad cy) A s.heap M H locs) (hdg : decode cc pc = .ok (.getfield 34, 3)) (kk : W p l e R s m args below meth c H locs 0 0 Q (F0 m (pc + 3) ls (.int (M.1 o 7) :: rest))) : W p l e R s m args below meth c H locs 0 0 Q (F0 m pc ls (.ref (ad o) :: rest)) := by
  rcases ho with rfl | rfl
  · exact g_get X hW (k := 15) (by decide) rfl rfl inX0g 7 (by decide) (mem_g (i := 117) (by decide +kernel) (by decide +kernel)) rfl hdg kk
  · exact g_get X hW (k := 22) (by decide) rfl rfl inX0g 7 (by decide) (mem_g (i := 117) (by decide +kernel) (by decide +kernel)) rfl hdg kk
theorem gp_X0_34 {o : Nat} (ho : isSt o) (X : Cx p s m args c cc nL RX0 D cy) (hW : Wd D 43 ad (CC ad cy) A s.heap M H locs) {v : Int32} (hdg : decode cc pc = .ok (.putfield 34, 3)) (kk : ∀ (H1 : Heap) (locs1 : List Loc), Wd D 43 ad (CC ad cy) A s.heap (sI M o 7 v) H1 locs1 → W p l e R s m args below meth c H1 locs1 0 0 Q (F0 m (pc + 3) ls (rest))) : W p l e R s m args below meth c H locs 0 0 Q (F0 m pc ls (.int v :: .ref (ad o) :: rest)) := by
  rcases ho with rfl | rfl
  · exact g_putI X hW (k := 15) (by decide) rfl rfl inX0g tyX0 tyX0_ok nmX0 7 (by decide) (mem_g (i := 117) (by decide +kernel) (by decide +kernel)) rfl rfl (show 7 < 8 from by decide) rfl hdg kk
  · exact g_putI X hW (k := 22) (by decide) rfl rfl inX0g tyX0 tyX0_ok nmX0 7 (by decide) (mem_g (i := 117) (by decide +kernel) (by decide +kernel)) rfl rfl (show 7 < 8 from by decide) rfl hdg kk
theorem gf_X1_127 {o : Nat} (ho : isSt o) (X : Cx p s m args c cc nL RX1 D cy) (hW : Wd D 43 ad (CC ad cy) A s.heap M H locs) (hdg : decode cc pc = .ok (.getfield 127, 3)) (kk : W p l e R s m args below meth c H locs 0 0 Q (F0 m (pc + 3) ls (.int (M.1 o 7) :: rest))) : W p l e R s m args below meth c H locs 0 0 Q (F0 m pc ls (.ref (ad o) :: rest)) := by
  rcases ho with rfl | rfl
  · exact g_getN (host := "TubeWords") X hW (k := 15) (by decide) rfl rfl inX0g 7 (by decide) (by decide +kernel) rfl hdg kk
  · exact g_getN (host := "TubeWords") X hW (k := 22) (by decide) rfl rfl inX0g 7 (by decide) (by decide +kernel) rfl hdg kk
theorem gf_X1_11 (X : Cx p s m args c cc nL RX1 D cy) (hW : Wd D 43 ad (CC ad cy) A s.heap M H locs) (hdg : decode cc pc = .ok (.getfield 11, 3)) (kk : W p l e R s m args below meth c H locs 0 0 Q (F0 m (pc + 3) ls (.ref (ad 1) :: rest))) : W p l e R s m args below meth c H locs 0 0 Q (F0 m pc ls (.ref (ad 0) :: rest)) := g_get X hW (k := 0) (by decide) rfl rfl inX1g 0 (by decide) (mem_g (i := 138) (by decide +kernel) (by decide +kernel)) rfl hdg kk
theorem gf_X1_14 (X : Cx p s m args c cc nL RX1 D cy) (hW : Wd D 43 ad (CC ad cy) A s.heap M H locs) (hdg : decode cc pc = .ok (.getfield 14, 3)) (kk : W p l e R s m args below meth c H locs 0 0 Q (F0 m (pc + 3) ls (.ref (ad 8) :: rest))) : W p l e R s m args below meth c H locs 0 0 Q (F0 m pc ls (.ref (ad 0) :: rest)) := g_get X hW (k := 0) (by decide) rfl rfl inX1g 1 (by decide) (mem_g (i := 139) (by decide +kernel) (by decide +kernel)) rfl hdg kk
theorem gf_X1_20 (X : Cx p s m args c cc nL RX1 D cy) (hW : Wd D 43 ad (CC ad cy) A s.heap M H locs) (hdg : decode cc pc = .ok (.getfield 20, 3)) (kk : W p l e R s m args below meth c H locs 0 0 Q (F0 m (pc + 3) ls (.ref (ad 9) :: rest))) : W p l e R s m args below meth c H locs 0 0 Q (F0 m pc ls (.ref (ad 0) :: rest)) := g_get X hW (k := 0) (by decide) rfl rfl inX1g 2 (by decide) (mem_g (i := 140) (by decide +kernel) (by decide +kernel)) rfl hdg kk
theorem gf_X1_23 (X : Cx p s m args c cc nL RX1 D cy) (hW : Wd D 43 ad (CC ad cy) A s.heap M H locs) (hdg : decode cc pc = .ok (.getfield 23, 3)) (kk : W p l e R s m args below meth c H locs 0 0 Q (F0 m (pc + 3) ls (.ref (ad 14) :: rest))) : W p l e R s m args below meth c H locs 0 0 Q (F0 m pc ls (.ref (ad 0) :: rest)) := g_get X hW (k := 0) (by decide) rfl rfl inX1g 3 (by decide) (mem_g (i := 141) (by decide +kernel) (by decide +kernel)) rfl hdg kk
theorem gf_X1_29 (X : Cx p s m args c cc nL RX1 D cy) (hW : Wd D 43 ad (CC ad cy) A s.heap M H locs) (hdg : decode cc pc = .ok (.getfield 29, 3)) (kk : W p l e R s m args below meth c H locs 0 0 Q (F0 m (pc + 3) ls (.ref (ad 15) :: rest))) : W p l e R s m args below meth c H locs 0 0 Q (F0 m pc ls (.ref (ad 0) :: rest)) := g_get X hW (k := 0) (by decide) rfl rfl inX1g 4 (by decide) (mem_g (i := 142) (by decide +kernel) (by decide +kernel)) rfl hdg kk
theorem gf_X1_33 (X : Cx p s m args c cc nL RX1 D cy) (hW : Wd D 43 ad (CC ad cy) A s.heap M H locs) (hdg : decode cc pc = .ok (.getfield 33, 3)) (kk : W p l e R s m args below meth c H locs 0 0 Q (F0 m (pc + 3) ls (.ref (ad 22) :: rest))) : W p l e R s m args below meth c H locs 0 0 Q (F0 m pc ls (.ref (ad 0) :: rest)) := g_get X hW (k := 0) (by decide) rfl rfl inX1g 5 (by decide) (mem_g (i := 143) (by decide +kernel) (by decide +kernel)) rfl hdg kk
theorem gf_X1_36 (X : Cx p s m args c cc nL RX1 D cy) (hW : Wd D 43 ad (CC ad cy) A s.heap M H locs) (hdg : decode cc pc = .ok (.getfield 36, 3)) (kk : W p l e R s m args below meth c H locs 0 0 Q (F0 m (pc + 3) ls (.ref (ad 29) :: rest))) : W p l e R s m args below meth c H locs 0 0 Q (F0 m pc ls (.ref (ad 0) :: rest)) := g_get X hW (k := 0) (by decide) rfl rfl inX1g 6 (by decide) (mem_g (i := 144) (by decide +kernel) (by decide +kernel)) rfl hdg kk
theorem gf_X1_39 (X : Cx p s m args c cc nL RX1 D cy) (hW : Wd D 43 ad (CC ad cy) A s.heap M H locs) (hdg : decode cc pc = .ok (.getfield 39, 3)) (kk : W p l e R s m args below meth c H locs 0 0 Q (F0 m (pc + 3) ls (.int (M.1 0 7) :: rest))) : W p l e R s m args below meth c H locs 0 0 Q (F0 m pc ls (.ref (ad 0) :: rest)) := g_get X hW (k := 0) (by decide) rfl rfl inX1g 7 (by decide) (mem_g (i := 145) (by decide +kernel) (by decide +kernel)) rfl hdg kk
theorem gp_X1_39 (X : Cx p s m args c cc nL RX1 D cy) (hW : Wd D 43 ad (CC ad cy) A s.heap M H locs) {v : Int32} (hdg : decode cc pc = .ok (.putfield 39, 3)) (kk : ∀ (H1 : Heap) (locs1 : List Loc), Wd D 43 ad (CC ad cy) A s.heap (sI M 0 7 v) H1 locs1 → W p l e R s m args below meth c H1 locs1 0 0 Q (F0 m (pc + 3) ls (rest))) : W p l e R s m args below meth c H locs 0 0 Q (F0 m pc ls (.int v :: .ref (ad 0) :: rest)) := g_putI X hW (k := 0) (by decide) rfl rfl inX1g tyX1 tyX1_ok nmX1 7 (by decide) (mem_g (i := 145) (by decide +kernel) (by decide +kernel)) rfl rfl (show 7 < 16 from by decide) rfl hdg kk
theorem gf_X1_43 (X : Cx p s m args c cc nL RX1 D cy) (hW : Wd D 43 ad (CC ad cy) A s.heap M H locs) (hdg : decode cc pc = .ok (.getfield 43, 3)) (kk : W p l e R s m args below meth c H locs 0 0 Q (F0 m (pc + 3) ls (.ref (ad 30) :: rest))) : W p l e R s m args below meth c H locs 0 0 Q (F0 m pc ls (.ref (ad 0) :: rest)) := g_get X hW (k := 0) (by decide) rfl rfl inX1g 8 (by decide) (mem_g (i := 146) (by decide +kernel) (by decide +kernel)) rfl hdg kk
theorem gf_X1_46 (X : Cx p s m args c cc nL RX1 D cy) (hW : Wd D 43 ad (CC ad cy) A s.heap M H locs) (hdg : decode cc pc = .ok (.getfield 46, 3)) (kk : W p l e R s m args below meth c H locs 0 0 Q (F0 m (pc + 3) ls (.ref (ad 34) :: rest))) : W p l e R s m args below meth c H locs 0 0 Q (F0 m pc ls (.ref (ad 0) :: rest)) := g_get X hW (k := 0) (by decide) rfl rfl inX1g 9 (by decide) (mem_g (i := 147) (by decide +kernel) (by decide +kernel)) rfl hdg kk
theorem gf_X1_49 (X : Cx p s m args c cc nL RX1 D cy) (hW : Wd D 43 ad (CC ad cy) A s.heap M H locs) (hdg : decode cc pc = .ok (.getfield 49, 3)) (kk : W p l e R s m args below meth c H locs 0 0 Q (F0 m (pc + 3) ls (.ref (ad 35) :: rest))) : W p l e R s m args below meth c H locs 0 0 Q (F0 m pc ls (.ref (ad 0) :: rest)) := g_get X hW (k := 0) (by decide) rfl rfl inX1g 10 (by decide) (mem_g (i := 148) (by decide +kernel) (by decide +kernel)) rfl hdg kk
theorem gf_X1_52 (X : Cx p s m args c cc nL RX1 D cy) (hW : Wd D 43 ad (CC ad cy) A s.heap M H locs) (hdg : decode cc pc = .ok (.getfield 52, 3)) (kk : W p l e R s m args below meth c H locs 0 0 Q (F0 m (pc + 3) ls (.ref (ad 42) :: rest))) : W p l e R s m args below meth c H locs 0 0 Q (F0 m pc ls (.ref (ad 0) :: rest)) := g_get X hW (k := 0) (by decide) rfl rfl inX1g 11 (by decide) (mem_g (i := 149) (by decide +kernel) (by decide +kernel)) rfl hdg kk
theorem gf_X1_55 (X : Cx p s m args c cc nL RX1 D cy) (hW : Wd D 43 ad (CC ad cy) A s.heap M H locs) (hdg : decode cc pc = .ok (.getfield 55, 3)) (kk : W p l e R s m args below meth c H locs 0 0 Q (F0 m (pc + 3) ls (.int (M.1 0 12) :: rest))) : W p l e R s m args below meth c H locs 0 0 Q (F0 m pc ls (.ref (ad 0) :: rest)) := g_get X hW (k := 0) (by decide) rfl rfl inX1g 12 (by decide) (mem_g (i := 150) (by decide +kernel) (by decide +kernel)) rfl hdg kk
theorem gp_X1_55 (X : Cx p s m args c cc nL RX1 D cy) (hW : Wd D 43 ad (CC ad cy) A s.heap M H locs) {v : Int32} (hdg : decode cc pc = .ok (.putfield 55, 3)) (kk : ∀ (H1 : Heap) (locs1 : List Loc), Wd D 43 ad (CC ad cy) A s.heap (sI M 0 12 v) H1 locs1 → W p l e R s m args below meth c H1 locs1 0 0 Q (F0 m (pc + 3) ls (rest))) : W p l e R s m args below meth c H locs 0 0 Q (F0 m pc ls (.int v :: .ref (ad 0) :: rest)) := g_putI X hW (k := 0) (by decide) rfl rfl inX1g tyX1 tyX1_ok nmX1 12 (by decide) (mem_g (i := 150) (by decide +kernel) (by decide +kernel)) rfl rfl (show 12 < 16 from by decide) rfl hdg kk
theorem gf_X1_58 (X : Cx p s m args c cc nL RX1 D cy) (hW : Wd D 43 ad (CC ad cy) A s.heap M H locs) (hdg : decode cc pc = .ok (.getfield 58, 3)) (kk : W p l e R s m args below meth c H locs 0 0 Q (F0 m (pc + 3) ls (.int (M.1 0 13) :: rest))) : W p l e R s m args below meth c H locs 0 0 Q (F0 m pc ls (.ref (ad 0) :: rest)) := g_get X hW (k := 0) (by decide) rfl rfl inX1g 13 (by decide) (mem_g (i := 151) (by decide +kernel) (by decide +kernel)) rfl hdg kk
theorem gp_X1_58 (X : Cx p s m args c cc nL RX1 D cy) (hW : Wd D 43 ad (CC ad cy) A s.heap M H locs) {v : Int32} (hdg : decode cc pc = .ok (.putfield 58, 3)) (kk : ∀ (H1 : Heap) (locs1 : List Loc), Wd D 43 ad (CC ad cy) A s.heap (sI M 0 13 v) H1 locs1 → W p l e R s m args below meth c H1 locs1 0 0 Q (F0 m (pc + 3) ls (rest))) : W p l e R s m args below meth c H locs 0 0 Q (F0 m pc ls (.int v :: .ref (ad 0) :: rest)) := g_putI X hW (k := 0) (by decide) rfl rfl inX1g tyX1 tyX1_ok nmX1 13 (by decide) (mem_g (i := 151) (by decide +kernel) (by decide +kernel)) rfl rfl (show 13 < 16 from by decide) rfl hdg kk
theorem gf_X1_61 (X : Cx p s m args c cc nL RX1 D cy) (hW : Wd D 43 ad (CC ad cy) A s.heap M H locs) (hdg : decode cc pc = .ok (.getfield 61, 3)) (kk : W p l e R s m args below meth c H locs 0 0 Q (F0 m (pc + 3) ls (.long (M.2 0 14) :: rest))) : W p l e R s m args below meth c H locs 0 0 Q (F0 m pc ls (.ref (ad 0) :: rest)) := g_get X hW (k := 0) (by decide) rfl rfl inX1g 14 (by decide) (mem_g (i := 152) (by decide +kernel) (by decide +kernel)) rfl hdg kk
theorem gp_X1_61 (X : Cx p s m args c cc nL RX1 D cy) (hW : Wd D 43 ad (CC ad cy) A s.heap M H locs) {v : Int64} (hdg : decode cc pc = .ok (.putfield 61, 3)) (kk : ∀ (H1 : Heap) (locs1 : List Loc), Wd D 43 ad (CC ad cy) A s.heap (sL M 0 14 v) H1 locs1 → W p l e R s m args below meth c H1 locs1 0 0 Q (F0 m (pc + 3) ls (rest))) : W p l e R s m args below meth c H locs 0 0 Q (F0 m pc ls (.long v :: .ref (ad 0) :: rest)) := g_putL X hW (k := 0) (by decide) rfl rfl inX1g tyX1 tyX1_ok nmX1 14 (by decide) (mem_g (i := 152) (by decide +kernel) (by decide +kernel)) rfl rfl (show 14 < 16 from by decide) rfl hdg kk
theorem gf_X1_65 (X : Cx p s m args c cc nL RX1 D cy) (hW : Wd D 43 ad (CC ad cy) A s.heap M H locs) (hdg : decode cc pc = .ok (.getfield 65, 3)) (kk : W p l e R s m args below meth c H locs 0 0 Q (F0 m (pc + 3) ls (.long (M.2 0 15) :: rest))) : W p l e R s m args below meth c H locs 0 0 Q (F0 m pc ls (.ref (ad 0) :: rest)) := g_get X hW (k := 0) (by decide) rfl rfl inX1g 15 (by decide) (mem_g (i := 153) (by decide +kernel) (by decide +kernel)) rfl hdg kk
theorem gp_X1_65 (X : Cx p s m args c cc nL RX1 D cy) (hW : Wd D 43 ad (CC ad cy) A s.heap M H locs) {v : Int64} (hdg : decode cc pc = .ok (.putfield 65, 3)) (kk : ∀ (H1 : Heap) (locs1 : List Loc), Wd D 43 ad (CC ad cy) A s.heap (sL M 0 15 v) H1 locs1 → W p l e R s m args below meth c H1 locs1 0 0 Q (F0 m (pc + 3) ls (rest))) : W p l e R s m args below meth c H locs 0 0 Q (F0 m pc ls (.long v :: .ref (ad 0) :: rest)) := g_putL X hW (k := 0) (by decide) rfl rfl inX1g tyX1 tyX1_ok nmX1 15 (by decide) (mem_g (i := 153) (by decide +kernel) (by decide +kernel)) rfl rfl (show 15 < 16 from by decide) rfl hdg kk
theorem gf_X2_7 (X : Cx p s m args c cc nL RX2 D cy) (hW : Wd D 20 ad (CM ad cy) A s.heap M H locs) (hdg : decode cc pc = .ok (.getfield 7, 3)) (kk : W p l e R s m args below meth c H locs 0 0 Q (F0 m (pc + 3) ls (.ref (ad 1) :: rest))) : W p l e R s m args below meth c H locs 0 0 Q (F0 m pc ls (.ref (ad 0) :: rest)) := g_get X hW (k := 0) (by decide) rfl rfl inX2g 0 (by decide) (mem_g (i := 594) (by decide +kernel) (by decide +kernel)) rfl hdg kk
theorem gf_X2_13 (X : Cx p s m args c cc nL RX2 D cy) (hW : Wd D 20 ad (CM ad cy) A s.heap M H locs) (hdg : decode cc pc = .ok (.getfield 13, 3)) (kk : W p l e R s m args below meth c H locs 0 0 Q (F0 m (pc + 3) ls (.ref (ad 2) :: rest))) : W p l e R s m args below meth c H locs 0 0 Q (F0 m pc ls (.ref (ad 0) :: rest)) := g_get X hW (k := 0) (by decide) rfl rfl inX2g 1 (by decide) (mem_g (i := 595) (by decide +kernel) (by decide +kernel)) rfl hdg kk
theorem gf_X2_16 (X : Cx p s m args c cc nL RX2 D cy) (hW : Wd D 20 ad (CM ad cy) A s.heap M H locs) (hdg : decode cc pc = .ok (.getfield 16, 3)) (kk : W p l e R s m args below meth c H locs 0 0 Q (F0 m (pc + 3) ls (.ref (ad 3) :: rest))) : W p l e R s m args below meth c H locs 0 0 Q (F0 m pc ls (.ref (ad 0) :: rest)) := g_get X hW (k := 0) (by decide) rfl rfl inX2g 2 (by decide) (mem_g (i := 596) (by decide +kernel) (by decide +kernel)) rfl hdg kk
theorem gf_X2_19 (X : Cx p s m args c cc nL RX2 D cy) (hW : Wd D 20 ad (CM ad cy) A s.heap M H locs) (hdg : decode cc pc = .ok (.getfield 19, 3)) (kk : W p l e R s m args below meth c H locs 0 0 Q (F0 m (pc + 3) ls (.ref (ad 4) :: rest))) : W p l e R s m args below meth c H locs 0 0 Q (F0 m pc ls (.ref (ad 0) :: rest)) := g_get X hW (k := 0) (by decide) rfl rfl inX2g 3 (by decide) (mem_g (i := 597) (by decide +kernel) (by decide +kernel)) rfl hdg kk
theorem gf_X2_79 (X : Cx p s m args c cc nL RX2 D cy) (hW : Wd D 20 ad (CM ad cy) A s.heap M H locs) (hdg : decode cc pc = .ok (.getfield 79, 3)) (kk : W p l e R s m args below meth c H locs 0 0 Q (F0 m (pc + 3) ls (.int (M.1 0 4) :: rest))) : W p l e R s m args below meth c H locs 0 0 Q (F0 m pc ls (.ref (ad 0) :: rest)) := g_get X hW (k := 0) (by decide) rfl rfl inX2g 4 (by decide) (mem_g (i := 598) (by decide +kernel) (by decide +kernel)) rfl hdg kk
theorem gp_X2_79 (X : Cx p s m args c cc nL RX2 D cy) (hW : Wd D 20 ad (CM ad cy) A s.heap M H locs) {v : Int32} (hdg : decode cc pc = .ok (.putfield 79, 3)) (kk : ∀ (H1 : Heap) (locs1 : List Loc), Wd D 20 ad (CM ad cy) A s.heap (sI M 0 4 v) H1 locs1 → W p l e R s m args below meth c H1 locs1 0 0 Q (F0 m (pc + 3) ls (rest))) : W p l e R s m args below meth c H locs 0 0 Q (F0 m pc ls (.int v :: .ref (ad 0) :: rest)) := g_putI X hW (k := 0) (by decide) rfl rfl inX2g tyX2 tyX2_ok nmX2 4 (by decide) (mem_g (i := 598) (by decide +kernel) (by decide +kernel)) rfl rfl (show 4 < 26 from by decide) rfl hdg kk
theorem gf_X2_22 (X : Cx p s m args c cc nL RX2 D cy) (hW : Wd D 20 ad (CM ad cy) A s.heap M H locs) (hdg : decode cc pc = .ok (.getfield 22, 3)) (kk : W p l e R s m args below meth c H locs 0 0 Q (F0 m (pc + 3) ls (.ref (ad 5) :: rest))) : W p l e R s m args below meth c H locs 0 0 Q (F0 m pc ls (.ref (ad 0) :: rest)) := g_get X hW (k := 0) (by decide) rfl rfl inX2g 5 (by decide) (mem_g (i := 599) (by decide +kernel) (by decide +kernel)) rfl hdg kk
theorem gf_X2_25 (X : Cx p s m args c cc nL RX2 D cy) (hW : Wd D 20 ad (CM ad cy) A s.heap M H locs) (hdg : decode cc pc = .ok (.getfield 25, 3)) (kk : W p l e R s m args below meth c H locs 0 0 Q (F0 m (pc + 3) ls (.ref (ad 6) :: rest))) : W p l e R s m args below meth c H locs 0 0 Q (F0 m pc ls (.ref (ad 0) :: rest)) := g_get X hW (k := 0) (by decide) rfl rfl inX2g 6 (by decide) (mem_g (i := 600) (by decide +kernel) (by decide +kernel)) rfl hdg kk
theorem gf_X2_28 (X : Cx p s m args c cc nL RX2 D cy) (hW : Wd D 20 ad (CM ad cy) A s.heap M H locs) (hdg : decode cc pc = .ok (.getfield 28, 3)) (kk : W p l e R s m args below meth c H locs 0 0 Q (F0 m (pc + 3) ls (.ref (ad 7) :: rest))) : W p l e R s m args below meth c H locs 0 0 Q (F0 m pc ls (.ref (ad 0) :: rest)) := g_get X hW (k := 0) (by decide) rfl rfl inX2g 7 (by decide) (mem_g (i := 601) (by decide +kernel) (by decide +kernel)) rfl hdg kk
theorem gf_X2_31 (X : Cx p s m args c cc nL RX2 D cy) (hW : Wd D 20 ad (CM ad cy) A s.heap M H locs) (hdg : decode cc pc = .ok (.getfield 31, 3)) (kk : W p l e R s m args below meth c H locs 0 0 Q (F0 m (pc + 3) ls (.ref (ad 8) :: rest))) : W p l e R s m args below meth c H locs 0 0 Q (F0 m pc ls (.ref (ad 0) :: rest)) := g_get X hW (k := 0) (by decide) rfl rfl inX2g 8 (by decide) (mem_g (i := 602) (by decide +kernel) (by decide +kernel)) rfl hdg kk
theorem gf_X2_34 (X : Cx p s m args c cc nL RX2 D cy) (hW : Wd D 20 ad (CM ad cy) A s.heap M H locs) (hdg : decode cc pc = .ok (.getfield 34, 3)) (kk : W p l e R s m args below meth c H locs 0 0 Q (F0 m (pc + 3) ls (.ref (ad 9) :: rest))) : W p l e R s m args below meth c H locs 0 0 Q (F0 m pc ls (.ref (ad 0) :: rest)) := g_get X hW (k := 0) (by decide) rfl rfl inX2g 9 (by decide) (mem_g (i := 603) (by decide +kernel) (by decide +kernel)) rfl hdg kk
theorem gf_X2_37 (X : Cx p s m args c cc nL RX2 D cy) (hW : Wd D 20 ad (CM ad cy) A s.heap M H locs) (hdg : decode cc pc = .ok (.getfield 37, 3)) (kk : W p l e R s m args below meth c H locs 0 0 Q (F0 m (pc + 3) ls (.ref (ad 10) :: rest))) : W p l e R s m args below meth c H locs 0 0 Q (F0 m pc ls (.ref (ad 0) :: rest)) := g_get X hW (k := 0) (by decide) rfl rfl inX2g 10 (by decide) (mem_g (i := 604) (by decide +kernel) (by decide +kernel)) rfl hdg kk
theorem gf_X2_121 (X : Cx p s m args c cc nL RX2 D cy) (hW : Wd D 20 ad (CM ad cy) A s.heap M H locs) (hdg : decode cc pc = .ok (.getfield 121, 3)) (kk : W p l e R s m args below meth c H locs 0 0 Q (F0 m (pc + 3) ls (.int (M.1 0 11) :: rest))) : W p l e R s m args below meth c H locs 0 0 Q (F0 m pc ls (.ref (ad 0) :: rest)) := g_get X hW (k := 0) (by decide) rfl rfl inX2g 11 (by decide) (mem_g (i := 605) (by decide +kernel) (by decide +kernel)) rfl hdg kk
theorem gp_X2_121 (X : Cx p s m args c cc nL RX2 D cy) (hW : Wd D 20 ad (CM ad cy) A s.heap M H locs) {v : Int32} (hdg : decode cc pc = .ok (.putfield 121, 3)) (kk : ∀ (H1 : Heap) (locs1 : List Loc), Wd D 20 ad (CM ad cy) A s.heap (sI M 0 11 v) H1 locs1 → W p l e R s m args below meth c H1 locs1 0 0 Q (F0 m (pc + 3) ls (rest))) : W p l e R s m args below meth c H locs 0 0 Q (F0 m pc ls (.int v :: .ref (ad 0) :: rest)) := g_putI X hW (k := 0) (by decide) rfl rfl inX2g tyX2 tyX2_ok nmX2 11 (by decide) (mem_g (i := 605) (by decide +kernel) (by decide +kernel)) rfl rfl (show 11 < 26 from by decide) rfl hdg kk
theorem gf_X2_40 (X : Cx p s m args c cc nL RX2 D cy) (hW : Wd D 20 ad (CM ad cy) A s.heap M H locs) (hdg : decode cc pc = .ok (.getfield 40, 3)) (kk : W p l e R s m args below meth c H locs 0 0 Q (F0 m (pc + 3) ls (.ref (ad 11) :: rest))) : W p l e R s m args below meth c H locs 0 0 Q (F0 m pc ls (.ref (ad 0) :: rest)) := g_get X hW (k := 0) (by decide) rfl rfl inX2g 12 (by decide) (mem_g (i := 606) (by decide +kernel) (by decide +kernel)) rfl hdg kk
theorem gf_X2_43 (X : Cx p s m args c cc nL RX2 D cy) (hW : Wd D 20 ad (CM ad cy) A s.heap M H locs) (hdg : decode cc pc = .ok (.getfield 43, 3)) (kk : W p l e R s m args below meth c H locs 0 0 Q (F0 m (pc + 3) ls (.ref (ad 12) :: rest))) : W p l e R s m args below meth c H locs 0 0 Q (F0 m pc ls (.ref (ad 0) :: rest)) := g_get X hW (k := 0) (by decide) rfl rfl inX2g 13 (by decide) (mem_g (i := 607) (by decide +kernel) (by decide +kernel)) rfl hdg kk
theorem gf_X2_76 (X : Cx p s m args c cc nL RX2 D cy) (hW : Wd D 20 ad (CM ad cy) A s.heap M H locs) (hdg : decode cc pc = .ok (.getfield 76, 3)) (kk : W p l e R s m args below meth c H locs 0 0 Q (F0 m (pc + 3) ls (.int (M.1 0 14) :: rest))) : W p l e R s m args below meth c H locs 0 0 Q (F0 m pc ls (.ref (ad 0) :: rest)) := g_get X hW (k := 0) (by decide) rfl rfl inX2g 14 (by decide) (mem_g (i := 608) (by decide +kernel) (by decide +kernel)) rfl hdg kk
theorem gp_X2_76 (X : Cx p s m args c cc nL RX2 D cy) (hW : Wd D 20 ad (CM ad cy) A s.heap M H locs) {v : Int32} (hdg : decode cc pc = .ok (.putfield 76, 3)) (kk : ∀ (H1 : Heap) (locs1 : List Loc), Wd D 20 ad (CM ad cy) A s.heap (sI M 0 14 v) H1 locs1 → W p l e R s m args below meth c H1 locs1 0 0 Q (F0 m (pc + 3) ls (rest))) : W p l e R s m args below meth c H locs 0 0 Q (F0 m pc ls (.int v :: .ref (ad 0) :: rest)) := g_putI X hW (k := 0) (by decide) rfl rfl inX2g tyX2 tyX2_ok nmX2 14 (by decide) (mem_g (i := 608) (by decide +kernel) (by decide +kernel)) rfl rfl (show 14 < 26 from by decide) rfl hdg kk
theorem gf_X2_203 (X : Cx p s m args c cc nL RX2 D cy) (hW : Wd D 20 ad (CM ad cy) A s.heap M H locs) (hdg : decode cc pc = .ok (.getfield 203, 3)) (kk : W p l e R s m args below meth c H locs 0 0 Q (F0 m (pc + 3) ls (.long (M.2 0 15) :: rest))) : W p l e R s m args below meth c H locs 0 0 Q (F0 m pc ls (.ref (ad 0) :: rest)) := g_get X hW (k := 0) (by decide) rfl rfl inX2g 15 (by decide) (mem_g (i := 609) (by decide +kernel) (by decide +kernel)) rfl hdg kk
theorem gp_X2_203 (X : Cx p s m args c cc nL RX2 D cy) (hW : Wd D 20 ad (CM ad cy) A s.heap M H locs) {v : Int64} (hdg : decode cc pc = .ok (.putfield 203, 3)) (kk : ∀ (H1 : Heap) (locs1 : List Loc), Wd D 20 ad (CM ad cy) A s.heap (sL M 0 15 v) H1 locs1 → W p l e R s m args below meth c H1 locs1 0 0 Q (F0 m (pc + 3) ls (rest))) : W p l e R s m args below meth c H locs 0 0 Q (F0 m pc ls (.long v :: .ref (ad 0) :: rest)) := g_putL X hW (k := 0) (by decide) rfl rfl inX2g tyX2 tyX2_ok nmX2 15 (by decide) (mem_g (i := 609) (by decide +kernel) (by decide +kernel)) rfl rfl (show 15 < 26 from by decide) rfl hdg kk
theorem gf_X2_47 (X : Cx p s m args c cc nL RX2 D cy) (hW : Wd D 20 ad (CM ad cy) A s.heap M H locs) (hdg : decode cc pc = .ok (.getfield 47, 3)) (kk : W p l e R s m args below meth c H locs 0 0 Q (F0 m (pc + 3) ls (.long (M.2 0 16) :: rest))) : W p l e R s m args below meth c H locs 0 0 Q (F0 m pc ls (.ref (ad 0) :: rest)) := g_get X hW (k := 0) (by decide) rfl rfl inX2g 16 (by decide) (mem_g (i := 610) (by decide +kernel) (by decide +kernel)) rfl hdg kk
theorem gp_X2_47 (X : Cx p s m args c cc nL RX2 D cy) (hW : Wd D 20 ad (CM ad cy) A s.heap M H locs) {v : Int64} (hdg : decode cc pc = .ok (.putfield 47, 3)) (kk : ∀ (H1 : Heap) (locs1 : List Loc), Wd D 20 ad (CM ad cy) A s.heap (sL M 0 16 v) H1 locs1 → W p l e R s m args below meth c H1 locs1 0 0 Q (F0 m (pc + 3) ls (rest))) : W p l e R s m args below meth c H locs 0 0 Q (F0 m pc ls (.long v :: .ref (ad 0) :: rest)) := g_putL X hW (k := 0) (by decide) rfl rfl inX2g tyX2 tyX2_ok nmX2 16 (by decide) (mem_g (i := 610) (by decide +kernel) (by decide +kernel)) rfl rfl (show 16 < 26 from by decide) rfl hdg kk
theorem gf_X2_72 (X : Cx p s m args c cc nL RX2 D cy) (hW : Wd D 20 ad (CM ad cy) A s.heap M H locs) (hdg : decode cc pc = .ok (.getfield 72, 3)) (kk : W p l e R s m args below meth c H locs 0 0 Q (F0 m (pc + 3) ls (.int (M.1 0 17) :: rest))) : W p l e R s m args below meth c H locs 0 0 Q (F0 m pc ls (.ref (ad 0) :: rest)) := g_get X hW (k := 0) (by decide) rfl rfl inX2g 17 (by decide) (mem_g (i := 611) (by decide +kernel) (by decide +kernel)) rfl hdg kk
theorem gp_X2_72 (X : Cx p s m args c cc nL RX2 D cy) (hW : Wd D 20 ad (CM ad cy) A s.heap M H locs) {v : Int32} (hdg : decode cc pc = .ok (.putfield 72, 3)) (kk : ∀ (H1 : Heap) (locs1 : List Loc), Wd D 20 ad (CM ad cy) A s.heap (sI M 0 17 v) H1 locs1 → W p l e R s m args below meth c H1 locs1 0 0 Q (F0 m (pc + 3) ls (rest))) : W p l e R s m args below meth c H locs 0 0 Q (F0 m pc ls (.int v :: .ref (ad 0) :: rest)) := g_putI X hW (k := 0) (by decide) rfl rfl inX2g tyX2 tyX2_ok nmX2 17 (by decide) (mem_g (i := 611) (by decide +kernel) (by decide +kernel)) rfl rfl (show 17 < 26 from by decide) rfl hdg kk
theorem gf_X2_51 (X : Cx p s m args c cc nL RX2 D cy) (hW : Wd D 20 ad (CM ad cy) A s.heap M H locs) (hdg : decode cc pc = .ok (.getfield 51, 3)) (kk : W p l e R s m args below meth c H locs 0 0 Q (F0 m (pc + 3) ls (.ref (ad 13) :: rest))) : W p l e R s m args below meth c H locs 0 0 Q (F0 m pc ls (.ref (ad 0) :: rest)) := g_get X hW (k := 0) (by decide) rfl rfl inX2g 18 (by decide) (mem_g (i := 612) (by decide +kernel) (by decide +kernel)) rfl hdg kk
theorem gf_X2_108 (X : Cx p s m args c cc nL RX2 D cy) (hW : Wd D 20 ad (CM ad cy) A s.heap M H locs) (hdg : decode cc pc = .ok (.getfield 108, 3)) (kk : W p l e R s m args below meth c H locs 0 0 Q (F0 m (pc + 3) ls (.int (M.1 0 19) :: rest))) : W p l e R s m args below meth c H locs 0 0 Q (F0 m pc ls (.ref (ad 0) :: rest)) := g_get X hW (k := 0) (by decide) rfl rfl inX2g 19 (by decide) (mem_g (i := 613) (by decide +kernel) (by decide +kernel)) rfl hdg kk
theorem gp_X2_108 (X : Cx p s m args c cc nL RX2 D cy) (hW : Wd D 20 ad (CM ad cy) A s.heap M H locs) {v : Int32} (hdg : decode cc pc = .ok (.putfield 108, 3)) (kk : ∀ (H1 : Heap) (locs1 : List Loc), Wd D 20 ad (CM ad cy) A s.heap (sI M 0 19 v) H1 locs1 → W p l e R s m args below meth c H1 locs1 0 0 Q (F0 m (pc + 3) ls (rest))) : W p l e R s m args below meth c H locs 0 0 Q (F0 m pc ls (.int v :: .ref (ad 0) :: rest)) := g_putI X hW (k := 0) (by decide) rfl rfl inX2g tyX2 tyX2_ok nmX2 19 (by decide) (mem_g (i := 613) (by decide +kernel) (by decide +kernel)) rfl rfl (show 19 < 26 from by decide) rfl hdg kk
theorem gf_X2_54 (X : Cx p s m args c cc nL RX2 D cy) (hW : Wd D 20 ad (CM ad cy) A s.heap M H locs) (hdg : decode cc pc = .ok (.getfield 54, 3)) (kk : W p l e R s m args below meth c H locs 0 0 Q (F0 m (pc + 3) ls (.ref (ad 14) :: rest))) : W p l e R s m args below meth c H locs 0 0 Q (F0 m pc ls (.ref (ad 0) :: rest)) := g_get X hW (k := 0) (by decide) rfl rfl inX2g 20 (by decide) (mem_g (i := 614) (by decide +kernel) (by decide +kernel)) rfl hdg kk
theorem gf_X2_57 (X : Cx p s m args c cc nL RX2 D cy) (hW : Wd D 20 ad (CM ad cy) A s.heap M H locs) (hdg : decode cc pc = .ok (.getfield 57, 3)) (kk : W p l e R s m args below meth c H locs 0 0 Q (F0 m (pc + 3) ls (.ref (ad 15) :: rest))) : W p l e R s m args below meth c H locs 0 0 Q (F0 m pc ls (.ref (ad 0) :: rest)) := g_get X hW (k := 0) (by decide) rfl rfl inX2g 21 (by decide) (mem_g (i := 615) (by decide +kernel) (by decide +kernel)) rfl hdg kk
theorem gf_X2_60 (X : Cx p s m args c cc nL RX2 D cy) (hW : Wd D 20 ad (CM ad cy) A s.heap M H locs) (hdg : decode cc pc = .ok (.getfield 60, 3)) (kk : W p l e R s m args below meth c H locs 0 0 Q (F0 m (pc + 3) ls (.ref (ad 16) :: rest))) : W p l e R s m args below meth c H locs 0 0 Q (F0 m pc ls (.ref (ad 0) :: rest)) := g_get X hW (k := 0) (by decide) rfl rfl inX2g 22 (by decide) (mem_g (i := 616) (by decide +kernel) (by decide +kernel)) rfl hdg kk
theorem gf_X2_63 (X : Cx p s m args c cc nL RX2 D cy) (hW : Wd D 20 ad (CM ad cy) A s.heap M H locs) (hdg : decode cc pc = .ok (.getfield 63, 3)) (kk : W p l e R s m args below meth c H locs 0 0 Q (F0 m (pc + 3) ls (.ref (ad 17) :: rest))) : W p l e R s m args below meth c H locs 0 0 Q (F0 m pc ls (.ref (ad 0) :: rest)) := g_get X hW (k := 0) (by decide) rfl rfl inX2g 23 (by decide) (mem_g (i := 617) (by decide +kernel) (by decide +kernel)) rfl hdg kk
theorem gf_X2_66 (X : Cx p s m args c cc nL RX2 D cy) (hW : Wd D 20 ad (CM ad cy) A s.heap M H locs) (hdg : decode cc pc = .ok (.getfield 66, 3)) (kk : W p l e R s m args below meth c H locs 0 0 Q (F0 m (pc + 3) ls (.ref (ad 18) :: rest))) : W p l e R s m args below meth c H locs 0 0 Q (F0 m pc ls (.ref (ad 0) :: rest)) := g_get X hW (k := 0) (by decide) rfl rfl inX2g 24 (by decide) (mem_g (i := 618) (by decide +kernel) (by decide +kernel)) rfl hdg kk
theorem gf_X2_69 (X : Cx p s m args c cc nL RX2 D cy) (hW : Wd D 20 ad (CM ad cy) A s.heap M H locs) (hdg : decode cc pc = .ok (.getfield 69, 3)) (kk : W p l e R s m args below meth c H locs 0 0 Q (F0 m (pc + 3) ls (.ref (ad 19) :: rest))) : W p l e R s m args below meth c H locs 0 0 Q (F0 m pc ls (.ref (ad 0) :: rest)) := g_get X hW (k := 0) (by decide) rfl rfl inX2g 25 (by decide) (mem_g (i := 619) (by decide +kernel) (by decide +kernel)) rfl hdg kk
end G3
