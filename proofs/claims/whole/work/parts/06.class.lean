set_option maxHeartbeats 4000000 in
set_option maxRecDepth 100000 in
/-- cardOf(k) -/
theorem c_cardOf (l : Launch) (k : Nat) (hk : k < 2 ^ 31) : Met l yX0_cardOf wsX0_cardOf ({ frames := 0, cells := 0, slots := 0, locals := 0 }) (va_Pc [.int (nI k)] (fun _ => True)) (cl_Q (some (.int (nI (k / 32))))) 0 0 (fun _ => False) := by
  refine Met.ofW (cc := cX0_cardOf) (maxL := 1) (ret := (some .int)) (by decide) rfl ?_
  intro p e s m args below meth c s₁ B hml hv
  obtain ⟨rfl, -⟩ := hv
  have hx := B.exec
  have hb := B.bytes
  have hr := B.returns
  have hts := atoms_spec (ws := wsX0_cardOf) B.pre
  have hown : s.vm.findClass RX0 = some m.cls := findClass_of_methodNamed B.named
  have hlocks := B.notSynchronized
  have hl := lv_entry ([.int (nI k)]) (n := 1) (Nat.le_of_ble_eq_true rfl)
  rw [lg_entry_eq]
  generalize (lg_sl ([.int (nI k)]) ++ List.replicate (1 - (lg_sl ([.int (nI k)])).length) Slot.unset).toArray = ls at hl ⊢
  have hl : lv_has ls 1 [(0, .int (nI k))] := hl
  refine lv_iload_n hx hb dX0_cardOf_0 rfl (lv_at hl 0 rfl) ?_
  refine lv_bipush (v := 32) hx hb dX0_cardOf_1 (by decide) ?_
  refine lv_idiv hx hb dX0_cardOf_3 (by decide) ?_
  refine cl_asi (pk_div (d := 32) hk (by decide) (by decide)) ?_
  exact W.iret (v := nI (k / 32)) hx hb hr (fun t9 ht9 _ => ⟨rfl, ht9⟩) (fun q9 hq9 => nomatch hq9) dX0_cardOf_4
set_option maxHeartbeats 4000000 in
set_option maxRecDepth 100000 in
/-- cardCount() -/
theorem c_cardCount (l : Launch) (dC : Nat → ClassId) (dI : Nat → Nat → Nat) (h a : Nat) (cI : ClassId) (N : Nat) (f : Nat → Int32) (h1 : 1 ≤ N) (h2 : N ≤ 16384) : Met l yX0_cardCount wsX0_cardCount ({ frames := 1, cells := 0, slots := 0, locals := 20 }) (cb_Pc (dC, dI) [.ref h] (cb_w h a cI (nI N) f) [(cI, .int)]) (cl_Q (some (.int (nI (cb_cc N))))) 0 0 (fun _ => False) := by
  refine Met.ofW (cc := cX0_cardCount) (maxL := 1) (ret := (some .int)) (by decide) rfl ?_
  intro p e s m args below meth c s₁ B hml hv
  obtain ⟨rfl, hP, hK⟩ := hv
  have hx := B.exec
  have hb := B.bytes
  have hr := B.returns
  have hts := atoms_spec (ws := wsX0_cardCount) B.pre
  have hown : s.vm.findClass RX0 = some m.cls := findClass_of_methodNamed B.named
  have hlocks := B.notSynchronized
  have hl := lv_entry ([.ref h]) (n := 1) (Nat.le_of_ble_eq_true rfl)
  rw [lg_entry_eq]
  generalize (lg_sl ([.ref h]) ++ List.replicate (1 - (lg_sl ([.ref h])).length) Slot.unset).toArray = ls at hl ⊢
  have hl : lv_has ls 1 [(0, .ref h)] := hl
  refine lv_aload_n hx hb dX0_cardCount_0 rfl (lv_at hl 0 rfl) ?_
  refine va_get (D := (dC, dI)) (ci := 0) (v := .int (nI N)) (C := RX0) (T := TX0) (N := 2) hx hb hts (by decide +kernel) hown hK hP 0 rfl rfl 1 (by decide) (hts (.fieldLink RX0 13 "CardBook" "cells" "I") (by decide +kernel)) (fun _ h9 => h9) rfl dX0_cardCount_1 ?_
  refine lv_iconst (v := 1) hx hb dX0_cardCount_4 (by decide) ?_
  refine lv_isub hx hb dX0_cardCount_5 ?_
  refine cl_asi (cb_pred h1) ?_
  refine cl_calli (W.runS (As := [.int (nI (N - 1))]) (rest := []) ⟨hx, hb, hml, hown, hts⟩ (c_cardOf l (N - 1) (by omega)) (va_cwS 1 hts gX0_cardCount_X0_cardOf rfl rfl rfl (by decide +kernel) ⟨Nat.le_of_ble_eq_true rfl, Nat.le_of_ble_eq_true rfl⟩) cb_preS rfl rfl hl.1 rfl (lv_room (Nat.le_of_ble_eq_true rfl)) dX0_cardCount_6 ⟨Nat.zero_le _, Nat.zero_le _⟩) ?_
  refine lv_iconst (v := 1) hx hb dX0_cardCount_9 (by decide) ?_
  refine lv_iadd hx hb dX0_cardCount_10 ?_
  refine cl_asi (nI_1 _) ?_
  exact W.iret (v := nI ((N - 1) / 32 + 1)) hx hb hr (fun t9 ht9 _ => ⟨rfl, ht9⟩) (fun q9 hq9 => nomatch hq9) dX0_cardCount_11
set_option maxHeartbeats 4000000 in
set_option maxRecDepth 100000 in
/-- requireCell(k), where there is one -/
theorem c_requireCell (l : Launch) (dC : Nat → ClassId) (dI : Nat → Nat → Nat) (h a : Nat) (cI : ClassId) (N : Nat) (f : Nat → Int32) (k : Nat) (h2 : N ≤ 16384) (hk : k < N) : Met l yX0_requireCell wsX0_requireCell ({ frames := 0, cells := 0, slots := 0, locals := 0 }) (cb_Pc (dC, dI) [.ref h, .int (nI k)] (cb_w h a cI (nI N) f) [(cI, .int)]) (cl_Q none) 0 0 (fun _ => False) := by
  refine Met.ofW (cc := cX0_requireCell) (maxL := 2) (ret := none) (by decide) rfl ?_
  intro p e s m args below meth c s₁ B hml hv
  obtain ⟨rfl, hP, hK⟩ := hv
  have hx := B.exec
  have hb := B.bytes
  have hr := B.returns
  have hts := atoms_spec (ws := wsX0_requireCell) B.pre
  have hown : s.vm.findClass RX0 = some m.cls := findClass_of_methodNamed B.named
  have hlocks := B.notSynchronized
  have hl := lv_entry ([.ref h, .int (nI k)]) (n := 2) (Nat.le_of_ble_eq_true rfl)
  rw [lg_entry_eq]
  generalize (lg_sl ([.ref h, .int (nI k)]) ++ List.replicate (2 - (lg_sl ([.ref h, .int (nI k)])).length) Slot.unset).toArray = ls at hl ⊢
  have hl : lv_has ls 2 [(0, .ref h), (1, .int (nI k))] := hl
  refine lv_iload_n hx hb dX0_requireCell_0 rfl (lv_at hl 1 rfl) ?_
  refine lv_if_lt (tgt := 12) hx hb dX0_requireCell_1 (by decide) (fun hc => ?_) (fun hc => ?_)
  · exact absurd hc (nI_pos (by omega))
  · refine lv_iload_n hx hb dX0_requireCell_4 rfl (lv_at hl 1 rfl) ?_
    refine lv_aload_n hx hb dX0_requireCell_5 rfl (lv_at hl 0 rfl) ?_
    refine va_get (D := (dC, dI)) (ci := 0) (v := .int (nI N)) (C := RX0) (T := TX0) (N := 2) hx hb hts (by decide +kernel) hown hK hP 0 rfl rfl 1 (by decide) (hts (.fieldLink RX0 13 "CardBook" "cells" "I") (by decide +kernel)) (fun _ h9 => h9) rfl dX0_requireCell_6 ?_
    refine lv_icmp_lt (tgt := 22) hx hb dX0_requireCell_9 (by decide) (fun hd => ?_) (fun hd => ?_)
    · exact W.vret hx hb hr (fun t9 ht9 _ => ⟨rfl, ht9⟩) (fun q9 hq9 => nomatch hq9) dX0_requireCell_22
    · exact absurd (nI_lt hk (by omega)) hd
set_option maxHeartbeats 4000000 in
set_option maxRecDepth 100000 in
/-- requireCard(k), where there is one -/
theorem c_requireCard (l : Launch) (dC : Nat → ClassId) (dI : Nat → Nat → Nat) (h a : Nat) (cI : ClassId) (N : Nat) (f : Nat → Int32) (k : Nat) (h1 : 1 ≤ N) (h2 : N ≤ 16384) (hk : k < (cb_cc N)) : Met l yX0_requireCard wsX0_requireCard ({ frames := 2, cells := 0, slots := 0, locals := 40 }) (cb_Pc (dC, dI) [.ref h, .int (nI k)] (cb_w h a cI (nI N) f) [(cI, .int)]) (cl_Q none) 0 0 (fun _ => False) := by
  refine Met.ofW (cc := cX0_requireCard) (maxL := 2) (ret := none) (by decide) rfl ?_
  intro p e s m args below meth c s₁ B hml hv
  obtain ⟨rfl, hP, hK⟩ := hv
  have hx := B.exec
  have hb := B.bytes
  have hr := B.returns
  have hts := atoms_spec (ws := wsX0_requireCard) B.pre
  have hown : s.vm.findClass RX0 = some m.cls := findClass_of_methodNamed B.named
  have hlocks := B.notSynchronized
  have hl := lv_entry ([.ref h, .int (nI k)]) (n := 2) (Nat.le_of_ble_eq_true rfl)
  rw [lg_entry_eq]
  generalize (lg_sl ([.ref h, .int (nI k)]) ++ List.replicate (2 - (lg_sl ([.ref h, .int (nI k)])).length) Slot.unset).toArray = ls at hl ⊢
  have hl : lv_has ls 2 [(0, .ref h), (1, .int (nI k))] := hl
  refine lv_iload_n hx hb dX0_requireCard_0 rfl (lv_at hl 1 rfl) ?_
  refine lv_if_lt (tgt := 12) hx hb dX0_requireCard_1 (by decide) (fun hc => ?_) (fun hc => ?_)
  · exact absurd hc (nI_pos (by have := cb_cc_le h2; omega))
  · refine lv_iload_n hx hb dX0_requireCard_4 rfl (lv_at hl 1 rfl) ?_
    refine lv_aload_n hx hb dX0_requireCard_5 rfl (lv_at hl 0 rfl) ?_
    refine cl_calli (W.runV (As := []) (rest := [.int (nI k)]) ⟨hx, hb, hml, hown, hts⟩ (c_cardCount l dC dI h a cI N f h1 h2) (cwV 0 hts gX0_requireCard_X0_cardCount rfl rfl rfl (by decide +kernel) ⟨Nat.le_of_ble_eq_true rfl, Nat.le_of_ble_eq_true rfl⟩) (cb_preV hK hP []) rfl rfl hl.1 rfl (lv_room (Nat.le_of_ble_eq_true rfl)) dX0_requireCard_6 ⟨Nat.zero_le _, Nat.zero_le _⟩) ?_
    refine lv_icmp_lt (tgt := 22) hx hb dX0_requireCard_9 (by decide) (fun hd => ?_) (fun hd => ?_)
    · exact W.vret hx hb hr (fun t9 ht9 _ => ⟨rfl, ht9⟩) (fun q9 hq9 => nomatch hq9) dX0_requireCard_22
    · exact absurd (nI_lt hk (by have := cb_cc_le h2; omega)) hd
set_option maxHeartbeats 4000000 in
set_option maxRecDepth 100000 in
/-- removeMark(k, v) -/
theorem c_removeMark (l : Launch) (dC : Nat → ClassId) (dI : Nat → Nat → Nat) (h a : Nat) (cI : ClassId) (N : Nat) (f : Nat → Int32) (k : Nat) (v : Int32) (hne : h ≠ a) (hk : k < 512) : Met l yX0_removeMark wsX0_removeMark ({ frames := 0, cells := 0, slots := 0, locals := 0 }) (cb_Pc (dC, dI) [.ref h, .int (nI k), .int v] (cb_w h a cI (nI N) f) [(cI, .int)]) (va_Qi (fun (r9 : Int32) (_ : Unit) => (if f k &&& v = 0 then (0 : Int32) else 1) = r9) (fun _ t9 => va_P (dC, dI) vwCl (cb_w h a cI (nI N) (upd f k (f k &&& (v ^^^ (-1))))) t9.heap) (cb_A h a)) 0 0 (cb_A h a) := by
  refine Met.ofW (cc := cX0_removeMark) (maxL := 4) (ret := (some .boolean)) (by decide) rfl ?_
  intro p e s m args below meth c s₁ B hml hv
  obtain ⟨rfl, hP, hK⟩ := hv
  have hx := B.exec
  have hb := B.bytes
  have hr := B.returns
  have hts := atoms_spec (ws := wsX0_removeMark) B.pre
  have hown : s.vm.findClass RX0 = some m.cls := findClass_of_methodNamed B.named
  have hlocks := B.notSynchronized
  have hl := lv_entry ([.ref h, .int (nI k), .int v]) (n := 4) (Nat.le_of_ble_eq_true rfl)
  rw [lg_entry_eq]
  generalize (lg_sl ([.ref h, .int (nI k), .int v]) ++ List.replicate (4 - (lg_sl ([.ref h, .int (nI k), .int v])).length) Slot.unset).toArray = ls at hl ⊢
  have hl : lv_has ls 4 [(0, .ref h), (1, .int (nI k)), (2, .int v)] := hl
  have hD := cb_D (cI := cI) (n := nI N) (f := f) hne
  have hS : va_S (cb_A h a) s.heap s.heap [] := va_S.rf
  refine lv_aload_n hx hb dX0_removeMark_0 rfl (lv_at hl 0 rfl) ?_
  refine va_get (D := (dC, dI)) (ci := 0) (v := .ref a) (C := RX0) (T := TX0) (N := 2) hx hb hts (by decide +kernel) hown hK hP 0 rfl rfl 0 (by decide) (hts (.fieldLink RX0 9 "CardBook" "marks" "[I") (by decide +kernel)) (fun _ h9 => h9) rfl dX0_removeMark_1 ?_
  refine lv_iload_n hx hb dX0_removeMark_4 rfl (lv_at hl 1 rfl) ?_
  refine cl_iald (D := (dC, dI)) hx hb hK hP 1 0 rfl rfl hk (by decide) dX0_removeMark_5 ?_
  refine lv_iload_n hx hb dX0_removeMark_6 rfl (lv_at hl 2 rfl) ?_
  refine lv_iand hx hb dX0_removeMark_7 ?_
  refine lv_if_eq (tgt := 15) hx hb dX0_removeMark_8 (by decide) (fun hc => ?_) (fun hc => ?_)
  · refine lv_iconst (v := 0) hx hb dX0_removeMark_15 (by decide) ?_
    refine lv_istore_n (lv' := [(3, .int 0), (0, .ref h), (1, .int (nI k)), (2, .int v)]) hx hb dX0_removeMark_16 rfl hl (by decide) rfl (fun ls hl => ?_)
    refine lv_aload_n hx hb dX0_removeMark_17 rfl (lv_at hl 1 rfl) ?_
    refine va_get (D := (dC, dI)) (ci := 0) (v := .ref a) (C := RX0) (T := TX0) (N := 2) hx hb hts (by decide +kernel) hown hK hP 0 rfl rfl 0 (by decide) (hts (.fieldLink RX0 9 "CardBook" "marks" "[I") (by decide +kernel)) (fun _ h9 => h9) rfl dX0_removeMark_18 ?_
    refine lv_iload_n hx hb dX0_removeMark_21 rfl (lv_at hl 2 rfl) ?_
    refine lv_dup2_11 hx hb dX0_removeMark_22 rfl rfl ?_
    refine cl_iald (D := (dC, dI)) hx hb hK hP 1 0 rfl rfl hk (by decide) dX0_removeMark_23 ?_
    refine lv_iload_n hx hb dX0_removeMark_24 rfl (lv_at hl 3 rfl) ?_
    refine lv_iconst (v := (-1)) hx hb dX0_removeMark_25 (by decide) ?_
    refine lv_ixor hx hb dX0_removeMark_26 ?_
    refine lv_iand hx hb dX0_removeMark_27 ?_
    refine cl_iast (D := (dC, dI)) hx hb hK hP hD hS 1 0 rfl rfl hk (by decide) dX0_removeMark_28 (fun H locs hP hS => ?_)
    have hP : va_P (dC, dI) vwCl (cb_w h a cI (nI N) (upd f k (f k &&& (v ^^^ (-1))))) H := hP
    refine lv_iload_n hx hb dX0_removeMark_29 rfl (lv_at hl 0 rfl) ?_
    exact W.zret (v := 0) (ty := .boolean) hx hb hr rfl (fun t9 ht9 _ => ⟨⟨_, (), rfl, if_pos hc, cl_at ht9 hP⟩, hS.F ht9⟩) hS.2.2 dX0_removeMark_30
  · refine lv_iconst (v := 1) hx hb dX0_removeMark_11 (by decide) ?_
    refine lv_goto (tgt := 16) hx hb dX0_removeMark_12 (by decide) ?_
    refine lv_istore_n (lv' := [(3, .int 1), (0, .ref h), (1, .int (nI k)), (2, .int v)]) hx hb dX0_removeMark_16 rfl hl (by decide) rfl (fun ls hl => ?_)
    refine lv_aload_n hx hb dX0_removeMark_17 rfl (lv_at hl 1 rfl) ?_
    refine va_get (D := (dC, dI)) (ci := 0) (v := .ref a) (C := RX0) (T := TX0) (N := 2) hx hb hts (by decide +kernel) hown hK hP 0 rfl rfl 0 (by decide) (hts (.fieldLink RX0 9 "CardBook" "marks" "[I") (by decide +kernel)) (fun _ h9 => h9) rfl dX0_removeMark_18 ?_
    refine lv_iload_n hx hb dX0_removeMark_21 rfl (lv_at hl 2 rfl) ?_
    refine lv_dup2_11 hx hb dX0_removeMark_22 rfl rfl ?_
    refine cl_iald (D := (dC, dI)) hx hb hK hP 1 0 rfl rfl hk (by decide) dX0_removeMark_23 ?_
    refine lv_iload_n hx hb dX0_removeMark_24 rfl (lv_at hl 3 rfl) ?_
    refine lv_iconst (v := (-1)) hx hb dX0_removeMark_25 (by decide) ?_
    refine lv_ixor hx hb dX0_removeMark_26 ?_
    refine lv_iand hx hb dX0_removeMark_27 ?_
    refine cl_iast (D := (dC, dI)) hx hb hK hP hD hS 1 0 rfl rfl hk (by decide) dX0_removeMark_28 (fun H locs hP hS => ?_)
    have hP : va_P (dC, dI) vwCl (cb_w h a cI (nI N) (upd f k (f k &&& (v ^^^ (-1))))) H := hP
    refine lv_iload_n hx hb dX0_removeMark_29 rfl (lv_at hl 0 rfl) ?_
    exact W.zret (v := 1) (ty := .boolean) hx hb hr rfl (fun t9 ht9 _ => ⟨⟨_, (), rfl, if_neg hc, cl_at ht9 hP⟩, hS.F ht9⟩) hS.2.2 dX0_removeMark_30
set_option maxHeartbeats 4000000 in
set_option maxRecDepth 100000 in
/-- countWith(v) -/
theorem c_countWith (l : Launch) (dC : Nat → ClassId) (dI : Nat → Nat → Nat) (h a : Nat) (cI : ClassId) (N : Nat) (f : Nat → Int32) (v : Int32) (h1 : 1 ≤ N) (h2 : N ≤ 16384) : Met l yX0_countWith wsX0_countWith ({ frames := 2, cells := 0, slots := 0, locals := 40 }) (cb_Pc (dC, dI) [.ref h, .int v] (cb_w h a cI (nI N) f) [(cI, .int)]) (cl_Q (some (.int (nI (cb_ct f v (cb_cc N)))))) 0 0 (fun _ => False) := by
  refine Met.ofW (cc := cX0_countWith) (maxL := 5) (ret := (some .int)) (by decide) rfl ?_
  intro p e s m args below meth c s₁ B hml hv
  obtain ⟨rfl, hP, hK⟩ := hv
  have hx := B.exec
  have hb := B.bytes
  have hr := B.returns
  have hts := atoms_spec (ws := wsX0_countWith) B.pre
  have hown : s.vm.findClass RX0 = some m.cls := findClass_of_methodNamed B.named
  have hlocks := B.notSynchronized
  have hl := lv_entry ([.ref h, .int v]) (n := 5) (Nat.le_of_ble_eq_true rfl)
  rw [lg_entry_eq]
  generalize (lg_sl ([.ref h, .int v]) ++ List.replicate (5 - (lg_sl ([.ref h, .int v])).length) Slot.unset).toArray = ls at hl ⊢
  have hl : lv_has ls 5 [(0, .ref h), (1, .int v)] := hl
  refine lv_iconst (v := 0) hx hb dX0_countWith_0 (by decide) ?_
  refine lv_istore_n (lv' := [(2, .int 0), (0, .ref h), (1, .int v)]) hx hb dX0_countWith_1 rfl hl (by decide) rfl (fun ls hl => ?_)
  refine lv_aload_n hx hb dX0_countWith_2 rfl (lv_at hl 1 rfl) ?_
  refine cl_calli (W.runV (As := []) (rest := []) ⟨hx, hb, hml, hown, hts⟩ (c_cardCount l dC dI h a cI N f h1 h2) (cwV 0 hts gX0_countWith_X0_cardCount rfl rfl rfl (by decide +kernel) ⟨Nat.le_of_ble_eq_true rfl, Nat.le_of_ble_eq_true rfl⟩) (cb_preV hK hP []) rfl rfl hl.1 rfl (lv_room (Nat.le_of_ble_eq_true rfl)) dX0_countWith_3 ⟨Nat.zero_le _, Nat.zero_le _⟩) ?_
  refine lv_istore_n (lv' := [(3, .int (nI (cb_cc N))), (2, .int 0), (0, .ref h), (1, .int v)]) hx hb dX0_countWith_6 rfl hl (by decide) rfl (fun ls hl => ?_)
  refine lv_iconst (v := 0) hx hb dX0_countWith_7 (by decide) ?_
  refine lv_istore (lv' := [(4, .int 0), (3, .int (nI (cb_cc N))), (2, .int 0), (0, .ref h), (1, .int v)]) hx hb dX0_countWith_8 hl (by decide) rfl (fun ls hl => ?_)
  refine cl_loop 0 (cb_cc N) (Nat.zero_le _) (fun i H9 locs9 ls9 => H9 = s.heap ∧ locs9 = [] ∧ lv_has ls9 5 [(4, .int (nI i)), (3, .int (nI (cb_cc N))), (2, .int (nI (cb_ct f v i))), (0, .ref h), (1, .int v)]) ?_ ?_ (H := s.heap) (locs := []) (ls := ls) ⟨rfl, rfl, hl⟩
  · intro H9 locs9 ls hi9
    obtain ⟨rfl, rfl, hl⟩ := hi9
    refine lv_iload hx hb dX0_countWith_10 (lv_at hl 0 rfl) ?_
    refine lv_iload_n hx hb dX0_countWith_12 rfl (lv_at hl 1 rfl) ?_
    refine lv_icmp_ge (tgt := 37) hx hb dX0_countWith_13 (by decide) (fun hc => ?_) (fun hc => ?_)
    · refine lv_iload_n hx hb dX0_countWith_37 rfl (lv_at hl 2 rfl) ?_
      exact W.iret (v := nI (cb_ct f v (cb_cc N))) hx hb hr (fun t9 ht9 _ => ⟨rfl, ht9⟩) (fun q9 hq9 => nomatch hq9) dX0_countWith_38
    · exact absurd (Int32.le_refl _) hc
  · intro i H9 locs9 ls _ hi hi9 kk
    obtain ⟨rfl, rfl, hl⟩ := hi9
    refine lv_iload hx hb dX0_countWith_10 (lv_at hl 0 rfl) ?_
    refine lv_iload_n hx hb dX0_countWith_12 rfl (lv_at hl 1 rfl) ?_
    refine lv_icmp_ge (tgt := 37) hx hb dX0_countWith_13 (by decide) (fun hc => ?_) (fun hc => ?_)
    · exact absurd hc (nI_ge hi (by have := cb_cc_le h2; omega))
    · refine lv_aload_n hx hb dX0_countWith_16 rfl (lv_at hl 3 rfl) ?_
      refine va_get (D := (dC, dI)) (ci := 0) (v := .ref a) (C := RX0) (T := TX0) (N := 2) hx hb hts (by decide +kernel) hown hK hP 0 rfl rfl 0 (by decide) (hts (.fieldLink RX0 9 "CardBook" "marks" "[I") (by decide +kernel)) (fun _ h9 => h9) rfl dX0_countWith_17 ?_
      refine lv_iload hx hb dX0_countWith_20 (lv_at hl 0 rfl) ?_
      refine cl_iald (D := (dC, dI)) hx hb hK hP 1 0 rfl rfl (show i < 512 by have := cb_cc_le h2; omega) (by decide) dX0_countWith_22 ?_
      refine lv_iload_n hx hb dX0_countWith_23 rfl (lv_at hl 4 rfl) ?_
      refine lv_iand hx hb dX0_countWith_24 ?_
      refine lv_if_eq (tgt := 31) hx hb dX0_countWith_25 (by decide) (fun hd => ?_) (fun hd => ?_)
      · refine lv_iinc (v := (nI (i + 1))) (lv' := [(4, .int (nI (i + 1))), (3, .int (nI (cb_cc N))), (2, .int (nI (cb_ct f v i))), (0, .ref h), (1, .int v)]) hx hb dX0_countWith_31 hl (k := 0) rfl (nI_1 _) (by decide) rfl (fun ls hl => ?_)
        refine lv_goto (tgt := 10) hx hb dX0_countWith_34 (by decide) ?_
        exact kk _ _ _ ⟨rfl, rfl, lv_sub hl [0, 1, 2, 3, 4] (by rw [cb_ct_0 hd]; rfl)⟩
      · refine lv_iinc (v := (nI (cb_ct f v i + 1))) (lv' := [(2, .int (nI (cb_ct f v i + 1))), (4, .int (nI i)), (3, .int (nI (cb_cc N))), (0, .ref h), (1, .int v)]) hx hb dX0_countWith_28 hl (k := 2) rfl (nI_1 _) (by decide) rfl (fun ls hl => ?_)
        refine lv_iinc (v := (nI (i + 1))) (lv' := [(4, .int (nI (i + 1))), (2, .int (nI (cb_ct f v i + 1))), (3, .int (nI (cb_cc N))), (0, .ref h), (1, .int v)]) hx hb dX0_countWith_31 hl (k := 1) rfl (nI_1 _) (by decide) rfl (fun ls hl => ?_)
        refine lv_goto (tgt := 10) hx hb dX0_countWith_34 (by decide) ?_
        exact kk _ _ _ ⟨rfl, rfl, lv_sub hl [0, 2, 1, 3, 4] (by rw [cb_ct_1 hd]; rfl)⟩
set_option maxHeartbeats 4000000 in
set_option maxRecDepth 100000 in
/-- firstWith(v, j) -/
theorem c_firstWith (l : Launch) (dC : Nat → ClassId) (dI : Nat → Nat → Nat) (h a : Nat) (cI : ClassId) (N : Nat) (f : Nat → Int32) (v : Int32) (j : Nat) (h1 : 1 ≤ N) (h2 : N ≤ 16384) (hj : j < 2 ^ 31) : Met l yX0_firstWith wsX0_firstWith ({ frames := 2, cells := 0, slots := 0, locals := 40 }) (cb_Pc (dC, dI) [.ref h, .int v, .int (nI j)] (cb_w h a cI (nI N) f) [(cI, .int)]) (cl_Q (some (.int (cb_fw f v j (cb_cc N))))) 0 0 (fun _ => False) := by
  refine Met.ofW (cc := cX0_firstWith) (maxL := 5) (ret := (some .int)) (by decide) rfl ?_
  intro p e s m args below meth c s₁ B hml hv
  obtain ⟨rfl, hP, hK⟩ := hv
  have hx := B.exec
  have hb := B.bytes
  have hr := B.returns
  have hts := atoms_spec (ws := wsX0_firstWith) B.pre
  have hown : s.vm.findClass RX0 = some m.cls := findClass_of_methodNamed B.named
  have hlocks := B.notSynchronized
  have hl := lv_entry ([.ref h, .int v, .int (nI j)]) (n := 5) (Nat.le_of_ble_eq_true rfl)
  rw [lg_entry_eq]
  generalize (lg_sl ([.ref h, .int v, .int (nI j)]) ++ List.replicate (5 - (lg_sl ([.ref h, .int v, .int (nI j)])).length) Slot.unset).toArray = ls at hl ⊢
  have hl : lv_has ls 5 [(0, .ref h), (1, .int v), (2, .int (nI j))] := hl
  refine lv_iload_n hx hb dX0_firstWith_0 rfl (lv_at hl 2 rfl) ?_
  refine lv_if_ge (tgt := 14) hx hb dX0_firstWith_1 (by decide) (fun hc => ?_) (fun hc => ?_)
  · refine lv_aload_n hx hb dX0_firstWith_14 rfl (lv_at hl 0 rfl) ?_
    refine cl_calli (W.runV (As := []) (rest := []) ⟨hx, hb, hml, hown, hts⟩ (c_cardCount l dC dI h a cI N f h1 h2) (cwV 0 hts gX0_firstWith_X0_cardCount rfl rfl rfl (by decide +kernel) ⟨Nat.le_of_ble_eq_true rfl, Nat.le_of_ble_eq_true rfl⟩) (cb_preV hK hP []) rfl rfl hl.1 rfl (lv_room (Nat.le_of_ble_eq_true rfl)) dX0_firstWith_15 ⟨Nat.zero_le _, Nat.zero_le _⟩) ?_
    refine lv_istore_n (lv' := [(3, .int (nI (cb_cc N))), (0, .ref h), (1, .int v), (2, .int (nI j))]) hx hb dX0_firstWith_18 rfl hl (by decide) rfl (fun ls hl => ?_)
    refine lv_iload_n hx hb dX0_firstWith_19 rfl (lv_at hl 3 rfl) ?_
    refine lv_istore (lv' := [(4, .int (nI j)), (3, .int (nI (cb_cc N))), (0, .ref h), (1, .int v), (2, .int (nI j))]) hx hb dX0_firstWith_20 hl (by decide) rfl (fun ls hl => ?_)
    refine cl_loop j (max j (cb_cc N)) (Nat.le_max_left _ _) (fun i H9 locs9 ls9 => H9 = s.heap ∧ locs9 = [] ∧ cb_fw f v j (cb_cc N) = cb_fw f v i (cb_cc N) ∧ lv_has ls9 5 [(4, .int (nI i)), (3, .int (nI (cb_cc N))), (0, .ref h), (1, .int v), (2, .int (nI j))]) ?_ ?_ (H := s.heap) (locs := []) (ls := ls) ⟨rfl, rfl, rfl, hl⟩
    · intro H9 locs9 ls hi9
      obtain ⟨rfl, rfl, hf, hl⟩ := hi9
      refine lv_iload hx hb dX0_firstWith_22 (lv_at hl 0 rfl) ?_
      refine lv_iload_n hx hb dX0_firstWith_24 rfl (lv_at hl 1 rfl) ?_
      refine lv_icmp_ge (tgt := 49) hx hb dX0_firstWith_25 (by decide) (fun hc => ?_) (fun hc => ?_)
      · refine lv_iconst (v := (-1)) hx hb dX0_firstWith_49 (by decide) ?_
        rw [cb_fw_out (Nat.le_max_right _ _)] at hf
        exact W.iret (v := -1) hx hb hr (fun t9 ht9 _ => ⟨by rw [hf], ht9⟩) (fun q9 hq9 => nomatch hq9) dX0_firstWith_50
      · exact absurd (nI_le (Nat.le_max_right _ _) (by have := cb_cc_le h2; omega)) hc
    · intro i H9 locs9 ls hji hi hi9 kk
      obtain ⟨rfl, rfl, hf, hl⟩ := hi9
      have hi : i < (cb_cc N) := by omega
      refine lv_iload hx hb dX0_firstWith_22 (lv_at hl 0 rfl) ?_
      refine lv_iload_n hx hb dX0_firstWith_24 rfl (lv_at hl 1 rfl) ?_
      refine lv_icmp_ge (tgt := 49) hx hb dX0_firstWith_25 (by decide) (fun hc => ?_) (fun hc => ?_)
      · exact absurd hc (nI_ge hi (by have := cb_cc_le h2; omega))
      · refine lv_aload_n hx hb dX0_firstWith_28 rfl (lv_at hl 2 rfl) ?_
        refine va_get (D := (dC, dI)) (ci := 0) (v := .ref a) (C := RX0) (T := TX0) (N := 2) hx hb hts (by decide +kernel) hown hK hP 0 rfl rfl 0 (by decide) (hts (.fieldLink RX0 9 "CardBook" "marks" "[I") (by decide +kernel)) (fun _ h9 => h9) rfl dX0_firstWith_29 ?_
        refine lv_iload hx hb dX0_firstWith_32 (lv_at hl 0 rfl) ?_
        refine cl_iald (D := (dC, dI)) hx hb hK hP 1 0 rfl rfl (show i < 512 by have := cb_cc_le h2; omega) (by decide) dX0_firstWith_34 ?_
        refine lv_iload_n hx hb dX0_firstWith_35 rfl (lv_at hl 3 rfl) ?_
        refine lv_iand hx hb dX0_firstWith_36 ?_
        refine lv_if_eq (tgt := 43) hx hb dX0_firstWith_37 (by decide) (fun hd => ?_) (fun hd => ?_)
        · refine lv_iinc (v := (nI (i + 1))) (lv' := [(4, .int (nI (i + 1))), (3, .int (nI (cb_cc N))), (0, .ref h), (1, .int v), (2, .int (nI j))]) hx hb dX0_firstWith_43 hl (k := 0) rfl (nI_1 _) (by decide) rfl (fun ls hl => ?_)
          refine lv_goto (tgt := 22) hx hb dX0_firstWith_46 (by decide) ?_
          exact kk _ _ _ ⟨rfl, rfl, hf.trans (cb_fw_0 hi hd), lv_sub hl [0, 1, 2, 3, 4] rfl⟩
        · refine lv_iload hx hb dX0_firstWith_40 (lv_at hl 0 rfl) ?_
          rw [cb_fw_1 hi hd] at hf
          exact W.iret (v := nI i) hx hb hr (fun t9 ht9 _ => ⟨by rw [hf], ht9⟩) (fun q9 hq9 => nomatch hq9) dX0_firstWith_42
  · exact absurd (nI_pos' hj) hc
set_option maxHeartbeats 4000000 in
set_option maxRecDepth 100000 in
/-- clear() -/
theorem c_clear (l : Launch) (dC : Nat → ClassId) (dI : Nat → Nat → Nat) (h a : Nat) (cI : ClassId) (N : Nat) (f : Nat → Int32) (h1 : 1 ≤ N) (h2 : N ≤ 16384) (hne : h ≠ a) : Met l yX0_clear wsX0_clear ({ frames := 3, cells := 0, slots := 0, locals := 70 }) (cb_Pc (dC, dI) [.ref h] (cb_w h a cI (nI N) f) [(cI, .int)]) (va_Qi (fun (r9 : Int32) (_ : Unit) => (nI (cb_ct f 3 (cb_cc N))) = r9) (fun _ t9 => va_P (dC, dI) vwCl (cb_w h a cI (nI N) (cb_clr f (cb_cc N))) t9.heap) (cb_A h a)) 0 0 (cb_A h a) := by
  refine Met.ofW (cc := cX0_clear) (maxL := 4) (ret := (some .int)) (by decide) rfl ?_
  intro p e s m args below meth c s₁ B hml hv
  obtain ⟨rfl, hP, hK⟩ := hv
  have hx := B.exec
  have hb := B.bytes
  have hr := B.returns
  have hts := atoms_spec (ws := wsX0_clear) B.pre
  have hown : s.vm.findClass RX0 = some m.cls := findClass_of_methodNamed B.named
  have hlocks := B.notSynchronized
  have hl := lv_entry ([.ref h]) (n := 4) (Nat.le_of_ble_eq_true rfl)
  rw [lg_entry_eq]
  generalize (lg_sl ([.ref h]) ++ List.replicate (4 - (lg_sl ([.ref h])).length) Slot.unset).toArray = ls at hl ⊢
  have hl : lv_has ls 4 [(0, .ref h)] := hl
  have hD := cb_D (cI := cI) (n := nI N) (f := f) hne
  have hS : va_S (cb_A h a) s.heap s.heap [] := va_S.rf
  refine lv_aload_n hx hb dX0_clear_0 rfl (lv_at hl 0 rfl) ?_
  refine lv_iconst (v := 3) hx hb dX0_clear_1 (by decide) ?_
  refine cl_calli (W.runV (As := [.int 3]) (rest := []) ⟨hx, hb, hml, hown, hts⟩ (c_countWith l dC dI h a cI N f 3 h1 h2) (cwV 1 hts gX0_clear_X0_countWith rfl rfl rfl (by decide +kernel) ⟨Nat.le_of_ble_eq_true rfl, Nat.le_of_ble_eq_true rfl⟩) (cb_preV hK hP [.int 3]) rfl rfl hl.1 rfl (lv_room (Nat.le_of_ble_eq_true rfl)) dX0_clear_2 ⟨Nat.zero_le _, Nat.zero_le _⟩) ?_
  refine lv_istore_n (lv' := [(1, .int (nI (cb_ct f 3 (cb_cc N)))), (0, .ref h)]) hx hb dX0_clear_5 rfl hl (by decide) rfl (fun ls hl => ?_)
  refine lv_aload_n hx hb dX0_clear_6 rfl (lv_at hl 1 rfl) ?_
  refine cl_calli (W.runV (As := []) (rest := []) ⟨hx, hb, hml, hown, hts⟩ (c_cardCount l dC dI h a cI N f h1 h2) (cwV 0 hts gX0_clear_X0_cardCount rfl rfl rfl (by decide +kernel) ⟨Nat.le_of_ble_eq_true rfl, Nat.le_of_ble_eq_true rfl⟩) (cb_preV hK hP []) rfl rfl hl.1 rfl (lv_room (Nat.le_of_ble_eq_true rfl)) dX0_clear_7 ⟨Nat.zero_le _, Nat.zero_le _⟩) ?_
  refine lv_istore_n (lv' := [(2, .int (nI (cb_cc N))), (1, .int (nI (cb_ct f 3 (cb_cc N)))), (0, .ref h)]) hx hb dX0_clear_10 rfl hl (by decide) rfl (fun ls hl => ?_)
  refine lv_iconst (v := 0) hx hb dX0_clear_11 (by decide) ?_
  refine lv_istore_n (lv' := [(3, .int 0), (2, .int (nI (cb_cc N))), (1, .int (nI (cb_ct f 3 (cb_cc N)))), (0, .ref h)]) hx hb dX0_clear_12 rfl hl (by decide) rfl (fun ls hl => ?_)
  refine cl_loop 0 (cb_cc N) (Nat.zero_le _) (fun i H9 locs9 ls9 => va_P (dC, dI) vwCl (cb_w h a cI (nI N) (cb_clr f i)) H9 ∧ va_S (cb_A h a) s.heap H9 locs9 ∧ lv_has ls9 4 [(3, .int (nI i)), (2, .int (nI (cb_cc N))), (1, .int (nI (cb_ct f 3 (cb_cc N)))), (0, .ref h)]) ?_ ?_ (H := s.heap) (locs := []) (ls := ls) ⟨by rw [cb_clr_0]; exact hP, hS, hl⟩
  · intro H locs ls hi9
    obtain ⟨hP, hS, hl⟩ := hi9
    refine lv_iload_n hx hb dX0_clear_13 rfl (lv_at hl 0 rfl) ?_
    refine lv_iload_n hx hb dX0_clear_14 rfl (lv_at hl 1 rfl) ?_
    refine lv_icmp_ge (tgt := 31) hx hb dX0_clear_15 (by decide) (fun hc => ?_) (fun hc => ?_)
    · refine lv_iload_n hx hb dX0_clear_31 rfl (lv_at hl 2 rfl) ?_
      exact W.iret (v := nI (cb_ct f 3 (cb_cc N))) hx hb hr (fun t9 ht9 _ => ⟨⟨_, (), rfl, rfl, cl_at ht9 hP⟩, hS.F ht9⟩) hS.2.2 dX0_clear_32
    · exact absurd (Int32.le_refl _) hc
  · intro i H locs ls _ hi hi9 kk
    obtain ⟨hP, hS, hl⟩ := hi9
    have hD := cb_D (cI := cI) (n := nI N) (f := cb_clr f i) hne
    refine lv_iload_n hx hb dX0_clear_13 rfl (lv_at hl 0 rfl) ?_
    refine lv_iload_n hx hb dX0_clear_14 rfl (lv_at hl 1 rfl) ?_
    refine lv_icmp_ge (tgt := 31) hx hb dX0_clear_15 (by decide) (fun hc => ?_) (fun hc => ?_)
    · exact absurd hc (nI_ge hi (by have := cb_cc_le h2; omega))
    · refine lv_aload_n hx hb dX0_clear_18 rfl (lv_at hl 3 rfl) ?_
      refine va_get (D := (dC, dI)) (ci := 0) (v := .ref a) (C := RX0) (T := TX0) (N := 2) hx hb hts (by decide +kernel) hown hK hP 0 rfl rfl 0 (by decide) (hts (.fieldLink RX0 9 "CardBook" "marks" "[I") (by decide +kernel)) (fun _ h9 => h9) rfl dX0_clear_19 ?_
      refine lv_iload_n hx hb dX0_clear_22 rfl (lv_at hl 0 rfl) ?_
      refine lv_iconst (v := 0) hx hb dX0_clear_23 (by decide) ?_
      refine cl_iast (D := (dC, dI)) hx hb hK hP hD hS 1 0 rfl rfl (show i < 512 by have := cb_cc_le h2; omega) (by decide) dX0_clear_24 (fun H locs hP hS => ?_)
      have hP : va_P (dC, dI) vwCl (cb_w h a cI (nI N) (upd (cb_clr f i) i 0)) H := hP
      refine lv_iinc (v := (nI (i + 1))) (lv' := [(3, .int (nI (i + 1))), (2, .int (nI (cb_cc N))), (1, .int (nI (cb_ct f 3 (cb_cc N)))), (0, .ref h)]) hx hb dX0_clear_25 hl (k := 0) rfl (nI_1 _) (by decide) rfl (fun ls hl => ?_)
      refine lv_goto (tgt := 13) hx hb dX0_clear_28 (by decide) ?_
      exact kk _ _ _ ⟨by rw [← cb_clr_s]; exact hP, hS, lv_sub hl [0, 1, 2, 3] rfl⟩
set_option maxHeartbeats 4000000 in
set_option maxRecDepth 100000 in
/-- space(n) -/
theorem c_space (l : Launch) (dC : Nat → ClassId) (dI : Nat → Nat → Nat) (h a : Nat) (cI : ClassId) (N : Nat) (f : Nat → Int32) (n : Nat) (h1 : 1 ≤ N) (h2 : N ≤ 16384) (hn1 : 1 ≤ n) (hn2 : n ≤ 16384) (hne : h ≠ a) : Met l yX0_space wsX0_space ({ frames := 4, cells := 0, slots := 0, locals := 100 }) (cb_Pc (dC, dI) [.ref h, .int (nI n)] (cb_w h a cI (nI N) f) [(cI, .int)]) (va_Qi (fun (r9 : Int32) (_ : Unit) => (nI N) = r9) (fun _ t9 => va_P (dC, dI) vwCl (cb_w h a cI (nI n) (cb_clr f (cb_cc N))) t9.heap) (cb_A h a)) 0 0 (cb_A h a) := by
  refine Met.ofW (cc := cX0_space) (maxL := 3) (ret := (some .int)) (by decide) rfl ?_
  intro p e s m args below meth c s₁ B hml hv
  obtain ⟨rfl, hP, hK⟩ := hv
  have hx := B.exec
  have hb := B.bytes
  have hr := B.returns
  have hts := atoms_spec (ws := wsX0_space) B.pre
  have hown : s.vm.findClass RX0 = some m.cls := findClass_of_methodNamed B.named
  have hlocks := B.notSynchronized
  have hl := lv_entry ([.ref h, .int (nI n)]) (n := 3) (Nat.le_of_ble_eq_true rfl)
  rw [lg_entry_eq]
  generalize (lg_sl ([.ref h, .int (nI n)]) ++ List.replicate (3 - (lg_sl ([.ref h, .int (nI n)])).length) Slot.unset).toArray = ls at hl ⊢
  have hl : lv_has ls 3 [(0, .ref h), (1, .int (nI n))] := hl
  have hD := cb_D (cI := cI) (n := nI N) (f := f) hne
  have hS : va_S (cb_A h a) s.heap s.heap [] := va_S.rf
  refine lv_iload_n hx hb dX0_space_0 rfl (lv_at hl 1 rfl) ?_
  refine lv_iconst (v := 1) hx hb dX0_space_1 (by decide) ?_
  refine lv_icmp_lt (tgt := 12) hx hb dX0_space_2 (by decide) (fun hc => ?_) (fun hc => ?_)
  · exact absurd hc (nI_nlt hn1 (by omega))
  · refine lv_iload_n hx hb dX0_space_5 rfl (lv_at hl 1 rfl) ?_
    refine lv_sipush (v := 16384) hx hb dX0_space_6 (by decide) ?_
    refine lv_icmp_le (tgt := 22) hx hb dX0_space_9 (by decide) (fun hd => ?_) (fun hd => ?_)
    · refine lv_aload_n hx hb dX0_space_22 rfl (lv_at hl 0 rfl) ?_
      refine va_get (D := (dC, dI)) (ci := 0) (v := .int (nI N)) (C := RX0) (T := TX0) (N := 2) hx hb hts (by decide +kernel) hown hK hP 0 rfl rfl 1 (by decide) (hts (.fieldLink RX0 13 "CardBook" "cells" "I") (by decide +kernel)) (fun _ h9 => h9) rfl dX0_space_23 ?_
      refine lv_istore_n (lv' := [(2, .int (nI N)), (0, .ref h), (1, .int (nI n))]) hx hb dX0_space_26 rfl hl (by decide) rfl (fun ls hl => ?_)
      refine lv_aload_n hx hb dX0_space_27 rfl (lv_at hl 1 rfl) ?_
      refine va_calli (va_runV (As := []) (rest := []) ⟨hx, hb, hml, hown, hts⟩ (c_clear l dC dI h a cI N f h1 h2 hne) (cwV 0 hts gX0_space_X0_clear rfl rfl rfl (by decide +kernel) ⟨Nat.le_of_ble_eq_true rfl, Nat.le_of_ble_eq_true rfl⟩) (cb_preV hK hP []) rfl rfl hl.1 rfl (lv_room (Nat.le_of_ble_eq_true rfl)) dX0_space_28 ⟨Nat.zero_le _, Nat.zero_le _⟩) hS (fun q _ h9 => h9) (fun q h9 => h9) (fun r9 u9 t9 H locs ht9 hvm9 hw9 hP9 hz9 hk9 hS => ?_)
      rw [ht9] at hP9
      have hP := hP9
      subst hw9
      have hD := cb_D (cI := cI) (n := nI N) (f := cb_clr f (cb_cc N)) hne
      refine lv_pop hx hb dX0_space_31 rfl ?_
      refine lv_aload_n hx hb dX0_space_32 rfl (lv_at hl 1 rfl) ?_
      refine lv_iload_n hx hb dX0_space_33 rfl (lv_at hl 2 rfl) ?_
      refine va_put (D := (dC, dI)) (ci := 0) (v := .int (nI n)) (ty := .int) (C := RX0) (T := TX0) (N := 2) hx hb hts (by decide +kernel) tyX0 tyX0_ok nmX0 hown hK hP hD hS 0 rfl rfl 1 (by decide) (hts (.fieldLink RX0 13 "CardBook" "cells" "I") (by decide +kernel)) (fun _ h9 => h9) rfl (by decide +kernel) rfl rfl (Nat.le_of_ble_eq_true rfl) dX0_space_34 (fun H locs hP _ hS => ?_)
      have hP : va_P (dC, dI) vwCl (cb_w h a cI (nI n) (cb_clr f (cb_cc N))) H := hP
      refine lv_iload_n hx hb dX0_space_37 rfl (lv_at hl 0 rfl) ?_
      exact W.iret (v := nI N) hx hb hr (fun t9 ht9 _ => ⟨⟨_, (), rfl, rfl, cl_at ht9 hP⟩, hS.F ht9⟩) hS.2.2 dX0_space_38
    · exact absurd (nI_le hn2 (by omega)) hd
set_option maxHeartbeats 4000000 in
set_option maxRecDepth 100000 in
/-- write(k) -/
theorem c_write (l : Launch) (dC : Nat → ClassId) (dI : Nat → Nat → Nat) (h a : Nat) (cI : ClassId) (N : Nat) (f : Nat → Int32) (k : Nat) (h2 : N ≤ 16384) (hk : k < N) (hne : h ≠ a) : Met l yX0_write wsX0_write ({ frames := 1, cells := 0, slots := 0, locals := 30 }) (cb_Pc (dC, dI) [.ref h, .int (nI k)] (cb_w h a cI (nI N) f) [(cI, .int)]) (va_Qi (fun (r9 : Int32) (_ : Unit) => (nI (k / 32)) = r9) (fun _ t9 => va_P (dC, dI) vwCl (cb_w h a cI (nI N) (upd f (k / 32) (f (k / 32) ||| 1))) t9.heap) (cb_A h a)) 0 0 (cb_A h a) := by
  refine Met.ofW (cc := cX0_write) (maxL := 3) (ret := (some .int)) (by decide) rfl ?_
  intro p e s m args below meth c s₁ B hml hv
  obtain ⟨rfl, hP, hK⟩ := hv
  have hx := B.exec
  have hb := B.bytes
  have hr := B.returns
  have hts := atoms_spec (ws := wsX0_write) B.pre
  have hown : s.vm.findClass RX0 = some m.cls := findClass_of_methodNamed B.named
  have hlocks := B.notSynchronized
  have hl := lv_entry ([.ref h, .int (nI k)]) (n := 3) (Nat.le_of_ble_eq_true rfl)
  rw [lg_entry_eq]
  generalize (lg_sl ([.ref h, .int (nI k)]) ++ List.replicate (3 - (lg_sl ([.ref h, .int (nI k)])).length) Slot.unset).toArray = ls at hl ⊢
  have hl : lv_has ls 3 [(0, .ref h), (1, .int (nI k))] := hl
  have hD := cb_D (cI := cI) (n := nI N) (f := f) hne
  have hS : va_S (cb_A h a) s.heap s.heap [] := va_S.rf
  refine lv_aload_n hx hb dX0_write_0 rfl (lv_at hl 0 rfl) ?_
  refine lv_iload_n hx hb dX0_write_1 rfl (lv_at hl 1 rfl) ?_
  refine cl_callv (W.runV (As := [.int (nI k)]) (rest := []) ⟨hx, hb, hml, hown, hts⟩ (c_requireCell l dC dI h a cI N f k h2 hk) (cwV 1 hts gX0_write_X0_requireCell rfl rfl rfl (by decide +kernel) ⟨Nat.le_of_ble_eq_true rfl, Nat.le_of_ble_eq_true rfl⟩) (cb_preV hK hP [.int (nI k)]) rfl rfl hl.1 rfl (lv_room (Nat.le_of_ble_eq_true rfl)) dX0_write_2 ⟨Nat.zero_le _, Nat.zero_le _⟩) ?_
  refine lv_iload_n hx hb dX0_write_5 rfl (lv_at hl 1 rfl) ?_
  refine cl_calli (W.runS (As := [.int (nI k)]) (rest := []) ⟨hx, hb, hml, hown, hts⟩ (c_cardOf l k (by omega)) (va_cwS 1 hts gX0_write_X0_cardOf rfl rfl rfl (by decide +kernel) ⟨Nat.le_of_ble_eq_true rfl, Nat.le_of_ble_eq_true rfl⟩) cb_preS rfl rfl hl.1 rfl (lv_room (Nat.le_of_ble_eq_true rfl)) dX0_write_6 ⟨Nat.zero_le _, Nat.zero_le _⟩) ?_
  refine lv_istore_n (lv' := [(2, .int (nI (k / 32))), (0, .ref h), (1, .int (nI k))]) hx hb dX0_write_9 rfl hl (by decide) rfl (fun ls hl => ?_)
  refine lv_aload_n hx hb dX0_write_10 rfl (lv_at hl 1 rfl) ?_
  refine va_get (D := (dC, dI)) (ci := 0) (v := .ref a) (C := RX0) (T := TX0) (N := 2) hx hb hts (by decide +kernel) hown hK hP 0 rfl rfl 0 (by decide) (hts (.fieldLink RX0 9 "CardBook" "marks" "[I") (by decide +kernel)) (fun _ h9 => h9) rfl dX0_write_11 ?_
  refine lv_iload_n hx hb dX0_write_14 rfl (lv_at hl 0 rfl) ?_
  refine lv_dup2_11 hx hb dX0_write_15 rfl rfl ?_
  refine cl_iald (D := (dC, dI)) hx hb hK hP 1 0 rfl rfl (show k / 32 < 512 by omega) (by decide) dX0_write_16 ?_
  refine lv_iconst (v := 1) hx hb dX0_write_17 (by decide) ?_
  refine lv_ior hx hb dX0_write_18 ?_
  refine cl_iast (D := (dC, dI)) hx hb hK hP hD hS 1 0 rfl rfl (show k / 32 < 512 by omega) (by decide) dX0_write_19 (fun H locs hP hS => ?_)
  have hP : va_P (dC, dI) vwCl (cb_w h a cI (nI N) (upd f (k / 32) (f (k / 32) ||| 1))) H := hP
  refine lv_iload_n hx hb dX0_write_20 rfl (lv_at hl 0 rfl) ?_
  exact W.iret (v := nI (k / 32)) hx hb hr (fun t9 ht9 _ => ⟨⟨_, (), rfl, rfl, cl_at ht9 hP⟩, hS.F ht9⟩) hS.2.2 dX0_write_21
set_option maxHeartbeats 4000000 in
set_option maxRecDepth 100000 in
/-- cover(k, z) -/
theorem c_cover (l : Launch) (dC : Nat → ClassId) (dI : Nat → Nat → Nat) (h a : Nat) (cI : ClassId) (N : Nat) (f : Nat → Int32) (k z : Nat) (h2 : N ≤ 16384) (hz : 1 ≤ z) (hk : k + z ≤ N) (hne : h ≠ a) : Met l yX0_cover wsX0_cover ({ frames := 1, cells := 0, slots := 0, locals := 30 }) (cb_Pc (dC, dI) [.ref h, .int (nI k), .int (nI z)] (cb_w h a cI (nI N) f) [(cI, .int)]) (va_Qi (fun (r9 : Int32) (_ : Unit) => (nI (((k + z - 1) / 32) - k / 32 + 1)) = r9) (fun _ t9 => va_P (dC, dI) vwCl (cb_w h a cI (nI N) (cb_cov f (k / 32) (((k + z - 1) / 32) + 1))) t9.heap) (cb_A h a)) 0 0 (cb_A h a) := by
  refine Met.ofW (cc := cX0_cover) (maxL := 6) (ret := (some .int)) (by decide) rfl ?_
  intro p e s m args below meth c s₁ B hml hv
  obtain ⟨rfl, hP, hK⟩ := hv
  have hx := B.exec
  have hb := B.bytes
  have hr := B.returns
  have hts := atoms_spec (ws := wsX0_cover) B.pre
  have hown : s.vm.findClass RX0 = some m.cls := findClass_of_methodNamed B.named
  have hlocks := B.notSynchronized
  have hl := lv_entry ([.ref h, .int (nI k), .int (nI z)]) (n := 6) (Nat.le_of_ble_eq_true rfl)
  rw [lg_entry_eq]
  generalize (lg_sl ([.ref h, .int (nI k), .int (nI z)]) ++ List.replicate (6 - (lg_sl ([.ref h, .int (nI k), .int (nI z)])).length) Slot.unset).toArray = ls at hl ⊢
  have hl : lv_has ls 6 [(0, .ref h), (1, .int (nI k)), (2, .int (nI z))] := hl
  have hD := cb_D (cI := cI) (n := nI N) (f := f) hne
  have hS : va_S (cb_A h a) s.heap s.heap [] := va_S.rf
  refine lv_aload_n hx hb dX0_cover_0 rfl (lv_at hl 0 rfl) ?_
  refine lv_iload_n hx hb dX0_cover_1 rfl (lv_at hl 1 rfl) ?_
  refine cl_callv (W.runV (As := [.int (nI k)]) (rest := []) ⟨hx, hb, hml, hown, hts⟩ (c_requireCell l dC dI h a cI N f k h2 (by omega)) (cwV 1 hts gX0_cover_X0_requireCell rfl rfl rfl (by decide +kernel) ⟨Nat.le_of_ble_eq_true rfl, Nat.le_of_ble_eq_true rfl⟩) (cb_preV hK hP [.int (nI k)]) rfl rfl hl.1 rfl (lv_room (Nat.le_of_ble_eq_true rfl)) dX0_cover_2 ⟨Nat.zero_le _, Nat.zero_le _⟩) ?_
  refine lv_iload_n hx hb dX0_cover_5 rfl (lv_at hl 2 rfl) ?_
  refine lv_iconst (v := 1) hx hb dX0_cover_6 (by decide) ?_
  refine lv_icmp_lt (tgt := 20) hx hb dX0_cover_7 (by decide) (fun hc => ?_) (fun hc => ?_)
  · exact absurd hc (nI_nlt hz (by omega))
  · refine lv_iload_n hx hb dX0_cover_10 rfl (lv_at hl 2 rfl) ?_
    refine lv_aload_n hx hb dX0_cover_11 rfl (lv_at hl 0 rfl) ?_
    refine va_get (D := (dC, dI)) (ci := 0) (v := .int (nI N)) (C := RX0) (T := TX0) (N := 2) hx hb hts (by decide +kernel) hown hK hP 0 rfl rfl 1 (by decide) (hts (.fieldLink RX0 13 "CardBook" "cells" "I") (by decide +kernel)) (fun _ h9 => h9) rfl dX0_cover_12 ?_
    refine lv_iload_n hx hb dX0_cover_15 rfl (lv_at hl 1 rfl) ?_
    refine lv_isub hx hb dX0_cover_16 ?_
    refine lv_icmp_le (tgt := 30) hx hb dX0_cover_17 (by decide) (fun hd => ?_) (fun hd => ?_)
    · refine lv_iload_n hx hb dX0_cover_30 rfl (lv_at hl 1 rfl) ?_
      refine cl_calli (W.runS (As := [.int (nI k)]) (rest := []) ⟨hx, hb, hml, hown, hts⟩ (c_cardOf l k (by omega)) (va_cwS 1 hts gX0_cover_X0_cardOf rfl rfl rfl (by decide +kernel) ⟨Nat.le_of_ble_eq_true rfl, Nat.le_of_ble_eq_true rfl⟩) cb_preS rfl rfl hl.1 rfl (lv_room (Nat.le_of_ble_eq_true rfl)) dX0_cover_31 ⟨Nat.zero_le _, Nat.zero_le _⟩) ?_
      refine lv_istore_n (lv' := [(3, .int (nI (k / 32))), (0, .ref h), (1, .int (nI k)), (2, .int (nI z))]) hx hb dX0_cover_34 rfl hl (by decide) rfl (fun ls hl => ?_)
      refine lv_iload_n hx hb dX0_cover_35 rfl (lv_at hl 2 rfl) ?_
      refine lv_iload_n hx hb dX0_cover_36 rfl (lv_at hl 3 rfl) ?_
      refine lv_iadd hx hb dX0_cover_37 ?_
      refine lv_iconst (v := 1) hx hb dX0_cover_38 (by decide) ?_
      refine lv_isub hx hb dX0_cover_39 ?_
      refine cl_asi (cb_last hz) ?_
      refine cl_calli (W.runS (As := [.int (nI (k + z - 1))]) (rest := []) ⟨hx, hb, hml, hown, hts⟩ (c_cardOf l (k + z - 1) (by omega)) (va_cwS 1 hts gX0_cover_X0_cardOf rfl rfl rfl (by decide +kernel) ⟨Nat.le_of_ble_eq_true rfl, Nat.le_of_ble_eq_true rfl⟩) cb_preS rfl rfl hl.1 rfl (lv_room (Nat.le_of_ble_eq_true rfl)) dX0_cover_40 ⟨Nat.zero_le _, Nat.zero_le _⟩) ?_
      refine lv_istore (lv' := [(4, .int (nI ((k + z - 1) / 32))), (3, .int (nI (k / 32))), (0, .ref h), (1, .int (nI k)), (2, .int (nI z))]) hx hb dX0_cover_43 hl (by decide) rfl (fun ls hl => ?_)
      refine lv_iload_n hx hb dX0_cover_45 rfl (lv_at hl 1 rfl) ?_
      refine lv_istore (lv' := [(5, .int (nI (k / 32))), (4, .int (nI ((k + z - 1) / 32))), (3, .int (nI (k / 32))), (0, .ref h), (1, .int (nI k)), (2, .int (nI z))]) hx hb dX0_cover_46 hl (by decide) rfl (fun ls hl => ?_)
      refine cl_loop (k / 32) (((k + z - 1) / 32) + 1) (by omega) (fun i H9 locs9 ls9 => va_P (dC, dI) vwCl (cb_w h a cI (nI N) (cb_cov f (k / 32) i)) H9 ∧ va_S (cb_A h a) s.heap H9 locs9 ∧ lv_has ls9 6 [(5, .int (nI i)), (4, .int (nI ((k + z - 1) / 32))), (3, .int (nI (k / 32))), (0, .ref h), (1, .int (nI k)), (2, .int (nI z))]) ?_ ?_ (H := s.heap) (locs := []) (ls := ls) ⟨by rw [cb_cov_0]; exact hP, hS, hl⟩
      · intro H locs ls hi9
        obtain ⟨hP, hS, hl⟩ := hi9
        refine lv_iload hx hb dX0_cover_48 (lv_at hl 0 rfl) ?_
        refine lv_iload hx hb dX0_cover_50 (lv_at hl 1 rfl) ?_
        refine lv_icmp_gt (tgt := 72) hx hb dX0_cover_52 (by decide) (fun he => ?_) (fun he => ?_)
        · refine lv_iload hx hb dX0_cover_72 (lv_at hl 1 rfl) ?_
          refine lv_iload_n hx hb dX0_cover_74 rfl (lv_at hl 2 rfl) ?_
          refine lv_isub hx hb dX0_cover_75 ?_
          refine lv_iconst (v := 1) hx hb dX0_cover_76 (by decide) ?_
          refine lv_iadd hx hb dX0_cover_77 ?_
          refine cl_asi (cb_len (by omega)) ?_
          exact W.iret (v := nI (((k + z - 1) / 32) - k / 32 + 1)) hx hb hr (fun t9 ht9 _ => ⟨⟨_, (), rfl, rfl, cl_at ht9 hP⟩, hS.F ht9⟩) hS.2.2 dX0_cover_78
        · exact absurd (nI_lt (Nat.lt_succ_self _) (by omega)) he
      · intro i H locs ls hji hi hi9 kk
        obtain ⟨hP, hS, hl⟩ := hi9
        have hD := cb_D (cI := cI) (n := nI N) (f := cb_cov f (k / 32) i) hne
        refine lv_iload hx hb dX0_cover_48 (lv_at hl 0 rfl) ?_
        refine lv_iload hx hb dX0_cover_50 (lv_at hl 1 rfl) ?_
        refine lv_icmp_gt (tgt := 72) hx hb dX0_cover_52 (by decide) (fun he => ?_) (fun he => ?_)
        · exact absurd he (nI_nlt (by omega) (by omega))
        · refine lv_aload_n hx hb dX0_cover_55 rfl (lv_at hl 3 rfl) ?_
          refine va_get (D := (dC, dI)) (ci := 0) (v := .ref a) (C := RX0) (T := TX0) (N := 2) hx hb hts (by decide +kernel) hown hK hP 0 rfl rfl 0 (by decide) (hts (.fieldLink RX0 9 "CardBook" "marks" "[I") (by decide +kernel)) (fun _ h9 => h9) rfl dX0_cover_56 ?_
          refine lv_iload hx hb dX0_cover_59 (lv_at hl 0 rfl) ?_
          refine lv_dup2_11 hx hb dX0_cover_61 rfl rfl ?_
          refine cl_iald (D := (dC, dI)) hx hb hK hP 1 0 rfl rfl (show i < 512 by omega) (by decide) dX0_cover_62 ?_
          refine lv_iconst (v := 2) hx hb dX0_cover_63 (by decide) ?_
          refine lv_ior hx hb dX0_cover_64 ?_
          refine cl_iast (D := (dC, dI)) hx hb hK hP hD hS 1 0 rfl rfl (show i < 512 by omega) (by decide) dX0_cover_65 (fun H locs hP hS => ?_)
          have hP : va_P (dC, dI) vwCl (cb_w h a cI (nI N) (upd (cb_cov f (k / 32) i) i (cb_cov f (k / 32) i i ||| 2))) H := hP
          refine lv_iinc (v := (nI (i + 1))) (lv' := [(5, .int (nI (i + 1))), (4, .int (nI ((k + z - 1) / 32))), (3, .int (nI (k / 32))), (0, .ref h), (1, .int (nI k)), (2, .int (nI z))]) hx hb dX0_cover_66 hl (k := 0) rfl (nI_1 _) (by decide) rfl (fun ls hl => ?_)
          refine lv_goto (tgt := 48) hx hb dX0_cover_69 (by decide) ?_
          exact kk _ _ _ ⟨by rw [← cb_cov_s hji]; exact hP, hS, lv_sub hl [0, 1, 2, 3, 4, 5] rfl⟩
    · exact absurd (by rw [pk_sub (by omega)]; exact nI_le (by omega) (by omega)) hd
set_option maxHeartbeats 4000000 in
set_option maxRecDepth 100000 in
/-- clean(k, b) -/
theorem c_clean (l : Launch) (dC : Nat → ClassId) (dI : Nat → Nat → Nat) (h a : Nat) (cI : ClassId) (N : Nat) (f : Nat → Int32) (k : Nat) (b : Int32) (h1 : 1 ≤ N) (h2 : N ≤ 16384) (hk : k < (cb_cc N)) (hne : h ≠ a) : Met l yX0_clean wsX0_clean ({ frames := 3, cells := 0, slots := 0, locals := 70 }) (cb_Pc (dC, dI) [.ref h, .int (nI k), .int b] (cb_w h a cI (nI N) f) [(cI, .int)]) (va_Qi (fun (r9 : Int32) (_ : Unit) => (if f k &&& 1 = 0 then (0 : Int32) else 1) = r9) (fun _ t9 => va_P (dC, dI) vwCl (cb_w h a cI (nI N) (cb_cl f k b)) t9.heap) (cb_A h a)) 0 0 (cb_A h a) := by
  refine Met.ofW (cc := cX0_clean) (maxL := 4) (ret := (some .boolean)) (by decide) rfl ?_
  intro p e s m args below meth c s₁ B hml hv
  obtain ⟨rfl, hP, hK⟩ := hv
  have hx := B.exec
  have hb := B.bytes
  have hr := B.returns
  have hts := atoms_spec (ws := wsX0_clean) B.pre
  have hown : s.vm.findClass RX0 = some m.cls := findClass_of_methodNamed B.named
  have hlocks := B.notSynchronized
  have hl := lv_entry ([.ref h, .int (nI k), .int b]) (n := 4) (Nat.le_of_ble_eq_true rfl)
  rw [lg_entry_eq]
  generalize (lg_sl ([.ref h, .int (nI k), .int b]) ++ List.replicate (4 - (lg_sl ([.ref h, .int (nI k), .int b])).length) Slot.unset).toArray = ls at hl ⊢
  have hl : lv_has ls 4 [(0, .ref h), (1, .int (nI k)), (2, .int b)] := hl
  have hD := cb_D (cI := cI) (n := nI N) (f := f) hne
  have hS : va_S (cb_A h a) s.heap s.heap [] := va_S.rf
  refine lv_aload_n hx hb dX0_clean_0 rfl (lv_at hl 0 rfl) ?_
  refine lv_iload_n hx hb dX0_clean_1 rfl (lv_at hl 1 rfl) ?_
  refine cl_callv (W.runV (As := [.int (nI k)]) (rest := []) ⟨hx, hb, hml, hown, hts⟩ (c_requireCard l dC dI h a cI N f k h1 h2 hk) (cwV 1 hts gX0_clean_X0_requireCard rfl rfl rfl (by decide +kernel) ⟨Nat.le_of_ble_eq_true rfl, Nat.le_of_ble_eq_true rfl⟩) (cb_preV hK hP [.int (nI k)]) rfl rfl hl.1 rfl (lv_room (Nat.le_of_ble_eq_true rfl)) dX0_clean_2 ⟨Nat.zero_le _, Nat.zero_le _⟩) ?_
  refine lv_aload_n hx hb dX0_clean_5 rfl (lv_at hl 0 rfl) ?_
  refine lv_iload_n hx hb dX0_clean_6 rfl (lv_at hl 1 rfl) ?_
  refine lv_iconst (v := 1) hx hb dX0_clean_7 (by decide) ?_
  have hk5 : k < 512 := by have := cb_cc_le h2; omega
  refine va_calli (va_runV (As := [.int (nI k), .int 1]) (rest := []) ⟨hx, hb, hml, hown, hts⟩ (c_removeMark l dC dI h a cI N f k 1 hne hk5) (cwV 2 hts gX0_clean_X0_removeMark rfl rfl rfl (by decide +kernel) ⟨Nat.le_of_ble_eq_true rfl, Nat.le_of_ble_eq_true rfl⟩) (cb_preV hK hP [.int (nI k), .int 1]) rfl rfl hl.1 rfl (lv_room (Nat.le_of_ble_eq_true rfl)) dX0_clean_8 ⟨Nat.zero_le _, Nat.zero_le _⟩) hS (fun q _ h9 => h9) (fun q h9 => h9) (fun r9 u9 t9 H locs ht9 hvm9 hw9 hP9 hz9 hk9 hS => ?_)
  rw [ht9] at hP9
  have hP := hP9
  subst hw9
  have hD := cb_D (cI := cI) (n := nI N) (f := upd f k (f k &&& (1 ^^^ (-1)))) hne
  refine lv_istore_n (lv' := [(3, .int (if f k &&& 1 = 0 then (0 : Int32) else 1)), (0, .ref h), (1, .int (nI k)), (2, .int b)]) hx hb dX0_clean_11 rfl hl (by decide) rfl (fun ls hl => ?_)
  refine lv_iload_n hx hb dX0_clean_12 rfl (lv_at hl 0 rfl) ?_
  refine lv_if_eq (tgt := 30) hx hb dX0_clean_13 (by decide) (fun hc => ?_) (fun hc => ?_)
  · refine lv_iload_n hx hb dX0_clean_30 rfl (lv_at hl 0 rfl) ?_
    exact W.zret (v := (if f k &&& 1 = 0 then (0 : Int32) else 1)) (ty := .boolean) hx hb hr cb_nb (fun t9 ht9 _ => ⟨⟨_, (), rfl, rfl, cl_at ht9 (by rw [cb_cl_0 (Or.inl (cb_if0 hc))]; exact hP)⟩, hS.F ht9⟩) hS.2.2 dX0_clean_31
  · refine lv_iload_n hx hb dX0_clean_16 rfl (lv_at hl 3 rfl) ?_
    refine lv_if_eq (tgt := 30) hx hb dX0_clean_17 (by decide) (fun hd => ?_) (fun hd => ?_)
    · refine lv_iload_n hx hb dX0_clean_30 rfl (lv_at hl 0 rfl) ?_
      exact W.zret (v := (if f k &&& 1 = 0 then (0 : Int32) else 1)) (ty := .boolean) hx hb hr cb_nb (fun t9 ht9 _ => ⟨⟨_, (), rfl, rfl, cl_at ht9 (by rw [cb_cl_0 (Or.inr hd)]; exact hP)⟩, hS.F ht9⟩) hS.2.2 dX0_clean_31
    · refine lv_aload_n hx hb dX0_clean_20 rfl (lv_at hl 1 rfl) ?_
      refine va_get (D := (dC, dI)) (ci := 0) (v := .ref a) (C := RX0) (T := TX0) (N := 2) hx hb hts (by decide +kernel) hown hK hP 0 rfl rfl 0 (by decide) (hts (.fieldLink RX0 9 "CardBook" "marks" "[I") (by decide +kernel)) (fun _ h9 => h9) rfl dX0_clean_21 ?_
      refine lv_iload_n hx hb dX0_clean_24 rfl (lv_at hl 2 rfl) ?_
      refine lv_dup2_11 hx hb dX0_clean_25 rfl rfl ?_
      refine cl_iald (D := (dC, dI)) hx hb hK hP 1 0 rfl rfl hk5 (by decide) dX0_clean_26 ?_
      refine lv_iconst (v := 2) hx hb dX0_clean_27 (by decide) ?_
      refine lv_ior hx hb dX0_clean_28 ?_
      refine cl_iast (D := (dC, dI)) hx hb hK hP hD hS 1 0 rfl rfl hk5 (by decide) dX0_clean_29 (fun H locs hP hS => ?_)
      have hP : va_P (dC, dI) vwCl (cb_w h a cI (nI N) (upd (upd f k (f k &&& (1 ^^^ (-1)))) k (upd f k (f k &&& (1 ^^^ (-1))) k ||| 2))) H := hP
      refine lv_iload_n hx hb dX0_clean_30 rfl (lv_at hl 0 rfl) ?_
      exact W.zret (v := (if f k &&& 1 = 0 then (0 : Int32) else 1)) (ty := .boolean) hx hb hr cb_nb (fun t9 ht9 _ => ⟨⟨_, (), rfl, rfl, cl_at ht9 (by rw [cb_cl_1 (cb_if1 hc) hd]; exact hP)⟩, hS.F ht9⟩) hS.2.2 dX0_clean_31
set_option maxHeartbeats 4000000 in
set_option maxRecDepth 100000 in
/-- unsave(k) -/
theorem c_unsave (l : Launch) (dC : Nat → ClassId) (dI : Nat → Nat → Nat) (h a : Nat) (cI : ClassId) (N : Nat) (f : Nat → Int32) (k : Nat) (h1 : 1 ≤ N) (h2 : N ≤ 16384) (hk : k < (cb_cc N)) (hne : h ≠ a) : Met l yX0_unsave wsX0_unsave ({ frames := 3, cells := 0, slots := 0, locals := 70 }) (cb_Pc (dC, dI) [.ref h, .int (nI k)] (cb_w h a cI (nI N) f) [(cI, .int)]) (va_Qi (fun (r9 : Int32) (_ : Unit) => (if f k &&& 2 = 0 then (0 : Int32) else 1) = r9) (fun _ t9 => va_P (dC, dI) vwCl (cb_w h a cI (nI N) (upd f k (f k &&& (2 ^^^ (-1))))) t9.heap) (cb_A h a)) 0 0 (cb_A h a) := by
  refine Met.ofW (cc := cX0_unsave) (maxL := 2) (ret := (some .boolean)) (by decide) rfl ?_
  intro p e s m args below meth c s₁ B hml hv
  obtain ⟨rfl, hP, hK⟩ := hv
  have hx := B.exec
  have hb := B.bytes
  have hr := B.returns
  have hts := atoms_spec (ws := wsX0_unsave) B.pre
  have hown : s.vm.findClass RX0 = some m.cls := findClass_of_methodNamed B.named
  have hlocks := B.notSynchronized
  have hl := lv_entry ([.ref h, .int (nI k)]) (n := 2) (Nat.le_of_ble_eq_true rfl)
  rw [lg_entry_eq]
  generalize (lg_sl ([.ref h, .int (nI k)]) ++ List.replicate (2 - (lg_sl ([.ref h, .int (nI k)])).length) Slot.unset).toArray = ls at hl ⊢
  have hl : lv_has ls 2 [(0, .ref h), (1, .int (nI k))] := hl
  have hD := cb_D (cI := cI) (n := nI N) (f := f) hne
  have hS : va_S (cb_A h a) s.heap s.heap [] := va_S.rf
  refine lv_aload_n hx hb dX0_unsave_0 rfl (lv_at hl 0 rfl) ?_
  refine lv_iload_n hx hb dX0_unsave_1 rfl (lv_at hl 1 rfl) ?_
  refine cl_callv (W.runV (As := [.int (nI k)]) (rest := []) ⟨hx, hb, hml, hown, hts⟩ (c_requireCard l dC dI h a cI N f k h1 h2 hk) (cwV 1 hts gX0_unsave_X0_requireCard rfl rfl rfl (by decide +kernel) ⟨Nat.le_of_ble_eq_true rfl, Nat.le_of_ble_eq_true rfl⟩) (cb_preV hK hP [.int (nI k)]) rfl rfl hl.1 rfl (lv_room (Nat.le_of_ble_eq_true rfl)) dX0_unsave_2 ⟨Nat.zero_le _, Nat.zero_le _⟩) ?_
  refine lv_aload_n hx hb dX0_unsave_5 rfl (lv_at hl 0 rfl) ?_
  refine lv_iload_n hx hb dX0_unsave_6 rfl (lv_at hl 1 rfl) ?_
  refine lv_iconst (v := 2) hx hb dX0_unsave_7 (by decide) ?_
  have hk5 : k < 512 := by have := cb_cc_le h2; omega
  refine va_calli (va_runV (As := [.int (nI k), .int 2]) (rest := []) ⟨hx, hb, hml, hown, hts⟩ (c_removeMark l dC dI h a cI N f k 2 hne hk5) (cwV 2 hts gX0_unsave_X0_removeMark rfl rfl rfl (by decide +kernel) ⟨Nat.le_of_ble_eq_true rfl, Nat.le_of_ble_eq_true rfl⟩) (cb_preV hK hP [.int (nI k), .int 2]) rfl rfl hl.1 rfl (lv_room (Nat.le_of_ble_eq_true rfl)) dX0_unsave_8 ⟨Nat.zero_le _, Nat.zero_le _⟩) hS (fun q _ h9 => h9) (fun q h9 => h9) (fun r9 u9 t9 H locs ht9 hvm9 hw9 hP9 hz9 hk9 hS => ?_)
  rw [ht9] at hP9
  have hP := hP9
  subst hw9
  exact W.zret (v := (if f k &&& 2 = 0 then (0 : Int32) else 1)) (ty := .boolean) hx hb hr cb_nb (fun t9 ht9 _ => ⟨⟨_, (), rfl, rfl, cl_at ht9 hP⟩, hS.F ht9⟩) hS.2.2 dX0_unsave_11
set_option maxHeartbeats 4000000 in
set_option maxRecDepth 100000 in
/-- card(k) -/
theorem c_card (l : Launch) (dC : Nat → ClassId) (dI : Nat → Nat → Nat) (h a : Nat) (cI : ClassId) (N : Nat) (f : Nat → Int32) (k : Nat) (h1 : 1 ≤ N) (h2 : N ≤ 16384) (hk : k < (cb_cc N)) : Met l yX0_card wsX0_card ({ frames := 3, cells := 0, slots := 0, locals := 70 }) (cb_Pc (dC, dI) [.ref h, .int (nI k)] (cb_w h a cI (nI N) f) [(cI, .int)]) (cl_Q (some (.int (f k)))) 0 0 (fun _ => False) := by
  refine Met.ofW (cc := cX0_card) (maxL := 2) (ret := (some .int)) (by decide) rfl ?_
  intro p e s m args below meth c s₁ B hml hv
  obtain ⟨rfl, hP, hK⟩ := hv
  have hx := B.exec
  have hb := B.bytes
  have hr := B.returns
  have hts := atoms_spec (ws := wsX0_card) B.pre
  have hown : s.vm.findClass RX0 = some m.cls := findClass_of_methodNamed B.named
  have hlocks := B.notSynchronized
  have hl := lv_entry ([.ref h, .int (nI k)]) (n := 2) (Nat.le_of_ble_eq_true rfl)
  rw [lg_entry_eq]
  generalize (lg_sl ([.ref h, .int (nI k)]) ++ List.replicate (2 - (lg_sl ([.ref h, .int (nI k)])).length) Slot.unset).toArray = ls at hl ⊢
  have hl : lv_has ls 2 [(0, .ref h), (1, .int (nI k))] := hl
  refine lv_aload_n hx hb dX0_card_0 rfl (lv_at hl 0 rfl) ?_
  refine lv_iload_n hx hb dX0_card_1 rfl (lv_at hl 1 rfl) ?_
  refine cl_callv (W.runV (As := [.int (nI k)]) (rest := []) ⟨hx, hb, hml, hown, hts⟩ (c_requireCard l dC dI h a cI N f k h1 h2 hk) (cwV 1 hts gX0_card_X0_requireCard rfl rfl rfl (by decide +kernel) ⟨Nat.le_of_ble_eq_true rfl, Nat.le_of_ble_eq_true rfl⟩) (cb_preV hK hP [.int (nI k)]) rfl rfl hl.1 rfl (lv_room (Nat.le_of_ble_eq_true rfl)) dX0_card_2 ⟨Nat.zero_le _, Nat.zero_le _⟩) ?_
  refine lv_aload_n hx hb dX0_card_5 rfl (lv_at hl 0 rfl) ?_
  refine va_get (D := (dC, dI)) (ci := 0) (v := .ref a) (C := RX0) (T := TX0) (N := 2) hx hb hts (by decide +kernel) hown hK hP 0 rfl rfl 0 (by decide) (hts (.fieldLink RX0 9 "CardBook" "marks" "[I") (by decide +kernel)) (fun _ h9 => h9) rfl dX0_card_6 ?_
  refine lv_iload_n hx hb dX0_card_9 rfl (lv_at hl 1 rfl) ?_
  refine cl_iald (D := (dC, dI)) hx hb hK hP 1 0 rfl rfl (show k < 512 by have := cb_cc_le h2; omega) (by decide) dX0_card_10 ?_
  exact W.iret (v := f k) hx hb hr (fun t9 ht9 _ => ⟨rfl, ht9⟩) (fun q9 hq9 => nomatch hq9) dX0_card_11
set_option maxHeartbeats 4000000 in
set_option maxRecDepth 100000 in
/-- nextDirty(j) -/
theorem c_nextDirty (l : Launch) (dC : Nat → ClassId) (dI : Nat → Nat → Nat) (h a : Nat) (cI : ClassId) (N : Nat) (f : Nat → Int32) (j : Nat) (h1 : 1 ≤ N) (h2 : N ≤ 16384) (hj : j < 2 ^ 31) : Met l yX0_nextDirty wsX0_nextDirty ({ frames := 3, cells := 0, slots := 0, locals := 70 }) (cb_Pc (dC, dI) [.ref h, .int (nI j)] (cb_w h a cI (nI N) f) [(cI, .int)]) (cl_Q (some (.int (cb_fw f 1 j (cb_cc N))))) 0 0 (fun _ => False) := by
  refine Met.ofW (cc := cX0_nextDirty) (maxL := 2) (ret := (some .int)) (by decide) rfl ?_
  intro p e s m args below meth c s₁ B hml hv
  obtain ⟨rfl, hP, hK⟩ := hv
  have hx := B.exec
  have hb := B.bytes
  have hr := B.returns
  have hts := atoms_spec (ws := wsX0_nextDirty) B.pre
  have hown : s.vm.findClass RX0 = some m.cls := findClass_of_methodNamed B.named
  have hlocks := B.notSynchronized
  have hl := lv_entry ([.ref h, .int (nI j)]) (n := 2) (Nat.le_of_ble_eq_true rfl)
  rw [lg_entry_eq]
  generalize (lg_sl ([.ref h, .int (nI j)]) ++ List.replicate (2 - (lg_sl ([.ref h, .int (nI j)])).length) Slot.unset).toArray = ls at hl ⊢
  have hl : lv_has ls 2 [(0, .ref h), (1, .int (nI j))] := hl
  refine lv_aload_n hx hb dX0_nextDirty_0 rfl (lv_at hl 0 rfl) ?_
  refine lv_iconst (v := 1) hx hb dX0_nextDirty_1 (by decide) ?_
  refine lv_iload_n hx hb dX0_nextDirty_2 rfl (lv_at hl 1 rfl) ?_
  refine cl_calli (W.runV (As := [.int 1, .int (nI j)]) (rest := []) ⟨hx, hb, hml, hown, hts⟩ (c_firstWith l dC dI h a cI N f 1 j h1 h2 hj) (cwV 2 hts gX0_nextDirty_X0_firstWith rfl rfl rfl (by decide +kernel) ⟨Nat.le_of_ble_eq_true rfl, Nat.le_of_ble_eq_true rfl⟩) (cb_preV hK hP [.int 1, .int (nI j)]) rfl rfl hl.1 rfl (lv_room (Nat.le_of_ble_eq_true rfl)) dX0_nextDirty_3 ⟨Nat.zero_le _, Nat.zero_le _⟩) ?_
  exact W.iret (v := cb_fw f 1 j (cb_cc N)) hx hb hr (fun t9 ht9 _ => ⟨rfl, ht9⟩) (fun q9 hq9 => nomatch hq9) dX0_nextDirty_6
set_option maxHeartbeats 4000000 in
set_option maxRecDepth 100000 in
/-- nextSaved(j) -/
theorem c_nextSaved (l : Launch) (dC : Nat → ClassId) (dI : Nat → Nat → Nat) (h a : Nat) (cI : ClassId) (N : Nat) (f : Nat → Int32) (j : Nat) (h1 : 1 ≤ N) (h2 : N ≤ 16384) (hj : j < 2 ^ 31) : Met l yX0_nextSaved wsX0_nextSaved ({ frames := 3, cells := 0, slots := 0, locals := 70 }) (cb_Pc (dC, dI) [.ref h, .int (nI j)] (cb_w h a cI (nI N) f) [(cI, .int)]) (cl_Q (some (.int (cb_fw f 2 j (cb_cc N))))) 0 0 (fun _ => False) := by
  refine Met.ofW (cc := cX0_nextSaved) (maxL := 2) (ret := (some .int)) (by decide) rfl ?_
  intro p e s m args below meth c s₁ B hml hv
  obtain ⟨rfl, hP, hK⟩ := hv
  have hx := B.exec
  have hb := B.bytes
  have hr := B.returns
  have hts := atoms_spec (ws := wsX0_nextSaved) B.pre
  have hown : s.vm.findClass RX0 = some m.cls := findClass_of_methodNamed B.named
  have hlocks := B.notSynchronized
  have hl := lv_entry ([.ref h, .int (nI j)]) (n := 2) (Nat.le_of_ble_eq_true rfl)
  rw [lg_entry_eq]
  generalize (lg_sl ([.ref h, .int (nI j)]) ++ List.replicate (2 - (lg_sl ([.ref h, .int (nI j)])).length) Slot.unset).toArray = ls at hl ⊢
  have hl : lv_has ls 2 [(0, .ref h), (1, .int (nI j))] := hl
  refine lv_aload_n hx hb dX0_nextSaved_0 rfl (lv_at hl 0 rfl) ?_
  refine lv_iconst (v := 2) hx hb dX0_nextSaved_1 (by decide) ?_
  refine lv_iload_n hx hb dX0_nextSaved_2 rfl (lv_at hl 1 rfl) ?_
  refine cl_calli (W.runV (As := [.int 2, .int (nI j)]) (rest := []) ⟨hx, hb, hml, hown, hts⟩ (c_firstWith l dC dI h a cI N f 2 j h1 h2 hj) (cwV 2 hts gX0_nextSaved_X0_firstWith rfl rfl rfl (by decide +kernel) ⟨Nat.le_of_ble_eq_true rfl, Nat.le_of_ble_eq_true rfl⟩) (cb_preV hK hP [.int 2, .int (nI j)]) rfl rfl hl.1 rfl (lv_room (Nat.le_of_ble_eq_true rfl)) dX0_nextSaved_3 ⟨Nat.zero_le _, Nat.zero_le _⟩) ?_
  exact W.iret (v := cb_fw f 2 j (cb_cc N)) hx hb hr (fun t9 ht9 _ => ⟨rfl, ht9⟩) (fun q9 hq9 => nomatch hq9) dX0_nextSaved_6
set_option maxHeartbeats 4000000 in
set_option maxRecDepth 100000 in
/-- count(q) -/
theorem c_count (l : Launch) (dC : Nat → ClassId) (dI : Nat → Nat → Nat) (h a : Nat) (cI : ClassId) (N : Nat) (f : Nat → Int32) (q : Nat) (h1 : 1 ≤ N) (h2 : N ≤ 16384) (hq : q < 4) : Met l yX0_count wsX0_count ({ frames := 3, cells := 0, slots := 0, locals := 70 }) (cb_Pc (dC, dI) [.ref h, .int (nI q)] (cb_w h a cI (nI N) f) [(cI, .int)]) (cl_Q (some (.int (cb_cnt f N q)))) 0 0 (fun _ => False) := by
  refine Met.ofW (cc := cX0_count) (maxL := 2) (ret := (some .int)) (by decide) rfl ?_
  intro p e s m args below meth c s₁ B hml hv
  obtain ⟨rfl, hP, hK⟩ := hv
  have hx := B.exec
  have hb := B.bytes
  have hr := B.returns
  have hts := atoms_spec (ws := wsX0_count) B.pre
  have hown : s.vm.findClass RX0 = some m.cls := findClass_of_methodNamed B.named
  have hlocks := B.notSynchronized
  have hl := lv_entry ([.ref h, .int (nI q)]) (n := 2) (Nat.le_of_ble_eq_true rfl)
  rw [lg_entry_eq]
  generalize (lg_sl ([.ref h, .int (nI q)]) ++ List.replicate (2 - (lg_sl ([.ref h, .int (nI q)])).length) Slot.unset).toArray = ls at hl ⊢
  have hl : lv_has ls 2 [(0, .ref h), (1, .int (nI q))] := hl
  refine lv_iload_n hx hb dX0_count_0 rfl (lv_at hl 1 rfl) ?_
  match q, hq with
  | 0, hq =>
    refine lv_tableIn (tgt := 32) hx hb dX0_count_1 (by decide) (by decide) rfl (by decide) ?_
    refine lv_aload_n hx hb dX0_count_32 rfl (lv_at hl 0 rfl) ?_
    refine va_get (D := (dC, dI)) (ci := 0) (v := .int (nI N)) (C := RX0) (T := TX0) (N := 2) hx hb hts (by decide +kernel) hown hK hP 0 rfl rfl 1 (by decide) (hts (.fieldLink RX0 13 "CardBook" "cells" "I") (by decide +kernel)) (fun _ h9 => h9) rfl dX0_count_33 ?_
    exact W.iret (v := nI N) hx hb hr (fun t9 ht9 _ => ⟨rfl, ht9⟩) (fun q9 hq9 => nomatch hq9) dX0_count_36
  | 1, hq =>
    refine lv_tableIn (tgt := 37) hx hb dX0_count_1 (by decide) (by decide) rfl (by decide) ?_
    refine lv_aload_n hx hb dX0_count_37 rfl (lv_at hl 0 rfl) ?_
    refine cl_calli (W.runV (As := []) (rest := []) ⟨hx, hb, hml, hown, hts⟩ (c_cardCount l dC dI h a cI N f h1 h2) (cwV 0 hts gX0_count_X0_cardCount rfl rfl rfl (by decide +kernel) ⟨Nat.le_of_ble_eq_true rfl, Nat.le_of_ble_eq_true rfl⟩) (cb_preV hK hP []) rfl rfl hl.1 rfl (lv_room (Nat.le_of_ble_eq_true rfl)) dX0_count_38 ⟨Nat.zero_le _, Nat.zero_le _⟩) ?_
    exact W.iret (v := nI (cb_cc N)) hx hb hr (fun t9 ht9 _ => ⟨rfl, ht9⟩) (fun q9 hq9 => nomatch hq9) dX0_count_41
  | 2, hq =>
    refine lv_tableIn (tgt := 42) hx hb dX0_count_1 (by decide) (by decide) rfl (by decide) ?_
    refine lv_aload_n hx hb dX0_count_42 rfl (lv_at hl 0 rfl) ?_
    refine lv_iconst (v := 1) hx hb dX0_count_43 (by decide) ?_
    refine cl_calli (W.runV (As := [.int 1]) (rest := []) ⟨hx, hb, hml, hown, hts⟩ (c_countWith l dC dI h a cI N f 1 h1 h2) (cwV 1 hts gX0_count_X0_countWith rfl rfl rfl (by decide +kernel) ⟨Nat.le_of_ble_eq_true rfl, Nat.le_of_ble_eq_true rfl⟩) (cb_preV hK hP [.int 1]) rfl rfl hl.1 rfl (lv_room (Nat.le_of_ble_eq_true rfl)) dX0_count_44 ⟨Nat.zero_le _, Nat.zero_le _⟩) ?_
    exact W.iret (v := nI (cb_ct f 1 (cb_cc N))) hx hb hr (fun t9 ht9 _ => ⟨rfl, ht9⟩) (fun q9 hq9 => nomatch hq9) dX0_count_47
  | 3, hq =>
    refine lv_tableIn (tgt := 48) hx hb dX0_count_1 (by decide) (by decide) rfl (by decide) ?_
    refine lv_aload_n hx hb dX0_count_48 rfl (lv_at hl 0 rfl) ?_
    refine lv_iconst (v := 2) hx hb dX0_count_49 (by decide) ?_
    refine cl_calli (W.runV (As := [.int 2]) (rest := []) ⟨hx, hb, hml, hown, hts⟩ (c_countWith l dC dI h a cI N f 2 h1 h2) (cwV 1 hts gX0_count_X0_countWith rfl rfl rfl (by decide +kernel) ⟨Nat.le_of_ble_eq_true rfl, Nat.le_of_ble_eq_true rfl⟩) (cb_preV hK hP [.int 2]) rfl rfl hl.1 rfl (lv_room (Nat.le_of_ble_eq_true rfl)) dX0_count_50 ⟨Nat.zero_le _, Nat.zero_le _⟩) ?_
    exact W.iret (v := nI (cb_ct f 2 (cb_cc N))) hx hb hr (fun t9 ht9 _ => ⟨rfl, ht9⟩) (fun q9 hq9 => nomatch hq9) dX0_count_53
