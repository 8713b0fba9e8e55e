def cb_str : List (Nat × String) := [(60, "no such cell"), (62, "no such card"), (64, "the card is below 0"), (19, "the number of cells is not 1 .. 16384"), (38, "no such row of cells"), (58, "what is counted is not 0 .. 3")]
/-- the words of a throw that ride by their face alone -/
def cb_nw : List Cond := [.castable "java/lang/IllegalArgumentException" "java/lang/IllegalArgumentException", .castable "java/lang/IndexOutOfBoundsException" "java/lang/IndexOutOfBoundsException", .declares (Bundle.initS "java/lang/RuntimeException"), .declares (Bundle.initS "java/lang/Exception"), .declares (Bundle.initS Bundle.tN)]
theorem cb_nw_ok : ∀ w ∈ cb_nw, (w.onTables && w.keepsFace) = true := by decide +kernel
/-- what a throw of the class asks of the heap and of the constants -/
def cb_J (U : State) : Prop := xt_I U ∧ (∀ q ∈ cb_str, ∃ sa : Nat, vk_R RX0 q.1 q.2 sa U) ∧ ∀ w ∈ cb_nw, w.before #[] U = true
theorem cb_J.to {s U : State} (hW : s.WarmedH U.vm) (hh : ∀ q : Nat, q < s.heap.size → U.heap[q]? = s.heap[q]?) (h : cb_J s) : cb_J U := ⟨xt_I.to hW.alike hh h.1, fun q hq => by
  obtain ⟨sa, h1⟩ := h.2.1 q hq
  exact ⟨sa, vk_R.warm hW h1⟩, fun w hw => xt_ride hW (cb_nw_ok w hw) (h.2.2 w hw)⟩
def cb_Pt (D : va_G) (av : List Value) (ws : va_W) (tys : List (ClassId × FieldType)) : Array Value → State → Prop := va_Pc av (fun U => va_P D vwCl ws U.heap ∧ va_K D vwCl tys U ∧ cb_J U)
theorem cb_blindT {D : va_G} {av : List Value} {ws : va_W} {tys : List (ClassId × FieldType)} : FrameBlind (cb_Pt D av ws tys) := fun a U g mk q => ⟨q.1, q.2.1, va_K.moved (u := U) (U := U.calling g mk a) (Vm.Alike.refl U.vm) q.2.2.1, cb_J.to (s := U) (U := U.calling g mk a) (State.WarmedH.refl U) (fun _ _ => rfl) q.2.2.2⟩
theorem cb_preT {s : State} {D : va_G} {h ad : Nat} {cI : ClassId} {n : Int32} {f : Nat → Int32} (hJ : cb_J s) (hK : va_K D vwCl [(cI, .int)] s) (hP : va_P D vwCl (cb_w h ad cI n f) s.heap) (As : List Value) : PreV s s.heap RX0 h (cb_Pt D (.ref h :: As) (cb_w h ad cI n f) [(cI, .int)]) As :=
  ⟨cb_blindT, va_recv hK hP (ci := 0) (q0 := 0) rfl rfl, fun U hU hW => ⟨rfl, by rw [hU]; exact hP, va_K.moved hW.alike hK, cb_J.to hW (fun q _ => by rw [hU]) hJ⟩⟩
set_option maxHeartbeats 4000000 in
set_option maxRecDepth 100000 in
/-- requireCell(x), where there is none -/
theorem t_requireCell (l : Launch) (hst : l.stackTraces = false) (dC : Nat → ClassId) (dI : Nat → Nat → Nat) (h a : Nat) (cI : ClassId) (N : Nat) (f : Nat → Int32) (x : Int32) (hbad : x < 0 ∨ ¬ x < nI N) : xt_Met l yX0_requireCell wsX0_requireCell ({ frames := 6, cells := 1, slots := 6, locals := 100 }) (cb_Pt (dC, dI) [.ref h, .int x] (cb_w h a cI (nI N) f) [(cI, .int)]) "java/lang/IndexOutOfBoundsException" := by
  refine xt_ofW (cc := cX0_requireCell) (maxL := 2) (ret := none) (by decide) rfl ?_
  intro p e s m args below meth c s₁ B hml htab hv
  obtain ⟨rfl, hP, hK, hJ⟩ := hv
  have hx := B.exec
  have hb := B.bytes
  have hr := B.returns
  have hts := atoms_spec (ws := wsX0_requireCell) B.pre
  have hown : s.vm.findClass RX0 = some m.cls := findClass_of_methodNamed B.named
  have hlocks := B.notSynchronized
  have hl := lv_entry ([.ref h, .int x]) (n := 2) (Nat.le_of_ble_eq_true rfl)
  rw [lg_entry_eq]
  generalize (lg_sl ([.ref h, .int x]) ++ List.replicate (2 - (lg_sl ([.ref h, .int x])).length) Slot.unset).toArray = ls at hl ⊢
  have hl : lv_has ls 2 [(0, .ref h), (1, .int x)] := hl
  refine lv_iload_n hx hb dX0_requireCell_0 rfl (lv_at hl 1 rfl) ?_
  refine lv_if_lt (tgt := 12) hx hb dX0_requireCell_1 (by decide) (fun hc => ?_) (fun hc => ?_)
  · obtain ⟨sa, hsa⟩ := hJ.2.1 (60, "no such cell") (by decide)
    exact xt_throw (own := RX0) (E := "java/lang/IndexOutOfBoundsException") (names := ["java/lang/RuntimeException", "java/lang/Exception"]) (ic := 40) (text := "no such cell") (sa := sa) hx hb hst hown (by decide) (by decide) (xt_all hJ.1 (fun w hw => hts w (List.mem_cons_of_mem _ (List.mem_append_right _ hw))) (by decide +kernel) cb_nw_ok hJ.2.2) (hts (.classLink RX0 36 "java/lang/IndexOutOfBoundsException") (by decide +kernel)) (hts (.initialized "java/lang/IndexOutOfBoundsException") (by decide +kernel)) hsa (hl.1.trans hml.symm) dX0_requireCell_12 dX0_requireCell_15 dX0_requireCell_16 dX0_requireCell_18 dX0_requireCell_21 htab (by decide) (by decide) (by decide) (by decide) hlocks
  · refine lv_iload_n hx hb dX0_requireCell_4 rfl (lv_at hl 1 rfl) ?_
    refine lv_aload_n hx hb dX0_requireCell_5 rfl (lv_at hl 0 rfl) ?_
    refine va_get (D := (dC, dI)) (ci := 0) (v := .int (nI N)) (C := RX0) (T := TX0) (N := 2) hx hb hts (by decide +kernel) hown hK hP 0 rfl rfl 1 (by decide) (hts (.fieldLink RX0 13 "CardBook" "cells" "I") (by decide +kernel)) (fun _ h9 => h9) rfl dX0_requireCell_6 ?_
    refine lv_icmp_lt (tgt := 22) hx hb dX0_requireCell_9 (by decide) (fun hd => ?_) (fun hd => ?_)
    · exact absurd hd (hbad.resolve_left hc)
    · obtain ⟨sa, hsa⟩ := hJ.2.1 (60, "no such cell") (by decide)
      exact xt_throw (own := RX0) (E := "java/lang/IndexOutOfBoundsException") (names := ["java/lang/RuntimeException", "java/lang/Exception"]) (ic := 40) (text := "no such cell") (sa := sa) hx hb hst hown (by decide) (by decide) (xt_all hJ.1 (fun w hw => hts w (List.mem_cons_of_mem _ (List.mem_append_right _ hw))) (by decide +kernel) cb_nw_ok hJ.2.2) (hts (.classLink RX0 36 "java/lang/IndexOutOfBoundsException") (by decide +kernel)) (hts (.initialized "java/lang/IndexOutOfBoundsException") (by decide +kernel)) hsa (hl.1.trans hml.symm) dX0_requireCell_12 dX0_requireCell_15 dX0_requireCell_16 dX0_requireCell_18 dX0_requireCell_21 htab (by decide) (by decide) (by decide) (by decide) hlocks
set_option maxHeartbeats 4000000 in
set_option maxRecDepth 100000 in
/-- requireCard(x), where there is none -/
theorem t_requireCard (l : Launch) (hst : l.stackTraces = false) (dC : Nat → ClassId) (dI : Nat → Nat → Nat) (h a : Nat) (cI : ClassId) (N : Nat) (f : Nat → Int32) (x : Int32) (h1 : 1 ≤ N) (h2 : N ≤ 16384) (hbad : x < 0 ∨ ¬ x < nI (cb_cc N)) : xt_Met l yX0_requireCard wsX0_requireCard ({ frames := 6, cells := 1, slots := 6, locals := 100 }) (cb_Pt (dC, dI) [.ref h, .int x] (cb_w h a cI (nI N) f) [(cI, .int)]) "java/lang/IndexOutOfBoundsException" := by
  refine xt_ofW (cc := cX0_requireCard) (maxL := 2) (ret := none) (by decide) rfl ?_
  intro p e s m args below meth c s₁ B hml htab hv
  obtain ⟨rfl, hP, hK, hJ⟩ := hv
  have hx := B.exec
  have hb := B.bytes
  have hr := B.returns
  have hts := atoms_spec (ws := wsX0_requireCard) B.pre
  have hown : s.vm.findClass RX0 = some m.cls := findClass_of_methodNamed B.named
  have hlocks := B.notSynchronized
  have hl := lv_entry ([.ref h, .int x]) (n := 2) (Nat.le_of_ble_eq_true rfl)
  rw [lg_entry_eq]
  generalize (lg_sl ([.ref h, .int x]) ++ List.replicate (2 - (lg_sl ([.ref h, .int x])).length) Slot.unset).toArray = ls at hl ⊢
  have hl : lv_has ls 2 [(0, .ref h), (1, .int x)] := hl
  refine lv_iload_n hx hb dX0_requireCard_0 rfl (lv_at hl 1 rfl) ?_
  refine lv_if_lt (tgt := 12) hx hb dX0_requireCard_1 (by decide) (fun hc => ?_) (fun hc => ?_)
  · obtain ⟨sa, hsa⟩ := hJ.2.1 (62, "no such card") (by decide)
    exact xt_throw (own := RX0) (E := "java/lang/IndexOutOfBoundsException") (names := ["java/lang/RuntimeException", "java/lang/Exception"]) (ic := 40) (text := "no such card") (sa := sa) hx hb hst hown (by decide) (by decide) (xt_all hJ.1 (fun w hw => hts w (List.mem_cons_of_mem _ (List.mem_append_right _ hw))) (by decide +kernel) cb_nw_ok hJ.2.2) (hts (.classLink RX0 36 "java/lang/IndexOutOfBoundsException") (by decide +kernel)) (hts (.initialized "java/lang/IndexOutOfBoundsException") (by decide +kernel)) hsa (hl.1.trans hml.symm) dX0_requireCard_12 dX0_requireCard_15 dX0_requireCard_16 dX0_requireCard_18 dX0_requireCard_21 htab (by decide) (by decide) (by decide) (by decide) hlocks
  · refine lv_iload_n hx hb dX0_requireCard_4 rfl (lv_at hl 1 rfl) ?_
    refine lv_aload_n hx hb dX0_requireCard_5 rfl (lv_at hl 0 rfl) ?_
    refine cl_calli (W.runV (As := []) (rest := [.int x]) ⟨hx, hb, hml, hown, hts⟩ (c_cardCount l dC dI h a cI N f h1 h2) (cwV 0 hts gX0_requireCard_X0_cardCount rfl rfl rfl (by decide +kernel) ⟨Nat.le_of_ble_eq_true rfl, Nat.le_of_ble_eq_true rfl⟩) (cb_preV hK hP []) rfl rfl hl.1 rfl (lv_room (Nat.le_of_ble_eq_true rfl)) dX0_requireCard_6 ⟨Nat.zero_le _, Nat.zero_le _⟩) ?_
    refine lv_icmp_lt (tgt := 22) hx hb dX0_requireCard_9 (by decide) (fun hd => ?_) (fun hd => ?_)
    · exact absurd hd (hbad.resolve_left hc)
    · obtain ⟨sa, hsa⟩ := hJ.2.1 (62, "no such card") (by decide)
      exact xt_throw (own := RX0) (E := "java/lang/IndexOutOfBoundsException") (names := ["java/lang/RuntimeException", "java/lang/Exception"]) (ic := 40) (text := "no such card") (sa := sa) hx hb hst hown (by decide) (by decide) (xt_all hJ.1 (fun w hw => hts w (List.mem_cons_of_mem _ (List.mem_append_right _ hw))) (by decide +kernel) cb_nw_ok hJ.2.2) (hts (.classLink RX0 36 "java/lang/IndexOutOfBoundsException") (by decide +kernel)) (hts (.initialized "java/lang/IndexOutOfBoundsException") (by decide +kernel)) hsa (hl.1.trans hml.symm) dX0_requireCard_12 dX0_requireCard_15 dX0_requireCard_16 dX0_requireCard_18 dX0_requireCard_21 htab (by decide) (by decide) (by decide) (by decide) hlocks
set_option maxHeartbeats 4000000 in
set_option maxRecDepth 100000 in
/-- firstWith(v, x), x below 0 -/
theorem t_firstWith (l : Launch) (hst : l.stackTraces = false) (dC : Nat → ClassId) (dI : Nat → Nat → Nat) (h a : Nat) (cI : ClassId) (N : Nat) (f : Nat → Int32) (v x : Int32) (hbad : x < 0) : xt_Met l yX0_firstWith wsX0_firstWith ({ frames := 6, cells := 1, slots := 6, locals := 100 }) (cb_Pt (dC, dI) [.ref h, .int v, .int x] (cb_w h a cI (nI N) f) [(cI, .int)]) "java/lang/IllegalArgumentException" := by
  refine xt_ofW (cc := cX0_firstWith) (maxL := 5) (ret := (some .int)) (by decide) rfl ?_
  intro p e s m args below meth c s₁ B hml htab hv
  obtain ⟨rfl, hP, hK, hJ⟩ := hv
  have hx := B.exec
  have hb := B.bytes
  have hr := B.returns
  have hts := atoms_spec (ws := wsX0_firstWith) B.pre
  have hown : s.vm.findClass RX0 = some m.cls := findClass_of_methodNamed B.named
  have hlocks := B.notSynchronized
  have hl := lv_entry ([.ref h, .int v, .int x]) (n := 5) (Nat.le_of_ble_eq_true rfl)
  rw [lg_entry_eq]
  generalize (lg_sl ([.ref h, .int v, .int x]) ++ List.replicate (5 - (lg_sl ([.ref h, .int v, .int x])).length) Slot.unset).toArray = ls at hl ⊢
  have hl : lv_has ls 5 [(0, .ref h), (1, .int v), (2, .int x)] := hl
  refine lv_iload_n hx hb dX0_firstWith_0 rfl (lv_at hl 2 rfl) ?_
  refine lv_if_ge (tgt := 14) hx hb dX0_firstWith_1 (by decide) (fun hc => ?_) (fun hc => ?_)
  · exact absurd hbad (Int32.not_lt.mpr hc)
  · obtain ⟨sa, hsa⟩ := hJ.2.1 (64, "the card is below 0") (by decide)
    exact xt_throw (own := RX0) (E := "java/lang/IllegalArgumentException") (names := ["java/lang/RuntimeException", "java/lang/Exception"]) (ic := 21) (text := "the card is below 0") (sa := sa) hx hb hst hown (by decide) (by decide) (xt_all hJ.1 (fun w hw => hts w (List.mem_cons_of_mem _ (List.mem_append_right _ hw))) (by decide +kernel) cb_nw_ok hJ.2.2) (hts (.classLink RX0 17 "java/lang/IllegalArgumentException") (by decide +kernel)) (hts (.initialized "java/lang/IllegalArgumentException") (by decide +kernel)) hsa (hl.1.trans hml.symm) dX0_firstWith_4 dX0_firstWith_7 dX0_firstWith_8 dX0_firstWith_10 dX0_firstWith_13 htab (by decide) (by decide) (by decide) (by decide) hlocks
set_option maxHeartbeats 4000000 in
set_option maxRecDepth 100000 in
/-- space(x), x is not 1 .. 16384 -/
theorem t_space (l : Launch) (hst : l.stackTraces = false) (dC : Nat → ClassId) (dI : Nat → Nat → Nat) (h a : Nat) (cI : ClassId) (N : Nat) (f : Nat → Int32) (x : Int32) (hbad : x < 1 ∨ ¬ x ≤ 16384) : xt_Met l yX0_space wsX0_space ({ frames := 7, cells := 1, slots := 6, locals := 140 }) (cb_Pt (dC, dI) [.ref h, .int x] (cb_w h a cI (nI N) f) [(cI, .int)]) "java/lang/IllegalArgumentException" := by
  refine xt_ofW (cc := cX0_space) (maxL := 3) (ret := (some .int)) (by decide) rfl ?_
  intro p e s m args below meth c s₁ B hml htab hv
  obtain ⟨rfl, hP, hK, hJ⟩ := hv
  have hx := B.exec
  have hb := B.bytes
  have hr := B.returns
  have hts := atoms_spec (ws := wsX0_space) B.pre
  have hown : s.vm.findClass RX0 = some m.cls := findClass_of_methodNamed B.named
  have hlocks := B.notSynchronized
  have hl := lv_entry ([.ref h, .int x]) (n := 3) (Nat.le_of_ble_eq_true rfl)
  rw [lg_entry_eq]
  generalize (lg_sl ([.ref h, .int x]) ++ List.replicate (3 - (lg_sl ([.ref h, .int x])).length) Slot.unset).toArray = ls at hl ⊢
  have hl : lv_has ls 3 [(0, .ref h), (1, .int x)] := hl
  refine lv_iload_n hx hb dX0_space_0 rfl (lv_at hl 1 rfl) ?_
  refine lv_iconst (v := 1) hx hb dX0_space_1 (by decide) ?_
  refine lv_icmp_lt (tgt := 12) hx hb dX0_space_2 (by decide) (fun hc => ?_) (fun hc => ?_)
  · obtain ⟨sa, hsa⟩ := hJ.2.1 (19, "the number of cells is not 1 .. 16384") (by decide)
    exact xt_throw (own := RX0) (E := "java/lang/IllegalArgumentException") (names := ["java/lang/RuntimeException", "java/lang/Exception"]) (ic := 21) (text := "the number of cells is not 1 .. 16384") (sa := sa) hx hb hst hown (by decide) (by decide) (xt_all hJ.1 (fun w hw => hts w (List.mem_cons_of_mem _ (List.mem_append_right _ hw))) (by decide +kernel) cb_nw_ok hJ.2.2) (hts (.classLink RX0 17 "java/lang/IllegalArgumentException") (by decide +kernel)) (hts (.initialized "java/lang/IllegalArgumentException") (by decide +kernel)) hsa (hl.1.trans hml.symm) dX0_space_12 dX0_space_15 dX0_space_16 dX0_space_18 dX0_space_21 htab (by decide) (by decide) (by decide) (by decide) hlocks
  · refine lv_iload_n hx hb dX0_space_5 rfl (lv_at hl 1 rfl) ?_
    refine lv_sipush (v := 16384) hx hb dX0_space_6 (by decide) ?_
    refine lv_icmp_le (tgt := 22) hx hb dX0_space_9 (by decide) (fun hd => ?_) (fun hd => ?_)
    · exact absurd hd (hbad.resolve_left hc)
    · obtain ⟨sa, hsa⟩ := hJ.2.1 (19, "the number of cells is not 1 .. 16384") (by decide)
      exact xt_throw (own := RX0) (E := "java/lang/IllegalArgumentException") (names := ["java/lang/RuntimeException", "java/lang/Exception"]) (ic := 21) (text := "the number of cells is not 1 .. 16384") (sa := sa) hx hb hst hown (by decide) (by decide) (xt_all hJ.1 (fun w hw => hts w (List.mem_cons_of_mem _ (List.mem_append_right _ hw))) (by decide +kernel) cb_nw_ok hJ.2.2) (hts (.classLink RX0 17 "java/lang/IllegalArgumentException") (by decide +kernel)) (hts (.initialized "java/lang/IllegalArgumentException") (by decide +kernel)) hsa (hl.1.trans hml.symm) dX0_space_12 dX0_space_15 dX0_space_16 dX0_space_18 dX0_space_21 htab (by decide) (by decide) (by decide) (by decide) hlocks
set_option maxHeartbeats 4000000 in
set_option maxRecDepth 100000 in
/-- count(x), x is none of 0 .. 3 -/
theorem t_count (l : Launch) (hst : l.stackTraces = false) (dC : Nat → ClassId) (dI : Nat → Nat → Nat) (h a : Nat) (cI : ClassId) (N : Nat) (f : Nat → Int32) (x : Int32) (hbad : x.toInt < 0 ∨ 3 < x.toInt) : xt_Met l yX0_count wsX0_count ({ frames := 7, cells := 1, slots := 6, locals := 140 }) (cb_Pt (dC, dI) [.ref h, .int x] (cb_w h a cI (nI N) f) [(cI, .int)]) "java/lang/IllegalArgumentException" := by
  refine xt_ofW (cc := cX0_count) (maxL := 2) (ret := (some .int)) (by decide) rfl ?_
  intro p e s m args below meth c s₁ B hml htab hv
  obtain ⟨rfl, hP, hK, hJ⟩ := hv
  have hx := B.exec
  have hb := B.bytes
  have hr := B.returns
  have hts := atoms_spec (ws := wsX0_count) B.pre
  have hown : s.vm.findClass RX0 = some m.cls := findClass_of_methodNamed B.named
  have hlocks := B.notSynchronized
  have hl := lv_entry ([.ref h, .int x]) (n := 2) (Nat.le_of_ble_eq_true rfl)
  rw [lg_entry_eq]
  generalize (lg_sl ([.ref h, .int x]) ++ List.replicate (2 - (lg_sl ([.ref h, .int x])).length) Slot.unset).toArray = ls at hl ⊢
  have hl : lv_has ls 2 [(0, .ref h), (1, .int x)] := hl
  refine lv_iload_n hx hb dX0_count_0 rfl (lv_at hl 1 rfl) ?_
  refine lv_tableOut (tgt := 54) hx hb dX0_count_1 hbad (by decide) ?_
  obtain ⟨sa, hsa⟩ := hJ.2.1 (58, "what is counted is not 0 .. 3") (by decide)
  exact xt_throw (own := RX0) (E := "java/lang/IllegalArgumentException") (names := ["java/lang/RuntimeException", "java/lang/Exception"]) (ic := 21) (text := "what is counted is not 0 .. 3") (sa := sa) hx hb hst hown (by decide) (by decide) (xt_all hJ.1 (fun w hw => hts w (List.mem_cons_of_mem _ (List.mem_append_right _ hw))) (by decide +kernel) cb_nw_ok hJ.2.2) (hts (.classLink RX0 17 "java/lang/IllegalArgumentException") (by decide +kernel)) (hts (.initialized "java/lang/IllegalArgumentException") (by decide +kernel)) hsa (hl.1.trans hml.symm) dX0_count_54 dX0_count_57 dX0_count_58 dX0_count_60 dX0_count_63 htab (by decide) (by decide) (by decide) (by decide) hlocks
set_option maxHeartbeats 4000000 in
set_option maxRecDepth 100000 in
/-- write(x), where there is no such cell -/
theorem t_write (l : Launch) (hst : l.stackTraces = false) (dC : Nat → ClassId) (dI : Nat → Nat → Nat) (h a : Nat) (cI : ClassId) (N : Nat) (f : Nat → Int32) (x : Int32) (hbad : x < 0 ∨ ¬ x < nI N) : xt_Met l yX0_write wsX0_write ({ frames := 7, cells := 1, slots := 6, locals := 140 }) (cb_Pt (dC, dI) [.ref h, .int x] (cb_w h a cI (nI N) f) [(cI, .int)]) "java/lang/IndexOutOfBoundsException" := by
  refine xt_ofW (cc := cX0_write) (maxL := 3) (ret := (some .int)) (by decide) rfl ?_
  intro p e s m args below meth c s₁ B hml htab hv
  obtain ⟨rfl, hP, hK, hJ⟩ := hv
  have hx := B.exec
  have hb := B.bytes
  have hr := B.returns
  have hts := atoms_spec (ws := wsX0_write) B.pre
  have hown : s.vm.findClass RX0 = some m.cls := findClass_of_methodNamed B.named
  have hlocks := B.notSynchronized
  have hl := lv_entry ([.ref h, .int x]) (n := 3) (Nat.le_of_ble_eq_true rfl)
  rw [lg_entry_eq]
  generalize (lg_sl ([.ref h, .int x]) ++ List.replicate (3 - (lg_sl ([.ref h, .int x])).length) Slot.unset).toArray = ls at hl ⊢
  have hl : lv_has ls 3 [(0, .ref h), (1, .int x)] := hl
  refine lv_aload_n hx hb dX0_write_0 rfl (lv_at hl 0 rfl) ?_
  refine lv_iload_n hx hb dX0_write_1 rfl (lv_at hl 1 rfl) ?_
  exact xt_pass (xt_runV (As := [.int x]) (rest := []) ⟨hx, hb, hml, hown, hts⟩ (t_requireCell l hst dC dI h a cI N f x hbad) (cwV 1 hts gX0_write_X0_requireCell rfl rfl rfl (by decide +kernel) ⟨Nat.le_of_ble_eq_true rfl, Nat.le_of_ble_eq_true rfl⟩) (cb_preT hJ hK hP [.int x]) rfl rfl hl.1 rfl (lv_room (Nat.le_of_ble_eq_true rfl)) dX0_write_2 ⟨Nat.le_refl _, Nat.le_refl _⟩) htab hlocks
set_option maxHeartbeats 4000000 in
set_option maxRecDepth 100000 in
/-- clean, where there is no such card -/
theorem t_clean (l : Launch) (hst : l.stackTraces = false) (dC : Nat → ClassId) (dI : Nat → Nat → Nat) (h a : Nat) (cI : ClassId) (N : Nat) (f : Nat → Int32) (x b : Int32) (h1 : 1 ≤ N) (h2 : N ≤ 16384) (hbad : x < 0 ∨ ¬ x < nI (cb_cc N)) : xt_Met l yX0_clean wsX0_clean ({ frames := 7, cells := 1, slots := 6, locals := 140 }) (cb_Pt (dC, dI) [.ref h, .int x, .int b] (cb_w h a cI (nI N) f) [(cI, .int)]) "java/lang/IndexOutOfBoundsException" := by
  refine xt_ofW (cc := cX0_clean) (maxL := 4) (ret := (some .boolean)) (by decide) rfl ?_
  intro p e s m args below meth c s₁ B hml htab hv
  obtain ⟨rfl, hP, hK, hJ⟩ := hv
  have hx := B.exec
  have hb := B.bytes
  have hr := B.returns
  have hts := atoms_spec (ws := wsX0_clean) B.pre
  have hown : s.vm.findClass RX0 = some m.cls := findClass_of_methodNamed B.named
  have hlocks := B.notSynchronized
  have hl := lv_entry ([.ref h, .int x, .int b]) (n := 4) (Nat.le_of_ble_eq_true rfl)
  rw [lg_entry_eq]
  generalize (lg_sl ([.ref h, .int x, .int b]) ++ List.replicate (4 - (lg_sl ([.ref h, .int x, .int b])).length) Slot.unset).toArray = ls at hl ⊢
  have hl : lv_has ls 4 [(0, .ref h), (1, .int x), (2, .int b)] := hl
  refine lv_aload_n hx hb dX0_clean_0 rfl (lv_at hl 0 rfl) ?_
  refine lv_iload_n hx hb dX0_clean_1 rfl (lv_at hl 1 rfl) ?_
  exact xt_pass (xt_runV (As := [.int x]) (rest := []) ⟨hx, hb, hml, hown, hts⟩ (t_requireCard l hst dC dI h a cI N f x h1 h2 hbad) (cwV 1 hts gX0_clean_X0_requireCard rfl rfl rfl (by decide +kernel) ⟨Nat.le_of_ble_eq_true rfl, Nat.le_of_ble_eq_true rfl⟩) (cb_preT hJ hK hP [.int x]) rfl rfl hl.1 rfl (lv_room (Nat.le_of_ble_eq_true rfl)) dX0_clean_2 ⟨Nat.le_refl _, Nat.le_refl _⟩) htab hlocks
set_option maxHeartbeats 4000000 in
set_option maxRecDepth 100000 in
/-- unsave, where there is no such card -/
theorem t_unsave (l : Launch) (hst : l.stackTraces = false) (dC : Nat → ClassId) (dI : Nat → Nat → Nat) (h a : Nat) (cI : ClassId) (N : Nat) (f : Nat → Int32) (x : Int32) (h1 : 1 ≤ N) (h2 : N ≤ 16384) (hbad : x < 0 ∨ ¬ x < nI (cb_cc N)) : xt_Met l yX0_unsave wsX0_unsave ({ frames := 7, cells := 1, slots := 6, locals := 140 }) (cb_Pt (dC, dI) [.ref h, .int x] (cb_w h a cI (nI N) f) [(cI, .int)]) "java/lang/IndexOutOfBoundsException" := by
  refine xt_ofW (cc := cX0_unsave) (maxL := 2) (ret := (some .boolean)) (by decide) rfl ?_
  intro p e s m args below meth c s₁ B hml htab hv
  obtain ⟨rfl, hP, hK, hJ⟩ := hv
  have hx := B.exec
  have hb := B.bytes
  have hr := B.returns
  have hts := atoms_spec (ws := wsX0_unsave) B.pre
  have hown : s.vm.findClass RX0 = some m.cls := findClass_of_methodNamed B.named
  have hlocks := B.notSynchronized
  have hl := lv_entry ([.ref h, .int x]) (n := 2) (Nat.le_of_ble_eq_true rfl)
  rw [lg_entry_eq]
  generalize (lg_sl ([.ref h, .int x]) ++ List.replicate (2 - (lg_sl ([.ref h, .int x])).length) Slot.unset).toArray = ls at hl ⊢
  have hl : lv_has ls 2 [(0, .ref h), (1, .int x)] := hl
  refine lv_aload_n hx hb dX0_unsave_0 rfl (lv_at hl 0 rfl) ?_
  refine lv_iload_n hx hb dX0_unsave_1 rfl (lv_at hl 1 rfl) ?_
  exact xt_pass (xt_runV (As := [.int x]) (rest := []) ⟨hx, hb, hml, hown, hts⟩ (t_requireCard l hst dC dI h a cI N f x h1 h2 hbad) (cwV 1 hts gX0_unsave_X0_requireCard rfl rfl rfl (by decide +kernel) ⟨Nat.le_of_ble_eq_true rfl, Nat.le_of_ble_eq_true rfl⟩) (cb_preT hJ hK hP [.int x]) rfl rfl hl.1 rfl (lv_room (Nat.le_of_ble_eq_true rfl)) dX0_unsave_2 ⟨Nat.le_refl _, Nat.le_refl _⟩) htab hlocks
set_option maxHeartbeats 4000000 in
set_option maxRecDepth 100000 in
/-- card, where there is no such card -/
theorem t_card (l : Launch) (hst : l.stackTraces = false) (dC : Nat → ClassId) (dI : Nat → Nat → Nat) (h a : Nat) (cI : ClassId) (N : Nat) (f : Nat → Int32) (x : Int32) (h1 : 1 ≤ N) (h2 : N ≤ 16384) (hbad : x < 0 ∨ ¬ x < nI (cb_cc N)) : xt_Met l yX0_card wsX0_card ({ frames := 7, cells := 1, slots := 6, locals := 140 }) (cb_Pt (dC, dI) [.ref h, .int x] (cb_w h a cI (nI N) f) [(cI, .int)]) "java/lang/IndexOutOfBoundsException" := by
  refine xt_ofW (cc := cX0_card) (maxL := 2) (ret := (some .int)) (by decide) rfl ?_
  intro p e s m args below meth c s₁ B hml htab hv
  obtain ⟨rfl, hP, hK, hJ⟩ := hv
  have hx := B.exec
  have hb := B.bytes
  have hr := B.returns
  have hts := atoms_spec (ws := wsX0_card) B.pre
  have hown : s.vm.findClass RX0 = some m.cls := findClass_of_methodNamed B.named
  have hlocks := B.notSynchronized
  have hl := lv_entry ([.ref h, .int x]) (n := 2) (Nat.le_of_ble_eq_true rfl)
  rw [lg_entry_eq]
  generalize (lg_sl ([.ref h, .int x]) ++ List.replicate (2 - (lg_sl ([.ref h, .int x])).length) Slot.unset).toArray = ls at hl ⊢
  have hl : lv_has ls 2 [(0, .ref h), (1, .int x)] := hl
  refine lv_aload_n hx hb dX0_card_0 rfl (lv_at hl 0 rfl) ?_
  refine lv_iload_n hx hb dX0_card_1 rfl (lv_at hl 1 rfl) ?_
  exact xt_pass (xt_runV (As := [.int x]) (rest := []) ⟨hx, hb, hml, hown, hts⟩ (t_requireCard l hst dC dI h a cI N f x h1 h2 hbad) (cwV 1 hts gX0_card_X0_requireCard rfl rfl rfl (by decide +kernel) ⟨Nat.le_of_ble_eq_true rfl, Nat.le_of_ble_eq_true rfl⟩) (cb_preT hJ hK hP [.int x]) rfl rfl hl.1 rfl (lv_room (Nat.le_of_ble_eq_true rfl)) dX0_card_2 ⟨Nat.le_refl _, Nat.le_refl _⟩) htab hlocks
set_option maxHeartbeats 4000000 in
set_option maxRecDepth 100000 in
/-- nextDirty(x), x below 0 -/
theorem t_nextDirty (l : Launch) (hst : l.stackTraces = false) (dC : Nat → ClassId) (dI : Nat → Nat → Nat) (h a : Nat) (cI : ClassId) (N : Nat) (f : Nat → Int32) (x : Int32) (hbad : x < 0) : xt_Met l yX0_nextDirty wsX0_nextDirty ({ frames := 7, cells := 1, slots := 6, locals := 140 }) (cb_Pt (dC, dI) [.ref h, .int x] (cb_w h a cI (nI N) f) [(cI, .int)]) "java/lang/IllegalArgumentException" := by
  refine xt_ofW (cc := cX0_nextDirty) (maxL := 2) (ret := (some .int)) (by decide) rfl ?_
  intro p e s m args below meth c s₁ B hml htab hv
  obtain ⟨rfl, hP, hK, hJ⟩ := hv
  have hx := B.exec
  have hb := B.bytes
  have hr := B.returns
  have hts := atoms_spec (ws := wsX0_nextDirty) B.pre
  have hown : s.vm.findClass RX0 = some m.cls := findClass_of_methodNamed B.named
  have hlocks := B.notSynchronized
  have hl := lv_entry ([.ref h, .int x]) (n := 2) (Nat.le_of_ble_eq_true rfl)
  rw [lg_entry_eq]
  generalize (lg_sl ([.ref h, .int x]) ++ List.replicate (2 - (lg_sl ([.ref h, .int x])).length) Slot.unset).toArray = ls at hl ⊢
  have hl : lv_has ls 2 [(0, .ref h), (1, .int x)] := hl
  refine lv_aload_n hx hb dX0_nextDirty_0 rfl (lv_at hl 0 rfl) ?_
  refine lv_iconst (v := 1) hx hb dX0_nextDirty_1 (by decide) ?_
  refine lv_iload_n hx hb dX0_nextDirty_2 rfl (lv_at hl 1 rfl) ?_
  exact xt_pass (xt_runV (As := [.int 1, .int x]) (rest := []) ⟨hx, hb, hml, hown, hts⟩ (t_firstWith l hst dC dI h a cI N f 1 x hbad) (cwV 2 hts gX0_nextDirty_X0_firstWith rfl rfl rfl (by decide +kernel) ⟨Nat.le_of_ble_eq_true rfl, Nat.le_of_ble_eq_true rfl⟩) (cb_preT hJ hK hP [.int 1, .int x]) rfl rfl hl.1 rfl (lv_room (Nat.le_of_ble_eq_true rfl)) dX0_nextDirty_3 ⟨Nat.le_refl _, Nat.le_refl _⟩) htab hlocks
set_option maxHeartbeats 4000000 in
set_option maxRecDepth 100000 in
/-- nextSaved(x), x below 0 -/
theorem t_nextSaved (l : Launch) (hst : l.stackTraces = false) (dC : Nat → ClassId) (dI : Nat → Nat → Nat) (h a : Nat) (cI : ClassId) (N : Nat) (f : Nat → Int32) (x : Int32) (hbad : x < 0) : xt_Met l yX0_nextSaved wsX0_nextSaved ({ frames := 7, cells := 1, slots := 6, locals := 140 }) (cb_Pt (dC, dI) [.ref h, .int x] (cb_w h a cI (nI N) f) [(cI, .int)]) "java/lang/IllegalArgumentException" := by
  refine xt_ofW (cc := cX0_nextSaved) (maxL := 2) (ret := (some .int)) (by decide) rfl ?_
  intro p e s m args below meth c s₁ B hml htab hv
  obtain ⟨rfl, hP, hK, hJ⟩ := hv
  have hx := B.exec
  have hb := B.bytes
  have hr := B.returns
  have hts := atoms_spec (ws := wsX0_nextSaved) B.pre
  have hown : s.vm.findClass RX0 = some m.cls := findClass_of_methodNamed B.named
  have hlocks := B.notSynchronized
  have hl := lv_entry ([.ref h, .int x]) (n := 2) (Nat.le_of_ble_eq_true rfl)
  rw [lg_entry_eq]
  generalize (lg_sl ([.ref h, .int x]) ++ List.replicate (2 - (lg_sl ([.ref h, .int x])).length) Slot.unset).toArray = ls at hl ⊢
  have hl : lv_has ls 2 [(0, .ref h), (1, .int x)] := hl
  refine lv_aload_n hx hb dX0_nextSaved_0 rfl (lv_at hl 0 rfl) ?_
  refine lv_iconst (v := 2) hx hb dX0_nextSaved_1 (by decide) ?_
  refine lv_iload_n hx hb dX0_nextSaved_2 rfl (lv_at hl 1 rfl) ?_
  exact xt_pass (xt_runV (As := [.int 2, .int x]) (rest := []) ⟨hx, hb, hml, hown, hts⟩ (t_firstWith l hst dC dI h a cI N f 2 x hbad) (cwV 2 hts gX0_nextSaved_X0_firstWith rfl rfl rfl (by decide +kernel) ⟨Nat.le_of_ble_eq_true rfl, Nat.le_of_ble_eq_true rfl⟩) (cb_preT hJ hK hP [.int 2, .int x]) rfl rfl hl.1 rfl (lv_room (Nat.le_of_ble_eq_true rfl)) dX0_nextSaved_3 ⟨Nat.le_refl _, Nat.le_refl _⟩) htab hlocks
set_option maxHeartbeats 4000000 in
set_option maxRecDepth 100000 in
/-- cover(x, y), where there is no cell x -/
theorem t_cover1 (l : Launch) (hst : l.stackTraces = false) (dC : Nat → ClassId) (dI : Nat → Nat → Nat) (h a : Nat) (cI : ClassId) (N : Nat) (f : Nat → Int32) (x y : Int32) (hbad : x < 0 ∨ ¬ x < nI N) : xt_Met l yX0_cover wsX0_cover ({ frames := 7, cells := 1, slots := 6, locals := 140 }) (cb_Pt (dC, dI) [.ref h, .int x, .int y] (cb_w h a cI (nI N) f) [(cI, .int)]) "java/lang/IndexOutOfBoundsException" := by
  refine xt_ofW (cc := cX0_cover) (maxL := 6) (ret := (some .int)) (by decide) rfl ?_
  intro p e s m args below meth c s₁ B hml htab hv
  obtain ⟨rfl, hP, hK, hJ⟩ := hv
  have hx := B.exec
  have hb := B.bytes
  have hr := B.returns
  have hts := atoms_spec (ws := wsX0_cover) B.pre
  have hown : s.vm.findClass RX0 = some m.cls := findClass_of_methodNamed B.named
  have hlocks := B.notSynchronized
  have hl := lv_entry ([.ref h, .int x, .int y]) (n := 6) (Nat.le_of_ble_eq_true rfl)
  rw [lg_entry_eq]
  generalize (lg_sl ([.ref h, .int x, .int y]) ++ List.replicate (6 - (lg_sl ([.ref h, .int x, .int y])).length) Slot.unset).toArray = ls at hl ⊢
  have hl : lv_has ls 6 [(0, .ref h), (1, .int x), (2, .int y)] := hl
  refine lv_aload_n hx hb dX0_cover_0 rfl (lv_at hl 0 rfl) ?_
  refine lv_iload_n hx hb dX0_cover_1 rfl (lv_at hl 1 rfl) ?_
  exact xt_pass (xt_runV (As := [.int x]) (rest := []) ⟨hx, hb, hml, hown, hts⟩ (t_requireCell l hst dC dI h a cI N f x hbad) (cwV 1 hts gX0_cover_X0_requireCell rfl rfl rfl (by decide +kernel) ⟨Nat.le_of_ble_eq_true rfl, Nat.le_of_ble_eq_true rfl⟩) (cb_preT hJ hK hP [.int x]) rfl rfl hl.1 rfl (lv_room (Nat.le_of_ble_eq_true rfl)) dX0_cover_2 ⟨Nat.le_refl _, Nat.le_refl _⟩) htab hlocks
set_option maxHeartbeats 4000000 in
set_option maxRecDepth 100000 in
/-- cover(k, y), where some of these cells are none -/
theorem t_cover2 (l : Launch) (hst : l.stackTraces = false) (dC : Nat → ClassId) (dI : Nat → Nat → Nat) (h a : Nat) (cI : ClassId) (N : Nat) (f : Nat → Int32) (k : Nat) (y : Int32) (h2 : N ≤ 16384) (hk : k < N) (hbad : y < 1 ∨ ¬ y ≤ nI N - nI k) : xt_Met l yX0_cover wsX0_cover ({ frames := 7, cells := 1, slots := 6, locals := 140 }) (cb_Pt (dC, dI) [.ref h, .int (nI k), .int y] (cb_w h a cI (nI N) f) [(cI, .int)]) "java/lang/IndexOutOfBoundsException" := by
  refine xt_ofW (cc := cX0_cover) (maxL := 6) (ret := (some .int)) (by decide) rfl ?_
  intro p e s m args below meth c s₁ B hml htab hv
  obtain ⟨rfl, hP, hK, hJ⟩ := hv
  have hx := B.exec
  have hb := B.bytes
  have hr := B.returns
  have hts := atoms_spec (ws := wsX0_cover) B.pre
  have hown : s.vm.findClass RX0 = some m.cls := findClass_of_methodNamed B.named
  have hlocks := B.notSynchronized
  have hl := lv_entry ([.ref h, .int (nI k), .int y]) (n := 6) (Nat.le_of_ble_eq_true rfl)
  rw [lg_entry_eq]
  generalize (lg_sl ([.ref h, .int (nI k), .int y]) ++ List.replicate (6 - (lg_sl ([.ref h, .int (nI k), .int y])).length) Slot.unset).toArray = ls at hl ⊢
  have hl : lv_has ls 6 [(0, .ref h), (1, .int (nI k)), (2, .int y)] := hl
  refine lv_aload_n hx hb dX0_cover_0 rfl (lv_at hl 0 rfl) ?_
  refine lv_iload_n hx hb dX0_cover_1 rfl (lv_at hl 1 rfl) ?_
  refine cl_callv (W.runV (As := [.int (nI k)]) (rest := []) ⟨hx, hb, hml, hown, hts⟩ (c_requireCell l dC dI h a cI N f k h2 hk) (cwV 1 hts gX0_cover_X0_requireCell rfl rfl rfl (by decide +kernel) ⟨Nat.le_of_ble_eq_true rfl, Nat.le_of_ble_eq_true rfl⟩) (cb_preV hK hP [.int (nI k)]) rfl rfl hl.1 rfl (lv_room (Nat.le_of_ble_eq_true rfl)) dX0_cover_2 ⟨Nat.zero_le _, Nat.zero_le _⟩) ?_
  refine lv_iload_n hx hb dX0_cover_5 rfl (lv_at hl 2 rfl) ?_
  refine lv_iconst (v := 1) hx hb dX0_cover_6 (by decide) ?_
  refine lv_icmp_lt (tgt := 20) hx hb dX0_cover_7 (by decide) (fun hc => ?_) (fun hc => ?_)
  · obtain ⟨sa, hsa⟩ := hJ.2.1 (38, "no such row of cells") (by decide)
    exact xt_throw (own := RX0) (E := "java/lang/IndexOutOfBoundsException") (names := ["java/lang/RuntimeException", "java/lang/Exception"]) (ic := 40) (text := "no such row of cells") (sa := sa) hx hb hst hown (by decide) (by decide) (xt_all hJ.1 (fun w hw => hts w (List.mem_cons_of_mem _ (List.mem_append_right _ hw))) (by decide +kernel) cb_nw_ok hJ.2.2) (hts (.classLink RX0 36 "java/lang/IndexOutOfBoundsException") (by decide +kernel)) (hts (.initialized "java/lang/IndexOutOfBoundsException") (by decide +kernel)) hsa (hl.1.trans hml.symm) dX0_cover_20 dX0_cover_23 dX0_cover_24 dX0_cover_26 dX0_cover_29 htab (by decide) (by decide) (by decide) (by decide) hlocks
  · refine lv_iload_n hx hb dX0_cover_10 rfl (lv_at hl 2 rfl) ?_
    refine lv_aload_n hx hb dX0_cover_11 rfl (lv_at hl 0 rfl) ?_
    refine va_get (D := (dC, dI)) (ci := 0) (v := .int (nI N)) (C := RX0) (T := TX0) (N := 2) hx hb hts (by decide +kernel) hown hK hP 0 rfl rfl 1 (by decide) (hts (.fieldLink RX0 13 "CardBook" "cells" "I") (by decide +kernel)) (fun _ h9 => h9) rfl dX0_cover_12 ?_
    refine lv_iload_n hx hb dX0_cover_15 rfl (lv_at hl 1 rfl) ?_
    refine lv_isub hx hb dX0_cover_16 ?_
    refine lv_icmp_le (tgt := 30) hx hb dX0_cover_17 (by decide) (fun hd => ?_) (fun hd => ?_)
    · exact absurd hd (hbad.resolve_left hc)
    · obtain ⟨sa, hsa⟩ := hJ.2.1 (38, "no such row of cells") (by decide)
      exact xt_throw (own := RX0) (E := "java/lang/IndexOutOfBoundsException") (names := ["java/lang/RuntimeException", "java/lang/Exception"]) (ic := 40) (text := "no such row of cells") (sa := sa) hx hb hst hown (by decide) (by decide) (xt_all hJ.1 (fun w hw => hts w (List.mem_cons_of_mem _ (List.mem_append_right _ hw))) (by decide +kernel) cb_nw_ok hJ.2.2) (hts (.classLink RX0 36 "java/lang/IndexOutOfBoundsException") (by decide +kernel)) (hts (.initialized "java/lang/IndexOutOfBoundsException") (by decide +kernel)) hsa (hl.1.trans hml.symm) dX0_cover_20 dX0_cover_23 dX0_cover_24 dX0_cover_26 dX0_cover_29 htab (by decide) (by decide) (by decide) (by decide) hlocks
