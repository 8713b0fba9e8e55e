theorem md_ct_1 {a b : Bool} {D S : Nat → Bool} {i : Nat} (h : (a && D i || b && S i) = true) : md_ct a b D S (i + 1) = md_ct a b D S i + 1 := if_pos h
theorem md_ct_0 {a b : Bool} {D S : Nat → Bool} {i : Nat} (h : (a && D i || b && S i) = false) : md_ct a b D S (i + 1) = md_ct a b D S i := if_neg (by rw [h]; decide)
theorem md_no {P : Prop} {a d : Bool} (h : P ↔ a = true) (hn : ¬ P) : (a && d) = false := by
  cases a
  · rfl
  · exact absurd (h.mpr rfl) hn
theorem md_yes {P : Prop} {a : Bool} (h : P ↔ a = true) (hn : P) : a = true := h.mp hn
theorem md_n_0 {j la : Nat} : md_n j la 0 = 0 := by unfold md_n; omega
theorem md_n_1 {j la i : Nat} (h1 : j ≤ i) (h2 : i ≤ la) : md_n j la (i + 1) = md_n j la i + 1 := by unfold md_n; omega
theorem md_n_2 {j la i : Nat} (h : ¬ (j ≤ i ∧ i ≤ la)) : md_n j la (i + 1) = md_n j la i := by unfold md_n; omega
theorem md_u_same {D : Nat → Bool} {k : Nat} {b : Bool} (h : D k = b) : md_u D k b = D := by
  funext c
  unfold md_u
  by_cases hc : c = k
  · rw [if_pos hc, hc, h]
  · rw [if_neg hc]
theorem md_u_self {D : Nat → Bool} {k : Nat} : md_u D k (D k) = D := md_u_same rfl
theorem md_cl_f (D : Nat → Bool) (i : Nat) : md_cl D false i = D := by
  funext c
  simp [md_cl]
set_option maxHeartbeats 4000000 in
set_option maxRecDepth 100000 in
/-- thrown() -/
theorem c1_thrown (l : Launch) (dC : Nat → ClassId) (dI : Nat → Nat → Nat) (q qa qb : Nat) (cY cZ : ClassId) (t : Int32) (N : Nat) (D S : Nat → Bool) : Met l yX1_thrown wsX1_thrown ({ frames := 0, cells := 0, slots := 0, locals := 0 }) (cb_Pc (dC, dI) [.ref q] (md_w q qa qb cY cZ t (nI N) D S) [(cY, .boolean), (cZ, .boolean)]) (cl_Q (some (.int t))) 0 0 (fun _ => False) := by
  refine Met.ofW (cc := cX1_thrown) (maxL := 1) (ret := (some .int)) (by decide) rfl ?_
  intro p e s m args below meth c s₁ B hml hv
  obtain ⟨rfl, hP, hK⟩ := hv
  have hx := B.exec
  have hb := B.bytes
  have hr := B.returns
  have hts := atoms_spec (ws := wsX1_thrown) B.pre
  have hown : s.vm.findClass RX1 = some m.cls := findClass_of_methodNamed B.named
  have hlocks := B.notSynchronized
  have hl := lv_entry ([.ref q]) (n := 1) (Nat.le_of_ble_eq_true rfl)
  rw [lg_entry_eq]
  generalize (lg_sl ([.ref q]) ++ List.replicate (1 - (lg_sl ([.ref q])).length) Slot.unset).toArray = ls at hl ⊢
  have hl : lv_has ls 1 [(0, .ref q)] := hl
  refine lv_aload_n hx hb dX1_thrown_0 rfl (lv_at hl 0 rfl) ?_
  refine va_get (D := (dC, dI)) (ci := 1) (v := .int t) (C := RX1) (T := TX1) (N := 4) hx hb hts (by decide +kernel) hown hK hP 0 rfl rfl 0 (by decide) (hts (.fieldLink RX1 20 "CardBookModel" "thrown" "I") (by decide +kernel)) (fun _ h9 => h9) rfl dX1_thrown_1 ?_
  exact W.iret (v := t) hx hb hr (fun t9 ht9 _ => ⟨rfl, ht9⟩) (fun q9 hq9 => nomatch hq9) dX1_thrown_4
set_option maxHeartbeats 4000000 in
set_option maxRecDepth 100000 in
/-- goes(b) -/
theorem c1_goes (l : Launch) (dC : Nat → ClassId) (dI : Nat → Nat → Nat) (q qa qb : Nat) (cY cZ : ClassId) (t : Int32) (N : Nat) (D S : Nat → Bool) (b : Bool) (hne : md_ne q qa qb) : Met l yX1_goes wsX1_goes ({ frames := 0, cells := 0, slots := 0, locals := 0 }) (cb_Pc (dC, dI) [.ref q, .int (md_b b)] (md_w q qa qb cY cZ t (nI N) D S) [(cY, .boolean), (cZ, .boolean)]) (va_Qi (fun (r9 : Int32) (_ : Unit) => (md_b b) = r9) (fun _ t9 => va_P (dC, dI) vwCl (md_w q qa qb cY cZ (md_b (!b)) (nI N) D S) t9.heap) (md_A q qa qb)) 0 0 (md_A q qa qb) := by
  refine Met.ofW (cc := cX1_goes) (maxL := 2) (ret := (some .boolean)) (by decide) rfl ?_
  intro p e s m args below meth c s₁ B hml hv
  obtain ⟨rfl, hP, hK⟩ := hv
  have hx := B.exec
  have hb := B.bytes
  have hr := B.returns
  have hts := atoms_spec (ws := wsX1_goes) B.pre
  have hown : s.vm.findClass RX1 = some m.cls := findClass_of_methodNamed B.named
  have hlocks := B.notSynchronized
  have hl := lv_entry ([.ref q, .int (md_b b)]) (n := 2) (Nat.le_of_ble_eq_true rfl)
  rw [lg_entry_eq]
  generalize (lg_sl ([.ref q, .int (md_b b)]) ++ List.replicate (2 - (lg_sl ([.ref q, .int (md_b b)])).length) Slot.unset).toArray = ls at hl ⊢
  have hl : lv_has ls 2 [(0, .ref q), (1, .int (md_b b))] := hl
  have hS : va_S (md_A q qa qb) s.heap s.heap [] := va_S.rf
  refine lv_aload_n hx hb dX1_goes_0 rfl (lv_at hl 0 rfl) ?_
  refine lv_iload_n hx hb dX1_goes_1 rfl (lv_at hl 1 rfl) ?_
  refine lv_if_eq (tgt := 9) hx hb dX1_goes_2 (by decide) (fun hc => ?_) (fun hc => ?_)
  · refine lv_iconst (v := 1) hx hb dX1_goes_9 (by decide) ?_
    have hD := md_D (cY := cY) (cZ := cZ) (t := t) (n := (nI N)) (D := D) (S := S) hne
    refine va_put (D := (dC, dI)) (ci := 1) (v := .int 1) (ty := .int) (C := RX1) (T := TX1) (N := 4) hx hb hts (by decide +kernel) tyX1 tyX1_ok nmX1 hown hK hP hD hS 0 rfl rfl 0 (by decide) (hts (.fieldLink RX1 20 "CardBookModel" "thrown" "I") (by decide +kernel)) (fun _ h9 => h9) rfl (by decide +kernel) rfl rfl (Nat.le_of_ble_eq_true rfl) dX1_goes_10 (fun H locs hP _ hS => ?_)
    have hP : va_P (dC, dI) vwCl (md_w q qa qb cY cZ 1 (nI N) D S) H := hP
    refine lv_iload_n hx hb dX1_goes_13 rfl (lv_at hl 1 rfl) ?_
    have hb9 := md_b0 hc
    subst hb9
    exact W.zret (v := md_b false) (ty := .boolean) hx hb hr (md_nb _) (fun t9 ht9 _ => ⟨⟨_, (), rfl, rfl, cl_at ht9 (hP)⟩, hS.F ht9⟩) hS.2.2 dX1_goes_14
  · refine lv_iconst (v := 0) hx hb dX1_goes_5 (by decide) ?_
    refine lv_goto (tgt := 10) hx hb dX1_goes_6 (by decide) ?_
    have hD := md_D (cY := cY) (cZ := cZ) (t := t) (n := (nI N)) (D := D) (S := S) hne
    refine va_put (D := (dC, dI)) (ci := 1) (v := .int 0) (ty := .int) (C := RX1) (T := TX1) (N := 4) hx hb hts (by decide +kernel) tyX1 tyX1_ok nmX1 hown hK hP hD hS 0 rfl rfl 0 (by decide) (hts (.fieldLink RX1 20 "CardBookModel" "thrown" "I") (by decide +kernel)) (fun _ h9 => h9) rfl (by decide +kernel) rfl rfl (Nat.le_of_ble_eq_true rfl) dX1_goes_10 (fun H locs hP _ hS => ?_)
    have hP : va_P (dC, dI) vwCl (md_w q qa qb cY cZ 0 (nI N) D S) H := hP
    refine lv_iload_n hx hb dX1_goes_13 rfl (lv_at hl 1 rfl) ?_
    have hb9 := md_b1 hc
    subst hb9
    exact W.zret (v := md_b true) (ty := .boolean) hx hb hr (md_nb _) (fun t9 ht9 _ => ⟨⟨_, (), rfl, rfl, cl_at ht9 (hP)⟩, hS.F ht9⟩) hS.2.2 dX1_goes_14
set_option maxHeartbeats 4000000 in
set_option maxRecDepth 100000 in
/-- cards() -/
theorem c1_cards (l : Launch) (dC : Nat → ClassId) (dI : Nat → Nat → Nat) (q qa qb : Nat) (cY cZ : ClassId) (t : Int32) (N : Nat) (D S : Nat → Bool) (h1 : 1 ≤ N) (h2 : N ≤ 16384) : Met l yX1_cards wsX1_cards ({ frames := 0, cells := 0, slots := 0, locals := 0 }) (cb_Pc (dC, dI) [.ref q] (md_w q qa qb cY cZ t (nI N) D S) [(cY, .boolean), (cZ, .boolean)]) (cl_Q (some (.int (nI (cb_cc N))))) 0 0 (fun _ => False) := by
  refine Met.ofW (cc := cX1_cards) (maxL := 1) (ret := (some .int)) (by decide) rfl ?_
  intro p e s m args below meth c s₁ B hml hv
  obtain ⟨rfl, hP, hK⟩ := hv
  have hx := B.exec
  have hb := B.bytes
  have hr := B.returns
  have hts := atoms_spec (ws := wsX1_cards) B.pre
  have hown : s.vm.findClass RX1 = some m.cls := findClass_of_methodNamed B.named
  have hlocks := B.notSynchronized
  have hl := lv_entry ([.ref q]) (n := 1) (Nat.le_of_ble_eq_true rfl)
  rw [lg_entry_eq]
  generalize (lg_sl ([.ref q]) ++ List.replicate (1 - (lg_sl ([.ref q])).length) Slot.unset).toArray = ls at hl ⊢
  have hl : lv_has ls 1 [(0, .ref q)] := hl
  refine lv_aload_n hx hb dX1_cards_0 rfl (lv_at hl 0 rfl) ?_
  refine va_get (D := (dC, dI)) (ci := 1) (v := .int (nI N)) (C := RX1) (T := TX1) (N := 4) hx hb hts (by decide +kernel) hown hK hP 0 rfl rfl 1 (by decide) (hts (.fieldLink RX1 7 "CardBookModel" "cells" "I") (by decide +kernel)) (fun _ h9 => h9) rfl dX1_cards_1 ?_
  refine lv_bipush (v := 31) hx hb dX1_cards_4 (by decide) ?_
  refine lv_iadd hx hb dX1_cards_6 ?_
  refine lv_bipush (v := 32) hx hb dX1_cards_7 (by decide) ?_
  refine lv_idiv hx hb dX1_cards_9 (by decide) ?_
  refine cl_asi (md_cards h1 h2) ?_
  exact W.iret (v := nI (cb_cc N)) hx hb hr (fun t9 ht9 _ => ⟨rfl, ht9⟩) (fun q9 hq9 => nomatch hq9) dX1_cards_10
set_option maxHeartbeats 4000000 in
set_option maxRecDepth 100000 in
/-- isCell(x) -/
theorem c1_isCell (l : Launch) (dC : Nat → ClassId) (dI : Nat → Nat → Nat) (q qa qb : Nat) (cY cZ : ClassId) (t : Int32) (N : Nat) (D S : Nat → Bool) (x : Int32) (g : Bool)  (hg : g = true ↔ (¬ x < 0 ∧ x < (nI N))) : Met l yX1_isCell wsX1_isCell ({ frames := 0, cells := 0, slots := 0, locals := 0 }) (cb_Pc (dC, dI) [.ref q, .int x] (md_w q qa qb cY cZ t (nI N) D S) [(cY, .boolean), (cZ, .boolean)]) (cl_Q (some (.int (md_b g)))) 0 0 (fun _ => False) := by
  refine Met.ofW (cc := cX1_isCell) (maxL := 2) (ret := (some .boolean)) (by decide) rfl ?_
  intro p e s m args below meth c s₁ B hml hv
  obtain ⟨rfl, hP, hK⟩ := hv
  have hx := B.exec
  have hb := B.bytes
  have hr := B.returns
  have hts := atoms_spec (ws := wsX1_isCell) B.pre
  have hown : s.vm.findClass RX1 = some m.cls := findClass_of_methodNamed B.named
  have hlocks := B.notSynchronized
  have hl := lv_entry ([.ref q, .int x]) (n := 2) (Nat.le_of_ble_eq_true rfl)
  rw [lg_entry_eq]
  generalize (lg_sl ([.ref q, .int x]) ++ List.replicate (2 - (lg_sl ([.ref q, .int x])).length) Slot.unset).toArray = ls at hl ⊢
  have hl : lv_has ls 2 [(0, .ref q), (1, .int x)] := hl
  refine lv_iload_n hx hb dX1_isCell_0 rfl (lv_at hl 1 rfl) ?_
  refine lv_if_lt (tgt := 16) hx hb dX1_isCell_1 (by decide) (fun hc => ?_) (fun hc => ?_)
  · refine lv_iconst (v := 0) hx hb dX1_isCell_16 (by decide) ?_
    have hg9 : g = false := by cases g; rfl; exact absurd hc (hg.mp rfl).1
    subst hg9
    exact W.zret (v := 0) (ty := .boolean) hx hb hr rfl (fun t9 ht9 _ => ⟨rfl, ht9⟩) (fun q9 hq9 => nomatch hq9) dX1_isCell_17
  · refine lv_iload_n hx hb dX1_isCell_4 rfl (lv_at hl 1 rfl) ?_
    refine lv_aload_n hx hb dX1_isCell_5 rfl (lv_at hl 0 rfl) ?_
    refine va_get (D := (dC, dI)) (ci := 1) (v := .int (nI N)) (C := RX1) (T := TX1) (N := 4) hx hb hts (by decide +kernel) hown hK hP 0 rfl rfl 1 (by decide) (hts (.fieldLink RX1 7 "CardBookModel" "cells" "I") (by decide +kernel)) (fun _ h9 => h9) rfl dX1_isCell_6 ?_
    refine lv_icmp_ge (tgt := 16) hx hb dX1_isCell_9 (by decide) (fun hd => ?_) (fun hd => ?_)
    · refine lv_iconst (v := 0) hx hb dX1_isCell_16 (by decide) ?_
      have hg9 : g = false := by cases g; rfl; exact absurd (hg.mp rfl).2 (Int32.not_lt.mpr hd)
      subst hg9
      exact W.zret (v := 0) (ty := .boolean) hx hb hr rfl (fun t9 ht9 _ => ⟨rfl, ht9⟩) (fun q9 hq9 => nomatch hq9) dX1_isCell_17
    · refine lv_iconst (v := 1) hx hb dX1_isCell_12 (by decide) ?_
      refine lv_goto (tgt := 17) hx hb dX1_isCell_13 (by decide) ?_
      have hg9 : g = true := hg.mpr ⟨hc, Int32.not_le.mp hd⟩
      subst hg9
      exact W.zret (v := 1) (ty := .boolean) hx hb hr rfl (fun t9 ht9 _ => ⟨rfl, ht9⟩) (fun q9 hq9 => nomatch hq9) dX1_isCell_17
set_option maxHeartbeats 4000000 in
set_option maxRecDepth 100000 in
/-- isCard(x) -/
theorem c1_isCard (l : Launch) (dC : Nat → ClassId) (dI : Nat → Nat → Nat) (q qa qb : Nat) (cY cZ : ClassId) (t : Int32) (N : Nat) (D S : Nat → Bool) (x : Int32) (g : Bool) (h1 : 1 ≤ N) (h2 : N ≤ 16384) (hg : g = true ↔ (¬ x < 0 ∧ x < (nI (cb_cc N)))) : Met l yX1_isCard wsX1_isCard ({ frames := 1, cells := 0, slots := 0, locals := 20 }) (cb_Pc (dC, dI) [.ref q, .int x] (md_w q qa qb cY cZ t (nI N) D S) [(cY, .boolean), (cZ, .boolean)]) (cl_Q (some (.int (md_b g)))) 0 0 (fun _ => False) := by
  refine Met.ofW (cc := cX1_isCard) (maxL := 2) (ret := (some .boolean)) (by decide) rfl ?_
  intro p e s m args below meth c s₁ B hml hv
  obtain ⟨rfl, hP, hK⟩ := hv
  have hx := B.exec
  have hb := B.bytes
  have hr := B.returns
  have hts := atoms_spec (ws := wsX1_isCard) B.pre
  have hown : s.vm.findClass RX1 = some m.cls := findClass_of_methodNamed B.named
  have hlocks := B.notSynchronized
  have hl := lv_entry ([.ref q, .int x]) (n := 2) (Nat.le_of_ble_eq_true rfl)
  rw [lg_entry_eq]
  generalize (lg_sl ([.ref q, .int x]) ++ List.replicate (2 - (lg_sl ([.ref q, .int x])).length) Slot.unset).toArray = ls at hl ⊢
  have hl : lv_has ls 2 [(0, .ref q), (1, .int x)] := hl
  refine lv_iload_n hx hb dX1_isCard_0 rfl (lv_at hl 1 rfl) ?_
  refine lv_if_lt (tgt := 16) hx hb dX1_isCard_1 (by decide) (fun hc => ?_) (fun hc => ?_)
  · refine lv_iconst (v := 0) hx hb dX1_isCard_16 (by decide) ?_
    have hg9 : g = false := by cases g; rfl; exact absurd hc (hg.mp rfl).1
    subst hg9
    exact W.zret (v := 0) (ty := .boolean) hx hb hr rfl (fun t9 ht9 _ => ⟨rfl, ht9⟩) (fun q9 hq9 => nomatch hq9) dX1_isCard_17
  · refine lv_iload_n hx hb dX1_isCard_4 rfl (lv_at hl 1 rfl) ?_
    refine lv_aload_n hx hb dX1_isCard_5 rfl (lv_at hl 0 rfl) ?_
    refine cl_calli (W.runV (As := []) (rest := [.int x]) ⟨hx, hb, hml, hown, hts⟩ (c1_cards l dC dI q qa qb cY cZ t N D S h1 h2) (cwV 0 hts gX1_isCard_X1_cards rfl rfl rfl (by decide +kernel) ⟨Nat.le_of_ble_eq_true rfl, Nat.le_of_ble_eq_true rfl⟩) (md_preV hK hP []) rfl rfl hl.1 rfl (lv_room (Nat.le_of_ble_eq_true rfl)) dX1_isCard_6 ⟨Nat.zero_le _, Nat.zero_le _⟩) ?_
    refine lv_icmp_ge (tgt := 16) hx hb dX1_isCard_9 (by decide) (fun hd => ?_) (fun hd => ?_)
    · refine lv_iconst (v := 0) hx hb dX1_isCard_16 (by decide) ?_
      have hg9 : g = false := by cases g; rfl; exact absurd (hg.mp rfl).2 (Int32.not_lt.mpr hd)
      subst hg9
      exact W.zret (v := 0) (ty := .boolean) hx hb hr rfl (fun t9 ht9 _ => ⟨rfl, ht9⟩) (fun q9 hq9 => nomatch hq9) dX1_isCard_17
    · refine lv_iconst (v := 1) hx hb dX1_isCard_12 (by decide) ?_
      refine lv_goto (tgt := 17) hx hb dX1_isCard_13 (by decide) ?_
      have hg9 : g = true := hg.mpr ⟨hc, Int32.not_le.mp hd⟩
      subst hg9
      exact W.zret (v := 1) (ty := .boolean) hx hb hr rfl (fun t9 ht9 _ => ⟨rfl, ht9⟩) (fun q9 hq9 => nomatch hq9) dX1_isCard_17
set_option maxHeartbeats 4000000 in
set_option maxRecDepth 100000 in
/-- many(w, cl) -/
theorem c1_many (l : Launch) (dC : Nat → ClassId) (dI : Nat → Nat → Nat) (q qa qb : Nat) (cY cZ : ClassId) (t : Int32) (N : Nat) (D S : Nat → Bool) (w : Int32) (cl a b : Bool) (hne : md_ne q qa qb) (hA : w &&& 1 = 1 ↔ a = true) (hB : w &&& 2 = 2 ↔ b = true) : Met l yX1_many wsX1_many ({ frames := 0, cells := 0, slots := 0, locals := 0 }) (cb_Pc (dC, dI) [.ref q, .int w, .int (md_b cl)] (md_w q qa qb cY cZ t (nI N) D S) [(cY, .boolean), (cZ, .boolean)]) (va_Qi (fun (r9 : Int32) (_ : Unit) => (nI (md_ct a b D S 512)) = r9) (fun _ t9 => va_P (dC, dI) vwCl (md_w q qa qb cY cZ t (nI N) (md_cl D cl 512) (md_cl S cl 512)) t9.heap) (md_A q qa qb)) 0 0 (md_A q qa qb) := by
  refine Met.ofW (cc := cX1_many) (maxL := 5) (ret := (some .int)) (by decide) rfl ?_
  intro p e s m args below meth c s₁ B hml hv
  obtain ⟨rfl, hP, hK⟩ := hv
  have hx := B.exec
  have hb := B.bytes
  have hr := B.returns
  have hts := atoms_spec (ws := wsX1_many) B.pre
  have hown : s.vm.findClass RX1 = some m.cls := findClass_of_methodNamed B.named
  have hlocks := B.notSynchronized
  have hl := lv_entry ([.ref q, .int w, .int (md_b cl)]) (n := 5) (Nat.le_of_ble_eq_true rfl)
  rw [lg_entry_eq]
  generalize (lg_sl ([.ref q, .int w, .int (md_b cl)]) ++ List.replicate (5 - (lg_sl ([.ref q, .int w, .int (md_b cl)])).length) Slot.unset).toArray = ls at hl ⊢
  have hl : lv_has ls 5 [(0, .ref q), (1, .int w), (2, .int (md_b cl))] := hl
  have hS : va_S (md_A q qa qb) s.heap s.heap [] := va_S.rf
  refine lv_iconst (v := 0) hx hb dX1_many_0 (by decide) ?_
  refine lv_istore_n (lv' := [(3, .int 0), (0, .ref q), (1, .int w), (2, .int (md_b cl))]) hx hb dX1_many_1 rfl hl (by decide) rfl (fun ls hl => ?_)
  refine lv_iconst (v := 0) hx hb dX1_many_2 (by decide) ?_
  refine lv_istore (lv' := [(4, .int 0), (3, .int 0), (0, .ref q), (1, .int w), (2, .int (md_b cl))]) hx hb dX1_many_3 hl (by decide) rfl (fun ls hl => ?_)
  refine cl_loop 0 512 (by decide) (fun i H9 locs9 ls9 => va_P (dC, dI) vwCl (md_w q qa qb cY cZ t (nI N) (md_cl D cl i) (md_cl S cl i)) H9 ∧ va_S (md_A q qa qb) s.heap H9 locs9 ∧ lv_has ls9 5 [(4, .int (nI i)), (3, .int (nI (md_ct a b D S i))), (0, .ref q), (1, .int w), (2, .int (md_b cl))]) ?_ ?_ (H := s.heap) (locs := []) (ls := ls) ⟨by rw [md_cl_0, md_cl_0]; exact hP, hS, hl⟩
  · intro H locs ls hi9
    obtain ⟨hP, hS, hl⟩ := hi9
    refine lv_iload hx hb dX1_many_5 (lv_at hl 0 rfl) ?_
    refine lv_sipush (v := 512) hx hb dX1_many_7 (by decide) ?_
    refine lv_icmp_ge (tgt := 113) hx hb dX1_many_10 (by decide) (fun hc => ?_) (fun hc => ?_)
    · refine lv_iload_n hx hb dX1_many_113 rfl (lv_at hl 1 rfl) ?_
      exact W.iret (v := nI (md_ct a b D S 512)) hx hb hr (fun t9 ht9 _ => ⟨⟨_, (), rfl, rfl, cl_at ht9 (hP)⟩, hS.F ht9⟩) hS.2.2 dX1_many_114
    · exact absurd (Int32.le_refl _) hc
  · intro i H locs ls _ hi hi9 kk
    obtain ⟨hP, hS, hl⟩ := hi9
    refine lv_iload hx hb dX1_many_5 (lv_at hl 0 rfl) ?_
    refine lv_sipush (v := 512) hx hb dX1_many_7 (by decide) ?_
    refine lv_icmp_ge (tgt := 113) hx hb dX1_many_10 (by decide) (fun hc => ?_) (fun hc => ?_)
    · exact absurd hc (nI_ge hi (by decide))
    · refine cl_cut (st2 := [.int (nI (md_ct a b D S (i + 1)))]) 54 (fun H9 locs9 ls9 => va_P (dC, dI) vwCl (md_w q qa qb cY cZ t (nI N) (md_cl D cl i) (md_cl S cl i)) H9 ∧ va_S (md_A q qa qb) s.heap H9 locs9 ∧ lv_has ls9 5 [(4, .int (nI i)), (3, .int (nI (md_ct a b D S i))), (0, .ref q), (1, .int w), (2, .int (md_b cl))]) ?_ (fun k54 => ?_)
      · intro H locs ls hi9
        obtain ⟨hP, hS, hl⟩ := hi9
        refine lv_istore_n (lv' := [(3, .int (nI (md_ct a b D S (i + 1)))), (4, .int (nI i)), (0, .ref q), (1, .int w), (2, .int (md_b cl))]) hx hb dX1_many_54 rfl hl (by decide) rfl (fun ls hl => ?_)
        refine lv_aload_n hx hb dX1_many_55 rfl (lv_at hl 2 rfl) ?_
        refine va_get (D := (dC, dI)) (ci := 1) (v := .ref qa) (C := RX1) (T := TX1) (N := 4) hx hb hts (by decide +kernel) hown hK hP 0 rfl rfl 2 (by decide) (hts (.fieldLink RX1 13 "CardBookModel" "dirty" "[Z") (by decide +kernel)) (fun _ h9 => h9) rfl dX1_many_56 ?_
        refine lv_iload hx hb dX1_many_59 (lv_at hl 1 rfl) ?_
        refine lv_aload_n hx hb dX1_many_61 rfl (lv_at hl 2 rfl) ?_
        refine cl_cut (st2 := [.int (md_b (D i && !cl)), .int (nI i), .ref qa]) 80 (fun H9 locs9 ls9 => va_P (dC, dI) vwCl (md_w q qa qb cY cZ t (nI N) (md_cl D cl i) (md_cl S cl i)) H9 ∧ va_S (md_A q qa qb) s.heap H9 locs9 ∧ lv_has ls9 5 [(3, .int (nI (md_ct a b D S (i + 1)))), (4, .int (nI i)), (0, .ref q), (1, .int w), (2, .int (md_b cl))]) ?_ (fun k80 => ?_)
        · intro H locs ls hi9
          obtain ⟨hP, hS, hl⟩ := hi9
          have hD := md_D (cY := cY) (cZ := cZ) (t := t) (n := (nI N)) (D := (md_cl D cl i)) (S := (md_cl S cl i)) hne
          refine cl_zast (D := (dC, dI)) hx hb hK hP hD hS 1 0 rfl rfl (D i && !cl) (rfl) hi (by decide) dX1_many_80 (fun H locs hP hS => ?_)
          have hP : va_P (dC, dI) vwCl (md_w q qa qb cY cZ t (nI N) (md_u (md_cl D cl i) i (D i && !cl)) (md_cl S cl i)) H := hP
          rw [md_cl_s] at hP
          refine lv_aload_n hx hb dX1_many_81 rfl (lv_at hl 2 rfl) ?_
          refine va_get (D := (dC, dI)) (ci := 1) (v := .ref qb) (C := RX1) (T := TX1) (N := 4) hx hb hts (by decide +kernel) hown hK hP 0 rfl rfl 3 (by decide) (hts (.fieldLink RX1 17 "CardBookModel" "saved" "[Z") (by decide +kernel)) (fun _ h9 => h9) rfl dX1_many_82 ?_
          refine lv_iload hx hb dX1_many_85 (lv_at hl 1 rfl) ?_
          refine lv_aload_n hx hb dX1_many_87 rfl (lv_at hl 2 rfl) ?_
          refine cl_cut (st2 := [.int (md_b (S i && !cl)), .int (nI i), .ref qb]) 106 (fun H9 locs9 ls9 => va_P (dC, dI) vwCl (md_w q qa qb cY cZ t (nI N) (md_cl D cl (i + 1)) (md_cl S cl i)) H9 ∧ va_S (md_A q qa qb) s.heap H9 locs9 ∧ lv_has ls9 5 [(3, .int (nI (md_ct a b D S (i + 1)))), (4, .int (nI i)), (0, .ref q), (1, .int w), (2, .int (md_b cl))]) ?_ (fun k106 => ?_)
          · intro H locs ls hi9
            obtain ⟨hP, hS, hl⟩ := hi9
            have hD := md_D (cY := cY) (cZ := cZ) (t := t) (n := (nI N)) (D := (md_cl D cl (i + 1))) (S := (md_cl S cl i)) hne
            refine cl_zast (D := (dC, dI)) hx hb hK hP hD hS 2 1 rfl rfl (S i && !cl) (rfl) hi (by decide) dX1_many_106 (fun H locs hP hS => ?_)
            have hP : va_P (dC, dI) vwCl (md_w q qa qb cY cZ t (nI N) (md_cl D cl (i + 1)) (md_u (md_cl S cl i) i (S i && !cl))) H := hP
            rw [md_cl_s] at hP
            refine lv_iinc (v := (nI (i + 1))) (lv' := [(4, .int (nI (i + 1))), (3, .int (nI (md_ct a b D S (i + 1)))), (0, .ref q), (1, .int w), (2, .int (md_b cl))]) hx hb dX1_many_107 hl (k := 1) rfl (nI_1 _) (by decide) rfl (fun ls hl => ?_)
            refine lv_goto (tgt := 5) hx hb dX1_many_110 (by decide) ?_
            exact kk _ _ _ ⟨hP, hS, lv_sub hl [0, 1, 2, 3, 4] rfl⟩
          · refine va_get (D := (dC, dI)) (ci := 1) (v := .ref qb) (C := RX1) (T := TX1) (N := 4) hx hb hts (by decide +kernel) hown hK hP 0 rfl rfl 3 (by decide) (hts (.fieldLink RX1 17 "CardBookModel" "saved" "[Z") (by decide +kernel)) (fun _ h9 => h9) rfl dX1_many_88 ?_
            refine lv_iload hx hb dX1_many_91 (lv_at hl 1 rfl) ?_
            refine cl_zald (D := (dC, dI)) hx hb hK hP 2 1 rfl rfl hi (by decide) dX1_many_93 ?_
            refine lv_if_eq (tgt := 105) hx hb dX1_many_94 (by decide) (fun he => ?_) (fun he => ?_)
            · refine lv_iconst (v := 0) hx hb dX1_many_105 (by decide) ?_
              rw [md_cl_i] at he
              refine cl_asi (y := md_b (S i && !cl)) (by rw [md_b0 he]; rfl) ?_
              exact k106 _ _ _ ⟨hP, hS, hl⟩
            · refine lv_iload_n hx hb dX1_many_97 rfl (lv_at hl 4 rfl) ?_
              refine lv_if_ne (tgt := 105) hx hb dX1_many_98 (by decide) (fun hf => ?_) (fun hf => ?_)
              · refine lv_iconst (v := 0) hx hb dX1_many_105 (by decide) ?_
                refine cl_asi (y := md_b (S i && !cl)) (by rw [md_b1 hf]; cases S i <;> rfl) ?_
                exact k106 _ _ _ ⟨hP, hS, hl⟩
              · rw [md_cl_i] at he
                refine lv_iconst (v := 1) hx hb dX1_many_101 (by decide) ?_
                refine lv_goto (tgt := 106) hx hb dX1_many_102 (by decide) ?_
                refine cl_asi (y := md_b (S i && !cl)) (by rw [md_b1 he, md_b0 hf]; rfl) ?_
                exact k106 _ _ _ ⟨hP, hS, hl⟩
        · refine va_get (D := (dC, dI)) (ci := 1) (v := .ref qa) (C := RX1) (T := TX1) (N := 4) hx hb hts (by decide +kernel) hown hK hP 0 rfl rfl 2 (by decide) (hts (.fieldLink RX1 13 "CardBookModel" "dirty" "[Z") (by decide +kernel)) (fun _ h9 => h9) rfl dX1_many_62 ?_
          refine lv_iload hx hb dX1_many_65 (lv_at hl 1 rfl) ?_
          refine cl_zald (D := (dC, dI)) hx hb hK hP 1 0 rfl rfl hi (by decide) dX1_many_67 ?_
          refine lv_if_eq (tgt := 79) hx hb dX1_many_68 (by decide) (fun he => ?_) (fun he => ?_)
          · refine lv_iconst (v := 0) hx hb dX1_many_79 (by decide) ?_
            rw [md_cl_i] at he
            refine cl_asi (y := md_b (D i && !cl)) (by rw [md_b0 he]; rfl) ?_
            exact k80 _ _ _ ⟨hP, hS, hl⟩
          · refine lv_iload_n hx hb dX1_many_71 rfl (lv_at hl 4 rfl) ?_
            refine lv_if_ne (tgt := 79) hx hb dX1_many_72 (by decide) (fun hf => ?_) (fun hf => ?_)
            · refine lv_iconst (v := 0) hx hb dX1_many_79 (by decide) ?_
              refine cl_asi (y := md_b (D i && !cl)) (by rw [md_b1 hf]; cases D i <;> rfl) ?_
              exact k80 _ _ _ ⟨hP, hS, hl⟩
            · rw [md_cl_i] at he
              refine lv_iconst (v := 1) hx hb dX1_many_75 (by decide) ?_
              refine lv_goto (tgt := 80) hx hb dX1_many_76 (by decide) ?_
              refine cl_asi (y := md_b (D i && !cl)) (by rw [md_b1 he, md_b0 hf]; rfl) ?_
              exact k80 _ _ _ ⟨hP, hS, hl⟩
      · refine lv_iload_n hx hb dX1_many_13 rfl (lv_at hl 3 rfl) ?_
        refine lv_iconst (v := 1) hx hb dX1_many_14 (by decide) ?_
        refine lv_iand hx hb dX1_many_15 ?_
        refine lv_iconst (v := 1) hx hb dX1_many_16 (by decide) ?_
        refine lv_icmp_ne (tgt := 30) hx hb dX1_many_17 (by decide) (fun ha1 => ?_) (fun ha1 => ?_)
        · refine lv_iload_n hx hb dX1_many_30 rfl (lv_at hl 3 rfl) ?_
          refine lv_iconst (v := 2) hx hb dX1_many_31 (by decide) ?_
          refine lv_iand hx hb dX1_many_32 ?_
          refine lv_iconst (v := 2) hx hb dX1_many_33 (by decide) ?_
          refine lv_icmp_ne (tgt := 53) hx hb dX1_many_34 (by decide) (fun hb2 => ?_) (fun hb2 => ?_)
          · refine lv_iload_n hx hb dX1_many_53 rfl (lv_at hl 1 rfl) ?_
            refine cl_asi (y := nI (md_ct a b D S (i + 1))) (by rw [md_ct_0 (by rw [md_no hA ha1, md_no hB hb2]; rfl)]) ?_
            exact k54 _ _ _ ⟨hP, hS, hl⟩
          · refine lv_aload_n hx hb dX1_many_37 rfl (lv_at hl 2 rfl) ?_
            refine va_get (D := (dC, dI)) (ci := 1) (v := .ref qb) (C := RX1) (T := TX1) (N := 4) hx hb hts (by decide +kernel) hown hK hP 0 rfl rfl 3 (by decide) (hts (.fieldLink RX1 17 "CardBookModel" "saved" "[Z") (by decide +kernel)) (fun _ h9 => h9) rfl dX1_many_38 ?_
            refine lv_iload hx hb dX1_many_41 (lv_at hl 0 rfl) ?_
            refine cl_zald (D := (dC, dI)) hx hb hK hP 2 1 rfl rfl hi (by decide) dX1_many_43 ?_
            rw [md_cl_i]
            refine lv_if_eq (tgt := 53) hx hb dX1_many_44 (by decide) (fun hs2 => ?_) (fun hs2 => ?_)
            · refine lv_iload_n hx hb dX1_many_53 rfl (lv_at hl 1 rfl) ?_
              refine cl_asi (y := nI (md_ct a b D S (i + 1))) (by rw [md_ct_0 (by rw [md_no hA ha1, md_b0 hs2, Bool.and_false]; rfl)]) ?_
              exact k54 _ _ _ ⟨hP, hS, hl⟩
            · refine lv_iload_n hx hb dX1_many_47 rfl (lv_at hl 1 rfl) ?_
              refine lv_iconst (v := 1) hx hb dX1_many_48 (by decide) ?_
              refine lv_iadd hx hb dX1_many_49 ?_
              refine cl_asi (y := nI (md_ct a b D S (i + 1))) (by rw [nI_1, md_ct_1 (by rw [md_no hA ha1, md_yes hB hb2, md_b1 hs2]; rfl)]) ?_
              refine lv_goto (tgt := 54) hx hb dX1_many_50 (by decide) ?_
              exact k54 _ _ _ ⟨hP, hS, hl⟩
        · refine lv_aload_n hx hb dX1_many_20 rfl (lv_at hl 2 rfl) ?_
          refine va_get (D := (dC, dI)) (ci := 1) (v := .ref qa) (C := RX1) (T := TX1) (N := 4) hx hb hts (by decide +kernel) hown hK hP 0 rfl rfl 2 (by decide) (hts (.fieldLink RX1 13 "CardBookModel" "dirty" "[Z") (by decide +kernel)) (fun _ h9 => h9) rfl dX1_many_21 ?_
          refine lv_iload hx hb dX1_many_24 (lv_at hl 0 rfl) ?_
          refine cl_zald (D := (dC, dI)) hx hb hK hP 1 0 rfl rfl hi (by decide) dX1_many_26 ?_
          rw [md_cl_i]
          refine lv_if_ne (tgt := 47) hx hb dX1_many_27 (by decide) (fun hd1 => ?_) (fun hd1 => ?_)
          · refine lv_iload_n hx hb dX1_many_47 rfl (lv_at hl 1 rfl) ?_
            refine lv_iconst (v := 1) hx hb dX1_many_48 (by decide) ?_
            refine lv_iadd hx hb dX1_many_49 ?_
            refine cl_asi (y := nI (md_ct a b D S (i + 1))) (by rw [nI_1, md_ct_1 (by rw [md_yes hA ha1, md_b1 hd1]; rfl)]) ?_
            refine lv_goto (tgt := 54) hx hb dX1_many_50 (by decide) ?_
            exact k54 _ _ _ ⟨hP, hS, hl⟩
          · have hd2 := md_b0 hd1
            refine lv_iload_n hx hb dX1_many_30 rfl (lv_at hl 3 rfl) ?_
            refine lv_iconst (v := 2) hx hb dX1_many_31 (by decide) ?_
            refine lv_iand hx hb dX1_many_32 ?_
            refine lv_iconst (v := 2) hx hb dX1_many_33 (by decide) ?_
            refine lv_icmp_ne (tgt := 53) hx hb dX1_many_34 (by decide) (fun hb2 => ?_) (fun hb2 => ?_)
            · refine lv_iload_n hx hb dX1_many_53 rfl (lv_at hl 1 rfl) ?_
              refine cl_asi (y := nI (md_ct a b D S (i + 1))) (by rw [md_ct_0 (by rw [(show (a && D i) = false by rw [hd2, Bool.and_false]), md_no hB hb2]; rfl)]) ?_
              exact k54 _ _ _ ⟨hP, hS, hl⟩
            · refine lv_aload_n hx hb dX1_many_37 rfl (lv_at hl 2 rfl) ?_
              refine va_get (D := (dC, dI)) (ci := 1) (v := .ref qb) (C := RX1) (T := TX1) (N := 4) hx hb hts (by decide +kernel) hown hK hP 0 rfl rfl 3 (by decide) (hts (.fieldLink RX1 17 "CardBookModel" "saved" "[Z") (by decide +kernel)) (fun _ h9 => h9) rfl dX1_many_38 ?_
              refine lv_iload hx hb dX1_many_41 (lv_at hl 0 rfl) ?_
              refine cl_zald (D := (dC, dI)) hx hb hK hP 2 1 rfl rfl hi (by decide) dX1_many_43 ?_
              rw [md_cl_i]
              refine lv_if_eq (tgt := 53) hx hb dX1_many_44 (by decide) (fun hs2 => ?_) (fun hs2 => ?_)
              · refine lv_iload_n hx hb dX1_many_53 rfl (lv_at hl 1 rfl) ?_
                refine cl_asi (y := nI (md_ct a b D S (i + 1))) (by rw [md_ct_0 (by rw [(show (a && D i) = false by rw [hd2, Bool.and_false]), md_b0 hs2, Bool.and_false]; rfl)]) ?_
                exact k54 _ _ _ ⟨hP, hS, hl⟩
              · refine lv_iload_n hx hb dX1_many_47 rfl (lv_at hl 1 rfl) ?_
                refine lv_iconst (v := 1) hx hb dX1_many_48 (by decide) ?_
                refine lv_iadd hx hb dX1_many_49 ?_
                refine cl_asi (y := nI (md_ct a b D S (i + 1))) (by rw [nI_1, md_ct_1 (by rw [(show (a && D i) = false by rw [hd2, Bool.and_false]), md_yes hB hb2, md_b1 hs2]; rfl)]) ?_
                refine lv_goto (tgt := 54) hx hb dX1_many_50 (by decide) ?_
                exact k54 _ _ _ ⟨hP, hS, hl⟩
set_option maxHeartbeats 4000000 in
set_option maxRecDepth 100000 in
/-- space(n) -/
theorem c1_space (l : Launch) (dC : Nat → ClassId) (dI : Nat → Nat → Nat) (q qa qb : Nat) (cY cZ : ClassId) (t : Int32) (N : Nat) (D S : Nat → Bool) (n : Nat) (hn1 : 1 ≤ n) (hn2 : n ≤ 16384) (hne : md_ne q qa qb) : Met l yX1_space wsX1_space ({ frames := 1, cells := 0, slots := 0, locals := 40 }) (cb_Pc (dC, dI) [.ref q, .int (nI n)] (md_w q qa qb cY cZ t (nI N) D S) [(cY, .boolean), (cZ, .boolean)]) (va_Qi (fun (r9 : Int32) (_ : Unit) => (nI N) = r9) (fun _ t9 => va_P (dC, dI) vwCl (md_w q qa qb cY cZ 0 (nI n) (md_cl D true 512) (md_cl S true 512)) t9.heap) (md_A q qa qb)) 0 0 (md_A q qa qb) := by
  refine Met.ofW (cc := cX1_space) (maxL := 4) (ret := (some .int)) (by decide) rfl ?_
  intro p e s m args below meth c s₁ B hml hv
  obtain ⟨rfl, hP, hK⟩ := hv
  have hx := B.exec
  have hb := B.bytes
  have hr := B.returns
  have hts := atoms_spec (ws := wsX1_space) B.pre
  have hown : s.vm.findClass RX1 = some m.cls := findClass_of_methodNamed B.named
  have hlocks := B.notSynchronized
  have hl := lv_entry ([.ref q, .int (nI n)]) (n := 4) (Nat.le_of_ble_eq_true rfl)
  rw [lg_entry_eq]
  generalize (lg_sl ([.ref q, .int (nI n)]) ++ List.replicate (4 - (lg_sl ([.ref q, .int (nI n)])).length) Slot.unset).toArray = ls at hl ⊢
  have hl : lv_has ls 4 [(0, .ref q), (1, .int (nI n))] := hl
  have hS : va_S (md_A q qa qb) s.heap s.heap [] := va_S.rf
  refine lv_aload_n hx hb dX1_space_0 rfl (lv_at hl 0 rfl) ?_
  refine lv_iload_n hx hb dX1_space_1 rfl (lv_at hl 1 rfl) ?_
  refine lv_iconst (v := 1) hx hb dX1_space_2 (by decide) ?_
  refine lv_icmp_lt (tgt := 17) hx hb dX1_space_3 (by decide) (fun hc => ?_) (fun hc => ?_)
  · exact absurd hc (nI_nlt hn1 (by omega))
  · refine lv_iload_n hx hb dX1_space_6 rfl (lv_at hl 1 rfl) ?_
    refine lv_sipush (v := 16384) hx hb dX1_space_7 (by decide) ?_
    refine lv_icmp_gt (tgt := 17) hx hb dX1_space_10 (by decide) (fun hd => ?_) (fun hd => ?_)
    · exact absurd hd (nI_nlt hn2 (by decide))
    · refine lv_iconst (v := 1) hx hb dX1_space_13 (by decide) ?_
      refine lv_goto (tgt := 18) hx hb dX1_space_14 (by decide) ?_
      refine va_calli (va_runV (As := [.int (md_b true)]) (rest := []) ⟨hx, hb, hml, hown, hts⟩ (c1_goes l dC dI q qa qb cY cZ t N D S true hne) (cwV 1 hts gX1_space_X1_goes rfl rfl rfl (by decide +kernel) ⟨Nat.le_of_ble_eq_true rfl, Nat.le_of_ble_eq_true rfl⟩) (md_preV hK hP [.int (md_b true)]) rfl rfl hl.1 rfl (lv_room (Nat.le_of_ble_eq_true rfl)) dX1_space_18 ⟨Nat.zero_le _, Nat.zero_le _⟩) hS (fun q _ h9 => h9) (fun q h9 => h9) (fun r9 u9 t9 H locs ht9 hvm9 hw9 hP9 hz9 hk9 hS => ?_)
      rw [ht9] at hP9
      subst hw9
      have hP : va_P (dC, dI) vwCl (md_w q qa qb cY cZ (md_b (!true)) (nI N) D S) H := hP9
      refine lv_if_ne (tgt := 26) hx hb dX1_space_21 (by decide) (fun he => ?_) (fun he => ?_)
      · refine lv_aload_n hx hb dX1_space_26 rfl (lv_at hl 0 rfl) ?_
        refine va_get (D := (dC, dI)) (ci := 1) (v := .int (nI N)) (C := RX1) (T := TX1) (N := 4) hx hb hts (by decide +kernel) hown hK hP 0 rfl rfl 1 (by decide) (hts (.fieldLink RX1 7 "CardBookModel" "cells" "I") (by decide +kernel)) (fun _ h9 => h9) rfl dX1_space_27 ?_
        refine lv_istore_n (lv' := [(2, .int (nI N)), (0, .ref q), (1, .int (nI n))]) hx hb dX1_space_30 rfl hl (by decide) rfl (fun ls hl => ?_)
        refine lv_aload_n hx hb dX1_space_31 rfl (lv_at hl 1 rfl) ?_
        refine lv_iconst (v := 3) hx hb dX1_space_32 (by decide) ?_
        refine lv_iconst (v := 1) hx hb dX1_space_33 (by decide) ?_
        refine va_calli (va_runV (As := [.int 3, .int (md_b true)]) (rest := []) ⟨hx, hb, hml, hown, hts⟩ (c1_many l dC dI q qa qb cY cZ (md_b (!true)) N D S 3 true true true hne (by decide) (by decide)) (cwV 2 hts gX1_space_X1_many rfl rfl rfl (by decide +kernel) ⟨Nat.le_of_ble_eq_true rfl, Nat.le_of_ble_eq_true rfl⟩) (md_preV hK hP [.int 3, .int (md_b true)]) rfl rfl hl.1 rfl (lv_room (Nat.le_of_ble_eq_true rfl)) dX1_space_34 ⟨Nat.zero_le _, Nat.zero_le _⟩) hS (fun q _ h9 => h9) (fun q h9 => h9) (fun r9 u9 t9 H locs ht9 hvm9 hw9 hP9 hz9 hk9 hS => ?_)
        rw [ht9] at hP9
        subst hw9
        have hP : va_P (dC, dI) vwCl (md_w q qa qb cY cZ (md_b (!true)) (nI N) (md_cl D true 512) (md_cl S true 512)) H := hP9
        refine lv_istore_n (lv' := [(3, .int (nI (md_ct true true D S 512))), (2, .int (nI N)), (0, .ref q), (1, .int (nI n))]) hx hb dX1_space_37 rfl hl (by decide) rfl (fun ls hl => ?_)
        refine lv_aload_n hx hb dX1_space_38 rfl (lv_at hl 2 rfl) ?_
        refine lv_iload_n hx hb dX1_space_39 rfl (lv_at hl 3 rfl) ?_
        have hD := md_D (cY := cY) (cZ := cZ) (t := (md_b (!true))) (n := (nI N)) (D := (md_cl D true 512)) (S := (md_cl S true 512)) hne
        refine va_put (D := (dC, dI)) (ci := 1) (v := .int (nI n)) (ty := .int) (C := RX1) (T := TX1) (N := 4) hx hb hts (by decide +kernel) tyX1 tyX1_ok nmX1 hown hK hP hD hS 0 rfl rfl 1 (by decide) (hts (.fieldLink RX1 7 "CardBookModel" "cells" "I") (by decide +kernel)) (fun _ h9 => h9) rfl (by decide +kernel) rfl rfl (Nat.le_of_ble_eq_true rfl) dX1_space_40 (fun H locs hP _ hS => ?_)
        have hP : va_P (dC, dI) vwCl (md_w q qa qb cY cZ (md_b (!true)) (nI n) (md_cl D true 512) (md_cl S true 512)) H := hP
        refine lv_iload_n hx hb dX1_space_43 rfl (lv_at hl 1 rfl) ?_
        exact W.iret (v := nI N) hx hb hr (fun t9 ht9 _ => ⟨⟨_, (), rfl, rfl, cl_at ht9 (hP)⟩, hS.F ht9⟩) hS.2.2 dX1_space_44
      · exact absurd he (by decide)
set_option maxHeartbeats 4000000 in
set_option maxRecDepth 100000 in
/-- space(x), x is not 1 .. 16384 -/
theorem e1_space (l : Launch) (dC : Nat → ClassId) (dI : Nat → Nat → Nat) (q qa qb : Nat) (cY cZ : ClassId) (t : Int32) (N : Nat) (D S : Nat → Bool) (x : Int32) (hbad : x < 1 ∨ ¬ x ≤ 16384) (hne : md_ne q qa qb) : Met l yX1_space wsX1_space ({ frames := 1, cells := 0, slots := 0, locals := 40 }) (cb_Pc (dC, dI) [.ref q, .int x] (md_w q qa qb cY cZ t (nI N) D S) [(cY, .boolean), (cZ, .boolean)]) (va_Qi (fun (r9 : Int32) (_ : Unit) => (0 : Int32) = r9) (fun _ t9 => va_P (dC, dI) vwCl (md_w q qa qb cY cZ 1 (nI N) D S) t9.heap) (md_A q qa qb)) 0 0 (md_A q qa qb) := by
  refine Met.ofW (cc := cX1_space) (maxL := 4) (ret := (some .int)) (by decide) rfl ?_
  intro p e s m args below meth c s₁ B hml hv
  obtain ⟨rfl, hP, hK⟩ := hv
  have hx := B.exec
  have hb := B.bytes
  have hr := B.returns
  have hts := atoms_spec (ws := wsX1_space) B.pre
  have hown : s.vm.findClass RX1 = some m.cls := findClass_of_methodNamed B.named
  have hlocks := B.notSynchronized
  have hl := lv_entry ([.ref q, .int x]) (n := 4) (Nat.le_of_ble_eq_true rfl)
  rw [lg_entry_eq]
  generalize (lg_sl ([.ref q, .int x]) ++ List.replicate (4 - (lg_sl ([.ref q, .int x])).length) Slot.unset).toArray = ls at hl ⊢
  have hl : lv_has ls 4 [(0, .ref q), (1, .int x)] := hl
  have hS : va_S (md_A q qa qb) s.heap s.heap [] := va_S.rf
  refine lv_aload_n hx hb dX1_space_0 rfl (lv_at hl 0 rfl) ?_
  refine lv_iload_n hx hb dX1_space_1 rfl (lv_at hl 1 rfl) ?_
  refine lv_iconst (v := 1) hx hb dX1_space_2 (by decide) ?_
  refine lv_icmp_lt (tgt := 17) hx hb dX1_space_3 (by decide) (fun hc => ?_) (fun hc => ?_)
  · refine lv_iconst (v := 0) hx hb dX1_space_17 (by decide) ?_
    refine va_calli (va_runV (As := [.int (md_b false)]) (rest := []) ⟨hx, hb, hml, hown, hts⟩ (c1_goes l dC dI q qa qb cY cZ t N D S false hne) (cwV 1 hts gX1_space_X1_goes rfl rfl rfl (by decide +kernel) ⟨Nat.le_of_ble_eq_true rfl, Nat.le_of_ble_eq_true rfl⟩) (md_preV hK hP [.int (md_b false)]) rfl rfl hl.1 rfl (lv_room (Nat.le_of_ble_eq_true rfl)) dX1_space_18 ⟨Nat.zero_le _, Nat.zero_le _⟩) hS (fun q _ h9 => h9) (fun q h9 => h9) (fun r9 u9 t9 H locs ht9 hvm9 hw9 hP9 hz9 hk9 hS => ?_)
    rw [ht9] at hP9
    subst hw9
    have hP : va_P (dC, dI) vwCl (md_w q qa qb cY cZ (md_b (!false)) (nI N) D S) H := hP9
    refine lv_if_ne (tgt := 26) hx hb dX1_space_21 (by decide) (fun hu => ?_) (fun hu => ?_)
    · exact absurd (show md_b false = 0 by decide) hu
    · refine lv_iconst (v := 0) hx hb dX1_space_24 (by decide) ?_
      exact W.iret (v := 0) hx hb hr (fun t9 ht9 _ => ⟨⟨_, (), rfl, rfl, cl_at ht9 (hP)⟩, hS.F ht9⟩) hS.2.2 dX1_space_25
  · refine lv_iload_n hx hb dX1_space_6 rfl (lv_at hl 1 rfl) ?_
    refine lv_sipush (v := 16384) hx hb dX1_space_7 (by decide) ?_
    refine lv_icmp_gt (tgt := 17) hx hb dX1_space_10 (by decide) (fun hd => ?_) (fun hd => ?_)
    · refine lv_iconst (v := 0) hx hb dX1_space_17 (by decide) ?_
      refine va_calli (va_runV (As := [.int (md_b false)]) (rest := []) ⟨hx, hb, hml, hown, hts⟩ (c1_goes l dC dI q qa qb cY cZ t N D S false hne) (cwV 1 hts gX1_space_X1_goes rfl rfl rfl (by decide +kernel) ⟨Nat.le_of_ble_eq_true rfl, Nat.le_of_ble_eq_true rfl⟩) (md_preV hK hP [.int (md_b false)]) rfl rfl hl.1 rfl (lv_room (Nat.le_of_ble_eq_true rfl)) dX1_space_18 ⟨Nat.zero_le _, Nat.zero_le _⟩) hS (fun q _ h9 => h9) (fun q h9 => h9) (fun r9 u9 t9 H locs ht9 hvm9 hw9 hP9 hz9 hk9 hS => ?_)
      rw [ht9] at hP9
      subst hw9
      have hP : va_P (dC, dI) vwCl (md_w q qa qb cY cZ (md_b (!false)) (nI N) D S) H := hP9
      refine lv_if_ne (tgt := 26) hx hb dX1_space_21 (by decide) (fun hu => ?_) (fun hu => ?_)
      · exact absurd (show md_b false = 0 by decide) hu
      · refine lv_iconst (v := 0) hx hb dX1_space_24 (by decide) ?_
        exact W.iret (v := 0) hx hb hr (fun t9 ht9 _ => ⟨⟨_, (), rfl, rfl, cl_at ht9 (hP)⟩, hS.F ht9⟩) hS.2.2 dX1_space_25
    · exact absurd (Int32.not_lt.mp hd) (hbad.resolve_left hc)
set_option maxHeartbeats 4000000 in
set_option maxRecDepth 100000 in
/-- write(k) -/
theorem c1_write (l : Launch) (dC : Nat → ClassId) (dI : Nat → Nat → Nat) (q qa qb : Nat) (cY cZ : ClassId) (t : Int32) (N : Nat) (D S : Nat → Bool) (k : Nat) (h2 : N ≤ 16384) (hk : k < N) (hne : md_ne q qa qb) : Met l yX1_write wsX1_write ({ frames := 1, cells := 0, slots := 0, locals := 40 }) (cb_Pc (dC, dI) [.ref q, .int (nI k)] (md_w q qa qb cY cZ t (nI N) D S) [(cY, .boolean), (cZ, .boolean)]) (va_Qi (fun (r9 : Int32) (_ : Unit) => (nI (k / 32)) = r9) (fun _ t9 => va_P (dC, dI) vwCl (md_w q qa qb cY cZ 0 (nI N) (md_u D (k / 32) true) S) t9.heap) (md_A q qa qb)) 0 0 (md_A q qa qb) := by
  refine Met.ofW (cc := cX1_write) (maxL := 2) (ret := (some .int)) (by decide) rfl ?_
  intro p e s m args below meth c s₁ B hml hv
  obtain ⟨rfl, hP, hK⟩ := hv
  have hx := B.exec
  have hb := B.bytes
  have hr := B.returns
  have hts := atoms_spec (ws := wsX1_write) B.pre
  have hown : s.vm.findClass RX1 = some m.cls := findClass_of_methodNamed B.named
  have hlocks := B.notSynchronized
  have hl := lv_entry ([.ref q, .int (nI k)]) (n := 2) (Nat.le_of_ble_eq_true rfl)
  rw [lg_entry_eq]
  generalize (lg_sl ([.ref q, .int (nI k)]) ++ List.replicate (2 - (lg_sl ([.ref q, .int (nI k)])).length) Slot.unset).toArray = ls at hl ⊢
  have hl : lv_has ls 2 [(0, .ref q), (1, .int (nI k))] := hl
  have hS : va_S (md_A q qa qb) s.heap s.heap [] := va_S.rf
  refine lv_aload_n hx hb dX1_write_0 rfl (lv_at hl 0 rfl) ?_
  refine lv_aload_n hx hb dX1_write_1 rfl (lv_at hl 0 rfl) ?_
  refine lv_iload_n hx hb dX1_write_2 rfl (lv_at hl 1 rfl) ?_
  refine cl_calli (W.runV (As := [.int (nI k)]) (rest := [.ref q]) ⟨hx, hb, hml, hown, hts⟩ (c1_isCell l dC dI q qa qb cY cZ t N D S (nI k) true  (by constructor; exact fun _ => ⟨nI_pos (by omega), nI_lt hk (by omega)⟩; exact fun _ => rfl)) (cwV 1 hts gX1_write_X1_isCell rfl rfl rfl (by decide +kernel) ⟨Nat.le_of_ble_eq_true rfl, Nat.le_of_ble_eq_true rfl⟩) (md_preV hK hP [.int (nI k)]) rfl rfl hl.1 rfl (lv_room (Nat.le_of_ble_eq_true rfl)) dX1_write_3 ⟨Nat.zero_le _, Nat.zero_le _⟩) ?_
  refine va_calli (va_runV (As := [.int (md_b true)]) (rest := []) ⟨hx, hb, hml, hown, hts⟩ (c1_goes l dC dI q qa qb cY cZ t N D S true hne) (cwV 1 hts gX1_write_X1_goes rfl rfl rfl (by decide +kernel) ⟨Nat.le_of_ble_eq_true rfl, Nat.le_of_ble_eq_true rfl⟩) (md_preV hK hP [.int (md_b true)]) rfl rfl hl.1 rfl (lv_room (Nat.le_of_ble_eq_true rfl)) dX1_write_6 ⟨Nat.zero_le _, Nat.zero_le _⟩) hS (fun q _ h9 => h9) (fun q h9 => h9) (fun r9 u9 t9 H locs ht9 hvm9 hw9 hP9 hz9 hk9 hS => ?_)
  rw [ht9] at hP9
  subst hw9
  have hP : va_P (dC, dI) vwCl (md_w q qa qb cY cZ (md_b (!true)) (nI N) D S) H := hP9
  refine lv_if_ne (tgt := 14) hx hb dX1_write_9 (by decide) (fun hc => ?_) (fun hc => ?_)
  · refine lv_aload_n hx hb dX1_write_14 rfl (lv_at hl 0 rfl) ?_
    refine va_get (D := (dC, dI)) (ci := 1) (v := .ref qa) (C := RX1) (T := TX1) (N := 4) hx hb hts (by decide +kernel) hown hK hP 0 rfl rfl 2 (by decide) (hts (.fieldLink RX1 13 "CardBookModel" "dirty" "[Z") (by decide +kernel)) (fun _ h9 => h9) rfl dX1_write_15 ?_
    refine lv_iload_n hx hb dX1_write_18 rfl (lv_at hl 1 rfl) ?_
    refine lv_bipush (v := 32) hx hb dX1_write_19 (by decide) ?_
    refine lv_idiv hx hb dX1_write_21 (by decide) ?_
    refine cl_asi (pk_div (d := 32) (show k < 2 ^ 31 by omega) (by decide) (by decide)) ?_
    refine lv_iconst (v := 1) hx hb dX1_write_22 (by decide) ?_
    have hD := md_D (cY := cY) (cZ := cZ) (t := (md_b (!true))) (n := (nI N)) (D := D) (S := S) hne
    refine cl_zast (D := (dC, dI)) hx hb hK hP hD hS 1 0 rfl rfl true (rfl) (show k / 32 < 512 by omega) (by decide) dX1_write_23 (fun H locs hP hS => ?_)
    have hP : va_P (dC, dI) vwCl (md_w q qa qb cY cZ (md_b (!true)) (nI N) (md_u D (k / 32) true) S) H := hP
    refine lv_iload_n hx hb dX1_write_24 rfl (lv_at hl 1 rfl) ?_
    refine lv_bipush (v := 32) hx hb dX1_write_25 (by decide) ?_
    refine lv_idiv hx hb dX1_write_27 (by decide) ?_
    refine cl_asi (pk_div (d := 32) (show k < 2 ^ 31 by omega) (by decide) (by decide)) ?_
    exact W.iret (v := nI (k / 32)) hx hb hr (fun t9 ht9 _ => ⟨⟨_, (), rfl, rfl, cl_at ht9 (hP)⟩, hS.F ht9⟩) hS.2.2 dX1_write_28
  · exact absurd hc (by decide)
set_option maxHeartbeats 4000000 in
set_option maxRecDepth 100000 in
/-- write(x), where there is no such cell -/
theorem e1_write (l : Launch) (dC : Nat → ClassId) (dI : Nat → Nat → Nat) (q qa qb : Nat) (cY cZ : ClassId) (t : Int32) (N : Nat) (D S : Nat → Bool) (x : Int32) (hbad : x < 0 ∨ ¬ x < nI N) (hne : md_ne q qa qb) : Met l yX1_write wsX1_write ({ frames := 1, cells := 0, slots := 0, locals := 40 }) (cb_Pc (dC, dI) [.ref q, .int x] (md_w q qa qb cY cZ t (nI N) D S) [(cY, .boolean), (cZ, .boolean)]) (va_Qi (fun (r9 : Int32) (_ : Unit) => (0 : Int32) = r9) (fun _ t9 => va_P (dC, dI) vwCl (md_w q qa qb cY cZ 1 (nI N) D S) t9.heap) (md_A q qa qb)) 0 0 (md_A q qa qb) := by
  refine Met.ofW (cc := cX1_write) (maxL := 2) (ret := (some .int)) (by decide) rfl ?_
  intro p e s m args below meth c s₁ B hml hv
  obtain ⟨rfl, hP, hK⟩ := hv
  have hx := B.exec
  have hb := B.bytes
  have hr := B.returns
  have hts := atoms_spec (ws := wsX1_write) B.pre
  have hown : s.vm.findClass RX1 = some m.cls := findClass_of_methodNamed B.named
  have hlocks := B.notSynchronized
  have hl := lv_entry ([.ref q, .int x]) (n := 2) (Nat.le_of_ble_eq_true rfl)
  rw [lg_entry_eq]
  generalize (lg_sl ([.ref q, .int x]) ++ List.replicate (2 - (lg_sl ([.ref q, .int x])).length) Slot.unset).toArray = ls at hl ⊢
  have hl : lv_has ls 2 [(0, .ref q), (1, .int x)] := hl
  have hS : va_S (md_A q qa qb) s.heap s.heap [] := va_S.rf
  refine lv_aload_n hx hb dX1_write_0 rfl (lv_at hl 0 rfl) ?_
  refine lv_aload_n hx hb dX1_write_1 rfl (lv_at hl 0 rfl) ?_
  refine lv_iload_n hx hb dX1_write_2 rfl (lv_at hl 1 rfl) ?_
  refine cl_calli (W.runV (As := [.int x]) (rest := [.ref q]) ⟨hx, hb, hml, hown, hts⟩ (c1_isCell l dC dI q qa qb cY cZ t N D S x false  (by constructor; exact fun h9 => (Bool.false_ne_true h9).elim; exact fun h9 => (hbad.elim h9.1 (fun h8 => h8 h9.2)).elim)) (cwV 1 hts gX1_write_X1_isCell rfl rfl rfl (by decide +kernel) ⟨Nat.le_of_ble_eq_true rfl, Nat.le_of_ble_eq_true rfl⟩) (md_preV hK hP [.int x]) rfl rfl hl.1 rfl (lv_room (Nat.le_of_ble_eq_true rfl)) dX1_write_3 ⟨Nat.zero_le _, Nat.zero_le _⟩) ?_
  refine va_calli (va_runV (As := [.int (md_b false)]) (rest := []) ⟨hx, hb, hml, hown, hts⟩ (c1_goes l dC dI q qa qb cY cZ t N D S false hne) (cwV 1 hts gX1_write_X1_goes rfl rfl rfl (by decide +kernel) ⟨Nat.le_of_ble_eq_true rfl, Nat.le_of_ble_eq_true rfl⟩) (md_preV hK hP [.int (md_b false)]) rfl rfl hl.1 rfl (lv_room (Nat.le_of_ble_eq_true rfl)) dX1_write_6 ⟨Nat.zero_le _, Nat.zero_le _⟩) hS (fun q _ h9 => h9) (fun q h9 => h9) (fun r9 u9 t9 H locs ht9 hvm9 hw9 hP9 hz9 hk9 hS => ?_)
  rw [ht9] at hP9
  subst hw9
  have hP : va_P (dC, dI) vwCl (md_w q qa qb cY cZ (md_b (!false)) (nI N) D S) H := hP9
  refine lv_if_ne (tgt := 14) hx hb dX1_write_9 (by decide) (fun hc => ?_) (fun hc => ?_)
  · exact absurd (show md_b false = 0 by decide) hc
  · refine lv_iconst (v := 0) hx hb dX1_write_12 (by decide) ?_
    exact W.iret (v := 0) hx hb hr (fun t9 ht9 _ => ⟨⟨_, (), rfl, rfl, cl_at ht9 (hP)⟩, hS.F ht9⟩) hS.2.2 dX1_write_13
set_option maxHeartbeats 4000000 in
set_option maxRecDepth 100000 in
/-- cover(k, z) -/
theorem c1_cover (l : Launch) (dC : Nat → ClassId) (dI : Nat → Nat → Nat) (q qa qb : Nat) (cY cZ : ClassId) (t : Int32) (N : Nat) (D S : Nat → Bool) (k z : Nat) (h1 : 1 ≤ N) (h2 : N ≤ 16384) (hz : 1 ≤ z) (hk : k + z ≤ N) (hne : md_ne q qa qb) : Met l yX1_cover wsX1_cover ({ frames := 1, cells := 0, slots := 0, locals := 40 }) (cb_Pc (dC, dI) [.ref q, .int (nI k), .int (nI z)] (md_w q qa qb cY cZ t (nI N) D S) [(cY, .boolean), (cZ, .boolean)]) (va_Qi (fun (r9 : Int32) (_ : Unit) => (nI (md_n (k / 32) ((k + z - 1) / 32) (cb_cc N))) = r9) (fun _ t9 => va_P (dC, dI) vwCl (md_w q qa qb cY cZ 0 (nI N) D (md_cv S (k / 32) ((k + z - 1) / 32) (cb_cc N))) t9.heap) (md_A q qa qb)) 0 0 (md_A q qa qb) := by
  refine Met.ofW (cc := cX1_cover) (maxL := 5) (ret := (some .int)) (by decide) rfl ?_
  intro p e s m args below meth c s₁ B hml hv
  obtain ⟨rfl, hP, hK⟩ := hv
  have hx := B.exec
  have hb := B.bytes
  have hr := B.returns
  have hts := atoms_spec (ws := wsX1_cover) B.pre
  have hown : s.vm.findClass RX1 = some m.cls := findClass_of_methodNamed B.named
  have hlocks := B.notSynchronized
  have hl := lv_entry ([.ref q, .int (nI k), .int (nI z)]) (n := 5) (Nat.le_of_ble_eq_true rfl)
  rw [lg_entry_eq]
  generalize (lg_sl ([.ref q, .int (nI k), .int (nI z)]) ++ List.replicate (5 - (lg_sl ([.ref q, .int (nI k), .int (nI z)])).length) Slot.unset).toArray = ls at hl ⊢
  have hl : lv_has ls 5 [(0, .ref q), (1, .int (nI k)), (2, .int (nI z))] := hl
  have hS : va_S (md_A q qa qb) s.heap s.heap [] := va_S.rf
  refine lv_aload_n hx hb dX1_cover_0 rfl (lv_at hl 0 rfl) ?_
  refine lv_aload_n hx hb dX1_cover_1 rfl (lv_at hl 0 rfl) ?_
  refine lv_iload_n hx hb dX1_cover_2 rfl (lv_at hl 1 rfl) ?_
  refine cl_calli (W.runV (As := [.int (nI k)]) (rest := [.ref q]) ⟨hx, hb, hml, hown, hts⟩ (c1_isCell l dC dI q qa qb cY cZ t N D S (nI k) true  (by constructor; exact fun _ => ⟨nI_pos (by omega), nI_lt (show k < N by omega) (by omega)⟩; exact fun _ => rfl)) (cwV 1 hts gX1_cover_X1_isCell rfl rfl rfl (by decide +kernel) ⟨Nat.le_of_ble_eq_true rfl, Nat.le_of_ble_eq_true rfl⟩) (md_preV hK hP [.int (nI k)]) rfl rfl hl.1 rfl (lv_room (Nat.le_of_ble_eq_true rfl)) dX1_cover_3 ⟨Nat.zero_le _, Nat.zero_le _⟩) ?_
  refine lv_if_eq (tgt := 28) hx hb dX1_cover_6 (by decide) (fun hc => ?_) (fun hc => ?_)
  · exact absurd hc (by decide)
  · refine lv_iload_n hx hb dX1_cover_9 rfl (lv_at hl 2 rfl) ?_
    refine lv_iconst (v := 1) hx hb dX1_cover_10 (by decide) ?_
    refine lv_icmp_lt (tgt := 28) hx hb dX1_cover_11 (by decide) (fun hd => ?_) (fun hd => ?_)
    · exact absurd hd (nI_nlt hz (by omega))
    · refine lv_iload_n hx hb dX1_cover_14 rfl (lv_at hl 2 rfl) ?_
      refine lv_aload_n hx hb dX1_cover_15 rfl (lv_at hl 0 rfl) ?_
      refine va_get (D := (dC, dI)) (ci := 1) (v := .int (nI N)) (C := RX1) (T := TX1) (N := 4) hx hb hts (by decide +kernel) hown hK hP 0 rfl rfl 1 (by decide) (hts (.fieldLink RX1 7 "CardBookModel" "cells" "I") (by decide +kernel)) (fun _ h9 => h9) rfl dX1_cover_16 ?_
      refine lv_iload_n hx hb dX1_cover_19 rfl (lv_at hl 1 rfl) ?_
      refine lv_isub hx hb dX1_cover_20 ?_
      refine cl_asi (pk_sub (by omega)) ?_
      refine lv_icmp_gt (tgt := 28) hx hb dX1_cover_21 (by decide) (fun he => ?_) (fun he => ?_)
      · exact absurd he (nI_nlt (by omega) (by omega))
      · refine lv_iconst (v := 1) hx hb dX1_cover_24 (by decide) ?_
        refine lv_goto (tgt := 29) hx hb dX1_cover_25 (by decide) ?_
        refine va_calli (va_runV (As := [.int (md_b true)]) (rest := []) ⟨hx, hb, hml, hown, hts⟩ (c1_goes l dC dI q qa qb cY cZ t N D S true hne) (cwV 1 hts gX1_cover_X1_goes rfl rfl rfl (by decide +kernel) ⟨Nat.le_of_ble_eq_true rfl, Nat.le_of_ble_eq_true rfl⟩) (md_preV hK hP [.int (md_b true)]) rfl rfl hl.1 rfl (lv_room (Nat.le_of_ble_eq_true rfl)) dX1_cover_29 ⟨Nat.zero_le _, Nat.zero_le _⟩) hS (fun q _ h9 => h9) (fun q h9 => h9) (fun r9 u9 t9 H locs ht9 hvm9 hw9 hP9 hz9 hk9 hS => ?_)
        rw [ht9] at hP9
        subst hw9
        have hP : va_P (dC, dI) vwCl (md_w q qa qb cY cZ (md_b (!true)) (nI N) D S) H := hP9
        refine lv_if_ne (tgt := 37) hx hb dX1_cover_32 (by decide) (fun hf => ?_) (fun hf => ?_)
        · refine lv_iconst (v := 0) hx hb dX1_cover_37 (by decide) ?_
          refine lv_istore_n (lv' := [(3, .int 0), (0, .ref q), (1, .int (nI k)), (2, .int (nI z))]) hx hb dX1_cover_38 rfl hl (by decide) rfl (fun ls hl => ?_)
          refine lv_iconst (v := 0) hx hb dX1_cover_39 (by decide) ?_
          refine lv_istore (lv' := [(4, .int 0), (3, .int 0), (0, .ref q), (1, .int (nI k)), (2, .int (nI z))]) hx hb dX1_cover_40 hl (by decide) rfl (fun ls hl => ?_)
          refine cl_loop 0 (cb_cc N) (Nat.zero_le _) (fun i H9 locs9 ls9 => va_P (dC, dI) vwCl (md_w q qa qb cY cZ (md_b (!true)) (nI N) D (md_cv S (k / 32) ((k + z - 1) / 32) i)) H9 ∧ va_S (md_A q qa qb) s.heap H9 locs9 ∧ lv_has ls9 5 [(4, .int (nI i)), (3, .int (nI (md_n (k / 32) ((k + z - 1) / 32) i))), (0, .ref q), (1, .int (nI k)), (2, .int (nI z))]) ?_ ?_ (H := H) (locs := locs) (ls := ls) ⟨by rw [md_cv_0]; exact hP, hS, lv_sub hl [0, 1, 2, 3, 4] (by rw [md_n_0]; rfl)⟩
          · intro H locs ls hi9
            obtain ⟨hP, hS, hl⟩ := hi9
            refine lv_iload hx hb dX1_cover_42 (lv_at hl 0 rfl) ?_
            refine lv_aload_n hx hb dX1_cover_44 rfl (lv_at hl 2 rfl) ?_
            refine cl_calli (W.runV (As := []) (rest := [.int (nI (cb_cc N))]) ⟨hx, hb, hml, hown, hts⟩ (c1_cards l dC dI q qa qb cY cZ (md_b (!true)) N D (md_cv S (k / 32) ((k + z - 1) / 32) (cb_cc N)) h1 h2) (cwV 0 hts gX1_cover_X1_cards rfl rfl rfl (by decide +kernel) ⟨Nat.le_of_ble_eq_true rfl, Nat.le_of_ble_eq_true rfl⟩) (md_preV hK hP []) rfl rfl hl.1 rfl (lv_room (Nat.le_of_ble_eq_true rfl)) dX1_cover_45 ⟨Nat.zero_le _, Nat.zero_le _⟩) ?_
            refine lv_icmp_ge (tgt := 91) hx hb dX1_cover_48 (by decide) (fun hg => ?_) (fun hg => ?_)
            · refine lv_iload_n hx hb dX1_cover_91 rfl (lv_at hl 1 rfl) ?_
              exact W.iret (v := nI (md_n (k / 32) ((k + z - 1) / 32) (cb_cc N))) hx hb hr (fun t9 ht9 _ => ⟨⟨_, (), rfl, rfl, cl_at ht9 (hP)⟩, hS.F ht9⟩) hS.2.2 dX1_cover_92
            · exact absurd (Int32.le_refl _) hg
          · intro i H locs ls _ hi hi9 kk
            have hcc := cb_cc_le h2
            obtain ⟨hP, hS, hl⟩ := hi9
            refine lv_iload hx hb dX1_cover_42 (lv_at hl 0 rfl) ?_
            refine lv_aload_n hx hb dX1_cover_44 rfl (lv_at hl 2 rfl) ?_
            refine cl_calli (W.runV (As := []) (rest := [.int (nI i)]) ⟨hx, hb, hml, hown, hts⟩ (c1_cards l dC dI q qa qb cY cZ (md_b (!true)) N D (md_cv S (k / 32) ((k + z - 1) / 32) i) h1 h2) (cwV 0 hts gX1_cover_X1_cards rfl rfl rfl (by decide +kernel) ⟨Nat.le_of_ble_eq_true rfl, Nat.le_of_ble_eq_true rfl⟩) (md_preV hK hP []) rfl rfl hl.1 rfl (lv_room (Nat.le_of_ble_eq_true rfl)) dX1_cover_45 ⟨Nat.zero_le _, Nat.zero_le _⟩) ?_
            refine lv_icmp_ge (tgt := 91) hx hb dX1_cover_48 (by decide) (fun hg => ?_) (fun hg => ?_)
            · exact absurd hg (nI_ge hi (by omega))
            · refine lv_bipush (v := 32) hx hb dX1_cover_51 (by decide) ?_
              refine lv_iload hx hb dX1_cover_53 (lv_at hl 0 rfl) ?_
              refine lv_imul hx hb dX1_cover_55 ?_
              refine cl_asi (pk_mul 32 i) ?_
              refine lv_iload_n hx hb dX1_cover_56 rfl (lv_at hl 3 rfl) ?_
              refine lv_iload_n hx hb dX1_cover_57 rfl (lv_at hl 4 rfl) ?_
              refine lv_iadd hx hb dX1_cover_58 ?_
              refine cl_asi (nI_add k z) ?_
              refine lv_icmp_ge (tgt := 85) hx hb dX1_cover_59 (by decide) (fun hh => ?_) (fun hh => ?_)
              · have hh := (nI_leI (by omega) (by omega)).mp hh
                refine lv_iinc (v := (nI (i + 1))) (lv' := [(4, .int (nI (i + 1))), (3, .int (nI (md_n (k / 32) ((k + z - 1) / 32) i))), (0, .ref q), (1, .int (nI k)), (2, .int (nI z))]) hx hb dX1_cover_85 hl (k := 0) rfl (nI_1 _) (by decide) rfl (fun ls hl => ?_)
                refine lv_goto (tgt := 42) hx hb dX1_cover_88 (by decide) ?_
                exact kk _ _ _ ⟨by rw [← md_cv_2 (show ¬ (k / 32 ≤ i ∧ i ≤ (k + z - 1) / 32) by omega)]; exact hP, hS, lv_sub hl [0, 1, 2, 3, 4] (by rw [md_n_2 (show ¬ (k / 32 ≤ i ∧ i ≤ (k + z - 1) / 32) by omega)]; rfl)⟩
              · have hh : ¬ k + z ≤ 32 * i := fun h9 => hh (nI_le h9 (by omega))
                refine lv_bipush (v := 32) hx hb dX1_cover_62 (by decide) ?_
                refine lv_iload hx hb dX1_cover_64 (lv_at hl 0 rfl) ?_
                refine lv_imul hx hb dX1_cover_66 ?_
                refine cl_asi (pk_mul 32 i) ?_
                refine lv_bipush (v := 31) hx hb dX1_cover_67 (by decide) ?_
                refine lv_iadd hx hb dX1_cover_69 ?_
                refine cl_asi (nI_add (32 * i) 31) ?_
                refine lv_iload_n hx hb dX1_cover_70 rfl (lv_at hl 3 rfl) ?_
                refine lv_icmp_lt (tgt := 85) hx hb dX1_cover_71 (by decide) (fun hj => ?_) (fun hj => ?_)
                · have hj := (nI_ltI (by omega) (by omega)).mp hj
                  refine lv_iinc (v := (nI (i + 1))) (lv' := [(4, .int (nI (i + 1))), (3, .int (nI (md_n (k / 32) ((k + z - 1) / 32) i))), (0, .ref q), (1, .int (nI k)), (2, .int (nI z))]) hx hb dX1_cover_85 hl (k := 0) rfl (nI_1 _) (by decide) rfl (fun ls hl => ?_)
                  refine lv_goto (tgt := 42) hx hb dX1_cover_88 (by decide) ?_
                  exact kk _ _ _ ⟨by rw [← md_cv_2 (show ¬ (k / 32 ≤ i ∧ i ≤ (k + z - 1) / 32) by omega)]; exact hP, hS, lv_sub hl [0, 1, 2, 3, 4] (by rw [md_n_2 (show ¬ (k / 32 ≤ i ∧ i ≤ (k + z - 1) / 32) by omega)]; rfl)⟩
                · have hj : ¬ 32 * i + 31 < k := fun h9 => hj (nI_lt h9 (by omega))
                  refine lv_aload_n hx hb dX1_cover_74 rfl (lv_at hl 2 rfl) ?_
                  refine va_get (D := (dC, dI)) (ci := 1) (v := .ref qb) (C := RX1) (T := TX1) (N := 4) hx hb hts (by decide +kernel) hown hK hP 0 rfl rfl 3 (by decide) (hts (.fieldLink RX1 17 "CardBookModel" "saved" "[Z") (by decide +kernel)) (fun _ h9 => h9) rfl dX1_cover_75 ?_
                  refine lv_iload hx hb dX1_cover_78 (lv_at hl 0 rfl) ?_
                  refine lv_iconst (v := 1) hx hb dX1_cover_80 (by decide) ?_
                  have hD := md_D (cY := cY) (cZ := cZ) (t := (md_b (!true))) (n := (nI N)) (D := D) (S := (md_cv S (k / 32) ((k + z - 1) / 32) i)) hne
                  refine cl_zast (D := (dC, dI)) hx hb hK hP hD hS 2 1 rfl rfl true (rfl) (show i < 512 by omega) (by decide) dX1_cover_81 (fun H locs hP hS => ?_)
                  have hP : va_P (dC, dI) vwCl (md_w q qa qb cY cZ (md_b (!true)) (nI N) D (md_u (md_cv S (k / 32) ((k + z - 1) / 32) i) i true)) H := hP
                  rw [md_cv_1 (by omega) (by omega)] at hP
                  refine lv_iinc (v := (nI (md_n (k / 32) ((k + z - 1) / 32) i + 1))) (lv' := [(3, .int (nI (md_n (k / 32) ((k + z - 1) / 32) i + 1))), (4, .int (nI i)), (0, .ref q), (1, .int (nI k)), (2, .int (nI z))]) hx hb dX1_cover_82 hl (k := 1) rfl (nI_1 _) (by decide) rfl (fun ls hl => ?_)
                  refine lv_iinc (v := (nI (i + 1))) (lv' := [(4, .int (nI (i + 1))), (3, .int (nI (md_n (k / 32) ((k + z - 1) / 32) i + 1))), (0, .ref q), (1, .int (nI k)), (2, .int (nI z))]) hx hb dX1_cover_85 hl (k := 1) rfl (nI_1 _) (by decide) rfl (fun ls hl => ?_)
                  refine lv_goto (tgt := 42) hx hb dX1_cover_88 (by decide) ?_
                  exact kk _ _ _ ⟨hP, hS, lv_sub hl [0, 1, 2, 3, 4] (by rw [md_n_1 (show k / 32 ≤ i by omega) (show i ≤ (k + z - 1) / 32 by omega)]; rfl)⟩
        · exact absurd hf (by decide)
set_option maxHeartbeats 4000000 in
set_option maxRecDepth 100000 in
/-- cover(x, y), where there is no cell x -/
theorem e1_cover1 (l : Launch) (dC : Nat → ClassId) (dI : Nat → Nat → Nat) (q qa qb : Nat) (cY cZ : ClassId) (t : Int32) (N : Nat) (D S : Nat → Bool) (x y : Int32) (hbad : x < 0 ∨ ¬ x < nI N) (hne : md_ne q qa qb) : Met l yX1_cover wsX1_cover ({ frames := 1, cells := 0, slots := 0, locals := 40 }) (cb_Pc (dC, dI) [.ref q, .int x, .int y] (md_w q qa qb cY cZ t (nI N) D S) [(cY, .boolean), (cZ, .boolean)]) (va_Qi (fun (r9 : Int32) (_ : Unit) => (0 : Int32) = r9) (fun _ t9 => va_P (dC, dI) vwCl (md_w q qa qb cY cZ 1 (nI N) D S) t9.heap) (md_A q qa qb)) 0 0 (md_A q qa qb) := by
  refine Met.ofW (cc := cX1_cover) (maxL := 5) (ret := (some .int)) (by decide) rfl ?_
  intro p e s m args below meth c s₁ B hml hv
  obtain ⟨rfl, hP, hK⟩ := hv
  have hx := B.exec
  have hb := B.bytes
  have hr := B.returns
  have hts := atoms_spec (ws := wsX1_cover) B.pre
  have hown : s.vm.findClass RX1 = some m.cls := findClass_of_methodNamed B.named
  have hlocks := B.notSynchronized
  have hl := lv_entry ([.ref q, .int x, .int y]) (n := 5) (Nat.le_of_ble_eq_true rfl)
  rw [lg_entry_eq]
  generalize (lg_sl ([.ref q, .int x, .int y]) ++ List.replicate (5 - (lg_sl ([.ref q, .int x, .int y])).length) Slot.unset).toArray = ls at hl ⊢
  have hl : lv_has ls 5 [(0, .ref q), (1, .int x), (2, .int y)] := hl
  have hS : va_S (md_A q qa qb) s.heap s.heap [] := va_S.rf
  refine lv_aload_n hx hb dX1_cover_0 rfl (lv_at hl 0 rfl) ?_
  refine lv_aload_n hx hb dX1_cover_1 rfl (lv_at hl 0 rfl) ?_
  refine lv_iload_n hx hb dX1_cover_2 rfl (lv_at hl 1 rfl) ?_
  refine cl_calli (W.runV (As := [.int x]) (rest := [.ref q]) ⟨hx, hb, hml, hown, hts⟩ (c1_isCell l dC dI q qa qb cY cZ t N D S x false  (by constructor; exact fun h9 => (Bool.false_ne_true h9).elim; exact fun h9 => (hbad.elim h9.1 (fun h8 => h8 h9.2)).elim)) (cwV 1 hts gX1_cover_X1_isCell rfl rfl rfl (by decide +kernel) ⟨Nat.le_of_ble_eq_true rfl, Nat.le_of_ble_eq_true rfl⟩) (md_preV hK hP [.int x]) rfl rfl hl.1 rfl (lv_room (Nat.le_of_ble_eq_true rfl)) dX1_cover_3 ⟨Nat.zero_le _, Nat.zero_le _⟩) ?_
  refine lv_if_eq (tgt := 28) hx hb dX1_cover_6 (by decide) (fun hc => ?_) (fun hc => ?_)
  · refine lv_iconst (v := 0) hx hb dX1_cover_28 (by decide) ?_
    refine va_calli (va_runV (As := [.int (md_b false)]) (rest := []) ⟨hx, hb, hml, hown, hts⟩ (c1_goes l dC dI q qa qb cY cZ t N D S false hne) (cwV 1 hts gX1_cover_X1_goes rfl rfl rfl (by decide +kernel) ⟨Nat.le_of_ble_eq_true rfl, Nat.le_of_ble_eq_true rfl⟩) (md_preV hK hP [.int (md_b false)]) rfl rfl hl.1 rfl (lv_room (Nat.le_of_ble_eq_true rfl)) dX1_cover_29 ⟨Nat.zero_le _, Nat.zero_le _⟩) hS (fun q _ h9 => h9) (fun q h9 => h9) (fun r9 u9 t9 H locs ht9 hvm9 hw9 hP9 hz9 hk9 hS => ?_)
    rw [ht9] at hP9
    subst hw9
    have hP : va_P (dC, dI) vwCl (md_w q qa qb cY cZ (md_b (!false)) (nI N) D S) H := hP9
    refine lv_if_ne (tgt := 37) hx hb dX1_cover_32 (by decide) (fun hu => ?_) (fun hu => ?_)
    · exact absurd (show md_b false = 0 by decide) hu
    · refine lv_iconst (v := 0) hx hb dX1_cover_35 (by decide) ?_
      exact W.iret (v := 0) hx hb hr (fun t9 ht9 _ => ⟨⟨_, (), rfl, rfl, cl_at ht9 (hP)⟩, hS.F ht9⟩) hS.2.2 dX1_cover_36
  · exact absurd (show md_b false = 0 by decide) hc
set_option maxHeartbeats 4000000 in
set_option maxRecDepth 100000 in
/-- cover(k, y), where some of these cells are none -/
theorem e1_cover2 (l : Launch) (dC : Nat → ClassId) (dI : Nat → Nat → Nat) (q qa qb : Nat) (cY cZ : ClassId) (t : Int32) (N : Nat) (D S : Nat → Bool) (k : Nat) (y : Int32) (h2 : N ≤ 16384) (hk : k < N) (hbad : y < 1 ∨ ¬ y ≤ nI N - nI k) (hne : md_ne q qa qb) : Met l yX1_cover wsX1_cover ({ frames := 1, cells := 0, slots := 0, locals := 40 }) (cb_Pc (dC, dI) [.ref q, .int (nI k), .int y] (md_w q qa qb cY cZ t (nI N) D S) [(cY, .boolean), (cZ, .boolean)]) (va_Qi (fun (r9 : Int32) (_ : Unit) => (0 : Int32) = r9) (fun _ t9 => va_P (dC, dI) vwCl (md_w q qa qb cY cZ 1 (nI N) D S) t9.heap) (md_A q qa qb)) 0 0 (md_A q qa qb) := by
  refine Met.ofW (cc := cX1_cover) (maxL := 5) (ret := (some .int)) (by decide) rfl ?_
  intro p e s m args below meth c s₁ B hml hv
  obtain ⟨rfl, hP, hK⟩ := hv
  have hx := B.exec
  have hb := B.bytes
  have hr := B.returns
  have hts := atoms_spec (ws := wsX1_cover) B.pre
  have hown : s.vm.findClass RX1 = some m.cls := findClass_of_methodNamed B.named
  have hlocks := B.notSynchronized
  have hl := lv_entry ([.ref q, .int (nI k), .int y]) (n := 5) (Nat.le_of_ble_eq_true rfl)
  rw [lg_entry_eq]
  generalize (lg_sl ([.ref q, .int (nI k), .int y]) ++ List.replicate (5 - (lg_sl ([.ref q, .int (nI k), .int y])).length) Slot.unset).toArray = ls at hl ⊢
  have hl : lv_has ls 5 [(0, .ref q), (1, .int (nI k)), (2, .int y)] := hl
  have hS : va_S (md_A q qa qb) s.heap s.heap [] := va_S.rf
  refine lv_aload_n hx hb dX1_cover_0 rfl (lv_at hl 0 rfl) ?_
  refine lv_aload_n hx hb dX1_cover_1 rfl (lv_at hl 0 rfl) ?_
  refine lv_iload_n hx hb dX1_cover_2 rfl (lv_at hl 1 rfl) ?_
  refine cl_calli (W.runV (As := [.int (nI k)]) (rest := [.ref q]) ⟨hx, hb, hml, hown, hts⟩ (c1_isCell l dC dI q qa qb cY cZ t N D S (nI k) true  (by constructor; exact fun _ => ⟨nI_pos (by omega), nI_lt hk (by omega)⟩; exact fun _ => rfl)) (cwV 1 hts gX1_cover_X1_isCell rfl rfl rfl (by decide +kernel) ⟨Nat.le_of_ble_eq_true rfl, Nat.le_of_ble_eq_true rfl⟩) (md_preV hK hP [.int (nI k)]) rfl rfl hl.1 rfl (lv_room (Nat.le_of_ble_eq_true rfl)) dX1_cover_3 ⟨Nat.zero_le _, Nat.zero_le _⟩) ?_
  refine lv_if_eq (tgt := 28) hx hb dX1_cover_6 (by decide) (fun hc => ?_) (fun hc => ?_)
  · exact absurd hc (by decide)
  · refine lv_iload_n hx hb dX1_cover_9 rfl (lv_at hl 2 rfl) ?_
    refine lv_iconst (v := 1) hx hb dX1_cover_10 (by decide) ?_
    refine lv_icmp_lt (tgt := 28) hx hb dX1_cover_11 (by decide) (fun hd => ?_) (fun hd => ?_)
    · refine lv_iconst (v := 0) hx hb dX1_cover_28 (by decide) ?_
      refine va_calli (va_runV (As := [.int (md_b false)]) (rest := []) ⟨hx, hb, hml, hown, hts⟩ (c1_goes l dC dI q qa qb cY cZ t N D S false hne) (cwV 1 hts gX1_cover_X1_goes rfl rfl rfl (by decide +kernel) ⟨Nat.le_of_ble_eq_true rfl, Nat.le_of_ble_eq_true rfl⟩) (md_preV hK hP [.int (md_b false)]) rfl rfl hl.1 rfl (lv_room (Nat.le_of_ble_eq_true rfl)) dX1_cover_29 ⟨Nat.zero_le _, Nat.zero_le _⟩) hS (fun q _ h9 => h9) (fun q h9 => h9) (fun r9 u9 t9 H locs ht9 hvm9 hw9 hP9 hz9 hk9 hS => ?_)
      rw [ht9] at hP9
      subst hw9
      have hP : va_P (dC, dI) vwCl (md_w q qa qb cY cZ (md_b (!false)) (nI N) D S) H := hP9
      refine lv_if_ne (tgt := 37) hx hb dX1_cover_32 (by decide) (fun hu => ?_) (fun hu => ?_)
      · exact absurd (show md_b false = 0 by decide) hu
      · refine lv_iconst (v := 0) hx hb dX1_cover_35 (by decide) ?_
        exact W.iret (v := 0) hx hb hr (fun t9 ht9 _ => ⟨⟨_, (), rfl, rfl, cl_at ht9 (hP)⟩, hS.F ht9⟩) hS.2.2 dX1_cover_36
    · refine lv_iload_n hx hb dX1_cover_14 rfl (lv_at hl 2 rfl) ?_
      refine lv_aload_n hx hb dX1_cover_15 rfl (lv_at hl 0 rfl) ?_
      refine va_get (D := (dC, dI)) (ci := 1) (v := .int (nI N)) (C := RX1) (T := TX1) (N := 4) hx hb hts (by decide +kernel) hown hK hP 0 rfl rfl 1 (by decide) (hts (.fieldLink RX1 7 "CardBookModel" "cells" "I") (by decide +kernel)) (fun _ h9 => h9) rfl dX1_cover_16 ?_
      refine lv_iload_n hx hb dX1_cover_19 rfl (lv_at hl 1 rfl) ?_
      refine lv_isub hx hb dX1_cover_20 ?_
      refine lv_icmp_gt (tgt := 28) hx hb dX1_cover_21 (by decide) (fun he => ?_) (fun he => ?_)
      · refine lv_iconst (v := 0) hx hb dX1_cover_28 (by decide) ?_
        refine va_calli (va_runV (As := [.int (md_b false)]) (rest := []) ⟨hx, hb, hml, hown, hts⟩ (c1_goes l dC dI q qa qb cY cZ t N D S false hne) (cwV 1 hts gX1_cover_X1_goes rfl rfl rfl (by decide +kernel) ⟨Nat.le_of_ble_eq_true rfl, Nat.le_of_ble_eq_true rfl⟩) (md_preV hK hP [.int (md_b false)]) rfl rfl hl.1 rfl (lv_room (Nat.le_of_ble_eq_true rfl)) dX1_cover_29 ⟨Nat.zero_le _, Nat.zero_le _⟩) hS (fun q _ h9 => h9) (fun q h9 => h9) (fun r9 u9 t9 H locs ht9 hvm9 hw9 hP9 hz9 hk9 hS => ?_)
        rw [ht9] at hP9
        subst hw9
        have hP : va_P (dC, dI) vwCl (md_w q qa qb cY cZ (md_b (!false)) (nI N) D S) H := hP9
        refine lv_if_ne (tgt := 37) hx hb dX1_cover_32 (by decide) (fun hu => ?_) (fun hu => ?_)
        · exact absurd (show md_b false = 0 by decide) hu
        · refine lv_iconst (v := 0) hx hb dX1_cover_35 (by decide) ?_
          exact W.iret (v := 0) hx hb hr (fun t9 ht9 _ => ⟨⟨_, (), rfl, rfl, cl_at ht9 (hP)⟩, hS.F ht9⟩) hS.2.2 dX1_cover_36
      · exact absurd (Int32.not_lt.mp he) (hbad.resolve_left hd)
set_option maxHeartbeats 4000000 in
set_option maxRecDepth 100000 in
/-- clean(k, bb) -/
theorem c1_clean (l : Launch) (dC : Nat → ClassId) (dI : Nat → Nat → Nat) (q qa qb : Nat) (cY cZ : ClassId) (t : Int32) (N : Nat) (D S : Nat → Bool) (k : Nat) (bb : Bool) (h1 : 1 ≤ N) (h2 : N ≤ 16384) (hk : k < (cb_cc N)) (hne : md_ne q qa qb) : Met l yX1_clean wsX1_clean ({ frames := 2, cells := 0, slots := 0, locals := 60 }) (cb_Pc (dC, dI) [.ref q, .int (nI k), .int (md_b bb)] (md_w q qa qb cY cZ t (nI N) D S) [(cY, .boolean), (cZ, .boolean)]) (va_Qi (fun (r9 : Int32) (_ : Unit) => (md_b (D k)) = r9) (fun _ t9 => va_P (dC, dI) vwCl (md_w q qa qb cY cZ 0 (nI N) (md_u D k false) (md_u S k (S k || (D k && bb)))) t9.heap) (md_A q qa qb)) 0 0 (md_A q qa qb) := by
  refine Met.ofW (cc := cX1_clean) (maxL := 3) (ret := (some .boolean)) (by decide) rfl ?_
  intro p e s m args below meth c s₁ B hml hv
  obtain ⟨rfl, hP, hK⟩ := hv
  have hx := B.exec
  have hb := B.bytes
  have hr := B.returns
  have hts := atoms_spec (ws := wsX1_clean) B.pre
  have hown : s.vm.findClass RX1 = some m.cls := findClass_of_methodNamed B.named
  have hlocks := B.notSynchronized
  have hl := lv_entry ([.ref q, .int (nI k), .int (md_b bb)]) (n := 3) (Nat.le_of_ble_eq_true rfl)
  rw [lg_entry_eq]
  generalize (lg_sl ([.ref q, .int (nI k), .int (md_b bb)]) ++ List.replicate (3 - (lg_sl ([.ref q, .int (nI k), .int (md_b bb)])).length) Slot.unset).toArray = ls at hl ⊢
  have hl : lv_has ls 3 [(0, .ref q), (1, .int (nI k)), (2, .int (md_b bb))] := hl
  have hS : va_S (md_A q qa qb) s.heap s.heap [] := va_S.rf
  have hk5 : k < 512 := by have := cb_cc_le h2; omega
  refine lv_aload_n hx hb dX1_clean_0 rfl (lv_at hl 0 rfl) ?_
  refine lv_aload_n hx hb dX1_clean_1 rfl (lv_at hl 0 rfl) ?_
  refine lv_iload_n hx hb dX1_clean_2 rfl (lv_at hl 1 rfl) ?_
  refine cl_calli (W.runV (As := [.int (nI k)]) (rest := [.ref q]) ⟨hx, hb, hml, hown, hts⟩ (c1_isCard l dC dI q qa qb cY cZ t N D S (nI k) true h1 h2 (by have h512 := cb_cc_le h2; constructor; exact fun _ => ⟨nI_pos (by omega), nI_lt hk (by omega)⟩; exact fun _ => rfl)) (cwV 1 hts gX1_clean_X1_isCard rfl rfl rfl (by decide +kernel) ⟨Nat.le_of_ble_eq_true rfl, Nat.le_of_ble_eq_true rfl⟩) (md_preV hK hP [.int (nI k)]) rfl rfl hl.1 rfl (lv_room (Nat.le_of_ble_eq_true rfl)) dX1_clean_3 ⟨Nat.zero_le _, Nat.zero_le _⟩) ?_
  refine va_calli (va_runV (As := [.int (md_b true)]) (rest := []) ⟨hx, hb, hml, hown, hts⟩ (c1_goes l dC dI q qa qb cY cZ t N D S true hne) (cwV 1 hts gX1_clean_X1_goes rfl rfl rfl (by decide +kernel) ⟨Nat.le_of_ble_eq_true rfl, Nat.le_of_ble_eq_true rfl⟩) (md_preV hK hP [.int (md_b true)]) rfl rfl hl.1 rfl (lv_room (Nat.le_of_ble_eq_true rfl)) dX1_clean_6 ⟨Nat.zero_le _, Nat.zero_le _⟩) hS (fun q _ h9 => h9) (fun q h9 => h9) (fun r9 u9 t9 H locs ht9 hvm9 hw9 hP9 hz9 hk9 hS => ?_)
  rw [ht9] at hP9
  subst hw9
  have hP : va_P (dC, dI) vwCl (md_w q qa qb cY cZ (md_b (!true)) (nI N) D S) H := hP9
  refine lv_if_eq (tgt := 21) hx hb dX1_clean_9 (by decide) (fun hc => ?_) (fun hc => ?_)
  · exact absurd hc (by decide)
  · refine lv_aload_n hx hb dX1_clean_12 rfl (lv_at hl 0 rfl) ?_
    refine va_get (D := (dC, dI)) (ci := 1) (v := .ref qa) (C := RX1) (T := TX1) (N := 4) hx hb hts (by decide +kernel) hown hK hP 0 rfl rfl 2 (by decide) (hts (.fieldLink RX1 13 "CardBookModel" "dirty" "[Z") (by decide +kernel)) (fun _ h9 => h9) rfl dX1_clean_13 ?_
    refine lv_iload_n hx hb dX1_clean_16 rfl (lv_at hl 1 rfl) ?_
    refine cl_zald (D := (dC, dI)) hx hb hK hP 1 0 rfl rfl hk5 (by decide) dX1_clean_17 ?_
    refine lv_if_ne (tgt := 23) hx hb dX1_clean_18 (by decide) (fun hd => ?_) (fun hd => ?_)
    · have hd9 := md_b1 hd
      refine lv_aload_n hx hb dX1_clean_23 rfl (lv_at hl 0 rfl) ?_
      refine va_get (D := (dC, dI)) (ci := 1) (v := .ref qa) (C := RX1) (T := TX1) (N := 4) hx hb hts (by decide +kernel) hown hK hP 0 rfl rfl 2 (by decide) (hts (.fieldLink RX1 13 "CardBookModel" "dirty" "[Z") (by decide +kernel)) (fun _ h9 => h9) rfl dX1_clean_24 ?_
      refine lv_iload_n hx hb dX1_clean_27 rfl (lv_at hl 1 rfl) ?_
      refine lv_iconst (v := 0) hx hb dX1_clean_28 (by decide) ?_
      have hD := md_D (cY := cY) (cZ := cZ) (t := (md_b (!true))) (n := (nI N)) (D := D) (S := S) hne
      refine cl_zast (D := (dC, dI)) hx hb hK hP hD hS 1 0 rfl rfl false (rfl) hk5 (by decide) dX1_clean_29 (fun H locs hP hS => ?_)
      have hP : va_P (dC, dI) vwCl (md_w q qa qb cY cZ (md_b (!true)) (nI N) (md_u D k false) S) H := hP
      refine lv_aload_n hx hb dX1_clean_30 rfl (lv_at hl 0 rfl) ?_
      refine va_get (D := (dC, dI)) (ci := 1) (v := .ref qb) (C := RX1) (T := TX1) (N := 4) hx hb hts (by decide +kernel) hown hK hP 0 rfl rfl 3 (by decide) (hts (.fieldLink RX1 17 "CardBookModel" "saved" "[Z") (by decide +kernel)) (fun _ h9 => h9) rfl dX1_clean_31 ?_
      refine lv_iload_n hx hb dX1_clean_34 rfl (lv_at hl 1 rfl) ?_
      refine lv_aload_n hx hb dX1_clean_35 rfl (lv_at hl 0 rfl) ?_
      refine va_get (D := (dC, dI)) (ci := 1) (v := .ref qb) (C := RX1) (T := TX1) (N := 4) hx hb hts (by decide +kernel) hown hK hP 0 rfl rfl 3 (by decide) (hts (.fieldLink RX1 17 "CardBookModel" "saved" "[Z") (by decide +kernel)) (fun _ h9 => h9) rfl dX1_clean_36 ?_
      refine lv_iload_n hx hb dX1_clean_39 rfl (lv_at hl 1 rfl) ?_
      refine cl_zald (D := (dC, dI)) hx hb hK hP 2 1 rfl rfl hk5 (by decide) dX1_clean_40 ?_
      refine lv_if_ne (tgt := 48) hx hb dX1_clean_41 (by decide) (fun he => ?_) (fun he => ?_)
      · refine lv_iconst (v := 1) hx hb dX1_clean_48 (by decide) ?_
        refine lv_goto (tgt := 53) hx hb dX1_clean_49 (by decide) ?_
        have hD := md_D (cY := cY) (cZ := cZ) (t := (md_b (!true))) (n := (nI N)) (D := (md_u D k false)) (S := S) hne
        refine cl_zast (D := (dC, dI)) hx hb hK hP hD hS 2 1 rfl rfl (S k || bb) (by rw [md_b1 he]; rfl) hk5 (by decide) dX1_clean_53 (fun H locs hP hS => ?_)
        have hP : va_P (dC, dI) vwCl (md_w q qa qb cY cZ (md_b (!true)) (nI N) (md_u D k false) (md_u S k (S k || bb))) H := hP
        refine lv_iconst (v := 1) hx hb dX1_clean_54 (by decide) ?_
        exact W.zret (v := 1) (ty := .boolean) hx hb hr rfl (fun t9 ht9 _ => ⟨⟨_, (), rfl, (by rw [hd9]; rfl), cl_at ht9 ((by rw [hd9, Bool.true_and]; exact hP))⟩, hS.F ht9⟩) hS.2.2 dX1_clean_55
      · have he9 := md_b0 he
        refine lv_iload_n hx hb dX1_clean_44 rfl (lv_at hl 2 rfl) ?_
        refine lv_if_eq (tgt := 52) hx hb dX1_clean_45 (by decide) (fun hf => ?_) (fun hf => ?_)
        · refine lv_iconst (v := 0) hx hb dX1_clean_52 (by decide) ?_
          have hD := md_D (cY := cY) (cZ := cZ) (t := (md_b (!true))) (n := (nI N)) (D := (md_u D k false)) (S := S) hne
          refine cl_zast (D := (dC, dI)) hx hb hK hP hD hS 2 1 rfl rfl (S k || bb) (by rw [he9, md_b0 hf]; rfl) hk5 (by decide) dX1_clean_53 (fun H locs hP hS => ?_)
          have hP : va_P (dC, dI) vwCl (md_w q qa qb cY cZ (md_b (!true)) (nI N) (md_u D k false) (md_u S k (S k || bb))) H := hP
          refine lv_iconst (v := 1) hx hb dX1_clean_54 (by decide) ?_
          exact W.zret (v := 1) (ty := .boolean) hx hb hr rfl (fun t9 ht9 _ => ⟨⟨_, (), rfl, (by rw [hd9]; rfl), cl_at ht9 ((by rw [hd9, Bool.true_and]; exact hP))⟩, hS.F ht9⟩) hS.2.2 dX1_clean_55
        · refine lv_iconst (v := 1) hx hb dX1_clean_48 (by decide) ?_
          refine lv_goto (tgt := 53) hx hb dX1_clean_49 (by decide) ?_
          have hD := md_D (cY := cY) (cZ := cZ) (t := (md_b (!true))) (n := (nI N)) (D := (md_u D k false)) (S := S) hne
          refine cl_zast (D := (dC, dI)) hx hb hK hP hD hS 2 1 rfl rfl (S k || bb) (by rw [he9, md_b1 hf]; rfl) hk5 (by decide) dX1_clean_53 (fun H locs hP hS => ?_)
          have hP : va_P (dC, dI) vwCl (md_w q qa qb cY cZ (md_b (!true)) (nI N) (md_u D k false) (md_u S k (S k || bb))) H := hP
          refine lv_iconst (v := 1) hx hb dX1_clean_54 (by decide) ?_
          exact W.zret (v := 1) (ty := .boolean) hx hb hr rfl (fun t9 ht9 _ => ⟨⟨_, (), rfl, (by rw [hd9]; rfl), cl_at ht9 ((by rw [hd9, Bool.true_and]; exact hP))⟩, hS.F ht9⟩) hS.2.2 dX1_clean_55
    · refine lv_iconst (v := 0) hx hb dX1_clean_21 (by decide) ?_
      have hd9 := md_b0 hd
      exact W.zret (v := 0) (ty := .boolean) hx hb hr rfl (fun t9 ht9 _ => ⟨⟨_, (), rfl, (by rw [hd9]; rfl), cl_at ht9 ((by rw [hd9, md_u_same hd9, Bool.false_and, Bool.or_false, md_u_self]; exact hP))⟩, hS.F ht9⟩) hS.2.2 dX1_clean_22
set_option maxHeartbeats 4000000 in
set_option maxRecDepth 100000 in
/-- clean(x, ..), where there is no such card -/
theorem e1_clean (l : Launch) (dC : Nat → ClassId) (dI : Nat → Nat → Nat) (q qa qb : Nat) (cY cZ : ClassId) (t : Int32) (N : Nat) (D S : Nat → Bool) (x bb : Int32) (h1 : 1 ≤ N) (h2 : N ≤ 16384) (hbad : x < 0 ∨ ¬ x < nI (cb_cc N)) (hne : md_ne q qa qb) : Met l yX1_clean wsX1_clean ({ frames := 2, cells := 0, slots := 0, locals := 60 }) (cb_Pc (dC, dI) [.ref q, .int x, .int bb] (md_w q qa qb cY cZ t (nI N) D S) [(cY, .boolean), (cZ, .boolean)]) (va_Qi (fun (r9 : Int32) (_ : Unit) => (0 : Int32) = r9) (fun _ t9 => va_P (dC, dI) vwCl (md_w q qa qb cY cZ 1 (nI N) D S) t9.heap) (md_A q qa qb)) 0 0 (md_A q qa qb) := by
  refine Met.ofW (cc := cX1_clean) (maxL := 3) (ret := (some .boolean)) (by decide) rfl ?_
  intro p e s m args below meth c s₁ B hml hv
  obtain ⟨rfl, hP, hK⟩ := hv
  have hx := B.exec
  have hb := B.bytes
  have hr := B.returns
  have hts := atoms_spec (ws := wsX1_clean) B.pre
  have hown : s.vm.findClass RX1 = some m.cls := findClass_of_methodNamed B.named
  have hlocks := B.notSynchronized
  have hl := lv_entry ([.ref q, .int x, .int bb]) (n := 3) (Nat.le_of_ble_eq_true rfl)
  rw [lg_entry_eq]
  generalize (lg_sl ([.ref q, .int x, .int bb]) ++ List.replicate (3 - (lg_sl ([.ref q, .int x, .int bb])).length) Slot.unset).toArray = ls at hl ⊢
  have hl : lv_has ls 3 [(0, .ref q), (1, .int x), (2, .int bb)] := hl
  have hS : va_S (md_A q qa qb) s.heap s.heap [] := va_S.rf
  refine lv_aload_n hx hb dX1_clean_0 rfl (lv_at hl 0 rfl) ?_
  refine lv_aload_n hx hb dX1_clean_1 rfl (lv_at hl 0 rfl) ?_
  refine lv_iload_n hx hb dX1_clean_2 rfl (lv_at hl 1 rfl) ?_
  refine cl_calli (W.runV (As := [.int x]) (rest := [.ref q]) ⟨hx, hb, hml, hown, hts⟩ (c1_isCard l dC dI q qa qb cY cZ t N D S x false h1 h2 (by constructor; exact fun h9 => (Bool.false_ne_true h9).elim; exact fun h9 => (hbad.elim h9.1 (fun h8 => h8 h9.2)).elim)) (cwV 1 hts gX1_clean_X1_isCard rfl rfl rfl (by decide +kernel) ⟨Nat.le_of_ble_eq_true rfl, Nat.le_of_ble_eq_true rfl⟩) (md_preV hK hP [.int x]) rfl rfl hl.1 rfl (lv_room (Nat.le_of_ble_eq_true rfl)) dX1_clean_3 ⟨Nat.zero_le _, Nat.zero_le _⟩) ?_
  refine va_calli (va_runV (As := [.int (md_b false)]) (rest := []) ⟨hx, hb, hml, hown, hts⟩ (c1_goes l dC dI q qa qb cY cZ t N D S false hne) (cwV 1 hts gX1_clean_X1_goes rfl rfl rfl (by decide +kernel) ⟨Nat.le_of_ble_eq_true rfl, Nat.le_of_ble_eq_true rfl⟩) (md_preV hK hP [.int (md_b false)]) rfl rfl hl.1 rfl (lv_room (Nat.le_of_ble_eq_true rfl)) dX1_clean_6 ⟨Nat.zero_le _, Nat.zero_le _⟩) hS (fun q _ h9 => h9) (fun q h9 => h9) (fun r9 u9 t9 H locs ht9 hvm9 hw9 hP9 hz9 hk9 hS => ?_)
  rw [ht9] at hP9
  subst hw9
  have hP : va_P (dC, dI) vwCl (md_w q qa qb cY cZ (md_b (!false)) (nI N) D S) H := hP9
  refine lv_if_eq (tgt := 21) hx hb dX1_clean_9 (by decide) (fun hc => ?_) (fun hc => ?_)
  · refine lv_iconst (v := 0) hx hb dX1_clean_21 (by decide) ?_
    exact W.zret (v := 0) (ty := .boolean) hx hb hr rfl (fun t9 ht9 _ => ⟨⟨_, (), rfl, rfl, cl_at ht9 (hP)⟩, hS.F ht9⟩) hS.2.2 dX1_clean_22
  · exact absurd (show md_b false = 0 by decide) hc
set_option maxHeartbeats 4000000 in
set_option maxRecDepth 100000 in
/-- unsave(k) -/
theorem c1_unsave (l : Launch) (dC : Nat → ClassId) (dI : Nat → Nat → Nat) (q qa qb : Nat) (cY cZ : ClassId) (t : Int32) (N : Nat) (D S : Nat → Bool) (k : Nat) (h1 : 1 ≤ N) (h2 : N ≤ 16384) (hk : k < (cb_cc N)) (hne : md_ne q qa qb) : Met l yX1_unsave wsX1_unsave ({ frames := 2, cells := 0, slots := 0, locals := 60 }) (cb_Pc (dC, dI) [.ref q, .int (nI k)] (md_w q qa qb cY cZ t (nI N) D S) [(cY, .boolean), (cZ, .boolean)]) (va_Qi (fun (r9 : Int32) (_ : Unit) => (md_b (S k)) = r9) (fun _ t9 => va_P (dC, dI) vwCl (md_w q qa qb cY cZ 0 (nI N) D (md_u S k false)) t9.heap) (md_A q qa qb)) 0 0 (md_A q qa qb) := by
  refine Met.ofW (cc := cX1_unsave) (maxL := 2) (ret := (some .boolean)) (by decide) rfl ?_
  intro p e s m args below meth c s₁ B hml hv
  obtain ⟨rfl, hP, hK⟩ := hv
  have hx := B.exec
  have hb := B.bytes
  have hr := B.returns
  have hts := atoms_spec (ws := wsX1_unsave) B.pre
  have hown : s.vm.findClass RX1 = some m.cls := findClass_of_methodNamed B.named
  have hlocks := B.notSynchronized
  have hl := lv_entry ([.ref q, .int (nI k)]) (n := 2) (Nat.le_of_ble_eq_true rfl)
  rw [lg_entry_eq]
  generalize (lg_sl ([.ref q, .int (nI k)]) ++ List.replicate (2 - (lg_sl ([.ref q, .int (nI k)])).length) Slot.unset).toArray = ls at hl ⊢
  have hl : lv_has ls 2 [(0, .ref q), (1, .int (nI k))] := hl
  have hS : va_S (md_A q qa qb) s.heap s.heap [] := va_S.rf
  have hk5 : k < 512 := by have := cb_cc_le h2; omega
  refine lv_aload_n hx hb dX1_unsave_0 rfl (lv_at hl 0 rfl) ?_
  refine lv_aload_n hx hb dX1_unsave_1 rfl (lv_at hl 0 rfl) ?_
  refine lv_iload_n hx hb dX1_unsave_2 rfl (lv_at hl 1 rfl) ?_
  refine cl_calli (W.runV (As := [.int (nI k)]) (rest := [.ref q]) ⟨hx, hb, hml, hown, hts⟩ (c1_isCard l dC dI q qa qb cY cZ t N D S (nI k) true h1 h2 (by have h512 := cb_cc_le h2; constructor; exact fun _ => ⟨nI_pos (by omega), nI_lt hk (by omega)⟩; exact fun _ => rfl)) (cwV 1 hts gX1_unsave_X1_isCard rfl rfl rfl (by decide +kernel) ⟨Nat.le_of_ble_eq_true rfl, Nat.le_of_ble_eq_true rfl⟩) (md_preV hK hP [.int (nI k)]) rfl rfl hl.1 rfl (lv_room (Nat.le_of_ble_eq_true rfl)) dX1_unsave_3 ⟨Nat.zero_le _, Nat.zero_le _⟩) ?_
  refine va_calli (va_runV (As := [.int (md_b true)]) (rest := []) ⟨hx, hb, hml, hown, hts⟩ (c1_goes l dC dI q qa qb cY cZ t N D S true hne) (cwV 1 hts gX1_unsave_X1_goes rfl rfl rfl (by decide +kernel) ⟨Nat.le_of_ble_eq_true rfl, Nat.le_of_ble_eq_true rfl⟩) (md_preV hK hP [.int (md_b true)]) rfl rfl hl.1 rfl (lv_room (Nat.le_of_ble_eq_true rfl)) dX1_unsave_6 ⟨Nat.zero_le _, Nat.zero_le _⟩) hS (fun q _ h9 => h9) (fun q h9 => h9) (fun r9 u9 t9 H locs ht9 hvm9 hw9 hP9 hz9 hk9 hS => ?_)
  rw [ht9] at hP9
  subst hw9
  have hP : va_P (dC, dI) vwCl (md_w q qa qb cY cZ (md_b (!true)) (nI N) D S) H := hP9
  refine lv_if_eq (tgt := 21) hx hb dX1_unsave_9 (by decide) (fun hc => ?_) (fun hc => ?_)
  · exact absurd hc (by decide)
  · refine lv_aload_n hx hb dX1_unsave_12 rfl (lv_at hl 0 rfl) ?_
    refine va_get (D := (dC, dI)) (ci := 1) (v := .ref qb) (C := RX1) (T := TX1) (N := 4) hx hb hts (by decide +kernel) hown hK hP 0 rfl rfl 3 (by decide) (hts (.fieldLink RX1 17 "CardBookModel" "saved" "[Z") (by decide +kernel)) (fun _ h9 => h9) rfl dX1_unsave_13 ?_
    refine lv_iload_n hx hb dX1_unsave_16 rfl (lv_at hl 1 rfl) ?_
    refine cl_zald (D := (dC, dI)) hx hb hK hP 2 1 rfl rfl hk5 (by decide) dX1_unsave_17 ?_
    refine lv_if_ne (tgt := 23) hx hb dX1_unsave_18 (by decide) (fun hd => ?_) (fun hd => ?_)
    · have hd9 := md_b1 hd
      refine lv_aload_n hx hb dX1_unsave_23 rfl (lv_at hl 0 rfl) ?_
      refine va_get (D := (dC, dI)) (ci := 1) (v := .ref qb) (C := RX1) (T := TX1) (N := 4) hx hb hts (by decide +kernel) hown hK hP 0 rfl rfl 3 (by decide) (hts (.fieldLink RX1 17 "CardBookModel" "saved" "[Z") (by decide +kernel)) (fun _ h9 => h9) rfl dX1_unsave_24 ?_
      refine lv_iload_n hx hb dX1_unsave_27 rfl (lv_at hl 1 rfl) ?_
      refine lv_iconst (v := 0) hx hb dX1_unsave_28 (by decide) ?_
      have hD := md_D (cY := cY) (cZ := cZ) (t := (md_b (!true))) (n := (nI N)) (D := D) (S := S) hne
      refine cl_zast (D := (dC, dI)) hx hb hK hP hD hS 2 1 rfl rfl false (rfl) hk5 (by decide) dX1_unsave_29 (fun H locs hP hS => ?_)
      have hP : va_P (dC, dI) vwCl (md_w q qa qb cY cZ (md_b (!true)) (nI N) D (md_u S k false)) H := hP
      refine lv_iconst (v := 1) hx hb dX1_unsave_30 (by decide) ?_
      exact W.zret (v := 1) (ty := .boolean) hx hb hr rfl (fun t9 ht9 _ => ⟨⟨_, (), rfl, (by rw [hd9]; rfl), cl_at ht9 (hP)⟩, hS.F ht9⟩) hS.2.2 dX1_unsave_31
    · refine lv_iconst (v := 0) hx hb dX1_unsave_21 (by decide) ?_
      have hd9 := md_b0 hd
      exact W.zret (v := 0) (ty := .boolean) hx hb hr rfl (fun t9 ht9 _ => ⟨⟨_, (), rfl, (by rw [hd9]; rfl), cl_at ht9 ((by rw [md_u_same hd9]; exact hP))⟩, hS.F ht9⟩) hS.2.2 dX1_unsave_22
set_option maxHeartbeats 4000000 in
set_option maxRecDepth 100000 in
/-- unsave(x), where there is no such card -/
theorem e1_unsave (l : Launch) (dC : Nat → ClassId) (dI : Nat → Nat → Nat) (q qa qb : Nat) (cY cZ : ClassId) (t : Int32) (N : Nat) (D S : Nat → Bool) (x : Int32) (h1 : 1 ≤ N) (h2 : N ≤ 16384) (hbad : x < 0 ∨ ¬ x < nI (cb_cc N)) (hne : md_ne q qa qb) : Met l yX1_unsave wsX1_unsave ({ frames := 2, cells := 0, slots := 0, locals := 60 }) (cb_Pc (dC, dI) [.ref q, .int x] (md_w q qa qb cY cZ t (nI N) D S) [(cY, .boolean), (cZ, .boolean)]) (va_Qi (fun (r9 : Int32) (_ : Unit) => (0 : Int32) = r9) (fun _ t9 => va_P (dC, dI) vwCl (md_w q qa qb cY cZ 1 (nI N) D S) t9.heap) (md_A q qa qb)) 0 0 (md_A q qa qb) := by
  refine Met.ofW (cc := cX1_unsave) (maxL := 2) (ret := (some .boolean)) (by decide) rfl ?_
  intro p e s m args below meth c s₁ B hml hv
  obtain ⟨rfl, hP, hK⟩ := hv
  have hx := B.exec
  have hb := B.bytes
  have hr := B.returns
  have hts := atoms_spec (ws := wsX1_unsave) B.pre
  have hown : s.vm.findClass RX1 = some m.cls := findClass_of_methodNamed B.named
  have hlocks := B.notSynchronized
  have hl := lv_entry ([.ref q, .int x]) (n := 2) (Nat.le_of_ble_eq_true rfl)
  rw [lg_entry_eq]
  generalize (lg_sl ([.ref q, .int x]) ++ List.replicate (2 - (lg_sl ([.ref q, .int x])).length) Slot.unset).toArray = ls at hl ⊢
  have hl : lv_has ls 2 [(0, .ref q), (1, .int x)] := hl
  have hS : va_S (md_A q qa qb) s.heap s.heap [] := va_S.rf
  refine lv_aload_n hx hb dX1_unsave_0 rfl (lv_at hl 0 rfl) ?_
  refine lv_aload_n hx hb dX1_unsave_1 rfl (lv_at hl 0 rfl) ?_
  refine lv_iload_n hx hb dX1_unsave_2 rfl (lv_at hl 1 rfl) ?_
  refine cl_calli (W.runV (As := [.int x]) (rest := [.ref q]) ⟨hx, hb, hml, hown, hts⟩ (c1_isCard l dC dI q qa qb cY cZ t N D S x false h1 h2 (by constructor; exact fun h9 => (Bool.false_ne_true h9).elim; exact fun h9 => (hbad.elim h9.1 (fun h8 => h8 h9.2)).elim)) (cwV 1 hts gX1_unsave_X1_isCard rfl rfl rfl (by decide +kernel) ⟨Nat.le_of_ble_eq_true rfl, Nat.le_of_ble_eq_true rfl⟩) (md_preV hK hP [.int x]) rfl rfl hl.1 rfl (lv_room (Nat.le_of_ble_eq_true rfl)) dX1_unsave_3 ⟨Nat.zero_le _, Nat.zero_le _⟩) ?_
  refine va_calli (va_runV (As := [.int (md_b false)]) (rest := []) ⟨hx, hb, hml, hown, hts⟩ (c1_goes l dC dI q qa qb cY cZ t N D S false hne) (cwV 1 hts gX1_unsave_X1_goes rfl rfl rfl (by decide +kernel) ⟨Nat.le_of_ble_eq_true rfl, Nat.le_of_ble_eq_true rfl⟩) (md_preV hK hP [.int (md_b false)]) rfl rfl hl.1 rfl (lv_room (Nat.le_of_ble_eq_true rfl)) dX1_unsave_6 ⟨Nat.zero_le _, Nat.zero_le _⟩) hS (fun q _ h9 => h9) (fun q h9 => h9) (fun r9 u9 t9 H locs ht9 hvm9 hw9 hP9 hz9 hk9 hS => ?_)
  rw [ht9] at hP9
  subst hw9
  have hP : va_P (dC, dI) vwCl (md_w q qa qb cY cZ (md_b (!false)) (nI N) D S) H := hP9
  refine lv_if_eq (tgt := 21) hx hb dX1_unsave_9 (by decide) (fun hc => ?_) (fun hc => ?_)
  · refine lv_iconst (v := 0) hx hb dX1_unsave_21 (by decide) ?_
    exact W.zret (v := 0) (ty := .boolean) hx hb hr rfl (fun t9 ht9 _ => ⟨⟨_, (), rfl, rfl, cl_at ht9 (hP)⟩, hS.F ht9⟩) hS.2.2 dX1_unsave_22
  · exact absurd (show md_b false = 0 by decide) hc
set_option maxHeartbeats 4000000 in
set_option maxRecDepth 100000 in
/-- card(k) -/
theorem c1_card (l : Launch) (dC : Nat → ClassId) (dI : Nat → Nat → Nat) (q qa qb : Nat) (cY cZ : ClassId) (t : Int32) (N : Nat) (D S : Nat → Bool) (k : Nat) (h1 : 1 ≤ N) (h2 : N ≤ 16384) (hk : k < (cb_cc N)) (hne : md_ne q qa qb) : Met l yX1_card wsX1_card ({ frames := 2, cells := 0, slots := 0, locals := 60 }) (cb_Pc (dC, dI) [.ref q, .int (nI k)] (md_w q qa qb cY cZ t (nI N) D S) [(cY, .boolean), (cZ, .boolean)]) (va_Qi (fun (r9 : Int32) (_ : Unit) => (md_cd D S k) = r9) (fun _ t9 => va_P (dC, dI) vwCl (md_w q qa qb cY cZ 0 (nI N) D S) t9.heap) (md_A q qa qb)) 0 0 (md_A q qa qb) := by
  refine Met.ofW (cc := cX1_card) (maxL := 2) (ret := (some .int)) (by decide) rfl ?_
  intro p e s m args below meth c s₁ B hml hv
  obtain ⟨rfl, hP, hK⟩ := hv
  have hx := B.exec
  have hb := B.bytes
  have hr := B.returns
  have hts := atoms_spec (ws := wsX1_card) B.pre
  have hown : s.vm.findClass RX1 = some m.cls := findClass_of_methodNamed B.named
  have hlocks := B.notSynchronized
  have hl := lv_entry ([.ref q, .int (nI k)]) (n := 2) (Nat.le_of_ble_eq_true rfl)
  rw [lg_entry_eq]
  generalize (lg_sl ([.ref q, .int (nI k)]) ++ List.replicate (2 - (lg_sl ([.ref q, .int (nI k)])).length) Slot.unset).toArray = ls at hl ⊢
  have hl : lv_has ls 2 [(0, .ref q), (1, .int (nI k))] := hl
  have hS : va_S (md_A q qa qb) s.heap s.heap [] := va_S.rf
  have hk5 : k < 512 := by have := cb_cc_le h2; omega
  refine lv_aload_n hx hb dX1_card_0 rfl (lv_at hl 0 rfl) ?_
  refine lv_aload_n hx hb dX1_card_1 rfl (lv_at hl 0 rfl) ?_
  refine lv_iload_n hx hb dX1_card_2 rfl (lv_at hl 1 rfl) ?_
  refine cl_calli (W.runV (As := [.int (nI k)]) (rest := [.ref q]) ⟨hx, hb, hml, hown, hts⟩ (c1_isCard l dC dI q qa qb cY cZ t N D S (nI k) true h1 h2 (by have h512 := cb_cc_le h2; constructor; exact fun _ => ⟨nI_pos (by omega), nI_lt hk (by omega)⟩; exact fun _ => rfl)) (cwV 1 hts gX1_card_X1_isCard rfl rfl rfl (by decide +kernel) ⟨Nat.le_of_ble_eq_true rfl, Nat.le_of_ble_eq_true rfl⟩) (md_preV hK hP [.int (nI k)]) rfl rfl hl.1 rfl (lv_room (Nat.le_of_ble_eq_true rfl)) dX1_card_3 ⟨Nat.zero_le _, Nat.zero_le _⟩) ?_
  refine va_calli (va_runV (As := [.int (md_b true)]) (rest := []) ⟨hx, hb, hml, hown, hts⟩ (c1_goes l dC dI q qa qb cY cZ t N D S true hne) (cwV 1 hts gX1_card_X1_goes rfl rfl rfl (by decide +kernel) ⟨Nat.le_of_ble_eq_true rfl, Nat.le_of_ble_eq_true rfl⟩) (md_preV hK hP [.int (md_b true)]) rfl rfl hl.1 rfl (lv_room (Nat.le_of_ble_eq_true rfl)) dX1_card_6 ⟨Nat.zero_le _, Nat.zero_le _⟩) hS (fun q _ h9 => h9) (fun q h9 => h9) (fun r9 u9 t9 H locs ht9 hvm9 hw9 hP9 hz9 hk9 hS => ?_)
  rw [ht9] at hP9
  subst hw9
  have hP : va_P (dC, dI) vwCl (md_w q qa qb cY cZ (md_b (!true)) (nI N) D S) H := hP9
  refine lv_if_eq (tgt := 44) hx hb dX1_card_9 (by decide) (fun hc => ?_) (fun hc => ?_)
  · exact absurd hc (by decide)
  · refine lv_aload_n hx hb dX1_card_12 rfl (lv_at hl 0 rfl) ?_
    refine va_get (D := (dC, dI)) (ci := 1) (v := .ref qa) (C := RX1) (T := TX1) (N := 4) hx hb hts (by decide +kernel) hown hK hP 0 rfl rfl 2 (by decide) (hts (.fieldLink RX1 13 "CardBookModel" "dirty" "[Z") (by decide +kernel)) (fun _ h9 => h9) rfl dX1_card_13 ?_
    refine lv_iload_n hx hb dX1_card_16 rfl (lv_at hl 1 rfl) ?_
    refine cl_zald (D := (dC, dI)) hx hb hK hP 1 0 rfl rfl hk5 (by decide) dX1_card_17 ?_
    refine lv_if_eq (tgt := 25) hx hb dX1_card_18 (by decide) (fun hd => ?_) (fun hd => ?_)
    · have hd9 := md_b0 hd
      refine lv_iconst (v := 0) hx hb dX1_card_25 (by decide) ?_
      refine lv_aload_n hx hb dX1_card_26 rfl (lv_at hl 0 rfl) ?_
      refine va_get (D := (dC, dI)) (ci := 1) (v := .ref qb) (C := RX1) (T := TX1) (N := 4) hx hb hts (by decide +kernel) hown hK hP 0 rfl rfl 3 (by decide) (hts (.fieldLink RX1 17 "CardBookModel" "saved" "[Z") (by decide +kernel)) (fun _ h9 => h9) rfl dX1_card_27 ?_
      refine lv_iload_n hx hb dX1_card_30 rfl (lv_at hl 1 rfl) ?_
      refine cl_zald (D := (dC, dI)) hx hb hK hP 2 1 rfl rfl hk5 (by decide) dX1_card_31 ?_
      refine lv_if_eq (tgt := 39) hx hb dX1_card_32 (by decide) (fun he => ?_) (fun he => ?_)
      · have he9 := md_b0 he
        refine lv_iconst (v := 0) hx hb dX1_card_39 (by decide) ?_
        refine lv_iadd hx hb dX1_card_40 ?_
        refine lv_goto (tgt := 45) hx hb dX1_card_41 (by decide) ?_
        exact W.iret (v := (0 + 0)) hx hb hr (fun t9 ht9 _ => ⟨⟨_, (), rfl, (by unfold md_cd; rw [hd9, he9]; rfl), cl_at ht9 (hP)⟩, hS.F ht9⟩) hS.2.2 dX1_card_45
      · have he9 := md_b1 he
        refine lv_iconst (v := 2) hx hb dX1_card_35 (by decide) ?_
        refine lv_goto (tgt := 40) hx hb dX1_card_36 (by decide) ?_
        refine lv_iadd hx hb dX1_card_40 ?_
        refine lv_goto (tgt := 45) hx hb dX1_card_41 (by decide) ?_
        exact W.iret (v := (0 + 2)) hx hb hr (fun t9 ht9 _ => ⟨⟨_, (), rfl, (by unfold md_cd; rw [hd9, he9]; rfl), cl_at ht9 (hP)⟩, hS.F ht9⟩) hS.2.2 dX1_card_45
    · have hd9 := md_b1 hd
      refine lv_iconst (v := 1) hx hb dX1_card_21 (by decide) ?_
      refine lv_goto (tgt := 26) hx hb dX1_card_22 (by decide) ?_
      refine lv_aload_n hx hb dX1_card_26 rfl (lv_at hl 0 rfl) ?_
      refine va_get (D := (dC, dI)) (ci := 1) (v := .ref qb) (C := RX1) (T := TX1) (N := 4) hx hb hts (by decide +kernel) hown hK hP 0 rfl rfl 3 (by decide) (hts (.fieldLink RX1 17 "CardBookModel" "saved" "[Z") (by decide +kernel)) (fun _ h9 => h9) rfl dX1_card_27 ?_
      refine lv_iload_n hx hb dX1_card_30 rfl (lv_at hl 1 rfl) ?_
      refine cl_zald (D := (dC, dI)) hx hb hK hP 2 1 rfl rfl hk5 (by decide) dX1_card_31 ?_
      refine lv_if_eq (tgt := 39) hx hb dX1_card_32 (by decide) (fun he => ?_) (fun he => ?_)
      · have he9 := md_b0 he
        refine lv_iconst (v := 0) hx hb dX1_card_39 (by decide) ?_
        refine lv_iadd hx hb dX1_card_40 ?_
        refine lv_goto (tgt := 45) hx hb dX1_card_41 (by decide) ?_
        exact W.iret (v := (1 + 0)) hx hb hr (fun t9 ht9 _ => ⟨⟨_, (), rfl, (by unfold md_cd; rw [hd9, he9]; rfl), cl_at ht9 (hP)⟩, hS.F ht9⟩) hS.2.2 dX1_card_45
      · have he9 := md_b1 he
        refine lv_iconst (v := 2) hx hb dX1_card_35 (by decide) ?_
        refine lv_goto (tgt := 40) hx hb dX1_card_36 (by decide) ?_
        refine lv_iadd hx hb dX1_card_40 ?_
        refine lv_goto (tgt := 45) hx hb dX1_card_41 (by decide) ?_
        exact W.iret (v := (1 + 2)) hx hb hr (fun t9 ht9 _ => ⟨⟨_, (), rfl, (by unfold md_cd; rw [hd9, he9]; rfl), cl_at ht9 (hP)⟩, hS.F ht9⟩) hS.2.2 dX1_card_45
set_option maxHeartbeats 4000000 in
set_option maxRecDepth 100000 in
/-- card(x), where there is no such card -/
theorem e1_card (l : Launch) (dC : Nat → ClassId) (dI : Nat → Nat → Nat) (q qa qb : Nat) (cY cZ : ClassId) (t : Int32) (N : Nat) (D S : Nat → Bool) (x : Int32) (h1 : 1 ≤ N) (h2 : N ≤ 16384) (hbad : x < 0 ∨ ¬ x < nI (cb_cc N)) (hne : md_ne q qa qb) : Met l yX1_card wsX1_card ({ frames := 2, cells := 0, slots := 0, locals := 60 }) (cb_Pc (dC, dI) [.ref q, .int x] (md_w q qa qb cY cZ t (nI N) D S) [(cY, .boolean), (cZ, .boolean)]) (va_Qi (fun (r9 : Int32) (_ : Unit) => (0 : Int32) = r9) (fun _ t9 => va_P (dC, dI) vwCl (md_w q qa qb cY cZ 1 (nI N) D S) t9.heap) (md_A q qa qb)) 0 0 (md_A q qa qb) := by
  refine Met.ofW (cc := cX1_card) (maxL := 2) (ret := (some .int)) (by decide) rfl ?_
  intro p e s m args below meth c s₁ B hml hv
  obtain ⟨rfl, hP, hK⟩ := hv
  have hx := B.exec
  have hb := B.bytes
  have hr := B.returns
  have hts := atoms_spec (ws := wsX1_card) B.pre
  have hown : s.vm.findClass RX1 = some m.cls := findClass_of_methodNamed B.named
  have hlocks := B.notSynchronized
  have hl := lv_entry ([.ref q, .int x]) (n := 2) (Nat.le_of_ble_eq_true rfl)
  rw [lg_entry_eq]
  generalize (lg_sl ([.ref q, .int x]) ++ List.replicate (2 - (lg_sl ([.ref q, .int x])).length) Slot.unset).toArray = ls at hl ⊢
  have hl : lv_has ls 2 [(0, .ref q), (1, .int x)] := hl
  have hS : va_S (md_A q qa qb) s.heap s.heap [] := va_S.rf
  refine lv_aload_n hx hb dX1_card_0 rfl (lv_at hl 0 rfl) ?_
  refine lv_aload_n hx hb dX1_card_1 rfl (lv_at hl 0 rfl) ?_
  refine lv_iload_n hx hb dX1_card_2 rfl (lv_at hl 1 rfl) ?_
  refine cl_calli (W.runV (As := [.int x]) (rest := [.ref q]) ⟨hx, hb, hml, hown, hts⟩ (c1_isCard l dC dI q qa qb cY cZ t N D S x false h1 h2 (by constructor; exact fun h9 => (Bool.false_ne_true h9).elim; exact fun h9 => (hbad.elim h9.1 (fun h8 => h8 h9.2)).elim)) (cwV 1 hts gX1_card_X1_isCard rfl rfl rfl (by decide +kernel) ⟨Nat.le_of_ble_eq_true rfl, Nat.le_of_ble_eq_true rfl⟩) (md_preV hK hP [.int x]) rfl rfl hl.1 rfl (lv_room (Nat.le_of_ble_eq_true rfl)) dX1_card_3 ⟨Nat.zero_le _, Nat.zero_le _⟩) ?_
  refine va_calli (va_runV (As := [.int (md_b false)]) (rest := []) ⟨hx, hb, hml, hown, hts⟩ (c1_goes l dC dI q qa qb cY cZ t N D S false hne) (cwV 1 hts gX1_card_X1_goes rfl rfl rfl (by decide +kernel) ⟨Nat.le_of_ble_eq_true rfl, Nat.le_of_ble_eq_true rfl⟩) (md_preV hK hP [.int (md_b false)]) rfl rfl hl.1 rfl (lv_room (Nat.le_of_ble_eq_true rfl)) dX1_card_6 ⟨Nat.zero_le _, Nat.zero_le _⟩) hS (fun q _ h9 => h9) (fun q h9 => h9) (fun r9 u9 t9 H locs ht9 hvm9 hw9 hP9 hz9 hk9 hS => ?_)
  rw [ht9] at hP9
  subst hw9
  have hP : va_P (dC, dI) vwCl (md_w q qa qb cY cZ (md_b (!false)) (nI N) D S) H := hP9
  refine lv_if_eq (tgt := 44) hx hb dX1_card_9 (by decide) (fun hc => ?_) (fun hc => ?_)
  · refine lv_iconst (v := 0) hx hb dX1_card_44 (by decide) ?_
    exact W.iret (v := 0) hx hb hr (fun t9 ht9 _ => ⟨⟨_, (), rfl, rfl, cl_at ht9 (hP)⟩, hS.F ht9⟩) hS.2.2 dX1_card_45
  · exact absurd (show md_b false = 0 by decide) hc
set_option maxHeartbeats 4000000 in
set_option maxRecDepth 100000 in
/-- nextDirty(j) -/
theorem c1_nextDirty (l : Launch) (dC : Nat → ClassId) (dI : Nat → Nat → Nat) (q qa qb : Nat) (cY cZ : ClassId) (t : Int32) (N : Nat) (D S : Nat → Bool) (j : Nat) (hj : j < 2 ^ 31) (hne : md_ne q qa qb) : Met l yX1_nextDirty wsX1_nextDirty ({ frames := 1, cells := 0, slots := 0, locals := 40 }) (cb_Pc (dC, dI) [.ref q, .int (nI j)] (md_w q qa qb cY cZ t (nI N) D S) [(cY, .boolean), (cZ, .boolean)]) (va_Qi (fun (r9 : Int32) (_ : Unit) => (md_fw D j 0) = r9) (fun _ t9 => va_P (dC, dI) vwCl (md_w q qa qb cY cZ 0 (nI N) D S) t9.heap) (md_A q qa qb)) 0 0 (md_A q qa qb) := by
  refine Met.ofW (cc := cX1_nextDirty) (maxL := 3) (ret := (some .int)) (by decide) rfl ?_
  intro p e s m args below meth c s₁ B hml hv
  obtain ⟨rfl, hP, hK⟩ := hv
  have hx := B.exec
  have hb := B.bytes
  have hr := B.returns
  have hts := atoms_spec (ws := wsX1_nextDirty) B.pre
  have hown : s.vm.findClass RX1 = some m.cls := findClass_of_methodNamed B.named
  have hlocks := B.notSynchronized
  have hl := lv_entry ([.ref q, .int (nI j)]) (n := 3) (Nat.le_of_ble_eq_true rfl)
  rw [lg_entry_eq]
  generalize (lg_sl ([.ref q, .int (nI j)]) ++ List.replicate (3 - (lg_sl ([.ref q, .int (nI j)])).length) Slot.unset).toArray = ls at hl ⊢
  have hl : lv_has ls 3 [(0, .ref q), (1, .int (nI j))] := hl
  have hS : va_S (md_A q qa qb) s.heap s.heap [] := va_S.rf
  refine lv_aload_n hx hb dX1_nextDirty_0 rfl (lv_at hl 0 rfl) ?_
  refine lv_iload_n hx hb dX1_nextDirty_1 rfl (lv_at hl 1 rfl) ?_
  refine lv_if_lt (tgt := 9) hx hb dX1_nextDirty_2 (by decide) (fun hc => ?_) (fun hc => ?_)
  · exact absurd hc (nI_pos hj)
  · refine lv_iconst (v := 1) hx hb dX1_nextDirty_5 (by decide) ?_
    refine lv_goto (tgt := 10) hx hb dX1_nextDirty_6 (by decide) ?_
    refine va_calli (va_runV (As := [.int (md_b true)]) (rest := []) ⟨hx, hb, hml, hown, hts⟩ (c1_goes l dC dI q qa qb cY cZ t N D S true hne) (cwV 1 hts gX1_nextDirty_X1_goes rfl rfl rfl (by decide +kernel) ⟨Nat.le_of_ble_eq_true rfl, Nat.le_of_ble_eq_true rfl⟩) (md_preV hK hP [.int (md_b true)]) rfl rfl hl.1 rfl (lv_room (Nat.le_of_ble_eq_true rfl)) dX1_nextDirty_10 ⟨Nat.zero_le _, Nat.zero_le _⟩) hS (fun q _ h9 => h9) (fun q h9 => h9) (fun r9 u9 t9 H locs ht9 hvm9 hw9 hP9 hz9 hk9 hS => ?_)
    rw [ht9] at hP9
    subst hw9
    have hP : va_P (dC, dI) vwCl (md_w q qa qb cY cZ (md_b (!true)) (nI N) D S) H := hP9
    refine lv_if_ne (tgt := 18) hx hb dX1_nextDirty_13 (by decide) (fun hd => ?_) (fun hd => ?_)
    · refine lv_iconst (v := 0) hx hb dX1_nextDirty_18 (by decide) ?_
      refine lv_istore_n (lv' := [(2, .int 0), (0, .ref q), (1, .int (nI j))]) hx hb dX1_nextDirty_19 rfl hl (by decide) rfl (fun ls hl => ?_)
      refine cl_loop 0 512 (by decide) (fun i H9 locs9 ls9 => H9 = H ∧ locs9 = locs ∧ md_fw D j 0 = md_fw D j i ∧ lv_has ls9 3 [(2, .int (nI i)), (0, .ref q), (1, .int (nI j))]) ?_ ?_ (H := H) (locs := locs) (ls := ls) ⟨rfl, rfl, rfl, hl⟩
      · intro H9 locs9 ls hi9
        obtain ⟨rfl, rfl, hf, hl⟩ := hi9
        refine lv_iload_n hx hb dX1_nextDirty_20 rfl (lv_at hl 0 rfl) ?_
        refine lv_sipush (v := 512) hx hb dX1_nextDirty_21 (by decide) ?_
        refine lv_icmp_ge (tgt := 49) hx hb dX1_nextDirty_24 (by decide) (fun he => ?_) (fun he => ?_)
        · refine lv_iconst (v := (-1)) hx hb dX1_nextDirty_49 (by decide) ?_
          rw [md_fw_e] at hf
          exact W.iret (v := -1) hx hb hr (fun t9 ht9 _ => ⟨⟨_, (), rfl, hf, cl_at ht9 (hP)⟩, hS.F ht9⟩) hS.2.2 dX1_nextDirty_50
        · exact absurd (Int32.le_refl _) he
      · intro i H9 locs9 ls _ hi hi9 kk
        obtain ⟨rfl, rfl, hf, hl⟩ := hi9
        refine lv_iload_n hx hb dX1_nextDirty_20 rfl (lv_at hl 0 rfl) ?_
        refine lv_sipush (v := 512) hx hb dX1_nextDirty_21 (by decide) ?_
        refine lv_icmp_ge (tgt := 49) hx hb dX1_nextDirty_24 (by decide) (fun he => ?_) (fun he => ?_)
        · exact absurd he (nI_ge hi (by decide))
        · refine lv_iload_n hx hb dX1_nextDirty_27 rfl (lv_at hl 0 rfl) ?_
          refine lv_iload_n hx hb dX1_nextDirty_28 rfl (lv_at hl 2 rfl) ?_
          refine lv_icmp_lt (tgt := 43) hx hb dX1_nextDirty_29 (by decide) (fun hg => ?_) (fun hg => ?_)
          · have hg := (nI_ltI (by omega) (by omega)).mp hg
            refine lv_iinc (v := (nI (i + 1))) (lv' := [(2, .int (nI (i + 1))), (0, .ref q), (1, .int (nI j))]) hx hb dX1_nextDirty_43 hl (k := 0) rfl (nI_1 _) (by decide) rfl (fun ls hl => ?_)
            refine lv_goto (tgt := 20) hx hb dX1_nextDirty_46 (by decide) ?_
            exact kk _ _ _ ⟨rfl, rfl, hf.trans (md_fw_0 hi (by omega)), lv_sub hl [0, 1, 2] rfl⟩
          · have hg : ¬ i < j := fun h9 => hg (nI_lt h9 (by omega))
            refine lv_aload_n hx hb dX1_nextDirty_32 rfl (lv_at hl 1 rfl) ?_
            refine va_get (D := (dC, dI)) (ci := 1) (v := .ref qa) (C := RX1) (T := TX1) (N := 4) hx hb hts (by decide +kernel) hown hK hP 0 rfl rfl 2 (by decide) (hts (.fieldLink RX1 13 "CardBookModel" "dirty" "[Z") (by decide +kernel)) (fun _ h9 => h9) rfl dX1_nextDirty_33 ?_
            refine lv_iload_n hx hb dX1_nextDirty_36 rfl (lv_at hl 0 rfl) ?_
            refine cl_zald (D := (dC, dI)) hx hb hK hP 1 0 rfl rfl hi (by decide) dX1_nextDirty_37 ?_
            refine lv_if_eq (tgt := 43) hx hb dX1_nextDirty_38 (by decide) (fun hh => ?_) (fun hh => ?_)
            · have hh9 := md_b0 hh
              refine lv_iinc (v := (nI (i + 1))) (lv' := [(2, .int (nI (i + 1))), (0, .ref q), (1, .int (nI j))]) hx hb dX1_nextDirty_43 hl (k := 0) rfl (nI_1 _) (by decide) rfl (fun ls hl => ?_)
              refine lv_goto (tgt := 20) hx hb dX1_nextDirty_46 (by decide) ?_
              exact kk _ _ _ ⟨rfl, rfl, hf.trans (md_fw_0 hi (by rw [hh9]; exact fun h9 => Bool.false_ne_true h9.2)), lv_sub hl [0, 1, 2] rfl⟩
            · rw [md_fw_1 hi (by omega) (md_b1 hh)] at hf
              refine lv_iload_n hx hb dX1_nextDirty_41 rfl (lv_at hl 0 rfl) ?_
              exact W.iret (v := nI i) hx hb hr (fun t9 ht9 _ => ⟨⟨_, (), rfl, hf, cl_at ht9 (hP)⟩, hS.F ht9⟩) hS.2.2 dX1_nextDirty_42
    · exact absurd hd (by decide)
set_option maxHeartbeats 4000000 in
set_option maxRecDepth 100000 in
/-- nextDirty(x), x below 0 -/
theorem e1_nextDirty (l : Launch) (dC : Nat → ClassId) (dI : Nat → Nat → Nat) (q qa qb : Nat) (cY cZ : ClassId) (t : Int32) (N : Nat) (D S : Nat → Bool) (x : Int32) (hbad : x < 0) (hne : md_ne q qa qb) : Met l yX1_nextDirty wsX1_nextDirty ({ frames := 1, cells := 0, slots := 0, locals := 40 }) (cb_Pc (dC, dI) [.ref q, .int x] (md_w q qa qb cY cZ t (nI N) D S) [(cY, .boolean), (cZ, .boolean)]) (va_Qi (fun (r9 : Int32) (_ : Unit) => (0 : Int32) = r9) (fun _ t9 => va_P (dC, dI) vwCl (md_w q qa qb cY cZ 1 (nI N) D S) t9.heap) (md_A q qa qb)) 0 0 (md_A q qa qb) := by
  refine Met.ofW (cc := cX1_nextDirty) (maxL := 3) (ret := (some .int)) (by decide) rfl ?_
  intro p e s m args below meth c s₁ B hml hv
  obtain ⟨rfl, hP, hK⟩ := hv
  have hx := B.exec
  have hb := B.bytes
  have hr := B.returns
  have hts := atoms_spec (ws := wsX1_nextDirty) B.pre
  have hown : s.vm.findClass RX1 = some m.cls := findClass_of_methodNamed B.named
  have hlocks := B.notSynchronized
  have hl := lv_entry ([.ref q, .int x]) (n := 3) (Nat.le_of_ble_eq_true rfl)
  rw [lg_entry_eq]
  generalize (lg_sl ([.ref q, .int x]) ++ List.replicate (3 - (lg_sl ([.ref q, .int x])).length) Slot.unset).toArray = ls at hl ⊢
  have hl : lv_has ls 3 [(0, .ref q), (1, .int x)] := hl
  have hS : va_S (md_A q qa qb) s.heap s.heap [] := va_S.rf
  refine lv_aload_n hx hb dX1_nextDirty_0 rfl (lv_at hl 0 rfl) ?_
  refine lv_iload_n hx hb dX1_nextDirty_1 rfl (lv_at hl 1 rfl) ?_
  refine lv_if_lt (tgt := 9) hx hb dX1_nextDirty_2 (by decide) (fun hc => ?_) (fun hc => ?_)
  · refine lv_iconst (v := 0) hx hb dX1_nextDirty_9 (by decide) ?_
    refine va_calli (va_runV (As := [.int (md_b false)]) (rest := []) ⟨hx, hb, hml, hown, hts⟩ (c1_goes l dC dI q qa qb cY cZ t N D S false hne) (cwV 1 hts gX1_nextDirty_X1_goes rfl rfl rfl (by decide +kernel) ⟨Nat.le_of_ble_eq_true rfl, Nat.le_of_ble_eq_true rfl⟩) (md_preV hK hP [.int (md_b false)]) rfl rfl hl.1 rfl (lv_room (Nat.le_of_ble_eq_true rfl)) dX1_nextDirty_10 ⟨Nat.zero_le _, Nat.zero_le _⟩) hS (fun q _ h9 => h9) (fun q h9 => h9) (fun r9 u9 t9 H locs ht9 hvm9 hw9 hP9 hz9 hk9 hS => ?_)
    rw [ht9] at hP9
    subst hw9
    have hP : va_P (dC, dI) vwCl (md_w q qa qb cY cZ (md_b (!false)) (nI N) D S) H := hP9
    refine lv_if_ne (tgt := 18) hx hb dX1_nextDirty_13 (by decide) (fun hu => ?_) (fun hu => ?_)
    · exact absurd (show md_b false = 0 by decide) hu
    · refine lv_iconst (v := 0) hx hb dX1_nextDirty_16 (by decide) ?_
      exact W.iret (v := 0) hx hb hr (fun t9 ht9 _ => ⟨⟨_, (), rfl, rfl, cl_at ht9 (hP)⟩, hS.F ht9⟩) hS.2.2 dX1_nextDirty_17
  · exact absurd hbad hc
set_option maxHeartbeats 4000000 in
set_option maxRecDepth 100000 in
/-- nextSaved(j) -/
theorem c1_nextSaved (l : Launch) (dC : Nat → ClassId) (dI : Nat → Nat → Nat) (q qa qb : Nat) (cY cZ : ClassId) (t : Int32) (N : Nat) (D S : Nat → Bool) (j : Nat) (hj : j < 2 ^ 31) (hne : md_ne q qa qb) : Met l yX1_nextSaved wsX1_nextSaved ({ frames := 1, cells := 0, slots := 0, locals := 40 }) (cb_Pc (dC, dI) [.ref q, .int (nI j)] (md_w q qa qb cY cZ t (nI N) D S) [(cY, .boolean), (cZ, .boolean)]) (va_Qi (fun (r9 : Int32) (_ : Unit) => (md_fw S j 0) = r9) (fun _ t9 => va_P (dC, dI) vwCl (md_w q qa qb cY cZ 0 (nI N) D S) t9.heap) (md_A q qa qb)) 0 0 (md_A q qa qb) := by
  refine Met.ofW (cc := cX1_nextSaved) (maxL := 3) (ret := (some .int)) (by decide) rfl ?_
  intro p e s m args below meth c s₁ B hml hv
  obtain ⟨rfl, hP, hK⟩ := hv
  have hx := B.exec
  have hb := B.bytes
  have hr := B.returns
  have hts := atoms_spec (ws := wsX1_nextSaved) B.pre
  have hown : s.vm.findClass RX1 = some m.cls := findClass_of_methodNamed B.named
  have hlocks := B.notSynchronized
  have hl := lv_entry ([.ref q, .int (nI j)]) (n := 3) (Nat.le_of_ble_eq_true rfl)
  rw [lg_entry_eq]
  generalize (lg_sl ([.ref q, .int (nI j)]) ++ List.replicate (3 - (lg_sl ([.ref q, .int (nI j)])).length) Slot.unset).toArray = ls at hl ⊢
  have hl : lv_has ls 3 [(0, .ref q), (1, .int (nI j))] := hl
  have hS : va_S (md_A q qa qb) s.heap s.heap [] := va_S.rf
  refine lv_aload_n hx hb dX1_nextSaved_0 rfl (lv_at hl 0 rfl) ?_
  refine lv_iload_n hx hb dX1_nextSaved_1 rfl (lv_at hl 1 rfl) ?_
  refine lv_if_lt (tgt := 9) hx hb dX1_nextSaved_2 (by decide) (fun hc => ?_) (fun hc => ?_)
  · exact absurd hc (nI_pos hj)
  · refine lv_iconst (v := 1) hx hb dX1_nextSaved_5 (by decide) ?_
    refine lv_goto (tgt := 10) hx hb dX1_nextSaved_6 (by decide) ?_
    refine va_calli (va_runV (As := [.int (md_b true)]) (rest := []) ⟨hx, hb, hml, hown, hts⟩ (c1_goes l dC dI q qa qb cY cZ t N D S true hne) (cwV 1 hts gX1_nextSaved_X1_goes rfl rfl rfl (by decide +kernel) ⟨Nat.le_of_ble_eq_true rfl, Nat.le_of_ble_eq_true rfl⟩) (md_preV hK hP [.int (md_b true)]) rfl rfl hl.1 rfl (lv_room (Nat.le_of_ble_eq_true rfl)) dX1_nextSaved_10 ⟨Nat.zero_le _, Nat.zero_le _⟩) hS (fun q _ h9 => h9) (fun q h9 => h9) (fun r9 u9 t9 H locs ht9 hvm9 hw9 hP9 hz9 hk9 hS => ?_)
    rw [ht9] at hP9
    subst hw9
    have hP : va_P (dC, dI) vwCl (md_w q qa qb cY cZ (md_b (!true)) (nI N) D S) H := hP9
    refine lv_if_ne (tgt := 18) hx hb dX1_nextSaved_13 (by decide) (fun hd => ?_) (fun hd => ?_)
    · refine lv_iconst (v := 0) hx hb dX1_nextSaved_18 (by decide) ?_
      refine lv_istore_n (lv' := [(2, .int 0), (0, .ref q), (1, .int (nI j))]) hx hb dX1_nextSaved_19 rfl hl (by decide) rfl (fun ls hl => ?_)
      refine cl_loop 0 512 (by decide) (fun i H9 locs9 ls9 => H9 = H ∧ locs9 = locs ∧ md_fw S j 0 = md_fw S j i ∧ lv_has ls9 3 [(2, .int (nI i)), (0, .ref q), (1, .int (nI j))]) ?_ ?_ (H := H) (locs := locs) (ls := ls) ⟨rfl, rfl, rfl, hl⟩
      · intro H9 locs9 ls hi9
        obtain ⟨rfl, rfl, hf, hl⟩ := hi9
        refine lv_iload_n hx hb dX1_nextSaved_20 rfl (lv_at hl 0 rfl) ?_
        refine lv_sipush (v := 512) hx hb dX1_nextSaved_21 (by decide) ?_
        refine lv_icmp_ge (tgt := 49) hx hb dX1_nextSaved_24 (by decide) (fun he => ?_) (fun he => ?_)
        · refine lv_iconst (v := (-1)) hx hb dX1_nextSaved_49 (by decide) ?_
          rw [md_fw_e] at hf
          exact W.iret (v := -1) hx hb hr (fun t9 ht9 _ => ⟨⟨_, (), rfl, hf, cl_at ht9 (hP)⟩, hS.F ht9⟩) hS.2.2 dX1_nextSaved_50
        · exact absurd (Int32.le_refl _) he
      · intro i H9 locs9 ls _ hi hi9 kk
        obtain ⟨rfl, rfl, hf, hl⟩ := hi9
        refine lv_iload_n hx hb dX1_nextSaved_20 rfl (lv_at hl 0 rfl) ?_
        refine lv_sipush (v := 512) hx hb dX1_nextSaved_21 (by decide) ?_
        refine lv_icmp_ge (tgt := 49) hx hb dX1_nextSaved_24 (by decide) (fun he => ?_) (fun he => ?_)
        · exact absurd he (nI_ge hi (by decide))
        · refine lv_iload_n hx hb dX1_nextSaved_27 rfl (lv_at hl 0 rfl) ?_
          refine lv_iload_n hx hb dX1_nextSaved_28 rfl (lv_at hl 2 rfl) ?_
          refine lv_icmp_lt (tgt := 43) hx hb dX1_nextSaved_29 (by decide) (fun hg => ?_) (fun hg => ?_)
          · have hg := (nI_ltI (by omega) (by omega)).mp hg
            refine lv_iinc (v := (nI (i + 1))) (lv' := [(2, .int (nI (i + 1))), (0, .ref q), (1, .int (nI j))]) hx hb dX1_nextSaved_43 hl (k := 0) rfl (nI_1 _) (by decide) rfl (fun ls hl => ?_)
            refine lv_goto (tgt := 20) hx hb dX1_nextSaved_46 (by decide) ?_
            exact kk _ _ _ ⟨rfl, rfl, hf.trans (md_fw_0 hi (by omega)), lv_sub hl [0, 1, 2] rfl⟩
          · have hg : ¬ i < j := fun h9 => hg (nI_lt h9 (by omega))
            refine lv_aload_n hx hb dX1_nextSaved_32 rfl (lv_at hl 1 rfl) ?_
            refine va_get (D := (dC, dI)) (ci := 1) (v := .ref qb) (C := RX1) (T := TX1) (N := 4) hx hb hts (by decide +kernel) hown hK hP 0 rfl rfl 3 (by decide) (hts (.fieldLink RX1 17 "CardBookModel" "saved" "[Z") (by decide +kernel)) (fun _ h9 => h9) rfl dX1_nextSaved_33 ?_
            refine lv_iload_n hx hb dX1_nextSaved_36 rfl (lv_at hl 0 rfl) ?_
            refine cl_zald (D := (dC, dI)) hx hb hK hP 2 1 rfl rfl hi (by decide) dX1_nextSaved_37 ?_
            refine lv_if_eq (tgt := 43) hx hb dX1_nextSaved_38 (by decide) (fun hh => ?_) (fun hh => ?_)
            · have hh9 := md_b0 hh
              refine lv_iinc (v := (nI (i + 1))) (lv' := [(2, .int (nI (i + 1))), (0, .ref q), (1, .int (nI j))]) hx hb dX1_nextSaved_43 hl (k := 0) rfl (nI_1 _) (by decide) rfl (fun ls hl => ?_)
              refine lv_goto (tgt := 20) hx hb dX1_nextSaved_46 (by decide) ?_
              exact kk _ _ _ ⟨rfl, rfl, hf.trans (md_fw_0 hi (by rw [hh9]; exact fun h9 => Bool.false_ne_true h9.2)), lv_sub hl [0, 1, 2] rfl⟩
            · rw [md_fw_1 hi (by omega) (md_b1 hh)] at hf
              refine lv_iload_n hx hb dX1_nextSaved_41 rfl (lv_at hl 0 rfl) ?_
              exact W.iret (v := nI i) hx hb hr (fun t9 ht9 _ => ⟨⟨_, (), rfl, hf, cl_at ht9 (hP)⟩, hS.F ht9⟩) hS.2.2 dX1_nextSaved_42
    · exact absurd hd (by decide)
set_option maxHeartbeats 4000000 in
set_option maxRecDepth 100000 in
/-- nextSaved(x), x below 0 -/
theorem e1_nextSaved (l : Launch) (dC : Nat → ClassId) (dI : Nat → Nat → Nat) (q qa qb : Nat) (cY cZ : ClassId) (t : Int32) (N : Nat) (D S : Nat → Bool) (x : Int32) (hbad : x < 0) (hne : md_ne q qa qb) : Met l yX1_nextSaved wsX1_nextSaved ({ frames := 1, cells := 0, slots := 0, locals := 40 }) (cb_Pc (dC, dI) [.ref q, .int x] (md_w q qa qb cY cZ t (nI N) D S) [(cY, .boolean), (cZ, .boolean)]) (va_Qi (fun (r9 : Int32) (_ : Unit) => (0 : Int32) = r9) (fun _ t9 => va_P (dC, dI) vwCl (md_w q qa qb cY cZ 1 (nI N) D S) t9.heap) (md_A q qa qb)) 0 0 (md_A q qa qb) := by
  refine Met.ofW (cc := cX1_nextSaved) (maxL := 3) (ret := (some .int)) (by decide) rfl ?_
  intro p e s m args below meth c s₁ B hml hv
  obtain ⟨rfl, hP, hK⟩ := hv
  have hx := B.exec
  have hb := B.bytes
  have hr := B.returns
  have hts := atoms_spec (ws := wsX1_nextSaved) B.pre
  have hown : s.vm.findClass RX1 = some m.cls := findClass_of_methodNamed B.named
  have hlocks := B.notSynchronized
  have hl := lv_entry ([.ref q, .int x]) (n := 3) (Nat.le_of_ble_eq_true rfl)
  rw [lg_entry_eq]
  generalize (lg_sl ([.ref q, .int x]) ++ List.replicate (3 - (lg_sl ([.ref q, .int x])).length) Slot.unset).toArray = ls at hl ⊢
  have hl : lv_has ls 3 [(0, .ref q), (1, .int x)] := hl
  have hS : va_S (md_A q qa qb) s.heap s.heap [] := va_S.rf
  refine lv_aload_n hx hb dX1_nextSaved_0 rfl (lv_at hl 0 rfl) ?_
  refine lv_iload_n hx hb dX1_nextSaved_1 rfl (lv_at hl 1 rfl) ?_
  refine lv_if_lt (tgt := 9) hx hb dX1_nextSaved_2 (by decide) (fun hc => ?_) (fun hc => ?_)
  · refine lv_iconst (v := 0) hx hb dX1_nextSaved_9 (by decide) ?_
    refine va_calli (va_runV (As := [.int (md_b false)]) (rest := []) ⟨hx, hb, hml, hown, hts⟩ (c1_goes l dC dI q qa qb cY cZ t N D S false hne) (cwV 1 hts gX1_nextSaved_X1_goes rfl rfl rfl (by decide +kernel) ⟨Nat.le_of_ble_eq_true rfl, Nat.le_of_ble_eq_true rfl⟩) (md_preV hK hP [.int (md_b false)]) rfl rfl hl.1 rfl (lv_room (Nat.le_of_ble_eq_true rfl)) dX1_nextSaved_10 ⟨Nat.zero_le _, Nat.zero_le _⟩) hS (fun q _ h9 => h9) (fun q h9 => h9) (fun r9 u9 t9 H locs ht9 hvm9 hw9 hP9 hz9 hk9 hS => ?_)
    rw [ht9] at hP9
    subst hw9
    have hP : va_P (dC, dI) vwCl (md_w q qa qb cY cZ (md_b (!false)) (nI N) D S) H := hP9
    refine lv_if_ne (tgt := 18) hx hb dX1_nextSaved_13 (by decide) (fun hu => ?_) (fun hu => ?_)
    · exact absurd (show md_b false = 0 by decide) hu
    · refine lv_iconst (v := 0) hx hb dX1_nextSaved_16 (by decide) ?_
      exact W.iret (v := 0) hx hb hr (fun t9 ht9 _ => ⟨⟨_, (), rfl, rfl, cl_at ht9 (hP)⟩, hS.F ht9⟩) hS.2.2 dX1_nextSaved_17
  · exact absurd hbad hc
set_option maxHeartbeats 4000000 in
set_option maxRecDepth 100000 in
/-- clear() -/
theorem c1_clear (l : Launch) (dC : Nat → ClassId) (dI : Nat → Nat → Nat) (q qa qb : Nat) (cY cZ : ClassId) (t : Int32) (N : Nat) (D S : Nat → Bool) (hne : md_ne q qa qb) : Met l yX1_clear wsX1_clear ({ frames := 1, cells := 0, slots := 0, locals := 40 }) (cb_Pc (dC, dI) [.ref q] (md_w q qa qb cY cZ t (nI N) D S) [(cY, .boolean), (cZ, .boolean)]) (va_Qi (fun (r9 : Int32) (_ : Unit) => (nI (md_ct true true D S 512)) = r9) (fun _ t9 => va_P (dC, dI) vwCl (md_w q qa qb cY cZ 0 (nI N) (md_cl D true 512) (md_cl S true 512)) t9.heap) (md_A q qa qb)) 0 0 (md_A q qa qb) := by
  refine Met.ofW (cc := cX1_clear) (maxL := 1) (ret := (some .int)) (by decide) rfl ?_
  intro p e s m args below meth c s₁ B hml hv
  obtain ⟨rfl, hP, hK⟩ := hv
  have hx := B.exec
  have hb := B.bytes
  have hr := B.returns
  have hts := atoms_spec (ws := wsX1_clear) B.pre
  have hown : s.vm.findClass RX1 = some m.cls := findClass_of_methodNamed B.named
  have hlocks := B.notSynchronized
  have hl := lv_entry ([.ref q]) (n := 1) (Nat.le_of_ble_eq_true rfl)
  rw [lg_entry_eq]
  generalize (lg_sl ([.ref q]) ++ List.replicate (1 - (lg_sl ([.ref q])).length) Slot.unset).toArray = ls at hl ⊢
  have hl : lv_has ls 1 [(0, .ref q)] := hl
  have hS : va_S (md_A q qa qb) s.heap s.heap [] := va_S.rf
  refine lv_aload_n hx hb dX1_clear_0 rfl (lv_at hl 0 rfl) ?_
  refine lv_iconst (v := 0) hx hb dX1_clear_1 (by decide) ?_
  have hD := md_D (cY := cY) (cZ := cZ) (t := t) (n := (nI N)) (D := D) (S := S) hne
  refine va_put (D := (dC, dI)) (ci := 1) (v := .int 0) (ty := .int) (C := RX1) (T := TX1) (N := 4) hx hb hts (by decide +kernel) tyX1 tyX1_ok nmX1 hown hK hP hD hS 0 rfl rfl 0 (by decide) (hts (.fieldLink RX1 20 "CardBookModel" "thrown" "I") (by decide +kernel)) (fun _ h9 => h9) rfl (by decide +kernel) rfl rfl (Nat.le_of_ble_eq_true rfl) dX1_clear_2 (fun H locs hP _ hS => ?_)
  have hP : va_P (dC, dI) vwCl (md_w q qa qb cY cZ 0 (nI N) D S) H := hP
  refine lv_aload_n hx hb dX1_clear_5 rfl (lv_at hl 0 rfl) ?_
  refine lv_iconst (v := 3) hx hb dX1_clear_6 (by decide) ?_
  refine lv_iconst (v := 1) hx hb dX1_clear_7 (by decide) ?_
  refine va_calli (va_runV (As := [.int 3, .int (md_b true)]) (rest := []) ⟨hx, hb, hml, hown, hts⟩ (c1_many l dC dI q qa qb cY cZ 0 N D S 3 true true true hne (by decide) (by decide)) (cwV 2 hts gX1_clear_X1_many rfl rfl rfl (by decide +kernel) ⟨Nat.le_of_ble_eq_true rfl, Nat.le_of_ble_eq_true rfl⟩) (md_preV hK hP [.int 3, .int (md_b true)]) rfl rfl hl.1 rfl (lv_room (Nat.le_of_ble_eq_true rfl)) dX1_clear_8 ⟨Nat.zero_le _, Nat.zero_le _⟩) hS (fun q _ h9 => h9) (fun q h9 => h9) (fun r9 u9 t9 H locs ht9 hvm9 hw9 hP9 hz9 hk9 hS => ?_)
  rw [ht9] at hP9
  subst hw9
  have hP : va_P (dC, dI) vwCl (md_w q qa qb cY cZ 0 (nI N) (md_cl D true 512) (md_cl S true 512)) H := hP9
  exact W.iret (v := nI (md_ct true true D S 512)) hx hb hr (fun t9 ht9 _ => ⟨⟨_, (), rfl, rfl, cl_at ht9 (hP)⟩, hS.F ht9⟩) hS.2.2 dX1_clear_11
set_option maxHeartbeats 4000000 in
set_option maxRecDepth 100000 in
/-- count(0) -/
theorem c1_count0 (l : Launch) (dC : Nat → ClassId) (dI : Nat → Nat → Nat) (q qa qb : Nat) (cY cZ : ClassId) (t : Int32) (N : Nat) (D S : Nat → Bool) (h1 : 1 ≤ N) (h2 : N ≤ 16384) (hne : md_ne q qa qb) : Met l yX1_count wsX1_count ({ frames := 1, cells := 0, slots := 0, locals := 40 }) (cb_Pc (dC, dI) [.ref q, .int 0] (md_w q qa qb cY cZ t (nI N) D S) [(cY, .boolean), (cZ, .boolean)]) (va_Qi (fun (r9 : Int32) (_ : Unit) => (md_cnt D S N 0) = r9) (fun _ t9 => va_P (dC, dI) vwCl (md_w q qa qb cY cZ 0 (nI N) D S) t9.heap) (md_A q qa qb)) 0 0 (md_A q qa qb) := by
  refine Met.ofW (cc := cX1_count) (maxL := 2) (ret := (some .int)) (by decide) rfl ?_
  intro p e s m args below meth c s₁ B hml hv
  obtain ⟨rfl, hP, hK⟩ := hv
  have hx := B.exec
  have hb := B.bytes
  have hr := B.returns
  have hts := atoms_spec (ws := wsX1_count) B.pre
  have hown : s.vm.findClass RX1 = some m.cls := findClass_of_methodNamed B.named
  have hlocks := B.notSynchronized
  have hl := lv_entry ([.ref q, .int 0]) (n := 2) (Nat.le_of_ble_eq_true rfl)
  rw [lg_entry_eq]
  generalize (lg_sl ([.ref q, .int 0]) ++ List.replicate (2 - (lg_sl ([.ref q, .int 0])).length) Slot.unset).toArray = ls at hl ⊢
  have hl : lv_has ls 2 [(0, .ref q), (1, .int 0)] := hl
  have hS : va_S (md_A q qa qb) s.heap s.heap [] := va_S.rf
  refine lv_aload_n hx hb dX1_count_0 rfl (lv_at hl 0 rfl) ?_
  refine lv_iload_n hx hb dX1_count_1 rfl (lv_at hl 1 rfl) ?_
  refine lv_if_lt (tgt := 14) hx hb dX1_count_2 (by decide) (fun hc => ?_) (fun hc => ?_)
  · exact absurd hc (by decide)
  · refine lv_iload_n hx hb dX1_count_5 rfl (lv_at hl 1 rfl) ?_
    refine lv_iconst (v := 3) hx hb dX1_count_6 (by decide) ?_
    refine lv_icmp_gt (tgt := 14) hx hb dX1_count_7 (by decide) (fun hd => ?_) (fun hd => ?_)
    · exact absurd hd (by decide)
    · refine lv_iconst (v := 1) hx hb dX1_count_10 (by decide) ?_
      refine lv_goto (tgt := 15) hx hb dX1_count_11 (by decide) ?_
      refine va_calli (va_runV (As := [.int (md_b true)]) (rest := []) ⟨hx, hb, hml, hown, hts⟩ (c1_goes l dC dI q qa qb cY cZ t N D S true hne) (cwV 1 hts gX1_count_X1_goes rfl rfl rfl (by decide +kernel) ⟨Nat.le_of_ble_eq_true rfl, Nat.le_of_ble_eq_true rfl⟩) (md_preV hK hP [.int (md_b true)]) rfl rfl hl.1 rfl (lv_room (Nat.le_of_ble_eq_true rfl)) dX1_count_15 ⟨Nat.zero_le _, Nat.zero_le _⟩) hS (fun q _ h9 => h9) (fun q h9 => h9) (fun r9 u9 t9 H locs ht9 hvm9 hw9 hP9 hz9 hk9 hS => ?_)
      rw [ht9] at hP9
      subst hw9
      have hP : va_P (dC, dI) vwCl (md_w q qa qb cY cZ (md_b (!true)) (nI N) D S) H := hP9
      refine lv_if_ne (tgt := 23) hx hb dX1_count_18 (by decide) (fun he => ?_) (fun he => ?_)
      · refine lv_iload_n hx hb dX1_count_23 rfl (lv_at hl 1 rfl) ?_
        refine lv_if_ne (tgt := 34) hx hb dX1_count_24 (by decide) (fun hf => ?_) (fun hf => ?_)
        · exact absurd rfl hf
        · refine lv_aload_n hx hb dX1_count_27 rfl (lv_at hl 0 rfl) ?_
          refine va_get (D := (dC, dI)) (ci := 1) (v := .int (nI N)) (C := RX1) (T := TX1) (N := 4) hx hb hts (by decide +kernel) hown hK hP 0 rfl rfl 1 (by decide) (hts (.fieldLink RX1 7 "CardBookModel" "cells" "I") (by decide +kernel)) (fun _ h9 => h9) rfl dX1_count_28 ?_
          refine lv_goto (tgt := 54) hx hb dX1_count_31 (by decide) ?_
          exact W.iret (v := nI N) hx hb hr (fun t9 ht9 _ => ⟨⟨_, (), rfl, rfl, cl_at ht9 (hP)⟩, hS.F ht9⟩) hS.2.2 dX1_count_54
      · exact absurd he (by decide)
set_option maxHeartbeats 4000000 in
set_option maxRecDepth 100000 in
/-- count(1) -/
theorem c1_count1 (l : Launch) (dC : Nat → ClassId) (dI : Nat → Nat → Nat) (q qa qb : Nat) (cY cZ : ClassId) (t : Int32) (N : Nat) (D S : Nat → Bool) (h1 : 1 ≤ N) (h2 : N ≤ 16384) (hne : md_ne q qa qb) : Met l yX1_count wsX1_count ({ frames := 1, cells := 0, slots := 0, locals := 40 }) (cb_Pc (dC, dI) [.ref q, .int 1] (md_w q qa qb cY cZ t (nI N) D S) [(cY, .boolean), (cZ, .boolean)]) (va_Qi (fun (r9 : Int32) (_ : Unit) => (md_cnt D S N 1) = r9) (fun _ t9 => va_P (dC, dI) vwCl (md_w q qa qb cY cZ 0 (nI N) D S) t9.heap) (md_A q qa qb)) 0 0 (md_A q qa qb) := by
  refine Met.ofW (cc := cX1_count) (maxL := 2) (ret := (some .int)) (by decide) rfl ?_
  intro p e s m args below meth c s₁ B hml hv
  obtain ⟨rfl, hP, hK⟩ := hv
  have hx := B.exec
  have hb := B.bytes
  have hr := B.returns
  have hts := atoms_spec (ws := wsX1_count) B.pre
  have hown : s.vm.findClass RX1 = some m.cls := findClass_of_methodNamed B.named
  have hlocks := B.notSynchronized
  have hl := lv_entry ([.ref q, .int 1]) (n := 2) (Nat.le_of_ble_eq_true rfl)
  rw [lg_entry_eq]
  generalize (lg_sl ([.ref q, .int 1]) ++ List.replicate (2 - (lg_sl ([.ref q, .int 1])).length) Slot.unset).toArray = ls at hl ⊢
  have hl : lv_has ls 2 [(0, .ref q), (1, .int 1)] := hl
  have hS : va_S (md_A q qa qb) s.heap s.heap [] := va_S.rf
  refine lv_aload_n hx hb dX1_count_0 rfl (lv_at hl 0 rfl) ?_
  refine lv_iload_n hx hb dX1_count_1 rfl (lv_at hl 1 rfl) ?_
  refine lv_if_lt (tgt := 14) hx hb dX1_count_2 (by decide) (fun hc => ?_) (fun hc => ?_)
  · exact absurd hc (by decide)
  · refine lv_iload_n hx hb dX1_count_5 rfl (lv_at hl 1 rfl) ?_
    refine lv_iconst (v := 3) hx hb dX1_count_6 (by decide) ?_
    refine lv_icmp_gt (tgt := 14) hx hb dX1_count_7 (by decide) (fun hd => ?_) (fun hd => ?_)
    · exact absurd hd (by decide)
    · refine lv_iconst (v := 1) hx hb dX1_count_10 (by decide) ?_
      refine lv_goto (tgt := 15) hx hb dX1_count_11 (by decide) ?_
      refine va_calli (va_runV (As := [.int (md_b true)]) (rest := []) ⟨hx, hb, hml, hown, hts⟩ (c1_goes l dC dI q qa qb cY cZ t N D S true hne) (cwV 1 hts gX1_count_X1_goes rfl rfl rfl (by decide +kernel) ⟨Nat.le_of_ble_eq_true rfl, Nat.le_of_ble_eq_true rfl⟩) (md_preV hK hP [.int (md_b true)]) rfl rfl hl.1 rfl (lv_room (Nat.le_of_ble_eq_true rfl)) dX1_count_15 ⟨Nat.zero_le _, Nat.zero_le _⟩) hS (fun q _ h9 => h9) (fun q h9 => h9) (fun r9 u9 t9 H locs ht9 hvm9 hw9 hP9 hz9 hk9 hS => ?_)
      rw [ht9] at hP9
      subst hw9
      have hP : va_P (dC, dI) vwCl (md_w q qa qb cY cZ (md_b (!true)) (nI N) D S) H := hP9
      refine lv_if_ne (tgt := 23) hx hb dX1_count_18 (by decide) (fun he => ?_) (fun he => ?_)
      · refine lv_iload_n hx hb dX1_count_23 rfl (lv_at hl 1 rfl) ?_
        refine lv_if_ne (tgt := 34) hx hb dX1_count_24 (by decide) (fun hf => ?_) (fun hf => ?_)
        · refine lv_iload_n hx hb dX1_count_34 rfl (lv_at hl 1 rfl) ?_
          refine lv_iconst (v := 1) hx hb dX1_count_35 (by decide) ?_
          refine lv_icmp_ne (tgt := 46) hx hb dX1_count_36 (by decide) (fun hg => ?_) (fun hg => ?_)
          · exact absurd rfl hg
          · refine lv_aload_n hx hb dX1_count_39 rfl (lv_at hl 0 rfl) ?_
            refine cl_calli (W.runV (As := []) (rest := []) ⟨hx, hb, hml, hown, hts⟩ (c1_cards l dC dI q qa qb cY cZ (md_b (!true)) N D S h1 h2) (cwV 0 hts gX1_count_X1_cards rfl rfl rfl (by decide +kernel) ⟨Nat.le_of_ble_eq_true rfl, Nat.le_of_ble_eq_true rfl⟩) (md_preV hK hP []) rfl rfl hl.1 rfl (lv_room (Nat.le_of_ble_eq_true rfl)) dX1_count_40 ⟨Nat.zero_le _, Nat.zero_le _⟩) ?_
            refine lv_goto (tgt := 54) hx hb dX1_count_43 (by decide) ?_
            exact W.iret (v := nI (cb_cc N)) hx hb hr (fun t9 ht9 _ => ⟨⟨_, (), rfl, rfl, cl_at ht9 (hP)⟩, hS.F ht9⟩) hS.2.2 dX1_count_54
        · exact absurd hf (by decide)
      · exact absurd he (by decide)
set_option maxHeartbeats 4000000 in
set_option maxRecDepth 100000 in
/-- count(2) -/
theorem c1_count2 (l : Launch) (dC : Nat → ClassId) (dI : Nat → Nat → Nat) (q qa qb : Nat) (cY cZ : ClassId) (t : Int32) (N : Nat) (D S : Nat → Bool) (h1 : 1 ≤ N) (h2 : N ≤ 16384) (hne : md_ne q qa qb) : Met l yX1_count wsX1_count ({ frames := 1, cells := 0, slots := 0, locals := 40 }) (cb_Pc (dC, dI) [.ref q, .int 2] (md_w q qa qb cY cZ t (nI N) D S) [(cY, .boolean), (cZ, .boolean)]) (va_Qi (fun (r9 : Int32) (_ : Unit) => (md_cnt D S N 2) = r9) (fun _ t9 => va_P (dC, dI) vwCl (md_w q qa qb cY cZ 0 (nI N) D S) t9.heap) (md_A q qa qb)) 0 0 (md_A q qa qb) := by
  refine Met.ofW (cc := cX1_count) (maxL := 2) (ret := (some .int)) (by decide) rfl ?_
  intro p e s m args below meth c s₁ B hml hv
  obtain ⟨rfl, hP, hK⟩ := hv
  have hx := B.exec
  have hb := B.bytes
  have hr := B.returns
  have hts := atoms_spec (ws := wsX1_count) B.pre
  have hown : s.vm.findClass RX1 = some m.cls := findClass_of_methodNamed B.named
  have hlocks := B.notSynchronized
  have hl := lv_entry ([.ref q, .int 2]) (n := 2) (Nat.le_of_ble_eq_true rfl)
  rw [lg_entry_eq]
  generalize (lg_sl ([.ref q, .int 2]) ++ List.replicate (2 - (lg_sl ([.ref q, .int 2])).length) Slot.unset).toArray = ls at hl ⊢
  have hl : lv_has ls 2 [(0, .ref q), (1, .int 2)] := hl
  have hS : va_S (md_A q qa qb) s.heap s.heap [] := va_S.rf
  refine lv_aload_n hx hb dX1_count_0 rfl (lv_at hl 0 rfl) ?_
  refine lv_iload_n hx hb dX1_count_1 rfl (lv_at hl 1 rfl) ?_
  refine lv_if_lt (tgt := 14) hx hb dX1_count_2 (by decide) (fun hc => ?_) (fun hc => ?_)
  · exact absurd hc (by decide)
  · refine lv_iload_n hx hb dX1_count_5 rfl (lv_at hl 1 rfl) ?_
    refine lv_iconst (v := 3) hx hb dX1_count_6 (by decide) ?_
    refine lv_icmp_gt (tgt := 14) hx hb dX1_count_7 (by decide) (fun hd => ?_) (fun hd => ?_)
    · exact absurd hd (by decide)
    · refine lv_iconst (v := 1) hx hb dX1_count_10 (by decide) ?_
      refine lv_goto (tgt := 15) hx hb dX1_count_11 (by decide) ?_
      refine va_calli (va_runV (As := [.int (md_b true)]) (rest := []) ⟨hx, hb, hml, hown, hts⟩ (c1_goes l dC dI q qa qb cY cZ t N D S true hne) (cwV 1 hts gX1_count_X1_goes rfl rfl rfl (by decide +kernel) ⟨Nat.le_of_ble_eq_true rfl, Nat.le_of_ble_eq_true rfl⟩) (md_preV hK hP [.int (md_b true)]) rfl rfl hl.1 rfl (lv_room (Nat.le_of_ble_eq_true rfl)) dX1_count_15 ⟨Nat.zero_le _, Nat.zero_le _⟩) hS (fun q _ h9 => h9) (fun q h9 => h9) (fun r9 u9 t9 H locs ht9 hvm9 hw9 hP9 hz9 hk9 hS => ?_)
      rw [ht9] at hP9
      subst hw9
      have hP : va_P (dC, dI) vwCl (md_w q qa qb cY cZ (md_b (!true)) (nI N) D S) H := hP9
      refine lv_if_ne (tgt := 23) hx hb dX1_count_18 (by decide) (fun he => ?_) (fun he => ?_)
      · refine lv_iload_n hx hb dX1_count_23 rfl (lv_at hl 1 rfl) ?_
        refine lv_if_ne (tgt := 34) hx hb dX1_count_24 (by decide) (fun hf => ?_) (fun hf => ?_)
        · refine lv_iload_n hx hb dX1_count_34 rfl (lv_at hl 1 rfl) ?_
          refine lv_iconst (v := 1) hx hb dX1_count_35 (by decide) ?_
          refine lv_icmp_ne (tgt := 46) hx hb dX1_count_36 (by decide) (fun hg => ?_) (fun hg => ?_)
          · refine lv_aload_n hx hb dX1_count_46 rfl (lv_at hl 0 rfl) ?_
            refine lv_iload_n hx hb dX1_count_47 rfl (lv_at hl 1 rfl) ?_
            refine lv_iconst (v := 1) hx hb dX1_count_48 (by decide) ?_
            refine lv_isub hx hb dX1_count_49 ?_
            refine cl_asi (y := 1) (by decide) ?_
            refine lv_iconst (v := 0) hx hb dX1_count_50 (by decide) ?_
            refine va_calli (va_runV (As := [.int 1, .int (md_b false)]) (rest := []) ⟨hx, hb, hml, hown, hts⟩ (c1_many l dC dI q qa qb cY cZ (md_b (!true)) N D S 1 false true false hne (by decide) (by decide)) (cwV 2 hts gX1_count_X1_many rfl rfl rfl (by decide +kernel) ⟨Nat.le_of_ble_eq_true rfl, Nat.le_of_ble_eq_true rfl⟩) (md_preV hK hP [.int 1, .int (md_b false)]) rfl rfl hl.1 rfl (lv_room (Nat.le_of_ble_eq_true rfl)) dX1_count_51 ⟨Nat.zero_le _, Nat.zero_le _⟩) hS (fun q _ h9 => h9) (fun q h9 => h9) (fun r9 u9 t9 H locs ht9 hvm9 hw9 hP9 hz9 hk9 hS => ?_)
            rw [ht9] at hP9
            subst hw9
            have hP : va_P (dC, dI) vwCl (md_w q qa qb cY cZ (md_b (!true)) (nI N) (md_cl D false 512) (md_cl S false 512)) H := hP9
            exact W.iret (v := nI (md_ct true false D S 512)) hx hb hr (fun t9 ht9 _ => ⟨⟨_, (), rfl, rfl, cl_at ht9 ((by rw [md_cl_f, md_cl_f] at hP; exact hP))⟩, hS.F ht9⟩) hS.2.2 dX1_count_54
          · exact absurd hg (by decide)
        · exact absurd hf (by decide)
      · exact absurd he (by decide)
set_option maxHeartbeats 4000000 in
set_option maxRecDepth 100000 in
/-- count(3) -/
theorem c1_count3 (l : Launch) (dC : Nat → ClassId) (dI : Nat → Nat → Nat) (q qa qb : Nat) (cY cZ : ClassId) (t : Int32) (N : Nat) (D S : Nat → Bool) (h1 : 1 ≤ N) (h2 : N ≤ 16384) (hne : md_ne q qa qb) : Met l yX1_count wsX1_count ({ frames := 1, cells := 0, slots := 0, locals := 40 }) (cb_Pc (dC, dI) [.ref q, .int 3] (md_w q qa qb cY cZ t (nI N) D S) [(cY, .boolean), (cZ, .boolean)]) (va_Qi (fun (r9 : Int32) (_ : Unit) => (md_cnt D S N 3) = r9) (fun _ t9 => va_P (dC, dI) vwCl (md_w q qa qb cY cZ 0 (nI N) D S) t9.heap) (md_A q qa qb)) 0 0 (md_A q qa qb) := by
  refine Met.ofW (cc := cX1_count) (maxL := 2) (ret := (some .int)) (by decide) rfl ?_
  intro p e s m args below meth c s₁ B hml hv
  obtain ⟨rfl, hP, hK⟩ := hv
  have hx := B.exec
  have hb := B.bytes
  have hr := B.returns
  have hts := atoms_spec (ws := wsX1_count) B.pre
  have hown : s.vm.findClass RX1 = some m.cls := findClass_of_methodNamed B.named
  have hlocks := B.notSynchronized
  have hl := lv_entry ([.ref q, .int 3]) (n := 2) (Nat.le_of_ble_eq_true rfl)
  rw [lg_entry_eq]
  generalize (lg_sl ([.ref q, .int 3]) ++ List.replicate (2 - (lg_sl ([.ref q, .int 3])).length) Slot.unset).toArray = ls at hl ⊢
  have hl : lv_has ls 2 [(0, .ref q), (1, .int 3)] := hl
  have hS : va_S (md_A q qa qb) s.heap s.heap [] := va_S.rf
  refine lv_aload_n hx hb dX1_count_0 rfl (lv_at hl 0 rfl) ?_
  refine lv_iload_n hx hb dX1_count_1 rfl (lv_at hl 1 rfl) ?_
  refine lv_if_lt (tgt := 14) hx hb dX1_count_2 (by decide) (fun hc => ?_) (fun hc => ?_)
  · exact absurd hc (by decide)
  · refine lv_iload_n hx hb dX1_count_5 rfl (lv_at hl 1 rfl) ?_
    refine lv_iconst (v := 3) hx hb dX1_count_6 (by decide) ?_
    refine lv_icmp_gt (tgt := 14) hx hb dX1_count_7 (by decide) (fun hd => ?_) (fun hd => ?_)
    · exact absurd hd (by decide)
    · refine lv_iconst (v := 1) hx hb dX1_count_10 (by decide) ?_
      refine lv_goto (tgt := 15) hx hb dX1_count_11 (by decide) ?_
      refine va_calli (va_runV (As := [.int (md_b true)]) (rest := []) ⟨hx, hb, hml, hown, hts⟩ (c1_goes l dC dI q qa qb cY cZ t N D S true hne) (cwV 1 hts gX1_count_X1_goes rfl rfl rfl (by decide +kernel) ⟨Nat.le_of_ble_eq_true rfl, Nat.le_of_ble_eq_true rfl⟩) (md_preV hK hP [.int (md_b true)]) rfl rfl hl.1 rfl (lv_room (Nat.le_of_ble_eq_true rfl)) dX1_count_15 ⟨Nat.zero_le _, Nat.zero_le _⟩) hS (fun q _ h9 => h9) (fun q h9 => h9) (fun r9 u9 t9 H locs ht9 hvm9 hw9 hP9 hz9 hk9 hS => ?_)
      rw [ht9] at hP9
      subst hw9
      have hP : va_P (dC, dI) vwCl (md_w q qa qb cY cZ (md_b (!true)) (nI N) D S) H := hP9
      refine lv_if_ne (tgt := 23) hx hb dX1_count_18 (by decide) (fun he => ?_) (fun he => ?_)
      · refine lv_iload_n hx hb dX1_count_23 rfl (lv_at hl 1 rfl) ?_
        refine lv_if_ne (tgt := 34) hx hb dX1_count_24 (by decide) (fun hf => ?_) (fun hf => ?_)
        · refine lv_iload_n hx hb dX1_count_34 rfl (lv_at hl 1 rfl) ?_
          refine lv_iconst (v := 1) hx hb dX1_count_35 (by decide) ?_
          refine lv_icmp_ne (tgt := 46) hx hb dX1_count_36 (by decide) (fun hg => ?_) (fun hg => ?_)
          · refine lv_aload_n hx hb dX1_count_46 rfl (lv_at hl 0 rfl) ?_
            refine lv_iload_n hx hb dX1_count_47 rfl (lv_at hl 1 rfl) ?_
            refine lv_iconst (v := 1) hx hb dX1_count_48 (by decide) ?_
            refine lv_isub hx hb dX1_count_49 ?_
            refine cl_asi (y := 2) (by decide) ?_
            refine lv_iconst (v := 0) hx hb dX1_count_50 (by decide) ?_
            refine va_calli (va_runV (As := [.int 2, .int (md_b false)]) (rest := []) ⟨hx, hb, hml, hown, hts⟩ (c1_many l dC dI q qa qb cY cZ (md_b (!true)) N D S 2 false false true hne (by decide) (by decide)) (cwV 2 hts gX1_count_X1_many rfl rfl rfl (by decide +kernel) ⟨Nat.le_of_ble_eq_true rfl, Nat.le_of_ble_eq_true rfl⟩) (md_preV hK hP [.int 2, .int (md_b false)]) rfl rfl hl.1 rfl (lv_room (Nat.le_of_ble_eq_true rfl)) dX1_count_51 ⟨Nat.zero_le _, Nat.zero_le _⟩) hS (fun q _ h9 => h9) (fun q h9 => h9) (fun r9 u9 t9 H locs ht9 hvm9 hw9 hP9 hz9 hk9 hS => ?_)
            rw [ht9] at hP9
            subst hw9
            have hP : va_P (dC, dI) vwCl (md_w q qa qb cY cZ (md_b (!true)) (nI N) (md_cl D false 512) (md_cl S false 512)) H := hP9
            exact W.iret (v := nI (md_ct false true D S 512)) hx hb hr (fun t9 ht9 _ => ⟨⟨_, (), rfl, rfl, cl_at ht9 ((by rw [md_cl_f, md_cl_f] at hP; exact hP))⟩, hS.F ht9⟩) hS.2.2 dX1_count_54
          · exact absurd hg (by decide)
        · exact absurd hf (by decide)
      · exact absurd he (by decide)
set_option maxHeartbeats 4000000 in
set_option maxRecDepth 100000 in
/-- count(x), x is none of 0 .. 3 -/
theorem e1_count (l : Launch) (dC : Nat → ClassId) (dI : Nat → Nat → Nat) (q qa qb : Nat) (cY cZ : ClassId) (t : Int32) (N : Nat) (D S : Nat → Bool) (x : Int32) (hbad : x < 0 ∨ ¬ x ≤ 3) (hne : md_ne q qa qb) : Met l yX1_count wsX1_count ({ frames := 1, cells := 0, slots := 0, locals := 40 }) (cb_Pc (dC, dI) [.ref q, .int x] (md_w q qa qb cY cZ t (nI N) D S) [(cY, .boolean), (cZ, .boolean)]) (va_Qi (fun (r9 : Int32) (_ : Unit) => (0 : Int32) = r9) (fun _ t9 => va_P (dC, dI) vwCl (md_w q qa qb cY cZ 1 (nI N) D S) t9.heap) (md_A q qa qb)) 0 0 (md_A q qa qb) := by
  refine Met.ofW (cc := cX1_count) (maxL := 2) (ret := (some .int)) (by decide) rfl ?_
  intro p e s m args below meth c s₁ B hml hv
  obtain ⟨rfl, hP, hK⟩ := hv
  have hx := B.exec
  have hb := B.bytes
  have hr := B.returns
  have hts := atoms_spec (ws := wsX1_count) B.pre
  have hown : s.vm.findClass RX1 = some m.cls := findClass_of_methodNamed B.named
  have hlocks := B.notSynchronized
  have hl := lv_entry ([.ref q, .int x]) (n := 2) (Nat.le_of_ble_eq_true rfl)
  rw [lg_entry_eq]
  generalize (lg_sl ([.ref q, .int x]) ++ List.replicate (2 - (lg_sl ([.ref q, .int x])).length) Slot.unset).toArray = ls at hl ⊢
  have hl : lv_has ls 2 [(0, .ref q), (1, .int x)] := hl
  have hS : va_S (md_A q qa qb) s.heap s.heap [] := va_S.rf
  refine lv_aload_n hx hb dX1_count_0 rfl (lv_at hl 0 rfl) ?_
  refine lv_iload_n hx hb dX1_count_1 rfl (lv_at hl 1 rfl) ?_
  refine lv_if_lt (tgt := 14) hx hb dX1_count_2 (by decide) (fun hc => ?_) (fun hc => ?_)
  · refine lv_iconst (v := 0) hx hb dX1_count_14 (by decide) ?_
    refine va_calli (va_runV (As := [.int (md_b false)]) (rest := []) ⟨hx, hb, hml, hown, hts⟩ (c1_goes l dC dI q qa qb cY cZ t N D S false hne) (cwV 1 hts gX1_count_X1_goes rfl rfl rfl (by decide +kernel) ⟨Nat.le_of_ble_eq_true rfl, Nat.le_of_ble_eq_true rfl⟩) (md_preV hK hP [.int (md_b false)]) rfl rfl hl.1 rfl (lv_room (Nat.le_of_ble_eq_true rfl)) dX1_count_15 ⟨Nat.zero_le _, Nat.zero_le _⟩) hS (fun q _ h9 => h9) (fun q h9 => h9) (fun r9 u9 t9 H locs ht9 hvm9 hw9 hP9 hz9 hk9 hS => ?_)
    rw [ht9] at hP9
    subst hw9
    have hP : va_P (dC, dI) vwCl (md_w q qa qb cY cZ (md_b (!false)) (nI N) D S) H := hP9
    refine lv_if_ne (tgt := 23) hx hb dX1_count_18 (by decide) (fun hu => ?_) (fun hu => ?_)
    · exact absurd (show md_b false = 0 by decide) hu
    · refine lv_iconst (v := 0) hx hb dX1_count_21 (by decide) ?_
      exact W.iret (v := 0) hx hb hr (fun t9 ht9 _ => ⟨⟨_, (), rfl, rfl, cl_at ht9 (hP)⟩, hS.F ht9⟩) hS.2.2 dX1_count_22
  · refine lv_iload_n hx hb dX1_count_5 rfl (lv_at hl 1 rfl) ?_
    refine lv_iconst (v := 3) hx hb dX1_count_6 (by decide) ?_
    refine lv_icmp_gt (tgt := 14) hx hb dX1_count_7 (by decide) (fun hd => ?_) (fun hd => ?_)
    · refine lv_iconst (v := 0) hx hb dX1_count_14 (by decide) ?_
      refine va_calli (va_runV (As := [.int (md_b false)]) (rest := []) ⟨hx, hb, hml, hown, hts⟩ (c1_goes l dC dI q qa qb cY cZ t N D S false hne) (cwV 1 hts gX1_count_X1_goes rfl rfl rfl (by decide +kernel) ⟨Nat.le_of_ble_eq_true rfl, Nat.le_of_ble_eq_true rfl⟩) (md_preV hK hP [.int (md_b false)]) rfl rfl hl.1 rfl (lv_room (Nat.le_of_ble_eq_true rfl)) dX1_count_15 ⟨Nat.zero_le _, Nat.zero_le _⟩) hS (fun q _ h9 => h9) (fun q h9 => h9) (fun r9 u9 t9 H locs ht9 hvm9 hw9 hP9 hz9 hk9 hS => ?_)
      rw [ht9] at hP9
      subst hw9
      have hP : va_P (dC, dI) vwCl (md_w q qa qb cY cZ (md_b (!false)) (nI N) D S) H := hP9
      refine lv_if_ne (tgt := 23) hx hb dX1_count_18 (by decide) (fun hu => ?_) (fun hu => ?_)
      · exact absurd (show md_b false = 0 by decide) hu
      · refine lv_iconst (v := 0) hx hb dX1_count_21 (by decide) ?_
        exact W.iret (v := 0) hx hb hr (fun t9 ht9 _ => ⟨⟨_, (), rfl, rfl, cl_at ht9 (hP)⟩, hS.F ht9⟩) hS.2.2 dX1_count_22
    · exact absurd (Int32.not_lt.mp hd) (hbad.resolve_left hc)
