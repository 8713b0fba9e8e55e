abbrev ou_w (o : Nat) (cJ : ClassId) (g : Nat → Int64) : va_W := [(o, .inl (cJ, 1, .inr (.inl g)))]
abbrev wr_w (h a : Nat) (cI : ClassId) (n : Int32) (f : Nat → Int32) (o : Nat) (cJ : ClassId) (g : Nat → Int64) : va_W := cb_w h a cI n f ++ ou_w o cJ g
def wr_A (h a o : Nat) : Nat → Prop := fun q => cb_A h a q ∨ q = o
theorem wr_D {h a o : Nat} {cI cJ : ClassId} {n : Int32} {f : Nat → Int32} {g : Nat → Int64} (hne : h ≠ a) (ho : o ≠ h ∧ o ≠ a) : va_D (wr_A h a o) (wr_w h a cI n f o cJ g) := by
  refine ⟨fun i j x y hi hj hxy => ?_, fun k q hk => ?_⟩
  · match i, j, hi, hj with
    | 0, 0, _, _ => rfl
    | 1, 1, _, _ => rfl
    | 2, 2, _, _ => rfl
    | 0, 1, hi, hj => cases hi; cases hj; exact absurd hxy hne
    | 1, 0, hi, hj => cases hi; cases hj; exact absurd hxy.symm hne
    | 0, 2, hi, hj => cases hi; cases hj; exact absurd hxy.symm ho.1
    | 2, 0, hi, hj => cases hi; cases hj; exact absurd hxy ho.1
    | 1, 2, hi, hj => cases hi; cases hj; exact absurd hxy.symm ho.2
    | 2, 1, hi, hj => cases hi; cases hj; exact absurd hxy ho.2
    | i + 3, _, hi, _ => cases hi
    | _, j + 3, _, hj => cases hj
  · match k, hk with
    | 0, hk => cases hk; exact Or.inl (Or.inl rfl)
    | 1, hk => cases hk; exact Or.inl (Or.inr rfl)
    | 2, hk => cases hk; exact Or.inr rfl
    | k + 3, hk => cases hk
theorem cl_kept {D : va_G} {cl : List vw_C} {ws : va_W} {A : Nat → Prop} {H H1 : Heap} (hP : va_P D cl ws H) (hk : ∀ q : Nat, q < H.size → ¬ A q → H1[q]? = H[q]?) (hn : ∀ x ∈ ws, ¬ A x.1) : va_P D cl ws H1 := hP.kept (fun k q hq => hk q.1 ((hP k q hq).lt) (hn q (List.mem_of_getElem? hq)))
set_option maxHeartbeats 4000000 in
set_option maxRecDepth 100000 in
/-- space, which returns -/
theorem w_space (l : Launch) (dC : Nat → ClassId) (dI : Nat → Nat → Nat) (h a : Nat) (cI : ClassId) (N : Nat) (f : Nat → Int32) (o : Nat) (cJ : ClassId) (g : Nat → Int64) (hne : h ≠ a) (ho : o ≠ h ∧ o ≠ a) (n : Nat) (h1 : 1 ≤ N) (h2 : N ≤ 16384) (hn1 : 1 ≤ n) (hn2 : n ≤ 16384) : Met l yL_space wsL_space ({ frames := 5, cells := 0, slots := 0, locals := 130 }) (cb_Pc (dC, dI) [.ref h, .int (nI n), .ref o] (wr_w h a cI (nI N) f o cJ g) [(cI, .int), (cJ, .long)]) (va_Qi (fun (r9 : Int32) (_ : Unit) => 0 = r9) (fun _ t9 => va_P (dC, dI) vwCl (wr_w h a cI (nI n) (cb_clr f (cb_cc N)) o cJ (vp_updL g 0 (Int32.toInt64 (nI N)))) t9.heap) (wr_A h a o)) 0 0 (wr_A h a o) := by
  refine va_MetW (cc := cL_space) (maxL := 4) (ret := (some .int)) (hh := [(0, 9, 12, 13)]) (by decide) rfl ?_
  intro p e s m args below meth c s₁ B hml hv
  obtain ⟨rfl, hP, hK⟩ := hv
  have hx := B.exec
  have hb := B.bytes
  have hr := B.returns
  have hts := atoms_spec (ws := wsL_space) B.pre
  have hown : s.vm.findClass RL = some m.cls := findClass_of_methodNamed B.named
  have hlocks := B.notSynchronized
  have hl := lv_entry ([.ref h, .int (nI n), .ref o]) (n := 4) (Nat.le_of_ble_eq_true rfl)
  rw [lg_entry_eq]
  generalize (lg_sl ([.ref h, .int (nI n), .ref o]) ++ List.replicate (4 - (lg_sl ([.ref h, .int (nI n), .ref o])).length) Slot.unset).toArray = ls at hl ⊢
  have hl : lv_has ls 4 [(0, .ref h), (1, .int (nI n)), (2, .ref o)] := hl
  have hS : va_S (wr_A h a o) s.heap s.heap [] := va_S.rf
  refine lv_aload_n hx hb dL_space_0 rfl (lv_at hl 2 rfl) ?_
  refine lv_iconst (v := 0) hx hb dL_space_1 (by decide) ?_
  refine lv_aload_n hx hb dL_space_2 rfl (lv_at hl 0 rfl) ?_
  refine lv_iload_n hx hb dL_space_3 rfl (lv_at hl 1 rfl) ?_
  refine va_calli (va_runV (As := [.int (nI n)]) (rest := [.int 0, .ref o]) ⟨hx, hb, hml, hown, hts⟩ (c_space l dC dI h a cI N f n h1 h2 hn1 hn2 hne) (cwV 1 hts gL_space_X0_space rfl rfl rfl (by decide +kernel) ⟨Nat.le_of_ble_eq_true rfl, Nat.le_of_ble_eq_true rfl⟩) (cb_preV (hK.sub (tys' := [(cI, .int)]) [0] rfl) (hP.sub (ws' := cb_w h a cI (nI N) f) [0, 1] rfl) [.int (nI n)]) rfl rfl hl.1 rfl (lv_room (Nat.le_of_ble_eq_true rfl)) dL_space_4 ⟨Nat.zero_le _, Nat.zero_le _⟩) hS (fun q _ h9 => Or.inl h9) (fun q h9 => Or.inl h9) (fun r9 u9 t9 H locs ht9 hvm9 hw9 hP9 hz9 hk9 hS => ?_)
  rw [ht9] at hP9
  subst hw9
  have hPo := cl_kept (hP.sub (ws' := ou_w o cJ g) [2] rfl) hk9 (fun x hx9 => by rw [List.mem_singleton] at hx9; subst hx9; intro h9; rcases h9 with h9 | h9; exact ho.1 h9; exact ho.2 h9)
  have hP : va_P (dC, dI) vwCl (wr_w h a cI (nI n) (cb_clr f (cb_cc N)) o cJ g) H := va_P.app hP9 hPo
  have hD := wr_D (cI := cI) (cJ := cJ) (n := (nI n)) (f := (cb_clr f (cb_cc N))) (g := g) hne ho
  refine lv_i2l (v := Int32.toInt64 (nI N)) hx hb dL_space_7 rfl ?_
  refine va_last (D := (dC, dI)) hx hb hK hP hD hS 2 1 rfl rfl (by unfold vp_in; decide) dL_space_8 (fun H locs hP _ hS => ?_)
  have hP : va_P (dC, dI) vwCl (wr_w h a cI (nI n) (cb_clr f (cb_cc N)) o cJ (vp_updL g 0 (Int32.toInt64 (nI N)))) H := hP
  refine lv_goto (tgt := 15) hx hb dL_space_9 (by decide) ?_
  refine lv_iconst (v := 0) hx hb dL_space_15 (by decide) ?_
  exact W.iret (v := 0) hx hb hr (fun t9 ht9 _ => ⟨⟨_, (), rfl, rfl, cl_at ht9 hP⟩, hS.F ht9⟩) hS.2.2 dL_space_16
set_option maxHeartbeats 4000000 in
set_option maxRecDepth 100000 in
/-- space, which catches -/
theorem v_space (l : Launch) (hst : l.stackTraces = false) (dC : Nat → ClassId) (dI : Nat → Nat → Nat) (h a : Nat) (cI : ClassId) (N : Nat) (f : Nat → Int32) (o : Nat) (cJ : ClassId) (g : Nat → Int64) (x : Int32) (hbad : x < 1 ∨ ¬ x ≤ 16384) : Met l yL_space wsL_space ({ frames := 8, cells := 1, slots := 6, locals := 180 }) (cb_Pt (dC, dI) [.ref h, .int x, .ref o] (wr_w h a cI (nI N) f o cJ g) [(cI, .int), (cJ, .long)]) (va_Qi (fun (r9 : Int32) (_ : Unit) => 1 = r9) (fun _ _ => True) (fun _ => False)) 1 6 (fun _ => False) := by
  refine va_MetW (cc := cL_space) (maxL := 4) (ret := (some .int)) (hh := [(0, 9, 12, 13)]) (by decide) rfl ?_
  intro p e s m args below meth c s₁ B hml hv
  obtain ⟨rfl, hP, hK, hJ⟩ := hv
  have hx := B.exec
  have hb := B.bytes
  have hr := B.returns
  have hts := atoms_spec (ws := wsL_space) B.pre
  have hown : s.vm.findClass RL = some m.cls := findClass_of_methodNamed B.named
  have hlocks := B.notSynchronized
  have hl := lv_entry ([.ref h, .int x, .ref o]) (n := 4) (Nat.le_of_ble_eq_true rfl)
  rw [lg_entry_eq]
  generalize (lg_sl ([.ref h, .int x, .ref o]) ++ List.replicate (4 - (lg_sl ([.ref h, .int x, .ref o])).length) Slot.unset).toArray = ls at hl ⊢
  have hl : lv_has ls 4 [(0, .ref h), (1, .int x), (2, .ref o)] := hl
  refine lv_aload_n hx hb dL_space_0 rfl (lv_at hl 2 rfl) ?_
  refine lv_iconst (v := 0) hx hb dL_space_1 (by decide) ?_
  refine lv_aload_n hx hb dL_space_2 rfl (lv_at hl 0 rfl) ?_
  refine lv_iload_n hx hb dL_space_3 rfl (lv_at hl 1 rfl) ?_
  have htab := xt_table (x := yL_space) B (hts (.codeWith yL_space cL_space 4 (some .int) [(0, 9, 12, 13)]) List.mem_cons_self)
  refine xt_catch (own := RL) (E := "java/lang/IllegalArgumentException") (xt_runV (As := [.int x]) (rest := [.int 0, .ref o]) ⟨hx, hb, hml, hown, hts⟩ (t_space l hst dC dI h a cI N f x hbad) (cwV 1 hts gL_space_X0_space rfl rfl rfl (by decide +kernel) ⟨Nat.le_of_ble_eq_true rfl, Nat.le_of_ble_eq_true rfl⟩) (cb_preT hJ (hK.sub (tys' := [(cI, .int)]) [0] rfl) (hP.sub (ws' := cb_w h a cI (nI N) f) [0, 1] rfl) [.int x]) rfl rfl hl.1 rfl (lv_room (Nat.le_of_ble_eq_true rfl)) dL_space_4 ⟨Nat.le_refl _, Nat.le_refl _⟩) hown htab (by decide) (by decide) (hts (.classLink RL 13 "java/lang/IllegalArgumentException") (by decide +kernel)) (xt_ride (State.WarmedH.refl s) (cb_nw_ok (.castable "java/lang/IllegalArgumentException" "java/lang/IllegalArgumentException") (by decide +kernel)) (hJ.2.2 (.castable "java/lang/IllegalArgumentException" "java/lang/IllegalArgumentException") (by decide +kernel))) (fun x9 H1 hz9 hk9 => ?_)
  refine lv_astore_n (lv' := [(3, .ref x9), (0, .ref h), (1, .int x), (2, .ref o)]) hx hb dL_space_12 rfl hl (by decide) rfl (fun ls hl => ?_)
  refine lv_iconst (v := 1) hx hb dL_space_13 (by decide) ?_
  exact W.iret (v := 1) hx hb hr (fun t9 ht9 _ => ⟨⟨_, (), rfl, rfl, trivial⟩, by rw [ht9]; exact hz9, fun q9 h9 _ => by rw [ht9]; exact hk9 q9 h9⟩) (fun q9 hq9 => nomatch hq9) dL_space_14
set_option maxHeartbeats 4000000 in
set_option maxRecDepth 100000 in
/-- write, which returns -/
theorem w_write (l : Launch) (dC : Nat → ClassId) (dI : Nat → Nat → Nat) (h a : Nat) (cI : ClassId) (N : Nat) (f : Nat → Int32) (o : Nat) (cJ : ClassId) (g : Nat → Int64) (hne : h ≠ a) (ho : o ≠ h ∧ o ≠ a) (k : Nat) (h2 : N ≤ 16384) (hk : k < N) : Met l yL_write wsL_write ({ frames := 5, cells := 0, slots := 0, locals := 130 }) (cb_Pc (dC, dI) [.ref h, .int (nI k), .ref o] (wr_w h a cI (nI N) f o cJ g) [(cI, .int), (cJ, .long)]) (va_Qi (fun (r9 : Int32) (_ : Unit) => 0 = r9) (fun _ t9 => va_P (dC, dI) vwCl (wr_w h a cI (nI N) (upd f (k / 32) (f (k / 32) ||| 1)) o cJ (vp_updL g 0 (Int32.toInt64 (nI (k / 32))))) t9.heap) (wr_A h a o)) 0 0 (wr_A h a o) := by
  refine va_MetW (cc := cL_write) (maxL := 4) (ret := (some .int)) (hh := [(0, 9, 12, 18)]) (by decide) rfl ?_
  intro p e s m args below meth c s₁ B hml hv
  obtain ⟨rfl, hP, hK⟩ := hv
  have hx := B.exec
  have hb := B.bytes
  have hr := B.returns
  have hts := atoms_spec (ws := wsL_write) B.pre
  have hown : s.vm.findClass RL = some m.cls := findClass_of_methodNamed B.named
  have hlocks := B.notSynchronized
  have hl := lv_entry ([.ref h, .int (nI k), .ref o]) (n := 4) (Nat.le_of_ble_eq_true rfl)
  rw [lg_entry_eq]
  generalize (lg_sl ([.ref h, .int (nI k), .ref o]) ++ List.replicate (4 - (lg_sl ([.ref h, .int (nI k), .ref o])).length) Slot.unset).toArray = ls at hl ⊢
  have hl : lv_has ls 4 [(0, .ref h), (1, .int (nI k)), (2, .ref o)] := hl
  have hS : va_S (wr_A h a o) s.heap s.heap [] := va_S.rf
  refine lv_aload_n hx hb dL_write_0 rfl (lv_at hl 2 rfl) ?_
  refine lv_iconst (v := 0) hx hb dL_write_1 (by decide) ?_
  refine lv_aload_n hx hb dL_write_2 rfl (lv_at hl 0 rfl) ?_
  refine lv_iload_n hx hb dL_write_3 rfl (lv_at hl 1 rfl) ?_
  refine va_calli (va_runV (As := [.int (nI k)]) (rest := [.int 0, .ref o]) ⟨hx, hb, hml, hown, hts⟩ (c_write l dC dI h a cI N f k h2 hk hne) (cwV 1 hts gL_write_X0_write rfl rfl rfl (by decide +kernel) ⟨Nat.le_of_ble_eq_true rfl, Nat.le_of_ble_eq_true rfl⟩) (cb_preV (hK.sub (tys' := [(cI, .int)]) [0] rfl) (hP.sub (ws' := cb_w h a cI (nI N) f) [0, 1] rfl) [.int (nI k)]) rfl rfl hl.1 rfl (lv_room (Nat.le_of_ble_eq_true rfl)) dL_write_4 ⟨Nat.zero_le _, Nat.zero_le _⟩) hS (fun q _ h9 => Or.inl h9) (fun q h9 => Or.inl h9) (fun r9 u9 t9 H locs ht9 hvm9 hw9 hP9 hz9 hk9 hS => ?_)
  rw [ht9] at hP9
  subst hw9
  have hPo := cl_kept (hP.sub (ws' := ou_w o cJ g) [2] rfl) hk9 (fun x hx9 => by rw [List.mem_singleton] at hx9; subst hx9; intro h9; rcases h9 with h9 | h9; exact ho.1 h9; exact ho.2 h9)
  have hP : va_P (dC, dI) vwCl (wr_w h a cI (nI N) (upd f (k / 32) (f (k / 32) ||| 1)) o cJ g) H := va_P.app hP9 hPo
  have hD := wr_D (cI := cI) (cJ := cJ) (n := (nI N)) (f := (upd f (k / 32) (f (k / 32) ||| 1))) (g := g) hne ho
  refine lv_i2l (v := Int32.toInt64 (nI (k / 32))) hx hb dL_write_7 rfl ?_
  refine va_last (D := (dC, dI)) hx hb hK hP hD hS 2 1 rfl rfl (by unfold vp_in; decide) dL_write_8 (fun H locs hP _ hS => ?_)
  have hP : va_P (dC, dI) vwCl (wr_w h a cI (nI N) (upd f (k / 32) (f (k / 32) ||| 1)) o cJ (vp_updL g 0 (Int32.toInt64 (nI (k / 32))))) H := hP
  refine lv_goto (tgt := 15) hx hb dL_write_9 (by decide) ?_
  refine lv_iconst (v := 0) hx hb dL_write_15 (by decide) ?_
  exact W.iret (v := 0) hx hb hr (fun t9 ht9 _ => ⟨⟨_, (), rfl, rfl, cl_at ht9 hP⟩, hS.F ht9⟩) hS.2.2 dL_write_16
set_option maxHeartbeats 4000000 in
set_option maxRecDepth 100000 in
/-- write, which catches -/
theorem v_write (l : Launch) (hst : l.stackTraces = false) (dC : Nat → ClassId) (dI : Nat → Nat → Nat) (h a : Nat) (cI : ClassId) (N : Nat) (f : Nat → Int32) (o : Nat) (cJ : ClassId) (g : Nat → Int64) (x : Int32) (hbad : x < 0 ∨ ¬ x < nI N) : Met l yL_write wsL_write ({ frames := 8, cells := 1, slots := 6, locals := 180 }) (cb_Pt (dC, dI) [.ref h, .int x, .ref o] (wr_w h a cI (nI N) f o cJ g) [(cI, .int), (cJ, .long)]) (va_Qi (fun (r9 : Int32) (_ : Unit) => 1 = r9) (fun _ _ => True) (fun _ => False)) 1 6 (fun _ => False) := by
  refine va_MetW (cc := cL_write) (maxL := 4) (ret := (some .int)) (hh := [(0, 9, 12, 18)]) (by decide) rfl ?_
  intro p e s m args below meth c s₁ B hml hv
  obtain ⟨rfl, hP, hK, hJ⟩ := hv
  have hx := B.exec
  have hb := B.bytes
  have hr := B.returns
  have hts := atoms_spec (ws := wsL_write) B.pre
  have hown : s.vm.findClass RL = some m.cls := findClass_of_methodNamed B.named
  have hlocks := B.notSynchronized
  have hl := lv_entry ([.ref h, .int x, .ref o]) (n := 4) (Nat.le_of_ble_eq_true rfl)
  rw [lg_entry_eq]
  generalize (lg_sl ([.ref h, .int x, .ref o]) ++ List.replicate (4 - (lg_sl ([.ref h, .int x, .ref o])).length) Slot.unset).toArray = ls at hl ⊢
  have hl : lv_has ls 4 [(0, .ref h), (1, .int x), (2, .ref o)] := hl
  refine lv_aload_n hx hb dL_write_0 rfl (lv_at hl 2 rfl) ?_
  refine lv_iconst (v := 0) hx hb dL_write_1 (by decide) ?_
  refine lv_aload_n hx hb dL_write_2 rfl (lv_at hl 0 rfl) ?_
  refine lv_iload_n hx hb dL_write_3 rfl (lv_at hl 1 rfl) ?_
  have htab := xt_table (x := yL_write) B (hts (.codeWith yL_write cL_write 4 (some .int) [(0, 9, 12, 18)]) List.mem_cons_self)
  refine xt_catch (own := RL) (E := "java/lang/IndexOutOfBoundsException") (xt_runV (As := [.int x]) (rest := [.int 0, .ref o]) ⟨hx, hb, hml, hown, hts⟩ (t_write l hst dC dI h a cI N f x hbad) (cwV 1 hts gL_write_X0_write rfl rfl rfl (by decide +kernel) ⟨Nat.le_of_ble_eq_true rfl, Nat.le_of_ble_eq_true rfl⟩) (cb_preT hJ (hK.sub (tys' := [(cI, .int)]) [0] rfl) (hP.sub (ws' := cb_w h a cI (nI N) f) [0, 1] rfl) [.int x]) rfl rfl hl.1 rfl (lv_room (Nat.le_of_ble_eq_true rfl)) dL_write_4 ⟨Nat.le_refl _, Nat.le_refl _⟩) hown htab (by decide) (by decide) (hts (.classLink RL 18 "java/lang/IndexOutOfBoundsException") (by decide +kernel)) (xt_ride (State.WarmedH.refl s) (cb_nw_ok (.castable "java/lang/IndexOutOfBoundsException" "java/lang/IndexOutOfBoundsException") (by decide +kernel)) (hJ.2.2 (.castable "java/lang/IndexOutOfBoundsException" "java/lang/IndexOutOfBoundsException") (by decide +kernel))) (fun x9 H1 hz9 hk9 => ?_)
  refine lv_astore_n (lv' := [(3, .ref x9), (0, .ref h), (1, .int x), (2, .ref o)]) hx hb dL_write_12 rfl hl (by decide) rfl (fun ls hl => ?_)
  refine lv_iconst (v := 1) hx hb dL_write_13 (by decide) ?_
  exact W.iret (v := 1) hx hb hr (fun t9 ht9 _ => ⟨⟨_, (), rfl, rfl, trivial⟩, by rw [ht9]; exact hz9, fun q9 h9 _ => by rw [ht9]; exact hk9 q9 h9⟩) (fun q9 hq9 => nomatch hq9) dL_write_14
set_option maxHeartbeats 4000000 in
set_option maxRecDepth 100000 in
/-- cover, which returns -/
theorem w_cover (l : Launch) (dC : Nat → ClassId) (dI : Nat → Nat → Nat) (h a : Nat) (cI : ClassId) (N : Nat) (f : Nat → Int32) (o : Nat) (cJ : ClassId) (g : Nat → Int64) (hne : h ≠ a) (ho : o ≠ h ∧ o ≠ a) (k z : Nat) (h2 : N ≤ 16384) (hz : 1 ≤ z) (hk : k + z ≤ N) : Met l yL_cover wsL_cover ({ frames := 5, cells := 0, slots := 0, locals := 130 }) (cb_Pc (dC, dI) [.ref h, .int (nI k), .int (nI z), .ref o] (wr_w h a cI (nI N) f o cJ g) [(cI, .int), (cJ, .long)]) (va_Qi (fun (r9 : Int32) (_ : Unit) => 0 = r9) (fun _ t9 => va_P (dC, dI) vwCl (wr_w h a cI (nI N) (cb_cov f (k / 32) (((k + z - 1) / 32) + 1)) o cJ (vp_updL g 0 (Int32.toInt64 (nI (((k + z - 1) / 32) - k / 32 + 1))))) t9.heap) (wr_A h a o)) 0 0 (wr_A h a o) := by
  refine va_MetW (cc := cL_cover) (maxL := 5) (ret := (some .int)) (hh := [(0, 10, 13, 18)]) (by decide) rfl ?_
  intro p e s m args below meth c s₁ B hml hv
  obtain ⟨rfl, hP, hK⟩ := hv
  have hx := B.exec
  have hb := B.bytes
  have hr := B.returns
  have hts := atoms_spec (ws := wsL_cover) B.pre
  have hown : s.vm.findClass RL = some m.cls := findClass_of_methodNamed B.named
  have hlocks := B.notSynchronized
  have hl := lv_entry ([.ref h, .int (nI k), .int (nI z), .ref o]) (n := 5) (Nat.le_of_ble_eq_true rfl)
  rw [lg_entry_eq]
  generalize (lg_sl ([.ref h, .int (nI k), .int (nI z), .ref o]) ++ List.replicate (5 - (lg_sl ([.ref h, .int (nI k), .int (nI z), .ref o])).length) Slot.unset).toArray = ls at hl ⊢
  have hl : lv_has ls 5 [(0, .ref h), (1, .int (nI k)), (2, .int (nI z)), (3, .ref o)] := hl
  have hS : va_S (wr_A h a o) s.heap s.heap [] := va_S.rf
  refine lv_aload_n hx hb dL_cover_0 rfl (lv_at hl 3 rfl) ?_
  refine lv_iconst (v := 0) hx hb dL_cover_1 (by decide) ?_
  refine lv_aload_n hx hb dL_cover_2 rfl (lv_at hl 0 rfl) ?_
  refine lv_iload_n hx hb dL_cover_3 rfl (lv_at hl 1 rfl) ?_
  refine lv_iload_n hx hb dL_cover_4 rfl (lv_at hl 2 rfl) ?_
  refine va_calli (va_runV (As := [.int (nI k), .int (nI z)]) (rest := [.int 0, .ref o]) ⟨hx, hb, hml, hown, hts⟩ (c_cover l dC dI h a cI N f k z h2 hz hk hne) (cwV 2 hts gL_cover_X0_cover rfl rfl rfl (by decide +kernel) ⟨Nat.le_of_ble_eq_true rfl, Nat.le_of_ble_eq_true rfl⟩) (cb_preV (hK.sub (tys' := [(cI, .int)]) [0] rfl) (hP.sub (ws' := cb_w h a cI (nI N) f) [0, 1] rfl) [.int (nI k), .int (nI z)]) rfl rfl hl.1 rfl (lv_room (Nat.le_of_ble_eq_true rfl)) dL_cover_5 ⟨Nat.zero_le _, Nat.zero_le _⟩) hS (fun q _ h9 => Or.inl h9) (fun q h9 => Or.inl h9) (fun r9 u9 t9 H locs ht9 hvm9 hw9 hP9 hz9 hk9 hS => ?_)
  rw [ht9] at hP9
  subst hw9
  have hPo := cl_kept (hP.sub (ws' := ou_w o cJ g) [2] rfl) hk9 (fun x hx9 => by rw [List.mem_singleton] at hx9; subst hx9; intro h9; rcases h9 with h9 | h9; exact ho.1 h9; exact ho.2 h9)
  have hP : va_P (dC, dI) vwCl (wr_w h a cI (nI N) (cb_cov f (k / 32) (((k + z - 1) / 32) + 1)) o cJ g) H := va_P.app hP9 hPo
  have hD := wr_D (cI := cI) (cJ := cJ) (n := (nI N)) (f := (cb_cov f (k / 32) (((k + z - 1) / 32) + 1))) (g := g) hne ho
  refine lv_i2l (v := Int32.toInt64 (nI (((k + z - 1) / 32) - k / 32 + 1))) hx hb dL_cover_8 rfl ?_
  refine va_last (D := (dC, dI)) hx hb hK hP hD hS 2 1 rfl rfl (by unfold vp_in; decide) dL_cover_9 (fun H locs hP _ hS => ?_)
  have hP : va_P (dC, dI) vwCl (wr_w h a cI (nI N) (cb_cov f (k / 32) (((k + z - 1) / 32) + 1)) o cJ (vp_updL g 0 (Int32.toInt64 (nI (((k + z - 1) / 32) - k / 32 + 1))))) H := hP
  refine lv_goto (tgt := 17) hx hb dL_cover_10 (by decide) ?_
  refine lv_iconst (v := 0) hx hb dL_cover_17 (by decide) ?_
  exact W.iret (v := 0) hx hb hr (fun t9 ht9 _ => ⟨⟨_, (), rfl, rfl, cl_at ht9 hP⟩, hS.F ht9⟩) hS.2.2 dL_cover_18
set_option maxHeartbeats 4000000 in
set_option maxRecDepth 100000 in
/-- cover, which catches -/
theorem v_cover1 (l : Launch) (hst : l.stackTraces = false) (dC : Nat → ClassId) (dI : Nat → Nat → Nat) (h a : Nat) (cI : ClassId) (N : Nat) (f : Nat → Int32) (o : Nat) (cJ : ClassId) (g : Nat → Int64) (x y : Int32) (hbad : x < 0 ∨ ¬ x < nI N) : Met l yL_cover wsL_cover ({ frames := 8, cells := 1, slots := 6, locals := 180 }) (cb_Pt (dC, dI) [.ref h, .int x, .int y, .ref o] (wr_w h a cI (nI N) f o cJ g) [(cI, .int), (cJ, .long)]) (va_Qi (fun (r9 : Int32) (_ : Unit) => 1 = r9) (fun _ _ => True) (fun _ => False)) 1 6 (fun _ => False) := by
  refine va_MetW (cc := cL_cover) (maxL := 5) (ret := (some .int)) (hh := [(0, 10, 13, 18)]) (by decide) rfl ?_
  intro p e s m args below meth c s₁ B hml hv
  obtain ⟨rfl, hP, hK, hJ⟩ := hv
  have hx := B.exec
  have hb := B.bytes
  have hr := B.returns
  have hts := atoms_spec (ws := wsL_cover) B.pre
  have hown : s.vm.findClass RL = some m.cls := findClass_of_methodNamed B.named
  have hlocks := B.notSynchronized
  have hl := lv_entry ([.ref h, .int x, .int y, .ref o]) (n := 5) (Nat.le_of_ble_eq_true rfl)
  rw [lg_entry_eq]
  generalize (lg_sl ([.ref h, .int x, .int y, .ref o]) ++ List.replicate (5 - (lg_sl ([.ref h, .int x, .int y, .ref o])).length) Slot.unset).toArray = ls at hl ⊢
  have hl : lv_has ls 5 [(0, .ref h), (1, .int x), (2, .int y), (3, .ref o)] := hl
  refine lv_aload_n hx hb dL_cover_0 rfl (lv_at hl 3 rfl) ?_
  refine lv_iconst (v := 0) hx hb dL_cover_1 (by decide) ?_
  refine lv_aload_n hx hb dL_cover_2 rfl (lv_at hl 0 rfl) ?_
  refine lv_iload_n hx hb dL_cover_3 rfl (lv_at hl 1 rfl) ?_
  refine lv_iload_n hx hb dL_cover_4 rfl (lv_at hl 2 rfl) ?_
  have htab := xt_table (x := yL_cover) B (hts (.codeWith yL_cover cL_cover 5 (some .int) [(0, 10, 13, 18)]) List.mem_cons_self)
  refine xt_catch (own := RL) (E := "java/lang/IndexOutOfBoundsException") (xt_runV (As := [.int x, .int y]) (rest := [.int 0, .ref o]) ⟨hx, hb, hml, hown, hts⟩ (t_cover1 l hst dC dI h a cI N f x y hbad) (cwV 2 hts gL_cover_X0_cover rfl rfl rfl (by decide +kernel) ⟨Nat.le_of_ble_eq_true rfl, Nat.le_of_ble_eq_true rfl⟩) (cb_preT hJ (hK.sub (tys' := [(cI, .int)]) [0] rfl) (hP.sub (ws' := cb_w h a cI (nI N) f) [0, 1] rfl) [.int x, .int y]) rfl rfl hl.1 rfl (lv_room (Nat.le_of_ble_eq_true rfl)) dL_cover_5 ⟨Nat.le_refl _, Nat.le_refl _⟩) hown htab (by decide) (by decide) (hts (.classLink RL 18 "java/lang/IndexOutOfBoundsException") (by decide +kernel)) (xt_ride (State.WarmedH.refl s) (cb_nw_ok (.castable "java/lang/IndexOutOfBoundsException" "java/lang/IndexOutOfBoundsException") (by decide +kernel)) (hJ.2.2 (.castable "java/lang/IndexOutOfBoundsException" "java/lang/IndexOutOfBoundsException") (by decide +kernel))) (fun x9 H1 hz9 hk9 => ?_)
  refine lv_astore (lv' := [(4, .ref x9), (0, .ref h), (1, .int x), (2, .int y), (3, .ref o)]) hx hb dL_cover_13 hl (by decide) rfl (fun ls hl => ?_)
  refine lv_iconst (v := 1) hx hb dL_cover_15 (by decide) ?_
  exact W.iret (v := 1) hx hb hr (fun t9 ht9 _ => ⟨⟨_, (), rfl, rfl, trivial⟩, by rw [ht9]; exact hz9, fun q9 h9 _ => by rw [ht9]; exact hk9 q9 h9⟩) (fun q9 hq9 => nomatch hq9) dL_cover_16
set_option maxHeartbeats 4000000 in
set_option maxRecDepth 100000 in
/-- cover, which catches -/
theorem v_cover2 (l : Launch) (hst : l.stackTraces = false) (dC : Nat → ClassId) (dI : Nat → Nat → Nat) (h a : Nat) (cI : ClassId) (N : Nat) (f : Nat → Int32) (o : Nat) (cJ : ClassId) (g : Nat → Int64) (k : Nat) (y : Int32) (h2 : N ≤ 16384) (hk : k < N) (hbad : y < 1 ∨ ¬ y ≤ nI N - nI k) : Met l yL_cover wsL_cover ({ frames := 8, cells := 1, slots := 6, locals := 180 }) (cb_Pt (dC, dI) [.ref h, .int (nI k), .int y, .ref o] (wr_w h a cI (nI N) f o cJ g) [(cI, .int), (cJ, .long)]) (va_Qi (fun (r9 : Int32) (_ : Unit) => 1 = r9) (fun _ _ => True) (fun _ => False)) 1 6 (fun _ => False) := by
  refine va_MetW (cc := cL_cover) (maxL := 5) (ret := (some .int)) (hh := [(0, 10, 13, 18)]) (by decide) rfl ?_
  intro p e s m args below meth c s₁ B hml hv
  obtain ⟨rfl, hP, hK, hJ⟩ := hv
  have hx := B.exec
  have hb := B.bytes
  have hr := B.returns
  have hts := atoms_spec (ws := wsL_cover) B.pre
  have hown : s.vm.findClass RL = some m.cls := findClass_of_methodNamed B.named
  have hlocks := B.notSynchronized
  have hl := lv_entry ([.ref h, .int (nI k), .int y, .ref o]) (n := 5) (Nat.le_of_ble_eq_true rfl)
  rw [lg_entry_eq]
  generalize (lg_sl ([.ref h, .int (nI k), .int y, .ref o]) ++ List.replicate (5 - (lg_sl ([.ref h, .int (nI k), .int y, .ref o])).length) Slot.unset).toArray = ls at hl ⊢
  have hl : lv_has ls 5 [(0, .ref h), (1, .int (nI k)), (2, .int y), (3, .ref o)] := hl
  refine lv_aload_n hx hb dL_cover_0 rfl (lv_at hl 3 rfl) ?_
  refine lv_iconst (v := 0) hx hb dL_cover_1 (by decide) ?_
  refine lv_aload_n hx hb dL_cover_2 rfl (lv_at hl 0 rfl) ?_
  refine lv_iload_n hx hb dL_cover_3 rfl (lv_at hl 1 rfl) ?_
  refine lv_iload_n hx hb dL_cover_4 rfl (lv_at hl 2 rfl) ?_
  have htab := xt_table (x := yL_cover) B (hts (.codeWith yL_cover cL_cover 5 (some .int) [(0, 10, 13, 18)]) List.mem_cons_self)
  refine xt_catch (own := RL) (E := "java/lang/IndexOutOfBoundsException") (xt_runV (As := [.int (nI k), .int y]) (rest := [.int 0, .ref o]) ⟨hx, hb, hml, hown, hts⟩ (t_cover2 l hst dC dI h a cI N f k y h2 hk hbad) (cwV 2 hts gL_cover_X0_cover rfl rfl rfl (by decide +kernel) ⟨Nat.le_of_ble_eq_true rfl, Nat.le_of_ble_eq_true rfl⟩) (cb_preT hJ (hK.sub (tys' := [(cI, .int)]) [0] rfl) (hP.sub (ws' := cb_w h a cI (nI N) f) [0, 1] rfl) [.int (nI k), .int y]) rfl rfl hl.1 rfl (lv_room (Nat.le_of_ble_eq_true rfl)) dL_cover_5 ⟨Nat.le_refl _, Nat.le_refl _⟩) hown htab (by decide) (by decide) (hts (.classLink RL 18 "java/lang/IndexOutOfBoundsException") (by decide +kernel)) (xt_ride (State.WarmedH.refl s) (cb_nw_ok (.castable "java/lang/IndexOutOfBoundsException" "java/lang/IndexOutOfBoundsException") (by decide +kernel)) (hJ.2.2 (.castable "java/lang/IndexOutOfBoundsException" "java/lang/IndexOutOfBoundsException") (by decide +kernel))) (fun x9 H1 hz9 hk9 => ?_)
  refine lv_astore (lv' := [(4, .ref x9), (0, .ref h), (1, .int (nI k)), (2, .int y), (3, .ref o)]) hx hb dL_cover_13 hl (by decide) rfl (fun ls hl => ?_)
  refine lv_iconst (v := 1) hx hb dL_cover_15 (by decide) ?_
  exact W.iret (v := 1) hx hb hr (fun t9 ht9 _ => ⟨⟨_, (), rfl, rfl, trivial⟩, by rw [ht9]; exact hz9, fun q9 h9 _ => by rw [ht9]; exact hk9 q9 h9⟩) (fun q9 hq9 => nomatch hq9) dL_cover_16
set_option maxHeartbeats 4000000 in
set_option maxRecDepth 100000 in
/-- clean, which returns -/
theorem w_clean (l : Launch) (dC : Nat → ClassId) (dI : Nat → Nat → Nat) (h a : Nat) (cI : ClassId) (N : Nat) (f : Nat → Int32) (o : Nat) (cJ : ClassId) (g : Nat → Int64) (hne : h ≠ a) (ho : o ≠ h ∧ o ≠ a) (k : Nat) (b : Int32) (h1 : 1 ≤ N) (h2 : N ≤ 16384) (hk : k < (cb_cc N)) : Met l yL_clean wsL_clean ({ frames := 5, cells := 0, slots := 0, locals := 130 }) (cb_Pc (dC, dI) [.ref h, .int (nI k), .int b, .ref o] (wr_w h a cI (nI N) f o cJ g) [(cI, .int), (cJ, .long)]) (va_Qi (fun (r9 : Int32) (_ : Unit) => 0 = r9) (fun _ t9 => va_P (dC, dI) vwCl (wr_w h a cI (nI N) (cb_cl f k b) o cJ (vp_updL g 0 (if (if f k &&& 1 = 0 then (0 : Int32) else 1) = 0 then (0 : Int64) else 1))) t9.heap) (wr_A h a o)) 0 0 (wr_A h a o) := by
  refine va_MetW (cc := cL_clean) (maxL := 5) (ret := (some .int)) (hh := [(0, 17, 20, 18)]) (by decide) rfl ?_
  intro p e s m args below meth c s₁ B hml hv
  obtain ⟨rfl, hP, hK⟩ := hv
  have hx := B.exec
  have hb := B.bytes
  have hr := B.returns
  have hts := atoms_spec (ws := wsL_clean) B.pre
  have hown : s.vm.findClass RL = some m.cls := findClass_of_methodNamed B.named
  have hlocks := B.notSynchronized
  have hl := lv_entry ([.ref h, .int (nI k), .int b, .ref o]) (n := 5) (Nat.le_of_ble_eq_true rfl)
  rw [lg_entry_eq]
  generalize (lg_sl ([.ref h, .int (nI k), .int b, .ref o]) ++ List.replicate (5 - (lg_sl ([.ref h, .int (nI k), .int b, .ref o])).length) Slot.unset).toArray = ls at hl ⊢
  have hl : lv_has ls 5 [(0, .ref h), (1, .int (nI k)), (2, .int b), (3, .ref o)] := hl
  have hS : va_S (wr_A h a o) s.heap s.heap [] := va_S.rf
  refine lv_aload_n hx hb dL_clean_0 rfl (lv_at hl 3 rfl) ?_
  refine lv_iconst (v := 0) hx hb dL_clean_1 (by decide) ?_
  refine lv_aload_n hx hb dL_clean_2 rfl (lv_at hl 0 rfl) ?_
  refine lv_iload_n hx hb dL_clean_3 rfl (lv_at hl 1 rfl) ?_
  refine lv_iload_n hx hb dL_clean_4 rfl (lv_at hl 2 rfl) ?_
  refine va_calli (va_runV (As := [.int (nI k), .int b]) (rest := [.int 0, .ref o]) ⟨hx, hb, hml, hown, hts⟩ (c_clean l dC dI h a cI N f k b h1 h2 hk hne) (cwV 2 hts gL_clean_X0_clean rfl rfl rfl (by decide +kernel) ⟨Nat.le_of_ble_eq_true rfl, Nat.le_of_ble_eq_true rfl⟩) (cb_preV (hK.sub (tys' := [(cI, .int)]) [0] rfl) (hP.sub (ws' := cb_w h a cI (nI N) f) [0, 1] rfl) [.int (nI k), .int b]) rfl rfl hl.1 rfl (lv_room (Nat.le_of_ble_eq_true rfl)) dL_clean_5 ⟨Nat.zero_le _, Nat.zero_le _⟩) hS (fun q _ h9 => Or.inl h9) (fun q h9 => Or.inl h9) (fun r9 u9 t9 H locs ht9 hvm9 hw9 hP9 hz9 hk9 hS => ?_)
  rw [ht9] at hP9
  subst hw9
  have hPo := cl_kept (hP.sub (ws' := ou_w o cJ g) [2] rfl) hk9 (fun x hx9 => by rw [List.mem_singleton] at hx9; subst hx9; intro h9; rcases h9 with h9 | h9; exact ho.1 h9; exact ho.2 h9)
  have hP : va_P (dC, dI) vwCl (wr_w h a cI (nI N) (cb_cl f k b) o cJ g) H := va_P.app hP9 hPo
  have hD := wr_D (cI := cI) (cJ := cJ) (n := (nI N)) (f := (cb_cl f k b)) (g := g) hne ho
  refine lv_if_eq (tgt := 15) hx hb dL_clean_8 (by decide) (fun hc => ?_) (fun hc => ?_)
  · refine lv_lconst (v := 0) hx hb dL_clean_15 (by decide) ?_
    refine va_last (D := (dC, dI)) hx hb hK hP hD hS 2 1 rfl rfl (by unfold vp_in; decide) dL_clean_16 (fun H locs hP _ hS => ?_)
    have hP : va_P (dC, dI) vwCl (wr_w h a cI (nI N) (cb_cl f k b) o cJ (vp_updL g 0 0)) H := hP
    refine lv_goto (tgt := 24) hx hb dL_clean_17 (by decide) ?_
    refine lv_iconst (v := 0) hx hb dL_clean_24 (by decide) ?_
    have hP : va_P (dC, dI) vwCl (wr_w h a cI (nI N) (cb_cl f k b) o cJ (vp_updL g 0 (if (if f k &&& 1 = 0 then (0 : Int32) else 1) = 0 then (0 : Int64) else 1))) H := by rw [if_pos hc]; exact hP
    exact W.iret (v := 0) hx hb hr (fun t9 ht9 _ => ⟨⟨_, (), rfl, rfl, cl_at ht9 hP⟩, hS.F ht9⟩) hS.2.2 dL_clean_25
  · refine lv_lconst (v := 1) hx hb dL_clean_11 (by decide) ?_
    refine lv_goto (tgt := 16) hx hb dL_clean_12 (by decide) ?_
    refine va_last (D := (dC, dI)) hx hb hK hP hD hS 2 1 rfl rfl (by unfold vp_in; decide) dL_clean_16 (fun H locs hP _ hS => ?_)
    have hP : va_P (dC, dI) vwCl (wr_w h a cI (nI N) (cb_cl f k b) o cJ (vp_updL g 0 1)) H := hP
    refine lv_goto (tgt := 24) hx hb dL_clean_17 (by decide) ?_
    refine lv_iconst (v := 0) hx hb dL_clean_24 (by decide) ?_
    have hP : va_P (dC, dI) vwCl (wr_w h a cI (nI N) (cb_cl f k b) o cJ (vp_updL g 0 (if (if f k &&& 1 = 0 then (0 : Int32) else 1) = 0 then (0 : Int64) else 1))) H := by rw [if_neg hc]; exact hP
    exact W.iret (v := 0) hx hb hr (fun t9 ht9 _ => ⟨⟨_, (), rfl, rfl, cl_at ht9 hP⟩, hS.F ht9⟩) hS.2.2 dL_clean_25
set_option maxHeartbeats 4000000 in
set_option maxRecDepth 100000 in
/-- clean, which catches -/
theorem v_clean (l : Launch) (hst : l.stackTraces = false) (dC : Nat → ClassId) (dI : Nat → Nat → Nat) (h a : Nat) (cI : ClassId) (N : Nat) (f : Nat → Int32) (o : Nat) (cJ : ClassId) (g : Nat → Int64) (x b : Int32) (h1 : 1 ≤ N) (h2 : N ≤ 16384) (hbad : x < 0 ∨ ¬ x < nI (cb_cc N)) : Met l yL_clean wsL_clean ({ frames := 8, cells := 1, slots := 6, locals := 180 }) (cb_Pt (dC, dI) [.ref h, .int x, .int b, .ref o] (wr_w h a cI (nI N) f o cJ g) [(cI, .int), (cJ, .long)]) (va_Qi (fun (r9 : Int32) (_ : Unit) => 1 = r9) (fun _ _ => True) (fun _ => False)) 1 6 (fun _ => False) := by
  refine va_MetW (cc := cL_clean) (maxL := 5) (ret := (some .int)) (hh := [(0, 17, 20, 18)]) (by decide) rfl ?_
  intro p e s m args below meth c s₁ B hml hv
  obtain ⟨rfl, hP, hK, hJ⟩ := hv
  have hx := B.exec
  have hb := B.bytes
  have hr := B.returns
  have hts := atoms_spec (ws := wsL_clean) B.pre
  have hown : s.vm.findClass RL = some m.cls := findClass_of_methodNamed B.named
  have hlocks := B.notSynchronized
  have hl := lv_entry ([.ref h, .int x, .int b, .ref o]) (n := 5) (Nat.le_of_ble_eq_true rfl)
  rw [lg_entry_eq]
  generalize (lg_sl ([.ref h, .int x, .int b, .ref o]) ++ List.replicate (5 - (lg_sl ([.ref h, .int x, .int b, .ref o])).length) Slot.unset).toArray = ls at hl ⊢
  have hl : lv_has ls 5 [(0, .ref h), (1, .int x), (2, .int b), (3, .ref o)] := hl
  refine lv_aload_n hx hb dL_clean_0 rfl (lv_at hl 3 rfl) ?_
  refine lv_iconst (v := 0) hx hb dL_clean_1 (by decide) ?_
  refine lv_aload_n hx hb dL_clean_2 rfl (lv_at hl 0 rfl) ?_
  refine lv_iload_n hx hb dL_clean_3 rfl (lv_at hl 1 rfl) ?_
  refine lv_iload_n hx hb dL_clean_4 rfl (lv_at hl 2 rfl) ?_
  have htab := xt_table (x := yL_clean) B (hts (.codeWith yL_clean cL_clean 5 (some .int) [(0, 17, 20, 18)]) List.mem_cons_self)
  refine xt_catch (own := RL) (E := "java/lang/IndexOutOfBoundsException") (xt_runV (As := [.int x, .int b]) (rest := [.int 0, .ref o]) ⟨hx, hb, hml, hown, hts⟩ (t_clean l hst dC dI h a cI N f x b h1 h2 hbad) (cwV 2 hts gL_clean_X0_clean rfl rfl rfl (by decide +kernel) ⟨Nat.le_of_ble_eq_true rfl, Nat.le_of_ble_eq_true rfl⟩) (cb_preT hJ (hK.sub (tys' := [(cI, .int)]) [0] rfl) (hP.sub (ws' := cb_w h a cI (nI N) f) [0, 1] rfl) [.int x, .int b]) rfl rfl hl.1 rfl (lv_room (Nat.le_of_ble_eq_true rfl)) dL_clean_5 ⟨Nat.le_refl _, Nat.le_refl _⟩) hown htab (by decide) (by decide) (hts (.classLink RL 18 "java/lang/IndexOutOfBoundsException") (by decide +kernel)) (xt_ride (State.WarmedH.refl s) (cb_nw_ok (.castable "java/lang/IndexOutOfBoundsException" "java/lang/IndexOutOfBoundsException") (by decide +kernel)) (hJ.2.2 (.castable "java/lang/IndexOutOfBoundsException" "java/lang/IndexOutOfBoundsException") (by decide +kernel))) (fun x9 H1 hz9 hk9 => ?_)
  refine lv_astore (lv' := [(4, .ref x9), (0, .ref h), (1, .int x), (2, .int b), (3, .ref o)]) hx hb dL_clean_20 hl (by decide) rfl (fun ls hl => ?_)
  refine lv_iconst (v := 1) hx hb dL_clean_22 (by decide) ?_
  exact W.iret (v := 1) hx hb hr (fun t9 ht9 _ => ⟨⟨_, (), rfl, rfl, trivial⟩, by rw [ht9]; exact hz9, fun q9 h9 _ => by rw [ht9]; exact hk9 q9 h9⟩) (fun q9 hq9 => nomatch hq9) dL_clean_23
set_option maxHeartbeats 4000000 in
set_option maxRecDepth 100000 in
/-- unsave, which returns -/
theorem w_unsave (l : Launch) (dC : Nat → ClassId) (dI : Nat → Nat → Nat) (h a : Nat) (cI : ClassId) (N : Nat) (f : Nat → Int32) (o : Nat) (cJ : ClassId) (g : Nat → Int64) (hne : h ≠ a) (ho : o ≠ h ∧ o ≠ a) (k : Nat) (h1 : 1 ≤ N) (h2 : N ≤ 16384) (hk : k < (cb_cc N)) : Met l yL_unsave wsL_unsave ({ frames := 5, cells := 0, slots := 0, locals := 130 }) (cb_Pc (dC, dI) [.ref h, .int (nI k), .ref o] (wr_w h a cI (nI N) f o cJ g) [(cI, .int), (cJ, .long)]) (va_Qi (fun (r9 : Int32) (_ : Unit) => 0 = r9) (fun _ t9 => va_P (dC, dI) vwCl (wr_w h a cI (nI N) (upd f k (f k &&& (2 ^^^ (-1)))) o cJ (vp_updL g 0 (if (if f k &&& 2 = 0 then (0 : Int32) else 1) = 0 then (0 : Int64) else 1))) t9.heap) (wr_A h a o)) 0 0 (wr_A h a o) := by
  refine va_MetW (cc := cL_unsave) (maxL := 4) (ret := (some .int)) (hh := [(0, 16, 19, 18)]) (by decide) rfl ?_
  intro p e s m args below meth c s₁ B hml hv
  obtain ⟨rfl, hP, hK⟩ := hv
  have hx := B.exec
  have hb := B.bytes
  have hr := B.returns
  have hts := atoms_spec (ws := wsL_unsave) B.pre
  have hown : s.vm.findClass RL = some m.cls := findClass_of_methodNamed B.named
  have hlocks := B.notSynchronized
  have hl := lv_entry ([.ref h, .int (nI k), .ref o]) (n := 4) (Nat.le_of_ble_eq_true rfl)
  rw [lg_entry_eq]
  generalize (lg_sl ([.ref h, .int (nI k), .ref o]) ++ List.replicate (4 - (lg_sl ([.ref h, .int (nI k), .ref o])).length) Slot.unset).toArray = ls at hl ⊢
  have hl : lv_has ls 4 [(0, .ref h), (1, .int (nI k)), (2, .ref o)] := hl
  have hS : va_S (wr_A h a o) s.heap s.heap [] := va_S.rf
  refine lv_aload_n hx hb dL_unsave_0 rfl (lv_at hl 2 rfl) ?_
  refine lv_iconst (v := 0) hx hb dL_unsave_1 (by decide) ?_
  refine lv_aload_n hx hb dL_unsave_2 rfl (lv_at hl 0 rfl) ?_
  refine lv_iload_n hx hb dL_unsave_3 rfl (lv_at hl 1 rfl) ?_
  refine va_calli (va_runV (As := [.int (nI k)]) (rest := [.int 0, .ref o]) ⟨hx, hb, hml, hown, hts⟩ (c_unsave l dC dI h a cI N f k h1 h2 hk hne) (cwV 1 hts gL_unsave_X0_unsave rfl rfl rfl (by decide +kernel) ⟨Nat.le_of_ble_eq_true rfl, Nat.le_of_ble_eq_true rfl⟩) (cb_preV (hK.sub (tys' := [(cI, .int)]) [0] rfl) (hP.sub (ws' := cb_w h a cI (nI N) f) [0, 1] rfl) [.int (nI k)]) rfl rfl hl.1 rfl (lv_room (Nat.le_of_ble_eq_true rfl)) dL_unsave_4 ⟨Nat.zero_le _, Nat.zero_le _⟩) hS (fun q _ h9 => Or.inl h9) (fun q h9 => Or.inl h9) (fun r9 u9 t9 H locs ht9 hvm9 hw9 hP9 hz9 hk9 hS => ?_)
  rw [ht9] at hP9
  subst hw9
  have hPo := cl_kept (hP.sub (ws' := ou_w o cJ g) [2] rfl) hk9 (fun x hx9 => by rw [List.mem_singleton] at hx9; subst hx9; intro h9; rcases h9 with h9 | h9; exact ho.1 h9; exact ho.2 h9)
  have hP : va_P (dC, dI) vwCl (wr_w h a cI (nI N) (upd f k (f k &&& (2 ^^^ (-1)))) o cJ g) H := va_P.app hP9 hPo
  have hD := wr_D (cI := cI) (cJ := cJ) (n := (nI N)) (f := (upd f k (f k &&& (2 ^^^ (-1))))) (g := g) hne ho
  refine lv_if_eq (tgt := 14) hx hb dL_unsave_7 (by decide) (fun hc => ?_) (fun hc => ?_)
  · refine lv_lconst (v := 0) hx hb dL_unsave_14 (by decide) ?_
    refine va_last (D := (dC, dI)) hx hb hK hP hD hS 2 1 rfl rfl (by unfold vp_in; decide) dL_unsave_15 (fun H locs hP _ hS => ?_)
    have hP : va_P (dC, dI) vwCl (wr_w h a cI (nI N) (upd f k (f k &&& (2 ^^^ (-1)))) o cJ (vp_updL g 0 0)) H := hP
    refine lv_goto (tgt := 22) hx hb dL_unsave_16 (by decide) ?_
    refine lv_iconst (v := 0) hx hb dL_unsave_22 (by decide) ?_
    have hP : va_P (dC, dI) vwCl (wr_w h a cI (nI N) (upd f k (f k &&& (2 ^^^ (-1)))) o cJ (vp_updL g 0 (if (if f k &&& 2 = 0 then (0 : Int32) else 1) = 0 then (0 : Int64) else 1))) H := by rw [if_pos hc]; exact hP
    exact W.iret (v := 0) hx hb hr (fun t9 ht9 _ => ⟨⟨_, (), rfl, rfl, cl_at ht9 hP⟩, hS.F ht9⟩) hS.2.2 dL_unsave_23
  · refine lv_lconst (v := 1) hx hb dL_unsave_10 (by decide) ?_
    refine lv_goto (tgt := 15) hx hb dL_unsave_11 (by decide) ?_
    refine va_last (D := (dC, dI)) hx hb hK hP hD hS 2 1 rfl rfl (by unfold vp_in; decide) dL_unsave_15 (fun H locs hP _ hS => ?_)
    have hP : va_P (dC, dI) vwCl (wr_w h a cI (nI N) (upd f k (f k &&& (2 ^^^ (-1)))) o cJ (vp_updL g 0 1)) H := hP
    refine lv_goto (tgt := 22) hx hb dL_unsave_16 (by decide) ?_
    refine lv_iconst (v := 0) hx hb dL_unsave_22 (by decide) ?_
    have hP : va_P (dC, dI) vwCl (wr_w h a cI (nI N) (upd f k (f k &&& (2 ^^^ (-1)))) o cJ (vp_updL g 0 (if (if f k &&& 2 = 0 then (0 : Int32) else 1) = 0 then (0 : Int64) else 1))) H := by rw [if_neg hc]; exact hP
    exact W.iret (v := 0) hx hb hr (fun t9 ht9 _ => ⟨⟨_, (), rfl, rfl, cl_at ht9 hP⟩, hS.F ht9⟩) hS.2.2 dL_unsave_23
set_option maxHeartbeats 4000000 in
set_option maxRecDepth 100000 in
/-- unsave, which catches -/
theorem v_unsave (l : Launch) (hst : l.stackTraces = false) (dC : Nat → ClassId) (dI : Nat → Nat → Nat) (h a : Nat) (cI : ClassId) (N : Nat) (f : Nat → Int32) (o : Nat) (cJ : ClassId) (g : Nat → Int64) (x : Int32) (h1 : 1 ≤ N) (h2 : N ≤ 16384) (hbad : x < 0 ∨ ¬ x < nI (cb_cc N)) : Met l yL_unsave wsL_unsave ({ frames := 8, cells := 1, slots := 6, locals := 180 }) (cb_Pt (dC, dI) [.ref h, .int x, .ref o] (wr_w h a cI (nI N) f o cJ g) [(cI, .int), (cJ, .long)]) (va_Qi (fun (r9 : Int32) (_ : Unit) => 1 = r9) (fun _ _ => True) (fun _ => False)) 1 6 (fun _ => False) := by
  refine va_MetW (cc := cL_unsave) (maxL := 4) (ret := (some .int)) (hh := [(0, 16, 19, 18)]) (by decide) rfl ?_
  intro p e s m args below meth c s₁ B hml hv
  obtain ⟨rfl, hP, hK, hJ⟩ := hv
  have hx := B.exec
  have hb := B.bytes
  have hr := B.returns
  have hts := atoms_spec (ws := wsL_unsave) B.pre
  have hown : s.vm.findClass RL = some m.cls := findClass_of_methodNamed B.named
  have hlocks := B.notSynchronized
  have hl := lv_entry ([.ref h, .int x, .ref o]) (n := 4) (Nat.le_of_ble_eq_true rfl)
  rw [lg_entry_eq]
  generalize (lg_sl ([.ref h, .int x, .ref o]) ++ List.replicate (4 - (lg_sl ([.ref h, .int x, .ref o])).length) Slot.unset).toArray = ls at hl ⊢
  have hl : lv_has ls 4 [(0, .ref h), (1, .int x), (2, .ref o)] := hl
  refine lv_aload_n hx hb dL_unsave_0 rfl (lv_at hl 2 rfl) ?_
  refine lv_iconst (v := 0) hx hb dL_unsave_1 (by decide) ?_
  refine lv_aload_n hx hb dL_unsave_2 rfl (lv_at hl 0 rfl) ?_
  refine lv_iload_n hx hb dL_unsave_3 rfl (lv_at hl 1 rfl) ?_
  have htab := xt_table (x := yL_unsave) B (hts (.codeWith yL_unsave cL_unsave 4 (some .int) [(0, 16, 19, 18)]) List.mem_cons_self)
  refine xt_catch (own := RL) (E := "java/lang/IndexOutOfBoundsException") (xt_runV (As := [.int x]) (rest := [.int 0, .ref o]) ⟨hx, hb, hml, hown, hts⟩ (t_unsave l hst dC dI h a cI N f x h1 h2 hbad) (cwV 1 hts gL_unsave_X0_unsave rfl rfl rfl (by decide +kernel) ⟨Nat.le_of_ble_eq_true rfl, Nat.le_of_ble_eq_true rfl⟩) (cb_preT hJ (hK.sub (tys' := [(cI, .int)]) [0] rfl) (hP.sub (ws' := cb_w h a cI (nI N) f) [0, 1] rfl) [.int x]) rfl rfl hl.1 rfl (lv_room (Nat.le_of_ble_eq_true rfl)) dL_unsave_4 ⟨Nat.le_refl _, Nat.le_refl _⟩) hown htab (by decide) (by decide) (hts (.classLink RL 18 "java/lang/IndexOutOfBoundsException") (by decide +kernel)) (xt_ride (State.WarmedH.refl s) (cb_nw_ok (.castable "java/lang/IndexOutOfBoundsException" "java/lang/IndexOutOfBoundsException") (by decide +kernel)) (hJ.2.2 (.castable "java/lang/IndexOutOfBoundsException" "java/lang/IndexOutOfBoundsException") (by decide +kernel))) (fun x9 H1 hz9 hk9 => ?_)
  refine lv_astore_n (lv' := [(3, .ref x9), (0, .ref h), (1, .int x), (2, .ref o)]) hx hb dL_unsave_19 rfl hl (by decide) rfl (fun ls hl => ?_)
  refine lv_iconst (v := 1) hx hb dL_unsave_20 (by decide) ?_
  exact W.iret (v := 1) hx hb hr (fun t9 ht9 _ => ⟨⟨_, (), rfl, rfl, trivial⟩, by rw [ht9]; exact hz9, fun q9 h9 _ => by rw [ht9]; exact hk9 q9 h9⟩) (fun q9 hq9 => nomatch hq9) dL_unsave_21
set_option maxHeartbeats 4000000 in
set_option maxRecDepth 100000 in
/-- card, which returns -/
theorem w_card (l : Launch) (dC : Nat → ClassId) (dI : Nat → Nat → Nat) (h a : Nat) (cI : ClassId) (N : Nat) (f : Nat → Int32) (o : Nat) (cJ : ClassId) (g : Nat → Int64) (hne : h ≠ a) (ho : o ≠ h ∧ o ≠ a) (k : Nat) (h1 : 1 ≤ N) (h2 : N ≤ 16384) (hk : k < (cb_cc N)) : Met l yL_card wsL_card ({ frames := 5, cells := 0, slots := 0, locals := 130 }) (cb_Pc (dC, dI) [.ref h, .int (nI k), .ref o] (wr_w h a cI (nI N) f o cJ g) [(cI, .int), (cJ, .long)]) (va_Qi (fun (r9 : Int32) (_ : Unit) => 0 = r9) (fun _ t9 => va_P (dC, dI) vwCl (wr_w h a cI (nI N) f o cJ (vp_updL g 0 (Int32.toInt64 (f k)))) t9.heap) (wr_A h a o)) 0 0 (wr_A h a o) := by
  refine va_MetW (cc := cL_card) (maxL := 4) (ret := (some .int)) (hh := [(0, 9, 12, 18)]) (by decide) rfl ?_
  intro p e s m args below meth c s₁ B hml hv
  obtain ⟨rfl, hP, hK⟩ := hv
  have hx := B.exec
  have hb := B.bytes
  have hr := B.returns
  have hts := atoms_spec (ws := wsL_card) B.pre
  have hown : s.vm.findClass RL = some m.cls := findClass_of_methodNamed B.named
  have hlocks := B.notSynchronized
  have hl := lv_entry ([.ref h, .int (nI k), .ref o]) (n := 4) (Nat.le_of_ble_eq_true rfl)
  rw [lg_entry_eq]
  generalize (lg_sl ([.ref h, .int (nI k), .ref o]) ++ List.replicate (4 - (lg_sl ([.ref h, .int (nI k), .ref o])).length) Slot.unset).toArray = ls at hl ⊢
  have hl : lv_has ls 4 [(0, .ref h), (1, .int (nI k)), (2, .ref o)] := hl
  have hS : va_S (wr_A h a o) s.heap s.heap [] := va_S.rf
  refine lv_aload_n hx hb dL_card_0 rfl (lv_at hl 2 rfl) ?_
  refine lv_iconst (v := 0) hx hb dL_card_1 (by decide) ?_
  refine lv_aload_n hx hb dL_card_2 rfl (lv_at hl 0 rfl) ?_
  refine lv_iload_n hx hb dL_card_3 rfl (lv_at hl 1 rfl) ?_
  refine cl_calli (W.runV (As := [.int (nI k)]) (rest := [.int 0, .ref o]) ⟨hx, hb, hml, hown, hts⟩ (c_card l dC dI h a cI N f k h1 h2 hk) (cwV 1 hts gL_card_X0_card rfl rfl rfl (by decide +kernel) ⟨Nat.le_of_ble_eq_true rfl, Nat.le_of_ble_eq_true rfl⟩) (cb_preV (hK.sub (tys' := [(cI, .int)]) [0] rfl) (hP.sub (ws' := cb_w h a cI (nI N) f) [0, 1] rfl) [.int (nI k)]) rfl rfl hl.1 rfl (lv_room (Nat.le_of_ble_eq_true rfl)) dL_card_4 ⟨Nat.zero_le _, Nat.zero_le _⟩) ?_
  have hD := wr_D (cI := cI) (cJ := cJ) (n := (nI N)) (f := f) (g := g) hne ho
  refine lv_i2l (v := Int32.toInt64 (f k)) hx hb dL_card_7 rfl ?_
  refine va_last (D := (dC, dI)) hx hb hK hP hD hS 2 1 rfl rfl (by unfold vp_in; decide) dL_card_8 (fun H locs hP _ hS => ?_)
  have hP : va_P (dC, dI) vwCl (wr_w h a cI (nI N) f o cJ (vp_updL g 0 (Int32.toInt64 (f k)))) H := hP
  refine lv_goto (tgt := 15) hx hb dL_card_9 (by decide) ?_
  refine lv_iconst (v := 0) hx hb dL_card_15 (by decide) ?_
  exact W.iret (v := 0) hx hb hr (fun t9 ht9 _ => ⟨⟨_, (), rfl, rfl, cl_at ht9 hP⟩, hS.F ht9⟩) hS.2.2 dL_card_16
set_option maxHeartbeats 4000000 in
set_option maxRecDepth 100000 in
/-- card, which catches -/
theorem v_card (l : Launch) (hst : l.stackTraces = false) (dC : Nat → ClassId) (dI : Nat → Nat → Nat) (h a : Nat) (cI : ClassId) (N : Nat) (f : Nat → Int32) (o : Nat) (cJ : ClassId) (g : Nat → Int64) (x : Int32) (h1 : 1 ≤ N) (h2 : N ≤ 16384) (hbad : x < 0 ∨ ¬ x < nI (cb_cc N)) : Met l yL_card wsL_card ({ frames := 8, cells := 1, slots := 6, locals := 180 }) (cb_Pt (dC, dI) [.ref h, .int x, .ref o] (wr_w h a cI (nI N) f o cJ g) [(cI, .int), (cJ, .long)]) (va_Qi (fun (r9 : Int32) (_ : Unit) => 1 = r9) (fun _ _ => True) (fun _ => False)) 1 6 (fun _ => False) := by
  refine va_MetW (cc := cL_card) (maxL := 4) (ret := (some .int)) (hh := [(0, 9, 12, 18)]) (by decide) rfl ?_
  intro p e s m args below meth c s₁ B hml hv
  obtain ⟨rfl, hP, hK, hJ⟩ := hv
  have hx := B.exec
  have hb := B.bytes
  have hr := B.returns
  have hts := atoms_spec (ws := wsL_card) B.pre
  have hown : s.vm.findClass RL = some m.cls := findClass_of_methodNamed B.named
  have hlocks := B.notSynchronized
  have hl := lv_entry ([.ref h, .int x, .ref o]) (n := 4) (Nat.le_of_ble_eq_true rfl)
  rw [lg_entry_eq]
  generalize (lg_sl ([.ref h, .int x, .ref o]) ++ List.replicate (4 - (lg_sl ([.ref h, .int x, .ref o])).length) Slot.unset).toArray = ls at hl ⊢
  have hl : lv_has ls 4 [(0, .ref h), (1, .int x), (2, .ref o)] := hl
  refine lv_aload_n hx hb dL_card_0 rfl (lv_at hl 2 rfl) ?_
  refine lv_iconst (v := 0) hx hb dL_card_1 (by decide) ?_
  refine lv_aload_n hx hb dL_card_2 rfl (lv_at hl 0 rfl) ?_
  refine lv_iload_n hx hb dL_card_3 rfl (lv_at hl 1 rfl) ?_
  have htab := xt_table (x := yL_card) B (hts (.codeWith yL_card cL_card 4 (some .int) [(0, 9, 12, 18)]) List.mem_cons_self)
  refine xt_catch (own := RL) (E := "java/lang/IndexOutOfBoundsException") (xt_runV (As := [.int x]) (rest := [.int 0, .ref o]) ⟨hx, hb, hml, hown, hts⟩ (t_card l hst dC dI h a cI N f x h1 h2 hbad) (cwV 1 hts gL_card_X0_card rfl rfl rfl (by decide +kernel) ⟨Nat.le_of_ble_eq_true rfl, Nat.le_of_ble_eq_true rfl⟩) (cb_preT hJ (hK.sub (tys' := [(cI, .int)]) [0] rfl) (hP.sub (ws' := cb_w h a cI (nI N) f) [0, 1] rfl) [.int x]) rfl rfl hl.1 rfl (lv_room (Nat.le_of_ble_eq_true rfl)) dL_card_4 ⟨Nat.le_refl _, Nat.le_refl _⟩) hown htab (by decide) (by decide) (hts (.classLink RL 18 "java/lang/IndexOutOfBoundsException") (by decide +kernel)) (xt_ride (State.WarmedH.refl s) (cb_nw_ok (.castable "java/lang/IndexOutOfBoundsException" "java/lang/IndexOutOfBoundsException") (by decide +kernel)) (hJ.2.2 (.castable "java/lang/IndexOutOfBoundsException" "java/lang/IndexOutOfBoundsException") (by decide +kernel))) (fun x9 H1 hz9 hk9 => ?_)
  refine lv_astore_n (lv' := [(3, .ref x9), (0, .ref h), (1, .int x), (2, .ref o)]) hx hb dL_card_12 rfl hl (by decide) rfl (fun ls hl => ?_)
  refine lv_iconst (v := 1) hx hb dL_card_13 (by decide) ?_
  exact W.iret (v := 1) hx hb hr (fun t9 ht9 _ => ⟨⟨_, (), rfl, rfl, trivial⟩, by rw [ht9]; exact hz9, fun q9 h9 _ => by rw [ht9]; exact hk9 q9 h9⟩) (fun q9 hq9 => nomatch hq9) dL_card_14
set_option maxHeartbeats 4000000 in
set_option maxRecDepth 100000 in
/-- nextDirty, which returns -/
theorem w_nextDirty (l : Launch) (dC : Nat → ClassId) (dI : Nat → Nat → Nat) (h a : Nat) (cI : ClassId) (N : Nat) (f : Nat → Int32) (o : Nat) (cJ : ClassId) (g : Nat → Int64) (hne : h ≠ a) (ho : o ≠ h ∧ o ≠ a) (j : Nat) (h1 : 1 ≤ N) (h2 : N ≤ 16384) (hj : j < 2 ^ 31) : Met l yL_nextDirty wsL_nextDirty ({ frames := 5, cells := 0, slots := 0, locals := 130 }) (cb_Pc (dC, dI) [.ref h, .int (nI j), .ref o] (wr_w h a cI (nI N) f o cJ g) [(cI, .int), (cJ, .long)]) (va_Qi (fun (r9 : Int32) (_ : Unit) => 0 = r9) (fun _ t9 => va_P (dC, dI) vwCl (wr_w h a cI (nI N) f o cJ (vp_updL g 0 (Int32.toInt64 (cb_fw f 1 j (cb_cc N))))) t9.heap) (wr_A h a o)) 0 0 (wr_A h a o) := by
  refine va_MetW (cc := cL_nextDirty) (maxL := 4) (ret := (some .int)) (hh := [(0, 9, 12, 13)]) (by decide) rfl ?_
  intro p e s m args below meth c s₁ B hml hv
  obtain ⟨rfl, hP, hK⟩ := hv
  have hx := B.exec
  have hb := B.bytes
  have hr := B.returns
  have hts := atoms_spec (ws := wsL_nextDirty) B.pre
  have hown : s.vm.findClass RL = some m.cls := findClass_of_methodNamed B.named
  have hlocks := B.notSynchronized
  have hl := lv_entry ([.ref h, .int (nI j), .ref o]) (n := 4) (Nat.le_of_ble_eq_true rfl)
  rw [lg_entry_eq]
  generalize (lg_sl ([.ref h, .int (nI j), .ref o]) ++ List.replicate (4 - (lg_sl ([.ref h, .int (nI j), .ref o])).length) Slot.unset).toArray = ls at hl ⊢
  have hl : lv_has ls 4 [(0, .ref h), (1, .int (nI j)), (2, .ref o)] := hl
  have hS : va_S (wr_A h a o) s.heap s.heap [] := va_S.rf
  refine lv_aload_n hx hb dL_nextDirty_0 rfl (lv_at hl 2 rfl) ?_
  refine lv_iconst (v := 0) hx hb dL_nextDirty_1 (by decide) ?_
  refine lv_aload_n hx hb dL_nextDirty_2 rfl (lv_at hl 0 rfl) ?_
  refine lv_iload_n hx hb dL_nextDirty_3 rfl (lv_at hl 1 rfl) ?_
  refine cl_calli (W.runV (As := [.int (nI j)]) (rest := [.int 0, .ref o]) ⟨hx, hb, hml, hown, hts⟩ (c_nextDirty l dC dI h a cI N f j h1 h2 hj) (cwV 1 hts gL_nextDirty_X0_nextDirty rfl rfl rfl (by decide +kernel) ⟨Nat.le_of_ble_eq_true rfl, Nat.le_of_ble_eq_true rfl⟩) (cb_preV (hK.sub (tys' := [(cI, .int)]) [0] rfl) (hP.sub (ws' := cb_w h a cI (nI N) f) [0, 1] rfl) [.int (nI j)]) rfl rfl hl.1 rfl (lv_room (Nat.le_of_ble_eq_true rfl)) dL_nextDirty_4 ⟨Nat.zero_le _, Nat.zero_le _⟩) ?_
  have hD := wr_D (cI := cI) (cJ := cJ) (n := (nI N)) (f := f) (g := g) hne ho
  refine lv_i2l (v := Int32.toInt64 (cb_fw f 1 j (cb_cc N))) hx hb dL_nextDirty_7 rfl ?_
  refine va_last (D := (dC, dI)) hx hb hK hP hD hS 2 1 rfl rfl (by unfold vp_in; decide) dL_nextDirty_8 (fun H locs hP _ hS => ?_)
  have hP : va_P (dC, dI) vwCl (wr_w h a cI (nI N) f o cJ (vp_updL g 0 (Int32.toInt64 (cb_fw f 1 j (cb_cc N))))) H := hP
  refine lv_goto (tgt := 15) hx hb dL_nextDirty_9 (by decide) ?_
  refine lv_iconst (v := 0) hx hb dL_nextDirty_15 (by decide) ?_
  exact W.iret (v := 0) hx hb hr (fun t9 ht9 _ => ⟨⟨_, (), rfl, rfl, cl_at ht9 hP⟩, hS.F ht9⟩) hS.2.2 dL_nextDirty_16
set_option maxHeartbeats 4000000 in
set_option maxRecDepth 100000 in
/-- nextDirty, which catches -/
theorem v_nextDirty (l : Launch) (hst : l.stackTraces = false) (dC : Nat → ClassId) (dI : Nat → Nat → Nat) (h a : Nat) (cI : ClassId) (N : Nat) (f : Nat → Int32) (o : Nat) (cJ : ClassId) (g : Nat → Int64) (x : Int32) (hbad : x < 0) : Met l yL_nextDirty wsL_nextDirty ({ frames := 8, cells := 1, slots := 6, locals := 180 }) (cb_Pt (dC, dI) [.ref h, .int x, .ref o] (wr_w h a cI (nI N) f o cJ g) [(cI, .int), (cJ, .long)]) (va_Qi (fun (r9 : Int32) (_ : Unit) => 1 = r9) (fun _ _ => True) (fun _ => False)) 1 6 (fun _ => False) := by
  refine va_MetW (cc := cL_nextDirty) (maxL := 4) (ret := (some .int)) (hh := [(0, 9, 12, 13)]) (by decide) rfl ?_
  intro p e s m args below meth c s₁ B hml hv
  obtain ⟨rfl, hP, hK, hJ⟩ := hv
  have hx := B.exec
  have hb := B.bytes
  have hr := B.returns
  have hts := atoms_spec (ws := wsL_nextDirty) B.pre
  have hown : s.vm.findClass RL = some m.cls := findClass_of_methodNamed B.named
  have hlocks := B.notSynchronized
  have hl := lv_entry ([.ref h, .int x, .ref o]) (n := 4) (Nat.le_of_ble_eq_true rfl)
  rw [lg_entry_eq]
  generalize (lg_sl ([.ref h, .int x, .ref o]) ++ List.replicate (4 - (lg_sl ([.ref h, .int x, .ref o])).length) Slot.unset).toArray = ls at hl ⊢
  have hl : lv_has ls 4 [(0, .ref h), (1, .int x), (2, .ref o)] := hl
  refine lv_aload_n hx hb dL_nextDirty_0 rfl (lv_at hl 2 rfl) ?_
  refine lv_iconst (v := 0) hx hb dL_nextDirty_1 (by decide) ?_
  refine lv_aload_n hx hb dL_nextDirty_2 rfl (lv_at hl 0 rfl) ?_
  refine lv_iload_n hx hb dL_nextDirty_3 rfl (lv_at hl 1 rfl) ?_
  have htab := xt_table (x := yL_nextDirty) B (hts (.codeWith yL_nextDirty cL_nextDirty 4 (some .int) [(0, 9, 12, 13)]) List.mem_cons_self)
  refine xt_catch (own := RL) (E := "java/lang/IllegalArgumentException") (xt_runV (As := [.int x]) (rest := [.int 0, .ref o]) ⟨hx, hb, hml, hown, hts⟩ (t_nextDirty l hst dC dI h a cI N f x hbad) (cwV 1 hts gL_nextDirty_X0_nextDirty rfl rfl rfl (by decide +kernel) ⟨Nat.le_of_ble_eq_true rfl, Nat.le_of_ble_eq_true rfl⟩) (cb_preT hJ (hK.sub (tys' := [(cI, .int)]) [0] rfl) (hP.sub (ws' := cb_w h a cI (nI N) f) [0, 1] rfl) [.int x]) rfl rfl hl.1 rfl (lv_room (Nat.le_of_ble_eq_true rfl)) dL_nextDirty_4 ⟨Nat.le_refl _, Nat.le_refl _⟩) hown htab (by decide) (by decide) (hts (.classLink RL 13 "java/lang/IllegalArgumentException") (by decide +kernel)) (xt_ride (State.WarmedH.refl s) (cb_nw_ok (.castable "java/lang/IllegalArgumentException" "java/lang/IllegalArgumentException") (by decide +kernel)) (hJ.2.2 (.castable "java/lang/IllegalArgumentException" "java/lang/IllegalArgumentException") (by decide +kernel))) (fun x9 H1 hz9 hk9 => ?_)
  refine lv_astore_n (lv' := [(3, .ref x9), (0, .ref h), (1, .int x), (2, .ref o)]) hx hb dL_nextDirty_12 rfl hl (by decide) rfl (fun ls hl => ?_)
  refine lv_iconst (v := 1) hx hb dL_nextDirty_13 (by decide) ?_
  exact W.iret (v := 1) hx hb hr (fun t9 ht9 _ => ⟨⟨_, (), rfl, rfl, trivial⟩, by rw [ht9]; exact hz9, fun q9 h9 _ => by rw [ht9]; exact hk9 q9 h9⟩) (fun q9 hq9 => nomatch hq9) dL_nextDirty_14
set_option maxHeartbeats 4000000 in
set_option maxRecDepth 100000 in
/-- nextSaved, which returns -/
theorem w_nextSaved (l : Launch) (dC : Nat → ClassId) (dI : Nat → Nat → Nat) (h a : Nat) (cI : ClassId) (N : Nat) (f : Nat → Int32) (o : Nat) (cJ : ClassId) (g : Nat → Int64) (hne : h ≠ a) (ho : o ≠ h ∧ o ≠ a) (j : Nat) (h1 : 1 ≤ N) (h2 : N ≤ 16384) (hj : j < 2 ^ 31) : Met l yL_nextSaved wsL_nextSaved ({ frames := 5, cells := 0, slots := 0, locals := 130 }) (cb_Pc (dC, dI) [.ref h, .int (nI j), .ref o] (wr_w h a cI (nI N) f o cJ g) [(cI, .int), (cJ, .long)]) (va_Qi (fun (r9 : Int32) (_ : Unit) => 0 = r9) (fun _ t9 => va_P (dC, dI) vwCl (wr_w h a cI (nI N) f o cJ (vp_updL g 0 (Int32.toInt64 (cb_fw f 2 j (cb_cc N))))) t9.heap) (wr_A h a o)) 0 0 (wr_A h a o) := by
  refine va_MetW (cc := cL_nextSaved) (maxL := 4) (ret := (some .int)) (hh := [(0, 9, 12, 13)]) (by decide) rfl ?_
  intro p e s m args below meth c s₁ B hml hv
  obtain ⟨rfl, hP, hK⟩ := hv
  have hx := B.exec
  have hb := B.bytes
  have hr := B.returns
  have hts := atoms_spec (ws := wsL_nextSaved) B.pre
  have hown : s.vm.findClass RL = some m.cls := findClass_of_methodNamed B.named
  have hlocks := B.notSynchronized
  have hl := lv_entry ([.ref h, .int (nI j), .ref o]) (n := 4) (Nat.le_of_ble_eq_true rfl)
  rw [lg_entry_eq]
  generalize (lg_sl ([.ref h, .int (nI j), .ref o]) ++ List.replicate (4 - (lg_sl ([.ref h, .int (nI j), .ref o])).length) Slot.unset).toArray = ls at hl ⊢
  have hl : lv_has ls 4 [(0, .ref h), (1, .int (nI j)), (2, .ref o)] := hl
  have hS : va_S (wr_A h a o) s.heap s.heap [] := va_S.rf
  refine lv_aload_n hx hb dL_nextSaved_0 rfl (lv_at hl 2 rfl) ?_
  refine lv_iconst (v := 0) hx hb dL_nextSaved_1 (by decide) ?_
  refine lv_aload_n hx hb dL_nextSaved_2 rfl (lv_at hl 0 rfl) ?_
  refine lv_iload_n hx hb dL_nextSaved_3 rfl (lv_at hl 1 rfl) ?_
  refine cl_calli (W.runV (As := [.int (nI j)]) (rest := [.int 0, .ref o]) ⟨hx, hb, hml, hown, hts⟩ (c_nextSaved l dC dI h a cI N f j h1 h2 hj) (cwV 1 hts gL_nextSaved_X0_nextSaved rfl rfl rfl (by decide +kernel) ⟨Nat.le_of_ble_eq_true rfl, Nat.le_of_ble_eq_true rfl⟩) (cb_preV (hK.sub (tys' := [(cI, .int)]) [0] rfl) (hP.sub (ws' := cb_w h a cI (nI N) f) [0, 1] rfl) [.int (nI j)]) rfl rfl hl.1 rfl (lv_room (Nat.le_of_ble_eq_true rfl)) dL_nextSaved_4 ⟨Nat.zero_le _, Nat.zero_le _⟩) ?_
  have hD := wr_D (cI := cI) (cJ := cJ) (n := (nI N)) (f := f) (g := g) hne ho
  refine lv_i2l (v := Int32.toInt64 (cb_fw f 2 j (cb_cc N))) hx hb dL_nextSaved_7 rfl ?_
  refine va_last (D := (dC, dI)) hx hb hK hP hD hS 2 1 rfl rfl (by unfold vp_in; decide) dL_nextSaved_8 (fun H locs hP _ hS => ?_)
  have hP : va_P (dC, dI) vwCl (wr_w h a cI (nI N) f o cJ (vp_updL g 0 (Int32.toInt64 (cb_fw f 2 j (cb_cc N))))) H := hP
  refine lv_goto (tgt := 15) hx hb dL_nextSaved_9 (by decide) ?_
  refine lv_iconst (v := 0) hx hb dL_nextSaved_15 (by decide) ?_
  exact W.iret (v := 0) hx hb hr (fun t9 ht9 _ => ⟨⟨_, (), rfl, rfl, cl_at ht9 hP⟩, hS.F ht9⟩) hS.2.2 dL_nextSaved_16
set_option maxHeartbeats 4000000 in
set_option maxRecDepth 100000 in
/-- nextSaved, which catches -/
theorem v_nextSaved (l : Launch) (hst : l.stackTraces = false) (dC : Nat → ClassId) (dI : Nat → Nat → Nat) (h a : Nat) (cI : ClassId) (N : Nat) (f : Nat → Int32) (o : Nat) (cJ : ClassId) (g : Nat → Int64) (x : Int32) (hbad : x < 0) : Met l yL_nextSaved wsL_nextSaved ({ frames := 8, cells := 1, slots := 6, locals := 180 }) (cb_Pt (dC, dI) [.ref h, .int x, .ref o] (wr_w h a cI (nI N) f o cJ g) [(cI, .int), (cJ, .long)]) (va_Qi (fun (r9 : Int32) (_ : Unit) => 1 = r9) (fun _ _ => True) (fun _ => False)) 1 6 (fun _ => False) := by
  refine va_MetW (cc := cL_nextSaved) (maxL := 4) (ret := (some .int)) (hh := [(0, 9, 12, 13)]) (by decide) rfl ?_
  intro p e s m args below meth c s₁ B hml hv
  obtain ⟨rfl, hP, hK, hJ⟩ := hv
  have hx := B.exec
  have hb := B.bytes
  have hr := B.returns
  have hts := atoms_spec (ws := wsL_nextSaved) B.pre
  have hown : s.vm.findClass RL = some m.cls := findClass_of_methodNamed B.named
  have hlocks := B.notSynchronized
  have hl := lv_entry ([.ref h, .int x, .ref o]) (n := 4) (Nat.le_of_ble_eq_true rfl)
  rw [lg_entry_eq]
  generalize (lg_sl ([.ref h, .int x, .ref o]) ++ List.replicate (4 - (lg_sl ([.ref h, .int x, .ref o])).length) Slot.unset).toArray = ls at hl ⊢
  have hl : lv_has ls 4 [(0, .ref h), (1, .int x), (2, .ref o)] := hl
  refine lv_aload_n hx hb dL_nextSaved_0 rfl (lv_at hl 2 rfl) ?_
  refine lv_iconst (v := 0) hx hb dL_nextSaved_1 (by decide) ?_
  refine lv_aload_n hx hb dL_nextSaved_2 rfl (lv_at hl 0 rfl) ?_
  refine lv_iload_n hx hb dL_nextSaved_3 rfl (lv_at hl 1 rfl) ?_
  have htab := xt_table (x := yL_nextSaved) B (hts (.codeWith yL_nextSaved cL_nextSaved 4 (some .int) [(0, 9, 12, 13)]) List.mem_cons_self)
  refine xt_catch (own := RL) (E := "java/lang/IllegalArgumentException") (xt_runV (As := [.int x]) (rest := [.int 0, .ref o]) ⟨hx, hb, hml, hown, hts⟩ (t_nextSaved l hst dC dI h a cI N f x hbad) (cwV 1 hts gL_nextSaved_X0_nextSaved rfl rfl rfl (by decide +kernel) ⟨Nat.le_of_ble_eq_true rfl, Nat.le_of_ble_eq_true rfl⟩) (cb_preT hJ (hK.sub (tys' := [(cI, .int)]) [0] rfl) (hP.sub (ws' := cb_w h a cI (nI N) f) [0, 1] rfl) [.int x]) rfl rfl hl.1 rfl (lv_room (Nat.le_of_ble_eq_true rfl)) dL_nextSaved_4 ⟨Nat.le_refl _, Nat.le_refl _⟩) hown htab (by decide) (by decide) (hts (.classLink RL 13 "java/lang/IllegalArgumentException") (by decide +kernel)) (xt_ride (State.WarmedH.refl s) (cb_nw_ok (.castable "java/lang/IllegalArgumentException" "java/lang/IllegalArgumentException") (by decide +kernel)) (hJ.2.2 (.castable "java/lang/IllegalArgumentException" "java/lang/IllegalArgumentException") (by decide +kernel))) (fun x9 H1 hz9 hk9 => ?_)
  refine lv_astore_n (lv' := [(3, .ref x9), (0, .ref h), (1, .int x), (2, .ref o)]) hx hb dL_nextSaved_12 rfl hl (by decide) rfl (fun ls hl => ?_)
  refine lv_iconst (v := 1) hx hb dL_nextSaved_13 (by decide) ?_
  exact W.iret (v := 1) hx hb hr (fun t9 ht9 _ => ⟨⟨_, (), rfl, rfl, trivial⟩, by rw [ht9]; exact hz9, fun q9 h9 _ => by rw [ht9]; exact hk9 q9 h9⟩) (fun q9 hq9 => nomatch hq9) dL_nextSaved_14
set_option maxHeartbeats 4000000 in
set_option maxRecDepth 100000 in
/-- count, which returns -/
theorem w_count (l : Launch) (dC : Nat → ClassId) (dI : Nat → Nat → Nat) (h a : Nat) (cI : ClassId) (N : Nat) (f : Nat → Int32) (o : Nat) (cJ : ClassId) (g : Nat → Int64) (hne : h ≠ a) (ho : o ≠ h ∧ o ≠ a) (q : Nat) (h1 : 1 ≤ N) (h2 : N ≤ 16384) (hq : q < 4) : Met l yL_count wsL_count ({ frames := 5, cells := 0, slots := 0, locals := 130 }) (cb_Pc (dC, dI) [.ref h, .int (nI q), .ref o] (wr_w h a cI (nI N) f o cJ g) [(cI, .int), (cJ, .long)]) (va_Qi (fun (r9 : Int32) (_ : Unit) => 0 = r9) (fun _ t9 => va_P (dC, dI) vwCl (wr_w h a cI (nI N) f o cJ (vp_updL g 0 (Int32.toInt64 (cb_cnt f N q)))) t9.heap) (wr_A h a o)) 0 0 (wr_A h a o) := by
  refine va_MetW (cc := cL_count) (maxL := 4) (ret := (some .int)) (hh := [(0, 9, 12, 13)]) (by decide) rfl ?_
  intro p e s m args below meth c s₁ B hml hv
  obtain ⟨rfl, hP, hK⟩ := hv
  have hx := B.exec
  have hb := B.bytes
  have hr := B.returns
  have hts := atoms_spec (ws := wsL_count) B.pre
  have hown : s.vm.findClass RL = some m.cls := findClass_of_methodNamed B.named
  have hlocks := B.notSynchronized
  have hl := lv_entry ([.ref h, .int (nI q), .ref o]) (n := 4) (Nat.le_of_ble_eq_true rfl)
  rw [lg_entry_eq]
  generalize (lg_sl ([.ref h, .int (nI q), .ref o]) ++ List.replicate (4 - (lg_sl ([.ref h, .int (nI q), .ref o])).length) Slot.unset).toArray = ls at hl ⊢
  have hl : lv_has ls 4 [(0, .ref h), (1, .int (nI q)), (2, .ref o)] := hl
  have hS : va_S (wr_A h a o) s.heap s.heap [] := va_S.rf
  refine lv_aload_n hx hb dL_count_0 rfl (lv_at hl 2 rfl) ?_
  refine lv_iconst (v := 0) hx hb dL_count_1 (by decide) ?_
  refine lv_aload_n hx hb dL_count_2 rfl (lv_at hl 0 rfl) ?_
  refine lv_iload_n hx hb dL_count_3 rfl (lv_at hl 1 rfl) ?_
  refine cl_calli (W.runV (As := [.int (nI q)]) (rest := [.int 0, .ref o]) ⟨hx, hb, hml, hown, hts⟩ (c_count l dC dI h a cI N f q h1 h2 hq) (cwV 1 hts gL_count_X0_count rfl rfl rfl (by decide +kernel) ⟨Nat.le_of_ble_eq_true rfl, Nat.le_of_ble_eq_true rfl⟩) (cb_preV (hK.sub (tys' := [(cI, .int)]) [0] rfl) (hP.sub (ws' := cb_w h a cI (nI N) f) [0, 1] rfl) [.int (nI q)]) rfl rfl hl.1 rfl (lv_room (Nat.le_of_ble_eq_true rfl)) dL_count_4 ⟨Nat.zero_le _, Nat.zero_le _⟩) ?_
  have hD := wr_D (cI := cI) (cJ := cJ) (n := (nI N)) (f := f) (g := g) hne ho
  refine lv_i2l (v := Int32.toInt64 (cb_cnt f N q)) hx hb dL_count_7 rfl ?_
  refine va_last (D := (dC, dI)) hx hb hK hP hD hS 2 1 rfl rfl (by unfold vp_in; decide) dL_count_8 (fun H locs hP _ hS => ?_)
  have hP : va_P (dC, dI) vwCl (wr_w h a cI (nI N) f o cJ (vp_updL g 0 (Int32.toInt64 (cb_cnt f N q)))) H := hP
  refine lv_goto (tgt := 15) hx hb dL_count_9 (by decide) ?_
  refine lv_iconst (v := 0) hx hb dL_count_15 (by decide) ?_
  exact W.iret (v := 0) hx hb hr (fun t9 ht9 _ => ⟨⟨_, (), rfl, rfl, cl_at ht9 hP⟩, hS.F ht9⟩) hS.2.2 dL_count_16
set_option maxHeartbeats 4000000 in
set_option maxRecDepth 100000 in
/-- count, which catches -/
theorem v_count (l : Launch) (hst : l.stackTraces = false) (dC : Nat → ClassId) (dI : Nat → Nat → Nat) (h a : Nat) (cI : ClassId) (N : Nat) (f : Nat → Int32) (o : Nat) (cJ : ClassId) (g : Nat → Int64) (x : Int32) (hbad : x.toInt < 0 ∨ 3 < x.toInt) : Met l yL_count wsL_count ({ frames := 8, cells := 1, slots := 6, locals := 180 }) (cb_Pt (dC, dI) [.ref h, .int x, .ref o] (wr_w h a cI (nI N) f o cJ g) [(cI, .int), (cJ, .long)]) (va_Qi (fun (r9 : Int32) (_ : Unit) => 1 = r9) (fun _ _ => True) (fun _ => False)) 1 6 (fun _ => False) := by
  refine va_MetW (cc := cL_count) (maxL := 4) (ret := (some .int)) (hh := [(0, 9, 12, 13)]) (by decide) rfl ?_
  intro p e s m args below meth c s₁ B hml hv
  obtain ⟨rfl, hP, hK, hJ⟩ := hv
  have hx := B.exec
  have hb := B.bytes
  have hr := B.returns
  have hts := atoms_spec (ws := wsL_count) B.pre
  have hown : s.vm.findClass RL = some m.cls := findClass_of_methodNamed B.named
  have hlocks := B.notSynchronized
  have hl := lv_entry ([.ref h, .int x, .ref o]) (n := 4) (Nat.le_of_ble_eq_true rfl)
  rw [lg_entry_eq]
  generalize (lg_sl ([.ref h, .int x, .ref o]) ++ List.replicate (4 - (lg_sl ([.ref h, .int x, .ref o])).length) Slot.unset).toArray = ls at hl ⊢
  have hl : lv_has ls 4 [(0, .ref h), (1, .int x), (2, .ref o)] := hl
  refine lv_aload_n hx hb dL_count_0 rfl (lv_at hl 2 rfl) ?_
  refine lv_iconst (v := 0) hx hb dL_count_1 (by decide) ?_
  refine lv_aload_n hx hb dL_count_2 rfl (lv_at hl 0 rfl) ?_
  refine lv_iload_n hx hb dL_count_3 rfl (lv_at hl 1 rfl) ?_
  have htab := xt_table (x := yL_count) B (hts (.codeWith yL_count cL_count 4 (some .int) [(0, 9, 12, 13)]) List.mem_cons_self)
  refine xt_catch (own := RL) (E := "java/lang/IllegalArgumentException") (xt_runV (As := [.int x]) (rest := [.int 0, .ref o]) ⟨hx, hb, hml, hown, hts⟩ (t_count l hst dC dI h a cI N f x hbad) (cwV 1 hts gL_count_X0_count rfl rfl rfl (by decide +kernel) ⟨Nat.le_of_ble_eq_true rfl, Nat.le_of_ble_eq_true rfl⟩) (cb_preT hJ (hK.sub (tys' := [(cI, .int)]) [0] rfl) (hP.sub (ws' := cb_w h a cI (nI N) f) [0, 1] rfl) [.int x]) rfl rfl hl.1 rfl (lv_room (Nat.le_of_ble_eq_true rfl)) dL_count_4 ⟨Nat.le_refl _, Nat.le_refl _⟩) hown htab (by decide) (by decide) (hts (.classLink RL 13 "java/lang/IllegalArgumentException") (by decide +kernel)) (xt_ride (State.WarmedH.refl s) (cb_nw_ok (.castable "java/lang/IllegalArgumentException" "java/lang/IllegalArgumentException") (by decide +kernel)) (hJ.2.2 (.castable "java/lang/IllegalArgumentException" "java/lang/IllegalArgumentException") (by decide +kernel))) (fun x9 H1 hz9 hk9 => ?_)
  refine lv_astore_n (lv' := [(3, .ref x9), (0, .ref h), (1, .int x), (2, .ref o)]) hx hb dL_count_12 rfl hl (by decide) rfl (fun ls hl => ?_)
  refine lv_iconst (v := 1) hx hb dL_count_13 (by decide) ?_
  exact W.iret (v := 1) hx hb hr (fun t9 ht9 _ => ⟨⟨_, (), rfl, rfl, trivial⟩, by rw [ht9]; exact hz9, fun q9 h9 _ => by rw [ht9]; exact hk9 q9 h9⟩) (fun q9 hq9 => nomatch hq9) dL_count_14
