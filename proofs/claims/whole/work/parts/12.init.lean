/-! The constructors. -/
def ci_A (h sz : Nat) : Nat → Prop := fun q => q = h ∨ sz ≤ q
theorem ci_D {h sz : Nat} {x : va_E} : va_D (ci_A h sz) [(h, x)] := by
  refine ⟨fun i j p q hi hj _ => ?_, fun k q hk => ?_⟩
  · match i, j, hi, hj with
    | 0, 0, _, _ => rfl
    | i + 1, _, hi, _ => cases hi
    | _, j + 1, _, hj => cases hj
  · match k, hk with
    | 0, hk => cases hk; exact Or.inl rfl
    | k + 1, hk => cases hk
theorem ci_new {h sz q : Nat} {ws : va_W} {k : Nat} {x y : va_E} (hD : va_D (ci_A h sz) ws) (h0 : ws[0]? = some (h, x)) (hk : ws[k + 1]? = some (q, y)) : sz ≤ q := by
  rcases hD.2 (k + 1) _ hk with h9 | h9
  · have h8 : q = h := h9
    subst h8
    have := hD.1 0 (k + 1) _ _ h0 hk rfl
    omega
  · exact h9
set_option maxHeartbeats 400000 in
set_option maxRecDepth 100000 in
/-- CardBook() -/
theorem c_init (l : Launch) (dC : Nat → ClassId) (dI : Nat → Nat → Nat) (h sz : Nat) : Met l yX0_init wsX0_init ({ frames := 1, cells := 1, slots := 512, locals := 12 }) (va_Pc [.ref h] (fun U => U.heap.size = sz ∧ va_P (dC, dI) vwCl [(h, .inr (0, [.null, .int 0]))] U.heap ∧ va_K (dC, dI) vwCl [] U)) (va_Qv (fun (u : Nat × ClassId) => sz ≤ u.1) (fun u t => va_P (dC, dI) vwCl (cb_w h u.1 u.2 (nI 1024) (fun _ => 0)) t.heap ∧ va_K (dC, dI) vwCl [(u.2, .int)] t) (ci_A h sz)) 1 512 (ci_A h sz) := by
  refine Met.ofW (cc := cX0_init) (maxL := 1) (ret := none) (by decide) rfl ?_
  intro p e s m args below meth c s₁ B hml hv
  obtain ⟨rfl, hsz, hP, hK⟩ := hv
  have hx := B.exec
  have hb := B.bytes
  have hr := B.returns
  have hts := atoms_spec (ws := wsX0_init) B.pre
  have hown : s.vm.findClass RX0 = some m.cls := findClass_of_methodNamed B.named
  have hlocks := B.notSynchronized
  have hin : meth.name = "<init>" := (name_of_methodNamed B.named B.method).1
  subst hsz
  have hA : ∀ q : Nat, s.heap.size ≤ q → ci_A h s.heap.size q := fun q h9 => Or.inr h9
  have hD := ci_D (h := h) (sz := s.heap.size) (x := .inr (0, [.null, .int 0]))
  have hS : va_S (ci_A h s.heap.size) s.heap s.heap [] := va_S.rf
  have hl := lv_entry ([.ref h]) (n := 1) (Nat.le_of_ble_eq_true rfl)
  rw [lg_entry_eq]
  generalize (lg_sl ([.ref h]) ++ List.replicate (1 - (lg_sl ([.ref h])).length) Slot.unset).toArray = ls at hl ⊢
  have hl : lv_has ls 1 [(0, .ref h)] := hl
  refine lv_aload_n hx hb dX0_init_0 rfl (lv_at hl 0 rfl) ?_
  refine W.objInit hx hb hown (hts (.methodLink RX0 3 objectInit) (by decide +kernel)) (hts (.instanceMethod objectInit) (by decide +kernel)) (hts _ (List.mem_cons_of_mem _ (List.mem_append_left _ (List.mem_of_getElem? (i := 2) rfl)))) rfl (by rw [hml]; exact hl.1) rfl dX0_init_1 (Nat.le_of_ble_eq_true rfl) (Nat.le_of_ble_eq_true rfl) ?_
  refine W.eq (g2 := F0 m 4 ls []) rfl ?_
  refine lv_aload_n hx hb dX0_init_4 rfl (lv_at hl 0 rfl) ?_
  refine lv_sipush (v := 512) hx hb dX0_init_5 (by decide +kernel) ?_
  refine va_newa (atype := .int) (n := 512) (ty := .int) (N' := 512) (a0 := (512, .inl (fun _ => 0))) hx hb (hts (.arrayClass .int) (by decide +kernel)) rfl hK hP hD hS hA (fun _ => rfl) (by decide +kernel) (by decide +kernel) (by decide +kernel) (Nat.le_of_ble_eq_true rfl) (Nat.le_of_ble_eq_true rfl) dX0_init_8 (fun a cI H hK hP hD hS => ?_)
  have hP : va_P (dC, dI) vwCl [(h, .inr (0, [.null, .int 0])), (a, .inl (cI, 512, .inl (fun _ => 0)))] H := hP
  have hD : va_D (ci_A h s.heap.size) [(h, .inr (0, [.null, .int 0])), (a, .inl (cI, 512, .inl (fun _ => 0)))] := hD
  have hK : va_K (dC, dI) vwCl [(cI, .int)] s := hK
  have ha : s.heap.size ≤ a := ci_new hD rfl (k := 0) rfl
  refine va_putF (D := (dC, dI)) (ci := 0) (v := .ref a) (ty := .array .int) (C := RX0) (T := TX0) (N := 2) hx hb hts (by decide +kernel) tyX0 tyX0_ok nmX0 hown hK hP hD hS 0 rfl rfl 0 (by decide) (hts (.fieldLink RX0 9 "CardBook" "marks" "[I") (by decide +kernel)) (fun _ h9 => h9) rfl hin rfl (by decide +kernel) rfl rfl (Nat.le_of_ble_eq_true rfl) dX0_init_10 (fun H locs hP hD hS => ?_)
  have hP : va_P (dC, dI) vwCl [(h, .inr (0, [.ref a, .int 0])), (a, .inl (cI, 512, .inl (fun _ => 0)))] H := hP
  have hD : va_D (ci_A h s.heap.size) [(h, .inr (0, [.ref a, .int 0])), (a, .inl (cI, 512, .inl (fun _ => 0)))] := hD
  refine lv_aload_n hx hb dX0_init_13 rfl (lv_at hl 0 rfl) ?_
  refine lv_sipush (v := 1024) hx hb dX0_init_14 (by decide) ?_
  refine va_put (D := (dC, dI)) (ci := 0) (v := .int 1024) (ty := .int) (C := RX0) (T := TX0) (N := 2) hx hb hts (by decide +kernel) tyX0 tyX0_ok nmX0 hown hK hP hD hS 0 rfl rfl 1 (by decide) (hts (.fieldLink RX0 13 "CardBook" "cells" "I") (by decide +kernel)) (fun _ h9 => h9) rfl (by decide +kernel) rfl rfl (Nat.le_of_ble_eq_true rfl) dX0_init_17 (fun H locs hP hD hS => ?_)
  have hP : va_P (dC, dI) vwCl (cb_w h a cI (nI 1024) (fun _ => 0)) H := hP
  exact W.vret hx hb hr (fun t9 ht9 hW9 => ⟨⟨(a, cI), rfl, ha, cl_at ht9 hP, va_K.moved hW9.alike hK⟩, hS.F ht9⟩) hS.2.2 dX0_init_20
set_option maxHeartbeats 400000 in
set_option maxRecDepth 100000 in
/-- CardBookModel() -/
theorem c1_init (l : Launch) (dC : Nat → ClassId) (dI : Nat → Nat → Nat) (h sz : Nat) : Met l yX1_init wsX1_init ({ frames := 1, cells := 2, slots := 1024, locals := 12 }) (va_Pc [.ref h] (fun U => U.heap.size = sz ∧ va_P (dC, dI) vwCl [(h, .inr (1, [.int 0, .int 0, .null, .null]))] U.heap ∧ va_K (dC, dI) vwCl [] U)) (va_Qv (fun (u : Nat × Nat × ClassId × ClassId) => sz ≤ u.1 ∧ sz ≤ u.2.1 ∧ u.1 ≠ u.2.1) (fun u t => va_P (dC, dI) vwCl (md_w h u.1 u.2.1 u.2.2.1 u.2.2.2 0 (nI 1024) (fun _ => false) (fun _ => false)) t.heap ∧ va_K (dC, dI) vwCl [(u.2.2.1, .boolean), (u.2.2.2, .boolean)] t) (ci_A h sz)) 2 1024 (ci_A h sz) := by
  refine Met.ofW (cc := cX1_init) (maxL := 1) (ret := none) (by decide) rfl ?_
  intro p e s m args below meth c s₁ B hml hv
  obtain ⟨rfl, hsz, hP, hK⟩ := hv
  have hx := B.exec
  have hb := B.bytes
  have hr := B.returns
  have hts := atoms_spec (ws := wsX1_init) B.pre
  have hown : s.vm.findClass RX1 = some m.cls := findClass_of_methodNamed B.named
  have hlocks := B.notSynchronized
  have hin : meth.name = "<init>" := (name_of_methodNamed B.named B.method).1
  subst hsz
  have hA : ∀ q : Nat, s.heap.size ≤ q → ci_A h s.heap.size q := fun q h9 => Or.inr h9
  have hD := ci_D (h := h) (sz := s.heap.size) (x := .inr (1, [.int 0, .int 0, .null, .null]))
  have hS : va_S (ci_A h s.heap.size) s.heap s.heap [] := va_S.rf
  have hl := lv_entry ([.ref h]) (n := 1) (Nat.le_of_ble_eq_true rfl)
  rw [lg_entry_eq]
  generalize (lg_sl ([.ref h]) ++ List.replicate (1 - (lg_sl ([.ref h])).length) Slot.unset).toArray = ls at hl ⊢
  have hl : lv_has ls 1 [(0, .ref h)] := hl
  refine lv_aload_n hx hb dX1_init_0 rfl (lv_at hl 0 rfl) ?_
  refine W.objInit hx hb hown (hts (.methodLink RX1 1 objectInit) (by decide +kernel)) (hts (.instanceMethod objectInit) (by decide +kernel)) (hts _ (List.mem_cons_of_mem _ (List.mem_append_left _ (List.mem_of_getElem? (i := 2) rfl)))) rfl (by rw [hml]; exact hl.1) rfl dX1_init_1 (Nat.le_of_ble_eq_true rfl) (Nat.le_of_ble_eq_true rfl) ?_
  refine W.eq (g2 := F0 m 4 ls []) rfl ?_
  refine lv_aload_n hx hb dX1_init_4 rfl (lv_at hl 0 rfl) ?_
  refine lv_sipush (v := 1024) hx hb dX1_init_5 (by decide) ?_
  refine va_put (D := (dC, dI)) (ci := 1) (v := .int 1024) (ty := .int) (C := RX1) (T := TX1) (N := 4) hx hb hts (by decide +kernel) tyX1 tyX1_ok nmX1 hown hK hP hD hS 0 rfl rfl 1 (by decide) (hts (.fieldLink RX1 7 "CardBookModel" "cells" "I") (by decide +kernel)) (fun _ h9 => h9) rfl (by decide +kernel) rfl rfl (Nat.le_of_ble_eq_true rfl) dX1_init_8 (fun H locs hP hD hS => ?_)
  have hP : va_P (dC, dI) vwCl [(h, .inr (1, [.int 0, .int 1024, .null, .null]))] H := hP
  have hD : va_D (ci_A h s.heap.size) [(h, .inr (1, [.int 0, .int 1024, .null, .null]))] := hD
  refine lv_aload_n hx hb dX1_init_11 rfl (lv_at hl 0 rfl) ?_
  refine lv_sipush (v := 512) hx hb dX1_init_12 (by decide) ?_
  refine va_newa (atype := .boolean) (n := 512) (ty := .boolean) (N' := 512) (a0 := (512, .inl (fun _ => 0))) hx hb (hts (.arrayClass .boolean) (by decide +kernel)) rfl hK hP hD hS hA (fun _ => rfl) (by decide +kernel) (by decide +kernel) (by decide +kernel) (Nat.le_of_ble_eq_true rfl) (Nat.le_of_ble_eq_true rfl) dX1_init_15 (fun a cY H hK hP hD hS => ?_)
  have hP : va_P (dC, dI) vwCl [(h, .inr (1, [.int 0, .int 1024, .null, .null])), (a, .inl (cY, 512, .inl (fun _ => 0)))] H := hP
  have hD : va_D (ci_A h s.heap.size) [(h, .inr (1, [.int 0, .int 1024, .null, .null])), (a, .inl (cY, 512, .inl (fun _ => 0)))] := hD
  have hK : va_K (dC, dI) vwCl [(cY, .boolean)] s := hK
  refine va_putF (D := (dC, dI)) (ci := 1) (v := .ref a) (ty := .array .boolean) (C := RX1) (T := TX1) (N := 4) hx hb hts (by decide +kernel) tyX1 tyX1_ok nmX1 hown hK hP hD hS 0 rfl rfl 2 (by decide) (hts (.fieldLink RX1 13 "CardBookModel" "dirty" "[Z") (by decide +kernel)) (fun _ h9 => h9) rfl hin rfl (by decide +kernel) rfl rfl (Nat.le_of_ble_eq_true rfl) dX1_init_17 (fun H locs hP hD hS => ?_)
  have hP : va_P (dC, dI) vwCl [(h, .inr (1, [.int 0, .int 1024, .ref a, .null])), (a, .inl (cY, 512, .inl (fun _ => 0)))] H := hP
  have hD : va_D (ci_A h s.heap.size) [(h, .inr (1, [.int 0, .int 1024, .ref a, .null])), (a, .inl (cY, 512, .inl (fun _ => 0)))] := hD
  refine lv_aload_n hx hb dX1_init_20 rfl (lv_at hl 0 rfl) ?_
  refine lv_sipush (v := 512) hx hb dX1_init_21 (by decide) ?_
  refine va_newa (atype := .boolean) (n := 512) (ty := .boolean) (N' := 512) (a0 := (512, .inl (fun _ => 0))) hx hb (hts (.arrayClass .boolean) (by decide +kernel)) rfl hK hP hD hS hA (fun _ => rfl) (by decide +kernel) (by decide +kernel) (by decide +kernel) (Nat.le_of_ble_eq_true rfl) (Nat.le_of_ble_eq_true rfl) dX1_init_24 (fun b cZ H hK hP hD hS => ?_)
  have hP : va_P (dC, dI) vwCl [(h, .inr (1, [.int 0, .int 1024, .ref a, .null])), (a, .inl (cY, 512, .inl (fun _ => 0))), (b, .inl (cZ, 512, .inl (fun _ => 0)))] H := hP
  have hD : va_D (ci_A h s.heap.size) [(h, .inr (1, [.int 0, .int 1024, .ref a, .null])), (a, .inl (cY, 512, .inl (fun _ => 0))), (b, .inl (cZ, 512, .inl (fun _ => 0)))] := hD
  have hK : va_K (dC, dI) vwCl [(cY, .boolean), (cZ, .boolean)] s := hK
  have ha : s.heap.size ≤ a := ci_new hD rfl (k := 0) rfl
  have hb9 : s.heap.size ≤ b := ci_new hD rfl (k := 1) rfl
  have hab : a ≠ b := fun h9 => by
    have := hD.1 1 2 _ _ rfl rfl h9
    omega
  refine va_putF (D := (dC, dI)) (ci := 1) (v := .ref b) (ty := .array .boolean) (C := RX1) (T := TX1) (N := 4) hx hb hts (by decide +kernel) tyX1 tyX1_ok nmX1 hown hK hP hD hS 0 rfl rfl 3 (by decide) (hts (.fieldLink RX1 17 "CardBookModel" "saved" "[Z") (by decide +kernel)) (fun _ h9 => h9) rfl hin rfl (by decide +kernel) rfl rfl (Nat.le_of_ble_eq_true rfl) dX1_init_26 (fun H locs hP hD hS => ?_)
  have hP : va_P (dC, dI) vwCl (md_w h a b cY cZ 0 (nI 1024) (fun _ => false) (fun _ => false)) H := hP
  exact W.vret hx hb hr (fun t9 ht9 hW9 => ⟨⟨(a, b, cY, cZ), rfl, ⟨ha, hb9, hab⟩, cl_at ht9 hP, va_K.moved hW9.alike hK⟩, hS.F ht9⟩) hS.2.2 dX1_init_29
