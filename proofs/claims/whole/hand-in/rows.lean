section
-- ===== PART A: goes FIRST, ahead of the names: the tables' words, and 'selects' of the private methods out of them =====
/-- a private method of a class that the tables say can be made, by its rows of tables_1 -/
def lw_okq (q : MethodName × Nat) : Prop := (q.1.cls ≠ "java/lang/invoke/MethodHandle" ∧ q.1.cls ≠ "java/lang/invoke/VarHandle") ∧ Cond.instantiable q.1.cls q.2 ∈ tables_1 ∧ Cond.privateMethod q.1 ∈ tables_1 ∧ Cond.instanceMethod q.1 ∈ tables_1
theorem lw_p0 : lw_okq (⟨"CardBook", "countWith", "(I)I"⟩, 2) := ⟨⟨by decide +kernel, by decide +kernel⟩, List.mem_of_getElem? (i := 9) (by decide +kernel), List.mem_of_getElem? (i := 29) (by decide +kernel), List.mem_of_getElem? (i := 30) (by decide +kernel)⟩
theorem lw_p1 : lw_okq (⟨"CardBook", "cardCount", "()I"⟩, 2) := ⟨⟨by decide +kernel, by decide +kernel⟩, List.mem_of_getElem? (i := 9) (by decide +kernel), List.mem_of_getElem? (i := 33) (by decide +kernel), List.mem_of_getElem? (i := 34) (by decide +kernel)⟩
theorem lw_p2 : lw_okq (⟨"java/lang/Throwable", "fillInStackTrace", "(I)Ljava/lang/Throwable;"⟩, 6) := ⟨⟨by decide +kernel, by decide +kernel⟩, List.mem_of_getElem? (i := 85) (by decide +kernel), List.mem_of_getElem? (i := 83) (by decide +kernel), List.mem_of_getElem? (i := 84) (by decide +kernel)⟩
theorem lw_p3 : lw_okq (⟨"CardBook", "requireCell", "(I)V"⟩, 2) := ⟨⟨by decide +kernel, by decide +kernel⟩, List.mem_of_getElem? (i := 9) (by decide +kernel), List.mem_of_getElem? (i := 124) (by decide +kernel), List.mem_of_getElem? (i := 125) (by decide +kernel)⟩
theorem lw_p4 : lw_okq (⟨"CardBook", "requireCard", "(I)V"⟩, 2) := ⟨⟨by decide +kernel, by decide +kernel⟩, List.mem_of_getElem? (i := 9) (by decide +kernel), List.mem_of_getElem? (i := 159) (by decide +kernel), List.mem_of_getElem? (i := 160) (by decide +kernel)⟩
theorem lw_p5 : lw_okq (⟨"CardBook", "removeMark", "(II)Z"⟩, 2) := ⟨⟨by decide +kernel, by decide +kernel⟩, List.mem_of_getElem? (i := 9) (by decide +kernel), List.mem_of_getElem? (i := 164) (by decide +kernel), List.mem_of_getElem? (i := 165) (by decide +kernel)⟩
theorem lw_p6 : lw_okq (⟨"CardBook", "firstWith", "(II)I"⟩, 2) := ⟨⟨by decide +kernel, by decide +kernel⟩, List.mem_of_getElem? (i := 9) (by decide +kernel), List.mem_of_getElem? (i := 189) (by decide +kernel), List.mem_of_getElem? (i := 190) (by decide +kernel)⟩
theorem lw_p7 : lw_okq (⟨"CardBookModel", "goes", "(Z)Z"⟩, 4) := ⟨⟨by decide +kernel, by decide +kernel⟩, List.mem_of_getElem? (i := 209) (by decide +kernel), List.mem_of_getElem? (i := 237) (by decide +kernel), List.mem_of_getElem? (i := 238) (by decide +kernel)⟩
theorem lw_p8 : lw_okq (⟨"CardBookModel", "many", "(IZ)I"⟩, 4) := ⟨⟨by decide +kernel, by decide +kernel⟩, List.mem_of_getElem? (i := 209) (by decide +kernel), List.mem_of_getElem? (i := 241) (by decide +kernel), List.mem_of_getElem? (i := 242) (by decide +kernel)⟩
theorem lw_p9 : lw_okq (⟨"CardBookModel", "isCell", "(I)Z"⟩, 4) := ⟨⟨by decide +kernel, by decide +kernel⟩, List.mem_of_getElem? (i := 209) (by decide +kernel), List.mem_of_getElem? (i := 249) (by decide +kernel), List.mem_of_getElem? (i := 250) (by decide +kernel)⟩
theorem lw_p10 : lw_okq (⟨"CardBookModel", "cards", "()I"⟩, 4) := ⟨⟨by decide +kernel, by decide +kernel⟩, List.mem_of_getElem? (i := 209) (by decide +kernel), List.mem_of_getElem? (i := 257) (by decide +kernel), List.mem_of_getElem? (i := 258) (by decide +kernel)⟩
theorem lw_p11 : lw_okq (⟨"CardBookModel", "isCard", "(I)Z"⟩, 4) := ⟨⟨by decide +kernel, by decide +kernel⟩, List.mem_of_getElem? (i := 209) (by decide +kernel), List.mem_of_getElem? (i := 265) (by decide +kernel), List.mem_of_getElem? (i := 266) (by decide +kernel)⟩
def lw_privs_1 : List (MethodName × Nat) := [(⟨"CardBook", "countWith", "(I)I"⟩, 2), (⟨"CardBook", "cardCount", "()I"⟩, 2), (⟨"java/lang/Throwable", "fillInStackTrace", "(I)Ljava/lang/Throwable;"⟩, 6), (⟨"CardBook", "requireCell", "(I)V"⟩, 2), (⟨"CardBook", "requireCard", "(I)V"⟩, 2), (⟨"CardBook", "removeMark", "(II)Z"⟩, 2), (⟨"CardBook", "firstWith", "(II)I"⟩, 2), (⟨"CardBookModel", "goes", "(Z)Z"⟩, 4), (⟨"CardBookModel", "many", "(IZ)I"⟩, 4), (⟨"CardBookModel", "isCell", "(I)Z"⟩, 4), (⟨"CardBookModel", "cards", "()I"⟩, 4), (⟨"CardBookModel", "isCard", "(I)Z"⟩, 4)]
theorem lw_r1 : ∀ q ∈ lw_privs_1, lw_okq q := List.forall_mem_cons.mpr ⟨lw_p0, List.forall_mem_cons.mpr ⟨lw_p1, List.forall_mem_cons.mpr ⟨lw_p2, List.forall_mem_cons.mpr ⟨lw_p3, List.forall_mem_cons.mpr ⟨lw_p4, List.forall_mem_cons.mpr ⟨lw_p5, List.forall_mem_cons.mpr ⟨lw_p6, List.forall_mem_cons.mpr ⟨lw_p7, List.forall_mem_cons.mpr ⟨lw_p8, List.forall_mem_cons.mpr ⟨lw_p9, List.forall_mem_cons.mpr ⟨lw_p10, List.forall_mem_cons.mpr ⟨lw_p11, fun _ h => absurd h List.not_mem_nil⟩⟩⟩⟩⟩⟩⟩⟩⟩⟩⟩⟩
def lw_privs : List (MethodName × Nat) := lw_privs_1
def lw_tbl : List Cond := k2_sels lw_privs ++ tables_1
theorem lw_privs_ok : ∀ q ∈ lw_privs, lw_okq q := lw_r1
end
section
/-! Rows of this proof's own: a method that throws a new exception with a text, its callers that pass it on, a caller that catches it. In all of them nothing old was written before. -/
theorem xt_lays {C n d : String} {a a' : Array Value} {s U : State} (hvm : s.vm.Alike U.vm) (hh : ∀ q : Nat, q < s.heap.size → U.heap[q]? = s.heap[q]?) (h : (Cond.laysStatic C n d).before a s = true) : (Cond.laysStatic C n d).before a' U = true := by
  obtain ⟨c, k, i, f, b, cell, h1, h2, h3, h4, h5, h6, h7, h8, h9⟩ := Cond.laysStatic_spec h
  obtain ⟨k', hi', he⟩ := State.fieldFound?_setVm hvm h2
  have h5' : U.heap[b]? = some cell := by rw [hh b (Array.getElem?_eq_some_iff.mp h5).1]; exact h5
  show (Cond.laysStatic C n d).holds a' U none U [] = true
  exact Cond.laysStatic_of (by rw [hvm.findClass]; exact h1) hi' h3 (by rw [he]; exact h4) h5' h6 h7 h8 (by rw [he]; exact h9)
theorem xt_isRef {C n d : String} {a a' : Array Value} {s U : State} (hvm : s.vm.Alike U.vm) (hh : ∀ q : Nat, q < s.heap.size → U.heap[q]? = s.heap[q]?) (hl : (Cond.laysStatic C n d).before a s = true) (h : (Cond.isRef (.static C n d)).before a s = true) : (Cond.isRef (.static C n d)).before a' U = true := by
  obtain ⟨c, k, i, f, b, cell, h1, h2, h3, h4, h5, h6, h7, h8, h9⟩ := Cond.laysStatic_spec hl
  obtain ⟨k', hi', he⟩ := State.fieldFound?_setVm hvm h2
  have hi : U.fieldFound? C n d = some (c, k', i, f) := hi'
  have h4' : k'.statics = some b := by rw [he]; exact h4
  have h5' : U.heap[b]? = some cell := by rw [hh b (Array.getElem?_eq_some_iff.mp h5).1]; exact h5
  have e1 : (Term.static C n d).eval a s none [] s = cell.slots[f.slot]? := by simp [Term.eval, State.fieldNamed?, h2, h3, h4, h5, h6]
  have e2 : (Term.static C n d).eval a' U none [] U = cell.slots[f.slot]? := by simp [Term.eval, State.fieldNamed?, hi, h3, h4', h5', h6]
  simp only [Cond.before, Cond.holds, Cond.value, e1] at h
  simp only [Cond.before, Cond.holds, Cond.value, e2]
  exact h
/-- what a throw asks of the heap -/
def xt_I (U : State) : Prop := ((Cond.laysStatic Bundle.tN "UNASSIGNED_STACK" Bundle.steD).before #[] U = true ∧ (Cond.isRef (.static Bundle.tN "UNASSIGNED_STACK" Bundle.steD)).before #[] U = true) ∧ (Cond.laysStatic Bundle.tN "SUPPRESSED_SENTINEL" Bundle.listD).before #[] U = true ∧ (Cond.isRef (.static Bundle.tN "SUPPRESSED_SENTINEL" Bundle.listD)).before #[] U = true
theorem xt_I.to {s U : State} (hvm : s.vm.Alike U.vm) (hh : ∀ q : Nat, q < s.heap.size → U.heap[q]? = s.heap[q]?) (h : xt_I s) : xt_I U :=
  ⟨⟨xt_lays hvm hh h.1.1, xt_isRef hvm hh h.1.1 h.1.2⟩, xt_lays hvm hh h.2.1, xt_isRef hvm hh h.2.1 h.2.2⟩
/-- the words of a throw that the tables alone decide -/
def xt_tab (w : Cond) : Bool := decide (w ≠ .laysStatic Bundle.tN "UNASSIGNED_STACK" Bundle.steD) && decide (w ≠ .laysStatic Bundle.tN "SUPPRESSED_SENTINEL" Bundle.listD) && decide (w ≠ .isRef (.static Bundle.tN "UNASSIGNED_STACK" Bundle.steD)) && decide (w ≠ .isRef (.static Bundle.tN "SUPPRESSED_SENTINEL" Bundle.listD))
def xt_ws (own : String) (ic : Nat) (E : String) (names : List String) : List Cond := (Bundle.ownAtoms own ic E names).filter xt_tab
/-- a word on the tables rides along -/
theorem xt_ride {a a' : Array Value} {s U : State} {w : Cond} (hW : s.WarmedH U.vm) (h1 : (w.onTables && w.keepsFace) = true) (h : w.before a s = true) : w.before a' U = true := by
  rw [Bool.and_eq_true] at h1
  have h3 : w.before a (s.setVm U.vm) = true := Cond.before_shiftedFace (State.Shifted.of_warmed hW) w h1.2 h
  have h4 := Cond.onTables_vm (A := a') (A' := a) (U := U) (U' := s) U.vm w h1.1
  rw [State.setVm_self] at h4
  rw [h4]
  exact h3
theorem xt_all {args : Array Value} {s : State} {L B : List Cond} (hI : xt_I s) (h : ∀ w ∈ (L.filter xt_tab).filter goodWord, w.before args s = true) (h2 : ∀ w ∈ (L.filter xt_tab).filter (fun w => !goodWord w), w ∈ B) (hB : ∀ w ∈ B, (w.onTables && w.keepsFace) = true) (h3 : ∀ w ∈ B, w.before #[] s = true) : ∀ w ∈ L, w.before args s = true := by
  intro w hw
  have hvm : s.vm.Alike s.vm := Vm.Alike.refl s.vm
  have hh : ∀ q : Nat, q < s.heap.size → s.heap[q]? = s.heap[q]? := fun _ _ => rfl
  by_cases h1 : w = .laysStatic Bundle.tN "UNASSIGNED_STACK" Bundle.steD
  · subst h1; exact xt_lays hvm hh hI.1.1
  by_cases h2' : w = .laysStatic Bundle.tN "SUPPRESSED_SENTINEL" Bundle.listD
  · subst h2'; exact xt_lays hvm hh hI.2.1
  by_cases h3' : w = .isRef (.static Bundle.tN "UNASSIGNED_STACK" Bundle.steD)
  · subst h3'; exact xt_isRef hvm hh hI.1.1 hI.1.2
  by_cases h4 : w = .isRef (.static Bundle.tN "SUPPRESSED_SENTINEL" Bundle.listD)
  · subst h4; exact xt_isRef hvm hh hI.2.1 hI.2.2
  have ht : w ∈ L.filter xt_tab := List.mem_filter.mpr ⟨hw, by simp [xt_tab, h1, h2', h3', h4]⟩
  by_cases hg : goodWord w = true
  · exact h w (List.mem_filter.mpr ⟨ht, hg⟩)
  · have hb := h2 w (List.mem_filter.mpr ⟨ht, by simp [hg]⟩)
    exact xt_ride (State.WarmedH.refl s) (hB w hb) (h3 w hb)
/-- an end by a throw of E: one new cell of six slots, nothing old written -/
def xt_Q (E : String) (st : State) (o : Outcome) (t : State) : Prop := ∃ (x : Addr) (ce : Cell), o = .threw x ∧ t.heap[x]? = some ce ∧ ce.vm = .none ∧ st.vm.findClass E = some ce.cls ∧ st.WarmedH t.vm ∧ st.sameButNew ({ t with vm := st.vm } : State) [] 1 6
def xt_Met (l : Launch) (y : MethodName) (ws : List Cond) (rm : Room) (Pc : Array Value → State → Prop) (E : String) : Prop :=
  MetFree l y (headSpec ws rm) Pc (fun _ _ _ _ _ => True) (fun _ st o t => xt_Q E st o t)
def xt_MQ (below : List Frame) (E : String) (s : State) : State → Prop := fun t => ∃ o, t.status = .running ∧ Ended t below o ∧ xt_Q E s o t
theorem xt_kept {s U : State} {k n : Nat} (h : s.sameButNew ({ U with vm := s.vm } : State) [] k n) : ∀ q : Nat, q < s.heap.size → U.heap[q]? = s.heap[q]? := by
  intro q hq
  have h1 : s.heap[q]? = some s.heap[q] := Array.getElem?_eq_getElem hq
  have h2 : U.heap[q]? = some s.heap[q] := State.sameButNew.old_cell h h1
  rw [h1, h2]
section XT
variable {p : Program} {l : Launch} {e : Env} {R : Room} {s : State} {m : MethodId} {args : Array Value} {below : List Frame} {meth : Method} {c : Code} {H : Heap} {Q : State → Prop}
  {cc bytes : ByteArray} {pc : Nat} {ls : Array Slot} {rest st0 : List Value} {own E : String} {names : List String}
theorem xt_ofW {y : MethodName} {ws ws' : List Cond} {rm : Room} {Pc : Array Value → State → Prop} {maxL : Nat} {ret : Option FieldType}
    (hy : plainName y.cls = true) (hw : ws = Cond.code y cc maxL ret :: ws')
    (body : ∀ p e s m args below meth c s₁, BodyLoose p l y (headSpec ws rm) cc maxL ret e s m args below meth c s₁ → c.maxLocals = maxL → c.exceptionTable.toList = [] → Pc args s →
      W p l e (headSpec ws rm).room s m args below meth c s.heap [] 0 0 (xt_MQ below E s) (entryFrame m args maxL)) : xt_Met l y ws rm Pc E := by
  refine MetFree.of_bodyS (code := cc) (maxLocals := maxL) (ret := ret) hy ?_ ?_
  · intro args s m h hn
    obtain ⟨meth, c, h1, h2, h3, h4, h5, h6, -, -⟩ := Cond.code_spec hn (atoms_spec (ws := ws) h _ (by rw [hw]; exact List.mem_cons_self))
    exact ⟨meth, c, h1, h2, h3, h4, h5, h6⟩
  · intro p e s m args below meth c s₁ B hml hP _
    have hemp : c.exceptionTable.toList = [] := by
      have h9 := BodyLoose.noHandlers B (atoms_spec (ws := ws) B.pre _ (by rw [hw]; exact List.mem_cons_self))
      rw [Array.isEmpty_iff] at h9
      rw [h9]
    obtain ⟨t, a1, o, b1, b2, b3⟩ := body p e s m args below meth c s₁ B hml hemp hP s₁ (by rw [B.state]; rfl) (Stand.of_body B)
    exact ⟨t, o, a1, b1, b2, b3⟩
/-- the exception's constructor and athrow, behind new, dup, ldc -/
theorem xt_ctor {a : Addr} {cX : ClassId} {kX : Class} {ic : Nat} {msg : Value} (hexec : p.tables.exec = Jvm.exec) (hb : c.code = cc) (hl : l.stackTraces = false)
    (hown : s.vm.findClass own = some m.cls) (hE : Bundle.fit E = true) (hnames : ∀ n ∈ names, Bundle.fit n = true) (hat : ∀ w ∈ Bundle.ownAtoms own ic E names, w.before args s = true)
    (hf : s.vm.findClass E = some cX) (hk : s.vm.classes[cX]? = some kX) (hcell : H[a]? = some (freshCell cX kX)) (hnew : s.heap.size ≤ a) (hmsg : msg.isRef = true) (hsize : ls.size = c.maxLocals)
    (d6 : decode cc pc = .ok (.invokespecial ic, 3)) (d9 : decode cc (pc + 3) = .ok (.athrow, 1)) (htab : c.exceptionTable.toList = [])
    (hRf : names.length + 3 < R.frames) (hRl : (rest.map fun v => v.category).sum + (13 * (names.length + 1) + 43) ≤ R.locals) (hlocks : meth.locks = false) :
    W p l e R s m args below meth c H [] 1 6 (xt_MQ below E s) (F0 m pc ls (msg :: .ref a :: .ref a :: rest)) := by
  intro T hT X
  have htr : e.platform.stackTraces = false := (show e.platform.stackTraces = l.stackTraces by rw [X.admits.platform]).trans hl
  have hcat : (Value.ref a).category = 1 := rfl
  obtain ⟨U, st, hrun, hend, hW, hsame, ce, hce, hO⟩ := X.ctorThrowS hexec htr (own := own) (cls := E) (names := names) (ic := ic) hown hE hnames hat (fun x hx => nomatch hx) hf hk (by rw [hT]; exact hcell) hnew hmsg
    (g := F0 m pc ls (msg :: .ref a :: .ref a :: rest)) rfl hsize rfl rfl (rest := rest) rfl (by rw [hb]; exact d6) (by rw [hb]; exact d9) (by rw [htab]; exact fun x hx => nomatch hx)
    hRf (by
      have h0 : (F0 m pc ls (msg :: .ref a :: .ref a :: rest)).monitorRoom = 0 := rfl
      simp only [h0, List.map_cons, List.sum_cons, hcat]; omega) hlocks
  exact ⟨U, st, .threw a, hrun, hend, a, ce, rfl, hce, hO.vm, hO.cls, hW, hsame⟩
/-- 'throw new E("..")' where nothing was made or written before -/
theorem xt_throw {ik is ic sa : Nat} {text : String} (hexec : p.tables.exec = Jvm.exec) (hb : c.code = cc) (hl : l.stackTraces = false)
    (hown : s.vm.findClass own = some m.cls) (hE : Bundle.fit E = true) (hnames : ∀ n ∈ names, Bundle.fit n = true) (hat : ∀ w ∈ Bundle.ownAtoms own ic E names, w.before args s = true)
    (hkl : (Cond.classLink own ik E).before args s = true) (hini : (Cond.initialized E).before args s = true) (hstr : vk_R own is text sa s) (hsize : ls.size = c.maxLocals)
    (d0 : decode cc pc = .ok (.new ik, 3)) (d3 : decode cc (pc + 3) = .ok (.dup, 1)) (d4 : decode cc (pc + 4) = .ok (.ldc is, 2)) (d6 : decode cc (pc + 6) = .ok (.invokespecial ic, 3)) (d9 : decode cc (pc + 9) = .ok (.athrow, 1)) (htab : c.exceptionTable.toList = [])
    (hRf : names.length + 3 < R.frames) (hRl : (rest.map fun v => v.category).sum + (13 * (names.length + 1) + 43) ≤ R.locals) (hRc : 1 ≤ R.cells) (hRs : 6 ≤ R.slots) (hlocks : meth.locks = false) :
    W p l e R s m args below meth c s.heap [] 0 0 (xt_MQ below E s) (F0 m pc ls rest) := by
  intro T hT X
  obtain ⟨vm1, cX, kX, hfX, hkX, -, -, X1, st1⟩ := X.newCold hexec (own := own) (C := E) (index := ik) (n := 6) hown hkl (hat (.instantiable E 6) (by simp [Bundle.ownAtoms])) hini
    (g := F0 m pc ls rest) rfl (by rw [hb]; exact d0) (by omega) (by omega)
  have hcell : ((T.setVm vm1).pushCell { cls := cX, slots := kX.instanceTypes.map defaultValue, vm := .none }).heap[T.heap.size]? = some (freshCell cX kX) := State.heap_pushCell_size _ _
  have k1 : W p l e R s m args below meth c ((T.setVm vm1).pushCell { cls := cX, slots := kX.instanceTypes.map defaultValue, vm := .none }).heap [] 1 6 (xt_MQ below E s) (F0 m (pc + 3) ls (.ref T.heap.size :: rest)) := by
    refine lv_dup hexec hb d3 rfl ?_
    refine va_ldcS hexec hb hown hstr d4 ?_
    exact xt_ctor hexec hb hl hown hE hnames hat hfX hkX hcell (by rw [hT]; exact Nat.le_refl _) rfl hsize d6 d9 htab hRf hRl hlocks
  obtain ⟨t, a1, b1⟩ := k1 _ rfl X1
  exact ⟨t, st1 t a1, b1⟩
/-- a call that throws, from where nothing was made or written before: the exception lies over the caller's frame -/
def xt_Run (p : Program) (l : Launch) (e : Env) (R : Room) (s : State) (m : MethodId) (args : Array Value) (below : List Frame) (meth : Method) (c : Code) (g : JFrame) (rest : List Value) (E : String) : Prop :=
  ∀ T : State, T.heap = s.heap → Stand p l e R s m args below meth c T [] 0 0 → ∃ (x : Addr) (ce : Cell) (T' : State), Stand p l e R s m args below meth c T' [] 1 6 ∧ T'.heap[x]? = some ce ∧ ce.vm = .none ∧ s.vm.findClass E = some ce.cls ∧
    Steps p.tables e below (T.setTop g) ((T'.setTop { g with stack := rest }).pushFrame (.throwing x))
theorem xt_runV {y : MethodName} {C : String} {maxL nL n index : Nat} {ret : Option FieldType} {ws Ts : List Cond} {rm : Room} {Pc : Array Value → State → Prop} {b : Addr} {As : List Value} {g : JFrame}
    (S : CallFix p m c cc nL s args Ts own) (hM : xt_Met l y ws rm Pc E) (cw : CallW R s args own C index y bytes maxL ret ws rm 1 6 n) (hp : PreV s s.heap C b Pc As)
    (hg : g.method = m) (hn : As.length = n) (hsize : g.locals.size = nL) (hstack : g.stack = As.reverse ++ .ref b :: rest) (hW : 2 * g.monitorRoom + (rest.map fun v => v.category).sum ≤ 8) (hdg : decode cc g.pc = .ok (.invokevirtual index, 3)) (hf : 1 ≤ R.cells ∧ 6 ≤ R.slots) :
    xt_Run p l e R s m args below meth c g rest E := by
  obtain ⟨⟨hrc, hrs, hfr, hlo, hws, hcw, hcode, hini, hy, hlen, hlk⟩, hin, hse⟩ := cw
  obtain ⟨hx, hb, hml, ho, -⟩ := S
  obtain ⟨hbl, ⟨cellB, hcB, hoB, hclB⟩, hPc⟩ := hp
  intro T hT X
  obtain ⟨mk, methM, hnamed, hmethM, hstM, habM⟩ := Cond.instanceMethod_spec hin
  obtain ⟨methM', cM, hmethM', hcM, -, hlM, -, -, -, hsigM⟩ := Cond.code_spec hnamed hcode
  cases hmethM.symm.trans hmethM'
  obtain ⟨c2, r2, m2, q1, q2, q3, q4, kP, hkP, hkPi⟩ := Cond.selects_spec hse
  cases hclB.symm.trans q1
  cases (State.methodFound?_of_named hnamed hy).symm.trans q2
  cases hnamed.symm.trans q3
  have hselP : selectMethod e.platform s.vm cellB.cls mk = .method mk := by rw [Launch.admits_selectMethod X.admits]; exact q4
  obtain ⟨vm₁, X₁, hstep₁⟩ := X.invokevirtual hx ho hlk hnamed hmethM hstM hkP hkPi hy (a := b) (cell := cellB) (by rw [hT]; exact hcB)
    (fun z h => by rw [h] at hoB; cases hoB) hselP hmethM habM hkP hkPi (g := g) hg (argsL := As) (rest := rest) (hn.trans (hlen _ hsigM)) hstack (by rw [hb]; exact hdg)
  have hn1 := X₁.named hnamed
  obtain ⟨methY, cY, hmY, hcY, -, hlY, -, -, -, -⟩ := Cond.code_spec hn1 (word_at (a' := args) X₁.warmed (Or.inl (by first | rfl | simp [Cond.onTables, Cond.keeps, Cond.steady])) hcode)
  obtain ⟨kY, hkY, -⟩ := className_of_methodNamed hn1
  have hinitY : kY.init = .initialized := Cond.initialized_spec (findClass_of_methodNamed hn1) hkY (word_at (a' := args) X₁.warmed (Or.inl (by first | rfl | simp [Cond.onTables, Cond.keeps, Cond.steady])) hini)
  have hAt : At (T.setVm vm₁) ({ g with stack := rest } : JFrame).method c below := by show At (T.setVm vm₁) g.method c below; rw [hg]; exact X₁.here
  have hPcU : Pc (Value.ref b :: As).toArray (T.setVm vm₁) := hPc _ hT X₁.warmed
  have happ : (headSpec ws rm).appliesLoose y e.platform ((T.setVm vm₁).calling { g with stack := rest } mk (Value.ref b :: As).toArray) = true :=
    Spec.appliesLoose_calling (g := { g with stack := rest }) hAt (by rw [hb]; exact hdg) hn1 hkY hinitY
      (X₁.room_calling (g := { g with stack := rest }) (R' := rm) (hsize.trans hml.symm) hmY hcY hfr (by rw [hlY]; exact Nat.le_trans (Nat.add_le_add_right (Nat.add_le_add_right hW _) _) hlo) (by rw [hrc]; omega) (by rw [hrs]; omega))
      (atoms_intro fun w hw => hws w hw _ _ X₁.warmed)
  obtain ⟨mid, hmid⟩ := hAt.above
  have hfr2 : ((T.setVm vm₁).setTop { g with stack := rest }).frames = (.java { g with stack := rest } :: mid) ++ below := by rw [State.frames_setTop' _ hAt.top, hmid]; rfl
  obtain ⟨o, s₂, hsteps, -, hend, hq⟩ := Steps.callFree hM p X₁.admits X₁.cas X₁.clock (acts := []) hfr2 happ (hbl _ _ _ _ hPcU) trivial
  rw [State.frames_setTop' _ hAt.top, X₁.tail] at hend
  have hq' : xt_Q E ((T.setVm vm₁).calling { g with stack := rest } mk (Value.ref b :: As).toArray) o s₂ := hq
  obtain ⟨x, ce, rfl, hce, hcv, hcl, hWm, hsm⟩ := hq'
  obtain ⟨T', X', hWT, hsT, ht⟩ := X₁.outOfThrown (g := { g with stack := rest }) hg (mk := mk) (a := (Value.ref b :: As).toArray) hend hWm hsm
  have hh : T'.heap[x]? = some ce := by
    have h9 : s₂.heap = T'.heap := by rw [ht]; exact Stand.throwing_heap _ _ _
    rw [← h9]; exact hce
  have hcl2 : s.vm.findClass E = some ce.cls := by
    have h9 : (T.setVm vm₁).vm.findClass E = some ce.cls := hcl
    rw [X₁.warmed.alike.findClass] at h9
    exact h9
  refine ⟨x, ce, T', X', hh, hcv, hcl2, ?_⟩
  rw [← ht]
  exact hstep₁ _ fun acts => by rw [doInvoke_state]; exact hsteps
/-- it goes on to the caller -/
theorem xt_pass (hr : xt_Run p l e R s m args below meth c (F0 m pc ls st0) rest E) (htab : c.exceptionTable.toList = []) (hlocks : meth.locks = false) : W p l e R s m args below meth c s.heap [] 0 0 (xt_MQ below E s) (F0 m pc ls st0) := by
  intro T hT X
  obtain ⟨x, ce, T', X', hce, hcv, hcl, st⟩ := hr T hT X
  obtain ⟨st1, hrun, hend, hW, hsm⟩ := X'.leaveThrown x (g := F0 m pc ls rest) rfl rfl rfl (by rw [htab]; exact fun x hx => nomatch hx) hlocks
  exact ⟨_, st.trans st1, .threw x, hrun, hend, x, ce, rfl, hce, hcv, hcl, hW, hsm⟩
/-- the search finds the one row of the table -/
theorem xt_find {S : State} {f : JFrame} {a : Addr} {h : ExceptionTableEntry} {k : ClassId} {cell : Cell} (hm : S.vm.method? f.method = some meth) (hc : meth.code = some c) (htab : c.exceptionTable.toList = [h]) (hx : covers h f.pc = true) (h0 : h.catchType ≠ 0)
    (hl : S.vm.ClassLinks e.platform f.method.cls h.catchType k) (hcell : S.heap[a]? = some cell) (hobj : ∀ z, cell.vm ≠ .statics z) (hk : ∃ z, S.vm.classes[cell.cls]? = some z) (hc2 : ∃ z, S.vm.classes[k]? = some z) (hfit : S.vm.assignable cell.cls k = true)
    (P : Handler → Pre) (B : CtlPost) (d : Bool) (acts : List Action) : wp (findHandler f a) P B e d acts S ↔ P (.found h.handlerPc) d acts (S.setVm (S.vm.noted f.method.cls h.catchType (.cls k))) := by
  rw [Jvm.W.findHandler_eq hm hc, htab]
  simp only [covers] at hx
  obtain ⟨ha, ht⟩ := (resolveClass_links e.toSetting hl).op (op := VmOp.resolveClass f.method.cls h.catchType) rfl
  have hal : S.vm.Alike (S.vm.noted f.method.cls h.catchType (.cls k)) := (Vm.Alike.refl S.vm).noted _ _ _
  obtain ⟨k1, hk1⟩ := hk
  obtain ⟨k2, hk2⟩ := hc2
  obtain ⟨k1', hk1', -⟩ := hal.2.2 _ _ hk1
  obtain ⟨k2', hk2', -⟩ := hal.2.2 _ _ hk2
  have hfit' : (S.vm.noted f.method.cls h.catchType (.cls k)).assignable cell.cls k = true := by rw [hal.assignable]; exact hfit
  simp [findHandler.go, hx, h0, ha, ht, hcell, hobj, hk1', hk2', hfit', VmOp.dirties, VmOp.acts]
/-- it is caught here: the handler goes on with the reference alone on the stack -/
theorem xt_catch {h : ExceptionTableEntry} (hr : xt_Run p l e R s m args below meth c (F0 m pc ls st0) rest E) (hown : s.vm.findClass own = some m.cls) (htab : c.exceptionTable.toList = [h]) (hx : covers h pc = true) (h0 : h.catchType ≠ 0)
    (hlink : (Cond.classLink own h.catchType E).before args s = true) (hcast : (Cond.castable E E).before args s = true)
    (kk : ∀ (x : Addr) (H1 : Heap), s.heap.size ≤ H1.size → (∀ q : Nat, q < s.heap.size → H1[q]? = s.heap[q]?) → W p l e R s m args below meth c H1 [] 1 6 Q (F0 m h.handlerPc ls [.ref x])) : W p l e R s m args below meth c s.heap [] 0 0 Q (F0 m pc ls st0) := by
  intro T hT X
  obtain ⟨x, ce, T', X', hce, hcv, hcl, st⟩ := hr T hT X
  have hpl : e.platform.magicAccessors = ({} : Platform).magicAccessors := by rw [X.admits.platform]
  obtain ⟨k, hk, hlk⟩ := Cond.classLink_spec hown hlink e.platform hpl
  obtain ⟨c3, c4, hc3, hc4, hasg⟩ := Cond.castable_spec hcast
  have e9 : k = ce.cls := Option.some.inj (hk.symm.trans hcl)
  subst e9
  cases Option.some.inj (hc3.symm.trans hcl)
  cases Option.some.inj (hc4.symm.trans hcl)
  obtain ⟨dk, _, _, kt, hd, _, _, _, _, hkt, _, hopen⟩ := hlk.here
  have hal := X'.warmed.alike
  obtain ⟨kt', hkt', -⟩ := hal.2.2 _ _ hkt
  have hW' : s.WarmedH (T'.vm.noted m.cls h.catchType (.cls ce.cls)) := X'.warmed.noted hd hopen (State.rightAt_cls hlk)
  have X2 := X'.noted hW'
  have hvm : ((T'.setTop (F0 m pc ls rest)).pushFrame (.throwing x)).vm = T'.vm := Stand.throwing_vm _ _ _
  have hhp : ((T'.setTop (F0 m pc ls rest)).pushFrame (.throwing x)).heap = T'.heap := Stand.throwing_heap _ _ _
  have hfind := fun (P : Handler → Pre) (B : CtlPost) (d : Bool) (acts : List Action) => xt_find (meth := meth) (c := c) (e := e) (S := (T'.setTop (F0 m pc ls rest)).pushFrame (.throwing x)) (f := F0 m pc ls rest) (a := x) (h := h) (k := ce.cls) (cell := ce)
    (by rw [hvm]; exact X'.method') X'.code htab hx h0 (by rw [hvm]; exact X'.warmed.classLinks hlk) (by rw [hhp]; exact hce) (fun z hz => by rw [hcv] at hz; cases hz) ⟨kt', by rw [hvm]; exact hkt'⟩ ⟨kt', by rw [hvm]; exact hkt'⟩ (by rw [hvm, hal.assignable]; exact hasg) P B d acts
  obtain ⟨t, a1, b1⟩ := kk x T'.heap (by
      have h9 := X'.same.2.1
      exact h9) (xt_kept (U := T') X'.same) (T'.setVm (T'.vm.noted m.cls h.catchType (.cls ce.cls))) rfl X2
  refine ⟨t, st.trans ?_, b1⟩
  obtain ⟨hgo, hwi⟩ := At.throwing (g := F0 m pc ls rest) X'.here x
  refine Steps.head hgo hwi ?_
  have hst : (stepThrowing e ((T'.setTop (F0 m pc ls rest)).pushFrame (.throwing x)) x (.java (F0 m pc ls rest) :: below)).1 = (((T'.setTop (F0 m pc ls rest)).pushFrame (.throwing x)).setVm (((T'.setTop (F0 m pc ls rest)).pushFrame (.throwing x)).vm.noted m.cls h.catchType (.cls ce.cls))).setFrames (.java (F0 m h.handlerPc ls [.ref x]) :: below) := by
    simp only [stepThrowing, searchFrame, vmDo]
    generalize hres : Sem.go _ e false [] ((T'.setTop (F0 m pc ls rest)).pushFrame (.throwing x)) = res
    obtain ⟨as, rfl, -⟩ := Sem.eq_ok_of hres (a := Handler.found h.handlerPc) (s' := ((T'.setTop (F0 m pc ls rest)).pushFrame (.throwing x)).setVm (((T'.setTop (F0 m pc ls rest)).pushFrame (.throwing x)).vm.noted m.cls h.catchType (.cls ce.cls))) (acts' := []) (by simp [hfind _ _ _ _])
    rfl
  obtain ⟨g₀, hg⟩ := Option.isSome_iff_exists.mp X'.here.top
  obtain ⟨r, hfrs⟩ := State.topJava?_eq_some.mp hg
  have htl : r = below := by
    have h9 := X'.tail
    rw [hfrs] at h9
    exact h9
  subst htl
  rw [stepThread_throwing (frames_entered X'.here.top _), hfrs, List.tail_cons, hst, hvm]
  have hfr2 : (T'.setVm (T'.vm.noted m.cls h.catchType (.cls ce.cls))).frames = .java g₀ :: r := hfrs
  rw [State.setTop_of_frames _ hfr2] at a1
  have e1 : ((T'.setTop (F0 m pc ls rest)).pushFrame (.throwing x)).setVm (T'.vm.noted m.cls h.catchType (.cls ce.cls)) = (T'.setVm (T'.vm.noted m.cls h.catchType (.cls ce.cls))).setFrames (.throwing x :: .java (F0 m pc ls rest) :: r) := by
    rw [State.pushFrame, State.frames_setTop _ hfrs, State.setTop_of_frames _ hfrs, State.setFrames_setFrames]
    rfl
  rw [e1, State.setFrames_setFrames]
  exact a1
end XT
section XS
variable {p : Program} {l : Launch} {e : Env} {R : Room} {s : State} {m : MethodId} {args : Array Value} {below : List Frame} {meth : Method} {c : Code} {H : Heap} {locs : List Loc} {cells slots : Nat}
/-- a static method with a table, called: its words and its room -/
abbrev xt_CSW (R : Room) (s : State) (args : Array Value) (own : String) (index : Nat) (y : MethodName) (bytes : ByteArray) (maxL : Nat) (ret : Option FieldType) (hh : List (Nat × Nat × Nat × Nat)) (ws : List Cond) (rm : Room) (mc ms n : Nat) : Prop :=
  (rm.cells = mc ∧ rm.slots = ms ∧ rm.frames + 1 ≤ R.frames ∧ 8 + (maxL + 11) + rm.locals ≤ R.locals) ∧ ((∀ w ∈ ws, ∀ (a' : Array Value) (U : State), s.WarmedH U.vm → w.before a' U = true) ∧ Cond.codeWith y bytes maxL ret hh ∈ ws) ∧
  ((Cond.codeWith y bytes maxL ret hh).before args s = true ∧ (Cond.initialized y.cls).before args s = true ∧ (Cond.static y).before args s = true ∧ (Cond.methodLink own index y).before args s = true) ∧
  (y.cls ≠ "java/lang/invoke/MethodHandle" ∧ y.cls ≠ "java/lang/invoke/VarHandle") ∧ (∀ sig, parseMethodDescriptor y.desc = some sig → n = sig.parameters.length)
theorem xt_cwSW {own : String} {index maxL mc ms : Nat} {y : MethodName} {bytes : ByteArray} {ret : Option FieldType} {hh : List (Nat × Nat × Nat × Nat)} {Ts ws ws' : List Cond} {rm : Room} (n : Nat) (ht : ∀ w ∈ Ts, w.before args s = true) (hG : GoodIn Ts ws) (hw : ws = Cond.codeWith y bytes maxL ret hh :: ws') (hrc : rm.cells = mc) (hrs : rm.slots = ms)
    (hini : (Cond.initialized y.cls).before args s = true) (hst : (Cond.static y).before args s = true) (hl : (Cond.methodLink own index y).before args s = true)
    (hd : y.cls ≠ "java/lang/invoke/MethodHandle" ∧ y.cls ≠ "java/lang/invoke/VarHandle" ∧ (parseMethodDescriptor y.desc).map (fun d => d.parameters.length) = some n) (hR : rm.frames + 1 ≤ R.frames ∧ 8 + (maxL + 11) + rm.locals ≤ R.locals) :
    xt_CSW R s args own index y bytes maxL ret hh ws rm mc ms n := by
  have hc : Cond.codeWith y bytes maxL ret hh ∈ ws := by rw [hw]; exact List.mem_cons_self
  refine ⟨⟨hrc, hrs, hR.1, hR.2⟩, ⟨pay_in ht hG, hc⟩, ⟨ht _ (hG _ hc).1, hini, hst, hl⟩, ⟨hd.1, hd.2.1⟩, fun sig h => ?_⟩
  have h2 := hd.2.2
  rw [h] at h2
  exact (Option.some.inj h2).symm
theorem xt_runSW {y : MethodName} {bytes cc : ByteArray} {maxL nL mc ms n index : Nat} {ret : Option FieldType} {hh : List (Nat × Nat × Nat × Nat)} {ws Ts : List Cond} {rm : Room} {Pc : Array Value → State → Prop} {Qc : Array Value → State → Outcome → State → Prop} {free : Addr → Prop} {own : String} {As rest : List Value} {g : JFrame}
    (S : CallFix p m c cc nL s args Ts own) (hM : Met l y ws rm Pc Qc mc ms free) (cw : xt_CSW R s args own index y bytes maxL ret hh ws rm mc ms n) (hp : PreS s H Pc As)
    (hg : g.method = m) (hn : As.length = n) (hsize : g.locals.size = nL) (hstack : g.stack = As.reverse ++ rest) (hW : 2 * g.monitorRoom + (rest.map fun v => v.category).sum ≤ 8) (hdg : decode cc g.pc = .ok (.invokestatic index, 3)) (hf : cells + mc ≤ R.cells ∧ slots + ms ≤ R.slots) :
    va_Run p l e R s m args below meth c H locs cells slots mc ms g rest (Qc As.toArray) free := by
  obtain ⟨⟨hrc, hrs, hfr, hlo⟩, ⟨hws, hcw⟩, ⟨hcode, hini, hst, hlk⟩, hy, hlen⟩ := cw
  obtain ⟨hx, hb, hml, ho, -⟩ := S
  have hK : Back l R p e below s args y 3 8 (PreOf R mc ms Pc) (PostOf Qc mc ms free) :=
    va_backW (hh := hh) (bytes := bytes) (maxL := maxL) (ret := ret) hM hp.1 hrc hrs hfr hlo hws hcw (fun a' U hW => word_at hW (Or.inl (by first | rfl | simp [Cond.onTables, Cond.keeps, Cond.steady])) hini)
  intro T hT X
  obtain ⟨mk, methM, cM, hnamed, hmethM, -, -, -, -, -, -, hsigM⟩ := Cond.codeWith_spec hcode
  have hstatic : methM.isStatic = true := Cond.static_spec hnamed hmethM hst
  obtain ⟨kP, hkP, -⟩ := className_of_methodNamed hnamed
  have hinitP : kP.init = .initialized := Cond.initialized_spec (findClass_of_methodNamed hnamed) hkP hini
  obtain ⟨vm₁, X₁, hstep₁⟩ := X.invokestatic hx ho hlk hnamed hmethM hstatic hkP hinitP hy (g := g) hg (argsL := As) (rest := rest) (hn.trans (hlen _ hsigM)) hstack (by rw [hb]; exact hdg)
  obtain ⟨v, ⟨U', l2, c2, s2⟩, X', ⟨g', mk', t, L, e1, e2, hq, h1, hL, h2, h3⟩, hsteps⟩ := hK m meth c ⟨T.setVm vm₁, locs, cells, slots⟩ { g with stack := rest } (.invokestatic index) mk As.toArray X₁ hg (hsize.trans hml.symm) (by rw [hb]; exact hdg) hW (X₁.named hnamed) ⟨hf.1, hf.2, hp.2 (T.setVm vm₁) hT X₁.warmed⟩
  dsimp only [Pt.U, Pt.locs, Pt.cells, Pt.slots] at X' e1 e2 h1 h2 h3 hsteps
  subst h1; subst h2; subst h3
  exact ⟨v, (T.setVm vm₁).calling g' mk' As.toArray, t, U', L, hT, X', hL, e1, e2, hq, fun target h => hstep₁ _ fun acts => by rw [doInvoke_state]; exact hsteps.trans h⟩
/-- the table of a method's body -/
theorem xt_table {x y : MethodName} {Sp : Spec} {cc bytes : ByteArray} {maxL maxL' : Nat} {ret ret' : Option FieldType} {s₁ : State} {hh : List (Nat × Nat × Nat × Nat)}
    (B : BodyLoose p l y Sp cc maxL ret e s m args below meth c s₁) (h : (Cond.codeWith y bytes maxL' ret' hh).before args s = true) : c.exceptionTable.toList = tableOf hh := by
  obtain ⟨m9, meth9, c9, hn9, h1, h2, -, -, h6, -⟩ := Cond.codeWith_spec h
  have e0 : m9 = m := Option.some.inj (hn9.symm.trans B.named)
  subst e0
  have e1 : meth9 = meth := Option.some.inj (h1.symm.trans B.method)
  subst e1
  have e2 : c9 = c := Option.some.inj (h2.symm.trans (Stand.of_body B).code)
  subst e2
  rw [← h6, table_eq]
end XS
end
section
theorem goodIn_r {big : List Cond} (ws : List Cond) (ps : List Nat) (hp : ws = ps.filterMap (fun i => big[i]?)) (h : ws.all goodWord = true) : GoodIn big ws := by
  intro w hw
  have h1 := List.all_eq_true.mp h w hw
  rw [hp] at hw
  obtain ⟨i, -, hi⟩ := List.mem_filterMap.mp hw
  have hm : w ∈ big := by first | exact List.mem_of_getElem? hi | exact List.getElem?_mem hi
  exact ⟨hm, good_of_word h1⟩
theorem goodIn_app {big a b : List Cond} (ha : GoodIn big a) (hb : GoodIn big b) : GoodIn big (a ++ b) := fun w h => (List.mem_append.mp h).elim (ha w) (hb w)
theorem goodIn_ca {big a b : List Cond} {c : Cond} (ha : GoodIn big (c :: a)) (hb : GoodIn big b) : GoodIn big (c :: (a ++ b)) := fun w h => (List.mem_cons.mp h).elim (fun e => ha w (List.mem_cons.mpr (Or.inl e))) (fun h => (List.mem_append.mp h).elim (fun h => ha w (List.mem_cons.mpr (Or.inr h))) (hb w))
theorem goodIn_sub {big ws : List Cond} (hm : ∀ w ∈ ws, w ∈ big) (h : ws.all goodWord = true) : GoodIn big ws := fun w hw => ⟨hm w hw, good_of_word (List.all_eq_true.mp h w hw)⟩
/-! ===== BEGIN printed: names, fields, word lists, decode rows ===== -/
def RX0 : String := "CardBook"
def TX0 : u_T := fun k => match k with
  | 0 => ("CardBook", "marks", "[I", true)
  | _ => ("CardBook", "cells", "I", false)
def tyX0 : Nat → FieldType := fun k => match k with
  | 0 => .array .int
  | _ => .int
abbrev wsX00 : List Cond := u_ws RX0 TX0 2
theorem nmX0 : ∀ a, a < 2 → ∀ b, b < 2 → a ≠ b → (TX0 a).2.1 ≠ (TX0 b).2.1 := by decide +kernel
theorem tyX0_ok : ∀ k, k < 2 → parseFieldDescriptor (TX0 k).2.2.1 = some (tyX0 k) := by decide +kernel
abbrev cX0_init : ByteArray := prog_1_method_1_code
def yX0_init : MethodName := ⟨RX0, "<init>", "()V"⟩
abbrev cX0_space : ByteArray := prog_1_method_2_code
def yX0_space : MethodName := ⟨RX0, "space", "(I)I"⟩
abbrev cX0_write : ByteArray := prog_1_method_3_code
def yX0_write : MethodName := ⟨RX0, "write", "(I)I"⟩
abbrev cX0_cover : ByteArray := prog_1_method_4_code
def yX0_cover : MethodName := ⟨RX0, "cover", "(II)I"⟩
abbrev cX0_clean : ByteArray := prog_1_method_5_code
def yX0_clean : MethodName := ⟨RX0, "clean", "(IZ)Z"⟩
abbrev cX0_unsave : ByteArray := prog_1_method_6_code
def yX0_unsave : MethodName := ⟨RX0, "unsave", "(I)Z"⟩
abbrev cX0_card : ByteArray := prog_1_method_7_code
def yX0_card : MethodName := ⟨RX0, "card", "(I)I"⟩
abbrev cX0_nextDirty : ByteArray := prog_1_method_8_code
def yX0_nextDirty : MethodName := ⟨RX0, "nextDirty", "(I)I"⟩
abbrev cX0_nextSaved : ByteArray := prog_1_method_9_code
def yX0_nextSaved : MethodName := ⟨RX0, "nextSaved", "(I)I"⟩
abbrev cX0_clear : ByteArray := prog_1_method_10_code
def yX0_clear : MethodName := ⟨RX0, "clear", "()I"⟩
abbrev cX0_count : ByteArray := prog_1_method_11_code
def yX0_count : MethodName := ⟨RX0, "count", "(I)I"⟩
abbrev cX0_cardOf : ByteArray := prog_1_method_12_code
def yX0_cardOf : MethodName := ⟨RX0, "cardOf", "(I)I"⟩
abbrev cX0_cardCount : ByteArray := prog_1_method_13_code
def yX0_cardCount : MethodName := ⟨RX0, "cardCount", "()I"⟩
abbrev cX0_requireCell : ByteArray := prog_1_method_14_code
def yX0_requireCell : MethodName := ⟨RX0, "requireCell", "(I)V"⟩
abbrev cX0_requireCard : ByteArray := prog_1_method_15_code
def yX0_requireCard : MethodName := ⟨RX0, "requireCard", "(I)V"⟩
abbrev cX0_removeMark : ByteArray := prog_1_method_16_code
def yX0_removeMark : MethodName := ⟨RX0, "removeMark", "(II)Z"⟩
abbrev cX0_firstWith : ByteArray := prog_1_method_17_code
def yX0_firstWith : MethodName := ⟨RX0, "firstWith", "(II)I"⟩
abbrev cX0_countWith : ByteArray := prog_1_method_18_code
def yX0_countWith : MethodName := ⟨RX0, "countWith", "(I)I"⟩
def RX1 : String := "CardBookModel"
def TX1 : u_T := fun k => match k with
  | 0 => ("CardBookModel", "thrown", "I", false)
  | 1 => ("CardBookModel", "cells", "I", false)
  | 2 => ("CardBookModel", "dirty", "[Z", true)
  | _ => ("CardBookModel", "saved", "[Z", true)
def tyX1 : Nat → FieldType := fun k => match k with
  | 0 => .int
  | 1 => .int
  | 2 => .array .boolean
  | _ => .array .boolean
abbrev wsX10 : List Cond := u_ws RX1 TX1 4
theorem nmX1 : ∀ a, a < 4 → ∀ b, b < 4 → a ≠ b → (TX1 a).2.1 ≠ (TX1 b).2.1 := by decide +kernel
theorem tyX1_ok : ∀ k, k < 4 → parseFieldDescriptor (TX1 k).2.2.1 = some (tyX1 k) := by decide +kernel
abbrev cX1_init : ByteArray := prog_3_method_1_code
def yX1_init : MethodName := ⟨RX1, "<init>", "()V"⟩
abbrev cX1_thrown : ByteArray := prog_3_method_2_code
def yX1_thrown : MethodName := ⟨RX1, "thrown", "()I"⟩
abbrev cX1_goes : ByteArray := prog_3_method_3_code
def yX1_goes : MethodName := ⟨RX1, "goes", "(Z)Z"⟩
abbrev cX1_space : ByteArray := prog_3_method_8_code
def yX1_space : MethodName := ⟨RX1, "space", "(I)I"⟩
def RJ0 : String := "java/lang/String"
def TJ0 : u_T := fun k => match k with
  | _ => ("", "", "", false)
def tyJ0 : Nat → FieldType := fun k => match k with
  | _ => .int
abbrev wsJ00 : List Cond := u_ws RJ0 TJ0 0
theorem nmJ0 : ∀ a, a < 0 → ∀ b, b < 0 → a ≠ b → (TJ0 a).2.1 ≠ (TJ0 b).2.1 := by decide +kernel
theorem tyJ0_ok : ∀ k, k < 0 → parseFieldDescriptor (TJ0 k).2.2.1 = some (tyJ0 k) := by decide +kernel
def RL : String := "CardBookLaw"
abbrev cL_space : ByteArray := method_3_code
def yL_space : MethodName := ⟨RL, "space", "(LCardBook;I[J)I"⟩
abbrev cL_write : ByteArray := method_4_code
def yL_write : MethodName := ⟨RL, "write", "(LCardBook;I[J)I"⟩
abbrev cL_cover : ByteArray := method_5_code
def yL_cover : MethodName := ⟨RL, "cover", "(LCardBook;II[J)I"⟩
abbrev cL_clean : ByteArray := method_6_code
def yL_clean : MethodName := ⟨RL, "clean", "(LCardBook;IZ[J)I"⟩
abbrev cL_unsave : ByteArray := method_7_code
def yL_unsave : MethodName := ⟨RL, "unsave", "(LCardBook;I[J)I"⟩
abbrev cL_card : ByteArray := method_8_code
def yL_card : MethodName := ⟨RL, "card", "(LCardBook;I[J)I"⟩
abbrev cL_nextDirty : ByteArray := method_9_code
def yL_nextDirty : MethodName := ⟨RL, "nextDirty", "(LCardBook;I[J)I"⟩
abbrev cL_nextSaved : ByteArray := method_10_code
def yL_nextSaved : MethodName := ⟨RL, "nextSaved", "(LCardBook;I[J)I"⟩
abbrev cL_count : ByteArray := method_11_code
def yL_count : MethodName := ⟨RL, "count", "(LCardBook;I[J)I"⟩
abbrev cL_law : ByteArray := code
def yL_law : MethodName := ⟨RL, "law", "([I)Z"⟩
def wsX0_init : List Cond := .code yX0_init cX0_init 1 none :: ([.methodLink RX0 3 objectInit, .instanceMethod objectInit, .code objectInit ⟨#[0xb1]⟩ 1 none, .arrayClass .int, .fieldLink RX0 9 "CardBook" "marks" "[I", .fieldLink RX0 13 "CardBook" "cells" "I"] ++ wsX00)
def wsX0_cardOf : List Cond := .code yX0_cardOf cX0_cardOf 1 (some .int) :: ([])
def wsX0_cardCount : List Cond := .code yX0_cardCount cX0_cardCount 1 (some .int) :: ([.fieldLink RX0 13 "CardBook" "cells" "I", .methodLink RX0 32 yX0_cardOf, .static yX0_cardOf, .initialized RX0, .code yX0_cardOf cX0_cardOf 1 (some .int)] ++ wsX00)
def wsX0_countWith : List Cond := .code yX0_countWith cX0_countWith 5 (some .int) :: ([.fieldLink RX0 9 "CardBook" "marks" "[I", .methodLink RX0 55 yX0_cardCount, .instanceMethod yX0_cardCount, .selects RX0 yX0_cardCount yX0_cardCount, .initialized RX0, .code yX0_cardCount cX0_cardCount 1 (some .int), .fieldLink RX0 13 "CardBook" "cells" "I", .methodLink RX0 32 yX0_cardOf, .static yX0_cardOf, .code yX0_cardOf cX0_cardOf 1 (some .int)] ++ wsX00)
def wsX0_clear : List Cond := .code yX0_clear cX0_clear 4 (some .int) :: ([.fieldLink RX0 9 "CardBook" "marks" "[I", .methodLink RX0 52 yX0_countWith, .instanceMethod yX0_countWith, .selects RX0 yX0_countWith yX0_countWith, .initialized RX0, .code yX0_countWith cX0_countWith 5 (some .int), .methodLink RX0 55 yX0_cardCount, .instanceMethod yX0_cardCount, .selects RX0 yX0_cardCount yX0_cardCount, .code yX0_cardCount cX0_cardCount 1 (some .int), .fieldLink RX0 13 "CardBook" "cells" "I", .methodLink RX0 32 yX0_cardOf, .static yX0_cardOf, .code yX0_cardOf cX0_cardOf 1 (some .int)] ++ wsX00)
def wsX0_space : List Cond := .code yX0_space cX0_space 3 (some .int) :: ([.classLink RX0 17 "java/lang/IllegalArgumentException", .initialized "java/lang/IllegalArgumentException", .fieldLink RX0 13 "CardBook" "cells" "I", .methodLink RX0 24 yX0_clear, .instanceMethod yX0_clear, .selects RX0 yX0_clear yX0_clear, .initialized RX0, .code yX0_clear cX0_clear 4 (some .int), .fieldLink RX0 9 "CardBook" "marks" "[I", .methodLink RX0 52 yX0_countWith, .instanceMethod yX0_countWith, .selects RX0 yX0_countWith yX0_countWith, .code yX0_countWith cX0_countWith 5 (some .int), .methodLink RX0 55 yX0_cardCount, .instanceMethod yX0_cardCount, .selects RX0 yX0_cardCount yX0_cardCount, .code yX0_cardCount cX0_cardCount 1 (some .int), .methodLink RX0 32 yX0_cardOf, .static yX0_cardOf, .code yX0_cardOf cX0_cardOf 1 (some .int)] ++ wsX00 ++ (xt_ws RX0 21 "java/lang/IllegalArgumentException" ["java/lang/RuntimeException", "java/lang/Exception"]).filter goodWord)
def wsX0_requireCell : List Cond := .code yX0_requireCell cX0_requireCell 2 none :: ([.classLink RX0 36 "java/lang/IndexOutOfBoundsException", .initialized "java/lang/IndexOutOfBoundsException", .fieldLink RX0 13 "CardBook" "cells" "I"] ++ wsX00 ++ (xt_ws RX0 40 "java/lang/IndexOutOfBoundsException" ["java/lang/RuntimeException", "java/lang/Exception"]).filter goodWord)
def wsX0_write : List Cond := .code yX0_write cX0_write 3 (some .int) :: ([.fieldLink RX0 9 "CardBook" "marks" "[I", .methodLink RX0 28 yX0_requireCell, .instanceMethod yX0_requireCell, .selects RX0 yX0_requireCell yX0_requireCell, .initialized RX0, .code yX0_requireCell cX0_requireCell 2 none, .classLink RX0 36 "java/lang/IndexOutOfBoundsException", .initialized "java/lang/IndexOutOfBoundsException", .fieldLink RX0 13 "CardBook" "cells" "I", .methodLink RX0 32 yX0_cardOf, .static yX0_cardOf, .code yX0_cardOf cX0_cardOf 1 (some .int)] ++ wsX00 ++ (xt_ws RX0 40 "java/lang/IndexOutOfBoundsException" ["java/lang/RuntimeException", "java/lang/Exception"]).filter goodWord)
def wsX0_cover : List Cond := .code yX0_cover cX0_cover 6 (some .int) :: ([.classLink RX0 36 "java/lang/IndexOutOfBoundsException", .initialized "java/lang/IndexOutOfBoundsException", .fieldLink RX0 13 "CardBook" "cells" "I", .fieldLink RX0 9 "CardBook" "marks" "[I", .methodLink RX0 28 yX0_requireCell, .instanceMethod yX0_requireCell, .selects RX0 yX0_requireCell yX0_requireCell, .initialized RX0, .code yX0_requireCell cX0_requireCell 2 none, .methodLink RX0 32 yX0_cardOf, .static yX0_cardOf, .code yX0_cardOf cX0_cardOf 1 (some .int)] ++ wsX00 ++ (xt_ws RX0 40 "java/lang/IndexOutOfBoundsException" ["java/lang/RuntimeException", "java/lang/Exception"]).filter goodWord)
def wsX0_requireCard : List Cond := .code yX0_requireCard cX0_requireCard 2 none :: ([.classLink RX0 36 "java/lang/IndexOutOfBoundsException", .initialized "java/lang/IndexOutOfBoundsException", .methodLink RX0 55 yX0_cardCount, .instanceMethod yX0_cardCount, .selects RX0 yX0_cardCount yX0_cardCount, .initialized RX0, .code yX0_cardCount cX0_cardCount 1 (some .int), .fieldLink RX0 13 "CardBook" "cells" "I", .methodLink RX0 32 yX0_cardOf, .static yX0_cardOf, .code yX0_cardOf cX0_cardOf 1 (some .int)] ++ wsX00 ++ (xt_ws RX0 40 "java/lang/IndexOutOfBoundsException" ["java/lang/RuntimeException", "java/lang/Exception"]).filter goodWord)
def wsX0_removeMark : List Cond := .code yX0_removeMark cX0_removeMark 4 (some .boolean) :: ([.fieldLink RX0 9 "CardBook" "marks" "[I"] ++ wsX00)
def wsX0_clean : List Cond := .code yX0_clean cX0_clean 4 (some .boolean) :: ([.fieldLink RX0 9 "CardBook" "marks" "[I", .methodLink RX0 41 yX0_requireCard, .instanceMethod yX0_requireCard, .selects RX0 yX0_requireCard yX0_requireCard, .initialized RX0, .code yX0_requireCard cX0_requireCard 2 none, .classLink RX0 36 "java/lang/IndexOutOfBoundsException", .initialized "java/lang/IndexOutOfBoundsException", .methodLink RX0 55 yX0_cardCount, .instanceMethod yX0_cardCount, .selects RX0 yX0_cardCount yX0_cardCount, .code yX0_cardCount cX0_cardCount 1 (some .int), .fieldLink RX0 13 "CardBook" "cells" "I", .methodLink RX0 32 yX0_cardOf, .static yX0_cardOf, .code yX0_cardOf cX0_cardOf 1 (some .int), .methodLink RX0 44 yX0_removeMark, .instanceMethod yX0_removeMark, .selects RX0 yX0_removeMark yX0_removeMark, .code yX0_removeMark cX0_removeMark 4 (some .boolean)] ++ wsX00 ++ (xt_ws RX0 40 "java/lang/IndexOutOfBoundsException" ["java/lang/RuntimeException", "java/lang/Exception"]).filter goodWord)
def wsX0_unsave : List Cond := .code yX0_unsave cX0_unsave 2 (some .boolean) :: ([.methodLink RX0 41 yX0_requireCard, .instanceMethod yX0_requireCard, .selects RX0 yX0_requireCard yX0_requireCard, .initialized RX0, .code yX0_requireCard cX0_requireCard 2 none, .classLink RX0 36 "java/lang/IndexOutOfBoundsException", .initialized "java/lang/IndexOutOfBoundsException", .methodLink RX0 55 yX0_cardCount, .instanceMethod yX0_cardCount, .selects RX0 yX0_cardCount yX0_cardCount, .code yX0_cardCount cX0_cardCount 1 (some .int), .fieldLink RX0 13 "CardBook" "cells" "I", .methodLink RX0 32 yX0_cardOf, .static yX0_cardOf, .code yX0_cardOf cX0_cardOf 1 (some .int), .methodLink RX0 44 yX0_removeMark, .instanceMethod yX0_removeMark, .selects RX0 yX0_removeMark yX0_removeMark, .code yX0_removeMark cX0_removeMark 4 (some .boolean), .fieldLink RX0 9 "CardBook" "marks" "[I"] ++ wsX00 ++ (xt_ws RX0 40 "java/lang/IndexOutOfBoundsException" ["java/lang/RuntimeException", "java/lang/Exception"]).filter goodWord)
def wsX0_card : List Cond := .code yX0_card cX0_card 2 (some .int) :: ([.fieldLink RX0 9 "CardBook" "marks" "[I", .methodLink RX0 41 yX0_requireCard, .instanceMethod yX0_requireCard, .selects RX0 yX0_requireCard yX0_requireCard, .initialized RX0, .code yX0_requireCard cX0_requireCard 2 none, .classLink RX0 36 "java/lang/IndexOutOfBoundsException", .initialized "java/lang/IndexOutOfBoundsException", .methodLink RX0 55 yX0_cardCount, .instanceMethod yX0_cardCount, .selects RX0 yX0_cardCount yX0_cardCount, .code yX0_cardCount cX0_cardCount 1 (some .int), .fieldLink RX0 13 "CardBook" "cells" "I", .methodLink RX0 32 yX0_cardOf, .static yX0_cardOf, .code yX0_cardOf cX0_cardOf 1 (some .int)] ++ wsX00 ++ (xt_ws RX0 40 "java/lang/IndexOutOfBoundsException" ["java/lang/RuntimeException", "java/lang/Exception"]).filter goodWord)
def wsX0_firstWith : List Cond := .code yX0_firstWith cX0_firstWith 5 (some .int) :: ([.classLink RX0 17 "java/lang/IllegalArgumentException", .initialized "java/lang/IllegalArgumentException", .fieldLink RX0 9 "CardBook" "marks" "[I", .methodLink RX0 55 yX0_cardCount, .instanceMethod yX0_cardCount, .selects RX0 yX0_cardCount yX0_cardCount, .initialized RX0, .code yX0_cardCount cX0_cardCount 1 (some .int), .fieldLink RX0 13 "CardBook" "cells" "I", .methodLink RX0 32 yX0_cardOf, .static yX0_cardOf, .code yX0_cardOf cX0_cardOf 1 (some .int)] ++ wsX00 ++ (xt_ws RX0 21 "java/lang/IllegalArgumentException" ["java/lang/RuntimeException", "java/lang/Exception"]).filter goodWord)
def wsX0_nextDirty : List Cond := .code yX0_nextDirty cX0_nextDirty 2 (some .int) :: ([.methodLink RX0 48 yX0_firstWith, .instanceMethod yX0_firstWith, .selects RX0 yX0_firstWith yX0_firstWith, .initialized RX0, .code yX0_firstWith cX0_firstWith 5 (some .int), .classLink RX0 17 "java/lang/IllegalArgumentException", .initialized "java/lang/IllegalArgumentException", .fieldLink RX0 9 "CardBook" "marks" "[I", .methodLink RX0 55 yX0_cardCount, .instanceMethod yX0_cardCount, .selects RX0 yX0_cardCount yX0_cardCount, .code yX0_cardCount cX0_cardCount 1 (some .int), .fieldLink RX0 13 "CardBook" "cells" "I", .methodLink RX0 32 yX0_cardOf, .static yX0_cardOf, .code yX0_cardOf cX0_cardOf 1 (some .int)] ++ wsX00 ++ (xt_ws RX0 21 "java/lang/IllegalArgumentException" ["java/lang/RuntimeException", "java/lang/Exception"]).filter goodWord)
def wsX0_nextSaved : List Cond := .code yX0_nextSaved cX0_nextSaved 2 (some .int) :: ([.methodLink RX0 48 yX0_firstWith, .instanceMethod yX0_firstWith, .selects RX0 yX0_firstWith yX0_firstWith, .initialized RX0, .code yX0_firstWith cX0_firstWith 5 (some .int), .classLink RX0 17 "java/lang/IllegalArgumentException", .initialized "java/lang/IllegalArgumentException", .fieldLink RX0 9 "CardBook" "marks" "[I", .methodLink RX0 55 yX0_cardCount, .instanceMethod yX0_cardCount, .selects RX0 yX0_cardCount yX0_cardCount, .code yX0_cardCount cX0_cardCount 1 (some .int), .fieldLink RX0 13 "CardBook" "cells" "I", .methodLink RX0 32 yX0_cardOf, .static yX0_cardOf, .code yX0_cardOf cX0_cardOf 1 (some .int)] ++ wsX00 ++ (xt_ws RX0 21 "java/lang/IllegalArgumentException" ["java/lang/RuntimeException", "java/lang/Exception"]).filter goodWord)
def wsX0_count : List Cond := .code yX0_count cX0_count 2 (some .int) :: ([.classLink RX0 17 "java/lang/IllegalArgumentException", .initialized "java/lang/IllegalArgumentException", .fieldLink RX0 13 "CardBook" "cells" "I", .methodLink RX0 55 yX0_cardCount, .instanceMethod yX0_cardCount, .selects RX0 yX0_cardCount yX0_cardCount, .initialized RX0, .code yX0_cardCount cX0_cardCount 1 (some .int), .methodLink RX0 32 yX0_cardOf, .static yX0_cardOf, .code yX0_cardOf cX0_cardOf 1 (some .int), .methodLink RX0 52 yX0_countWith, .instanceMethod yX0_countWith, .selects RX0 yX0_countWith yX0_countWith, .code yX0_countWith cX0_countWith 5 (some .int), .fieldLink RX0 9 "CardBook" "marks" "[I"] ++ wsX00 ++ (xt_ws RX0 21 "java/lang/IllegalArgumentException" ["java/lang/RuntimeException", "java/lang/Exception"]).filter goodWord)
def wsX1_init : List Cond := .code yX1_init cX1_init 1 none :: ([.methodLink RX1 1 objectInit, .instanceMethod objectInit, .code objectInit ⟨#[0xb1]⟩ 1 none, .fieldLink RX1 7 "CardBookModel" "cells" "I", .arrayClass .boolean, .fieldLink RX1 13 "CardBookModel" "dirty" "[Z", .fieldLink RX1 17 "CardBookModel" "saved" "[Z"] ++ wsX10)
def wsX1_thrown : List Cond := .code yX1_thrown cX1_thrown 1 (some .int) :: ([.fieldLink RX1 20 "CardBookModel" "thrown" "I"] ++ wsX10)
def wsX1_goes : List Cond := .code yX1_goes cX1_goes 2 (some .boolean) :: ([.fieldLink RX1 20 "CardBookModel" "thrown" "I"] ++ wsX10)
def wsL_space_r1 : List Cond := [Cond.classLink RL 13 "java/lang/IllegalArgumentException", Cond.methodLink RL 7 yX0_space, Cond.instanceMethod yX0_space, Cond.selects RX0 yX0_space yX0_space, Cond.initialized RX0, Cond.code yX0_space cX0_space 3 (some .int), Cond.classLink RX0 17 "java/lang/IllegalArgumentException", Cond.initialized "java/lang/IllegalArgumentException", Cond.fieldLink RX0 13 "CardBook" "cells" "I", Cond.methodLink RX0 24 yX0_clear, Cond.instanceMethod yX0_clear, Cond.selects RX0 yX0_clear yX0_clear, Cond.code yX0_clear cX0_clear 4 (some .int), Cond.fieldLink RX0 9 "CardBook" "marks" "[I", Cond.methodLink RX0 52 yX0_countWith, Cond.instanceMethod yX0_countWith, Cond.selects RX0 yX0_countWith yX0_countWith, Cond.code yX0_countWith cX0_countWith 5 (some .int), Cond.methodLink RX0 55 yX0_cardCount, Cond.instanceMethod yX0_cardCount, Cond.selects RX0 yX0_cardCount yX0_cardCount, Cond.code yX0_cardCount cX0_cardCount 1 (some .int), Cond.methodLink RX0 32 yX0_cardOf, Cond.static yX0_cardOf]
def wsL_space_r2 : List Cond := [Cond.code yX0_cardOf cX0_cardOf 1 (some .int)]
def wsL_space : List Cond := .codeWith yL_space cL_space 4 (some .int) [(0, 9, 12, 13)] :: ((wsL_space_r1 ++ wsL_space_r2) ++ wsX00 ++ (xt_ws RX0 21 "java/lang/IllegalArgumentException" ["java/lang/RuntimeException", "java/lang/Exception"]).filter goodWord)
def wsL_write : List Cond := .codeWith yL_write cL_write 4 (some .int) [(0, 9, 12, 18)] :: ([.classLink RL 18 "java/lang/IndexOutOfBoundsException", .methodLink RL 15 yX0_write, .instanceMethod yX0_write, .selects RX0 yX0_write yX0_write, .initialized RX0, .code yX0_write cX0_write 3 (some .int), .fieldLink RX0 9 "CardBook" "marks" "[I", .methodLink RX0 28 yX0_requireCell, .instanceMethod yX0_requireCell, .selects RX0 yX0_requireCell yX0_requireCell, .code yX0_requireCell cX0_requireCell 2 none, .classLink RX0 36 "java/lang/IndexOutOfBoundsException", .initialized "java/lang/IndexOutOfBoundsException", .fieldLink RX0 13 "CardBook" "cells" "I", .methodLink RX0 32 yX0_cardOf, .static yX0_cardOf, .code yX0_cardOf cX0_cardOf 1 (some .int)] ++ wsX00 ++ (xt_ws RX0 40 "java/lang/IndexOutOfBoundsException" ["java/lang/RuntimeException", "java/lang/Exception"]).filter goodWord)
def wsL_cover : List Cond := .codeWith yL_cover cL_cover 5 (some .int) [(0, 10, 13, 18)] :: ([.classLink RL 18 "java/lang/IndexOutOfBoundsException", .methodLink RL 20 yX0_cover, .instanceMethod yX0_cover, .selects RX0 yX0_cover yX0_cover, .initialized RX0, .code yX0_cover cX0_cover 6 (some .int), .classLink RX0 36 "java/lang/IndexOutOfBoundsException", .initialized "java/lang/IndexOutOfBoundsException", .fieldLink RX0 13 "CardBook" "cells" "I", .fieldLink RX0 9 "CardBook" "marks" "[I", .methodLink RX0 28 yX0_requireCell, .instanceMethod yX0_requireCell, .selects RX0 yX0_requireCell yX0_requireCell, .code yX0_requireCell cX0_requireCell 2 none, .methodLink RX0 32 yX0_cardOf, .static yX0_cardOf, .code yX0_cardOf cX0_cardOf 1 (some .int)] ++ wsX00 ++ (xt_ws RX0 40 "java/lang/IndexOutOfBoundsException" ["java/lang/RuntimeException", "java/lang/Exception"]).filter goodWord)
def wsL_clean_r1 : List Cond := [Cond.classLink RL 18 "java/lang/IndexOutOfBoundsException", Cond.methodLink RL 24 yX0_clean, Cond.instanceMethod yX0_clean, Cond.selects RX0 yX0_clean yX0_clean, Cond.initialized RX0, Cond.code yX0_clean cX0_clean 4 (some .boolean), Cond.fieldLink RX0 9 "CardBook" "marks" "[I", Cond.methodLink RX0 41 yX0_requireCard, Cond.instanceMethod yX0_requireCard, Cond.selects RX0 yX0_requireCard yX0_requireCard, Cond.code yX0_requireCard cX0_requireCard 2 none, Cond.classLink RX0 36 "java/lang/IndexOutOfBoundsException", Cond.initialized "java/lang/IndexOutOfBoundsException", Cond.methodLink RX0 55 yX0_cardCount, Cond.instanceMethod yX0_cardCount, Cond.selects RX0 yX0_cardCount yX0_cardCount, Cond.code yX0_cardCount cX0_cardCount 1 (some .int), Cond.fieldLink RX0 13 "CardBook" "cells" "I", Cond.methodLink RX0 32 yX0_cardOf, Cond.static yX0_cardOf, Cond.code yX0_cardOf cX0_cardOf 1 (some .int), Cond.methodLink RX0 44 yX0_removeMark, Cond.instanceMethod yX0_removeMark, Cond.selects RX0 yX0_removeMark yX0_removeMark]
def wsL_clean_r2 : List Cond := [Cond.code yX0_removeMark cX0_removeMark 4 (some .boolean)]
def wsL_clean : List Cond := .codeWith yL_clean cL_clean 5 (some .int) [(0, 17, 20, 18)] :: ((wsL_clean_r1 ++ wsL_clean_r2) ++ wsX00 ++ (xt_ws RX0 40 "java/lang/IndexOutOfBoundsException" ["java/lang/RuntimeException", "java/lang/Exception"]).filter goodWord)
def wsL_unsave_r1 : List Cond := [Cond.classLink RL 18 "java/lang/IndexOutOfBoundsException", Cond.methodLink RL 28 yX0_unsave, Cond.instanceMethod yX0_unsave, Cond.selects RX0 yX0_unsave yX0_unsave, Cond.initialized RX0, Cond.code yX0_unsave cX0_unsave 2 (some .boolean), Cond.methodLink RX0 41 yX0_requireCard, Cond.instanceMethod yX0_requireCard, Cond.selects RX0 yX0_requireCard yX0_requireCard, Cond.code yX0_requireCard cX0_requireCard 2 none, Cond.classLink RX0 36 "java/lang/IndexOutOfBoundsException", Cond.initialized "java/lang/IndexOutOfBoundsException", Cond.methodLink RX0 55 yX0_cardCount, Cond.instanceMethod yX0_cardCount, Cond.selects RX0 yX0_cardCount yX0_cardCount, Cond.code yX0_cardCount cX0_cardCount 1 (some .int), Cond.fieldLink RX0 13 "CardBook" "cells" "I", Cond.methodLink RX0 32 yX0_cardOf, Cond.static yX0_cardOf, Cond.code yX0_cardOf cX0_cardOf 1 (some .int), Cond.methodLink RX0 44 yX0_removeMark, Cond.instanceMethod yX0_removeMark, Cond.selects RX0 yX0_removeMark yX0_removeMark, Cond.code yX0_removeMark cX0_removeMark 4 (some .boolean)]
def wsL_unsave_r2 : List Cond := [Cond.fieldLink RX0 9 "CardBook" "marks" "[I"]
def wsL_unsave : List Cond := .codeWith yL_unsave cL_unsave 4 (some .int) [(0, 16, 19, 18)] :: ((wsL_unsave_r1 ++ wsL_unsave_r2) ++ wsX00 ++ (xt_ws RX0 40 "java/lang/IndexOutOfBoundsException" ["java/lang/RuntimeException", "java/lang/Exception"]).filter goodWord)
def wsL_card : List Cond := .codeWith yL_card cL_card 4 (some .int) [(0, 9, 12, 18)] :: ([.classLink RL 18 "java/lang/IndexOutOfBoundsException", .methodLink RL 32 yX0_card, .instanceMethod yX0_card, .selects RX0 yX0_card yX0_card, .initialized RX0, .code yX0_card cX0_card 2 (some .int), .fieldLink RX0 9 "CardBook" "marks" "[I", .methodLink RX0 41 yX0_requireCard, .instanceMethod yX0_requireCard, .selects RX0 yX0_requireCard yX0_requireCard, .code yX0_requireCard cX0_requireCard 2 none, .classLink RX0 36 "java/lang/IndexOutOfBoundsException", .initialized "java/lang/IndexOutOfBoundsException", .methodLink RX0 55 yX0_cardCount, .instanceMethod yX0_cardCount, .selects RX0 yX0_cardCount yX0_cardCount, .code yX0_cardCount cX0_cardCount 1 (some .int), .fieldLink RX0 13 "CardBook" "cells" "I", .methodLink RX0 32 yX0_cardOf, .static yX0_cardOf, .code yX0_cardOf cX0_cardOf 1 (some .int)] ++ wsX00 ++ (xt_ws RX0 40 "java/lang/IndexOutOfBoundsException" ["java/lang/RuntimeException", "java/lang/Exception"]).filter goodWord)
def wsL_nextDirty : List Cond := .codeWith yL_nextDirty cL_nextDirty 4 (some .int) [(0, 9, 12, 13)] :: ([.classLink RL 13 "java/lang/IllegalArgumentException", .methodLink RL 35 yX0_nextDirty, .instanceMethod yX0_nextDirty, .selects RX0 yX0_nextDirty yX0_nextDirty, .initialized RX0, .code yX0_nextDirty cX0_nextDirty 2 (some .int), .methodLink RX0 48 yX0_firstWith, .instanceMethod yX0_firstWith, .selects RX0 yX0_firstWith yX0_firstWith, .code yX0_firstWith cX0_firstWith 5 (some .int), .classLink RX0 17 "java/lang/IllegalArgumentException", .initialized "java/lang/IllegalArgumentException", .fieldLink RX0 9 "CardBook" "marks" "[I", .methodLink RX0 55 yX0_cardCount, .instanceMethod yX0_cardCount, .selects RX0 yX0_cardCount yX0_cardCount, .code yX0_cardCount cX0_cardCount 1 (some .int), .fieldLink RX0 13 "CardBook" "cells" "I", .methodLink RX0 32 yX0_cardOf, .static yX0_cardOf, .code yX0_cardOf cX0_cardOf 1 (some .int)] ++ wsX00 ++ (xt_ws RX0 21 "java/lang/IllegalArgumentException" ["java/lang/RuntimeException", "java/lang/Exception"]).filter goodWord)
def wsL_nextSaved : List Cond := .codeWith yL_nextSaved cL_nextSaved 4 (some .int) [(0, 9, 12, 13)] :: ([.classLink RL 13 "java/lang/IllegalArgumentException", .methodLink RL 38 yX0_nextSaved, .instanceMethod yX0_nextSaved, .selects RX0 yX0_nextSaved yX0_nextSaved, .initialized RX0, .code yX0_nextSaved cX0_nextSaved 2 (some .int), .methodLink RX0 48 yX0_firstWith, .instanceMethod yX0_firstWith, .selects RX0 yX0_firstWith yX0_firstWith, .code yX0_firstWith cX0_firstWith 5 (some .int), .classLink RX0 17 "java/lang/IllegalArgumentException", .initialized "java/lang/IllegalArgumentException", .fieldLink RX0 9 "CardBook" "marks" "[I", .methodLink RX0 55 yX0_cardCount, .instanceMethod yX0_cardCount, .selects RX0 yX0_cardCount yX0_cardCount, .code yX0_cardCount cX0_cardCount 1 (some .int), .fieldLink RX0 13 "CardBook" "cells" "I", .methodLink RX0 32 yX0_cardOf, .static yX0_cardOf, .code yX0_cardOf cX0_cardOf 1 (some .int)] ++ wsX00 ++ (xt_ws RX0 21 "java/lang/IllegalArgumentException" ["java/lang/RuntimeException", "java/lang/Exception"]).filter goodWord)
def wsL_count : List Cond := .codeWith yL_count cL_count 4 (some .int) [(0, 9, 12, 13)] :: ([.classLink RL 13 "java/lang/IllegalArgumentException", .methodLink RL 41 yX0_count, .instanceMethod yX0_count, .selects RX0 yX0_count yX0_count, .initialized RX0, .code yX0_count cX0_count 2 (some .int), .classLink RX0 17 "java/lang/IllegalArgumentException", .initialized "java/lang/IllegalArgumentException", .fieldLink RX0 13 "CardBook" "cells" "I", .methodLink RX0 55 yX0_cardCount, .instanceMethod yX0_cardCount, .selects RX0 yX0_cardCount yX0_cardCount, .code yX0_cardCount cX0_cardCount 1 (some .int), .methodLink RX0 32 yX0_cardOf, .static yX0_cardOf, .code yX0_cardOf cX0_cardOf 1 (some .int), .methodLink RX0 52 yX0_countWith, .instanceMethod yX0_countWith, .selects RX0 yX0_countWith yX0_countWith, .code yX0_countWith cX0_countWith 5 (some .int), .fieldLink RX0 9 "CardBook" "marks" "[I"] ++ wsX00 ++ (xt_ws RX0 21 "java/lang/IllegalArgumentException" ["java/lang/RuntimeException", "java/lang/Exception"]).filter goodWord)
def wsL_law0_r1 : List Cond := [Cond.classLink RL 8 RX0, Cond.instantiable RX0 2, Cond.initialized RX0, Cond.classLink RL 45 RX1, Cond.instantiable RX1 4, Cond.initialized RX1, Cond.methodLink RL 44 yX0_init, Cond.instanceMethod yX0_init, Cond.code yX0_init cX0_init 1 none, Cond.methodLink RX0 3 objectInit, Cond.instanceMethod objectInit, Cond.code objectInit ⟨#[0xb1]⟩ 1 none, Cond.arrayClass .int, Cond.fieldLink RX0 9 "CardBook" "marks" "[I", Cond.fieldLink RX0 13 "CardBook" "cells" "I", Cond.methodLink RL 47 yX1_init, Cond.instanceMethod yX1_init, Cond.code yX1_init cX1_init 1 none, Cond.methodLink RX1 1 objectInit, Cond.fieldLink RX1 7 "CardBookModel" "cells" "I", Cond.arrayClass .boolean, Cond.fieldLink RX1 13 "CardBookModel" "dirty" "[Z", Cond.fieldLink RX1 17 "CardBookModel" "saved" "[Z", Cond.methodLink RL 48 yL_space]
def wsL_law0_r2 : List Cond := [Cond.static yL_space, Cond.initialized RL, Cond.codeWith yL_space cL_space 4 (some .int) [(0, 9, 12, 13)], Cond.classLink RL 13 "java/lang/IllegalArgumentException", Cond.methodLink RL 7 yX0_space, Cond.instanceMethod yX0_space, Cond.selects RX0 yX0_space yX0_space, Cond.code yX0_space cX0_space 3 (some .int), Cond.classLink RX0 17 "java/lang/IllegalArgumentException", Cond.initialized "java/lang/IllegalArgumentException", Cond.methodLink RX0 24 yX0_clear, Cond.instanceMethod yX0_clear, Cond.selects RX0 yX0_clear yX0_clear, Cond.code yX0_clear cX0_clear 4 (some .int), Cond.methodLink RX0 52 yX0_countWith, Cond.instanceMethod yX0_countWith, Cond.selects RX0 yX0_countWith yX0_countWith, Cond.code yX0_countWith cX0_countWith 5 (some .int), Cond.methodLink RX0 55 yX0_cardCount, Cond.instanceMethod yX0_cardCount, Cond.selects RX0 yX0_cardCount yX0_cardCount, Cond.code yX0_cardCount cX0_cardCount 1 (some .int), Cond.methodLink RX0 32 yX0_cardOf, Cond.static yX0_cardOf]
def wsL_law0_r3 : List Cond := [Cond.code yX0_cardOf cX0_cardOf 1 (some .int), Cond.methodLink RL 53 yX1_space, Cond.instanceMethod yX1_space, Cond.selects RX1 yX1_space yX1_space, Cond.code yX1_space cX1_space 4 (some .int), Cond.methodLink RX1 27 yX1_goes, Cond.instanceMethod yX1_goes, Cond.selects RX1 yX1_goes yX1_goes, Cond.code yX1_goes cX1_goes 2 (some .boolean), Cond.fieldLink RX1 20 "CardBookModel" "thrown" "I", Cond.methodLink RL 54 yX1_thrown, Cond.instanceMethod yX1_thrown, Cond.selects RX1 yX1_thrown yX1_thrown, Cond.code yX1_thrown cX1_thrown 1 (some .int), Cond.methodLink RL 58 yL_write, Cond.static yL_write, Cond.codeWith yL_write cL_write 4 (some .int) [(0, 9, 12, 18)], Cond.classLink RL 18 "java/lang/IndexOutOfBoundsException", Cond.methodLink RL 15 yX0_write, Cond.instanceMethod yX0_write, Cond.selects RX0 yX0_write yX0_write, Cond.code yX0_write cX0_write 3 (some .int), Cond.methodLink RX0 28 yX0_requireCell, Cond.instanceMethod yX0_requireCell]
def wsL_law0_r4 : List Cond := [Cond.selects RX0 yX0_requireCell yX0_requireCell, Cond.code yX0_requireCell cX0_requireCell 2 none, Cond.classLink RX0 36 "java/lang/IndexOutOfBoundsException", Cond.initialized "java/lang/IndexOutOfBoundsException", Cond.methodLink RL 61 yL_cover, Cond.static yL_cover, Cond.codeWith yL_cover cL_cover 5 (some .int) [(0, 10, 13, 18)], Cond.methodLink RL 20 yX0_cover, Cond.instanceMethod yX0_cover, Cond.selects RX0 yX0_cover yX0_cover, Cond.code yX0_cover cX0_cover 6 (some .int), Cond.methodLink RL 65 yL_clean, Cond.static yL_clean, Cond.codeWith yL_clean cL_clean 5 (some .int) [(0, 17, 20, 18)], Cond.methodLink RL 24 yX0_clean, Cond.instanceMethod yX0_clean, Cond.selects RX0 yX0_clean yX0_clean, Cond.code yX0_clean cX0_clean 4 (some .boolean), Cond.methodLink RX0 41 yX0_requireCard, Cond.instanceMethod yX0_requireCard, Cond.selects RX0 yX0_requireCard yX0_requireCard, Cond.code yX0_requireCard cX0_requireCard 2 none, Cond.methodLink RX0 44 yX0_removeMark, Cond.instanceMethod yX0_removeMark]
def wsL_law0_r5 : List Cond := [Cond.selects RX0 yX0_removeMark yX0_removeMark, Cond.code yX0_removeMark cX0_removeMark 4 (some .boolean), Cond.methodLink RL 69 yL_unsave, Cond.static yL_unsave, Cond.codeWith yL_unsave cL_unsave 4 (some .int) [(0, 16, 19, 18)], Cond.methodLink RL 28 yX0_unsave, Cond.instanceMethod yX0_unsave, Cond.selects RX0 yX0_unsave yX0_unsave, Cond.code yX0_unsave cX0_unsave 2 (some .boolean), Cond.methodLink RL 72 yL_card, Cond.static yL_card, Cond.codeWith yL_card cL_card 4 (some .int) [(0, 9, 12, 18)], Cond.methodLink RL 32 yX0_card, Cond.instanceMethod yX0_card, Cond.selects RX0 yX0_card yX0_card, Cond.code yX0_card cX0_card 2 (some .int), Cond.methodLink RL 75 yL_nextDirty, Cond.static yL_nextDirty, Cond.codeWith yL_nextDirty cL_nextDirty 4 (some .int) [(0, 9, 12, 13)], Cond.methodLink RL 35 yX0_nextDirty, Cond.instanceMethod yX0_nextDirty, Cond.selects RX0 yX0_nextDirty yX0_nextDirty, Cond.code yX0_nextDirty cX0_nextDirty 2 (some .int), Cond.methodLink RX0 48 yX0_firstWith]
def wsL_law0_r6 : List Cond := [Cond.instanceMethod yX0_firstWith, Cond.selects RX0 yX0_firstWith yX0_firstWith, Cond.code yX0_firstWith cX0_firstWith 5 (some .int), Cond.methodLink RL 78 yL_nextSaved, Cond.static yL_nextSaved, Cond.codeWith yL_nextSaved cL_nextSaved 4 (some .int) [(0, 9, 12, 13)], Cond.methodLink RL 38 yX0_nextSaved, Cond.instanceMethod yX0_nextSaved, Cond.selects RX0 yX0_nextSaved yX0_nextSaved, Cond.code yX0_nextSaved cX0_nextSaved 2 (some .int), Cond.methodLink RL 81 yX0_clear, Cond.methodLink RL 85 yL_count, Cond.static yL_count, Cond.codeWith yL_count cL_count 4 (some .int) [(0, 9, 12, 13)], Cond.methodLink RL 41 yX0_count, Cond.instanceMethod yX0_count, Cond.selects RX0 yX0_count yX0_count, Cond.code yX0_count cX0_count 2 (some .int)]
def wsL_law0 : List Cond := (wsL_law0_r1 ++ (wsL_law0_r2 ++ (wsL_law0_r3 ++ (wsL_law0_r4 ++ (wsL_law0_r5 ++ wsL_law0_r6))))) ++ wsX00 ++ wsX10 ++ ([] : List Cond)
def wsL_law : List Cond := wsL_law0 ++ (xt_ws RX0 21 "java/lang/IllegalArgumentException" ["java/lang/RuntimeException", "java/lang/Exception"]).filter goodWord ++ (xt_ws RX0 40 "java/lang/IndexOutOfBoundsException" ["java/lang/RuntimeException", "java/lang/Exception"]).filter goodWord
theorem dX0_init_0 : decode cX0_init 0 = .ok (.aload_n 0, 1) := by decide +kernel
theorem dX0_init_1 : decode cX0_init 1 = .ok (.invokespecial 3, 3) := by decide +kernel
theorem dX0_init_4 : decode cX0_init 4 = .ok (.aload_n 0, 1) := by decide +kernel
theorem dX0_init_5 : decode cX0_init 5 = .ok (.sipush 512, 3) := by decide +kernel
theorem dX0_init_8 : decode cX0_init 8 = .ok (.newarray .int, 2) := by decide +kernel
theorem dX0_init_10 : decode cX0_init 10 = .ok (.putfield 9, 3) := by decide +kernel
theorem dX0_init_13 : decode cX0_init 13 = .ok (.aload_n 0, 1) := by decide +kernel
theorem dX0_init_14 : decode cX0_init 14 = .ok (.sipush 1024, 3) := by decide +kernel
theorem dX0_init_17 : decode cX0_init 17 = .ok (.putfield 13, 3) := by decide +kernel
theorem dX0_init_20 : decode cX0_init 20 = .ok (.return_, 1) := by decide +kernel
theorem dX0_space_0 : decode cX0_space 0 = .ok (.iload_n 1, 1) := by decide +kernel
theorem dX0_space_1 : decode cX0_space 1 = .ok (.iconst 1, 1) := by decide +kernel
theorem dX0_space_2 : decode cX0_space 2 = .ok (.if_icmp .lt 10, 3) := by decide +kernel
theorem dX0_space_5 : decode cX0_space 5 = .ok (.iload_n 1, 1) := by decide +kernel
theorem dX0_space_6 : decode cX0_space 6 = .ok (.sipush 16384, 3) := by decide +kernel
theorem dX0_space_9 : decode cX0_space 9 = .ok (.if_icmp .le 13, 3) := by decide +kernel
theorem dX0_space_12 : decode cX0_space 12 = .ok (.new 17, 3) := by decide +kernel
theorem dX0_space_15 : decode cX0_space 15 = .ok (.dup, 1) := by decide +kernel
theorem dX0_space_16 : decode cX0_space 16 = .ok (.ldc 19, 2) := by decide +kernel
theorem dX0_space_18 : decode cX0_space 18 = .ok (.invokespecial 21, 3) := by decide +kernel
theorem dX0_space_21 : decode cX0_space 21 = .ok (.athrow, 1) := by decide +kernel
theorem dX0_space_22 : decode cX0_space 22 = .ok (.aload_n 0, 1) := by decide +kernel
theorem dX0_space_23 : decode cX0_space 23 = .ok (.getfield 13, 3) := by decide +kernel
theorem dX0_space_26 : decode cX0_space 26 = .ok (.istore_n 2, 1) := by decide +kernel
theorem dX0_space_27 : decode cX0_space 27 = .ok (.aload_n 0, 1) := by decide +kernel
theorem dX0_space_28 : decode cX0_space 28 = .ok (.invokevirtual 24, 3) := by decide +kernel
theorem dX0_space_31 : decode cX0_space 31 = .ok (.pop, 1) := by decide +kernel
theorem dX0_space_32 : decode cX0_space 32 = .ok (.aload_n 0, 1) := by decide +kernel
theorem dX0_space_33 : decode cX0_space 33 = .ok (.iload_n 1, 1) := by decide +kernel
theorem dX0_space_34 : decode cX0_space 34 = .ok (.putfield 13, 3) := by decide +kernel
theorem dX0_space_37 : decode cX0_space 37 = .ok (.iload_n 2, 1) := by decide +kernel
theorem dX0_space_38 : decode cX0_space 38 = .ok (.ireturn, 1) := by decide +kernel
theorem dX0_write_0 : decode cX0_write 0 = .ok (.aload_n 0, 1) := by decide +kernel
theorem dX0_write_1 : decode cX0_write 1 = .ok (.iload_n 1, 1) := by decide +kernel
theorem dX0_write_2 : decode cX0_write 2 = .ok (.invokevirtual 28, 3) := by decide +kernel
theorem dX0_write_5 : decode cX0_write 5 = .ok (.iload_n 1, 1) := by decide +kernel
theorem dX0_write_6 : decode cX0_write 6 = .ok (.invokestatic 32, 3) := by decide +kernel
theorem dX0_write_9 : decode cX0_write 9 = .ok (.istore_n 2, 1) := by decide +kernel
theorem dX0_write_10 : decode cX0_write 10 = .ok (.aload_n 0, 1) := by decide +kernel
theorem dX0_write_11 : decode cX0_write 11 = .ok (.getfield 9, 3) := by decide +kernel
theorem dX0_write_14 : decode cX0_write 14 = .ok (.iload_n 2, 1) := by decide +kernel
theorem dX0_write_15 : decode cX0_write 15 = .ok (.dup2, 1) := by decide +kernel
theorem dX0_write_16 : decode cX0_write 16 = .ok (.iaload, 1) := by decide +kernel
theorem dX0_write_17 : decode cX0_write 17 = .ok (.iconst 1, 1) := by decide +kernel
theorem dX0_write_18 : decode cX0_write 18 = .ok (.ior, 1) := by decide +kernel
theorem dX0_write_19 : decode cX0_write 19 = .ok (.iastore, 1) := by decide +kernel
theorem dX0_write_20 : decode cX0_write 20 = .ok (.iload_n 2, 1) := by decide +kernel
theorem dX0_write_21 : decode cX0_write 21 = .ok (.ireturn, 1) := by decide +kernel
theorem dX0_cover_0 : decode cX0_cover 0 = .ok (.aload_n 0, 1) := by decide +kernel
theorem dX0_cover_1 : decode cX0_cover 1 = .ok (.iload_n 1, 1) := by decide +kernel
theorem dX0_cover_2 : decode cX0_cover 2 = .ok (.invokevirtual 28, 3) := by decide +kernel
theorem dX0_cover_5 : decode cX0_cover 5 = .ok (.iload_n 2, 1) := by decide +kernel
theorem dX0_cover_6 : decode cX0_cover 6 = .ok (.iconst 1, 1) := by decide +kernel
theorem dX0_cover_7 : decode cX0_cover 7 = .ok (.if_icmp .lt 13, 3) := by decide +kernel
theorem dX0_cover_10 : decode cX0_cover 10 = .ok (.iload_n 2, 1) := by decide +kernel
theorem dX0_cover_11 : decode cX0_cover 11 = .ok (.aload_n 0, 1) := by decide +kernel
theorem dX0_cover_12 : decode cX0_cover 12 = .ok (.getfield 13, 3) := by decide +kernel
theorem dX0_cover_15 : decode cX0_cover 15 = .ok (.iload_n 1, 1) := by decide +kernel
theorem dX0_cover_16 : decode cX0_cover 16 = .ok (.isub, 1) := by decide +kernel
theorem dX0_cover_17 : decode cX0_cover 17 = .ok (.if_icmp .le 13, 3) := by decide +kernel
theorem dX0_cover_20 : decode cX0_cover 20 = .ok (.new 36, 3) := by decide +kernel
theorem dX0_cover_23 : decode cX0_cover 23 = .ok (.dup, 1) := by decide +kernel
theorem dX0_cover_24 : decode cX0_cover 24 = .ok (.ldc 38, 2) := by decide +kernel
theorem dX0_cover_26 : decode cX0_cover 26 = .ok (.invokespecial 40, 3) := by decide +kernel
theorem dX0_cover_29 : decode cX0_cover 29 = .ok (.athrow, 1) := by decide +kernel
theorem dX0_cover_30 : decode cX0_cover 30 = .ok (.iload_n 1, 1) := by decide +kernel
theorem dX0_cover_31 : decode cX0_cover 31 = .ok (.invokestatic 32, 3) := by decide +kernel
theorem dX0_cover_34 : decode cX0_cover 34 = .ok (.istore_n 3, 1) := by decide +kernel
theorem dX0_cover_35 : decode cX0_cover 35 = .ok (.iload_n 1, 1) := by decide +kernel
theorem dX0_cover_36 : decode cX0_cover 36 = .ok (.iload_n 2, 1) := by decide +kernel
theorem dX0_cover_37 : decode cX0_cover 37 = .ok (.iadd, 1) := by decide +kernel
theorem dX0_cover_38 : decode cX0_cover 38 = .ok (.iconst 1, 1) := by decide +kernel
theorem dX0_cover_39 : decode cX0_cover 39 = .ok (.isub, 1) := by decide +kernel
theorem dX0_cover_40 : decode cX0_cover 40 = .ok (.invokestatic 32, 3) := by decide +kernel
theorem dX0_cover_43 : decode cX0_cover 43 = .ok (.istore 4, 2) := by decide +kernel
theorem dX0_cover_45 : decode cX0_cover 45 = .ok (.iload_n 3, 1) := by decide +kernel
theorem dX0_cover_46 : decode cX0_cover 46 = .ok (.istore 5, 2) := by decide +kernel
theorem dX0_cover_48 : decode cX0_cover 48 = .ok (.iload 5, 2) := by decide +kernel
theorem dX0_cover_50 : decode cX0_cover 50 = .ok (.iload 4, 2) := by decide +kernel
theorem dX0_cover_52 : decode cX0_cover 52 = .ok (.if_icmp .gt 20, 3) := by decide +kernel
theorem dX0_cover_55 : decode cX0_cover 55 = .ok (.aload_n 0, 1) := by decide +kernel
theorem dX0_cover_56 : decode cX0_cover 56 = .ok (.getfield 9, 3) := by decide +kernel
theorem dX0_cover_59 : decode cX0_cover 59 = .ok (.iload 5, 2) := by decide +kernel
theorem dX0_cover_61 : decode cX0_cover 61 = .ok (.dup2, 1) := by decide +kernel
theorem dX0_cover_62 : decode cX0_cover 62 = .ok (.iaload, 1) := by decide +kernel
theorem dX0_cover_63 : decode cX0_cover 63 = .ok (.iconst 2, 1) := by decide +kernel
theorem dX0_cover_64 : decode cX0_cover 64 = .ok (.ior, 1) := by decide +kernel
theorem dX0_cover_65 : decode cX0_cover 65 = .ok (.iastore, 1) := by decide +kernel
theorem dX0_cover_66 : decode cX0_cover 66 = .ok (.iinc 5 1, 3) := by decide +kernel
theorem dX0_cover_69 : decode cX0_cover 69 = .ok (.goto (-21), 3) := by decide +kernel
theorem dX0_cover_72 : decode cX0_cover 72 = .ok (.iload 4, 2) := by decide +kernel
theorem dX0_cover_74 : decode cX0_cover 74 = .ok (.iload_n 3, 1) := by decide +kernel
theorem dX0_cover_75 : decode cX0_cover 75 = .ok (.isub, 1) := by decide +kernel
theorem dX0_cover_76 : decode cX0_cover 76 = .ok (.iconst 1, 1) := by decide +kernel
theorem dX0_cover_77 : decode cX0_cover 77 = .ok (.iadd, 1) := by decide +kernel
theorem dX0_cover_78 : decode cX0_cover 78 = .ok (.ireturn, 1) := by decide +kernel
theorem dX0_clean_0 : decode cX0_clean 0 = .ok (.aload_n 0, 1) := by decide +kernel
theorem dX0_clean_1 : decode cX0_clean 1 = .ok (.iload_n 1, 1) := by decide +kernel
theorem dX0_clean_2 : decode cX0_clean 2 = .ok (.invokevirtual 41, 3) := by decide +kernel
theorem dX0_clean_5 : decode cX0_clean 5 = .ok (.aload_n 0, 1) := by decide +kernel
theorem dX0_clean_6 : decode cX0_clean 6 = .ok (.iload_n 1, 1) := by decide +kernel
theorem dX0_clean_7 : decode cX0_clean 7 = .ok (.iconst 1, 1) := by decide +kernel
theorem dX0_clean_8 : decode cX0_clean 8 = .ok (.invokevirtual 44, 3) := by decide +kernel
theorem dX0_clean_11 : decode cX0_clean 11 = .ok (.istore_n 3, 1) := by decide +kernel
theorem dX0_clean_12 : decode cX0_clean 12 = .ok (.iload_n 3, 1) := by decide +kernel
theorem dX0_clean_13 : decode cX0_clean 13 = .ok (.ifCond .eq 17, 3) := by decide +kernel
theorem dX0_clean_16 : decode cX0_clean 16 = .ok (.iload_n 2, 1) := by decide +kernel
theorem dX0_clean_17 : decode cX0_clean 17 = .ok (.ifCond .eq 13, 3) := by decide +kernel
theorem dX0_clean_20 : decode cX0_clean 20 = .ok (.aload_n 0, 1) := by decide +kernel
theorem dX0_clean_21 : decode cX0_clean 21 = .ok (.getfield 9, 3) := by decide +kernel
theorem dX0_clean_24 : decode cX0_clean 24 = .ok (.iload_n 1, 1) := by decide +kernel
theorem dX0_clean_25 : decode cX0_clean 25 = .ok (.dup2, 1) := by decide +kernel
theorem dX0_clean_26 : decode cX0_clean 26 = .ok (.iaload, 1) := by decide +kernel
theorem dX0_clean_27 : decode cX0_clean 27 = .ok (.iconst 2, 1) := by decide +kernel
theorem dX0_clean_28 : decode cX0_clean 28 = .ok (.ior, 1) := by decide +kernel
theorem dX0_clean_29 : decode cX0_clean 29 = .ok (.iastore, 1) := by decide +kernel
theorem dX0_clean_30 : decode cX0_clean 30 = .ok (.iload_n 3, 1) := by decide +kernel
theorem dX0_clean_31 : decode cX0_clean 31 = .ok (.ireturn, 1) := by decide +kernel
theorem dX0_unsave_0 : decode cX0_unsave 0 = .ok (.aload_n 0, 1) := by decide +kernel
theorem dX0_unsave_1 : decode cX0_unsave 1 = .ok (.iload_n 1, 1) := by decide +kernel
theorem dX0_unsave_2 : decode cX0_unsave 2 = .ok (.invokevirtual 41, 3) := by decide +kernel
theorem dX0_unsave_5 : decode cX0_unsave 5 = .ok (.aload_n 0, 1) := by decide +kernel
theorem dX0_unsave_6 : decode cX0_unsave 6 = .ok (.iload_n 1, 1) := by decide +kernel
theorem dX0_unsave_7 : decode cX0_unsave 7 = .ok (.iconst 2, 1) := by decide +kernel
theorem dX0_unsave_8 : decode cX0_unsave 8 = .ok (.invokevirtual 44, 3) := by decide +kernel
theorem dX0_unsave_11 : decode cX0_unsave 11 = .ok (.ireturn, 1) := by decide +kernel
theorem dX0_card_0 : decode cX0_card 0 = .ok (.aload_n 0, 1) := by decide +kernel
theorem dX0_card_1 : decode cX0_card 1 = .ok (.iload_n 1, 1) := by decide +kernel
theorem dX0_card_2 : decode cX0_card 2 = .ok (.invokevirtual 41, 3) := by decide +kernel
theorem dX0_card_5 : decode cX0_card 5 = .ok (.aload_n 0, 1) := by decide +kernel
theorem dX0_card_6 : decode cX0_card 6 = .ok (.getfield 9, 3) := by decide +kernel
theorem dX0_card_9 : decode cX0_card 9 = .ok (.iload_n 1, 1) := by decide +kernel
theorem dX0_card_10 : decode cX0_card 10 = .ok (.iaload, 1) := by decide +kernel
theorem dX0_card_11 : decode cX0_card 11 = .ok (.ireturn, 1) := by decide +kernel
theorem dX0_nextDirty_0 : decode cX0_nextDirty 0 = .ok (.aload_n 0, 1) := by decide +kernel
theorem dX0_nextDirty_1 : decode cX0_nextDirty 1 = .ok (.iconst 1, 1) := by decide +kernel
theorem dX0_nextDirty_2 : decode cX0_nextDirty 2 = .ok (.iload_n 1, 1) := by decide +kernel
theorem dX0_nextDirty_3 : decode cX0_nextDirty 3 = .ok (.invokevirtual 48, 3) := by decide +kernel
theorem dX0_nextDirty_6 : decode cX0_nextDirty 6 = .ok (.ireturn, 1) := by decide +kernel
theorem dX0_nextSaved_0 : decode cX0_nextSaved 0 = .ok (.aload_n 0, 1) := by decide +kernel
theorem dX0_nextSaved_1 : decode cX0_nextSaved 1 = .ok (.iconst 2, 1) := by decide +kernel
theorem dX0_nextSaved_2 : decode cX0_nextSaved 2 = .ok (.iload_n 1, 1) := by decide +kernel
theorem dX0_nextSaved_3 : decode cX0_nextSaved 3 = .ok (.invokevirtual 48, 3) := by decide +kernel
theorem dX0_nextSaved_6 : decode cX0_nextSaved 6 = .ok (.ireturn, 1) := by decide +kernel
theorem dX0_clear_0 : decode cX0_clear 0 = .ok (.aload_n 0, 1) := by decide +kernel
theorem dX0_clear_1 : decode cX0_clear 1 = .ok (.iconst 3, 1) := by decide +kernel
theorem dX0_clear_2 : decode cX0_clear 2 = .ok (.invokevirtual 52, 3) := by decide +kernel
theorem dX0_clear_5 : decode cX0_clear 5 = .ok (.istore_n 1, 1) := by decide +kernel
theorem dX0_clear_6 : decode cX0_clear 6 = .ok (.aload_n 0, 1) := by decide +kernel
theorem dX0_clear_7 : decode cX0_clear 7 = .ok (.invokevirtual 55, 3) := by decide +kernel
theorem dX0_clear_10 : decode cX0_clear 10 = .ok (.istore_n 2, 1) := by decide +kernel
theorem dX0_clear_11 : decode cX0_clear 11 = .ok (.iconst 0, 1) := by decide +kernel
theorem dX0_clear_12 : decode cX0_clear 12 = .ok (.istore_n 3, 1) := by decide +kernel
theorem dX0_clear_13 : decode cX0_clear 13 = .ok (.iload_n 3, 1) := by decide +kernel
theorem dX0_clear_14 : decode cX0_clear 14 = .ok (.iload_n 2, 1) := by decide +kernel
theorem dX0_clear_15 : decode cX0_clear 15 = .ok (.if_icmp .ge 16, 3) := by decide +kernel
theorem dX0_clear_18 : decode cX0_clear 18 = .ok (.aload_n 0, 1) := by decide +kernel
theorem dX0_clear_19 : decode cX0_clear 19 = .ok (.getfield 9, 3) := by decide +kernel
theorem dX0_clear_22 : decode cX0_clear 22 = .ok (.iload_n 3, 1) := by decide +kernel
theorem dX0_clear_23 : decode cX0_clear 23 = .ok (.iconst 0, 1) := by decide +kernel
theorem dX0_clear_24 : decode cX0_clear 24 = .ok (.iastore, 1) := by decide +kernel
theorem dX0_clear_25 : decode cX0_clear 25 = .ok (.iinc 3 1, 3) := by decide +kernel
theorem dX0_clear_28 : decode cX0_clear 28 = .ok (.goto (-15), 3) := by decide +kernel
theorem dX0_clear_31 : decode cX0_clear 31 = .ok (.iload_n 1, 1) := by decide +kernel
theorem dX0_clear_32 : decode cX0_clear 32 = .ok (.ireturn, 1) := by decide +kernel
theorem dX0_count_0 : decode cX0_count 0 = .ok (.iload_n 1, 1) := by decide +kernel
theorem dX0_count_1 : decode cX0_count 1 = .ok (.tableswitch 53 0 3 #[31, 36, 41, 47], 31) := by decide +kernel
theorem dX0_count_32 : decode cX0_count 32 = .ok (.aload_n 0, 1) := by decide +kernel
theorem dX0_count_33 : decode cX0_count 33 = .ok (.getfield 13, 3) := by decide +kernel
theorem dX0_count_36 : decode cX0_count 36 = .ok (.ireturn, 1) := by decide +kernel
theorem dX0_count_37 : decode cX0_count 37 = .ok (.aload_n 0, 1) := by decide +kernel
theorem dX0_count_38 : decode cX0_count 38 = .ok (.invokevirtual 55, 3) := by decide +kernel
theorem dX0_count_41 : decode cX0_count 41 = .ok (.ireturn, 1) := by decide +kernel
theorem dX0_count_42 : decode cX0_count 42 = .ok (.aload_n 0, 1) := by decide +kernel
theorem dX0_count_43 : decode cX0_count 43 = .ok (.iconst 1, 1) := by decide +kernel
theorem dX0_count_44 : decode cX0_count 44 = .ok (.invokevirtual 52, 3) := by decide +kernel
theorem dX0_count_47 : decode cX0_count 47 = .ok (.ireturn, 1) := by decide +kernel
theorem dX0_count_48 : decode cX0_count 48 = .ok (.aload_n 0, 1) := by decide +kernel
theorem dX0_count_49 : decode cX0_count 49 = .ok (.iconst 2, 1) := by decide +kernel
theorem dX0_count_50 : decode cX0_count 50 = .ok (.invokevirtual 52, 3) := by decide +kernel
theorem dX0_count_53 : decode cX0_count 53 = .ok (.ireturn, 1) := by decide +kernel
theorem dX0_count_54 : decode cX0_count 54 = .ok (.new 17, 3) := by decide +kernel
theorem dX0_count_57 : decode cX0_count 57 = .ok (.dup, 1) := by decide +kernel
theorem dX0_count_58 : decode cX0_count 58 = .ok (.ldc 58, 2) := by decide +kernel
theorem dX0_count_60 : decode cX0_count 60 = .ok (.invokespecial 21, 3) := by decide +kernel
theorem dX0_count_63 : decode cX0_count 63 = .ok (.athrow, 1) := by decide +kernel
theorem dX0_cardOf_0 : decode cX0_cardOf 0 = .ok (.iload_n 0, 1) := by decide +kernel
theorem dX0_cardOf_1 : decode cX0_cardOf 1 = .ok (.bipush 32, 2) := by decide +kernel
theorem dX0_cardOf_3 : decode cX0_cardOf 3 = .ok (.idiv, 1) := by decide +kernel
theorem dX0_cardOf_4 : decode cX0_cardOf 4 = .ok (.ireturn, 1) := by decide +kernel
theorem dX0_cardCount_0 : decode cX0_cardCount 0 = .ok (.aload_n 0, 1) := by decide +kernel
theorem dX0_cardCount_1 : decode cX0_cardCount 1 = .ok (.getfield 13, 3) := by decide +kernel
theorem dX0_cardCount_4 : decode cX0_cardCount 4 = .ok (.iconst 1, 1) := by decide +kernel
theorem dX0_cardCount_5 : decode cX0_cardCount 5 = .ok (.isub, 1) := by decide +kernel
theorem dX0_cardCount_6 : decode cX0_cardCount 6 = .ok (.invokestatic 32, 3) := by decide +kernel
theorem dX0_cardCount_9 : decode cX0_cardCount 9 = .ok (.iconst 1, 1) := by decide +kernel
theorem dX0_cardCount_10 : decode cX0_cardCount 10 = .ok (.iadd, 1) := by decide +kernel
theorem dX0_cardCount_11 : decode cX0_cardCount 11 = .ok (.ireturn, 1) := by decide +kernel
theorem dX0_requireCell_0 : decode cX0_requireCell 0 = .ok (.iload_n 1, 1) := by decide +kernel
theorem dX0_requireCell_1 : decode cX0_requireCell 1 = .ok (.ifCond .lt 11, 3) := by decide +kernel
theorem dX0_requireCell_4 : decode cX0_requireCell 4 = .ok (.iload_n 1, 1) := by decide +kernel
theorem dX0_requireCell_5 : decode cX0_requireCell 5 = .ok (.aload_n 0, 1) := by decide +kernel
theorem dX0_requireCell_6 : decode cX0_requireCell 6 = .ok (.getfield 13, 3) := by decide +kernel
theorem dX0_requireCell_9 : decode cX0_requireCell 9 = .ok (.if_icmp .lt 13, 3) := by decide +kernel
theorem dX0_requireCell_12 : decode cX0_requireCell 12 = .ok (.new 36, 3) := by decide +kernel
theorem dX0_requireCell_15 : decode cX0_requireCell 15 = .ok (.dup, 1) := by decide +kernel
theorem dX0_requireCell_16 : decode cX0_requireCell 16 = .ok (.ldc 60, 2) := by decide +kernel
theorem dX0_requireCell_18 : decode cX0_requireCell 18 = .ok (.invokespecial 40, 3) := by decide +kernel
theorem dX0_requireCell_21 : decode cX0_requireCell 21 = .ok (.athrow, 1) := by decide +kernel
theorem dX0_requireCell_22 : decode cX0_requireCell 22 = .ok (.return_, 1) := by decide +kernel
theorem dX0_requireCard_0 : decode cX0_requireCard 0 = .ok (.iload_n 1, 1) := by decide +kernel
theorem dX0_requireCard_1 : decode cX0_requireCard 1 = .ok (.ifCond .lt 11, 3) := by decide +kernel
theorem dX0_requireCard_4 : decode cX0_requireCard 4 = .ok (.iload_n 1, 1) := by decide +kernel
theorem dX0_requireCard_5 : decode cX0_requireCard 5 = .ok (.aload_n 0, 1) := by decide +kernel
theorem dX0_requireCard_6 : decode cX0_requireCard 6 = .ok (.invokevirtual 55, 3) := by decide +kernel
theorem dX0_requireCard_9 : decode cX0_requireCard 9 = .ok (.if_icmp .lt 13, 3) := by decide +kernel
theorem dX0_requireCard_12 : decode cX0_requireCard 12 = .ok (.new 36, 3) := by decide +kernel
theorem dX0_requireCard_15 : decode cX0_requireCard 15 = .ok (.dup, 1) := by decide +kernel
theorem dX0_requireCard_16 : decode cX0_requireCard 16 = .ok (.ldc 62, 2) := by decide +kernel
theorem dX0_requireCard_18 : decode cX0_requireCard 18 = .ok (.invokespecial 40, 3) := by decide +kernel
theorem dX0_requireCard_21 : decode cX0_requireCard 21 = .ok (.athrow, 1) := by decide +kernel
theorem dX0_requireCard_22 : decode cX0_requireCard 22 = .ok (.return_, 1) := by decide +kernel
theorem dX0_removeMark_0 : decode cX0_removeMark 0 = .ok (.aload_n 0, 1) := by decide +kernel
theorem dX0_removeMark_1 : decode cX0_removeMark 1 = .ok (.getfield 9, 3) := by decide +kernel
theorem dX0_removeMark_4 : decode cX0_removeMark 4 = .ok (.iload_n 1, 1) := by decide +kernel
theorem dX0_removeMark_5 : decode cX0_removeMark 5 = .ok (.iaload, 1) := by decide +kernel
theorem dX0_removeMark_6 : decode cX0_removeMark 6 = .ok (.iload_n 2, 1) := by decide +kernel
theorem dX0_removeMark_7 : decode cX0_removeMark 7 = .ok (.iand, 1) := by decide +kernel
theorem dX0_removeMark_8 : decode cX0_removeMark 8 = .ok (.ifCond .eq 7, 3) := by decide +kernel
theorem dX0_removeMark_11 : decode cX0_removeMark 11 = .ok (.iconst 1, 1) := by decide +kernel
theorem dX0_removeMark_12 : decode cX0_removeMark 12 = .ok (.goto 4, 3) := by decide +kernel
theorem dX0_removeMark_15 : decode cX0_removeMark 15 = .ok (.iconst 0, 1) := by decide +kernel
theorem dX0_removeMark_16 : decode cX0_removeMark 16 = .ok (.istore_n 3, 1) := by decide +kernel
theorem dX0_removeMark_17 : decode cX0_removeMark 17 = .ok (.aload_n 0, 1) := by decide +kernel
theorem dX0_removeMark_18 : decode cX0_removeMark 18 = .ok (.getfield 9, 3) := by decide +kernel
theorem dX0_removeMark_21 : decode cX0_removeMark 21 = .ok (.iload_n 1, 1) := by decide +kernel
theorem dX0_removeMark_22 : decode cX0_removeMark 22 = .ok (.dup2, 1) := by decide +kernel
theorem dX0_removeMark_23 : decode cX0_removeMark 23 = .ok (.iaload, 1) := by decide +kernel
theorem dX0_removeMark_24 : decode cX0_removeMark 24 = .ok (.iload_n 2, 1) := by decide +kernel
theorem dX0_removeMark_25 : decode cX0_removeMark 25 = .ok (.iconst (-1), 1) := by decide +kernel
theorem dX0_removeMark_26 : decode cX0_removeMark 26 = .ok (.ixor, 1) := by decide +kernel
theorem dX0_removeMark_27 : decode cX0_removeMark 27 = .ok (.iand, 1) := by decide +kernel
theorem dX0_removeMark_28 : decode cX0_removeMark 28 = .ok (.iastore, 1) := by decide +kernel
theorem dX0_removeMark_29 : decode cX0_removeMark 29 = .ok (.iload_n 3, 1) := by decide +kernel
theorem dX0_removeMark_30 : decode cX0_removeMark 30 = .ok (.ireturn, 1) := by decide +kernel
theorem dX0_firstWith_0 : decode cX0_firstWith 0 = .ok (.iload_n 2, 1) := by decide +kernel
theorem dX0_firstWith_1 : decode cX0_firstWith 1 = .ok (.ifCond .ge 13, 3) := by decide +kernel
theorem dX0_firstWith_4 : decode cX0_firstWith 4 = .ok (.new 17, 3) := by decide +kernel
theorem dX0_firstWith_7 : decode cX0_firstWith 7 = .ok (.dup, 1) := by decide +kernel
theorem dX0_firstWith_8 : decode cX0_firstWith 8 = .ok (.ldc 64, 2) := by decide +kernel
theorem dX0_firstWith_10 : decode cX0_firstWith 10 = .ok (.invokespecial 21, 3) := by decide +kernel
theorem dX0_firstWith_13 : decode cX0_firstWith 13 = .ok (.athrow, 1) := by decide +kernel
theorem dX0_firstWith_14 : decode cX0_firstWith 14 = .ok (.aload_n 0, 1) := by decide +kernel
theorem dX0_firstWith_15 : decode cX0_firstWith 15 = .ok (.invokevirtual 55, 3) := by decide +kernel
theorem dX0_firstWith_18 : decode cX0_firstWith 18 = .ok (.istore_n 3, 1) := by decide +kernel
theorem dX0_firstWith_19 : decode cX0_firstWith 19 = .ok (.iload_n 2, 1) := by decide +kernel
theorem dX0_firstWith_20 : decode cX0_firstWith 20 = .ok (.istore 4, 2) := by decide +kernel
theorem dX0_firstWith_22 : decode cX0_firstWith 22 = .ok (.iload 4, 2) := by decide +kernel
theorem dX0_firstWith_24 : decode cX0_firstWith 24 = .ok (.iload_n 3, 1) := by decide +kernel
theorem dX0_firstWith_25 : decode cX0_firstWith 25 = .ok (.if_icmp .ge 24, 3) := by decide +kernel
theorem dX0_firstWith_28 : decode cX0_firstWith 28 = .ok (.aload_n 0, 1) := by decide +kernel
theorem dX0_firstWith_29 : decode cX0_firstWith 29 = .ok (.getfield 9, 3) := by decide +kernel
theorem dX0_firstWith_32 : decode cX0_firstWith 32 = .ok (.iload 4, 2) := by decide +kernel
theorem dX0_firstWith_34 : decode cX0_firstWith 34 = .ok (.iaload, 1) := by decide +kernel
theorem dX0_firstWith_35 : decode cX0_firstWith 35 = .ok (.iload_n 1, 1) := by decide +kernel
theorem dX0_firstWith_36 : decode cX0_firstWith 36 = .ok (.iand, 1) := by decide +kernel
theorem dX0_firstWith_37 : decode cX0_firstWith 37 = .ok (.ifCond .eq 6, 3) := by decide +kernel
theorem dX0_firstWith_40 : decode cX0_firstWith 40 = .ok (.iload 4, 2) := by decide +kernel
theorem dX0_firstWith_42 : decode cX0_firstWith 42 = .ok (.ireturn, 1) := by decide +kernel
theorem dX0_firstWith_43 : decode cX0_firstWith 43 = .ok (.iinc 4 1, 3) := by decide +kernel
theorem dX0_firstWith_46 : decode cX0_firstWith 46 = .ok (.goto (-24), 3) := by decide +kernel
theorem dX0_firstWith_49 : decode cX0_firstWith 49 = .ok (.iconst (-1), 1) := by decide +kernel
theorem dX0_firstWith_50 : decode cX0_firstWith 50 = .ok (.ireturn, 1) := by decide +kernel
theorem dX0_countWith_0 : decode cX0_countWith 0 = .ok (.iconst 0, 1) := by decide +kernel
theorem dX0_countWith_1 : decode cX0_countWith 1 = .ok (.istore_n 2, 1) := by decide +kernel
theorem dX0_countWith_2 : decode cX0_countWith 2 = .ok (.aload_n 0, 1) := by decide +kernel
theorem dX0_countWith_3 : decode cX0_countWith 3 = .ok (.invokevirtual 55, 3) := by decide +kernel
theorem dX0_countWith_6 : decode cX0_countWith 6 = .ok (.istore_n 3, 1) := by decide +kernel
theorem dX0_countWith_7 : decode cX0_countWith 7 = .ok (.iconst 0, 1) := by decide +kernel
theorem dX0_countWith_8 : decode cX0_countWith 8 = .ok (.istore 4, 2) := by decide +kernel
theorem dX0_countWith_10 : decode cX0_countWith 10 = .ok (.iload 4, 2) := by decide +kernel
theorem dX0_countWith_12 : decode cX0_countWith 12 = .ok (.iload_n 3, 1) := by decide +kernel
theorem dX0_countWith_13 : decode cX0_countWith 13 = .ok (.if_icmp .ge 24, 3) := by decide +kernel
theorem dX0_countWith_16 : decode cX0_countWith 16 = .ok (.aload_n 0, 1) := by decide +kernel
theorem dX0_countWith_17 : decode cX0_countWith 17 = .ok (.getfield 9, 3) := by decide +kernel
theorem dX0_countWith_20 : decode cX0_countWith 20 = .ok (.iload 4, 2) := by decide +kernel
theorem dX0_countWith_22 : decode cX0_countWith 22 = .ok (.iaload, 1) := by decide +kernel
theorem dX0_countWith_23 : decode cX0_countWith 23 = .ok (.iload_n 1, 1) := by decide +kernel
theorem dX0_countWith_24 : decode cX0_countWith 24 = .ok (.iand, 1) := by decide +kernel
theorem dX0_countWith_25 : decode cX0_countWith 25 = .ok (.ifCond .eq 6, 3) := by decide +kernel
theorem dX0_countWith_28 : decode cX0_countWith 28 = .ok (.iinc 2 1, 3) := by decide +kernel
theorem dX0_countWith_31 : decode cX0_countWith 31 = .ok (.iinc 4 1, 3) := by decide +kernel
theorem dX0_countWith_34 : decode cX0_countWith 34 = .ok (.goto (-24), 3) := by decide +kernel
theorem dX0_countWith_37 : decode cX0_countWith 37 = .ok (.iload_n 2, 1) := by decide +kernel
theorem dX0_countWith_38 : decode cX0_countWith 38 = .ok (.ireturn, 1) := by decide +kernel
theorem dX1_init_0 : decode cX1_init 0 = .ok (.aload_n 0, 1) := by decide +kernel
theorem dX1_init_1 : decode cX1_init 1 = .ok (.invokespecial 1, 3) := by decide +kernel
theorem dX1_init_4 : decode cX1_init 4 = .ok (.aload_n 0, 1) := by decide +kernel
theorem dX1_init_5 : decode cX1_init 5 = .ok (.sipush 1024, 3) := by decide +kernel
theorem dX1_init_8 : decode cX1_init 8 = .ok (.putfield 7, 3) := by decide +kernel
theorem dX1_init_11 : decode cX1_init 11 = .ok (.aload_n 0, 1) := by decide +kernel
theorem dX1_init_12 : decode cX1_init 12 = .ok (.sipush 512, 3) := by decide +kernel
theorem dX1_init_15 : decode cX1_init 15 = .ok (.newarray .boolean, 2) := by decide +kernel
theorem dX1_init_17 : decode cX1_init 17 = .ok (.putfield 13, 3) := by decide +kernel
theorem dX1_init_20 : decode cX1_init 20 = .ok (.aload_n 0, 1) := by decide +kernel
theorem dX1_init_21 : decode cX1_init 21 = .ok (.sipush 512, 3) := by decide +kernel
theorem dX1_init_24 : decode cX1_init 24 = .ok (.newarray .boolean, 2) := by decide +kernel
theorem dX1_init_26 : decode cX1_init 26 = .ok (.putfield 17, 3) := by decide +kernel
theorem dX1_init_29 : decode cX1_init 29 = .ok (.return_, 1) := by decide +kernel
theorem dX1_thrown_0 : decode cX1_thrown 0 = .ok (.aload_n 0, 1) := by decide +kernel
theorem dX1_thrown_1 : decode cX1_thrown 1 = .ok (.getfield 20, 3) := by decide +kernel
theorem dX1_thrown_4 : decode cX1_thrown 4 = .ok (.ireturn, 1) := by decide +kernel
theorem dX1_goes_0 : decode cX1_goes 0 = .ok (.aload_n 0, 1) := by decide +kernel
theorem dX1_goes_1 : decode cX1_goes 1 = .ok (.iload_n 1, 1) := by decide +kernel
theorem dX1_goes_2 : decode cX1_goes 2 = .ok (.ifCond .eq 7, 3) := by decide +kernel
theorem dX1_goes_5 : decode cX1_goes 5 = .ok (.iconst 0, 1) := by decide +kernel
theorem dX1_goes_6 : decode cX1_goes 6 = .ok (.goto 4, 3) := by decide +kernel
theorem dX1_goes_9 : decode cX1_goes 9 = .ok (.iconst 1, 1) := by decide +kernel
theorem dX1_goes_10 : decode cX1_goes 10 = .ok (.putfield 20, 3) := by decide +kernel
theorem dX1_goes_13 : decode cX1_goes 13 = .ok (.iload_n 1, 1) := by decide +kernel
theorem dX1_goes_14 : decode cX1_goes 14 = .ok (.ireturn, 1) := by decide +kernel
theorem dX1_space_0 : decode cX1_space 0 = .ok (.aload_n 0, 1) := by decide +kernel
theorem dX1_space_1 : decode cX1_space 1 = .ok (.iload_n 1, 1) := by decide +kernel
theorem dX1_space_2 : decode cX1_space 2 = .ok (.iconst 1, 1) := by decide +kernel
theorem dX1_space_3 : decode cX1_space 3 = .ok (.if_icmp .lt 14, 3) := by decide +kernel
theorem dX1_space_6 : decode cX1_space 6 = .ok (.iload_n 1, 1) := by decide +kernel
theorem dX1_space_7 : decode cX1_space 7 = .ok (.sipush 16384, 3) := by decide +kernel
theorem dX1_space_10 : decode cX1_space 10 = .ok (.if_icmp .gt 7, 3) := by decide +kernel
theorem dX1_space_13 : decode cX1_space 13 = .ok (.iconst 1, 1) := by decide +kernel
theorem dX1_space_14 : decode cX1_space 14 = .ok (.goto 4, 3) := by decide +kernel
theorem dX1_space_17 : decode cX1_space 17 = .ok (.iconst 0, 1) := by decide +kernel
theorem dX1_space_18 : decode cX1_space 18 = .ok (.invokevirtual 27, 3) := by decide +kernel
theorem dX1_space_21 : decode cX1_space 21 = .ok (.ifCond .ne 5, 3) := by decide +kernel
theorem dX1_space_24 : decode cX1_space 24 = .ok (.iconst 0, 1) := by decide +kernel
theorem dX1_space_25 : decode cX1_space 25 = .ok (.ireturn, 1) := by decide +kernel
theorem dX1_space_26 : decode cX1_space 26 = .ok (.aload_n 0, 1) := by decide +kernel
theorem dX1_space_27 : decode cX1_space 27 = .ok (.getfield 7, 3) := by decide +kernel
theorem dX1_space_30 : decode cX1_space 30 = .ok (.istore_n 2, 1) := by decide +kernel
theorem dX1_space_31 : decode cX1_space 31 = .ok (.aload_n 0, 1) := by decide +kernel
theorem dX1_space_32 : decode cX1_space 32 = .ok (.iconst 3, 1) := by decide +kernel
theorem dX1_space_33 : decode cX1_space 33 = .ok (.iconst 1, 1) := by decide +kernel
theorem dX1_space_34 : decode cX1_space 34 = .ok (.invokevirtual 31, 3) := by decide +kernel
theorem dX1_space_37 : decode cX1_space 37 = .ok (.istore_n 3, 1) := by decide +kernel
theorem dX1_space_38 : decode cX1_space 38 = .ok (.aload_n 0, 1) := by decide +kernel
theorem dX1_space_39 : decode cX1_space 39 = .ok (.iload_n 1, 1) := by decide +kernel
theorem dX1_space_40 : decode cX1_space 40 = .ok (.putfield 7, 3) := by decide +kernel
theorem dX1_space_43 : decode cX1_space 43 = .ok (.iload_n 2, 1) := by decide +kernel
theorem dX1_space_44 : decode cX1_space 44 = .ok (.ireturn, 1) := by decide +kernel
theorem dL_space_0 : decode cL_space 0 = .ok (.aload_n 2, 1) := by decide +kernel
theorem dL_space_1 : decode cL_space 1 = .ok (.iconst 0, 1) := by decide +kernel
theorem dL_space_2 : decode cL_space 2 = .ok (.aload_n 0, 1) := by decide +kernel
theorem dL_space_3 : decode cL_space 3 = .ok (.iload_n 1, 1) := by decide +kernel
theorem dL_space_4 : decode cL_space 4 = .ok (.invokevirtual 7, 3) := by decide +kernel
theorem dL_space_7 : decode cL_space 7 = .ok (.i2l, 1) := by decide +kernel
theorem dL_space_8 : decode cL_space 8 = .ok (.lastore, 1) := by decide +kernel
theorem dL_space_9 : decode cL_space 9 = .ok (.goto 6, 3) := by decide +kernel
theorem dL_space_12 : decode cL_space 12 = .ok (.astore_n 3, 1) := by decide +kernel
theorem dL_space_13 : decode cL_space 13 = .ok (.iconst 1, 1) := by decide +kernel
theorem dL_space_14 : decode cL_space 14 = .ok (.ireturn, 1) := by decide +kernel
theorem dL_space_15 : decode cL_space 15 = .ok (.iconst 0, 1) := by decide +kernel
theorem dL_space_16 : decode cL_space 16 = .ok (.ireturn, 1) := by decide +kernel
theorem dL_write_0 : decode cL_write 0 = .ok (.aload_n 2, 1) := by decide +kernel
theorem dL_write_1 : decode cL_write 1 = .ok (.iconst 0, 1) := by decide +kernel
theorem dL_write_2 : decode cL_write 2 = .ok (.aload_n 0, 1) := by decide +kernel
theorem dL_write_3 : decode cL_write 3 = .ok (.iload_n 1, 1) := by decide +kernel
theorem dL_write_4 : decode cL_write 4 = .ok (.invokevirtual 15, 3) := by decide +kernel
theorem dL_write_7 : decode cL_write 7 = .ok (.i2l, 1) := by decide +kernel
theorem dL_write_8 : decode cL_write 8 = .ok (.lastore, 1) := by decide +kernel
theorem dL_write_9 : decode cL_write 9 = .ok (.goto 6, 3) := by decide +kernel
theorem dL_write_12 : decode cL_write 12 = .ok (.astore_n 3, 1) := by decide +kernel
theorem dL_write_13 : decode cL_write 13 = .ok (.iconst 1, 1) := by decide +kernel
theorem dL_write_14 : decode cL_write 14 = .ok (.ireturn, 1) := by decide +kernel
theorem dL_write_15 : decode cL_write 15 = .ok (.iconst 0, 1) := by decide +kernel
theorem dL_write_16 : decode cL_write 16 = .ok (.ireturn, 1) := by decide +kernel
theorem dL_cover_0 : decode cL_cover 0 = .ok (.aload_n 3, 1) := by decide +kernel
theorem dL_cover_1 : decode cL_cover 1 = .ok (.iconst 0, 1) := by decide +kernel
theorem dL_cover_2 : decode cL_cover 2 = .ok (.aload_n 0, 1) := by decide +kernel
theorem dL_cover_3 : decode cL_cover 3 = .ok (.iload_n 1, 1) := by decide +kernel
theorem dL_cover_4 : decode cL_cover 4 = .ok (.iload_n 2, 1) := by decide +kernel
theorem dL_cover_5 : decode cL_cover 5 = .ok (.invokevirtual 20, 3) := by decide +kernel
theorem dL_cover_8 : decode cL_cover 8 = .ok (.i2l, 1) := by decide +kernel
theorem dL_cover_9 : decode cL_cover 9 = .ok (.lastore, 1) := by decide +kernel
theorem dL_cover_10 : decode cL_cover 10 = .ok (.goto 7, 3) := by decide +kernel
theorem dL_cover_13 : decode cL_cover 13 = .ok (.astore 4, 2) := by decide +kernel
theorem dL_cover_15 : decode cL_cover 15 = .ok (.iconst 1, 1) := by decide +kernel
theorem dL_cover_16 : decode cL_cover 16 = .ok (.ireturn, 1) := by decide +kernel
theorem dL_cover_17 : decode cL_cover 17 = .ok (.iconst 0, 1) := by decide +kernel
theorem dL_cover_18 : decode cL_cover 18 = .ok (.ireturn, 1) := by decide +kernel
theorem dL_clean_0 : decode cL_clean 0 = .ok (.aload_n 3, 1) := by decide +kernel
theorem dL_clean_1 : decode cL_clean 1 = .ok (.iconst 0, 1) := by decide +kernel
theorem dL_clean_2 : decode cL_clean 2 = .ok (.aload_n 0, 1) := by decide +kernel
theorem dL_clean_3 : decode cL_clean 3 = .ok (.iload_n 1, 1) := by decide +kernel
theorem dL_clean_4 : decode cL_clean 4 = .ok (.iload_n 2, 1) := by decide +kernel
theorem dL_clean_5 : decode cL_clean 5 = .ok (.invokevirtual 24, 3) := by decide +kernel
theorem dL_clean_8 : decode cL_clean 8 = .ok (.ifCond .eq 7, 3) := by decide +kernel
theorem dL_clean_11 : decode cL_clean 11 = .ok (.lconst 1, 1) := by decide +kernel
theorem dL_clean_12 : decode cL_clean 12 = .ok (.goto 4, 3) := by decide +kernel
theorem dL_clean_15 : decode cL_clean 15 = .ok (.lconst 0, 1) := by decide +kernel
theorem dL_clean_16 : decode cL_clean 16 = .ok (.lastore, 1) := by decide +kernel
theorem dL_clean_17 : decode cL_clean 17 = .ok (.goto 7, 3) := by decide +kernel
theorem dL_clean_20 : decode cL_clean 20 = .ok (.astore 4, 2) := by decide +kernel
theorem dL_clean_22 : decode cL_clean 22 = .ok (.iconst 1, 1) := by decide +kernel
theorem dL_clean_23 : decode cL_clean 23 = .ok (.ireturn, 1) := by decide +kernel
theorem dL_clean_24 : decode cL_clean 24 = .ok (.iconst 0, 1) := by decide +kernel
theorem dL_clean_25 : decode cL_clean 25 = .ok (.ireturn, 1) := by decide +kernel
theorem dL_unsave_0 : decode cL_unsave 0 = .ok (.aload_n 2, 1) := by decide +kernel
theorem dL_unsave_1 : decode cL_unsave 1 = .ok (.iconst 0, 1) := by decide +kernel
theorem dL_unsave_2 : decode cL_unsave 2 = .ok (.aload_n 0, 1) := by decide +kernel
theorem dL_unsave_3 : decode cL_unsave 3 = .ok (.iload_n 1, 1) := by decide +kernel
theorem dL_unsave_4 : decode cL_unsave 4 = .ok (.invokevirtual 28, 3) := by decide +kernel
theorem dL_unsave_7 : decode cL_unsave 7 = .ok (.ifCond .eq 7, 3) := by decide +kernel
theorem dL_unsave_10 : decode cL_unsave 10 = .ok (.lconst 1, 1) := by decide +kernel
theorem dL_unsave_11 : decode cL_unsave 11 = .ok (.goto 4, 3) := by decide +kernel
theorem dL_unsave_14 : decode cL_unsave 14 = .ok (.lconst 0, 1) := by decide +kernel
theorem dL_unsave_15 : decode cL_unsave 15 = .ok (.lastore, 1) := by decide +kernel
theorem dL_unsave_16 : decode cL_unsave 16 = .ok (.goto 6, 3) := by decide +kernel
theorem dL_unsave_19 : decode cL_unsave 19 = .ok (.astore_n 3, 1) := by decide +kernel
theorem dL_unsave_20 : decode cL_unsave 20 = .ok (.iconst 1, 1) := by decide +kernel
theorem dL_unsave_21 : decode cL_unsave 21 = .ok (.ireturn, 1) := by decide +kernel
theorem dL_unsave_22 : decode cL_unsave 22 = .ok (.iconst 0, 1) := by decide +kernel
theorem dL_unsave_23 : decode cL_unsave 23 = .ok (.ireturn, 1) := by decide +kernel
theorem dL_card_0 : decode cL_card 0 = .ok (.aload_n 2, 1) := by decide +kernel
theorem dL_card_1 : decode cL_card 1 = .ok (.iconst 0, 1) := by decide +kernel
theorem dL_card_2 : decode cL_card 2 = .ok (.aload_n 0, 1) := by decide +kernel
theorem dL_card_3 : decode cL_card 3 = .ok (.iload_n 1, 1) := by decide +kernel
theorem dL_card_4 : decode cL_card 4 = .ok (.invokevirtual 32, 3) := by decide +kernel
theorem dL_card_7 : decode cL_card 7 = .ok (.i2l, 1) := by decide +kernel
theorem dL_card_8 : decode cL_card 8 = .ok (.lastore, 1) := by decide +kernel
theorem dL_card_9 : decode cL_card 9 = .ok (.goto 6, 3) := by decide +kernel
theorem dL_card_12 : decode cL_card 12 = .ok (.astore_n 3, 1) := by decide +kernel
theorem dL_card_13 : decode cL_card 13 = .ok (.iconst 1, 1) := by decide +kernel
theorem dL_card_14 : decode cL_card 14 = .ok (.ireturn, 1) := by decide +kernel
theorem dL_card_15 : decode cL_card 15 = .ok (.iconst 0, 1) := by decide +kernel
theorem dL_card_16 : decode cL_card 16 = .ok (.ireturn, 1) := by decide +kernel
theorem dL_nextDirty_0 : decode cL_nextDirty 0 = .ok (.aload_n 2, 1) := by decide +kernel
theorem dL_nextDirty_1 : decode cL_nextDirty 1 = .ok (.iconst 0, 1) := by decide +kernel
theorem dL_nextDirty_2 : decode cL_nextDirty 2 = .ok (.aload_n 0, 1) := by decide +kernel
theorem dL_nextDirty_3 : decode cL_nextDirty 3 = .ok (.iload_n 1, 1) := by decide +kernel
theorem dL_nextDirty_4 : decode cL_nextDirty 4 = .ok (.invokevirtual 35, 3) := by decide +kernel
theorem dL_nextDirty_7 : decode cL_nextDirty 7 = .ok (.i2l, 1) := by decide +kernel
theorem dL_nextDirty_8 : decode cL_nextDirty 8 = .ok (.lastore, 1) := by decide +kernel
theorem dL_nextDirty_9 : decode cL_nextDirty 9 = .ok (.goto 6, 3) := by decide +kernel
theorem dL_nextDirty_12 : decode cL_nextDirty 12 = .ok (.astore_n 3, 1) := by decide +kernel
theorem dL_nextDirty_13 : decode cL_nextDirty 13 = .ok (.iconst 1, 1) := by decide +kernel
theorem dL_nextDirty_14 : decode cL_nextDirty 14 = .ok (.ireturn, 1) := by decide +kernel
theorem dL_nextDirty_15 : decode cL_nextDirty 15 = .ok (.iconst 0, 1) := by decide +kernel
theorem dL_nextDirty_16 : decode cL_nextDirty 16 = .ok (.ireturn, 1) := by decide +kernel
theorem dL_nextSaved_0 : decode cL_nextSaved 0 = .ok (.aload_n 2, 1) := by decide +kernel
theorem dL_nextSaved_1 : decode cL_nextSaved 1 = .ok (.iconst 0, 1) := by decide +kernel
theorem dL_nextSaved_2 : decode cL_nextSaved 2 = .ok (.aload_n 0, 1) := by decide +kernel
theorem dL_nextSaved_3 : decode cL_nextSaved 3 = .ok (.iload_n 1, 1) := by decide +kernel
theorem dL_nextSaved_4 : decode cL_nextSaved 4 = .ok (.invokevirtual 38, 3) := by decide +kernel
theorem dL_nextSaved_7 : decode cL_nextSaved 7 = .ok (.i2l, 1) := by decide +kernel
theorem dL_nextSaved_8 : decode cL_nextSaved 8 = .ok (.lastore, 1) := by decide +kernel
theorem dL_nextSaved_9 : decode cL_nextSaved 9 = .ok (.goto 6, 3) := by decide +kernel
theorem dL_nextSaved_12 : decode cL_nextSaved 12 = .ok (.astore_n 3, 1) := by decide +kernel
theorem dL_nextSaved_13 : decode cL_nextSaved 13 = .ok (.iconst 1, 1) := by decide +kernel
theorem dL_nextSaved_14 : decode cL_nextSaved 14 = .ok (.ireturn, 1) := by decide +kernel
theorem dL_nextSaved_15 : decode cL_nextSaved 15 = .ok (.iconst 0, 1) := by decide +kernel
theorem dL_nextSaved_16 : decode cL_nextSaved 16 = .ok (.ireturn, 1) := by decide +kernel
theorem dL_count_0 : decode cL_count 0 = .ok (.aload_n 2, 1) := by decide +kernel
theorem dL_count_1 : decode cL_count 1 = .ok (.iconst 0, 1) := by decide +kernel
theorem dL_count_2 : decode cL_count 2 = .ok (.aload_n 0, 1) := by decide +kernel
theorem dL_count_3 : decode cL_count 3 = .ok (.iload_n 1, 1) := by decide +kernel
theorem dL_count_4 : decode cL_count 4 = .ok (.invokevirtual 41, 3) := by decide +kernel
theorem dL_count_7 : decode cL_count 7 = .ok (.i2l, 1) := by decide +kernel
theorem dL_count_8 : decode cL_count 8 = .ok (.lastore, 1) := by decide +kernel
theorem dL_count_9 : decode cL_count 9 = .ok (.goto 6, 3) := by decide +kernel
theorem dL_count_12 : decode cL_count 12 = .ok (.astore_n 3, 1) := by decide +kernel
theorem dL_count_13 : decode cL_count 13 = .ok (.iconst 1, 1) := by decide +kernel
theorem dL_count_14 : decode cL_count 14 = .ok (.ireturn, 1) := by decide +kernel
theorem dL_count_15 : decode cL_count 15 = .ok (.iconst 0, 1) := by decide +kernel
theorem dL_count_16 : decode cL_count 16 = .ok (.ireturn, 1) := by decide +kernel
theorem dL_law_0 : decode cL_law 0 = .ok (.new 8, 3) := by decide +kernel
theorem dL_law_3 : decode cL_law 3 = .ok (.dup, 1) := by decide +kernel
theorem dL_law_4 : decode cL_law 4 = .ok (.invokespecial 44, 3) := by decide +kernel
theorem dL_law_7 : decode cL_law 7 = .ok (.astore_n 1, 1) := by decide +kernel
theorem dL_law_8 : decode cL_law 8 = .ok (.new 45, 3) := by decide +kernel
theorem dL_law_11 : decode cL_law 11 = .ok (.dup, 1) := by decide +kernel
theorem dL_law_12 : decode cL_law 12 = .ok (.invokespecial 47, 3) := by decide +kernel
theorem dL_law_15 : decode cL_law 15 = .ok (.astore_n 2, 1) := by decide +kernel
theorem dL_law_16 : decode cL_law 16 = .ok (.iconst 1, 1) := by decide +kernel
theorem dL_law_17 : decode cL_law 17 = .ok (.newarray .long, 2) := by decide +kernel
theorem dL_law_19 : decode cL_law 19 = .ok (.astore_n 3, 1) := by decide +kernel
theorem dL_law_20 : decode cL_law 20 = .ok (.iconst 0, 1) := by decide +kernel
theorem dL_law_21 : decode cL_law 21 = .ok (.istore 4, 2) := by decide +kernel
theorem dL_law_23 : decode cL_law 23 = .ok (.iload 4, 2) := by decide +kernel
theorem dL_law_25 : decode cL_law 25 = .ok (.aload_n 0, 1) := by decide +kernel
theorem dL_law_26 : decode cL_law 26 = .ok (.arraylength, 1) := by decide +kernel
theorem dL_law_27 : decode cL_law 27 = .ok (.iconst 3, 1) := by decide +kernel
theorem dL_law_28 : decode cL_law 28 = .ok (.isub, 1) := by decide +kernel
theorem dL_law_29 : decode cL_law 29 = .ok (.if_icmp .gt 640, 3) := by decide +kernel
theorem dL_law_32 : decode cL_law 32 = .ok (.aload_n 0, 1) := by decide +kernel
theorem dL_law_33 : decode cL_law 33 = .ok (.iload 4, 2) := by decide +kernel
theorem dL_law_35 : decode cL_law 35 = .ok (.iaload, 1) := by decide +kernel
theorem dL_law_36 : decode cL_law 36 = .ok (.bipush 15, 2) := by decide +kernel
theorem dL_law_38 : decode cL_law 38 = .ok (.iand, 1) := by decide +kernel
theorem dL_law_39 : decode cL_law 39 = .ok (.tableswitch 624 0 9 #[53, 109, 165, 233, 324, 387, 443, 499, 555, 568], 53) := by decide +kernel
theorem dL_law_92 : decode cL_law 92 = .ok (.aload_n 1, 1) := by decide +kernel
theorem dL_law_93 : decode cL_law 93 = .ok (.aload_n 0, 1) := by decide +kernel
theorem dL_law_94 : decode cL_law 94 = .ok (.iload 4, 2) := by decide +kernel
theorem dL_law_96 : decode cL_law 96 = .ok (.iconst 1, 1) := by decide +kernel
theorem dL_law_97 : decode cL_law 97 = .ok (.iadd, 1) := by decide +kernel
theorem dL_law_98 : decode cL_law 98 = .ok (.iaload, 1) := by decide +kernel
theorem dL_law_99 : decode cL_law 99 = .ok (.aload_n 3, 1) := by decide +kernel
theorem dL_law_100 : decode cL_law 100 = .ok (.invokestatic 48, 3) := by decide +kernel
theorem dL_law_103 : decode cL_law 103 = .ok (.istore 5, 2) := by decide +kernel
theorem dL_law_105 : decode cL_law 105 = .ok (.aload_n 2, 1) := by decide +kernel
theorem dL_law_106 : decode cL_law 106 = .ok (.aload_n 0, 1) := by decide +kernel
theorem dL_law_107 : decode cL_law 107 = .ok (.iload 4, 2) := by decide +kernel
theorem dL_law_109 : decode cL_law 109 = .ok (.iconst 1, 1) := by decide +kernel
theorem dL_law_110 : decode cL_law 110 = .ok (.iadd, 1) := by decide +kernel
theorem dL_law_111 : decode cL_law 111 = .ok (.iaload, 1) := by decide +kernel
theorem dL_law_112 : decode cL_law 112 = .ok (.invokevirtual 53, 3) := by decide +kernel
theorem dL_law_115 : decode cL_law 115 = .ok (.istore 6, 2) := by decide +kernel
theorem dL_law_117 : decode cL_law 117 = .ok (.aload_n 2, 1) := by decide +kernel
theorem dL_law_118 : decode cL_law 118 = .ok (.invokevirtual 54, 3) := by decide +kernel
theorem dL_law_121 : decode cL_law 121 = .ok (.iload 5, 2) := by decide +kernel
theorem dL_law_123 : decode cL_law 123 = .ok (.if_icmp .eq 5, 3) := by decide +kernel
theorem dL_law_126 : decode cL_law 126 = .ok (.iconst 0, 1) := by decide +kernel
theorem dL_law_127 : decode cL_law 127 = .ok (.ireturn, 1) := by decide +kernel
theorem dL_law_128 : decode cL_law 128 = .ok (.iload 5, 2) := by decide +kernel
theorem dL_law_130 : decode cL_law 130 = .ok (.ifCond .ne 15, 3) := by decide +kernel
theorem dL_law_133 : decode cL_law 133 = .ok (.aload_n 3, 1) := by decide +kernel
theorem dL_law_134 : decode cL_law 134 = .ok (.iconst 0, 1) := by decide +kernel
theorem dL_law_135 : decode cL_law 135 = .ok (.laload, 1) := by decide +kernel
theorem dL_law_136 : decode cL_law 136 = .ok (.iload 6, 2) := by decide +kernel
theorem dL_law_138 : decode cL_law 138 = .ok (.i2l, 1) := by decide +kernel
theorem dL_law_139 : decode cL_law 139 = .ok (.lcmp, 1) := by decide +kernel
theorem dL_law_140 : decode cL_law 140 = .ok (.ifCond .eq 5, 3) := by decide +kernel
theorem dL_law_143 : decode cL_law 143 = .ok (.iconst 0, 1) := by decide +kernel
theorem dL_law_144 : decode cL_law 144 = .ok (.ireturn, 1) := by decide +kernel
theorem dL_law_145 : decode cL_law 145 = .ok (.goto 518, 3) := by decide +kernel
theorem dL_law_148 : decode cL_law 148 = .ok (.aload_n 1, 1) := by decide +kernel
theorem dL_law_149 : decode cL_law 149 = .ok (.aload_n 0, 1) := by decide +kernel
theorem dL_law_150 : decode cL_law 150 = .ok (.iload 4, 2) := by decide +kernel
theorem dL_law_152 : decode cL_law 152 = .ok (.iconst 1, 1) := by decide +kernel
theorem dL_law_153 : decode cL_law 153 = .ok (.iadd, 1) := by decide +kernel
theorem dL_law_154 : decode cL_law 154 = .ok (.iaload, 1) := by decide +kernel
theorem dL_law_155 : decode cL_law 155 = .ok (.aload_n 3, 1) := by decide +kernel
theorem dL_law_156 : decode cL_law 156 = .ok (.invokestatic 58, 3) := by decide +kernel
theorem dL_law_159 : decode cL_law 159 = .ok (.istore 5, 2) := by decide +kernel
theorem dL_law_161 : decode cL_law 161 = .ok (.aload_n 2, 1) := by decide +kernel
theorem dL_law_162 : decode cL_law 162 = .ok (.aload_n 0, 1) := by decide +kernel
theorem dL_law_163 : decode cL_law 163 = .ok (.iload 4, 2) := by decide +kernel
theorem dL_law_165 : decode cL_law 165 = .ok (.iconst 1, 1) := by decide +kernel
theorem dL_law_166 : decode cL_law 166 = .ok (.iadd, 1) := by decide +kernel
theorem dL_law_167 : decode cL_law 167 = .ok (.iaload, 1) := by decide +kernel
theorem dL_law_168 : decode cL_law 168 = .ok (.invokevirtual 60, 3) := by decide +kernel
theorem dL_law_171 : decode cL_law 171 = .ok (.istore 6, 2) := by decide +kernel
theorem dL_law_173 : decode cL_law 173 = .ok (.aload_n 2, 1) := by decide +kernel
theorem dL_law_174 : decode cL_law 174 = .ok (.invokevirtual 54, 3) := by decide +kernel
theorem dL_law_177 : decode cL_law 177 = .ok (.iload 5, 2) := by decide +kernel
theorem dL_law_179 : decode cL_law 179 = .ok (.if_icmp .eq 5, 3) := by decide +kernel
theorem dL_law_182 : decode cL_law 182 = .ok (.iconst 0, 1) := by decide +kernel
theorem dL_law_183 : decode cL_law 183 = .ok (.ireturn, 1) := by decide +kernel
theorem dL_law_184 : decode cL_law 184 = .ok (.iload 5, 2) := by decide +kernel
theorem dL_law_186 : decode cL_law 186 = .ok (.ifCond .ne 15, 3) := by decide +kernel
theorem dL_law_189 : decode cL_law 189 = .ok (.aload_n 3, 1) := by decide +kernel
theorem dL_law_190 : decode cL_law 190 = .ok (.iconst 0, 1) := by decide +kernel
theorem dL_law_191 : decode cL_law 191 = .ok (.laload, 1) := by decide +kernel
theorem dL_law_192 : decode cL_law 192 = .ok (.iload 6, 2) := by decide +kernel
theorem dL_law_194 : decode cL_law 194 = .ok (.i2l, 1) := by decide +kernel
theorem dL_law_195 : decode cL_law 195 = .ok (.lcmp, 1) := by decide +kernel
theorem dL_law_196 : decode cL_law 196 = .ok (.ifCond .eq 5, 3) := by decide +kernel
theorem dL_law_199 : decode cL_law 199 = .ok (.iconst 0, 1) := by decide +kernel
theorem dL_law_200 : decode cL_law 200 = .ok (.ireturn, 1) := by decide +kernel
theorem dL_law_201 : decode cL_law 201 = .ok (.goto 462, 3) := by decide +kernel
theorem dL_law_204 : decode cL_law 204 = .ok (.aload_n 1, 1) := by decide +kernel
theorem dL_law_205 : decode cL_law 205 = .ok (.aload_n 0, 1) := by decide +kernel
theorem dL_law_206 : decode cL_law 206 = .ok (.iload 4, 2) := by decide +kernel
theorem dL_law_208 : decode cL_law 208 = .ok (.iconst 1, 1) := by decide +kernel
theorem dL_law_209 : decode cL_law 209 = .ok (.iadd, 1) := by decide +kernel
theorem dL_law_210 : decode cL_law 210 = .ok (.iaload, 1) := by decide +kernel
theorem dL_law_211 : decode cL_law 211 = .ok (.aload_n 0, 1) := by decide +kernel
theorem dL_law_212 : decode cL_law 212 = .ok (.iload 4, 2) := by decide +kernel
theorem dL_law_214 : decode cL_law 214 = .ok (.iconst 2, 1) := by decide +kernel
theorem dL_law_215 : decode cL_law 215 = .ok (.iadd, 1) := by decide +kernel
theorem dL_law_216 : decode cL_law 216 = .ok (.iaload, 1) := by decide +kernel
theorem dL_law_217 : decode cL_law 217 = .ok (.aload_n 3, 1) := by decide +kernel
theorem dL_law_218 : decode cL_law 218 = .ok (.invokestatic 61, 3) := by decide +kernel
theorem dL_law_221 : decode cL_law 221 = .ok (.istore 5, 2) := by decide +kernel
theorem dL_law_223 : decode cL_law 223 = .ok (.aload_n 2, 1) := by decide +kernel
theorem dL_law_224 : decode cL_law 224 = .ok (.aload_n 0, 1) := by decide +kernel
theorem dL_law_225 : decode cL_law 225 = .ok (.iload 4, 2) := by decide +kernel
theorem dL_law_227 : decode cL_law 227 = .ok (.iconst 1, 1) := by decide +kernel
theorem dL_law_228 : decode cL_law 228 = .ok (.iadd, 1) := by decide +kernel
theorem dL_law_229 : decode cL_law 229 = .ok (.iaload, 1) := by decide +kernel
theorem dL_law_230 : decode cL_law 230 = .ok (.aload_n 0, 1) := by decide +kernel
theorem dL_law_231 : decode cL_law 231 = .ok (.iload 4, 2) := by decide +kernel
theorem dL_law_233 : decode cL_law 233 = .ok (.iconst 2, 1) := by decide +kernel
theorem dL_law_234 : decode cL_law 234 = .ok (.iadd, 1) := by decide +kernel
theorem dL_law_235 : decode cL_law 235 = .ok (.iaload, 1) := by decide +kernel
theorem dL_law_236 : decode cL_law 236 = .ok (.invokevirtual 64, 3) := by decide +kernel
theorem dL_law_239 : decode cL_law 239 = .ok (.istore 6, 2) := by decide +kernel
theorem dL_law_241 : decode cL_law 241 = .ok (.aload_n 2, 1) := by decide +kernel
theorem dL_law_242 : decode cL_law 242 = .ok (.invokevirtual 54, 3) := by decide +kernel
theorem dL_law_245 : decode cL_law 245 = .ok (.iload 5, 2) := by decide +kernel
theorem dL_law_247 : decode cL_law 247 = .ok (.if_icmp .eq 5, 3) := by decide +kernel
theorem dL_law_250 : decode cL_law 250 = .ok (.iconst 0, 1) := by decide +kernel
theorem dL_law_251 : decode cL_law 251 = .ok (.ireturn, 1) := by decide +kernel
theorem dL_law_252 : decode cL_law 252 = .ok (.iload 5, 2) := by decide +kernel
theorem dL_law_254 : decode cL_law 254 = .ok (.ifCond .ne 15, 3) := by decide +kernel
theorem dL_law_257 : decode cL_law 257 = .ok (.aload_n 3, 1) := by decide +kernel
theorem dL_law_258 : decode cL_law 258 = .ok (.iconst 0, 1) := by decide +kernel
theorem dL_law_259 : decode cL_law 259 = .ok (.laload, 1) := by decide +kernel
theorem dL_law_260 : decode cL_law 260 = .ok (.iload 6, 2) := by decide +kernel
theorem dL_law_262 : decode cL_law 262 = .ok (.i2l, 1) := by decide +kernel
theorem dL_law_263 : decode cL_law 263 = .ok (.lcmp, 1) := by decide +kernel
theorem dL_law_264 : decode cL_law 264 = .ok (.ifCond .eq 5, 3) := by decide +kernel
theorem dL_law_267 : decode cL_law 267 = .ok (.iconst 0, 1) := by decide +kernel
theorem dL_law_268 : decode cL_law 268 = .ok (.ireturn, 1) := by decide +kernel
theorem dL_law_269 : decode cL_law 269 = .ok (.goto 394, 3) := by decide +kernel
theorem dL_law_272 : decode cL_law 272 = .ok (.aload_n 1, 1) := by decide +kernel
theorem dL_law_273 : decode cL_law 273 = .ok (.aload_n 0, 1) := by decide +kernel
theorem dL_law_274 : decode cL_law 274 = .ok (.iload 4, 2) := by decide +kernel
theorem dL_law_276 : decode cL_law 276 = .ok (.iconst 1, 1) := by decide +kernel
theorem dL_law_277 : decode cL_law 277 = .ok (.iadd, 1) := by decide +kernel
theorem dL_law_278 : decode cL_law 278 = .ok (.iaload, 1) := by decide +kernel
theorem dL_law_279 : decode cL_law 279 = .ok (.aload_n 0, 1) := by decide +kernel
theorem dL_law_280 : decode cL_law 280 = .ok (.iload 4, 2) := by decide +kernel
theorem dL_law_282 : decode cL_law 282 = .ok (.iconst 2, 1) := by decide +kernel
theorem dL_law_283 : decode cL_law 283 = .ok (.iadd, 1) := by decide +kernel
theorem dL_law_284 : decode cL_law 284 = .ok (.iaload, 1) := by decide +kernel
theorem dL_law_285 : decode cL_law 285 = .ok (.ifCond .eq 7, 3) := by decide +kernel
theorem dL_law_288 : decode cL_law 288 = .ok (.iconst 1, 1) := by decide +kernel
theorem dL_law_289 : decode cL_law 289 = .ok (.goto 4, 3) := by decide +kernel
theorem dL_law_292 : decode cL_law 292 = .ok (.iconst 0, 1) := by decide +kernel
theorem dL_law_293 : decode cL_law 293 = .ok (.aload_n 3, 1) := by decide +kernel
theorem dL_law_294 : decode cL_law 294 = .ok (.invokestatic 65, 3) := by decide +kernel
theorem dL_law_297 : decode cL_law 297 = .ok (.istore 5, 2) := by decide +kernel
theorem dL_law_299 : decode cL_law 299 = .ok (.aload_n 2, 1) := by decide +kernel
theorem dL_law_300 : decode cL_law 300 = .ok (.aload_n 0, 1) := by decide +kernel
theorem dL_law_301 : decode cL_law 301 = .ok (.iload 4, 2) := by decide +kernel
theorem dL_law_303 : decode cL_law 303 = .ok (.iconst 1, 1) := by decide +kernel
theorem dL_law_304 : decode cL_law 304 = .ok (.iadd, 1) := by decide +kernel
theorem dL_law_305 : decode cL_law 305 = .ok (.iaload, 1) := by decide +kernel
theorem dL_law_306 : decode cL_law 306 = .ok (.aload_n 0, 1) := by decide +kernel
theorem dL_law_307 : decode cL_law 307 = .ok (.iload 4, 2) := by decide +kernel
theorem dL_law_309 : decode cL_law 309 = .ok (.iconst 2, 1) := by decide +kernel
theorem dL_law_310 : decode cL_law 310 = .ok (.iadd, 1) := by decide +kernel
theorem dL_law_311 : decode cL_law 311 = .ok (.iaload, 1) := by decide +kernel
theorem dL_law_312 : decode cL_law 312 = .ok (.ifCond .eq 7, 3) := by decide +kernel
theorem dL_law_315 : decode cL_law 315 = .ok (.iconst 1, 1) := by decide +kernel
theorem dL_law_316 : decode cL_law 316 = .ok (.goto 4, 3) := by decide +kernel
theorem dL_law_319 : decode cL_law 319 = .ok (.iconst 0, 1) := by decide +kernel
theorem dL_law_320 : decode cL_law 320 = .ok (.invokevirtual 68, 3) := by decide +kernel
theorem dL_law_323 : decode cL_law 323 = .ok (.istore 6, 2) := by decide +kernel
theorem dL_law_325 : decode cL_law 325 = .ok (.aload_n 2, 1) := by decide +kernel
theorem dL_law_326 : decode cL_law 326 = .ok (.invokevirtual 54, 3) := by decide +kernel
theorem dL_law_329 : decode cL_law 329 = .ok (.iload 5, 2) := by decide +kernel
theorem dL_law_331 : decode cL_law 331 = .ok (.if_icmp .eq 5, 3) := by decide +kernel
theorem dL_law_334 : decode cL_law 334 = .ok (.iconst 0, 1) := by decide +kernel
theorem dL_law_335 : decode cL_law 335 = .ok (.ireturn, 1) := by decide +kernel
theorem dL_law_336 : decode cL_law 336 = .ok (.iload 5, 2) := by decide +kernel
theorem dL_law_338 : decode cL_law 338 = .ok (.ifCond .ne 22, 3) := by decide +kernel
theorem dL_law_341 : decode cL_law 341 = .ok (.aload_n 3, 1) := by decide +kernel
theorem dL_law_342 : decode cL_law 342 = .ok (.iconst 0, 1) := by decide +kernel
theorem dL_law_343 : decode cL_law 343 = .ok (.laload, 1) := by decide +kernel
theorem dL_law_344 : decode cL_law 344 = .ok (.iload 6, 2) := by decide +kernel
theorem dL_law_346 : decode cL_law 346 = .ok (.ifCond .eq 7, 3) := by decide +kernel
theorem dL_law_349 : decode cL_law 349 = .ok (.lconst 1, 1) := by decide +kernel
theorem dL_law_350 : decode cL_law 350 = .ok (.goto 4, 3) := by decide +kernel
theorem dL_law_353 : decode cL_law 353 = .ok (.lconst 0, 1) := by decide +kernel
theorem dL_law_354 : decode cL_law 354 = .ok (.lcmp, 1) := by decide +kernel
theorem dL_law_355 : decode cL_law 355 = .ok (.ifCond .eq 5, 3) := by decide +kernel
theorem dL_law_358 : decode cL_law 358 = .ok (.iconst 0, 1) := by decide +kernel
theorem dL_law_359 : decode cL_law 359 = .ok (.ireturn, 1) := by decide +kernel
theorem dL_law_360 : decode cL_law 360 = .ok (.goto 303, 3) := by decide +kernel
theorem dL_law_363 : decode cL_law 363 = .ok (.aload_n 1, 1) := by decide +kernel
theorem dL_law_364 : decode cL_law 364 = .ok (.aload_n 0, 1) := by decide +kernel
theorem dL_law_365 : decode cL_law 365 = .ok (.iload 4, 2) := by decide +kernel
theorem dL_law_367 : decode cL_law 367 = .ok (.iconst 1, 1) := by decide +kernel
theorem dL_law_368 : decode cL_law 368 = .ok (.iadd, 1) := by decide +kernel
theorem dL_law_369 : decode cL_law 369 = .ok (.iaload, 1) := by decide +kernel
theorem dL_law_370 : decode cL_law 370 = .ok (.aload_n 3, 1) := by decide +kernel
theorem dL_law_371 : decode cL_law 371 = .ok (.invokestatic 69, 3) := by decide +kernel
theorem dL_law_374 : decode cL_law 374 = .ok (.istore 5, 2) := by decide +kernel
theorem dL_law_376 : decode cL_law 376 = .ok (.aload_n 2, 1) := by decide +kernel
theorem dL_law_377 : decode cL_law 377 = .ok (.aload_n 0, 1) := by decide +kernel
theorem dL_law_378 : decode cL_law 378 = .ok (.iload 4, 2) := by decide +kernel
theorem dL_law_380 : decode cL_law 380 = .ok (.iconst 1, 1) := by decide +kernel
theorem dL_law_381 : decode cL_law 381 = .ok (.iadd, 1) := by decide +kernel
theorem dL_law_382 : decode cL_law 382 = .ok (.iaload, 1) := by decide +kernel
theorem dL_law_383 : decode cL_law 383 = .ok (.invokevirtual 71, 3) := by decide +kernel
theorem dL_law_386 : decode cL_law 386 = .ok (.istore 6, 2) := by decide +kernel
theorem dL_law_388 : decode cL_law 388 = .ok (.aload_n 2, 1) := by decide +kernel
theorem dL_law_389 : decode cL_law 389 = .ok (.invokevirtual 54, 3) := by decide +kernel
theorem dL_law_392 : decode cL_law 392 = .ok (.iload 5, 2) := by decide +kernel
theorem dL_law_394 : decode cL_law 394 = .ok (.if_icmp .eq 5, 3) := by decide +kernel
theorem dL_law_397 : decode cL_law 397 = .ok (.iconst 0, 1) := by decide +kernel
theorem dL_law_398 : decode cL_law 398 = .ok (.ireturn, 1) := by decide +kernel
theorem dL_law_399 : decode cL_law 399 = .ok (.iload 5, 2) := by decide +kernel
theorem dL_law_401 : decode cL_law 401 = .ok (.ifCond .ne 22, 3) := by decide +kernel
theorem dL_law_404 : decode cL_law 404 = .ok (.aload_n 3, 1) := by decide +kernel
theorem dL_law_405 : decode cL_law 405 = .ok (.iconst 0, 1) := by decide +kernel
theorem dL_law_406 : decode cL_law 406 = .ok (.laload, 1) := by decide +kernel
theorem dL_law_407 : decode cL_law 407 = .ok (.iload 6, 2) := by decide +kernel
theorem dL_law_409 : decode cL_law 409 = .ok (.ifCond .eq 7, 3) := by decide +kernel
theorem dL_law_412 : decode cL_law 412 = .ok (.lconst 1, 1) := by decide +kernel
theorem dL_law_413 : decode cL_law 413 = .ok (.goto 4, 3) := by decide +kernel
theorem dL_law_416 : decode cL_law 416 = .ok (.lconst 0, 1) := by decide +kernel
theorem dL_law_417 : decode cL_law 417 = .ok (.lcmp, 1) := by decide +kernel
theorem dL_law_418 : decode cL_law 418 = .ok (.ifCond .eq 5, 3) := by decide +kernel
theorem dL_law_421 : decode cL_law 421 = .ok (.iconst 0, 1) := by decide +kernel
theorem dL_law_422 : decode cL_law 422 = .ok (.ireturn, 1) := by decide +kernel
theorem dL_law_423 : decode cL_law 423 = .ok (.goto 240, 3) := by decide +kernel
theorem dL_law_426 : decode cL_law 426 = .ok (.aload_n 1, 1) := by decide +kernel
theorem dL_law_427 : decode cL_law 427 = .ok (.aload_n 0, 1) := by decide +kernel
theorem dL_law_428 : decode cL_law 428 = .ok (.iload 4, 2) := by decide +kernel
theorem dL_law_430 : decode cL_law 430 = .ok (.iconst 1, 1) := by decide +kernel
theorem dL_law_431 : decode cL_law 431 = .ok (.iadd, 1) := by decide +kernel
theorem dL_law_432 : decode cL_law 432 = .ok (.iaload, 1) := by decide +kernel
theorem dL_law_433 : decode cL_law 433 = .ok (.aload_n 3, 1) := by decide +kernel
theorem dL_law_434 : decode cL_law 434 = .ok (.invokestatic 72, 3) := by decide +kernel
theorem dL_law_437 : decode cL_law 437 = .ok (.istore 5, 2) := by decide +kernel
theorem dL_law_439 : decode cL_law 439 = .ok (.aload_n 2, 1) := by decide +kernel
theorem dL_law_440 : decode cL_law 440 = .ok (.aload_n 0, 1) := by decide +kernel
theorem dL_law_441 : decode cL_law 441 = .ok (.iload 4, 2) := by decide +kernel
theorem dL_law_443 : decode cL_law 443 = .ok (.iconst 1, 1) := by decide +kernel
theorem dL_law_444 : decode cL_law 444 = .ok (.iadd, 1) := by decide +kernel
theorem dL_law_445 : decode cL_law 445 = .ok (.iaload, 1) := by decide +kernel
theorem dL_law_446 : decode cL_law 446 = .ok (.invokevirtual 74, 3) := by decide +kernel
theorem dL_law_449 : decode cL_law 449 = .ok (.istore 6, 2) := by decide +kernel
theorem dL_law_451 : decode cL_law 451 = .ok (.aload_n 2, 1) := by decide +kernel
theorem dL_law_452 : decode cL_law 452 = .ok (.invokevirtual 54, 3) := by decide +kernel
theorem dL_law_455 : decode cL_law 455 = .ok (.iload 5, 2) := by decide +kernel
theorem dL_law_457 : decode cL_law 457 = .ok (.if_icmp .eq 5, 3) := by decide +kernel
theorem dL_law_460 : decode cL_law 460 = .ok (.iconst 0, 1) := by decide +kernel
theorem dL_law_461 : decode cL_law 461 = .ok (.ireturn, 1) := by decide +kernel
theorem dL_law_462 : decode cL_law 462 = .ok (.iload 5, 2) := by decide +kernel
theorem dL_law_464 : decode cL_law 464 = .ok (.ifCond .ne 15, 3) := by decide +kernel
theorem dL_law_467 : decode cL_law 467 = .ok (.aload_n 3, 1) := by decide +kernel
theorem dL_law_468 : decode cL_law 468 = .ok (.iconst 0, 1) := by decide +kernel
theorem dL_law_469 : decode cL_law 469 = .ok (.laload, 1) := by decide +kernel
theorem dL_law_470 : decode cL_law 470 = .ok (.iload 6, 2) := by decide +kernel
theorem dL_law_472 : decode cL_law 472 = .ok (.i2l, 1) := by decide +kernel
theorem dL_law_473 : decode cL_law 473 = .ok (.lcmp, 1) := by decide +kernel
theorem dL_law_474 : decode cL_law 474 = .ok (.ifCond .eq 5, 3) := by decide +kernel
theorem dL_law_477 : decode cL_law 477 = .ok (.iconst 0, 1) := by decide +kernel
theorem dL_law_478 : decode cL_law 478 = .ok (.ireturn, 1) := by decide +kernel
theorem dL_law_479 : decode cL_law 479 = .ok (.goto 184, 3) := by decide +kernel
theorem dL_law_482 : decode cL_law 482 = .ok (.aload_n 1, 1) := by decide +kernel
theorem dL_law_483 : decode cL_law 483 = .ok (.aload_n 0, 1) := by decide +kernel
theorem dL_law_484 : decode cL_law 484 = .ok (.iload 4, 2) := by decide +kernel
theorem dL_law_486 : decode cL_law 486 = .ok (.iconst 1, 1) := by decide +kernel
theorem dL_law_487 : decode cL_law 487 = .ok (.iadd, 1) := by decide +kernel
theorem dL_law_488 : decode cL_law 488 = .ok (.iaload, 1) := by decide +kernel
theorem dL_law_489 : decode cL_law 489 = .ok (.aload_n 3, 1) := by decide +kernel
theorem dL_law_490 : decode cL_law 490 = .ok (.invokestatic 75, 3) := by decide +kernel
theorem dL_law_493 : decode cL_law 493 = .ok (.istore 5, 2) := by decide +kernel
theorem dL_law_495 : decode cL_law 495 = .ok (.aload_n 2, 1) := by decide +kernel
theorem dL_law_496 : decode cL_law 496 = .ok (.aload_n 0, 1) := by decide +kernel
theorem dL_law_497 : decode cL_law 497 = .ok (.iload 4, 2) := by decide +kernel
theorem dL_law_499 : decode cL_law 499 = .ok (.iconst 1, 1) := by decide +kernel
theorem dL_law_500 : decode cL_law 500 = .ok (.iadd, 1) := by decide +kernel
theorem dL_law_501 : decode cL_law 501 = .ok (.iaload, 1) := by decide +kernel
theorem dL_law_502 : decode cL_law 502 = .ok (.invokevirtual 77, 3) := by decide +kernel
theorem dL_law_505 : decode cL_law 505 = .ok (.istore 6, 2) := by decide +kernel
theorem dL_law_507 : decode cL_law 507 = .ok (.aload_n 2, 1) := by decide +kernel
theorem dL_law_508 : decode cL_law 508 = .ok (.invokevirtual 54, 3) := by decide +kernel
theorem dL_law_511 : decode cL_law 511 = .ok (.iload 5, 2) := by decide +kernel
theorem dL_law_513 : decode cL_law 513 = .ok (.if_icmp .eq 5, 3) := by decide +kernel
theorem dL_law_516 : decode cL_law 516 = .ok (.iconst 0, 1) := by decide +kernel
theorem dL_law_517 : decode cL_law 517 = .ok (.ireturn, 1) := by decide +kernel
theorem dL_law_518 : decode cL_law 518 = .ok (.iload 5, 2) := by decide +kernel
theorem dL_law_520 : decode cL_law 520 = .ok (.ifCond .ne 15, 3) := by decide +kernel
theorem dL_law_523 : decode cL_law 523 = .ok (.aload_n 3, 1) := by decide +kernel
theorem dL_law_524 : decode cL_law 524 = .ok (.iconst 0, 1) := by decide +kernel
theorem dL_law_525 : decode cL_law 525 = .ok (.laload, 1) := by decide +kernel
theorem dL_law_526 : decode cL_law 526 = .ok (.iload 6, 2) := by decide +kernel
theorem dL_law_528 : decode cL_law 528 = .ok (.i2l, 1) := by decide +kernel
theorem dL_law_529 : decode cL_law 529 = .ok (.lcmp, 1) := by decide +kernel
theorem dL_law_530 : decode cL_law 530 = .ok (.ifCond .eq 5, 3) := by decide +kernel
theorem dL_law_533 : decode cL_law 533 = .ok (.iconst 0, 1) := by decide +kernel
theorem dL_law_534 : decode cL_law 534 = .ok (.ireturn, 1) := by decide +kernel
theorem dL_law_535 : decode cL_law 535 = .ok (.goto 128, 3) := by decide +kernel
theorem dL_law_538 : decode cL_law 538 = .ok (.aload_n 1, 1) := by decide +kernel
theorem dL_law_539 : decode cL_law 539 = .ok (.aload_n 0, 1) := by decide +kernel
theorem dL_law_540 : decode cL_law 540 = .ok (.iload 4, 2) := by decide +kernel
theorem dL_law_542 : decode cL_law 542 = .ok (.iconst 1, 1) := by decide +kernel
theorem dL_law_543 : decode cL_law 543 = .ok (.iadd, 1) := by decide +kernel
theorem dL_law_544 : decode cL_law 544 = .ok (.iaload, 1) := by decide +kernel
theorem dL_law_545 : decode cL_law 545 = .ok (.aload_n 3, 1) := by decide +kernel
theorem dL_law_546 : decode cL_law 546 = .ok (.invokestatic 78, 3) := by decide +kernel
theorem dL_law_549 : decode cL_law 549 = .ok (.istore 5, 2) := by decide +kernel
theorem dL_law_551 : decode cL_law 551 = .ok (.aload_n 2, 1) := by decide +kernel
theorem dL_law_552 : decode cL_law 552 = .ok (.aload_n 0, 1) := by decide +kernel
theorem dL_law_553 : decode cL_law 553 = .ok (.iload 4, 2) := by decide +kernel
theorem dL_law_555 : decode cL_law 555 = .ok (.iconst 1, 1) := by decide +kernel
theorem dL_law_556 : decode cL_law 556 = .ok (.iadd, 1) := by decide +kernel
theorem dL_law_557 : decode cL_law 557 = .ok (.iaload, 1) := by decide +kernel
theorem dL_law_558 : decode cL_law 558 = .ok (.invokevirtual 80, 3) := by decide +kernel
theorem dL_law_561 : decode cL_law 561 = .ok (.istore 6, 2) := by decide +kernel
theorem dL_law_563 : decode cL_law 563 = .ok (.aload_n 2, 1) := by decide +kernel
theorem dL_law_564 : decode cL_law 564 = .ok (.invokevirtual 54, 3) := by decide +kernel
theorem dL_law_567 : decode cL_law 567 = .ok (.iload 5, 2) := by decide +kernel
theorem dL_law_569 : decode cL_law 569 = .ok (.if_icmp .eq 5, 3) := by decide +kernel
theorem dL_law_572 : decode cL_law 572 = .ok (.iconst 0, 1) := by decide +kernel
theorem dL_law_573 : decode cL_law 573 = .ok (.ireturn, 1) := by decide +kernel
theorem dL_law_574 : decode cL_law 574 = .ok (.iload 5, 2) := by decide +kernel
theorem dL_law_576 : decode cL_law 576 = .ok (.ifCond .ne 15, 3) := by decide +kernel
theorem dL_law_579 : decode cL_law 579 = .ok (.aload_n 3, 1) := by decide +kernel
theorem dL_law_580 : decode cL_law 580 = .ok (.iconst 0, 1) := by decide +kernel
theorem dL_law_581 : decode cL_law 581 = .ok (.laload, 1) := by decide +kernel
theorem dL_law_582 : decode cL_law 582 = .ok (.iload 6, 2) := by decide +kernel
theorem dL_law_584 : decode cL_law 584 = .ok (.i2l, 1) := by decide +kernel
theorem dL_law_585 : decode cL_law 585 = .ok (.lcmp, 1) := by decide +kernel
theorem dL_law_586 : decode cL_law 586 = .ok (.ifCond .eq 5, 3) := by decide +kernel
theorem dL_law_589 : decode cL_law 589 = .ok (.iconst 0, 1) := by decide +kernel
theorem dL_law_590 : decode cL_law 590 = .ok (.ireturn, 1) := by decide +kernel
theorem dL_law_591 : decode cL_law 591 = .ok (.goto 72, 3) := by decide +kernel
theorem dL_law_594 : decode cL_law 594 = .ok (.aload_n 1, 1) := by decide +kernel
theorem dL_law_595 : decode cL_law 595 = .ok (.invokevirtual 81, 3) := by decide +kernel
theorem dL_law_598 : decode cL_law 598 = .ok (.aload_n 2, 1) := by decide +kernel
theorem dL_law_599 : decode cL_law 599 = .ok (.invokevirtual 84, 3) := by decide +kernel
theorem dL_law_602 : decode cL_law 602 = .ok (.if_icmp .eq 61, 3) := by decide +kernel
theorem dL_law_605 : decode cL_law 605 = .ok (.iconst 0, 1) := by decide +kernel
theorem dL_law_606 : decode cL_law 606 = .ok (.ireturn, 1) := by decide +kernel
theorem dL_law_607 : decode cL_law 607 = .ok (.aload_n 1, 1) := by decide +kernel
theorem dL_law_608 : decode cL_law 608 = .ok (.aload_n 0, 1) := by decide +kernel
theorem dL_law_609 : decode cL_law 609 = .ok (.iload 4, 2) := by decide +kernel
theorem dL_law_611 : decode cL_law 611 = .ok (.iconst 1, 1) := by decide +kernel
theorem dL_law_612 : decode cL_law 612 = .ok (.iadd, 1) := by decide +kernel
theorem dL_law_613 : decode cL_law 613 = .ok (.iaload, 1) := by decide +kernel
theorem dL_law_614 : decode cL_law 614 = .ok (.aload_n 3, 1) := by decide +kernel
theorem dL_law_615 : decode cL_law 615 = .ok (.invokestatic 85, 3) := by decide +kernel
theorem dL_law_618 : decode cL_law 618 = .ok (.istore 5, 2) := by decide +kernel
theorem dL_law_620 : decode cL_law 620 = .ok (.aload_n 2, 1) := by decide +kernel
theorem dL_law_621 : decode cL_law 621 = .ok (.aload_n 0, 1) := by decide +kernel
theorem dL_law_622 : decode cL_law 622 = .ok (.iload 4, 2) := by decide +kernel
theorem dL_law_624 : decode cL_law 624 = .ok (.iconst 1, 1) := by decide +kernel
theorem dL_law_625 : decode cL_law 625 = .ok (.iadd, 1) := by decide +kernel
theorem dL_law_626 : decode cL_law 626 = .ok (.iaload, 1) := by decide +kernel
theorem dL_law_627 : decode cL_law 627 = .ok (.invokevirtual 87, 3) := by decide +kernel
theorem dL_law_630 : decode cL_law 630 = .ok (.istore 6, 2) := by decide +kernel
theorem dL_law_632 : decode cL_law 632 = .ok (.aload_n 2, 1) := by decide +kernel
theorem dL_law_633 : decode cL_law 633 = .ok (.invokevirtual 54, 3) := by decide +kernel
theorem dL_law_636 : decode cL_law 636 = .ok (.iload 5, 2) := by decide +kernel
theorem dL_law_638 : decode cL_law 638 = .ok (.if_icmp .eq 5, 3) := by decide +kernel
theorem dL_law_641 : decode cL_law 641 = .ok (.iconst 0, 1) := by decide +kernel
theorem dL_law_642 : decode cL_law 642 = .ok (.ireturn, 1) := by decide +kernel
theorem dL_law_643 : decode cL_law 643 = .ok (.iload 5, 2) := by decide +kernel
theorem dL_law_645 : decode cL_law 645 = .ok (.ifCond .ne 15, 3) := by decide +kernel
theorem dL_law_648 : decode cL_law 648 = .ok (.aload_n 3, 1) := by decide +kernel
theorem dL_law_649 : decode cL_law 649 = .ok (.iconst 0, 1) := by decide +kernel
theorem dL_law_650 : decode cL_law 650 = .ok (.laload, 1) := by decide +kernel
theorem dL_law_651 : decode cL_law 651 = .ok (.iload 6, 2) := by decide +kernel
theorem dL_law_653 : decode cL_law 653 = .ok (.i2l, 1) := by decide +kernel
theorem dL_law_654 : decode cL_law 654 = .ok (.lcmp, 1) := by decide +kernel
theorem dL_law_655 : decode cL_law 655 = .ok (.ifCond .eq 5, 3) := by decide +kernel
theorem dL_law_658 : decode cL_law 658 = .ok (.iconst 0, 1) := by decide +kernel
theorem dL_law_659 : decode cL_law 659 = .ok (.ireturn, 1) := by decide +kernel
theorem dL_law_660 : decode cL_law 660 = .ok (.goto 3, 3) := by decide +kernel
theorem dL_law_663 : decode cL_law 663 = .ok (.iinc 4 3, 3) := by decide +kernel
theorem dL_law_666 : decode cL_law 666 = .ok (.goto (-643), 3) := by decide +kernel
theorem dL_law_669 : decode cL_law 669 = .ok (.iconst 1, 1) := by decide +kernel
theorem dL_law_670 : decode cL_law 670 = .ok (.ireturn, 1) := by decide +kernel
abbrev vwCl : List vw_C := [(RX0, TX0, 2), (RX1, TX1, 4)]
abbrev cX1_cards : ByteArray := prog_3_method_4_code
def yX1_cards : MethodName := ⟨RX1, "cards", "()I"⟩
abbrev cX1_isCell : ByteArray := prog_3_method_5_code
def yX1_isCell : MethodName := ⟨RX1, "isCell", "(I)Z"⟩
abbrev cX1_isCard : ByteArray := prog_3_method_6_code
def yX1_isCard : MethodName := ⟨RX1, "isCard", "(I)Z"⟩
abbrev cX1_many : ByteArray := prog_3_method_7_code
def yX1_many : MethodName := ⟨RX1, "many", "(IZ)I"⟩
abbrev cX1_write : ByteArray := prog_3_method_9_code
def yX1_write : MethodName := ⟨RX1, "write", "(I)I"⟩
abbrev cX1_cover : ByteArray := prog_3_method_10_code
def yX1_cover : MethodName := ⟨RX1, "cover", "(II)I"⟩
abbrev cX1_clean : ByteArray := prog_3_method_11_code
def yX1_clean : MethodName := ⟨RX1, "clean", "(IZ)Z"⟩
abbrev cX1_unsave : ByteArray := prog_3_method_12_code
def yX1_unsave : MethodName := ⟨RX1, "unsave", "(I)Z"⟩
abbrev cX1_card : ByteArray := prog_3_method_13_code
def yX1_card : MethodName := ⟨RX1, "card", "(I)I"⟩
abbrev cX1_nextDirty : ByteArray := prog_3_method_14_code
def yX1_nextDirty : MethodName := ⟨RX1, "nextDirty", "(I)I"⟩
abbrev cX1_nextSaved : ByteArray := prog_3_method_15_code
def yX1_nextSaved : MethodName := ⟨RX1, "nextSaved", "(I)I"⟩
abbrev cX1_clear : ByteArray := prog_3_method_16_code
def yX1_clear : MethodName := ⟨RX1, "clear", "()I"⟩
abbrev cX1_count : ByteArray := prog_3_method_17_code
def yX1_count : MethodName := ⟨RX1, "count", "(I)I"⟩
def wsX1_cards : List Cond := .code yX1_cards cX1_cards 1 (some .int) :: ([.fieldLink RX1 7 "CardBookModel" "cells" "I"] ++ wsX10)
def wsX1_isCell : List Cond := .code yX1_isCell cX1_isCell 2 (some .boolean) :: ([.fieldLink RX1 7 "CardBookModel" "cells" "I"] ++ wsX10)
def wsX1_isCard : List Cond := .code yX1_isCard cX1_isCard 2 (some .boolean) :: ([.methodLink RX1 23 yX1_cards, .instanceMethod yX1_cards, .selects RX1 yX1_cards yX1_cards, .initialized RX1, .code yX1_cards cX1_cards 1 (some .int), .fieldLink RX1 7 "CardBookModel" "cells" "I"] ++ wsX10)
def wsX1_many : List Cond := .code yX1_many cX1_many 5 (some .int) :: ([.fieldLink RX1 13 "CardBookModel" "dirty" "[Z", .fieldLink RX1 17 "CardBookModel" "saved" "[Z"] ++ wsX10)
def wsX1_write : List Cond := .code yX1_write cX1_write 2 (some .int) :: ([.fieldLink RX1 13 "CardBookModel" "dirty" "[Z", .methodLink RX1 35 yX1_isCell, .instanceMethod yX1_isCell, .selects RX1 yX1_isCell yX1_isCell, .initialized RX1, .code yX1_isCell cX1_isCell 2 (some .boolean), .fieldLink RX1 7 "CardBookModel" "cells" "I", .methodLink RX1 27 yX1_goes, .instanceMethod yX1_goes, .selects RX1 yX1_goes yX1_goes, .code yX1_goes cX1_goes 2 (some .boolean), .fieldLink RX1 20 "CardBookModel" "thrown" "I"] ++ wsX10)
def wsX1_cover : List Cond := .code yX1_cover cX1_cover 5 (some .int) :: ([.fieldLink RX1 7 "CardBookModel" "cells" "I", .fieldLink RX1 17 "CardBookModel" "saved" "[Z", .methodLink RX1 35 yX1_isCell, .instanceMethod yX1_isCell, .selects RX1 yX1_isCell yX1_isCell, .initialized RX1, .code yX1_isCell cX1_isCell 2 (some .boolean), .methodLink RX1 27 yX1_goes, .instanceMethod yX1_goes, .selects RX1 yX1_goes yX1_goes, .code yX1_goes cX1_goes 2 (some .boolean), .fieldLink RX1 20 "CardBookModel" "thrown" "I", .methodLink RX1 23 yX1_cards, .instanceMethod yX1_cards, .selects RX1 yX1_cards yX1_cards, .code yX1_cards cX1_cards 1 (some .int)] ++ wsX10)
def wsX1_clean : List Cond := .code yX1_clean cX1_clean 3 (some .boolean) :: ([.fieldLink RX1 13 "CardBookModel" "dirty" "[Z", .fieldLink RX1 17 "CardBookModel" "saved" "[Z", .methodLink RX1 39 yX1_isCard, .instanceMethod yX1_isCard, .selects RX1 yX1_isCard yX1_isCard, .initialized RX1, .code yX1_isCard cX1_isCard 2 (some .boolean), .methodLink RX1 23 yX1_cards, .instanceMethod yX1_cards, .selects RX1 yX1_cards yX1_cards, .code yX1_cards cX1_cards 1 (some .int), .fieldLink RX1 7 "CardBookModel" "cells" "I", .methodLink RX1 27 yX1_goes, .instanceMethod yX1_goes, .selects RX1 yX1_goes yX1_goes, .code yX1_goes cX1_goes 2 (some .boolean), .fieldLink RX1 20 "CardBookModel" "thrown" "I"] ++ wsX10)
def wsX1_unsave : List Cond := .code yX1_unsave cX1_unsave 2 (some .boolean) :: ([.fieldLink RX1 17 "CardBookModel" "saved" "[Z", .methodLink RX1 39 yX1_isCard, .instanceMethod yX1_isCard, .selects RX1 yX1_isCard yX1_isCard, .initialized RX1, .code yX1_isCard cX1_isCard 2 (some .boolean), .methodLink RX1 23 yX1_cards, .instanceMethod yX1_cards, .selects RX1 yX1_cards yX1_cards, .code yX1_cards cX1_cards 1 (some .int), .fieldLink RX1 7 "CardBookModel" "cells" "I", .methodLink RX1 27 yX1_goes, .instanceMethod yX1_goes, .selects RX1 yX1_goes yX1_goes, .code yX1_goes cX1_goes 2 (some .boolean), .fieldLink RX1 20 "CardBookModel" "thrown" "I"] ++ wsX10)
def wsX1_card : List Cond := .code yX1_card cX1_card 2 (some .int) :: ([.fieldLink RX1 13 "CardBookModel" "dirty" "[Z", .fieldLink RX1 17 "CardBookModel" "saved" "[Z", .methodLink RX1 39 yX1_isCard, .instanceMethod yX1_isCard, .selects RX1 yX1_isCard yX1_isCard, .initialized RX1, .code yX1_isCard cX1_isCard 2 (some .boolean), .methodLink RX1 23 yX1_cards, .instanceMethod yX1_cards, .selects RX1 yX1_cards yX1_cards, .code yX1_cards cX1_cards 1 (some .int), .fieldLink RX1 7 "CardBookModel" "cells" "I", .methodLink RX1 27 yX1_goes, .instanceMethod yX1_goes, .selects RX1 yX1_goes yX1_goes, .code yX1_goes cX1_goes 2 (some .boolean), .fieldLink RX1 20 "CardBookModel" "thrown" "I"] ++ wsX10)
def wsX1_nextDirty : List Cond := .code yX1_nextDirty cX1_nextDirty 3 (some .int) :: ([.fieldLink RX1 13 "CardBookModel" "dirty" "[Z", .methodLink RX1 27 yX1_goes, .instanceMethod yX1_goes, .selects RX1 yX1_goes yX1_goes, .initialized RX1, .code yX1_goes cX1_goes 2 (some .boolean), .fieldLink RX1 20 "CardBookModel" "thrown" "I"] ++ wsX10)
def wsX1_nextSaved : List Cond := .code yX1_nextSaved cX1_nextSaved 3 (some .int) :: ([.fieldLink RX1 17 "CardBookModel" "saved" "[Z", .methodLink RX1 27 yX1_goes, .instanceMethod yX1_goes, .selects RX1 yX1_goes yX1_goes, .initialized RX1, .code yX1_goes cX1_goes 2 (some .boolean), .fieldLink RX1 20 "CardBookModel" "thrown" "I"] ++ wsX10)
def wsX1_clear : List Cond := .code yX1_clear cX1_clear 1 (some .int) :: ([.fieldLink RX1 20 "CardBookModel" "thrown" "I", .methodLink RX1 31 yX1_many, .instanceMethod yX1_many, .selects RX1 yX1_many yX1_many, .initialized RX1, .code yX1_many cX1_many 5 (some .int), .fieldLink RX1 13 "CardBookModel" "dirty" "[Z", .fieldLink RX1 17 "CardBookModel" "saved" "[Z"] ++ wsX10)
def wsX1_count : List Cond := .code yX1_count cX1_count 2 (some .int) :: ([.fieldLink RX1 7 "CardBookModel" "cells" "I", .methodLink RX1 27 yX1_goes, .instanceMethod yX1_goes, .selects RX1 yX1_goes yX1_goes, .initialized RX1, .code yX1_goes cX1_goes 2 (some .boolean), .fieldLink RX1 20 "CardBookModel" "thrown" "I", .methodLink RX1 23 yX1_cards, .instanceMethod yX1_cards, .selects RX1 yX1_cards yX1_cards, .code yX1_cards cX1_cards 1 (some .int), .methodLink RX1 31 yX1_many, .instanceMethod yX1_many, .selects RX1 yX1_many yX1_many, .code yX1_many cX1_many 5 (some .int), .fieldLink RX1 13 "CardBookModel" "dirty" "[Z", .fieldLink RX1 17 "CardBookModel" "saved" "[Z"] ++ wsX10)
def wsX1_space : List Cond := .code yX1_space cX1_space 4 (some .int) :: ([.fieldLink RX1 7 "CardBookModel" "cells" "I", .methodLink RX1 27 yX1_goes, .instanceMethod yX1_goes, .selects RX1 yX1_goes yX1_goes, .initialized RX1, .code yX1_goes cX1_goes 2 (some .boolean), .fieldLink RX1 20 "CardBookModel" "thrown" "I", .methodLink RX1 31 yX1_many, .instanceMethod yX1_many, .selects RX1 yX1_many yX1_many, .code yX1_many cX1_many 5 (some .int), .fieldLink RX1 13 "CardBookModel" "dirty" "[Z", .fieldLink RX1 17 "CardBookModel" "saved" "[Z"] ++ wsX10)
theorem dX1_cards_0 : decode cX1_cards 0 = .ok (.aload_n 0, 1) := by decide +kernel
theorem dX1_cards_1 : decode cX1_cards 1 = .ok (.getfield 7, 3) := by decide +kernel
theorem dX1_cards_4 : decode cX1_cards 4 = .ok (.bipush 31, 2) := by decide +kernel
theorem dX1_cards_6 : decode cX1_cards 6 = .ok (.iadd, 1) := by decide +kernel
theorem dX1_cards_7 : decode cX1_cards 7 = .ok (.bipush 32, 2) := by decide +kernel
theorem dX1_cards_9 : decode cX1_cards 9 = .ok (.idiv, 1) := by decide +kernel
theorem dX1_cards_10 : decode cX1_cards 10 = .ok (.ireturn, 1) := by decide +kernel
theorem dX1_isCell_0 : decode cX1_isCell 0 = .ok (.iload_n 1, 1) := by decide +kernel
theorem dX1_isCell_1 : decode cX1_isCell 1 = .ok (.ifCond .lt 15, 3) := by decide +kernel
theorem dX1_isCell_4 : decode cX1_isCell 4 = .ok (.iload_n 1, 1) := by decide +kernel
theorem dX1_isCell_5 : decode cX1_isCell 5 = .ok (.aload_n 0, 1) := by decide +kernel
theorem dX1_isCell_6 : decode cX1_isCell 6 = .ok (.getfield 7, 3) := by decide +kernel
theorem dX1_isCell_9 : decode cX1_isCell 9 = .ok (.if_icmp .ge 7, 3) := by decide +kernel
theorem dX1_isCell_12 : decode cX1_isCell 12 = .ok (.iconst 1, 1) := by decide +kernel
theorem dX1_isCell_13 : decode cX1_isCell 13 = .ok (.goto 4, 3) := by decide +kernel
theorem dX1_isCell_16 : decode cX1_isCell 16 = .ok (.iconst 0, 1) := by decide +kernel
theorem dX1_isCell_17 : decode cX1_isCell 17 = .ok (.ireturn, 1) := by decide +kernel
theorem dX1_isCard_0 : decode cX1_isCard 0 = .ok (.iload_n 1, 1) := by decide +kernel
theorem dX1_isCard_1 : decode cX1_isCard 1 = .ok (.ifCond .lt 15, 3) := by decide +kernel
theorem dX1_isCard_4 : decode cX1_isCard 4 = .ok (.iload_n 1, 1) := by decide +kernel
theorem dX1_isCard_5 : decode cX1_isCard 5 = .ok (.aload_n 0, 1) := by decide +kernel
theorem dX1_isCard_6 : decode cX1_isCard 6 = .ok (.invokevirtual 23, 3) := by decide +kernel
theorem dX1_isCard_9 : decode cX1_isCard 9 = .ok (.if_icmp .ge 7, 3) := by decide +kernel
theorem dX1_isCard_12 : decode cX1_isCard 12 = .ok (.iconst 1, 1) := by decide +kernel
theorem dX1_isCard_13 : decode cX1_isCard 13 = .ok (.goto 4, 3) := by decide +kernel
theorem dX1_isCard_16 : decode cX1_isCard 16 = .ok (.iconst 0, 1) := by decide +kernel
theorem dX1_isCard_17 : decode cX1_isCard 17 = .ok (.ireturn, 1) := by decide +kernel
theorem dX1_many_0 : decode cX1_many 0 = .ok (.iconst 0, 1) := by decide +kernel
theorem dX1_many_1 : decode cX1_many 1 = .ok (.istore_n 3, 1) := by decide +kernel
theorem dX1_many_2 : decode cX1_many 2 = .ok (.iconst 0, 1) := by decide +kernel
theorem dX1_many_3 : decode cX1_many 3 = .ok (.istore 4, 2) := by decide +kernel
theorem dX1_many_5 : decode cX1_many 5 = .ok (.iload 4, 2) := by decide +kernel
theorem dX1_many_7 : decode cX1_many 7 = .ok (.sipush 512, 3) := by decide +kernel
theorem dX1_many_10 : decode cX1_many 10 = .ok (.if_icmp .ge 103, 3) := by decide +kernel
theorem dX1_many_13 : decode cX1_many 13 = .ok (.iload_n 1, 1) := by decide +kernel
theorem dX1_many_14 : decode cX1_many 14 = .ok (.iconst 1, 1) := by decide +kernel
theorem dX1_many_15 : decode cX1_many 15 = .ok (.iand, 1) := by decide +kernel
theorem dX1_many_16 : decode cX1_many 16 = .ok (.iconst 1, 1) := by decide +kernel
theorem dX1_many_17 : decode cX1_many 17 = .ok (.if_icmp .ne 13, 3) := by decide +kernel
theorem dX1_many_20 : decode cX1_many 20 = .ok (.aload_n 0, 1) := by decide +kernel
theorem dX1_many_21 : decode cX1_many 21 = .ok (.getfield 13, 3) := by decide +kernel
theorem dX1_many_24 : decode cX1_many 24 = .ok (.iload 4, 2) := by decide +kernel
theorem dX1_many_26 : decode cX1_many 26 = .ok (.baload, 1) := by decide +kernel
theorem dX1_many_27 : decode cX1_many 27 = .ok (.ifCond .ne 20, 3) := by decide +kernel
theorem dX1_many_30 : decode cX1_many 30 = .ok (.iload_n 1, 1) := by decide +kernel
theorem dX1_many_31 : decode cX1_many 31 = .ok (.iconst 2, 1) := by decide +kernel
theorem dX1_many_32 : decode cX1_many 32 = .ok (.iand, 1) := by decide +kernel
theorem dX1_many_33 : decode cX1_many 33 = .ok (.iconst 2, 1) := by decide +kernel
theorem dX1_many_34 : decode cX1_many 34 = .ok (.if_icmp .ne 19, 3) := by decide +kernel
theorem dX1_many_37 : decode cX1_many 37 = .ok (.aload_n 0, 1) := by decide +kernel
theorem dX1_many_38 : decode cX1_many 38 = .ok (.getfield 17, 3) := by decide +kernel
theorem dX1_many_41 : decode cX1_many 41 = .ok (.iload 4, 2) := by decide +kernel
theorem dX1_many_43 : decode cX1_many 43 = .ok (.baload, 1) := by decide +kernel
theorem dX1_many_44 : decode cX1_many 44 = .ok (.ifCond .eq 9, 3) := by decide +kernel
theorem dX1_many_47 : decode cX1_many 47 = .ok (.iload_n 3, 1) := by decide +kernel
theorem dX1_many_48 : decode cX1_many 48 = .ok (.iconst 1, 1) := by decide +kernel
theorem dX1_many_49 : decode cX1_many 49 = .ok (.iadd, 1) := by decide +kernel
theorem dX1_many_50 : decode cX1_many 50 = .ok (.goto 4, 3) := by decide +kernel
theorem dX1_many_53 : decode cX1_many 53 = .ok (.iload_n 3, 1) := by decide +kernel
theorem dX1_many_54 : decode cX1_many 54 = .ok (.istore_n 3, 1) := by decide +kernel
theorem dX1_many_55 : decode cX1_many 55 = .ok (.aload_n 0, 1) := by decide +kernel
theorem dX1_many_56 : decode cX1_many 56 = .ok (.getfield 13, 3) := by decide +kernel
theorem dX1_many_59 : decode cX1_many 59 = .ok (.iload 4, 2) := by decide +kernel
theorem dX1_many_61 : decode cX1_many 61 = .ok (.aload_n 0, 1) := by decide +kernel
theorem dX1_many_62 : decode cX1_many 62 = .ok (.getfield 13, 3) := by decide +kernel
theorem dX1_many_65 : decode cX1_many 65 = .ok (.iload 4, 2) := by decide +kernel
theorem dX1_many_67 : decode cX1_many 67 = .ok (.baload, 1) := by decide +kernel
theorem dX1_many_68 : decode cX1_many 68 = .ok (.ifCond .eq 11, 3) := by decide +kernel
theorem dX1_many_71 : decode cX1_many 71 = .ok (.iload_n 2, 1) := by decide +kernel
theorem dX1_many_72 : decode cX1_many 72 = .ok (.ifCond .ne 7, 3) := by decide +kernel
theorem dX1_many_75 : decode cX1_many 75 = .ok (.iconst 1, 1) := by decide +kernel
theorem dX1_many_76 : decode cX1_many 76 = .ok (.goto 4, 3) := by decide +kernel
theorem dX1_many_79 : decode cX1_many 79 = .ok (.iconst 0, 1) := by decide +kernel
theorem dX1_many_80 : decode cX1_many 80 = .ok (.bastore, 1) := by decide +kernel
theorem dX1_many_81 : decode cX1_many 81 = .ok (.aload_n 0, 1) := by decide +kernel
theorem dX1_many_82 : decode cX1_many 82 = .ok (.getfield 17, 3) := by decide +kernel
theorem dX1_many_85 : decode cX1_many 85 = .ok (.iload 4, 2) := by decide +kernel
theorem dX1_many_87 : decode cX1_many 87 = .ok (.aload_n 0, 1) := by decide +kernel
theorem dX1_many_88 : decode cX1_many 88 = .ok (.getfield 17, 3) := by decide +kernel
theorem dX1_many_91 : decode cX1_many 91 = .ok (.iload 4, 2) := by decide +kernel
theorem dX1_many_93 : decode cX1_many 93 = .ok (.baload, 1) := by decide +kernel
theorem dX1_many_94 : decode cX1_many 94 = .ok (.ifCond .eq 11, 3) := by decide +kernel
theorem dX1_many_97 : decode cX1_many 97 = .ok (.iload_n 2, 1) := by decide +kernel
theorem dX1_many_98 : decode cX1_many 98 = .ok (.ifCond .ne 7, 3) := by decide +kernel
theorem dX1_many_101 : decode cX1_many 101 = .ok (.iconst 1, 1) := by decide +kernel
theorem dX1_many_102 : decode cX1_many 102 = .ok (.goto 4, 3) := by decide +kernel
theorem dX1_many_105 : decode cX1_many 105 = .ok (.iconst 0, 1) := by decide +kernel
theorem dX1_many_106 : decode cX1_many 106 = .ok (.bastore, 1) := by decide +kernel
theorem dX1_many_107 : decode cX1_many 107 = .ok (.iinc 4 1, 3) := by decide +kernel
theorem dX1_many_110 : decode cX1_many 110 = .ok (.goto (-105), 3) := by decide +kernel
theorem dX1_many_113 : decode cX1_many 113 = .ok (.iload_n 3, 1) := by decide +kernel
theorem dX1_many_114 : decode cX1_many 114 = .ok (.ireturn, 1) := by decide +kernel
theorem dX1_write_0 : decode cX1_write 0 = .ok (.aload_n 0, 1) := by decide +kernel
theorem dX1_write_1 : decode cX1_write 1 = .ok (.aload_n 0, 1) := by decide +kernel
theorem dX1_write_2 : decode cX1_write 2 = .ok (.iload_n 1, 1) := by decide +kernel
theorem dX1_write_3 : decode cX1_write 3 = .ok (.invokevirtual 35, 3) := by decide +kernel
theorem dX1_write_6 : decode cX1_write 6 = .ok (.invokevirtual 27, 3) := by decide +kernel
theorem dX1_write_9 : decode cX1_write 9 = .ok (.ifCond .ne 5, 3) := by decide +kernel
theorem dX1_write_12 : decode cX1_write 12 = .ok (.iconst 0, 1) := by decide +kernel
theorem dX1_write_13 : decode cX1_write 13 = .ok (.ireturn, 1) := by decide +kernel
theorem dX1_write_14 : decode cX1_write 14 = .ok (.aload_n 0, 1) := by decide +kernel
theorem dX1_write_15 : decode cX1_write 15 = .ok (.getfield 13, 3) := by decide +kernel
theorem dX1_write_18 : decode cX1_write 18 = .ok (.iload_n 1, 1) := by decide +kernel
theorem dX1_write_19 : decode cX1_write 19 = .ok (.bipush 32, 2) := by decide +kernel
theorem dX1_write_21 : decode cX1_write 21 = .ok (.idiv, 1) := by decide +kernel
theorem dX1_write_22 : decode cX1_write 22 = .ok (.iconst 1, 1) := by decide +kernel
theorem dX1_write_23 : decode cX1_write 23 = .ok (.bastore, 1) := by decide +kernel
theorem dX1_write_24 : decode cX1_write 24 = .ok (.iload_n 1, 1) := by decide +kernel
theorem dX1_write_25 : decode cX1_write 25 = .ok (.bipush 32, 2) := by decide +kernel
theorem dX1_write_27 : decode cX1_write 27 = .ok (.idiv, 1) := by decide +kernel
theorem dX1_write_28 : decode cX1_write 28 = .ok (.ireturn, 1) := by decide +kernel
theorem dX1_cover_0 : decode cX1_cover 0 = .ok (.aload_n 0, 1) := by decide +kernel
theorem dX1_cover_1 : decode cX1_cover 1 = .ok (.aload_n 0, 1) := by decide +kernel
theorem dX1_cover_2 : decode cX1_cover 2 = .ok (.iload_n 1, 1) := by decide +kernel
theorem dX1_cover_3 : decode cX1_cover 3 = .ok (.invokevirtual 35, 3) := by decide +kernel
theorem dX1_cover_6 : decode cX1_cover 6 = .ok (.ifCond .eq 22, 3) := by decide +kernel
theorem dX1_cover_9 : decode cX1_cover 9 = .ok (.iload_n 2, 1) := by decide +kernel
theorem dX1_cover_10 : decode cX1_cover 10 = .ok (.iconst 1, 1) := by decide +kernel
theorem dX1_cover_11 : decode cX1_cover 11 = .ok (.if_icmp .lt 17, 3) := by decide +kernel
theorem dX1_cover_14 : decode cX1_cover 14 = .ok (.iload_n 2, 1) := by decide +kernel
theorem dX1_cover_15 : decode cX1_cover 15 = .ok (.aload_n 0, 1) := by decide +kernel
theorem dX1_cover_16 : decode cX1_cover 16 = .ok (.getfield 7, 3) := by decide +kernel
theorem dX1_cover_19 : decode cX1_cover 19 = .ok (.iload_n 1, 1) := by decide +kernel
theorem dX1_cover_20 : decode cX1_cover 20 = .ok (.isub, 1) := by decide +kernel
theorem dX1_cover_21 : decode cX1_cover 21 = .ok (.if_icmp .gt 7, 3) := by decide +kernel
theorem dX1_cover_24 : decode cX1_cover 24 = .ok (.iconst 1, 1) := by decide +kernel
theorem dX1_cover_25 : decode cX1_cover 25 = .ok (.goto 4, 3) := by decide +kernel
theorem dX1_cover_28 : decode cX1_cover 28 = .ok (.iconst 0, 1) := by decide +kernel
theorem dX1_cover_29 : decode cX1_cover 29 = .ok (.invokevirtual 27, 3) := by decide +kernel
theorem dX1_cover_32 : decode cX1_cover 32 = .ok (.ifCond .ne 5, 3) := by decide +kernel
theorem dX1_cover_35 : decode cX1_cover 35 = .ok (.iconst 0, 1) := by decide +kernel
theorem dX1_cover_36 : decode cX1_cover 36 = .ok (.ireturn, 1) := by decide +kernel
theorem dX1_cover_37 : decode cX1_cover 37 = .ok (.iconst 0, 1) := by decide +kernel
theorem dX1_cover_38 : decode cX1_cover 38 = .ok (.istore_n 3, 1) := by decide +kernel
theorem dX1_cover_39 : decode cX1_cover 39 = .ok (.iconst 0, 1) := by decide +kernel
theorem dX1_cover_40 : decode cX1_cover 40 = .ok (.istore 4, 2) := by decide +kernel
theorem dX1_cover_42 : decode cX1_cover 42 = .ok (.iload 4, 2) := by decide +kernel
theorem dX1_cover_44 : decode cX1_cover 44 = .ok (.aload_n 0, 1) := by decide +kernel
theorem dX1_cover_45 : decode cX1_cover 45 = .ok (.invokevirtual 23, 3) := by decide +kernel
theorem dX1_cover_48 : decode cX1_cover 48 = .ok (.if_icmp .ge 43, 3) := by decide +kernel
theorem dX1_cover_51 : decode cX1_cover 51 = .ok (.bipush 32, 2) := by decide +kernel
theorem dX1_cover_53 : decode cX1_cover 53 = .ok (.iload 4, 2) := by decide +kernel
theorem dX1_cover_55 : decode cX1_cover 55 = .ok (.imul, 1) := by decide +kernel
theorem dX1_cover_56 : decode cX1_cover 56 = .ok (.iload_n 1, 1) := by decide +kernel
theorem dX1_cover_57 : decode cX1_cover 57 = .ok (.iload_n 2, 1) := by decide +kernel
theorem dX1_cover_58 : decode cX1_cover 58 = .ok (.iadd, 1) := by decide +kernel
theorem dX1_cover_59 : decode cX1_cover 59 = .ok (.if_icmp .ge 26, 3) := by decide +kernel
theorem dX1_cover_62 : decode cX1_cover 62 = .ok (.bipush 32, 2) := by decide +kernel
theorem dX1_cover_64 : decode cX1_cover 64 = .ok (.iload 4, 2) := by decide +kernel
theorem dX1_cover_66 : decode cX1_cover 66 = .ok (.imul, 1) := by decide +kernel
theorem dX1_cover_67 : decode cX1_cover 67 = .ok (.bipush 31, 2) := by decide +kernel
theorem dX1_cover_69 : decode cX1_cover 69 = .ok (.iadd, 1) := by decide +kernel
theorem dX1_cover_70 : decode cX1_cover 70 = .ok (.iload_n 1, 1) := by decide +kernel
theorem dX1_cover_71 : decode cX1_cover 71 = .ok (.if_icmp .lt 14, 3) := by decide +kernel
theorem dX1_cover_74 : decode cX1_cover 74 = .ok (.aload_n 0, 1) := by decide +kernel
theorem dX1_cover_75 : decode cX1_cover 75 = .ok (.getfield 17, 3) := by decide +kernel
theorem dX1_cover_78 : decode cX1_cover 78 = .ok (.iload 4, 2) := by decide +kernel
theorem dX1_cover_80 : decode cX1_cover 80 = .ok (.iconst 1, 1) := by decide +kernel
theorem dX1_cover_81 : decode cX1_cover 81 = .ok (.bastore, 1) := by decide +kernel
theorem dX1_cover_82 : decode cX1_cover 82 = .ok (.iinc 3 1, 3) := by decide +kernel
theorem dX1_cover_85 : decode cX1_cover 85 = .ok (.iinc 4 1, 3) := by decide +kernel
theorem dX1_cover_88 : decode cX1_cover 88 = .ok (.goto (-46), 3) := by decide +kernel
theorem dX1_cover_91 : decode cX1_cover 91 = .ok (.iload_n 3, 1) := by decide +kernel
theorem dX1_cover_92 : decode cX1_cover 92 = .ok (.ireturn, 1) := by decide +kernel
theorem dX1_clean_0 : decode cX1_clean 0 = .ok (.aload_n 0, 1) := by decide +kernel
theorem dX1_clean_1 : decode cX1_clean 1 = .ok (.aload_n 0, 1) := by decide +kernel
theorem dX1_clean_2 : decode cX1_clean 2 = .ok (.iload_n 1, 1) := by decide +kernel
theorem dX1_clean_3 : decode cX1_clean 3 = .ok (.invokevirtual 39, 3) := by decide +kernel
theorem dX1_clean_6 : decode cX1_clean 6 = .ok (.invokevirtual 27, 3) := by decide +kernel
theorem dX1_clean_9 : decode cX1_clean 9 = .ok (.ifCond .eq 12, 3) := by decide +kernel
theorem dX1_clean_12 : decode cX1_clean 12 = .ok (.aload_n 0, 1) := by decide +kernel
theorem dX1_clean_13 : decode cX1_clean 13 = .ok (.getfield 13, 3) := by decide +kernel
theorem dX1_clean_16 : decode cX1_clean 16 = .ok (.iload_n 1, 1) := by decide +kernel
theorem dX1_clean_17 : decode cX1_clean 17 = .ok (.baload, 1) := by decide +kernel
theorem dX1_clean_18 : decode cX1_clean 18 = .ok (.ifCond .ne 5, 3) := by decide +kernel
theorem dX1_clean_21 : decode cX1_clean 21 = .ok (.iconst 0, 1) := by decide +kernel
theorem dX1_clean_22 : decode cX1_clean 22 = .ok (.ireturn, 1) := by decide +kernel
theorem dX1_clean_23 : decode cX1_clean 23 = .ok (.aload_n 0, 1) := by decide +kernel
theorem dX1_clean_24 : decode cX1_clean 24 = .ok (.getfield 13, 3) := by decide +kernel
theorem dX1_clean_27 : decode cX1_clean 27 = .ok (.iload_n 1, 1) := by decide +kernel
theorem dX1_clean_28 : decode cX1_clean 28 = .ok (.iconst 0, 1) := by decide +kernel
theorem dX1_clean_29 : decode cX1_clean 29 = .ok (.bastore, 1) := by decide +kernel
theorem dX1_clean_30 : decode cX1_clean 30 = .ok (.aload_n 0, 1) := by decide +kernel
theorem dX1_clean_31 : decode cX1_clean 31 = .ok (.getfield 17, 3) := by decide +kernel
theorem dX1_clean_34 : decode cX1_clean 34 = .ok (.iload_n 1, 1) := by decide +kernel
theorem dX1_clean_35 : decode cX1_clean 35 = .ok (.aload_n 0, 1) := by decide +kernel
theorem dX1_clean_36 : decode cX1_clean 36 = .ok (.getfield 17, 3) := by decide +kernel
theorem dX1_clean_39 : decode cX1_clean 39 = .ok (.iload_n 1, 1) := by decide +kernel
theorem dX1_clean_40 : decode cX1_clean 40 = .ok (.baload, 1) := by decide +kernel
theorem dX1_clean_41 : decode cX1_clean 41 = .ok (.ifCond .ne 7, 3) := by decide +kernel
theorem dX1_clean_44 : decode cX1_clean 44 = .ok (.iload_n 2, 1) := by decide +kernel
theorem dX1_clean_45 : decode cX1_clean 45 = .ok (.ifCond .eq 7, 3) := by decide +kernel
theorem dX1_clean_48 : decode cX1_clean 48 = .ok (.iconst 1, 1) := by decide +kernel
theorem dX1_clean_49 : decode cX1_clean 49 = .ok (.goto 4, 3) := by decide +kernel
theorem dX1_clean_52 : decode cX1_clean 52 = .ok (.iconst 0, 1) := by decide +kernel
theorem dX1_clean_53 : decode cX1_clean 53 = .ok (.bastore, 1) := by decide +kernel
theorem dX1_clean_54 : decode cX1_clean 54 = .ok (.iconst 1, 1) := by decide +kernel
theorem dX1_clean_55 : decode cX1_clean 55 = .ok (.ireturn, 1) := by decide +kernel
theorem dX1_unsave_0 : decode cX1_unsave 0 = .ok (.aload_n 0, 1) := by decide +kernel
theorem dX1_unsave_1 : decode cX1_unsave 1 = .ok (.aload_n 0, 1) := by decide +kernel
theorem dX1_unsave_2 : decode cX1_unsave 2 = .ok (.iload_n 1, 1) := by decide +kernel
theorem dX1_unsave_3 : decode cX1_unsave 3 = .ok (.invokevirtual 39, 3) := by decide +kernel
theorem dX1_unsave_6 : decode cX1_unsave 6 = .ok (.invokevirtual 27, 3) := by decide +kernel
theorem dX1_unsave_9 : decode cX1_unsave 9 = .ok (.ifCond .eq 12, 3) := by decide +kernel
theorem dX1_unsave_12 : decode cX1_unsave 12 = .ok (.aload_n 0, 1) := by decide +kernel
theorem dX1_unsave_13 : decode cX1_unsave 13 = .ok (.getfield 17, 3) := by decide +kernel
theorem dX1_unsave_16 : decode cX1_unsave 16 = .ok (.iload_n 1, 1) := by decide +kernel
theorem dX1_unsave_17 : decode cX1_unsave 17 = .ok (.baload, 1) := by decide +kernel
theorem dX1_unsave_18 : decode cX1_unsave 18 = .ok (.ifCond .ne 5, 3) := by decide +kernel
theorem dX1_unsave_21 : decode cX1_unsave 21 = .ok (.iconst 0, 1) := by decide +kernel
theorem dX1_unsave_22 : decode cX1_unsave 22 = .ok (.ireturn, 1) := by decide +kernel
theorem dX1_unsave_23 : decode cX1_unsave 23 = .ok (.aload_n 0, 1) := by decide +kernel
theorem dX1_unsave_24 : decode cX1_unsave 24 = .ok (.getfield 17, 3) := by decide +kernel
theorem dX1_unsave_27 : decode cX1_unsave 27 = .ok (.iload_n 1, 1) := by decide +kernel
theorem dX1_unsave_28 : decode cX1_unsave 28 = .ok (.iconst 0, 1) := by decide +kernel
theorem dX1_unsave_29 : decode cX1_unsave 29 = .ok (.bastore, 1) := by decide +kernel
theorem dX1_unsave_30 : decode cX1_unsave 30 = .ok (.iconst 1, 1) := by decide +kernel
theorem dX1_unsave_31 : decode cX1_unsave 31 = .ok (.ireturn, 1) := by decide +kernel
theorem dX1_card_0 : decode cX1_card 0 = .ok (.aload_n 0, 1) := by decide +kernel
theorem dX1_card_1 : decode cX1_card 1 = .ok (.aload_n 0, 1) := by decide +kernel
theorem dX1_card_2 : decode cX1_card 2 = .ok (.iload_n 1, 1) := by decide +kernel
theorem dX1_card_3 : decode cX1_card 3 = .ok (.invokevirtual 39, 3) := by decide +kernel
theorem dX1_card_6 : decode cX1_card 6 = .ok (.invokevirtual 27, 3) := by decide +kernel
theorem dX1_card_9 : decode cX1_card 9 = .ok (.ifCond .eq 35, 3) := by decide +kernel
theorem dX1_card_12 : decode cX1_card 12 = .ok (.aload_n 0, 1) := by decide +kernel
theorem dX1_card_13 : decode cX1_card 13 = .ok (.getfield 13, 3) := by decide +kernel
theorem dX1_card_16 : decode cX1_card 16 = .ok (.iload_n 1, 1) := by decide +kernel
theorem dX1_card_17 : decode cX1_card 17 = .ok (.baload, 1) := by decide +kernel
theorem dX1_card_18 : decode cX1_card 18 = .ok (.ifCond .eq 7, 3) := by decide +kernel
theorem dX1_card_21 : decode cX1_card 21 = .ok (.iconst 1, 1) := by decide +kernel
theorem dX1_card_22 : decode cX1_card 22 = .ok (.goto 4, 3) := by decide +kernel
theorem dX1_card_25 : decode cX1_card 25 = .ok (.iconst 0, 1) := by decide +kernel
theorem dX1_card_26 : decode cX1_card 26 = .ok (.aload_n 0, 1) := by decide +kernel
theorem dX1_card_27 : decode cX1_card 27 = .ok (.getfield 17, 3) := by decide +kernel
theorem dX1_card_30 : decode cX1_card 30 = .ok (.iload_n 1, 1) := by decide +kernel
theorem dX1_card_31 : decode cX1_card 31 = .ok (.baload, 1) := by decide +kernel
theorem dX1_card_32 : decode cX1_card 32 = .ok (.ifCond .eq 7, 3) := by decide +kernel
theorem dX1_card_35 : decode cX1_card 35 = .ok (.iconst 2, 1) := by decide +kernel
theorem dX1_card_36 : decode cX1_card 36 = .ok (.goto 4, 3) := by decide +kernel
theorem dX1_card_39 : decode cX1_card 39 = .ok (.iconst 0, 1) := by decide +kernel
theorem dX1_card_40 : decode cX1_card 40 = .ok (.iadd, 1) := by decide +kernel
theorem dX1_card_41 : decode cX1_card 41 = .ok (.goto 4, 3) := by decide +kernel
theorem dX1_card_44 : decode cX1_card 44 = .ok (.iconst 0, 1) := by decide +kernel
theorem dX1_card_45 : decode cX1_card 45 = .ok (.ireturn, 1) := by decide +kernel
theorem dX1_nextDirty_0 : decode cX1_nextDirty 0 = .ok (.aload_n 0, 1) := by decide +kernel
theorem dX1_nextDirty_1 : decode cX1_nextDirty 1 = .ok (.iload_n 1, 1) := by decide +kernel
theorem dX1_nextDirty_2 : decode cX1_nextDirty 2 = .ok (.ifCond .lt 7, 3) := by decide +kernel
theorem dX1_nextDirty_5 : decode cX1_nextDirty 5 = .ok (.iconst 1, 1) := by decide +kernel
theorem dX1_nextDirty_6 : decode cX1_nextDirty 6 = .ok (.goto 4, 3) := by decide +kernel
theorem dX1_nextDirty_9 : decode cX1_nextDirty 9 = .ok (.iconst 0, 1) := by decide +kernel
theorem dX1_nextDirty_10 : decode cX1_nextDirty 10 = .ok (.invokevirtual 27, 3) := by decide +kernel
theorem dX1_nextDirty_13 : decode cX1_nextDirty 13 = .ok (.ifCond .ne 5, 3) := by decide +kernel
theorem dX1_nextDirty_16 : decode cX1_nextDirty 16 = .ok (.iconst 0, 1) := by decide +kernel
theorem dX1_nextDirty_17 : decode cX1_nextDirty 17 = .ok (.ireturn, 1) := by decide +kernel
theorem dX1_nextDirty_18 : decode cX1_nextDirty 18 = .ok (.iconst 0, 1) := by decide +kernel
theorem dX1_nextDirty_19 : decode cX1_nextDirty 19 = .ok (.istore_n 2, 1) := by decide +kernel
theorem dX1_nextDirty_20 : decode cX1_nextDirty 20 = .ok (.iload_n 2, 1) := by decide +kernel
theorem dX1_nextDirty_21 : decode cX1_nextDirty 21 = .ok (.sipush 512, 3) := by decide +kernel
theorem dX1_nextDirty_24 : decode cX1_nextDirty 24 = .ok (.if_icmp .ge 25, 3) := by decide +kernel
theorem dX1_nextDirty_27 : decode cX1_nextDirty 27 = .ok (.iload_n 2, 1) := by decide +kernel
theorem dX1_nextDirty_28 : decode cX1_nextDirty 28 = .ok (.iload_n 1, 1) := by decide +kernel
theorem dX1_nextDirty_29 : decode cX1_nextDirty 29 = .ok (.if_icmp .lt 14, 3) := by decide +kernel
theorem dX1_nextDirty_32 : decode cX1_nextDirty 32 = .ok (.aload_n 0, 1) := by decide +kernel
theorem dX1_nextDirty_33 : decode cX1_nextDirty 33 = .ok (.getfield 13, 3) := by decide +kernel
theorem dX1_nextDirty_36 : decode cX1_nextDirty 36 = .ok (.iload_n 2, 1) := by decide +kernel
theorem dX1_nextDirty_37 : decode cX1_nextDirty 37 = .ok (.baload, 1) := by decide +kernel
theorem dX1_nextDirty_38 : decode cX1_nextDirty 38 = .ok (.ifCond .eq 5, 3) := by decide +kernel
theorem dX1_nextDirty_41 : decode cX1_nextDirty 41 = .ok (.iload_n 2, 1) := by decide +kernel
theorem dX1_nextDirty_42 : decode cX1_nextDirty 42 = .ok (.ireturn, 1) := by decide +kernel
theorem dX1_nextDirty_43 : decode cX1_nextDirty 43 = .ok (.iinc 2 1, 3) := by decide +kernel
theorem dX1_nextDirty_46 : decode cX1_nextDirty 46 = .ok (.goto (-26), 3) := by decide +kernel
theorem dX1_nextDirty_49 : decode cX1_nextDirty 49 = .ok (.iconst (-1), 1) := by decide +kernel
theorem dX1_nextDirty_50 : decode cX1_nextDirty 50 = .ok (.ireturn, 1) := by decide +kernel
theorem dX1_nextSaved_0 : decode cX1_nextSaved 0 = .ok (.aload_n 0, 1) := by decide +kernel
theorem dX1_nextSaved_1 : decode cX1_nextSaved 1 = .ok (.iload_n 1, 1) := by decide +kernel
theorem dX1_nextSaved_2 : decode cX1_nextSaved 2 = .ok (.ifCond .lt 7, 3) := by decide +kernel
theorem dX1_nextSaved_5 : decode cX1_nextSaved 5 = .ok (.iconst 1, 1) := by decide +kernel
theorem dX1_nextSaved_6 : decode cX1_nextSaved 6 = .ok (.goto 4, 3) := by decide +kernel
theorem dX1_nextSaved_9 : decode cX1_nextSaved 9 = .ok (.iconst 0, 1) := by decide +kernel
theorem dX1_nextSaved_10 : decode cX1_nextSaved 10 = .ok (.invokevirtual 27, 3) := by decide +kernel
theorem dX1_nextSaved_13 : decode cX1_nextSaved 13 = .ok (.ifCond .ne 5, 3) := by decide +kernel
theorem dX1_nextSaved_16 : decode cX1_nextSaved 16 = .ok (.iconst 0, 1) := by decide +kernel
theorem dX1_nextSaved_17 : decode cX1_nextSaved 17 = .ok (.ireturn, 1) := by decide +kernel
theorem dX1_nextSaved_18 : decode cX1_nextSaved 18 = .ok (.iconst 0, 1) := by decide +kernel
theorem dX1_nextSaved_19 : decode cX1_nextSaved 19 = .ok (.istore_n 2, 1) := by decide +kernel
theorem dX1_nextSaved_20 : decode cX1_nextSaved 20 = .ok (.iload_n 2, 1) := by decide +kernel
theorem dX1_nextSaved_21 : decode cX1_nextSaved 21 = .ok (.sipush 512, 3) := by decide +kernel
theorem dX1_nextSaved_24 : decode cX1_nextSaved 24 = .ok (.if_icmp .ge 25, 3) := by decide +kernel
theorem dX1_nextSaved_27 : decode cX1_nextSaved 27 = .ok (.iload_n 2, 1) := by decide +kernel
theorem dX1_nextSaved_28 : decode cX1_nextSaved 28 = .ok (.iload_n 1, 1) := by decide +kernel
theorem dX1_nextSaved_29 : decode cX1_nextSaved 29 = .ok (.if_icmp .lt 14, 3) := by decide +kernel
theorem dX1_nextSaved_32 : decode cX1_nextSaved 32 = .ok (.aload_n 0, 1) := by decide +kernel
theorem dX1_nextSaved_33 : decode cX1_nextSaved 33 = .ok (.getfield 17, 3) := by decide +kernel
theorem dX1_nextSaved_36 : decode cX1_nextSaved 36 = .ok (.iload_n 2, 1) := by decide +kernel
theorem dX1_nextSaved_37 : decode cX1_nextSaved 37 = .ok (.baload, 1) := by decide +kernel
theorem dX1_nextSaved_38 : decode cX1_nextSaved 38 = .ok (.ifCond .eq 5, 3) := by decide +kernel
theorem dX1_nextSaved_41 : decode cX1_nextSaved 41 = .ok (.iload_n 2, 1) := by decide +kernel
theorem dX1_nextSaved_42 : decode cX1_nextSaved 42 = .ok (.ireturn, 1) := by decide +kernel
theorem dX1_nextSaved_43 : decode cX1_nextSaved 43 = .ok (.iinc 2 1, 3) := by decide +kernel
theorem dX1_nextSaved_46 : decode cX1_nextSaved 46 = .ok (.goto (-26), 3) := by decide +kernel
theorem dX1_nextSaved_49 : decode cX1_nextSaved 49 = .ok (.iconst (-1), 1) := by decide +kernel
theorem dX1_nextSaved_50 : decode cX1_nextSaved 50 = .ok (.ireturn, 1) := by decide +kernel
theorem dX1_clear_0 : decode cX1_clear 0 = .ok (.aload_n 0, 1) := by decide +kernel
theorem dX1_clear_1 : decode cX1_clear 1 = .ok (.iconst 0, 1) := by decide +kernel
theorem dX1_clear_2 : decode cX1_clear 2 = .ok (.putfield 20, 3) := by decide +kernel
theorem dX1_clear_5 : decode cX1_clear 5 = .ok (.aload_n 0, 1) := by decide +kernel
theorem dX1_clear_6 : decode cX1_clear 6 = .ok (.iconst 3, 1) := by decide +kernel
theorem dX1_clear_7 : decode cX1_clear 7 = .ok (.iconst 1, 1) := by decide +kernel
theorem dX1_clear_8 : decode cX1_clear 8 = .ok (.invokevirtual 31, 3) := by decide +kernel
theorem dX1_clear_11 : decode cX1_clear 11 = .ok (.ireturn, 1) := by decide +kernel
theorem dX1_count_0 : decode cX1_count 0 = .ok (.aload_n 0, 1) := by decide +kernel
theorem dX1_count_1 : decode cX1_count 1 = .ok (.iload_n 1, 1) := by decide +kernel
theorem dX1_count_2 : decode cX1_count 2 = .ok (.ifCond .lt 12, 3) := by decide +kernel
theorem dX1_count_5 : decode cX1_count 5 = .ok (.iload_n 1, 1) := by decide +kernel
theorem dX1_count_6 : decode cX1_count 6 = .ok (.iconst 3, 1) := by decide +kernel
theorem dX1_count_7 : decode cX1_count 7 = .ok (.if_icmp .gt 7, 3) := by decide +kernel
theorem dX1_count_10 : decode cX1_count 10 = .ok (.iconst 1, 1) := by decide +kernel
theorem dX1_count_11 : decode cX1_count 11 = .ok (.goto 4, 3) := by decide +kernel
theorem dX1_count_14 : decode cX1_count 14 = .ok (.iconst 0, 1) := by decide +kernel
theorem dX1_count_15 : decode cX1_count 15 = .ok (.invokevirtual 27, 3) := by decide +kernel
theorem dX1_count_18 : decode cX1_count 18 = .ok (.ifCond .ne 5, 3) := by decide +kernel
theorem dX1_count_21 : decode cX1_count 21 = .ok (.iconst 0, 1) := by decide +kernel
theorem dX1_count_22 : decode cX1_count 22 = .ok (.ireturn, 1) := by decide +kernel
theorem dX1_count_23 : decode cX1_count 23 = .ok (.iload_n 1, 1) := by decide +kernel
theorem dX1_count_24 : decode cX1_count 24 = .ok (.ifCond .ne 10, 3) := by decide +kernel
theorem dX1_count_27 : decode cX1_count 27 = .ok (.aload_n 0, 1) := by decide +kernel
theorem dX1_count_28 : decode cX1_count 28 = .ok (.getfield 7, 3) := by decide +kernel
theorem dX1_count_31 : decode cX1_count 31 = .ok (.goto 23, 3) := by decide +kernel
theorem dX1_count_34 : decode cX1_count 34 = .ok (.iload_n 1, 1) := by decide +kernel
theorem dX1_count_35 : decode cX1_count 35 = .ok (.iconst 1, 1) := by decide +kernel
theorem dX1_count_36 : decode cX1_count 36 = .ok (.if_icmp .ne 10, 3) := by decide +kernel
theorem dX1_count_39 : decode cX1_count 39 = .ok (.aload_n 0, 1) := by decide +kernel
theorem dX1_count_40 : decode cX1_count 40 = .ok (.invokevirtual 23, 3) := by decide +kernel
theorem dX1_count_43 : decode cX1_count 43 = .ok (.goto 11, 3) := by decide +kernel
theorem dX1_count_46 : decode cX1_count 46 = .ok (.aload_n 0, 1) := by decide +kernel
theorem dX1_count_47 : decode cX1_count 47 = .ok (.iload_n 1, 1) := by decide +kernel
theorem dX1_count_48 : decode cX1_count 48 = .ok (.iconst 1, 1) := by decide +kernel
theorem dX1_count_49 : decode cX1_count 49 = .ok (.isub, 1) := by decide +kernel
theorem dX1_count_50 : decode cX1_count 50 = .ok (.iconst 0, 1) := by decide +kernel
theorem dX1_count_51 : decode cX1_count 51 = .ok (.invokevirtual 31, 3) := by decide +kernel
theorem dX1_count_54 : decode cX1_count 54 = .ok (.ireturn, 1) := by decide +kernel
end
section
set_option maxRecDepth 20000 in
theorem wsL_law_in0 : ∀ w ∈ wsL_law0, w ∈ lw_tbl := fun w h => (goodIn_of wsL_law0 (by decide +kernel) w h).1
theorem wsL_law_x0 : ∀ w ∈ (xt_ws RX0 21 "java/lang/IllegalArgumentException" ["java/lang/RuntimeException", "java/lang/Exception"]).filter goodWord, w ∈ lw_tbl := by decide +kernel
theorem wsL_law_x1 : ∀ w ∈ (xt_ws RX0 40 "java/lang/IndexOutOfBoundsException" ["java/lang/RuntimeException", "java/lang/Exception"]).filter goodWord, w ∈ lw_tbl := by decide +kernel
theorem wsL_law_in : ∀ w ∈ wsL_law, w ∈ lw_tbl := fun w h => (List.mem_append.mp h).elim (fun h => (List.mem_append.mp h).elim (fun h => wsL_law_in0 w h) (fun h => wsL_law_x0 w h)) (fun h => wsL_law_x1 w h)
theorem inlX0 : ∀ w ∈ wsX00, w ∈ wsL_law := fun _ h => List.mem_append_left _ (List.mem_append_left _ (List.mem_append_left _ (List.mem_append_left _ (List.mem_append_right _ h))))
theorem inX0 : ∀ w ∈ wsX00, w ∈ lw_tbl := fun w h => wsL_law_in w (inlX0 w h)
theorem inlX1 : ∀ w ∈ wsX10, w ∈ wsL_law := fun _ h => List.mem_append_left _ (List.mem_append_left _ (List.mem_append_left _ (List.mem_append_right _ h)))
theorem inX1 : ∀ w ∈ wsX10, w ∈ lw_tbl := fun w h => wsL_law_in w (inlX1 w h)
theorem inJ0 : ∀ w ∈ wsJ00, w ∈ lw_tbl := by decide +kernel
set_option maxRecDepth 20000 in
theorem ggX0_space_X0_clear : GoodIn wsX0_space wsX0_clear := goodIn_r _ [8, 9, 10, 11, 12, 7, 13, 14, 15, 16, 17, 3, 18, 19, 20, 21, 22] (by decide +kernel) (by decide +kernel)
set_option maxRecDepth 20000 in
theorem gX0_space_X0_clear : GoodIn wsX0_space (wsV RX0 24 RX0 yX0_clear wsX0_clear) := goodIn_app (goodIn_of _ (by decide +kernel)) ggX0_space_X0_clear
set_option maxRecDepth 20000 in
theorem ggX0_write_X0_requireCell : GoodIn wsX0_write wsX0_requireCell := goodIn_ca (goodIn_r _ [6, 7, 8, 9, 13, 14] (by decide +kernel) (by decide +kernel)) (goodIn_sub (fun _ h => List.mem_cons_of_mem _ (List.mem_append_right _ h)) (by decide +kernel))
set_option maxRecDepth 20000 in
theorem gX0_write_X0_requireCell : GoodIn wsX0_write (wsV RX0 28 RX0 yX0_requireCell wsX0_requireCell) := goodIn_app (goodIn_of _ (by decide +kernel)) ggX0_write_X0_requireCell
set_option maxRecDepth 20000 in
theorem ggX0_write_X0_cardOf : GoodIn wsX0_write wsX0_cardOf := goodIn_r _ [12] (by decide +kernel) (by decide +kernel)
set_option maxRecDepth 20000 in
theorem gX0_write_X0_cardOf : GoodIn wsX0_write (va_wsS RX0 32 yX0_cardOf wsX0_cardOf) := goodIn_app (goodIn_of _ (by decide +kernel)) ggX0_write_X0_cardOf
set_option maxRecDepth 20000 in
theorem ggX0_cover_X0_requireCell : GoodIn wsX0_cover wsX0_requireCell := goodIn_ca (goodIn_r _ [9, 1, 2, 3, 13, 14] (by decide +kernel) (by decide +kernel)) (goodIn_sub (fun _ h => List.mem_cons_of_mem _ (List.mem_append_right _ h)) (by decide +kernel))
set_option maxRecDepth 20000 in
theorem gX0_cover_X0_requireCell : GoodIn wsX0_cover (wsV RX0 28 RX0 yX0_requireCell wsX0_requireCell) := goodIn_app (goodIn_of _ (by decide +kernel)) ggX0_cover_X0_requireCell
set_option maxRecDepth 20000 in
theorem ggX0_cover_X0_cardOf : GoodIn wsX0_cover wsX0_cardOf := goodIn_r _ [12] (by decide +kernel) (by decide +kernel)
set_option maxRecDepth 20000 in
theorem gX0_cover_X0_cardOf : GoodIn wsX0_cover (va_wsS RX0 32 yX0_cardOf wsX0_cardOf) := goodIn_app (goodIn_of _ (by decide +kernel)) ggX0_cover_X0_cardOf
set_option maxRecDepth 20000 in
theorem ggX0_clean_X0_requireCard : GoodIn wsX0_clean wsX0_requireCard := goodIn_ca (goodIn_r _ [6, 7, 8, 9, 10, 11, 5, 12, 13, 14, 15, 16, 21, 22] (by decide +kernel) (by decide +kernel)) (goodIn_sub (fun _ h => List.mem_cons_of_mem _ (List.mem_append_right _ h)) (by decide +kernel))
set_option maxRecDepth 20000 in
theorem gX0_clean_X0_requireCard : GoodIn wsX0_clean (wsV RX0 41 RX0 yX0_requireCard wsX0_requireCard) := goodIn_app (goodIn_of _ (by decide +kernel)) ggX0_clean_X0_requireCard
set_option maxRecDepth 20000 in
theorem ggX0_clean_X0_removeMark : GoodIn wsX0_clean wsX0_removeMark := goodIn_r _ [20, 1, 21, 22] (by decide +kernel) (by decide +kernel)
set_option maxRecDepth 20000 in
theorem gX0_clean_X0_removeMark : GoodIn wsX0_clean (wsV RX0 44 RX0 yX0_removeMark wsX0_removeMark) := goodIn_app (goodIn_of _ (by decide +kernel)) ggX0_clean_X0_removeMark
set_option maxRecDepth 20000 in
theorem ggX0_unsave_X0_requireCard : GoodIn wsX0_unsave wsX0_requireCard := goodIn_ca (goodIn_r _ [5, 6, 7, 8, 9, 10, 4, 11, 12, 13, 14, 15, 21, 22] (by decide +kernel) (by decide +kernel)) (goodIn_sub (fun _ h => List.mem_cons_of_mem _ (List.mem_append_right _ h)) (by decide +kernel))
set_option maxRecDepth 20000 in
theorem gX0_unsave_X0_requireCard : GoodIn wsX0_unsave (wsV RX0 41 RX0 yX0_requireCard wsX0_requireCard) := goodIn_app (goodIn_of _ (by decide +kernel)) ggX0_unsave_X0_requireCard
set_option maxRecDepth 20000 in
theorem ggX0_unsave_X0_removeMark : GoodIn wsX0_unsave wsX0_removeMark := goodIn_r _ [19, 20, 21, 22] (by decide +kernel) (by decide +kernel)
set_option maxRecDepth 20000 in
theorem gX0_unsave_X0_removeMark : GoodIn wsX0_unsave (wsV RX0 44 RX0 yX0_removeMark wsX0_removeMark) := goodIn_app (goodIn_of _ (by decide +kernel)) ggX0_unsave_X0_removeMark
set_option maxRecDepth 20000 in
theorem ggX0_card_X0_requireCard : GoodIn wsX0_card wsX0_requireCard := goodIn_ca (goodIn_r _ [6, 7, 8, 9, 10, 11, 5, 12, 13, 14, 15, 16, 17, 18] (by decide +kernel) (by decide +kernel)) (goodIn_sub (fun _ h => List.mem_cons_of_mem _ (List.mem_append_right _ h)) (by decide +kernel))
set_option maxRecDepth 20000 in
theorem gX0_card_X0_requireCard : GoodIn wsX0_card (wsV RX0 41 RX0 yX0_requireCard wsX0_requireCard) := goodIn_app (goodIn_of _ (by decide +kernel)) ggX0_card_X0_requireCard
set_option maxRecDepth 20000 in
theorem ggX0_nextDirty_X0_firstWith : GoodIn wsX0_nextDirty wsX0_firstWith := goodIn_ca (goodIn_r _ [5, 6, 7, 8, 9, 10, 11, 4, 12, 13, 14, 15, 16, 17, 18] (by decide +kernel) (by decide +kernel)) (goodIn_sub (fun _ h => List.mem_cons_of_mem _ (List.mem_append_right _ h)) (by decide +kernel))
set_option maxRecDepth 20000 in
theorem gX0_nextDirty_X0_firstWith : GoodIn wsX0_nextDirty (wsV RX0 48 RX0 yX0_firstWith wsX0_firstWith) := goodIn_app (goodIn_of _ (by decide +kernel)) ggX0_nextDirty_X0_firstWith
set_option maxRecDepth 20000 in
theorem ggX0_nextSaved_X0_firstWith : GoodIn wsX0_nextSaved wsX0_firstWith := goodIn_ca (goodIn_r _ [5, 6, 7, 8, 9, 10, 11, 4, 12, 13, 14, 15, 16, 17, 18] (by decide +kernel) (by decide +kernel)) (goodIn_sub (fun _ h => List.mem_cons_of_mem _ (List.mem_append_right _ h)) (by decide +kernel))
set_option maxRecDepth 20000 in
theorem gX0_nextSaved_X0_firstWith : GoodIn wsX0_nextSaved (wsV RX0 48 RX0 yX0_firstWith wsX0_firstWith) := goodIn_app (goodIn_of _ (by decide +kernel)) ggX0_nextSaved_X0_firstWith
set_option maxRecDepth 20000 in
theorem ggX0_clear_X0_countWith : GoodIn wsX0_clear wsX0_countWith := goodIn_r _ [6, 1, 7, 8, 9, 5, 10, 11, 12, 13, 14, 15, 16] (by decide +kernel) (by decide +kernel)
set_option maxRecDepth 20000 in
theorem gX0_clear_X0_countWith : GoodIn wsX0_clear (wsV RX0 52 RX0 yX0_countWith wsX0_countWith) := goodIn_app (goodIn_of _ (by decide +kernel)) ggX0_clear_X0_countWith
set_option maxRecDepth 20000 in
theorem ggX0_clear_X0_cardCount : GoodIn wsX0_clear wsX0_cardCount := goodIn_r _ [10, 11, 12, 13, 5, 14, 15, 16] (by decide +kernel) (by decide +kernel)
set_option maxRecDepth 20000 in
theorem gX0_clear_X0_cardCount : GoodIn wsX0_clear (wsV RX0 55 RX0 yX0_cardCount wsX0_cardCount) := goodIn_app (goodIn_of _ (by decide +kernel)) ggX0_clear_X0_cardCount
set_option maxRecDepth 20000 in
theorem ggX0_count_X0_cardCount : GoodIn wsX0_count wsX0_cardCount := goodIn_r _ [8, 3, 9, 10, 7, 11, 17, 18] (by decide +kernel) (by decide +kernel)
set_option maxRecDepth 20000 in
theorem gX0_count_X0_cardCount : GoodIn wsX0_count (wsV RX0 55 RX0 yX0_cardCount wsX0_cardCount) := goodIn_app (goodIn_of _ (by decide +kernel)) ggX0_count_X0_cardCount
set_option maxRecDepth 20000 in
theorem ggX0_count_X0_countWith : GoodIn wsX0_count wsX0_countWith := goodIn_r _ [15, 16, 4, 5, 6, 7, 8, 3, 9, 10, 11, 17, 18] (by decide +kernel) (by decide +kernel)
set_option maxRecDepth 20000 in
theorem gX0_count_X0_countWith : GoodIn wsX0_count (wsV RX0 52 RX0 yX0_countWith wsX0_countWith) := goodIn_app (goodIn_of _ (by decide +kernel)) ggX0_count_X0_countWith
set_option maxRecDepth 20000 in
theorem ggX0_cardCount_X0_cardOf : GoodIn wsX0_cardCount wsX0_cardOf := goodIn_r _ [5] (by decide +kernel) (by decide +kernel)
set_option maxRecDepth 20000 in
theorem gX0_cardCount_X0_cardOf : GoodIn wsX0_cardCount (va_wsS RX0 32 yX0_cardOf wsX0_cardOf) := goodIn_app (goodIn_of _ (by decide +kernel)) ggX0_cardCount_X0_cardOf
set_option maxRecDepth 20000 in
theorem ggX0_requireCard_X0_cardCount : GoodIn wsX0_requireCard wsX0_cardCount := goodIn_r _ [7, 8, 9, 10, 6, 11, 12, 13] (by decide +kernel) (by decide +kernel)
set_option maxRecDepth 20000 in
theorem gX0_requireCard_X0_cardCount : GoodIn wsX0_requireCard (wsV RX0 55 RX0 yX0_cardCount wsX0_cardCount) := goodIn_app (goodIn_of _ (by decide +kernel)) ggX0_requireCard_X0_cardCount
set_option maxRecDepth 20000 in
theorem ggX0_firstWith_X0_cardCount : GoodIn wsX0_firstWith wsX0_cardCount := goodIn_r _ [8, 9, 10, 11, 7, 12, 13, 14] (by decide +kernel) (by decide +kernel)
set_option maxRecDepth 20000 in
theorem gX0_firstWith_X0_cardCount : GoodIn wsX0_firstWith (wsV RX0 55 RX0 yX0_cardCount wsX0_cardCount) := goodIn_app (goodIn_of _ (by decide +kernel)) ggX0_firstWith_X0_cardCount
set_option maxRecDepth 20000 in
theorem ggX0_countWith_X0_cardCount : GoodIn wsX0_countWith wsX0_cardCount := goodIn_r _ [6, 7, 8, 9, 5, 10, 11, 12] (by decide +kernel) (by decide +kernel)
set_option maxRecDepth 20000 in
theorem gX0_countWith_X0_cardCount : GoodIn wsX0_countWith (wsV RX0 55 RX0 yX0_cardCount wsX0_cardCount) := goodIn_app (goodIn_of _ (by decide +kernel)) ggX0_countWith_X0_cardCount
set_option maxRecDepth 20000 in
theorem ggL_space_X0_space : GoodIn wsL_space wsX0_space := goodIn_ca (goodIn_r _ [6, 7, 8, 9, 10, 11, 12, 5, 13, 14, 15, 16, 17, 18, 19, 20, 21, 22, 23, 24, 25, 26, 27] (by decide +kernel) (by decide +kernel)) (goodIn_sub (fun _ h => List.mem_cons_of_mem _ (List.mem_append_right _ h)) (by decide +kernel))
set_option maxRecDepth 20000 in
theorem gL_space_X0_space : GoodIn wsL_space (wsV RL 7 RX0 yX0_space wsX0_space) := goodIn_app (goodIn_of _ (by decide +kernel)) ggL_space_X0_space
set_option maxRecDepth 20000 in
theorem ggL_write_X0_write : GoodIn wsL_write wsX0_write := goodIn_ca (goodIn_r _ [6, 7, 8, 9, 10, 5, 11, 12, 13, 14, 15, 16, 17, 18, 19] (by decide +kernel) (by decide +kernel)) (goodIn_sub (fun _ h => List.mem_cons_of_mem _ (List.mem_append_right _ h)) (by decide +kernel))
set_option maxRecDepth 20000 in
theorem gL_write_X0_write : GoodIn wsL_write (wsV RL 15 RX0 yX0_write wsX0_write) := goodIn_app (goodIn_of _ (by decide +kernel)) ggL_write_X0_write
set_option maxRecDepth 20000 in
theorem ggL_cover_X0_cover : GoodIn wsL_cover wsX0_cover := goodIn_ca (goodIn_r _ [6, 7, 8, 9, 10, 11, 12, 13, 5, 14, 15, 16, 17, 18, 19] (by decide +kernel) (by decide +kernel)) (goodIn_sub (fun _ h => List.mem_cons_of_mem _ (List.mem_append_right _ h)) (by decide +kernel))
set_option maxRecDepth 20000 in
theorem gL_cover_X0_cover : GoodIn wsL_cover (wsV RL 20 RX0 yX0_cover wsX0_cover) := goodIn_app (goodIn_of _ (by decide +kernel)) ggL_cover_X0_cover
set_option maxRecDepth 20000 in
theorem ggL_clean_X0_clean : GoodIn wsL_clean wsX0_clean := goodIn_ca (goodIn_r _ [6, 7, 8, 9, 10, 5, 11, 12, 13, 14, 15, 16, 17, 18, 19, 20, 21, 22, 23, 24, 25, 26, 27] (by decide +kernel) (by decide +kernel)) (goodIn_sub (fun _ h => List.mem_cons_of_mem _ (List.mem_append_right _ h)) (by decide +kernel))
set_option maxRecDepth 20000 in
theorem gL_clean_X0_clean : GoodIn wsL_clean (wsV RL 24 RX0 yX0_clean wsX0_clean) := goodIn_app (goodIn_of _ (by decide +kernel)) ggL_clean_X0_clean
set_option maxRecDepth 20000 in
theorem ggL_unsave_X0_unsave : GoodIn wsL_unsave wsX0_unsave := goodIn_ca (goodIn_r _ [6, 7, 8, 9, 5, 10, 11, 12, 13, 14, 15, 16, 17, 18, 19, 20, 21, 22, 23, 24, 25, 26, 27] (by decide +kernel) (by decide +kernel)) (goodIn_sub (fun _ h => List.mem_cons_of_mem _ (List.mem_append_right _ h)) (by decide +kernel))
set_option maxRecDepth 20000 in
theorem gL_unsave_X0_unsave : GoodIn wsL_unsave (wsV RL 28 RX0 yX0_unsave wsX0_unsave) := goodIn_app (goodIn_of _ (by decide +kernel)) ggL_unsave_X0_unsave
set_option maxRecDepth 20000 in
theorem ggL_card_X0_card : GoodIn wsL_card wsX0_card := goodIn_ca (goodIn_r _ [6, 7, 8, 9, 10, 5, 11, 12, 13, 14, 15, 16, 17, 18, 19, 20, 21, 22, 23] (by decide +kernel) (by decide +kernel)) (goodIn_sub (fun _ h => List.mem_cons_of_mem _ (List.mem_append_right _ h)) (by decide +kernel))
set_option maxRecDepth 20000 in
theorem gL_card_X0_card : GoodIn wsL_card (wsV RL 32 RX0 yX0_card wsX0_card) := goodIn_app (goodIn_of _ (by decide +kernel)) ggL_card_X0_card
set_option maxRecDepth 20000 in
theorem ggL_nextDirty_X0_nextDirty : GoodIn wsL_nextDirty wsX0_nextDirty := goodIn_ca (goodIn_r _ [6, 7, 8, 9, 5, 10, 11, 12, 13, 14, 15, 16, 17, 18, 19, 20, 21, 22, 23] (by decide +kernel) (by decide +kernel)) (goodIn_sub (fun _ h => List.mem_cons_of_mem _ (List.mem_append_right _ h)) (by decide +kernel))
set_option maxRecDepth 20000 in
theorem gL_nextDirty_X0_nextDirty : GoodIn wsL_nextDirty (wsV RL 35 RX0 yX0_nextDirty wsX0_nextDirty) := goodIn_app (goodIn_of _ (by decide +kernel)) ggL_nextDirty_X0_nextDirty
set_option maxRecDepth 20000 in
theorem ggL_nextSaved_X0_nextSaved : GoodIn wsL_nextSaved wsX0_nextSaved := goodIn_ca (goodIn_r _ [6, 7, 8, 9, 5, 10, 11, 12, 13, 14, 15, 16, 17, 18, 19, 20, 21, 22, 23] (by decide +kernel) (by decide +kernel)) (goodIn_sub (fun _ h => List.mem_cons_of_mem _ (List.mem_append_right _ h)) (by decide +kernel))
set_option maxRecDepth 20000 in
theorem gL_nextSaved_X0_nextSaved : GoodIn wsL_nextSaved (wsV RL 38 RX0 yX0_nextSaved wsX0_nextSaved) := goodIn_app (goodIn_of _ (by decide +kernel)) ggL_nextSaved_X0_nextSaved
set_option maxRecDepth 20000 in
theorem ggL_count_X0_count : GoodIn wsL_count wsX0_count := goodIn_ca (goodIn_r _ [6, 7, 8, 9, 10, 11, 12, 5, 13, 14, 15, 16, 17, 18, 19, 20, 21, 22, 23] (by decide +kernel) (by decide +kernel)) (goodIn_sub (fun _ h => List.mem_cons_of_mem _ (List.mem_append_right _ h)) (by decide +kernel))
set_option maxRecDepth 20000 in
theorem gL_count_X0_count : GoodIn wsL_count (wsV RL 41 RX0 yX0_count wsX0_count) := goodIn_app (goodIn_of _ (by decide +kernel)) ggL_count_X0_count
set_option maxRecDepth 20000 in
theorem ggL_law_X0_init : GoodIn wsL_law wsX0_init := goodIn_r _ [8, 9, 10, 11, 12, 13, 14, 138, 139] (by decide +kernel) (by decide +kernel)
set_option maxRecDepth 20000 in
theorem gL_law_X0_init : GoodIn wsL_law (wsX0_init) := ggL_law_X0_init
set_option maxRecDepth 20000 in
theorem ggL_law_X1_init : GoodIn wsL_law wsX1_init := goodIn_r _ [17, 18, 10, 11, 19, 20, 21, 22, 140, 141, 142, 143] (by decide +kernel) (by decide +kernel)
set_option maxRecDepth 20000 in
theorem gL_law_X1_init : GoodIn wsL_law (wsX1_init) := ggL_law_X1_init
set_option maxRecDepth 20000 in
theorem ggL_law_L_space : GoodIn wsL_law wsL_space := goodIn_ca (goodIn_r _ [26, 27, 28, 29, 30, 2, 31, 32, 33, 14, 34, 35, 36, 37, 13, 38, 39, 40, 41, 42, 43, 44, 45, 46, 47, 48, 138, 139] (by decide +kernel) (by decide +kernel)) (goodIn_sub (fun _ h => List.mem_append_left _ (List.mem_append_right _ h)) (by decide +kernel))
set_option maxRecDepth 20000 in
theorem gL_law_L_space : GoodIn wsL_law (va_wsS RL 48 yL_space wsL_space) := goodIn_app (goodIn_of _ (by decide +kernel)) ggL_law_L_space
set_option maxRecDepth 20000 in
theorem ggL_law_X1_thrown : GoodIn wsL_law wsX1_thrown := goodIn_r _ [61, 57, 140, 141, 142, 143] (by decide +kernel) (by decide +kernel)
set_option maxRecDepth 20000 in
theorem gL_law_X1_thrown : GoodIn wsL_law (wsV RL 54 RX1 yX1_thrown wsX1_thrown) := goodIn_app (goodIn_of _ (by decide +kernel)) ggL_law_X1_thrown
set_option maxRecDepth 20000 in
theorem ggL_law_L_write : GoodIn wsL_law wsL_write := goodIn_ca (goodIn_r _ [64, 65, 66, 67, 68, 2, 69, 13, 70, 71, 72, 73, 74, 75, 14, 46, 47, 48, 138, 139] (by decide +kernel) (by decide +kernel)) (goodIn_sub (fun _ h => List.mem_append_right _ h) (by decide +kernel))
set_option maxRecDepth 20000 in
theorem gL_law_L_write : GoodIn wsL_law (va_wsS RL 58 yL_write wsL_write) := goodIn_app (goodIn_of _ (by decide +kernel)) ggL_law_L_write
set_option maxRecDepth 20000 in
theorem ggL_law_L_cover : GoodIn wsL_law wsL_cover := goodIn_ca (goodIn_r _ [78, 65, 79, 80, 81, 2, 82, 74, 75, 14, 13, 70, 71, 72, 73, 46, 47, 48, 138, 139] (by decide +kernel) (by decide +kernel)) (goodIn_sub (fun _ h => List.mem_append_right _ h) (by decide +kernel))
set_option maxRecDepth 20000 in
theorem gL_law_L_cover : GoodIn wsL_law (va_wsS RL 61 yL_cover wsL_cover) := goodIn_app (goodIn_of _ (by decide +kernel)) ggL_law_L_cover
set_option maxRecDepth 20000 in
theorem ggL_law_L_clean : GoodIn wsL_law wsL_clean := goodIn_ca (goodIn_r _ [85, 65, 86, 87, 88, 2, 89, 13, 90, 91, 92, 93, 74, 75, 42, 43, 44, 45, 14, 46, 47, 48, 94, 95, 96, 97, 138, 139] (by decide +kernel) (by decide +kernel)) (goodIn_sub (fun _ h => List.mem_append_right _ h) (by decide +kernel))
set_option maxRecDepth 20000 in
theorem gL_law_L_clean : GoodIn wsL_law (va_wsS RL 65 yL_clean wsL_clean) := goodIn_app (goodIn_of _ (by decide +kernel)) ggL_law_L_clean
set_option maxRecDepth 20000 in
theorem ggL_law_L_unsave : GoodIn wsL_law wsL_unsave := goodIn_ca (goodIn_r _ [100, 65, 101, 102, 103, 2, 104, 90, 91, 92, 93, 74, 75, 42, 43, 44, 45, 14, 46, 47, 48, 94, 95, 96, 97, 13, 138, 139] (by decide +kernel) (by decide +kernel)) (goodIn_sub (fun _ h => List.mem_append_right _ h) (by decide +kernel))
set_option maxRecDepth 20000 in
theorem gL_law_L_unsave : GoodIn wsL_law (va_wsS RL 69 yL_unsave wsL_unsave) := goodIn_app (goodIn_of _ (by decide +kernel)) ggL_law_L_unsave
set_option maxRecDepth 20000 in
theorem ggL_law_L_card : GoodIn wsL_law wsL_card := goodIn_ca (goodIn_r _ [107, 65, 108, 109, 110, 2, 111, 13, 90, 91, 92, 93, 74, 75, 42, 43, 44, 45, 14, 46, 47, 48, 138, 139] (by decide +kernel) (by decide +kernel)) (goodIn_sub (fun _ h => List.mem_append_right _ h) (by decide +kernel))
set_option maxRecDepth 20000 in
theorem gL_law_L_card : GoodIn wsL_law (va_wsS RL 72 yL_card wsL_card) := goodIn_app (goodIn_of _ (by decide +kernel)) ggL_law_L_card
set_option maxRecDepth 20000 in
theorem ggL_law_L_nextDirty : GoodIn wsL_law wsL_nextDirty := goodIn_ca (goodIn_r _ [114, 27, 115, 116, 117, 2, 118, 119, 120, 121, 122, 32, 33, 13, 42, 43, 44, 45, 14, 46, 47, 48, 138, 139] (by decide +kernel) (by decide +kernel)) (goodIn_sub (fun _ h => List.mem_append_left _ (List.mem_append_right _ h)) (by decide +kernel))
set_option maxRecDepth 20000 in
theorem gL_law_L_nextDirty : GoodIn wsL_law (va_wsS RL 75 yL_nextDirty wsL_nextDirty) := goodIn_app (goodIn_of _ (by decide +kernel)) ggL_law_L_nextDirty
set_option maxRecDepth 20000 in
theorem ggL_law_L_nextSaved : GoodIn wsL_law wsL_nextSaved := goodIn_ca (goodIn_r _ [125, 27, 126, 127, 128, 2, 129, 119, 120, 121, 122, 32, 33, 13, 42, 43, 44, 45, 14, 46, 47, 48, 138, 139] (by decide +kernel) (by decide +kernel)) (goodIn_sub (fun _ h => List.mem_append_left _ (List.mem_append_right _ h)) (by decide +kernel))
set_option maxRecDepth 20000 in
theorem gL_law_L_nextSaved : GoodIn wsL_law (va_wsS RL 78 yL_nextSaved wsL_nextSaved) := goodIn_app (goodIn_of _ (by decide +kernel)) ggL_law_L_nextSaved
set_option maxRecDepth 20000 in
theorem ggL_law_X0_clear : GoodIn wsL_law wsX0_clear := goodIn_r _ [37, 13, 38, 39, 40, 2, 41, 42, 43, 44, 45, 14, 46, 47, 48, 138, 139] (by decide +kernel) (by decide +kernel)
set_option maxRecDepth 20000 in
theorem gL_law_X0_clear : GoodIn wsL_law (wsV RL 81 RX0 yX0_clear wsX0_clear) := goodIn_app (goodIn_of _ (by decide +kernel)) ggL_law_X0_clear
set_option maxRecDepth 20000 in
theorem ggL_law_L_count : GoodIn wsL_law wsL_count := goodIn_ca (goodIn_r _ [133, 27, 134, 135, 136, 2, 137, 32, 33, 14, 42, 43, 44, 45, 46, 47, 48, 38, 39, 40, 41, 13, 138, 139] (by decide +kernel) (by decide +kernel)) (goodIn_sub (fun _ h => List.mem_append_left _ (List.mem_append_right _ h)) (by decide +kernel))
set_option maxRecDepth 20000 in
theorem gL_law_L_count : GoodIn wsL_law (va_wsS RL 85 yL_count wsL_count) := goodIn_app (goodIn_of _ (by decide +kernel)) ggL_law_L_count
set_option maxRecDepth 20000 in
theorem gX1_isCard_X1_cards : GoodIn wsX1_isCard (wsV RX1 23 RX1 yX1_cards wsX1_cards) := goodIn_of _ (by decide +kernel)
set_option maxRecDepth 20000 in
theorem gX1_write_X1_isCell : GoodIn wsX1_write (wsV RX1 35 RX1 yX1_isCell wsX1_isCell) := goodIn_of _ (by decide +kernel)
set_option maxRecDepth 20000 in
theorem gX1_write_X1_goes : GoodIn wsX1_write (wsV RX1 27 RX1 yX1_goes wsX1_goes) := goodIn_of _ (by decide +kernel)
set_option maxRecDepth 20000 in
theorem gX1_cover_X1_isCell : GoodIn wsX1_cover (wsV RX1 35 RX1 yX1_isCell wsX1_isCell) := goodIn_of _ (by decide +kernel)
set_option maxRecDepth 20000 in
theorem gX1_cover_X1_goes : GoodIn wsX1_cover (wsV RX1 27 RX1 yX1_goes wsX1_goes) := goodIn_of _ (by decide +kernel)
set_option maxRecDepth 20000 in
theorem gX1_cover_X1_cards : GoodIn wsX1_cover (wsV RX1 23 RX1 yX1_cards wsX1_cards) := goodIn_of _ (by decide +kernel)
set_option maxRecDepth 20000 in
theorem gX1_clean_X1_isCard : GoodIn wsX1_clean (wsV RX1 39 RX1 yX1_isCard wsX1_isCard) := goodIn_of _ (by decide +kernel)
set_option maxRecDepth 20000 in
theorem gX1_clean_X1_goes : GoodIn wsX1_clean (wsV RX1 27 RX1 yX1_goes wsX1_goes) := goodIn_of _ (by decide +kernel)
set_option maxRecDepth 20000 in
theorem gX1_unsave_X1_isCard : GoodIn wsX1_unsave (wsV RX1 39 RX1 yX1_isCard wsX1_isCard) := goodIn_of _ (by decide +kernel)
set_option maxRecDepth 20000 in
theorem gX1_unsave_X1_goes : GoodIn wsX1_unsave (wsV RX1 27 RX1 yX1_goes wsX1_goes) := goodIn_of _ (by decide +kernel)
set_option maxRecDepth 20000 in
theorem gX1_card_X1_isCard : GoodIn wsX1_card (wsV RX1 39 RX1 yX1_isCard wsX1_isCard) := goodIn_of _ (by decide +kernel)
set_option maxRecDepth 20000 in
theorem gX1_card_X1_goes : GoodIn wsX1_card (wsV RX1 27 RX1 yX1_goes wsX1_goes) := goodIn_of _ (by decide +kernel)
set_option maxRecDepth 20000 in
theorem gX1_nextDirty_X1_goes : GoodIn wsX1_nextDirty (wsV RX1 27 RX1 yX1_goes wsX1_goes) := goodIn_of _ (by decide +kernel)
set_option maxRecDepth 20000 in
theorem gX1_nextSaved_X1_goes : GoodIn wsX1_nextSaved (wsV RX1 27 RX1 yX1_goes wsX1_goes) := goodIn_of _ (by decide +kernel)
set_option maxRecDepth 20000 in
theorem gX1_clear_X1_many : GoodIn wsX1_clear (wsV RX1 31 RX1 yX1_many wsX1_many) := goodIn_of _ (by decide +kernel)
set_option maxRecDepth 20000 in
theorem gX1_count_X1_goes : GoodIn wsX1_count (wsV RX1 27 RX1 yX1_goes wsX1_goes) := goodIn_of _ (by decide +kernel)
set_option maxRecDepth 20000 in
theorem gX1_count_X1_cards : GoodIn wsX1_count (wsV RX1 23 RX1 yX1_cards wsX1_cards) := goodIn_of _ (by decide +kernel)
set_option maxRecDepth 20000 in
theorem gX1_count_X1_many : GoodIn wsX1_count (wsV RX1 31 RX1 yX1_many wsX1_many) := goodIn_of _ (by decide +kernel)
set_option maxRecDepth 20000 in
theorem gX1_space_X1_goes : GoodIn wsX1_space (wsV RX1 27 RX1 yX1_goes wsX1_goes) := goodIn_of _ (by decide +kernel)
set_option maxRecDepth 20000 in
theorem gX1_space_X1_many : GoodIn wsX1_space (wsV RX1 31 RX1 yX1_many wsX1_many) := goodIn_of _ (by decide +kernel)
set_option maxRecDepth 20000 in
theorem gL_law_X1_space : GoodIn lw_tbl (wsV RL 53 RX1 yX1_space wsX1_space) := goodIn_of _ (by decide +kernel)
set_option maxRecDepth 20000 in
theorem gL_law_X1_write : GoodIn lw_tbl (wsV RL 60 RX1 yX1_write wsX1_write) := goodIn_of _ (by decide +kernel)
set_option maxRecDepth 20000 in
theorem gL_law_X1_cover : GoodIn lw_tbl (wsV RL 64 RX1 yX1_cover wsX1_cover) := goodIn_of _ (by decide +kernel)
set_option maxRecDepth 20000 in
theorem gL_law_X1_clean : GoodIn lw_tbl (wsV RL 68 RX1 yX1_clean wsX1_clean) := goodIn_of _ (by decide +kernel)
set_option maxRecDepth 20000 in
theorem gL_law_X1_unsave : GoodIn lw_tbl (wsV RL 71 RX1 yX1_unsave wsX1_unsave) := goodIn_of _ (by decide +kernel)
set_option maxRecDepth 20000 in
theorem gL_law_X1_card : GoodIn lw_tbl (wsV RL 74 RX1 yX1_card wsX1_card) := goodIn_of _ (by decide +kernel)
set_option maxRecDepth 20000 in
theorem gL_law_X1_nextDirty : GoodIn lw_tbl (wsV RL 77 RX1 yX1_nextDirty wsX1_nextDirty) := goodIn_of _ (by decide +kernel)
set_option maxRecDepth 20000 in
theorem gL_law_X1_nextSaved : GoodIn lw_tbl (wsV RL 80 RX1 yX1_nextSaved wsX1_nextSaved) := goodIn_of _ (by decide +kernel)
set_option maxRecDepth 20000 in
theorem gL_law_X1_clear : GoodIn lw_tbl (wsV RL 84 RX1 yX1_clear wsX1_clear) := goodIn_of _ (by decide +kernel)
set_option maxRecDepth 20000 in
theorem gL_law_X1_count : GoodIn lw_tbl (wsV RL 87 RX1 yX1_count wsX1_count) := goodIn_of _ (by decide +kernel)
end
section
/-! A loop whose counter runs from j to M; calls that leave the heap as it was. -/
section CL
variable {p : Program} {l : Launch} {e : Env} {R : Room} {s : State} {m : MethodId} {args : Array Value} {below : List Frame} {meth : Method} {c : Code} {cells slots : Nat} {Q : State → Prop} {pc : Nat}
theorem cl_loop (j M : Nat) (hj : j ≤ M) (I : Nat → Heap → List Loc → Array Slot → Prop)
    (hdone : ∀ H locs ls, I M H locs ls → W p l e R s m args below meth c H locs cells slots Q (F0 m pc ls []))
    (hstep : ∀ i H locs ls, j ≤ i → i < M → I i H locs ls → (∀ H' locs' ls', I (i + 1) H' locs' ls' → W p l e R s m args below meth c H' locs' cells slots Q (F0 m pc ls' [])) → W p l e R s m args below meth c H locs cells slots Q (F0 m pc ls []))
    {H : Heap} {locs : List Loc} {ls : Array Slot} (h : I j H locs ls) : W p l e R s m args below meth c H locs cells slots Q (F0 m pc ls []) := by
  have key : ∀ (k i : Nat), i + k = M → j ≤ i → ∀ H locs ls, I i H locs ls → W p l e R s m args below meth c H locs cells slots Q (F0 m pc ls []) := by
    intro k
    induction k with
    | zero =>
      intro i hi _ H locs ls h
      have : i = M := by omega
      subst this
      exact hdone H locs ls h
    | succ k ih =>
      intro i hi hji H locs ls h
      exact hstep i H locs ls hji (by omega) h (fun H' locs' ls' h' => ih (i + 1) (by omega) (by omega) H' locs' ls' h')
  exact key (M - j) j (by omega) (Nat.le_refl _) H locs ls h
variable {g : JFrame} {rest : List Value} {a : Array Value} {H : Heap} {locs : List Loc} {ls : Array Slot} {st0 : List Value}
/-- an answer, the heap as it was -/
def cl_Q (v : Option Value) : Array Value → State → Outcome → State → Prop := fun _ st o t => o = .returned v ∧ t.heap = st.heap
theorem cl_call {v : Option Value} (hr : CallRun p l e R s m args below meth c H locs cells slots 0 0 (F0 m pc ls st0) rest (cl_Q v a) (fun _ => False)) (kk : W p l e R s m args below meth c H locs cells slots Q (F0 m (pc + 3) ls (v.toList ++ rest))) : W p l e R s m args below meth c H locs cells slots Q (F0 m pc ls st0) := by
  intro T hT X
  obtain ⟨v', st₀, t, T', L, h0, X', hL, e1, ⟨hv, hh⟩, st⟩ := hr T hT X
  cases hv
  obtain ⟨t2, a1, b1⟩ := kk T' (by rw [e1, hh, h0]) (Stand.forget X' (fun q h => (hL q h).elim))
  exact ⟨t2, st t2 a1, b1⟩
end CL
section CR
variable {p : Program} {l : Launch} {e : Env} {R : Room} {s : State} {m : MethodId} {args : Array Value} {below : List Frame} {meth : Method} {c : Code} {H : Heap} {locs : List Loc} {cells slots : Nat} {Q : State → Prop}
variable {cc : ByteArray} {pc : Nat} {ls : Array Slot} {rest : List Value} {D : va_G} {cl : List vw_C} {A : Nat → Prop} {a : Nat} {tys : List (ClassId × FieldType)} {ws : va_W} {H0 : Heap}
theorem cl_asi {x y : Int32} (h : x = y) (k : W p l e R s m args below meth c H locs cells slots Q (F0 m pc ls (.int y :: rest))) : W p l e R s m args below meth c H locs cells slots Q (F0 m pc ls (.int x :: rest)) := h ▸ k
theorem cl_iald (hexec : p.tables.exec = Jvm.exec) (hb : c.code = cc) (hK : va_K D cl tys s) (hP : va_P D cl ws H) (q0 t0 : Nat) {cA : ClassId} {n k : Nat} {f : Nat → Int32} (ha : ws[q0]? = some (a, .inl (cA, n, .inl f))) (ht : tys[t0]? = some (cA, .int)) (hk : k < n) (hn : n < 2 ^ 31) (hdg : decode cc pc = .ok (.iaload, 1))
    (kk : W p l e R s m args below meth c H locs cells slots Q (F0 m (pc + 1) ls (.int (f k) :: rest))) : W p l e R s m args below meth c H locs cells slots Q (F0 m pc ls (.int (nI k) :: .ref a :: rest)) := by
  refine va_iald hexec hb hK hP q0 t0 ha ht (vp_in_nI hk hn) hdg ?_
  rw [nI_clamp (Nat.lt_trans hk hn)]
  exact kk
theorem cl_iast (hexec : p.tables.exec = Jvm.exec) (hb : c.code = cc) (hK : va_K D cl tys s) (hP : va_P D cl ws H) (hD : va_D A ws) (hS : va_S A H0 H locs) (q0 t0 : Nat) {cA : ClassId} {n k : Nat} {f : Nat → Int32} (ha : ws[q0]? = some (a, .inl (cA, n, .inl f))) (ht : tys[t0]? = some (cA, .int)) {x : Int32} (hk : k < n) (hn : n < 2 ^ 31) (hdg : decode cc pc = .ok (.iastore, 1))
    (kk : ∀ (H1 : Heap) (locs1 : List Loc), va_P D cl (ws.set q0 (a, .inl (cA, n, .inl (upd f k x)))) H1 → va_S A H0 H1 locs1 → W p l e R s m args below meth c H1 locs1 cells slots Q (F0 m (pc + 1) ls rest)) : W p l e R s m args below meth c H locs cells slots Q (F0 m pc ls (.int x :: .int (nI k) :: .ref a :: rest)) := by
  refine va_iast hexec hb hK hP hD hS q0 t0 ha ht (vp_in_nI hk hn) hdg (fun H1 locs1 h1 _ h3 => ?_)
  rw [nI_clamp (Nat.lt_trans hk hn)] at h1
  exact kk H1 locs1 h1 h3
end CR
end
section
/-! The class's cells, and its numbers: N cells, the row f of marks (bit 1 dirty, bit 2 saved). -/
abbrev cb_w (h a : Nat) (cI : ClassId) (n : Int32) (f : Nat → Int32) : va_W := [(h, .inr (0, [.ref a, .int n])), (a, .inl (cI, 512, .inl f))]
def cb_A (h a : Nat) : Nat → Prop := fun q => q = h ∨ q = a
theorem cb_D {h a : Nat} {cI : ClassId} {n : Int32} {f : Nat → Int32} (hne : h ≠ a) : va_D (cb_A h a) (cb_w h a cI n f) := by
  refine ⟨fun i j x y hi hj hxy => ?_, fun k q hk => ?_⟩
  · match i, j, hi, hj with
    | 0, 0, _, _ => rfl
    | 1, 1, _, _ => rfl
    | 0, 1, hi, hj => cases hi; cases hj; exact absurd hxy hne
    | 1, 0, hi, hj => cases hi; cases hj; exact absurd hxy.symm hne
    | i + 2, _, hi, _ => cases hi
    | _, j + 2, _, hj => cases hj
  · match k, hk with
    | 0, hk => cases hk; exact Or.inl rfl
    | 1, hk => cases hk; exact Or.inr rfl
    | k + 2, hk => cases hk
def cb_Pc (D : va_G) (av : List Value) (ws : va_W) (tys : List (ClassId × FieldType)) : Array Value → State → Prop := va_Pc av (fun U => va_P D vwCl ws U.heap ∧ va_K D vwCl tys U)
theorem cb_blind {D : va_G} {av : List Value} {ws : va_W} {tys : List (ClassId × FieldType)} : FrameBlind (cb_Pc D av ws tys) := fun a U g mk q => ⟨q.1, q.2.1, va_K.moved (u := U) (U := U.calling g mk a) (Vm.Alike.refl U.vm) q.2.2⟩
def cb_cc (N : Nat) : Nat := (N - 1) / 32 + 1
theorem cb_cc_le {N : Nat} (h : N ≤ 16384) : cb_cc N ≤ 512 := by unfold cb_cc; omega
theorem cb_pred {N : Nat} (h : 1 ≤ N) : nI N - 1 = nI (N - 1) := by
  obtain ⟨k, rfl⟩ : ∃ k, N = k + 1 := ⟨N - 1, by omega⟩
  exact nI_pred k
/-- how many of the first i marks bear a bit of v -/
def cb_ct (f : Nat → Int32) (v : Int32) : Nat → Nat
  | 0 => 0
  | i + 1 => if f i &&& v = 0 then cb_ct f v i else cb_ct f v i + 1
theorem cb_ct_0 {f : Nat → Int32} {v : Int32} {i : Nat} (h : f i &&& v = 0) : cb_ct f v (i + 1) = cb_ct f v i := if_pos h
theorem cb_ct_1 {f : Nat → Int32} {v : Int32} {i : Nat} (h : ¬ f i &&& v = 0) : cb_ct f v (i + 1) = cb_ct f v i + 1 := if_neg h
/-- the first of the marks i .. M - 1 that bears a bit of v, by k = M - i steps -/
def cb_fd (f : Nat → Int32) (v : Int32) : Nat → Nat → Int32
  | _, 0 => -1
  | i, k + 1 => if f i &&& v = 0 then cb_fd f v (i + 1) k else nI i
def cb_fw (f : Nat → Int32) (v : Int32) (i M : Nat) : Int32 := cb_fd f v i (M - i)
theorem cb_fw_out {f : Nat → Int32} {v : Int32} {i M : Nat} (h : M ≤ i) : cb_fw f v i M = -1 := by
  unfold cb_fw
  rw [Nat.sub_eq_zero_of_le h]
  rfl
theorem cb_fw_0 {f : Nat → Int32} {v : Int32} {i M : Nat} (h : i < M) (hf : f i &&& v = 0) : cb_fw f v i M = cb_fw f v (i + 1) M := by
  unfold cb_fw
  rw [show M - i = (M - (i + 1)) + 1 by omega]
  exact if_pos hf
theorem cb_fw_1 {f : Nat → Int32} {v : Int32} {i M : Nat} (h : i < M) (hf : ¬ f i &&& v = 0) : cb_fw f v i M = nI i := by
  unfold cb_fw
  rw [show M - i = (M - (i + 1)) + 1 by omega]
  exact if_neg hf
/-- the first i marks gone -/
def cb_clr (f : Nat → Int32) (i : Nat) : Nat → Int32 := fun c => if c < i then 0 else f c
theorem cb_clr_0 (f : Nat → Int32) : cb_clr f 0 = f := by
  funext c
  exact if_neg (Nat.not_lt_zero c)
theorem cb_clr_s (f : Nat → Int32) (i : Nat) : upd (cb_clr f i) i 0 = cb_clr f (i + 1) := by
  funext c
  unfold upd cb_clr
  by_cases h1 : c = i
  · rw [if_pos h1, if_pos (by omega)]
  · rw [if_neg h1]
    by_cases h2 : c < i
    · rw [if_pos h2, if_pos (by omega)]
    · rw [if_neg h2, if_neg (by omega)]
/-- the marks j .. i - 1 are saved -/
def cb_cov (f : Nat → Int32) (j i : Nat) : Nat → Int32 := fun c => if j ≤ c ∧ c < i then f c ||| 2 else f c
theorem cb_cov_0 (f : Nat → Int32) (j : Nat) : cb_cov f j j = f := by
  funext c
  exact if_neg (by omega)
theorem cb_cov_s {f : Nat → Int32} {j i : Nat} (h : j ≤ i) : upd (cb_cov f j i) i (cb_cov f j i i ||| 2) = cb_cov f j (i + 1) := by
  funext c
  unfold upd cb_cov
  by_cases h1 : c = i
  · rw [if_pos h1, if_neg (by omega), if_pos (by omega), h1]
  · rw [if_neg h1]
    by_cases h2 : j ≤ c ∧ c < i
    · rw [if_pos h2, if_pos (by omega)]
    · rw [if_neg h2, if_neg (by omega)]
theorem cb_last {k z : Nat} (hz : 1 ≤ z) : nI k + nI z - 1 = nI (k + z - 1) := by
  rw [nI_add]
  exact cb_pred (by omega)
theorem cb_len {x y : Nat} (h : x ≤ y) : nI y - nI x + 1 = nI (y - x + 1) := by
  rw [pk_sub h]
  exact nI_1 _
/-- clean(k, b) -/
def cb_cl (f : Nat → Int32) (k : Nat) (b : Int32) : Nat → Int32 := if f k &&& 1 = 0 ∨ b = 0 then upd f k (f k &&& (1 ^^^ (-1))) else upd f k ((f k &&& (1 ^^^ (-1))) ||| 2)
theorem cb_cl_0 {f : Nat → Int32} {k : Nat} {b : Int32} (h : f k &&& 1 = 0 ∨ b = 0) : cb_cl f k b = upd f k (f k &&& (1 ^^^ (-1))) := if_pos h
theorem cb_cl_1 {f : Nat → Int32} {k : Nat} {b : Int32} (h1 : ¬ f k &&& 1 = 0) (h2 : ¬ b = 0) : cb_cl f k b = upd (upd f k (f k &&& (1 ^^^ (-1)))) k (upd f k (f k &&& (1 ^^^ (-1))) k ||| 2) := by
  unfold cb_cl
  rw [if_neg (by intro h; rcases h with h | h; exact h1 h; exact h2 h)]
  funext c
  unfold upd
  by_cases hc : c = k
  · rw [if_pos hc, if_pos hc, if_pos rfl]
  · rw [if_neg hc, if_neg hc, if_neg hc]
theorem cb_if0 {P : Prop} [Decidable P] (h : (if P then (0 : Int32) else 1) = 0) : P := by
  by_cases hp : P
  · exact hp
  · rw [if_neg hp] at h
    exact absurd h (by decide)
theorem cb_if1 {P : Prop} [Decidable P] (h : ¬ (if P then (0 : Int32) else 1) = 0) : ¬ P := fun hp => h (if_pos hp)
theorem cb_nb {P : Prop} [Decidable P] : narrow .boolean (.int (if P then (0 : Int32) else 1)) = .int (if P then (0 : Int32) else 1) := by
  by_cases hp : P
  · rw [if_pos hp]; rfl
  · rw [if_neg hp]; rfl
def cb_cnt (f : Nat → Int32) (N q : Nat) : Int32 := match q with
  | 0 => nI N
  | 1 => nI (cb_cc N)
  | 2 => nI (cb_ct f 1 (cb_cc N))
  | _ => nI (cb_ct f 2 (cb_cc N))
section CB
variable {p : Program} {l : Launch} {e : Env} {R : Room} {s : State} {m : MethodId} {args : Array Value} {below : List Frame} {meth : Method} {c : Code} {H : Heap} {locs : List Loc} {cells slots : Nat} {Q : State → Prop}
variable {pc : Nat} {ls : Array Slot} {rest st0 : List Value} {D : va_G} {a : Array Value}
theorem cb_preV {h ad : Nat} {cI : ClassId} {n : Int32} {f : Nat → Int32} (hK : va_K D vwCl [(cI, .int)] s) (hP : va_P D vwCl (cb_w h ad cI n f) H) (As : List Value) : PreV s H RX0 h (cb_Pc D (.ref h :: As) (cb_w h ad cI n f) [(cI, .int)]) As :=
  ⟨cb_blind, va_recv hK hP (ci := 0) (q0 := 0) rfl rfl, fun U hU hW => ⟨rfl, by rw [hU]; exact hP, va_K.moved hW.alike hK⟩⟩
theorem cb_preS {As : List Value} : PreS s H (va_Pc As (fun _ => True)) As := ⟨fun _ _ _ _ q => q, fun _ _ _ => ⟨rfl, trivial⟩⟩
theorem cl_calli {v : Int32} (hr : CallRun p l e R s m args below meth c H locs cells slots 0 0 (F0 m pc ls st0) rest (cl_Q (some (.int v)) a) (fun _ => False)) (kk : W p l e R s m args below meth c H locs cells slots Q (F0 m (pc + 3) ls (.int v :: rest))) : W p l e R s m args below meth c H locs cells slots Q (F0 m pc ls st0) := cl_call hr kk
theorem cl_callv (hr : CallRun p l e R s m args below meth c H locs cells slots 0 0 (F0 m pc ls st0) rest (cl_Q none a) (fun _ => False)) (kk : W p l e R s m args below meth c H locs cells slots Q (F0 m (pc + 3) ls rest)) : W p l e R s m args below meth c H locs cells slots Q (F0 m pc ls st0) := cl_call hr kk
end CB
theorem cl_at {D : va_G} {cl : List vw_C} {w : va_W} {H : Heap} {t : State} (ht : t.heap = H) (h : va_P D cl w H) : va_P D cl w t.heap := by
  rw [ht]
  exact h
end
section
set_option maxHeartbeats 4000000 in
set_option maxRecDepth 100000 in
/-- cardOf(k) -/
theorem c_cardOf (l : Launch) (k : Nat) (hk : k < 2 ^ 31) : Met l yX0_cardOf wsX0_cardOf ({ frames := 0, cells := 0, slots := 0, locals := 0 }) (va_Pc [.int (nI k)] (fun _ => True)) (cl_Q (some (.int (nI (k / 32))))) 0 0 (fun _ => False) := by
  refine Met.ofW (cc := cX0_cardOf) (maxL := 1) (ret := (some .int)) (by decide) rfl ?_
  intro p e s m args below meth c s₁ B hml hv
  obtain ⟨rfl, -⟩ := hv
  have hx := B.exec
  have hb := B.bytes
  have hr := B.returns
  have hts := atoms_spec (ws := wsX0_cardOf) B.pre
  have hown : s.vm.findClass RX0 = some m.cls := findClass_of_methodNamed B.named
  have hlocks := B.notSynchronized
  have hl := lv_entry ([.int (nI k)]) (n := 1) (Nat.le_of_ble_eq_true rfl)
  rw [lg_entry_eq]
  generalize (lg_sl ([.int (nI k)]) ++ List.replicate (1 - (lg_sl ([.int (nI k)])).length) Slot.unset).toArray = ls at hl ⊢
  have hl : lv_has ls 1 [(0, .int (nI k))] := hl
  refine lv_iload_n hx hb dX0_cardOf_0 rfl (lv_at hl 0 rfl) ?_
  refine lv_bipush (v := 32) hx hb dX0_cardOf_1 (by decide) ?_
  refine lv_idiv hx hb dX0_cardOf_3 (by decide) ?_
  refine cl_asi (pk_div (d := 32) hk (by decide) (by decide)) ?_
  exact W.iret (v := nI (k / 32)) hx hb hr (fun t9 ht9 _ => ⟨rfl, ht9⟩) (fun q9 hq9 => nomatch hq9) dX0_cardOf_4
set_option maxHeartbeats 4000000 in
set_option maxRecDepth 100000 in
/-- cardCount() -/
theorem c_cardCount (l : Launch) (dC : Nat → ClassId) (dI : Nat → Nat → Nat) (h a : Nat) (cI : ClassId) (N : Nat) (f : Nat → Int32) (h1 : 1 ≤ N) (h2 : N ≤ 16384) : Met l yX0_cardCount wsX0_cardCount ({ frames := 1, cells := 0, slots := 0, locals := 20 }) (cb_Pc (dC, dI) [.ref h] (cb_w h a cI (nI N) f) [(cI, .int)]) (cl_Q (some (.int (nI (cb_cc N))))) 0 0 (fun _ => False) := by
  refine Met.ofW (cc := cX0_cardCount) (maxL := 1) (ret := (some .int)) (by decide) rfl ?_
  intro p e s m args below meth c s₁ B hml hv
  obtain ⟨rfl, hP, hK⟩ := hv
  have hx := B.exec
  have hb := B.bytes
  have hr := B.returns
  have hts := atoms_spec (ws := wsX0_cardCount) B.pre
  have hown : s.vm.findClass RX0 = some m.cls := findClass_of_methodNamed B.named
  have hlocks := B.notSynchronized
  have hl := lv_entry ([.ref h]) (n := 1) (Nat.le_of_ble_eq_true rfl)
  rw [lg_entry_eq]
  generalize (lg_sl ([.ref h]) ++ List.replicate (1 - (lg_sl ([.ref h])).length) Slot.unset).toArray = ls at hl ⊢
  have hl : lv_has ls 1 [(0, .ref h)] := hl
  refine lv_aload_n hx hb dX0_cardCount_0 rfl (lv_at hl 0 rfl) ?_
  refine va_get (D := (dC, dI)) (ci := 0) (v := .int (nI N)) (C := RX0) (T := TX0) (N := 2) hx hb hts (by decide +kernel) hown hK hP 0 rfl rfl 1 (by decide) (hts (.fieldLink RX0 13 "CardBook" "cells" "I") (by decide +kernel)) (fun _ h9 => h9) rfl dX0_cardCount_1 ?_
  refine lv_iconst (v := 1) hx hb dX0_cardCount_4 (by decide) ?_
  refine lv_isub hx hb dX0_cardCount_5 ?_
  refine cl_asi (cb_pred h1) ?_
  refine cl_calli (W.runS (As := [.int (nI (N - 1))]) (rest := []) ⟨hx, hb, hml, hown, hts⟩ (c_cardOf l (N - 1) (by omega)) (va_cwS 1 hts gX0_cardCount_X0_cardOf rfl rfl rfl (by decide +kernel) ⟨Nat.le_of_ble_eq_true rfl, Nat.le_of_ble_eq_true rfl⟩) cb_preS rfl rfl hl.1 rfl (lv_room (Nat.le_of_ble_eq_true rfl)) dX0_cardCount_6 ⟨Nat.zero_le _, Nat.zero_le _⟩) ?_
  refine lv_iconst (v := 1) hx hb dX0_cardCount_9 (by decide) ?_
  refine lv_iadd hx hb dX0_cardCount_10 ?_
  refine cl_asi (nI_1 _) ?_
  exact W.iret (v := nI ((N - 1) / 32 + 1)) hx hb hr (fun t9 ht9 _ => ⟨rfl, ht9⟩) (fun q9 hq9 => nomatch hq9) dX0_cardCount_11
set_option maxHeartbeats 4000000 in
set_option maxRecDepth 100000 in
/-- requireCell(k), where there is one -/
theorem c_requireCell (l : Launch) (dC : Nat → ClassId) (dI : Nat → Nat → Nat) (h a : Nat) (cI : ClassId) (N : Nat) (f : Nat → Int32) (k : Nat) (h2 : N ≤ 16384) (hk : k < N) : Met l yX0_requireCell wsX0_requireCell ({ frames := 0, cells := 0, slots := 0, locals := 0 }) (cb_Pc (dC, dI) [.ref h, .int (nI k)] (cb_w h a cI (nI N) f) [(cI, .int)]) (cl_Q none) 0 0 (fun _ => False) := by
  refine Met.ofW (cc := cX0_requireCell) (maxL := 2) (ret := none) (by decide) rfl ?_
  intro p e s m args below meth c s₁ B hml hv
  obtain ⟨rfl, hP, hK⟩ := hv
  have hx := B.exec
  have hb := B.bytes
  have hr := B.returns
  have hts := atoms_spec (ws := wsX0_requireCell) B.pre
  have hown : s.vm.findClass RX0 = some m.cls := findClass_of_methodNamed B.named
  have hlocks := B.notSynchronized
  have hl := lv_entry ([.ref h, .int (nI k)]) (n := 2) (Nat.le_of_ble_eq_true rfl)
  rw [lg_entry_eq]
  generalize (lg_sl ([.ref h, .int (nI k)]) ++ List.replicate (2 - (lg_sl ([.ref h, .int (nI k)])).length) Slot.unset).toArray = ls at hl ⊢
  have hl : lv_has ls 2 [(0, .ref h), (1, .int (nI k))] := hl
  refine lv_iload_n hx hb dX0_requireCell_0 rfl (lv_at hl 1 rfl) ?_
  refine lv_if_lt (tgt := 12) hx hb dX0_requireCell_1 (by decide) (fun hc => ?_) (fun hc => ?_)
  · exact absurd hc (nI_pos (by omega))
  · refine lv_iload_n hx hb dX0_requireCell_4 rfl (lv_at hl 1 rfl) ?_
    refine lv_aload_n hx hb dX0_requireCell_5 rfl (lv_at hl 0 rfl) ?_
    refine va_get (D := (dC, dI)) (ci := 0) (v := .int (nI N)) (C := RX0) (T := TX0) (N := 2) hx hb hts (by decide +kernel) hown hK hP 0 rfl rfl 1 (by decide) (hts (.fieldLink RX0 13 "CardBook" "cells" "I") (by decide +kernel)) (fun _ h9 => h9) rfl dX0_requireCell_6 ?_
    refine lv_icmp_lt (tgt := 22) hx hb dX0_requireCell_9 (by decide) (fun hd => ?_) (fun hd => ?_)
    · exact W.vret hx hb hr (fun t9 ht9 _ => ⟨rfl, ht9⟩) (fun q9 hq9 => nomatch hq9) dX0_requireCell_22
    · exact absurd (nI_lt hk (by omega)) hd
set_option maxHeartbeats 4000000 in
set_option maxRecDepth 100000 in
/-- requireCard(k), where there is one -/
theorem c_requireCard (l : Launch) (dC : Nat → ClassId) (dI : Nat → Nat → Nat) (h a : Nat) (cI : ClassId) (N : Nat) (f : Nat → Int32) (k : Nat) (h1 : 1 ≤ N) (h2 : N ≤ 16384) (hk : k < (cb_cc N)) : Met l yX0_requireCard wsX0_requireCard ({ frames := 2, cells := 0, slots := 0, locals := 40 }) (cb_Pc (dC, dI) [.ref h, .int (nI k)] (cb_w h a cI (nI N) f) [(cI, .int)]) (cl_Q none) 0 0 (fun _ => False) := by
  refine Met.ofW (cc := cX0_requireCard) (maxL := 2) (ret := none) (by decide) rfl ?_
  intro p e s m args below meth c s₁ B hml hv
  obtain ⟨rfl, hP, hK⟩ := hv
  have hx := B.exec
  have hb := B.bytes
  have hr := B.returns
  have hts := atoms_spec (ws := wsX0_requireCard) B.pre
  have hown : s.vm.findClass RX0 = some m.cls := findClass_of_methodNamed B.named
  have hlocks := B.notSynchronized
  have hl := lv_entry ([.ref h, .int (nI k)]) (n := 2) (Nat.le_of_ble_eq_true rfl)
  rw [lg_entry_eq]
  generalize (lg_sl ([.ref h, .int (nI k)]) ++ List.replicate (2 - (lg_sl ([.ref h, .int (nI k)])).length) Slot.unset).toArray = ls at hl ⊢
  have hl : lv_has ls 2 [(0, .ref h), (1, .int (nI k))] := hl
  refine lv_iload_n hx hb dX0_requireCard_0 rfl (lv_at hl 1 rfl) ?_
  refine lv_if_lt (tgt := 12) hx hb dX0_requireCard_1 (by decide) (fun hc => ?_) (fun hc => ?_)
  · exact absurd hc (nI_pos (by have := cb_cc_le h2; omega))
  · refine lv_iload_n hx hb dX0_requireCard_4 rfl (lv_at hl 1 rfl) ?_
    refine lv_aload_n hx hb dX0_requireCard_5 rfl (lv_at hl 0 rfl) ?_
    refine cl_calli (W.runV (As := []) (rest := [.int (nI k)]) ⟨hx, hb, hml, hown, hts⟩ (c_cardCount l dC dI h a cI N f h1 h2) (cwV 0 hts gX0_requireCard_X0_cardCount rfl rfl rfl (by decide +kernel) ⟨Nat.le_of_ble_eq_true rfl, Nat.le_of_ble_eq_true rfl⟩) (cb_preV hK hP []) rfl rfl hl.1 rfl (lv_room (Nat.le_of_ble_eq_true rfl)) dX0_requireCard_6 ⟨Nat.zero_le _, Nat.zero_le _⟩) ?_
    refine lv_icmp_lt (tgt := 22) hx hb dX0_requireCard_9 (by decide) (fun hd => ?_) (fun hd => ?_)
    · exact W.vret hx hb hr (fun t9 ht9 _ => ⟨rfl, ht9⟩) (fun q9 hq9 => nomatch hq9) dX0_requireCard_22
    · exact absurd (nI_lt hk (by have := cb_cc_le h2; omega)) hd
set_option maxHeartbeats 4000000 in
set_option maxRecDepth 100000 in
/-- removeMark(k, v) -/
theorem c_removeMark (l : Launch) (dC : Nat → ClassId) (dI : Nat → Nat → Nat) (h a : Nat) (cI : ClassId) (N : Nat) (f : Nat → Int32) (k : Nat) (v : Int32) (hne : h ≠ a) (hk : k < 512) : Met l yX0_removeMark wsX0_removeMark ({ frames := 0, cells := 0, slots := 0, locals := 0 }) (cb_Pc (dC, dI) [.ref h, .int (nI k), .int v] (cb_w h a cI (nI N) f) [(cI, .int)]) (va_Qi (fun (r9 : Int32) (_ : Unit) => (if f k &&& v = 0 then (0 : Int32) else 1) = r9) (fun _ t9 => va_P (dC, dI) vwCl (cb_w h a cI (nI N) (upd f k (f k &&& (v ^^^ (-1))))) t9.heap) (cb_A h a)) 0 0 (cb_A h a) := by
  refine Met.ofW (cc := cX0_removeMark) (maxL := 4) (ret := (some .boolean)) (by decide) rfl ?_
  intro p e s m args below meth c s₁ B hml hv
  obtain ⟨rfl, hP, hK⟩ := hv
  have hx := B.exec
  have hb := B.bytes
  have hr := B.returns
  have hts := atoms_spec (ws := wsX0_removeMark) B.pre
  have hown : s.vm.findClass RX0 = some m.cls := findClass_of_methodNamed B.named
  have hlocks := B.notSynchronized
  have hl := lv_entry ([.ref h, .int (nI k), .int v]) (n := 4) (Nat.le_of_ble_eq_true rfl)
  rw [lg_entry_eq]
  generalize (lg_sl ([.ref h, .int (nI k), .int v]) ++ List.replicate (4 - (lg_sl ([.ref h, .int (nI k), .int v])).length) Slot.unset).toArray = ls at hl ⊢
  have hl : lv_has ls 4 [(0, .ref h), (1, .int (nI k)), (2, .int v)] := hl
  have hD := cb_D (cI := cI) (n := nI N) (f := f) hne
  have hS : va_S (cb_A h a) s.heap s.heap [] := va_S.rf
  refine lv_aload_n hx hb dX0_removeMark_0 rfl (lv_at hl 0 rfl) ?_
  refine va_get (D := (dC, dI)) (ci := 0) (v := .ref a) (C := RX0) (T := TX0) (N := 2) hx hb hts (by decide +kernel) hown hK hP 0 rfl rfl 0 (by decide) (hts (.fieldLink RX0 9 "CardBook" "marks" "[I") (by decide +kernel)) (fun _ h9 => h9) rfl dX0_removeMark_1 ?_
  refine lv_iload_n hx hb dX0_removeMark_4 rfl (lv_at hl 1 rfl) ?_
  refine cl_iald (D := (dC, dI)) hx hb hK hP 1 0 rfl rfl hk (by decide) dX0_removeMark_5 ?_
  refine lv_iload_n hx hb dX0_removeMark_6 rfl (lv_at hl 2 rfl) ?_
  refine lv_iand hx hb dX0_removeMark_7 ?_
  refine lv_if_eq (tgt := 15) hx hb dX0_removeMark_8 (by decide) (fun hc => ?_) (fun hc => ?_)
  · refine lv_iconst (v := 0) hx hb dX0_removeMark_15 (by decide) ?_
    refine lv_istore_n (lv' := [(3, .int 0), (0, .ref h), (1, .int (nI k)), (2, .int v)]) hx hb dX0_removeMark_16 rfl hl (by decide) rfl (fun ls hl => ?_)
    refine lv_aload_n hx hb dX0_removeMark_17 rfl (lv_at hl 1 rfl) ?_
    refine va_get (D := (dC, dI)) (ci := 0) (v := .ref a) (C := RX0) (T := TX0) (N := 2) hx hb hts (by decide +kernel) hown hK hP 0 rfl rfl 0 (by decide) (hts (.fieldLink RX0 9 "CardBook" "marks" "[I") (by decide +kernel)) (fun _ h9 => h9) rfl dX0_removeMark_18 ?_
    refine lv_iload_n hx hb dX0_removeMark_21 rfl (lv_at hl 2 rfl) ?_
    refine lv_dup2_11 hx hb dX0_removeMark_22 rfl rfl ?_
    refine cl_iald (D := (dC, dI)) hx hb hK hP 1 0 rfl rfl hk (by decide) dX0_removeMark_23 ?_
    refine lv_iload_n hx hb dX0_removeMark_24 rfl (lv_at hl 3 rfl) ?_
    refine lv_iconst (v := (-1)) hx hb dX0_removeMark_25 (by decide) ?_
    refine lv_ixor hx hb dX0_removeMark_26 ?_
    refine lv_iand hx hb dX0_removeMark_27 ?_
    refine cl_iast (D := (dC, dI)) hx hb hK hP hD hS 1 0 rfl rfl hk (by decide) dX0_removeMark_28 (fun H locs hP hS => ?_)
    have hP : va_P (dC, dI) vwCl (cb_w h a cI (nI N) (upd f k (f k &&& (v ^^^ (-1))))) H := hP
    refine lv_iload_n hx hb dX0_removeMark_29 rfl (lv_at hl 0 rfl) ?_
    exact W.zret (v := 0) (ty := .boolean) hx hb hr rfl (fun t9 ht9 _ => ⟨⟨_, (), rfl, if_pos hc, cl_at ht9 hP⟩, hS.F ht9⟩) hS.2.2 dX0_removeMark_30
  · refine lv_iconst (v := 1) hx hb dX0_removeMark_11 (by decide) ?_
    refine lv_goto (tgt := 16) hx hb dX0_removeMark_12 (by decide) ?_
    refine lv_istore_n (lv' := [(3, .int 1), (0, .ref h), (1, .int (nI k)), (2, .int v)]) hx hb dX0_removeMark_16 rfl hl (by decide) rfl (fun ls hl => ?_)
    refine lv_aload_n hx hb dX0_removeMark_17 rfl (lv_at hl 1 rfl) ?_
    refine va_get (D := (dC, dI)) (ci := 0) (v := .ref a) (C := RX0) (T := TX0) (N := 2) hx hb hts (by decide +kernel) hown hK hP 0 rfl rfl 0 (by decide) (hts (.fieldLink RX0 9 "CardBook" "marks" "[I") (by decide +kernel)) (fun _ h9 => h9) rfl dX0_removeMark_18 ?_
    refine lv_iload_n hx hb dX0_removeMark_21 rfl (lv_at hl 2 rfl) ?_
    refine lv_dup2_11 hx hb dX0_removeMark_22 rfl rfl ?_
    refine cl_iald (D := (dC, dI)) hx hb hK hP 1 0 rfl rfl hk (by decide) dX0_removeMark_23 ?_
    refine lv_iload_n hx hb dX0_removeMark_24 rfl (lv_at hl 3 rfl) ?_
    refine lv_iconst (v := (-1)) hx hb dX0_removeMark_25 (by decide) ?_
    refine lv_ixor hx hb dX0_removeMark_26 ?_
    refine lv_iand hx hb dX0_removeMark_27 ?_
    refine cl_iast (D := (dC, dI)) hx hb hK hP hD hS 1 0 rfl rfl hk (by decide) dX0_removeMark_28 (fun H locs hP hS => ?_)
    have hP : va_P (dC, dI) vwCl (cb_w h a cI (nI N) (upd f k (f k &&& (v ^^^ (-1))))) H := hP
    refine lv_iload_n hx hb dX0_removeMark_29 rfl (lv_at hl 0 rfl) ?_
    exact W.zret (v := 1) (ty := .boolean) hx hb hr rfl (fun t9 ht9 _ => ⟨⟨_, (), rfl, if_neg hc, cl_at ht9 hP⟩, hS.F ht9⟩) hS.2.2 dX0_removeMark_30
set_option maxHeartbeats 4000000 in
set_option maxRecDepth 100000 in
/-- countWith(v) -/
theorem c_countWith (l : Launch) (dC : Nat → ClassId) (dI : Nat → Nat → Nat) (h a : Nat) (cI : ClassId) (N : Nat) (f : Nat → Int32) (v : Int32) (h1 : 1 ≤ N) (h2 : N ≤ 16384) : Met l yX0_countWith wsX0_countWith ({ frames := 2, cells := 0, slots := 0, locals := 40 }) (cb_Pc (dC, dI) [.ref h, .int v] (cb_w h a cI (nI N) f) [(cI, .int)]) (cl_Q (some (.int (nI (cb_ct f v (cb_cc N)))))) 0 0 (fun _ => False) := by
  refine Met.ofW (cc := cX0_countWith) (maxL := 5) (ret := (some .int)) (by decide) rfl ?_
  intro p e s m args below meth c s₁ B hml hv
  obtain ⟨rfl, hP, hK⟩ := hv
  have hx := B.exec
  have hb := B.bytes
  have hr := B.returns
  have hts := atoms_spec (ws := wsX0_countWith) B.pre
  have hown : s.vm.findClass RX0 = some m.cls := findClass_of_methodNamed B.named
  have hlocks := B.notSynchronized
  have hl := lv_entry ([.ref h, .int v]) (n := 5) (Nat.le_of_ble_eq_true rfl)
  rw [lg_entry_eq]
  generalize (lg_sl ([.ref h, .int v]) ++ List.replicate (5 - (lg_sl ([.ref h, .int v])).length) Slot.unset).toArray = ls at hl ⊢
  have hl : lv_has ls 5 [(0, .ref h), (1, .int v)] := hl
  refine lv_iconst (v := 0) hx hb dX0_countWith_0 (by decide) ?_
  refine lv_istore_n (lv' := [(2, .int 0), (0, .ref h), (1, .int v)]) hx hb dX0_countWith_1 rfl hl (by decide) rfl (fun ls hl => ?_)
  refine lv_aload_n hx hb dX0_countWith_2 rfl (lv_at hl 1 rfl) ?_
  refine cl_calli (W.runV (As := []) (rest := []) ⟨hx, hb, hml, hown, hts⟩ (c_cardCount l dC dI h a cI N f h1 h2) (cwV 0 hts gX0_countWith_X0_cardCount rfl rfl rfl (by decide +kernel) ⟨Nat.le_of_ble_eq_true rfl, Nat.le_of_ble_eq_true rfl⟩) (cb_preV hK hP []) rfl rfl hl.1 rfl (lv_room (Nat.le_of_ble_eq_true rfl)) dX0_countWith_3 ⟨Nat.zero_le _, Nat.zero_le _⟩) ?_
  refine lv_istore_n (lv' := [(3, .int (nI (cb_cc N))), (2, .int 0), (0, .ref h), (1, .int v)]) hx hb dX0_countWith_6 rfl hl (by decide) rfl (fun ls hl => ?_)
  refine lv_iconst (v := 0) hx hb dX0_countWith_7 (by decide) ?_
  refine lv_istore (lv' := [(4, .int 0), (3, .int (nI (cb_cc N))), (2, .int 0), (0, .ref h), (1, .int v)]) hx hb dX0_countWith_8 hl (by decide) rfl (fun ls hl => ?_)
  refine cl_loop 0 (cb_cc N) (Nat.zero_le _) (fun i H9 locs9 ls9 => H9 = s.heap ∧ locs9 = [] ∧ lv_has ls9 5 [(4, .int (nI i)), (3, .int (nI (cb_cc N))), (2, .int (nI (cb_ct f v i))), (0, .ref h), (1, .int v)]) ?_ ?_ (H := s.heap) (locs := []) (ls := ls) ⟨rfl, rfl, hl⟩
  · intro H9 locs9 ls hi9
    obtain ⟨rfl, rfl, hl⟩ := hi9
    refine lv_iload hx hb dX0_countWith_10 (lv_at hl 0 rfl) ?_
    refine lv_iload_n hx hb dX0_countWith_12 rfl (lv_at hl 1 rfl) ?_
    refine lv_icmp_ge (tgt := 37) hx hb dX0_countWith_13 (by decide) (fun hc => ?_) (fun hc => ?_)
    · refine lv_iload_n hx hb dX0_countWith_37 rfl (lv_at hl 2 rfl) ?_
      exact W.iret (v := nI (cb_ct f v (cb_cc N))) hx hb hr (fun t9 ht9 _ => ⟨rfl, ht9⟩) (fun q9 hq9 => nomatch hq9) dX0_countWith_38
    · exact absurd (Int32.le_refl _) hc
  · intro i H9 locs9 ls _ hi hi9 kk
    obtain ⟨rfl, rfl, hl⟩ := hi9
    refine lv_iload hx hb dX0_countWith_10 (lv_at hl 0 rfl) ?_
    refine lv_iload_n hx hb dX0_countWith_12 rfl (lv_at hl 1 rfl) ?_
    refine lv_icmp_ge (tgt := 37) hx hb dX0_countWith_13 (by decide) (fun hc => ?_) (fun hc => ?_)
    · exact absurd hc (nI_ge hi (by have := cb_cc_le h2; omega))
    · refine lv_aload_n hx hb dX0_countWith_16 rfl (lv_at hl 3 rfl) ?_
      refine va_get (D := (dC, dI)) (ci := 0) (v := .ref a) (C := RX0) (T := TX0) (N := 2) hx hb hts (by decide +kernel) hown hK hP 0 rfl rfl 0 (by decide) (hts (.fieldLink RX0 9 "CardBook" "marks" "[I") (by decide +kernel)) (fun _ h9 => h9) rfl dX0_countWith_17 ?_
      refine lv_iload hx hb dX0_countWith_20 (lv_at hl 0 rfl) ?_
      refine cl_iald (D := (dC, dI)) hx hb hK hP 1 0 rfl rfl (show i < 512 by have := cb_cc_le h2; omega) (by decide) dX0_countWith_22 ?_
      refine lv_iload_n hx hb dX0_countWith_23 rfl (lv_at hl 4 rfl) ?_
      refine lv_iand hx hb dX0_countWith_24 ?_
      refine lv_if_eq (tgt := 31) hx hb dX0_countWith_25 (by decide) (fun hd => ?_) (fun hd => ?_)
      · refine lv_iinc (v := (nI (i + 1))) (lv' := [(4, .int (nI (i + 1))), (3, .int (nI (cb_cc N))), (2, .int (nI (cb_ct f v i))), (0, .ref h), (1, .int v)]) hx hb dX0_countWith_31 hl (k := 0) rfl (nI_1 _) (by decide) rfl (fun ls hl => ?_)
        refine lv_goto (tgt := 10) hx hb dX0_countWith_34 (by decide) ?_
        exact kk _ _ _ ⟨rfl, rfl, lv_sub hl [0, 1, 2, 3, 4] (by rw [cb_ct_0 hd]; rfl)⟩
      · refine lv_iinc (v := (nI (cb_ct f v i + 1))) (lv' := [(2, .int (nI (cb_ct f v i + 1))), (4, .int (nI i)), (3, .int (nI (cb_cc N))), (0, .ref h), (1, .int v)]) hx hb dX0_countWith_28 hl (k := 2) rfl (nI_1 _) (by decide) rfl (fun ls hl => ?_)
        refine lv_iinc (v := (nI (i + 1))) (lv' := [(4, .int (nI (i + 1))), (2, .int (nI (cb_ct f v i + 1))), (3, .int (nI (cb_cc N))), (0, .ref h), (1, .int v)]) hx hb dX0_countWith_31 hl (k := 1) rfl (nI_1 _) (by decide) rfl (fun ls hl => ?_)
        refine lv_goto (tgt := 10) hx hb dX0_countWith_34 (by decide) ?_
        exact kk _ _ _ ⟨rfl, rfl, lv_sub hl [0, 2, 1, 3, 4] (by rw [cb_ct_1 hd]; rfl)⟩
set_option maxHeartbeats 4000000 in
set_option maxRecDepth 100000 in
/-- firstWith(v, j) -/
theorem c_firstWith (l : Launch) (dC : Nat → ClassId) (dI : Nat → Nat → Nat) (h a : Nat) (cI : ClassId) (N : Nat) (f : Nat → Int32) (v : Int32) (j : Nat) (h1 : 1 ≤ N) (h2 : N ≤ 16384) (hj : j < 2 ^ 31) : Met l yX0_firstWith wsX0_firstWith ({ frames := 2, cells := 0, slots := 0, locals := 40 }) (cb_Pc (dC, dI) [.ref h, .int v, .int (nI j)] (cb_w h a cI (nI N) f) [(cI, .int)]) (cl_Q (some (.int (cb_fw f v j (cb_cc N))))) 0 0 (fun _ => False) := by
  refine Met.ofW (cc := cX0_firstWith) (maxL := 5) (ret := (some .int)) (by decide) rfl ?_
  intro p e s m args below meth c s₁ B hml hv
  obtain ⟨rfl, hP, hK⟩ := hv
  have hx := B.exec
  have hb := B.bytes
  have hr := B.returns
  have hts := atoms_spec (ws := wsX0_firstWith) B.pre
  have hown : s.vm.findClass RX0 = some m.cls := findClass_of_methodNamed B.named
  have hlocks := B.notSynchronized
  have hl := lv_entry ([.ref h, .int v, .int (nI j)]) (n := 5) (Nat.le_of_ble_eq_true rfl)
  rw [lg_entry_eq]
  generalize (lg_sl ([.ref h, .int v, .int (nI j)]) ++ List.replicate (5 - (lg_sl ([.ref h, .int v, .int (nI j)])).length) Slot.unset).toArray = ls at hl ⊢
  have hl : lv_has ls 5 [(0, .ref h), (1, .int v), (2, .int (nI j))] := hl
  refine lv_iload_n hx hb dX0_firstWith_0 rfl (lv_at hl 2 rfl) ?_
  refine lv_if_ge (tgt := 14) hx hb dX0_firstWith_1 (by decide) (fun hc => ?_) (fun hc => ?_)
  · refine lv_aload_n hx hb dX0_firstWith_14 rfl (lv_at hl 0 rfl) ?_
    refine cl_calli (W.runV (As := []) (rest := []) ⟨hx, hb, hml, hown, hts⟩ (c_cardCount l dC dI h a cI N f h1 h2) (cwV 0 hts gX0_firstWith_X0_cardCount rfl rfl rfl (by decide +kernel) ⟨Nat.le_of_ble_eq_true rfl, Nat.le_of_ble_eq_true rfl⟩) (cb_preV hK hP []) rfl rfl hl.1 rfl (lv_room (Nat.le_of_ble_eq_true rfl)) dX0_firstWith_15 ⟨Nat.zero_le _, Nat.zero_le _⟩) ?_
    refine lv_istore_n (lv' := [(3, .int (nI (cb_cc N))), (0, .ref h), (1, .int v), (2, .int (nI j))]) hx hb dX0_firstWith_18 rfl hl (by decide) rfl (fun ls hl => ?_)
    refine lv_iload_n hx hb dX0_firstWith_19 rfl (lv_at hl 3 rfl) ?_
    refine lv_istore (lv' := [(4, .int (nI j)), (3, .int (nI (cb_cc N))), (0, .ref h), (1, .int v), (2, .int (nI j))]) hx hb dX0_firstWith_20 hl (by decide) rfl (fun ls hl => ?_)
    refine cl_loop j (max j (cb_cc N)) (Nat.le_max_left _ _) (fun i H9 locs9 ls9 => H9 = s.heap ∧ locs9 = [] ∧ cb_fw f v j (cb_cc N) = cb_fw f v i (cb_cc N) ∧ lv_has ls9 5 [(4, .int (nI i)), (3, .int (nI (cb_cc N))), (0, .ref h), (1, .int v), (2, .int (nI j))]) ?_ ?_ (H := s.heap) (locs := []) (ls := ls) ⟨rfl, rfl, rfl, hl⟩
    · intro H9 locs9 ls hi9
      obtain ⟨rfl, rfl, hf, hl⟩ := hi9
      refine lv_iload hx hb dX0_firstWith_22 (lv_at hl 0 rfl) ?_
      refine lv_iload_n hx hb dX0_firstWith_24 rfl (lv_at hl 1 rfl) ?_
      refine lv_icmp_ge (tgt := 49) hx hb dX0_firstWith_25 (by decide) (fun hc => ?_) (fun hc => ?_)
      · refine lv_iconst (v := (-1)) hx hb dX0_firstWith_49 (by decide) ?_
        rw [cb_fw_out (Nat.le_max_right _ _)] at hf
        exact W.iret (v := -1) hx hb hr (fun t9 ht9 _ => ⟨by rw [hf], ht9⟩) (fun q9 hq9 => nomatch hq9) dX0_firstWith_50
      · exact absurd (nI_le (Nat.le_max_right _ _) (by have := cb_cc_le h2; omega)) hc
    · intro i H9 locs9 ls hji hi hi9 kk
      obtain ⟨rfl, rfl, hf, hl⟩ := hi9
      have hi : i < (cb_cc N) := by omega
      refine lv_iload hx hb dX0_firstWith_22 (lv_at hl 0 rfl) ?_
      refine lv_iload_n hx hb dX0_firstWith_24 rfl (lv_at hl 1 rfl) ?_
      refine lv_icmp_ge (tgt := 49) hx hb dX0_firstWith_25 (by decide) (fun hc => ?_) (fun hc => ?_)
      · exact absurd hc (nI_ge hi (by have := cb_cc_le h2; omega))
      · refine lv_aload_n hx hb dX0_firstWith_28 rfl (lv_at hl 2 rfl) ?_
        refine va_get (D := (dC, dI)) (ci := 0) (v := .ref a) (C := RX0) (T := TX0) (N := 2) hx hb hts (by decide +kernel) hown hK hP 0 rfl rfl 0 (by decide) (hts (.fieldLink RX0 9 "CardBook" "marks" "[I") (by decide +kernel)) (fun _ h9 => h9) rfl dX0_firstWith_29 ?_
        refine lv_iload hx hb dX0_firstWith_32 (lv_at hl 0 rfl) ?_
        refine cl_iald (D := (dC, dI)) hx hb hK hP 1 0 rfl rfl (show i < 512 by have := cb_cc_le h2; omega) (by decide) dX0_firstWith_34 ?_
        refine lv_iload_n hx hb dX0_firstWith_35 rfl (lv_at hl 3 rfl) ?_
        refine lv_iand hx hb dX0_firstWith_36 ?_
        refine lv_if_eq (tgt := 43) hx hb dX0_firstWith_37 (by decide) (fun hd => ?_) (fun hd => ?_)
        · refine lv_iinc (v := (nI (i + 1))) (lv' := [(4, .int (nI (i + 1))), (3, .int (nI (cb_cc N))), (0, .ref h), (1, .int v), (2, .int (nI j))]) hx hb dX0_firstWith_43 hl (k := 0) rfl (nI_1 _) (by decide) rfl (fun ls hl => ?_)
          refine lv_goto (tgt := 22) hx hb dX0_firstWith_46 (by decide) ?_
          exact kk _ _ _ ⟨rfl, rfl, hf.trans (cb_fw_0 hi hd), lv_sub hl [0, 1, 2, 3, 4] rfl⟩
        · refine lv_iload hx hb dX0_firstWith_40 (lv_at hl 0 rfl) ?_
          rw [cb_fw_1 hi hd] at hf
          exact W.iret (v := nI i) hx hb hr (fun t9 ht9 _ => ⟨by rw [hf], ht9⟩) (fun q9 hq9 => nomatch hq9) dX0_firstWith_42
  · exact absurd (nI_pos' hj) hc
set_option maxHeartbeats 4000000 in
set_option maxRecDepth 100000 in
/-- clear() -/
theorem c_clear (l : Launch) (dC : Nat → ClassId) (dI : Nat → Nat → Nat) (h a : Nat) (cI : ClassId) (N : Nat) (f : Nat → Int32) (h1 : 1 ≤ N) (h2 : N ≤ 16384) (hne : h ≠ a) : Met l yX0_clear wsX0_clear ({ frames := 3, cells := 0, slots := 0, locals := 70 }) (cb_Pc (dC, dI) [.ref h] (cb_w h a cI (nI N) f) [(cI, .int)]) (va_Qi (fun (r9 : Int32) (_ : Unit) => (nI (cb_ct f 3 (cb_cc N))) = r9) (fun _ t9 => va_P (dC, dI) vwCl (cb_w h a cI (nI N) (cb_clr f (cb_cc N))) t9.heap) (cb_A h a)) 0 0 (cb_A h a) := by
  refine Met.ofW (cc := cX0_clear) (maxL := 4) (ret := (some .int)) (by decide) rfl ?_
  intro p e s m args below meth c s₁ B hml hv
  obtain ⟨rfl, hP, hK⟩ := hv
  have hx := B.exec
  have hb := B.bytes
  have hr := B.returns
  have hts := atoms_spec (ws := wsX0_clear) B.pre
  have hown : s.vm.findClass RX0 = some m.cls := findClass_of_methodNamed B.named
  have hlocks := B.notSynchronized
  have hl := lv_entry ([.ref h]) (n := 4) (Nat.le_of_ble_eq_true rfl)
  rw [lg_entry_eq]
  generalize (lg_sl ([.ref h]) ++ List.replicate (4 - (lg_sl ([.ref h])).length) Slot.unset).toArray = ls at hl ⊢
  have hl : lv_has ls 4 [(0, .ref h)] := hl
  have hD := cb_D (cI := cI) (n := nI N) (f := f) hne
  have hS : va_S (cb_A h a) s.heap s.heap [] := va_S.rf
  refine lv_aload_n hx hb dX0_clear_0 rfl (lv_at hl 0 rfl) ?_
  refine lv_iconst (v := 3) hx hb dX0_clear_1 (by decide) ?_
  refine cl_calli (W.runV (As := [.int 3]) (rest := []) ⟨hx, hb, hml, hown, hts⟩ (c_countWith l dC dI h a cI N f 3 h1 h2) (cwV 1 hts gX0_clear_X0_countWith rfl rfl rfl (by decide +kernel) ⟨Nat.le_of_ble_eq_true rfl, Nat.le_of_ble_eq_true rfl⟩) (cb_preV hK hP [.int 3]) rfl rfl hl.1 rfl (lv_room (Nat.le_of_ble_eq_true rfl)) dX0_clear_2 ⟨Nat.zero_le _, Nat.zero_le _⟩) ?_
  refine lv_istore_n (lv' := [(1, .int (nI (cb_ct f 3 (cb_cc N)))), (0, .ref h)]) hx hb dX0_clear_5 rfl hl (by decide) rfl (fun ls hl => ?_)
  refine lv_aload_n hx hb dX0_clear_6 rfl (lv_at hl 1 rfl) ?_
  refine cl_calli (W.runV (As := []) (rest := []) ⟨hx, hb, hml, hown, hts⟩ (c_cardCount l dC dI h a cI N f h1 h2) (cwV 0 hts gX0_clear_X0_cardCount rfl rfl rfl (by decide +kernel) ⟨Nat.le_of_ble_eq_true rfl, Nat.le_of_ble_eq_true rfl⟩) (cb_preV hK hP []) rfl rfl hl.1 rfl (lv_room (Nat.le_of_ble_eq_true rfl)) dX0_clear_7 ⟨Nat.zero_le _, Nat.zero_le _⟩) ?_
  refine lv_istore_n (lv' := [(2, .int (nI (cb_cc N))), (1, .int (nI (cb_ct f 3 (cb_cc N)))), (0, .ref h)]) hx hb dX0_clear_10 rfl hl (by decide) rfl (fun ls hl => ?_)
  refine lv_iconst (v := 0) hx hb dX0_clear_11 (by decide) ?_
  refine lv_istore_n (lv' := [(3, .int 0), (2, .int (nI (cb_cc N))), (1, .int (nI (cb_ct f 3 (cb_cc N)))), (0, .ref h)]) hx hb dX0_clear_12 rfl hl (by decide) rfl (fun ls hl => ?_)
  refine cl_loop 0 (cb_cc N) (Nat.zero_le _) (fun i H9 locs9 ls9 => va_P (dC, dI) vwCl (cb_w h a cI (nI N) (cb_clr f i)) H9 ∧ va_S (cb_A h a) s.heap H9 locs9 ∧ lv_has ls9 4 [(3, .int (nI i)), (2, .int (nI (cb_cc N))), (1, .int (nI (cb_ct f 3 (cb_cc N)))), (0, .ref h)]) ?_ ?_ (H := s.heap) (locs := []) (ls := ls) ⟨by rw [cb_clr_0]; exact hP, hS, hl⟩
  · intro H locs ls hi9
    obtain ⟨hP, hS, hl⟩ := hi9
    refine lv_iload_n hx hb dX0_clear_13 rfl (lv_at hl 0 rfl) ?_
    refine lv_iload_n hx hb dX0_clear_14 rfl (lv_at hl 1 rfl) ?_
    refine lv_icmp_ge (tgt := 31) hx hb dX0_clear_15 (by decide) (fun hc => ?_) (fun hc => ?_)
    · refine lv_iload_n hx hb dX0_clear_31 rfl (lv_at hl 2 rfl) ?_
      exact W.iret (v := nI (cb_ct f 3 (cb_cc N))) hx hb hr (fun t9 ht9 _ => ⟨⟨_, (), rfl, rfl, cl_at ht9 hP⟩, hS.F ht9⟩) hS.2.2 dX0_clear_32
    · exact absurd (Int32.le_refl _) hc
  · intro i H locs ls _ hi hi9 kk
    obtain ⟨hP, hS, hl⟩ := hi9
    have hD := cb_D (cI := cI) (n := nI N) (f := cb_clr f i) hne
    refine lv_iload_n hx hb dX0_clear_13 rfl (lv_at hl 0 rfl) ?_
    refine lv_iload_n hx hb dX0_clear_14 rfl (lv_at hl 1 rfl) ?_
    refine lv_icmp_ge (tgt := 31) hx hb dX0_clear_15 (by decide) (fun hc => ?_) (fun hc => ?_)
    · exact absurd hc (nI_ge hi (by have := cb_cc_le h2; omega))
    · refine lv_aload_n hx hb dX0_clear_18 rfl (lv_at hl 3 rfl) ?_
      refine va_get (D := (dC, dI)) (ci := 0) (v := .ref a) (C := RX0) (T := TX0) (N := 2) hx hb hts (by decide +kernel) hown hK hP 0 rfl rfl 0 (by decide) (hts (.fieldLink RX0 9 "CardBook" "marks" "[I") (by decide +kernel)) (fun _ h9 => h9) rfl dX0_clear_19 ?_
      refine lv_iload_n hx hb dX0_clear_22 rfl (lv_at hl 0 rfl) ?_
      refine lv_iconst (v := 0) hx hb dX0_clear_23 (by decide) ?_
      refine cl_iast (D := (dC, dI)) hx hb hK hP hD hS 1 0 rfl rfl (show i < 512 by have := cb_cc_le h2; omega) (by decide) dX0_clear_24 (fun H locs hP hS => ?_)
      have hP : va_P (dC, dI) vwCl (cb_w h a cI (nI N) (upd (cb_clr f i) i 0)) H := hP
      refine lv_iinc (v := (nI (i + 1))) (lv' := [(3, .int (nI (i + 1))), (2, .int (nI (cb_cc N))), (1, .int (nI (cb_ct f 3 (cb_cc N)))), (0, .ref h)]) hx hb dX0_clear_25 hl (k := 0) rfl (nI_1 _) (by decide) rfl (fun ls hl => ?_)
      refine lv_goto (tgt := 13) hx hb dX0_clear_28 (by decide) ?_
      exact kk _ _ _ ⟨by rw [← cb_clr_s]; exact hP, hS, lv_sub hl [0, 1, 2, 3] rfl⟩
set_option maxHeartbeats 4000000 in
set_option maxRecDepth 100000 in
/-- space(n) -/
theorem c_space (l : Launch) (dC : Nat → ClassId) (dI : Nat → Nat → Nat) (h a : Nat) (cI : ClassId) (N : Nat) (f : Nat → Int32) (n : Nat) (h1 : 1 ≤ N) (h2 : N ≤ 16384) (hn1 : 1 ≤ n) (hn2 : n ≤ 16384) (hne : h ≠ a) : Met l yX0_space wsX0_space ({ frames := 4, cells := 0, slots := 0, locals := 100 }) (cb_Pc (dC, dI) [.ref h, .int (nI n)] (cb_w h a cI (nI N) f) [(cI, .int)]) (va_Qi (fun (r9 : Int32) (_ : Unit) => (nI N) = r9) (fun _ t9 => va_P (dC, dI) vwCl (cb_w h a cI (nI n) (cb_clr f (cb_cc N))) t9.heap) (cb_A h a)) 0 0 (cb_A h a) := by
  refine Met.ofW (cc := cX0_space) (maxL := 3) (ret := (some .int)) (by decide) rfl ?_
  intro p e s m args below meth c s₁ B hml hv
  obtain ⟨rfl, hP, hK⟩ := hv
  have hx := B.exec
  have hb := B.bytes
  have hr := B.returns
  have hts := atoms_spec (ws := wsX0_space) B.pre
  have hown : s.vm.findClass RX0 = some m.cls := findClass_of_methodNamed B.named
  have hlocks := B.notSynchronized
  have hl := lv_entry ([.ref h, .int (nI n)]) (n := 3) (Nat.le_of_ble_eq_true rfl)
  rw [lg_entry_eq]
  generalize (lg_sl ([.ref h, .int (nI n)]) ++ List.replicate (3 - (lg_sl ([.ref h, .int (nI n)])).length) Slot.unset).toArray = ls at hl ⊢
  have hl : lv_has ls 3 [(0, .ref h), (1, .int (nI n))] := hl
  have hD := cb_D (cI := cI) (n := nI N) (f := f) hne
  have hS : va_S (cb_A h a) s.heap s.heap [] := va_S.rf
  refine lv_iload_n hx hb dX0_space_0 rfl (lv_at hl 1 rfl) ?_
  refine lv_iconst (v := 1) hx hb dX0_space_1 (by decide) ?_
  refine lv_icmp_lt (tgt := 12) hx hb dX0_space_2 (by decide) (fun hc => ?_) (fun hc => ?_)
  · exact absurd hc (nI_nlt hn1 (by omega))
  · refine lv_iload_n hx hb dX0_space_5 rfl (lv_at hl 1 rfl) ?_
    refine lv_sipush (v := 16384) hx hb dX0_space_6 (by decide) ?_
    refine lv_icmp_le (tgt := 22) hx hb dX0_space_9 (by decide) (fun hd => ?_) (fun hd => ?_)
    · refine lv_aload_n hx hb dX0_space_22 rfl (lv_at hl 0 rfl) ?_
      refine va_get (D := (dC, dI)) (ci := 0) (v := .int (nI N)) (C := RX0) (T := TX0) (N := 2) hx hb hts (by decide +kernel) hown hK hP 0 rfl rfl 1 (by decide) (hts (.fieldLink RX0 13 "CardBook" "cells" "I") (by decide +kernel)) (fun _ h9 => h9) rfl dX0_space_23 ?_
      refine lv_istore_n (lv' := [(2, .int (nI N)), (0, .ref h), (1, .int (nI n))]) hx hb dX0_space_26 rfl hl (by decide) rfl (fun ls hl => ?_)
      refine lv_aload_n hx hb dX0_space_27 rfl (lv_at hl 1 rfl) ?_
      refine va_calli (va_runV (As := []) (rest := []) ⟨hx, hb, hml, hown, hts⟩ (c_clear l dC dI h a cI N f h1 h2 hne) (cwV 0 hts gX0_space_X0_clear rfl rfl rfl (by decide +kernel) ⟨Nat.le_of_ble_eq_true rfl, Nat.le_of_ble_eq_true rfl⟩) (cb_preV hK hP []) rfl rfl hl.1 rfl (lv_room (Nat.le_of_ble_eq_true rfl)) dX0_space_28 ⟨Nat.zero_le _, Nat.zero_le _⟩) hS (fun q _ h9 => h9) (fun q h9 => h9) (fun r9 u9 t9 H locs ht9 hvm9 hw9 hP9 hz9 hk9 hS => ?_)
      rw [ht9] at hP9
      have hP := hP9
      subst hw9
      have hD := cb_D (cI := cI) (n := nI N) (f := cb_clr f (cb_cc N)) hne
      refine lv_pop hx hb dX0_space_31 rfl ?_
      refine lv_aload_n hx hb dX0_space_32 rfl (lv_at hl 1 rfl) ?_
      refine lv_iload_n hx hb dX0_space_33 rfl (lv_at hl 2 rfl) ?_
      refine va_put (D := (dC, dI)) (ci := 0) (v := .int (nI n)) (ty := .int) (C := RX0) (T := TX0) (N := 2) hx hb hts (by decide +kernel) tyX0 tyX0_ok nmX0 hown hK hP hD hS 0 rfl rfl 1 (by decide) (hts (.fieldLink RX0 13 "CardBook" "cells" "I") (by decide +kernel)) (fun _ h9 => h9) rfl (by decide +kernel) rfl rfl (Nat.le_of_ble_eq_true rfl) dX0_space_34 (fun H locs hP _ hS => ?_)
      have hP : va_P (dC, dI) vwCl (cb_w h a cI (nI n) (cb_clr f (cb_cc N))) H := hP
      refine lv_iload_n hx hb dX0_space_37 rfl (lv_at hl 0 rfl) ?_
      exact W.iret (v := nI N) hx hb hr (fun t9 ht9 _ => ⟨⟨_, (), rfl, rfl, cl_at ht9 hP⟩, hS.F ht9⟩) hS.2.2 dX0_space_38
    · exact absurd (nI_le hn2 (by omega)) hd
set_option maxHeartbeats 4000000 in
set_option maxRecDepth 100000 in
/-- write(k) -/
theorem c_write (l : Launch) (dC : Nat → ClassId) (dI : Nat → Nat → Nat) (h a : Nat) (cI : ClassId) (N : Nat) (f : Nat → Int32) (k : Nat) (h2 : N ≤ 16384) (hk : k < N) (hne : h ≠ a) : Met l yX0_write wsX0_write ({ frames := 1, cells := 0, slots := 0, locals := 30 }) (cb_Pc (dC, dI) [.ref h, .int (nI k)] (cb_w h a cI (nI N) f) [(cI, .int)]) (va_Qi (fun (r9 : Int32) (_ : Unit) => (nI (k / 32)) = r9) (fun _ t9 => va_P (dC, dI) vwCl (cb_w h a cI (nI N) (upd f (k / 32) (f (k / 32) ||| 1))) t9.heap) (cb_A h a)) 0 0 (cb_A h a) := by
  refine Met.ofW (cc := cX0_write) (maxL := 3) (ret := (some .int)) (by decide) rfl ?_
  intro p e s m args below meth c s₁ B hml hv
  obtain ⟨rfl, hP, hK⟩ := hv
  have hx := B.exec
  have hb := B.bytes
  have hr := B.returns
  have hts := atoms_spec (ws := wsX0_write) B.pre
  have hown : s.vm.findClass RX0 = some m.cls := findClass_of_methodNamed B.named
  have hlocks := B.notSynchronized
  have hl := lv_entry ([.ref h, .int (nI k)]) (n := 3) (Nat.le_of_ble_eq_true rfl)
  rw [lg_entry_eq]
  generalize (lg_sl ([.ref h, .int (nI k)]) ++ List.replicate (3 - (lg_sl ([.ref h, .int (nI k)])).length) Slot.unset).toArray = ls at hl ⊢
  have hl : lv_has ls 3 [(0, .ref h), (1, .int (nI k))] := hl
  have hD := cb_D (cI := cI) (n := nI N) (f := f) hne
  have hS : va_S (cb_A h a) s.heap s.heap [] := va_S.rf
  refine lv_aload_n hx hb dX0_write_0 rfl (lv_at hl 0 rfl) ?_
  refine lv_iload_n hx hb dX0_write_1 rfl (lv_at hl 1 rfl) ?_
  refine cl_callv (W.runV (As := [.int (nI k)]) (rest := []) ⟨hx, hb, hml, hown, hts⟩ (c_requireCell l dC dI h a cI N f k h2 hk) (cwV 1 hts gX0_write_X0_requireCell rfl rfl rfl (by decide +kernel) ⟨Nat.le_of_ble_eq_true rfl, Nat.le_of_ble_eq_true rfl⟩) (cb_preV hK hP [.int (nI k)]) rfl rfl hl.1 rfl (lv_room (Nat.le_of_ble_eq_true rfl)) dX0_write_2 ⟨Nat.zero_le _, Nat.zero_le _⟩) ?_
  refine lv_iload_n hx hb dX0_write_5 rfl (lv_at hl 1 rfl) ?_
  refine cl_calli (W.runS (As := [.int (nI k)]) (rest := []) ⟨hx, hb, hml, hown, hts⟩ (c_cardOf l k (by omega)) (va_cwS 1 hts gX0_write_X0_cardOf rfl rfl rfl (by decide +kernel) ⟨Nat.le_of_ble_eq_true rfl, Nat.le_of_ble_eq_true rfl⟩) cb_preS rfl rfl hl.1 rfl (lv_room (Nat.le_of_ble_eq_true rfl)) dX0_write_6 ⟨Nat.zero_le _, Nat.zero_le _⟩) ?_
  refine lv_istore_n (lv' := [(2, .int (nI (k / 32))), (0, .ref h), (1, .int (nI k))]) hx hb dX0_write_9 rfl hl (by decide) rfl (fun ls hl => ?_)
  refine lv_aload_n hx hb dX0_write_10 rfl (lv_at hl 1 rfl) ?_
  refine va_get (D := (dC, dI)) (ci := 0) (v := .ref a) (C := RX0) (T := TX0) (N := 2) hx hb hts (by decide +kernel) hown hK hP 0 rfl rfl 0 (by decide) (hts (.fieldLink RX0 9 "CardBook" "marks" "[I") (by decide +kernel)) (fun _ h9 => h9) rfl dX0_write_11 ?_
  refine lv_iload_n hx hb dX0_write_14 rfl (lv_at hl 0 rfl) ?_
  refine lv_dup2_11 hx hb dX0_write_15 rfl rfl ?_
  refine cl_iald (D := (dC, dI)) hx hb hK hP 1 0 rfl rfl (show k / 32 < 512 by omega) (by decide) dX0_write_16 ?_
  refine lv_iconst (v := 1) hx hb dX0_write_17 (by decide) ?_
  refine lv_ior hx hb dX0_write_18 ?_
  refine cl_iast (D := (dC, dI)) hx hb hK hP hD hS 1 0 rfl rfl (show k / 32 < 512 by omega) (by decide) dX0_write_19 (fun H locs hP hS => ?_)
  have hP : va_P (dC, dI) vwCl (cb_w h a cI (nI N) (upd f (k / 32) (f (k / 32) ||| 1))) H := hP
  refine lv_iload_n hx hb dX0_write_20 rfl (lv_at hl 0 rfl) ?_
  exact W.iret (v := nI (k / 32)) hx hb hr (fun t9 ht9 _ => ⟨⟨_, (), rfl, rfl, cl_at ht9 hP⟩, hS.F ht9⟩) hS.2.2 dX0_write_21
set_option maxHeartbeats 4000000 in
set_option maxRecDepth 100000 in
/-- cover(k, z) -/
theorem c_cover (l : Launch) (dC : Nat → ClassId) (dI : Nat → Nat → Nat) (h a : Nat) (cI : ClassId) (N : Nat) (f : Nat → Int32) (k z : Nat) (h2 : N ≤ 16384) (hz : 1 ≤ z) (hk : k + z ≤ N) (hne : h ≠ a) : Met l yX0_cover wsX0_cover ({ frames := 1, cells := 0, slots := 0, locals := 30 }) (cb_Pc (dC, dI) [.ref h, .int (nI k), .int (nI z)] (cb_w h a cI (nI N) f) [(cI, .int)]) (va_Qi (fun (r9 : Int32) (_ : Unit) => (nI (((k + z - 1) / 32) - k / 32 + 1)) = r9) (fun _ t9 => va_P (dC, dI) vwCl (cb_w h a cI (nI N) (cb_cov f (k / 32) (((k + z - 1) / 32) + 1))) t9.heap) (cb_A h a)) 0 0 (cb_A h a) := by
  refine Met.ofW (cc := cX0_cover) (maxL := 6) (ret := (some .int)) (by decide) rfl ?_
  intro p e s m args below meth c s₁ B hml hv
  obtain ⟨rfl, hP, hK⟩ := hv
  have hx := B.exec
  have hb := B.bytes
  have hr := B.returns
  have hts := atoms_spec (ws := wsX0_cover) B.pre
  have hown : s.vm.findClass RX0 = some m.cls := findClass_of_methodNamed B.named
  have hlocks := B.notSynchronized
  have hl := lv_entry ([.ref h, .int (nI k), .int (nI z)]) (n := 6) (Nat.le_of_ble_eq_true rfl)
  rw [lg_entry_eq]
  generalize (lg_sl ([.ref h, .int (nI k), .int (nI z)]) ++ List.replicate (6 - (lg_sl ([.ref h, .int (nI k), .int (nI z)])).length) Slot.unset).toArray = ls at hl ⊢
  have hl : lv_has ls 6 [(0, .ref h), (1, .int (nI k)), (2, .int (nI z))] := hl
  have hD := cb_D (cI := cI) (n := nI N) (f := f) hne
  have hS : va_S (cb_A h a) s.heap s.heap [] := va_S.rf
  refine lv_aload_n hx hb dX0_cover_0 rfl (lv_at hl 0 rfl) ?_
  refine lv_iload_n hx hb dX0_cover_1 rfl (lv_at hl 1 rfl) ?_
  refine cl_callv (W.runV (As := [.int (nI k)]) (rest := []) ⟨hx, hb, hml, hown, hts⟩ (c_requireCell l dC dI h a cI N f k h2 (by omega)) (cwV 1 hts gX0_cover_X0_requireCell rfl rfl rfl (by decide +kernel) ⟨Nat.le_of_ble_eq_true rfl, Nat.le_of_ble_eq_true rfl⟩) (cb_preV hK hP [.int (nI k)]) rfl rfl hl.1 rfl (lv_room (Nat.le_of_ble_eq_true rfl)) dX0_cover_2 ⟨Nat.zero_le _, Nat.zero_le _⟩) ?_
  refine lv_iload_n hx hb dX0_cover_5 rfl (lv_at hl 2 rfl) ?_
  refine lv_iconst (v := 1) hx hb dX0_cover_6 (by decide) ?_
  refine lv_icmp_lt (tgt := 20) hx hb dX0_cover_7 (by decide) (fun hc => ?_) (fun hc => ?_)
  · exact absurd hc (nI_nlt hz (by omega))
  · refine lv_iload_n hx hb dX0_cover_10 rfl (lv_at hl 2 rfl) ?_
    refine lv_aload_n hx hb dX0_cover_11 rfl (lv_at hl 0 rfl) ?_
    refine va_get (D := (dC, dI)) (ci := 0) (v := .int (nI N)) (C := RX0) (T := TX0) (N := 2) hx hb hts (by decide +kernel) hown hK hP 0 rfl rfl 1 (by decide) (hts (.fieldLink RX0 13 "CardBook" "cells" "I") (by decide +kernel)) (fun _ h9 => h9) rfl dX0_cover_12 ?_
    refine lv_iload_n hx hb dX0_cover_15 rfl (lv_at hl 1 rfl) ?_
    refine lv_isub hx hb dX0_cover_16 ?_
    refine lv_icmp_le (tgt := 30) hx hb dX0_cover_17 (by decide) (fun hd => ?_) (fun hd => ?_)
    · refine lv_iload_n hx hb dX0_cover_30 rfl (lv_at hl 1 rfl) ?_
      refine cl_calli (W.runS (As := [.int (nI k)]) (rest := []) ⟨hx, hb, hml, hown, hts⟩ (c_cardOf l k (by omega)) (va_cwS 1 hts gX0_cover_X0_cardOf rfl rfl rfl (by decide +kernel) ⟨Nat.le_of_ble_eq_true rfl, Nat.le_of_ble_eq_true rfl⟩) cb_preS rfl rfl hl.1 rfl (lv_room (Nat.le_of_ble_eq_true rfl)) dX0_cover_31 ⟨Nat.zero_le _, Nat.zero_le _⟩) ?_
      refine lv_istore_n (lv' := [(3, .int (nI (k / 32))), (0, .ref h), (1, .int (nI k)), (2, .int (nI z))]) hx hb dX0_cover_34 rfl hl (by decide) rfl (fun ls hl => ?_)
      refine lv_iload_n hx hb dX0_cover_35 rfl (lv_at hl 2 rfl) ?_
      refine lv_iload_n hx hb dX0_cover_36 rfl (lv_at hl 3 rfl) ?_
      refine lv_iadd hx hb dX0_cover_37 ?_
      refine lv_iconst (v := 1) hx hb dX0_cover_38 (by decide) ?_
      refine lv_isub hx hb dX0_cover_39 ?_
      refine cl_asi (cb_last hz) ?_
      refine cl_calli (W.runS (As := [.int (nI (k + z - 1))]) (rest := []) ⟨hx, hb, hml, hown, hts⟩ (c_cardOf l (k + z - 1) (by omega)) (va_cwS 1 hts gX0_cover_X0_cardOf rfl rfl rfl (by decide +kernel) ⟨Nat.le_of_ble_eq_true rfl, Nat.le_of_ble_eq_true rfl⟩) cb_preS rfl rfl hl.1 rfl (lv_room (Nat.le_of_ble_eq_true rfl)) dX0_cover_40 ⟨Nat.zero_le _, Nat.zero_le _⟩) ?_
      refine lv_istore (lv' := [(4, .int (nI ((k + z - 1) / 32))), (3, .int (nI (k / 32))), (0, .ref h), (1, .int (nI k)), (2, .int (nI z))]) hx hb dX0_cover_43 hl (by decide) rfl (fun ls hl => ?_)
      refine lv_iload_n hx hb dX0_cover_45 rfl (lv_at hl 1 rfl) ?_
      refine lv_istore (lv' := [(5, .int (nI (k / 32))), (4, .int (nI ((k + z - 1) / 32))), (3, .int (nI (k / 32))), (0, .ref h), (1, .int (nI k)), (2, .int (nI z))]) hx hb dX0_cover_46 hl (by decide) rfl (fun ls hl => ?_)
      refine cl_loop (k / 32) (((k + z - 1) / 32) + 1) (by omega) (fun i H9 locs9 ls9 => va_P (dC, dI) vwCl (cb_w h a cI (nI N) (cb_cov f (k / 32) i)) H9 ∧ va_S (cb_A h a) s.heap H9 locs9 ∧ lv_has ls9 6 [(5, .int (nI i)), (4, .int (nI ((k + z - 1) / 32))), (3, .int (nI (k / 32))), (0, .ref h), (1, .int (nI k)), (2, .int (nI z))]) ?_ ?_ (H := s.heap) (locs := []) (ls := ls) ⟨by rw [cb_cov_0]; exact hP, hS, hl⟩
      · intro H locs ls hi9
        obtain ⟨hP, hS, hl⟩ := hi9
        refine lv_iload hx hb dX0_cover_48 (lv_at hl 0 rfl) ?_
        refine lv_iload hx hb dX0_cover_50 (lv_at hl 1 rfl) ?_
        refine lv_icmp_gt (tgt := 72) hx hb dX0_cover_52 (by decide) (fun he => ?_) (fun he => ?_)
        · refine lv_iload hx hb dX0_cover_72 (lv_at hl 1 rfl) ?_
          refine lv_iload_n hx hb dX0_cover_74 rfl (lv_at hl 2 rfl) ?_
          refine lv_isub hx hb dX0_cover_75 ?_
          refine lv_iconst (v := 1) hx hb dX0_cover_76 (by decide) ?_
          refine lv_iadd hx hb dX0_cover_77 ?_
          refine cl_asi (cb_len (by omega)) ?_
          exact W.iret (v := nI (((k + z - 1) / 32) - k / 32 + 1)) hx hb hr (fun t9 ht9 _ => ⟨⟨_, (), rfl, rfl, cl_at ht9 hP⟩, hS.F ht9⟩) hS.2.2 dX0_cover_78
        · exact absurd (nI_lt (Nat.lt_succ_self _) (by omega)) he
      · intro i H locs ls hji hi hi9 kk
        obtain ⟨hP, hS, hl⟩ := hi9
        have hD := cb_D (cI := cI) (n := nI N) (f := cb_cov f (k / 32) i) hne
        refine lv_iload hx hb dX0_cover_48 (lv_at hl 0 rfl) ?_
        refine lv_iload hx hb dX0_cover_50 (lv_at hl 1 rfl) ?_
        refine lv_icmp_gt (tgt := 72) hx hb dX0_cover_52 (by decide) (fun he => ?_) (fun he => ?_)
        · exact absurd he (nI_nlt (by omega) (by omega))
        · refine lv_aload_n hx hb dX0_cover_55 rfl (lv_at hl 3 rfl) ?_
          refine va_get (D := (dC, dI)) (ci := 0) (v := .ref a) (C := RX0) (T := TX0) (N := 2) hx hb hts (by decide +kernel) hown hK hP 0 rfl rfl 0 (by decide) (hts (.fieldLink RX0 9 "CardBook" "marks" "[I") (by decide +kernel)) (fun _ h9 => h9) rfl dX0_cover_56 ?_
          refine lv_iload hx hb dX0_cover_59 (lv_at hl 0 rfl) ?_
          refine lv_dup2_11 hx hb dX0_cover_61 rfl rfl ?_
          refine cl_iald (D := (dC, dI)) hx hb hK hP 1 0 rfl rfl (show i < 512 by omega) (by decide) dX0_cover_62 ?_
          refine lv_iconst (v := 2) hx hb dX0_cover_63 (by decide) ?_
          refine lv_ior hx hb dX0_cover_64 ?_
          refine cl_iast (D := (dC, dI)) hx hb hK hP hD hS 1 0 rfl rfl (show i < 512 by omega) (by decide) dX0_cover_65 (fun H locs hP hS => ?_)
          have hP : va_P (dC, dI) vwCl (cb_w h a cI (nI N) (upd (cb_cov f (k / 32) i) i (cb_cov f (k / 32) i i ||| 2))) H := hP
          refine lv_iinc (v := (nI (i + 1))) (lv' := [(5, .int (nI (i + 1))), (4, .int (nI ((k + z - 1) / 32))), (3, .int (nI (k / 32))), (0, .ref h), (1, .int (nI k)), (2, .int (nI z))]) hx hb dX0_cover_66 hl (k := 0) rfl (nI_1 _) (by decide) rfl (fun ls hl => ?_)
          refine lv_goto (tgt := 48) hx hb dX0_cover_69 (by decide) ?_
          exact kk _ _ _ ⟨by rw [← cb_cov_s hji]; exact hP, hS, lv_sub hl [0, 1, 2, 3, 4, 5] rfl⟩
    · exact absurd (by rw [pk_sub (by omega)]; exact nI_le (by omega) (by omega)) hd
set_option maxHeartbeats 4000000 in
set_option maxRecDepth 100000 in
/-- clean(k, b) -/
theorem c_clean (l : Launch) (dC : Nat → ClassId) (dI : Nat → Nat → Nat) (h a : Nat) (cI : ClassId) (N : Nat) (f : Nat → Int32) (k : Nat) (b : Int32) (h1 : 1 ≤ N) (h2 : N ≤ 16384) (hk : k < (cb_cc N)) (hne : h ≠ a) : Met l yX0_clean wsX0_clean ({ frames := 3, cells := 0, slots := 0, locals := 70 }) (cb_Pc (dC, dI) [.ref h, .int (nI k), .int b] (cb_w h a cI (nI N) f) [(cI, .int)]) (va_Qi (fun (r9 : Int32) (_ : Unit) => (if f k &&& 1 = 0 then (0 : Int32) else 1) = r9) (fun _ t9 => va_P (dC, dI) vwCl (cb_w h a cI (nI N) (cb_cl f k b)) t9.heap) (cb_A h a)) 0 0 (cb_A h a) := by
  refine Met.ofW (cc := cX0_clean) (maxL := 4) (ret := (some .boolean)) (by decide) rfl ?_
  intro p e s m args below meth c s₁ B hml hv
  obtain ⟨rfl, hP, hK⟩ := hv
  have hx := B.exec
  have hb := B.bytes
  have hr := B.returns
  have hts := atoms_spec (ws := wsX0_clean) B.pre
  have hown : s.vm.findClass RX0 = some m.cls := findClass_of_methodNamed B.named
  have hlocks := B.notSynchronized
  have hl := lv_entry ([.ref h, .int (nI k), .int b]) (n := 4) (Nat.le_of_ble_eq_true rfl)
  rw [lg_entry_eq]
  generalize (lg_sl ([.ref h, .int (nI k), .int b]) ++ List.replicate (4 - (lg_sl ([.ref h, .int (nI k), .int b])).length) Slot.unset).toArray = ls at hl ⊢
  have hl : lv_has ls 4 [(0, .ref h), (1, .int (nI k)), (2, .int b)] := hl
  have hD := cb_D (cI := cI) (n := nI N) (f := f) hne
  have hS : va_S (cb_A h a) s.heap s.heap [] := va_S.rf
  refine lv_aload_n hx hb dX0_clean_0 rfl (lv_at hl 0 rfl) ?_
  refine lv_iload_n hx hb dX0_clean_1 rfl (lv_at hl 1 rfl) ?_
  refine cl_callv (W.runV (As := [.int (nI k)]) (rest := []) ⟨hx, hb, hml, hown, hts⟩ (c_requireCard l dC dI h a cI N f k h1 h2 hk) (cwV 1 hts gX0_clean_X0_requireCard rfl rfl rfl (by decide +kernel) ⟨Nat.le_of_ble_eq_true rfl, Nat.le_of_ble_eq_true rfl⟩) (cb_preV hK hP [.int (nI k)]) rfl rfl hl.1 rfl (lv_room (Nat.le_of_ble_eq_true rfl)) dX0_clean_2 ⟨Nat.zero_le _, Nat.zero_le _⟩) ?_
  refine lv_aload_n hx hb dX0_clean_5 rfl (lv_at hl 0 rfl) ?_
  refine lv_iload_n hx hb dX0_clean_6 rfl (lv_at hl 1 rfl) ?_
  refine lv_iconst (v := 1) hx hb dX0_clean_7 (by decide) ?_
  have hk5 : k < 512 := by have := cb_cc_le h2; omega
  refine va_calli (va_runV (As := [.int (nI k), .int 1]) (rest := []) ⟨hx, hb, hml, hown, hts⟩ (c_removeMark l dC dI h a cI N f k 1 hne hk5) (cwV 2 hts gX0_clean_X0_removeMark rfl rfl rfl (by decide +kernel) ⟨Nat.le_of_ble_eq_true rfl, Nat.le_of_ble_eq_true rfl⟩) (cb_preV hK hP [.int (nI k), .int 1]) rfl rfl hl.1 rfl (lv_room (Nat.le_of_ble_eq_true rfl)) dX0_clean_8 ⟨Nat.zero_le _, Nat.zero_le _⟩) hS (fun q _ h9 => h9) (fun q h9 => h9) (fun r9 u9 t9 H locs ht9 hvm9 hw9 hP9 hz9 hk9 hS => ?_)
  rw [ht9] at hP9
  have hP := hP9
  subst hw9
  have hD := cb_D (cI := cI) (n := nI N) (f := upd f k (f k &&& (1 ^^^ (-1)))) hne
  refine lv_istore_n (lv' := [(3, .int (if f k &&& 1 = 0 then (0 : Int32) else 1)), (0, .ref h), (1, .int (nI k)), (2, .int b)]) hx hb dX0_clean_11 rfl hl (by decide) rfl (fun ls hl => ?_)
  refine lv_iload_n hx hb dX0_clean_12 rfl (lv_at hl 0 rfl) ?_
  refine lv_if_eq (tgt := 30) hx hb dX0_clean_13 (by decide) (fun hc => ?_) (fun hc => ?_)
  · refine lv_iload_n hx hb dX0_clean_30 rfl (lv_at hl 0 rfl) ?_
    exact W.zret (v := (if f k &&& 1 = 0 then (0 : Int32) else 1)) (ty := .boolean) hx hb hr cb_nb (fun t9 ht9 _ => ⟨⟨_, (), rfl, rfl, cl_at ht9 (by rw [cb_cl_0 (Or.inl (cb_if0 hc))]; exact hP)⟩, hS.F ht9⟩) hS.2.2 dX0_clean_31
  · refine lv_iload_n hx hb dX0_clean_16 rfl (lv_at hl 3 rfl) ?_
    refine lv_if_eq (tgt := 30) hx hb dX0_clean_17 (by decide) (fun hd => ?_) (fun hd => ?_)
    · refine lv_iload_n hx hb dX0_clean_30 rfl (lv_at hl 0 rfl) ?_
      exact W.zret (v := (if f k &&& 1 = 0 then (0 : Int32) else 1)) (ty := .boolean) hx hb hr cb_nb (fun t9 ht9 _ => ⟨⟨_, (), rfl, rfl, cl_at ht9 (by rw [cb_cl_0 (Or.inr hd)]; exact hP)⟩, hS.F ht9⟩) hS.2.2 dX0_clean_31
    · refine lv_aload_n hx hb dX0_clean_20 rfl (lv_at hl 1 rfl) ?_
      refine va_get (D := (dC, dI)) (ci := 0) (v := .ref a) (C := RX0) (T := TX0) (N := 2) hx hb hts (by decide +kernel) hown hK hP 0 rfl rfl 0 (by decide) (hts (.fieldLink RX0 9 "CardBook" "marks" "[I") (by decide +kernel)) (fun _ h9 => h9) rfl dX0_clean_21 ?_
      refine lv_iload_n hx hb dX0_clean_24 rfl (lv_at hl 2 rfl) ?_
      refine lv_dup2_11 hx hb dX0_clean_25 rfl rfl ?_
      refine cl_iald (D := (dC, dI)) hx hb hK hP 1 0 rfl rfl hk5 (by decide) dX0_clean_26 ?_
      refine lv_iconst (v := 2) hx hb dX0_clean_27 (by decide) ?_
      refine lv_ior hx hb dX0_clean_28 ?_
      refine cl_iast (D := (dC, dI)) hx hb hK hP hD hS 1 0 rfl rfl hk5 (by decide) dX0_clean_29 (fun H locs hP hS => ?_)
      have hP : va_P (dC, dI) vwCl (cb_w h a cI (nI N) (upd (upd f k (f k &&& (1 ^^^ (-1)))) k (upd f k (f k &&& (1 ^^^ (-1))) k ||| 2))) H := hP
      refine lv_iload_n hx hb dX0_clean_30 rfl (lv_at hl 0 rfl) ?_
      exact W.zret (v := (if f k &&& 1 = 0 then (0 : Int32) else 1)) (ty := .boolean) hx hb hr cb_nb (fun t9 ht9 _ => ⟨⟨_, (), rfl, rfl, cl_at ht9 (by rw [cb_cl_1 (cb_if1 hc) hd]; exact hP)⟩, hS.F ht9⟩) hS.2.2 dX0_clean_31
set_option maxHeartbeats 4000000 in
set_option maxRecDepth 100000 in
/-- unsave(k) -/
theorem c_unsave (l : Launch) (dC : Nat → ClassId) (dI : Nat → Nat → Nat) (h a : Nat) (cI : ClassId) (N : Nat) (f : Nat → Int32) (k : Nat) (h1 : 1 ≤ N) (h2 : N ≤ 16384) (hk : k < (cb_cc N)) (hne : h ≠ a) : Met l yX0_unsave wsX0_unsave ({ frames := 3, cells := 0, slots := 0, locals := 70 }) (cb_Pc (dC, dI) [.ref h, .int (nI k)] (cb_w h a cI (nI N) f) [(cI, .int)]) (va_Qi (fun (r9 : Int32) (_ : Unit) => (if f k &&& 2 = 0 then (0 : Int32) else 1) = r9) (fun _ t9 => va_P (dC, dI) vwCl (cb_w h a cI (nI N) (upd f k (f k &&& (2 ^^^ (-1))))) t9.heap) (cb_A h a)) 0 0 (cb_A h a) := by
  refine Met.ofW (cc := cX0_unsave) (maxL := 2) (ret := (some .boolean)) (by decide) rfl ?_
  intro p e s m args below meth c s₁ B hml hv
  obtain ⟨rfl, hP, hK⟩ := hv
  have hx := B.exec
  have hb := B.bytes
  have hr := B.returns
  have hts := atoms_spec (ws := wsX0_unsave) B.pre
  have hown : s.vm.findClass RX0 = some m.cls := findClass_of_methodNamed B.named
  have hlocks := B.notSynchronized
  have hl := lv_entry ([.ref h, .int (nI k)]) (n := 2) (Nat.le_of_ble_eq_true rfl)
  rw [lg_entry_eq]
  generalize (lg_sl ([.ref h, .int (nI k)]) ++ List.replicate (2 - (lg_sl ([.ref h, .int (nI k)])).length) Slot.unset).toArray = ls at hl ⊢
  have hl : lv_has ls 2 [(0, .ref h), (1, .int (nI k))] := hl
  have hD := cb_D (cI := cI) (n := nI N) (f := f) hne
  have hS : va_S (cb_A h a) s.heap s.heap [] := va_S.rf
  refine lv_aload_n hx hb dX0_unsave_0 rfl (lv_at hl 0 rfl) ?_
  refine lv_iload_n hx hb dX0_unsave_1 rfl (lv_at hl 1 rfl) ?_
  refine cl_callv (W.runV (As := [.int (nI k)]) (rest := []) ⟨hx, hb, hml, hown, hts⟩ (c_requireCard l dC dI h a cI N f k h1 h2 hk) (cwV 1 hts gX0_unsave_X0_requireCard rfl rfl rfl (by decide +kernel) ⟨Nat.le_of_ble_eq_true rfl, Nat.le_of_ble_eq_true rfl⟩) (cb_preV hK hP [.int (nI k)]) rfl rfl hl.1 rfl (lv_room (Nat.le_of_ble_eq_true rfl)) dX0_unsave_2 ⟨Nat.zero_le _, Nat.zero_le _⟩) ?_
  refine lv_aload_n hx hb dX0_unsave_5 rfl (lv_at hl 0 rfl) ?_
  refine lv_iload_n hx hb dX0_unsave_6 rfl (lv_at hl 1 rfl) ?_
  refine lv_iconst (v := 2) hx hb dX0_unsave_7 (by decide) ?_
  have hk5 : k < 512 := by have := cb_cc_le h2; omega
  refine va_calli (va_runV (As := [.int (nI k), .int 2]) (rest := []) ⟨hx, hb, hml, hown, hts⟩ (c_removeMark l dC dI h a cI N f k 2 hne hk5) (cwV 2 hts gX0_unsave_X0_removeMark rfl rfl rfl (by decide +kernel) ⟨Nat.le_of_ble_eq_true rfl, Nat.le_of_ble_eq_true rfl⟩) (cb_preV hK hP [.int (nI k), .int 2]) rfl rfl hl.1 rfl (lv_room (Nat.le_of_ble_eq_true rfl)) dX0_unsave_8 ⟨Nat.zero_le _, Nat.zero_le _⟩) hS (fun q _ h9 => h9) (fun q h9 => h9) (fun r9 u9 t9 H locs ht9 hvm9 hw9 hP9 hz9 hk9 hS => ?_)
  rw [ht9] at hP9
  have hP := hP9
  subst hw9
  exact W.zret (v := (if f k &&& 2 = 0 then (0 : Int32) else 1)) (ty := .boolean) hx hb hr cb_nb (fun t9 ht9 _ => ⟨⟨_, (), rfl, rfl, cl_at ht9 hP⟩, hS.F ht9⟩) hS.2.2 dX0_unsave_11
set_option maxHeartbeats 4000000 in
set_option maxRecDepth 100000 in
/-- card(k) -/
theorem c_card (l : Launch) (dC : Nat → ClassId) (dI : Nat → Nat → Nat) (h a : Nat) (cI : ClassId) (N : Nat) (f : Nat → Int32) (k : Nat) (h1 : 1 ≤ N) (h2 : N ≤ 16384) (hk : k < (cb_cc N)) : Met l yX0_card wsX0_card ({ frames := 3, cells := 0, slots := 0, locals := 70 }) (cb_Pc (dC, dI) [.ref h, .int (nI k)] (cb_w h a cI (nI N) f) [(cI, .int)]) (cl_Q (some (.int (f k)))) 0 0 (fun _ => False) := by
  refine Met.ofW (cc := cX0_card) (maxL := 2) (ret := (some .int)) (by decide) rfl ?_
  intro p e s m args below meth c s₁ B hml hv
  obtain ⟨rfl, hP, hK⟩ := hv
  have hx := B.exec
  have hb := B.bytes
  have hr := B.returns
  have hts := atoms_spec (ws := wsX0_card) B.pre
  have hown : s.vm.findClass RX0 = some m.cls := findClass_of_methodNamed B.named
  have hlocks := B.notSynchronized
  have hl := lv_entry ([.ref h, .int (nI k)]) (n := 2) (Nat.le_of_ble_eq_true rfl)
  rw [lg_entry_eq]
  generalize (lg_sl ([.ref h, .int (nI k)]) ++ List.replicate (2 - (lg_sl ([.ref h, .int (nI k)])).length) Slot.unset).toArray = ls at hl ⊢
  have hl : lv_has ls 2 [(0, .ref h), (1, .int (nI k))] := hl
  refine lv_aload_n hx hb dX0_card_0 rfl (lv_at hl 0 rfl) ?_
  refine lv_iload_n hx hb dX0_card_1 rfl (lv_at hl 1 rfl) ?_
  refine cl_callv (W.runV (As := [.int (nI k)]) (rest := []) ⟨hx, hb, hml, hown, hts⟩ (c_requireCard l dC dI h a cI N f k h1 h2 hk) (cwV 1 hts gX0_card_X0_requireCard rfl rfl rfl (by decide +kernel) ⟨Nat.le_of_ble_eq_true rfl, Nat.le_of_ble_eq_true rfl⟩) (cb_preV hK hP [.int (nI k)]) rfl rfl hl.1 rfl (lv_room (Nat.le_of_ble_eq_true rfl)) dX0_card_2 ⟨Nat.zero_le _, Nat.zero_le _⟩) ?_
  refine lv_aload_n hx hb dX0_card_5 rfl (lv_at hl 0 rfl) ?_
  refine va_get (D := (dC, dI)) (ci := 0) (v := .ref a) (C := RX0) (T := TX0) (N := 2) hx hb hts (by decide +kernel) hown hK hP 0 rfl rfl 0 (by decide) (hts (.fieldLink RX0 9 "CardBook" "marks" "[I") (by decide +kernel)) (fun _ h9 => h9) rfl dX0_card_6 ?_
  refine lv_iload_n hx hb dX0_card_9 rfl (lv_at hl 1 rfl) ?_
  refine cl_iald (D := (dC, dI)) hx hb hK hP 1 0 rfl rfl (show k < 512 by have := cb_cc_le h2; omega) (by decide) dX0_card_10 ?_
  exact W.iret (v := f k) hx hb hr (fun t9 ht9 _ => ⟨rfl, ht9⟩) (fun q9 hq9 => nomatch hq9) dX0_card_11
set_option maxHeartbeats 4000000 in
set_option maxRecDepth 100000 in
/-- nextDirty(j) -/
theorem c_nextDirty (l : Launch) (dC : Nat → ClassId) (dI : Nat → Nat → Nat) (h a : Nat) (cI : ClassId) (N : Nat) (f : Nat → Int32) (j : Nat) (h1 : 1 ≤ N) (h2 : N ≤ 16384) (hj : j < 2 ^ 31) : Met l yX0_nextDirty wsX0_nextDirty ({ frames := 3, cells := 0, slots := 0, locals := 70 }) (cb_Pc (dC, dI) [.ref h, .int (nI j)] (cb_w h a cI (nI N) f) [(cI, .int)]) (cl_Q (some (.int (cb_fw f 1 j (cb_cc N))))) 0 0 (fun _ => False) := by
  refine Met.ofW (cc := cX0_nextDirty) (maxL := 2) (ret := (some .int)) (by decide) rfl ?_
  intro p e s m args below meth c s₁ B hml hv
  obtain ⟨rfl, hP, hK⟩ := hv
  have hx := B.exec
  have hb := B.bytes
  have hr := B.returns
  have hts := atoms_spec (ws := wsX0_nextDirty) B.pre
  have hown : s.vm.findClass RX0 = some m.cls := findClass_of_methodNamed B.named
  have hlocks := B.notSynchronized
  have hl := lv_entry ([.ref h, .int (nI j)]) (n := 2) (Nat.le_of_ble_eq_true rfl)
  rw [lg_entry_eq]
  generalize (lg_sl ([.ref h, .int (nI j)]) ++ List.replicate (2 - (lg_sl ([.ref h, .int (nI j)])).length) Slot.unset).toArray = ls at hl ⊢
  have hl : lv_has ls 2 [(0, .ref h), (1, .int (nI j))] := hl
  refine lv_aload_n hx hb dX0_nextDirty_0 rfl (lv_at hl 0 rfl) ?_
  refine lv_iconst (v := 1) hx hb dX0_nextDirty_1 (by decide) ?_
  refine lv_iload_n hx hb dX0_nextDirty_2 rfl (lv_at hl 1 rfl) ?_
  refine cl_calli (W.runV (As := [.int 1, .int (nI j)]) (rest := []) ⟨hx, hb, hml, hown, hts⟩ (c_firstWith l dC dI h a cI N f 1 j h1 h2 hj) (cwV 2 hts gX0_nextDirty_X0_firstWith rfl rfl rfl (by decide +kernel) ⟨Nat.le_of_ble_eq_true rfl, Nat.le_of_ble_eq_true rfl⟩) (cb_preV hK hP [.int 1, .int (nI j)]) rfl rfl hl.1 rfl (lv_room (Nat.le_of_ble_eq_true rfl)) dX0_nextDirty_3 ⟨Nat.zero_le _, Nat.zero_le _⟩) ?_
  exact W.iret (v := cb_fw f 1 j (cb_cc N)) hx hb hr (fun t9 ht9 _ => ⟨rfl, ht9⟩) (fun q9 hq9 => nomatch hq9) dX0_nextDirty_6
set_option maxHeartbeats 4000000 in
set_option maxRecDepth 100000 in
/-- nextSaved(j) -/
theorem c_nextSaved (l : Launch) (dC : Nat → ClassId) (dI : Nat → Nat → Nat) (h a : Nat) (cI : ClassId) (N : Nat) (f : Nat → Int32) (j : Nat) (h1 : 1 ≤ N) (h2 : N ≤ 16384) (hj : j < 2 ^ 31) : Met l yX0_nextSaved wsX0_nextSaved ({ frames := 3, cells := 0, slots := 0, locals := 70 }) (cb_Pc (dC, dI) [.ref h, .int (nI j)] (cb_w h a cI (nI N) f) [(cI, .int)]) (cl_Q (some (.int (cb_fw f 2 j (cb_cc N))))) 0 0 (fun _ => False) := by
  refine Met.ofW (cc := cX0_nextSaved) (maxL := 2) (ret := (some .int)) (by decide) rfl ?_
  intro p e s m args below meth c s₁ B hml hv
  obtain ⟨rfl, hP, hK⟩ := hv
  have hx := B.exec
  have hb := B.bytes
  have hr := B.returns
  have hts := atoms_spec (ws := wsX0_nextSaved) B.pre
  have hown : s.vm.findClass RX0 = some m.cls := findClass_of_methodNamed B.named
  have hlocks := B.notSynchronized
  have hl := lv_entry ([.ref h, .int (nI j)]) (n := 2) (Nat.le_of_ble_eq_true rfl)
  rw [lg_entry_eq]
  generalize (lg_sl ([.ref h, .int (nI j)]) ++ List.replicate (2 - (lg_sl ([.ref h, .int (nI j)])).length) Slot.unset).toArray = ls at hl ⊢
  have hl : lv_has ls 2 [(0, .ref h), (1, .int (nI j))] := hl
  refine lv_aload_n hx hb dX0_nextSaved_0 rfl (lv_at hl 0 rfl) ?_
  refine lv_iconst (v := 2) hx hb dX0_nextSaved_1 (by decide) ?_
  refine lv_iload_n hx hb dX0_nextSaved_2 rfl (lv_at hl 1 rfl) ?_
  refine cl_calli (W.runV (As := [.int 2, .int (nI j)]) (rest := []) ⟨hx, hb, hml, hown, hts⟩ (c_firstWith l dC dI h a cI N f 2 j h1 h2 hj) (cwV 2 hts gX0_nextSaved_X0_firstWith rfl rfl rfl (by decide +kernel) ⟨Nat.le_of_ble_eq_true rfl, Nat.le_of_ble_eq_true rfl⟩) (cb_preV hK hP [.int 2, .int (nI j)]) rfl rfl hl.1 rfl (lv_room (Nat.le_of_ble_eq_true rfl)) dX0_nextSaved_3 ⟨Nat.zero_le _, Nat.zero_le _⟩) ?_
  exact W.iret (v := cb_fw f 2 j (cb_cc N)) hx hb hr (fun t9 ht9 _ => ⟨rfl, ht9⟩) (fun q9 hq9 => nomatch hq9) dX0_nextSaved_6
set_option maxHeartbeats 4000000 in
set_option maxRecDepth 100000 in
/-- count(q) -/
theorem c_count (l : Launch) (dC : Nat → ClassId) (dI : Nat → Nat → Nat) (h a : Nat) (cI : ClassId) (N : Nat) (f : Nat → Int32) (q : Nat) (h1 : 1 ≤ N) (h2 : N ≤ 16384) (hq : q < 4) : Met l yX0_count wsX0_count ({ frames := 3, cells := 0, slots := 0, locals := 70 }) (cb_Pc (dC, dI) [.ref h, .int (nI q)] (cb_w h a cI (nI N) f) [(cI, .int)]) (cl_Q (some (.int (cb_cnt f N q)))) 0 0 (fun _ => False) := by
  refine Met.ofW (cc := cX0_count) (maxL := 2) (ret := (some .int)) (by decide) rfl ?_
  intro p e s m args below meth c s₁ B hml hv
  obtain ⟨rfl, hP, hK⟩ := hv
  have hx := B.exec
  have hb := B.bytes
  have hr := B.returns
  have hts := atoms_spec (ws := wsX0_count) B.pre
  have hown : s.vm.findClass RX0 = some m.cls := findClass_of_methodNamed B.named
  have hlocks := B.notSynchronized
  have hl := lv_entry ([.ref h, .int (nI q)]) (n := 2) (Nat.le_of_ble_eq_true rfl)
  rw [lg_entry_eq]
  generalize (lg_sl ([.ref h, .int (nI q)]) ++ List.replicate (2 - (lg_sl ([.ref h, .int (nI q)])).length) Slot.unset).toArray = ls at hl ⊢
  have hl : lv_has ls 2 [(0, .ref h), (1, .int (nI q))] := hl
  refine lv_iload_n hx hb dX0_count_0 rfl (lv_at hl 1 rfl) ?_
  match q, hq with
  | 0, hq =>
    refine lv_tableIn (tgt := 32) hx hb dX0_count_1 (by decide) (by decide) rfl (by decide) ?_
    refine lv_aload_n hx hb dX0_count_32 rfl (lv_at hl 0 rfl) ?_
    refine va_get (D := (dC, dI)) (ci := 0) (v := .int (nI N)) (C := RX0) (T := TX0) (N := 2) hx hb hts (by decide +kernel) hown hK hP 0 rfl rfl 1 (by decide) (hts (.fieldLink RX0 13 "CardBook" "cells" "I") (by decide +kernel)) (fun _ h9 => h9) rfl dX0_count_33 ?_
    exact W.iret (v := nI N) hx hb hr (fun t9 ht9 _ => ⟨rfl, ht9⟩) (fun q9 hq9 => nomatch hq9) dX0_count_36
  | 1, hq =>
    refine lv_tableIn (tgt := 37) hx hb dX0_count_1 (by decide) (by decide) rfl (by decide) ?_
    refine lv_aload_n hx hb dX0_count_37 rfl (lv_at hl 0 rfl) ?_
    refine cl_calli (W.runV (As := []) (rest := []) ⟨hx, hb, hml, hown, hts⟩ (c_cardCount l dC dI h a cI N f h1 h2) (cwV 0 hts gX0_count_X0_cardCount rfl rfl rfl (by decide +kernel) ⟨Nat.le_of_ble_eq_true rfl, Nat.le_of_ble_eq_true rfl⟩) (cb_preV hK hP []) rfl rfl hl.1 rfl (lv_room (Nat.le_of_ble_eq_true rfl)) dX0_count_38 ⟨Nat.zero_le _, Nat.zero_le _⟩) ?_
    exact W.iret (v := nI (cb_cc N)) hx hb hr (fun t9 ht9 _ => ⟨rfl, ht9⟩) (fun q9 hq9 => nomatch hq9) dX0_count_41
  | 2, hq =>
    refine lv_tableIn (tgt := 42) hx hb dX0_count_1 (by decide) (by decide) rfl (by decide) ?_
    refine lv_aload_n hx hb dX0_count_42 rfl (lv_at hl 0 rfl) ?_
    refine lv_iconst (v := 1) hx hb dX0_count_43 (by decide) ?_
    refine cl_calli (W.runV (As := [.int 1]) (rest := []) ⟨hx, hb, hml, hown, hts⟩ (c_countWith l dC dI h a cI N f 1 h1 h2) (cwV 1 hts gX0_count_X0_countWith rfl rfl rfl (by decide +kernel) ⟨Nat.le_of_ble_eq_true rfl, Nat.le_of_ble_eq_true rfl⟩) (cb_preV hK hP [.int 1]) rfl rfl hl.1 rfl (lv_room (Nat.le_of_ble_eq_true rfl)) dX0_count_44 ⟨Nat.zero_le _, Nat.zero_le _⟩) ?_
    exact W.iret (v := nI (cb_ct f 1 (cb_cc N))) hx hb hr (fun t9 ht9 _ => ⟨rfl, ht9⟩) (fun q9 hq9 => nomatch hq9) dX0_count_47
  | 3, hq =>
    refine lv_tableIn (tgt := 48) hx hb dX0_count_1 (by decide) (by decide) rfl (by decide) ?_
    refine lv_aload_n hx hb dX0_count_48 rfl (lv_at hl 0 rfl) ?_
    refine lv_iconst (v := 2) hx hb dX0_count_49 (by decide) ?_
    refine cl_calli (W.runV (As := [.int 2]) (rest := []) ⟨hx, hb, hml, hown, hts⟩ (c_countWith l dC dI h a cI N f 2 h1 h2) (cwV 1 hts gX0_count_X0_countWith rfl rfl rfl (by decide +kernel) ⟨Nat.le_of_ble_eq_true rfl, Nat.le_of_ble_eq_true rfl⟩) (cb_preV hK hP [.int 2]) rfl rfl hl.1 rfl (lv_room (Nat.le_of_ble_eq_true rfl)) dX0_count_50 ⟨Nat.zero_le _, Nat.zero_le _⟩) ?_
    exact W.iret (v := nI (cb_ct f 2 (cb_cc N))) hx hb hr (fun t9 ht9 _ => ⟨rfl, ht9⟩) (fun q9 hq9 => nomatch hq9) dX0_count_53
end
section
def cb_str : List (Nat × String) := [(60, "no such cell"), (62, "no such card"), (64, "the card is below 0"), (19, "the number of cells is not 1 .. 16384"), (38, "no such row of cells"), (58, "what is counted is not 0 .. 3")]
/-- the words of a throw that ride by their face alone -/
def cb_nw : List Cond := [.castable "java/lang/IllegalArgumentException" "java/lang/IllegalArgumentException", .castable "java/lang/IndexOutOfBoundsException" "java/lang/IndexOutOfBoundsException", .declares (Bundle.initS "java/lang/RuntimeException"), .declares (Bundle.initS "java/lang/Exception"), .declares (Bundle.initS Bundle.tN)]
theorem cb_nw_ok : ∀ w ∈ cb_nw, (w.onTables && w.keepsFace) = true := by decide +kernel
/-- what a throw of the class asks of the heap and of the constants -/
def cb_J (U : State) : Prop := xt_I U ∧ (∀ q ∈ cb_str, ∃ sa : Nat, vk_R RX0 q.1 q.2 sa U) ∧ ∀ w ∈ cb_nw, w.before #[] U = true
theorem cb_J.to {s U : State} (hW : s.WarmedH U.vm) (hh : ∀ q : Nat, q < s.heap.size → U.heap[q]? = s.heap[q]?) (h : cb_J s) : cb_J U := ⟨xt_I.to hW.alike hh h.1, fun q hq => by
  obtain ⟨sa, h1⟩ := h.2.1 q hq
  exact ⟨sa, vk_R.warm hW h1⟩, fun w hw => xt_ride hW (cb_nw_ok w hw) (h.2.2 w hw)⟩
def cb_Pt (D : va_G) (av : List Value) (ws : va_W) (tys : List (ClassId × FieldType)) : Array Value → State → Prop := va_Pc av (fun U => va_P D vwCl ws U.heap ∧ va_K D vwCl tys U ∧ cb_J U)
theorem cb_blindT {D : va_G} {av : List Value} {ws : va_W} {tys : List (ClassId × FieldType)} : FrameBlind (cb_Pt D av ws tys) := fun a U g mk q => ⟨q.1, q.2.1, va_K.moved (u := U) (U := U.calling g mk a) (Vm.Alike.refl U.vm) q.2.2.1, cb_J.to (s := U) (U := U.calling g mk a) (State.WarmedH.refl U) (fun _ _ => rfl) q.2.2.2⟩
theorem cb_preT {s : State} {D : va_G} {h ad : Nat} {cI : ClassId} {n : Int32} {f : Nat → Int32} (hJ : cb_J s) (hK : va_K D vwCl [(cI, .int)] s) (hP : va_P D vwCl (cb_w h ad cI n f) s.heap) (As : List Value) : PreV s s.heap RX0 h (cb_Pt D (.ref h :: As) (cb_w h ad cI n f) [(cI, .int)]) As :=
  ⟨cb_blindT, va_recv hK hP (ci := 0) (q0 := 0) rfl rfl, fun U hU hW => ⟨rfl, by rw [hU]; exact hP, va_K.moved hW.alike hK, cb_J.to hW (fun q _ => by rw [hU]) hJ⟩⟩
set_option maxHeartbeats 4000000 in
set_option maxRecDepth 100000 in
/-- requireCell(x), where there is none -/
theorem t_requireCell (l : Launch) (hst : l.stackTraces = false) (dC : Nat → ClassId) (dI : Nat → Nat → Nat) (h a : Nat) (cI : ClassId) (N : Nat) (f : Nat → Int32) (x : Int32) (hbad : x < 0 ∨ ¬ x < nI N) : xt_Met l yX0_requireCell wsX0_requireCell ({ frames := 6, cells := 1, slots := 6, locals := 100 }) (cb_Pt (dC, dI) [.ref h, .int x] (cb_w h a cI (nI N) f) [(cI, .int)]) "java/lang/IndexOutOfBoundsException" := by
  refine xt_ofW (cc := cX0_requireCell) (maxL := 2) (ret := none) (by decide) rfl ?_
  intro p e s m args below meth c s₁ B hml htab hv
  obtain ⟨rfl, hP, hK, hJ⟩ := hv
  have hx := B.exec
  have hb := B.bytes
  have hr := B.returns
  have hts := atoms_spec (ws := wsX0_requireCell) B.pre
  have hown : s.vm.findClass RX0 = some m.cls := findClass_of_methodNamed B.named
  have hlocks := B.notSynchronized
  have hl := lv_entry ([.ref h, .int x]) (n := 2) (Nat.le_of_ble_eq_true rfl)
  rw [lg_entry_eq]
  generalize (lg_sl ([.ref h, .int x]) ++ List.replicate (2 - (lg_sl ([.ref h, .int x])).length) Slot.unset).toArray = ls at hl ⊢
  have hl : lv_has ls 2 [(0, .ref h), (1, .int x)] := hl
  refine lv_iload_n hx hb dX0_requireCell_0 rfl (lv_at hl 1 rfl) ?_
  refine lv_if_lt (tgt := 12) hx hb dX0_requireCell_1 (by decide) (fun hc => ?_) (fun hc => ?_)
  · obtain ⟨sa, hsa⟩ := hJ.2.1 (60, "no such cell") (by decide)
    exact xt_throw (own := RX0) (E := "java/lang/IndexOutOfBoundsException") (names := ["java/lang/RuntimeException", "java/lang/Exception"]) (ic := 40) (text := "no such cell") (sa := sa) hx hb hst hown (by decide) (by decide) (xt_all hJ.1 (fun w hw => hts w (List.mem_cons_of_mem _ (List.mem_append_right _ hw))) (by decide +kernel) cb_nw_ok hJ.2.2) (hts (.classLink RX0 36 "java/lang/IndexOutOfBoundsException") (by decide +kernel)) (hts (.initialized "java/lang/IndexOutOfBoundsException") (by decide +kernel)) hsa (hl.1.trans hml.symm) dX0_requireCell_12 dX0_requireCell_15 dX0_requireCell_16 dX0_requireCell_18 dX0_requireCell_21 htab (by decide) (by decide) (by decide) (by decide) hlocks
  · refine lv_iload_n hx hb dX0_requireCell_4 rfl (lv_at hl 1 rfl) ?_
    refine lv_aload_n hx hb dX0_requireCell_5 rfl (lv_at hl 0 rfl) ?_
    refine va_get (D := (dC, dI)) (ci := 0) (v := .int (nI N)) (C := RX0) (T := TX0) (N := 2) hx hb hts (by decide +kernel) hown hK hP 0 rfl rfl 1 (by decide) (hts (.fieldLink RX0 13 "CardBook" "cells" "I") (by decide +kernel)) (fun _ h9 => h9) rfl dX0_requireCell_6 ?_
    refine lv_icmp_lt (tgt := 22) hx hb dX0_requireCell_9 (by decide) (fun hd => ?_) (fun hd => ?_)
    · exact absurd hd (hbad.resolve_left hc)
    · obtain ⟨sa, hsa⟩ := hJ.2.1 (60, "no such cell") (by decide)
      exact xt_throw (own := RX0) (E := "java/lang/IndexOutOfBoundsException") (names := ["java/lang/RuntimeException", "java/lang/Exception"]) (ic := 40) (text := "no such cell") (sa := sa) hx hb hst hown (by decide) (by decide) (xt_all hJ.1 (fun w hw => hts w (List.mem_cons_of_mem _ (List.mem_append_right _ hw))) (by decide +kernel) cb_nw_ok hJ.2.2) (hts (.classLink RX0 36 "java/lang/IndexOutOfBoundsException") (by decide +kernel)) (hts (.initialized "java/lang/IndexOutOfBoundsException") (by decide +kernel)) hsa (hl.1.trans hml.symm) dX0_requireCell_12 dX0_requireCell_15 dX0_requireCell_16 dX0_requireCell_18 dX0_requireCell_21 htab (by decide) (by decide) (by decide) (by decide) hlocks
set_option maxHeartbeats 4000000 in
set_option maxRecDepth 100000 in
/-- requireCard(x), where there is none -/
theorem t_requireCard (l : Launch) (hst : l.stackTraces = false) (dC : Nat → ClassId) (dI : Nat → Nat → Nat) (h a : Nat) (cI : ClassId) (N : Nat) (f : Nat → Int32) (x : Int32) (h1 : 1 ≤ N) (h2 : N ≤ 16384) (hbad : x < 0 ∨ ¬ x < nI (cb_cc N)) : xt_Met l yX0_requireCard wsX0_requireCard ({ frames := 6, cells := 1, slots := 6, locals := 100 }) (cb_Pt (dC, dI) [.ref h, .int x] (cb_w h a cI (nI N) f) [(cI, .int)]) "java/lang/IndexOutOfBoundsException" := by
  refine xt_ofW (cc := cX0_requireCard) (maxL := 2) (ret := none) (by decide) rfl ?_
  intro p e s m args below meth c s₁ B hml htab hv
  obtain ⟨rfl, hP, hK, hJ⟩ := hv
  have hx := B.exec
  have hb := B.bytes
  have hr := B.returns
  have hts := atoms_spec (ws := wsX0_requireCard) B.pre
  have hown : s.vm.findClass RX0 = some m.cls := findClass_of_methodNamed B.named
  have hlocks := B.notSynchronized
  have hl := lv_entry ([.ref h, .int x]) (n := 2) (Nat.le_of_ble_eq_true rfl)
  rw [lg_entry_eq]
  generalize (lg_sl ([.ref h, .int x]) ++ List.replicate (2 - (lg_sl ([.ref h, .int x])).length) Slot.unset).toArray = ls at hl ⊢
  have hl : lv_has ls 2 [(0, .ref h), (1, .int x)] := hl
  refine lv_iload_n hx hb dX0_requireCard_0 rfl (lv_at hl 1 rfl) ?_
  refine lv_if_lt (tgt := 12) hx hb dX0_requireCard_1 (by decide) (fun hc => ?_) (fun hc => ?_)
  · obtain ⟨sa, hsa⟩ := hJ.2.1 (62, "no such card") (by decide)
    exact xt_throw (own := RX0) (E := "java/lang/IndexOutOfBoundsException") (names := ["java/lang/RuntimeException", "java/lang/Exception"]) (ic := 40) (text := "no such card") (sa := sa) hx hb hst hown (by decide) (by decide) (xt_all hJ.1 (fun w hw => hts w (List.mem_cons_of_mem _ (List.mem_append_right _ hw))) (by decide +kernel) cb_nw_ok hJ.2.2) (hts (.classLink RX0 36 "java/lang/IndexOutOfBoundsException") (by decide +kernel)) (hts (.initialized "java/lang/IndexOutOfBoundsException") (by decide +kernel)) hsa (hl.1.trans hml.symm) dX0_requireCard_12 dX0_requireCard_15 dX0_requireCard_16 dX0_requireCard_18 dX0_requireCard_21 htab (by decide) (by decide) (by decide) (by decide) hlocks
  · refine lv_iload_n hx hb dX0_requireCard_4 rfl (lv_at hl 1 rfl) ?_
    refine lv_aload_n hx hb dX0_requireCard_5 rfl (lv_at hl 0 rfl) ?_
    refine cl_calli (W.runV (As := []) (rest := [.int x]) ⟨hx, hb, hml, hown, hts⟩ (c_cardCount l dC dI h a cI N f h1 h2) (cwV 0 hts gX0_requireCard_X0_cardCount rfl rfl rfl (by decide +kernel) ⟨Nat.le_of_ble_eq_true rfl, Nat.le_of_ble_eq_true rfl⟩) (cb_preV hK hP []) rfl rfl hl.1 rfl (lv_room (Nat.le_of_ble_eq_true rfl)) dX0_requireCard_6 ⟨Nat.zero_le _, Nat.zero_le _⟩) ?_
    refine lv_icmp_lt (tgt := 22) hx hb dX0_requireCard_9 (by decide) (fun hd => ?_) (fun hd => ?_)
    · exact absurd hd (hbad.resolve_left hc)
    · obtain ⟨sa, hsa⟩ := hJ.2.1 (62, "no such card") (by decide)
      exact xt_throw (own := RX0) (E := "java/lang/IndexOutOfBoundsException") (names := ["java/lang/RuntimeException", "java/lang/Exception"]) (ic := 40) (text := "no such card") (sa := sa) hx hb hst hown (by decide) (by decide) (xt_all hJ.1 (fun w hw => hts w (List.mem_cons_of_mem _ (List.mem_append_right _ hw))) (by decide +kernel) cb_nw_ok hJ.2.2) (hts (.classLink RX0 36 "java/lang/IndexOutOfBoundsException") (by decide +kernel)) (hts (.initialized "java/lang/IndexOutOfBoundsException") (by decide +kernel)) hsa (hl.1.trans hml.symm) dX0_requireCard_12 dX0_requireCard_15 dX0_requireCard_16 dX0_requireCard_18 dX0_requireCard_21 htab (by decide) (by decide) (by decide) (by decide) hlocks
set_option maxHeartbeats 4000000 in
set_option maxRecDepth 100000 in
/-- firstWith(v, x), x below 0 -/
theorem t_firstWith (l : Launch) (hst : l.stackTraces = false) (dC : Nat → ClassId) (dI : Nat → Nat → Nat) (h a : Nat) (cI : ClassId) (N : Nat) (f : Nat → Int32) (v x : Int32) (hbad : x < 0) : xt_Met l yX0_firstWith wsX0_firstWith ({ frames := 6, cells := 1, slots := 6, locals := 100 }) (cb_Pt (dC, dI) [.ref h, .int v, .int x] (cb_w h a cI (nI N) f) [(cI, .int)]) "java/lang/IllegalArgumentException" := by
  refine xt_ofW (cc := cX0_firstWith) (maxL := 5) (ret := (some .int)) (by decide) rfl ?_
  intro p e s m args below meth c s₁ B hml htab hv
  obtain ⟨rfl, hP, hK, hJ⟩ := hv
  have hx := B.exec
  have hb := B.bytes
  have hr := B.returns
  have hts := atoms_spec (ws := wsX0_firstWith) B.pre
  have hown : s.vm.findClass RX0 = some m.cls := findClass_of_methodNamed B.named
  have hlocks := B.notSynchronized
  have hl := lv_entry ([.ref h, .int v, .int x]) (n := 5) (Nat.le_of_ble_eq_true rfl)
  rw [lg_entry_eq]
  generalize (lg_sl ([.ref h, .int v, .int x]) ++ List.replicate (5 - (lg_sl ([.ref h, .int v, .int x])).length) Slot.unset).toArray = ls at hl ⊢
  have hl : lv_has ls 5 [(0, .ref h), (1, .int v), (2, .int x)] := hl
  refine lv_iload_n hx hb dX0_firstWith_0 rfl (lv_at hl 2 rfl) ?_
  refine lv_if_ge (tgt := 14) hx hb dX0_firstWith_1 (by decide) (fun hc => ?_) (fun hc => ?_)
  · exact absurd hbad (Int32.not_lt.mpr hc)
  · obtain ⟨sa, hsa⟩ := hJ.2.1 (64, "the card is below 0") (by decide)
    exact xt_throw (own := RX0) (E := "java/lang/IllegalArgumentException") (names := ["java/lang/RuntimeException", "java/lang/Exception"]) (ic := 21) (text := "the card is below 0") (sa := sa) hx hb hst hown (by decide) (by decide) (xt_all hJ.1 (fun w hw => hts w (List.mem_cons_of_mem _ (List.mem_append_right _ hw))) (by decide +kernel) cb_nw_ok hJ.2.2) (hts (.classLink RX0 17 "java/lang/IllegalArgumentException") (by decide +kernel)) (hts (.initialized "java/lang/IllegalArgumentException") (by decide +kernel)) hsa (hl.1.trans hml.symm) dX0_firstWith_4 dX0_firstWith_7 dX0_firstWith_8 dX0_firstWith_10 dX0_firstWith_13 htab (by decide) (by decide) (by decide) (by decide) hlocks
set_option maxHeartbeats 4000000 in
set_option maxRecDepth 100000 in
/-- space(x), x is not 1 .. 16384 -/
theorem t_space (l : Launch) (hst : l.stackTraces = false) (dC : Nat → ClassId) (dI : Nat → Nat → Nat) (h a : Nat) (cI : ClassId) (N : Nat) (f : Nat → Int32) (x : Int32) (hbad : x < 1 ∨ ¬ x ≤ 16384) : xt_Met l yX0_space wsX0_space ({ frames := 7, cells := 1, slots := 6, locals := 140 }) (cb_Pt (dC, dI) [.ref h, .int x] (cb_w h a cI (nI N) f) [(cI, .int)]) "java/lang/IllegalArgumentException" := by
  refine xt_ofW (cc := cX0_space) (maxL := 3) (ret := (some .int)) (by decide) rfl ?_
  intro p e s m args below meth c s₁ B hml htab hv
  obtain ⟨rfl, hP, hK, hJ⟩ := hv
  have hx := B.exec
  have hb := B.bytes
  have hr := B.returns
  have hts := atoms_spec (ws := wsX0_space) B.pre
  have hown : s.vm.findClass RX0 = some m.cls := findClass_of_methodNamed B.named
  have hlocks := B.notSynchronized
  have hl := lv_entry ([.ref h, .int x]) (n := 3) (Nat.le_of_ble_eq_true rfl)
  rw [lg_entry_eq]
  generalize (lg_sl ([.ref h, .int x]) ++ List.replicate (3 - (lg_sl ([.ref h, .int x])).length) Slot.unset).toArray = ls at hl ⊢
  have hl : lv_has ls 3 [(0, .ref h), (1, .int x)] := hl
  refine lv_iload_n hx hb dX0_space_0 rfl (lv_at hl 1 rfl) ?_
  refine lv_iconst (v := 1) hx hb dX0_space_1 (by decide) ?_
  refine lv_icmp_lt (tgt := 12) hx hb dX0_space_2 (by decide) (fun hc => ?_) (fun hc => ?_)
  · obtain ⟨sa, hsa⟩ := hJ.2.1 (19, "the number of cells is not 1 .. 16384") (by decide)
    exact xt_throw (own := RX0) (E := "java/lang/IllegalArgumentException") (names := ["java/lang/RuntimeException", "java/lang/Exception"]) (ic := 21) (text := "the number of cells is not 1 .. 16384") (sa := sa) hx hb hst hown (by decide) (by decide) (xt_all hJ.1 (fun w hw => hts w (List.mem_cons_of_mem _ (List.mem_append_right _ hw))) (by decide +kernel) cb_nw_ok hJ.2.2) (hts (.classLink RX0 17 "java/lang/IllegalArgumentException") (by decide +kernel)) (hts (.initialized "java/lang/IllegalArgumentException") (by decide +kernel)) hsa (hl.1.trans hml.symm) dX0_space_12 dX0_space_15 dX0_space_16 dX0_space_18 dX0_space_21 htab (by decide) (by decide) (by decide) (by decide) hlocks
  · refine lv_iload_n hx hb dX0_space_5 rfl (lv_at hl 1 rfl) ?_
    refine lv_sipush (v := 16384) hx hb dX0_space_6 (by decide) ?_
    refine lv_icmp_le (tgt := 22) hx hb dX0_space_9 (by decide) (fun hd => ?_) (fun hd => ?_)
    · exact absurd hd (hbad.resolve_left hc)
    · obtain ⟨sa, hsa⟩ := hJ.2.1 (19, "the number of cells is not 1 .. 16384") (by decide)
      exact xt_throw (own := RX0) (E := "java/lang/IllegalArgumentException") (names := ["java/lang/RuntimeException", "java/lang/Exception"]) (ic := 21) (text := "the number of cells is not 1 .. 16384") (sa := sa) hx hb hst hown (by decide) (by decide) (xt_all hJ.1 (fun w hw => hts w (List.mem_cons_of_mem _ (List.mem_append_right _ hw))) (by decide +kernel) cb_nw_ok hJ.2.2) (hts (.classLink RX0 17 "java/lang/IllegalArgumentException") (by decide +kernel)) (hts (.initialized "java/lang/IllegalArgumentException") (by decide +kernel)) hsa (hl.1.trans hml.symm) dX0_space_12 dX0_space_15 dX0_space_16 dX0_space_18 dX0_space_21 htab (by decide) (by decide) (by decide) (by decide) hlocks
set_option maxHeartbeats 4000000 in
set_option maxRecDepth 100000 in
/-- count(x), x is none of 0 .. 3 -/
theorem t_count (l : Launch) (hst : l.stackTraces = false) (dC : Nat → ClassId) (dI : Nat → Nat → Nat) (h a : Nat) (cI : ClassId) (N : Nat) (f : Nat → Int32) (x : Int32) (hbad : x.toInt < 0 ∨ 3 < x.toInt) : xt_Met l yX0_count wsX0_count ({ frames := 7, cells := 1, slots := 6, locals := 140 }) (cb_Pt (dC, dI) [.ref h, .int x] (cb_w h a cI (nI N) f) [(cI, .int)]) "java/lang/IllegalArgumentException" := by
  refine xt_ofW (cc := cX0_count) (maxL := 2) (ret := (some .int)) (by decide) rfl ?_
  intro p e s m args below meth c s₁ B hml htab hv
  obtain ⟨rfl, hP, hK, hJ⟩ := hv
  have hx := B.exec
  have hb := B.bytes
  have hr := B.returns
  have hts := atoms_spec (ws := wsX0_count) B.pre
  have hown : s.vm.findClass RX0 = some m.cls := findClass_of_methodNamed B.named
  have hlocks := B.notSynchronized
  have hl := lv_entry ([.ref h, .int x]) (n := 2) (Nat.le_of_ble_eq_true rfl)
  rw [lg_entry_eq]
  generalize (lg_sl ([.ref h, .int x]) ++ List.replicate (2 - (lg_sl ([.ref h, .int x])).length) Slot.unset).toArray = ls at hl ⊢
  have hl : lv_has ls 2 [(0, .ref h), (1, .int x)] := hl
  refine lv_iload_n hx hb dX0_count_0 rfl (lv_at hl 1 rfl) ?_
  refine lv_tableOut (tgt := 54) hx hb dX0_count_1 hbad (by decide) ?_
  obtain ⟨sa, hsa⟩ := hJ.2.1 (58, "what is counted is not 0 .. 3") (by decide)
  exact xt_throw (own := RX0) (E := "java/lang/IllegalArgumentException") (names := ["java/lang/RuntimeException", "java/lang/Exception"]) (ic := 21) (text := "what is counted is not 0 .. 3") (sa := sa) hx hb hst hown (by decide) (by decide) (xt_all hJ.1 (fun w hw => hts w (List.mem_cons_of_mem _ (List.mem_append_right _ hw))) (by decide +kernel) cb_nw_ok hJ.2.2) (hts (.classLink RX0 17 "java/lang/IllegalArgumentException") (by decide +kernel)) (hts (.initialized "java/lang/IllegalArgumentException") (by decide +kernel)) hsa (hl.1.trans hml.symm) dX0_count_54 dX0_count_57 dX0_count_58 dX0_count_60 dX0_count_63 htab (by decide) (by decide) (by decide) (by decide) hlocks
set_option maxHeartbeats 4000000 in
set_option maxRecDepth 100000 in
/-- write(x), where there is no such cell -/
theorem t_write (l : Launch) (hst : l.stackTraces = false) (dC : Nat → ClassId) (dI : Nat → Nat → Nat) (h a : Nat) (cI : ClassId) (N : Nat) (f : Nat → Int32) (x : Int32) (hbad : x < 0 ∨ ¬ x < nI N) : xt_Met l yX0_write wsX0_write ({ frames := 7, cells := 1, slots := 6, locals := 140 }) (cb_Pt (dC, dI) [.ref h, .int x] (cb_w h a cI (nI N) f) [(cI, .int)]) "java/lang/IndexOutOfBoundsException" := by
  refine xt_ofW (cc := cX0_write) (maxL := 3) (ret := (some .int)) (by decide) rfl ?_
  intro p e s m args below meth c s₁ B hml htab hv
  obtain ⟨rfl, hP, hK, hJ⟩ := hv
  have hx := B.exec
  have hb := B.bytes
  have hr := B.returns
  have hts := atoms_spec (ws := wsX0_write) B.pre
  have hown : s.vm.findClass RX0 = some m.cls := findClass_of_methodNamed B.named
  have hlocks := B.notSynchronized
  have hl := lv_entry ([.ref h, .int x]) (n := 3) (Nat.le_of_ble_eq_true rfl)
  rw [lg_entry_eq]
  generalize (lg_sl ([.ref h, .int x]) ++ List.replicate (3 - (lg_sl ([.ref h, .int x])).length) Slot.unset).toArray = ls at hl ⊢
  have hl : lv_has ls 3 [(0, .ref h), (1, .int x)] := hl
  refine lv_aload_n hx hb dX0_write_0 rfl (lv_at hl 0 rfl) ?_
  refine lv_iload_n hx hb dX0_write_1 rfl (lv_at hl 1 rfl) ?_
  exact xt_pass (xt_runV (As := [.int x]) (rest := []) ⟨hx, hb, hml, hown, hts⟩ (t_requireCell l hst dC dI h a cI N f x hbad) (cwV 1 hts gX0_write_X0_requireCell rfl rfl rfl (by decide +kernel) ⟨Nat.le_of_ble_eq_true rfl, Nat.le_of_ble_eq_true rfl⟩) (cb_preT hJ hK hP [.int x]) rfl rfl hl.1 rfl (lv_room (Nat.le_of_ble_eq_true rfl)) dX0_write_2 ⟨Nat.le_refl _, Nat.le_refl _⟩) htab hlocks
set_option maxHeartbeats 4000000 in
set_option maxRecDepth 100000 in
/-- clean, where there is no such card -/
theorem t_clean (l : Launch) (hst : l.stackTraces = false) (dC : Nat → ClassId) (dI : Nat → Nat → Nat) (h a : Nat) (cI : ClassId) (N : Nat) (f : Nat → Int32) (x b : Int32) (h1 : 1 ≤ N) (h2 : N ≤ 16384) (hbad : x < 0 ∨ ¬ x < nI (cb_cc N)) : xt_Met l yX0_clean wsX0_clean ({ frames := 7, cells := 1, slots := 6, locals := 140 }) (cb_Pt (dC, dI) [.ref h, .int x, .int b] (cb_w h a cI (nI N) f) [(cI, .int)]) "java/lang/IndexOutOfBoundsException" := by
  refine xt_ofW (cc := cX0_clean) (maxL := 4) (ret := (some .boolean)) (by decide) rfl ?_
  intro p e s m args below meth c s₁ B hml htab hv
  obtain ⟨rfl, hP, hK, hJ⟩ := hv
  have hx := B.exec
  have hb := B.bytes
  have hr := B.returns
  have hts := atoms_spec (ws := wsX0_clean) B.pre
  have hown : s.vm.findClass RX0 = some m.cls := findClass_of_methodNamed B.named
  have hlocks := B.notSynchronized
  have hl := lv_entry ([.ref h, .int x, .int b]) (n := 4) (Nat.le_of_ble_eq_true rfl)
  rw [lg_entry_eq]
  generalize (lg_sl ([.ref h, .int x, .int b]) ++ List.replicate (4 - (lg_sl ([.ref h, .int x, .int b])).length) Slot.unset).toArray = ls at hl ⊢
  have hl : lv_has ls 4 [(0, .ref h), (1, .int x), (2, .int b)] := hl
  refine lv_aload_n hx hb dX0_clean_0 rfl (lv_at hl 0 rfl) ?_
  refine lv_iload_n hx hb dX0_clean_1 rfl (lv_at hl 1 rfl) ?_
  exact xt_pass (xt_runV (As := [.int x]) (rest := []) ⟨hx, hb, hml, hown, hts⟩ (t_requireCard l hst dC dI h a cI N f x h1 h2 hbad) (cwV 1 hts gX0_clean_X0_requireCard rfl rfl rfl (by decide +kernel) ⟨Nat.le_of_ble_eq_true rfl, Nat.le_of_ble_eq_true rfl⟩) (cb_preT hJ hK hP [.int x]) rfl rfl hl.1 rfl (lv_room (Nat.le_of_ble_eq_true rfl)) dX0_clean_2 ⟨Nat.le_refl _, Nat.le_refl _⟩) htab hlocks
set_option maxHeartbeats 4000000 in
set_option maxRecDepth 100000 in
/-- unsave, where there is no such card -/
theorem t_unsave (l : Launch) (hst : l.stackTraces = false) (dC : Nat → ClassId) (dI : Nat → Nat → Nat) (h a : Nat) (cI : ClassId) (N : Nat) (f : Nat → Int32) (x : Int32) (h1 : 1 ≤ N) (h2 : N ≤ 16384) (hbad : x < 0 ∨ ¬ x < nI (cb_cc N)) : xt_Met l yX0_unsave wsX0_unsave ({ frames := 7, cells := 1, slots := 6, locals := 140 }) (cb_Pt (dC, dI) [.ref h, .int x] (cb_w h a cI (nI N) f) [(cI, .int)]) "java/lang/IndexOutOfBoundsException" := by
  refine xt_ofW (cc := cX0_unsave) (maxL := 2) (ret := (some .boolean)) (by decide) rfl ?_
  intro p e s m args below meth c s₁ B hml htab hv
  obtain ⟨rfl, hP, hK, hJ⟩ := hv
  have hx := B.exec
  have hb := B.bytes
  have hr := B.returns
  have hts := atoms_spec (ws := wsX0_unsave) B.pre
  have hown : s.vm.findClass RX0 = some m.cls := findClass_of_methodNamed B.named
  have hlocks := B.notSynchronized
  have hl := lv_entry ([.ref h, .int x]) (n := 2) (Nat.le_of_ble_eq_true rfl)
  rw [lg_entry_eq]
  generalize (lg_sl ([.ref h, .int x]) ++ List.replicate (2 - (lg_sl ([.ref h, .int x])).length) Slot.unset).toArray = ls at hl ⊢
  have hl : lv_has ls 2 [(0, .ref h), (1, .int x)] := hl
  refine lv_aload_n hx hb dX0_unsave_0 rfl (lv_at hl 0 rfl) ?_
  refine lv_iload_n hx hb dX0_unsave_1 rfl (lv_at hl 1 rfl) ?_
  exact xt_pass (xt_runV (As := [.int x]) (rest := []) ⟨hx, hb, hml, hown, hts⟩ (t_requireCard l hst dC dI h a cI N f x h1 h2 hbad) (cwV 1 hts gX0_unsave_X0_requireCard rfl rfl rfl (by decide +kernel) ⟨Nat.le_of_ble_eq_true rfl, Nat.le_of_ble_eq_true rfl⟩) (cb_preT hJ hK hP [.int x]) rfl rfl hl.1 rfl (lv_room (Nat.le_of_ble_eq_true rfl)) dX0_unsave_2 ⟨Nat.le_refl _, Nat.le_refl _⟩) htab hlocks
set_option maxHeartbeats 4000000 in
set_option maxRecDepth 100000 in
/-- card, where there is no such card -/
theorem t_card (l : Launch) (hst : l.stackTraces = false) (dC : Nat → ClassId) (dI : Nat → Nat → Nat) (h a : Nat) (cI : ClassId) (N : Nat) (f : Nat → Int32) (x : Int32) (h1 : 1 ≤ N) (h2 : N ≤ 16384) (hbad : x < 0 ∨ ¬ x < nI (cb_cc N)) : xt_Met l yX0_card wsX0_card ({ frames := 7, cells := 1, slots := 6, locals := 140 }) (cb_Pt (dC, dI) [.ref h, .int x] (cb_w h a cI (nI N) f) [(cI, .int)]) "java/lang/IndexOutOfBoundsException" := by
  refine xt_ofW (cc := cX0_card) (maxL := 2) (ret := (some .int)) (by decide) rfl ?_
  intro p e s m args below meth c s₁ B hml htab hv
  obtain ⟨rfl, hP, hK, hJ⟩ := hv
  have hx := B.exec
  have hb := B.bytes
  have hr := B.returns
  have hts := atoms_spec (ws := wsX0_card) B.pre
  have hown : s.vm.findClass RX0 = some m.cls := findClass_of_methodNamed B.named
  have hlocks := B.notSynchronized
  have hl := lv_entry ([.ref h, .int x]) (n := 2) (Nat.le_of_ble_eq_true rfl)
  rw [lg_entry_eq]
  generalize (lg_sl ([.ref h, .int x]) ++ List.replicate (2 - (lg_sl ([.ref h, .int x])).length) Slot.unset).toArray = ls at hl ⊢
  have hl : lv_has ls 2 [(0, .ref h), (1, .int x)] := hl
  refine lv_aload_n hx hb dX0_card_0 rfl (lv_at hl 0 rfl) ?_
  refine lv_iload_n hx hb dX0_card_1 rfl (lv_at hl 1 rfl) ?_
  exact xt_pass (xt_runV (As := [.int x]) (rest := []) ⟨hx, hb, hml, hown, hts⟩ (t_requireCard l hst dC dI h a cI N f x h1 h2 hbad) (cwV 1 hts gX0_card_X0_requireCard rfl rfl rfl (by decide +kernel) ⟨Nat.le_of_ble_eq_true rfl, Nat.le_of_ble_eq_true rfl⟩) (cb_preT hJ hK hP [.int x]) rfl rfl hl.1 rfl (lv_room (Nat.le_of_ble_eq_true rfl)) dX0_card_2 ⟨Nat.le_refl _, Nat.le_refl _⟩) htab hlocks
set_option maxHeartbeats 4000000 in
set_option maxRecDepth 100000 in
/-- nextDirty(x), x below 0 -/
theorem t_nextDirty (l : Launch) (hst : l.stackTraces = false) (dC : Nat → ClassId) (dI : Nat → Nat → Nat) (h a : Nat) (cI : ClassId) (N : Nat) (f : Nat → Int32) (x : Int32) (hbad : x < 0) : xt_Met l yX0_nextDirty wsX0_nextDirty ({ frames := 7, cells := 1, slots := 6, locals := 140 }) (cb_Pt (dC, dI) [.ref h, .int x] (cb_w h a cI (nI N) f) [(cI, .int)]) "java/lang/IllegalArgumentException" := by
  refine xt_ofW (cc := cX0_nextDirty) (maxL := 2) (ret := (some .int)) (by decide) rfl ?_
  intro p e s m args below meth c s₁ B hml htab hv
  obtain ⟨rfl, hP, hK, hJ⟩ := hv
  have hx := B.exec
  have hb := B.bytes
  have hr := B.returns
  have hts := atoms_spec (ws := wsX0_nextDirty) B.pre
  have hown : s.vm.findClass RX0 = some m.cls := findClass_of_methodNamed B.named
  have hlocks := B.notSynchronized
  have hl := lv_entry ([.ref h, .int x]) (n := 2) (Nat.le_of_ble_eq_true rfl)
  rw [lg_entry_eq]
  generalize (lg_sl ([.ref h, .int x]) ++ List.replicate (2 - (lg_sl ([.ref h, .int x])).length) Slot.unset).toArray = ls at hl ⊢
  have hl : lv_has ls 2 [(0, .ref h), (1, .int x)] := hl
  refine lv_aload_n hx hb dX0_nextDirty_0 rfl (lv_at hl 0 rfl) ?_
  refine lv_iconst (v := 1) hx hb dX0_nextDirty_1 (by decide) ?_
  refine lv_iload_n hx hb dX0_nextDirty_2 rfl (lv_at hl 1 rfl) ?_
  exact xt_pass (xt_runV (As := [.int 1, .int x]) (rest := []) ⟨hx, hb, hml, hown, hts⟩ (t_firstWith l hst dC dI h a cI N f 1 x hbad) (cwV 2 hts gX0_nextDirty_X0_firstWith rfl rfl rfl (by decide +kernel) ⟨Nat.le_of_ble_eq_true rfl, Nat.le_of_ble_eq_true rfl⟩) (cb_preT hJ hK hP [.int 1, .int x]) rfl rfl hl.1 rfl (lv_room (Nat.le_of_ble_eq_true rfl)) dX0_nextDirty_3 ⟨Nat.le_refl _, Nat.le_refl _⟩) htab hlocks
set_option maxHeartbeats 4000000 in
set_option maxRecDepth 100000 in
/-- nextSaved(x), x below 0 -/
theorem t_nextSaved (l : Launch) (hst : l.stackTraces = false) (dC : Nat → ClassId) (dI : Nat → Nat → Nat) (h a : Nat) (cI : ClassId) (N : Nat) (f : Nat → Int32) (x : Int32) (hbad : x < 0) : xt_Met l yX0_nextSaved wsX0_nextSaved ({ frames := 7, cells := 1, slots := 6, locals := 140 }) (cb_Pt (dC, dI) [.ref h, .int x] (cb_w h a cI (nI N) f) [(cI, .int)]) "java/lang/IllegalArgumentException" := by
  refine xt_ofW (cc := cX0_nextSaved) (maxL := 2) (ret := (some .int)) (by decide) rfl ?_
  intro p e s m args below meth c s₁ B hml htab hv
  obtain ⟨rfl, hP, hK, hJ⟩ := hv
  have hx := B.exec
  have hb := B.bytes
  have hr := B.returns
  have hts := atoms_spec (ws := wsX0_nextSaved) B.pre
  have hown : s.vm.findClass RX0 = some m.cls := findClass_of_methodNamed B.named
  have hlocks := B.notSynchronized
  have hl := lv_entry ([.ref h, .int x]) (n := 2) (Nat.le_of_ble_eq_true rfl)
  rw [lg_entry_eq]
  generalize (lg_sl ([.ref h, .int x]) ++ List.replicate (2 - (lg_sl ([.ref h, .int x])).length) Slot.unset).toArray = ls at hl ⊢
  have hl : lv_has ls 2 [(0, .ref h), (1, .int x)] := hl
  refine lv_aload_n hx hb dX0_nextSaved_0 rfl (lv_at hl 0 rfl) ?_
  refine lv_iconst (v := 2) hx hb dX0_nextSaved_1 (by decide) ?_
  refine lv_iload_n hx hb dX0_nextSaved_2 rfl (lv_at hl 1 rfl) ?_
  exact xt_pass (xt_runV (As := [.int 2, .int x]) (rest := []) ⟨hx, hb, hml, hown, hts⟩ (t_firstWith l hst dC dI h a cI N f 2 x hbad) (cwV 2 hts gX0_nextSaved_X0_firstWith rfl rfl rfl (by decide +kernel) ⟨Nat.le_of_ble_eq_true rfl, Nat.le_of_ble_eq_true rfl⟩) (cb_preT hJ hK hP [.int 2, .int x]) rfl rfl hl.1 rfl (lv_room (Nat.le_of_ble_eq_true rfl)) dX0_nextSaved_3 ⟨Nat.le_refl _, Nat.le_refl _⟩) htab hlocks
set_option maxHeartbeats 4000000 in
set_option maxRecDepth 100000 in
/-- cover(x, y), where there is no cell x -/
theorem t_cover1 (l : Launch) (hst : l.stackTraces = false) (dC : Nat → ClassId) (dI : Nat → Nat → Nat) (h a : Nat) (cI : ClassId) (N : Nat) (f : Nat → Int32) (x y : Int32) (hbad : x < 0 ∨ ¬ x < nI N) : xt_Met l yX0_cover wsX0_cover ({ frames := 7, cells := 1, slots := 6, locals := 140 }) (cb_Pt (dC, dI) [.ref h, .int x, .int y] (cb_w h a cI (nI N) f) [(cI, .int)]) "java/lang/IndexOutOfBoundsException" := by
  refine xt_ofW (cc := cX0_cover) (maxL := 6) (ret := (some .int)) (by decide) rfl ?_
  intro p e s m args below meth c s₁ B hml htab hv
  obtain ⟨rfl, hP, hK, hJ⟩ := hv
  have hx := B.exec
  have hb := B.bytes
  have hr := B.returns
  have hts := atoms_spec (ws := wsX0_cover) B.pre
  have hown : s.vm.findClass RX0 = some m.cls := findClass_of_methodNamed B.named
  have hlocks := B.notSynchronized
  have hl := lv_entry ([.ref h, .int x, .int y]) (n := 6) (Nat.le_of_ble_eq_true rfl)
  rw [lg_entry_eq]
  generalize (lg_sl ([.ref h, .int x, .int y]) ++ List.replicate (6 - (lg_sl ([.ref h, .int x, .int y])).length) Slot.unset).toArray = ls at hl ⊢
  have hl : lv_has ls 6 [(0, .ref h), (1, .int x), (2, .int y)] := hl
  refine lv_aload_n hx hb dX0_cover_0 rfl (lv_at hl 0 rfl) ?_
  refine lv_iload_n hx hb dX0_cover_1 rfl (lv_at hl 1 rfl) ?_
  exact xt_pass (xt_runV (As := [.int x]) (rest := []) ⟨hx, hb, hml, hown, hts⟩ (t_requireCell l hst dC dI h a cI N f x hbad) (cwV 1 hts gX0_cover_X0_requireCell rfl rfl rfl (by decide +kernel) ⟨Nat.le_of_ble_eq_true rfl, Nat.le_of_ble_eq_true rfl⟩) (cb_preT hJ hK hP [.int x]) rfl rfl hl.1 rfl (lv_room (Nat.le_of_ble_eq_true rfl)) dX0_cover_2 ⟨Nat.le_refl _, Nat.le_refl _⟩) htab hlocks
set_option maxHeartbeats 4000000 in
set_option maxRecDepth 100000 in
/-- cover(k, y), where some of these cells are none -/
theorem t_cover2 (l : Launch) (hst : l.stackTraces = false) (dC : Nat → ClassId) (dI : Nat → Nat → Nat) (h a : Nat) (cI : ClassId) (N : Nat) (f : Nat → Int32) (k : Nat) (y : Int32) (h2 : N ≤ 16384) (hk : k < N) (hbad : y < 1 ∨ ¬ y ≤ nI N - nI k) : xt_Met l yX0_cover wsX0_cover ({ frames := 7, cells := 1, slots := 6, locals := 140 }) (cb_Pt (dC, dI) [.ref h, .int (nI k), .int y] (cb_w h a cI (nI N) f) [(cI, .int)]) "java/lang/IndexOutOfBoundsException" := by
  refine xt_ofW (cc := cX0_cover) (maxL := 6) (ret := (some .int)) (by decide) rfl ?_
  intro p e s m args below meth c s₁ B hml htab hv
  obtain ⟨rfl, hP, hK, hJ⟩ := hv
  have hx := B.exec
  have hb := B.bytes
  have hr := B.returns
  have hts := atoms_spec (ws := wsX0_cover) B.pre
  have hown : s.vm.findClass RX0 = some m.cls := findClass_of_methodNamed B.named
  have hlocks := B.notSynchronized
  have hl := lv_entry ([.ref h, .int (nI k), .int y]) (n := 6) (Nat.le_of_ble_eq_true rfl)
  rw [lg_entry_eq]
  generalize (lg_sl ([.ref h, .int (nI k), .int y]) ++ List.replicate (6 - (lg_sl ([.ref h, .int (nI k), .int y])).length) Slot.unset).toArray = ls at hl ⊢
  have hl : lv_has ls 6 [(0, .ref h), (1, .int (nI k)), (2, .int y)] := hl
  refine lv_aload_n hx hb dX0_cover_0 rfl (lv_at hl 0 rfl) ?_
  refine lv_iload_n hx hb dX0_cover_1 rfl (lv_at hl 1 rfl) ?_
  refine cl_callv (W.runV (As := [.int (nI k)]) (rest := []) ⟨hx, hb, hml, hown, hts⟩ (c_requireCell l dC dI h a cI N f k h2 hk) (cwV 1 hts gX0_cover_X0_requireCell rfl rfl rfl (by decide +kernel) ⟨Nat.le_of_ble_eq_true rfl, Nat.le_of_ble_eq_true rfl⟩) (cb_preV hK hP [.int (nI k)]) rfl rfl hl.1 rfl (lv_room (Nat.le_of_ble_eq_true rfl)) dX0_cover_2 ⟨Nat.zero_le _, Nat.zero_le _⟩) ?_
  refine lv_iload_n hx hb dX0_cover_5 rfl (lv_at hl 2 rfl) ?_
  refine lv_iconst (v := 1) hx hb dX0_cover_6 (by decide) ?_
  refine lv_icmp_lt (tgt := 20) hx hb dX0_cover_7 (by decide) (fun hc => ?_) (fun hc => ?_)
  · obtain ⟨sa, hsa⟩ := hJ.2.1 (38, "no such row of cells") (by decide)
    exact xt_throw (own := RX0) (E := "java/lang/IndexOutOfBoundsException") (names := ["java/lang/RuntimeException", "java/lang/Exception"]) (ic := 40) (text := "no such row of cells") (sa := sa) hx hb hst hown (by decide) (by decide) (xt_all hJ.1 (fun w hw => hts w (List.mem_cons_of_mem _ (List.mem_append_right _ hw))) (by decide +kernel) cb_nw_ok hJ.2.2) (hts (.classLink RX0 36 "java/lang/IndexOutOfBoundsException") (by decide +kernel)) (hts (.initialized "java/lang/IndexOutOfBoundsException") (by decide +kernel)) hsa (hl.1.trans hml.symm) dX0_cover_20 dX0_cover_23 dX0_cover_24 dX0_cover_26 dX0_cover_29 htab (by decide) (by decide) (by decide) (by decide) hlocks
  · refine lv_iload_n hx hb dX0_cover_10 rfl (lv_at hl 2 rfl) ?_
    refine lv_aload_n hx hb dX0_cover_11 rfl (lv_at hl 0 rfl) ?_
    refine va_get (D := (dC, dI)) (ci := 0) (v := .int (nI N)) (C := RX0) (T := TX0) (N := 2) hx hb hts (by decide +kernel) hown hK hP 0 rfl rfl 1 (by decide) (hts (.fieldLink RX0 13 "CardBook" "cells" "I") (by decide +kernel)) (fun _ h9 => h9) rfl dX0_cover_12 ?_
    refine lv_iload_n hx hb dX0_cover_15 rfl (lv_at hl 1 rfl) ?_
    refine lv_isub hx hb dX0_cover_16 ?_
    refine lv_icmp_le (tgt := 30) hx hb dX0_cover_17 (by decide) (fun hd => ?_) (fun hd => ?_)
    · exact absurd hd (hbad.resolve_left hc)
    · obtain ⟨sa, hsa⟩ := hJ.2.1 (38, "no such row of cells") (by decide)
      exact xt_throw (own := RX0) (E := "java/lang/IndexOutOfBoundsException") (names := ["java/lang/RuntimeException", "java/lang/Exception"]) (ic := 40) (text := "no such row of cells") (sa := sa) hx hb hst hown (by decide) (by decide) (xt_all hJ.1 (fun w hw => hts w (List.mem_cons_of_mem _ (List.mem_append_right _ hw))) (by decide +kernel) cb_nw_ok hJ.2.2) (hts (.classLink RX0 36 "java/lang/IndexOutOfBoundsException") (by decide +kernel)) (hts (.initialized "java/lang/IndexOutOfBoundsException") (by decide +kernel)) hsa (hl.1.trans hml.symm) dX0_cover_20 dX0_cover_23 dX0_cover_24 dX0_cover_26 dX0_cover_29 htab (by decide) (by decide) (by decide) (by decide) hlocks
end
section
abbrev ou_w (o : Nat) (cJ : ClassId) (g : Nat → Int64) : va_W := [(o, .inl (cJ, 1, .inr (.inl g)))]
abbrev wr_w (h a : Nat) (cI : ClassId) (n : Int32) (f : Nat → Int32) (o : Nat) (cJ : ClassId) (g : Nat → Int64) : va_W := cb_w h a cI n f ++ ou_w o cJ g
def wr_A (h a o : Nat) : Nat → Prop := fun q => cb_A h a q ∨ q = o
theorem wr_D {h a o : Nat} {cI cJ : ClassId} {n : Int32} {f : Nat → Int32} {g : Nat → Int64} (hne : h ≠ a) (ho : o ≠ h ∧ o ≠ a) : va_D (wr_A h a o) (wr_w h a cI n f o cJ g) := by
  refine ⟨fun i j x y hi hj hxy => ?_, fun k q hk => ?_⟩
  · match i, j, hi, hj with
    | 0, 0, _, _ => rfl
    | 1, 1, _, _ => rfl
    | 2, 2, _, _ => rfl
    | 0, 1, hi, hj => cases hi; cases hj; exact absurd hxy hne
    | 1, 0, hi, hj => cases hi; cases hj; exact absurd hxy.symm hne
    | 0, 2, hi, hj => cases hi; cases hj; exact absurd hxy.symm ho.1
    | 2, 0, hi, hj => cases hi; cases hj; exact absurd hxy ho.1
    | 1, 2, hi, hj => cases hi; cases hj; exact absurd hxy.symm ho.2
    | 2, 1, hi, hj => cases hi; cases hj; exact absurd hxy ho.2
    | i + 3, _, hi, _ => cases hi
    | _, j + 3, _, hj => cases hj
  · match k, hk with
    | 0, hk => cases hk; exact Or.inl (Or.inl rfl)
    | 1, hk => cases hk; exact Or.inl (Or.inr rfl)
    | 2, hk => cases hk; exact Or.inr rfl
    | k + 3, hk => cases hk
theorem cl_kept {D : va_G} {cl : List vw_C} {ws : va_W} {A : Nat → Prop} {H H1 : Heap} (hP : va_P D cl ws H) (hk : ∀ q : Nat, q < H.size → ¬ A q → H1[q]? = H[q]?) (hn : ∀ x ∈ ws, ¬ A x.1) : va_P D cl ws H1 := hP.kept (fun k q hq => hk q.1 ((hP k q hq).lt) (hn q (List.mem_of_getElem? hq)))
set_option maxHeartbeats 4000000 in
set_option maxRecDepth 100000 in
/-- space, which returns -/
theorem w_space (l : Launch) (dC : Nat → ClassId) (dI : Nat → Nat → Nat) (h a : Nat) (cI : ClassId) (N : Nat) (f : Nat → Int32) (o : Nat) (cJ : ClassId) (g : Nat → Int64) (hne : h ≠ a) (ho : o ≠ h ∧ o ≠ a) (n : Nat) (h1 : 1 ≤ N) (h2 : N ≤ 16384) (hn1 : 1 ≤ n) (hn2 : n ≤ 16384) : Met l yL_space wsL_space ({ frames := 5, cells := 0, slots := 0, locals := 130 }) (cb_Pc (dC, dI) [.ref h, .int (nI n), .ref o] (wr_w h a cI (nI N) f o cJ g) [(cI, .int), (cJ, .long)]) (va_Qi (fun (r9 : Int32) (_ : Unit) => 0 = r9) (fun _ t9 => va_P (dC, dI) vwCl (wr_w h a cI (nI n) (cb_clr f (cb_cc N)) o cJ (vp_updL g 0 (Int32.toInt64 (nI N)))) t9.heap) (wr_A h a o)) 0 0 (wr_A h a o) := by
  refine va_MetW (cc := cL_space) (maxL := 4) (ret := (some .int)) (hh := [(0, 9, 12, 13)]) (by decide) rfl ?_
  intro p e s m args below meth c s₁ B hml hv
  obtain ⟨rfl, hP, hK⟩ := hv
  have hx := B.exec
  have hb := B.bytes
  have hr := B.returns
  have hts := atoms_spec (ws := wsL_space) B.pre
  have hown : s.vm.findClass RL = some m.cls := findClass_of_methodNamed B.named
  have hlocks := B.notSynchronized
  have hl := lv_entry ([.ref h, .int (nI n), .ref o]) (n := 4) (Nat.le_of_ble_eq_true rfl)
  rw [lg_entry_eq]
  generalize (lg_sl ([.ref h, .int (nI n), .ref o]) ++ List.replicate (4 - (lg_sl ([.ref h, .int (nI n), .ref o])).length) Slot.unset).toArray = ls at hl ⊢
  have hl : lv_has ls 4 [(0, .ref h), (1, .int (nI n)), (2, .ref o)] := hl
  have hS : va_S (wr_A h a o) s.heap s.heap [] := va_S.rf
  refine lv_aload_n hx hb dL_space_0 rfl (lv_at hl 2 rfl) ?_
  refine lv_iconst (v := 0) hx hb dL_space_1 (by decide) ?_
  refine lv_aload_n hx hb dL_space_2 rfl (lv_at hl 0 rfl) ?_
  refine lv_iload_n hx hb dL_space_3 rfl (lv_at hl 1 rfl) ?_
  refine va_calli (va_runV (As := [.int (nI n)]) (rest := [.int 0, .ref o]) ⟨hx, hb, hml, hown, hts⟩ (c_space l dC dI h a cI N f n h1 h2 hn1 hn2 hne) (cwV 1 hts gL_space_X0_space rfl rfl rfl (by decide +kernel) ⟨Nat.le_of_ble_eq_true rfl, Nat.le_of_ble_eq_true rfl⟩) (cb_preV (hK.sub (tys' := [(cI, .int)]) [0] rfl) (hP.sub (ws' := cb_w h a cI (nI N) f) [0, 1] rfl) [.int (nI n)]) rfl rfl hl.1 rfl (lv_room (Nat.le_of_ble_eq_true rfl)) dL_space_4 ⟨Nat.zero_le _, Nat.zero_le _⟩) hS (fun q _ h9 => Or.inl h9) (fun q h9 => Or.inl h9) (fun r9 u9 t9 H locs ht9 hvm9 hw9 hP9 hz9 hk9 hS => ?_)
  rw [ht9] at hP9
  subst hw9
  have hPo := cl_kept (hP.sub (ws' := ou_w o cJ g) [2] rfl) hk9 (fun x hx9 => by rw [List.mem_singleton] at hx9; subst hx9; intro h9; rcases h9 with h9 | h9; exact ho.1 h9; exact ho.2 h9)
  have hP : va_P (dC, dI) vwCl (wr_w h a cI (nI n) (cb_clr f (cb_cc N)) o cJ g) H := va_P.app hP9 hPo
  have hD := wr_D (cI := cI) (cJ := cJ) (n := (nI n)) (f := (cb_clr f (cb_cc N))) (g := g) hne ho
  refine lv_i2l (v := Int32.toInt64 (nI N)) hx hb dL_space_7 rfl ?_
  refine va_last (D := (dC, dI)) hx hb hK hP hD hS 2 1 rfl rfl (by unfold vp_in; decide) dL_space_8 (fun H locs hP _ hS => ?_)
  have hP : va_P (dC, dI) vwCl (wr_w h a cI (nI n) (cb_clr f (cb_cc N)) o cJ (vp_updL g 0 (Int32.toInt64 (nI N)))) H := hP
  refine lv_goto (tgt := 15) hx hb dL_space_9 (by decide) ?_
  refine lv_iconst (v := 0) hx hb dL_space_15 (by decide) ?_
  exact W.iret (v := 0) hx hb hr (fun t9 ht9 _ => ⟨⟨_, (), rfl, rfl, cl_at ht9 hP⟩, hS.F ht9⟩) hS.2.2 dL_space_16
set_option maxHeartbeats 4000000 in
set_option maxRecDepth 100000 in
/-- space, which catches -/
theorem v_space (l : Launch) (hst : l.stackTraces = false) (dC : Nat → ClassId) (dI : Nat → Nat → Nat) (h a : Nat) (cI : ClassId) (N : Nat) (f : Nat → Int32) (o : Nat) (cJ : ClassId) (g : Nat → Int64) (x : Int32) (hbad : x < 1 ∨ ¬ x ≤ 16384) : Met l yL_space wsL_space ({ frames := 8, cells := 1, slots := 6, locals := 180 }) (cb_Pt (dC, dI) [.ref h, .int x, .ref o] (wr_w h a cI (nI N) f o cJ g) [(cI, .int), (cJ, .long)]) (va_Qi (fun (r9 : Int32) (_ : Unit) => 1 = r9) (fun _ _ => True) (fun _ => False)) 1 6 (fun _ => False) := by
  refine va_MetW (cc := cL_space) (maxL := 4) (ret := (some .int)) (hh := [(0, 9, 12, 13)]) (by decide) rfl ?_
  intro p e s m args below meth c s₁ B hml hv
  obtain ⟨rfl, hP, hK, hJ⟩ := hv
  have hx := B.exec
  have hb := B.bytes
  have hr := B.returns
  have hts := atoms_spec (ws := wsL_space) B.pre
  have hown : s.vm.findClass RL = some m.cls := findClass_of_methodNamed B.named
  have hlocks := B.notSynchronized
  have hl := lv_entry ([.ref h, .int x, .ref o]) (n := 4) (Nat.le_of_ble_eq_true rfl)
  rw [lg_entry_eq]
  generalize (lg_sl ([.ref h, .int x, .ref o]) ++ List.replicate (4 - (lg_sl ([.ref h, .int x, .ref o])).length) Slot.unset).toArray = ls at hl ⊢
  have hl : lv_has ls 4 [(0, .ref h), (1, .int x), (2, .ref o)] := hl
  refine lv_aload_n hx hb dL_space_0 rfl (lv_at hl 2 rfl) ?_
  refine lv_iconst (v := 0) hx hb dL_space_1 (by decide) ?_
  refine lv_aload_n hx hb dL_space_2 rfl (lv_at hl 0 rfl) ?_
  refine lv_iload_n hx hb dL_space_3 rfl (lv_at hl 1 rfl) ?_
  have htab := xt_table (x := yL_space) B (hts (.codeWith yL_space cL_space 4 (some .int) [(0, 9, 12, 13)]) List.mem_cons_self)
  refine xt_catch (own := RL) (E := "java/lang/IllegalArgumentException") (xt_runV (As := [.int x]) (rest := [.int 0, .ref o]) ⟨hx, hb, hml, hown, hts⟩ (t_space l hst dC dI h a cI N f x hbad) (cwV 1 hts gL_space_X0_space rfl rfl rfl (by decide +kernel) ⟨Nat.le_of_ble_eq_true rfl, Nat.le_of_ble_eq_true rfl⟩) (cb_preT hJ (hK.sub (tys' := [(cI, .int)]) [0] rfl) (hP.sub (ws' := cb_w h a cI (nI N) f) [0, 1] rfl) [.int x]) rfl rfl hl.1 rfl (lv_room (Nat.le_of_ble_eq_true rfl)) dL_space_4 ⟨Nat.le_refl _, Nat.le_refl _⟩) hown htab (by decide) (by decide) (hts (.classLink RL 13 "java/lang/IllegalArgumentException") (by decide +kernel)) (xt_ride (State.WarmedH.refl s) (cb_nw_ok (.castable "java/lang/IllegalArgumentException" "java/lang/IllegalArgumentException") (by decide +kernel)) (hJ.2.2 (.castable "java/lang/IllegalArgumentException" "java/lang/IllegalArgumentException") (by decide +kernel))) (fun x9 H1 hz9 hk9 => ?_)
  refine lv_astore_n (lv' := [(3, .ref x9), (0, .ref h), (1, .int x), (2, .ref o)]) hx hb dL_space_12 rfl hl (by decide) rfl (fun ls hl => ?_)
  refine lv_iconst (v := 1) hx hb dL_space_13 (by decide) ?_
  exact W.iret (v := 1) hx hb hr (fun t9 ht9 _ => ⟨⟨_, (), rfl, rfl, trivial⟩, by rw [ht9]; exact hz9, fun q9 h9 _ => by rw [ht9]; exact hk9 q9 h9⟩) (fun q9 hq9 => nomatch hq9) dL_space_14
set_option maxHeartbeats 4000000 in
set_option maxRecDepth 100000 in
/-- write, which returns -/
theorem w_write (l : Launch) (dC : Nat → ClassId) (dI : Nat → Nat → Nat) (h a : Nat) (cI : ClassId) (N : Nat) (f : Nat → Int32) (o : Nat) (cJ : ClassId) (g : Nat → Int64) (hne : h ≠ a) (ho : o ≠ h ∧ o ≠ a) (k : Nat) (h2 : N ≤ 16384) (hk : k < N) : Met l yL_write wsL_write ({ frames := 5, cells := 0, slots := 0, locals := 130 }) (cb_Pc (dC, dI) [.ref h, .int (nI k), .ref o] (wr_w h a cI (nI N) f o cJ g) [(cI, .int), (cJ, .long)]) (va_Qi (fun (r9 : Int32) (_ : Unit) => 0 = r9) (fun _ t9 => va_P (dC, dI) vwCl (wr_w h a cI (nI N) (upd f (k / 32) (f (k / 32) ||| 1)) o cJ (vp_updL g 0 (Int32.toInt64 (nI (k / 32))))) t9.heap) (wr_A h a o)) 0 0 (wr_A h a o) := by
  refine va_MetW (cc := cL_write) (maxL := 4) (ret := (some .int)) (hh := [(0, 9, 12, 18)]) (by decide) rfl ?_
  intro p e s m args below meth c s₁ B hml hv
  obtain ⟨rfl, hP, hK⟩ := hv
  have hx := B.exec
  have hb := B.bytes
  have hr := B.returns
  have hts := atoms_spec (ws := wsL_write) B.pre
  have hown : s.vm.findClass RL = some m.cls := findClass_of_methodNamed B.named
  have hlocks := B.notSynchronized
  have hl := lv_entry ([.ref h, .int (nI k), .ref o]) (n := 4) (Nat.le_of_ble_eq_true rfl)
  rw [lg_entry_eq]
  generalize (lg_sl ([.ref h, .int (nI k), .ref o]) ++ List.replicate (4 - (lg_sl ([.ref h, .int (nI k), .ref o])).length) Slot.unset).toArray = ls at hl ⊢
  have hl : lv_has ls 4 [(0, .ref h), (1, .int (nI k)), (2, .ref o)] := hl
  have hS : va_S (wr_A h a o) s.heap s.heap [] := va_S.rf
  refine lv_aload_n hx hb dL_write_0 rfl (lv_at hl 2 rfl) ?_
  refine lv_iconst (v := 0) hx hb dL_write_1 (by decide) ?_
  refine lv_aload_n hx hb dL_write_2 rfl (lv_at hl 0 rfl) ?_
  refine lv_iload_n hx hb dL_write_3 rfl (lv_at hl 1 rfl) ?_
  refine va_calli (va_runV (As := [.int (nI k)]) (rest := [.int 0, .ref o]) ⟨hx, hb, hml, hown, hts⟩ (c_write l dC dI h a cI N f k h2 hk hne) (cwV 1 hts gL_write_X0_write rfl rfl rfl (by decide +kernel) ⟨Nat.le_of_ble_eq_true rfl, Nat.le_of_ble_eq_true rfl⟩) (cb_preV (hK.sub (tys' := [(cI, .int)]) [0] rfl) (hP.sub (ws' := cb_w h a cI (nI N) f) [0, 1] rfl) [.int (nI k)]) rfl rfl hl.1 rfl (lv_room (Nat.le_of_ble_eq_true rfl)) dL_write_4 ⟨Nat.zero_le _, Nat.zero_le _⟩) hS (fun q _ h9 => Or.inl h9) (fun q h9 => Or.inl h9) (fun r9 u9 t9 H locs ht9 hvm9 hw9 hP9 hz9 hk9 hS => ?_)
  rw [ht9] at hP9
  subst hw9
  have hPo := cl_kept (hP.sub (ws' := ou_w o cJ g) [2] rfl) hk9 (fun x hx9 => by rw [List.mem_singleton] at hx9; subst hx9; intro h9; rcases h9 with h9 | h9; exact ho.1 h9; exact ho.2 h9)
  have hP : va_P (dC, dI) vwCl (wr_w h a cI (nI N) (upd f (k / 32) (f (k / 32) ||| 1)) o cJ g) H := va_P.app hP9 hPo
  have hD := wr_D (cI := cI) (cJ := cJ) (n := (nI N)) (f := (upd f (k / 32) (f (k / 32) ||| 1))) (g := g) hne ho
  refine lv_i2l (v := Int32.toInt64 (nI (k / 32))) hx hb dL_write_7 rfl ?_
  refine va_last (D := (dC, dI)) hx hb hK hP hD hS 2 1 rfl rfl (by unfold vp_in; decide) dL_write_8 (fun H locs hP _ hS => ?_)
  have hP : va_P (dC, dI) vwCl (wr_w h a cI (nI N) (upd f (k / 32) (f (k / 32) ||| 1)) o cJ (vp_updL g 0 (Int32.toInt64 (nI (k / 32))))) H := hP
  refine lv_goto (tgt := 15) hx hb dL_write_9 (by decide) ?_
  refine lv_iconst (v := 0) hx hb dL_write_15 (by decide) ?_
  exact W.iret (v := 0) hx hb hr (fun t9 ht9 _ => ⟨⟨_, (), rfl, rfl, cl_at ht9 hP⟩, hS.F ht9⟩) hS.2.2 dL_write_16
set_option maxHeartbeats 4000000 in
set_option maxRecDepth 100000 in
/-- write, which catches -/
theorem v_write (l : Launch) (hst : l.stackTraces = false) (dC : Nat → ClassId) (dI : Nat → Nat → Nat) (h a : Nat) (cI : ClassId) (N : Nat) (f : Nat → Int32) (o : Nat) (cJ : ClassId) (g : Nat → Int64) (x : Int32) (hbad : x < 0 ∨ ¬ x < nI N) : Met l yL_write wsL_write ({ frames := 8, cells := 1, slots := 6, locals := 180 }) (cb_Pt (dC, dI) [.ref h, .int x, .ref o] (wr_w h a cI (nI N) f o cJ g) [(cI, .int), (cJ, .long)]) (va_Qi (fun (r9 : Int32) (_ : Unit) => 1 = r9) (fun _ _ => True) (fun _ => False)) 1 6 (fun _ => False) := by
  refine va_MetW (cc := cL_write) (maxL := 4) (ret := (some .int)) (hh := [(0, 9, 12, 18)]) (by decide) rfl ?_
  intro p e s m args below meth c s₁ B hml hv
  obtain ⟨rfl, hP, hK, hJ⟩ := hv
  have hx := B.exec
  have hb := B.bytes
  have hr := B.returns
  have hts := atoms_spec (ws := wsL_write) B.pre
  have hown : s.vm.findClass RL = some m.cls := findClass_of_methodNamed B.named
  have hlocks := B.notSynchronized
  have hl := lv_entry ([.ref h, .int x, .ref o]) (n := 4) (Nat.le_of_ble_eq_true rfl)
  rw [lg_entry_eq]
  generalize (lg_sl ([.ref h, .int x, .ref o]) ++ List.replicate (4 - (lg_sl ([.ref h, .int x, .ref o])).length) Slot.unset).toArray = ls at hl ⊢
  have hl : lv_has ls 4 [(0, .ref h), (1, .int x), (2, .ref o)] := hl
  refine lv_aload_n hx hb dL_write_0 rfl (lv_at hl 2 rfl) ?_
  refine lv_iconst (v := 0) hx hb dL_write_1 (by decide) ?_
  refine lv_aload_n hx hb dL_write_2 rfl (lv_at hl 0 rfl) ?_
  refine lv_iload_n hx hb dL_write_3 rfl (lv_at hl 1 rfl) ?_
  have htab := xt_table (x := yL_write) B (hts (.codeWith yL_write cL_write 4 (some .int) [(0, 9, 12, 18)]) List.mem_cons_self)
  refine xt_catch (own := RL) (E := "java/lang/IndexOutOfBoundsException") (xt_runV (As := [.int x]) (rest := [.int 0, .ref o]) ⟨hx, hb, hml, hown, hts⟩ (t_write l hst dC dI h a cI N f x hbad) (cwV 1 hts gL_write_X0_write rfl rfl rfl (by decide +kernel) ⟨Nat.le_of_ble_eq_true rfl, Nat.le_of_ble_eq_true rfl⟩) (cb_preT hJ (hK.sub (tys' := [(cI, .int)]) [0] rfl) (hP.sub (ws' := cb_w h a cI (nI N) f) [0, 1] rfl) [.int x]) rfl rfl hl.1 rfl (lv_room (Nat.le_of_ble_eq_true rfl)) dL_write_4 ⟨Nat.le_refl _, Nat.le_refl _⟩) hown htab (by decide) (by decide) (hts (.classLink RL 18 "java/lang/IndexOutOfBoundsException") (by decide +kernel)) (xt_ride (State.WarmedH.refl s) (cb_nw_ok (.castable "java/lang/IndexOutOfBoundsException" "java/lang/IndexOutOfBoundsException") (by decide +kernel)) (hJ.2.2 (.castable "java/lang/IndexOutOfBoundsException" "java/lang/IndexOutOfBoundsException") (by decide +kernel))) (fun x9 H1 hz9 hk9 => ?_)
  refine lv_astore_n (lv' := [(3, .ref x9), (0, .ref h), (1, .int x), (2, .ref o)]) hx hb dL_write_12 rfl hl (by decide) rfl (fun ls hl => ?_)
  refine lv_iconst (v := 1) hx hb dL_write_13 (by decide) ?_
  exact W.iret (v := 1) hx hb hr (fun t9 ht9 _ => ⟨⟨_, (), rfl, rfl, trivial⟩, by rw [ht9]; exact hz9, fun q9 h9 _ => by rw [ht9]; exact hk9 q9 h9⟩) (fun q9 hq9 => nomatch hq9) dL_write_14
set_option maxHeartbeats 4000000 in
set_option maxRecDepth 100000 in
/-- cover, which returns -/
theorem w_cover (l : Launch) (dC : Nat → ClassId) (dI : Nat → Nat → Nat) (h a : Nat) (cI : ClassId) (N : Nat) (f : Nat → Int32) (o : Nat) (cJ : ClassId) (g : Nat → Int64) (hne : h ≠ a) (ho : o ≠ h ∧ o ≠ a) (k z : Nat) (h2 : N ≤ 16384) (hz : 1 ≤ z) (hk : k + z ≤ N) : Met l yL_cover wsL_cover ({ frames := 5, cells := 0, slots := 0, locals := 130 }) (cb_Pc (dC, dI) [.ref h, .int (nI k), .int (nI z), .ref o] (wr_w h a cI (nI N) f o cJ g) [(cI, .int), (cJ, .long)]) (va_Qi (fun (r9 : Int32) (_ : Unit) => 0 = r9) (fun _ t9 => va_P (dC, dI) vwCl (wr_w h a cI (nI N) (cb_cov f (k / 32) (((k + z - 1) / 32) + 1)) o cJ (vp_updL g 0 (Int32.toInt64 (nI (((k + z - 1) / 32) - k / 32 + 1))))) t9.heap) (wr_A h a o)) 0 0 (wr_A h a o) := by
  refine va_MetW (cc := cL_cover) (maxL := 5) (ret := (some .int)) (hh := [(0, 10, 13, 18)]) (by decide) rfl ?_
  intro p e s m args below meth c s₁ B hml hv
  obtain ⟨rfl, hP, hK⟩ := hv
  have hx := B.exec
  have hb := B.bytes
  have hr := B.returns
  have hts := atoms_spec (ws := wsL_cover) B.pre
  have hown : s.vm.findClass RL = some m.cls := findClass_of_methodNamed B.named
  have hlocks := B.notSynchronized
  have hl := lv_entry ([.ref h, .int (nI k), .int (nI z), .ref o]) (n := 5) (Nat.le_of_ble_eq_true rfl)
  rw [lg_entry_eq]
  generalize (lg_sl ([.ref h, .int (nI k), .int (nI z), .ref o]) ++ List.replicate (5 - (lg_sl ([.ref h, .int (nI k), .int (nI z), .ref o])).length) Slot.unset).toArray = ls at hl ⊢
  have hl : lv_has ls 5 [(0, .ref h), (1, .int (nI k)), (2, .int (nI z)), (3, .ref o)] := hl
  have hS : va_S (wr_A h a o) s.heap s.heap [] := va_S.rf
  refine lv_aload_n hx hb dL_cover_0 rfl (lv_at hl 3 rfl) ?_
  refine lv_iconst (v := 0) hx hb dL_cover_1 (by decide) ?_
  refine lv_aload_n hx hb dL_cover_2 rfl (lv_at hl 0 rfl) ?_
  refine lv_iload_n hx hb dL_cover_3 rfl (lv_at hl 1 rfl) ?_
  refine lv_iload_n hx hb dL_cover_4 rfl (lv_at hl 2 rfl) ?_
  refine va_calli (va_runV (As := [.int (nI k), .int (nI z)]) (rest := [.int 0, .ref o]) ⟨hx, hb, hml, hown, hts⟩ (c_cover l dC dI h a cI N f k z h2 hz hk hne) (cwV 2 hts gL_cover_X0_cover rfl rfl rfl (by decide +kernel) ⟨Nat.le_of_ble_eq_true rfl, Nat.le_of_ble_eq_true rfl⟩) (cb_preV (hK.sub (tys' := [(cI, .int)]) [0] rfl) (hP.sub (ws' := cb_w h a cI (nI N) f) [0, 1] rfl) [.int (nI k), .int (nI z)]) rfl rfl hl.1 rfl (lv_room (Nat.le_of_ble_eq_true rfl)) dL_cover_5 ⟨Nat.zero_le _, Nat.zero_le _⟩) hS (fun q _ h9 => Or.inl h9) (fun q h9 => Or.inl h9) (fun r9 u9 t9 H locs ht9 hvm9 hw9 hP9 hz9 hk9 hS => ?_)
  rw [ht9] at hP9
  subst hw9
  have hPo := cl_kept (hP.sub (ws' := ou_w o cJ g) [2] rfl) hk9 (fun x hx9 => by rw [List.mem_singleton] at hx9; subst hx9; intro h9; rcases h9 with h9 | h9; exact ho.1 h9; exact ho.2 h9)
  have hP : va_P (dC, dI) vwCl (wr_w h a cI (nI N) (cb_cov f (k / 32) (((k + z - 1) / 32) + 1)) o cJ g) H := va_P.app hP9 hPo
  have hD := wr_D (cI := cI) (cJ := cJ) (n := (nI N)) (f := (cb_cov f (k / 32) (((k + z - 1) / 32) + 1))) (g := g) hne ho
  refine lv_i2l (v := Int32.toInt64 (nI (((k + z - 1) / 32) - k / 32 + 1))) hx hb dL_cover_8 rfl ?_
  refine va_last (D := (dC, dI)) hx hb hK hP hD hS 2 1 rfl rfl (by unfold vp_in; decide) dL_cover_9 (fun H locs hP _ hS => ?_)
  have hP : va_P (dC, dI) vwCl (wr_w h a cI (nI N) (cb_cov f (k / 32) (((k + z - 1) / 32) + 1)) o cJ (vp_updL g 0 (Int32.toInt64 (nI (((k + z - 1) / 32) - k / 32 + 1))))) H := hP
  refine lv_goto (tgt := 17) hx hb dL_cover_10 (by decide) ?_
  refine lv_iconst (v := 0) hx hb dL_cover_17 (by decide) ?_
  exact W.iret (v := 0) hx hb hr (fun t9 ht9 _ => ⟨⟨_, (), rfl, rfl, cl_at ht9 hP⟩, hS.F ht9⟩) hS.2.2 dL_cover_18
set_option maxHeartbeats 4000000 in
set_option maxRecDepth 100000 in
/-- cover, which catches -/
theorem v_cover1 (l : Launch) (hst : l.stackTraces = false) (dC : Nat → ClassId) (dI : Nat → Nat → Nat) (h a : Nat) (cI : ClassId) (N : Nat) (f : Nat → Int32) (o : Nat) (cJ : ClassId) (g : Nat → Int64) (x y : Int32) (hbad : x < 0 ∨ ¬ x < nI N) : Met l yL_cover wsL_cover ({ frames := 8, cells := 1, slots := 6, locals := 180 }) (cb_Pt (dC, dI) [.ref h, .int x, .int y, .ref o] (wr_w h a cI (nI N) f o cJ g) [(cI, .int), (cJ, .long)]) (va_Qi (fun (r9 : Int32) (_ : Unit) => 1 = r9) (fun _ _ => True) (fun _ => False)) 1 6 (fun _ => False) := by
  refine va_MetW (cc := cL_cover) (maxL := 5) (ret := (some .int)) (hh := [(0, 10, 13, 18)]) (by decide) rfl ?_
  intro p e s m args below meth c s₁ B hml hv
  obtain ⟨rfl, hP, hK, hJ⟩ := hv
  have hx := B.exec
  have hb := B.bytes
  have hr := B.returns
  have hts := atoms_spec (ws := wsL_cover) B.pre
  have hown : s.vm.findClass RL = some m.cls := findClass_of_methodNamed B.named
  have hlocks := B.notSynchronized
  have hl := lv_entry ([.ref h, .int x, .int y, .ref o]) (n := 5) (Nat.le_of_ble_eq_true rfl)
  rw [lg_entry_eq]
  generalize (lg_sl ([.ref h, .int x, .int y, .ref o]) ++ List.replicate (5 - (lg_sl ([.ref h, .int x, .int y, .ref o])).length) Slot.unset).toArray = ls at hl ⊢
  have hl : lv_has ls 5 [(0, .ref h), (1, .int x), (2, .int y), (3, .ref o)] := hl
  refine lv_aload_n hx hb dL_cover_0 rfl (lv_at hl 3 rfl) ?_
  refine lv_iconst (v := 0) hx hb dL_cover_1 (by decide) ?_
  refine lv_aload_n hx hb dL_cover_2 rfl (lv_at hl 0 rfl) ?_
  refine lv_iload_n hx hb dL_cover_3 rfl (lv_at hl 1 rfl) ?_
  refine lv_iload_n hx hb dL_cover_4 rfl (lv_at hl 2 rfl) ?_
  have htab := xt_table (x := yL_cover) B (hts (.codeWith yL_cover cL_cover 5 (some .int) [(0, 10, 13, 18)]) List.mem_cons_self)
  refine xt_catch (own := RL) (E := "java/lang/IndexOutOfBoundsException") (xt_runV (As := [.int x, .int y]) (rest := [.int 0, .ref o]) ⟨hx, hb, hml, hown, hts⟩ (t_cover1 l hst dC dI h a cI N f x y hbad) (cwV 2 hts gL_cover_X0_cover rfl rfl rfl (by decide +kernel) ⟨Nat.le_of_ble_eq_true rfl, Nat.le_of_ble_eq_true rfl⟩) (cb_preT hJ (hK.sub (tys' := [(cI, .int)]) [0] rfl) (hP.sub (ws' := cb_w h a cI (nI N) f) [0, 1] rfl) [.int x, .int y]) rfl rfl hl.1 rfl (lv_room (Nat.le_of_ble_eq_true rfl)) dL_cover_5 ⟨Nat.le_refl _, Nat.le_refl _⟩) hown htab (by decide) (by decide) (hts (.classLink RL 18 "java/lang/IndexOutOfBoundsException") (by decide +kernel)) (xt_ride (State.WarmedH.refl s) (cb_nw_ok (.castable "java/lang/IndexOutOfBoundsException" "java/lang/IndexOutOfBoundsException") (by decide +kernel)) (hJ.2.2 (.castable "java/lang/IndexOutOfBoundsException" "java/lang/IndexOutOfBoundsException") (by decide +kernel))) (fun x9 H1 hz9 hk9 => ?_)
  refine lv_astore (lv' := [(4, .ref x9), (0, .ref h), (1, .int x), (2, .int y), (3, .ref o)]) hx hb dL_cover_13 hl (by decide) rfl (fun ls hl => ?_)
  refine lv_iconst (v := 1) hx hb dL_cover_15 (by decide) ?_
  exact W.iret (v := 1) hx hb hr (fun t9 ht9 _ => ⟨⟨_, (), rfl, rfl, trivial⟩, by rw [ht9]; exact hz9, fun q9 h9 _ => by rw [ht9]; exact hk9 q9 h9⟩) (fun q9 hq9 => nomatch hq9) dL_cover_16
set_option maxHeartbeats 4000000 in
set_option maxRecDepth 100000 in
/-- cover, which catches -/
theorem v_cover2 (l : Launch) (hst : l.stackTraces = false) (dC : Nat → ClassId) (dI : Nat → Nat → Nat) (h a : Nat) (cI : ClassId) (N : Nat) (f : Nat → Int32) (o : Nat) (cJ : ClassId) (g : Nat → Int64) (k : Nat) (y : Int32) (h2 : N ≤ 16384) (hk : k < N) (hbad : y < 1 ∨ ¬ y ≤ nI N - nI k) : Met l yL_cover wsL_cover ({ frames := 8, cells := 1, slots := 6, locals := 180 }) (cb_Pt (dC, dI) [.ref h, .int (nI k), .int y, .ref o] (wr_w h a cI (nI N) f o cJ g) [(cI, .int), (cJ, .long)]) (va_Qi (fun (r9 : Int32) (_ : Unit) => 1 = r9) (fun _ _ => True) (fun _ => False)) 1 6 (fun _ => False) := by
  refine va_MetW (cc := cL_cover) (maxL := 5) (ret := (some .int)) (hh := [(0, 10, 13, 18)]) (by decide) rfl ?_
  intro p e s m args below meth c s₁ B hml hv
  obtain ⟨rfl, hP, hK, hJ⟩ := hv
  have hx := B.exec
  have hb := B.bytes
  have hr := B.returns
  have hts := atoms_spec (ws := wsL_cover) B.pre
  have hown : s.vm.findClass RL = some m.cls := findClass_of_methodNamed B.named
  have hlocks := B.notSynchronized
  have hl := lv_entry ([.ref h, .int (nI k), .int y, .ref o]) (n := 5) (Nat.le_of_ble_eq_true rfl)
  rw [lg_entry_eq]
  generalize (lg_sl ([.ref h, .int (nI k), .int y, .ref o]) ++ List.replicate (5 - (lg_sl ([.ref h, .int (nI k), .int y, .ref o])).length) Slot.unset).toArray = ls at hl ⊢
  have hl : lv_has ls 5 [(0, .ref h), (1, .int (nI k)), (2, .int y), (3, .ref o)] := hl
  refine lv_aload_n hx hb dL_cover_0 rfl (lv_at hl 3 rfl) ?_
  refine lv_iconst (v := 0) hx hb dL_cover_1 (by decide) ?_
  refine lv_aload_n hx hb dL_cover_2 rfl (lv_at hl 0 rfl) ?_
  refine lv_iload_n hx hb dL_cover_3 rfl (lv_at hl 1 rfl) ?_
  refine lv_iload_n hx hb dL_cover_4 rfl (lv_at hl 2 rfl) ?_
  have htab := xt_table (x := yL_cover) B (hts (.codeWith yL_cover cL_cover 5 (some .int) [(0, 10, 13, 18)]) List.mem_cons_self)
  refine xt_catch (own := RL) (E := "java/lang/IndexOutOfBoundsException") (xt_runV (As := [.int (nI k), .int y]) (rest := [.int 0, .ref o]) ⟨hx, hb, hml, hown, hts⟩ (t_cover2 l hst dC dI h a cI N f k y h2 hk hbad) (cwV 2 hts gL_cover_X0_cover rfl rfl rfl (by decide +kernel) ⟨Nat.le_of_ble_eq_true rfl, Nat.le_of_ble_eq_true rfl⟩) (cb_preT hJ (hK.sub (tys' := [(cI, .int)]) [0] rfl) (hP.sub (ws' := cb_w h a cI (nI N) f) [0, 1] rfl) [.int (nI k), .int y]) rfl rfl hl.1 rfl (lv_room (Nat.le_of_ble_eq_true rfl)) dL_cover_5 ⟨Nat.le_refl _, Nat.le_refl _⟩) hown htab (by decide) (by decide) (hts (.classLink RL 18 "java/lang/IndexOutOfBoundsException") (by decide +kernel)) (xt_ride (State.WarmedH.refl s) (cb_nw_ok (.castable "java/lang/IndexOutOfBoundsException" "java/lang/IndexOutOfBoundsException") (by decide +kernel)) (hJ.2.2 (.castable "java/lang/IndexOutOfBoundsException" "java/lang/IndexOutOfBoundsException") (by decide +kernel))) (fun x9 H1 hz9 hk9 => ?_)
  refine lv_astore (lv' := [(4, .ref x9), (0, .ref h), (1, .int (nI k)), (2, .int y), (3, .ref o)]) hx hb dL_cover_13 hl (by decide) rfl (fun ls hl => ?_)
  refine lv_iconst (v := 1) hx hb dL_cover_15 (by decide) ?_
  exact W.iret (v := 1) hx hb hr (fun t9 ht9 _ => ⟨⟨_, (), rfl, rfl, trivial⟩, by rw [ht9]; exact hz9, fun q9 h9 _ => by rw [ht9]; exact hk9 q9 h9⟩) (fun q9 hq9 => nomatch hq9) dL_cover_16
set_option maxHeartbeats 4000000 in
set_option maxRecDepth 100000 in
/-- clean, which returns -/
theorem w_clean (l : Launch) (dC : Nat → ClassId) (dI : Nat → Nat → Nat) (h a : Nat) (cI : ClassId) (N : Nat) (f : Nat → Int32) (o : Nat) (cJ : ClassId) (g : Nat → Int64) (hne : h ≠ a) (ho : o ≠ h ∧ o ≠ a) (k : Nat) (b : Int32) (h1 : 1 ≤ N) (h2 : N ≤ 16384) (hk : k < (cb_cc N)) : Met l yL_clean wsL_clean ({ frames := 5, cells := 0, slots := 0, locals := 130 }) (cb_Pc (dC, dI) [.ref h, .int (nI k), .int b, .ref o] (wr_w h a cI (nI N) f o cJ g) [(cI, .int), (cJ, .long)]) (va_Qi (fun (r9 : Int32) (_ : Unit) => 0 = r9) (fun _ t9 => va_P (dC, dI) vwCl (wr_w h a cI (nI N) (cb_cl f k b) o cJ (vp_updL g 0 (if (if f k &&& 1 = 0 then (0 : Int32) else 1) = 0 then (0 : Int64) else 1))) t9.heap) (wr_A h a o)) 0 0 (wr_A h a o) := by
  refine va_MetW (cc := cL_clean) (maxL := 5) (ret := (some .int)) (hh := [(0, 17, 20, 18)]) (by decide) rfl ?_
  intro p e s m args below meth c s₁ B hml hv
  obtain ⟨rfl, hP, hK⟩ := hv
  have hx := B.exec
  have hb := B.bytes
  have hr := B.returns
  have hts := atoms_spec (ws := wsL_clean) B.pre
  have hown : s.vm.findClass RL = some m.cls := findClass_of_methodNamed B.named
  have hlocks := B.notSynchronized
  have hl := lv_entry ([.ref h, .int (nI k), .int b, .ref o]) (n := 5) (Nat.le_of_ble_eq_true rfl)
  rw [lg_entry_eq]
  generalize (lg_sl ([.ref h, .int (nI k), .int b, .ref o]) ++ List.replicate (5 - (lg_sl ([.ref h, .int (nI k), .int b, .ref o])).length) Slot.unset).toArray = ls at hl ⊢
  have hl : lv_has ls 5 [(0, .ref h), (1, .int (nI k)), (2, .int b), (3, .ref o)] := hl
  have hS : va_S (wr_A h a o) s.heap s.heap [] := va_S.rf
  refine lv_aload_n hx hb dL_clean_0 rfl (lv_at hl 3 rfl) ?_
  refine lv_iconst (v := 0) hx hb dL_clean_1 (by decide) ?_
  refine lv_aload_n hx hb dL_clean_2 rfl (lv_at hl 0 rfl) ?_
  refine lv_iload_n hx hb dL_clean_3 rfl (lv_at hl 1 rfl) ?_
  refine lv_iload_n hx hb dL_clean_4 rfl (lv_at hl 2 rfl) ?_
  refine va_calli (va_runV (As := [.int (nI k), .int b]) (rest := [.int 0, .ref o]) ⟨hx, hb, hml, hown, hts⟩ (c_clean l dC dI h a cI N f k b h1 h2 hk hne) (cwV 2 hts gL_clean_X0_clean rfl rfl rfl (by decide +kernel) ⟨Nat.le_of_ble_eq_true rfl, Nat.le_of_ble_eq_true rfl⟩) (cb_preV (hK.sub (tys' := [(cI, .int)]) [0] rfl) (hP.sub (ws' := cb_w h a cI (nI N) f) [0, 1] rfl) [.int (nI k), .int b]) rfl rfl hl.1 rfl (lv_room (Nat.le_of_ble_eq_true rfl)) dL_clean_5 ⟨Nat.zero_le _, Nat.zero_le _⟩) hS (fun q _ h9 => Or.inl h9) (fun q h9 => Or.inl h9) (fun r9 u9 t9 H locs ht9 hvm9 hw9 hP9 hz9 hk9 hS => ?_)
  rw [ht9] at hP9
  subst hw9
  have hPo := cl_kept (hP.sub (ws' := ou_w o cJ g) [2] rfl) hk9 (fun x hx9 => by rw [List.mem_singleton] at hx9; subst hx9; intro h9; rcases h9 with h9 | h9; exact ho.1 h9; exact ho.2 h9)
  have hP : va_P (dC, dI) vwCl (wr_w h a cI (nI N) (cb_cl f k b) o cJ g) H := va_P.app hP9 hPo
  have hD := wr_D (cI := cI) (cJ := cJ) (n := (nI N)) (f := (cb_cl f k b)) (g := g) hne ho
  refine lv_if_eq (tgt := 15) hx hb dL_clean_8 (by decide) (fun hc => ?_) (fun hc => ?_)
  · refine lv_lconst (v := 0) hx hb dL_clean_15 (by decide) ?_
    refine va_last (D := (dC, dI)) hx hb hK hP hD hS 2 1 rfl rfl (by unfold vp_in; decide) dL_clean_16 (fun H locs hP _ hS => ?_)
    have hP : va_P (dC, dI) vwCl (wr_w h a cI (nI N) (cb_cl f k b) o cJ (vp_updL g 0 0)) H := hP
    refine lv_goto (tgt := 24) hx hb dL_clean_17 (by decide) ?_
    refine lv_iconst (v := 0) hx hb dL_clean_24 (by decide) ?_
    have hP : va_P (dC, dI) vwCl (wr_w h a cI (nI N) (cb_cl f k b) o cJ (vp_updL g 0 (if (if f k &&& 1 = 0 then (0 : Int32) else 1) = 0 then (0 : Int64) else 1))) H := by rw [if_pos hc]; exact hP
    exact W.iret (v := 0) hx hb hr (fun t9 ht9 _ => ⟨⟨_, (), rfl, rfl, cl_at ht9 hP⟩, hS.F ht9⟩) hS.2.2 dL_clean_25
  · refine lv_lconst (v := 1) hx hb dL_clean_11 (by decide) ?_
    refine lv_goto (tgt := 16) hx hb dL_clean_12 (by decide) ?_
    refine va_last (D := (dC, dI)) hx hb hK hP hD hS 2 1 rfl rfl (by unfold vp_in; decide) dL_clean_16 (fun H locs hP _ hS => ?_)
    have hP : va_P (dC, dI) vwCl (wr_w h a cI (nI N) (cb_cl f k b) o cJ (vp_updL g 0 1)) H := hP
    refine lv_goto (tgt := 24) hx hb dL_clean_17 (by decide) ?_
    refine lv_iconst (v := 0) hx hb dL_clean_24 (by decide) ?_
    have hP : va_P (dC, dI) vwCl (wr_w h a cI (nI N) (cb_cl f k b) o cJ (vp_updL g 0 (if (if f k &&& 1 = 0 then (0 : Int32) else 1) = 0 then (0 : Int64) else 1))) H := by rw [if_neg hc]; exact hP
    exact W.iret (v := 0) hx hb hr (fun t9 ht9 _ => ⟨⟨_, (), rfl, rfl, cl_at ht9 hP⟩, hS.F ht9⟩) hS.2.2 dL_clean_25
set_option maxHeartbeats 4000000 in
set_option maxRecDepth 100000 in
/-- clean, which catches -/
theorem v_clean (l : Launch) (hst : l.stackTraces = false) (dC : Nat → ClassId) (dI : Nat → Nat → Nat) (h a : Nat) (cI : ClassId) (N : Nat) (f : Nat → Int32) (o : Nat) (cJ : ClassId) (g : Nat → Int64) (x b : Int32) (h1 : 1 ≤ N) (h2 : N ≤ 16384) (hbad : x < 0 ∨ ¬ x < nI (cb_cc N)) : Met l yL_clean wsL_clean ({ frames := 8, cells := 1, slots := 6, locals := 180 }) (cb_Pt (dC, dI) [.ref h, .int x, .int b, .ref o] (wr_w h a cI (nI N) f o cJ g) [(cI, .int), (cJ, .long)]) (va_Qi (fun (r9 : Int32) (_ : Unit) => 1 = r9) (fun _ _ => True) (fun _ => False)) 1 6 (fun _ => False) := by
  refine va_MetW (cc := cL_clean) (maxL := 5) (ret := (some .int)) (hh := [(0, 17, 20, 18)]) (by decide) rfl ?_
  intro p e s m args below meth c s₁ B hml hv
  obtain ⟨rfl, hP, hK, hJ⟩ := hv
  have hx := B.exec
  have hb := B.bytes
  have hr := B.returns
  have hts := atoms_spec (ws := wsL_clean) B.pre
  have hown : s.vm.findClass RL = some m.cls := findClass_of_methodNamed B.named
  have hlocks := B.notSynchronized
  have hl := lv_entry ([.ref h, .int x, .int b, .ref o]) (n := 5) (Nat.le_of_ble_eq_true rfl)
  rw [lg_entry_eq]
  generalize (lg_sl ([.ref h, .int x, .int b, .ref o]) ++ List.replicate (5 - (lg_sl ([.ref h, .int x, .int b, .ref o])).length) Slot.unset).toArray = ls at hl ⊢
  have hl : lv_has ls 5 [(0, .ref h), (1, .int x), (2, .int b), (3, .ref o)] := hl
  refine lv_aload_n hx hb dL_clean_0 rfl (lv_at hl 3 rfl) ?_
  refine lv_iconst (v := 0) hx hb dL_clean_1 (by decide) ?_
  refine lv_aload_n hx hb dL_clean_2 rfl (lv_at hl 0 rfl) ?_
  refine lv_iload_n hx hb dL_clean_3 rfl (lv_at hl 1 rfl) ?_
  refine lv_iload_n hx hb dL_clean_4 rfl (lv_at hl 2 rfl) ?_
  have htab := xt_table (x := yL_clean) B (hts (.codeWith yL_clean cL_clean 5 (some .int) [(0, 17, 20, 18)]) List.mem_cons_self)
  refine xt_catch (own := RL) (E := "java/lang/IndexOutOfBoundsException") (xt_runV (As := [.int x, .int b]) (rest := [.int 0, .ref o]) ⟨hx, hb, hml, hown, hts⟩ (t_clean l hst dC dI h a cI N f x b h1 h2 hbad) (cwV 2 hts gL_clean_X0_clean rfl rfl rfl (by decide +kernel) ⟨Nat.le_of_ble_eq_true rfl, Nat.le_of_ble_eq_true rfl⟩) (cb_preT hJ (hK.sub (tys' := [(cI, .int)]) [0] rfl) (hP.sub (ws' := cb_w h a cI (nI N) f) [0, 1] rfl) [.int x, .int b]) rfl rfl hl.1 rfl (lv_room (Nat.le_of_ble_eq_true rfl)) dL_clean_5 ⟨Nat.le_refl _, Nat.le_refl _⟩) hown htab (by decide) (by decide) (hts (.classLink RL 18 "java/lang/IndexOutOfBoundsException") (by decide +kernel)) (xt_ride (State.WarmedH.refl s) (cb_nw_ok (.castable "java/lang/IndexOutOfBoundsException" "java/lang/IndexOutOfBoundsException") (by decide +kernel)) (hJ.2.2 (.castable "java/lang/IndexOutOfBoundsException" "java/lang/IndexOutOfBoundsException") (by decide +kernel))) (fun x9 H1 hz9 hk9 => ?_)
  refine lv_astore (lv' := [(4, .ref x9), (0, .ref h), (1, .int x), (2, .int b), (3, .ref o)]) hx hb dL_clean_20 hl (by decide) rfl (fun ls hl => ?_)
  refine lv_iconst (v := 1) hx hb dL_clean_22 (by decide) ?_
  exact W.iret (v := 1) hx hb hr (fun t9 ht9 _ => ⟨⟨_, (), rfl, rfl, trivial⟩, by rw [ht9]; exact hz9, fun q9 h9 _ => by rw [ht9]; exact hk9 q9 h9⟩) (fun q9 hq9 => nomatch hq9) dL_clean_23
set_option maxHeartbeats 4000000 in
set_option maxRecDepth 100000 in
/-- unsave, which returns -/
theorem w_unsave (l : Launch) (dC : Nat → ClassId) (dI : Nat → Nat → Nat) (h a : Nat) (cI : ClassId) (N : Nat) (f : Nat → Int32) (o : Nat) (cJ : ClassId) (g : Nat → Int64) (hne : h ≠ a) (ho : o ≠ h ∧ o ≠ a) (k : Nat) (h1 : 1 ≤ N) (h2 : N ≤ 16384) (hk : k < (cb_cc N)) : Met l yL_unsave wsL_unsave ({ frames := 5, cells := 0, slots := 0, locals := 130 }) (cb_Pc (dC, dI) [.ref h, .int (nI k), .ref o] (wr_w h a cI (nI N) f o cJ g) [(cI, .int), (cJ, .long)]) (va_Qi (fun (r9 : Int32) (_ : Unit) => 0 = r9) (fun _ t9 => va_P (dC, dI) vwCl (wr_w h a cI (nI N) (upd f k (f k &&& (2 ^^^ (-1)))) o cJ (vp_updL g 0 (if (if f k &&& 2 = 0 then (0 : Int32) else 1) = 0 then (0 : Int64) else 1))) t9.heap) (wr_A h a o)) 0 0 (wr_A h a o) := by
  refine va_MetW (cc := cL_unsave) (maxL := 4) (ret := (some .int)) (hh := [(0, 16, 19, 18)]) (by decide) rfl ?_
  intro p e s m args below meth c s₁ B hml hv
  obtain ⟨rfl, hP, hK⟩ := hv
  have hx := B.exec
  have hb := B.bytes
  have hr := B.returns
  have hts := atoms_spec (ws := wsL_unsave) B.pre
  have hown : s.vm.findClass RL = some m.cls := findClass_of_methodNamed B.named
  have hlocks := B.notSynchronized
  have hl := lv_entry ([.ref h, .int (nI k), .ref o]) (n := 4) (Nat.le_of_ble_eq_true rfl)
  rw [lg_entry_eq]
  generalize (lg_sl ([.ref h, .int (nI k), .ref o]) ++ List.replicate (4 - (lg_sl ([.ref h, .int (nI k), .ref o])).length) Slot.unset).toArray = ls at hl ⊢
  have hl : lv_has ls 4 [(0, .ref h), (1, .int (nI k)), (2, .ref o)] := hl
  have hS : va_S (wr_A h a o) s.heap s.heap [] := va_S.rf
  refine lv_aload_n hx hb dL_unsave_0 rfl (lv_at hl 2 rfl) ?_
  refine lv_iconst (v := 0) hx hb dL_unsave_1 (by decide) ?_
  refine lv_aload_n hx hb dL_unsave_2 rfl (lv_at hl 0 rfl) ?_
  refine lv_iload_n hx hb dL_unsave_3 rfl (lv_at hl 1 rfl) ?_
  refine va_calli (va_runV (As := [.int (nI k)]) (rest := [.int 0, .ref o]) ⟨hx, hb, hml, hown, hts⟩ (c_unsave l dC dI h a cI N f k h1 h2 hk hne) (cwV 1 hts gL_unsave_X0_unsave rfl rfl rfl (by decide +kernel) ⟨Nat.le_of_ble_eq_true rfl, Nat.le_of_ble_eq_true rfl⟩) (cb_preV (hK.sub (tys' := [(cI, .int)]) [0] rfl) (hP.sub (ws' := cb_w h a cI (nI N) f) [0, 1] rfl) [.int (nI k)]) rfl rfl hl.1 rfl (lv_room (Nat.le_of_ble_eq_true rfl)) dL_unsave_4 ⟨Nat.zero_le _, Nat.zero_le _⟩) hS (fun q _ h9 => Or.inl h9) (fun q h9 => Or.inl h9) (fun r9 u9 t9 H locs ht9 hvm9 hw9 hP9 hz9 hk9 hS => ?_)
  rw [ht9] at hP9
  subst hw9
  have hPo := cl_kept (hP.sub (ws' := ou_w o cJ g) [2] rfl) hk9 (fun x hx9 => by rw [List.mem_singleton] at hx9; subst hx9; intro h9; rcases h9 with h9 | h9; exact ho.1 h9; exact ho.2 h9)
  have hP : va_P (dC, dI) vwCl (wr_w h a cI (nI N) (upd f k (f k &&& (2 ^^^ (-1)))) o cJ g) H := va_P.app hP9 hPo
  have hD := wr_D (cI := cI) (cJ := cJ) (n := (nI N)) (f := (upd f k (f k &&& (2 ^^^ (-1))))) (g := g) hne ho
  refine lv_if_eq (tgt := 14) hx hb dL_unsave_7 (by decide) (fun hc => ?_) (fun hc => ?_)
  · refine lv_lconst (v := 0) hx hb dL_unsave_14 (by decide) ?_
    refine va_last (D := (dC, dI)) hx hb hK hP hD hS 2 1 rfl rfl (by unfold vp_in; decide) dL_unsave_15 (fun H locs hP _ hS => ?_)
    have hP : va_P (dC, dI) vwCl (wr_w h a cI (nI N) (upd f k (f k &&& (2 ^^^ (-1)))) o cJ (vp_updL g 0 0)) H := hP
    refine lv_goto (tgt := 22) hx hb dL_unsave_16 (by decide) ?_
    refine lv_iconst (v := 0) hx hb dL_unsave_22 (by decide) ?_
    have hP : va_P (dC, dI) vwCl (wr_w h a cI (nI N) (upd f k (f k &&& (2 ^^^ (-1)))) o cJ (vp_updL g 0 (if (if f k &&& 2 = 0 then (0 : Int32) else 1) = 0 then (0 : Int64) else 1))) H := by rw [if_pos hc]; exact hP
    exact W.iret (v := 0) hx hb hr (fun t9 ht9 _ => ⟨⟨_, (), rfl, rfl, cl_at ht9 hP⟩, hS.F ht9⟩) hS.2.2 dL_unsave_23
  · refine lv_lconst (v := 1) hx hb dL_unsave_10 (by decide) ?_
    refine lv_goto (tgt := 15) hx hb dL_unsave_11 (by decide) ?_
    refine va_last (D := (dC, dI)) hx hb hK hP hD hS 2 1 rfl rfl (by unfold vp_in; decide) dL_unsave_15 (fun H locs hP _ hS => ?_)
    have hP : va_P (dC, dI) vwCl (wr_w h a cI (nI N) (upd f k (f k &&& (2 ^^^ (-1)))) o cJ (vp_updL g 0 1)) H := hP
    refine lv_goto (tgt := 22) hx hb dL_unsave_16 (by decide) ?_
    refine lv_iconst (v := 0) hx hb dL_unsave_22 (by decide) ?_
    have hP : va_P (dC, dI) vwCl (wr_w h a cI (nI N) (upd f k (f k &&& (2 ^^^ (-1)))) o cJ (vp_updL g 0 (if (if f k &&& 2 = 0 then (0 : Int32) else 1) = 0 then (0 : Int64) else 1))) H := by rw [if_neg hc]; exact hP
    exact W.iret (v := 0) hx hb hr (fun t9 ht9 _ => ⟨⟨_, (), rfl, rfl, cl_at ht9 hP⟩, hS.F ht9⟩) hS.2.2 dL_unsave_23
set_option maxHeartbeats 4000000 in
set_option maxRecDepth 100000 in
/-- unsave, which catches -/
theorem v_unsave (l : Launch) (hst : l.stackTraces = false) (dC : Nat → ClassId) (dI : Nat → Nat → Nat) (h a : Nat) (cI : ClassId) (N : Nat) (f : Nat → Int32) (o : Nat) (cJ : ClassId) (g : Nat → Int64) (x : Int32) (h1 : 1 ≤ N) (h2 : N ≤ 16384) (hbad : x < 0 ∨ ¬ x < nI (cb_cc N)) : Met l yL_unsave wsL_unsave ({ frames := 8, cells := 1, slots := 6, locals := 180 }) (cb_Pt (dC, dI) [.ref h, .int x, .ref o] (wr_w h a cI (nI N) f o cJ g) [(cI, .int), (cJ, .long)]) (va_Qi (fun (r9 : Int32) (_ : Unit) => 1 = r9) (fun _ _ => True) (fun _ => False)) 1 6 (fun _ => False) := by
  refine va_MetW (cc := cL_unsave) (maxL := 4) (ret := (some .int)) (hh := [(0, 16, 19, 18)]) (by decide) rfl ?_
  intro p e s m args below meth c s₁ B hml hv
  obtain ⟨rfl, hP, hK, hJ⟩ := hv
  have hx := B.exec
  have hb := B.bytes
  have hr := B.returns
  have hts := atoms_spec (ws := wsL_unsave) B.pre
  have hown : s.vm.findClass RL = some m.cls := findClass_of_methodNamed B.named
  have hlocks := B.notSynchronized
  have hl := lv_entry ([.ref h, .int x, .ref o]) (n := 4) (Nat.le_of_ble_eq_true rfl)
  rw [lg_entry_eq]
  generalize (lg_sl ([.ref h, .int x, .ref o]) ++ List.replicate (4 - (lg_sl ([.ref h, .int x, .ref o])).length) Slot.unset).toArray = ls at hl ⊢
  have hl : lv_has ls 4 [(0, .ref h), (1, .int x), (2, .ref o)] := hl
  refine lv_aload_n hx hb dL_unsave_0 rfl (lv_at hl 2 rfl) ?_
  refine lv_iconst (v := 0) hx hb dL_unsave_1 (by decide) ?_
  refine lv_aload_n hx hb dL_unsave_2 rfl (lv_at hl 0 rfl) ?_
  refine lv_iload_n hx hb dL_unsave_3 rfl (lv_at hl 1 rfl) ?_
  have htab := xt_table (x := yL_unsave) B (hts (.codeWith yL_unsave cL_unsave 4 (some .int) [(0, 16, 19, 18)]) List.mem_cons_self)
  refine xt_catch (own := RL) (E := "java/lang/IndexOutOfBoundsException") (xt_runV (As := [.int x]) (rest := [.int 0, .ref o]) ⟨hx, hb, hml, hown, hts⟩ (t_unsave l hst dC dI h a cI N f x h1 h2 hbad) (cwV 1 hts gL_unsave_X0_unsave rfl rfl rfl (by decide +kernel) ⟨Nat.le_of_ble_eq_true rfl, Nat.le_of_ble_eq_true rfl⟩) (cb_preT hJ (hK.sub (tys' := [(cI, .int)]) [0] rfl) (hP.sub (ws' := cb_w h a cI (nI N) f) [0, 1] rfl) [.int x]) rfl rfl hl.1 rfl (lv_room (Nat.le_of_ble_eq_true rfl)) dL_unsave_4 ⟨Nat.le_refl _, Nat.le_refl _⟩) hown htab (by decide) (by decide) (hts (.classLink RL 18 "java/lang/IndexOutOfBoundsException") (by decide +kernel)) (xt_ride (State.WarmedH.refl s) (cb_nw_ok (.castable "java/lang/IndexOutOfBoundsException" "java/lang/IndexOutOfBoundsException") (by decide +kernel)) (hJ.2.2 (.castable "java/lang/IndexOutOfBoundsException" "java/lang/IndexOutOfBoundsException") (by decide +kernel))) (fun x9 H1 hz9 hk9 => ?_)
  refine lv_astore_n (lv' := [(3, .ref x9), (0, .ref h), (1, .int x), (2, .ref o)]) hx hb dL_unsave_19 rfl hl (by decide) rfl (fun ls hl => ?_)
  refine lv_iconst (v := 1) hx hb dL_unsave_20 (by decide) ?_
  exact W.iret (v := 1) hx hb hr (fun t9 ht9 _ => ⟨⟨_, (), rfl, rfl, trivial⟩, by rw [ht9]; exact hz9, fun q9 h9 _ => by rw [ht9]; exact hk9 q9 h9⟩) (fun q9 hq9 => nomatch hq9) dL_unsave_21
set_option maxHeartbeats 4000000 in
set_option maxRecDepth 100000 in
/-- card, which returns -/
theorem w_card (l : Launch) (dC : Nat → ClassId) (dI : Nat → Nat → Nat) (h a : Nat) (cI : ClassId) (N : Nat) (f : Nat → Int32) (o : Nat) (cJ : ClassId) (g : Nat → Int64) (hne : h ≠ a) (ho : o ≠ h ∧ o ≠ a) (k : Nat) (h1 : 1 ≤ N) (h2 : N ≤ 16384) (hk : k < (cb_cc N)) : Met l yL_card wsL_card ({ frames := 5, cells := 0, slots := 0, locals := 130 }) (cb_Pc (dC, dI) [.ref h, .int (nI k), .ref o] (wr_w h a cI (nI N) f o cJ g) [(cI, .int), (cJ, .long)]) (va_Qi (fun (r9 : Int32) (_ : Unit) => 0 = r9) (fun _ t9 => va_P (dC, dI) vwCl (wr_w h a cI (nI N) f o cJ (vp_updL g 0 (Int32.toInt64 (f k)))) t9.heap) (wr_A h a o)) 0 0 (wr_A h a o) := by
  refine va_MetW (cc := cL_card) (maxL := 4) (ret := (some .int)) (hh := [(0, 9, 12, 18)]) (by decide) rfl ?_
  intro p e s m args below meth c s₁ B hml hv
  obtain ⟨rfl, hP, hK⟩ := hv
  have hx := B.exec
  have hb := B.bytes
  have hr := B.returns
  have hts := atoms_spec (ws := wsL_card) B.pre
  have hown : s.vm.findClass RL = some m.cls := findClass_of_methodNamed B.named
  have hlocks := B.notSynchronized
  have hl := lv_entry ([.ref h, .int (nI k), .ref o]) (n := 4) (Nat.le_of_ble_eq_true rfl)
  rw [lg_entry_eq]
  generalize (lg_sl ([.ref h, .int (nI k), .ref o]) ++ List.replicate (4 - (lg_sl ([.ref h, .int (nI k), .ref o])).length) Slot.unset).toArray = ls at hl ⊢
  have hl : lv_has ls 4 [(0, .ref h), (1, .int (nI k)), (2, .ref o)] := hl
  have hS : va_S (wr_A h a o) s.heap s.heap [] := va_S.rf
  refine lv_aload_n hx hb dL_card_0 rfl (lv_at hl 2 rfl) ?_
  refine lv_iconst (v := 0) hx hb dL_card_1 (by decide) ?_
  refine lv_aload_n hx hb dL_card_2 rfl (lv_at hl 0 rfl) ?_
  refine lv_iload_n hx hb dL_card_3 rfl (lv_at hl 1 rfl) ?_
  refine cl_calli (W.runV (As := [.int (nI k)]) (rest := [.int 0, .ref o]) ⟨hx, hb, hml, hown, hts⟩ (c_card l dC dI h a cI N f k h1 h2 hk) (cwV 1 hts gL_card_X0_card rfl rfl rfl (by decide +kernel) ⟨Nat.le_of_ble_eq_true rfl, Nat.le_of_ble_eq_true rfl⟩) (cb_preV (hK.sub (tys' := [(cI, .int)]) [0] rfl) (hP.sub (ws' := cb_w h a cI (nI N) f) [0, 1] rfl) [.int (nI k)]) rfl rfl hl.1 rfl (lv_room (Nat.le_of_ble_eq_true rfl)) dL_card_4 ⟨Nat.zero_le _, Nat.zero_le _⟩) ?_
  have hD := wr_D (cI := cI) (cJ := cJ) (n := (nI N)) (f := f) (g := g) hne ho
  refine lv_i2l (v := Int32.toInt64 (f k)) hx hb dL_card_7 rfl ?_
  refine va_last (D := (dC, dI)) hx hb hK hP hD hS 2 1 rfl rfl (by unfold vp_in; decide) dL_card_8 (fun H locs hP _ hS => ?_)
  have hP : va_P (dC, dI) vwCl (wr_w h a cI (nI N) f o cJ (vp_updL g 0 (Int32.toInt64 (f k)))) H := hP
  refine lv_goto (tgt := 15) hx hb dL_card_9 (by decide) ?_
  refine lv_iconst (v := 0) hx hb dL_card_15 (by decide) ?_
  exact W.iret (v := 0) hx hb hr (fun t9 ht9 _ => ⟨⟨_, (), rfl, rfl, cl_at ht9 hP⟩, hS.F ht9⟩) hS.2.2 dL_card_16
set_option maxHeartbeats 4000000 in
set_option maxRecDepth 100000 in
/-- card, which catches -/
theorem v_card (l : Launch) (hst : l.stackTraces = false) (dC : Nat → ClassId) (dI : Nat → Nat → Nat) (h a : Nat) (cI : ClassId) (N : Nat) (f : Nat → Int32) (o : Nat) (cJ : ClassId) (g : Nat → Int64) (x : Int32) (h1 : 1 ≤ N) (h2 : N ≤ 16384) (hbad : x < 0 ∨ ¬ x < nI (cb_cc N)) : Met l yL_card wsL_card ({ frames := 8, cells := 1, slots := 6, locals := 180 }) (cb_Pt (dC, dI) [.ref h, .int x, .ref o] (wr_w h a cI (nI N) f o cJ g) [(cI, .int), (cJ, .long)]) (va_Qi (fun (r9 : Int32) (_ : Unit) => 1 = r9) (fun _ _ => True) (fun _ => False)) 1 6 (fun _ => False) := by
  refine va_MetW (cc := cL_card) (maxL := 4) (ret := (some .int)) (hh := [(0, 9, 12, 18)]) (by decide) rfl ?_
  intro p e s m args below meth c s₁ B hml hv
  obtain ⟨rfl, hP, hK, hJ⟩ := hv
  have hx := B.exec
  have hb := B.bytes
  have hr := B.returns
  have hts := atoms_spec (ws := wsL_card) B.pre
  have hown : s.vm.findClass RL = some m.cls := findClass_of_methodNamed B.named
  have hlocks := B.notSynchronized
  have hl := lv_entry ([.ref h, .int x, .ref o]) (n := 4) (Nat.le_of_ble_eq_true rfl)
  rw [lg_entry_eq]
  generalize (lg_sl ([.ref h, .int x, .ref o]) ++ List.replicate (4 - (lg_sl ([.ref h, .int x, .ref o])).length) Slot.unset).toArray = ls at hl ⊢
  have hl : lv_has ls 4 [(0, .ref h), (1, .int x), (2, .ref o)] := hl
  refine lv_aload_n hx hb dL_card_0 rfl (lv_at hl 2 rfl) ?_
  refine lv_iconst (v := 0) hx hb dL_card_1 (by decide) ?_
  refine lv_aload_n hx hb dL_card_2 rfl (lv_at hl 0 rfl) ?_
  refine lv_iload_n hx hb dL_card_3 rfl (lv_at hl 1 rfl) ?_
  have htab := xt_table (x := yL_card) B (hts (.codeWith yL_card cL_card 4 (some .int) [(0, 9, 12, 18)]) List.mem_cons_self)
  refine xt_catch (own := RL) (E := "java/lang/IndexOutOfBoundsException") (xt_runV (As := [.int x]) (rest := [.int 0, .ref o]) ⟨hx, hb, hml, hown, hts⟩ (t_card l hst dC dI h a cI N f x h1 h2 hbad) (cwV 1 hts gL_card_X0_card rfl rfl rfl (by decide +kernel) ⟨Nat.le_of_ble_eq_true rfl, Nat.le_of_ble_eq_true rfl⟩) (cb_preT hJ (hK.sub (tys' := [(cI, .int)]) [0] rfl) (hP.sub (ws' := cb_w h a cI (nI N) f) [0, 1] rfl) [.int x]) rfl rfl hl.1 rfl (lv_room (Nat.le_of_ble_eq_true rfl)) dL_card_4 ⟨Nat.le_refl _, Nat.le_refl _⟩) hown htab (by decide) (by decide) (hts (.classLink RL 18 "java/lang/IndexOutOfBoundsException") (by decide +kernel)) (xt_ride (State.WarmedH.refl s) (cb_nw_ok (.castable "java/lang/IndexOutOfBoundsException" "java/lang/IndexOutOfBoundsException") (by decide +kernel)) (hJ.2.2 (.castable "java/lang/IndexOutOfBoundsException" "java/lang/IndexOutOfBoundsException") (by decide +kernel))) (fun x9 H1 hz9 hk9 => ?_)
  refine lv_astore_n (lv' := [(3, .ref x9), (0, .ref h), (1, .int x), (2, .ref o)]) hx hb dL_card_12 rfl hl (by decide) rfl (fun ls hl => ?_)
  refine lv_iconst (v := 1) hx hb dL_card_13 (by decide) ?_
  exact W.iret (v := 1) hx hb hr (fun t9 ht9 _ => ⟨⟨_, (), rfl, rfl, trivial⟩, by rw [ht9]; exact hz9, fun q9 h9 _ => by rw [ht9]; exact hk9 q9 h9⟩) (fun q9 hq9 => nomatch hq9) dL_card_14
set_option maxHeartbeats 4000000 in
set_option maxRecDepth 100000 in
/-- nextDirty, which returns -/
theorem w_nextDirty (l : Launch) (dC : Nat → ClassId) (dI : Nat → Nat → Nat) (h a : Nat) (cI : ClassId) (N : Nat) (f : Nat → Int32) (o : Nat) (cJ : ClassId) (g : Nat → Int64) (hne : h ≠ a) (ho : o ≠ h ∧ o ≠ a) (j : Nat) (h1 : 1 ≤ N) (h2 : N ≤ 16384) (hj : j < 2 ^ 31) : Met l yL_nextDirty wsL_nextDirty ({ frames := 5, cells := 0, slots := 0, locals := 130 }) (cb_Pc (dC, dI) [.ref h, .int (nI j), .ref o] (wr_w h a cI (nI N) f o cJ g) [(cI, .int), (cJ, .long)]) (va_Qi (fun (r9 : Int32) (_ : Unit) => 0 = r9) (fun _ t9 => va_P (dC, dI) vwCl (wr_w h a cI (nI N) f o cJ (vp_updL g 0 (Int32.toInt64 (cb_fw f 1 j (cb_cc N))))) t9.heap) (wr_A h a o)) 0 0 (wr_A h a o) := by
  refine va_MetW (cc := cL_nextDirty) (maxL := 4) (ret := (some .int)) (hh := [(0, 9, 12, 13)]) (by decide) rfl ?_
  intro p e s m args below meth c s₁ B hml hv
  obtain ⟨rfl, hP, hK⟩ := hv
  have hx := B.exec
  have hb := B.bytes
  have hr := B.returns
  have hts := atoms_spec (ws := wsL_nextDirty) B.pre
  have hown : s.vm.findClass RL = some m.cls := findClass_of_methodNamed B.named
  have hlocks := B.notSynchronized
  have hl := lv_entry ([.ref h, .int (nI j), .ref o]) (n := 4) (Nat.le_of_ble_eq_true rfl)
  rw [lg_entry_eq]
  generalize (lg_sl ([.ref h, .int (nI j), .ref o]) ++ List.replicate (4 - (lg_sl ([.ref h, .int (nI j), .ref o])).length) Slot.unset).toArray = ls at hl ⊢
  have hl : lv_has ls 4 [(0, .ref h), (1, .int (nI j)), (2, .ref o)] := hl
  have hS : va_S (wr_A h a o) s.heap s.heap [] := va_S.rf
  refine lv_aload_n hx hb dL_nextDirty_0 rfl (lv_at hl 2 rfl) ?_
  refine lv_iconst (v := 0) hx hb dL_nextDirty_1 (by decide) ?_
  refine lv_aload_n hx hb dL_nextDirty_2 rfl (lv_at hl 0 rfl) ?_
  refine lv_iload_n hx hb dL_nextDirty_3 rfl (lv_at hl 1 rfl) ?_
  refine cl_calli (W.runV (As := [.int (nI j)]) (rest := [.int 0, .ref o]) ⟨hx, hb, hml, hown, hts⟩ (c_nextDirty l dC dI h a cI N f j h1 h2 hj) (cwV 1 hts gL_nextDirty_X0_nextDirty rfl rfl rfl (by decide +kernel) ⟨Nat.le_of_ble_eq_true rfl, Nat.le_of_ble_eq_true rfl⟩) (cb_preV (hK.sub (tys' := [(cI, .int)]) [0] rfl) (hP.sub (ws' := cb_w h a cI (nI N) f) [0, 1] rfl) [.int (nI j)]) rfl rfl hl.1 rfl (lv_room (Nat.le_of_ble_eq_true rfl)) dL_nextDirty_4 ⟨Nat.zero_le _, Nat.zero_le _⟩) ?_
  have hD := wr_D (cI := cI) (cJ := cJ) (n := (nI N)) (f := f) (g := g) hne ho
  refine lv_i2l (v := Int32.toInt64 (cb_fw f 1 j (cb_cc N))) hx hb dL_nextDirty_7 rfl ?_
  refine va_last (D := (dC, dI)) hx hb hK hP hD hS 2 1 rfl rfl (by unfold vp_in; decide) dL_nextDirty_8 (fun H locs hP _ hS => ?_)
  have hP : va_P (dC, dI) vwCl (wr_w h a cI (nI N) f o cJ (vp_updL g 0 (Int32.toInt64 (cb_fw f 1 j (cb_cc N))))) H := hP
  refine lv_goto (tgt := 15) hx hb dL_nextDirty_9 (by decide) ?_
  refine lv_iconst (v := 0) hx hb dL_nextDirty_15 (by decide) ?_
  exact W.iret (v := 0) hx hb hr (fun t9 ht9 _ => ⟨⟨_, (), rfl, rfl, cl_at ht9 hP⟩, hS.F ht9⟩) hS.2.2 dL_nextDirty_16
set_option maxHeartbeats 4000000 in
set_option maxRecDepth 100000 in
/-- nextDirty, which catches -/
theorem v_nextDirty (l : Launch) (hst : l.stackTraces = false) (dC : Nat → ClassId) (dI : Nat → Nat → Nat) (h a : Nat) (cI : ClassId) (N : Nat) (f : Nat → Int32) (o : Nat) (cJ : ClassId) (g : Nat → Int64) (x : Int32) (hbad : x < 0) : Met l yL_nextDirty wsL_nextDirty ({ frames := 8, cells := 1, slots := 6, locals := 180 }) (cb_Pt (dC, dI) [.ref h, .int x, .ref o] (wr_w h a cI (nI N) f o cJ g) [(cI, .int), (cJ, .long)]) (va_Qi (fun (r9 : Int32) (_ : Unit) => 1 = r9) (fun _ _ => True) (fun _ => False)) 1 6 (fun _ => False) := by
  refine va_MetW (cc := cL_nextDirty) (maxL := 4) (ret := (some .int)) (hh := [(0, 9, 12, 13)]) (by decide) rfl ?_
  intro p e s m args below meth c s₁ B hml hv
  obtain ⟨rfl, hP, hK, hJ⟩ := hv
  have hx := B.exec
  have hb := B.bytes
  have hr := B.returns
  have hts := atoms_spec (ws := wsL_nextDirty) B.pre
  have hown : s.vm.findClass RL = some m.cls := findClass_of_methodNamed B.named
  have hlocks := B.notSynchronized
  have hl := lv_entry ([.ref h, .int x, .ref o]) (n := 4) (Nat.le_of_ble_eq_true rfl)
  rw [lg_entry_eq]
  generalize (lg_sl ([.ref h, .int x, .ref o]) ++ List.replicate (4 - (lg_sl ([.ref h, .int x, .ref o])).length) Slot.unset).toArray = ls at hl ⊢
  have hl : lv_has ls 4 [(0, .ref h), (1, .int x), (2, .ref o)] := hl
  refine lv_aload_n hx hb dL_nextDirty_0 rfl (lv_at hl 2 rfl) ?_
  refine lv_iconst (v := 0) hx hb dL_nextDirty_1 (by decide) ?_
  refine lv_aload_n hx hb dL_nextDirty_2 rfl (lv_at hl 0 rfl) ?_
  refine lv_iload_n hx hb dL_nextDirty_3 rfl (lv_at hl 1 rfl) ?_
  have htab := xt_table (x := yL_nextDirty) B (hts (.codeWith yL_nextDirty cL_nextDirty 4 (some .int) [(0, 9, 12, 13)]) List.mem_cons_self)
  refine xt_catch (own := RL) (E := "java/lang/IllegalArgumentException") (xt_runV (As := [.int x]) (rest := [.int 0, .ref o]) ⟨hx, hb, hml, hown, hts⟩ (t_nextDirty l hst dC dI h a cI N f x hbad) (cwV 1 hts gL_nextDirty_X0_nextDirty rfl rfl rfl (by decide +kernel) ⟨Nat.le_of_ble_eq_true rfl, Nat.le_of_ble_eq_true rfl⟩) (cb_preT hJ (hK.sub (tys' := [(cI, .int)]) [0] rfl) (hP.sub (ws' := cb_w h a cI (nI N) f) [0, 1] rfl) [.int x]) rfl rfl hl.1 rfl (lv_room (Nat.le_of_ble_eq_true rfl)) dL_nextDirty_4 ⟨Nat.le_refl _, Nat.le_refl _⟩) hown htab (by decide) (by decide) (hts (.classLink RL 13 "java/lang/IllegalArgumentException") (by decide +kernel)) (xt_ride (State.WarmedH.refl s) (cb_nw_ok (.castable "java/lang/IllegalArgumentException" "java/lang/IllegalArgumentException") (by decide +kernel)) (hJ.2.2 (.castable "java/lang/IllegalArgumentException" "java/lang/IllegalArgumentException") (by decide +kernel))) (fun x9 H1 hz9 hk9 => ?_)
  refine lv_astore_n (lv' := [(3, .ref x9), (0, .ref h), (1, .int x), (2, .ref o)]) hx hb dL_nextDirty_12 rfl hl (by decide) rfl (fun ls hl => ?_)
  refine lv_iconst (v := 1) hx hb dL_nextDirty_13 (by decide) ?_
  exact W.iret (v := 1) hx hb hr (fun t9 ht9 _ => ⟨⟨_, (), rfl, rfl, trivial⟩, by rw [ht9]; exact hz9, fun q9 h9 _ => by rw [ht9]; exact hk9 q9 h9⟩) (fun q9 hq9 => nomatch hq9) dL_nextDirty_14
set_option maxHeartbeats 4000000 in
set_option maxRecDepth 100000 in
/-- nextSaved, which returns -/
theorem w_nextSaved (l : Launch) (dC : Nat → ClassId) (dI : Nat → Nat → Nat) (h a : Nat) (cI : ClassId) (N : Nat) (f : Nat → Int32) (o : Nat) (cJ : ClassId) (g : Nat → Int64) (hne : h ≠ a) (ho : o ≠ h ∧ o ≠ a) (j : Nat) (h1 : 1 ≤ N) (h2 : N ≤ 16384) (hj : j < 2 ^ 31) : Met l yL_nextSaved wsL_nextSaved ({ frames := 5, cells := 0, slots := 0, locals := 130 }) (cb_Pc (dC, dI) [.ref h, .int (nI j), .ref o] (wr_w h a cI (nI N) f o cJ g) [(cI, .int), (cJ, .long)]) (va_Qi (fun (r9 : Int32) (_ : Unit) => 0 = r9) (fun _ t9 => va_P (dC, dI) vwCl (wr_w h a cI (nI N) f o cJ (vp_updL g 0 (Int32.toInt64 (cb_fw f 2 j (cb_cc N))))) t9.heap) (wr_A h a o)) 0 0 (wr_A h a o) := by
  refine va_MetW (cc := cL_nextSaved) (maxL := 4) (ret := (some .int)) (hh := [(0, 9, 12, 13)]) (by decide) rfl ?_
  intro p e s m args below meth c s₁ B hml hv
  obtain ⟨rfl, hP, hK⟩ := hv
  have hx := B.exec
  have hb := B.bytes
  have hr := B.returns
  have hts := atoms_spec (ws := wsL_nextSaved) B.pre
  have hown : s.vm.findClass RL = some m.cls := findClass_of_methodNamed B.named
  have hlocks := B.notSynchronized
  have hl := lv_entry ([.ref h, .int (nI j), .ref o]) (n := 4) (Nat.le_of_ble_eq_true rfl)
  rw [lg_entry_eq]
  generalize (lg_sl ([.ref h, .int (nI j), .ref o]) ++ List.replicate (4 - (lg_sl ([.ref h, .int (nI j), .ref o])).length) Slot.unset).toArray = ls at hl ⊢
  have hl : lv_has ls 4 [(0, .ref h), (1, .int (nI j)), (2, .ref o)] := hl
  have hS : va_S (wr_A h a o) s.heap s.heap [] := va_S.rf
  refine lv_aload_n hx hb dL_nextSaved_0 rfl (lv_at hl 2 rfl) ?_
  refine lv_iconst (v := 0) hx hb dL_nextSaved_1 (by decide) ?_
  refine lv_aload_n hx hb dL_nextSaved_2 rfl (lv_at hl 0 rfl) ?_
  refine lv_iload_n hx hb dL_nextSaved_3 rfl (lv_at hl 1 rfl) ?_
  refine cl_calli (W.runV (As := [.int (nI j)]) (rest := [.int 0, .ref o]) ⟨hx, hb, hml, hown, hts⟩ (c_nextSaved l dC dI h a cI N f j h1 h2 hj) (cwV 1 hts gL_nextSaved_X0_nextSaved rfl rfl rfl (by decide +kernel) ⟨Nat.le_of_ble_eq_true rfl, Nat.le_of_ble_eq_true rfl⟩) (cb_preV (hK.sub (tys' := [(cI, .int)]) [0] rfl) (hP.sub (ws' := cb_w h a cI (nI N) f) [0, 1] rfl) [.int (nI j)]) rfl rfl hl.1 rfl (lv_room (Nat.le_of_ble_eq_true rfl)) dL_nextSaved_4 ⟨Nat.zero_le _, Nat.zero_le _⟩) ?_
  have hD := wr_D (cI := cI) (cJ := cJ) (n := (nI N)) (f := f) (g := g) hne ho
  refine lv_i2l (v := Int32.toInt64 (cb_fw f 2 j (cb_cc N))) hx hb dL_nextSaved_7 rfl ?_
  refine va_last (D := (dC, dI)) hx hb hK hP hD hS 2 1 rfl rfl (by unfold vp_in; decide) dL_nextSaved_8 (fun H locs hP _ hS => ?_)
  have hP : va_P (dC, dI) vwCl (wr_w h a cI (nI N) f o cJ (vp_updL g 0 (Int32.toInt64 (cb_fw f 2 j (cb_cc N))))) H := hP
  refine lv_goto (tgt := 15) hx hb dL_nextSaved_9 (by decide) ?_
  refine lv_iconst (v := 0) hx hb dL_nextSaved_15 (by decide) ?_
  exact W.iret (v := 0) hx hb hr (fun t9 ht9 _ => ⟨⟨_, (), rfl, rfl, cl_at ht9 hP⟩, hS.F ht9⟩) hS.2.2 dL_nextSaved_16
set_option maxHeartbeats 4000000 in
set_option maxRecDepth 100000 in
/-- nextSaved, which catches -/
theorem v_nextSaved (l : Launch) (hst : l.stackTraces = false) (dC : Nat → ClassId) (dI : Nat → Nat → Nat) (h a : Nat) (cI : ClassId) (N : Nat) (f : Nat → Int32) (o : Nat) (cJ : ClassId) (g : Nat → Int64) (x : Int32) (hbad : x < 0) : Met l yL_nextSaved wsL_nextSaved ({ frames := 8, cells := 1, slots := 6, locals := 180 }) (cb_Pt (dC, dI) [.ref h, .int x, .ref o] (wr_w h a cI (nI N) f o cJ g) [(cI, .int), (cJ, .long)]) (va_Qi (fun (r9 : Int32) (_ : Unit) => 1 = r9) (fun _ _ => True) (fun _ => False)) 1 6 (fun _ => False) := by
  refine va_MetW (cc := cL_nextSaved) (maxL := 4) (ret := (some .int)) (hh := [(0, 9, 12, 13)]) (by decide) rfl ?_
  intro p e s m args below meth c s₁ B hml hv
  obtain ⟨rfl, hP, hK, hJ⟩ := hv
  have hx := B.exec
  have hb := B.bytes
  have hr := B.returns
  have hts := atoms_spec (ws := wsL_nextSaved) B.pre
  have hown : s.vm.findClass RL = some m.cls := findClass_of_methodNamed B.named
  have hlocks := B.notSynchronized
  have hl := lv_entry ([.ref h, .int x, .ref o]) (n := 4) (Nat.le_of_ble_eq_true rfl)
  rw [lg_entry_eq]
  generalize (lg_sl ([.ref h, .int x, .ref o]) ++ List.replicate (4 - (lg_sl ([.ref h, .int x, .ref o])).length) Slot.unset).toArray = ls at hl ⊢
  have hl : lv_has ls 4 [(0, .ref h), (1, .int x), (2, .ref o)] := hl
  refine lv_aload_n hx hb dL_nextSaved_0 rfl (lv_at hl 2 rfl) ?_
  refine lv_iconst (v := 0) hx hb dL_nextSaved_1 (by decide) ?_
  refine lv_aload_n hx hb dL_nextSaved_2 rfl (lv_at hl 0 rfl) ?_
  refine lv_iload_n hx hb dL_nextSaved_3 rfl (lv_at hl 1 rfl) ?_
  have htab := xt_table (x := yL_nextSaved) B (hts (.codeWith yL_nextSaved cL_nextSaved 4 (some .int) [(0, 9, 12, 13)]) List.mem_cons_self)
  refine xt_catch (own := RL) (E := "java/lang/IllegalArgumentException") (xt_runV (As := [.int x]) (rest := [.int 0, .ref o]) ⟨hx, hb, hml, hown, hts⟩ (t_nextSaved l hst dC dI h a cI N f x hbad) (cwV 1 hts gL_nextSaved_X0_nextSaved rfl rfl rfl (by decide +kernel) ⟨Nat.le_of_ble_eq_true rfl, Nat.le_of_ble_eq_true rfl⟩) (cb_preT hJ (hK.sub (tys' := [(cI, .int)]) [0] rfl) (hP.sub (ws' := cb_w h a cI (nI N) f) [0, 1] rfl) [.int x]) rfl rfl hl.1 rfl (lv_room (Nat.le_of_ble_eq_true rfl)) dL_nextSaved_4 ⟨Nat.le_refl _, Nat.le_refl _⟩) hown htab (by decide) (by decide) (hts (.classLink RL 13 "java/lang/IllegalArgumentException") (by decide +kernel)) (xt_ride (State.WarmedH.refl s) (cb_nw_ok (.castable "java/lang/IllegalArgumentException" "java/lang/IllegalArgumentException") (by decide +kernel)) (hJ.2.2 (.castable "java/lang/IllegalArgumentException" "java/lang/IllegalArgumentException") (by decide +kernel))) (fun x9 H1 hz9 hk9 => ?_)
  refine lv_astore_n (lv' := [(3, .ref x9), (0, .ref h), (1, .int x), (2, .ref o)]) hx hb dL_nextSaved_12 rfl hl (by decide) rfl (fun ls hl => ?_)
  refine lv_iconst (v := 1) hx hb dL_nextSaved_13 (by decide) ?_
  exact W.iret (v := 1) hx hb hr (fun t9 ht9 _ => ⟨⟨_, (), rfl, rfl, trivial⟩, by rw [ht9]; exact hz9, fun q9 h9 _ => by rw [ht9]; exact hk9 q9 h9⟩) (fun q9 hq9 => nomatch hq9) dL_nextSaved_14
set_option maxHeartbeats 4000000 in
set_option maxRecDepth 100000 in
/-- count, which returns -/
theorem w_count (l : Launch) (dC : Nat → ClassId) (dI : Nat → Nat → Nat) (h a : Nat) (cI : ClassId) (N : Nat) (f : Nat → Int32) (o : Nat) (cJ : ClassId) (g : Nat → Int64) (hne : h ≠ a) (ho : o ≠ h ∧ o ≠ a) (q : Nat) (h1 : 1 ≤ N) (h2 : N ≤ 16384) (hq : q < 4) : Met l yL_count wsL_count ({ frames := 5, cells := 0, slots := 0, locals := 130 }) (cb_Pc (dC, dI) [.ref h, .int (nI q), .ref o] (wr_w h a cI (nI N) f o cJ g) [(cI, .int), (cJ, .long)]) (va_Qi (fun (r9 : Int32) (_ : Unit) => 0 = r9) (fun _ t9 => va_P (dC, dI) vwCl (wr_w h a cI (nI N) f o cJ (vp_updL g 0 (Int32.toInt64 (cb_cnt f N q)))) t9.heap) (wr_A h a o)) 0 0 (wr_A h a o) := by
  refine va_MetW (cc := cL_count) (maxL := 4) (ret := (some .int)) (hh := [(0, 9, 12, 13)]) (by decide) rfl ?_
  intro p e s m args below meth c s₁ B hml hv
  obtain ⟨rfl, hP, hK⟩ := hv
  have hx := B.exec
  have hb := B.bytes
  have hr := B.returns
  have hts := atoms_spec (ws := wsL_count) B.pre
  have hown : s.vm.findClass RL = some m.cls := findClass_of_methodNamed B.named
  have hlocks := B.notSynchronized
  have hl := lv_entry ([.ref h, .int (nI q), .ref o]) (n := 4) (Nat.le_of_ble_eq_true rfl)
  rw [lg_entry_eq]
  generalize (lg_sl ([.ref h, .int (nI q), .ref o]) ++ List.replicate (4 - (lg_sl ([.ref h, .int (nI q), .ref o])).length) Slot.unset).toArray = ls at hl ⊢
  have hl : lv_has ls 4 [(0, .ref h), (1, .int (nI q)), (2, .ref o)] := hl
  have hS : va_S (wr_A h a o) s.heap s.heap [] := va_S.rf
  refine lv_aload_n hx hb dL_count_0 rfl (lv_at hl 2 rfl) ?_
  refine lv_iconst (v := 0) hx hb dL_count_1 (by decide) ?_
  refine lv_aload_n hx hb dL_count_2 rfl (lv_at hl 0 rfl) ?_
  refine lv_iload_n hx hb dL_count_3 rfl (lv_at hl 1 rfl) ?_
  refine cl_calli (W.runV (As := [.int (nI q)]) (rest := [.int 0, .ref o]) ⟨hx, hb, hml, hown, hts⟩ (c_count l dC dI h a cI N f q h1 h2 hq) (cwV 1 hts gL_count_X0_count rfl rfl rfl (by decide +kernel) ⟨Nat.le_of_ble_eq_true rfl, Nat.le_of_ble_eq_true rfl⟩) (cb_preV (hK.sub (tys' := [(cI, .int)]) [0] rfl) (hP.sub (ws' := cb_w h a cI (nI N) f) [0, 1] rfl) [.int (nI q)]) rfl rfl hl.1 rfl (lv_room (Nat.le_of_ble_eq_true rfl)) dL_count_4 ⟨Nat.zero_le _, Nat.zero_le _⟩) ?_
  have hD := wr_D (cI := cI) (cJ := cJ) (n := (nI N)) (f := f) (g := g) hne ho
  refine lv_i2l (v := Int32.toInt64 (cb_cnt f N q)) hx hb dL_count_7 rfl ?_
  refine va_last (D := (dC, dI)) hx hb hK hP hD hS 2 1 rfl rfl (by unfold vp_in; decide) dL_count_8 (fun H locs hP _ hS => ?_)
  have hP : va_P (dC, dI) vwCl (wr_w h a cI (nI N) f o cJ (vp_updL g 0 (Int32.toInt64 (cb_cnt f N q)))) H := hP
  refine lv_goto (tgt := 15) hx hb dL_count_9 (by decide) ?_
  refine lv_iconst (v := 0) hx hb dL_count_15 (by decide) ?_
  exact W.iret (v := 0) hx hb hr (fun t9 ht9 _ => ⟨⟨_, (), rfl, rfl, cl_at ht9 hP⟩, hS.F ht9⟩) hS.2.2 dL_count_16
set_option maxHeartbeats 4000000 in
set_option maxRecDepth 100000 in
/-- count, which catches -/
theorem v_count (l : Launch) (hst : l.stackTraces = false) (dC : Nat → ClassId) (dI : Nat → Nat → Nat) (h a : Nat) (cI : ClassId) (N : Nat) (f : Nat → Int32) (o : Nat) (cJ : ClassId) (g : Nat → Int64) (x : Int32) (hbad : x.toInt < 0 ∨ 3 < x.toInt) : Met l yL_count wsL_count ({ frames := 8, cells := 1, slots := 6, locals := 180 }) (cb_Pt (dC, dI) [.ref h, .int x, .ref o] (wr_w h a cI (nI N) f o cJ g) [(cI, .int), (cJ, .long)]) (va_Qi (fun (r9 : Int32) (_ : Unit) => 1 = r9) (fun _ _ => True) (fun _ => False)) 1 6 (fun _ => False) := by
  refine va_MetW (cc := cL_count) (maxL := 4) (ret := (some .int)) (hh := [(0, 9, 12, 13)]) (by decide) rfl ?_
  intro p e s m args below meth c s₁ B hml hv
  obtain ⟨rfl, hP, hK, hJ⟩ := hv
  have hx := B.exec
  have hb := B.bytes
  have hr := B.returns
  have hts := atoms_spec (ws := wsL_count) B.pre
  have hown : s.vm.findClass RL = some m.cls := findClass_of_methodNamed B.named
  have hlocks := B.notSynchronized
  have hl := lv_entry ([.ref h, .int x, .ref o]) (n := 4) (Nat.le_of_ble_eq_true rfl)
  rw [lg_entry_eq]
  generalize (lg_sl ([.ref h, .int x, .ref o]) ++ List.replicate (4 - (lg_sl ([.ref h, .int x, .ref o])).length) Slot.unset).toArray = ls at hl ⊢
  have hl : lv_has ls 4 [(0, .ref h), (1, .int x), (2, .ref o)] := hl
  refine lv_aload_n hx hb dL_count_0 rfl (lv_at hl 2 rfl) ?_
  refine lv_iconst (v := 0) hx hb dL_count_1 (by decide) ?_
  refine lv_aload_n hx hb dL_count_2 rfl (lv_at hl 0 rfl) ?_
  refine lv_iload_n hx hb dL_count_3 rfl (lv_at hl 1 rfl) ?_
  have htab := xt_table (x := yL_count) B (hts (.codeWith yL_count cL_count 4 (some .int) [(0, 9, 12, 13)]) List.mem_cons_self)
  refine xt_catch (own := RL) (E := "java/lang/IllegalArgumentException") (xt_runV (As := [.int x]) (rest := [.int 0, .ref o]) ⟨hx, hb, hml, hown, hts⟩ (t_count l hst dC dI h a cI N f x hbad) (cwV 1 hts gL_count_X0_count rfl rfl rfl (by decide +kernel) ⟨Nat.le_of_ble_eq_true rfl, Nat.le_of_ble_eq_true rfl⟩) (cb_preT hJ (hK.sub (tys' := [(cI, .int)]) [0] rfl) (hP.sub (ws' := cb_w h a cI (nI N) f) [0, 1] rfl) [.int x]) rfl rfl hl.1 rfl (lv_room (Nat.le_of_ble_eq_true rfl)) dL_count_4 ⟨Nat.le_refl _, Nat.le_refl _⟩) hown htab (by decide) (by decide) (hts (.classLink RL 13 "java/lang/IllegalArgumentException") (by decide +kernel)) (xt_ride (State.WarmedH.refl s) (cb_nw_ok (.castable "java/lang/IllegalArgumentException" "java/lang/IllegalArgumentException") (by decide +kernel)) (hJ.2.2 (.castable "java/lang/IllegalArgumentException" "java/lang/IllegalArgumentException") (by decide +kernel))) (fun x9 H1 hz9 hk9 => ?_)
  refine lv_astore_n (lv' := [(3, .ref x9), (0, .ref h), (1, .int x), (2, .ref o)]) hx hb dL_count_12 rfl hl (by decide) rfl (fun ls hl => ?_)
  refine lv_iconst (v := 1) hx hb dL_count_13 (by decide) ?_
  exact W.iret (v := 1) hx hb hr (fun t9 ht9 _ => ⟨⟨_, (), rfl, rfl, trivial⟩, by rw [ht9]; exact hz9, fun q9 h9 _ => by rw [ht9]; exact hk9 q9 h9⟩) (fun q9 hq9 => nomatch hq9) dL_count_14
end
section
/-! The reference's cells, and its numbers: N cells, D dirty, S saved. -/
def md_b (b : Bool) : Int32 := if b then 1 else 0
abbrev md_w (q qa qb : Nat) (cY cZ : ClassId) (t n : Int32) (D S : Nat → Bool) : va_W := [(q, .inr (1, [.int t, .int n, .ref qa, .ref qb])), (qa, .inl (cY, 512, .inl (fun c => md_b (D c)))), (qb, .inl (cZ, 512, .inl (fun c => md_b (S c))))]
def md_A (q qa qb : Nat) : Nat → Prop := fun x => x = q ∨ x = qa ∨ x = qb
def md_ne (q qa qb : Nat) : Prop := q ≠ qa ∧ q ≠ qb ∧ qa ≠ qb
theorem md_D {q qa qb : Nat} {cY cZ : ClassId} {t n : Int32} {D S : Nat → Bool} (hne : md_ne q qa qb) : va_D (md_A q qa qb) (md_w q qa qb cY cZ t n D S) := by
  obtain ⟨h1, h2, h3⟩ := hne
  refine ⟨fun i j x y hi hj hxy => ?_, fun k q hk => ?_⟩
  · match i, j, hi, hj with
    | 0, 0, _, _ => rfl
    | 1, 1, _, _ => rfl
    | 2, 2, _, _ => rfl
    | 0, 1, hi, hj => cases hi; cases hj; exact absurd hxy h1
    | 1, 0, hi, hj => cases hi; cases hj; exact absurd hxy.symm h1
    | 0, 2, hi, hj => cases hi; cases hj; exact absurd hxy h2
    | 2, 0, hi, hj => cases hi; cases hj; exact absurd hxy.symm h2
    | 1, 2, hi, hj => cases hi; cases hj; exact absurd hxy h3
    | 2, 1, hi, hj => cases hi; cases hj; exact absurd hxy.symm h3
    | i + 3, _, hi, _ => cases hi
    | _, j + 3, _, hj => cases hj
  · match k, hk with
    | 0, hk => cases hk; exact Or.inl rfl
    | 1, hk => cases hk; exact Or.inr (Or.inl rfl)
    | 2, hk => cases hk; exact Or.inr (Or.inr rfl)
    | k + 3, hk => cases hk
theorem md_preV {s : State} {H : Heap} {G : va_G} {q qa qb : Nat} {cY cZ : ClassId} {t n : Int32} {D S : Nat → Bool} (hK : va_K G vwCl [(cY, .boolean), (cZ, .boolean)] s) (hP : va_P G vwCl (md_w q qa qb cY cZ t n D S) H) (As : List Value) : PreV s H RX1 q (cb_Pc G (.ref q :: As) (md_w q qa qb cY cZ t n D S) [(cY, .boolean), (cZ, .boolean)]) As :=
  ⟨cb_blind, va_recv hK hP (ci := 1) (q0 := 0) rfl rfl, fun U hU hW => ⟨rfl, by rw [hU]; exact hP, va_K.moved hW.alike hK⟩⟩
/-- a row of bits with one place set -/
def md_u (D : Nat → Bool) (k : Nat) (b : Bool) : Nat → Bool := fun c => if c = k then b else D c
theorem md_upd (D : Nat → Bool) (k : Nat) (b : Bool) : upd (fun c => md_b (D c)) k (vp_nar .boolean (md_b b)) = fun c => md_b (md_u D k b c) := by
  funext c
  have hb : vp_nar .boolean (md_b b) = md_b b := by cases b <;> rfl
  rw [hb]
  unfold upd md_u
  by_cases h : c = k
  · rw [if_pos h, if_pos h]
  · rw [if_neg h, if_neg h]
theorem md_b1 {b : Bool} (h : ¬ md_b b = 0) : b = true := by
  cases b
  · exact absurd rfl h
  · rfl
theorem md_b0 {b : Bool} (h : md_b b = 0) : b = false := by
  cases b
  · rfl
  · exact absurd h (by decide)
theorem md_nb (b : Bool) : narrow .boolean (.int (md_b b)) = .int (md_b b) := by cases b <;> rfl
/-- many(which, clears): the count, a: which bears 1, b: which bears 2 -/
def md_ct (a b : Bool) (D S : Nat → Bool) : Nat → Nat
  | 0 => 0
  | i + 1 => if (a && D i || b && S i) = true then md_ct a b D S i + 1 else md_ct a b D S i
def md_cl (D : Nat → Bool) (cl : Bool) (i : Nat) : Nat → Bool := fun c => D c && !(cl && decide (c < i))
theorem md_cl_0 (D : Nat → Bool) (cl : Bool) : md_cl D cl 0 = D := by
  funext c
  simp [md_cl]
theorem md_cl_i (D : Nat → Bool) (cl : Bool) (i : Nat) : md_cl D cl i i = D i := by simp [md_cl]
theorem md_cl_s (D : Nat → Bool) (cl : Bool) (i : Nat) : md_u (md_cl D cl i) i (D i && !cl) = md_cl D cl (i + 1) := by
  funext c
  unfold md_u md_cl
  by_cases h : c = i
  · subst h
    simp
  · rw [if_neg h]
    by_cases h2 : c < i
    · simp [h2, Nat.lt_succ_of_lt h2]
    · have h3 : ¬ c < i + 1 := by omega
      simp [h2, h3]
/-- cover: the cards j .. la below i are saved -/
def md_cv (S : Nat → Bool) (j la i : Nat) : Nat → Bool := fun c => S c || (decide (j ≤ c) && decide (c ≤ la) && decide (c < i))
theorem md_cv_0 (S : Nat → Bool) (j la : Nat) : md_cv S j la 0 = S := by
  funext c
  simp [md_cv]
theorem md_cv_1 {S : Nat → Bool} {j la i : Nat} (h1 : j ≤ i) (h2 : i ≤ la) : md_u (md_cv S j la i) i true = md_cv S j la (i + 1) := by
  funext c
  unfold md_u md_cv
  by_cases h : c = i
  · subst h
    simp [h1, h2]
  · rw [if_neg h]
    by_cases h3 : c < i
    · simp [h3, Nat.lt_succ_of_lt h3]
    · have h4 : ¬ c < i + 1 := by omega
      simp [h3, h4]
theorem md_cv_2 {S : Nat → Bool} {j la i : Nat} (h : ¬ (j ≤ i ∧ i ≤ la)) : md_cv S j la i = md_cv S j la (i + 1) := by
  funext c
  unfold md_cv
  by_cases h0 : c = i
  · subst h0
    by_cases h1 : j ≤ c
    · have h2 : ¬ c ≤ la := fun h2 => h ⟨h1, h2⟩
      simp [h2]
    · simp [h1]
  · by_cases h3 : c < i
    · simp [h3, Nat.lt_succ_of_lt h3]
    · have h4 : ¬ c < i + 1 := by omega
      simp [h3, h4]
def md_n (j la i : Nat) : Nat := min i (la + 1) - j
/-- the first bit at j or behind it among i .. 511, by k = 512 - i steps -/
def md_fd (D : Nat → Bool) (j : Nat) : Nat → Nat → Int32
  | _, 0 => -1
  | i, k + 1 => if j ≤ i ∧ D i = true then nI i else md_fd D j (i + 1) k
def md_fw (D : Nat → Bool) (j i : Nat) : Int32 := md_fd D j i (512 - i)
theorem md_fw_e {D : Nat → Bool} {j : Nat} : md_fw D j 512 = -1 := rfl
theorem md_fw_1 {D : Nat → Bool} {j i : Nat} (hi : i < 512) (h1 : j ≤ i) (h2 : D i = true) : md_fw D j i = nI i := by
  unfold md_fw
  rw [show 512 - i = (512 - (i + 1)) + 1 by omega]
  exact if_pos ⟨h1, h2⟩
theorem md_fw_0 {D : Nat → Bool} {j i : Nat} (hi : i < 512) (h : ¬ (j ≤ i ∧ D i = true)) : md_fw D j i = md_fw D j (i + 1) := by
  unfold md_fw
  rw [show 512 - i = (512 - (i + 1)) + 1 by omega]
  exact if_neg h
theorem md_cards {N : Nat} (h1 : 1 ≤ N) (h2 : N ≤ 16384) : (nI N + 31) / 32 = nI (cb_cc N) := by
  rw [show (31 : Int32) = nI 31 from rfl, nI_add]
  rw [show (32 : Int32) = nI 32 from rfl, pk_div (by omega) (by decide) (by decide)]
  unfold cb_cc
  rw [show (N + 31) / 32 = (N - 1) / 32 + 1 by omega]
def md_cnt (D S : Nat → Bool) (N q : Nat) : Int32 := match q with
  | 0 => nI N
  | 1 => nI (cb_cc N)
  | 2 => nI (md_ct true false D S 512)
  | _ => nI (md_ct false true D S 512)
def md_cd (D S : Nat → Bool) (k : Nat) : Int32 := (if D k then (1 : Int32) else 0) + (if S k then (2 : Int32) else 0)
section MR
variable {p : Program} {l : Launch} {e : Env} {R : Room} {s : State} {m : MethodId} {args : Array Value} {below : List Frame} {meth : Method} {c : Code} {H : Heap} {locs : List Loc} {cells slots : Nat} {Q : State → Prop}
variable {cc : ByteArray} {pc : Nat} {ls : Array Slot} {rest : List Value} {D : va_G} {cl : List vw_C} {A : Nat → Prop} {a : Nat} {tys : List (ClassId × FieldType)} {ws : va_W} {H0 : Heap}
/-- roads that meet: what stands behind is proved once -/
theorem cl_cut {st st2 : List Value} (pc2 : Nat) (I : Heap → List Loc → Array Slot → Prop)
    (h2 : ∀ H locs ls, I H locs ls → W p l e R s m args below meth c H locs cells slots Q (F0 m pc2 ls st2))
    (h1 : (∀ H locs ls, I H locs ls → W p l e R s m args below meth c H locs cells slots Q (F0 m pc2 ls st2)) → W p l e R s m args below meth c H locs cells slots Q (F0 m pc ls st)) : W p l e R s m args below meth c H locs cells slots Q (F0 m pc ls st) := h1 h2
theorem cl_zald (hexec : p.tables.exec = Jvm.exec) (hb : c.code = cc) (hK : va_K D cl tys s) (hP : va_P D cl ws H) (q0 t0 : Nat) {cA : ClassId} {n k : Nat} {f : Nat → Int32} (ha : ws[q0]? = some (a, .inl (cA, n, .inl f))) (ht : tys[t0]? = some (cA, .boolean)) (hk : k < n) (hn : n < 2 ^ 31) (hdg : decode cc pc = .ok (.baload, 1))
    (kk : W p l e R s m args below meth c H locs cells slots Q (F0 m (pc + 1) ls (.int (f k) :: rest))) : W p l e R s m args below meth c H locs cells slots Q (F0 m pc ls (.int (nI k) :: .ref a :: rest)) := by
  refine va_zald hexec hb hK hP q0 t0 ha ht (vp_in_nI hk hn) hdg ?_
  rw [nI_clamp (Nat.lt_trans hk hn)]
  exact kk
theorem cl_zast (hexec : p.tables.exec = Jvm.exec) (hb : c.code = cc) (hK : va_K D cl tys s) (hP : va_P D cl ws H) (hD : va_D A ws) (hS : va_S A H0 H locs) (q0 t0 : Nat) {cA : ClassId} {n k : Nat} {B : Nat → Bool} (ha : ws[q0]? = some (a, .inl (cA, n, .inl (fun c => md_b (B c))))) (ht : tys[t0]? = some (cA, .boolean)) (b : Bool) {x : Int32} (hx : x = md_b b) (hk : k < n) (hn : n < 2 ^ 31) (hdg : decode cc pc = .ok (.bastore, 1))
    (kk : ∀ (H1 : Heap) (locs1 : List Loc), va_P D cl (ws.set q0 (a, .inl (cA, n, .inl (fun c => md_b (md_u B k b c))))) H1 → va_S A H0 H1 locs1 → W p l e R s m args below meth c H1 locs1 cells slots Q (F0 m (pc + 1) ls rest)) : W p l e R s m args below meth c H locs cells slots Q (F0 m pc ls (.int x :: .int (nI k) :: .ref a :: rest)) := by
  subst hx
  refine va_zast hexec hb hK hP hD hS q0 t0 ha ht (vp_in_nI hk hn) hdg (fun H1 locs1 h1 _ h3 => ?_)
  rw [nI_clamp (Nat.lt_trans hk hn), md_upd] at h1
  exact kk H1 locs1 h1 h3
end MR
end
section
theorem md_ct_1 {a b : Bool} {D S : Nat → Bool} {i : Nat} (h : (a && D i || b && S i) = true) : md_ct a b D S (i + 1) = md_ct a b D S i + 1 := if_pos h
theorem md_ct_0 {a b : Bool} {D S : Nat → Bool} {i : Nat} (h : (a && D i || b && S i) = false) : md_ct a b D S (i + 1) = md_ct a b D S i := if_neg (by rw [h]; decide)
theorem md_no {P : Prop} {a d : Bool} (h : P ↔ a = true) (hn : ¬ P) : (a && d) = false := by
  cases a
  · rfl
  · exact absurd (h.mpr rfl) hn
theorem md_yes {P : Prop} {a : Bool} (h : P ↔ a = true) (hn : P) : a = true := h.mp hn
theorem md_n_0 {j la : Nat} : md_n j la 0 = 0 := by unfold md_n; omega
theorem md_n_1 {j la i : Nat} (h1 : j ≤ i) (h2 : i ≤ la) : md_n j la (i + 1) = md_n j la i + 1 := by unfold md_n; omega
theorem md_n_2 {j la i : Nat} (h : ¬ (j ≤ i ∧ i ≤ la)) : md_n j la (i + 1) = md_n j la i := by unfold md_n; omega
theorem md_u_same {D : Nat → Bool} {k : Nat} {b : Bool} (h : D k = b) : md_u D k b = D := by
  funext c
  unfold md_u
  by_cases hc : c = k
  · rw [if_pos hc, hc, h]
  · rw [if_neg hc]
theorem md_u_self {D : Nat → Bool} {k : Nat} : md_u D k (D k) = D := md_u_same rfl
theorem md_cl_f (D : Nat → Bool) (i : Nat) : md_cl D false i = D := by
  funext c
  simp [md_cl]
set_option maxHeartbeats 4000000 in
set_option maxRecDepth 100000 in
/-- thrown() -/
theorem c1_thrown (l : Launch) (dC : Nat → ClassId) (dI : Nat → Nat → Nat) (q qa qb : Nat) (cY cZ : ClassId) (t : Int32) (N : Nat) (D S : Nat → Bool) : Met l yX1_thrown wsX1_thrown ({ frames := 0, cells := 0, slots := 0, locals := 0 }) (cb_Pc (dC, dI) [.ref q] (md_w q qa qb cY cZ t (nI N) D S) [(cY, .boolean), (cZ, .boolean)]) (cl_Q (some (.int t))) 0 0 (fun _ => False) := by
  refine Met.ofW (cc := cX1_thrown) (maxL := 1) (ret := (some .int)) (by decide) rfl ?_
  intro p e s m args below meth c s₁ B hml hv
  obtain ⟨rfl, hP, hK⟩ := hv
  have hx := B.exec
  have hb := B.bytes
  have hr := B.returns
  have hts := atoms_spec (ws := wsX1_thrown) B.pre
  have hown : s.vm.findClass RX1 = some m.cls := findClass_of_methodNamed B.named
  have hlocks := B.notSynchronized
  have hl := lv_entry ([.ref q]) (n := 1) (Nat.le_of_ble_eq_true rfl)
  rw [lg_entry_eq]
  generalize (lg_sl ([.ref q]) ++ List.replicate (1 - (lg_sl ([.ref q])).length) Slot.unset).toArray = ls at hl ⊢
  have hl : lv_has ls 1 [(0, .ref q)] := hl
  refine lv_aload_n hx hb dX1_thrown_0 rfl (lv_at hl 0 rfl) ?_
  refine va_get (D := (dC, dI)) (ci := 1) (v := .int t) (C := RX1) (T := TX1) (N := 4) hx hb hts (by decide +kernel) hown hK hP 0 rfl rfl 0 (by decide) (hts (.fieldLink RX1 20 "CardBookModel" "thrown" "I") (by decide +kernel)) (fun _ h9 => h9) rfl dX1_thrown_1 ?_
  exact W.iret (v := t) hx hb hr (fun t9 ht9 _ => ⟨rfl, ht9⟩) (fun q9 hq9 => nomatch hq9) dX1_thrown_4
set_option maxHeartbeats 4000000 in
set_option maxRecDepth 100000 in
/-- goes(b) -/
theorem c1_goes (l : Launch) (dC : Nat → ClassId) (dI : Nat → Nat → Nat) (q qa qb : Nat) (cY cZ : ClassId) (t : Int32) (N : Nat) (D S : Nat → Bool) (b : Bool) (hne : md_ne q qa qb) : Met l yX1_goes wsX1_goes ({ frames := 0, cells := 0, slots := 0, locals := 0 }) (cb_Pc (dC, dI) [.ref q, .int (md_b b)] (md_w q qa qb cY cZ t (nI N) D S) [(cY, .boolean), (cZ, .boolean)]) (va_Qi (fun (r9 : Int32) (_ : Unit) => (md_b b) = r9) (fun _ t9 => va_P (dC, dI) vwCl (md_w q qa qb cY cZ (md_b (!b)) (nI N) D S) t9.heap) (md_A q qa qb)) 0 0 (md_A q qa qb) := by
  refine Met.ofW (cc := cX1_goes) (maxL := 2) (ret := (some .boolean)) (by decide) rfl ?_
  intro p e s m args below meth c s₁ B hml hv
  obtain ⟨rfl, hP, hK⟩ := hv
  have hx := B.exec
  have hb := B.bytes
  have hr := B.returns
  have hts := atoms_spec (ws := wsX1_goes) B.pre
  have hown : s.vm.findClass RX1 = some m.cls := findClass_of_methodNamed B.named
  have hlocks := B.notSynchronized
  have hl := lv_entry ([.ref q, .int (md_b b)]) (n := 2) (Nat.le_of_ble_eq_true rfl)
  rw [lg_entry_eq]
  generalize (lg_sl ([.ref q, .int (md_b b)]) ++ List.replicate (2 - (lg_sl ([.ref q, .int (md_b b)])).length) Slot.unset).toArray = ls at hl ⊢
  have hl : lv_has ls 2 [(0, .ref q), (1, .int (md_b b))] := hl
  have hS : va_S (md_A q qa qb) s.heap s.heap [] := va_S.rf
  refine lv_aload_n hx hb dX1_goes_0 rfl (lv_at hl 0 rfl) ?_
  refine lv_iload_n hx hb dX1_goes_1 rfl (lv_at hl 1 rfl) ?_
  refine lv_if_eq (tgt := 9) hx hb dX1_goes_2 (by decide) (fun hc => ?_) (fun hc => ?_)
  · refine lv_iconst (v := 1) hx hb dX1_goes_9 (by decide) ?_
    have hD := md_D (cY := cY) (cZ := cZ) (t := t) (n := (nI N)) (D := D) (S := S) hne
    refine va_put (D := (dC, dI)) (ci := 1) (v := .int 1) (ty := .int) (C := RX1) (T := TX1) (N := 4) hx hb hts (by decide +kernel) tyX1 tyX1_ok nmX1 hown hK hP hD hS 0 rfl rfl 0 (by decide) (hts (.fieldLink RX1 20 "CardBookModel" "thrown" "I") (by decide +kernel)) (fun _ h9 => h9) rfl (by decide +kernel) rfl rfl (Nat.le_of_ble_eq_true rfl) dX1_goes_10 (fun H locs hP _ hS => ?_)
    have hP : va_P (dC, dI) vwCl (md_w q qa qb cY cZ 1 (nI N) D S) H := hP
    refine lv_iload_n hx hb dX1_goes_13 rfl (lv_at hl 1 rfl) ?_
    have hb9 := md_b0 hc
    subst hb9
    exact W.zret (v := md_b false) (ty := .boolean) hx hb hr (md_nb _) (fun t9 ht9 _ => ⟨⟨_, (), rfl, rfl, cl_at ht9 (hP)⟩, hS.F ht9⟩) hS.2.2 dX1_goes_14
  · refine lv_iconst (v := 0) hx hb dX1_goes_5 (by decide) ?_
    refine lv_goto (tgt := 10) hx hb dX1_goes_6 (by decide) ?_
    have hD := md_D (cY := cY) (cZ := cZ) (t := t) (n := (nI N)) (D := D) (S := S) hne
    refine va_put (D := (dC, dI)) (ci := 1) (v := .int 0) (ty := .int) (C := RX1) (T := TX1) (N := 4) hx hb hts (by decide +kernel) tyX1 tyX1_ok nmX1 hown hK hP hD hS 0 rfl rfl 0 (by decide) (hts (.fieldLink RX1 20 "CardBookModel" "thrown" "I") (by decide +kernel)) (fun _ h9 => h9) rfl (by decide +kernel) rfl rfl (Nat.le_of_ble_eq_true rfl) dX1_goes_10 (fun H locs hP _ hS => ?_)
    have hP : va_P (dC, dI) vwCl (md_w q qa qb cY cZ 0 (nI N) D S) H := hP
    refine lv_iload_n hx hb dX1_goes_13 rfl (lv_at hl 1 rfl) ?_
    have hb9 := md_b1 hc
    subst hb9
    exact W.zret (v := md_b true) (ty := .boolean) hx hb hr (md_nb _) (fun t9 ht9 _ => ⟨⟨_, (), rfl, rfl, cl_at ht9 (hP)⟩, hS.F ht9⟩) hS.2.2 dX1_goes_14
set_option maxHeartbeats 4000000 in
set_option maxRecDepth 100000 in
/-- cards() -/
theorem c1_cards (l : Launch) (dC : Nat → ClassId) (dI : Nat → Nat → Nat) (q qa qb : Nat) (cY cZ : ClassId) (t : Int32) (N : Nat) (D S : Nat → Bool) (h1 : 1 ≤ N) (h2 : N ≤ 16384) : Met l yX1_cards wsX1_cards ({ frames := 0, cells := 0, slots := 0, locals := 0 }) (cb_Pc (dC, dI) [.ref q] (md_w q qa qb cY cZ t (nI N) D S) [(cY, .boolean), (cZ, .boolean)]) (cl_Q (some (.int (nI (cb_cc N))))) 0 0 (fun _ => False) := by
  refine Met.ofW (cc := cX1_cards) (maxL := 1) (ret := (some .int)) (by decide) rfl ?_
  intro p e s m args below meth c s₁ B hml hv
  obtain ⟨rfl, hP, hK⟩ := hv
  have hx := B.exec
  have hb := B.bytes
  have hr := B.returns
  have hts := atoms_spec (ws := wsX1_cards) B.pre
  have hown : s.vm.findClass RX1 = some m.cls := findClass_of_methodNamed B.named
  have hlocks := B.notSynchronized
  have hl := lv_entry ([.ref q]) (n := 1) (Nat.le_of_ble_eq_true rfl)
  rw [lg_entry_eq]
  generalize (lg_sl ([.ref q]) ++ List.replicate (1 - (lg_sl ([.ref q])).length) Slot.unset).toArray = ls at hl ⊢
  have hl : lv_has ls 1 [(0, .ref q)] := hl
  refine lv_aload_n hx hb dX1_cards_0 rfl (lv_at hl 0 rfl) ?_
  refine va_get (D := (dC, dI)) (ci := 1) (v := .int (nI N)) (C := RX1) (T := TX1) (N := 4) hx hb hts (by decide +kernel) hown hK hP 0 rfl rfl 1 (by decide) (hts (.fieldLink RX1 7 "CardBookModel" "cells" "I") (by decide +kernel)) (fun _ h9 => h9) rfl dX1_cards_1 ?_
  refine lv_bipush (v := 31) hx hb dX1_cards_4 (by decide) ?_
  refine lv_iadd hx hb dX1_cards_6 ?_
  refine lv_bipush (v := 32) hx hb dX1_cards_7 (by decide) ?_
  refine lv_idiv hx hb dX1_cards_9 (by decide) ?_
  refine cl_asi (md_cards h1 h2) ?_
  exact W.iret (v := nI (cb_cc N)) hx hb hr (fun t9 ht9 _ => ⟨rfl, ht9⟩) (fun q9 hq9 => nomatch hq9) dX1_cards_10
set_option maxHeartbeats 4000000 in
set_option maxRecDepth 100000 in
/-- isCell(x) -/
theorem c1_isCell (l : Launch) (dC : Nat → ClassId) (dI : Nat → Nat → Nat) (q qa qb : Nat) (cY cZ : ClassId) (t : Int32) (N : Nat) (D S : Nat → Bool) (x : Int32) (g : Bool)  (hg : g = true ↔ (¬ x < 0 ∧ x < (nI N))) : Met l yX1_isCell wsX1_isCell ({ frames := 0, cells := 0, slots := 0, locals := 0 }) (cb_Pc (dC, dI) [.ref q, .int x] (md_w q qa qb cY cZ t (nI N) D S) [(cY, .boolean), (cZ, .boolean)]) (cl_Q (some (.int (md_b g)))) 0 0 (fun _ => False) := by
  refine Met.ofW (cc := cX1_isCell) (maxL := 2) (ret := (some .boolean)) (by decide) rfl ?_
  intro p e s m args below meth c s₁ B hml hv
  obtain ⟨rfl, hP, hK⟩ := hv
  have hx := B.exec
  have hb := B.bytes
  have hr := B.returns
  have hts := atoms_spec (ws := wsX1_isCell) B.pre
  have hown : s.vm.findClass RX1 = some m.cls := findClass_of_methodNamed B.named
  have hlocks := B.notSynchronized
  have hl := lv_entry ([.ref q, .int x]) (n := 2) (Nat.le_of_ble_eq_true rfl)
  rw [lg_entry_eq]
  generalize (lg_sl ([.ref q, .int x]) ++ List.replicate (2 - (lg_sl ([.ref q, .int x])).length) Slot.unset).toArray = ls at hl ⊢
  have hl : lv_has ls 2 [(0, .ref q), (1, .int x)] := hl
  refine lv_iload_n hx hb dX1_isCell_0 rfl (lv_at hl 1 rfl) ?_
  refine lv_if_lt (tgt := 16) hx hb dX1_isCell_1 (by decide) (fun hc => ?_) (fun hc => ?_)
  · refine lv_iconst (v := 0) hx hb dX1_isCell_16 (by decide) ?_
    have hg9 : g = false := by cases g; rfl; exact absurd hc (hg.mp rfl).1
    subst hg9
    exact W.zret (v := 0) (ty := .boolean) hx hb hr rfl (fun t9 ht9 _ => ⟨rfl, ht9⟩) (fun q9 hq9 => nomatch hq9) dX1_isCell_17
  · refine lv_iload_n hx hb dX1_isCell_4 rfl (lv_at hl 1 rfl) ?_
    refine lv_aload_n hx hb dX1_isCell_5 rfl (lv_at hl 0 rfl) ?_
    refine va_get (D := (dC, dI)) (ci := 1) (v := .int (nI N)) (C := RX1) (T := TX1) (N := 4) hx hb hts (by decide +kernel) hown hK hP 0 rfl rfl 1 (by decide) (hts (.fieldLink RX1 7 "CardBookModel" "cells" "I") (by decide +kernel)) (fun _ h9 => h9) rfl dX1_isCell_6 ?_
    refine lv_icmp_ge (tgt := 16) hx hb dX1_isCell_9 (by decide) (fun hd => ?_) (fun hd => ?_)
    · refine lv_iconst (v := 0) hx hb dX1_isCell_16 (by decide) ?_
      have hg9 : g = false := by cases g; rfl; exact absurd (hg.mp rfl).2 (Int32.not_lt.mpr hd)
      subst hg9
      exact W.zret (v := 0) (ty := .boolean) hx hb hr rfl (fun t9 ht9 _ => ⟨rfl, ht9⟩) (fun q9 hq9 => nomatch hq9) dX1_isCell_17
    · refine lv_iconst (v := 1) hx hb dX1_isCell_12 (by decide) ?_
      refine lv_goto (tgt := 17) hx hb dX1_isCell_13 (by decide) ?_
      have hg9 : g = true := hg.mpr ⟨hc, Int32.not_le.mp hd⟩
      subst hg9
      exact W.zret (v := 1) (ty := .boolean) hx hb hr rfl (fun t9 ht9 _ => ⟨rfl, ht9⟩) (fun q9 hq9 => nomatch hq9) dX1_isCell_17
set_option maxHeartbeats 4000000 in
set_option maxRecDepth 100000 in
/-- isCard(x) -/
theorem c1_isCard (l : Launch) (dC : Nat → ClassId) (dI : Nat → Nat → Nat) (q qa qb : Nat) (cY cZ : ClassId) (t : Int32) (N : Nat) (D S : Nat → Bool) (x : Int32) (g : Bool) (h1 : 1 ≤ N) (h2 : N ≤ 16384) (hg : g = true ↔ (¬ x < 0 ∧ x < (nI (cb_cc N)))) : Met l yX1_isCard wsX1_isCard ({ frames := 1, cells := 0, slots := 0, locals := 20 }) (cb_Pc (dC, dI) [.ref q, .int x] (md_w q qa qb cY cZ t (nI N) D S) [(cY, .boolean), (cZ, .boolean)]) (cl_Q (some (.int (md_b g)))) 0 0 (fun _ => False) := by
  refine Met.ofW (cc := cX1_isCard) (maxL := 2) (ret := (some .boolean)) (by decide) rfl ?_
  intro p e s m args below meth c s₁ B hml hv
  obtain ⟨rfl, hP, hK⟩ := hv
  have hx := B.exec
  have hb := B.bytes
  have hr := B.returns
  have hts := atoms_spec (ws := wsX1_isCard) B.pre
  have hown : s.vm.findClass RX1 = some m.cls := findClass_of_methodNamed B.named
  have hlocks := B.notSynchronized
  have hl := lv_entry ([.ref q, .int x]) (n := 2) (Nat.le_of_ble_eq_true rfl)
  rw [lg_entry_eq]
  generalize (lg_sl ([.ref q, .int x]) ++ List.replicate (2 - (lg_sl ([.ref q, .int x])).length) Slot.unset).toArray = ls at hl ⊢
  have hl : lv_has ls 2 [(0, .ref q), (1, .int x)] := hl
  refine lv_iload_n hx hb dX1_isCard_0 rfl (lv_at hl 1 rfl) ?_
  refine lv_if_lt (tgt := 16) hx hb dX1_isCard_1 (by decide) (fun hc => ?_) (fun hc => ?_)
  · refine lv_iconst (v := 0) hx hb dX1_isCard_16 (by decide) ?_
    have hg9 : g = false := by cases g; rfl; exact absurd hc (hg.mp rfl).1
    subst hg9
    exact W.zret (v := 0) (ty := .boolean) hx hb hr rfl (fun t9 ht9 _ => ⟨rfl, ht9⟩) (fun q9 hq9 => nomatch hq9) dX1_isCard_17
  · refine lv_iload_n hx hb dX1_isCard_4 rfl (lv_at hl 1 rfl) ?_
    refine lv_aload_n hx hb dX1_isCard_5 rfl (lv_at hl 0 rfl) ?_
    refine cl_calli (W.runV (As := []) (rest := [.int x]) ⟨hx, hb, hml, hown, hts⟩ (c1_cards l dC dI q qa qb cY cZ t N D S h1 h2) (cwV 0 hts gX1_isCard_X1_cards rfl rfl rfl (by decide +kernel) ⟨Nat.le_of_ble_eq_true rfl, Nat.le_of_ble_eq_true rfl⟩) (md_preV hK hP []) rfl rfl hl.1 rfl (lv_room (Nat.le_of_ble_eq_true rfl)) dX1_isCard_6 ⟨Nat.zero_le _, Nat.zero_le _⟩) ?_
    refine lv_icmp_ge (tgt := 16) hx hb dX1_isCard_9 (by decide) (fun hd => ?_) (fun hd => ?_)
    · refine lv_iconst (v := 0) hx hb dX1_isCard_16 (by decide) ?_
      have hg9 : g = false := by cases g; rfl; exact absurd (hg.mp rfl).2 (Int32.not_lt.mpr hd)
      subst hg9
      exact W.zret (v := 0) (ty := .boolean) hx hb hr rfl (fun t9 ht9 _ => ⟨rfl, ht9⟩) (fun q9 hq9 => nomatch hq9) dX1_isCard_17
    · refine lv_iconst (v := 1) hx hb dX1_isCard_12 (by decide) ?_
      refine lv_goto (tgt := 17) hx hb dX1_isCard_13 (by decide) ?_
      have hg9 : g = true := hg.mpr ⟨hc, Int32.not_le.mp hd⟩
      subst hg9
      exact W.zret (v := 1) (ty := .boolean) hx hb hr rfl (fun t9 ht9 _ => ⟨rfl, ht9⟩) (fun q9 hq9 => nomatch hq9) dX1_isCard_17
set_option maxHeartbeats 4000000 in
set_option maxRecDepth 100000 in
/-- many(w, cl) -/
theorem c1_many (l : Launch) (dC : Nat → ClassId) (dI : Nat → Nat → Nat) (q qa qb : Nat) (cY cZ : ClassId) (t : Int32) (N : Nat) (D S : Nat → Bool) (w : Int32) (cl a b : Bool) (hne : md_ne q qa qb) (hA : w &&& 1 = 1 ↔ a = true) (hB : w &&& 2 = 2 ↔ b = true) : Met l yX1_many wsX1_many ({ frames := 0, cells := 0, slots := 0, locals := 0 }) (cb_Pc (dC, dI) [.ref q, .int w, .int (md_b cl)] (md_w q qa qb cY cZ t (nI N) D S) [(cY, .boolean), (cZ, .boolean)]) (va_Qi (fun (r9 : Int32) (_ : Unit) => (nI (md_ct a b D S 512)) = r9) (fun _ t9 => va_P (dC, dI) vwCl (md_w q qa qb cY cZ t (nI N) (md_cl D cl 512) (md_cl S cl 512)) t9.heap) (md_A q qa qb)) 0 0 (md_A q qa qb) := by
  refine Met.ofW (cc := cX1_many) (maxL := 5) (ret := (some .int)) (by decide) rfl ?_
  intro p e s m args below meth c s₁ B hml hv
  obtain ⟨rfl, hP, hK⟩ := hv
  have hx := B.exec
  have hb := B.bytes
  have hr := B.returns
  have hts := atoms_spec (ws := wsX1_many) B.pre
  have hown : s.vm.findClass RX1 = some m.cls := findClass_of_methodNamed B.named
  have hlocks := B.notSynchronized
  have hl := lv_entry ([.ref q, .int w, .int (md_b cl)]) (n := 5) (Nat.le_of_ble_eq_true rfl)
  rw [lg_entry_eq]
  generalize (lg_sl ([.ref q, .int w, .int (md_b cl)]) ++ List.replicate (5 - (lg_sl ([.ref q, .int w, .int (md_b cl)])).length) Slot.unset).toArray = ls at hl ⊢
  have hl : lv_has ls 5 [(0, .ref q), (1, .int w), (2, .int (md_b cl))] := hl
  have hS : va_S (md_A q qa qb) s.heap s.heap [] := va_S.rf
  refine lv_iconst (v := 0) hx hb dX1_many_0 (by decide) ?_
  refine lv_istore_n (lv' := [(3, .int 0), (0, .ref q), (1, .int w), (2, .int (md_b cl))]) hx hb dX1_many_1 rfl hl (by decide) rfl (fun ls hl => ?_)
  refine lv_iconst (v := 0) hx hb dX1_many_2 (by decide) ?_
  refine lv_istore (lv' := [(4, .int 0), (3, .int 0), (0, .ref q), (1, .int w), (2, .int (md_b cl))]) hx hb dX1_many_3 hl (by decide) rfl (fun ls hl => ?_)
  refine cl_loop 0 512 (by decide) (fun i H9 locs9 ls9 => va_P (dC, dI) vwCl (md_w q qa qb cY cZ t (nI N) (md_cl D cl i) (md_cl S cl i)) H9 ∧ va_S (md_A q qa qb) s.heap H9 locs9 ∧ lv_has ls9 5 [(4, .int (nI i)), (3, .int (nI (md_ct a b D S i))), (0, .ref q), (1, .int w), (2, .int (md_b cl))]) ?_ ?_ (H := s.heap) (locs := []) (ls := ls) ⟨by rw [md_cl_0, md_cl_0]; exact hP, hS, hl⟩
  · intro H locs ls hi9
    obtain ⟨hP, hS, hl⟩ := hi9
    refine lv_iload hx hb dX1_many_5 (lv_at hl 0 rfl) ?_
    refine lv_sipush (v := 512) hx hb dX1_many_7 (by decide) ?_
    refine lv_icmp_ge (tgt := 113) hx hb dX1_many_10 (by decide) (fun hc => ?_) (fun hc => ?_)
    · refine lv_iload_n hx hb dX1_many_113 rfl (lv_at hl 1 rfl) ?_
      exact W.iret (v := nI (md_ct a b D S 512)) hx hb hr (fun t9 ht9 _ => ⟨⟨_, (), rfl, rfl, cl_at ht9 (hP)⟩, hS.F ht9⟩) hS.2.2 dX1_many_114
    · exact absurd (Int32.le_refl _) hc
  · intro i H locs ls _ hi hi9 kk
    obtain ⟨hP, hS, hl⟩ := hi9
    refine lv_iload hx hb dX1_many_5 (lv_at hl 0 rfl) ?_
    refine lv_sipush (v := 512) hx hb dX1_many_7 (by decide) ?_
    refine lv_icmp_ge (tgt := 113) hx hb dX1_many_10 (by decide) (fun hc => ?_) (fun hc => ?_)
    · exact absurd hc (nI_ge hi (by decide))
    · refine cl_cut (st2 := [.int (nI (md_ct a b D S (i + 1)))]) 54 (fun H9 locs9 ls9 => va_P (dC, dI) vwCl (md_w q qa qb cY cZ t (nI N) (md_cl D cl i) (md_cl S cl i)) H9 ∧ va_S (md_A q qa qb) s.heap H9 locs9 ∧ lv_has ls9 5 [(4, .int (nI i)), (3, .int (nI (md_ct a b D S i))), (0, .ref q), (1, .int w), (2, .int (md_b cl))]) ?_ (fun k54 => ?_)
      · intro H locs ls hi9
        obtain ⟨hP, hS, hl⟩ := hi9
        refine lv_istore_n (lv' := [(3, .int (nI (md_ct a b D S (i + 1)))), (4, .int (nI i)), (0, .ref q), (1, .int w), (2, .int (md_b cl))]) hx hb dX1_many_54 rfl hl (by decide) rfl (fun ls hl => ?_)
        refine lv_aload_n hx hb dX1_many_55 rfl (lv_at hl 2 rfl) ?_
        refine va_get (D := (dC, dI)) (ci := 1) (v := .ref qa) (C := RX1) (T := TX1) (N := 4) hx hb hts (by decide +kernel) hown hK hP 0 rfl rfl 2 (by decide) (hts (.fieldLink RX1 13 "CardBookModel" "dirty" "[Z") (by decide +kernel)) (fun _ h9 => h9) rfl dX1_many_56 ?_
        refine lv_iload hx hb dX1_many_59 (lv_at hl 1 rfl) ?_
        refine lv_aload_n hx hb dX1_many_61 rfl (lv_at hl 2 rfl) ?_
        refine cl_cut (st2 := [.int (md_b (D i && !cl)), .int (nI i), .ref qa]) 80 (fun H9 locs9 ls9 => va_P (dC, dI) vwCl (md_w q qa qb cY cZ t (nI N) (md_cl D cl i) (md_cl S cl i)) H9 ∧ va_S (md_A q qa qb) s.heap H9 locs9 ∧ lv_has ls9 5 [(3, .int (nI (md_ct a b D S (i + 1)))), (4, .int (nI i)), (0, .ref q), (1, .int w), (2, .int (md_b cl))]) ?_ (fun k80 => ?_)
        · intro H locs ls hi9
          obtain ⟨hP, hS, hl⟩ := hi9
          have hD := md_D (cY := cY) (cZ := cZ) (t := t) (n := (nI N)) (D := (md_cl D cl i)) (S := (md_cl S cl i)) hne
          refine cl_zast (D := (dC, dI)) hx hb hK hP hD hS 1 0 rfl rfl (D i && !cl) (rfl) hi (by decide) dX1_many_80 (fun H locs hP hS => ?_)
          have hP : va_P (dC, dI) vwCl (md_w q qa qb cY cZ t (nI N) (md_u (md_cl D cl i) i (D i && !cl)) (md_cl S cl i)) H := hP
          rw [md_cl_s] at hP
          refine lv_aload_n hx hb dX1_many_81 rfl (lv_at hl 2 rfl) ?_
          refine va_get (D := (dC, dI)) (ci := 1) (v := .ref qb) (C := RX1) (T := TX1) (N := 4) hx hb hts (by decide +kernel) hown hK hP 0 rfl rfl 3 (by decide) (hts (.fieldLink RX1 17 "CardBookModel" "saved" "[Z") (by decide +kernel)) (fun _ h9 => h9) rfl dX1_many_82 ?_
          refine lv_iload hx hb dX1_many_85 (lv_at hl 1 rfl) ?_
          refine lv_aload_n hx hb dX1_many_87 rfl (lv_at hl 2 rfl) ?_
          refine cl_cut (st2 := [.int (md_b (S i && !cl)), .int (nI i), .ref qb]) 106 (fun H9 locs9 ls9 => va_P (dC, dI) vwCl (md_w q qa qb cY cZ t (nI N) (md_cl D cl (i + 1)) (md_cl S cl i)) H9 ∧ va_S (md_A q qa qb) s.heap H9 locs9 ∧ lv_has ls9 5 [(3, .int (nI (md_ct a b D S (i + 1)))), (4, .int (nI i)), (0, .ref q), (1, .int w), (2, .int (md_b cl))]) ?_ (fun k106 => ?_)
          · intro H locs ls hi9
            obtain ⟨hP, hS, hl⟩ := hi9
            have hD := md_D (cY := cY) (cZ := cZ) (t := t) (n := (nI N)) (D := (md_cl D cl (i + 1))) (S := (md_cl S cl i)) hne
            refine cl_zast (D := (dC, dI)) hx hb hK hP hD hS 2 1 rfl rfl (S i && !cl) (rfl) hi (by decide) dX1_many_106 (fun H locs hP hS => ?_)
            have hP : va_P (dC, dI) vwCl (md_w q qa qb cY cZ t (nI N) (md_cl D cl (i + 1)) (md_u (md_cl S cl i) i (S i && !cl))) H := hP
            rw [md_cl_s] at hP
            refine lv_iinc (v := (nI (i + 1))) (lv' := [(4, .int (nI (i + 1))), (3, .int (nI (md_ct a b D S (i + 1)))), (0, .ref q), (1, .int w), (2, .int (md_b cl))]) hx hb dX1_many_107 hl (k := 1) rfl (nI_1 _) (by decide) rfl (fun ls hl => ?_)
            refine lv_goto (tgt := 5) hx hb dX1_many_110 (by decide) ?_
            exact kk _ _ _ ⟨hP, hS, lv_sub hl [0, 1, 2, 3, 4] rfl⟩
          · refine va_get (D := (dC, dI)) (ci := 1) (v := .ref qb) (C := RX1) (T := TX1) (N := 4) hx hb hts (by decide +kernel) hown hK hP 0 rfl rfl 3 (by decide) (hts (.fieldLink RX1 17 "CardBookModel" "saved" "[Z") (by decide +kernel)) (fun _ h9 => h9) rfl dX1_many_88 ?_
            refine lv_iload hx hb dX1_many_91 (lv_at hl 1 rfl) ?_
            refine cl_zald (D := (dC, dI)) hx hb hK hP 2 1 rfl rfl hi (by decide) dX1_many_93 ?_
            refine lv_if_eq (tgt := 105) hx hb dX1_many_94 (by decide) (fun he => ?_) (fun he => ?_)
            · refine lv_iconst (v := 0) hx hb dX1_many_105 (by decide) ?_
              rw [md_cl_i] at he
              refine cl_asi (y := md_b (S i && !cl)) (by rw [md_b0 he]; rfl) ?_
              exact k106 _ _ _ ⟨hP, hS, hl⟩
            · refine lv_iload_n hx hb dX1_many_97 rfl (lv_at hl 4 rfl) ?_
              refine lv_if_ne (tgt := 105) hx hb dX1_many_98 (by decide) (fun hf => ?_) (fun hf => ?_)
              · refine lv_iconst (v := 0) hx hb dX1_many_105 (by decide) ?_
                refine cl_asi (y := md_b (S i && !cl)) (by rw [md_b1 hf]; cases S i <;> rfl) ?_
                exact k106 _ _ _ ⟨hP, hS, hl⟩
              · rw [md_cl_i] at he
                refine lv_iconst (v := 1) hx hb dX1_many_101 (by decide) ?_
                refine lv_goto (tgt := 106) hx hb dX1_many_102 (by decide) ?_
                refine cl_asi (y := md_b (S i && !cl)) (by rw [md_b1 he, md_b0 hf]; rfl) ?_
                exact k106 _ _ _ ⟨hP, hS, hl⟩
        · refine va_get (D := (dC, dI)) (ci := 1) (v := .ref qa) (C := RX1) (T := TX1) (N := 4) hx hb hts (by decide +kernel) hown hK hP 0 rfl rfl 2 (by decide) (hts (.fieldLink RX1 13 "CardBookModel" "dirty" "[Z") (by decide +kernel)) (fun _ h9 => h9) rfl dX1_many_62 ?_
          refine lv_iload hx hb dX1_many_65 (lv_at hl 1 rfl) ?_
          refine cl_zald (D := (dC, dI)) hx hb hK hP 1 0 rfl rfl hi (by decide) dX1_many_67 ?_
          refine lv_if_eq (tgt := 79) hx hb dX1_many_68 (by decide) (fun he => ?_) (fun he => ?_)
          · refine lv_iconst (v := 0) hx hb dX1_many_79 (by decide) ?_
            rw [md_cl_i] at he
            refine cl_asi (y := md_b (D i && !cl)) (by rw [md_b0 he]; rfl) ?_
            exact k80 _ _ _ ⟨hP, hS, hl⟩
          · refine lv_iload_n hx hb dX1_many_71 rfl (lv_at hl 4 rfl) ?_
            refine lv_if_ne (tgt := 79) hx hb dX1_many_72 (by decide) (fun hf => ?_) (fun hf => ?_)
            · refine lv_iconst (v := 0) hx hb dX1_many_79 (by decide) ?_
              refine cl_asi (y := md_b (D i && !cl)) (by rw [md_b1 hf]; cases D i <;> rfl) ?_
              exact k80 _ _ _ ⟨hP, hS, hl⟩
            · rw [md_cl_i] at he
              refine lv_iconst (v := 1) hx hb dX1_many_75 (by decide) ?_
              refine lv_goto (tgt := 80) hx hb dX1_many_76 (by decide) ?_
              refine cl_asi (y := md_b (D i && !cl)) (by rw [md_b1 he, md_b0 hf]; rfl) ?_
              exact k80 _ _ _ ⟨hP, hS, hl⟩
      · refine lv_iload_n hx hb dX1_many_13 rfl (lv_at hl 3 rfl) ?_
        refine lv_iconst (v := 1) hx hb dX1_many_14 (by decide) ?_
        refine lv_iand hx hb dX1_many_15 ?_
        refine lv_iconst (v := 1) hx hb dX1_many_16 (by decide) ?_
        refine lv_icmp_ne (tgt := 30) hx hb dX1_many_17 (by decide) (fun ha1 => ?_) (fun ha1 => ?_)
        · refine lv_iload_n hx hb dX1_many_30 rfl (lv_at hl 3 rfl) ?_
          refine lv_iconst (v := 2) hx hb dX1_many_31 (by decide) ?_
          refine lv_iand hx hb dX1_many_32 ?_
          refine lv_iconst (v := 2) hx hb dX1_many_33 (by decide) ?_
          refine lv_icmp_ne (tgt := 53) hx hb dX1_many_34 (by decide) (fun hb2 => ?_) (fun hb2 => ?_)
          · refine lv_iload_n hx hb dX1_many_53 rfl (lv_at hl 1 rfl) ?_
            refine cl_asi (y := nI (md_ct a b D S (i + 1))) (by rw [md_ct_0 (by rw [md_no hA ha1, md_no hB hb2]; rfl)]) ?_
            exact k54 _ _ _ ⟨hP, hS, hl⟩
          · refine lv_aload_n hx hb dX1_many_37 rfl (lv_at hl 2 rfl) ?_
            refine va_get (D := (dC, dI)) (ci := 1) (v := .ref qb) (C := RX1) (T := TX1) (N := 4) hx hb hts (by decide +kernel) hown hK hP 0 rfl rfl 3 (by decide) (hts (.fieldLink RX1 17 "CardBookModel" "saved" "[Z") (by decide +kernel)) (fun _ h9 => h9) rfl dX1_many_38 ?_
            refine lv_iload hx hb dX1_many_41 (lv_at hl 0 rfl) ?_
            refine cl_zald (D := (dC, dI)) hx hb hK hP 2 1 rfl rfl hi (by decide) dX1_many_43 ?_
            rw [md_cl_i]
            refine lv_if_eq (tgt := 53) hx hb dX1_many_44 (by decide) (fun hs2 => ?_) (fun hs2 => ?_)
            · refine lv_iload_n hx hb dX1_many_53 rfl (lv_at hl 1 rfl) ?_
              refine cl_asi (y := nI (md_ct a b D S (i + 1))) (by rw [md_ct_0 (by rw [md_no hA ha1, md_b0 hs2, Bool.and_false]; rfl)]) ?_
              exact k54 _ _ _ ⟨hP, hS, hl⟩
            · refine lv_iload_n hx hb dX1_many_47 rfl (lv_at hl 1 rfl) ?_
              refine lv_iconst (v := 1) hx hb dX1_many_48 (by decide) ?_
              refine lv_iadd hx hb dX1_many_49 ?_
              refine cl_asi (y := nI (md_ct a b D S (i + 1))) (by rw [nI_1, md_ct_1 (by rw [md_no hA ha1, md_yes hB hb2, md_b1 hs2]; rfl)]) ?_
              refine lv_goto (tgt := 54) hx hb dX1_many_50 (by decide) ?_
              exact k54 _ _ _ ⟨hP, hS, hl⟩
        · refine lv_aload_n hx hb dX1_many_20 rfl (lv_at hl 2 rfl) ?_
          refine va_get (D := (dC, dI)) (ci := 1) (v := .ref qa) (C := RX1) (T := TX1) (N := 4) hx hb hts (by decide +kernel) hown hK hP 0 rfl rfl 2 (by decide) (hts (.fieldLink RX1 13 "CardBookModel" "dirty" "[Z") (by decide +kernel)) (fun _ h9 => h9) rfl dX1_many_21 ?_
          refine lv_iload hx hb dX1_many_24 (lv_at hl 0 rfl) ?_
          refine cl_zald (D := (dC, dI)) hx hb hK hP 1 0 rfl rfl hi (by decide) dX1_many_26 ?_
          rw [md_cl_i]
          refine lv_if_ne (tgt := 47) hx hb dX1_many_27 (by decide) (fun hd1 => ?_) (fun hd1 => ?_)
          · refine lv_iload_n hx hb dX1_many_47 rfl (lv_at hl 1 rfl) ?_
            refine lv_iconst (v := 1) hx hb dX1_many_48 (by decide) ?_
            refine lv_iadd hx hb dX1_many_49 ?_
            refine cl_asi (y := nI (md_ct a b D S (i + 1))) (by rw [nI_1, md_ct_1 (by rw [md_yes hA ha1, md_b1 hd1]; rfl)]) ?_
            refine lv_goto (tgt := 54) hx hb dX1_many_50 (by decide) ?_
            exact k54 _ _ _ ⟨hP, hS, hl⟩
          · have hd2 := md_b0 hd1
            refine lv_iload_n hx hb dX1_many_30 rfl (lv_at hl 3 rfl) ?_
            refine lv_iconst (v := 2) hx hb dX1_many_31 (by decide) ?_
            refine lv_iand hx hb dX1_many_32 ?_
            refine lv_iconst (v := 2) hx hb dX1_many_33 (by decide) ?_
            refine lv_icmp_ne (tgt := 53) hx hb dX1_many_34 (by decide) (fun hb2 => ?_) (fun hb2 => ?_)
            · refine lv_iload_n hx hb dX1_many_53 rfl (lv_at hl 1 rfl) ?_
              refine cl_asi (y := nI (md_ct a b D S (i + 1))) (by rw [md_ct_0 (by rw [(show (a && D i) = false by rw [hd2, Bool.and_false]), md_no hB hb2]; rfl)]) ?_
              exact k54 _ _ _ ⟨hP, hS, hl⟩
            · refine lv_aload_n hx hb dX1_many_37 rfl (lv_at hl 2 rfl) ?_
              refine va_get (D := (dC, dI)) (ci := 1) (v := .ref qb) (C := RX1) (T := TX1) (N := 4) hx hb hts (by decide +kernel) hown hK hP 0 rfl rfl 3 (by decide) (hts (.fieldLink RX1 17 "CardBookModel" "saved" "[Z") (by decide +kernel)) (fun _ h9 => h9) rfl dX1_many_38 ?_
              refine lv_iload hx hb dX1_many_41 (lv_at hl 0 rfl) ?_
              refine cl_zald (D := (dC, dI)) hx hb hK hP 2 1 rfl rfl hi (by decide) dX1_many_43 ?_
              rw [md_cl_i]
              refine lv_if_eq (tgt := 53) hx hb dX1_many_44 (by decide) (fun hs2 => ?_) (fun hs2 => ?_)
              · refine lv_iload_n hx hb dX1_many_53 rfl (lv_at hl 1 rfl) ?_
                refine cl_asi (y := nI (md_ct a b D S (i + 1))) (by rw [md_ct_0 (by rw [(show (a && D i) = false by rw [hd2, Bool.and_false]), md_b0 hs2, Bool.and_false]; rfl)]) ?_
                exact k54 _ _ _ ⟨hP, hS, hl⟩
              · refine lv_iload_n hx hb dX1_many_47 rfl (lv_at hl 1 rfl) ?_
                refine lv_iconst (v := 1) hx hb dX1_many_48 (by decide) ?_
                refine lv_iadd hx hb dX1_many_49 ?_
                refine cl_asi (y := nI (md_ct a b D S (i + 1))) (by rw [nI_1, md_ct_1 (by rw [(show (a && D i) = false by rw [hd2, Bool.and_false]), md_yes hB hb2, md_b1 hs2]; rfl)]) ?_
                refine lv_goto (tgt := 54) hx hb dX1_many_50 (by decide) ?_
                exact k54 _ _ _ ⟨hP, hS, hl⟩
set_option maxHeartbeats 4000000 in
set_option maxRecDepth 100000 in
/-- space(n) -/
theorem c1_space (l : Launch) (dC : Nat → ClassId) (dI : Nat → Nat → Nat) (q qa qb : Nat) (cY cZ : ClassId) (t : Int32) (N : Nat) (D S : Nat → Bool) (n : Nat) (hn1 : 1 ≤ n) (hn2 : n ≤ 16384) (hne : md_ne q qa qb) : Met l yX1_space wsX1_space ({ frames := 1, cells := 0, slots := 0, locals := 40 }) (cb_Pc (dC, dI) [.ref q, .int (nI n)] (md_w q qa qb cY cZ t (nI N) D S) [(cY, .boolean), (cZ, .boolean)]) (va_Qi (fun (r9 : Int32) (_ : Unit) => (nI N) = r9) (fun _ t9 => va_P (dC, dI) vwCl (md_w q qa qb cY cZ 0 (nI n) (md_cl D true 512) (md_cl S true 512)) t9.heap) (md_A q qa qb)) 0 0 (md_A q qa qb) := by
  refine Met.ofW (cc := cX1_space) (maxL := 4) (ret := (some .int)) (by decide) rfl ?_
  intro p e s m args below meth c s₁ B hml hv
  obtain ⟨rfl, hP, hK⟩ := hv
  have hx := B.exec
  have hb := B.bytes
  have hr := B.returns
  have hts := atoms_spec (ws := wsX1_space) B.pre
  have hown : s.vm.findClass RX1 = some m.cls := findClass_of_methodNamed B.named
  have hlocks := B.notSynchronized
  have hl := lv_entry ([.ref q, .int (nI n)]) (n := 4) (Nat.le_of_ble_eq_true rfl)
  rw [lg_entry_eq]
  generalize (lg_sl ([.ref q, .int (nI n)]) ++ List.replicate (4 - (lg_sl ([.ref q, .int (nI n)])).length) Slot.unset).toArray = ls at hl ⊢
  have hl : lv_has ls 4 [(0, .ref q), (1, .int (nI n))] := hl
  have hS : va_S (md_A q qa qb) s.heap s.heap [] := va_S.rf
  refine lv_aload_n hx hb dX1_space_0 rfl (lv_at hl 0 rfl) ?_
  refine lv_iload_n hx hb dX1_space_1 rfl (lv_at hl 1 rfl) ?_
  refine lv_iconst (v := 1) hx hb dX1_space_2 (by decide) ?_
  refine lv_icmp_lt (tgt := 17) hx hb dX1_space_3 (by decide) (fun hc => ?_) (fun hc => ?_)
  · exact absurd hc (nI_nlt hn1 (by omega))
  · refine lv_iload_n hx hb dX1_space_6 rfl (lv_at hl 1 rfl) ?_
    refine lv_sipush (v := 16384) hx hb dX1_space_7 (by decide) ?_
    refine lv_icmp_gt (tgt := 17) hx hb dX1_space_10 (by decide) (fun hd => ?_) (fun hd => ?_)
    · exact absurd hd (nI_nlt hn2 (by decide))
    · refine lv_iconst (v := 1) hx hb dX1_space_13 (by decide) ?_
      refine lv_goto (tgt := 18) hx hb dX1_space_14 (by decide) ?_
      refine va_calli (va_runV (As := [.int (md_b true)]) (rest := []) ⟨hx, hb, hml, hown, hts⟩ (c1_goes l dC dI q qa qb cY cZ t N D S true hne) (cwV 1 hts gX1_space_X1_goes rfl rfl rfl (by decide +kernel) ⟨Nat.le_of_ble_eq_true rfl, Nat.le_of_ble_eq_true rfl⟩) (md_preV hK hP [.int (md_b true)]) rfl rfl hl.1 rfl (lv_room (Nat.le_of_ble_eq_true rfl)) dX1_space_18 ⟨Nat.zero_le _, Nat.zero_le _⟩) hS (fun q _ h9 => h9) (fun q h9 => h9) (fun r9 u9 t9 H locs ht9 hvm9 hw9 hP9 hz9 hk9 hS => ?_)
      rw [ht9] at hP9
      subst hw9
      have hP : va_P (dC, dI) vwCl (md_w q qa qb cY cZ (md_b (!true)) (nI N) D S) H := hP9
      refine lv_if_ne (tgt := 26) hx hb dX1_space_21 (by decide) (fun he => ?_) (fun he => ?_)
      · refine lv_aload_n hx hb dX1_space_26 rfl (lv_at hl 0 rfl) ?_
        refine va_get (D := (dC, dI)) (ci := 1) (v := .int (nI N)) (C := RX1) (T := TX1) (N := 4) hx hb hts (by decide +kernel) hown hK hP 0 rfl rfl 1 (by decide) (hts (.fieldLink RX1 7 "CardBookModel" "cells" "I") (by decide +kernel)) (fun _ h9 => h9) rfl dX1_space_27 ?_
        refine lv_istore_n (lv' := [(2, .int (nI N)), (0, .ref q), (1, .int (nI n))]) hx hb dX1_space_30 rfl hl (by decide) rfl (fun ls hl => ?_)
        refine lv_aload_n hx hb dX1_space_31 rfl (lv_at hl 1 rfl) ?_
        refine lv_iconst (v := 3) hx hb dX1_space_32 (by decide) ?_
        refine lv_iconst (v := 1) hx hb dX1_space_33 (by decide) ?_
        refine va_calli (va_runV (As := [.int 3, .int (md_b true)]) (rest := []) ⟨hx, hb, hml, hown, hts⟩ (c1_many l dC dI q qa qb cY cZ (md_b (!true)) N D S 3 true true true hne (by decide) (by decide)) (cwV 2 hts gX1_space_X1_many rfl rfl rfl (by decide +kernel) ⟨Nat.le_of_ble_eq_true rfl, Nat.le_of_ble_eq_true rfl⟩) (md_preV hK hP [.int 3, .int (md_b true)]) rfl rfl hl.1 rfl (lv_room (Nat.le_of_ble_eq_true rfl)) dX1_space_34 ⟨Nat.zero_le _, Nat.zero_le _⟩) hS (fun q _ h9 => h9) (fun q h9 => h9) (fun r9 u9 t9 H locs ht9 hvm9 hw9 hP9 hz9 hk9 hS => ?_)
        rw [ht9] at hP9
        subst hw9
        have hP : va_P (dC, dI) vwCl (md_w q qa qb cY cZ (md_b (!true)) (nI N) (md_cl D true 512) (md_cl S true 512)) H := hP9
        refine lv_istore_n (lv' := [(3, .int (nI (md_ct true true D S 512))), (2, .int (nI N)), (0, .ref q), (1, .int (nI n))]) hx hb dX1_space_37 rfl hl (by decide) rfl (fun ls hl => ?_)
        refine lv_aload_n hx hb dX1_space_38 rfl (lv_at hl 2 rfl) ?_
        refine lv_iload_n hx hb dX1_space_39 rfl (lv_at hl 3 rfl) ?_
        have hD := md_D (cY := cY) (cZ := cZ) (t := (md_b (!true))) (n := (nI N)) (D := (md_cl D true 512)) (S := (md_cl S true 512)) hne
        refine va_put (D := (dC, dI)) (ci := 1) (v := .int (nI n)) (ty := .int) (C := RX1) (T := TX1) (N := 4) hx hb hts (by decide +kernel) tyX1 tyX1_ok nmX1 hown hK hP hD hS 0 rfl rfl 1 (by decide) (hts (.fieldLink RX1 7 "CardBookModel" "cells" "I") (by decide +kernel)) (fun _ h9 => h9) rfl (by decide +kernel) rfl rfl (Nat.le_of_ble_eq_true rfl) dX1_space_40 (fun H locs hP _ hS => ?_)
        have hP : va_P (dC, dI) vwCl (md_w q qa qb cY cZ (md_b (!true)) (nI n) (md_cl D true 512) (md_cl S true 512)) H := hP
        refine lv_iload_n hx hb dX1_space_43 rfl (lv_at hl 1 rfl) ?_
        exact W.iret (v := nI N) hx hb hr (fun t9 ht9 _ => ⟨⟨_, (), rfl, rfl, cl_at ht9 (hP)⟩, hS.F ht9⟩) hS.2.2 dX1_space_44
      · exact absurd he (by decide)
set_option maxHeartbeats 4000000 in
set_option maxRecDepth 100000 in
/-- space(x), x is not 1 .. 16384 -/
theorem e1_space (l : Launch) (dC : Nat → ClassId) (dI : Nat → Nat → Nat) (q qa qb : Nat) (cY cZ : ClassId) (t : Int32) (N : Nat) (D S : Nat → Bool) (x : Int32) (hbad : x < 1 ∨ ¬ x ≤ 16384) (hne : md_ne q qa qb) : Met l yX1_space wsX1_space ({ frames := 1, cells := 0, slots := 0, locals := 40 }) (cb_Pc (dC, dI) [.ref q, .int x] (md_w q qa qb cY cZ t (nI N) D S) [(cY, .boolean), (cZ, .boolean)]) (va_Qi (fun (r9 : Int32) (_ : Unit) => (0 : Int32) = r9) (fun _ t9 => va_P (dC, dI) vwCl (md_w q qa qb cY cZ 1 (nI N) D S) t9.heap) (md_A q qa qb)) 0 0 (md_A q qa qb) := by
  refine Met.ofW (cc := cX1_space) (maxL := 4) (ret := (some .int)) (by decide) rfl ?_
  intro p e s m args below meth c s₁ B hml hv
  obtain ⟨rfl, hP, hK⟩ := hv
  have hx := B.exec
  have hb := B.bytes
  have hr := B.returns
  have hts := atoms_spec (ws := wsX1_space) B.pre
  have hown : s.vm.findClass RX1 = some m.cls := findClass_of_methodNamed B.named
  have hlocks := B.notSynchronized
  have hl := lv_entry ([.ref q, .int x]) (n := 4) (Nat.le_of_ble_eq_true rfl)
  rw [lg_entry_eq]
  generalize (lg_sl ([.ref q, .int x]) ++ List.replicate (4 - (lg_sl ([.ref q, .int x])).length) Slot.unset).toArray = ls at hl ⊢
  have hl : lv_has ls 4 [(0, .ref q), (1, .int x)] := hl
  have hS : va_S (md_A q qa qb) s.heap s.heap [] := va_S.rf
  refine lv_aload_n hx hb dX1_space_0 rfl (lv_at hl 0 rfl) ?_
  refine lv_iload_n hx hb dX1_space_1 rfl (lv_at hl 1 rfl) ?_
  refine lv_iconst (v := 1) hx hb dX1_space_2 (by decide) ?_
  refine lv_icmp_lt (tgt := 17) hx hb dX1_space_3 (by decide) (fun hc => ?_) (fun hc => ?_)
  · refine lv_iconst (v := 0) hx hb dX1_space_17 (by decide) ?_
    refine va_calli (va_runV (As := [.int (md_b false)]) (rest := []) ⟨hx, hb, hml, hown, hts⟩ (c1_goes l dC dI q qa qb cY cZ t N D S false hne) (cwV 1 hts gX1_space_X1_goes rfl rfl rfl (by decide +kernel) ⟨Nat.le_of_ble_eq_true rfl, Nat.le_of_ble_eq_true rfl⟩) (md_preV hK hP [.int (md_b false)]) rfl rfl hl.1 rfl (lv_room (Nat.le_of_ble_eq_true rfl)) dX1_space_18 ⟨Nat.zero_le _, Nat.zero_le _⟩) hS (fun q _ h9 => h9) (fun q h9 => h9) (fun r9 u9 t9 H locs ht9 hvm9 hw9 hP9 hz9 hk9 hS => ?_)
    rw [ht9] at hP9
    subst hw9
    have hP : va_P (dC, dI) vwCl (md_w q qa qb cY cZ (md_b (!false)) (nI N) D S) H := hP9
    refine lv_if_ne (tgt := 26) hx hb dX1_space_21 (by decide) (fun hu => ?_) (fun hu => ?_)
    · exact absurd (show md_b false = 0 by decide) hu
    · refine lv_iconst (v := 0) hx hb dX1_space_24 (by decide) ?_
      exact W.iret (v := 0) hx hb hr (fun t9 ht9 _ => ⟨⟨_, (), rfl, rfl, cl_at ht9 (hP)⟩, hS.F ht9⟩) hS.2.2 dX1_space_25
  · refine lv_iload_n hx hb dX1_space_6 rfl (lv_at hl 1 rfl) ?_
    refine lv_sipush (v := 16384) hx hb dX1_space_7 (by decide) ?_
    refine lv_icmp_gt (tgt := 17) hx hb dX1_space_10 (by decide) (fun hd => ?_) (fun hd => ?_)
    · refine lv_iconst (v := 0) hx hb dX1_space_17 (by decide) ?_
      refine va_calli (va_runV (As := [.int (md_b false)]) (rest := []) ⟨hx, hb, hml, hown, hts⟩ (c1_goes l dC dI q qa qb cY cZ t N D S false hne) (cwV 1 hts gX1_space_X1_goes rfl rfl rfl (by decide +kernel) ⟨Nat.le_of_ble_eq_true rfl, Nat.le_of_ble_eq_true rfl⟩) (md_preV hK hP [.int (md_b false)]) rfl rfl hl.1 rfl (lv_room (Nat.le_of_ble_eq_true rfl)) dX1_space_18 ⟨Nat.zero_le _, Nat.zero_le _⟩) hS (fun q _ h9 => h9) (fun q h9 => h9) (fun r9 u9 t9 H locs ht9 hvm9 hw9 hP9 hz9 hk9 hS => ?_)
      rw [ht9] at hP9
      subst hw9
      have hP : va_P (dC, dI) vwCl (md_w q qa qb cY cZ (md_b (!false)) (nI N) D S) H := hP9
      refine lv_if_ne (tgt := 26) hx hb dX1_space_21 (by decide) (fun hu => ?_) (fun hu => ?_)
      · exact absurd (show md_b false = 0 by decide) hu
      · refine lv_iconst (v := 0) hx hb dX1_space_24 (by decide) ?_
        exact W.iret (v := 0) hx hb hr (fun t9 ht9 _ => ⟨⟨_, (), rfl, rfl, cl_at ht9 (hP)⟩, hS.F ht9⟩) hS.2.2 dX1_space_25
    · exact absurd (Int32.not_lt.mp hd) (hbad.resolve_left hc)
set_option maxHeartbeats 4000000 in
set_option maxRecDepth 100000 in
/-- write(k) -/
theorem c1_write (l : Launch) (dC : Nat → ClassId) (dI : Nat → Nat → Nat) (q qa qb : Nat) (cY cZ : ClassId) (t : Int32) (N : Nat) (D S : Nat → Bool) (k : Nat) (h2 : N ≤ 16384) (hk : k < N) (hne : md_ne q qa qb) : Met l yX1_write wsX1_write ({ frames := 1, cells := 0, slots := 0, locals := 40 }) (cb_Pc (dC, dI) [.ref q, .int (nI k)] (md_w q qa qb cY cZ t (nI N) D S) [(cY, .boolean), (cZ, .boolean)]) (va_Qi (fun (r9 : Int32) (_ : Unit) => (nI (k / 32)) = r9) (fun _ t9 => va_P (dC, dI) vwCl (md_w q qa qb cY cZ 0 (nI N) (md_u D (k / 32) true) S) t9.heap) (md_A q qa qb)) 0 0 (md_A q qa qb) := by
  refine Met.ofW (cc := cX1_write) (maxL := 2) (ret := (some .int)) (by decide) rfl ?_
  intro p e s m args below meth c s₁ B hml hv
  obtain ⟨rfl, hP, hK⟩ := hv
  have hx := B.exec
  have hb := B.bytes
  have hr := B.returns
  have hts := atoms_spec (ws := wsX1_write) B.pre
  have hown : s.vm.findClass RX1 = some m.cls := findClass_of_methodNamed B.named
  have hlocks := B.notSynchronized
  have hl := lv_entry ([.ref q, .int (nI k)]) (n := 2) (Nat.le_of_ble_eq_true rfl)
  rw [lg_entry_eq]
  generalize (lg_sl ([.ref q, .int (nI k)]) ++ List.replicate (2 - (lg_sl ([.ref q, .int (nI k)])).length) Slot.unset).toArray = ls at hl ⊢
  have hl : lv_has ls 2 [(0, .ref q), (1, .int (nI k))] := hl
  have hS : va_S (md_A q qa qb) s.heap s.heap [] := va_S.rf
  refine lv_aload_n hx hb dX1_write_0 rfl (lv_at hl 0 rfl) ?_
  refine lv_aload_n hx hb dX1_write_1 rfl (lv_at hl 0 rfl) ?_
  refine lv_iload_n hx hb dX1_write_2 rfl (lv_at hl 1 rfl) ?_
  refine cl_calli (W.runV (As := [.int (nI k)]) (rest := [.ref q]) ⟨hx, hb, hml, hown, hts⟩ (c1_isCell l dC dI q qa qb cY cZ t N D S (nI k) true  (by constructor; exact fun _ => ⟨nI_pos (by omega), nI_lt hk (by omega)⟩; exact fun _ => rfl)) (cwV 1 hts gX1_write_X1_isCell rfl rfl rfl (by decide +kernel) ⟨Nat.le_of_ble_eq_true rfl, Nat.le_of_ble_eq_true rfl⟩) (md_preV hK hP [.int (nI k)]) rfl rfl hl.1 rfl (lv_room (Nat.le_of_ble_eq_true rfl)) dX1_write_3 ⟨Nat.zero_le _, Nat.zero_le _⟩) ?_
  refine va_calli (va_runV (As := [.int (md_b true)]) (rest := []) ⟨hx, hb, hml, hown, hts⟩ (c1_goes l dC dI q qa qb cY cZ t N D S true hne) (cwV 1 hts gX1_write_X1_goes rfl rfl rfl (by decide +kernel) ⟨Nat.le_of_ble_eq_true rfl, Nat.le_of_ble_eq_true rfl⟩) (md_preV hK hP [.int (md_b true)]) rfl rfl hl.1 rfl (lv_room (Nat.le_of_ble_eq_true rfl)) dX1_write_6 ⟨Nat.zero_le _, Nat.zero_le _⟩) hS (fun q _ h9 => h9) (fun q h9 => h9) (fun r9 u9 t9 H locs ht9 hvm9 hw9 hP9 hz9 hk9 hS => ?_)
  rw [ht9] at hP9
  subst hw9
  have hP : va_P (dC, dI) vwCl (md_w q qa qb cY cZ (md_b (!true)) (nI N) D S) H := hP9
  refine lv_if_ne (tgt := 14) hx hb dX1_write_9 (by decide) (fun hc => ?_) (fun hc => ?_)
  · refine lv_aload_n hx hb dX1_write_14 rfl (lv_at hl 0 rfl) ?_
    refine va_get (D := (dC, dI)) (ci := 1) (v := .ref qa) (C := RX1) (T := TX1) (N := 4) hx hb hts (by decide +kernel) hown hK hP 0 rfl rfl 2 (by decide) (hts (.fieldLink RX1 13 "CardBookModel" "dirty" "[Z") (by decide +kernel)) (fun _ h9 => h9) rfl dX1_write_15 ?_
    refine lv_iload_n hx hb dX1_write_18 rfl (lv_at hl 1 rfl) ?_
    refine lv_bipush (v := 32) hx hb dX1_write_19 (by decide) ?_
    refine lv_idiv hx hb dX1_write_21 (by decide) ?_
    refine cl_asi (pk_div (d := 32) (show k < 2 ^ 31 by omega) (by decide) (by decide)) ?_
    refine lv_iconst (v := 1) hx hb dX1_write_22 (by decide) ?_
    have hD := md_D (cY := cY) (cZ := cZ) (t := (md_b (!true))) (n := (nI N)) (D := D) (S := S) hne
    refine cl_zast (D := (dC, dI)) hx hb hK hP hD hS 1 0 rfl rfl true (rfl) (show k / 32 < 512 by omega) (by decide) dX1_write_23 (fun H locs hP hS => ?_)
    have hP : va_P (dC, dI) vwCl (md_w q qa qb cY cZ (md_b (!true)) (nI N) (md_u D (k / 32) true) S) H := hP
    refine lv_iload_n hx hb dX1_write_24 rfl (lv_at hl 1 rfl) ?_
    refine lv_bipush (v := 32) hx hb dX1_write_25 (by decide) ?_
    refine lv_idiv hx hb dX1_write_27 (by decide) ?_
    refine cl_asi (pk_div (d := 32) (show k < 2 ^ 31 by omega) (by decide) (by decide)) ?_
    exact W.iret (v := nI (k / 32)) hx hb hr (fun t9 ht9 _ => ⟨⟨_, (), rfl, rfl, cl_at ht9 (hP)⟩, hS.F ht9⟩) hS.2.2 dX1_write_28
  · exact absurd hc (by decide)
set_option maxHeartbeats 4000000 in
set_option maxRecDepth 100000 in
/-- write(x), where there is no such cell -/
theorem e1_write (l : Launch) (dC : Nat → ClassId) (dI : Nat → Nat → Nat) (q qa qb : Nat) (cY cZ : ClassId) (t : Int32) (N : Nat) (D S : Nat → Bool) (x : Int32) (hbad : x < 0 ∨ ¬ x < nI N) (hne : md_ne q qa qb) : Met l yX1_write wsX1_write ({ frames := 1, cells := 0, slots := 0, locals := 40 }) (cb_Pc (dC, dI) [.ref q, .int x] (md_w q qa qb cY cZ t (nI N) D S) [(cY, .boolean), (cZ, .boolean)]) (va_Qi (fun (r9 : Int32) (_ : Unit) => (0 : Int32) = r9) (fun _ t9 => va_P (dC, dI) vwCl (md_w q qa qb cY cZ 1 (nI N) D S) t9.heap) (md_A q qa qb)) 0 0 (md_A q qa qb) := by
  refine Met.ofW (cc := cX1_write) (maxL := 2) (ret := (some .int)) (by decide) rfl ?_
  intro p e s m args below meth c s₁ B hml hv
  obtain ⟨rfl, hP, hK⟩ := hv
  have hx := B.exec
  have hb := B.bytes
  have hr := B.returns
  have hts := atoms_spec (ws := wsX1_write) B.pre
  have hown : s.vm.findClass RX1 = some m.cls := findClass_of_methodNamed B.named
  have hlocks := B.notSynchronized
  have hl := lv_entry ([.ref q, .int x]) (n := 2) (Nat.le_of_ble_eq_true rfl)
  rw [lg_entry_eq]
  generalize (lg_sl ([.ref q, .int x]) ++ List.replicate (2 - (lg_sl ([.ref q, .int x])).length) Slot.unset).toArray = ls at hl ⊢
  have hl : lv_has ls 2 [(0, .ref q), (1, .int x)] := hl
  have hS : va_S (md_A q qa qb) s.heap s.heap [] := va_S.rf
  refine lv_aload_n hx hb dX1_write_0 rfl (lv_at hl 0 rfl) ?_
  refine lv_aload_n hx hb dX1_write_1 rfl (lv_at hl 0 rfl) ?_
  refine lv_iload_n hx hb dX1_write_2 rfl (lv_at hl 1 rfl) ?_
  refine cl_calli (W.runV (As := [.int x]) (rest := [.ref q]) ⟨hx, hb, hml, hown, hts⟩ (c1_isCell l dC dI q qa qb cY cZ t N D S x false  (by constructor; exact fun h9 => (Bool.false_ne_true h9).elim; exact fun h9 => (hbad.elim h9.1 (fun h8 => h8 h9.2)).elim)) (cwV 1 hts gX1_write_X1_isCell rfl rfl rfl (by decide +kernel) ⟨Nat.le_of_ble_eq_true rfl, Nat.le_of_ble_eq_true rfl⟩) (md_preV hK hP [.int x]) rfl rfl hl.1 rfl (lv_room (Nat.le_of_ble_eq_true rfl)) dX1_write_3 ⟨Nat.zero_le _, Nat.zero_le _⟩) ?_
  refine va_calli (va_runV (As := [.int (md_b false)]) (rest := []) ⟨hx, hb, hml, hown, hts⟩ (c1_goes l dC dI q qa qb cY cZ t N D S false hne) (cwV 1 hts gX1_write_X1_goes rfl rfl rfl (by decide +kernel) ⟨Nat.le_of_ble_eq_true rfl, Nat.le_of_ble_eq_true rfl⟩) (md_preV hK hP [.int (md_b false)]) rfl rfl hl.1 rfl (lv_room (Nat.le_of_ble_eq_true rfl)) dX1_write_6 ⟨Nat.zero_le _, Nat.zero_le _⟩) hS (fun q _ h9 => h9) (fun q h9 => h9) (fun r9 u9 t9 H locs ht9 hvm9 hw9 hP9 hz9 hk9 hS => ?_)
  rw [ht9] at hP9
  subst hw9
  have hP : va_P (dC, dI) vwCl (md_w q qa qb cY cZ (md_b (!false)) (nI N) D S) H := hP9
  refine lv_if_ne (tgt := 14) hx hb dX1_write_9 (by decide) (fun hc => ?_) (fun hc => ?_)
  · exact absurd (show md_b false = 0 by decide) hc
  · refine lv_iconst (v := 0) hx hb dX1_write_12 (by decide) ?_
    exact W.iret (v := 0) hx hb hr (fun t9 ht9 _ => ⟨⟨_, (), rfl, rfl, cl_at ht9 (hP)⟩, hS.F ht9⟩) hS.2.2 dX1_write_13
set_option maxHeartbeats 4000000 in
set_option maxRecDepth 100000 in
/-- cover(k, z) -/
theorem c1_cover (l : Launch) (dC : Nat → ClassId) (dI : Nat → Nat → Nat) (q qa qb : Nat) (cY cZ : ClassId) (t : Int32) (N : Nat) (D S : Nat → Bool) (k z : Nat) (h1 : 1 ≤ N) (h2 : N ≤ 16384) (hz : 1 ≤ z) (hk : k + z ≤ N) (hne : md_ne q qa qb) : Met l yX1_cover wsX1_cover ({ frames := 1, cells := 0, slots := 0, locals := 40 }) (cb_Pc (dC, dI) [.ref q, .int (nI k), .int (nI z)] (md_w q qa qb cY cZ t (nI N) D S) [(cY, .boolean), (cZ, .boolean)]) (va_Qi (fun (r9 : Int32) (_ : Unit) => (nI (md_n (k / 32) ((k + z - 1) / 32) (cb_cc N))) = r9) (fun _ t9 => va_P (dC, dI) vwCl (md_w q qa qb cY cZ 0 (nI N) D (md_cv S (k / 32) ((k + z - 1) / 32) (cb_cc N))) t9.heap) (md_A q qa qb)) 0 0 (md_A q qa qb) := by
  refine Met.ofW (cc := cX1_cover) (maxL := 5) (ret := (some .int)) (by decide) rfl ?_
  intro p e s m args below meth c s₁ B hml hv
  obtain ⟨rfl, hP, hK⟩ := hv
  have hx := B.exec
  have hb := B.bytes
  have hr := B.returns
  have hts := atoms_spec (ws := wsX1_cover) B.pre
  have hown : s.vm.findClass RX1 = some m.cls := findClass_of_methodNamed B.named
  have hlocks := B.notSynchronized
  have hl := lv_entry ([.ref q, .int (nI k), .int (nI z)]) (n := 5) (Nat.le_of_ble_eq_true rfl)
  rw [lg_entry_eq]
  generalize (lg_sl ([.ref q, .int (nI k), .int (nI z)]) ++ List.replicate (5 - (lg_sl ([.ref q, .int (nI k), .int (nI z)])).length) Slot.unset).toArray = ls at hl ⊢
  have hl : lv_has ls 5 [(0, .ref q), (1, .int (nI k)), (2, .int (nI z))] := hl
  have hS : va_S (md_A q qa qb) s.heap s.heap [] := va_S.rf
  refine lv_aload_n hx hb dX1_cover_0 rfl (lv_at hl 0 rfl) ?_
  refine lv_aload_n hx hb dX1_cover_1 rfl (lv_at hl 0 rfl) ?_
  refine lv_iload_n hx hb dX1_cover_2 rfl (lv_at hl 1 rfl) ?_
  refine cl_calli (W.runV (As := [.int (nI k)]) (rest := [.ref q]) ⟨hx, hb, hml, hown, hts⟩ (c1_isCell l dC dI q qa qb cY cZ t N D S (nI k) true  (by constructor; exact fun _ => ⟨nI_pos (by omega), nI_lt (show k < N by omega) (by omega)⟩; exact fun _ => rfl)) (cwV 1 hts gX1_cover_X1_isCell rfl rfl rfl (by decide +kernel) ⟨Nat.le_of_ble_eq_true rfl, Nat.le_of_ble_eq_true rfl⟩) (md_preV hK hP [.int (nI k)]) rfl rfl hl.1 rfl (lv_room (Nat.le_of_ble_eq_true rfl)) dX1_cover_3 ⟨Nat.zero_le _, Nat.zero_le _⟩) ?_
  refine lv_if_eq (tgt := 28) hx hb dX1_cover_6 (by decide) (fun hc => ?_) (fun hc => ?_)
  · exact absurd hc (by decide)
  · refine lv_iload_n hx hb dX1_cover_9 rfl (lv_at hl 2 rfl) ?_
    refine lv_iconst (v := 1) hx hb dX1_cover_10 (by decide) ?_
    refine lv_icmp_lt (tgt := 28) hx hb dX1_cover_11 (by decide) (fun hd => ?_) (fun hd => ?_)
    · exact absurd hd (nI_nlt hz (by omega))
    · refine lv_iload_n hx hb dX1_cover_14 rfl (lv_at hl 2 rfl) ?_
      refine lv_aload_n hx hb dX1_cover_15 rfl (lv_at hl 0 rfl) ?_
      refine va_get (D := (dC, dI)) (ci := 1) (v := .int (nI N)) (C := RX1) (T := TX1) (N := 4) hx hb hts (by decide +kernel) hown hK hP 0 rfl rfl 1 (by decide) (hts (.fieldLink RX1 7 "CardBookModel" "cells" "I") (by decide +kernel)) (fun _ h9 => h9) rfl dX1_cover_16 ?_
      refine lv_iload_n hx hb dX1_cover_19 rfl (lv_at hl 1 rfl) ?_
      refine lv_isub hx hb dX1_cover_20 ?_
      refine cl_asi (pk_sub (by omega)) ?_
      refine lv_icmp_gt (tgt := 28) hx hb dX1_cover_21 (by decide) (fun he => ?_) (fun he => ?_)
      · exact absurd he (nI_nlt (by omega) (by omega))
      · refine lv_iconst (v := 1) hx hb dX1_cover_24 (by decide) ?_
        refine lv_goto (tgt := 29) hx hb dX1_cover_25 (by decide) ?_
        refine va_calli (va_runV (As := [.int (md_b true)]) (rest := []) ⟨hx, hb, hml, hown, hts⟩ (c1_goes l dC dI q qa qb cY cZ t N D S true hne) (cwV 1 hts gX1_cover_X1_goes rfl rfl rfl (by decide +kernel) ⟨Nat.le_of_ble_eq_true rfl, Nat.le_of_ble_eq_true rfl⟩) (md_preV hK hP [.int (md_b true)]) rfl rfl hl.1 rfl (lv_room (Nat.le_of_ble_eq_true rfl)) dX1_cover_29 ⟨Nat.zero_le _, Nat.zero_le _⟩) hS (fun q _ h9 => h9) (fun q h9 => h9) (fun r9 u9 t9 H locs ht9 hvm9 hw9 hP9 hz9 hk9 hS => ?_)
        rw [ht9] at hP9
        subst hw9
        have hP : va_P (dC, dI) vwCl (md_w q qa qb cY cZ (md_b (!true)) (nI N) D S) H := hP9
        refine lv_if_ne (tgt := 37) hx hb dX1_cover_32 (by decide) (fun hf => ?_) (fun hf => ?_)
        · refine lv_iconst (v := 0) hx hb dX1_cover_37 (by decide) ?_
          refine lv_istore_n (lv' := [(3, .int 0), (0, .ref q), (1, .int (nI k)), (2, .int (nI z))]) hx hb dX1_cover_38 rfl hl (by decide) rfl (fun ls hl => ?_)
          refine lv_iconst (v := 0) hx hb dX1_cover_39 (by decide) ?_
          refine lv_istore (lv' := [(4, .int 0), (3, .int 0), (0, .ref q), (1, .int (nI k)), (2, .int (nI z))]) hx hb dX1_cover_40 hl (by decide) rfl (fun ls hl => ?_)
          refine cl_loop 0 (cb_cc N) (Nat.zero_le _) (fun i H9 locs9 ls9 => va_P (dC, dI) vwCl (md_w q qa qb cY cZ (md_b (!true)) (nI N) D (md_cv S (k / 32) ((k + z - 1) / 32) i)) H9 ∧ va_S (md_A q qa qb) s.heap H9 locs9 ∧ lv_has ls9 5 [(4, .int (nI i)), (3, .int (nI (md_n (k / 32) ((k + z - 1) / 32) i))), (0, .ref q), (1, .int (nI k)), (2, .int (nI z))]) ?_ ?_ (H := H) (locs := locs) (ls := ls) ⟨by rw [md_cv_0]; exact hP, hS, lv_sub hl [0, 1, 2, 3, 4] (by rw [md_n_0]; rfl)⟩
          · intro H locs ls hi9
            obtain ⟨hP, hS, hl⟩ := hi9
            refine lv_iload hx hb dX1_cover_42 (lv_at hl 0 rfl) ?_
            refine lv_aload_n hx hb dX1_cover_44 rfl (lv_at hl 2 rfl) ?_
            refine cl_calli (W.runV (As := []) (rest := [.int (nI (cb_cc N))]) ⟨hx, hb, hml, hown, hts⟩ (c1_cards l dC dI q qa qb cY cZ (md_b (!true)) N D (md_cv S (k / 32) ((k + z - 1) / 32) (cb_cc N)) h1 h2) (cwV 0 hts gX1_cover_X1_cards rfl rfl rfl (by decide +kernel) ⟨Nat.le_of_ble_eq_true rfl, Nat.le_of_ble_eq_true rfl⟩) (md_preV hK hP []) rfl rfl hl.1 rfl (lv_room (Nat.le_of_ble_eq_true rfl)) dX1_cover_45 ⟨Nat.zero_le _, Nat.zero_le _⟩) ?_
            refine lv_icmp_ge (tgt := 91) hx hb dX1_cover_48 (by decide) (fun hg => ?_) (fun hg => ?_)
            · refine lv_iload_n hx hb dX1_cover_91 rfl (lv_at hl 1 rfl) ?_
              exact W.iret (v := nI (md_n (k / 32) ((k + z - 1) / 32) (cb_cc N))) hx hb hr (fun t9 ht9 _ => ⟨⟨_, (), rfl, rfl, cl_at ht9 (hP)⟩, hS.F ht9⟩) hS.2.2 dX1_cover_92
            · exact absurd (Int32.le_refl _) hg
          · intro i H locs ls _ hi hi9 kk
            have hcc := cb_cc_le h2
            obtain ⟨hP, hS, hl⟩ := hi9
            refine lv_iload hx hb dX1_cover_42 (lv_at hl 0 rfl) ?_
            refine lv_aload_n hx hb dX1_cover_44 rfl (lv_at hl 2 rfl) ?_
            refine cl_calli (W.runV (As := []) (rest := [.int (nI i)]) ⟨hx, hb, hml, hown, hts⟩ (c1_cards l dC dI q qa qb cY cZ (md_b (!true)) N D (md_cv S (k / 32) ((k + z - 1) / 32) i) h1 h2) (cwV 0 hts gX1_cover_X1_cards rfl rfl rfl (by decide +kernel) ⟨Nat.le_of_ble_eq_true rfl, Nat.le_of_ble_eq_true rfl⟩) (md_preV hK hP []) rfl rfl hl.1 rfl (lv_room (Nat.le_of_ble_eq_true rfl)) dX1_cover_45 ⟨Nat.zero_le _, Nat.zero_le _⟩) ?_
            refine lv_icmp_ge (tgt := 91) hx hb dX1_cover_48 (by decide) (fun hg => ?_) (fun hg => ?_)
            · exact absurd hg (nI_ge hi (by omega))
            · refine lv_bipush (v := 32) hx hb dX1_cover_51 (by decide) ?_
              refine lv_iload hx hb dX1_cover_53 (lv_at hl 0 rfl) ?_
              refine lv_imul hx hb dX1_cover_55 ?_
              refine cl_asi (pk_mul 32 i) ?_
              refine lv_iload_n hx hb dX1_cover_56 rfl (lv_at hl 3 rfl) ?_
              refine lv_iload_n hx hb dX1_cover_57 rfl (lv_at hl 4 rfl) ?_
              refine lv_iadd hx hb dX1_cover_58 ?_
              refine cl_asi (nI_add k z) ?_
              refine lv_icmp_ge (tgt := 85) hx hb dX1_cover_59 (by decide) (fun hh => ?_) (fun hh => ?_)
              · have hh := (nI_leI (by omega) (by omega)).mp hh
                refine lv_iinc (v := (nI (i + 1))) (lv' := [(4, .int (nI (i + 1))), (3, .int (nI (md_n (k / 32) ((k + z - 1) / 32) i))), (0, .ref q), (1, .int (nI k)), (2, .int (nI z))]) hx hb dX1_cover_85 hl (k := 0) rfl (nI_1 _) (by decide) rfl (fun ls hl => ?_)
                refine lv_goto (tgt := 42) hx hb dX1_cover_88 (by decide) ?_
                exact kk _ _ _ ⟨by rw [← md_cv_2 (show ¬ (k / 32 ≤ i ∧ i ≤ (k + z - 1) / 32) by omega)]; exact hP, hS, lv_sub hl [0, 1, 2, 3, 4] (by rw [md_n_2 (show ¬ (k / 32 ≤ i ∧ i ≤ (k + z - 1) / 32) by omega)]; rfl)⟩
              · have hh : ¬ k + z ≤ 32 * i := fun h9 => hh (nI_le h9 (by omega))
                refine lv_bipush (v := 32) hx hb dX1_cover_62 (by decide) ?_
                refine lv_iload hx hb dX1_cover_64 (lv_at hl 0 rfl) ?_
                refine lv_imul hx hb dX1_cover_66 ?_
                refine cl_asi (pk_mul 32 i) ?_
                refine lv_bipush (v := 31) hx hb dX1_cover_67 (by decide) ?_
                refine lv_iadd hx hb dX1_cover_69 ?_
                refine cl_asi (nI_add (32 * i) 31) ?_
                refine lv_iload_n hx hb dX1_cover_70 rfl (lv_at hl 3 rfl) ?_
                refine lv_icmp_lt (tgt := 85) hx hb dX1_cover_71 (by decide) (fun hj => ?_) (fun hj => ?_)
                · have hj := (nI_ltI (by omega) (by omega)).mp hj
                  refine lv_iinc (v := (nI (i + 1))) (lv' := [(4, .int (nI (i + 1))), (3, .int (nI (md_n (k / 32) ((k + z - 1) / 32) i))), (0, .ref q), (1, .int (nI k)), (2, .int (nI z))]) hx hb dX1_cover_85 hl (k := 0) rfl (nI_1 _) (by decide) rfl (fun ls hl => ?_)
                  refine lv_goto (tgt := 42) hx hb dX1_cover_88 (by decide) ?_
                  exact kk _ _ _ ⟨by rw [← md_cv_2 (show ¬ (k / 32 ≤ i ∧ i ≤ (k + z - 1) / 32) by omega)]; exact hP, hS, lv_sub hl [0, 1, 2, 3, 4] (by rw [md_n_2 (show ¬ (k / 32 ≤ i ∧ i ≤ (k + z - 1) / 32) by omega)]; rfl)⟩
                · have hj : ¬ 32 * i + 31 < k := fun h9 => hj (nI_lt h9 (by omega))
                  refine lv_aload_n hx hb dX1_cover_74 rfl (lv_at hl 2 rfl) ?_
                  refine va_get (D := (dC, dI)) (ci := 1) (v := .ref qb) (C := RX1) (T := TX1) (N := 4) hx hb hts (by decide +kernel) hown hK hP 0 rfl rfl 3 (by decide) (hts (.fieldLink RX1 17 "CardBookModel" "saved" "[Z") (by decide +kernel)) (fun _ h9 => h9) rfl dX1_cover_75 ?_
                  refine lv_iload hx hb dX1_cover_78 (lv_at hl 0 rfl) ?_
                  refine lv_iconst (v := 1) hx hb dX1_cover_80 (by decide) ?_
                  have hD := md_D (cY := cY) (cZ := cZ) (t := (md_b (!true))) (n := (nI N)) (D := D) (S := (md_cv S (k / 32) ((k + z - 1) / 32) i)) hne
                  refine cl_zast (D := (dC, dI)) hx hb hK hP hD hS 2 1 rfl rfl true (rfl) (show i < 512 by omega) (by decide) dX1_cover_81 (fun H locs hP hS => ?_)
                  have hP : va_P (dC, dI) vwCl (md_w q qa qb cY cZ (md_b (!true)) (nI N) D (md_u (md_cv S (k / 32) ((k + z - 1) / 32) i) i true)) H := hP
                  rw [md_cv_1 (by omega) (by omega)] at hP
                  refine lv_iinc (v := (nI (md_n (k / 32) ((k + z - 1) / 32) i + 1))) (lv' := [(3, .int (nI (md_n (k / 32) ((k + z - 1) / 32) i + 1))), (4, .int (nI i)), (0, .ref q), (1, .int (nI k)), (2, .int (nI z))]) hx hb dX1_cover_82 hl (k := 1) rfl (nI_1 _) (by decide) rfl (fun ls hl => ?_)
                  refine lv_iinc (v := (nI (i + 1))) (lv' := [(4, .int (nI (i + 1))), (3, .int (nI (md_n (k / 32) ((k + z - 1) / 32) i + 1))), (0, .ref q), (1, .int (nI k)), (2, .int (nI z))]) hx hb dX1_cover_85 hl (k := 1) rfl (nI_1 _) (by decide) rfl (fun ls hl => ?_)
                  refine lv_goto (tgt := 42) hx hb dX1_cover_88 (by decide) ?_
                  exact kk _ _ _ ⟨hP, hS, lv_sub hl [0, 1, 2, 3, 4] (by rw [md_n_1 (show k / 32 ≤ i by omega) (show i ≤ (k + z - 1) / 32 by omega)]; rfl)⟩
        · exact absurd hf (by decide)
set_option maxHeartbeats 4000000 in
set_option maxRecDepth 100000 in
/-- cover(x, y), where there is no cell x -/
theorem e1_cover1 (l : Launch) (dC : Nat → ClassId) (dI : Nat → Nat → Nat) (q qa qb : Nat) (cY cZ : ClassId) (t : Int32) (N : Nat) (D S : Nat → Bool) (x y : Int32) (hbad : x < 0 ∨ ¬ x < nI N) (hne : md_ne q qa qb) : Met l yX1_cover wsX1_cover ({ frames := 1, cells := 0, slots := 0, locals := 40 }) (cb_Pc (dC, dI) [.ref q, .int x, .int y] (md_w q qa qb cY cZ t (nI N) D S) [(cY, .boolean), (cZ, .boolean)]) (va_Qi (fun (r9 : Int32) (_ : Unit) => (0 : Int32) = r9) (fun _ t9 => va_P (dC, dI) vwCl (md_w q qa qb cY cZ 1 (nI N) D S) t9.heap) (md_A q qa qb)) 0 0 (md_A q qa qb) := by
  refine Met.ofW (cc := cX1_cover) (maxL := 5) (ret := (some .int)) (by decide) rfl ?_
  intro p e s m args below meth c s₁ B hml hv
  obtain ⟨rfl, hP, hK⟩ := hv
  have hx := B.exec
  have hb := B.bytes
  have hr := B.returns
  have hts := atoms_spec (ws := wsX1_cover) B.pre
  have hown : s.vm.findClass RX1 = some m.cls := findClass_of_methodNamed B.named
  have hlocks := B.notSynchronized
  have hl := lv_entry ([.ref q, .int x, .int y]) (n := 5) (Nat.le_of_ble_eq_true rfl)
  rw [lg_entry_eq]
  generalize (lg_sl ([.ref q, .int x, .int y]) ++ List.replicate (5 - (lg_sl ([.ref q, .int x, .int y])).length) Slot.unset).toArray = ls at hl ⊢
  have hl : lv_has ls 5 [(0, .ref q), (1, .int x), (2, .int y)] := hl
  have hS : va_S (md_A q qa qb) s.heap s.heap [] := va_S.rf
  refine lv_aload_n hx hb dX1_cover_0 rfl (lv_at hl 0 rfl) ?_
  refine lv_aload_n hx hb dX1_cover_1 rfl (lv_at hl 0 rfl) ?_
  refine lv_iload_n hx hb dX1_cover_2 rfl (lv_at hl 1 rfl) ?_
  refine cl_calli (W.runV (As := [.int x]) (rest := [.ref q]) ⟨hx, hb, hml, hown, hts⟩ (c1_isCell l dC dI q qa qb cY cZ t N D S x false  (by constructor; exact fun h9 => (Bool.false_ne_true h9).elim; exact fun h9 => (hbad.elim h9.1 (fun h8 => h8 h9.2)).elim)) (cwV 1 hts gX1_cover_X1_isCell rfl rfl rfl (by decide +kernel) ⟨Nat.le_of_ble_eq_true rfl, Nat.le_of_ble_eq_true rfl⟩) (md_preV hK hP [.int x]) rfl rfl hl.1 rfl (lv_room (Nat.le_of_ble_eq_true rfl)) dX1_cover_3 ⟨Nat.zero_le _, Nat.zero_le _⟩) ?_
  refine lv_if_eq (tgt := 28) hx hb dX1_cover_6 (by decide) (fun hc => ?_) (fun hc => ?_)
  · refine lv_iconst (v := 0) hx hb dX1_cover_28 (by decide) ?_
    refine va_calli (va_runV (As := [.int (md_b false)]) (rest := []) ⟨hx, hb, hml, hown, hts⟩ (c1_goes l dC dI q qa qb cY cZ t N D S false hne) (cwV 1 hts gX1_cover_X1_goes rfl rfl rfl (by decide +kernel) ⟨Nat.le_of_ble_eq_true rfl, Nat.le_of_ble_eq_true rfl⟩) (md_preV hK hP [.int (md_b false)]) rfl rfl hl.1 rfl (lv_room (Nat.le_of_ble_eq_true rfl)) dX1_cover_29 ⟨Nat.zero_le _, Nat.zero_le _⟩) hS (fun q _ h9 => h9) (fun q h9 => h9) (fun r9 u9 t9 H locs ht9 hvm9 hw9 hP9 hz9 hk9 hS => ?_)
    rw [ht9] at hP9
    subst hw9
    have hP : va_P (dC, dI) vwCl (md_w q qa qb cY cZ (md_b (!false)) (nI N) D S) H := hP9
    refine lv_if_ne (tgt := 37) hx hb dX1_cover_32 (by decide) (fun hu => ?_) (fun hu => ?_)
    · exact absurd (show md_b false = 0 by decide) hu
    · refine lv_iconst (v := 0) hx hb dX1_cover_35 (by decide) ?_
      exact W.iret (v := 0) hx hb hr (fun t9 ht9 _ => ⟨⟨_, (), rfl, rfl, cl_at ht9 (hP)⟩, hS.F ht9⟩) hS.2.2 dX1_cover_36
  · exact absurd (show md_b false = 0 by decide) hc
set_option maxHeartbeats 4000000 in
set_option maxRecDepth 100000 in
/-- cover(k, y), where some of these cells are none -/
theorem e1_cover2 (l : Launch) (dC : Nat → ClassId) (dI : Nat → Nat → Nat) (q qa qb : Nat) (cY cZ : ClassId) (t : Int32) (N : Nat) (D S : Nat → Bool) (k : Nat) (y : Int32) (h2 : N ≤ 16384) (hk : k < N) (hbad : y < 1 ∨ ¬ y ≤ nI N - nI k) (hne : md_ne q qa qb) : Met l yX1_cover wsX1_cover ({ frames := 1, cells := 0, slots := 0, locals := 40 }) (cb_Pc (dC, dI) [.ref q, .int (nI k), .int y] (md_w q qa qb cY cZ t (nI N) D S) [(cY, .boolean), (cZ, .boolean)]) (va_Qi (fun (r9 : Int32) (_ : Unit) => (0 : Int32) = r9) (fun _ t9 => va_P (dC, dI) vwCl (md_w q qa qb cY cZ 1 (nI N) D S) t9.heap) (md_A q qa qb)) 0 0 (md_A q qa qb) := by
  refine Met.ofW (cc := cX1_cover) (maxL := 5) (ret := (some .int)) (by decide) rfl ?_
  intro p e s m args below meth c s₁ B hml hv
  obtain ⟨rfl, hP, hK⟩ := hv
  have hx := B.exec
  have hb := B.bytes
  have hr := B.returns
  have hts := atoms_spec (ws := wsX1_cover) B.pre
  have hown : s.vm.findClass RX1 = some m.cls := findClass_of_methodNamed B.named
  have hlocks := B.notSynchronized
  have hl := lv_entry ([.ref q, .int (nI k), .int y]) (n := 5) (Nat.le_of_ble_eq_true rfl)
  rw [lg_entry_eq]
  generalize (lg_sl ([.ref q, .int (nI k), .int y]) ++ List.replicate (5 - (lg_sl ([.ref q, .int (nI k), .int y])).length) Slot.unset).toArray = ls at hl ⊢
  have hl : lv_has ls 5 [(0, .ref q), (1, .int (nI k)), (2, .int y)] := hl
  have hS : va_S (md_A q qa qb) s.heap s.heap [] := va_S.rf
  refine lv_aload_n hx hb dX1_cover_0 rfl (lv_at hl 0 rfl) ?_
  refine lv_aload_n hx hb dX1_cover_1 rfl (lv_at hl 0 rfl) ?_
  refine lv_iload_n hx hb dX1_cover_2 rfl (lv_at hl 1 rfl) ?_
  refine cl_calli (W.runV (As := [.int (nI k)]) (rest := [.ref q]) ⟨hx, hb, hml, hown, hts⟩ (c1_isCell l dC dI q qa qb cY cZ t N D S (nI k) true  (by constructor; exact fun _ => ⟨nI_pos (by omega), nI_lt hk (by omega)⟩; exact fun _ => rfl)) (cwV 1 hts gX1_cover_X1_isCell rfl rfl rfl (by decide +kernel) ⟨Nat.le_of_ble_eq_true rfl, Nat.le_of_ble_eq_true rfl⟩) (md_preV hK hP [.int (nI k)]) rfl rfl hl.1 rfl (lv_room (Nat.le_of_ble_eq_true rfl)) dX1_cover_3 ⟨Nat.zero_le _, Nat.zero_le _⟩) ?_
  refine lv_if_eq (tgt := 28) hx hb dX1_cover_6 (by decide) (fun hc => ?_) (fun hc => ?_)
  · exact absurd hc (by decide)
  · refine lv_iload_n hx hb dX1_cover_9 rfl (lv_at hl 2 rfl) ?_
    refine lv_iconst (v := 1) hx hb dX1_cover_10 (by decide) ?_
    refine lv_icmp_lt (tgt := 28) hx hb dX1_cover_11 (by decide) (fun hd => ?_) (fun hd => ?_)
    · refine lv_iconst (v := 0) hx hb dX1_cover_28 (by decide) ?_
      refine va_calli (va_runV (As := [.int (md_b false)]) (rest := []) ⟨hx, hb, hml, hown, hts⟩ (c1_goes l dC dI q qa qb cY cZ t N D S false hne) (cwV 1 hts gX1_cover_X1_goes rfl rfl rfl (by decide +kernel) ⟨Nat.le_of_ble_eq_true rfl, Nat.le_of_ble_eq_true rfl⟩) (md_preV hK hP [.int (md_b false)]) rfl rfl hl.1 rfl (lv_room (Nat.le_of_ble_eq_true rfl)) dX1_cover_29 ⟨Nat.zero_le _, Nat.zero_le _⟩) hS (fun q _ h9 => h9) (fun q h9 => h9) (fun r9 u9 t9 H locs ht9 hvm9 hw9 hP9 hz9 hk9 hS => ?_)
      rw [ht9] at hP9
      subst hw9
      have hP : va_P (dC, dI) vwCl (md_w q qa qb cY cZ (md_b (!false)) (nI N) D S) H := hP9
      refine lv_if_ne (tgt := 37) hx hb dX1_cover_32 (by decide) (fun hu => ?_) (fun hu => ?_)
      · exact absurd (show md_b false = 0 by decide) hu
      · refine lv_iconst (v := 0) hx hb dX1_cover_35 (by decide) ?_
        exact W.iret (v := 0) hx hb hr (fun t9 ht9 _ => ⟨⟨_, (), rfl, rfl, cl_at ht9 (hP)⟩, hS.F ht9⟩) hS.2.2 dX1_cover_36
    · refine lv_iload_n hx hb dX1_cover_14 rfl (lv_at hl 2 rfl) ?_
      refine lv_aload_n hx hb dX1_cover_15 rfl (lv_at hl 0 rfl) ?_
      refine va_get (D := (dC, dI)) (ci := 1) (v := .int (nI N)) (C := RX1) (T := TX1) (N := 4) hx hb hts (by decide +kernel) hown hK hP 0 rfl rfl 1 (by decide) (hts (.fieldLink RX1 7 "CardBookModel" "cells" "I") (by decide +kernel)) (fun _ h9 => h9) rfl dX1_cover_16 ?_
      refine lv_iload_n hx hb dX1_cover_19 rfl (lv_at hl 1 rfl) ?_
      refine lv_isub hx hb dX1_cover_20 ?_
      refine lv_icmp_gt (tgt := 28) hx hb dX1_cover_21 (by decide) (fun he => ?_) (fun he => ?_)
      · refine lv_iconst (v := 0) hx hb dX1_cover_28 (by decide) ?_
        refine va_calli (va_runV (As := [.int (md_b false)]) (rest := []) ⟨hx, hb, hml, hown, hts⟩ (c1_goes l dC dI q qa qb cY cZ t N D S false hne) (cwV 1 hts gX1_cover_X1_goes rfl rfl rfl (by decide +kernel) ⟨Nat.le_of_ble_eq_true rfl, Nat.le_of_ble_eq_true rfl⟩) (md_preV hK hP [.int (md_b false)]) rfl rfl hl.1 rfl (lv_room (Nat.le_of_ble_eq_true rfl)) dX1_cover_29 ⟨Nat.zero_le _, Nat.zero_le _⟩) hS (fun q _ h9 => h9) (fun q h9 => h9) (fun r9 u9 t9 H locs ht9 hvm9 hw9 hP9 hz9 hk9 hS => ?_)
        rw [ht9] at hP9
        subst hw9
        have hP : va_P (dC, dI) vwCl (md_w q qa qb cY cZ (md_b (!false)) (nI N) D S) H := hP9
        refine lv_if_ne (tgt := 37) hx hb dX1_cover_32 (by decide) (fun hu => ?_) (fun hu => ?_)
        · exact absurd (show md_b false = 0 by decide) hu
        · refine lv_iconst (v := 0) hx hb dX1_cover_35 (by decide) ?_
          exact W.iret (v := 0) hx hb hr (fun t9 ht9 _ => ⟨⟨_, (), rfl, rfl, cl_at ht9 (hP)⟩, hS.F ht9⟩) hS.2.2 dX1_cover_36
      · exact absurd (Int32.not_lt.mp he) (hbad.resolve_left hd)
set_option maxHeartbeats 4000000 in
set_option maxRecDepth 100000 in
/-- clean(k, bb) -/
theorem c1_clean (l : Launch) (dC : Nat → ClassId) (dI : Nat → Nat → Nat) (q qa qb : Nat) (cY cZ : ClassId) (t : Int32) (N : Nat) (D S : Nat → Bool) (k : Nat) (bb : Bool) (h1 : 1 ≤ N) (h2 : N ≤ 16384) (hk : k < (cb_cc N)) (hne : md_ne q qa qb) : Met l yX1_clean wsX1_clean ({ frames := 2, cells := 0, slots := 0, locals := 60 }) (cb_Pc (dC, dI) [.ref q, .int (nI k), .int (md_b bb)] (md_w q qa qb cY cZ t (nI N) D S) [(cY, .boolean), (cZ, .boolean)]) (va_Qi (fun (r9 : Int32) (_ : Unit) => (md_b (D k)) = r9) (fun _ t9 => va_P (dC, dI) vwCl (md_w q qa qb cY cZ 0 (nI N) (md_u D k false) (md_u S k (S k || (D k && bb)))) t9.heap) (md_A q qa qb)) 0 0 (md_A q qa qb) := by
  refine Met.ofW (cc := cX1_clean) (maxL := 3) (ret := (some .boolean)) (by decide) rfl ?_
  intro p e s m args below meth c s₁ B hml hv
  obtain ⟨rfl, hP, hK⟩ := hv
  have hx := B.exec
  have hb := B.bytes
  have hr := B.returns
  have hts := atoms_spec (ws := wsX1_clean) B.pre
  have hown : s.vm.findClass RX1 = some m.cls := findClass_of_methodNamed B.named
  have hlocks := B.notSynchronized
  have hl := lv_entry ([.ref q, .int (nI k), .int (md_b bb)]) (n := 3) (Nat.le_of_ble_eq_true rfl)
  rw [lg_entry_eq]
  generalize (lg_sl ([.ref q, .int (nI k), .int (md_b bb)]) ++ List.replicate (3 - (lg_sl ([.ref q, .int (nI k), .int (md_b bb)])).length) Slot.unset).toArray = ls at hl ⊢
  have hl : lv_has ls 3 [(0, .ref q), (1, .int (nI k)), (2, .int (md_b bb))] := hl
  have hS : va_S (md_A q qa qb) s.heap s.heap [] := va_S.rf
  have hk5 : k < 512 := by have := cb_cc_le h2; omega
  refine lv_aload_n hx hb dX1_clean_0 rfl (lv_at hl 0 rfl) ?_
  refine lv_aload_n hx hb dX1_clean_1 rfl (lv_at hl 0 rfl) ?_
  refine lv_iload_n hx hb dX1_clean_2 rfl (lv_at hl 1 rfl) ?_
  refine cl_calli (W.runV (As := [.int (nI k)]) (rest := [.ref q]) ⟨hx, hb, hml, hown, hts⟩ (c1_isCard l dC dI q qa qb cY cZ t N D S (nI k) true h1 h2 (by have h512 := cb_cc_le h2; constructor; exact fun _ => ⟨nI_pos (by omega), nI_lt hk (by omega)⟩; exact fun _ => rfl)) (cwV 1 hts gX1_clean_X1_isCard rfl rfl rfl (by decide +kernel) ⟨Nat.le_of_ble_eq_true rfl, Nat.le_of_ble_eq_true rfl⟩) (md_preV hK hP [.int (nI k)]) rfl rfl hl.1 rfl (lv_room (Nat.le_of_ble_eq_true rfl)) dX1_clean_3 ⟨Nat.zero_le _, Nat.zero_le _⟩) ?_
  refine va_calli (va_runV (As := [.int (md_b true)]) (rest := []) ⟨hx, hb, hml, hown, hts⟩ (c1_goes l dC dI q qa qb cY cZ t N D S true hne) (cwV 1 hts gX1_clean_X1_goes rfl rfl rfl (by decide +kernel) ⟨Nat.le_of_ble_eq_true rfl, Nat.le_of_ble_eq_true rfl⟩) (md_preV hK hP [.int (md_b true)]) rfl rfl hl.1 rfl (lv_room (Nat.le_of_ble_eq_true rfl)) dX1_clean_6 ⟨Nat.zero_le _, Nat.zero_le _⟩) hS (fun q _ h9 => h9) (fun q h9 => h9) (fun r9 u9 t9 H locs ht9 hvm9 hw9 hP9 hz9 hk9 hS => ?_)
  rw [ht9] at hP9
  subst hw9
  have hP : va_P (dC, dI) vwCl (md_w q qa qb cY cZ (md_b (!true)) (nI N) D S) H := hP9
  refine lv_if_eq (tgt := 21) hx hb dX1_clean_9 (by decide) (fun hc => ?_) (fun hc => ?_)
  · exact absurd hc (by decide)
  · refine lv_aload_n hx hb dX1_clean_12 rfl (lv_at hl 0 rfl) ?_
    refine va_get (D := (dC, dI)) (ci := 1) (v := .ref qa) (C := RX1) (T := TX1) (N := 4) hx hb hts (by decide +kernel) hown hK hP 0 rfl rfl 2 (by decide) (hts (.fieldLink RX1 13 "CardBookModel" "dirty" "[Z") (by decide +kernel)) (fun _ h9 => h9) rfl dX1_clean_13 ?_
    refine lv_iload_n hx hb dX1_clean_16 rfl (lv_at hl 1 rfl) ?_
    refine cl_zald (D := (dC, dI)) hx hb hK hP 1 0 rfl rfl hk5 (by decide) dX1_clean_17 ?_
    refine lv_if_ne (tgt := 23) hx hb dX1_clean_18 (by decide) (fun hd => ?_) (fun hd => ?_)
    · have hd9 := md_b1 hd
      refine lv_aload_n hx hb dX1_clean_23 rfl (lv_at hl 0 rfl) ?_
      refine va_get (D := (dC, dI)) (ci := 1) (v := .ref qa) (C := RX1) (T := TX1) (N := 4) hx hb hts (by decide +kernel) hown hK hP 0 rfl rfl 2 (by decide) (hts (.fieldLink RX1 13 "CardBookModel" "dirty" "[Z") (by decide +kernel)) (fun _ h9 => h9) rfl dX1_clean_24 ?_
      refine lv_iload_n hx hb dX1_clean_27 rfl (lv_at hl 1 rfl) ?_
      refine lv_iconst (v := 0) hx hb dX1_clean_28 (by decide) ?_
      have hD := md_D (cY := cY) (cZ := cZ) (t := (md_b (!true))) (n := (nI N)) (D := D) (S := S) hne
      refine cl_zast (D := (dC, dI)) hx hb hK hP hD hS 1 0 rfl rfl false (rfl) hk5 (by decide) dX1_clean_29 (fun H locs hP hS => ?_)
      have hP : va_P (dC, dI) vwCl (md_w q qa qb cY cZ (md_b (!true)) (nI N) (md_u D k false) S) H := hP
      refine lv_aload_n hx hb dX1_clean_30 rfl (lv_at hl 0 rfl) ?_
      refine va_get (D := (dC, dI)) (ci := 1) (v := .ref qb) (C := RX1) (T := TX1) (N := 4) hx hb hts (by decide +kernel) hown hK hP 0 rfl rfl 3 (by decide) (hts (.fieldLink RX1 17 "CardBookModel" "saved" "[Z") (by decide +kernel)) (fun _ h9 => h9) rfl dX1_clean_31 ?_
      refine lv_iload_n hx hb dX1_clean_34 rfl (lv_at hl 1 rfl) ?_
      refine lv_aload_n hx hb dX1_clean_35 rfl (lv_at hl 0 rfl) ?_
      refine va_get (D := (dC, dI)) (ci := 1) (v := .ref qb) (C := RX1) (T := TX1) (N := 4) hx hb hts (by decide +kernel) hown hK hP 0 rfl rfl 3 (by decide) (hts (.fieldLink RX1 17 "CardBookModel" "saved" "[Z") (by decide +kernel)) (fun _ h9 => h9) rfl dX1_clean_36 ?_
      refine lv_iload_n hx hb dX1_clean_39 rfl (lv_at hl 1 rfl) ?_
      refine cl_zald (D := (dC, dI)) hx hb hK hP 2 1 rfl rfl hk5 (by decide) dX1_clean_40 ?_
      refine lv_if_ne (tgt := 48) hx hb dX1_clean_41 (by decide) (fun he => ?_) (fun he => ?_)
      · refine lv_iconst (v := 1) hx hb dX1_clean_48 (by decide) ?_
        refine lv_goto (tgt := 53) hx hb dX1_clean_49 (by decide) ?_
        have hD := md_D (cY := cY) (cZ := cZ) (t := (md_b (!true))) (n := (nI N)) (D := (md_u D k false)) (S := S) hne
        refine cl_zast (D := (dC, dI)) hx hb hK hP hD hS 2 1 rfl rfl (S k || bb) (by rw [md_b1 he]; rfl) hk5 (by decide) dX1_clean_53 (fun H locs hP hS => ?_)
        have hP : va_P (dC, dI) vwCl (md_w q qa qb cY cZ (md_b (!true)) (nI N) (md_u D k false) (md_u S k (S k || bb))) H := hP
        refine lv_iconst (v := 1) hx hb dX1_clean_54 (by decide) ?_
        exact W.zret (v := 1) (ty := .boolean) hx hb hr rfl (fun t9 ht9 _ => ⟨⟨_, (), rfl, (by rw [hd9]; rfl), cl_at ht9 ((by rw [hd9, Bool.true_and]; exact hP))⟩, hS.F ht9⟩) hS.2.2 dX1_clean_55
      · have he9 := md_b0 he
        refine lv_iload_n hx hb dX1_clean_44 rfl (lv_at hl 2 rfl) ?_
        refine lv_if_eq (tgt := 52) hx hb dX1_clean_45 (by decide) (fun hf => ?_) (fun hf => ?_)
        · refine lv_iconst (v := 0) hx hb dX1_clean_52 (by decide) ?_
          have hD := md_D (cY := cY) (cZ := cZ) (t := (md_b (!true))) (n := (nI N)) (D := (md_u D k false)) (S := S) hne
          refine cl_zast (D := (dC, dI)) hx hb hK hP hD hS 2 1 rfl rfl (S k || bb) (by rw [he9, md_b0 hf]; rfl) hk5 (by decide) dX1_clean_53 (fun H locs hP hS => ?_)
          have hP : va_P (dC, dI) vwCl (md_w q qa qb cY cZ (md_b (!true)) (nI N) (md_u D k false) (md_u S k (S k || bb))) H := hP
          refine lv_iconst (v := 1) hx hb dX1_clean_54 (by decide) ?_
          exact W.zret (v := 1) (ty := .boolean) hx hb hr rfl (fun t9 ht9 _ => ⟨⟨_, (), rfl, (by rw [hd9]; rfl), cl_at ht9 ((by rw [hd9, Bool.true_and]; exact hP))⟩, hS.F ht9⟩) hS.2.2 dX1_clean_55
        · refine lv_iconst (v := 1) hx hb dX1_clean_48 (by decide) ?_
          refine lv_goto (tgt := 53) hx hb dX1_clean_49 (by decide) ?_
          have hD := md_D (cY := cY) (cZ := cZ) (t := (md_b (!true))) (n := (nI N)) (D := (md_u D k false)) (S := S) hne
          refine cl_zast (D := (dC, dI)) hx hb hK hP hD hS 2 1 rfl rfl (S k || bb) (by rw [he9, md_b1 hf]; rfl) hk5 (by decide) dX1_clean_53 (fun H locs hP hS => ?_)
          have hP : va_P (dC, dI) vwCl (md_w q qa qb cY cZ (md_b (!true)) (nI N) (md_u D k false) (md_u S k (S k || bb))) H := hP
          refine lv_iconst (v := 1) hx hb dX1_clean_54 (by decide) ?_
          exact W.zret (v := 1) (ty := .boolean) hx hb hr rfl (fun t9 ht9 _ => ⟨⟨_, (), rfl, (by rw [hd9]; rfl), cl_at ht9 ((by rw [hd9, Bool.true_and]; exact hP))⟩, hS.F ht9⟩) hS.2.2 dX1_clean_55
    · refine lv_iconst (v := 0) hx hb dX1_clean_21 (by decide) ?_
      have hd9 := md_b0 hd
      exact W.zret (v := 0) (ty := .boolean) hx hb hr rfl (fun t9 ht9 _ => ⟨⟨_, (), rfl, (by rw [hd9]; rfl), cl_at ht9 ((by rw [hd9, md_u_same hd9, Bool.false_and, Bool.or_false, md_u_self]; exact hP))⟩, hS.F ht9⟩) hS.2.2 dX1_clean_22
set_option maxHeartbeats 4000000 in
set_option maxRecDepth 100000 in
/-- clean(x, ..), where there is no such card -/
theorem e1_clean (l : Launch) (dC : Nat → ClassId) (dI : Nat → Nat → Nat) (q qa qb : Nat) (cY cZ : ClassId) (t : Int32) (N : Nat) (D S : Nat → Bool) (x bb : Int32) (h1 : 1 ≤ N) (h2 : N ≤ 16384) (hbad : x < 0 ∨ ¬ x < nI (cb_cc N)) (hne : md_ne q qa qb) : Met l yX1_clean wsX1_clean ({ frames := 2, cells := 0, slots := 0, locals := 60 }) (cb_Pc (dC, dI) [.ref q, .int x, .int bb] (md_w q qa qb cY cZ t (nI N) D S) [(cY, .boolean), (cZ, .boolean)]) (va_Qi (fun (r9 : Int32) (_ : Unit) => (0 : Int32) = r9) (fun _ t9 => va_P (dC, dI) vwCl (md_w q qa qb cY cZ 1 (nI N) D S) t9.heap) (md_A q qa qb)) 0 0 (md_A q qa qb) := by
  refine Met.ofW (cc := cX1_clean) (maxL := 3) (ret := (some .boolean)) (by decide) rfl ?_
  intro p e s m args below meth c s₁ B hml hv
  obtain ⟨rfl, hP, hK⟩ := hv
  have hx := B.exec
  have hb := B.bytes
  have hr := B.returns
  have hts := atoms_spec (ws := wsX1_clean) B.pre
  have hown : s.vm.findClass RX1 = some m.cls := findClass_of_methodNamed B.named
  have hlocks := B.notSynchronized
  have hl := lv_entry ([.ref q, .int x, .int bb]) (n := 3) (Nat.le_of_ble_eq_true rfl)
  rw [lg_entry_eq]
  generalize (lg_sl ([.ref q, .int x, .int bb]) ++ List.replicate (3 - (lg_sl ([.ref q, .int x, .int bb])).length) Slot.unset).toArray = ls at hl ⊢
  have hl : lv_has ls 3 [(0, .ref q), (1, .int x), (2, .int bb)] := hl
  have hS : va_S (md_A q qa qb) s.heap s.heap [] := va_S.rf
  refine lv_aload_n hx hb dX1_clean_0 rfl (lv_at hl 0 rfl) ?_
  refine lv_aload_n hx hb dX1_clean_1 rfl (lv_at hl 0 rfl) ?_
  refine lv_iload_n hx hb dX1_clean_2 rfl (lv_at hl 1 rfl) ?_
  refine cl_calli (W.runV (As := [.int x]) (rest := [.ref q]) ⟨hx, hb, hml, hown, hts⟩ (c1_isCard l dC dI q qa qb cY cZ t N D S x false h1 h2 (by constructor; exact fun h9 => (Bool.false_ne_true h9).elim; exact fun h9 => (hbad.elim h9.1 (fun h8 => h8 h9.2)).elim)) (cwV 1 hts gX1_clean_X1_isCard rfl rfl rfl (by decide +kernel) ⟨Nat.le_of_ble_eq_true rfl, Nat.le_of_ble_eq_true rfl⟩) (md_preV hK hP [.int x]) rfl rfl hl.1 rfl (lv_room (Nat.le_of_ble_eq_true rfl)) dX1_clean_3 ⟨Nat.zero_le _, Nat.zero_le _⟩) ?_
  refine va_calli (va_runV (As := [.int (md_b false)]) (rest := []) ⟨hx, hb, hml, hown, hts⟩ (c1_goes l dC dI q qa qb cY cZ t N D S false hne) (cwV 1 hts gX1_clean_X1_goes rfl rfl rfl (by decide +kernel) ⟨Nat.le_of_ble_eq_true rfl, Nat.le_of_ble_eq_true rfl⟩) (md_preV hK hP [.int (md_b false)]) rfl rfl hl.1 rfl (lv_room (Nat.le_of_ble_eq_true rfl)) dX1_clean_6 ⟨Nat.zero_le _, Nat.zero_le _⟩) hS (fun q _ h9 => h9) (fun q h9 => h9) (fun r9 u9 t9 H locs ht9 hvm9 hw9 hP9 hz9 hk9 hS => ?_)
  rw [ht9] at hP9
  subst hw9
  have hP : va_P (dC, dI) vwCl (md_w q qa qb cY cZ (md_b (!false)) (nI N) D S) H := hP9
  refine lv_if_eq (tgt := 21) hx hb dX1_clean_9 (by decide) (fun hc => ?_) (fun hc => ?_)
  · refine lv_iconst (v := 0) hx hb dX1_clean_21 (by decide) ?_
    exact W.zret (v := 0) (ty := .boolean) hx hb hr rfl (fun t9 ht9 _ => ⟨⟨_, (), rfl, rfl, cl_at ht9 (hP)⟩, hS.F ht9⟩) hS.2.2 dX1_clean_22
  · exact absurd (show md_b false = 0 by decide) hc
set_option maxHeartbeats 4000000 in
set_option maxRecDepth 100000 in
/-- unsave(k) -/
theorem c1_unsave (l : Launch) (dC : Nat → ClassId) (dI : Nat → Nat → Nat) (q qa qb : Nat) (cY cZ : ClassId) (t : Int32) (N : Nat) (D S : Nat → Bool) (k : Nat) (h1 : 1 ≤ N) (h2 : N ≤ 16384) (hk : k < (cb_cc N)) (hne : md_ne q qa qb) : Met l yX1_unsave wsX1_unsave ({ frames := 2, cells := 0, slots := 0, locals := 60 }) (cb_Pc (dC, dI) [.ref q, .int (nI k)] (md_w q qa qb cY cZ t (nI N) D S) [(cY, .boolean), (cZ, .boolean)]) (va_Qi (fun (r9 : Int32) (_ : Unit) => (md_b (S k)) = r9) (fun _ t9 => va_P (dC, dI) vwCl (md_w q qa qb cY cZ 0 (nI N) D (md_u S k false)) t9.heap) (md_A q qa qb)) 0 0 (md_A q qa qb) := by
  refine Met.ofW (cc := cX1_unsave) (maxL := 2) (ret := (some .boolean)) (by decide) rfl ?_
  intro p e s m args below meth c s₁ B hml hv
  obtain ⟨rfl, hP, hK⟩ := hv
  have hx := B.exec
  have hb := B.bytes
  have hr := B.returns
  have hts := atoms_spec (ws := wsX1_unsave) B.pre
  have hown : s.vm.findClass RX1 = some m.cls := findClass_of_methodNamed B.named
  have hlocks := B.notSynchronized
  have hl := lv_entry ([.ref q, .int (nI k)]) (n := 2) (Nat.le_of_ble_eq_true rfl)
  rw [lg_entry_eq]
  generalize (lg_sl ([.ref q, .int (nI k)]) ++ List.replicate (2 - (lg_sl ([.ref q, .int (nI k)])).length) Slot.unset).toArray = ls at hl ⊢
  have hl : lv_has ls 2 [(0, .ref q), (1, .int (nI k))] := hl
  have hS : va_S (md_A q qa qb) s.heap s.heap [] := va_S.rf
  have hk5 : k < 512 := by have := cb_cc_le h2; omega
  refine lv_aload_n hx hb dX1_unsave_0 rfl (lv_at hl 0 rfl) ?_
  refine lv_aload_n hx hb dX1_unsave_1 rfl (lv_at hl 0 rfl) ?_
  refine lv_iload_n hx hb dX1_unsave_2 rfl (lv_at hl 1 rfl) ?_
  refine cl_calli (W.runV (As := [.int (nI k)]) (rest := [.ref q]) ⟨hx, hb, hml, hown, hts⟩ (c1_isCard l dC dI q qa qb cY cZ t N D S (nI k) true h1 h2 (by have h512 := cb_cc_le h2; constructor; exact fun _ => ⟨nI_pos (by omega), nI_lt hk (by omega)⟩; exact fun _ => rfl)) (cwV 1 hts gX1_unsave_X1_isCard rfl rfl rfl (by decide +kernel) ⟨Nat.le_of_ble_eq_true rfl, Nat.le_of_ble_eq_true rfl⟩) (md_preV hK hP [.int (nI k)]) rfl rfl hl.1 rfl (lv_room (Nat.le_of_ble_eq_true rfl)) dX1_unsave_3 ⟨Nat.zero_le _, Nat.zero_le _⟩) ?_
  refine va_calli (va_runV (As := [.int (md_b true)]) (rest := []) ⟨hx, hb, hml, hown, hts⟩ (c1_goes l dC dI q qa qb cY cZ t N D S true hne) (cwV 1 hts gX1_unsave_X1_goes rfl rfl rfl (by decide +kernel) ⟨Nat.le_of_ble_eq_true rfl, Nat.le_of_ble_eq_true rfl⟩) (md_preV hK hP [.int (md_b true)]) rfl rfl hl.1 rfl (lv_room (Nat.le_of_ble_eq_true rfl)) dX1_unsave_6 ⟨Nat.zero_le _, Nat.zero_le _⟩) hS (fun q _ h9 => h9) (fun q h9 => h9) (fun r9 u9 t9 H locs ht9 hvm9 hw9 hP9 hz9 hk9 hS => ?_)
  rw [ht9] at hP9
  subst hw9
  have hP : va_P (dC, dI) vwCl (md_w q qa qb cY cZ (md_b (!true)) (nI N) D S) H := hP9
  refine lv_if_eq (tgt := 21) hx hb dX1_unsave_9 (by decide) (fun hc => ?_) (fun hc => ?_)
  · exact absurd hc (by decide)
  · refine lv_aload_n hx hb dX1_unsave_12 rfl (lv_at hl 0 rfl) ?_
    refine va_get (D := (dC, dI)) (ci := 1) (v := .ref qb) (C := RX1) (T := TX1) (N := 4) hx hb hts (by decide +kernel) hown hK hP 0 rfl rfl 3 (by decide) (hts (.fieldLink RX1 17 "CardBookModel" "saved" "[Z") (by decide +kernel)) (fun _ h9 => h9) rfl dX1_unsave_13 ?_
    refine lv_iload_n hx hb dX1_unsave_16 rfl (lv_at hl 1 rfl) ?_
    refine cl_zald (D := (dC, dI)) hx hb hK hP 2 1 rfl rfl hk5 (by decide) dX1_unsave_17 ?_
    refine lv_if_ne (tgt := 23) hx hb dX1_unsave_18 (by decide) (fun hd => ?_) (fun hd => ?_)
    · have hd9 := md_b1 hd
      refine lv_aload_n hx hb dX1_unsave_23 rfl (lv_at hl 0 rfl) ?_
      refine va_get (D := (dC, dI)) (ci := 1) (v := .ref qb) (C := RX1) (T := TX1) (N := 4) hx hb hts (by decide +kernel) hown hK hP 0 rfl rfl 3 (by decide) (hts (.fieldLink RX1 17 "CardBookModel" "saved" "[Z") (by decide +kernel)) (fun _ h9 => h9) rfl dX1_unsave_24 ?_
      refine lv_iload_n hx hb dX1_unsave_27 rfl (lv_at hl 1 rfl) ?_
      refine lv_iconst (v := 0) hx hb dX1_unsave_28 (by decide) ?_
      have hD := md_D (cY := cY) (cZ := cZ) (t := (md_b (!true))) (n := (nI N)) (D := D) (S := S) hne
      refine cl_zast (D := (dC, dI)) hx hb hK hP hD hS 2 1 rfl rfl false (rfl) hk5 (by decide) dX1_unsave_29 (fun H locs hP hS => ?_)
      have hP : va_P (dC, dI) vwCl (md_w q qa qb cY cZ (md_b (!true)) (nI N) D (md_u S k false)) H := hP
      refine lv_iconst (v := 1) hx hb dX1_unsave_30 (by decide) ?_
      exact W.zret (v := 1) (ty := .boolean) hx hb hr rfl (fun t9 ht9 _ => ⟨⟨_, (), rfl, (by rw [hd9]; rfl), cl_at ht9 (hP)⟩, hS.F ht9⟩) hS.2.2 dX1_unsave_31
    · refine lv_iconst (v := 0) hx hb dX1_unsave_21 (by decide) ?_
      have hd9 := md_b0 hd
      exact W.zret (v := 0) (ty := .boolean) hx hb hr rfl (fun t9 ht9 _ => ⟨⟨_, (), rfl, (by rw [hd9]; rfl), cl_at ht9 ((by rw [md_u_same hd9]; exact hP))⟩, hS.F ht9⟩) hS.2.2 dX1_unsave_22
set_option maxHeartbeats 4000000 in
set_option maxRecDepth 100000 in
/-- unsave(x), where there is no such card -/
theorem e1_unsave (l : Launch) (dC : Nat → ClassId) (dI : Nat → Nat → Nat) (q qa qb : Nat) (cY cZ : ClassId) (t : Int32) (N : Nat) (D S : Nat → Bool) (x : Int32) (h1 : 1 ≤ N) (h2 : N ≤ 16384) (hbad : x < 0 ∨ ¬ x < nI (cb_cc N)) (hne : md_ne q qa qb) : Met l yX1_unsave wsX1_unsave ({ frames := 2, cells := 0, slots := 0, locals := 60 }) (cb_Pc (dC, dI) [.ref q, .int x] (md_w q qa qb cY cZ t (nI N) D S) [(cY, .boolean), (cZ, .boolean)]) (va_Qi (fun (r9 : Int32) (_ : Unit) => (0 : Int32) = r9) (fun _ t9 => va_P (dC, dI) vwCl (md_w q qa qb cY cZ 1 (nI N) D S) t9.heap) (md_A q qa qb)) 0 0 (md_A q qa qb) := by
  refine Met.ofW (cc := cX1_unsave) (maxL := 2) (ret := (some .boolean)) (by decide) rfl ?_
  intro p e s m args below meth c s₁ B hml hv
  obtain ⟨rfl, hP, hK⟩ := hv
  have hx := B.exec
  have hb := B.bytes
  have hr := B.returns
  have hts := atoms_spec (ws := wsX1_unsave) B.pre
  have hown : s.vm.findClass RX1 = some m.cls := findClass_of_methodNamed B.named
  have hlocks := B.notSynchronized
  have hl := lv_entry ([.ref q, .int x]) (n := 2) (Nat.le_of_ble_eq_true rfl)
  rw [lg_entry_eq]
  generalize (lg_sl ([.ref q, .int x]) ++ List.replicate (2 - (lg_sl ([.ref q, .int x])).length) Slot.unset).toArray = ls at hl ⊢
  have hl : lv_has ls 2 [(0, .ref q), (1, .int x)] := hl
  have hS : va_S (md_A q qa qb) s.heap s.heap [] := va_S.rf
  refine lv_aload_n hx hb dX1_unsave_0 rfl (lv_at hl 0 rfl) ?_
  refine lv_aload_n hx hb dX1_unsave_1 rfl (lv_at hl 0 rfl) ?_
  refine lv_iload_n hx hb dX1_unsave_2 rfl (lv_at hl 1 rfl) ?_
  refine cl_calli (W.runV (As := [.int x]) (rest := [.ref q]) ⟨hx, hb, hml, hown, hts⟩ (c1_isCard l dC dI q qa qb cY cZ t N D S x false h1 h2 (by constructor; exact fun h9 => (Bool.false_ne_true h9).elim; exact fun h9 => (hbad.elim h9.1 (fun h8 => h8 h9.2)).elim)) (cwV 1 hts gX1_unsave_X1_isCard rfl rfl rfl (by decide +kernel) ⟨Nat.le_of_ble_eq_true rfl, Nat.le_of_ble_eq_true rfl⟩) (md_preV hK hP [.int x]) rfl rfl hl.1 rfl (lv_room (Nat.le_of_ble_eq_true rfl)) dX1_unsave_3 ⟨Nat.zero_le _, Nat.zero_le _⟩) ?_
  refine va_calli (va_runV (As := [.int (md_b false)]) (rest := []) ⟨hx, hb, hml, hown, hts⟩ (c1_goes l dC dI q qa qb cY cZ t N D S false hne) (cwV 1 hts gX1_unsave_X1_goes rfl rfl rfl (by decide +kernel) ⟨Nat.le_of_ble_eq_true rfl, Nat.le_of_ble_eq_true rfl⟩) (md_preV hK hP [.int (md_b false)]) rfl rfl hl.1 rfl (lv_room (Nat.le_of_ble_eq_true rfl)) dX1_unsave_6 ⟨Nat.zero_le _, Nat.zero_le _⟩) hS (fun q _ h9 => h9) (fun q h9 => h9) (fun r9 u9 t9 H locs ht9 hvm9 hw9 hP9 hz9 hk9 hS => ?_)
  rw [ht9] at hP9
  subst hw9
  have hP : va_P (dC, dI) vwCl (md_w q qa qb cY cZ (md_b (!false)) (nI N) D S) H := hP9
  refine lv_if_eq (tgt := 21) hx hb dX1_unsave_9 (by decide) (fun hc => ?_) (fun hc => ?_)
  · refine lv_iconst (v := 0) hx hb dX1_unsave_21 (by decide) ?_
    exact W.zret (v := 0) (ty := .boolean) hx hb hr rfl (fun t9 ht9 _ => ⟨⟨_, (), rfl, rfl, cl_at ht9 (hP)⟩, hS.F ht9⟩) hS.2.2 dX1_unsave_22
  · exact absurd (show md_b false = 0 by decide) hc
set_option maxHeartbeats 4000000 in
set_option maxRecDepth 100000 in
/-- card(k) -/
theorem c1_card (l : Launch) (dC : Nat → ClassId) (dI : Nat → Nat → Nat) (q qa qb : Nat) (cY cZ : ClassId) (t : Int32) (N : Nat) (D S : Nat → Bool) (k : Nat) (h1 : 1 ≤ N) (h2 : N ≤ 16384) (hk : k < (cb_cc N)) (hne : md_ne q qa qb) : Met l yX1_card wsX1_card ({ frames := 2, cells := 0, slots := 0, locals := 60 }) (cb_Pc (dC, dI) [.ref q, .int (nI k)] (md_w q qa qb cY cZ t (nI N) D S) [(cY, .boolean), (cZ, .boolean)]) (va_Qi (fun (r9 : Int32) (_ : Unit) => (md_cd D S k) = r9) (fun _ t9 => va_P (dC, dI) vwCl (md_w q qa qb cY cZ 0 (nI N) D S) t9.heap) (md_A q qa qb)) 0 0 (md_A q qa qb) := by
  refine Met.ofW (cc := cX1_card) (maxL := 2) (ret := (some .int)) (by decide) rfl ?_
  intro p e s m args below meth c s₁ B hml hv
  obtain ⟨rfl, hP, hK⟩ := hv
  have hx := B.exec
  have hb := B.bytes
  have hr := B.returns
  have hts := atoms_spec (ws := wsX1_card) B.pre
  have hown : s.vm.findClass RX1 = some m.cls := findClass_of_methodNamed B.named
  have hlocks := B.notSynchronized
  have hl := lv_entry ([.ref q, .int (nI k)]) (n := 2) (Nat.le_of_ble_eq_true rfl)
  rw [lg_entry_eq]
  generalize (lg_sl ([.ref q, .int (nI k)]) ++ List.replicate (2 - (lg_sl ([.ref q, .int (nI k)])).length) Slot.unset).toArray = ls at hl ⊢
  have hl : lv_has ls 2 [(0, .ref q), (1, .int (nI k))] := hl
  have hS : va_S (md_A q qa qb) s.heap s.heap [] := va_S.rf
  have hk5 : k < 512 := by have := cb_cc_le h2; omega
  refine lv_aload_n hx hb dX1_card_0 rfl (lv_at hl 0 rfl) ?_
  refine lv_aload_n hx hb dX1_card_1 rfl (lv_at hl 0 rfl) ?_
  refine lv_iload_n hx hb dX1_card_2 rfl (lv_at hl 1 rfl) ?_
  refine cl_calli (W.runV (As := [.int (nI k)]) (rest := [.ref q]) ⟨hx, hb, hml, hown, hts⟩ (c1_isCard l dC dI q qa qb cY cZ t N D S (nI k) true h1 h2 (by have h512 := cb_cc_le h2; constructor; exact fun _ => ⟨nI_pos (by omega), nI_lt hk (by omega)⟩; exact fun _ => rfl)) (cwV 1 hts gX1_card_X1_isCard rfl rfl rfl (by decide +kernel) ⟨Nat.le_of_ble_eq_true rfl, Nat.le_of_ble_eq_true rfl⟩) (md_preV hK hP [.int (nI k)]) rfl rfl hl.1 rfl (lv_room (Nat.le_of_ble_eq_true rfl)) dX1_card_3 ⟨Nat.zero_le _, Nat.zero_le _⟩) ?_
  refine va_calli (va_runV (As := [.int (md_b true)]) (rest := []) ⟨hx, hb, hml, hown, hts⟩ (c1_goes l dC dI q qa qb cY cZ t N D S true hne) (cwV 1 hts gX1_card_X1_goes rfl rfl rfl (by decide +kernel) ⟨Nat.le_of_ble_eq_true rfl, Nat.le_of_ble_eq_true rfl⟩) (md_preV hK hP [.int (md_b true)]) rfl rfl hl.1 rfl (lv_room (Nat.le_of_ble_eq_true rfl)) dX1_card_6 ⟨Nat.zero_le _, Nat.zero_le _⟩) hS (fun q _ h9 => h9) (fun q h9 => h9) (fun r9 u9 t9 H locs ht9 hvm9 hw9 hP9 hz9 hk9 hS => ?_)
  rw [ht9] at hP9
  subst hw9
  have hP : va_P (dC, dI) vwCl (md_w q qa qb cY cZ (md_b (!true)) (nI N) D S) H := hP9
  refine lv_if_eq (tgt := 44) hx hb dX1_card_9 (by decide) (fun hc => ?_) (fun hc => ?_)
  · exact absurd hc (by decide)
  · refine lv_aload_n hx hb dX1_card_12 rfl (lv_at hl 0 rfl) ?_
    refine va_get (D := (dC, dI)) (ci := 1) (v := .ref qa) (C := RX1) (T := TX1) (N := 4) hx hb hts (by decide +kernel) hown hK hP 0 rfl rfl 2 (by decide) (hts (.fieldLink RX1 13 "CardBookModel" "dirty" "[Z") (by decide +kernel)) (fun _ h9 => h9) rfl dX1_card_13 ?_
    refine lv_iload_n hx hb dX1_card_16 rfl (lv_at hl 1 rfl) ?_
    refine cl_zald (D := (dC, dI)) hx hb hK hP 1 0 rfl rfl hk5 (by decide) dX1_card_17 ?_
    refine lv_if_eq (tgt := 25) hx hb dX1_card_18 (by decide) (fun hd => ?_) (fun hd => ?_)
    · have hd9 := md_b0 hd
      refine lv_iconst (v := 0) hx hb dX1_card_25 (by decide) ?_
      refine lv_aload_n hx hb dX1_card_26 rfl (lv_at hl 0 rfl) ?_
      refine va_get (D := (dC, dI)) (ci := 1) (v := .ref qb) (C := RX1) (T := TX1) (N := 4) hx hb hts (by decide +kernel) hown hK hP 0 rfl rfl 3 (by decide) (hts (.fieldLink RX1 17 "CardBookModel" "saved" "[Z") (by decide +kernel)) (fun _ h9 => h9) rfl dX1_card_27 ?_
      refine lv_iload_n hx hb dX1_card_30 rfl (lv_at hl 1 rfl) ?_
      refine cl_zald (D := (dC, dI)) hx hb hK hP 2 1 rfl rfl hk5 (by decide) dX1_card_31 ?_
      refine lv_if_eq (tgt := 39) hx hb dX1_card_32 (by decide) (fun he => ?_) (fun he => ?_)
      · have he9 := md_b0 he
        refine lv_iconst (v := 0) hx hb dX1_card_39 (by decide) ?_
        refine lv_iadd hx hb dX1_card_40 ?_
        refine lv_goto (tgt := 45) hx hb dX1_card_41 (by decide) ?_
        exact W.iret (v := (0 + 0)) hx hb hr (fun t9 ht9 _ => ⟨⟨_, (), rfl, (by unfold md_cd; rw [hd9, he9]; rfl), cl_at ht9 (hP)⟩, hS.F ht9⟩) hS.2.2 dX1_card_45
      · have he9 := md_b1 he
        refine lv_iconst (v := 2) hx hb dX1_card_35 (by decide) ?_
        refine lv_goto (tgt := 40) hx hb dX1_card_36 (by decide) ?_
        refine lv_iadd hx hb dX1_card_40 ?_
        refine lv_goto (tgt := 45) hx hb dX1_card_41 (by decide) ?_
        exact W.iret (v := (0 + 2)) hx hb hr (fun t9 ht9 _ => ⟨⟨_, (), rfl, (by unfold md_cd; rw [hd9, he9]; rfl), cl_at ht9 (hP)⟩, hS.F ht9⟩) hS.2.2 dX1_card_45
    · have hd9 := md_b1 hd
      refine lv_iconst (v := 1) hx hb dX1_card_21 (by decide) ?_
      refine lv_goto (tgt := 26) hx hb dX1_card_22 (by decide) ?_
      refine lv_aload_n hx hb dX1_card_26 rfl (lv_at hl 0 rfl) ?_
      refine va_get (D := (dC, dI)) (ci := 1) (v := .ref qb) (C := RX1) (T := TX1) (N := 4) hx hb hts (by decide +kernel) hown hK hP 0 rfl rfl 3 (by decide) (hts (.fieldLink RX1 17 "CardBookModel" "saved" "[Z") (by decide +kernel)) (fun _ h9 => h9) rfl dX1_card_27 ?_
      refine lv_iload_n hx hb dX1_card_30 rfl (lv_at hl 1 rfl) ?_
      refine cl_zald (D := (dC, dI)) hx hb hK hP 2 1 rfl rfl hk5 (by decide) dX1_card_31 ?_
      refine lv_if_eq (tgt := 39) hx hb dX1_card_32 (by decide) (fun he => ?_) (fun he => ?_)
      · have he9 := md_b0 he
        refine lv_iconst (v := 0) hx hb dX1_card_39 (by decide) ?_
        refine lv_iadd hx hb dX1_card_40 ?_
        refine lv_goto (tgt := 45) hx hb dX1_card_41 (by decide) ?_
        exact W.iret (v := (1 + 0)) hx hb hr (fun t9 ht9 _ => ⟨⟨_, (), rfl, (by unfold md_cd; rw [hd9, he9]; rfl), cl_at ht9 (hP)⟩, hS.F ht9⟩) hS.2.2 dX1_card_45
      · have he9 := md_b1 he
        refine lv_iconst (v := 2) hx hb dX1_card_35 (by decide) ?_
        refine lv_goto (tgt := 40) hx hb dX1_card_36 (by decide) ?_
        refine lv_iadd hx hb dX1_card_40 ?_
        refine lv_goto (tgt := 45) hx hb dX1_card_41 (by decide) ?_
        exact W.iret (v := (1 + 2)) hx hb hr (fun t9 ht9 _ => ⟨⟨_, (), rfl, (by unfold md_cd; rw [hd9, he9]; rfl), cl_at ht9 (hP)⟩, hS.F ht9⟩) hS.2.2 dX1_card_45
set_option maxHeartbeats 4000000 in
set_option maxRecDepth 100000 in
/-- card(x), where there is no such card -/
theorem e1_card (l : Launch) (dC : Nat → ClassId) (dI : Nat → Nat → Nat) (q qa qb : Nat) (cY cZ : ClassId) (t : Int32) (N : Nat) (D S : Nat → Bool) (x : Int32) (h1 : 1 ≤ N) (h2 : N ≤ 16384) (hbad : x < 0 ∨ ¬ x < nI (cb_cc N)) (hne : md_ne q qa qb) : Met l yX1_card wsX1_card ({ frames := 2, cells := 0, slots := 0, locals := 60 }) (cb_Pc (dC, dI) [.ref q, .int x] (md_w q qa qb cY cZ t (nI N) D S) [(cY, .boolean), (cZ, .boolean)]) (va_Qi (fun (r9 : Int32) (_ : Unit) => (0 : Int32) = r9) (fun _ t9 => va_P (dC, dI) vwCl (md_w q qa qb cY cZ 1 (nI N) D S) t9.heap) (md_A q qa qb)) 0 0 (md_A q qa qb) := by
  refine Met.ofW (cc := cX1_card) (maxL := 2) (ret := (some .int)) (by decide) rfl ?_
  intro p e s m args below meth c s₁ B hml hv
  obtain ⟨rfl, hP, hK⟩ := hv
  have hx := B.exec
  have hb := B.bytes
  have hr := B.returns
  have hts := atoms_spec (ws := wsX1_card) B.pre
  have hown : s.vm.findClass RX1 = some m.cls := findClass_of_methodNamed B.named
  have hlocks := B.notSynchronized
  have hl := lv_entry ([.ref q, .int x]) (n := 2) (Nat.le_of_ble_eq_true rfl)
  rw [lg_entry_eq]
  generalize (lg_sl ([.ref q, .int x]) ++ List.replicate (2 - (lg_sl ([.ref q, .int x])).length) Slot.unset).toArray = ls at hl ⊢
  have hl : lv_has ls 2 [(0, .ref q), (1, .int x)] := hl
  have hS : va_S (md_A q qa qb) s.heap s.heap [] := va_S.rf
  refine lv_aload_n hx hb dX1_card_0 rfl (lv_at hl 0 rfl) ?_
  refine lv_aload_n hx hb dX1_card_1 rfl (lv_at hl 0 rfl) ?_
  refine lv_iload_n hx hb dX1_card_2 rfl (lv_at hl 1 rfl) ?_
  refine cl_calli (W.runV (As := [.int x]) (rest := [.ref q]) ⟨hx, hb, hml, hown, hts⟩ (c1_isCard l dC dI q qa qb cY cZ t N D S x false h1 h2 (by constructor; exact fun h9 => (Bool.false_ne_true h9).elim; exact fun h9 => (hbad.elim h9.1 (fun h8 => h8 h9.2)).elim)) (cwV 1 hts gX1_card_X1_isCard rfl rfl rfl (by decide +kernel) ⟨Nat.le_of_ble_eq_true rfl, Nat.le_of_ble_eq_true rfl⟩) (md_preV hK hP [.int x]) rfl rfl hl.1 rfl (lv_room (Nat.le_of_ble_eq_true rfl)) dX1_card_3 ⟨Nat.zero_le _, Nat.zero_le _⟩) ?_
  refine va_calli (va_runV (As := [.int (md_b false)]) (rest := []) ⟨hx, hb, hml, hown, hts⟩ (c1_goes l dC dI q qa qb cY cZ t N D S false hne) (cwV 1 hts gX1_card_X1_goes rfl rfl rfl (by decide +kernel) ⟨Nat.le_of_ble_eq_true rfl, Nat.le_of_ble_eq_true rfl⟩) (md_preV hK hP [.int (md_b false)]) rfl rfl hl.1 rfl (lv_room (Nat.le_of_ble_eq_true rfl)) dX1_card_6 ⟨Nat.zero_le _, Nat.zero_le _⟩) hS (fun q _ h9 => h9) (fun q h9 => h9) (fun r9 u9 t9 H locs ht9 hvm9 hw9 hP9 hz9 hk9 hS => ?_)
  rw [ht9] at hP9
  subst hw9
  have hP : va_P (dC, dI) vwCl (md_w q qa qb cY cZ (md_b (!false)) (nI N) D S) H := hP9
  refine lv_if_eq (tgt := 44) hx hb dX1_card_9 (by decide) (fun hc => ?_) (fun hc => ?_)
  · refine lv_iconst (v := 0) hx hb dX1_card_44 (by decide) ?_
    exact W.iret (v := 0) hx hb hr (fun t9 ht9 _ => ⟨⟨_, (), rfl, rfl, cl_at ht9 (hP)⟩, hS.F ht9⟩) hS.2.2 dX1_card_45
  · exact absurd (show md_b false = 0 by decide) hc
set_option maxHeartbeats 4000000 in
set_option maxRecDepth 100000 in
/-- nextDirty(j) -/
theorem c1_nextDirty (l : Launch) (dC : Nat → ClassId) (dI : Nat → Nat → Nat) (q qa qb : Nat) (cY cZ : ClassId) (t : Int32) (N : Nat) (D S : Nat → Bool) (j : Nat) (hj : j < 2 ^ 31) (hne : md_ne q qa qb) : Met l yX1_nextDirty wsX1_nextDirty ({ frames := 1, cells := 0, slots := 0, locals := 40 }) (cb_Pc (dC, dI) [.ref q, .int (nI j)] (md_w q qa qb cY cZ t (nI N) D S) [(cY, .boolean), (cZ, .boolean)]) (va_Qi (fun (r9 : Int32) (_ : Unit) => (md_fw D j 0) = r9) (fun _ t9 => va_P (dC, dI) vwCl (md_w q qa qb cY cZ 0 (nI N) D S) t9.heap) (md_A q qa qb)) 0 0 (md_A q qa qb) := by
  refine Met.ofW (cc := cX1_nextDirty) (maxL := 3) (ret := (some .int)) (by decide) rfl ?_
  intro p e s m args below meth c s₁ B hml hv
  obtain ⟨rfl, hP, hK⟩ := hv
  have hx := B.exec
  have hb := B.bytes
  have hr := B.returns
  have hts := atoms_spec (ws := wsX1_nextDirty) B.pre
  have hown : s.vm.findClass RX1 = some m.cls := findClass_of_methodNamed B.named
  have hlocks := B.notSynchronized
  have hl := lv_entry ([.ref q, .int (nI j)]) (n := 3) (Nat.le_of_ble_eq_true rfl)
  rw [lg_entry_eq]
  generalize (lg_sl ([.ref q, .int (nI j)]) ++ List.replicate (3 - (lg_sl ([.ref q, .int (nI j)])).length) Slot.unset).toArray = ls at hl ⊢
  have hl : lv_has ls 3 [(0, .ref q), (1, .int (nI j))] := hl
  have hS : va_S (md_A q qa qb) s.heap s.heap [] := va_S.rf
  refine lv_aload_n hx hb dX1_nextDirty_0 rfl (lv_at hl 0 rfl) ?_
  refine lv_iload_n hx hb dX1_nextDirty_1 rfl (lv_at hl 1 rfl) ?_
  refine lv_if_lt (tgt := 9) hx hb dX1_nextDirty_2 (by decide) (fun hc => ?_) (fun hc => ?_)
  · exact absurd hc (nI_pos hj)
  · refine lv_iconst (v := 1) hx hb dX1_nextDirty_5 (by decide) ?_
    refine lv_goto (tgt := 10) hx hb dX1_nextDirty_6 (by decide) ?_
    refine va_calli (va_runV (As := [.int (md_b true)]) (rest := []) ⟨hx, hb, hml, hown, hts⟩ (c1_goes l dC dI q qa qb cY cZ t N D S true hne) (cwV 1 hts gX1_nextDirty_X1_goes rfl rfl rfl (by decide +kernel) ⟨Nat.le_of_ble_eq_true rfl, Nat.le_of_ble_eq_true rfl⟩) (md_preV hK hP [.int (md_b true)]) rfl rfl hl.1 rfl (lv_room (Nat.le_of_ble_eq_true rfl)) dX1_nextDirty_10 ⟨Nat.zero_le _, Nat.zero_le _⟩) hS (fun q _ h9 => h9) (fun q h9 => h9) (fun r9 u9 t9 H locs ht9 hvm9 hw9 hP9 hz9 hk9 hS => ?_)
    rw [ht9] at hP9
    subst hw9
    have hP : va_P (dC, dI) vwCl (md_w q qa qb cY cZ (md_b (!true)) (nI N) D S) H := hP9
    refine lv_if_ne (tgt := 18) hx hb dX1_nextDirty_13 (by decide) (fun hd => ?_) (fun hd => ?_)
    · refine lv_iconst (v := 0) hx hb dX1_nextDirty_18 (by decide) ?_
      refine lv_istore_n (lv' := [(2, .int 0), (0, .ref q), (1, .int (nI j))]) hx hb dX1_nextDirty_19 rfl hl (by decide) rfl (fun ls hl => ?_)
      refine cl_loop 0 512 (by decide) (fun i H9 locs9 ls9 => H9 = H ∧ locs9 = locs ∧ md_fw D j 0 = md_fw D j i ∧ lv_has ls9 3 [(2, .int (nI i)), (0, .ref q), (1, .int (nI j))]) ?_ ?_ (H := H) (locs := locs) (ls := ls) ⟨rfl, rfl, rfl, hl⟩
      · intro H9 locs9 ls hi9
        obtain ⟨rfl, rfl, hf, hl⟩ := hi9
        refine lv_iload_n hx hb dX1_nextDirty_20 rfl (lv_at hl 0 rfl) ?_
        refine lv_sipush (v := 512) hx hb dX1_nextDirty_21 (by decide) ?_
        refine lv_icmp_ge (tgt := 49) hx hb dX1_nextDirty_24 (by decide) (fun he => ?_) (fun he => ?_)
        · refine lv_iconst (v := (-1)) hx hb dX1_nextDirty_49 (by decide) ?_
          rw [md_fw_e] at hf
          exact W.iret (v := -1) hx hb hr (fun t9 ht9 _ => ⟨⟨_, (), rfl, hf, cl_at ht9 (hP)⟩, hS.F ht9⟩) hS.2.2 dX1_nextDirty_50
        · exact absurd (Int32.le_refl _) he
      · intro i H9 locs9 ls _ hi hi9 kk
        obtain ⟨rfl, rfl, hf, hl⟩ := hi9
        refine lv_iload_n hx hb dX1_nextDirty_20 rfl (lv_at hl 0 rfl) ?_
        refine lv_sipush (v := 512) hx hb dX1_nextDirty_21 (by decide) ?_
        refine lv_icmp_ge (tgt := 49) hx hb dX1_nextDirty_24 (by decide) (fun he => ?_) (fun he => ?_)
        · exact absurd he (nI_ge hi (by decide))
        · refine lv_iload_n hx hb dX1_nextDirty_27 rfl (lv_at hl 0 rfl) ?_
          refine lv_iload_n hx hb dX1_nextDirty_28 rfl (lv_at hl 2 rfl) ?_
          refine lv_icmp_lt (tgt := 43) hx hb dX1_nextDirty_29 (by decide) (fun hg => ?_) (fun hg => ?_)
          · have hg := (nI_ltI (by omega) (by omega)).mp hg
            refine lv_iinc (v := (nI (i + 1))) (lv' := [(2, .int (nI (i + 1))), (0, .ref q), (1, .int (nI j))]) hx hb dX1_nextDirty_43 hl (k := 0) rfl (nI_1 _) (by decide) rfl (fun ls hl => ?_)
            refine lv_goto (tgt := 20) hx hb dX1_nextDirty_46 (by decide) ?_
            exact kk _ _ _ ⟨rfl, rfl, hf.trans (md_fw_0 hi (by omega)), lv_sub hl [0, 1, 2] rfl⟩
          · have hg : ¬ i < j := fun h9 => hg (nI_lt h9 (by omega))
            refine lv_aload_n hx hb dX1_nextDirty_32 rfl (lv_at hl 1 rfl) ?_
            refine va_get (D := (dC, dI)) (ci := 1) (v := .ref qa) (C := RX1) (T := TX1) (N := 4) hx hb hts (by decide +kernel) hown hK hP 0 rfl rfl 2 (by decide) (hts (.fieldLink RX1 13 "CardBookModel" "dirty" "[Z") (by decide +kernel)) (fun _ h9 => h9) rfl dX1_nextDirty_33 ?_
            refine lv_iload_n hx hb dX1_nextDirty_36 rfl (lv_at hl 0 rfl) ?_
            refine cl_zald (D := (dC, dI)) hx hb hK hP 1 0 rfl rfl hi (by decide) dX1_nextDirty_37 ?_
            refine lv_if_eq (tgt := 43) hx hb dX1_nextDirty_38 (by decide) (fun hh => ?_) (fun hh => ?_)
            · have hh9 := md_b0 hh
              refine lv_iinc (v := (nI (i + 1))) (lv' := [(2, .int (nI (i + 1))), (0, .ref q), (1, .int (nI j))]) hx hb dX1_nextDirty_43 hl (k := 0) rfl (nI_1 _) (by decide) rfl (fun ls hl => ?_)
              refine lv_goto (tgt := 20) hx hb dX1_nextDirty_46 (by decide) ?_
              exact kk _ _ _ ⟨rfl, rfl, hf.trans (md_fw_0 hi (by rw [hh9]; exact fun h9 => Bool.false_ne_true h9.2)), lv_sub hl [0, 1, 2] rfl⟩
            · rw [md_fw_1 hi (by omega) (md_b1 hh)] at hf
              refine lv_iload_n hx hb dX1_nextDirty_41 rfl (lv_at hl 0 rfl) ?_
              exact W.iret (v := nI i) hx hb hr (fun t9 ht9 _ => ⟨⟨_, (), rfl, hf, cl_at ht9 (hP)⟩, hS.F ht9⟩) hS.2.2 dX1_nextDirty_42
    · exact absurd hd (by decide)
set_option maxHeartbeats 4000000 in
set_option maxRecDepth 100000 in
/-- nextDirty(x), x below 0 -/
theorem e1_nextDirty (l : Launch) (dC : Nat → ClassId) (dI : Nat → Nat → Nat) (q qa qb : Nat) (cY cZ : ClassId) (t : Int32) (N : Nat) (D S : Nat → Bool) (x : Int32) (hbad : x < 0) (hne : md_ne q qa qb) : Met l yX1_nextDirty wsX1_nextDirty ({ frames := 1, cells := 0, slots := 0, locals := 40 }) (cb_Pc (dC, dI) [.ref q, .int x] (md_w q qa qb cY cZ t (nI N) D S) [(cY, .boolean), (cZ, .boolean)]) (va_Qi (fun (r9 : Int32) (_ : Unit) => (0 : Int32) = r9) (fun _ t9 => va_P (dC, dI) vwCl (md_w q qa qb cY cZ 1 (nI N) D S) t9.heap) (md_A q qa qb)) 0 0 (md_A q qa qb) := by
  refine Met.ofW (cc := cX1_nextDirty) (maxL := 3) (ret := (some .int)) (by decide) rfl ?_
  intro p e s m args below meth c s₁ B hml hv
  obtain ⟨rfl, hP, hK⟩ := hv
  have hx := B.exec
  have hb := B.bytes
  have hr := B.returns
  have hts := atoms_spec (ws := wsX1_nextDirty) B.pre
  have hown : s.vm.findClass RX1 = some m.cls := findClass_of_methodNamed B.named
  have hlocks := B.notSynchronized
  have hl := lv_entry ([.ref q, .int x]) (n := 3) (Nat.le_of_ble_eq_true rfl)
  rw [lg_entry_eq]
  generalize (lg_sl ([.ref q, .int x]) ++ List.replicate (3 - (lg_sl ([.ref q, .int x])).length) Slot.unset).toArray = ls at hl ⊢
  have hl : lv_has ls 3 [(0, .ref q), (1, .int x)] := hl
  have hS : va_S (md_A q qa qb) s.heap s.heap [] := va_S.rf
  refine lv_aload_n hx hb dX1_nextDirty_0 rfl (lv_at hl 0 rfl) ?_
  refine lv_iload_n hx hb dX1_nextDirty_1 rfl (lv_at hl 1 rfl) ?_
  refine lv_if_lt (tgt := 9) hx hb dX1_nextDirty_2 (by decide) (fun hc => ?_) (fun hc => ?_)
  · refine lv_iconst (v := 0) hx hb dX1_nextDirty_9 (by decide) ?_
    refine va_calli (va_runV (As := [.int (md_b false)]) (rest := []) ⟨hx, hb, hml, hown, hts⟩ (c1_goes l dC dI q qa qb cY cZ t N D S false hne) (cwV 1 hts gX1_nextDirty_X1_goes rfl rfl rfl (by decide +kernel) ⟨Nat.le_of_ble_eq_true rfl, Nat.le_of_ble_eq_true rfl⟩) (md_preV hK hP [.int (md_b false)]) rfl rfl hl.1 rfl (lv_room (Nat.le_of_ble_eq_true rfl)) dX1_nextDirty_10 ⟨Nat.zero_le _, Nat.zero_le _⟩) hS (fun q _ h9 => h9) (fun q h9 => h9) (fun r9 u9 t9 H locs ht9 hvm9 hw9 hP9 hz9 hk9 hS => ?_)
    rw [ht9] at hP9
    subst hw9
    have hP : va_P (dC, dI) vwCl (md_w q qa qb cY cZ (md_b (!false)) (nI N) D S) H := hP9
    refine lv_if_ne (tgt := 18) hx hb dX1_nextDirty_13 (by decide) (fun hu => ?_) (fun hu => ?_)
    · exact absurd (show md_b false = 0 by decide) hu
    · refine lv_iconst (v := 0) hx hb dX1_nextDirty_16 (by decide) ?_
      exact W.iret (v := 0) hx hb hr (fun t9 ht9 _ => ⟨⟨_, (), rfl, rfl, cl_at ht9 (hP)⟩, hS.F ht9⟩) hS.2.2 dX1_nextDirty_17
  · exact absurd hbad hc
set_option maxHeartbeats 4000000 in
set_option maxRecDepth 100000 in
/-- nextSaved(j) -/
theorem c1_nextSaved (l : Launch) (dC : Nat → ClassId) (dI : Nat → Nat → Nat) (q qa qb : Nat) (cY cZ : ClassId) (t : Int32) (N : Nat) (D S : Nat → Bool) (j : Nat) (hj : j < 2 ^ 31) (hne : md_ne q qa qb) : Met l yX1_nextSaved wsX1_nextSaved ({ frames := 1, cells := 0, slots := 0, locals := 40 }) (cb_Pc (dC, dI) [.ref q, .int (nI j)] (md_w q qa qb cY cZ t (nI N) D S) [(cY, .boolean), (cZ, .boolean)]) (va_Qi (fun (r9 : Int32) (_ : Unit) => (md_fw S j 0) = r9) (fun _ t9 => va_P (dC, dI) vwCl (md_w q qa qb cY cZ 0 (nI N) D S) t9.heap) (md_A q qa qb)) 0 0 (md_A q qa qb) := by
  refine Met.ofW (cc := cX1_nextSaved) (maxL := 3) (ret := (some .int)) (by decide) rfl ?_
  intro p e s m args below meth c s₁ B hml hv
  obtain ⟨rfl, hP, hK⟩ := hv
  have hx := B.exec
  have hb := B.bytes
  have hr := B.returns
  have hts := atoms_spec (ws := wsX1_nextSaved) B.pre
  have hown : s.vm.findClass RX1 = some m.cls := findClass_of_methodNamed B.named
  have hlocks := B.notSynchronized
  have hl := lv_entry ([.ref q, .int (nI j)]) (n := 3) (Nat.le_of_ble_eq_true rfl)
  rw [lg_entry_eq]
  generalize (lg_sl ([.ref q, .int (nI j)]) ++ List.replicate (3 - (lg_sl ([.ref q, .int (nI j)])).length) Slot.unset).toArray = ls at hl ⊢
  have hl : lv_has ls 3 [(0, .ref q), (1, .int (nI j))] := hl
  have hS : va_S (md_A q qa qb) s.heap s.heap [] := va_S.rf
  refine lv_aload_n hx hb dX1_nextSaved_0 rfl (lv_at hl 0 rfl) ?_
  refine lv_iload_n hx hb dX1_nextSaved_1 rfl (lv_at hl 1 rfl) ?_
  refine lv_if_lt (tgt := 9) hx hb dX1_nextSaved_2 (by decide) (fun hc => ?_) (fun hc => ?_)
  · exact absurd hc (nI_pos hj)
  · refine lv_iconst (v := 1) hx hb dX1_nextSaved_5 (by decide) ?_
    refine lv_goto (tgt := 10) hx hb dX1_nextSaved_6 (by decide) ?_
    refine va_calli (va_runV (As := [.int (md_b true)]) (rest := []) ⟨hx, hb, hml, hown, hts⟩ (c1_goes l dC dI q qa qb cY cZ t N D S true hne) (cwV 1 hts gX1_nextSaved_X1_goes rfl rfl rfl (by decide +kernel) ⟨Nat.le_of_ble_eq_true rfl, Nat.le_of_ble_eq_true rfl⟩) (md_preV hK hP [.int (md_b true)]) rfl rfl hl.1 rfl (lv_room (Nat.le_of_ble_eq_true rfl)) dX1_nextSaved_10 ⟨Nat.zero_le _, Nat.zero_le _⟩) hS (fun q _ h9 => h9) (fun q h9 => h9) (fun r9 u9 t9 H locs ht9 hvm9 hw9 hP9 hz9 hk9 hS => ?_)
    rw [ht9] at hP9
    subst hw9
    have hP : va_P (dC, dI) vwCl (md_w q qa qb cY cZ (md_b (!true)) (nI N) D S) H := hP9
    refine lv_if_ne (tgt := 18) hx hb dX1_nextSaved_13 (by decide) (fun hd => ?_) (fun hd => ?_)
    · refine lv_iconst (v := 0) hx hb dX1_nextSaved_18 (by decide) ?_
      refine lv_istore_n (lv' := [(2, .int 0), (0, .ref q), (1, .int (nI j))]) hx hb dX1_nextSaved_19 rfl hl (by decide) rfl (fun ls hl => ?_)
      refine cl_loop 0 512 (by decide) (fun i H9 locs9 ls9 => H9 = H ∧ locs9 = locs ∧ md_fw S j 0 = md_fw S j i ∧ lv_has ls9 3 [(2, .int (nI i)), (0, .ref q), (1, .int (nI j))]) ?_ ?_ (H := H) (locs := locs) (ls := ls) ⟨rfl, rfl, rfl, hl⟩
      · intro H9 locs9 ls hi9
        obtain ⟨rfl, rfl, hf, hl⟩ := hi9
        refine lv_iload_n hx hb dX1_nextSaved_20 rfl (lv_at hl 0 rfl) ?_
        refine lv_sipush (v := 512) hx hb dX1_nextSaved_21 (by decide) ?_
        refine lv_icmp_ge (tgt := 49) hx hb dX1_nextSaved_24 (by decide) (fun he => ?_) (fun he => ?_)
        · refine lv_iconst (v := (-1)) hx hb dX1_nextSaved_49 (by decide) ?_
          rw [md_fw_e] at hf
          exact W.iret (v := -1) hx hb hr (fun t9 ht9 _ => ⟨⟨_, (), rfl, hf, cl_at ht9 (hP)⟩, hS.F ht9⟩) hS.2.2 dX1_nextSaved_50
        · exact absurd (Int32.le_refl _) he
      · intro i H9 locs9 ls _ hi hi9 kk
        obtain ⟨rfl, rfl, hf, hl⟩ := hi9
        refine lv_iload_n hx hb dX1_nextSaved_20 rfl (lv_at hl 0 rfl) ?_
        refine lv_sipush (v := 512) hx hb dX1_nextSaved_21 (by decide) ?_
        refine lv_icmp_ge (tgt := 49) hx hb dX1_nextSaved_24 (by decide) (fun he => ?_) (fun he => ?_)
        · exact absurd he (nI_ge hi (by decide))
        · refine lv_iload_n hx hb dX1_nextSaved_27 rfl (lv_at hl 0 rfl) ?_
          refine lv_iload_n hx hb dX1_nextSaved_28 rfl (lv_at hl 2 rfl) ?_
          refine lv_icmp_lt (tgt := 43) hx hb dX1_nextSaved_29 (by decide) (fun hg => ?_) (fun hg => ?_)
          · have hg := (nI_ltI (by omega) (by omega)).mp hg
            refine lv_iinc (v := (nI (i + 1))) (lv' := [(2, .int (nI (i + 1))), (0, .ref q), (1, .int (nI j))]) hx hb dX1_nextSaved_43 hl (k := 0) rfl (nI_1 _) (by decide) rfl (fun ls hl => ?_)
            refine lv_goto (tgt := 20) hx hb dX1_nextSaved_46 (by decide) ?_
            exact kk _ _ _ ⟨rfl, rfl, hf.trans (md_fw_0 hi (by omega)), lv_sub hl [0, 1, 2] rfl⟩
          · have hg : ¬ i < j := fun h9 => hg (nI_lt h9 (by omega))
            refine lv_aload_n hx hb dX1_nextSaved_32 rfl (lv_at hl 1 rfl) ?_
            refine va_get (D := (dC, dI)) (ci := 1) (v := .ref qb) (C := RX1) (T := TX1) (N := 4) hx hb hts (by decide +kernel) hown hK hP 0 rfl rfl 3 (by decide) (hts (.fieldLink RX1 17 "CardBookModel" "saved" "[Z") (by decide +kernel)) (fun _ h9 => h9) rfl dX1_nextSaved_33 ?_
            refine lv_iload_n hx hb dX1_nextSaved_36 rfl (lv_at hl 0 rfl) ?_
            refine cl_zald (D := (dC, dI)) hx hb hK hP 2 1 rfl rfl hi (by decide) dX1_nextSaved_37 ?_
            refine lv_if_eq (tgt := 43) hx hb dX1_nextSaved_38 (by decide) (fun hh => ?_) (fun hh => ?_)
            · have hh9 := md_b0 hh
              refine lv_iinc (v := (nI (i + 1))) (lv' := [(2, .int (nI (i + 1))), (0, .ref q), (1, .int (nI j))]) hx hb dX1_nextSaved_43 hl (k := 0) rfl (nI_1 _) (by decide) rfl (fun ls hl => ?_)
              refine lv_goto (tgt := 20) hx hb dX1_nextSaved_46 (by decide) ?_
              exact kk _ _ _ ⟨rfl, rfl, hf.trans (md_fw_0 hi (by rw [hh9]; exact fun h9 => Bool.false_ne_true h9.2)), lv_sub hl [0, 1, 2] rfl⟩
            · rw [md_fw_1 hi (by omega) (md_b1 hh)] at hf
              refine lv_iload_n hx hb dX1_nextSaved_41 rfl (lv_at hl 0 rfl) ?_
              exact W.iret (v := nI i) hx hb hr (fun t9 ht9 _ => ⟨⟨_, (), rfl, hf, cl_at ht9 (hP)⟩, hS.F ht9⟩) hS.2.2 dX1_nextSaved_42
    · exact absurd hd (by decide)
set_option maxHeartbeats 4000000 in
set_option maxRecDepth 100000 in
/-- nextSaved(x), x below 0 -/
theorem e1_nextSaved (l : Launch) (dC : Nat → ClassId) (dI : Nat → Nat → Nat) (q qa qb : Nat) (cY cZ : ClassId) (t : Int32) (N : Nat) (D S : Nat → Bool) (x : Int32) (hbad : x < 0) (hne : md_ne q qa qb) : Met l yX1_nextSaved wsX1_nextSaved ({ frames := 1, cells := 0, slots := 0, locals := 40 }) (cb_Pc (dC, dI) [.ref q, .int x] (md_w q qa qb cY cZ t (nI N) D S) [(cY, .boolean), (cZ, .boolean)]) (va_Qi (fun (r9 : Int32) (_ : Unit) => (0 : Int32) = r9) (fun _ t9 => va_P (dC, dI) vwCl (md_w q qa qb cY cZ 1 (nI N) D S) t9.heap) (md_A q qa qb)) 0 0 (md_A q qa qb) := by
  refine Met.ofW (cc := cX1_nextSaved) (maxL := 3) (ret := (some .int)) (by decide) rfl ?_
  intro p e s m args below meth c s₁ B hml hv
  obtain ⟨rfl, hP, hK⟩ := hv
  have hx := B.exec
  have hb := B.bytes
  have hr := B.returns
  have hts := atoms_spec (ws := wsX1_nextSaved) B.pre
  have hown : s.vm.findClass RX1 = some m.cls := findClass_of_methodNamed B.named
  have hlocks := B.notSynchronized
  have hl := lv_entry ([.ref q, .int x]) (n := 3) (Nat.le_of_ble_eq_true rfl)
  rw [lg_entry_eq]
  generalize (lg_sl ([.ref q, .int x]) ++ List.replicate (3 - (lg_sl ([.ref q, .int x])).length) Slot.unset).toArray = ls at hl ⊢
  have hl : lv_has ls 3 [(0, .ref q), (1, .int x)] := hl
  have hS : va_S (md_A q qa qb) s.heap s.heap [] := va_S.rf
  refine lv_aload_n hx hb dX1_nextSaved_0 rfl (lv_at hl 0 rfl) ?_
  refine lv_iload_n hx hb dX1_nextSaved_1 rfl (lv_at hl 1 rfl) ?_
  refine lv_if_lt (tgt := 9) hx hb dX1_nextSaved_2 (by decide) (fun hc => ?_) (fun hc => ?_)
  · refine lv_iconst (v := 0) hx hb dX1_nextSaved_9 (by decide) ?_
    refine va_calli (va_runV (As := [.int (md_b false)]) (rest := []) ⟨hx, hb, hml, hown, hts⟩ (c1_goes l dC dI q qa qb cY cZ t N D S false hne) (cwV 1 hts gX1_nextSaved_X1_goes rfl rfl rfl (by decide +kernel) ⟨Nat.le_of_ble_eq_true rfl, Nat.le_of_ble_eq_true rfl⟩) (md_preV hK hP [.int (md_b false)]) rfl rfl hl.1 rfl (lv_room (Nat.le_of_ble_eq_true rfl)) dX1_nextSaved_10 ⟨Nat.zero_le _, Nat.zero_le _⟩) hS (fun q _ h9 => h9) (fun q h9 => h9) (fun r9 u9 t9 H locs ht9 hvm9 hw9 hP9 hz9 hk9 hS => ?_)
    rw [ht9] at hP9
    subst hw9
    have hP : va_P (dC, dI) vwCl (md_w q qa qb cY cZ (md_b (!false)) (nI N) D S) H := hP9
    refine lv_if_ne (tgt := 18) hx hb dX1_nextSaved_13 (by decide) (fun hu => ?_) (fun hu => ?_)
    · exact absurd (show md_b false = 0 by decide) hu
    · refine lv_iconst (v := 0) hx hb dX1_nextSaved_16 (by decide) ?_
      exact W.iret (v := 0) hx hb hr (fun t9 ht9 _ => ⟨⟨_, (), rfl, rfl, cl_at ht9 (hP)⟩, hS.F ht9⟩) hS.2.2 dX1_nextSaved_17
  · exact absurd hbad hc
set_option maxHeartbeats 4000000 in
set_option maxRecDepth 100000 in
/-- clear() -/
theorem c1_clear (l : Launch) (dC : Nat → ClassId) (dI : Nat → Nat → Nat) (q qa qb : Nat) (cY cZ : ClassId) (t : Int32) (N : Nat) (D S : Nat → Bool) (hne : md_ne q qa qb) : Met l yX1_clear wsX1_clear ({ frames := 1, cells := 0, slots := 0, locals := 40 }) (cb_Pc (dC, dI) [.ref q] (md_w q qa qb cY cZ t (nI N) D S) [(cY, .boolean), (cZ, .boolean)]) (va_Qi (fun (r9 : Int32) (_ : Unit) => (nI (md_ct true true D S 512)) = r9) (fun _ t9 => va_P (dC, dI) vwCl (md_w q qa qb cY cZ 0 (nI N) (md_cl D true 512) (md_cl S true 512)) t9.heap) (md_A q qa qb)) 0 0 (md_A q qa qb) := by
  refine Met.ofW (cc := cX1_clear) (maxL := 1) (ret := (some .int)) (by decide) rfl ?_
  intro p e s m args below meth c s₁ B hml hv
  obtain ⟨rfl, hP, hK⟩ := hv
  have hx := B.exec
  have hb := B.bytes
  have hr := B.returns
  have hts := atoms_spec (ws := wsX1_clear) B.pre
  have hown : s.vm.findClass RX1 = some m.cls := findClass_of_methodNamed B.named
  have hlocks := B.notSynchronized
  have hl := lv_entry ([.ref q]) (n := 1) (Nat.le_of_ble_eq_true rfl)
  rw [lg_entry_eq]
  generalize (lg_sl ([.ref q]) ++ List.replicate (1 - (lg_sl ([.ref q])).length) Slot.unset).toArray = ls at hl ⊢
  have hl : lv_has ls 1 [(0, .ref q)] := hl
  have hS : va_S (md_A q qa qb) s.heap s.heap [] := va_S.rf
  refine lv_aload_n hx hb dX1_clear_0 rfl (lv_at hl 0 rfl) ?_
  refine lv_iconst (v := 0) hx hb dX1_clear_1 (by decide) ?_
  have hD := md_D (cY := cY) (cZ := cZ) (t := t) (n := (nI N)) (D := D) (S := S) hne
  refine va_put (D := (dC, dI)) (ci := 1) (v := .int 0) (ty := .int) (C := RX1) (T := TX1) (N := 4) hx hb hts (by decide +kernel) tyX1 tyX1_ok nmX1 hown hK hP hD hS 0 rfl rfl 0 (by decide) (hts (.fieldLink RX1 20 "CardBookModel" "thrown" "I") (by decide +kernel)) (fun _ h9 => h9) rfl (by decide +kernel) rfl rfl (Nat.le_of_ble_eq_true rfl) dX1_clear_2 (fun H locs hP _ hS => ?_)
  have hP : va_P (dC, dI) vwCl (md_w q qa qb cY cZ 0 (nI N) D S) H := hP
  refine lv_aload_n hx hb dX1_clear_5 rfl (lv_at hl 0 rfl) ?_
  refine lv_iconst (v := 3) hx hb dX1_clear_6 (by decide) ?_
  refine lv_iconst (v := 1) hx hb dX1_clear_7 (by decide) ?_
  refine va_calli (va_runV (As := [.int 3, .int (md_b true)]) (rest := []) ⟨hx, hb, hml, hown, hts⟩ (c1_many l dC dI q qa qb cY cZ 0 N D S 3 true true true hne (by decide) (by decide)) (cwV 2 hts gX1_clear_X1_many rfl rfl rfl (by decide +kernel) ⟨Nat.le_of_ble_eq_true rfl, Nat.le_of_ble_eq_true rfl⟩) (md_preV hK hP [.int 3, .int (md_b true)]) rfl rfl hl.1 rfl (lv_room (Nat.le_of_ble_eq_true rfl)) dX1_clear_8 ⟨Nat.zero_le _, Nat.zero_le _⟩) hS (fun q _ h9 => h9) (fun q h9 => h9) (fun r9 u9 t9 H locs ht9 hvm9 hw9 hP9 hz9 hk9 hS => ?_)
  rw [ht9] at hP9
  subst hw9
  have hP : va_P (dC, dI) vwCl (md_w q qa qb cY cZ 0 (nI N) (md_cl D true 512) (md_cl S true 512)) H := hP9
  exact W.iret (v := nI (md_ct true true D S 512)) hx hb hr (fun t9 ht9 _ => ⟨⟨_, (), rfl, rfl, cl_at ht9 (hP)⟩, hS.F ht9⟩) hS.2.2 dX1_clear_11
set_option maxHeartbeats 4000000 in
set_option maxRecDepth 100000 in
/-- count(0) -/
theorem c1_count0 (l : Launch) (dC : Nat → ClassId) (dI : Nat → Nat → Nat) (q qa qb : Nat) (cY cZ : ClassId) (t : Int32) (N : Nat) (D S : Nat → Bool) (h1 : 1 ≤ N) (h2 : N ≤ 16384) (hne : md_ne q qa qb) : Met l yX1_count wsX1_count ({ frames := 1, cells := 0, slots := 0, locals := 40 }) (cb_Pc (dC, dI) [.ref q, .int 0] (md_w q qa qb cY cZ t (nI N) D S) [(cY, .boolean), (cZ, .boolean)]) (va_Qi (fun (r9 : Int32) (_ : Unit) => (md_cnt D S N 0) = r9) (fun _ t9 => va_P (dC, dI) vwCl (md_w q qa qb cY cZ 0 (nI N) D S) t9.heap) (md_A q qa qb)) 0 0 (md_A q qa qb) := by
  refine Met.ofW (cc := cX1_count) (maxL := 2) (ret := (some .int)) (by decide) rfl ?_
  intro p e s m args below meth c s₁ B hml hv
  obtain ⟨rfl, hP, hK⟩ := hv
  have hx := B.exec
  have hb := B.bytes
  have hr := B.returns
  have hts := atoms_spec (ws := wsX1_count) B.pre
  have hown : s.vm.findClass RX1 = some m.cls := findClass_of_methodNamed B.named
  have hlocks := B.notSynchronized
  have hl := lv_entry ([.ref q, .int 0]) (n := 2) (Nat.le_of_ble_eq_true rfl)
  rw [lg_entry_eq]
  generalize (lg_sl ([.ref q, .int 0]) ++ List.replicate (2 - (lg_sl ([.ref q, .int 0])).length) Slot.unset).toArray = ls at hl ⊢
  have hl : lv_has ls 2 [(0, .ref q), (1, .int 0)] := hl
  have hS : va_S (md_A q qa qb) s.heap s.heap [] := va_S.rf
  refine lv_aload_n hx hb dX1_count_0 rfl (lv_at hl 0 rfl) ?_
  refine lv_iload_n hx hb dX1_count_1 rfl (lv_at hl 1 rfl) ?_
  refine lv_if_lt (tgt := 14) hx hb dX1_count_2 (by decide) (fun hc => ?_) (fun hc => ?_)
  · exact absurd hc (by decide)
  · refine lv_iload_n hx hb dX1_count_5 rfl (lv_at hl 1 rfl) ?_
    refine lv_iconst (v := 3) hx hb dX1_count_6 (by decide) ?_
    refine lv_icmp_gt (tgt := 14) hx hb dX1_count_7 (by decide) (fun hd => ?_) (fun hd => ?_)
    · exact absurd hd (by decide)
    · refine lv_iconst (v := 1) hx hb dX1_count_10 (by decide) ?_
      refine lv_goto (tgt := 15) hx hb dX1_count_11 (by decide) ?_
      refine va_calli (va_runV (As := [.int (md_b true)]) (rest := []) ⟨hx, hb, hml, hown, hts⟩ (c1_goes l dC dI q qa qb cY cZ t N D S true hne) (cwV 1 hts gX1_count_X1_goes rfl rfl rfl (by decide +kernel) ⟨Nat.le_of_ble_eq_true rfl, Nat.le_of_ble_eq_true rfl⟩) (md_preV hK hP [.int (md_b true)]) rfl rfl hl.1 rfl (lv_room (Nat.le_of_ble_eq_true rfl)) dX1_count_15 ⟨Nat.zero_le _, Nat.zero_le _⟩) hS (fun q _ h9 => h9) (fun q h9 => h9) (fun r9 u9 t9 H locs ht9 hvm9 hw9 hP9 hz9 hk9 hS => ?_)
      rw [ht9] at hP9
      subst hw9
      have hP : va_P (dC, dI) vwCl (md_w q qa qb cY cZ (md_b (!true)) (nI N) D S) H := hP9
      refine lv_if_ne (tgt := 23) hx hb dX1_count_18 (by decide) (fun he => ?_) (fun he => ?_)
      · refine lv_iload_n hx hb dX1_count_23 rfl (lv_at hl 1 rfl) ?_
        refine lv_if_ne (tgt := 34) hx hb dX1_count_24 (by decide) (fun hf => ?_) (fun hf => ?_)
        · exact absurd rfl hf
        · refine lv_aload_n hx hb dX1_count_27 rfl (lv_at hl 0 rfl) ?_
          refine va_get (D := (dC, dI)) (ci := 1) (v := .int (nI N)) (C := RX1) (T := TX1) (N := 4) hx hb hts (by decide +kernel) hown hK hP 0 rfl rfl 1 (by decide) (hts (.fieldLink RX1 7 "CardBookModel" "cells" "I") (by decide +kernel)) (fun _ h9 => h9) rfl dX1_count_28 ?_
          refine lv_goto (tgt := 54) hx hb dX1_count_31 (by decide) ?_
          exact W.iret (v := nI N) hx hb hr (fun t9 ht9 _ => ⟨⟨_, (), rfl, rfl, cl_at ht9 (hP)⟩, hS.F ht9⟩) hS.2.2 dX1_count_54
      · exact absurd he (by decide)
set_option maxHeartbeats 4000000 in
set_option maxRecDepth 100000 in
/-- count(1) -/
theorem c1_count1 (l : Launch) (dC : Nat → ClassId) (dI : Nat → Nat → Nat) (q qa qb : Nat) (cY cZ : ClassId) (t : Int32) (N : Nat) (D S : Nat → Bool) (h1 : 1 ≤ N) (h2 : N ≤ 16384) (hne : md_ne q qa qb) : Met l yX1_count wsX1_count ({ frames := 1, cells := 0, slots := 0, locals := 40 }) (cb_Pc (dC, dI) [.ref q, .int 1] (md_w q qa qb cY cZ t (nI N) D S) [(cY, .boolean), (cZ, .boolean)]) (va_Qi (fun (r9 : Int32) (_ : Unit) => (md_cnt D S N 1) = r9) (fun _ t9 => va_P (dC, dI) vwCl (md_w q qa qb cY cZ 0 (nI N) D S) t9.heap) (md_A q qa qb)) 0 0 (md_A q qa qb) := by
  refine Met.ofW (cc := cX1_count) (maxL := 2) (ret := (some .int)) (by decide) rfl ?_
  intro p e s m args below meth c s₁ B hml hv
  obtain ⟨rfl, hP, hK⟩ := hv
  have hx := B.exec
  have hb := B.bytes
  have hr := B.returns
  have hts := atoms_spec (ws := wsX1_count) B.pre
  have hown : s.vm.findClass RX1 = some m.cls := findClass_of_methodNamed B.named
  have hlocks := B.notSynchronized
  have hl := lv_entry ([.ref q, .int 1]) (n := 2) (Nat.le_of_ble_eq_true rfl)
  rw [lg_entry_eq]
  generalize (lg_sl ([.ref q, .int 1]) ++ List.replicate (2 - (lg_sl ([.ref q, .int 1])).length) Slot.unset).toArray = ls at hl ⊢
  have hl : lv_has ls 2 [(0, .ref q), (1, .int 1)] := hl
  have hS : va_S (md_A q qa qb) s.heap s.heap [] := va_S.rf
  refine lv_aload_n hx hb dX1_count_0 rfl (lv_at hl 0 rfl) ?_
  refine lv_iload_n hx hb dX1_count_1 rfl (lv_at hl 1 rfl) ?_
  refine lv_if_lt (tgt := 14) hx hb dX1_count_2 (by decide) (fun hc => ?_) (fun hc => ?_)
  · exact absurd hc (by decide)
  · refine lv_iload_n hx hb dX1_count_5 rfl (lv_at hl 1 rfl) ?_
    refine lv_iconst (v := 3) hx hb dX1_count_6 (by decide) ?_
    refine lv_icmp_gt (tgt := 14) hx hb dX1_count_7 (by decide) (fun hd => ?_) (fun hd => ?_)
    · exact absurd hd (by decide)
    · refine lv_iconst (v := 1) hx hb dX1_count_10 (by decide) ?_
      refine lv_goto (tgt := 15) hx hb dX1_count_11 (by decide) ?_
      refine va_calli (va_runV (As := [.int (md_b true)]) (rest := []) ⟨hx, hb, hml, hown, hts⟩ (c1_goes l dC dI q qa qb cY cZ t N D S true hne) (cwV 1 hts gX1_count_X1_goes rfl rfl rfl (by decide +kernel) ⟨Nat.le_of_ble_eq_true rfl, Nat.le_of_ble_eq_true rfl⟩) (md_preV hK hP [.int (md_b true)]) rfl rfl hl.1 rfl (lv_room (Nat.le_of_ble_eq_true rfl)) dX1_count_15 ⟨Nat.zero_le _, Nat.zero_le _⟩) hS (fun q _ h9 => h9) (fun q h9 => h9) (fun r9 u9 t9 H locs ht9 hvm9 hw9 hP9 hz9 hk9 hS => ?_)
      rw [ht9] at hP9
      subst hw9
      have hP : va_P (dC, dI) vwCl (md_w q qa qb cY cZ (md_b (!true)) (nI N) D S) H := hP9
      refine lv_if_ne (tgt := 23) hx hb dX1_count_18 (by decide) (fun he => ?_) (fun he => ?_)
      · refine lv_iload_n hx hb dX1_count_23 rfl (lv_at hl 1 rfl) ?_
        refine lv_if_ne (tgt := 34) hx hb dX1_count_24 (by decide) (fun hf => ?_) (fun hf => ?_)
        · refine lv_iload_n hx hb dX1_count_34 rfl (lv_at hl 1 rfl) ?_
          refine lv_iconst (v := 1) hx hb dX1_count_35 (by decide) ?_
          refine lv_icmp_ne (tgt := 46) hx hb dX1_count_36 (by decide) (fun hg => ?_) (fun hg => ?_)
          · exact absurd rfl hg
          · refine lv_aload_n hx hb dX1_count_39 rfl (lv_at hl 0 rfl) ?_
            refine cl_calli (W.runV (As := []) (rest := []) ⟨hx, hb, hml, hown, hts⟩ (c1_cards l dC dI q qa qb cY cZ (md_b (!true)) N D S h1 h2) (cwV 0 hts gX1_count_X1_cards rfl rfl rfl (by decide +kernel) ⟨Nat.le_of_ble_eq_true rfl, Nat.le_of_ble_eq_true rfl⟩) (md_preV hK hP []) rfl rfl hl.1 rfl (lv_room (Nat.le_of_ble_eq_true rfl)) dX1_count_40 ⟨Nat.zero_le _, Nat.zero_le _⟩) ?_
            refine lv_goto (tgt := 54) hx hb dX1_count_43 (by decide) ?_
            exact W.iret (v := nI (cb_cc N)) hx hb hr (fun t9 ht9 _ => ⟨⟨_, (), rfl, rfl, cl_at ht9 (hP)⟩, hS.F ht9⟩) hS.2.2 dX1_count_54
        · exact absurd hf (by decide)
      · exact absurd he (by decide)
set_option maxHeartbeats 4000000 in
set_option maxRecDepth 100000 in
/-- count(2) -/
theorem c1_count2 (l : Launch) (dC : Nat → ClassId) (dI : Nat → Nat → Nat) (q qa qb : Nat) (cY cZ : ClassId) (t : Int32) (N : Nat) (D S : Nat → Bool) (h1 : 1 ≤ N) (h2 : N ≤ 16384) (hne : md_ne q qa qb) : Met l yX1_count wsX1_count ({ frames := 1, cells := 0, slots := 0, locals := 40 }) (cb_Pc (dC, dI) [.ref q, .int 2] (md_w q qa qb cY cZ t (nI N) D S) [(cY, .boolean), (cZ, .boolean)]) (va_Qi (fun (r9 : Int32) (_ : Unit) => (md_cnt D S N 2) = r9) (fun _ t9 => va_P (dC, dI) vwCl (md_w q qa qb cY cZ 0 (nI N) D S) t9.heap) (md_A q qa qb)) 0 0 (md_A q qa qb) := by
  refine Met.ofW (cc := cX1_count) (maxL := 2) (ret := (some .int)) (by decide) rfl ?_
  intro p e s m args below meth c s₁ B hml hv
  obtain ⟨rfl, hP, hK⟩ := hv
  have hx := B.exec
  have hb := B.bytes
  have hr := B.returns
  have hts := atoms_spec (ws := wsX1_count) B.pre
  have hown : s.vm.findClass RX1 = some m.cls := findClass_of_methodNamed B.named
  have hlocks := B.notSynchronized
  have hl := lv_entry ([.ref q, .int 2]) (n := 2) (Nat.le_of_ble_eq_true rfl)
  rw [lg_entry_eq]
  generalize (lg_sl ([.ref q, .int 2]) ++ List.replicate (2 - (lg_sl ([.ref q, .int 2])).length) Slot.unset).toArray = ls at hl ⊢
  have hl : lv_has ls 2 [(0, .ref q), (1, .int 2)] := hl
  have hS : va_S (md_A q qa qb) s.heap s.heap [] := va_S.rf
  refine lv_aload_n hx hb dX1_count_0 rfl (lv_at hl 0 rfl) ?_
  refine lv_iload_n hx hb dX1_count_1 rfl (lv_at hl 1 rfl) ?_
  refine lv_if_lt (tgt := 14) hx hb dX1_count_2 (by decide) (fun hc => ?_) (fun hc => ?_)
  · exact absurd hc (by decide)
  · refine lv_iload_n hx hb dX1_count_5 rfl (lv_at hl 1 rfl) ?_
    refine lv_iconst (v := 3) hx hb dX1_count_6 (by decide) ?_
    refine lv_icmp_gt (tgt := 14) hx hb dX1_count_7 (by decide) (fun hd => ?_) (fun hd => ?_)
    · exact absurd hd (by decide)
    · refine lv_iconst (v := 1) hx hb dX1_count_10 (by decide) ?_
      refine lv_goto (tgt := 15) hx hb dX1_count_11 (by decide) ?_
      refine va_calli (va_runV (As := [.int (md_b true)]) (rest := []) ⟨hx, hb, hml, hown, hts⟩ (c1_goes l dC dI q qa qb cY cZ t N D S true hne) (cwV 1 hts gX1_count_X1_goes rfl rfl rfl (by decide +kernel) ⟨Nat.le_of_ble_eq_true rfl, Nat.le_of_ble_eq_true rfl⟩) (md_preV hK hP [.int (md_b true)]) rfl rfl hl.1 rfl (lv_room (Nat.le_of_ble_eq_true rfl)) dX1_count_15 ⟨Nat.zero_le _, Nat.zero_le _⟩) hS (fun q _ h9 => h9) (fun q h9 => h9) (fun r9 u9 t9 H locs ht9 hvm9 hw9 hP9 hz9 hk9 hS => ?_)
      rw [ht9] at hP9
      subst hw9
      have hP : va_P (dC, dI) vwCl (md_w q qa qb cY cZ (md_b (!true)) (nI N) D S) H := hP9
      refine lv_if_ne (tgt := 23) hx hb dX1_count_18 (by decide) (fun he => ?_) (fun he => ?_)
      · refine lv_iload_n hx hb dX1_count_23 rfl (lv_at hl 1 rfl) ?_
        refine lv_if_ne (tgt := 34) hx hb dX1_count_24 (by decide) (fun hf => ?_) (fun hf => ?_)
        · refine lv_iload_n hx hb dX1_count_34 rfl (lv_at hl 1 rfl) ?_
          refine lv_iconst (v := 1) hx hb dX1_count_35 (by decide) ?_
          refine lv_icmp_ne (tgt := 46) hx hb dX1_count_36 (by decide) (fun hg => ?_) (fun hg => ?_)
          · refine lv_aload_n hx hb dX1_count_46 rfl (lv_at hl 0 rfl) ?_
            refine lv_iload_n hx hb dX1_count_47 rfl (lv_at hl 1 rfl) ?_
            refine lv_iconst (v := 1) hx hb dX1_count_48 (by decide) ?_
            refine lv_isub hx hb dX1_count_49 ?_
            refine cl_asi (y := 1) (by decide) ?_
            refine lv_iconst (v := 0) hx hb dX1_count_50 (by decide) ?_
            refine va_calli (va_runV (As := [.int 1, .int (md_b false)]) (rest := []) ⟨hx, hb, hml, hown, hts⟩ (c1_many l dC dI q qa qb cY cZ (md_b (!true)) N D S 1 false true false hne (by decide) (by decide)) (cwV 2 hts gX1_count_X1_many rfl rfl rfl (by decide +kernel) ⟨Nat.le_of_ble_eq_true rfl, Nat.le_of_ble_eq_true rfl⟩) (md_preV hK hP [.int 1, .int (md_b false)]) rfl rfl hl.1 rfl (lv_room (Nat.le_of_ble_eq_true rfl)) dX1_count_51 ⟨Nat.zero_le _, Nat.zero_le _⟩) hS (fun q _ h9 => h9) (fun q h9 => h9) (fun r9 u9 t9 H locs ht9 hvm9 hw9 hP9 hz9 hk9 hS => ?_)
            rw [ht9] at hP9
            subst hw9
            have hP : va_P (dC, dI) vwCl (md_w q qa qb cY cZ (md_b (!true)) (nI N) (md_cl D false 512) (md_cl S false 512)) H := hP9
            exact W.iret (v := nI (md_ct true false D S 512)) hx hb hr (fun t9 ht9 _ => ⟨⟨_, (), rfl, rfl, cl_at ht9 ((by rw [md_cl_f, md_cl_f] at hP; exact hP))⟩, hS.F ht9⟩) hS.2.2 dX1_count_54
          · exact absurd hg (by decide)
        · exact absurd hf (by decide)
      · exact absurd he (by decide)
set_option maxHeartbeats 4000000 in
set_option maxRecDepth 100000 in
/-- count(3) -/
theorem c1_count3 (l : Launch) (dC : Nat → ClassId) (dI : Nat → Nat → Nat) (q qa qb : Nat) (cY cZ : ClassId) (t : Int32) (N : Nat) (D S : Nat → Bool) (h1 : 1 ≤ N) (h2 : N ≤ 16384) (hne : md_ne q qa qb) : Met l yX1_count wsX1_count ({ frames := 1, cells := 0, slots := 0, locals := 40 }) (cb_Pc (dC, dI) [.ref q, .int 3] (md_w q qa qb cY cZ t (nI N) D S) [(cY, .boolean), (cZ, .boolean)]) (va_Qi (fun (r9 : Int32) (_ : Unit) => (md_cnt D S N 3) = r9) (fun _ t9 => va_P (dC, dI) vwCl (md_w q qa qb cY cZ 0 (nI N) D S) t9.heap) (md_A q qa qb)) 0 0 (md_A q qa qb) := by
  refine Met.ofW (cc := cX1_count) (maxL := 2) (ret := (some .int)) (by decide) rfl ?_
  intro p e s m args below meth c s₁ B hml hv
  obtain ⟨rfl, hP, hK⟩ := hv
  have hx := B.exec
  have hb := B.bytes
  have hr := B.returns
  have hts := atoms_spec (ws := wsX1_count) B.pre
  have hown : s.vm.findClass RX1 = some m.cls := findClass_of_methodNamed B.named
  have hlocks := B.notSynchronized
  have hl := lv_entry ([.ref q, .int 3]) (n := 2) (Nat.le_of_ble_eq_true rfl)
  rw [lg_entry_eq]
  generalize (lg_sl ([.ref q, .int 3]) ++ List.replicate (2 - (lg_sl ([.ref q, .int 3])).length) Slot.unset).toArray = ls at hl ⊢
  have hl : lv_has ls 2 [(0, .ref q), (1, .int 3)] := hl
  have hS : va_S (md_A q qa qb) s.heap s.heap [] := va_S.rf
  refine lv_aload_n hx hb dX1_count_0 rfl (lv_at hl 0 rfl) ?_
  refine lv_iload_n hx hb dX1_count_1 rfl (lv_at hl 1 rfl) ?_
  refine lv_if_lt (tgt := 14) hx hb dX1_count_2 (by decide) (fun hc => ?_) (fun hc => ?_)
  · exact absurd hc (by decide)
  · refine lv_iload_n hx hb dX1_count_5 rfl (lv_at hl 1 rfl) ?_
    refine lv_iconst (v := 3) hx hb dX1_count_6 (by decide) ?_
    refine lv_icmp_gt (tgt := 14) hx hb dX1_count_7 (by decide) (fun hd => ?_) (fun hd => ?_)
    · exact absurd hd (by decide)
    · refine lv_iconst (v := 1) hx hb dX1_count_10 (by decide) ?_
      refine lv_goto (tgt := 15) hx hb dX1_count_11 (by decide) ?_
      refine va_calli (va_runV (As := [.int (md_b true)]) (rest := []) ⟨hx, hb, hml, hown, hts⟩ (c1_goes l dC dI q qa qb cY cZ t N D S true hne) (cwV 1 hts gX1_count_X1_goes rfl rfl rfl (by decide +kernel) ⟨Nat.le_of_ble_eq_true rfl, Nat.le_of_ble_eq_true rfl⟩) (md_preV hK hP [.int (md_b true)]) rfl rfl hl.1 rfl (lv_room (Nat.le_of_ble_eq_true rfl)) dX1_count_15 ⟨Nat.zero_le _, Nat.zero_le _⟩) hS (fun q _ h9 => h9) (fun q h9 => h9) (fun r9 u9 t9 H locs ht9 hvm9 hw9 hP9 hz9 hk9 hS => ?_)
      rw [ht9] at hP9
      subst hw9
      have hP : va_P (dC, dI) vwCl (md_w q qa qb cY cZ (md_b (!true)) (nI N) D S) H := hP9
      refine lv_if_ne (tgt := 23) hx hb dX1_count_18 (by decide) (fun he => ?_) (fun he => ?_)
      · refine lv_iload_n hx hb dX1_count_23 rfl (lv_at hl 1 rfl) ?_
        refine lv_if_ne (tgt := 34) hx hb dX1_count_24 (by decide) (fun hf => ?_) (fun hf => ?_)
        · refine lv_iload_n hx hb dX1_count_34 rfl (lv_at hl 1 rfl) ?_
          refine lv_iconst (v := 1) hx hb dX1_count_35 (by decide) ?_
          refine lv_icmp_ne (tgt := 46) hx hb dX1_count_36 (by decide) (fun hg => ?_) (fun hg => ?_)
          · refine lv_aload_n hx hb dX1_count_46 rfl (lv_at hl 0 rfl) ?_
            refine lv_iload_n hx hb dX1_count_47 rfl (lv_at hl 1 rfl) ?_
            refine lv_iconst (v := 1) hx hb dX1_count_48 (by decide) ?_
            refine lv_isub hx hb dX1_count_49 ?_
            refine cl_asi (y := 2) (by decide) ?_
            refine lv_iconst (v := 0) hx hb dX1_count_50 (by decide) ?_
            refine va_calli (va_runV (As := [.int 2, .int (md_b false)]) (rest := []) ⟨hx, hb, hml, hown, hts⟩ (c1_many l dC dI q qa qb cY cZ (md_b (!true)) N D S 2 false false true hne (by decide) (by decide)) (cwV 2 hts gX1_count_X1_many rfl rfl rfl (by decide +kernel) ⟨Nat.le_of_ble_eq_true rfl, Nat.le_of_ble_eq_true rfl⟩) (md_preV hK hP [.int 2, .int (md_b false)]) rfl rfl hl.1 rfl (lv_room (Nat.le_of_ble_eq_true rfl)) dX1_count_51 ⟨Nat.zero_le _, Nat.zero_le _⟩) hS (fun q _ h9 => h9) (fun q h9 => h9) (fun r9 u9 t9 H locs ht9 hvm9 hw9 hP9 hz9 hk9 hS => ?_)
            rw [ht9] at hP9
            subst hw9
            have hP : va_P (dC, dI) vwCl (md_w q qa qb cY cZ (md_b (!true)) (nI N) (md_cl D false 512) (md_cl S false 512)) H := hP9
            exact W.iret (v := nI (md_ct false true D S 512)) hx hb hr (fun t9 ht9 _ => ⟨⟨_, (), rfl, rfl, cl_at ht9 ((by rw [md_cl_f, md_cl_f] at hP; exact hP))⟩, hS.F ht9⟩) hS.2.2 dX1_count_54
          · exact absurd hg (by decide)
        · exact absurd hf (by decide)
      · exact absurd he (by decide)
set_option maxHeartbeats 4000000 in
set_option maxRecDepth 100000 in
/-- count(x), x is none of 0 .. 3 -/
theorem e1_count (l : Launch) (dC : Nat → ClassId) (dI : Nat → Nat → Nat) (q qa qb : Nat) (cY cZ : ClassId) (t : Int32) (N : Nat) (D S : Nat → Bool) (x : Int32) (hbad : x < 0 ∨ ¬ x ≤ 3) (hne : md_ne q qa qb) : Met l yX1_count wsX1_count ({ frames := 1, cells := 0, slots := 0, locals := 40 }) (cb_Pc (dC, dI) [.ref q, .int x] (md_w q qa qb cY cZ t (nI N) D S) [(cY, .boolean), (cZ, .boolean)]) (va_Qi (fun (r9 : Int32) (_ : Unit) => (0 : Int32) = r9) (fun _ t9 => va_P (dC, dI) vwCl (md_w q qa qb cY cZ 1 (nI N) D S) t9.heap) (md_A q qa qb)) 0 0 (md_A q qa qb) := by
  refine Met.ofW (cc := cX1_count) (maxL := 2) (ret := (some .int)) (by decide) rfl ?_
  intro p e s m args below meth c s₁ B hml hv
  obtain ⟨rfl, hP, hK⟩ := hv
  have hx := B.exec
  have hb := B.bytes
  have hr := B.returns
  have hts := atoms_spec (ws := wsX1_count) B.pre
  have hown : s.vm.findClass RX1 = some m.cls := findClass_of_methodNamed B.named
  have hlocks := B.notSynchronized
  have hl := lv_entry ([.ref q, .int x]) (n := 2) (Nat.le_of_ble_eq_true rfl)
  rw [lg_entry_eq]
  generalize (lg_sl ([.ref q, .int x]) ++ List.replicate (2 - (lg_sl ([.ref q, .int x])).length) Slot.unset).toArray = ls at hl ⊢
  have hl : lv_has ls 2 [(0, .ref q), (1, .int x)] := hl
  have hS : va_S (md_A q qa qb) s.heap s.heap [] := va_S.rf
  refine lv_aload_n hx hb dX1_count_0 rfl (lv_at hl 0 rfl) ?_
  refine lv_iload_n hx hb dX1_count_1 rfl (lv_at hl 1 rfl) ?_
  refine lv_if_lt (tgt := 14) hx hb dX1_count_2 (by decide) (fun hc => ?_) (fun hc => ?_)
  · refine lv_iconst (v := 0) hx hb dX1_count_14 (by decide) ?_
    refine va_calli (va_runV (As := [.int (md_b false)]) (rest := []) ⟨hx, hb, hml, hown, hts⟩ (c1_goes l dC dI q qa qb cY cZ t N D S false hne) (cwV 1 hts gX1_count_X1_goes rfl rfl rfl (by decide +kernel) ⟨Nat.le_of_ble_eq_true rfl, Nat.le_of_ble_eq_true rfl⟩) (md_preV hK hP [.int (md_b false)]) rfl rfl hl.1 rfl (lv_room (Nat.le_of_ble_eq_true rfl)) dX1_count_15 ⟨Nat.zero_le _, Nat.zero_le _⟩) hS (fun q _ h9 => h9) (fun q h9 => h9) (fun r9 u9 t9 H locs ht9 hvm9 hw9 hP9 hz9 hk9 hS => ?_)
    rw [ht9] at hP9
    subst hw9
    have hP : va_P (dC, dI) vwCl (md_w q qa qb cY cZ (md_b (!false)) (nI N) D S) H := hP9
    refine lv_if_ne (tgt := 23) hx hb dX1_count_18 (by decide) (fun hu => ?_) (fun hu => ?_)
    · exact absurd (show md_b false = 0 by decide) hu
    · refine lv_iconst (v := 0) hx hb dX1_count_21 (by decide) ?_
      exact W.iret (v := 0) hx hb hr (fun t9 ht9 _ => ⟨⟨_, (), rfl, rfl, cl_at ht9 (hP)⟩, hS.F ht9⟩) hS.2.2 dX1_count_22
  · refine lv_iload_n hx hb dX1_count_5 rfl (lv_at hl 1 rfl) ?_
    refine lv_iconst (v := 3) hx hb dX1_count_6 (by decide) ?_
    refine lv_icmp_gt (tgt := 14) hx hb dX1_count_7 (by decide) (fun hd => ?_) (fun hd => ?_)
    · refine lv_iconst (v := 0) hx hb dX1_count_14 (by decide) ?_
      refine va_calli (va_runV (As := [.int (md_b false)]) (rest := []) ⟨hx, hb, hml, hown, hts⟩ (c1_goes l dC dI q qa qb cY cZ t N D S false hne) (cwV 1 hts gX1_count_X1_goes rfl rfl rfl (by decide +kernel) ⟨Nat.le_of_ble_eq_true rfl, Nat.le_of_ble_eq_true rfl⟩) (md_preV hK hP [.int (md_b false)]) rfl rfl hl.1 rfl (lv_room (Nat.le_of_ble_eq_true rfl)) dX1_count_15 ⟨Nat.zero_le _, Nat.zero_le _⟩) hS (fun q _ h9 => h9) (fun q h9 => h9) (fun r9 u9 t9 H locs ht9 hvm9 hw9 hP9 hz9 hk9 hS => ?_)
      rw [ht9] at hP9
      subst hw9
      have hP : va_P (dC, dI) vwCl (md_w q qa qb cY cZ (md_b (!false)) (nI N) D S) H := hP9
      refine lv_if_ne (tgt := 23) hx hb dX1_count_18 (by decide) (fun hu => ?_) (fun hu => ?_)
      · exact absurd (show md_b false = 0 by decide) hu
      · refine lv_iconst (v := 0) hx hb dX1_count_21 (by decide) ?_
        exact W.iret (v := 0) hx hb hr (fun t9 ht9 _ => ⟨⟨_, (), rfl, rfl, cl_at ht9 (hP)⟩, hS.F ht9⟩) hS.2.2 dX1_count_22
    · exact absurd (Int32.not_lt.mp hd) (hbad.resolve_left hc)
end
section
/-! The class's marks and the reference's two rows say the same. -/
def pm_ (d s : Bool) : Int32 := (if d then (1 : Int32) else 0) + (if s then (2 : Int32) else 0)
def pf_ (D S : Nat → Bool) : Nat → Int32 := fun c => pm_ (D c) (S c)
/-- behind the last card nothing is marked -/
def pz_ (N : Nat) (D S : Nat → Bool) : Prop := ∀ c, cb_cc N ≤ c → D c = false ∧ S c = false
theorem pm_1 (d s : Bool) : (pm_ d s &&& 1 = 0) ↔ d = false := by cases d <;> cases s <;> decide
theorem pm_2 (d s : Bool) : (pm_ d s &&& 2 = 0) ↔ s = false := by cases d <;> cases s <;> decide
theorem pm_3 (d s : Bool) : (pm_ d s &&& 3 = 0) ↔ (d || s) = false := by cases d <;> cases s <;> decide
theorem pm_o1 (d s : Bool) : pm_ d s ||| 1 = pm_ true s := by cases d <;> cases s <;> decide
theorem pm_o2 (d s : Bool) : pm_ d s ||| 2 = pm_ d true := by cases d <;> cases s <;> decide
theorem pm_a1 (d s : Bool) : pm_ d s &&& (1 ^^^ (-1)) = pm_ false s := by cases d <;> cases s <;> decide
theorem pm_a2 (d s : Bool) : pm_ d s &&& (2 ^^^ (-1)) = pm_ d false := by cases d <;> cases s <;> decide
theorem pu_upd {D S : Nat → Bool} {k : Nat} (d s : Bool) : upd (pf_ D S) k (pm_ d s) = pf_ (md_u D k d) (md_u S k s) := by
  funext c
  unfold upd pf_ md_u
  by_cases h : c = k
  · rw [if_pos h, if_pos h, if_pos h]
  · rw [if_neg h, if_neg h, if_neg h]
theorem pu_write (D S : Nat → Bool) (k : Nat) : upd (pf_ D S) k (pf_ D S k ||| 1) = pf_ (md_u D k true) S := by
  have h : pf_ D S k ||| 1 = pm_ true (S k) := pm_o1 _ _
  rw [h, pu_upd, md_u_self]
theorem pu_unsave (D S : Nat → Bool) (k : Nat) : upd (pf_ D S) k (pf_ D S k &&& (2 ^^^ (-1))) = pf_ D (md_u S k false) := by
  have h : pf_ D S k &&& (2 ^^^ (-1)) = pm_ (D k) false := pm_a2 _ _
  rw [h, pu_upd, md_u_self]
theorem pu_clean (D S : Nat → Bool) (k : Nat) (b : Bool) : cb_cl (pf_ D S) k (md_b b) = pf_ (md_u D k false) (md_u S k (S k || (D k && b))) := by
  have h0 : pf_ D S k &&& (1 ^^^ (-1)) = pm_ false (S k) := pm_a1 _ _
  unfold cb_cl
  rw [h0]
  by_cases hd : pf_ D S k &&& 1 = 0 ∨ md_b b = 0
  · rw [if_pos hd, pu_upd]
    have h1 : (S k || (D k && b)) = S k := by
      rcases hd with hd | hd
      · have h2 : D k = false := (pm_1 _ _).mp hd
        rw [h2]
        simp
      · rw [md_b0 hd]
        simp
    rw [h1]
  · rw [if_neg hd, pm_o2, pu_upd]
    have h1 : (S k || (D k && b)) = true := by
      have h2 : D k = true := by
        cases h3 : D k
        · exact absurd (Or.inl ((pm_1 (D k) (S k)).mpr h3)) hd
        · rfl
      have h4 : b = true := md_b1 (fun h5 => hd (Or.inr h5))
      rw [h2, h4]
      simp
    rw [h1]
theorem pu_cover {D S : Nat → Bool} {j la M : Nat} (h : la < M) : cb_cov (pf_ D S) j (la + 1) = pf_ D (md_cv S j la M) := by
  funext c
  show (if j ≤ c ∧ c < la + 1 then pf_ D S c ||| 2 else pf_ D S c) = pm_ (D c) (md_cv S j la M c)
  by_cases h1 : j ≤ c ∧ c < la + 1
  · rw [if_pos h1]
    have h2 : md_cv S j la M c = true := by
      have a1 : c ≤ la := by omega
      have a2 : c < M := by omega
      simp [md_cv, h1.1, a1, a2]
    rw [h2]
    exact pm_o2 _ _
  · rw [if_neg h1]
    have h2 : md_cv S j la M c = S c := by
      by_cases a1 : j ≤ c
      · have a2 : ¬ c ≤ la := by omega
        simp [md_cv, a2]
      · simp [md_cv, a1]
    rw [h2]
    rfl
theorem pu_gone {N : Nat} {D S : Nat → Bool} (h2 : N ≤ 16384) (hz : pz_ N D S) : md_cl D true 512 = (fun _ => false) ∧ md_cl S true 512 = (fun _ => false) := by
  have hc := cb_cc_le h2
  constructor
  · funext c
    by_cases h : c < 512
    · simp [md_cl, h]
    · have := (hz c (by omega)).1
      simp [md_cl, this]
  · funext c
    by_cases h : c < 512
    · simp [md_cl, h]
    · have := (hz c (by omega)).2
      simp [md_cl, this]
theorem pu_clr {N : Nat} {D S : Nat → Bool} (h2 : N ≤ 16384) (hz : pz_ N D S) : cb_clr (pf_ D S) (cb_cc N) = pf_ (md_cl D true 512) (md_cl S true 512) := by
  obtain ⟨e1, e2⟩ := pu_gone h2 hz
  rw [e1, e2]
  funext c
  show (if c < cb_cc N then 0 else pf_ D S c) = pm_ false false
  by_cases h : c < cb_cc N
  · rw [if_pos h]
    decide
  · rw [if_neg h]
    obtain ⟨a1, a2⟩ := hz c (by omega)
    show pm_ (D c) (S c) = _
    rw [a1, a2]
theorem pz_gone {N n : Nat} {D S : Nat → Bool} (h2 : N ≤ 16384) (hz : pz_ N D S) : pz_ n (md_cl D true 512) (md_cl S true 512) := by
  obtain ⟨e1, e2⟩ := pu_gone h2 hz
  rw [e1, e2]
  exact fun _ _ => ⟨rfl, rfl⟩
theorem pz_u {N : Nat} {D S : Nat → Bool} {k : Nat} {d s : Bool} (hz : pz_ N D S) (hk : k < cb_cc N) : pz_ N (md_u D k d) (md_u S k s) := by
  intro c hc
  have h : ¬ c = k := by omega
  unfold md_u
  rw [if_neg h, if_neg h]
  exact hz c hc
theorem pz_d {N : Nat} {D S : Nat → Bool} {k : Nat} {d : Bool} (hz : pz_ N D S) (hk : k < cb_cc N) : pz_ N (md_u D k d) S := by
  have h := pz_u (d := d) (s := S k) hz hk
  rw [md_u_self] at h
  exact h
theorem pz_s {N : Nat} {D S : Nat → Bool} {k : Nat} {s : Bool} (hz : pz_ N D S) (hk : k < cb_cc N) : pz_ N D (md_u S k s) := by
  have h := pz_u (d := D k) (s := s) hz hk
  rw [md_u_self] at h
  exact h
theorem pz_cv {N : Nat} {D S : Nat → Bool} {j la : Nat} (hz : pz_ N D S) : pz_ N D (md_cv S j la (cb_cc N)) := by
  intro c hc
  obtain ⟨a1, a2⟩ := hz c hc
  have h : ¬ c < cb_cc N := by omega
  exact ⟨a1, by simp [md_cv, a2, h]⟩
theorem pu_ct {f : Nat → Int32} {v : Int32} {a b : Bool} {D S : Nat → Bool} (h : ∀ c, f c &&& v = 0 ↔ (a && D c || b && S c) = false) : ∀ i, cb_ct f v i = md_ct a b D S i := by
  intro i
  induction i with
  | zero => rfl
  | succ i ih =>
    by_cases h1 : f i &&& v = 0
    · rw [cb_ct_0 h1, md_ct_0 ((h i).mp h1), ih]
    · rw [cb_ct_1 h1, md_ct_1 (by
        cases h2 : (a && D i || b && S i)
        · exact absurd ((h i).mpr h2) h1
        · rfl), ih]
theorem pu_out {a b : Bool} {D S : Nat → Bool} {M : Nat} (hz : ∀ c, M ≤ c → D c = false ∧ S c = false) : ∀ k, md_ct a b D S (M + k) = md_ct a b D S M := by
  intro k
  induction k with
  | zero => rfl
  | succ k ih =>
    obtain ⟨a1, a2⟩ := hz (M + k) (by omega)
    rw [show M + (k + 1) = (M + k) + 1 by omega, md_ct_0 (by rw [a1, a2, Bool.and_false, Bool.and_false]; rfl), ih]
theorem pu_cnt {f : Nat → Int32} {v : Int32} {a b : Bool} {N : Nat} {D S : Nat → Bool} (h2 : N ≤ 16384) (hz : pz_ N D S) (h : ∀ c, f c &&& v = 0 ↔ (a && D c || b && S c) = false) : cb_ct f v (cb_cc N) = md_ct a b D S 512 := by
  have hc := cb_cc_le h2
  have h9 := pu_out (a := a) (b := b) hz (512 - cb_cc N)
  rw [show cb_cc N + (512 - cb_cc N) = 512 by omega] at h9
  rw [pu_ct h, h9]
theorem pu_c3 {N : Nat} {D S : Nat → Bool} (h2 : N ≤ 16384) (hz : pz_ N D S) : cb_ct (pf_ D S) 3 (cb_cc N) = md_ct true true D S 512 := pu_cnt h2 hz (fun c => by
  rw [Bool.true_and, Bool.true_and]
  exact pm_3 _ _)
theorem pu_c1 {N : Nat} {D S : Nat → Bool} (h2 : N ≤ 16384) (hz : pz_ N D S) : cb_ct (pf_ D S) 1 (cb_cc N) = md_ct true false D S 512 := pu_cnt h2 hz (fun c => by
  rw [Bool.true_and, Bool.false_and, Bool.or_false]
  exact pm_1 _ _)
theorem pu_c2 {N : Nat} {D S : Nat → Bool} (h2 : N ≤ 16384) (hz : pz_ N D S) : cb_ct (pf_ D S) 2 (cb_cc N) = md_ct false true D S 512 := pu_cnt h2 hz (fun c => by
  rw [Bool.true_and, Bool.false_and, Bool.false_or]
  exact pm_2 _ _)
theorem pu_count {N q : Nat} {D S : Nat → Bool} (h2 : N ≤ 16384) (hz : pz_ N D S) : cb_cnt (pf_ D S) N q = md_cnt D S N q := by
  match q with
  | 0 => rfl
  | 1 => rfl
  | 2 =>
    show nI (cb_ct (pf_ D S) 1 (cb_cc N)) = nI (md_ct true false D S 512)
    rw [pu_c1 h2 hz]
  | q + 3 =>
    show nI (cb_ct (pf_ D S) 2 (cb_cc N)) = nI (md_ct false true D S 512)
    rw [pu_c2 h2 hz]
theorem pu_fst {f : Nat → Int32} {v : Int32} {D : Nat → Bool} {M j : Nat} (hM : M ≤ 512) (h : ∀ c, f c &&& v = 0 ↔ D c = false) (hz : ∀ c, M ≤ c → D c = false) : ∀ (n i : Nat), 512 ≤ i + n → j ≤ i → i ≤ 512 → md_fw D j i = cb_fw f v i M := by
  intro n
  induction n with
  | zero =>
    intro i h1 h2 h3
    have h4 : i = 512 := by omega
    subst h4
    rw [md_fw_e, cb_fw_out hM]
  | succ n ih =>
    intro i h1 h2 h3
    by_cases h4 : i = 512
    · subst h4
      rw [md_fw_e, cb_fw_out hM]
    · have h5 : i < 512 := by omega
      cases hd : D i
      · rw [md_fw_0 h5 (by rw [hd]; exact fun h9 => Bool.false_ne_true h9.2), ih (i + 1) (by omega) (by omega) (by omega)]
        by_cases h6 : i < M
        · rw [cb_fw_0 h6 ((h i).mpr hd)]
        · rw [cb_fw_out (show M ≤ i by omega), cb_fw_out (show M ≤ i + 1 by omega)]
      · have h6 : i < M := by
          rcases Nat.lt_or_ge i M with q | q
          · exact q
          · rw [hz i q] at hd
            exact absurd hd Bool.false_ne_true
        rw [md_fw_1 h5 h2 hd, cb_fw_1 h6 (fun h9 => by rw [(h i).mp h9] at hd; exact absurd hd Bool.false_ne_true)]
theorem pu_skip {D : Nat → Bool} {j : Nat} : ∀ i, i ≤ j → i ≤ 512 → md_fw D j 0 = md_fw D j i := by
  intro i
  induction i with
  | zero => intro _ _; rfl
  | succ i ih =>
    intro h1 h2
    rw [ih (by omega) (by omega), md_fw_0 (by omega) (fun h9 => by omega)]
theorem pu_first {f : Nat → Int32} {v : Int32} {D : Nat → Bool} {M j : Nat} (hM : M ≤ 512) (h : ∀ c, f c &&& v = 0 ↔ D c = false) (hz : ∀ c, M ≤ c → D c = false) : cb_fw f v j M = md_fw D j 0 := by
  rcases Nat.lt_or_ge 512 j with q | q
  · rw [pu_skip 512 (by omega) (Nat.le_refl _), md_fw_e, cb_fw_out (by omega)]
  · rw [pu_skip j (Nat.le_refl _) q, pu_fst hM h hz 512 j (by omega) (Nat.le_refl _) q]
theorem pu_f1 {N j : Nat} {D S : Nat → Bool} (h2 : N ≤ 16384) (hz : pz_ N D S) : cb_fw (pf_ D S) 1 j (cb_cc N) = md_fw D j 0 := pu_first (cb_cc_le h2) (fun c => pm_1 _ _) (fun c hc => (hz c hc).1)
theorem pu_f2 {N j : Nat} {D S : Nat → Bool} (h2 : N ≤ 16384) (hz : pz_ N D S) : cb_fw (pf_ D S) 2 j (cb_cc N) = md_fw S j 0 := pu_first (cb_cc_le h2) (fun c => pm_2 _ _) (fun c hc => (hz c hc).2)
theorem pu_len {k z N : Nat} (hz : 1 ≤ z) (hk : k + z ≤ N) : md_n (k / 32) ((k + z - 1) / 32) (cb_cc N) = (k + z - 1) / 32 - k / 32 + 1 := by
  unfold md_n cb_cc
  have h1 : k / 32 ≤ (k + z - 1) / 32 := Nat.div_le_div_right (by omega)
  have h2 : (k + z - 1) / 32 ≤ (N - 1) / 32 := Nat.div_le_div_right (by omega)
  omega
theorem pu_r1 (D S : Nat → Bool) (k : Nat) : (if pf_ D S k &&& 1 = 0 then (0 : Int32) else 1) = md_b (D k) := by
  have h := pm_1 (D k) (S k)
  show (if pm_ (D k) (S k) &&& 1 = 0 then (0 : Int32) else 1) = md_b (D k)
  by_cases h1 : pm_ (D k) (S k) &&& 1 = 0
  · rw [if_pos h1, h.mp h1]; rfl
  · rw [if_neg h1]
    cases hd : D k
    · exact absurd (h.mpr hd) h1
    · rfl
theorem pu_r2 (D S : Nat → Bool) (k : Nat) : (if pf_ D S k &&& 2 = 0 then (0 : Int32) else 1) = md_b (S k) := by
  have h := pm_2 (D k) (S k)
  show (if pm_ (D k) (S k) &&& 2 = 0 then (0 : Int32) else 1) = md_b (S k)
  by_cases h1 : pm_ (D k) (S k) &&& 2 = 0
  · rw [if_pos h1, h.mp h1]; rfl
  · rw [if_neg h1]
    cases hd : S k
    · exact absurd (h.mpr hd) h1
    · rfl
end
section
/-! The constructors. -/
def ci_A (h sz : Nat) : Nat → Prop := fun q => q = h ∨ sz ≤ q
theorem ci_D {h sz : Nat} {x : va_E} : va_D (ci_A h sz) [(h, x)] := by
  refine ⟨fun i j p q hi hj _ => ?_, fun k q hk => ?_⟩
  · match i, j, hi, hj with
    | 0, 0, _, _ => rfl
    | i + 1, _, hi, _ => cases hi
    | _, j + 1, _, hj => cases hj
  · match k, hk with
    | 0, hk => cases hk; exact Or.inl rfl
    | k + 1, hk => cases hk
theorem ci_new {h sz q : Nat} {ws : va_W} {k : Nat} {x y : va_E} (hD : va_D (ci_A h sz) ws) (h0 : ws[0]? = some (h, x)) (hk : ws[k + 1]? = some (q, y)) : sz ≤ q := by
  rcases hD.2 (k + 1) _ hk with h9 | h9
  · have h8 : q = h := h9
    subst h8
    have := hD.1 0 (k + 1) _ _ h0 hk rfl
    omega
  · exact h9
set_option maxHeartbeats 400000 in
set_option maxRecDepth 100000 in
/-- CardBook() -/
theorem c_init (l : Launch) (dC : Nat → ClassId) (dI : Nat → Nat → Nat) (h sz : Nat) : Met l yX0_init wsX0_init ({ frames := 1, cells := 1, slots := 512, locals := 12 }) (va_Pc [.ref h] (fun U => U.heap.size = sz ∧ va_P (dC, dI) vwCl [(h, .inr (0, [.null, .int 0]))] U.heap ∧ va_K (dC, dI) vwCl [] U)) (va_Qv (fun (u : Nat × ClassId) => sz ≤ u.1) (fun u t => va_P (dC, dI) vwCl (cb_w h u.1 u.2 (nI 1024) (fun _ => 0)) t.heap ∧ va_K (dC, dI) vwCl [(u.2, .int)] t) (ci_A h sz)) 1 512 (ci_A h sz) := by
  refine Met.ofW (cc := cX0_init) (maxL := 1) (ret := none) (by decide) rfl ?_
  intro p e s m args below meth c s₁ B hml hv
  obtain ⟨rfl, hsz, hP, hK⟩ := hv
  have hx := B.exec
  have hb := B.bytes
  have hr := B.returns
  have hts := atoms_spec (ws := wsX0_init) B.pre
  have hown : s.vm.findClass RX0 = some m.cls := findClass_of_methodNamed B.named
  have hlocks := B.notSynchronized
  have hin : meth.name = "<init>" := (name_of_methodNamed B.named B.method).1
  subst hsz
  have hA : ∀ q : Nat, s.heap.size ≤ q → ci_A h s.heap.size q := fun q h9 => Or.inr h9
  have hD := ci_D (h := h) (sz := s.heap.size) (x := .inr (0, [.null, .int 0]))
  have hS : va_S (ci_A h s.heap.size) s.heap s.heap [] := va_S.rf
  have hl := lv_entry ([.ref h]) (n := 1) (Nat.le_of_ble_eq_true rfl)
  rw [lg_entry_eq]
  generalize (lg_sl ([.ref h]) ++ List.replicate (1 - (lg_sl ([.ref h])).length) Slot.unset).toArray = ls at hl ⊢
  have hl : lv_has ls 1 [(0, .ref h)] := hl
  refine lv_aload_n hx hb dX0_init_0 rfl (lv_at hl 0 rfl) ?_
  refine W.objInit hx hb hown (hts (.methodLink RX0 3 objectInit) (by decide +kernel)) (hts (.instanceMethod objectInit) (by decide +kernel)) (hts _ (List.mem_cons_of_mem _ (List.mem_append_left _ (List.mem_of_getElem? (i := 2) rfl)))) rfl (by rw [hml]; exact hl.1) rfl dX0_init_1 (Nat.le_of_ble_eq_true rfl) (Nat.le_of_ble_eq_true rfl) ?_
  refine W.eq (g2 := F0 m 4 ls []) rfl ?_
  refine lv_aload_n hx hb dX0_init_4 rfl (lv_at hl 0 rfl) ?_
  refine lv_sipush (v := 512) hx hb dX0_init_5 (by decide +kernel) ?_
  refine va_newa (atype := .int) (n := 512) (ty := .int) (N' := 512) (a0 := (512, .inl (fun _ => 0))) hx hb (hts (.arrayClass .int) (by decide +kernel)) rfl hK hP hD hS hA (fun _ => rfl) (by decide +kernel) (by decide +kernel) (by decide +kernel) (Nat.le_of_ble_eq_true rfl) (Nat.le_of_ble_eq_true rfl) dX0_init_8 (fun a cI H hK hP hD hS => ?_)
  have hP : va_P (dC, dI) vwCl [(h, .inr (0, [.null, .int 0])), (a, .inl (cI, 512, .inl (fun _ => 0)))] H := hP
  have hD : va_D (ci_A h s.heap.size) [(h, .inr (0, [.null, .int 0])), (a, .inl (cI, 512, .inl (fun _ => 0)))] := hD
  have hK : va_K (dC, dI) vwCl [(cI, .int)] s := hK
  have ha : s.heap.size ≤ a := ci_new hD rfl (k := 0) rfl
  refine va_putF (D := (dC, dI)) (ci := 0) (v := .ref a) (ty := .array .int) (C := RX0) (T := TX0) (N := 2) hx hb hts (by decide +kernel) tyX0 tyX0_ok nmX0 hown hK hP hD hS 0 rfl rfl 0 (by decide) (hts (.fieldLink RX0 9 "CardBook" "marks" "[I") (by decide +kernel)) (fun _ h9 => h9) rfl hin rfl (by decide +kernel) rfl rfl (Nat.le_of_ble_eq_true rfl) dX0_init_10 (fun H locs hP hD hS => ?_)
  have hP : va_P (dC, dI) vwCl [(h, .inr (0, [.ref a, .int 0])), (a, .inl (cI, 512, .inl (fun _ => 0)))] H := hP
  have hD : va_D (ci_A h s.heap.size) [(h, .inr (0, [.ref a, .int 0])), (a, .inl (cI, 512, .inl (fun _ => 0)))] := hD
  refine lv_aload_n hx hb dX0_init_13 rfl (lv_at hl 0 rfl) ?_
  refine lv_sipush (v := 1024) hx hb dX0_init_14 (by decide) ?_
  refine va_put (D := (dC, dI)) (ci := 0) (v := .int 1024) (ty := .int) (C := RX0) (T := TX0) (N := 2) hx hb hts (by decide +kernel) tyX0 tyX0_ok nmX0 hown hK hP hD hS 0 rfl rfl 1 (by decide) (hts (.fieldLink RX0 13 "CardBook" "cells" "I") (by decide +kernel)) (fun _ h9 => h9) rfl (by decide +kernel) rfl rfl (Nat.le_of_ble_eq_true rfl) dX0_init_17 (fun H locs hP hD hS => ?_)
  have hP : va_P (dC, dI) vwCl (cb_w h a cI (nI 1024) (fun _ => 0)) H := hP
  exact W.vret hx hb hr (fun t9 ht9 hW9 => ⟨⟨(a, cI), rfl, ha, cl_at ht9 hP, va_K.moved hW9.alike hK⟩, hS.F ht9⟩) hS.2.2 dX0_init_20
set_option maxHeartbeats 400000 in
set_option maxRecDepth 100000 in
/-- CardBookModel() -/
theorem c1_init (l : Launch) (dC : Nat → ClassId) (dI : Nat → Nat → Nat) (h sz : Nat) : Met l yX1_init wsX1_init ({ frames := 1, cells := 2, slots := 1024, locals := 12 }) (va_Pc [.ref h] (fun U => U.heap.size = sz ∧ va_P (dC, dI) vwCl [(h, .inr (1, [.int 0, .int 0, .null, .null]))] U.heap ∧ va_K (dC, dI) vwCl [] U)) (va_Qv (fun (u : Nat × Nat × ClassId × ClassId) => sz ≤ u.1 ∧ sz ≤ u.2.1 ∧ u.1 ≠ u.2.1) (fun u t => va_P (dC, dI) vwCl (md_w h u.1 u.2.1 u.2.2.1 u.2.2.2 0 (nI 1024) (fun _ => false) (fun _ => false)) t.heap ∧ va_K (dC, dI) vwCl [(u.2.2.1, .boolean), (u.2.2.2, .boolean)] t) (ci_A h sz)) 2 1024 (ci_A h sz) := by
  refine Met.ofW (cc := cX1_init) (maxL := 1) (ret := none) (by decide) rfl ?_
  intro p e s m args below meth c s₁ B hml hv
  obtain ⟨rfl, hsz, hP, hK⟩ := hv
  have hx := B.exec
  have hb := B.bytes
  have hr := B.returns
  have hts := atoms_spec (ws := wsX1_init) B.pre
  have hown : s.vm.findClass RX1 = some m.cls := findClass_of_methodNamed B.named
  have hlocks := B.notSynchronized
  have hin : meth.name = "<init>" := (name_of_methodNamed B.named B.method).1
  subst hsz
  have hA : ∀ q : Nat, s.heap.size ≤ q → ci_A h s.heap.size q := fun q h9 => Or.inr h9
  have hD := ci_D (h := h) (sz := s.heap.size) (x := .inr (1, [.int 0, .int 0, .null, .null]))
  have hS : va_S (ci_A h s.heap.size) s.heap s.heap [] := va_S.rf
  have hl := lv_entry ([.ref h]) (n := 1) (Nat.le_of_ble_eq_true rfl)
  rw [lg_entry_eq]
  generalize (lg_sl ([.ref h]) ++ List.replicate (1 - (lg_sl ([.ref h])).length) Slot.unset).toArray = ls at hl ⊢
  have hl : lv_has ls 1 [(0, .ref h)] := hl
  refine lv_aload_n hx hb dX1_init_0 rfl (lv_at hl 0 rfl) ?_
  refine W.objInit hx hb hown (hts (.methodLink RX1 1 objectInit) (by decide +kernel)) (hts (.instanceMethod objectInit) (by decide +kernel)) (hts _ (List.mem_cons_of_mem _ (List.mem_append_left _ (List.mem_of_getElem? (i := 2) rfl)))) rfl (by rw [hml]; exact hl.1) rfl dX1_init_1 (Nat.le_of_ble_eq_true rfl) (Nat.le_of_ble_eq_true rfl) ?_
  refine W.eq (g2 := F0 m 4 ls []) rfl ?_
  refine lv_aload_n hx hb dX1_init_4 rfl (lv_at hl 0 rfl) ?_
  refine lv_sipush (v := 1024) hx hb dX1_init_5 (by decide) ?_
  refine va_put (D := (dC, dI)) (ci := 1) (v := .int 1024) (ty := .int) (C := RX1) (T := TX1) (N := 4) hx hb hts (by decide +kernel) tyX1 tyX1_ok nmX1 hown hK hP hD hS 0 rfl rfl 1 (by decide) (hts (.fieldLink RX1 7 "CardBookModel" "cells" "I") (by decide +kernel)) (fun _ h9 => h9) rfl (by decide +kernel) rfl rfl (Nat.le_of_ble_eq_true rfl) dX1_init_8 (fun H locs hP hD hS => ?_)
  have hP : va_P (dC, dI) vwCl [(h, .inr (1, [.int 0, .int 1024, .null, .null]))] H := hP
  have hD : va_D (ci_A h s.heap.size) [(h, .inr (1, [.int 0, .int 1024, .null, .null]))] := hD
  refine lv_aload_n hx hb dX1_init_11 rfl (lv_at hl 0 rfl) ?_
  refine lv_sipush (v := 512) hx hb dX1_init_12 (by decide) ?_
  refine va_newa (atype := .boolean) (n := 512) (ty := .boolean) (N' := 512) (a0 := (512, .inl (fun _ => 0))) hx hb (hts (.arrayClass .boolean) (by decide +kernel)) rfl hK hP hD hS hA (fun _ => rfl) (by decide +kernel) (by decide +kernel) (by decide +kernel) (Nat.le_of_ble_eq_true rfl) (Nat.le_of_ble_eq_true rfl) dX1_init_15 (fun a cY H hK hP hD hS => ?_)
  have hP : va_P (dC, dI) vwCl [(h, .inr (1, [.int 0, .int 1024, .null, .null])), (a, .inl (cY, 512, .inl (fun _ => 0)))] H := hP
  have hD : va_D (ci_A h s.heap.size) [(h, .inr (1, [.int 0, .int 1024, .null, .null])), (a, .inl (cY, 512, .inl (fun _ => 0)))] := hD
  have hK : va_K (dC, dI) vwCl [(cY, .boolean)] s := hK
  refine va_putF (D := (dC, dI)) (ci := 1) (v := .ref a) (ty := .array .boolean) (C := RX1) (T := TX1) (N := 4) hx hb hts (by decide +kernel) tyX1 tyX1_ok nmX1 hown hK hP hD hS 0 rfl rfl 2 (by decide) (hts (.fieldLink RX1 13 "CardBookModel" "dirty" "[Z") (by decide +kernel)) (fun _ h9 => h9) rfl hin rfl (by decide +kernel) rfl rfl (Nat.le_of_ble_eq_true rfl) dX1_init_17 (fun H locs hP hD hS => ?_)
  have hP : va_P (dC, dI) vwCl [(h, .inr (1, [.int 0, .int 1024, .ref a, .null])), (a, .inl (cY, 512, .inl (fun _ => 0)))] H := hP
  have hD : va_D (ci_A h s.heap.size) [(h, .inr (1, [.int 0, .int 1024, .ref a, .null])), (a, .inl (cY, 512, .inl (fun _ => 0)))] := hD
  refine lv_aload_n hx hb dX1_init_20 rfl (lv_at hl 0 rfl) ?_
  refine lv_sipush (v := 512) hx hb dX1_init_21 (by decide) ?_
  refine va_newa (atype := .boolean) (n := 512) (ty := .boolean) (N' := 512) (a0 := (512, .inl (fun _ => 0))) hx hb (hts (.arrayClass .boolean) (by decide +kernel)) rfl hK hP hD hS hA (fun _ => rfl) (by decide +kernel) (by decide +kernel) (by decide +kernel) (Nat.le_of_ble_eq_true rfl) (Nat.le_of_ble_eq_true rfl) dX1_init_24 (fun b cZ H hK hP hD hS => ?_)
  have hP : va_P (dC, dI) vwCl [(h, .inr (1, [.int 0, .int 1024, .ref a, .null])), (a, .inl (cY, 512, .inl (fun _ => 0))), (b, .inl (cZ, 512, .inl (fun _ => 0)))] H := hP
  have hD : va_D (ci_A h s.heap.size) [(h, .inr (1, [.int 0, .int 1024, .ref a, .null])), (a, .inl (cY, 512, .inl (fun _ => 0))), (b, .inl (cZ, 512, .inl (fun _ => 0)))] := hD
  have hK : va_K (dC, dI) vwCl [(cY, .boolean), (cZ, .boolean)] s := hK
  have ha : s.heap.size ≤ a := ci_new hD rfl (k := 0) rfl
  have hb9 : s.heap.size ≤ b := ci_new hD rfl (k := 1) rfl
  have hab : a ≠ b := fun h9 => by
    have := hD.1 1 2 _ _ rfl rfl h9
    omega
  refine va_putF (D := (dC, dI)) (ci := 1) (v := .ref b) (ty := .array .boolean) (C := RX1) (T := TX1) (N := 4) hx hb hts (by decide +kernel) tyX1 tyX1_ok nmX1 hown hK hP hD hS 0 rfl rfl 3 (by decide) (hts (.fieldLink RX1 17 "CardBookModel" "saved" "[Z") (by decide +kernel)) (fun _ h9 => h9) rfl hin rfl (by decide +kernel) rfl rfl (Nat.le_of_ble_eq_true rfl) dX1_init_26 (fun H locs hP hD hS => ?_)
  have hP : va_P (dC, dI) vwCl (md_w h a b cY cZ 0 (nI 1024) (fun _ => false) (fun _ => false)) H := hP
  exact W.vret hx hb hr (fun t9 ht9 hW9 => ⟨⟨(a, b, cY, cZ), rfl, ⟨ha, hb9, hab⟩, cl_at ht9 hP, va_K.moved hW9.alike hK⟩, hS.F ht9⟩) hS.2.2 dX1_init_29
end
section
/-! Rows for the law: its calls, what stays beside them. -/
theorem lk_cmp (x : Int64) : lg_cmp x x = 0 := by simp [lg_cmp]
section LK
variable {p : Program} {l : Launch} {e : Env} {R : Room} {s : State} {m : MethodId} {args : Array Value} {below : List Frame} {meth : Method} {c : Code} {H : Heap} {locs : List Loc} {cells slots : Nat} {Q : State → Prop}
variable {cc : ByteArray} {pc : Nat} {ls : Array Slot} {rest st0 : List Value} {G : va_G} {A0 A1 : Nat → Prop} {H0 : Heap} {av : Array Value} {mc ms : Nat}
theorem lk_cw {own : String} {index maxL : Nat} {y : MethodName} {bytes : ByteArray} {ret : Option FieldType} {hh : List (Nat × Nat × Nat × Nat)} {Ts ws ws' : List Cond} {rm : Room} (n : Nat) (ht : ∀ w ∈ Ts, w.before args s = true) (hT : GoodIn Ts (va_wsS own index y ws)) (hw : ws = Cond.codeWith y bytes maxL ret hh :: ws') (hrc : rm.cells = mc) (hrs : rm.slots = ms)
    (hd : y.cls ≠ "java/lang/invoke/MethodHandle" ∧ y.cls ≠ "java/lang/invoke/VarHandle" ∧ (parseMethodDescriptor y.desc).map (fun d => d.parameters.length) = some n) (hR : rm.frames + 1 ≤ R.frames ∧ 8 + (maxL + 11) + rm.locals ≤ R.locals) :
    xt_CSW R s args own index y bytes maxL ret hh ws rm mc ms n := by
  have ok : ∀ w ∈ va_wsS own index y ws, w.before args s = true := fun w h => ht w (hT w h).1
  exact xt_cwSW n ht (fun w h => hT w (by unfold va_wsS; exact List.mem_append_right _ h)) hw hrc hrs (ok _ (by simp [va_wsS])) (ok _ (by simp [va_wsS])) (ok _ (by simp [va_wsS])) hd hR
theorem lk_preS {ws : va_W} {tys : List (ClassId × FieldType)} {As : List Value} (hK : va_K G vwCl tys s) (hP : va_P G vwCl ws H) : PreS s H (cb_Pc G As ws tys) As := ⟨cb_blind, fun U hU hW => ⟨rfl, by rw [hU]; exact hP, va_K.moved hW.alike hK⟩⟩
theorem lk_preT {ws : va_W} {tys : List (ClassId × FieldType)} {As : List Value} (hJ : cb_J s) (hS : va_S (fun x => s.heap.size ≤ x) s.heap H locs) (hK : va_K G vwCl tys s) (hP : va_P G vwCl ws H) : PreS s H (cb_Pt G As ws tys) As :=
  ⟨cb_blindT, fun U hU hW => ⟨rfl, by rw [hU]; exact hP, va_K.moved hW.alike hK, cb_J.to hW (fun q hq => by rw [hU]; exact hS.2.1 q hq (Nat.not_le.mpr hq)) hJ⟩⟩
/-- a call that answers r0 and leaves its cells as w1; w2 stays beside it -/
theorem lk_call {r0 : Int32} {w1 w2 : va_W} (hr : va_Run p l e R s m args below meth c H locs cells slots mc ms (F0 m pc ls st0) rest (va_Qi (fun (r : Int32) (_ : Unit) => r0 = r) (fun _ t => va_P G vwCl w1 t.heap) A1 av) A1) (hS : va_S A0 H0 H locs) (hA : ∀ x, A1 x → A0 x) (hP2 : va_P G vwCl w2 H) (hdis : ∀ x ∈ w2, ¬ A1 x.1)
    (kk : ∀ (H1 : Heap) (locs1 : List Loc), va_P G vwCl w1 H1 → va_P G vwCl w2 H1 → va_S A0 H0 H1 locs1 → W p l e R s m args below meth c H1 locs1 (cells + mc) (slots + ms) Q (F0 m (pc + 3) ls (.int r0 :: rest))) : W p l e R s m args below meth c H locs cells slots Q (F0 m pc ls st0) := by
  refine va_calli hr hS (fun q _ h => hA q h) hA (fun r u t H1 locs1 ht hvm hw hB hz hk hS => ?_)
  subst hw
  rw [ht] at hB
  exact kk H1 locs1 hB (cl_kept hP2 hk hdis) hS
/-- a call that answers r0 and leaves everything as it was -/
theorem lk_same {r0 : Int32} {w1 w2 : va_W} (hr : va_Run p l e R s m args below meth c H locs cells slots mc ms (F0 m pc ls st0) rest (va_Qi (fun (r : Int32) (_ : Unit) => r0 = r) (fun _ _ => True) (fun _ => False) av) (fun _ => False)) (hS : va_S A0 H0 H locs) (hP1 : va_P G vwCl w1 H) (hP2 : va_P G vwCl w2 H)
    (kk : ∀ (H1 : Heap) (locs1 : List Loc), va_P G vwCl w1 H1 → va_P G vwCl w2 H1 → va_S A0 H0 H1 locs1 → W p l e R s m args below meth c H1 locs1 (cells + mc) (slots + ms) Q (F0 m (pc + 3) ls (.int r0 :: rest))) : W p l e R s m args below meth c H locs cells slots Q (F0 m pc ls st0) := by
  refine va_calli hr hS (fun q _ h => h.elim) (fun q h => h.elim) (fun r u t H1 locs1 ht hvm hw hB hz hk hS => ?_)
  subst hw
  exact kk H1 locs1 (cl_kept hP1 hk (fun _ _ h => h)) (cl_kept hP2 hk (fun _ _ h => h)) hS
theorem cl_sld {b L : Nat} {xs : Nat → Int32} {A : Nat → Prop} (hexec : p.tables.exec = Jvm.exec) (hb : c.code = cc) (hX : va_X b L xs s H0) (hbl : b < H0.size) (hbA : ¬ A b) (hS : va_S A H0 H locs) {k : Nat} (hk : k < L) (hL : L < 2 ^ 31) (hdg : decode cc pc = .ok (.iaload, 1))
    (kk : W p l e R s m args below meth c H locs cells slots Q (F0 m (pc + 1) ls (.int (xs k) :: rest))) : W p l e R s m args below meth c H locs cells slots Q (F0 m pc ls (.int (nI k) :: .ref b :: rest)) := by
  refine va_sld hexec hb hX hbl hbA hS (vp_in_nI hk hL) hdg ?_
  rw [nI_clamp (Nat.lt_trans hk hL)]
  exact kk
theorem lk_out {h a o : Nat} {cI cJ : ClassId} {n : Int32} {f : Nat → Int32} {g : Nat → Int64} {v : Int64} {tys : List (ClassId × FieldType)} (hexec : p.tables.exec = Jvm.exec) (hb : c.code = cc) (hK : va_K G vwCl tys s) (ht : tys[1]? = some (cJ, .long)) (hP : va_P G vwCl (wr_w h a cI n f o cJ (vp_updL g 0 v)) H) (hdg : decode cc pc = .ok (.laload, 1))
    (kk : W p l e R s m args below meth c H locs cells slots Q (F0 m (pc + 1) ls (.long v :: rest))) : W p l e R s m args below meth c H locs cells slots Q (F0 m pc ls (.int 0 :: .ref o :: rest)) := by
  refine va_lald (D := G) (n := 1) (cA := cJ) (f := vp_updL g 0 v) hexec hb hK hP 2 1 rfl ht (by unfold vp_in; decide) hdg ?_
  rw [sb_cl0, pk_uLs]
  exact kk
end LK
/-- what holds of the law's cells all along -/
def lp_K (s : State) (G : va_G) (h a o q qa qb : Nat) (cI cJ cY cZ : ClassId) : Prop :=
  va_K G vwCl [(cI, .int), (cJ, .long), (cY, .boolean), (cZ, .boolean)] s ∧ cb_J s ∧ (h ≠ a ∧ (o ≠ h ∧ o ≠ a) ∧ md_ne q qa qb) ∧ (∀ x, wr_A h a o x → ¬ md_A q qa qb x) ∧ (∀ x, wr_A h a o x → s.heap.size ≤ x) ∧ (∀ x, md_A q qa qb x → s.heap.size ≤ x)
/-- class and reference stand alike -/
def lp_V (s : State) (G : va_G) (h a o q qa qb : Nat) (cI cJ cY cZ : ClassId) (N : Nat) (D S : Nat → Bool) (H : Heap) (locs : List Loc) : Prop :=
  (1 ≤ N ∧ N ≤ 16384 ∧ pz_ N D S) ∧ (∃ g : Nat → Int64, va_P G vwCl (wr_w h a cI (nI N) (pf_ D S) o cJ g) H) ∧ (∃ t : Int32, va_P G vwCl (md_w q qa qb cY cZ t (nI N) D S) H) ∧ va_S (fun x => s.heap.size ≤ x) s.heap H locs
theorem lp_m {h a o q qa qb : Nat} {cY cZ : ClassId} {t n : Int32} {D S : Nat → Bool} (hd : ∀ x, wr_A h a o x → ¬ md_A q qa qb x) : ∀ x ∈ md_w q qa qb cY cZ t n D S, ¬ wr_A h a o x.1 := by
  intro x hx h9
  refine hd x.1 h9 ?_
  simp only [List.mem_cons, List.not_mem_nil, or_false] at hx
  rcases hx with rfl | rfl | rfl
  · exact Or.inl rfl
  · exact Or.inr (Or.inl rfl)
  · exact Or.inr (Or.inr rfl)
theorem lp_x {h a o q qa qb : Nat} {cI cJ : ClassId} {n : Int32} {f : Nat → Int32} {g : Nat → Int64} (hd : ∀ x, wr_A h a o x → ¬ md_A q qa qb x) : ∀ x ∈ wr_w h a cI n f o cJ g, ¬ md_A q qa qb x.1 := by
  intro x hx
  refine hd x.1 ?_
  have hx : x ∈ [(h, _), (a, _), (o, _)] := hx
  simp only [List.mem_cons, List.not_mem_nil, or_false] at hx
  rcases hx with rfl | rfl | rfl
  · exact Or.inl (Or.inl rfl)
  · exact Or.inl (Or.inr rfl)
  · exact Or.inr rfl
/-- how the script's numbers fall -/
theorem ix_space (x : Int32) : (x < 1 ∨ ¬ x ≤ 16384) ∨ ∃ n : Nat, 1 ≤ n ∧ n ≤ 16384 ∧ x = nI n := by
  by_cases h1 : x < 1
  · exact Or.inl (Or.inl h1)
  · by_cases h2 : x ≤ 16384
    · have h3 : ¬ x < 0 := fun h9 => h1 (Int32.lt_trans h9 (by decide))
      obtain ⟨n, hn, rfl⟩ := nI_of2 (M := 16384) (n := 16384) (by decide) h3 h2
      refine Or.inr ⟨n, ?_, hn, rfl⟩
      rcases Nat.lt_or_ge n 1 with q | q
      · have h4 : n = 0 := by omega
        subst h4
        exact absurd (by decide) h1
      · exact q
    · exact Or.inl (Or.inr h2)
theorem ix_below (x : Int32) {n : Nat} (hn : n < 2 ^ 31) : (x < 0 ∨ ¬ x < nI n) ∨ ∃ k : Nat, k < n ∧ x = nI k := by
  rcases pk_ix x hn with h | h | h
  · exact Or.inl (Or.inl h)
  · exact Or.inl (Or.inr (Int32.not_lt.mpr h))
  · exact Or.inr h
theorem ix_size (y : Int32) {k N : Nat} (hk : k < N) (hN : N ≤ 16384) : (y < 1 ∨ ¬ y ≤ nI N - nI k) ∨ ∃ z : Nat, 1 ≤ z ∧ k + z ≤ N ∧ y = nI z := by
  rw [pk_sub (Nat.le_of_lt hk)]
  by_cases h1 : y < 1
  · exact Or.inl (Or.inl h1)
  · by_cases h2 : y ≤ nI (N - k)
    · have h3 : ¬ y < 0 := fun h9 => h1 (Int32.lt_trans h9 (by decide))
      obtain ⟨z, hz, rfl⟩ := nI_of2 (M := nI (N - k)) (n := N - k) (nI_toInt (by omega)) h3 h2
      refine Or.inr ⟨z, ?_, by omega, rfl⟩
      rcases Nat.lt_or_ge z 1 with q | q
      · have h4 : z = 0 := by omega
        subst h4
        exact absurd (by decide) h1
      · exact q
    · exact Or.inl (Or.inr h2)
theorem ix_count (x : Int32) : ((x.toInt < 0 ∨ 3 < x.toInt) ∧ (x < 0 ∨ ¬ x ≤ 3)) ∨ ∃ q : Nat, q < 4 ∧ x = nI q := by
  have e0 : (0 : Int32).toInt = 0 := by decide
  have e3 : (3 : Int32).toInt = 3 := by decide
  by_cases h1 : x < 0
  · exact Or.inl ⟨Or.inl (by rw [Int32.lt_iff_toInt_lt, e0] at h1; exact h1), Or.inl h1⟩
  · by_cases h2 : x ≤ 3
    · obtain ⟨n, hn, rfl⟩ := nI_of2 (M := 3) (n := 3) (by decide) h1 h2
      exact Or.inr ⟨n, by omega, rfl⟩
    · refine Or.inl ⟨Or.inr ?_, Or.inr h2⟩
      rw [Int32.le_iff_toInt_le, e3] at h2
      omega
theorem pu_init : (fun _ => (0 : Int32)) = pf_ (fun _ => false) (fun _ => false) := by
  funext c
  show (0 : Int32) = pm_ false false
  decide
end
section
/-! THE CLAIM OUT OF ONE WALK OF THE LAW'S BODY. Your part is whole_start (and what it stands on); all else here is the same for every law, but numbers. -/
def R_law : String := "CardBookLaw"
def lw_P (b : Addr) (xs : List Int32) (args : Array Value) (s : State) : Prop := args = #[.ref b] ∧ s.IntsAt b xs ∧ xs.length ≤ 1536 ∧ (Jvm.Cond.and given_1 narrow_1).before args s = true
def lw_Q (_ : Array Value) (s : State) (o : Outcome) (t : State) : Prop := o = .returned (some (.int 1)) ∧ Framed s o t [] 1036 9771
def lw_Z (below : List Frame) (a : Array Value) (s : State) : State → Prop := fun t => ∃ o, t.status = .running ∧ Ended t below o ∧ lw_Q a s o t
/-- the law's own end, with 1 on the stack, nothing written that was there before, its room as the claim has it -/
theorem lw_ret {p : Program} {l : Launch} {e : Env} {s : State} {m : MethodId} {below : List Frame} {meth : Method} {c : Code} {b : Nat} (hx : p.tables.exec = Jvm.exec) (hb : c.code = code) (hr : meth.sig.returnType = ret) (hlocks : meth.locks = false) {pc : Nat} {H : Heap} {ls : Array Slot} (hdg : decode code pc = .ok (.ireturn, 1)) : W p l e room_1 s m #[Value.ref b] below meth c H [] 1036 9771 (lw_Z below #[Value.ref b] s) (F0 m pc ls [.int 1]) := by
  intro T hT X
  obtain ⟨fs, hret, hrun, hended, hW, hframe⟩ := X.leave (v := some (.int 1)) (hlocks := hlocks) (fun h => by rw [hr] at h; cases h)
  have hmeth' : T.vm.method? m = some meth := X.method'
  refine ⟨T.setFrames fs, ?_, .returned (some (.int 1)), hrun, hended, rfl, ⟨_, rfl⟩, hW, hframe⟩
  jvm_step X.here [X.here.top, hx, hb, hdg, hmeth', hr, ret, narrow_b1]
  (try refine ⟨rfl, ?_⟩); (try refine ⟨rfl, ?_⟩)
  first | (intro acts; rw [hret _ acts rfl rfl rfl]) | rw [hret _ _ rfl rfl rfl]
  exact Steps.refl _
/-- what holds at the law's entry: the machine, the code, the tables' words (any of lw_tbl by 'hts w (by decide +kernel)'), the script of L ints xs at the cell b, what the Statement gives of the start (any of its parts by flat_of_before) -/
def lw_At (p : Program) (s : State) (m : MethodId) (meth : Method) (c : Code) (b L : Nat) (xs : Nat → Int32) : Prop :=
  p.tables.exec = Jvm.exec ∧ c.code = code ∧ meth.sig.returnType = ret ∧ c.maxLocals = 7 ∧ s.vm.findClass R_law = some m.cls ∧ (∀ w ∈ lw_tbl, w.before #[Value.ref b] s = true) ∧ va_X b L xs s s.heap ∧ b < s.heap.size ∧ meth.locks = false ∧ (Jvm.Cond.and given_1 narrow_1).before #[Value.ref b] s = true
end
section
theorem lp_o {h a o q qa qb : Nat} {cJ cY cZ : ClassId} {g : Nat → Int64} {t n : Int32} {D S : Nat → Bool} (ho : o ≠ h ∧ o ≠ a) (hd : ∀ x, wr_A h a o x → ¬ md_A q qa qb x) : ∀ x ∈ ou_w o cJ g ++ md_w q qa qb cY cZ t n D S, ¬ cb_A h a x.1 := by
  intro x hx h9
  rcases List.mem_append.mp hx with hx | hx
  · rw [List.mem_singleton] at hx
    subst hx
    rcases h9 with h9 | h9
    · exact ho.1 h9
    · exact ho.2 h9
  · exact lp_m hd x hx (Or.inl h9)
set_option maxHeartbeats 4000000 in
set_option maxRecDepth 100000 in
/-- the law's case space -/
theorem lc_space {p : Program} {l : Launch} {e : Env} {s : State} {m : MethodId} {below : List Frame} {meth : Method} {c : Code} {dC : Nat → ClassId} {dI : Nat → Nat → Nat} {b L : Nat} {xs : Nat → Int32} {h a o q qa qb : Nat} {cI cJ cY cZ : ClassId} (hst : l.stackTraces = false) (hL : L ≤ 1536) (C0 : lw_At p s m meth c b L xs) (K0 : lp_K s (dC, dI) h a o q qa qb cI cJ cY cZ) {N i cells slots : Nat} {D S : Nat → Bool} {H : Heap} {locs : List Loc} {ls : Array Slot} (hi : i + 3 ≤ L) (hcl : cells + 1 ≤ 1036) (hsl : slots + 6 ≤ 9771) (V0 : lp_V s (dC, dI) h a o q qa qb cI cJ cY cZ N D S H locs) (hl : lv_has ls 7 [(4, .int (nI i)), (0, .ref b), (1, .ref h), (2, .ref q), (3, .ref o)])
    (kk : ∀ (N : Nat) (D S : Nat → Bool) (H : Heap) (locs : List Loc) (ls : Array Slot), lp_V s (dC, dI) h a o q qa qb cI cJ cY cZ N D S H locs → lv_has ls 7 [(4, .int (nI i)), (0, .ref b), (1, .ref h), (2, .ref q), (3, .ref o)] → W p l e room_1 s m #[Value.ref b] below meth c H locs (cells + 1) (slots + 6) (lw_Z below #[Value.ref b] s) (F0 m 663 ls [])) : W p l e room_1 s m #[Value.ref b] below meth c H locs cells slots (lw_Z below #[Value.ref b] s) (F0 m 92 ls []) := by
  obtain ⟨hx, hb, hr, hml, hown, hts0, hX, hbl, hlocks, hgv⟩ := C0
  have hts : ∀ w ∈ wsL_law, w.before #[Value.ref b] s = true := fun w h9 => hts0 w (wsL_law_in w h9)
  obtain ⟨hK, hJ, ⟨hne, ho, hmn⟩, hdj, hgx, hgm⟩ := K0
  obtain ⟨⟨h1, h2, hz⟩, ⟨g, hPw⟩, ⟨t, hPm⟩, hS⟩ := V0
  have hbA : ¬ (fun x : Nat => s.heap.size ≤ x) b := Nat.not_le.mpr hbl
  rcases ix_space (xs (i + 1)) with hbad | ⟨n, hn1, hn2, e1⟩
  · refine lv_aload_n hx hb dL_law_92 rfl (lv_at hl 2 rfl) ?_
    refine lv_aload_n hx hb dL_law_93 rfl (lv_at hl 1 rfl) ?_
    refine lv_iload hx hb dL_law_94 (lv_at hl 0 rfl) ?_
    refine lv_iconst (v := 1) hx hb dL_law_96 (by decide) ?_
    refine lv_iadd hx hb dL_law_97 ?_
    refine cl_asi (nI_add i 1) ?_
    refine cl_sld hx hb hX hbl hbA hS (show i + 1 < L by omega) (by omega) dL_law_98 ?_
    refine lv_aload_n hx hb dL_law_99 rfl (lv_at hl 4 rfl) ?_
    refine lk_same (xt_runSW (As := [.ref h, .int (xs (i + 1)), .ref o]) (rest := []) ⟨hx, hb, hml, hown, hts⟩ (v_space l hst dC dI h a cI N (pf_ D S) o cJ g (xs (i + 1)) hbad) (lk_cw 3 hts gL_law_L_space rfl rfl rfl (by decide +kernel) ⟨Nat.le_of_ble_eq_true rfl, Nat.le_of_ble_eq_true rfl⟩) (lk_preT hJ hS (hK.sub (tys' := [(cI, .int), (cJ, .long)]) [0, 1] rfl) hPw) rfl rfl hl.1 rfl (lv_room (Nat.le_of_ble_eq_true rfl)) dL_law_100 ⟨by show _ ≤ 1036; omega, by show _ ≤ 9771; omega⟩) hS hPw hPm (fun H locs hPw hPm hS => ?_)
    refine lv_istore (lv' := [(5, .int 1), (4, .int (nI i)), (0, .ref b), (1, .ref h), (2, .ref q), (3, .ref o)]) hx hb dL_law_103 hl (by decide) rfl (fun ls hl => ?_)
    refine lv_aload_n hx hb dL_law_105 rfl (lv_at hl 4 rfl) ?_
    refine lv_aload_n hx hb dL_law_106 rfl (lv_at hl 2 rfl) ?_
    refine lv_iload hx hb dL_law_107 (lv_at hl 1 rfl) ?_
    refine lv_iconst (v := 1) hx hb dL_law_109 (by decide) ?_
    refine lv_iadd hx hb dL_law_110 ?_
    refine cl_asi (nI_add i 1) ?_
    refine cl_sld hx hb hX hbl hbA hS (show i + 1 < L by omega) (by omega) dL_law_111 ?_
    refine lk_call (va_runV (As := [.int (xs (i + 1))]) (rest := []) ⟨hx, hb, hml, hown, hts0⟩ (e1_space l dC dI q qa qb cY cZ t N D S (xs (i + 1)) hbad hmn) (cwV 1 hts0 gL_law_X1_space rfl rfl rfl (by decide +kernel) ⟨Nat.le_of_ble_eq_true rfl, Nat.le_of_ble_eq_true rfl⟩) (md_preV (hK.sub (tys' := [(cY, .boolean), (cZ, .boolean)]) [2, 3] rfl) hPm [.int (xs (i + 1))]) rfl rfl hl.1 rfl (lv_room (Nat.le_of_ble_eq_true rfl)) dL_law_112 ⟨by show _ ≤ 1036; omega, by show _ ≤ 9771; omega⟩) hS hgm hPw (lp_x hdj) (fun H locs hPm hPw hS => ?_)
    have hPm : va_P (dC, dI) vwCl (md_w q qa qb cY cZ 1 (nI N) D S) H := hPm
    refine lv_istore (lv' := [(6, .int (0 : Int32)), (5, .int 1), (4, .int (nI i)), (0, .ref b), (1, .ref h), (2, .ref q), (3, .ref o)]) hx hb dL_law_115 hl (by decide) rfl (fun ls hl => ?_)
    refine lv_aload_n hx hb dL_law_117 rfl (lv_at hl 5 rfl) ?_
    refine cl_calli (W.runV (As := []) (rest := []) ⟨hx, hb, hml, hown, hts⟩ (c1_thrown l dC dI q qa qb cY cZ 1 N D S) (cwV 0 hts gL_law_X1_thrown rfl rfl rfl (by decide +kernel) ⟨Nat.le_of_ble_eq_true rfl, Nat.le_of_ble_eq_true rfl⟩) (md_preV (hK.sub (tys' := [(cY, .boolean), (cZ, .boolean)]) [2, 3] rfl) hPm []) rfl rfl hl.1 rfl (lv_room (Nat.le_of_ble_eq_true rfl)) dL_law_118 ⟨by show _ ≤ 1036; omega, by show _ ≤ 9771; omega⟩) ?_
    refine lv_iload hx hb dL_law_121 (lv_at hl 1 rfl) ?_
    refine lv_icmp_eq (tgt := 128) hx hb dL_law_123 (by decide) (fun _ => ?_) (fun h9 => absurd rfl h9)
    refine lv_iload hx hb dL_law_128 (lv_at hl 1 rfl) ?_
    refine lv_if_ne (tgt := 145) hx hb dL_law_130 (by decide) (fun _ => ?_) (fun h9 => absurd h9 (by decide))
    refine lv_goto (tgt := 663) hx hb dL_law_145 (by decide) ?_
    refine W.widen (k := cells + 1) (n := slots + 6) (by omega) (by omega) ?_
    exact kk N D S H locs ls ⟨⟨h1, h2, hz⟩, ⟨_, hPw⟩, ⟨_, hPm⟩, hS⟩ (lv_sub hl [2, 3, 4, 5, 6] rfl)
  · refine lv_aload_n hx hb dL_law_92 rfl (lv_at hl 2 rfl) ?_
    refine lv_aload_n hx hb dL_law_93 rfl (lv_at hl 1 rfl) ?_
    refine lv_iload hx hb dL_law_94 (lv_at hl 0 rfl) ?_
    refine lv_iconst (v := 1) hx hb dL_law_96 (by decide) ?_
    refine lv_iadd hx hb dL_law_97 ?_
    refine cl_asi (nI_add i 1) ?_
    refine cl_sld hx hb hX hbl hbA hS (show i + 1 < L by omega) (by omega) dL_law_98 ?_
    rw [e1]
    refine lv_aload_n hx hb dL_law_99 rfl (lv_at hl 4 rfl) ?_
    refine lk_call (xt_runSW (As := [.ref h, .int (nI n), .ref o]) (rest := []) ⟨hx, hb, hml, hown, hts⟩ (w_space l dC dI h a cI N (pf_ D S) o cJ g hne ho n h1 h2 hn1 hn2) (lk_cw 3 hts gL_law_L_space rfl rfl rfl (by decide +kernel) ⟨Nat.le_of_ble_eq_true rfl, Nat.le_of_ble_eq_true rfl⟩) (lk_preS (hK.sub (tys' := [(cI, .int), (cJ, .long)]) [0, 1] rfl) hPw) rfl rfl hl.1 rfl (lv_room (Nat.le_of_ble_eq_true rfl)) dL_law_100 ⟨by show _ ≤ 1036; omega, by show _ ≤ 9771; omega⟩) hS hgx hPm (lp_m hdj) (fun H locs hPw hPm hS => ?_)
    have hPw : va_P (dC, dI) vwCl (wr_w h a cI (nI n) (cb_clr (pf_ D S) (cb_cc N)) o cJ (vp_updL g 0 (Int32.toInt64 (nI N)))) H := hPw
    refine lv_istore (lv' := [(5, .int 0), (4, .int (nI i)), (0, .ref b), (1, .ref h), (2, .ref q), (3, .ref o)]) hx hb dL_law_103 hl (by decide) rfl (fun ls hl => ?_)
    refine lv_aload_n hx hb dL_law_105 rfl (lv_at hl 4 rfl) ?_
    refine lv_aload_n hx hb dL_law_106 rfl (lv_at hl 2 rfl) ?_
    refine lv_iload hx hb dL_law_107 (lv_at hl 1 rfl) ?_
    refine lv_iconst (v := 1) hx hb dL_law_109 (by decide) ?_
    refine lv_iadd hx hb dL_law_110 ?_
    refine cl_asi (nI_add i 1) ?_
    refine cl_sld hx hb hX hbl hbA hS (show i + 1 < L by omega) (by omega) dL_law_111 ?_
    rw [e1]
    refine lk_call (va_runV (As := [.int (nI n)]) (rest := []) ⟨hx, hb, hml, hown, hts0⟩ (c1_space l dC dI q qa qb cY cZ t N D S n hn1 hn2 hmn) (cwV 1 hts0 gL_law_X1_space rfl rfl rfl (by decide +kernel) ⟨Nat.le_of_ble_eq_true rfl, Nat.le_of_ble_eq_true rfl⟩) (md_preV (hK.sub (tys' := [(cY, .boolean), (cZ, .boolean)]) [2, 3] rfl) hPm [.int (nI n)]) rfl rfl hl.1 rfl (lv_room (Nat.le_of_ble_eq_true rfl)) dL_law_112 ⟨by show _ ≤ 1036; omega, by show _ ≤ 9771; omega⟩) hS hgm hPw (lp_x hdj) (fun H locs hPm hPw hS => ?_)
    have hPm : va_P (dC, dI) vwCl (md_w q qa qb cY cZ 0 (nI n) (md_cl D true 512) (md_cl S true 512)) H := hPm
    refine lv_istore (lv' := [(6, .int (nI N)), (5, .int 0), (4, .int (nI i)), (0, .ref b), (1, .ref h), (2, .ref q), (3, .ref o)]) hx hb dL_law_115 hl (by decide) rfl (fun ls hl => ?_)
    refine lv_aload_n hx hb dL_law_117 rfl (lv_at hl 5 rfl) ?_
    refine cl_calli (W.runV (As := []) (rest := []) ⟨hx, hb, hml, hown, hts⟩ (c1_thrown l dC dI q qa qb cY cZ 0 n (md_cl D true 512) (md_cl S true 512)) (cwV 0 hts gL_law_X1_thrown rfl rfl rfl (by decide +kernel) ⟨Nat.le_of_ble_eq_true rfl, Nat.le_of_ble_eq_true rfl⟩) (md_preV (hK.sub (tys' := [(cY, .boolean), (cZ, .boolean)]) [2, 3] rfl) hPm []) rfl rfl hl.1 rfl (lv_room (Nat.le_of_ble_eq_true rfl)) dL_law_118 ⟨by show _ ≤ 1036; omega, by show _ ≤ 9771; omega⟩) ?_
    refine lv_iload hx hb dL_law_121 (lv_at hl 1 rfl) ?_
    refine lv_icmp_eq (tgt := 128) hx hb dL_law_123 (by decide) (fun _ => ?_) (fun h9 => absurd rfl h9)
    refine lv_iload hx hb dL_law_128 (lv_at hl 1 rfl) ?_
    refine lv_if_ne (tgt := 145) hx hb dL_law_130 (by decide) (fun h9 => absurd rfl h9) (fun _ => ?_)
    refine lv_aload_n hx hb dL_law_133 rfl (lv_at hl 6 rfl) ?_
    refine lv_iconst (v := 0) hx hb dL_law_134 (by decide) ?_
    rw [pu_clr h2 hz] at hPw
    refine lk_out (v := (Int32.toInt64 (nI N))) hx hb hK rfl hPw dL_law_135 ?_
    refine lv_iload hx hb dL_law_136 (lv_at hl 0 rfl) ?_
    refine lv_i2l (v := Int32.toInt64 (nI N)) hx hb dL_law_138 rfl ?_
    refine W.lcmp hx hb dL_law_139 ?_
    refine cl_asi (lk_cmp _) ?_
    refine lv_if_eq (tgt := 145) hx hb dL_law_140 (by decide) (fun _ => ?_) (fun h9 => absurd rfl h9)
    refine lv_goto (tgt := 663) hx hb dL_law_145 (by decide) ?_
    refine W.widen (k := cells + 1) (n := slots + 6) (by omega) (by omega) ?_
    exact kk n (md_cl D true 512) (md_cl S true 512) H locs ls ⟨⟨hn1, hn2, pz_gone h2 hz⟩, ⟨_, hPw⟩, ⟨_, hPm⟩, hS⟩ (lv_sub hl [2, 3, 4, 5, 6] rfl)
set_option maxHeartbeats 4000000 in
set_option maxRecDepth 100000 in
/-- the law's case write -/
theorem lc_write {p : Program} {l : Launch} {e : Env} {s : State} {m : MethodId} {below : List Frame} {meth : Method} {c : Code} {dC : Nat → ClassId} {dI : Nat → Nat → Nat} {b L : Nat} {xs : Nat → Int32} {h a o q qa qb : Nat} {cI cJ cY cZ : ClassId} (hst : l.stackTraces = false) (hL : L ≤ 1536) (C0 : lw_At p s m meth c b L xs) (K0 : lp_K s (dC, dI) h a o q qa qb cI cJ cY cZ) {N i cells slots : Nat} {D S : Nat → Bool} {H : Heap} {locs : List Loc} {ls : Array Slot} (hi : i + 3 ≤ L) (hcl : cells + 1 ≤ 1036) (hsl : slots + 6 ≤ 9771) (V0 : lp_V s (dC, dI) h a o q qa qb cI cJ cY cZ N D S H locs) (hl : lv_has ls 7 [(4, .int (nI i)), (0, .ref b), (1, .ref h), (2, .ref q), (3, .ref o)])
    (kk : ∀ (N : Nat) (D S : Nat → Bool) (H : Heap) (locs : List Loc) (ls : Array Slot), lp_V s (dC, dI) h a o q qa qb cI cJ cY cZ N D S H locs → lv_has ls 7 [(4, .int (nI i)), (0, .ref b), (1, .ref h), (2, .ref q), (3, .ref o)] → W p l e room_1 s m #[Value.ref b] below meth c H locs (cells + 1) (slots + 6) (lw_Z below #[Value.ref b] s) (F0 m 663 ls [])) : W p l e room_1 s m #[Value.ref b] below meth c H locs cells slots (lw_Z below #[Value.ref b] s) (F0 m 148 ls []) := by
  obtain ⟨hx, hb, hr, hml, hown, hts0, hX, hbl, hlocks, hgv⟩ := C0
  have hts : ∀ w ∈ wsL_law, w.before #[Value.ref b] s = true := fun w h9 => hts0 w (wsL_law_in w h9)
  obtain ⟨hK, hJ, ⟨hne, ho, hmn⟩, hdj, hgx, hgm⟩ := K0
  obtain ⟨⟨h1, h2, hz⟩, ⟨g, hPw⟩, ⟨t, hPm⟩, hS⟩ := V0
  have hbA : ¬ (fun x : Nat => s.heap.size ≤ x) b := Nat.not_le.mpr hbl
  rcases ix_below (xs (i + 1)) (n := N) (by omega) with hbad | ⟨k, hk, e1⟩
  · refine lv_aload_n hx hb dL_law_148 rfl (lv_at hl 2 rfl) ?_
    refine lv_aload_n hx hb dL_law_149 rfl (lv_at hl 1 rfl) ?_
    refine lv_iload hx hb dL_law_150 (lv_at hl 0 rfl) ?_
    refine lv_iconst (v := 1) hx hb dL_law_152 (by decide) ?_
    refine lv_iadd hx hb dL_law_153 ?_
    refine cl_asi (nI_add i 1) ?_
    refine cl_sld hx hb hX hbl hbA hS (show i + 1 < L by omega) (by omega) dL_law_154 ?_
    refine lv_aload_n hx hb dL_law_155 rfl (lv_at hl 4 rfl) ?_
    refine lk_same (xt_runSW (As := [.ref h, .int (xs (i + 1)), .ref o]) (rest := []) ⟨hx, hb, hml, hown, hts⟩ (v_write l hst dC dI h a cI N (pf_ D S) o cJ g (xs (i + 1)) hbad) (lk_cw 3 hts gL_law_L_write rfl rfl rfl (by decide +kernel) ⟨Nat.le_of_ble_eq_true rfl, Nat.le_of_ble_eq_true rfl⟩) (lk_preT hJ hS (hK.sub (tys' := [(cI, .int), (cJ, .long)]) [0, 1] rfl) hPw) rfl rfl hl.1 rfl (lv_room (Nat.le_of_ble_eq_true rfl)) dL_law_156 ⟨by show _ ≤ 1036; omega, by show _ ≤ 9771; omega⟩) hS hPw hPm (fun H locs hPw hPm hS => ?_)
    refine lv_istore (lv' := [(5, .int 1), (4, .int (nI i)), (0, .ref b), (1, .ref h), (2, .ref q), (3, .ref o)]) hx hb dL_law_159 hl (by decide) rfl (fun ls hl => ?_)
    refine lv_aload_n hx hb dL_law_161 rfl (lv_at hl 4 rfl) ?_
    refine lv_aload_n hx hb dL_law_162 rfl (lv_at hl 2 rfl) ?_
    refine lv_iload hx hb dL_law_163 (lv_at hl 1 rfl) ?_
    refine lv_iconst (v := 1) hx hb dL_law_165 (by decide) ?_
    refine lv_iadd hx hb dL_law_166 ?_
    refine cl_asi (nI_add i 1) ?_
    refine cl_sld hx hb hX hbl hbA hS (show i + 1 < L by omega) (by omega) dL_law_167 ?_
    refine lk_call (va_runV (As := [.int (xs (i + 1))]) (rest := []) ⟨hx, hb, hml, hown, hts0⟩ (e1_write l dC dI q qa qb cY cZ t N D S (xs (i + 1)) hbad hmn) (cwV 1 hts0 gL_law_X1_write rfl rfl rfl (by decide +kernel) ⟨Nat.le_of_ble_eq_true rfl, Nat.le_of_ble_eq_true rfl⟩) (md_preV (hK.sub (tys' := [(cY, .boolean), (cZ, .boolean)]) [2, 3] rfl) hPm [.int (xs (i + 1))]) rfl rfl hl.1 rfl (lv_room (Nat.le_of_ble_eq_true rfl)) dL_law_168 ⟨by show _ ≤ 1036; omega, by show _ ≤ 9771; omega⟩) hS hgm hPw (lp_x hdj) (fun H locs hPm hPw hS => ?_)
    have hPm : va_P (dC, dI) vwCl (md_w q qa qb cY cZ 1 (nI N) D S) H := hPm
    refine lv_istore (lv' := [(6, .int (0 : Int32)), (5, .int 1), (4, .int (nI i)), (0, .ref b), (1, .ref h), (2, .ref q), (3, .ref o)]) hx hb dL_law_171 hl (by decide) rfl (fun ls hl => ?_)
    refine lv_aload_n hx hb dL_law_173 rfl (lv_at hl 5 rfl) ?_
    refine cl_calli (W.runV (As := []) (rest := []) ⟨hx, hb, hml, hown, hts⟩ (c1_thrown l dC dI q qa qb cY cZ 1 N D S) (cwV 0 hts gL_law_X1_thrown rfl rfl rfl (by decide +kernel) ⟨Nat.le_of_ble_eq_true rfl, Nat.le_of_ble_eq_true rfl⟩) (md_preV (hK.sub (tys' := [(cY, .boolean), (cZ, .boolean)]) [2, 3] rfl) hPm []) rfl rfl hl.1 rfl (lv_room (Nat.le_of_ble_eq_true rfl)) dL_law_174 ⟨by show _ ≤ 1036; omega, by show _ ≤ 9771; omega⟩) ?_
    refine lv_iload hx hb dL_law_177 (lv_at hl 1 rfl) ?_
    refine lv_icmp_eq (tgt := 184) hx hb dL_law_179 (by decide) (fun _ => ?_) (fun h9 => absurd rfl h9)
    refine lv_iload hx hb dL_law_184 (lv_at hl 1 rfl) ?_
    refine lv_if_ne (tgt := 201) hx hb dL_law_186 (by decide) (fun _ => ?_) (fun h9 => absurd h9 (by decide))
    refine lv_goto (tgt := 663) hx hb dL_law_201 (by decide) ?_
    refine W.widen (k := cells + 1) (n := slots + 6) (by omega) (by omega) ?_
    exact kk N D S H locs ls ⟨⟨h1, h2, hz⟩, ⟨_, hPw⟩, ⟨_, hPm⟩, hS⟩ (lv_sub hl [2, 3, 4, 5, 6] rfl)
  · refine lv_aload_n hx hb dL_law_148 rfl (lv_at hl 2 rfl) ?_
    refine lv_aload_n hx hb dL_law_149 rfl (lv_at hl 1 rfl) ?_
    refine lv_iload hx hb dL_law_150 (lv_at hl 0 rfl) ?_
    refine lv_iconst (v := 1) hx hb dL_law_152 (by decide) ?_
    refine lv_iadd hx hb dL_law_153 ?_
    refine cl_asi (nI_add i 1) ?_
    refine cl_sld hx hb hX hbl hbA hS (show i + 1 < L by omega) (by omega) dL_law_154 ?_
    rw [e1]
    refine lv_aload_n hx hb dL_law_155 rfl (lv_at hl 4 rfl) ?_
    refine lk_call (xt_runSW (As := [.ref h, .int (nI k), .ref o]) (rest := []) ⟨hx, hb, hml, hown, hts⟩ (w_write l dC dI h a cI N (pf_ D S) o cJ g hne ho k h2 hk) (lk_cw 3 hts gL_law_L_write rfl rfl rfl (by decide +kernel) ⟨Nat.le_of_ble_eq_true rfl, Nat.le_of_ble_eq_true rfl⟩) (lk_preS (hK.sub (tys' := [(cI, .int), (cJ, .long)]) [0, 1] rfl) hPw) rfl rfl hl.1 rfl (lv_room (Nat.le_of_ble_eq_true rfl)) dL_law_156 ⟨by show _ ≤ 1036; omega, by show _ ≤ 9771; omega⟩) hS hgx hPm (lp_m hdj) (fun H locs hPw hPm hS => ?_)
    have hPw : va_P (dC, dI) vwCl (wr_w h a cI (nI N) (upd (pf_ D S) (k / 32) (pf_ D S (k / 32) ||| 1)) o cJ (vp_updL g 0 (Int32.toInt64 (nI (k / 32))))) H := hPw
    refine lv_istore (lv' := [(5, .int 0), (4, .int (nI i)), (0, .ref b), (1, .ref h), (2, .ref q), (3, .ref o)]) hx hb dL_law_159 hl (by decide) rfl (fun ls hl => ?_)
    refine lv_aload_n hx hb dL_law_161 rfl (lv_at hl 4 rfl) ?_
    refine lv_aload_n hx hb dL_law_162 rfl (lv_at hl 2 rfl) ?_
    refine lv_iload hx hb dL_law_163 (lv_at hl 1 rfl) ?_
    refine lv_iconst (v := 1) hx hb dL_law_165 (by decide) ?_
    refine lv_iadd hx hb dL_law_166 ?_
    refine cl_asi (nI_add i 1) ?_
    refine cl_sld hx hb hX hbl hbA hS (show i + 1 < L by omega) (by omega) dL_law_167 ?_
    rw [e1]
    refine lk_call (va_runV (As := [.int (nI k)]) (rest := []) ⟨hx, hb, hml, hown, hts0⟩ (c1_write l dC dI q qa qb cY cZ t N D S k h2 hk hmn) (cwV 1 hts0 gL_law_X1_write rfl rfl rfl (by decide +kernel) ⟨Nat.le_of_ble_eq_true rfl, Nat.le_of_ble_eq_true rfl⟩) (md_preV (hK.sub (tys' := [(cY, .boolean), (cZ, .boolean)]) [2, 3] rfl) hPm [.int (nI k)]) rfl rfl hl.1 rfl (lv_room (Nat.le_of_ble_eq_true rfl)) dL_law_168 ⟨by show _ ≤ 1036; omega, by show _ ≤ 9771; omega⟩) hS hgm hPw (lp_x hdj) (fun H locs hPm hPw hS => ?_)
    have hPm : va_P (dC, dI) vwCl (md_w q qa qb cY cZ 0 (nI N) (md_u D (k / 32) true) S) H := hPm
    refine lv_istore (lv' := [(6, .int (nI (k / 32))), (5, .int 0), (4, .int (nI i)), (0, .ref b), (1, .ref h), (2, .ref q), (3, .ref o)]) hx hb dL_law_171 hl (by decide) rfl (fun ls hl => ?_)
    refine lv_aload_n hx hb dL_law_173 rfl (lv_at hl 5 rfl) ?_
    refine cl_calli (W.runV (As := []) (rest := []) ⟨hx, hb, hml, hown, hts⟩ (c1_thrown l dC dI q qa qb cY cZ 0 N (md_u D (k / 32) true) S) (cwV 0 hts gL_law_X1_thrown rfl rfl rfl (by decide +kernel) ⟨Nat.le_of_ble_eq_true rfl, Nat.le_of_ble_eq_true rfl⟩) (md_preV (hK.sub (tys' := [(cY, .boolean), (cZ, .boolean)]) [2, 3] rfl) hPm []) rfl rfl hl.1 rfl (lv_room (Nat.le_of_ble_eq_true rfl)) dL_law_174 ⟨by show _ ≤ 1036; omega, by show _ ≤ 9771; omega⟩) ?_
    refine lv_iload hx hb dL_law_177 (lv_at hl 1 rfl) ?_
    refine lv_icmp_eq (tgt := 184) hx hb dL_law_179 (by decide) (fun _ => ?_) (fun h9 => absurd rfl h9)
    refine lv_iload hx hb dL_law_184 (lv_at hl 1 rfl) ?_
    refine lv_if_ne (tgt := 201) hx hb dL_law_186 (by decide) (fun h9 => absurd rfl h9) (fun _ => ?_)
    refine lv_aload_n hx hb dL_law_189 rfl (lv_at hl 6 rfl) ?_
    refine lv_iconst (v := 0) hx hb dL_law_190 (by decide) ?_
    rw [pu_write] at hPw
    refine lk_out (v := (Int32.toInt64 (nI (k / 32)))) hx hb hK rfl hPw dL_law_191 ?_
    refine lv_iload hx hb dL_law_192 (lv_at hl 0 rfl) ?_
    refine lv_i2l (v := Int32.toInt64 (nI (k / 32))) hx hb dL_law_194 rfl ?_
    refine W.lcmp hx hb dL_law_195 ?_
    refine cl_asi (lk_cmp _) ?_
    refine lv_if_eq (tgt := 201) hx hb dL_law_196 (by decide) (fun _ => ?_) (fun h9 => absurd rfl h9)
    refine lv_goto (tgt := 663) hx hb dL_law_201 (by decide) ?_
    refine W.widen (k := cells + 1) (n := slots + 6) (by omega) (by omega) ?_
    exact kk N (md_u D (k / 32) true) S H locs ls ⟨⟨h1, h2, pz_d hz (by unfold cb_cc; omega)⟩, ⟨_, hPw⟩, ⟨_, hPm⟩, hS⟩ (lv_sub hl [2, 3, 4, 5, 6] rfl)
set_option maxHeartbeats 4000000 in
set_option maxRecDepth 100000 in
/-- the law's case cover -/
theorem lc_cover {p : Program} {l : Launch} {e : Env} {s : State} {m : MethodId} {below : List Frame} {meth : Method} {c : Code} {dC : Nat → ClassId} {dI : Nat → Nat → Nat} {b L : Nat} {xs : Nat → Int32} {h a o q qa qb : Nat} {cI cJ cY cZ : ClassId} (hst : l.stackTraces = false) (hL : L ≤ 1536) (C0 : lw_At p s m meth c b L xs) (K0 : lp_K s (dC, dI) h a o q qa qb cI cJ cY cZ) {N i cells slots : Nat} {D S : Nat → Bool} {H : Heap} {locs : List Loc} {ls : Array Slot} (hi : i + 3 ≤ L) (hcl : cells + 1 ≤ 1036) (hsl : slots + 6 ≤ 9771) (V0 : lp_V s (dC, dI) h a o q qa qb cI cJ cY cZ N D S H locs) (hl : lv_has ls 7 [(4, .int (nI i)), (0, .ref b), (1, .ref h), (2, .ref q), (3, .ref o)])
    (kk : ∀ (N : Nat) (D S : Nat → Bool) (H : Heap) (locs : List Loc) (ls : Array Slot), lp_V s (dC, dI) h a o q qa qb cI cJ cY cZ N D S H locs → lv_has ls 7 [(4, .int (nI i)), (0, .ref b), (1, .ref h), (2, .ref q), (3, .ref o)] → W p l e room_1 s m #[Value.ref b] below meth c H locs (cells + 1) (slots + 6) (lw_Z below #[Value.ref b] s) (F0 m 663 ls [])) : W p l e room_1 s m #[Value.ref b] below meth c H locs cells slots (lw_Z below #[Value.ref b] s) (F0 m 204 ls []) := by
  obtain ⟨hx, hb, hr, hml, hown, hts0, hX, hbl, hlocks, hgv⟩ := C0
  have hts : ∀ w ∈ wsL_law, w.before #[Value.ref b] s = true := fun w h9 => hts0 w (wsL_law_in w h9)
  obtain ⟨hK, hJ, ⟨hne, ho, hmn⟩, hdj, hgx, hgm⟩ := K0
  obtain ⟨⟨h1, h2, hz⟩, ⟨g, hPw⟩, ⟨t, hPm⟩, hS⟩ := V0
  have hbA : ¬ (fun x : Nat => s.heap.size ≤ x) b := Nat.not_le.mpr hbl
  rcases ix_below (xs (i + 1)) (n := N) (by omega) with hbad | ⟨k, hk, e1⟩
  · refine lv_aload_n hx hb dL_law_204 rfl (lv_at hl 2 rfl) ?_
    refine lv_aload_n hx hb dL_law_205 rfl (lv_at hl 1 rfl) ?_
    refine lv_iload hx hb dL_law_206 (lv_at hl 0 rfl) ?_
    refine lv_iconst (v := 1) hx hb dL_law_208 (by decide) ?_
    refine lv_iadd hx hb dL_law_209 ?_
    refine cl_asi (nI_add i 1) ?_
    refine cl_sld hx hb hX hbl hbA hS (show i + 1 < L by omega) (by omega) dL_law_210 ?_
    refine lv_aload_n hx hb dL_law_211 rfl (lv_at hl 1 rfl) ?_
    refine lv_iload hx hb dL_law_212 (lv_at hl 0 rfl) ?_
    refine lv_iconst (v := 2) hx hb dL_law_214 (by decide) ?_
    refine lv_iadd hx hb dL_law_215 ?_
    refine cl_asi (nI_add i 2) ?_
    refine cl_sld hx hb hX hbl hbA hS (show i + 2 < L by omega) (by omega) dL_law_216 ?_
    refine lv_aload_n hx hb dL_law_217 rfl (lv_at hl 4 rfl) ?_
    refine lk_same (xt_runSW (As := [.ref h, .int (xs (i + 1)), .int (xs (i + 2)), .ref o]) (rest := []) ⟨hx, hb, hml, hown, hts⟩ (v_cover1 l hst dC dI h a cI N (pf_ D S) o cJ g (xs (i + 1)) (xs (i + 2)) hbad) (lk_cw 4 hts gL_law_L_cover rfl rfl rfl (by decide +kernel) ⟨Nat.le_of_ble_eq_true rfl, Nat.le_of_ble_eq_true rfl⟩) (lk_preT hJ hS (hK.sub (tys' := [(cI, .int), (cJ, .long)]) [0, 1] rfl) hPw) rfl rfl hl.1 rfl (lv_room (Nat.le_of_ble_eq_true rfl)) dL_law_218 ⟨by show _ ≤ 1036; omega, by show _ ≤ 9771; omega⟩) hS hPw hPm (fun H locs hPw hPm hS => ?_)
    refine lv_istore (lv' := [(5, .int 1), (4, .int (nI i)), (0, .ref b), (1, .ref h), (2, .ref q), (3, .ref o)]) hx hb dL_law_221 hl (by decide) rfl (fun ls hl => ?_)
    refine lv_aload_n hx hb dL_law_223 rfl (lv_at hl 4 rfl) ?_
    refine lv_aload_n hx hb dL_law_224 rfl (lv_at hl 2 rfl) ?_
    refine lv_iload hx hb dL_law_225 (lv_at hl 1 rfl) ?_
    refine lv_iconst (v := 1) hx hb dL_law_227 (by decide) ?_
    refine lv_iadd hx hb dL_law_228 ?_
    refine cl_asi (nI_add i 1) ?_
    refine cl_sld hx hb hX hbl hbA hS (show i + 1 < L by omega) (by omega) dL_law_229 ?_
    refine lv_aload_n hx hb dL_law_230 rfl (lv_at hl 2 rfl) ?_
    refine lv_iload hx hb dL_law_231 (lv_at hl 1 rfl) ?_
    refine lv_iconst (v := 2) hx hb dL_law_233 (by decide) ?_
    refine lv_iadd hx hb dL_law_234 ?_
    refine cl_asi (nI_add i 2) ?_
    refine cl_sld hx hb hX hbl hbA hS (show i + 2 < L by omega) (by omega) dL_law_235 ?_
    refine lk_call (va_runV (As := [.int (xs (i + 1)), .int (xs (i + 2))]) (rest := []) ⟨hx, hb, hml, hown, hts0⟩ (e1_cover1 l dC dI q qa qb cY cZ t N D S (xs (i + 1)) (xs (i + 2)) hbad hmn) (cwV 2 hts0 gL_law_X1_cover rfl rfl rfl (by decide +kernel) ⟨Nat.le_of_ble_eq_true rfl, Nat.le_of_ble_eq_true rfl⟩) (md_preV (hK.sub (tys' := [(cY, .boolean), (cZ, .boolean)]) [2, 3] rfl) hPm [.int (xs (i + 1)), .int (xs (i + 2))]) rfl rfl hl.1 rfl (lv_room (Nat.le_of_ble_eq_true rfl)) dL_law_236 ⟨by show _ ≤ 1036; omega, by show _ ≤ 9771; omega⟩) hS hgm hPw (lp_x hdj) (fun H locs hPm hPw hS => ?_)
    have hPm : va_P (dC, dI) vwCl (md_w q qa qb cY cZ 1 (nI N) D S) H := hPm
    refine lv_istore (lv' := [(6, .int (0 : Int32)), (5, .int 1), (4, .int (nI i)), (0, .ref b), (1, .ref h), (2, .ref q), (3, .ref o)]) hx hb dL_law_239 hl (by decide) rfl (fun ls hl => ?_)
    refine lv_aload_n hx hb dL_law_241 rfl (lv_at hl 5 rfl) ?_
    refine cl_calli (W.runV (As := []) (rest := []) ⟨hx, hb, hml, hown, hts⟩ (c1_thrown l dC dI q qa qb cY cZ 1 N D S) (cwV 0 hts gL_law_X1_thrown rfl rfl rfl (by decide +kernel) ⟨Nat.le_of_ble_eq_true rfl, Nat.le_of_ble_eq_true rfl⟩) (md_preV (hK.sub (tys' := [(cY, .boolean), (cZ, .boolean)]) [2, 3] rfl) hPm []) rfl rfl hl.1 rfl (lv_room (Nat.le_of_ble_eq_true rfl)) dL_law_242 ⟨by show _ ≤ 1036; omega, by show _ ≤ 9771; omega⟩) ?_
    refine lv_iload hx hb dL_law_245 (lv_at hl 1 rfl) ?_
    refine lv_icmp_eq (tgt := 252) hx hb dL_law_247 (by decide) (fun _ => ?_) (fun h9 => absurd rfl h9)
    refine lv_iload hx hb dL_law_252 (lv_at hl 1 rfl) ?_
    refine lv_if_ne (tgt := 269) hx hb dL_law_254 (by decide) (fun _ => ?_) (fun h9 => absurd h9 (by decide))
    refine lv_goto (tgt := 663) hx hb dL_law_269 (by decide) ?_
    refine W.widen (k := cells + 1) (n := slots + 6) (by omega) (by omega) ?_
    exact kk N D S H locs ls ⟨⟨h1, h2, hz⟩, ⟨_, hPw⟩, ⟨_, hPm⟩, hS⟩ (lv_sub hl [2, 3, 4, 5, 6] rfl)
  · rcases ix_size (xs (i + 2)) hk h2 with hbad | ⟨z, hz1, hkz, e2⟩
    · refine lv_aload_n hx hb dL_law_204 rfl (lv_at hl 2 rfl) ?_
      refine lv_aload_n hx hb dL_law_205 rfl (lv_at hl 1 rfl) ?_
      refine lv_iload hx hb dL_law_206 (lv_at hl 0 rfl) ?_
      refine lv_iconst (v := 1) hx hb dL_law_208 (by decide) ?_
      refine lv_iadd hx hb dL_law_209 ?_
      refine cl_asi (nI_add i 1) ?_
      refine cl_sld hx hb hX hbl hbA hS (show i + 1 < L by omega) (by omega) dL_law_210 ?_
      rw [e1]
      refine lv_aload_n hx hb dL_law_211 rfl (lv_at hl 1 rfl) ?_
      refine lv_iload hx hb dL_law_212 (lv_at hl 0 rfl) ?_
      refine lv_iconst (v := 2) hx hb dL_law_214 (by decide) ?_
      refine lv_iadd hx hb dL_law_215 ?_
      refine cl_asi (nI_add i 2) ?_
      refine cl_sld hx hb hX hbl hbA hS (show i + 2 < L by omega) (by omega) dL_law_216 ?_
      refine lv_aload_n hx hb dL_law_217 rfl (lv_at hl 4 rfl) ?_
      refine lk_same (xt_runSW (As := [.ref h, .int (nI k), .int (xs (i + 2)), .ref o]) (rest := []) ⟨hx, hb, hml, hown, hts⟩ (v_cover2 l hst dC dI h a cI N (pf_ D S) o cJ g k (xs (i + 2)) h2 hk hbad) (lk_cw 4 hts gL_law_L_cover rfl rfl rfl (by decide +kernel) ⟨Nat.le_of_ble_eq_true rfl, Nat.le_of_ble_eq_true rfl⟩) (lk_preT hJ hS (hK.sub (tys' := [(cI, .int), (cJ, .long)]) [0, 1] rfl) hPw) rfl rfl hl.1 rfl (lv_room (Nat.le_of_ble_eq_true rfl)) dL_law_218 ⟨by show _ ≤ 1036; omega, by show _ ≤ 9771; omega⟩) hS hPw hPm (fun H locs hPw hPm hS => ?_)
      refine lv_istore (lv' := [(5, .int 1), (4, .int (nI i)), (0, .ref b), (1, .ref h), (2, .ref q), (3, .ref o)]) hx hb dL_law_221 hl (by decide) rfl (fun ls hl => ?_)
      refine lv_aload_n hx hb dL_law_223 rfl (lv_at hl 4 rfl) ?_
      refine lv_aload_n hx hb dL_law_224 rfl (lv_at hl 2 rfl) ?_
      refine lv_iload hx hb dL_law_225 (lv_at hl 1 rfl) ?_
      refine lv_iconst (v := 1) hx hb dL_law_227 (by decide) ?_
      refine lv_iadd hx hb dL_law_228 ?_
      refine cl_asi (nI_add i 1) ?_
      refine cl_sld hx hb hX hbl hbA hS (show i + 1 < L by omega) (by omega) dL_law_229 ?_
      rw [e1]
      refine lv_aload_n hx hb dL_law_230 rfl (lv_at hl 2 rfl) ?_
      refine lv_iload hx hb dL_law_231 (lv_at hl 1 rfl) ?_
      refine lv_iconst (v := 2) hx hb dL_law_233 (by decide) ?_
      refine lv_iadd hx hb dL_law_234 ?_
      refine cl_asi (nI_add i 2) ?_
      refine cl_sld hx hb hX hbl hbA hS (show i + 2 < L by omega) (by omega) dL_law_235 ?_
      refine lk_call (va_runV (As := [.int (nI k), .int (xs (i + 2))]) (rest := []) ⟨hx, hb, hml, hown, hts0⟩ (e1_cover2 l dC dI q qa qb cY cZ t N D S k (xs (i + 2)) h2 hk hbad hmn) (cwV 2 hts0 gL_law_X1_cover rfl rfl rfl (by decide +kernel) ⟨Nat.le_of_ble_eq_true rfl, Nat.le_of_ble_eq_true rfl⟩) (md_preV (hK.sub (tys' := [(cY, .boolean), (cZ, .boolean)]) [2, 3] rfl) hPm [.int (nI k), .int (xs (i + 2))]) rfl rfl hl.1 rfl (lv_room (Nat.le_of_ble_eq_true rfl)) dL_law_236 ⟨by show _ ≤ 1036; omega, by show _ ≤ 9771; omega⟩) hS hgm hPw (lp_x hdj) (fun H locs hPm hPw hS => ?_)
      have hPm : va_P (dC, dI) vwCl (md_w q qa qb cY cZ 1 (nI N) D S) H := hPm
      refine lv_istore (lv' := [(6, .int (0 : Int32)), (5, .int 1), (4, .int (nI i)), (0, .ref b), (1, .ref h), (2, .ref q), (3, .ref o)]) hx hb dL_law_239 hl (by decide) rfl (fun ls hl => ?_)
      refine lv_aload_n hx hb dL_law_241 rfl (lv_at hl 5 rfl) ?_
      refine cl_calli (W.runV (As := []) (rest := []) ⟨hx, hb, hml, hown, hts⟩ (c1_thrown l dC dI q qa qb cY cZ 1 N D S) (cwV 0 hts gL_law_X1_thrown rfl rfl rfl (by decide +kernel) ⟨Nat.le_of_ble_eq_true rfl, Nat.le_of_ble_eq_true rfl⟩) (md_preV (hK.sub (tys' := [(cY, .boolean), (cZ, .boolean)]) [2, 3] rfl) hPm []) rfl rfl hl.1 rfl (lv_room (Nat.le_of_ble_eq_true rfl)) dL_law_242 ⟨by show _ ≤ 1036; omega, by show _ ≤ 9771; omega⟩) ?_
      refine lv_iload hx hb dL_law_245 (lv_at hl 1 rfl) ?_
      refine lv_icmp_eq (tgt := 252) hx hb dL_law_247 (by decide) (fun _ => ?_) (fun h9 => absurd rfl h9)
      refine lv_iload hx hb dL_law_252 (lv_at hl 1 rfl) ?_
      refine lv_if_ne (tgt := 269) hx hb dL_law_254 (by decide) (fun _ => ?_) (fun h9 => absurd h9 (by decide))
      refine lv_goto (tgt := 663) hx hb dL_law_269 (by decide) ?_
      refine W.widen (k := cells + 1) (n := slots + 6) (by omega) (by omega) ?_
      exact kk N D S H locs ls ⟨⟨h1, h2, hz⟩, ⟨_, hPw⟩, ⟨_, hPm⟩, hS⟩ (lv_sub hl [2, 3, 4, 5, 6] rfl)
    · refine lv_aload_n hx hb dL_law_204 rfl (lv_at hl 2 rfl) ?_
      refine lv_aload_n hx hb dL_law_205 rfl (lv_at hl 1 rfl) ?_
      refine lv_iload hx hb dL_law_206 (lv_at hl 0 rfl) ?_
      refine lv_iconst (v := 1) hx hb dL_law_208 (by decide) ?_
      refine lv_iadd hx hb dL_law_209 ?_
      refine cl_asi (nI_add i 1) ?_
      refine cl_sld hx hb hX hbl hbA hS (show i + 1 < L by omega) (by omega) dL_law_210 ?_
      rw [e1]
      refine lv_aload_n hx hb dL_law_211 rfl (lv_at hl 1 rfl) ?_
      refine lv_iload hx hb dL_law_212 (lv_at hl 0 rfl) ?_
      refine lv_iconst (v := 2) hx hb dL_law_214 (by decide) ?_
      refine lv_iadd hx hb dL_law_215 ?_
      refine cl_asi (nI_add i 2) ?_
      refine cl_sld hx hb hX hbl hbA hS (show i + 2 < L by omega) (by omega) dL_law_216 ?_
      rw [e2]
      refine lv_aload_n hx hb dL_law_217 rfl (lv_at hl 4 rfl) ?_
      refine lk_call (xt_runSW (As := [.ref h, .int (nI k), .int (nI z), .ref o]) (rest := []) ⟨hx, hb, hml, hown, hts⟩ (w_cover l dC dI h a cI N (pf_ D S) o cJ g hne ho k z h2 hz1 hkz) (lk_cw 4 hts gL_law_L_cover rfl rfl rfl (by decide +kernel) ⟨Nat.le_of_ble_eq_true rfl, Nat.le_of_ble_eq_true rfl⟩) (lk_preS (hK.sub (tys' := [(cI, .int), (cJ, .long)]) [0, 1] rfl) hPw) rfl rfl hl.1 rfl (lv_room (Nat.le_of_ble_eq_true rfl)) dL_law_218 ⟨by show _ ≤ 1036; omega, by show _ ≤ 9771; omega⟩) hS hgx hPm (lp_m hdj) (fun H locs hPw hPm hS => ?_)
      have hPw : va_P (dC, dI) vwCl (wr_w h a cI (nI N) (cb_cov (pf_ D S) (k / 32) (((k + z - 1) / 32) + 1)) o cJ (vp_updL g 0 (Int32.toInt64 (nI (((k + z - 1) / 32) - k / 32 + 1))))) H := hPw
      refine lv_istore (lv' := [(5, .int 0), (4, .int (nI i)), (0, .ref b), (1, .ref h), (2, .ref q), (3, .ref o)]) hx hb dL_law_221 hl (by decide) rfl (fun ls hl => ?_)
      refine lv_aload_n hx hb dL_law_223 rfl (lv_at hl 4 rfl) ?_
      refine lv_aload_n hx hb dL_law_224 rfl (lv_at hl 2 rfl) ?_
      refine lv_iload hx hb dL_law_225 (lv_at hl 1 rfl) ?_
      refine lv_iconst (v := 1) hx hb dL_law_227 (by decide) ?_
      refine lv_iadd hx hb dL_law_228 ?_
      refine cl_asi (nI_add i 1) ?_
      refine cl_sld hx hb hX hbl hbA hS (show i + 1 < L by omega) (by omega) dL_law_229 ?_
      rw [e1]
      refine lv_aload_n hx hb dL_law_230 rfl (lv_at hl 2 rfl) ?_
      refine lv_iload hx hb dL_law_231 (lv_at hl 1 rfl) ?_
      refine lv_iconst (v := 2) hx hb dL_law_233 (by decide) ?_
      refine lv_iadd hx hb dL_law_234 ?_
      refine cl_asi (nI_add i 2) ?_
      refine cl_sld hx hb hX hbl hbA hS (show i + 2 < L by omega) (by omega) dL_law_235 ?_
      rw [e2]
      refine lk_call (va_runV (As := [.int (nI k), .int (nI z)]) (rest := []) ⟨hx, hb, hml, hown, hts0⟩ (c1_cover l dC dI q qa qb cY cZ t N D S k z h1 h2 hz1 hkz hmn) (cwV 2 hts0 gL_law_X1_cover rfl rfl rfl (by decide +kernel) ⟨Nat.le_of_ble_eq_true rfl, Nat.le_of_ble_eq_true rfl⟩) (md_preV (hK.sub (tys' := [(cY, .boolean), (cZ, .boolean)]) [2, 3] rfl) hPm [.int (nI k), .int (nI z)]) rfl rfl hl.1 rfl (lv_room (Nat.le_of_ble_eq_true rfl)) dL_law_236 ⟨by show _ ≤ 1036; omega, by show _ ≤ 9771; omega⟩) hS hgm hPw (lp_x hdj) (fun H locs hPm hPw hS => ?_)
      have hPm : va_P (dC, dI) vwCl (md_w q qa qb cY cZ 0 (nI N) D (md_cv S (k / 32) ((k + z - 1) / 32) (cb_cc N))) H := hPm
      refine lv_istore (lv' := [(6, .int (nI (md_n (k / 32) ((k + z - 1) / 32) (cb_cc N)))), (5, .int 0), (4, .int (nI i)), (0, .ref b), (1, .ref h), (2, .ref q), (3, .ref o)]) hx hb dL_law_239 hl (by decide) rfl (fun ls hl => ?_)
      refine lv_aload_n hx hb dL_law_241 rfl (lv_at hl 5 rfl) ?_
      refine cl_calli (W.runV (As := []) (rest := []) ⟨hx, hb, hml, hown, hts⟩ (c1_thrown l dC dI q qa qb cY cZ 0 N D (md_cv S (k / 32) ((k + z - 1) / 32) (cb_cc N))) (cwV 0 hts gL_law_X1_thrown rfl rfl rfl (by decide +kernel) ⟨Nat.le_of_ble_eq_true rfl, Nat.le_of_ble_eq_true rfl⟩) (md_preV (hK.sub (tys' := [(cY, .boolean), (cZ, .boolean)]) [2, 3] rfl) hPm []) rfl rfl hl.1 rfl (lv_room (Nat.le_of_ble_eq_true rfl)) dL_law_242 ⟨by show _ ≤ 1036; omega, by show _ ≤ 9771; omega⟩) ?_
      refine lv_iload hx hb dL_law_245 (lv_at hl 1 rfl) ?_
      refine lv_icmp_eq (tgt := 252) hx hb dL_law_247 (by decide) (fun _ => ?_) (fun h9 => absurd rfl h9)
      refine lv_iload hx hb dL_law_252 (lv_at hl 1 rfl) ?_
      refine lv_if_ne (tgt := 269) hx hb dL_law_254 (by decide) (fun h9 => absurd rfl h9) (fun _ => ?_)
      refine lv_aload_n hx hb dL_law_257 rfl (lv_at hl 6 rfl) ?_
      refine lv_iconst (v := 0) hx hb dL_law_258 (by decide) ?_
      rw [pu_cover (M := (cb_cc N)) (show ((k + z - 1) / 32) < (cb_cc N) by unfold cb_cc; omega), ← pu_len hz1 hkz] at hPw
      refine lk_out (v := (Int32.toInt64 (nI (md_n (k / 32) ((k + z - 1) / 32) (cb_cc N))))) hx hb hK rfl hPw dL_law_259 ?_
      refine lv_iload hx hb dL_law_260 (lv_at hl 0 rfl) ?_
      refine lv_i2l (v := Int32.toInt64 (nI (md_n (k / 32) ((k + z - 1) / 32) (cb_cc N)))) hx hb dL_law_262 rfl ?_
      refine W.lcmp hx hb dL_law_263 ?_
      refine cl_asi (lk_cmp _) ?_
      refine lv_if_eq (tgt := 269) hx hb dL_law_264 (by decide) (fun _ => ?_) (fun h9 => absurd rfl h9)
      refine lv_goto (tgt := 663) hx hb dL_law_269 (by decide) ?_
      refine W.widen (k := cells + 1) (n := slots + 6) (by omega) (by omega) ?_
      exact kk N D (md_cv S (k / 32) ((k + z - 1) / 32) (cb_cc N)) H locs ls ⟨⟨h1, h2, pz_cv hz⟩, ⟨_, hPw⟩, ⟨_, hPm⟩, hS⟩ (lv_sub hl [2, 3, 4, 5, 6] rfl)
set_option maxHeartbeats 4000000 in
set_option maxRecDepth 100000 in
/-- the law's case clean -/
theorem lc_clean0 {p : Program} {l : Launch} {e : Env} {s : State} {m : MethodId} {below : List Frame} {meth : Method} {c : Code} {dC : Nat → ClassId} {dI : Nat → Nat → Nat} {b L : Nat} {xs : Nat → Int32} {h a o q qa qb : Nat} {cI cJ cY cZ : ClassId} (hst : l.stackTraces = false) (hL : L ≤ 1536) (C0 : lw_At p s m meth c b L xs) (K0 : lp_K s (dC, dI) h a o q qa qb cI cJ cY cZ) {N i cells slots : Nat} {D S : Nat → Bool} {H : Heap} {locs : List Loc} {ls : Array Slot} (hi : i + 3 ≤ L) (hbb : xs (i + 2) = 0) (hcl : cells + 1 ≤ 1036) (hsl : slots + 6 ≤ 9771) (V0 : lp_V s (dC, dI) h a o q qa qb cI cJ cY cZ N D S H locs) (hl : lv_has ls 7 [(4, .int (nI i)), (0, .ref b), (1, .ref h), (2, .ref q), (3, .ref o)])
    (kk : ∀ (N : Nat) (D S : Nat → Bool) (H : Heap) (locs : List Loc) (ls : Array Slot), lp_V s (dC, dI) h a o q qa qb cI cJ cY cZ N D S H locs → lv_has ls 7 [(4, .int (nI i)), (0, .ref b), (1, .ref h), (2, .ref q), (3, .ref o)] → W p l e room_1 s m #[Value.ref b] below meth c H locs (cells + 1) (slots + 6) (lw_Z below #[Value.ref b] s) (F0 m 663 ls [])) : W p l e room_1 s m #[Value.ref b] below meth c H locs cells slots (lw_Z below #[Value.ref b] s) (F0 m 272 ls []) := by
  obtain ⟨hx, hb, hr, hml, hown, hts0, hX, hbl, hlocks, hgv⟩ := C0
  have hts : ∀ w ∈ wsL_law, w.before #[Value.ref b] s = true := fun w h9 => hts0 w (wsL_law_in w h9)
  obtain ⟨hK, hJ, ⟨hne, ho, hmn⟩, hdj, hgx, hgm⟩ := K0
  obtain ⟨⟨h1, h2, hz⟩, ⟨g, hPw⟩, ⟨t, hPm⟩, hS⟩ := V0
  have hbA : ¬ (fun x : Nat => s.heap.size ≤ x) b := Nat.not_le.mpr hbl
  rcases ix_below (xs (i + 1)) (n := cb_cc N) (by have := cb_cc_le h2; omega) with hbad | ⟨k, hk, e1⟩
  · refine lv_aload_n hx hb dL_law_272 rfl (lv_at hl 2 rfl) ?_
    refine lv_aload_n hx hb dL_law_273 rfl (lv_at hl 1 rfl) ?_
    refine lv_iload hx hb dL_law_274 (lv_at hl 0 rfl) ?_
    refine lv_iconst (v := 1) hx hb dL_law_276 (by decide) ?_
    refine lv_iadd hx hb dL_law_277 ?_
    refine cl_asi (nI_add i 1) ?_
    refine cl_sld hx hb hX hbl hbA hS (show i + 1 < L by omega) (by omega) dL_law_278 ?_
    refine lv_aload_n hx hb dL_law_279 rfl (lv_at hl 1 rfl) ?_
    refine lv_iload hx hb dL_law_280 (lv_at hl 0 rfl) ?_
    refine lv_iconst (v := 2) hx hb dL_law_282 (by decide) ?_
    refine lv_iadd hx hb dL_law_283 ?_
    refine cl_asi (nI_add i 2) ?_
    refine cl_sld hx hb hX hbl hbA hS (show i + 2 < L by omega) (by omega) dL_law_284 ?_
    refine lv_if_eq (tgt := 292) hx hb dL_law_285 (by decide) (fun _ => ?_) (fun h9 => absurd hbb h9)
    refine lv_iconst (v := 0) hx hb dL_law_292 (by decide) ?_
    refine lv_aload_n hx hb dL_law_293 rfl (lv_at hl 4 rfl) ?_
    refine lk_same (xt_runSW (As := [.ref h, .int (xs (i + 1)), .int 0, .ref o]) (rest := []) ⟨hx, hb, hml, hown, hts⟩ (v_clean l hst dC dI h a cI N (pf_ D S) o cJ g (xs (i + 1)) 0 h1 h2 hbad) (lk_cw 4 hts gL_law_L_clean rfl rfl rfl (by decide +kernel) ⟨Nat.le_of_ble_eq_true rfl, Nat.le_of_ble_eq_true rfl⟩) (lk_preT hJ hS (hK.sub (tys' := [(cI, .int), (cJ, .long)]) [0, 1] rfl) hPw) rfl rfl hl.1 rfl (lv_room (Nat.le_of_ble_eq_true rfl)) dL_law_294 ⟨by show _ ≤ 1036; omega, by show _ ≤ 9771; omega⟩) hS hPw hPm (fun H locs hPw hPm hS => ?_)
    refine lv_istore (lv' := [(5, .int 1), (4, .int (nI i)), (0, .ref b), (1, .ref h), (2, .ref q), (3, .ref o)]) hx hb dL_law_297 hl (by decide) rfl (fun ls hl => ?_)
    refine lv_aload_n hx hb dL_law_299 rfl (lv_at hl 4 rfl) ?_
    refine lv_aload_n hx hb dL_law_300 rfl (lv_at hl 2 rfl) ?_
    refine lv_iload hx hb dL_law_301 (lv_at hl 1 rfl) ?_
    refine lv_iconst (v := 1) hx hb dL_law_303 (by decide) ?_
    refine lv_iadd hx hb dL_law_304 ?_
    refine cl_asi (nI_add i 1) ?_
    refine cl_sld hx hb hX hbl hbA hS (show i + 1 < L by omega) (by omega) dL_law_305 ?_
    refine lv_aload_n hx hb dL_law_306 rfl (lv_at hl 2 rfl) ?_
    refine lv_iload hx hb dL_law_307 (lv_at hl 1 rfl) ?_
    refine lv_iconst (v := 2) hx hb dL_law_309 (by decide) ?_
    refine lv_iadd hx hb dL_law_310 ?_
    refine cl_asi (nI_add i 2) ?_
    refine cl_sld hx hb hX hbl hbA hS (show i + 2 < L by omega) (by omega) dL_law_311 ?_
    refine lv_if_eq (tgt := 319) hx hb dL_law_312 (by decide) (fun _ => ?_) (fun h9 => absurd hbb h9)
    refine lv_iconst (v := 0) hx hb dL_law_319 (by decide) ?_
    refine lk_call (va_runV (As := [.int (xs (i + 1)), .int 0]) (rest := []) ⟨hx, hb, hml, hown, hts0⟩ (e1_clean l dC dI q qa qb cY cZ t N D S (xs (i + 1)) 0 h1 h2 hbad hmn) (cwV 2 hts0 gL_law_X1_clean rfl rfl rfl (by decide +kernel) ⟨Nat.le_of_ble_eq_true rfl, Nat.le_of_ble_eq_true rfl⟩) (md_preV (hK.sub (tys' := [(cY, .boolean), (cZ, .boolean)]) [2, 3] rfl) hPm [.int (xs (i + 1)), .int 0]) rfl rfl hl.1 rfl (lv_room (Nat.le_of_ble_eq_true rfl)) dL_law_320 ⟨by show _ ≤ 1036; omega, by show _ ≤ 9771; omega⟩) hS hgm hPw (lp_x hdj) (fun H locs hPm hPw hS => ?_)
    have hPm : va_P (dC, dI) vwCl (md_w q qa qb cY cZ 1 (nI N) D S) H := hPm
    refine lv_istore (lv' := [(6, .int (0 : Int32)), (5, .int 1), (4, .int (nI i)), (0, .ref b), (1, .ref h), (2, .ref q), (3, .ref o)]) hx hb dL_law_323 hl (by decide) rfl (fun ls hl => ?_)
    refine lv_aload_n hx hb dL_law_325 rfl (lv_at hl 5 rfl) ?_
    refine cl_calli (W.runV (As := []) (rest := []) ⟨hx, hb, hml, hown, hts⟩ (c1_thrown l dC dI q qa qb cY cZ 1 N D S) (cwV 0 hts gL_law_X1_thrown rfl rfl rfl (by decide +kernel) ⟨Nat.le_of_ble_eq_true rfl, Nat.le_of_ble_eq_true rfl⟩) (md_preV (hK.sub (tys' := [(cY, .boolean), (cZ, .boolean)]) [2, 3] rfl) hPm []) rfl rfl hl.1 rfl (lv_room (Nat.le_of_ble_eq_true rfl)) dL_law_326 ⟨by show _ ≤ 1036; omega, by show _ ≤ 9771; omega⟩) ?_
    refine lv_iload hx hb dL_law_329 (lv_at hl 1 rfl) ?_
    refine lv_icmp_eq (tgt := 336) hx hb dL_law_331 (by decide) (fun _ => ?_) (fun h9 => absurd rfl h9)
    refine lv_iload hx hb dL_law_336 (lv_at hl 1 rfl) ?_
    refine lv_if_ne (tgt := 360) hx hb dL_law_338 (by decide) (fun _ => ?_) (fun h9 => absurd h9 (by decide))
    refine lv_goto (tgt := 663) hx hb dL_law_360 (by decide) ?_
    refine W.widen (k := cells + 1) (n := slots + 6) (by omega) (by omega) ?_
    exact kk N D S H locs ls ⟨⟨h1, h2, hz⟩, ⟨_, hPw⟩, ⟨_, hPm⟩, hS⟩ (lv_sub hl [2, 3, 4, 5, 6] rfl)
  · refine lv_aload_n hx hb dL_law_272 rfl (lv_at hl 2 rfl) ?_
    refine lv_aload_n hx hb dL_law_273 rfl (lv_at hl 1 rfl) ?_
    refine lv_iload hx hb dL_law_274 (lv_at hl 0 rfl) ?_
    refine lv_iconst (v := 1) hx hb dL_law_276 (by decide) ?_
    refine lv_iadd hx hb dL_law_277 ?_
    refine cl_asi (nI_add i 1) ?_
    refine cl_sld hx hb hX hbl hbA hS (show i + 1 < L by omega) (by omega) dL_law_278 ?_
    rw [e1]
    refine lv_aload_n hx hb dL_law_279 rfl (lv_at hl 1 rfl) ?_
    refine lv_iload hx hb dL_law_280 (lv_at hl 0 rfl) ?_
    refine lv_iconst (v := 2) hx hb dL_law_282 (by decide) ?_
    refine lv_iadd hx hb dL_law_283 ?_
    refine cl_asi (nI_add i 2) ?_
    refine cl_sld hx hb hX hbl hbA hS (show i + 2 < L by omega) (by omega) dL_law_284 ?_
    refine lv_if_eq (tgt := 292) hx hb dL_law_285 (by decide) (fun _ => ?_) (fun h9 => absurd hbb h9)
    refine lv_iconst (v := 0) hx hb dL_law_292 (by decide) ?_
    refine lv_aload_n hx hb dL_law_293 rfl (lv_at hl 4 rfl) ?_
    refine lk_call (xt_runSW (As := [.ref h, .int (nI k), .int 0, .ref o]) (rest := []) ⟨hx, hb, hml, hown, hts⟩ (w_clean l dC dI h a cI N (pf_ D S) o cJ g hne ho k 0 h1 h2 hk) (lk_cw 4 hts gL_law_L_clean rfl rfl rfl (by decide +kernel) ⟨Nat.le_of_ble_eq_true rfl, Nat.le_of_ble_eq_true rfl⟩) (lk_preS (hK.sub (tys' := [(cI, .int), (cJ, .long)]) [0, 1] rfl) hPw) rfl rfl hl.1 rfl (lv_room (Nat.le_of_ble_eq_true rfl)) dL_law_294 ⟨by show _ ≤ 1036; omega, by show _ ≤ 9771; omega⟩) hS hgx hPm (lp_m hdj) (fun H locs hPw hPm hS => ?_)
    have hPw : va_P (dC, dI) vwCl (wr_w h a cI (nI N) (cb_cl (pf_ D S) k 0) o cJ (vp_updL g 0 (if (if pf_ D S k &&& 1 = 0 then (0 : Int32) else 1) = 0 then (0 : Int64) else 1))) H := hPw
    refine lv_istore (lv' := [(5, .int 0), (4, .int (nI i)), (0, .ref b), (1, .ref h), (2, .ref q), (3, .ref o)]) hx hb dL_law_297 hl (by decide) rfl (fun ls hl => ?_)
    refine lv_aload_n hx hb dL_law_299 rfl (lv_at hl 4 rfl) ?_
    refine lv_aload_n hx hb dL_law_300 rfl (lv_at hl 2 rfl) ?_
    refine lv_iload hx hb dL_law_301 (lv_at hl 1 rfl) ?_
    refine lv_iconst (v := 1) hx hb dL_law_303 (by decide) ?_
    refine lv_iadd hx hb dL_law_304 ?_
    refine cl_asi (nI_add i 1) ?_
    refine cl_sld hx hb hX hbl hbA hS (show i + 1 < L by omega) (by omega) dL_law_305 ?_
    rw [e1]
    refine lv_aload_n hx hb dL_law_306 rfl (lv_at hl 2 rfl) ?_
    refine lv_iload hx hb dL_law_307 (lv_at hl 1 rfl) ?_
    refine lv_iconst (v := 2) hx hb dL_law_309 (by decide) ?_
    refine lv_iadd hx hb dL_law_310 ?_
    refine cl_asi (nI_add i 2) ?_
    refine cl_sld hx hb hX hbl hbA hS (show i + 2 < L by omega) (by omega) dL_law_311 ?_
    refine lv_if_eq (tgt := 319) hx hb dL_law_312 (by decide) (fun _ => ?_) (fun h9 => absurd hbb h9)
    refine lv_iconst (v := 0) hx hb dL_law_319 (by decide) ?_
    refine lk_call (va_runV (As := [.int (nI k), .int (md_b false)]) (rest := []) ⟨hx, hb, hml, hown, hts0⟩ (c1_clean l dC dI q qa qb cY cZ t N D S k false h1 h2 hk hmn) (cwV 2 hts0 gL_law_X1_clean rfl rfl rfl (by decide +kernel) ⟨Nat.le_of_ble_eq_true rfl, Nat.le_of_ble_eq_true rfl⟩) (md_preV (hK.sub (tys' := [(cY, .boolean), (cZ, .boolean)]) [2, 3] rfl) hPm [.int (nI k), .int (md_b false)]) rfl rfl hl.1 rfl (lv_room (Nat.le_of_ble_eq_true rfl)) dL_law_320 ⟨by show _ ≤ 1036; omega, by show _ ≤ 9771; omega⟩) hS hgm hPw (lp_x hdj) (fun H locs hPm hPw hS => ?_)
    have hPm : va_P (dC, dI) vwCl (md_w q qa qb cY cZ 0 (nI N) (md_u D k false) (md_u S k (S k || (D k && false)))) H := hPm
    refine lv_istore (lv' := [(6, .int (md_b (D k))), (5, .int 0), (4, .int (nI i)), (0, .ref b), (1, .ref h), (2, .ref q), (3, .ref o)]) hx hb dL_law_323 hl (by decide) rfl (fun ls hl => ?_)
    refine lv_aload_n hx hb dL_law_325 rfl (lv_at hl 5 rfl) ?_
    refine cl_calli (W.runV (As := []) (rest := []) ⟨hx, hb, hml, hown, hts⟩ (c1_thrown l dC dI q qa qb cY cZ 0 N (md_u D k false) (md_u S k (S k || (D k && false)))) (cwV 0 hts gL_law_X1_thrown rfl rfl rfl (by decide +kernel) ⟨Nat.le_of_ble_eq_true rfl, Nat.le_of_ble_eq_true rfl⟩) (md_preV (hK.sub (tys' := [(cY, .boolean), (cZ, .boolean)]) [2, 3] rfl) hPm []) rfl rfl hl.1 rfl (lv_room (Nat.le_of_ble_eq_true rfl)) dL_law_326 ⟨by show _ ≤ 1036; omega, by show _ ≤ 9771; omega⟩) ?_
    refine lv_iload hx hb dL_law_329 (lv_at hl 1 rfl) ?_
    refine lv_icmp_eq (tgt := 336) hx hb dL_law_331 (by decide) (fun _ => ?_) (fun h9 => absurd rfl h9)
    refine lv_iload hx hb dL_law_336 (lv_at hl 1 rfl) ?_
    refine lv_if_ne (tgt := 360) hx hb dL_law_338 (by decide) (fun h9 => absurd rfl h9) (fun _ => ?_)
    refine lv_aload_n hx hb dL_law_341 rfl (lv_at hl 6 rfl) ?_
    refine lv_iconst (v := 0) hx hb dL_law_342 (by decide) ?_
    rw [show cb_cl (pf_ D S) k 0 = cb_cl (pf_ D S) k (md_b false) from rfl, pu_clean, pu_r1] at hPw
    refine lk_out (v := (if (md_b (D k)) = 0 then (0 : Int64) else 1)) hx hb hK rfl hPw dL_law_343 ?_
    refine lv_iload hx hb dL_law_344 (lv_at hl 0 rfl) ?_
    refine lv_if_eq (tgt := 353) hx hb dL_law_346 (by decide) (fun hc => ?_) (fun hc => ?_)
    · refine lv_lconst (v := 0) hx hb dL_law_353 (by decide) ?_
      refine W.lcmp hx hb dL_law_354 ?_
      refine cl_asi (y := 0) (by rw [if_pos hc]; exact lk_cmp _) ?_
      refine lv_if_eq (tgt := 360) hx hb dL_law_355 (by decide) (fun _ => ?_) (fun h9 => absurd rfl h9)
      refine lv_goto (tgt := 663) hx hb dL_law_360 (by decide) ?_
      refine W.widen (k := cells + 1) (n := slots + 6) (by omega) (by omega) ?_
      exact kk N (md_u D k false) (md_u S k (S k || (D k && false))) H locs ls ⟨⟨h1, h2, pz_u hz hk⟩, ⟨_, hPw⟩, ⟨_, hPm⟩, hS⟩ (lv_sub hl [2, 3, 4, 5, 6] rfl)
    · refine lv_lconst (v := 1) hx hb dL_law_349 (by decide) ?_
      refine lv_goto (tgt := 354) hx hb dL_law_350 (by decide) ?_
      refine W.lcmp hx hb dL_law_354 ?_
      refine cl_asi (y := 0) (by rw [if_neg hc]; exact lk_cmp _) ?_
      refine lv_if_eq (tgt := 360) hx hb dL_law_355 (by decide) (fun _ => ?_) (fun h9 => absurd rfl h9)
      refine lv_goto (tgt := 663) hx hb dL_law_360 (by decide) ?_
      refine W.widen (k := cells + 1) (n := slots + 6) (by omega) (by omega) ?_
      exact kk N (md_u D k false) (md_u S k (S k || (D k && false))) H locs ls ⟨⟨h1, h2, pz_u hz hk⟩, ⟨_, hPw⟩, ⟨_, hPm⟩, hS⟩ (lv_sub hl [2, 3, 4, 5, 6] rfl)
set_option maxHeartbeats 4000000 in
set_option maxRecDepth 100000 in
/-- the law's case clean -/
theorem lc_clean1 {p : Program} {l : Launch} {e : Env} {s : State} {m : MethodId} {below : List Frame} {meth : Method} {c : Code} {dC : Nat → ClassId} {dI : Nat → Nat → Nat} {b L : Nat} {xs : Nat → Int32} {h a o q qa qb : Nat} {cI cJ cY cZ : ClassId} (hst : l.stackTraces = false) (hL : L ≤ 1536) (C0 : lw_At p s m meth c b L xs) (K0 : lp_K s (dC, dI) h a o q qa qb cI cJ cY cZ) {N i cells slots : Nat} {D S : Nat → Bool} {H : Heap} {locs : List Loc} {ls : Array Slot} (hi : i + 3 ≤ L) (hbb : ¬ xs (i + 2) = 0) (hcl : cells + 1 ≤ 1036) (hsl : slots + 6 ≤ 9771) (V0 : lp_V s (dC, dI) h a o q qa qb cI cJ cY cZ N D S H locs) (hl : lv_has ls 7 [(4, .int (nI i)), (0, .ref b), (1, .ref h), (2, .ref q), (3, .ref o)])
    (kk : ∀ (N : Nat) (D S : Nat → Bool) (H : Heap) (locs : List Loc) (ls : Array Slot), lp_V s (dC, dI) h a o q qa qb cI cJ cY cZ N D S H locs → lv_has ls 7 [(4, .int (nI i)), (0, .ref b), (1, .ref h), (2, .ref q), (3, .ref o)] → W p l e room_1 s m #[Value.ref b] below meth c H locs (cells + 1) (slots + 6) (lw_Z below #[Value.ref b] s) (F0 m 663 ls [])) : W p l e room_1 s m #[Value.ref b] below meth c H locs cells slots (lw_Z below #[Value.ref b] s) (F0 m 272 ls []) := by
  obtain ⟨hx, hb, hr, hml, hown, hts0, hX, hbl, hlocks, hgv⟩ := C0
  have hts : ∀ w ∈ wsL_law, w.before #[Value.ref b] s = true := fun w h9 => hts0 w (wsL_law_in w h9)
  obtain ⟨hK, hJ, ⟨hne, ho, hmn⟩, hdj, hgx, hgm⟩ := K0
  obtain ⟨⟨h1, h2, hz⟩, ⟨g, hPw⟩, ⟨t, hPm⟩, hS⟩ := V0
  have hbA : ¬ (fun x : Nat => s.heap.size ≤ x) b := Nat.not_le.mpr hbl
  rcases ix_below (xs (i + 1)) (n := cb_cc N) (by have := cb_cc_le h2; omega) with hbad | ⟨k, hk, e1⟩
  · refine lv_aload_n hx hb dL_law_272 rfl (lv_at hl 2 rfl) ?_
    refine lv_aload_n hx hb dL_law_273 rfl (lv_at hl 1 rfl) ?_
    refine lv_iload hx hb dL_law_274 (lv_at hl 0 rfl) ?_
    refine lv_iconst (v := 1) hx hb dL_law_276 (by decide) ?_
    refine lv_iadd hx hb dL_law_277 ?_
    refine cl_asi (nI_add i 1) ?_
    refine cl_sld hx hb hX hbl hbA hS (show i + 1 < L by omega) (by omega) dL_law_278 ?_
    refine lv_aload_n hx hb dL_law_279 rfl (lv_at hl 1 rfl) ?_
    refine lv_iload hx hb dL_law_280 (lv_at hl 0 rfl) ?_
    refine lv_iconst (v := 2) hx hb dL_law_282 (by decide) ?_
    refine lv_iadd hx hb dL_law_283 ?_
    refine cl_asi (nI_add i 2) ?_
    refine cl_sld hx hb hX hbl hbA hS (show i + 2 < L by omega) (by omega) dL_law_284 ?_
    refine lv_if_eq (tgt := 292) hx hb dL_law_285 (by decide) (fun h9 => absurd h9 hbb) (fun _ => ?_)
    refine lv_iconst (v := 1) hx hb dL_law_288 (by decide) ?_
    refine lv_goto (tgt := 293) hx hb dL_law_289 (by decide) ?_
    refine lv_aload_n hx hb dL_law_293 rfl (lv_at hl 4 rfl) ?_
    refine lk_same (xt_runSW (As := [.ref h, .int (xs (i + 1)), .int 1, .ref o]) (rest := []) ⟨hx, hb, hml, hown, hts⟩ (v_clean l hst dC dI h a cI N (pf_ D S) o cJ g (xs (i + 1)) 1 h1 h2 hbad) (lk_cw 4 hts gL_law_L_clean rfl rfl rfl (by decide +kernel) ⟨Nat.le_of_ble_eq_true rfl, Nat.le_of_ble_eq_true rfl⟩) (lk_preT hJ hS (hK.sub (tys' := [(cI, .int), (cJ, .long)]) [0, 1] rfl) hPw) rfl rfl hl.1 rfl (lv_room (Nat.le_of_ble_eq_true rfl)) dL_law_294 ⟨by show _ ≤ 1036; omega, by show _ ≤ 9771; omega⟩) hS hPw hPm (fun H locs hPw hPm hS => ?_)
    refine lv_istore (lv' := [(5, .int 1), (4, .int (nI i)), (0, .ref b), (1, .ref h), (2, .ref q), (3, .ref o)]) hx hb dL_law_297 hl (by decide) rfl (fun ls hl => ?_)
    refine lv_aload_n hx hb dL_law_299 rfl (lv_at hl 4 rfl) ?_
    refine lv_aload_n hx hb dL_law_300 rfl (lv_at hl 2 rfl) ?_
    refine lv_iload hx hb dL_law_301 (lv_at hl 1 rfl) ?_
    refine lv_iconst (v := 1) hx hb dL_law_303 (by decide) ?_
    refine lv_iadd hx hb dL_law_304 ?_
    refine cl_asi (nI_add i 1) ?_
    refine cl_sld hx hb hX hbl hbA hS (show i + 1 < L by omega) (by omega) dL_law_305 ?_
    refine lv_aload_n hx hb dL_law_306 rfl (lv_at hl 2 rfl) ?_
    refine lv_iload hx hb dL_law_307 (lv_at hl 1 rfl) ?_
    refine lv_iconst (v := 2) hx hb dL_law_309 (by decide) ?_
    refine lv_iadd hx hb dL_law_310 ?_
    refine cl_asi (nI_add i 2) ?_
    refine cl_sld hx hb hX hbl hbA hS (show i + 2 < L by omega) (by omega) dL_law_311 ?_
    refine lv_if_eq (tgt := 319) hx hb dL_law_312 (by decide) (fun h9 => absurd h9 hbb) (fun _ => ?_)
    refine lv_iconst (v := 1) hx hb dL_law_315 (by decide) ?_
    refine lv_goto (tgt := 320) hx hb dL_law_316 (by decide) ?_
    refine lk_call (va_runV (As := [.int (xs (i + 1)), .int 1]) (rest := []) ⟨hx, hb, hml, hown, hts0⟩ (e1_clean l dC dI q qa qb cY cZ t N D S (xs (i + 1)) 1 h1 h2 hbad hmn) (cwV 2 hts0 gL_law_X1_clean rfl rfl rfl (by decide +kernel) ⟨Nat.le_of_ble_eq_true rfl, Nat.le_of_ble_eq_true rfl⟩) (md_preV (hK.sub (tys' := [(cY, .boolean), (cZ, .boolean)]) [2, 3] rfl) hPm [.int (xs (i + 1)), .int 1]) rfl rfl hl.1 rfl (lv_room (Nat.le_of_ble_eq_true rfl)) dL_law_320 ⟨by show _ ≤ 1036; omega, by show _ ≤ 9771; omega⟩) hS hgm hPw (lp_x hdj) (fun H locs hPm hPw hS => ?_)
    have hPm : va_P (dC, dI) vwCl (md_w q qa qb cY cZ 1 (nI N) D S) H := hPm
    refine lv_istore (lv' := [(6, .int (0 : Int32)), (5, .int 1), (4, .int (nI i)), (0, .ref b), (1, .ref h), (2, .ref q), (3, .ref o)]) hx hb dL_law_323 hl (by decide) rfl (fun ls hl => ?_)
    refine lv_aload_n hx hb dL_law_325 rfl (lv_at hl 5 rfl) ?_
    refine cl_calli (W.runV (As := []) (rest := []) ⟨hx, hb, hml, hown, hts⟩ (c1_thrown l dC dI q qa qb cY cZ 1 N D S) (cwV 0 hts gL_law_X1_thrown rfl rfl rfl (by decide +kernel) ⟨Nat.le_of_ble_eq_true rfl, Nat.le_of_ble_eq_true rfl⟩) (md_preV (hK.sub (tys' := [(cY, .boolean), (cZ, .boolean)]) [2, 3] rfl) hPm []) rfl rfl hl.1 rfl (lv_room (Nat.le_of_ble_eq_true rfl)) dL_law_326 ⟨by show _ ≤ 1036; omega, by show _ ≤ 9771; omega⟩) ?_
    refine lv_iload hx hb dL_law_329 (lv_at hl 1 rfl) ?_
    refine lv_icmp_eq (tgt := 336) hx hb dL_law_331 (by decide) (fun _ => ?_) (fun h9 => absurd rfl h9)
    refine lv_iload hx hb dL_law_336 (lv_at hl 1 rfl) ?_
    refine lv_if_ne (tgt := 360) hx hb dL_law_338 (by decide) (fun _ => ?_) (fun h9 => absurd h9 (by decide))
    refine lv_goto (tgt := 663) hx hb dL_law_360 (by decide) ?_
    refine W.widen (k := cells + 1) (n := slots + 6) (by omega) (by omega) ?_
    exact kk N D S H locs ls ⟨⟨h1, h2, hz⟩, ⟨_, hPw⟩, ⟨_, hPm⟩, hS⟩ (lv_sub hl [2, 3, 4, 5, 6] rfl)
  · refine lv_aload_n hx hb dL_law_272 rfl (lv_at hl 2 rfl) ?_
    refine lv_aload_n hx hb dL_law_273 rfl (lv_at hl 1 rfl) ?_
    refine lv_iload hx hb dL_law_274 (lv_at hl 0 rfl) ?_
    refine lv_iconst (v := 1) hx hb dL_law_276 (by decide) ?_
    refine lv_iadd hx hb dL_law_277 ?_
    refine cl_asi (nI_add i 1) ?_
    refine cl_sld hx hb hX hbl hbA hS (show i + 1 < L by omega) (by omega) dL_law_278 ?_
    rw [e1]
    refine lv_aload_n hx hb dL_law_279 rfl (lv_at hl 1 rfl) ?_
    refine lv_iload hx hb dL_law_280 (lv_at hl 0 rfl) ?_
    refine lv_iconst (v := 2) hx hb dL_law_282 (by decide) ?_
    refine lv_iadd hx hb dL_law_283 ?_
    refine cl_asi (nI_add i 2) ?_
    refine cl_sld hx hb hX hbl hbA hS (show i + 2 < L by omega) (by omega) dL_law_284 ?_
    refine lv_if_eq (tgt := 292) hx hb dL_law_285 (by decide) (fun h9 => absurd h9 hbb) (fun _ => ?_)
    refine lv_iconst (v := 1) hx hb dL_law_288 (by decide) ?_
    refine lv_goto (tgt := 293) hx hb dL_law_289 (by decide) ?_
    refine lv_aload_n hx hb dL_law_293 rfl (lv_at hl 4 rfl) ?_
    refine lk_call (xt_runSW (As := [.ref h, .int (nI k), .int 1, .ref o]) (rest := []) ⟨hx, hb, hml, hown, hts⟩ (w_clean l dC dI h a cI N (pf_ D S) o cJ g hne ho k 1 h1 h2 hk) (lk_cw 4 hts gL_law_L_clean rfl rfl rfl (by decide +kernel) ⟨Nat.le_of_ble_eq_true rfl, Nat.le_of_ble_eq_true rfl⟩) (lk_preS (hK.sub (tys' := [(cI, .int), (cJ, .long)]) [0, 1] rfl) hPw) rfl rfl hl.1 rfl (lv_room (Nat.le_of_ble_eq_true rfl)) dL_law_294 ⟨by show _ ≤ 1036; omega, by show _ ≤ 9771; omega⟩) hS hgx hPm (lp_m hdj) (fun H locs hPw hPm hS => ?_)
    have hPw : va_P (dC, dI) vwCl (wr_w h a cI (nI N) (cb_cl (pf_ D S) k 1) o cJ (vp_updL g 0 (if (if pf_ D S k &&& 1 = 0 then (0 : Int32) else 1) = 0 then (0 : Int64) else 1))) H := hPw
    refine lv_istore (lv' := [(5, .int 0), (4, .int (nI i)), (0, .ref b), (1, .ref h), (2, .ref q), (3, .ref o)]) hx hb dL_law_297 hl (by decide) rfl (fun ls hl => ?_)
    refine lv_aload_n hx hb dL_law_299 rfl (lv_at hl 4 rfl) ?_
    refine lv_aload_n hx hb dL_law_300 rfl (lv_at hl 2 rfl) ?_
    refine lv_iload hx hb dL_law_301 (lv_at hl 1 rfl) ?_
    refine lv_iconst (v := 1) hx hb dL_law_303 (by decide) ?_
    refine lv_iadd hx hb dL_law_304 ?_
    refine cl_asi (nI_add i 1) ?_
    refine cl_sld hx hb hX hbl hbA hS (show i + 1 < L by omega) (by omega) dL_law_305 ?_
    rw [e1]
    refine lv_aload_n hx hb dL_law_306 rfl (lv_at hl 2 rfl) ?_
    refine lv_iload hx hb dL_law_307 (lv_at hl 1 rfl) ?_
    refine lv_iconst (v := 2) hx hb dL_law_309 (by decide) ?_
    refine lv_iadd hx hb dL_law_310 ?_
    refine cl_asi (nI_add i 2) ?_
    refine cl_sld hx hb hX hbl hbA hS (show i + 2 < L by omega) (by omega) dL_law_311 ?_
    refine lv_if_eq (tgt := 319) hx hb dL_law_312 (by decide) (fun h9 => absurd h9 hbb) (fun _ => ?_)
    refine lv_iconst (v := 1) hx hb dL_law_315 (by decide) ?_
    refine lv_goto (tgt := 320) hx hb dL_law_316 (by decide) ?_
    refine lk_call (va_runV (As := [.int (nI k), .int (md_b true)]) (rest := []) ⟨hx, hb, hml, hown, hts0⟩ (c1_clean l dC dI q qa qb cY cZ t N D S k true h1 h2 hk hmn) (cwV 2 hts0 gL_law_X1_clean rfl rfl rfl (by decide +kernel) ⟨Nat.le_of_ble_eq_true rfl, Nat.le_of_ble_eq_true rfl⟩) (md_preV (hK.sub (tys' := [(cY, .boolean), (cZ, .boolean)]) [2, 3] rfl) hPm [.int (nI k), .int (md_b true)]) rfl rfl hl.1 rfl (lv_room (Nat.le_of_ble_eq_true rfl)) dL_law_320 ⟨by show _ ≤ 1036; omega, by show _ ≤ 9771; omega⟩) hS hgm hPw (lp_x hdj) (fun H locs hPm hPw hS => ?_)
    have hPm : va_P (dC, dI) vwCl (md_w q qa qb cY cZ 0 (nI N) (md_u D k false) (md_u S k (S k || (D k && true)))) H := hPm
    refine lv_istore (lv' := [(6, .int (md_b (D k))), (5, .int 0), (4, .int (nI i)), (0, .ref b), (1, .ref h), (2, .ref q), (3, .ref o)]) hx hb dL_law_323 hl (by decide) rfl (fun ls hl => ?_)
    refine lv_aload_n hx hb dL_law_325 rfl (lv_at hl 5 rfl) ?_
    refine cl_calli (W.runV (As := []) (rest := []) ⟨hx, hb, hml, hown, hts⟩ (c1_thrown l dC dI q qa qb cY cZ 0 N (md_u D k false) (md_u S k (S k || (D k && true)))) (cwV 0 hts gL_law_X1_thrown rfl rfl rfl (by decide +kernel) ⟨Nat.le_of_ble_eq_true rfl, Nat.le_of_ble_eq_true rfl⟩) (md_preV (hK.sub (tys' := [(cY, .boolean), (cZ, .boolean)]) [2, 3] rfl) hPm []) rfl rfl hl.1 rfl (lv_room (Nat.le_of_ble_eq_true rfl)) dL_law_326 ⟨by show _ ≤ 1036; omega, by show _ ≤ 9771; omega⟩) ?_
    refine lv_iload hx hb dL_law_329 (lv_at hl 1 rfl) ?_
    refine lv_icmp_eq (tgt := 336) hx hb dL_law_331 (by decide) (fun _ => ?_) (fun h9 => absurd rfl h9)
    refine lv_iload hx hb dL_law_336 (lv_at hl 1 rfl) ?_
    refine lv_if_ne (tgt := 360) hx hb dL_law_338 (by decide) (fun h9 => absurd rfl h9) (fun _ => ?_)
    refine lv_aload_n hx hb dL_law_341 rfl (lv_at hl 6 rfl) ?_
    refine lv_iconst (v := 0) hx hb dL_law_342 (by decide) ?_
    rw [show cb_cl (pf_ D S) k 1 = cb_cl (pf_ D S) k (md_b true) from rfl, pu_clean, pu_r1] at hPw
    refine lk_out (v := (if (md_b (D k)) = 0 then (0 : Int64) else 1)) hx hb hK rfl hPw dL_law_343 ?_
    refine lv_iload hx hb dL_law_344 (lv_at hl 0 rfl) ?_
    refine lv_if_eq (tgt := 353) hx hb dL_law_346 (by decide) (fun hc => ?_) (fun hc => ?_)
    · refine lv_lconst (v := 0) hx hb dL_law_353 (by decide) ?_
      refine W.lcmp hx hb dL_law_354 ?_
      refine cl_asi (y := 0) (by rw [if_pos hc]; exact lk_cmp _) ?_
      refine lv_if_eq (tgt := 360) hx hb dL_law_355 (by decide) (fun _ => ?_) (fun h9 => absurd rfl h9)
      refine lv_goto (tgt := 663) hx hb dL_law_360 (by decide) ?_
      refine W.widen (k := cells + 1) (n := slots + 6) (by omega) (by omega) ?_
      exact kk N (md_u D k false) (md_u S k (S k || (D k && true))) H locs ls ⟨⟨h1, h2, pz_u hz hk⟩, ⟨_, hPw⟩, ⟨_, hPm⟩, hS⟩ (lv_sub hl [2, 3, 4, 5, 6] rfl)
    · refine lv_lconst (v := 1) hx hb dL_law_349 (by decide) ?_
      refine lv_goto (tgt := 354) hx hb dL_law_350 (by decide) ?_
      refine W.lcmp hx hb dL_law_354 ?_
      refine cl_asi (y := 0) (by rw [if_neg hc]; exact lk_cmp _) ?_
      refine lv_if_eq (tgt := 360) hx hb dL_law_355 (by decide) (fun _ => ?_) (fun h9 => absurd rfl h9)
      refine lv_goto (tgt := 663) hx hb dL_law_360 (by decide) ?_
      refine W.widen (k := cells + 1) (n := slots + 6) (by omega) (by omega) ?_
      exact kk N (md_u D k false) (md_u S k (S k || (D k && true))) H locs ls ⟨⟨h1, h2, pz_u hz hk⟩, ⟨_, hPw⟩, ⟨_, hPm⟩, hS⟩ (lv_sub hl [2, 3, 4, 5, 6] rfl)
set_option maxHeartbeats 4000000 in
set_option maxRecDepth 100000 in
/-- the law's case unsave -/
theorem lc_unsave {p : Program} {l : Launch} {e : Env} {s : State} {m : MethodId} {below : List Frame} {meth : Method} {c : Code} {dC : Nat → ClassId} {dI : Nat → Nat → Nat} {b L : Nat} {xs : Nat → Int32} {h a o q qa qb : Nat} {cI cJ cY cZ : ClassId} (hst : l.stackTraces = false) (hL : L ≤ 1536) (C0 : lw_At p s m meth c b L xs) (K0 : lp_K s (dC, dI) h a o q qa qb cI cJ cY cZ) {N i cells slots : Nat} {D S : Nat → Bool} {H : Heap} {locs : List Loc} {ls : Array Slot} (hi : i + 3 ≤ L) (hcl : cells + 1 ≤ 1036) (hsl : slots + 6 ≤ 9771) (V0 : lp_V s (dC, dI) h a o q qa qb cI cJ cY cZ N D S H locs) (hl : lv_has ls 7 [(4, .int (nI i)), (0, .ref b), (1, .ref h), (2, .ref q), (3, .ref o)])
    (kk : ∀ (N : Nat) (D S : Nat → Bool) (H : Heap) (locs : List Loc) (ls : Array Slot), lp_V s (dC, dI) h a o q qa qb cI cJ cY cZ N D S H locs → lv_has ls 7 [(4, .int (nI i)), (0, .ref b), (1, .ref h), (2, .ref q), (3, .ref o)] → W p l e room_1 s m #[Value.ref b] below meth c H locs (cells + 1) (slots + 6) (lw_Z below #[Value.ref b] s) (F0 m 663 ls [])) : W p l e room_1 s m #[Value.ref b] below meth c H locs cells slots (lw_Z below #[Value.ref b] s) (F0 m 363 ls []) := by
  obtain ⟨hx, hb, hr, hml, hown, hts0, hX, hbl, hlocks, hgv⟩ := C0
  have hts : ∀ w ∈ wsL_law, w.before #[Value.ref b] s = true := fun w h9 => hts0 w (wsL_law_in w h9)
  obtain ⟨hK, hJ, ⟨hne, ho, hmn⟩, hdj, hgx, hgm⟩ := K0
  obtain ⟨⟨h1, h2, hz⟩, ⟨g, hPw⟩, ⟨t, hPm⟩, hS⟩ := V0
  have hbA : ¬ (fun x : Nat => s.heap.size ≤ x) b := Nat.not_le.mpr hbl
  rcases ix_below (xs (i + 1)) (n := cb_cc N) (by have := cb_cc_le h2; omega) with hbad | ⟨k, hk, e1⟩
  · refine lv_aload_n hx hb dL_law_363 rfl (lv_at hl 2 rfl) ?_
    refine lv_aload_n hx hb dL_law_364 rfl (lv_at hl 1 rfl) ?_
    refine lv_iload hx hb dL_law_365 (lv_at hl 0 rfl) ?_
    refine lv_iconst (v := 1) hx hb dL_law_367 (by decide) ?_
    refine lv_iadd hx hb dL_law_368 ?_
    refine cl_asi (nI_add i 1) ?_
    refine cl_sld hx hb hX hbl hbA hS (show i + 1 < L by omega) (by omega) dL_law_369 ?_
    refine lv_aload_n hx hb dL_law_370 rfl (lv_at hl 4 rfl) ?_
    refine lk_same (xt_runSW (As := [.ref h, .int (xs (i + 1)), .ref o]) (rest := []) ⟨hx, hb, hml, hown, hts⟩ (v_unsave l hst dC dI h a cI N (pf_ D S) o cJ g (xs (i + 1)) h1 h2 hbad) (lk_cw 3 hts gL_law_L_unsave rfl rfl rfl (by decide +kernel) ⟨Nat.le_of_ble_eq_true rfl, Nat.le_of_ble_eq_true rfl⟩) (lk_preT hJ hS (hK.sub (tys' := [(cI, .int), (cJ, .long)]) [0, 1] rfl) hPw) rfl rfl hl.1 rfl (lv_room (Nat.le_of_ble_eq_true rfl)) dL_law_371 ⟨by show _ ≤ 1036; omega, by show _ ≤ 9771; omega⟩) hS hPw hPm (fun H locs hPw hPm hS => ?_)
    refine lv_istore (lv' := [(5, .int 1), (4, .int (nI i)), (0, .ref b), (1, .ref h), (2, .ref q), (3, .ref o)]) hx hb dL_law_374 hl (by decide) rfl (fun ls hl => ?_)
    refine lv_aload_n hx hb dL_law_376 rfl (lv_at hl 4 rfl) ?_
    refine lv_aload_n hx hb dL_law_377 rfl (lv_at hl 2 rfl) ?_
    refine lv_iload hx hb dL_law_378 (lv_at hl 1 rfl) ?_
    refine lv_iconst (v := 1) hx hb dL_law_380 (by decide) ?_
    refine lv_iadd hx hb dL_law_381 ?_
    refine cl_asi (nI_add i 1) ?_
    refine cl_sld hx hb hX hbl hbA hS (show i + 1 < L by omega) (by omega) dL_law_382 ?_
    refine lk_call (va_runV (As := [.int (xs (i + 1))]) (rest := []) ⟨hx, hb, hml, hown, hts0⟩ (e1_unsave l dC dI q qa qb cY cZ t N D S (xs (i + 1)) h1 h2 hbad hmn) (cwV 1 hts0 gL_law_X1_unsave rfl rfl rfl (by decide +kernel) ⟨Nat.le_of_ble_eq_true rfl, Nat.le_of_ble_eq_true rfl⟩) (md_preV (hK.sub (tys' := [(cY, .boolean), (cZ, .boolean)]) [2, 3] rfl) hPm [.int (xs (i + 1))]) rfl rfl hl.1 rfl (lv_room (Nat.le_of_ble_eq_true rfl)) dL_law_383 ⟨by show _ ≤ 1036; omega, by show _ ≤ 9771; omega⟩) hS hgm hPw (lp_x hdj) (fun H locs hPm hPw hS => ?_)
    have hPm : va_P (dC, dI) vwCl (md_w q qa qb cY cZ 1 (nI N) D S) H := hPm
    refine lv_istore (lv' := [(6, .int (0 : Int32)), (5, .int 1), (4, .int (nI i)), (0, .ref b), (1, .ref h), (2, .ref q), (3, .ref o)]) hx hb dL_law_386 hl (by decide) rfl (fun ls hl => ?_)
    refine lv_aload_n hx hb dL_law_388 rfl (lv_at hl 5 rfl) ?_
    refine cl_calli (W.runV (As := []) (rest := []) ⟨hx, hb, hml, hown, hts⟩ (c1_thrown l dC dI q qa qb cY cZ 1 N D S) (cwV 0 hts gL_law_X1_thrown rfl rfl rfl (by decide +kernel) ⟨Nat.le_of_ble_eq_true rfl, Nat.le_of_ble_eq_true rfl⟩) (md_preV (hK.sub (tys' := [(cY, .boolean), (cZ, .boolean)]) [2, 3] rfl) hPm []) rfl rfl hl.1 rfl (lv_room (Nat.le_of_ble_eq_true rfl)) dL_law_389 ⟨by show _ ≤ 1036; omega, by show _ ≤ 9771; omega⟩) ?_
    refine lv_iload hx hb dL_law_392 (lv_at hl 1 rfl) ?_
    refine lv_icmp_eq (tgt := 399) hx hb dL_law_394 (by decide) (fun _ => ?_) (fun h9 => absurd rfl h9)
    refine lv_iload hx hb dL_law_399 (lv_at hl 1 rfl) ?_
    refine lv_if_ne (tgt := 423) hx hb dL_law_401 (by decide) (fun _ => ?_) (fun h9 => absurd h9 (by decide))
    refine lv_goto (tgt := 663) hx hb dL_law_423 (by decide) ?_
    refine W.widen (k := cells + 1) (n := slots + 6) (by omega) (by omega) ?_
    exact kk N D S H locs ls ⟨⟨h1, h2, hz⟩, ⟨_, hPw⟩, ⟨_, hPm⟩, hS⟩ (lv_sub hl [2, 3, 4, 5, 6] rfl)
  · refine lv_aload_n hx hb dL_law_363 rfl (lv_at hl 2 rfl) ?_
    refine lv_aload_n hx hb dL_law_364 rfl (lv_at hl 1 rfl) ?_
    refine lv_iload hx hb dL_law_365 (lv_at hl 0 rfl) ?_
    refine lv_iconst (v := 1) hx hb dL_law_367 (by decide) ?_
    refine lv_iadd hx hb dL_law_368 ?_
    refine cl_asi (nI_add i 1) ?_
    refine cl_sld hx hb hX hbl hbA hS (show i + 1 < L by omega) (by omega) dL_law_369 ?_
    rw [e1]
    refine lv_aload_n hx hb dL_law_370 rfl (lv_at hl 4 rfl) ?_
    refine lk_call (xt_runSW (As := [.ref h, .int (nI k), .ref o]) (rest := []) ⟨hx, hb, hml, hown, hts⟩ (w_unsave l dC dI h a cI N (pf_ D S) o cJ g hne ho k h1 h2 hk) (lk_cw 3 hts gL_law_L_unsave rfl rfl rfl (by decide +kernel) ⟨Nat.le_of_ble_eq_true rfl, Nat.le_of_ble_eq_true rfl⟩) (lk_preS (hK.sub (tys' := [(cI, .int), (cJ, .long)]) [0, 1] rfl) hPw) rfl rfl hl.1 rfl (lv_room (Nat.le_of_ble_eq_true rfl)) dL_law_371 ⟨by show _ ≤ 1036; omega, by show _ ≤ 9771; omega⟩) hS hgx hPm (lp_m hdj) (fun H locs hPw hPm hS => ?_)
    have hPw : va_P (dC, dI) vwCl (wr_w h a cI (nI N) (upd (pf_ D S) k (pf_ D S k &&& (2 ^^^ (-1)))) o cJ (vp_updL g 0 (if (if pf_ D S k &&& 2 = 0 then (0 : Int32) else 1) = 0 then (0 : Int64) else 1))) H := hPw
    refine lv_istore (lv' := [(5, .int 0), (4, .int (nI i)), (0, .ref b), (1, .ref h), (2, .ref q), (3, .ref o)]) hx hb dL_law_374 hl (by decide) rfl (fun ls hl => ?_)
    refine lv_aload_n hx hb dL_law_376 rfl (lv_at hl 4 rfl) ?_
    refine lv_aload_n hx hb dL_law_377 rfl (lv_at hl 2 rfl) ?_
    refine lv_iload hx hb dL_law_378 (lv_at hl 1 rfl) ?_
    refine lv_iconst (v := 1) hx hb dL_law_380 (by decide) ?_
    refine lv_iadd hx hb dL_law_381 ?_
    refine cl_asi (nI_add i 1) ?_
    refine cl_sld hx hb hX hbl hbA hS (show i + 1 < L by omega) (by omega) dL_law_382 ?_
    rw [e1]
    refine lk_call (va_runV (As := [.int (nI k)]) (rest := []) ⟨hx, hb, hml, hown, hts0⟩ (c1_unsave l dC dI q qa qb cY cZ t N D S k h1 h2 hk hmn) (cwV 1 hts0 gL_law_X1_unsave rfl rfl rfl (by decide +kernel) ⟨Nat.le_of_ble_eq_true rfl, Nat.le_of_ble_eq_true rfl⟩) (md_preV (hK.sub (tys' := [(cY, .boolean), (cZ, .boolean)]) [2, 3] rfl) hPm [.int (nI k)]) rfl rfl hl.1 rfl (lv_room (Nat.le_of_ble_eq_true rfl)) dL_law_383 ⟨by show _ ≤ 1036; omega, by show _ ≤ 9771; omega⟩) hS hgm hPw (lp_x hdj) (fun H locs hPm hPw hS => ?_)
    have hPm : va_P (dC, dI) vwCl (md_w q qa qb cY cZ 0 (nI N) D (md_u S k false)) H := hPm
    refine lv_istore (lv' := [(6, .int (md_b (S k))), (5, .int 0), (4, .int (nI i)), (0, .ref b), (1, .ref h), (2, .ref q), (3, .ref o)]) hx hb dL_law_386 hl (by decide) rfl (fun ls hl => ?_)
    refine lv_aload_n hx hb dL_law_388 rfl (lv_at hl 5 rfl) ?_
    refine cl_calli (W.runV (As := []) (rest := []) ⟨hx, hb, hml, hown, hts⟩ (c1_thrown l dC dI q qa qb cY cZ 0 N D (md_u S k false)) (cwV 0 hts gL_law_X1_thrown rfl rfl rfl (by decide +kernel) ⟨Nat.le_of_ble_eq_true rfl, Nat.le_of_ble_eq_true rfl⟩) (md_preV (hK.sub (tys' := [(cY, .boolean), (cZ, .boolean)]) [2, 3] rfl) hPm []) rfl rfl hl.1 rfl (lv_room (Nat.le_of_ble_eq_true rfl)) dL_law_389 ⟨by show _ ≤ 1036; omega, by show _ ≤ 9771; omega⟩) ?_
    refine lv_iload hx hb dL_law_392 (lv_at hl 1 rfl) ?_
    refine lv_icmp_eq (tgt := 399) hx hb dL_law_394 (by decide) (fun _ => ?_) (fun h9 => absurd rfl h9)
    refine lv_iload hx hb dL_law_399 (lv_at hl 1 rfl) ?_
    refine lv_if_ne (tgt := 423) hx hb dL_law_401 (by decide) (fun h9 => absurd rfl h9) (fun _ => ?_)
    refine lv_aload_n hx hb dL_law_404 rfl (lv_at hl 6 rfl) ?_
    refine lv_iconst (v := 0) hx hb dL_law_405 (by decide) ?_
    rw [pu_unsave, pu_r2] at hPw
    refine lk_out (v := (if (md_b (S k)) = 0 then (0 : Int64) else 1)) hx hb hK rfl hPw dL_law_406 ?_
    refine lv_iload hx hb dL_law_407 (lv_at hl 0 rfl) ?_
    refine lv_if_eq (tgt := 416) hx hb dL_law_409 (by decide) (fun hc => ?_) (fun hc => ?_)
    · refine lv_lconst (v := 0) hx hb dL_law_416 (by decide) ?_
      refine W.lcmp hx hb dL_law_417 ?_
      refine cl_asi (y := 0) (by rw [if_pos hc]; exact lk_cmp _) ?_
      refine lv_if_eq (tgt := 423) hx hb dL_law_418 (by decide) (fun _ => ?_) (fun h9 => absurd rfl h9)
      refine lv_goto (tgt := 663) hx hb dL_law_423 (by decide) ?_
      refine W.widen (k := cells + 1) (n := slots + 6) (by omega) (by omega) ?_
      exact kk N D (md_u S k false) H locs ls ⟨⟨h1, h2, pz_s hz hk⟩, ⟨_, hPw⟩, ⟨_, hPm⟩, hS⟩ (lv_sub hl [2, 3, 4, 5, 6] rfl)
    · refine lv_lconst (v := 1) hx hb dL_law_412 (by decide) ?_
      refine lv_goto (tgt := 417) hx hb dL_law_413 (by decide) ?_
      refine W.lcmp hx hb dL_law_417 ?_
      refine cl_asi (y := 0) (by rw [if_neg hc]; exact lk_cmp _) ?_
      refine lv_if_eq (tgt := 423) hx hb dL_law_418 (by decide) (fun _ => ?_) (fun h9 => absurd rfl h9)
      refine lv_goto (tgt := 663) hx hb dL_law_423 (by decide) ?_
      refine W.widen (k := cells + 1) (n := slots + 6) (by omega) (by omega) ?_
      exact kk N D (md_u S k false) H locs ls ⟨⟨h1, h2, pz_s hz hk⟩, ⟨_, hPw⟩, ⟨_, hPm⟩, hS⟩ (lv_sub hl [2, 3, 4, 5, 6] rfl)
set_option maxHeartbeats 4000000 in
set_option maxRecDepth 100000 in
/-- the law's case card -/
theorem lc_card {p : Program} {l : Launch} {e : Env} {s : State} {m : MethodId} {below : List Frame} {meth : Method} {c : Code} {dC : Nat → ClassId} {dI : Nat → Nat → Nat} {b L : Nat} {xs : Nat → Int32} {h a o q qa qb : Nat} {cI cJ cY cZ : ClassId} (hst : l.stackTraces = false) (hL : L ≤ 1536) (C0 : lw_At p s m meth c b L xs) (K0 : lp_K s (dC, dI) h a o q qa qb cI cJ cY cZ) {N i cells slots : Nat} {D S : Nat → Bool} {H : Heap} {locs : List Loc} {ls : Array Slot} (hi : i + 3 ≤ L) (hcl : cells + 1 ≤ 1036) (hsl : slots + 6 ≤ 9771) (V0 : lp_V s (dC, dI) h a o q qa qb cI cJ cY cZ N D S H locs) (hl : lv_has ls 7 [(4, .int (nI i)), (0, .ref b), (1, .ref h), (2, .ref q), (3, .ref o)])
    (kk : ∀ (N : Nat) (D S : Nat → Bool) (H : Heap) (locs : List Loc) (ls : Array Slot), lp_V s (dC, dI) h a o q qa qb cI cJ cY cZ N D S H locs → lv_has ls 7 [(4, .int (nI i)), (0, .ref b), (1, .ref h), (2, .ref q), (3, .ref o)] → W p l e room_1 s m #[Value.ref b] below meth c H locs (cells + 1) (slots + 6) (lw_Z below #[Value.ref b] s) (F0 m 663 ls [])) : W p l e room_1 s m #[Value.ref b] below meth c H locs cells slots (lw_Z below #[Value.ref b] s) (F0 m 426 ls []) := by
  obtain ⟨hx, hb, hr, hml, hown, hts0, hX, hbl, hlocks, hgv⟩ := C0
  have hts : ∀ w ∈ wsL_law, w.before #[Value.ref b] s = true := fun w h9 => hts0 w (wsL_law_in w h9)
  obtain ⟨hK, hJ, ⟨hne, ho, hmn⟩, hdj, hgx, hgm⟩ := K0
  obtain ⟨⟨h1, h2, hz⟩, ⟨g, hPw⟩, ⟨t, hPm⟩, hS⟩ := V0
  have hbA : ¬ (fun x : Nat => s.heap.size ≤ x) b := Nat.not_le.mpr hbl
  rcases ix_below (xs (i + 1)) (n := cb_cc N) (by have := cb_cc_le h2; omega) with hbad | ⟨k, hk, e1⟩
  · refine lv_aload_n hx hb dL_law_426 rfl (lv_at hl 2 rfl) ?_
    refine lv_aload_n hx hb dL_law_427 rfl (lv_at hl 1 rfl) ?_
    refine lv_iload hx hb dL_law_428 (lv_at hl 0 rfl) ?_
    refine lv_iconst (v := 1) hx hb dL_law_430 (by decide) ?_
    refine lv_iadd hx hb dL_law_431 ?_
    refine cl_asi (nI_add i 1) ?_
    refine cl_sld hx hb hX hbl hbA hS (show i + 1 < L by omega) (by omega) dL_law_432 ?_
    refine lv_aload_n hx hb dL_law_433 rfl (lv_at hl 4 rfl) ?_
    refine lk_same (xt_runSW (As := [.ref h, .int (xs (i + 1)), .ref o]) (rest := []) ⟨hx, hb, hml, hown, hts⟩ (v_card l hst dC dI h a cI N (pf_ D S) o cJ g (xs (i + 1)) h1 h2 hbad) (lk_cw 3 hts gL_law_L_card rfl rfl rfl (by decide +kernel) ⟨Nat.le_of_ble_eq_true rfl, Nat.le_of_ble_eq_true rfl⟩) (lk_preT hJ hS (hK.sub (tys' := [(cI, .int), (cJ, .long)]) [0, 1] rfl) hPw) rfl rfl hl.1 rfl (lv_room (Nat.le_of_ble_eq_true rfl)) dL_law_434 ⟨by show _ ≤ 1036; omega, by show _ ≤ 9771; omega⟩) hS hPw hPm (fun H locs hPw hPm hS => ?_)
    refine lv_istore (lv' := [(5, .int 1), (4, .int (nI i)), (0, .ref b), (1, .ref h), (2, .ref q), (3, .ref o)]) hx hb dL_law_437 hl (by decide) rfl (fun ls hl => ?_)
    refine lv_aload_n hx hb dL_law_439 rfl (lv_at hl 4 rfl) ?_
    refine lv_aload_n hx hb dL_law_440 rfl (lv_at hl 2 rfl) ?_
    refine lv_iload hx hb dL_law_441 (lv_at hl 1 rfl) ?_
    refine lv_iconst (v := 1) hx hb dL_law_443 (by decide) ?_
    refine lv_iadd hx hb dL_law_444 ?_
    refine cl_asi (nI_add i 1) ?_
    refine cl_sld hx hb hX hbl hbA hS (show i + 1 < L by omega) (by omega) dL_law_445 ?_
    refine lk_call (va_runV (As := [.int (xs (i + 1))]) (rest := []) ⟨hx, hb, hml, hown, hts0⟩ (e1_card l dC dI q qa qb cY cZ t N D S (xs (i + 1)) h1 h2 hbad hmn) (cwV 1 hts0 gL_law_X1_card rfl rfl rfl (by decide +kernel) ⟨Nat.le_of_ble_eq_true rfl, Nat.le_of_ble_eq_true rfl⟩) (md_preV (hK.sub (tys' := [(cY, .boolean), (cZ, .boolean)]) [2, 3] rfl) hPm [.int (xs (i + 1))]) rfl rfl hl.1 rfl (lv_room (Nat.le_of_ble_eq_true rfl)) dL_law_446 ⟨by show _ ≤ 1036; omega, by show _ ≤ 9771; omega⟩) hS hgm hPw (lp_x hdj) (fun H locs hPm hPw hS => ?_)
    have hPm : va_P (dC, dI) vwCl (md_w q qa qb cY cZ 1 (nI N) D S) H := hPm
    refine lv_istore (lv' := [(6, .int (0 : Int32)), (5, .int 1), (4, .int (nI i)), (0, .ref b), (1, .ref h), (2, .ref q), (3, .ref o)]) hx hb dL_law_449 hl (by decide) rfl (fun ls hl => ?_)
    refine lv_aload_n hx hb dL_law_451 rfl (lv_at hl 5 rfl) ?_
    refine cl_calli (W.runV (As := []) (rest := []) ⟨hx, hb, hml, hown, hts⟩ (c1_thrown l dC dI q qa qb cY cZ 1 N D S) (cwV 0 hts gL_law_X1_thrown rfl rfl rfl (by decide +kernel) ⟨Nat.le_of_ble_eq_true rfl, Nat.le_of_ble_eq_true rfl⟩) (md_preV (hK.sub (tys' := [(cY, .boolean), (cZ, .boolean)]) [2, 3] rfl) hPm []) rfl rfl hl.1 rfl (lv_room (Nat.le_of_ble_eq_true rfl)) dL_law_452 ⟨by show _ ≤ 1036; omega, by show _ ≤ 9771; omega⟩) ?_
    refine lv_iload hx hb dL_law_455 (lv_at hl 1 rfl) ?_
    refine lv_icmp_eq (tgt := 462) hx hb dL_law_457 (by decide) (fun _ => ?_) (fun h9 => absurd rfl h9)
    refine lv_iload hx hb dL_law_462 (lv_at hl 1 rfl) ?_
    refine lv_if_ne (tgt := 479) hx hb dL_law_464 (by decide) (fun _ => ?_) (fun h9 => absurd h9 (by decide))
    refine lv_goto (tgt := 663) hx hb dL_law_479 (by decide) ?_
    refine W.widen (k := cells + 1) (n := slots + 6) (by omega) (by omega) ?_
    exact kk N D S H locs ls ⟨⟨h1, h2, hz⟩, ⟨_, hPw⟩, ⟨_, hPm⟩, hS⟩ (lv_sub hl [2, 3, 4, 5, 6] rfl)
  · refine lv_aload_n hx hb dL_law_426 rfl (lv_at hl 2 rfl) ?_
    refine lv_aload_n hx hb dL_law_427 rfl (lv_at hl 1 rfl) ?_
    refine lv_iload hx hb dL_law_428 (lv_at hl 0 rfl) ?_
    refine lv_iconst (v := 1) hx hb dL_law_430 (by decide) ?_
    refine lv_iadd hx hb dL_law_431 ?_
    refine cl_asi (nI_add i 1) ?_
    refine cl_sld hx hb hX hbl hbA hS (show i + 1 < L by omega) (by omega) dL_law_432 ?_
    rw [e1]
    refine lv_aload_n hx hb dL_law_433 rfl (lv_at hl 4 rfl) ?_
    refine lk_call (xt_runSW (As := [.ref h, .int (nI k), .ref o]) (rest := []) ⟨hx, hb, hml, hown, hts⟩ (w_card l dC dI h a cI N (pf_ D S) o cJ g hne ho k h1 h2 hk) (lk_cw 3 hts gL_law_L_card rfl rfl rfl (by decide +kernel) ⟨Nat.le_of_ble_eq_true rfl, Nat.le_of_ble_eq_true rfl⟩) (lk_preS (hK.sub (tys' := [(cI, .int), (cJ, .long)]) [0, 1] rfl) hPw) rfl rfl hl.1 rfl (lv_room (Nat.le_of_ble_eq_true rfl)) dL_law_434 ⟨by show _ ≤ 1036; omega, by show _ ≤ 9771; omega⟩) hS hgx hPm (lp_m hdj) (fun H locs hPw hPm hS => ?_)
    have hPw : va_P (dC, dI) vwCl (wr_w h a cI (nI N) (pf_ D S) o cJ (vp_updL g 0 (Int32.toInt64 (pf_ D S k)))) H := hPw
    refine lv_istore (lv' := [(5, .int 0), (4, .int (nI i)), (0, .ref b), (1, .ref h), (2, .ref q), (3, .ref o)]) hx hb dL_law_437 hl (by decide) rfl (fun ls hl => ?_)
    refine lv_aload_n hx hb dL_law_439 rfl (lv_at hl 4 rfl) ?_
    refine lv_aload_n hx hb dL_law_440 rfl (lv_at hl 2 rfl) ?_
    refine lv_iload hx hb dL_law_441 (lv_at hl 1 rfl) ?_
    refine lv_iconst (v := 1) hx hb dL_law_443 (by decide) ?_
    refine lv_iadd hx hb dL_law_444 ?_
    refine cl_asi (nI_add i 1) ?_
    refine cl_sld hx hb hX hbl hbA hS (show i + 1 < L by omega) (by omega) dL_law_445 ?_
    rw [e1]
    refine lk_call (va_runV (As := [.int (nI k)]) (rest := []) ⟨hx, hb, hml, hown, hts0⟩ (c1_card l dC dI q qa qb cY cZ t N D S k h1 h2 hk hmn) (cwV 1 hts0 gL_law_X1_card rfl rfl rfl (by decide +kernel) ⟨Nat.le_of_ble_eq_true rfl, Nat.le_of_ble_eq_true rfl⟩) (md_preV (hK.sub (tys' := [(cY, .boolean), (cZ, .boolean)]) [2, 3] rfl) hPm [.int (nI k)]) rfl rfl hl.1 rfl (lv_room (Nat.le_of_ble_eq_true rfl)) dL_law_446 ⟨by show _ ≤ 1036; omega, by show _ ≤ 9771; omega⟩) hS hgm hPw (lp_x hdj) (fun H locs hPm hPw hS => ?_)
    have hPm : va_P (dC, dI) vwCl (md_w q qa qb cY cZ 0 (nI N) D S) H := hPm
    refine lv_istore (lv' := [(6, .int (md_cd D S k)), (5, .int 0), (4, .int (nI i)), (0, .ref b), (1, .ref h), (2, .ref q), (3, .ref o)]) hx hb dL_law_449 hl (by decide) rfl (fun ls hl => ?_)
    refine lv_aload_n hx hb dL_law_451 rfl (lv_at hl 5 rfl) ?_
    refine cl_calli (W.runV (As := []) (rest := []) ⟨hx, hb, hml, hown, hts⟩ (c1_thrown l dC dI q qa qb cY cZ 0 N D S) (cwV 0 hts gL_law_X1_thrown rfl rfl rfl (by decide +kernel) ⟨Nat.le_of_ble_eq_true rfl, Nat.le_of_ble_eq_true rfl⟩) (md_preV (hK.sub (tys' := [(cY, .boolean), (cZ, .boolean)]) [2, 3] rfl) hPm []) rfl rfl hl.1 rfl (lv_room (Nat.le_of_ble_eq_true rfl)) dL_law_452 ⟨by show _ ≤ 1036; omega, by show _ ≤ 9771; omega⟩) ?_
    refine lv_iload hx hb dL_law_455 (lv_at hl 1 rfl) ?_
    refine lv_icmp_eq (tgt := 462) hx hb dL_law_457 (by decide) (fun _ => ?_) (fun h9 => absurd rfl h9)
    refine lv_iload hx hb dL_law_462 (lv_at hl 1 rfl) ?_
    refine lv_if_ne (tgt := 479) hx hb dL_law_464 (by decide) (fun h9 => absurd rfl h9) (fun _ => ?_)
    refine lv_aload_n hx hb dL_law_467 rfl (lv_at hl 6 rfl) ?_
    refine lv_iconst (v := 0) hx hb dL_law_468 (by decide) ?_
    have hPw : va_P (dC, dI) vwCl (wr_w h a cI (nI N) (pf_ D S) o cJ (vp_updL g 0 (Int32.toInt64 (md_cd D S k)))) H := hPw
    refine lk_out (v := (Int32.toInt64 (md_cd D S k))) hx hb hK rfl hPw dL_law_469 ?_
    refine lv_iload hx hb dL_law_470 (lv_at hl 0 rfl) ?_
    refine lv_i2l (v := Int32.toInt64 (md_cd D S k)) hx hb dL_law_472 rfl ?_
    refine W.lcmp hx hb dL_law_473 ?_
    refine cl_asi (lk_cmp _) ?_
    refine lv_if_eq (tgt := 479) hx hb dL_law_474 (by decide) (fun _ => ?_) (fun h9 => absurd rfl h9)
    refine lv_goto (tgt := 663) hx hb dL_law_479 (by decide) ?_
    refine W.widen (k := cells + 1) (n := slots + 6) (by omega) (by omega) ?_
    exact kk N D S H locs ls ⟨⟨h1, h2, hz⟩, ⟨_, hPw⟩, ⟨_, hPm⟩, hS⟩ (lv_sub hl [2, 3, 4, 5, 6] rfl)
set_option maxHeartbeats 4000000 in
set_option maxRecDepth 100000 in
/-- the law's case nextDirty -/
theorem lc_nextDirty {p : Program} {l : Launch} {e : Env} {s : State} {m : MethodId} {below : List Frame} {meth : Method} {c : Code} {dC : Nat → ClassId} {dI : Nat → Nat → Nat} {b L : Nat} {xs : Nat → Int32} {h a o q qa qb : Nat} {cI cJ cY cZ : ClassId} (hst : l.stackTraces = false) (hL : L ≤ 1536) (C0 : lw_At p s m meth c b L xs) (K0 : lp_K s (dC, dI) h a o q qa qb cI cJ cY cZ) {N i cells slots : Nat} {D S : Nat → Bool} {H : Heap} {locs : List Loc} {ls : Array Slot} (hi : i + 3 ≤ L) (hcl : cells + 1 ≤ 1036) (hsl : slots + 6 ≤ 9771) (V0 : lp_V s (dC, dI) h a o q qa qb cI cJ cY cZ N D S H locs) (hl : lv_has ls 7 [(4, .int (nI i)), (0, .ref b), (1, .ref h), (2, .ref q), (3, .ref o)])
    (kk : ∀ (N : Nat) (D S : Nat → Bool) (H : Heap) (locs : List Loc) (ls : Array Slot), lp_V s (dC, dI) h a o q qa qb cI cJ cY cZ N D S H locs → lv_has ls 7 [(4, .int (nI i)), (0, .ref b), (1, .ref h), (2, .ref q), (3, .ref o)] → W p l e room_1 s m #[Value.ref b] below meth c H locs (cells + 1) (slots + 6) (lw_Z below #[Value.ref b] s) (F0 m 663 ls [])) : W p l e room_1 s m #[Value.ref b] below meth c H locs cells slots (lw_Z below #[Value.ref b] s) (F0 m 482 ls []) := by
  obtain ⟨hx, hb, hr, hml, hown, hts0, hX, hbl, hlocks, hgv⟩ := C0
  have hts : ∀ w ∈ wsL_law, w.before #[Value.ref b] s = true := fun w h9 => hts0 w (wsL_law_in w h9)
  obtain ⟨hK, hJ, ⟨hne, ho, hmn⟩, hdj, hgx, hgm⟩ := K0
  obtain ⟨⟨h1, h2, hz⟩, ⟨g, hPw⟩, ⟨t, hPm⟩, hS⟩ := V0
  have hbA : ¬ (fun x : Nat => s.heap.size ≤ x) b := Nat.not_le.mpr hbl
  by_cases hbad : xs (i + 1) < 0
  · refine lv_aload_n hx hb dL_law_482 rfl (lv_at hl 2 rfl) ?_
    refine lv_aload_n hx hb dL_law_483 rfl (lv_at hl 1 rfl) ?_
    refine lv_iload hx hb dL_law_484 (lv_at hl 0 rfl) ?_
    refine lv_iconst (v := 1) hx hb dL_law_486 (by decide) ?_
    refine lv_iadd hx hb dL_law_487 ?_
    refine cl_asi (nI_add i 1) ?_
    refine cl_sld hx hb hX hbl hbA hS (show i + 1 < L by omega) (by omega) dL_law_488 ?_
    refine lv_aload_n hx hb dL_law_489 rfl (lv_at hl 4 rfl) ?_
    refine lk_same (xt_runSW (As := [.ref h, .int (xs (i + 1)), .ref o]) (rest := []) ⟨hx, hb, hml, hown, hts⟩ (v_nextDirty l hst dC dI h a cI N (pf_ D S) o cJ g (xs (i + 1)) hbad) (lk_cw 3 hts gL_law_L_nextDirty rfl rfl rfl (by decide +kernel) ⟨Nat.le_of_ble_eq_true rfl, Nat.le_of_ble_eq_true rfl⟩) (lk_preT hJ hS (hK.sub (tys' := [(cI, .int), (cJ, .long)]) [0, 1] rfl) hPw) rfl rfl hl.1 rfl (lv_room (Nat.le_of_ble_eq_true rfl)) dL_law_490 ⟨by show _ ≤ 1036; omega, by show _ ≤ 9771; omega⟩) hS hPw hPm (fun H locs hPw hPm hS => ?_)
    refine lv_istore (lv' := [(5, .int 1), (4, .int (nI i)), (0, .ref b), (1, .ref h), (2, .ref q), (3, .ref o)]) hx hb dL_law_493 hl (by decide) rfl (fun ls hl => ?_)
    refine lv_aload_n hx hb dL_law_495 rfl (lv_at hl 4 rfl) ?_
    refine lv_aload_n hx hb dL_law_496 rfl (lv_at hl 2 rfl) ?_
    refine lv_iload hx hb dL_law_497 (lv_at hl 1 rfl) ?_
    refine lv_iconst (v := 1) hx hb dL_law_499 (by decide) ?_
    refine lv_iadd hx hb dL_law_500 ?_
    refine cl_asi (nI_add i 1) ?_
    refine cl_sld hx hb hX hbl hbA hS (show i + 1 < L by omega) (by omega) dL_law_501 ?_
    refine lk_call (va_runV (As := [.int (xs (i + 1))]) (rest := []) ⟨hx, hb, hml, hown, hts0⟩ (e1_nextDirty l dC dI q qa qb cY cZ t N D S (xs (i + 1)) hbad hmn) (cwV 1 hts0 gL_law_X1_nextDirty rfl rfl rfl (by decide +kernel) ⟨Nat.le_of_ble_eq_true rfl, Nat.le_of_ble_eq_true rfl⟩) (md_preV (hK.sub (tys' := [(cY, .boolean), (cZ, .boolean)]) [2, 3] rfl) hPm [.int (xs (i + 1))]) rfl rfl hl.1 rfl (lv_room (Nat.le_of_ble_eq_true rfl)) dL_law_502 ⟨by show _ ≤ 1036; omega, by show _ ≤ 9771; omega⟩) hS hgm hPw (lp_x hdj) (fun H locs hPm hPw hS => ?_)
    have hPm : va_P (dC, dI) vwCl (md_w q qa qb cY cZ 1 (nI N) D S) H := hPm
    refine lv_istore (lv' := [(6, .int (0 : Int32)), (5, .int 1), (4, .int (nI i)), (0, .ref b), (1, .ref h), (2, .ref q), (3, .ref o)]) hx hb dL_law_505 hl (by decide) rfl (fun ls hl => ?_)
    refine lv_aload_n hx hb dL_law_507 rfl (lv_at hl 5 rfl) ?_
    refine cl_calli (W.runV (As := []) (rest := []) ⟨hx, hb, hml, hown, hts⟩ (c1_thrown l dC dI q qa qb cY cZ 1 N D S) (cwV 0 hts gL_law_X1_thrown rfl rfl rfl (by decide +kernel) ⟨Nat.le_of_ble_eq_true rfl, Nat.le_of_ble_eq_true rfl⟩) (md_preV (hK.sub (tys' := [(cY, .boolean), (cZ, .boolean)]) [2, 3] rfl) hPm []) rfl rfl hl.1 rfl (lv_room (Nat.le_of_ble_eq_true rfl)) dL_law_508 ⟨by show _ ≤ 1036; omega, by show _ ≤ 9771; omega⟩) ?_
    refine lv_iload hx hb dL_law_511 (lv_at hl 1 rfl) ?_
    refine lv_icmp_eq (tgt := 518) hx hb dL_law_513 (by decide) (fun _ => ?_) (fun h9 => absurd rfl h9)
    refine lv_iload hx hb dL_law_518 (lv_at hl 1 rfl) ?_
    refine lv_if_ne (tgt := 535) hx hb dL_law_520 (by decide) (fun _ => ?_) (fun h9 => absurd h9 (by decide))
    refine lv_goto (tgt := 663) hx hb dL_law_535 (by decide) ?_
    refine W.widen (k := cells + 1) (n := slots + 6) (by omega) (by omega) ?_
    exact kk N D S H locs ls ⟨⟨h1, h2, hz⟩, ⟨_, hPw⟩, ⟨_, hPm⟩, hS⟩ (lv_sub hl [2, 3, 4, 5, 6] rfl)
  · obtain ⟨j, hj, e1⟩ := nI_of hbad
    refine lv_aload_n hx hb dL_law_482 rfl (lv_at hl 2 rfl) ?_
    refine lv_aload_n hx hb dL_law_483 rfl (lv_at hl 1 rfl) ?_
    refine lv_iload hx hb dL_law_484 (lv_at hl 0 rfl) ?_
    refine lv_iconst (v := 1) hx hb dL_law_486 (by decide) ?_
    refine lv_iadd hx hb dL_law_487 ?_
    refine cl_asi (nI_add i 1) ?_
    refine cl_sld hx hb hX hbl hbA hS (show i + 1 < L by omega) (by omega) dL_law_488 ?_
    rw [e1]
    refine lv_aload_n hx hb dL_law_489 rfl (lv_at hl 4 rfl) ?_
    refine lk_call (xt_runSW (As := [.ref h, .int (nI j), .ref o]) (rest := []) ⟨hx, hb, hml, hown, hts⟩ (w_nextDirty l dC dI h a cI N (pf_ D S) o cJ g hne ho j h1 h2 hj) (lk_cw 3 hts gL_law_L_nextDirty rfl rfl rfl (by decide +kernel) ⟨Nat.le_of_ble_eq_true rfl, Nat.le_of_ble_eq_true rfl⟩) (lk_preS (hK.sub (tys' := [(cI, .int), (cJ, .long)]) [0, 1] rfl) hPw) rfl rfl hl.1 rfl (lv_room (Nat.le_of_ble_eq_true rfl)) dL_law_490 ⟨by show _ ≤ 1036; omega, by show _ ≤ 9771; omega⟩) hS hgx hPm (lp_m hdj) (fun H locs hPw hPm hS => ?_)
    have hPw : va_P (dC, dI) vwCl (wr_w h a cI (nI N) (pf_ D S) o cJ (vp_updL g 0 (Int32.toInt64 (cb_fw (pf_ D S) 1 j (cb_cc N))))) H := hPw
    refine lv_istore (lv' := [(5, .int 0), (4, .int (nI i)), (0, .ref b), (1, .ref h), (2, .ref q), (3, .ref o)]) hx hb dL_law_493 hl (by decide) rfl (fun ls hl => ?_)
    refine lv_aload_n hx hb dL_law_495 rfl (lv_at hl 4 rfl) ?_
    refine lv_aload_n hx hb dL_law_496 rfl (lv_at hl 2 rfl) ?_
    refine lv_iload hx hb dL_law_497 (lv_at hl 1 rfl) ?_
    refine lv_iconst (v := 1) hx hb dL_law_499 (by decide) ?_
    refine lv_iadd hx hb dL_law_500 ?_
    refine cl_asi (nI_add i 1) ?_
    refine cl_sld hx hb hX hbl hbA hS (show i + 1 < L by omega) (by omega) dL_law_501 ?_
    rw [e1]
    refine lk_call (va_runV (As := [.int (nI j)]) (rest := []) ⟨hx, hb, hml, hown, hts0⟩ (c1_nextDirty l dC dI q qa qb cY cZ t N D S j hj hmn) (cwV 1 hts0 gL_law_X1_nextDirty rfl rfl rfl (by decide +kernel) ⟨Nat.le_of_ble_eq_true rfl, Nat.le_of_ble_eq_true rfl⟩) (md_preV (hK.sub (tys' := [(cY, .boolean), (cZ, .boolean)]) [2, 3] rfl) hPm [.int (nI j)]) rfl rfl hl.1 rfl (lv_room (Nat.le_of_ble_eq_true rfl)) dL_law_502 ⟨by show _ ≤ 1036; omega, by show _ ≤ 9771; omega⟩) hS hgm hPw (lp_x hdj) (fun H locs hPm hPw hS => ?_)
    have hPm : va_P (dC, dI) vwCl (md_w q qa qb cY cZ 0 (nI N) D S) H := hPm
    refine lv_istore (lv' := [(6, .int (md_fw D j 0)), (5, .int 0), (4, .int (nI i)), (0, .ref b), (1, .ref h), (2, .ref q), (3, .ref o)]) hx hb dL_law_505 hl (by decide) rfl (fun ls hl => ?_)
    refine lv_aload_n hx hb dL_law_507 rfl (lv_at hl 5 rfl) ?_
    refine cl_calli (W.runV (As := []) (rest := []) ⟨hx, hb, hml, hown, hts⟩ (c1_thrown l dC dI q qa qb cY cZ 0 N D S) (cwV 0 hts gL_law_X1_thrown rfl rfl rfl (by decide +kernel) ⟨Nat.le_of_ble_eq_true rfl, Nat.le_of_ble_eq_true rfl⟩) (md_preV (hK.sub (tys' := [(cY, .boolean), (cZ, .boolean)]) [2, 3] rfl) hPm []) rfl rfl hl.1 rfl (lv_room (Nat.le_of_ble_eq_true rfl)) dL_law_508 ⟨by show _ ≤ 1036; omega, by show _ ≤ 9771; omega⟩) ?_
    refine lv_iload hx hb dL_law_511 (lv_at hl 1 rfl) ?_
    refine lv_icmp_eq (tgt := 518) hx hb dL_law_513 (by decide) (fun _ => ?_) (fun h9 => absurd rfl h9)
    refine lv_iload hx hb dL_law_518 (lv_at hl 1 rfl) ?_
    refine lv_if_ne (tgt := 535) hx hb dL_law_520 (by decide) (fun h9 => absurd rfl h9) (fun _ => ?_)
    refine lv_aload_n hx hb dL_law_523 rfl (lv_at hl 6 rfl) ?_
    refine lv_iconst (v := 0) hx hb dL_law_524 (by decide) ?_
    rw [pu_f1 h2 hz] at hPw
    refine lk_out (v := (Int32.toInt64 (md_fw D j 0))) hx hb hK rfl hPw dL_law_525 ?_
    refine lv_iload hx hb dL_law_526 (lv_at hl 0 rfl) ?_
    refine lv_i2l (v := Int32.toInt64 (md_fw D j 0)) hx hb dL_law_528 rfl ?_
    refine W.lcmp hx hb dL_law_529 ?_
    refine cl_asi (lk_cmp _) ?_
    refine lv_if_eq (tgt := 535) hx hb dL_law_530 (by decide) (fun _ => ?_) (fun h9 => absurd rfl h9)
    refine lv_goto (tgt := 663) hx hb dL_law_535 (by decide) ?_
    refine W.widen (k := cells + 1) (n := slots + 6) (by omega) (by omega) ?_
    exact kk N D S H locs ls ⟨⟨h1, h2, hz⟩, ⟨_, hPw⟩, ⟨_, hPm⟩, hS⟩ (lv_sub hl [2, 3, 4, 5, 6] rfl)
set_option maxHeartbeats 4000000 in
set_option maxRecDepth 100000 in
/-- the law's case nextSaved -/
theorem lc_nextSaved {p : Program} {l : Launch} {e : Env} {s : State} {m : MethodId} {below : List Frame} {meth : Method} {c : Code} {dC : Nat → ClassId} {dI : Nat → Nat → Nat} {b L : Nat} {xs : Nat → Int32} {h a o q qa qb : Nat} {cI cJ cY cZ : ClassId} (hst : l.stackTraces = false) (hL : L ≤ 1536) (C0 : lw_At p s m meth c b L xs) (K0 : lp_K s (dC, dI) h a o q qa qb cI cJ cY cZ) {N i cells slots : Nat} {D S : Nat → Bool} {H : Heap} {locs : List Loc} {ls : Array Slot} (hi : i + 3 ≤ L) (hcl : cells + 1 ≤ 1036) (hsl : slots + 6 ≤ 9771) (V0 : lp_V s (dC, dI) h a o q qa qb cI cJ cY cZ N D S H locs) (hl : lv_has ls 7 [(4, .int (nI i)), (0, .ref b), (1, .ref h), (2, .ref q), (3, .ref o)])
    (kk : ∀ (N : Nat) (D S : Nat → Bool) (H : Heap) (locs : List Loc) (ls : Array Slot), lp_V s (dC, dI) h a o q qa qb cI cJ cY cZ N D S H locs → lv_has ls 7 [(4, .int (nI i)), (0, .ref b), (1, .ref h), (2, .ref q), (3, .ref o)] → W p l e room_1 s m #[Value.ref b] below meth c H locs (cells + 1) (slots + 6) (lw_Z below #[Value.ref b] s) (F0 m 663 ls [])) : W p l e room_1 s m #[Value.ref b] below meth c H locs cells slots (lw_Z below #[Value.ref b] s) (F0 m 538 ls []) := by
  obtain ⟨hx, hb, hr, hml, hown, hts0, hX, hbl, hlocks, hgv⟩ := C0
  have hts : ∀ w ∈ wsL_law, w.before #[Value.ref b] s = true := fun w h9 => hts0 w (wsL_law_in w h9)
  obtain ⟨hK, hJ, ⟨hne, ho, hmn⟩, hdj, hgx, hgm⟩ := K0
  obtain ⟨⟨h1, h2, hz⟩, ⟨g, hPw⟩, ⟨t, hPm⟩, hS⟩ := V0
  have hbA : ¬ (fun x : Nat => s.heap.size ≤ x) b := Nat.not_le.mpr hbl
  by_cases hbad : xs (i + 1) < 0
  · refine lv_aload_n hx hb dL_law_538 rfl (lv_at hl 2 rfl) ?_
    refine lv_aload_n hx hb dL_law_539 rfl (lv_at hl 1 rfl) ?_
    refine lv_iload hx hb dL_law_540 (lv_at hl 0 rfl) ?_
    refine lv_iconst (v := 1) hx hb dL_law_542 (by decide) ?_
    refine lv_iadd hx hb dL_law_543 ?_
    refine cl_asi (nI_add i 1) ?_
    refine cl_sld hx hb hX hbl hbA hS (show i + 1 < L by omega) (by omega) dL_law_544 ?_
    refine lv_aload_n hx hb dL_law_545 rfl (lv_at hl 4 rfl) ?_
    refine lk_same (xt_runSW (As := [.ref h, .int (xs (i + 1)), .ref o]) (rest := []) ⟨hx, hb, hml, hown, hts⟩ (v_nextSaved l hst dC dI h a cI N (pf_ D S) o cJ g (xs (i + 1)) hbad) (lk_cw 3 hts gL_law_L_nextSaved rfl rfl rfl (by decide +kernel) ⟨Nat.le_of_ble_eq_true rfl, Nat.le_of_ble_eq_true rfl⟩) (lk_preT hJ hS (hK.sub (tys' := [(cI, .int), (cJ, .long)]) [0, 1] rfl) hPw) rfl rfl hl.1 rfl (lv_room (Nat.le_of_ble_eq_true rfl)) dL_law_546 ⟨by show _ ≤ 1036; omega, by show _ ≤ 9771; omega⟩) hS hPw hPm (fun H locs hPw hPm hS => ?_)
    refine lv_istore (lv' := [(5, .int 1), (4, .int (nI i)), (0, .ref b), (1, .ref h), (2, .ref q), (3, .ref o)]) hx hb dL_law_549 hl (by decide) rfl (fun ls hl => ?_)
    refine lv_aload_n hx hb dL_law_551 rfl (lv_at hl 4 rfl) ?_
    refine lv_aload_n hx hb dL_law_552 rfl (lv_at hl 2 rfl) ?_
    refine lv_iload hx hb dL_law_553 (lv_at hl 1 rfl) ?_
    refine lv_iconst (v := 1) hx hb dL_law_555 (by decide) ?_
    refine lv_iadd hx hb dL_law_556 ?_
    refine cl_asi (nI_add i 1) ?_
    refine cl_sld hx hb hX hbl hbA hS (show i + 1 < L by omega) (by omega) dL_law_557 ?_
    refine lk_call (va_runV (As := [.int (xs (i + 1))]) (rest := []) ⟨hx, hb, hml, hown, hts0⟩ (e1_nextSaved l dC dI q qa qb cY cZ t N D S (xs (i + 1)) hbad hmn) (cwV 1 hts0 gL_law_X1_nextSaved rfl rfl rfl (by decide +kernel) ⟨Nat.le_of_ble_eq_true rfl, Nat.le_of_ble_eq_true rfl⟩) (md_preV (hK.sub (tys' := [(cY, .boolean), (cZ, .boolean)]) [2, 3] rfl) hPm [.int (xs (i + 1))]) rfl rfl hl.1 rfl (lv_room (Nat.le_of_ble_eq_true rfl)) dL_law_558 ⟨by show _ ≤ 1036; omega, by show _ ≤ 9771; omega⟩) hS hgm hPw (lp_x hdj) (fun H locs hPm hPw hS => ?_)
    have hPm : va_P (dC, dI) vwCl (md_w q qa qb cY cZ 1 (nI N) D S) H := hPm
    refine lv_istore (lv' := [(6, .int (0 : Int32)), (5, .int 1), (4, .int (nI i)), (0, .ref b), (1, .ref h), (2, .ref q), (3, .ref o)]) hx hb dL_law_561 hl (by decide) rfl (fun ls hl => ?_)
    refine lv_aload_n hx hb dL_law_563 rfl (lv_at hl 5 rfl) ?_
    refine cl_calli (W.runV (As := []) (rest := []) ⟨hx, hb, hml, hown, hts⟩ (c1_thrown l dC dI q qa qb cY cZ 1 N D S) (cwV 0 hts gL_law_X1_thrown rfl rfl rfl (by decide +kernel) ⟨Nat.le_of_ble_eq_true rfl, Nat.le_of_ble_eq_true rfl⟩) (md_preV (hK.sub (tys' := [(cY, .boolean), (cZ, .boolean)]) [2, 3] rfl) hPm []) rfl rfl hl.1 rfl (lv_room (Nat.le_of_ble_eq_true rfl)) dL_law_564 ⟨by show _ ≤ 1036; omega, by show _ ≤ 9771; omega⟩) ?_
    refine lv_iload hx hb dL_law_567 (lv_at hl 1 rfl) ?_
    refine lv_icmp_eq (tgt := 574) hx hb dL_law_569 (by decide) (fun _ => ?_) (fun h9 => absurd rfl h9)
    refine lv_iload hx hb dL_law_574 (lv_at hl 1 rfl) ?_
    refine lv_if_ne (tgt := 591) hx hb dL_law_576 (by decide) (fun _ => ?_) (fun h9 => absurd h9 (by decide))
    refine lv_goto (tgt := 663) hx hb dL_law_591 (by decide) ?_
    refine W.widen (k := cells + 1) (n := slots + 6) (by omega) (by omega) ?_
    exact kk N D S H locs ls ⟨⟨h1, h2, hz⟩, ⟨_, hPw⟩, ⟨_, hPm⟩, hS⟩ (lv_sub hl [2, 3, 4, 5, 6] rfl)
  · obtain ⟨j, hj, e1⟩ := nI_of hbad
    refine lv_aload_n hx hb dL_law_538 rfl (lv_at hl 2 rfl) ?_
    refine lv_aload_n hx hb dL_law_539 rfl (lv_at hl 1 rfl) ?_
    refine lv_iload hx hb dL_law_540 (lv_at hl 0 rfl) ?_
    refine lv_iconst (v := 1) hx hb dL_law_542 (by decide) ?_
    refine lv_iadd hx hb dL_law_543 ?_
    refine cl_asi (nI_add i 1) ?_
    refine cl_sld hx hb hX hbl hbA hS (show i + 1 < L by omega) (by omega) dL_law_544 ?_
    rw [e1]
    refine lv_aload_n hx hb dL_law_545 rfl (lv_at hl 4 rfl) ?_
    refine lk_call (xt_runSW (As := [.ref h, .int (nI j), .ref o]) (rest := []) ⟨hx, hb, hml, hown, hts⟩ (w_nextSaved l dC dI h a cI N (pf_ D S) o cJ g hne ho j h1 h2 hj) (lk_cw 3 hts gL_law_L_nextSaved rfl rfl rfl (by decide +kernel) ⟨Nat.le_of_ble_eq_true rfl, Nat.le_of_ble_eq_true rfl⟩) (lk_preS (hK.sub (tys' := [(cI, .int), (cJ, .long)]) [0, 1] rfl) hPw) rfl rfl hl.1 rfl (lv_room (Nat.le_of_ble_eq_true rfl)) dL_law_546 ⟨by show _ ≤ 1036; omega, by show _ ≤ 9771; omega⟩) hS hgx hPm (lp_m hdj) (fun H locs hPw hPm hS => ?_)
    have hPw : va_P (dC, dI) vwCl (wr_w h a cI (nI N) (pf_ D S) o cJ (vp_updL g 0 (Int32.toInt64 (cb_fw (pf_ D S) 2 j (cb_cc N))))) H := hPw
    refine lv_istore (lv' := [(5, .int 0), (4, .int (nI i)), (0, .ref b), (1, .ref h), (2, .ref q), (3, .ref o)]) hx hb dL_law_549 hl (by decide) rfl (fun ls hl => ?_)
    refine lv_aload_n hx hb dL_law_551 rfl (lv_at hl 4 rfl) ?_
    refine lv_aload_n hx hb dL_law_552 rfl (lv_at hl 2 rfl) ?_
    refine lv_iload hx hb dL_law_553 (lv_at hl 1 rfl) ?_
    refine lv_iconst (v := 1) hx hb dL_law_555 (by decide) ?_
    refine lv_iadd hx hb dL_law_556 ?_
    refine cl_asi (nI_add i 1) ?_
    refine cl_sld hx hb hX hbl hbA hS (show i + 1 < L by omega) (by omega) dL_law_557 ?_
    rw [e1]
    refine lk_call (va_runV (As := [.int (nI j)]) (rest := []) ⟨hx, hb, hml, hown, hts0⟩ (c1_nextSaved l dC dI q qa qb cY cZ t N D S j hj hmn) (cwV 1 hts0 gL_law_X1_nextSaved rfl rfl rfl (by decide +kernel) ⟨Nat.le_of_ble_eq_true rfl, Nat.le_of_ble_eq_true rfl⟩) (md_preV (hK.sub (tys' := [(cY, .boolean), (cZ, .boolean)]) [2, 3] rfl) hPm [.int (nI j)]) rfl rfl hl.1 rfl (lv_room (Nat.le_of_ble_eq_true rfl)) dL_law_558 ⟨by show _ ≤ 1036; omega, by show _ ≤ 9771; omega⟩) hS hgm hPw (lp_x hdj) (fun H locs hPm hPw hS => ?_)
    have hPm : va_P (dC, dI) vwCl (md_w q qa qb cY cZ 0 (nI N) D S) H := hPm
    refine lv_istore (lv' := [(6, .int (md_fw S j 0)), (5, .int 0), (4, .int (nI i)), (0, .ref b), (1, .ref h), (2, .ref q), (3, .ref o)]) hx hb dL_law_561 hl (by decide) rfl (fun ls hl => ?_)
    refine lv_aload_n hx hb dL_law_563 rfl (lv_at hl 5 rfl) ?_
    refine cl_calli (W.runV (As := []) (rest := []) ⟨hx, hb, hml, hown, hts⟩ (c1_thrown l dC dI q qa qb cY cZ 0 N D S) (cwV 0 hts gL_law_X1_thrown rfl rfl rfl (by decide +kernel) ⟨Nat.le_of_ble_eq_true rfl, Nat.le_of_ble_eq_true rfl⟩) (md_preV (hK.sub (tys' := [(cY, .boolean), (cZ, .boolean)]) [2, 3] rfl) hPm []) rfl rfl hl.1 rfl (lv_room (Nat.le_of_ble_eq_true rfl)) dL_law_564 ⟨by show _ ≤ 1036; omega, by show _ ≤ 9771; omega⟩) ?_
    refine lv_iload hx hb dL_law_567 (lv_at hl 1 rfl) ?_
    refine lv_icmp_eq (tgt := 574) hx hb dL_law_569 (by decide) (fun _ => ?_) (fun h9 => absurd rfl h9)
    refine lv_iload hx hb dL_law_574 (lv_at hl 1 rfl) ?_
    refine lv_if_ne (tgt := 591) hx hb dL_law_576 (by decide) (fun h9 => absurd rfl h9) (fun _ => ?_)
    refine lv_aload_n hx hb dL_law_579 rfl (lv_at hl 6 rfl) ?_
    refine lv_iconst (v := 0) hx hb dL_law_580 (by decide) ?_
    rw [pu_f2 h2 hz] at hPw
    refine lk_out (v := (Int32.toInt64 (md_fw S j 0))) hx hb hK rfl hPw dL_law_581 ?_
    refine lv_iload hx hb dL_law_582 (lv_at hl 0 rfl) ?_
    refine lv_i2l (v := Int32.toInt64 (md_fw S j 0)) hx hb dL_law_584 rfl ?_
    refine W.lcmp hx hb dL_law_585 ?_
    refine cl_asi (lk_cmp _) ?_
    refine lv_if_eq (tgt := 591) hx hb dL_law_586 (by decide) (fun _ => ?_) (fun h9 => absurd rfl h9)
    refine lv_goto (tgt := 663) hx hb dL_law_591 (by decide) ?_
    refine W.widen (k := cells + 1) (n := slots + 6) (by omega) (by omega) ?_
    exact kk N D S H locs ls ⟨⟨h1, h2, hz⟩, ⟨_, hPw⟩, ⟨_, hPm⟩, hS⟩ (lv_sub hl [2, 3, 4, 5, 6] rfl)
set_option maxHeartbeats 4000000 in
set_option maxRecDepth 100000 in
/-- the law's case count -/
theorem lc_count {p : Program} {l : Launch} {e : Env} {s : State} {m : MethodId} {below : List Frame} {meth : Method} {c : Code} {dC : Nat → ClassId} {dI : Nat → Nat → Nat} {b L : Nat} {xs : Nat → Int32} {h a o q qa qb : Nat} {cI cJ cY cZ : ClassId} (hst : l.stackTraces = false) (hL : L ≤ 1536) (C0 : lw_At p s m meth c b L xs) (K0 : lp_K s (dC, dI) h a o q qa qb cI cJ cY cZ) {N i cells slots : Nat} {D S : Nat → Bool} {H : Heap} {locs : List Loc} {ls : Array Slot} (hi : i + 3 ≤ L) (hcl : cells + 1 ≤ 1036) (hsl : slots + 6 ≤ 9771) (V0 : lp_V s (dC, dI) h a o q qa qb cI cJ cY cZ N D S H locs) (hl : lv_has ls 7 [(4, .int (nI i)), (0, .ref b), (1, .ref h), (2, .ref q), (3, .ref o)])
    (kk : ∀ (N : Nat) (D S : Nat → Bool) (H : Heap) (locs : List Loc) (ls : Array Slot), lp_V s (dC, dI) h a o q qa qb cI cJ cY cZ N D S H locs → lv_has ls 7 [(4, .int (nI i)), (0, .ref b), (1, .ref h), (2, .ref q), (3, .ref o)] → W p l e room_1 s m #[Value.ref b] below meth c H locs (cells + 1) (slots + 6) (lw_Z below #[Value.ref b] s) (F0 m 663 ls [])) : W p l e room_1 s m #[Value.ref b] below meth c H locs cells slots (lw_Z below #[Value.ref b] s) (F0 m 607 ls []) := by
  obtain ⟨hx, hb, hr, hml, hown, hts0, hX, hbl, hlocks, hgv⟩ := C0
  have hts : ∀ w ∈ wsL_law, w.before #[Value.ref b] s = true := fun w h9 => hts0 w (wsL_law_in w h9)
  obtain ⟨hK, hJ, ⟨hne, ho, hmn⟩, hdj, hgx, hgm⟩ := K0
  obtain ⟨⟨h1, h2, hz⟩, ⟨g, hPw⟩, ⟨t, hPm⟩, hS⟩ := V0
  have hbA : ¬ (fun x : Nat => s.heap.size ≤ x) b := Nat.not_le.mpr hbl
  rcases ix_count (xs (i + 1)) with hbad | ⟨u, hu, e1⟩
  · refine lv_aload_n hx hb dL_law_607 rfl (lv_at hl 2 rfl) ?_
    refine lv_aload_n hx hb dL_law_608 rfl (lv_at hl 1 rfl) ?_
    refine lv_iload hx hb dL_law_609 (lv_at hl 0 rfl) ?_
    refine lv_iconst (v := 1) hx hb dL_law_611 (by decide) ?_
    refine lv_iadd hx hb dL_law_612 ?_
    refine cl_asi (nI_add i 1) ?_
    refine cl_sld hx hb hX hbl hbA hS (show i + 1 < L by omega) (by omega) dL_law_613 ?_
    refine lv_aload_n hx hb dL_law_614 rfl (lv_at hl 4 rfl) ?_
    refine lk_same (xt_runSW (As := [.ref h, .int (xs (i + 1)), .ref o]) (rest := []) ⟨hx, hb, hml, hown, hts⟩ (v_count l hst dC dI h a cI N (pf_ D S) o cJ g (xs (i + 1)) hbad.1) (lk_cw 3 hts gL_law_L_count rfl rfl rfl (by decide +kernel) ⟨Nat.le_of_ble_eq_true rfl, Nat.le_of_ble_eq_true rfl⟩) (lk_preT hJ hS (hK.sub (tys' := [(cI, .int), (cJ, .long)]) [0, 1] rfl) hPw) rfl rfl hl.1 rfl (lv_room (Nat.le_of_ble_eq_true rfl)) dL_law_615 ⟨by show _ ≤ 1036; omega, by show _ ≤ 9771; omega⟩) hS hPw hPm (fun H locs hPw hPm hS => ?_)
    refine lv_istore (lv' := [(5, .int 1), (4, .int (nI i)), (0, .ref b), (1, .ref h), (2, .ref q), (3, .ref o)]) hx hb dL_law_618 hl (by decide) rfl (fun ls hl => ?_)
    refine lv_aload_n hx hb dL_law_620 rfl (lv_at hl 4 rfl) ?_
    refine lv_aload_n hx hb dL_law_621 rfl (lv_at hl 2 rfl) ?_
    refine lv_iload hx hb dL_law_622 (lv_at hl 1 rfl) ?_
    refine lv_iconst (v := 1) hx hb dL_law_624 (by decide) ?_
    refine lv_iadd hx hb dL_law_625 ?_
    refine cl_asi (nI_add i 1) ?_
    refine cl_sld hx hb hX hbl hbA hS (show i + 1 < L by omega) (by omega) dL_law_626 ?_
    refine lk_call (va_runV (As := [.int (xs (i + 1))]) (rest := []) ⟨hx, hb, hml, hown, hts0⟩ (e1_count l dC dI q qa qb cY cZ t N D S (xs (i + 1)) hbad.2 hmn) (cwV 1 hts0 gL_law_X1_count rfl rfl rfl (by decide +kernel) ⟨Nat.le_of_ble_eq_true rfl, Nat.le_of_ble_eq_true rfl⟩) (md_preV (hK.sub (tys' := [(cY, .boolean), (cZ, .boolean)]) [2, 3] rfl) hPm [.int (xs (i + 1))]) rfl rfl hl.1 rfl (lv_room (Nat.le_of_ble_eq_true rfl)) dL_law_627 ⟨by show _ ≤ 1036; omega, by show _ ≤ 9771; omega⟩) hS hgm hPw (lp_x hdj) (fun H locs hPm hPw hS => ?_)
    have hPm : va_P (dC, dI) vwCl (md_w q qa qb cY cZ 1 (nI N) D S) H := hPm
    refine lv_istore (lv' := [(6, .int (0 : Int32)), (5, .int 1), (4, .int (nI i)), (0, .ref b), (1, .ref h), (2, .ref q), (3, .ref o)]) hx hb dL_law_630 hl (by decide) rfl (fun ls hl => ?_)
    refine lv_aload_n hx hb dL_law_632 rfl (lv_at hl 5 rfl) ?_
    refine cl_calli (W.runV (As := []) (rest := []) ⟨hx, hb, hml, hown, hts⟩ (c1_thrown l dC dI q qa qb cY cZ 1 N D S) (cwV 0 hts gL_law_X1_thrown rfl rfl rfl (by decide +kernel) ⟨Nat.le_of_ble_eq_true rfl, Nat.le_of_ble_eq_true rfl⟩) (md_preV (hK.sub (tys' := [(cY, .boolean), (cZ, .boolean)]) [2, 3] rfl) hPm []) rfl rfl hl.1 rfl (lv_room (Nat.le_of_ble_eq_true rfl)) dL_law_633 ⟨by show _ ≤ 1036; omega, by show _ ≤ 9771; omega⟩) ?_
    refine lv_iload hx hb dL_law_636 (lv_at hl 1 rfl) ?_
    refine lv_icmp_eq (tgt := 643) hx hb dL_law_638 (by decide) (fun _ => ?_) (fun h9 => absurd rfl h9)
    refine lv_iload hx hb dL_law_643 (lv_at hl 1 rfl) ?_
    refine lv_if_ne (tgt := 660) hx hb dL_law_645 (by decide) (fun _ => ?_) (fun h9 => absurd h9 (by decide))
    refine lv_goto (tgt := 663) hx hb dL_law_660 (by decide) ?_
    refine W.widen (k := cells + 1) (n := slots + 6) (by omega) (by omega) ?_
    exact kk N D S H locs ls ⟨⟨h1, h2, hz⟩, ⟨_, hPw⟩, ⟨_, hPm⟩, hS⟩ (lv_sub hl [2, 3, 4, 5, 6] rfl)
  · match u, hu, e1 with
    | 0, _, e1 =>
      refine lv_aload_n hx hb dL_law_607 rfl (lv_at hl 2 rfl) ?_
      refine lv_aload_n hx hb dL_law_608 rfl (lv_at hl 1 rfl) ?_
      refine lv_iload hx hb dL_law_609 (lv_at hl 0 rfl) ?_
      refine lv_iconst (v := 1) hx hb dL_law_611 (by decide) ?_
      refine lv_iadd hx hb dL_law_612 ?_
      refine cl_asi (nI_add i 1) ?_
      refine cl_sld hx hb hX hbl hbA hS (show i + 1 < L by omega) (by omega) dL_law_613 ?_
      rw [e1]
      refine lv_aload_n hx hb dL_law_614 rfl (lv_at hl 4 rfl) ?_
      refine lk_call (xt_runSW (As := [.ref h, .int (nI 0), .ref o]) (rest := []) ⟨hx, hb, hml, hown, hts⟩ (w_count l dC dI h a cI N (pf_ D S) o cJ g hne ho 0 h1 h2 (by decide)) (lk_cw 3 hts gL_law_L_count rfl rfl rfl (by decide +kernel) ⟨Nat.le_of_ble_eq_true rfl, Nat.le_of_ble_eq_true rfl⟩) (lk_preS (hK.sub (tys' := [(cI, .int), (cJ, .long)]) [0, 1] rfl) hPw) rfl rfl hl.1 rfl (lv_room (Nat.le_of_ble_eq_true rfl)) dL_law_615 ⟨by show _ ≤ 1036; omega, by show _ ≤ 9771; omega⟩) hS hgx hPm (lp_m hdj) (fun H locs hPw hPm hS => ?_)
      have hPw : va_P (dC, dI) vwCl (wr_w h a cI (nI N) (pf_ D S) o cJ (vp_updL g 0 (Int32.toInt64 (cb_cnt (pf_ D S) N 0)))) H := hPw
      refine lv_istore (lv' := [(5, .int 0), (4, .int (nI i)), (0, .ref b), (1, .ref h), (2, .ref q), (3, .ref o)]) hx hb dL_law_618 hl (by decide) rfl (fun ls hl => ?_)
      refine lv_aload_n hx hb dL_law_620 rfl (lv_at hl 4 rfl) ?_
      refine lv_aload_n hx hb dL_law_621 rfl (lv_at hl 2 rfl) ?_
      refine lv_iload hx hb dL_law_622 (lv_at hl 1 rfl) ?_
      refine lv_iconst (v := 1) hx hb dL_law_624 (by decide) ?_
      refine lv_iadd hx hb dL_law_625 ?_
      refine cl_asi (nI_add i 1) ?_
      refine cl_sld hx hb hX hbl hbA hS (show i + 1 < L by omega) (by omega) dL_law_626 ?_
      rw [e1]
      refine lk_call (va_runV (As := [.int 0]) (rest := []) ⟨hx, hb, hml, hown, hts0⟩ (c1_count0 l dC dI q qa qb cY cZ t N D S h1 h2 hmn) (cwV 1 hts0 gL_law_X1_count rfl rfl rfl (by decide +kernel) ⟨Nat.le_of_ble_eq_true rfl, Nat.le_of_ble_eq_true rfl⟩) (md_preV (hK.sub (tys' := [(cY, .boolean), (cZ, .boolean)]) [2, 3] rfl) hPm [.int 0]) rfl rfl hl.1 rfl (lv_room (Nat.le_of_ble_eq_true rfl)) dL_law_627 ⟨by show _ ≤ 1036; omega, by show _ ≤ 9771; omega⟩) hS hgm hPw (lp_x hdj) (fun H locs hPm hPw hS => ?_)
      have hPm : va_P (dC, dI) vwCl (md_w q qa qb cY cZ 0 (nI N) D S) H := hPm
      refine lv_istore (lv' := [(6, .int (md_cnt D S N 0)), (5, .int 0), (4, .int (nI i)), (0, .ref b), (1, .ref h), (2, .ref q), (3, .ref o)]) hx hb dL_law_630 hl (by decide) rfl (fun ls hl => ?_)
      refine lv_aload_n hx hb dL_law_632 rfl (lv_at hl 5 rfl) ?_
      refine cl_calli (W.runV (As := []) (rest := []) ⟨hx, hb, hml, hown, hts⟩ (c1_thrown l dC dI q qa qb cY cZ 0 N D S) (cwV 0 hts gL_law_X1_thrown rfl rfl rfl (by decide +kernel) ⟨Nat.le_of_ble_eq_true rfl, Nat.le_of_ble_eq_true rfl⟩) (md_preV (hK.sub (tys' := [(cY, .boolean), (cZ, .boolean)]) [2, 3] rfl) hPm []) rfl rfl hl.1 rfl (lv_room (Nat.le_of_ble_eq_true rfl)) dL_law_633 ⟨by show _ ≤ 1036; omega, by show _ ≤ 9771; omega⟩) ?_
      refine lv_iload hx hb dL_law_636 (lv_at hl 1 rfl) ?_
      refine lv_icmp_eq (tgt := 643) hx hb dL_law_638 (by decide) (fun _ => ?_) (fun h9 => absurd rfl h9)
      refine lv_iload hx hb dL_law_643 (lv_at hl 1 rfl) ?_
      refine lv_if_ne (tgt := 660) hx hb dL_law_645 (by decide) (fun h9 => absurd rfl h9) (fun _ => ?_)
      refine lv_aload_n hx hb dL_law_648 rfl (lv_at hl 6 rfl) ?_
      refine lv_iconst (v := 0) hx hb dL_law_649 (by decide) ?_
      rw [pu_count h2 hz] at hPw
      refine lk_out (v := (Int32.toInt64 (md_cnt D S N 0))) hx hb hK rfl hPw dL_law_650 ?_
      refine lv_iload hx hb dL_law_651 (lv_at hl 0 rfl) ?_
      refine lv_i2l (v := Int32.toInt64 (md_cnt D S N 0)) hx hb dL_law_653 rfl ?_
      refine W.lcmp hx hb dL_law_654 ?_
      refine cl_asi (lk_cmp _) ?_
      refine lv_if_eq (tgt := 660) hx hb dL_law_655 (by decide) (fun _ => ?_) (fun h9 => absurd rfl h9)
      refine lv_goto (tgt := 663) hx hb dL_law_660 (by decide) ?_
      refine W.widen (k := cells + 1) (n := slots + 6) (by omega) (by omega) ?_
      exact kk N D S H locs ls ⟨⟨h1, h2, hz⟩, ⟨_, hPw⟩, ⟨_, hPm⟩, hS⟩ (lv_sub hl [2, 3, 4, 5, 6] rfl)
    | 1, _, e1 =>
      refine lv_aload_n hx hb dL_law_607 rfl (lv_at hl 2 rfl) ?_
      refine lv_aload_n hx hb dL_law_608 rfl (lv_at hl 1 rfl) ?_
      refine lv_iload hx hb dL_law_609 (lv_at hl 0 rfl) ?_
      refine lv_iconst (v := 1) hx hb dL_law_611 (by decide) ?_
      refine lv_iadd hx hb dL_law_612 ?_
      refine cl_asi (nI_add i 1) ?_
      refine cl_sld hx hb hX hbl hbA hS (show i + 1 < L by omega) (by omega) dL_law_613 ?_
      rw [e1]
      refine lv_aload_n hx hb dL_law_614 rfl (lv_at hl 4 rfl) ?_
      refine lk_call (xt_runSW (As := [.ref h, .int (nI 1), .ref o]) (rest := []) ⟨hx, hb, hml, hown, hts⟩ (w_count l dC dI h a cI N (pf_ D S) o cJ g hne ho 1 h1 h2 (by decide)) (lk_cw 3 hts gL_law_L_count rfl rfl rfl (by decide +kernel) ⟨Nat.le_of_ble_eq_true rfl, Nat.le_of_ble_eq_true rfl⟩) (lk_preS (hK.sub (tys' := [(cI, .int), (cJ, .long)]) [0, 1] rfl) hPw) rfl rfl hl.1 rfl (lv_room (Nat.le_of_ble_eq_true rfl)) dL_law_615 ⟨by show _ ≤ 1036; omega, by show _ ≤ 9771; omega⟩) hS hgx hPm (lp_m hdj) (fun H locs hPw hPm hS => ?_)
      have hPw : va_P (dC, dI) vwCl (wr_w h a cI (nI N) (pf_ D S) o cJ (vp_updL g 0 (Int32.toInt64 (cb_cnt (pf_ D S) N 1)))) H := hPw
      refine lv_istore (lv' := [(5, .int 0), (4, .int (nI i)), (0, .ref b), (1, .ref h), (2, .ref q), (3, .ref o)]) hx hb dL_law_618 hl (by decide) rfl (fun ls hl => ?_)
      refine lv_aload_n hx hb dL_law_620 rfl (lv_at hl 4 rfl) ?_
      refine lv_aload_n hx hb dL_law_621 rfl (lv_at hl 2 rfl) ?_
      refine lv_iload hx hb dL_law_622 (lv_at hl 1 rfl) ?_
      refine lv_iconst (v := 1) hx hb dL_law_624 (by decide) ?_
      refine lv_iadd hx hb dL_law_625 ?_
      refine cl_asi (nI_add i 1) ?_
      refine cl_sld hx hb hX hbl hbA hS (show i + 1 < L by omega) (by omega) dL_law_626 ?_
      rw [e1]
      refine lk_call (va_runV (As := [.int 1]) (rest := []) ⟨hx, hb, hml, hown, hts0⟩ (c1_count1 l dC dI q qa qb cY cZ t N D S h1 h2 hmn) (cwV 1 hts0 gL_law_X1_count rfl rfl rfl (by decide +kernel) ⟨Nat.le_of_ble_eq_true rfl, Nat.le_of_ble_eq_true rfl⟩) (md_preV (hK.sub (tys' := [(cY, .boolean), (cZ, .boolean)]) [2, 3] rfl) hPm [.int 1]) rfl rfl hl.1 rfl (lv_room (Nat.le_of_ble_eq_true rfl)) dL_law_627 ⟨by show _ ≤ 1036; omega, by show _ ≤ 9771; omega⟩) hS hgm hPw (lp_x hdj) (fun H locs hPm hPw hS => ?_)
      have hPm : va_P (dC, dI) vwCl (md_w q qa qb cY cZ 0 (nI N) D S) H := hPm
      refine lv_istore (lv' := [(6, .int (md_cnt D S N 1)), (5, .int 0), (4, .int (nI i)), (0, .ref b), (1, .ref h), (2, .ref q), (3, .ref o)]) hx hb dL_law_630 hl (by decide) rfl (fun ls hl => ?_)
      refine lv_aload_n hx hb dL_law_632 rfl (lv_at hl 5 rfl) ?_
      refine cl_calli (W.runV (As := []) (rest := []) ⟨hx, hb, hml, hown, hts⟩ (c1_thrown l dC dI q qa qb cY cZ 0 N D S) (cwV 0 hts gL_law_X1_thrown rfl rfl rfl (by decide +kernel) ⟨Nat.le_of_ble_eq_true rfl, Nat.le_of_ble_eq_true rfl⟩) (md_preV (hK.sub (tys' := [(cY, .boolean), (cZ, .boolean)]) [2, 3] rfl) hPm []) rfl rfl hl.1 rfl (lv_room (Nat.le_of_ble_eq_true rfl)) dL_law_633 ⟨by show _ ≤ 1036; omega, by show _ ≤ 9771; omega⟩) ?_
      refine lv_iload hx hb dL_law_636 (lv_at hl 1 rfl) ?_
      refine lv_icmp_eq (tgt := 643) hx hb dL_law_638 (by decide) (fun _ => ?_) (fun h9 => absurd rfl h9)
      refine lv_iload hx hb dL_law_643 (lv_at hl 1 rfl) ?_
      refine lv_if_ne (tgt := 660) hx hb dL_law_645 (by decide) (fun h9 => absurd rfl h9) (fun _ => ?_)
      refine lv_aload_n hx hb dL_law_648 rfl (lv_at hl 6 rfl) ?_
      refine lv_iconst (v := 0) hx hb dL_law_649 (by decide) ?_
      rw [pu_count h2 hz] at hPw
      refine lk_out (v := (Int32.toInt64 (md_cnt D S N 1))) hx hb hK rfl hPw dL_law_650 ?_
      refine lv_iload hx hb dL_law_651 (lv_at hl 0 rfl) ?_
      refine lv_i2l (v := Int32.toInt64 (md_cnt D S N 1)) hx hb dL_law_653 rfl ?_
      refine W.lcmp hx hb dL_law_654 ?_
      refine cl_asi (lk_cmp _) ?_
      refine lv_if_eq (tgt := 660) hx hb dL_law_655 (by decide) (fun _ => ?_) (fun h9 => absurd rfl h9)
      refine lv_goto (tgt := 663) hx hb dL_law_660 (by decide) ?_
      refine W.widen (k := cells + 1) (n := slots + 6) (by omega) (by omega) ?_
      exact kk N D S H locs ls ⟨⟨h1, h2, hz⟩, ⟨_, hPw⟩, ⟨_, hPm⟩, hS⟩ (lv_sub hl [2, 3, 4, 5, 6] rfl)
    | 2, _, e1 =>
      refine lv_aload_n hx hb dL_law_607 rfl (lv_at hl 2 rfl) ?_
      refine lv_aload_n hx hb dL_law_608 rfl (lv_at hl 1 rfl) ?_
      refine lv_iload hx hb dL_law_609 (lv_at hl 0 rfl) ?_
      refine lv_iconst (v := 1) hx hb dL_law_611 (by decide) ?_
      refine lv_iadd hx hb dL_law_612 ?_
      refine cl_asi (nI_add i 1) ?_
      refine cl_sld hx hb hX hbl hbA hS (show i + 1 < L by omega) (by omega) dL_law_613 ?_
      rw [e1]
      refine lv_aload_n hx hb dL_law_614 rfl (lv_at hl 4 rfl) ?_
      refine lk_call (xt_runSW (As := [.ref h, .int (nI 2), .ref o]) (rest := []) ⟨hx, hb, hml, hown, hts⟩ (w_count l dC dI h a cI N (pf_ D S) o cJ g hne ho 2 h1 h2 (by decide)) (lk_cw 3 hts gL_law_L_count rfl rfl rfl (by decide +kernel) ⟨Nat.le_of_ble_eq_true rfl, Nat.le_of_ble_eq_true rfl⟩) (lk_preS (hK.sub (tys' := [(cI, .int), (cJ, .long)]) [0, 1] rfl) hPw) rfl rfl hl.1 rfl (lv_room (Nat.le_of_ble_eq_true rfl)) dL_law_615 ⟨by show _ ≤ 1036; omega, by show _ ≤ 9771; omega⟩) hS hgx hPm (lp_m hdj) (fun H locs hPw hPm hS => ?_)
      have hPw : va_P (dC, dI) vwCl (wr_w h a cI (nI N) (pf_ D S) o cJ (vp_updL g 0 (Int32.toInt64 (cb_cnt (pf_ D S) N 2)))) H := hPw
      refine lv_istore (lv' := [(5, .int 0), (4, .int (nI i)), (0, .ref b), (1, .ref h), (2, .ref q), (3, .ref o)]) hx hb dL_law_618 hl (by decide) rfl (fun ls hl => ?_)
      refine lv_aload_n hx hb dL_law_620 rfl (lv_at hl 4 rfl) ?_
      refine lv_aload_n hx hb dL_law_621 rfl (lv_at hl 2 rfl) ?_
      refine lv_iload hx hb dL_law_622 (lv_at hl 1 rfl) ?_
      refine lv_iconst (v := 1) hx hb dL_law_624 (by decide) ?_
      refine lv_iadd hx hb dL_law_625 ?_
      refine cl_asi (nI_add i 1) ?_
      refine cl_sld hx hb hX hbl hbA hS (show i + 1 < L by omega) (by omega) dL_law_626 ?_
      rw [e1]
      refine lk_call (va_runV (As := [.int 2]) (rest := []) ⟨hx, hb, hml, hown, hts0⟩ (c1_count2 l dC dI q qa qb cY cZ t N D S h1 h2 hmn) (cwV 1 hts0 gL_law_X1_count rfl rfl rfl (by decide +kernel) ⟨Nat.le_of_ble_eq_true rfl, Nat.le_of_ble_eq_true rfl⟩) (md_preV (hK.sub (tys' := [(cY, .boolean), (cZ, .boolean)]) [2, 3] rfl) hPm [.int 2]) rfl rfl hl.1 rfl (lv_room (Nat.le_of_ble_eq_true rfl)) dL_law_627 ⟨by show _ ≤ 1036; omega, by show _ ≤ 9771; omega⟩) hS hgm hPw (lp_x hdj) (fun H locs hPm hPw hS => ?_)
      have hPm : va_P (dC, dI) vwCl (md_w q qa qb cY cZ 0 (nI N) D S) H := hPm
      refine lv_istore (lv' := [(6, .int (md_cnt D S N 2)), (5, .int 0), (4, .int (nI i)), (0, .ref b), (1, .ref h), (2, .ref q), (3, .ref o)]) hx hb dL_law_630 hl (by decide) rfl (fun ls hl => ?_)
      refine lv_aload_n hx hb dL_law_632 rfl (lv_at hl 5 rfl) ?_
      refine cl_calli (W.runV (As := []) (rest := []) ⟨hx, hb, hml, hown, hts⟩ (c1_thrown l dC dI q qa qb cY cZ 0 N D S) (cwV 0 hts gL_law_X1_thrown rfl rfl rfl (by decide +kernel) ⟨Nat.le_of_ble_eq_true rfl, Nat.le_of_ble_eq_true rfl⟩) (md_preV (hK.sub (tys' := [(cY, .boolean), (cZ, .boolean)]) [2, 3] rfl) hPm []) rfl rfl hl.1 rfl (lv_room (Nat.le_of_ble_eq_true rfl)) dL_law_633 ⟨by show _ ≤ 1036; omega, by show _ ≤ 9771; omega⟩) ?_
      refine lv_iload hx hb dL_law_636 (lv_at hl 1 rfl) ?_
      refine lv_icmp_eq (tgt := 643) hx hb dL_law_638 (by decide) (fun _ => ?_) (fun h9 => absurd rfl h9)
      refine lv_iload hx hb dL_law_643 (lv_at hl 1 rfl) ?_
      refine lv_if_ne (tgt := 660) hx hb dL_law_645 (by decide) (fun h9 => absurd rfl h9) (fun _ => ?_)
      refine lv_aload_n hx hb dL_law_648 rfl (lv_at hl 6 rfl) ?_
      refine lv_iconst (v := 0) hx hb dL_law_649 (by decide) ?_
      rw [pu_count h2 hz] at hPw
      refine lk_out (v := (Int32.toInt64 (md_cnt D S N 2))) hx hb hK rfl hPw dL_law_650 ?_
      refine lv_iload hx hb dL_law_651 (lv_at hl 0 rfl) ?_
      refine lv_i2l (v := Int32.toInt64 (md_cnt D S N 2)) hx hb dL_law_653 rfl ?_
      refine W.lcmp hx hb dL_law_654 ?_
      refine cl_asi (lk_cmp _) ?_
      refine lv_if_eq (tgt := 660) hx hb dL_law_655 (by decide) (fun _ => ?_) (fun h9 => absurd rfl h9)
      refine lv_goto (tgt := 663) hx hb dL_law_660 (by decide) ?_
      refine W.widen (k := cells + 1) (n := slots + 6) (by omega) (by omega) ?_
      exact kk N D S H locs ls ⟨⟨h1, h2, hz⟩, ⟨_, hPw⟩, ⟨_, hPm⟩, hS⟩ (lv_sub hl [2, 3, 4, 5, 6] rfl)
    | 3, _, e1 =>
      refine lv_aload_n hx hb dL_law_607 rfl (lv_at hl 2 rfl) ?_
      refine lv_aload_n hx hb dL_law_608 rfl (lv_at hl 1 rfl) ?_
      refine lv_iload hx hb dL_law_609 (lv_at hl 0 rfl) ?_
      refine lv_iconst (v := 1) hx hb dL_law_611 (by decide) ?_
      refine lv_iadd hx hb dL_law_612 ?_
      refine cl_asi (nI_add i 1) ?_
      refine cl_sld hx hb hX hbl hbA hS (show i + 1 < L by omega) (by omega) dL_law_613 ?_
      rw [e1]
      refine lv_aload_n hx hb dL_law_614 rfl (lv_at hl 4 rfl) ?_
      refine lk_call (xt_runSW (As := [.ref h, .int (nI 3), .ref o]) (rest := []) ⟨hx, hb, hml, hown, hts⟩ (w_count l dC dI h a cI N (pf_ D S) o cJ g hne ho 3 h1 h2 (by decide)) (lk_cw 3 hts gL_law_L_count rfl rfl rfl (by decide +kernel) ⟨Nat.le_of_ble_eq_true rfl, Nat.le_of_ble_eq_true rfl⟩) (lk_preS (hK.sub (tys' := [(cI, .int), (cJ, .long)]) [0, 1] rfl) hPw) rfl rfl hl.1 rfl (lv_room (Nat.le_of_ble_eq_true rfl)) dL_law_615 ⟨by show _ ≤ 1036; omega, by show _ ≤ 9771; omega⟩) hS hgx hPm (lp_m hdj) (fun H locs hPw hPm hS => ?_)
      have hPw : va_P (dC, dI) vwCl (wr_w h a cI (nI N) (pf_ D S) o cJ (vp_updL g 0 (Int32.toInt64 (cb_cnt (pf_ D S) N 3)))) H := hPw
      refine lv_istore (lv' := [(5, .int 0), (4, .int (nI i)), (0, .ref b), (1, .ref h), (2, .ref q), (3, .ref o)]) hx hb dL_law_618 hl (by decide) rfl (fun ls hl => ?_)
      refine lv_aload_n hx hb dL_law_620 rfl (lv_at hl 4 rfl) ?_
      refine lv_aload_n hx hb dL_law_621 rfl (lv_at hl 2 rfl) ?_
      refine lv_iload hx hb dL_law_622 (lv_at hl 1 rfl) ?_
      refine lv_iconst (v := 1) hx hb dL_law_624 (by decide) ?_
      refine lv_iadd hx hb dL_law_625 ?_
      refine cl_asi (nI_add i 1) ?_
      refine cl_sld hx hb hX hbl hbA hS (show i + 1 < L by omega) (by omega) dL_law_626 ?_
      rw [e1]
      refine lk_call (va_runV (As := [.int 3]) (rest := []) ⟨hx, hb, hml, hown, hts0⟩ (c1_count3 l dC dI q qa qb cY cZ t N D S h1 h2 hmn) (cwV 1 hts0 gL_law_X1_count rfl rfl rfl (by decide +kernel) ⟨Nat.le_of_ble_eq_true rfl, Nat.le_of_ble_eq_true rfl⟩) (md_preV (hK.sub (tys' := [(cY, .boolean), (cZ, .boolean)]) [2, 3] rfl) hPm [.int 3]) rfl rfl hl.1 rfl (lv_room (Nat.le_of_ble_eq_true rfl)) dL_law_627 ⟨by show _ ≤ 1036; omega, by show _ ≤ 9771; omega⟩) hS hgm hPw (lp_x hdj) (fun H locs hPm hPw hS => ?_)
      have hPm : va_P (dC, dI) vwCl (md_w q qa qb cY cZ 0 (nI N) D S) H := hPm
      refine lv_istore (lv' := [(6, .int (md_cnt D S N 3)), (5, .int 0), (4, .int (nI i)), (0, .ref b), (1, .ref h), (2, .ref q), (3, .ref o)]) hx hb dL_law_630 hl (by decide) rfl (fun ls hl => ?_)
      refine lv_aload_n hx hb dL_law_632 rfl (lv_at hl 5 rfl) ?_
      refine cl_calli (W.runV (As := []) (rest := []) ⟨hx, hb, hml, hown, hts⟩ (c1_thrown l dC dI q qa qb cY cZ 0 N D S) (cwV 0 hts gL_law_X1_thrown rfl rfl rfl (by decide +kernel) ⟨Nat.le_of_ble_eq_true rfl, Nat.le_of_ble_eq_true rfl⟩) (md_preV (hK.sub (tys' := [(cY, .boolean), (cZ, .boolean)]) [2, 3] rfl) hPm []) rfl rfl hl.1 rfl (lv_room (Nat.le_of_ble_eq_true rfl)) dL_law_633 ⟨by show _ ≤ 1036; omega, by show _ ≤ 9771; omega⟩) ?_
      refine lv_iload hx hb dL_law_636 (lv_at hl 1 rfl) ?_
      refine lv_icmp_eq (tgt := 643) hx hb dL_law_638 (by decide) (fun _ => ?_) (fun h9 => absurd rfl h9)
      refine lv_iload hx hb dL_law_643 (lv_at hl 1 rfl) ?_
      refine lv_if_ne (tgt := 660) hx hb dL_law_645 (by decide) (fun h9 => absurd rfl h9) (fun _ => ?_)
      refine lv_aload_n hx hb dL_law_648 rfl (lv_at hl 6 rfl) ?_
      refine lv_iconst (v := 0) hx hb dL_law_649 (by decide) ?_
      rw [pu_count h2 hz] at hPw
      refine lk_out (v := (Int32.toInt64 (md_cnt D S N 3))) hx hb hK rfl hPw dL_law_650 ?_
      refine lv_iload hx hb dL_law_651 (lv_at hl 0 rfl) ?_
      refine lv_i2l (v := Int32.toInt64 (md_cnt D S N 3)) hx hb dL_law_653 rfl ?_
      refine W.lcmp hx hb dL_law_654 ?_
      refine cl_asi (lk_cmp _) ?_
      refine lv_if_eq (tgt := 660) hx hb dL_law_655 (by decide) (fun _ => ?_) (fun h9 => absurd rfl h9)
      refine lv_goto (tgt := 663) hx hb dL_law_660 (by decide) ?_
      refine W.widen (k := cells + 1) (n := slots + 6) (by omega) (by omega) ?_
      exact kk N D S H locs ls ⟨⟨h1, h2, hz⟩, ⟨_, hPw⟩, ⟨_, hPm⟩, hS⟩ (lv_sub hl [2, 3, 4, 5, 6] rfl)
set_option maxHeartbeats 4000000 in
set_option maxRecDepth 100000 in
/-- the law's case clear -/
theorem lc_clear {p : Program} {l : Launch} {e : Env} {s : State} {m : MethodId} {below : List Frame} {meth : Method} {c : Code} {dC : Nat → ClassId} {dI : Nat → Nat → Nat} {b L : Nat} {xs : Nat → Int32} {h a o q qa qb : Nat} {cI cJ cY cZ : ClassId} (hst : l.stackTraces = false) (hL : L ≤ 1536) (C0 : lw_At p s m meth c b L xs) (K0 : lp_K s (dC, dI) h a o q qa qb cI cJ cY cZ) {N i cells slots : Nat} {D S : Nat → Bool} {H : Heap} {locs : List Loc} {ls : Array Slot} (hi : i + 3 ≤ L) (hcl : cells + 1 ≤ 1036) (hsl : slots + 6 ≤ 9771) (V0 : lp_V s (dC, dI) h a o q qa qb cI cJ cY cZ N D S H locs) (hl : lv_has ls 7 [(4, .int (nI i)), (0, .ref b), (1, .ref h), (2, .ref q), (3, .ref o)])
    (kk : ∀ (N : Nat) (D S : Nat → Bool) (H : Heap) (locs : List Loc) (ls : Array Slot), lp_V s (dC, dI) h a o q qa qb cI cJ cY cZ N D S H locs → lv_has ls 7 [(4, .int (nI i)), (0, .ref b), (1, .ref h), (2, .ref q), (3, .ref o)] → W p l e room_1 s m #[Value.ref b] below meth c H locs (cells + 1) (slots + 6) (lw_Z below #[Value.ref b] s) (F0 m 663 ls [])) : W p l e room_1 s m #[Value.ref b] below meth c H locs cells slots (lw_Z below #[Value.ref b] s) (F0 m 594 ls []) := by
  obtain ⟨hx, hb, hr, hml, hown, hts0, hX, hbl, hlocks, hgv⟩ := C0
  have hts : ∀ w ∈ wsL_law, w.before #[Value.ref b] s = true := fun w h9 => hts0 w (wsL_law_in w h9)
  obtain ⟨hK, hJ, ⟨hne, ho, hmn⟩, hdj, hgx, hgm⟩ := K0
  obtain ⟨⟨h1, h2, hz⟩, ⟨g, hPw⟩, ⟨t, hPm⟩, hS⟩ := V0
  have hbA : ¬ (fun x : Nat => s.heap.size ≤ x) b := Nat.not_le.mpr hbl
  refine lv_aload_n hx hb dL_law_594 rfl (lv_at hl 2 rfl) ?_
  have hPo := hPw.sub (ws' := ou_w o cJ g) [2] rfl
  refine lk_call (va_runV (As := []) (rest := []) ⟨hx, hb, hml, hown, hts⟩ (c_clear l dC dI h a cI N (pf_ D S) h1 h2 hne) (cwV 0 hts gL_law_X0_clear rfl rfl rfl (by decide +kernel) ⟨Nat.le_of_ble_eq_true rfl, Nat.le_of_ble_eq_true rfl⟩) (cb_preV (hK.sub (tys' := [(cI, .int)]) [0] rfl) (hPw.sub (ws' := cb_w h a cI (nI N) (pf_ D S)) [0, 1] rfl) []) rfl rfl hl.1 rfl (lv_room (Nat.le_of_ble_eq_true rfl)) dL_law_595 ⟨by show _ ≤ 1036; omega, by show _ ≤ 9771; omega⟩) hS (fun x h9 => hgx x (Or.inl h9)) (va_P.app hPo hPm) (lp_o ho hdj) (fun H locs hPx hP2 hS => ?_)
  have hPm : va_P (dC, dI) vwCl (md_w q qa qb cY cZ t (nI N) D S) H := hP2.sub [1, 2, 3] rfl
  have hPw : va_P (dC, dI) vwCl (wr_w h a cI (nI N) (cb_clr (pf_ D S) (cb_cc N)) o cJ g) H := va_P.app hPx (hP2.sub (ws' := ou_w o cJ g) [0] rfl)
  refine lv_aload_n hx hb dL_law_598 rfl (lv_at hl 3 rfl) ?_
  refine lk_call (va_runV (As := []) (rest := [.int (nI (cb_ct (pf_ D S) 3 (cb_cc N)))]) ⟨hx, hb, hml, hown, hts0⟩ (c1_clear l dC dI q qa qb cY cZ t N D S hmn) (cwV 0 hts0 gL_law_X1_clear rfl rfl rfl (by decide +kernel) ⟨Nat.le_of_ble_eq_true rfl, Nat.le_of_ble_eq_true rfl⟩) (md_preV (hK.sub (tys' := [(cY, .boolean), (cZ, .boolean)]) [2, 3] rfl) hPm []) rfl rfl hl.1 rfl (lv_room (Nat.le_of_ble_eq_true rfl)) dL_law_599 ⟨by show _ ≤ 1036; omega, by show _ ≤ 9771; omega⟩) hS hgm hPw (lp_x hdj) (fun H locs hPm hPw hS => ?_)
  have hPm : va_P (dC, dI) vwCl (md_w q qa qb cY cZ 0 (nI N) (md_cl D true 512) (md_cl S true 512)) H := hPm
  rw [pu_clr h2 hz] at hPw
  rw [pu_c3 h2 hz]
  refine lv_icmp_eq (tgt := 663) hx hb dL_law_602 (by decide) (fun _ => ?_) (fun h9 => absurd rfl h9)
  refine W.widen (k := cells + 1) (n := slots + 6) (by omega) (by omega) ?_
  exact kk N (md_cl D true 512) (md_cl S true 512) H locs ls ⟨⟨h1, h2, pz_gone h2 hz⟩, ⟨_, hPw⟩, ⟨_, hPm⟩, hS⟩ (lv_sub hl [0, 1, 2, 3, 4] rfl)
end
section
theorem lp_more {L j : Nat} (hL : L ≤ 1536) (h : ¬ nI L - 3 < nI (3 * j)) (hj : 3 * j ≤ L) : 3 * j + 3 ≤ L := by
  rw [Int32.lt_iff_toInt_lt, show (3 : Int32) = nI 3 from rfl, pk_sub_toInt (by omega) (by decide), nI_toInt (by omega)] at h
  omega
set_option maxHeartbeats 4000000 in
set_option maxRecDepth 100000 in
/-- THE LAW'S LOOP: at its head, with j calls done, class and reference stand alike -/
theorem law_loop {p : Program} {l : Launch} {e : Env} {s : State} {m : MethodId} {below : List Frame} {meth : Method} {c : Code} {dC : Nat → ClassId} {dI : Nat → Nat → Nat} {b L : Nat} {xs : Nat → Int32} {h a o q qa qb : Nat} {cI cJ cY cZ : ClassId} (hst : l.stackTraces = false) (hL : L ≤ 1536) (C0 : lw_At p s m meth c b L xs) (K0 : lp_K s (dC, dI) h a o q qa qb cI cJ cY cZ) :
    ∀ (n j : Nat), L < 3 * (j + n) → 3 * j ≤ L → ∀ (N : Nat) (D S : Nat → Bool) (H : Heap) (locs : List Loc) (ls : Array Slot), lp_V s (dC, dI) h a o q qa qb cI cJ cY cZ N D S H locs → lv_has ls 7 [(4, .int (nI (3 * j))), (0, .ref b), (1, .ref h), (2, .ref q), (3, .ref o)] → W p l e room_1 s m #[Value.ref b] below meth c H locs (6 + j) (1543 + 6 * j) (lw_Z below #[Value.ref b] s) (F0 m 23 ls []) := by
  intro n
  induction n with
  | zero =>
    intro j h1 h2
    omega
  | succ n ih =>
    intro j hn hj N D S H locs ls V0 hl
    obtain ⟨hx, hb, hr, hml, hown, hts0, hX, hbl, hlocks, hgv⟩ := id C0
    have hbA : ¬ (fun x : Nat => s.heap.size ≤ x) b := Nat.not_le.mpr hbl
    have hS := V0.2.2.2
    refine lv_iload hx hb dL_law_23 (lv_at hl 0 rfl) ?_
    refine lv_aload_n hx hb dL_law_25 rfl (lv_at hl 1 rfl) ?_
    refine va_slen hx hb hX hbl hbA hS dL_law_26 ?_
    refine lv_iconst (v := 3) hx hb dL_law_27 (by decide) ?_
    refine lv_isub hx hb dL_law_28 ?_
    refine lv_icmp_gt (tgt := 669) hx hb dL_law_29 (by decide) (fun hc => ?_) (fun hc => ?_)
    · refine lv_iconst (v := 1) hx hb dL_law_669 (by decide) ?_
      refine va_forget (fun x hx9 => hS.2.2 x hx9) ?_
      refine W.widen (k := 1036) (n := 9771) (by omega) (by omega) ?_
      exact lw_ret hx hb hr hlocks dL_law_670
    · have hi : 3 * j + 3 ≤ L := lp_more hL hc hj
      have hcl : 6 + j + 1 ≤ 1036 := by omega
      have hsl : 1543 + 6 * j + 6 ≤ 9771 := by omega
      have kk : ∀ (N : Nat) (D S : Nat → Bool) (H : Heap) (locs : List Loc) (ls : Array Slot), lp_V s (dC, dI) h a o q qa qb cI cJ cY cZ N D S H locs → lv_has ls 7 [(4, .int (nI (3 * j))), (0, .ref b), (1, .ref h), (2, .ref q), (3, .ref o)] → W p l e room_1 s m #[Value.ref b] below meth c H locs (6 + j + 1) (1543 + 6 * j + 6) (lw_Z below #[Value.ref b] s) (F0 m 663 ls []) := by
        intro N D S H locs ls V hl
        refine lv_iinc (v := nI (3 * (j + 1))) (lv' := [(4, .int (nI (3 * (j + 1)))), (0, .ref b), (1, .ref h), (2, .ref q), (3, .ref o)]) hx hb dL_law_663 hl (k := 0) rfl (by rw [show 3 * (j + 1) = 3 * j + 3 by omega]; exact nI_add (3 * j) 3) (by decide) rfl (fun ls hl => ?_)
        refine lv_goto (tgt := 23) hx hb dL_law_666 (by decide) ?_
        refine W.widen (k := 6 + (j + 1)) (n := 1543 + 6 * (j + 1)) (by omega) (by omega) ?_
        exact ih (j + 1) (by omega) (by omega) N D S H locs ls V hl
      refine lv_aload_n hx hb dL_law_32 rfl (lv_at hl 1 rfl) ?_
      refine lv_iload hx hb dL_law_33 (lv_at hl 0 rfl) ?_
      refine cl_sld hx hb hX hbl hbA hS (show 3 * j < L by omega) (by omega) dL_law_35 ?_
      refine lv_bipush (v := 15) hx hb dL_law_36 (by decide) ?_
      refine lv_iand hx hb dL_law_38 ?_
      obtain ⟨r, hr9, er⟩ := pk_andE (xs (3 * j)) (m := 15) 4 (by decide)
      refine cl_asi er ?_
      match r, hr9 with
      | 0, _ =>
        refine lv_tableIn (off := 53) (tgt := 92) hx hb dL_law_39 (by decide) (by decide) rfl (by decide) ?_
        exact lc_space hst hL C0 K0 hi hcl hsl V0 hl kk
      | 1, _ =>
        refine lv_tableIn (off := 109) (tgt := 148) hx hb dL_law_39 (by decide) (by decide) rfl (by decide) ?_
        exact lc_write hst hL C0 K0 hi hcl hsl V0 hl kk
      | 2, _ =>
        refine lv_tableIn (off := 165) (tgt := 204) hx hb dL_law_39 (by decide) (by decide) rfl (by decide) ?_
        exact lc_cover hst hL C0 K0 hi hcl hsl V0 hl kk
      | 3, _ =>
        refine lv_tableIn (off := 233) (tgt := 272) hx hb dL_law_39 (by decide) (by decide) rfl (by decide) ?_
        by_cases hbb : xs (3 * j + 2) = 0
        · exact lc_clean0 hst hL C0 K0 hi hbb hcl hsl V0 hl kk
        · exact lc_clean1 hst hL C0 K0 hi hbb hcl hsl V0 hl kk
      | 4, _ =>
        refine lv_tableIn (off := 324) (tgt := 363) hx hb dL_law_39 (by decide) (by decide) rfl (by decide) ?_
        exact lc_unsave hst hL C0 K0 hi hcl hsl V0 hl kk
      | 5, _ =>
        refine lv_tableIn (off := 387) (tgt := 426) hx hb dL_law_39 (by decide) (by decide) rfl (by decide) ?_
        exact lc_card hst hL C0 K0 hi hcl hsl V0 hl kk
      | 6, _ =>
        refine lv_tableIn (off := 443) (tgt := 482) hx hb dL_law_39 (by decide) (by decide) rfl (by decide) ?_
        exact lc_nextDirty hst hL C0 K0 hi hcl hsl V0 hl kk
      | 7, _ =>
        refine lv_tableIn (off := 499) (tgt := 538) hx hb dL_law_39 (by decide) (by decide) rfl (by decide) ?_
        exact lc_nextSaved hst hL C0 K0 hi hcl hsl V0 hl kk
      | 8, _ =>
        refine lv_tableIn (off := 555) (tgt := 594) hx hb dL_law_39 (by decide) (by decide) rfl (by decide) ?_
        exact lc_clear hst hL C0 K0 hi hcl hsl V0 hl kk
      | 9, _ =>
        refine lv_tableIn (off := 568) (tgt := 607) hx hb dL_law_39 (by decide) (by decide) rfl (by decide) ?_
        exact lc_count hst hL C0 K0 hi hcl hsl V0 hl kk
      | r + 10, hr9 =>
        refine lv_tableOut (tgt := 663) hx hb dL_law_39 (Or.inr (by rw [nI_toInt (by omega)]; omega)) (by decide) ?_
        refine W.widen (k := 6 + j + 1) (n := 1543 + 6 * j + 6) (by omega) (by omega) ?_
        exact kk N D S H locs ls V0 hl
end
section
/-! The law from its entry. -/
theorem st_J {s : State} {b : Nat} {c0 : ClassId} (hts0 : ∀ w ∈ lw_tbl, w.before #[Value.ref b] s = true) (hgv : (Jvm.Cond.and given_1 narrow_1).before #[Value.ref b] s = true) (hf : s.vm.findClass RX0 = some c0) : cb_J s := by
  have hs := flat_of_before _ hgv
  have hvm : s.vm.Alike s.vm := Vm.Alike.refl s.vm
  have hh : ∀ q : Nat, q < s.heap.size → s.heap[q]? = s.heap[q]? := fun _ _ => rfl
  have l1 : (Cond.laysStatic Bundle.tN "UNASSIGNED_STACK" Bundle.steD).before #[Value.ref b] s = true := hts0 _ (by decide +kernel)
  have l2 : (Cond.laysStatic Bundle.tN "SUPPRESSED_SENTINEL" Bundle.listD).before #[Value.ref b] s = true := hts0 _ (by decide +kernel)
  have r1 : (Cond.isRef (.static Bundle.tN "UNASSIGNED_STACK" Bundle.steD)).before #[Value.ref b] s = true := hs _ (by decide +kernel)
  have r2 : (Cond.isRef (.static Bundle.tN "SUPPRESSED_SENTINEL" Bundle.listD)).before #[Value.ref b] s = true := hs _ (by decide +kernel)
  refine ⟨⟨⟨xt_lays hvm hh l1, xt_isRef hvm hh l1 r1⟩, xt_lays hvm hh l2, xt_isRef hvm hh l2 r2⟩, ?_, ?_⟩
  · intro q hq
    have h1 : (Cond.stringRef RX0 q.1 q.2).before #[Value.ref b] s = true := hts0 _ ((show ∀ q ∈ cb_str, Cond.stringRef RX0 q.1 q.2 ∈ lw_tbl by decide +kernel) q hq)
    obtain ⟨k, cf, i, a, -, -, -, -, -, hev⟩ := Cond.stringRef_spec hf h1
    exact ⟨a, vk_R.of h1 hev⟩
  · intro w hw
    exact xt_ride (State.WarmedH.refl s) (cb_nw_ok w hw) (hts0 w ((show ∀ w ∈ cb_nw, w ∈ lw_tbl by decide +kernel) w hw))
theorem st_D {A : Nat → Prop} {ws : va_W} (h1 : (ws.map Prod.fst).Nodup) (h2 : ∀ x ∈ ws, A x.1) : va_D A ws := by
  refine ⟨fun i j x y hi hj hxy => ?_, fun k x hk => h2 x (List.mem_of_getElem? hk)⟩
  have a1 : (ws.map Prod.fst)[i]? = some x.1 := by rw [List.getElem?_map, hi]; rfl
  have a2 : (ws.map Prod.fst)[j]? = some y.1 := by rw [List.getElem?_map, hj]; rfl
  have hlt : i < (ws.map Prod.fst).length := (List.getElem?_eq_some_iff.mp a1).1
  exact (List.getElem?_inj hlt h1).mp (by rw [a1, a2, hxy])
set_option maxHeartbeats 4000000 in
set_option maxRecDepth 100000 in
/-- THE LAW, from its entry -/
theorem whole_start {p : Program} {e : Env} {s : State} {m : MethodId} {below : List Frame} {meth : Method} {c : Code} (l : Launch) (hst : l.stackTraces = false) {b L : Nat} {xs : Nat → Int32} (hL : L ≤ 1536) (C0 : lw_At p s m meth c b L xs) : W p l e room_1 s m #[Value.ref b] below meth c s.heap [] 0 0 (lw_Z below #[Value.ref b] s) (entryFrame m ([Value.ref b] : List Value).toArray 7) := by
  obtain ⟨hx, hb, hr, hml, hown, hts0, hX, hbl, hlocks, hgv⟩ := id C0
  have hts : ∀ w ∈ wsL_law, w.before #[Value.ref b] s = true := fun w h9 => hts0 w (wsL_law_in w h9)
  have hA : ∀ x : Nat, s.heap.size ≤ x → (fun x : Nat => s.heap.size ≤ x) x := fun _ h9 => h9
  obtain ⟨c0, iS0, hKn0⟩ := u_known (C := RX0) (T := TX0) (N := 2) (n := 2) hts0 inX0 (hts (.instantiable RX0 2) (by decide +kernel))
  obtain ⟨c1, iS1, hKn1⟩ := u_known (C := RX1) (T := TX1) (N := 4) (n := 4) hts0 inX1 (hts (.instantiable RX1 4) (by decide +kernel))
  have hJ : cb_J s := st_J hts0 hgv hKn0.2.1
  obtain ⟨dC, dI, hKc⟩ : ∃ (dC : Nat → ClassId) (dI : Nat → Nat → Nat), ∀ (k : Nat) (q : vw_C), vwCl[k]? = some q → u_Kn s q.1 q.2.1 q.2.2 (dC k) (dI k) := by
    refine ⟨fun k => if k = 0 then c0 else c1, fun k => if k = 0 then iS0 else iS1, ?_⟩
    intro k q hq
    match k, hq with
    | 0, hq => cases hq; exact hKn0
    | 1, hq => cases hq; exact hKn1
    | k + 2, hq => simp [vwCl] at hq
  have hS : va_S (fun x : Nat => s.heap.size ≤ x) s.heap s.heap [] := va_S.rf
  have hK0 : va_K (dC, dI) vwCl [] s := ⟨hKc, fun k q h => by simp at h⟩
  have hP : va_P (dC, dI) vwCl [] s.heap := fun k q h => by simp at h
  have hD : va_D (fun x : Nat => s.heap.size ≤ x) [] := ⟨fun i j p q h => by simp at h, fun k q h => by simp at h⟩
  have hl := lv_entry ([.ref b]) (n := 7) (Nat.le_of_ble_eq_true rfl)
  rw [lg_entry_eq]
  generalize (lg_sl ([.ref b]) ++ List.replicate (7 - (lg_sl ([.ref b])).length) Slot.unset).toArray = ls at hl ⊢
  have hl : lv_has ls 7 [(0, .ref b)] := hl
  refine va_new (ci := 0) (fs := [.null, .int 0]) (C := RX0) (T := TX0) (N := 2) hx hb hts inlX0 tyX0 tyX0_ok hown (hts (.classLink RL 8 RX0) (by decide +kernel)) (hts (.instantiable RX0 2) (by decide +kernel)) (hts (.initialized RX0) (by decide +kernel)) hK0 hP hD hS hA rfl (fun j hj => by rcases (show j = 0 ∨ j = 1 by omega) with rfl | rfl <;> rfl) (by show _ ≤ 1036; omega) (by show _ ≤ 9771; omega) dL_law_0 (fun h H hP hD hS => ?_)
  have hP : va_P (dC, dI) vwCl [(h, .inr (0, [.null, .int 0]))] H := hP
  have hD : va_D (fun x : Nat => s.heap.size ≤ x) [(h, .inr (0, [.null, .int 0]))] := hD
  have hh0 : s.heap.size ≤ h := hD.2 0 _ rfl
  have hh1 : h < H.size := (hP 0 _ rfl).lt
  refine W.widen (k := 1) (n := 2) (by omega) (by omega) ?_
  refine lv_dup hx hb dL_law_3 rfl ?_
  refine va_callv (va_runI (As := []) (rest := [.ref h]) ⟨hx, hb, hml, hown, hts⟩ (c_init l dC dI h H.size) (cwI 0 hts gL_law_X0_init rfl rfl rfl (hts (.initialized RX0) (by decide +kernel)) (hts (.methodLink RL 44 yX0_init) (by decide +kernel)) (hts (.instanceMethod yX0_init) (by decide +kernel)) rfl (by decide +kernel) ⟨Nat.le_of_ble_eq_true rfl, Nat.le_of_ble_eq_true rfl⟩) ⟨fun a U g mk q => by obtain ⟨q0, q1, qP, qK⟩ := q; exact ⟨q0, q1, qP, va_K.moved (u := U) (U := U.calling g mk a) (Vm.Alike.refl U.vm) qK⟩, fun U hU hW => ⟨rfl, by rw [hU], by rw [hU]; exact hP, va_K.moved hW.alike hK0⟩⟩ rfl rfl hl.1 rfl (lv_room (Nat.le_of_ble_eq_true rfl)) dL_law_4 ⟨Nat.le_of_ble_eq_true rfl, Nat.le_of_ble_eq_true rfl⟩) hS (fun x h1 h9 => by rcases h9 with h9 | h9; exact h9 ▸ hh0; omega) (fun x h9 => by rcases h9 with h9 | h9; exact h9 ▸ hh0; exact Nat.le_trans hS.1 h9) (fun u t H1 locs ht hvm hw hB hz1 hk1 hS => ?_)
  obtain ⟨a, cI⟩ := u
  obtain ⟨hPx, hKx⟩ := hB
  rw [ht] at hPx
  have hKx := va_K.moved hvm.symm hKx
  try dsimp only at hw hPx hKx
  have hne : h ≠ a := by omega
  have ha0 : s.heap.size ≤ a := by have := hS.1; omega
  have ha1 : a < H1.size := (hPx 1 _ rfl).lt
  refine W.widen (k := 2) (n := 514) (by omega) (by omega) ?_
  refine lv_astore_n (lv' := [(1, .ref h), (0, .ref b)]) hx hb dL_law_7 rfl hl (by decide) rfl (fun ls hl => ?_)
  have hDx : va_D (fun x : Nat => s.heap.size ≤ x) (cb_w h a cI (nI 1024) (fun _ => 0)) := (cb_D hne).weaken (fun k x hk h9 => by rcases h9 with h9 | h9; exact h9 ▸ hh0; exact h9 ▸ ha0)
  refine va_new (ci := 1) (fs := [.int 0, .int 0, .null, .null]) (C := RX1) (T := TX1) (N := 4) hx hb hts inlX1 tyX1 tyX1_ok hown (hts (.classLink RL 45 RX1) (by decide +kernel)) (hts (.instantiable RX1 4) (by decide +kernel)) (hts (.initialized RX1) (by decide +kernel)) hKx hPx hDx hS hA rfl (fun j hj => by rcases (show j = 0 ∨ j = 1 ∨ j = 2 ∨ j = 3 by omega) with rfl | rfl | rfl | rfl <;> rfl) (by show _ ≤ 1036; omega) (by show _ ≤ 9771; omega) dL_law_8 (fun q H2 hP hD hS => ?_)
  have hP : va_P (dC, dI) vwCl [(h, .inr (0, [.ref a, .int (nI 1024)])), (a, .inl (cI, 512, .inl (fun _ => 0))), (q, .inr (1, [.int 0, .int 0, .null, .null]))] H2 := hP
  have hD : va_D (fun x : Nat => s.heap.size ≤ x) [(h, .inr (0, [.ref a, .int (nI 1024)])), (a, .inl (cI, 512, .inl (fun _ => 0))), (q, .inr (1, [.int 0, .int 0, .null, .null]))] := hD
  have hq0 : s.heap.size ≤ q := hD.2 2 _ rfl
  have hqh : h ≠ q := fun h9 => by have := hD.1 0 2 _ _ rfl rfl h9; omega
  have hqa : a ≠ q := fun h9 => by have := hD.1 1 2 _ _ rfl rfl h9; omega
  have hh2 : h < H2.size := (hP 0 _ rfl).lt
  have ha2 : a < H2.size := (hP 1 _ rfl).lt
  have hq2 : q < H2.size := (hP 2 _ rfl).lt
  refine W.widen (k := 3) (n := 518) (by omega) (by omega) ?_
  refine lv_dup hx hb dL_law_11 rfl ?_
  refine va_callv (va_runI (As := []) (rest := [.ref q]) ⟨hx, hb, hml, hown, hts⟩ (c1_init l dC dI q H2.size) (cwI 0 hts gL_law_X1_init rfl rfl rfl (hts (.initialized RX1) (by decide +kernel)) (hts (.methodLink RL 47 yX1_init) (by decide +kernel)) (hts (.instanceMethod yX1_init) (by decide +kernel)) rfl (by decide +kernel) ⟨Nat.le_of_ble_eq_true rfl, Nat.le_of_ble_eq_true rfl⟩) ⟨fun a U g mk q => by obtain ⟨q0, q1, qP, qK⟩ := q; exact ⟨q0, q1, qP, va_K.moved (u := U) (U := U.calling g mk a) (Vm.Alike.refl U.vm) qK⟩, fun U hU hW => ⟨rfl, by rw [hU], by rw [hU]; exact hP.sub [2] rfl, va_K.moved hW.alike hK0⟩⟩ rfl rfl hl.1 rfl (lv_room (Nat.le_of_ble_eq_true rfl)) dL_law_12 ⟨Nat.le_of_ble_eq_true rfl, Nat.le_of_ble_eq_true rfl⟩) hS (fun x h1 h9 => by rcases h9 with h9 | h9; exact h9 ▸ hq0; omega) (fun x h9 => by rcases h9 with h9 | h9; exact h9 ▸ hq0; exact Nat.le_trans hS.1 h9) (fun u t H3 locs ht hvm hw hB hz3 hk3 hS => ?_)
  obtain ⟨qa, qb, cY, cZ⟩ := u
  obtain ⟨hPm, hKm⟩ := hB
  rw [ht] at hPm
  have hKm := va_K.moved hvm.symm hKm
  try dsimp only at hw hPm hKm
  obtain ⟨hw1, hw2, hw3⟩ := hw
  have hPx : va_P (dC, dI) vwCl (cb_w h a cI (nI 1024) (fun _ => 0)) H3 := cl_kept (hP.sub [0, 1] rfl) hk3 (fun x hx9 h9 => by
    simp only [List.mem_cons, List.not_mem_nil, or_false] at hx9
    rcases hx9 with rfl | rfl
    · rcases h9 with h9 | h9
      · exact hqh h9
      · exact absurd h9 (Nat.not_le.mpr hh2)
    · rcases h9 with h9 | h9
      · exact hqa h9
      · exact absurd h9 (Nat.not_le.mpr ha2))
  have hs2 : s.heap.size ≤ H2.size := Nat.le_of_lt (Nat.lt_of_le_of_lt hh0 hh2)
  refine W.widen (k := 5) (n := 1542) (by omega) (by omega) ?_
  refine lv_astore_n (lv' := [(2, .ref q), (1, .ref h), (0, .ref b)]) hx hb dL_law_15 rfl hl (by decide) rfl (fun ls hl => ?_)
  refine lv_iconst (v := 1) hx hb dL_law_16 (by decide) ?_
  have hP5 : va_P (dC, dI) vwCl [(h, .inr (0, [.ref a, .int (nI 1024)])), (a, .inl (cI, 512, .inl (fun _ => 0))), (q, .inr (1, [.int 0, .int (nI 1024), .ref qa, .ref qb])), (qa, .inl (cY, 512, .inl (fun c => md_b ((fun _ => false) c)))), (qb, .inl (cZ, 512, .inl (fun c => md_b ((fun _ => false) c))))] H3 := va_P.app hPx hPm
  have hD5 : va_D (fun x : Nat => s.heap.size ≤ x) [(h, .inr (0, [.ref a, .int (nI 1024)])), (a, .inl (cI, 512, .inl (fun _ => 0))), (q, .inr (1, [.int 0, .int (nI 1024), .ref qa, .ref qb])), (qa, .inl (cY, 512, .inl (fun c => md_b ((fun _ => false) c)))), (qb, .inl (cZ, 512, .inl (fun c => md_b ((fun _ => false) c))))] := by
    refine st_D ?_ ?_
    · show [h, a, q, qa, qb].Nodup
      simp only [List.nodup_cons, List.mem_cons, List.not_mem_nil, or_false, not_or, List.nodup_nil, and_true, not_false_eq_true]
      omega
    · intro x hx9
      simp only [List.mem_cons, List.not_mem_nil, or_false] at hx9
      rcases hx9 with rfl | rfl | rfl | rfl | rfl
      · exact hh0
      · exact ha0
      · exact hq0
      · exact Nat.le_trans hs2 hw1
      · exact Nat.le_trans hs2 hw2
  have hK5 : va_K (dC, dI) vwCl [(cI, .int), (cY, .boolean), (cZ, .boolean)] s := hKx.app hKm
  refine va_newa (atype := .long) (n := 1) (ty := .long) (N' := 1) (a0 := (1, .inr (.inl (fun _ => 0)))) hx hb (hts0 (.arrayClass .long) (by decide +kernel)) rfl hK5 hP5 hD5 hS hA (fun _ => rfl) (by decide +kernel) (by decide +kernel) (by decide +kernel) (by show _ ≤ 1036; omega) (by show _ ≤ 9771; omega) dL_law_17 (fun o cJ H4 hK6 hP6 hD6 hS => ?_)
  have ho0 : s.heap.size ≤ o := hD6.2 5 _ rfl
  have o1 : h ≠ o := fun h9 => by have := hD6.1 0 5 _ _ rfl rfl h9; omega
  have o2 : a ≠ o := fun h9 => by have := hD6.1 1 5 _ _ rfl rfl h9; omega
  have o3 : q ≠ o := fun h9 => by have := hD6.1 2 5 _ _ rfl rfl h9; omega
  have o4 : qa ≠ o := fun h9 => by have := hD6.1 3 5 _ _ rfl rfl h9; omega
  have o5 : qb ≠ o := fun h9 => by have := hD6.1 4 5 _ _ rfl rfl h9; omega
  have hPw : va_P (dC, dI) vwCl (wr_w h a cI (nI 1024) (fun _ => 0) o cJ (fun _ => 0)) H4 := hP6.sub [0, 1, 5] rfl
  have hPm : va_P (dC, dI) vwCl (md_w q qa qb cY cZ 0 (nI 1024) (fun _ => false) (fun _ => false)) H4 := hP6.sub [2, 3, 4] rfl
  have hK : va_K (dC, dI) vwCl [(cI, .int), (cJ, .long), (cY, .boolean), (cZ, .boolean)] s := hK6.sub [0, 3, 1, 2] rfl
  rw [pu_init] at hPw
  refine W.widen (k := 6) (n := 1543) (by omega) (by omega) ?_
  refine lv_astore_n (lv' := [(3, .ref o), (2, .ref q), (1, .ref h), (0, .ref b)]) hx hb dL_law_19 rfl hl (by decide) rfl (fun ls hl => ?_)
  refine lv_iconst (v := 0) hx hb dL_law_20 (by decide) ?_
  refine lv_istore (lv' := [(4, .int 0), (3, .ref o), (2, .ref q), (1, .ref h), (0, .ref b)]) hx hb dL_law_21 hl (by decide) rfl (fun ls hl => ?_)
  have hqa1 : q ≠ qa := by omega
  have hqb1 : q ≠ qb := by omega
  have K0 : lp_K s (dC, dI) h a o q qa qb cI cJ cY cZ := by
    refine ⟨hK, hJ, ⟨hne, ⟨o1.symm, o2.symm⟩, hqa1, hqb1, hw3⟩, ?_, ?_, ?_⟩
    · intro x h1 h2
      rcases h1 with (h1 | h1) | h1 <;> rcases h2 with h2 | h2 | h2 <;> omega
    · intro x h1
      rcases h1 with (h1 | h1) | h1 <;> omega
    · intro x h1
      rcases h1 with h1 | h1 | h1 <;> omega
  have V0 : lp_V s (dC, dI) h a o q qa qb cI cJ cY cZ 1024 (fun _ => false) (fun _ => false) H4 locs := ⟨⟨by decide, by decide, fun _ _ => ⟨rfl, rfl⟩⟩, ⟨_, hPw⟩, ⟨_, hPm⟩, hS⟩
  exact law_loop hst hL C0 K0 (L + 1) 0 (by omega) (by omega) 1024 _ _ H4 locs ls V0 (lv_sub hl [0, 4, 3, 2, 1] rfl)
end
section
set_option maxHeartbeats 4000000 in
theorem lw_walk (l : Launch) (hst : l.stackTraces = false) (b : Addr) (xs : List Int32) : MetFree l x (headSpec (Jvm.Cond.code x code maxLocals ret :: tables_1) room_1) (lw_P b xs) (fun _ _ _ _ _ => True) lw_Q := by
  refine MetFree.of_bodyS (code := code) (maxLocals := maxLocals) (ret := ret) (by decide) ?_ ?_
  · intro args s m h hn
    obtain ⟨meth, c, h1, h2, h3, h4, h5, h6, -, -⟩ := Cond.code_spec hn (atoms_spec (ws := Jvm.Cond.code x code maxLocals ret :: tables_1) h _ List.mem_cons_self)
    exact ⟨meth, c, h1, h2, h3, h4, h5, h6⟩
  · intro p e s m args below meth c s₁ B hml0 hP _
    obtain ⟨rfl, hx, hbd, hgv⟩ := hP
    obtain ⟨scr, harrAt, hlist, hof, hsmall⟩ := hx
    obtain ⟨hcb, hkn, -, -⟩ := State.arrayAt?_spec harrAt
    have hown : s.vm.findClass R_law = some m.cls := findClass_of_methodNamed B.named
    have hts0 : ∀ c ∈ (Jvm.Cond.code x code maxLocals ret :: tables_1), c.before #[Value.ref b] s = true := atoms_spec (ws := Jvm.Cond.code x code maxLocals ret :: tables_1) B.pre
    have hts : ∀ w ∈ lw_tbl, w.before #[Value.ref b] s = true := k2_hts_sels lw_privs (fun w hw => hts0 w (List.mem_cons_of_mem _ hw)) lw_privs_ok
    have hml : c.maxLocals = 7 := B.maxLocals_eq (hts0 _ List.mem_cons_self)
    have X₀ : Stand p l e room_1 s m #[Value.ref b] below meth c s₁ [] 0 0 := Stand.of_body B
    have hh0 : s₁.heap = s.heap := by rw [B.state]; rfl
    have hsz : scr.slots.size = xs.length := by rw [← Array.length_toList, hlist, List.length_map]
    have hval : ∀ j : Nat, j < xs.length → scr.slots[j]? = some (.int (xs.getD j 0)) := fun j hj => by
      rw [← Array.getElem?_toList, hlist]
      simp [hj]
    have hbl : b < s.heap.size := (Array.getElem?_eq_some_iff.mp hcb).1
    have hX : va_X b xs.length (fun j => xs.getD j 0) s s.heap := ⟨scr, hcb, hof, hkn, hsz, hval⟩
    have K : W p l e room_1 s m #[Value.ref b] below meth c s₁.heap [] 0 0 (lw_Z below #[Value.ref b] s) (entryFrame m ([Value.ref b] : List Value).toArray 7) := by
      rw [hh0]
      exact whole_start l hst hbd ⟨B.exec, B.bytes, B.returns, hml, hown, hts, hX, hbl, B.notSynchronized, hgv⟩
    obtain ⟨t, a1, o, b1, b2, b3⟩ := K s₁ rfl X₀
    exact ⟨t, o, a1, b1, b2, b3⟩
theorem lw_pre_spec {args : Array Value} {s : State} (h : (Jvm.Cond.and given_1 narrow_1).before args s = true) (hr : rest_1_c.before args s = true) : ∃ (b : Addr) (xs : List Int32), lw_P b xs args s := by
  have hs := flat_of_before _ h
  have hq := flat_of_before _ hr
  have hc : (Cond.count 1).before args s = true := hs _ (by decide +kernel)
  have harr : (Cond.arrayOf (.arg 0) .int).before args s = true := hs _ (by decide +kernel)
  have hle : (Cond.le (.length (.arg 0)) (.int 1536)).before args s = true := hs _ (by decide +kernel)
  have hlen : (Cond.isInt (.length (.arg 0))).before args s = true := hq _ (by decide +kernel)
  have hall : (Cond.all (.arg 0) (.isInt (.elem (.arg 0) (.index 0)))).before args s = true := hq _ (by decide +kernel)
  obtain ⟨b, xs, hb, hx⟩ := State.ints_of_pre rfl harr hlen hall
  have hsm : xs.length < 2 ^ 31 := hx.choose_spec.2.2.2
  have hev : (Term.length (.arg 0)).eval args s none [] s = some (.int xs.length.toInt32) := hx.length_eval hb
  have hv := Cond.le_ints hev (show (Term.int 1536).eval args s none [] s = some (.int 1536) from rfl)
  have hd : xs.length.toInt32 ≤ 1536 := by
    simpa [Cond.before, Cond.holds, hv] using hle
  have hN : xs.length ≤ 1536 := (Int32.ofNat_le_ofNat hsm (by decide)).mp (show Int32.ofNat xs.length ≤ Int32.ofNat 1536 from hd)
  exact ⟨b, xs, Cond.one_arg hc (show args[0]? = some (.ref b) from hb), hx, hN, h⟩
theorem lw_comes (l : Launch) (hst : l.stackTraces = false) : Comes l x (Jvm.Cond.code x code maxLocals ret :: tables_1) room_1 (fun tb e args s => Calls_1 tb e args s ∧ rest_1 tb e args s ∧ Pre_1 tb e args s)
    (fun _ _ args s o t => lw_Q args s o t) := by
  intro p e ha hc hk s m args below hf hfit hheap happ hpre
  obtain ⟨b, xs, hP⟩ := lw_pre_spec hpre.2.2 hpre.2.1
  obtain ⟨k, o, h1, h2, h3, hQ⟩ := lw_walk l hst b xs p e ha hc hk s m args below hf ((Spec.applies_iff_loose hf).mp happ).1 hP trivial
  exact ⟨k, o, h1, h2, h3, hQ⟩
theorem lw_frame {s t : State} {o : Outcome} {args : Array Value} (h : Framed s o t [] 1036 9771) :
    Framed s o t (fieldLocs frame_1_writes args s ++ arrayLocs frame_1_arrays args s ++ staticLocs frame_1_statics s) 1036 9771 := h
theorem lw_limb (L : Cond) (hL : ∀ (args : Array Value) (s t : State), L.after args s (.returned (some (.int 1))) t = true) :
    ArmFor flags0 classFile x code maxLocals ret World_1 tables_1 room_1 Calls_1 rest_1 Pre_1
      (fun tb e a s o t => postC L tb e a s o t ∧ Framed s o t (fieldLocs frame_1_writes a s ++ arrayLocs frame_1_arrays a s ++ staticLocs frame_1_statics s) 1036 9771) := by
  intro l hfl _ _ p e ha hc hk s m args below hf hfit hheap happ hpre
  have hst : l.stackTraces = false := by
    unfold Launch.stackTraces
    rw [hfl]
    decide
  obtain ⟨k, o, h1, h2, h3, rfl, hF⟩ := lw_comes l hst p e ha hc hk s m args below hf hfit hheap happ hpre
  exact ⟨k, _, h1, h2, h3, hL args s _, lw_frame hF⟩
theorem i_vc : Claimed_1_1 ∧ Claimed_1_2 := ⟨lw_limb limb_1_1 (fun args s t => by simp [limb_1_1, Cond.after, Cond.holds, Cond.value]), lw_limb limb_1_2 (fun args s t => Cond.after_iff.mpr (by
  first | (rw [show limb_1_2 = Cond.eq .result (.int 1) from rfl, Cond.eq_ints (x := 1) (y := 1) rfl rfl]; simp; done) | (simp [limb_1_2, Cond.value, Term.eval]; done)))⟩
end
