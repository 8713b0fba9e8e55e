section
-- ===== PART A: goes FIRST, ahead of the names: the tables' words, and 'selects' of the private methods out of them =====
/-- a private method of a class that the tables say can be made, by its rows of tables_1 -/
def lw_okq (q : MethodName × Nat) : Prop := (q.1.cls ≠ "java/lang/invoke/MethodHandle" ∧ q.1.cls ≠ "java/lang/invoke/VarHandle") ∧ Cond.instantiable q.1.cls q.2 ∈ tables_1 ∧ Cond.privateMethod q.1 ∈ tables_1 ∧ Cond.instanceMethod q.1 ∈ tables_1
theorem lw_p0 : lw_okq (⟨"CardBook", "countWith", "(I)I"⟩, 2) := ⟨⟨by decide +kernel, by decide +kernel⟩, List.mem_of_getElem? (i := 9) (by decide +kernel), List.mem_of_getElem? (i := 29) (by decide +kernel), List.mem_of_getElem? (i := 30) (by decide +kernel)⟩
theorem lw_p1 : lw_okq (⟨"CardBook", "cardCount", "()I"⟩, 2) := ⟨⟨by decide +kernel, by decide +kernel⟩, List.mem_of_getElem? (i := 9) (by decide +kernel), List.mem_of_getElem? (i := 33) (by decide +kernel), List.mem_of_getElem? (i := 34) (by decide +kernel)⟩
theorem lw_p2 : lw_okq (⟨"java/lang/Throwable", "fillInStackTrace", "(I)Ljava/lang/Throwable;"⟩, 6) := ⟨⟨by decide +kernel, by decide +kernel⟩, List.mem_of_getElem? (i := 85) (by decide +kernel), List.mem_of_getElem? (i := 83) (by decide +kernel), List.mem_of_getElem? (i := 84) (by decide +kernel)⟩
theorem lw_p3 : lw_okq (⟨"CardBook", "requireCell", "(I)V"⟩, 2) := ⟨⟨by decide +kernel, by decide +kernel⟩, List.mem_of_getElem? (i := 9) (by decide +kernel), List.mem_of_getElem? (i := 124) (by decide +kernel), List.mem_of_getElem? (i := 125) (by decide +kernel)⟩
theorem lw_p4 : lw_okq (⟨"CardBook", "requireCard", "(I)V"⟩, 2) := ⟨⟨by decide +kernel, by decide +kernel⟩, List.mem_of_getElem? (i := 9) (by decide +kernel), List.mem_of_getElem? (i := 159) (by decide +kernel), List.mem_of_getElem? (i := 160) (by decide +kernel)⟩
theorem lw_p5 : lw_okq (⟨"CardBook", "removeMark", "(II)Z"⟩, 2) := ⟨⟨by decide +kernel, by decide +kernel⟩, List.mem_of_getElem? (i := 9) (by decide +kernel), List.mem_of_getElem? (i := 164) (by decide +kernel), List.mem_of_getElem? (i := 165) (by decide +kernel)⟩
theorem lw_p6 : lw_okq (⟨"CardBook", "firstWith", "(II)I"⟩, 2) := ⟨⟨by decide +kernel, by decide +kernel⟩, List.mem_of_getElem? (i := 9) (by decide +kernel), List.mem_of_getElem? (i := 189) (by decide +kernel), List.mem_of_getElem? (i := 190) (by decide +kernel)⟩
theorem lw_p7 : lw_okq (⟨"CardBookModel", "goes", "(Z)Z"⟩, 4) := ⟨⟨by decide +kernel, by decide +kernel⟩, List.mem_of_getElem? (i := 209) (by decide +kernel), List.mem_of_getElem? (i := 237) (by decide +kernel), List.mem_of_getElem? (i := 238) (by decide +kernel)⟩
theorem lw_p8 : lw_okq (⟨"CardBookModel", "many", "(IZ)I"⟩, 4) := ⟨⟨by decide +kernel, by decide +kernel⟩, List.mem_of_getElem? (i := 209) (by decide +kernel), List.mem_of_getElem? (i := 241) (by decide +kernel), List.mem_of_getElem? (i := 242) (by decide +kernel)⟩
theorem lw_p9 : lw_okq (⟨"CardBookModel", "isCell", "(I)Z"⟩, 4) := ⟨⟨by decide +kernel, by decide +kernel⟩, List.mem_of_getElem? (i := 209) (by decide +kernel), List.mem_of_getElem? (i := 249) (by decide +kernel), List.mem_of_getElem? (i := 250) (by decide +kernel)⟩
theorem lw_p10 : lw_okq (⟨"CardBookModel", "cards", "()I"⟩, 4) := ⟨⟨by decide +kernel, by decide +kernel⟩, List.mem_of_getElem? (i := 209) (by decide +kernel), List.mem_of_getElem? (i := 257) (by decide +kernel), List.mem_of_getElem? (i := 258) (by decide +kernel)⟩
theorem lw_p11 : lw_okq (⟨"CardBookModel", "isCard", "(I)Z"⟩, 4) := ⟨⟨by decide +kernel, by decide +kernel⟩, List.mem_of_getElem? (i := 209) (by decide +kernel), List.mem_of_getElem? (i := 265) (by decide +kernel), List.mem_of_getElem? (i := 266) (by decide +kernel)⟩
def lw_privs_1 : List (MethodName × Nat) := [(⟨"CardBook", "countWith", "(I)I"⟩, 2), (⟨"CardBook", "cardCount", "()I"⟩, 2), (⟨"java/lang/Throwable", "fillInStackTrace", "(I)Ljava/lang/Throwable;"⟩, 6), (⟨"CardBook", "requireCell", "(I)V"⟩, 2), (⟨"CardBook", "requireCard", "(I)V"⟩, 2), (⟨"CardBook", "removeMark", "(II)Z"⟩, 2), (⟨"CardBook", "firstWith", "(II)I"⟩, 2), (⟨"CardBookModel", "goes", "(Z)Z"⟩, 4), (⟨"CardBookModel", "many", "(IZ)I"⟩, 4), (⟨"CardBookModel", "isCell", "(I)Z"⟩, 4), (⟨"CardBookModel", "cards", "()I"⟩, 4), (⟨"CardBookModel", "isCard", "(I)Z"⟩, 4)]
theorem lw_r1 : ∀ q ∈ lw_privs_1, lw_okq q := List.forall_mem_cons.mpr ⟨lw_p0, List.forall_mem_cons.mpr ⟨lw_p1, List.forall_mem_cons.mpr ⟨lw_p2, List.forall_mem_cons.mpr ⟨lw_p3, List.forall_mem_cons.mpr ⟨lw_p4, List.forall_mem_cons.mpr ⟨lw_p5, List.forall_mem_cons.mpr ⟨lw_p6, List.forall_mem_cons.mpr ⟨lw_p7, List.forall_mem_cons.mpr ⟨lw_p8, List.forall_mem_cons.mpr ⟨lw_p9, List.forall_mem_cons.mpr ⟨lw_p10, List.forall_mem_cons.mpr ⟨lw_p11, fun _ h => absurd h List.not_mem_nil⟩⟩⟩⟩⟩⟩⟩⟩⟩⟩⟩⟩
def lw_privs : List (MethodName × Nat) := lw_privs_1
def lw_tbl : List Cond := k2_sels lw_privs ++ tables_1
theorem lw_privs_ok : ∀ q ∈ lw_privs, lw_okq q := lw_r1
end
section
/-! Rows of this proof's own: a method that throws a new exception with a text, its callers that pass it on, a caller that catches it. In all of them nothing old was written before. -/
theorem xt_lays {C n d : String} {a a' : Array Value} {s U : State} (hvm : s.vm.Alike U.vm) (hh : ∀ q : Nat, q < s.heap.size → U.heap[q]? = s.heap[q]?) (h : (Cond.laysStatic C n d).before a s = true) : (Cond.laysStatic C n d).before a' U = true := by
  obtain ⟨c, k, i, f, b, cell, h1, h2, h3, h4, h5, h6, h7, h8, h9⟩ := Cond.laysStatic_spec h
  obtain ⟨k', hi', he⟩ := State.fieldFound?_setVm hvm h2
  have h5' : U.heap[b]? = some cell := by rw [hh b (Array.getElem?_eq_some_iff.mp h5).1]; exact h5
  show (Cond.laysStatic C n d).holds a' U none U [] = true
  exact Cond.laysStatic_of (by rw [hvm.findClass]; exact h1) hi' h3 (by rw [he]; exact h4) h5' h6 h7 h8 (by rw [he]; exact h9)
theorem xt_isRef {C n d : String} {a a' : Array Value} {s U : State} (hvm : s.vm.Alike U.vm) (hh : ∀ q : Nat, q < s.heap.size → U.heap[q]? = s.heap[q]?) (hl : (Cond.laysStatic C n d).before a s = true) (h : (Cond.isRef (.static C n d)).before a s = true) : (Cond.isRef (.static C n d)).before a' U = true := by
  obtain ⟨c, k, i, f, b, cell, h1, h2, h3, h4, h5, h6, h7, h8, h9⟩ := Cond.laysStatic_spec hl
  obtain ⟨k', hi', he⟩ := State.fieldFound?_setVm hvm h2
  have hi : U.fieldFound? C n d = some (c, k', i, f) := hi'
  have h4' : k'.statics = some b := by rw [he]; exact h4
  have h5' : U.heap[b]? = some cell := by rw [hh b (Array.getElem?_eq_some_iff.mp h5).1]; exact h5
  have e1 : (Term.static C n d).eval a s none [] s = cell.slots[f.slot]? := by simp [Term.eval, State.fieldNamed?, h2, h3, h4, h5, h6]
  have e2 : (Term.static C n d).eval a' U none [] U = cell.slots[f.slot]? := by simp [Term.eval, State.fieldNamed?, hi, h3, h4', h5', h6]
  simp only [Cond.before, Cond.holds, Cond.value, e1] at h
  simp only [Cond.before, Cond.holds, Cond.value, e2]
  exact h
/-- what a throw asks of the heap -/
def xt_I (U : State) : Prop := ((Cond.laysStatic Bundle.tN "UNASSIGNED_STACK" Bundle.steD).before #[] U = true ∧ (Cond.isRef (.static Bundle.tN "UNASSIGNED_STACK" Bundle.steD)).before #[] U = true) ∧ (Cond.laysStatic Bundle.tN "SUPPRESSED_SENTINEL" Bundle.listD).before #[] U = true ∧ (Cond.isRef (.static Bundle.tN "SUPPRESSED_SENTINEL" Bundle.listD)).before #[] U = true
theorem xt_I.to {s U : State} (hvm : s.vm.Alike U.vm) (hh : ∀ q : Nat, q < s.heap.size → U.heap[q]? = s.heap[q]?) (h : xt_I s) : xt_I U :=
  ⟨⟨xt_lays hvm hh h.1.1, xt_isRef hvm hh h.1.1 h.1.2⟩, xt_lays hvm hh h.2.1, xt_isRef hvm hh h.2.1 h.2.2⟩
/-- the words of a throw that the tables alone decide -/
def xt_tab (w : Cond) : Bool := decide (w ≠ .laysStatic Bundle.tN "UNASSIGNED_STACK" Bundle.steD) && decide (w ≠ .laysStatic Bundle.tN "SUPPRESSED_SENTINEL" Bundle.listD) && decide (w ≠ .isRef (.static Bundle.tN "UNASSIGNED_STACK" Bundle.steD)) && decide (w ≠ .isRef (.static Bundle.tN "SUPPRESSED_SENTINEL" Bundle.listD))
def xt_ws (own : String) (ic : Nat) (E : String) (names : List String) : List Cond := (Bundle.ownAtoms own ic E names).filter xt_tab
/-- a word on the tables rides along -/
theorem xt_ride {a a' : Array Value} {s U : State} {w : Cond} (hW : s.WarmedH U.vm) (h1 : (w.onTables && w.keepsFace) = true) (h : w.before a s = true) : w.before a' U = true := by
  rw [Bool.and_eq_true] at h1
  have h3 : w.before a (s.setVm U.vm) = true := Cond.before_shiftedFace (State.Shifted.of_warmed hW) w h1.2 h
  have h4 := Cond.onTables_vm (A := a') (A' := a) (U := U) (U' := s) U.vm w h1.1
  rw [State.setVm_self] at h4
  rw [h4]
  exact h3
theorem xt_all {args : Array Value} {s : State} {L B : List Cond} (hI : xt_I s) (h : ∀ w ∈ (L.filter xt_tab).filter goodWord, w.before args s = true) (h2 : ∀ w ∈ (L.filter xt_tab).filter (fun w => !goodWord w), w ∈ B) (hB : ∀ w ∈ B, (w.onTables && w.keepsFace) = true) (h3 : ∀ w ∈ B, w.before #[] s = true) : ∀ w ∈ L, w.before args s = true := by
  intro w hw
  have hvm : s.vm.Alike s.vm := Vm.Alike.refl s.vm
  have hh : ∀ q : Nat, q < s.heap.size → s.heap[q]? = s.heap[q]? := fun _ _ => rfl
  by_cases h1 : w = .laysStatic Bundle.tN "UNASSIGNED_STACK" Bundle.steD
  · subst h1; exact xt_lays hvm hh hI.1.1
  by_cases h2' : w = .laysStatic Bundle.tN "SUPPRESSED_SENTINEL" Bundle.listD
  · subst h2'; exact xt_lays hvm hh hI.2.1
  by_cases h3' : w = .isRef (.static Bundle.tN "UNASSIGNED_STACK" Bundle.steD)
  · subst h3'; exact xt_isRef hvm hh hI.1.1 hI.1.2
  by_cases h4 : w = .isRef (.static Bundle.tN "SUPPRESSED_SENTINEL" Bundle.listD)
  · subst h4; exact xt_isRef hvm hh hI.2.1 hI.2.2
  have ht : w ∈ L.filter xt_tab := List.mem_filter.mpr ⟨hw, by simp [xt_tab, h1, h2', h3', h4]⟩
  by_cases hg : goodWord w = true
  · exact h w (List.mem_filter.mpr ⟨ht, hg⟩)
  · have hb := h2 w (List.mem_filter.mpr ⟨ht, by simp [hg]⟩)
    exact xt_ride (State.WarmedH.refl s) (hB w hb) (h3 w hb)
/-- an end by a throw of E: one new cell of six slots, nothing old written -/
def xt_Q (E : String) (st : State) (o : Outcome) (t : State) : Prop := ∃ (x : Addr) (ce : Cell), o = .threw x ∧ t.heap[x]? = some ce ∧ ce.vm = .none ∧ st.vm.findClass E = some ce.cls ∧ st.WarmedH t.vm ∧ st.sameButNew ({ t with vm := st.vm } : State) [] 1 6
def xt_Met (l : Launch) (y : MethodName) (ws : List Cond) (rm : Room) (Pc : Array Value → State → Prop) (E : String) : Prop :=
  MetFree l y (headSpec ws rm) Pc (fun _ _ _ _ _ => True) (fun _ st o t => xt_Q E st o t)
def xt_MQ (below : List Frame) (E : String) (s : State) : State → Prop := fun t => ∃ o, t.status = .running ∧ Ended t below o ∧ xt_Q E s o t
theorem xt_kept {s U : State} {k n : Nat} (h : s.sameButNew ({ U with vm := s.vm } : State) [] k n) : ∀ q : Nat, q < s.heap.size → U.heap[q]? = s.heap[q]? := by
  intro q hq
  have h1 : s.heap[q]? = some s.heap[q] := Array.getElem?_eq_getElem hq
  have h2 : U.heap[q]? = some s.heap[q] := State.sameButNew.old_cell h h1
  rw [h1, h2]
section XT
variable {p : Program} {l : Launch} {e : Env} {R : Room} {s : State} {m : MethodId} {args : Array Value} {below : List Frame} {meth : Method} {c : Code} {H : Heap} {Q : State → Prop}
  {cc bytes : ByteArray} {pc : Nat} {ls : Array Slot} {rest st0 : List Value} {own E : String} {names : List String}
theorem xt_ofW {y : MethodName} {ws ws' : List Cond} {rm : Room} {Pc : Array Value → State → Prop} {maxL : Nat} {ret : Option FieldType}
    (hy : plainName y.cls = true) (hw : ws = Cond.code y cc maxL ret :: ws')
    (body : ∀ p e s m args below meth c s₁, BodyLoose p l y (headSpec ws rm) cc maxL ret e s m args below meth c s₁ → c.maxLocals = maxL → c.exceptionTable.toList = [] → Pc args s →
      W p l e (headSpec ws rm).room s m args below meth c s.heap [] 0 0 (xt_MQ below E s) (entryFrame m args maxL)) : xt_Met l y ws rm Pc E := by
  refine MetFree.of_bodyS (code := cc) (maxLocals := maxL) (ret := ret) hy ?_ ?_
  · intro args s m h hn
    obtain ⟨meth, c, h1, h2, h3, h4, h5, h6, -, -⟩ := Cond.code_spec hn (atoms_spec (ws := ws) h _ (by rw [hw]; exact List.mem_cons_self))
    exact ⟨meth, c, h1, h2, h3, h4, h5, h6⟩
  · intro p e s m args below meth c s₁ B hml hP _
    have hemp : c.exceptionTable.toList = [] := by
      have h9 := BodyLoose.noHandlers B (atoms_spec (ws := ws) B.pre _ (by rw [hw]; exact List.mem_cons_self))
      rw [Array.isEmpty_iff] at h9
      rw [h9]
    obtain ⟨t, a1, o, b1, b2, b3⟩ := body p e s m args below meth c s₁ B hml hemp hP s₁ (by rw [B.state]; rfl) (Stand.of_body B)
    exact ⟨t, o, a1, b1, b2, b3⟩
/-- the exception's constructor and athrow, behind new, dup, ldc -/
theorem xt_ctor {a : Addr} {cX : ClassId} {kX : Class} {ic : Nat} {msg : Value} (hexec : p.tables.exec = Jvm.exec) (hb : c.code = cc) (hl : l.stackTraces = false)
    (hown : s.vm.findClass own = some m.cls) (hE : Bundle.fit E = true) (hnames : ∀ n ∈ names, Bundle.fit n = true) (hat : ∀ w ∈ Bundle.ownAtoms own ic E names, w.before args s = true)
    (hf : s.vm.findClass E = some cX) (hk : s.vm.classes[cX]? = some kX) (hcell : H[a]? = some (freshCell cX kX)) (hnew : s.heap.size ≤ a) (hmsg : msg.isRef = true) (hsize : ls.size = c.maxLocals)
    (d6 : decode cc pc = .ok (.invokespecial ic, 3)) (d9 : decode cc (pc + 3) = .ok (.athrow, 1)) (htab : c.exceptionTable.toList = [])
    (hRf : names.length + 3 < R.frames) (hRl : (rest.map fun v => v.category).sum + (13 * (names.length + 1) + 43) ≤ R.locals) (hlocks : meth.locks = false) :
    W p l e R s m args below meth c H [] 1 6 (xt_MQ below E s) (F0 m pc ls (msg :: .ref a :: .ref a :: rest)) := by
  intro T hT X
  have htr : e.platform.stackTraces = false := (show e.platform.stackTraces = l.stackTraces by rw [X.admits.platform]).trans hl
  have hcat : (Value.ref a).category = 1 := rfl
  obtain ⟨U, st, hrun, hend, hW, hsame, ce, hce, hO⟩ := X.ctorThrowS hexec htr (own := own) (cls := E) (names := names) (ic := ic) hown hE hnames hat (fun x hx => nomatch hx) hf hk (by rw [hT]; exact hcell) hnew hmsg
    (g := F0 m pc ls (msg :: .ref a :: .ref a :: rest)) rfl hsize rfl rfl (rest := rest) rfl (by rw [hb]; exact d6) (by rw [hb]; exact d9) (by rw [htab]; exact fun x hx => nomatch hx)
    hRf (by
      have h0 : (F0 m pc ls (msg :: .ref a :: .ref a :: rest)).monitorRoom = 0 := rfl
      simp only [h0, List.map_cons, List.sum_cons, hcat]; omega) hlocks
  exact ⟨U, st, .threw a, hrun, hend, a, ce, rfl, hce, hO.vm, hO.cls, hW, hsame⟩
/-- 'throw new E("..")' where nothing was made or written before -/
theorem xt_throw {ik is ic sa : Nat} {text : String} (hexec : p.tables.exec = Jvm.exec) (hb : c.code = cc) (hl : l.stackTraces = false)
    (hown : s.vm.findClass own = some m.cls) (hE : Bundle.fit E = true) (hnames : ∀ n ∈ names, Bundle.fit n = true) (hat : ∀ w ∈ Bundle.ownAtoms own ic E names, w.before args s = true)
    (hkl : (Cond.classLink own ik E).before args s = true) (hini : (Cond.initialized E).before args s = true) (hstr : vk_R own is text sa s) (hsize : ls.size = c.maxLocals)
    (d0 : decode cc pc = .ok (.new ik, 3)) (d3 : decode cc (pc + 3) = .ok (.dup, 1)) (d4 : decode cc (pc + 4) = .ok (.ldc is, 2)) (d6 : decode cc (pc + 6) = .ok (.invokespecial ic, 3)) (d9 : decode cc (pc + 9) = .ok (.athrow, 1)) (htab : c.exceptionTable.toList = [])
    (hRf : names.length + 3 < R.frames) (hRl : (rest.map fun v => v.category).sum + (13 * (names.length + 1) + 43) ≤ R.locals) (hRc : 1 ≤ R.cells) (hRs : 6 ≤ R.slots) (hlocks : meth.locks = false) :
    W p l e R s m args below meth c s.heap [] 0 0 (xt_MQ below E s) (F0 m pc ls rest) := by
  intro T hT X
  obtain ⟨vm1, cX, kX, hfX, hkX, -, -, X1, st1⟩ := X.newCold hexec (own := own) (C := E) (index := ik) (n := 6) hown hkl (hat (.instantiable E 6) (by simp [Bundle.ownAtoms])) hini
    (g := F0 m pc ls rest) rfl (by rw [hb]; exact d0) (by omega) (by omega)
  have hcell : ((T.setVm vm1).pushCell { cls := cX, slots := kX.instanceTypes.map defaultValue, vm := .none }).heap[T.heap.size]? = some (freshCell cX kX) := State.heap_pushCell_size _ _
  have k1 : W p l e R s m args below meth c ((T.setVm vm1).pushCell { cls := cX, slots := kX.instanceTypes.map defaultValue, vm := .none }).heap [] 1 6 (xt_MQ below E s) (F0 m (pc + 3) ls (.ref T.heap.size :: rest)) := by
    refine lv_dup hexec hb d3 rfl ?_
    refine va_ldcS hexec hb hown hstr d4 ?_
    exact xt_ctor hexec hb hl hown hE hnames hat hfX hkX hcell (by rw [hT]; exact Nat.le_refl _) rfl hsize d6 d9 htab hRf hRl hlocks
  obtain ⟨t, a1, b1⟩ := k1 _ rfl X1
  exact ⟨t, st1 t a1, b1⟩
/-- a call that throws, from where nothing was made or written before: the exception lies over the caller's frame -/
def xt_Run (p : Program) (l : Launch) (e : Env) (R : Room) (s : State) (m : MethodId) (args : Array Value) (below : List Frame) (meth : Method) (c : Code) (g : JFrame) (rest : List Value) (E : String) : Prop :=
  ∀ T : State, T.heap = s.heap → Stand p l e R s m args below meth c T [] 0 0 → ∃ (x : Addr) (ce : Cell) (T' : State), Stand p l e R s m args below meth c T' [] 1 6 ∧ T'.heap[x]? = some ce ∧ ce.vm = .none ∧ s.vm.findClass E = some ce.cls ∧
    Steps p.tables e below (T.setTop g) ((T'.setTop { g with stack := rest }).pushFrame (.throwing x))
theorem xt_runV {y : MethodName} {C : String} {maxL nL n index : Nat} {ret : Option FieldType} {ws Ts : List Cond} {rm : Room} {Pc : Array Value → State → Prop} {b : Addr} {As : List Value} {g : JFrame}
    (S : CallFix p m c cc nL s args Ts own) (hM : xt_Met l y ws rm Pc E) (cw : CallW R s args own C index y bytes maxL ret ws rm 1 6 n) (hp : PreV s s.heap C b Pc As)
    (hg : g.method = m) (hn : As.length = n) (hsize : g.locals.size = nL) (hstack : g.stack = As.reverse ++ .ref b :: rest) (hW : 2 * g.monitorRoom + (rest.map fun v => v.category).sum ≤ 8) (hdg : decode cc g.pc = .ok (.invokevirtual index, 3)) (hf : 1 ≤ R.cells ∧ 6 ≤ R.slots) :
    xt_Run p l e R s m args below meth c g rest E := by
  obtain ⟨⟨hrc, hrs, hfr, hlo, hws, hcw, hcode, hini, hy, hlen, hlk⟩, hin, hse⟩ := cw
  obtain ⟨hx, hb, hml, ho, -⟩ := S
  obtain ⟨hbl, ⟨cellB, hcB, hoB, hclB⟩, hPc⟩ := hp
  intro T hT X
  obtain ⟨mk, methM, hnamed, hmethM, hstM, habM⟩ := Cond.instanceMethod_spec hin
  obtain ⟨methM', cM, hmethM', hcM, -, hlM, -, -, -, hsigM⟩ := Cond.code_spec hnamed hcode
  cases hmethM.symm.trans hmethM'
  obtain ⟨c2, r2, m2, q1, q2, q3, q4, kP, hkP, hkPi⟩ := Cond.selects_spec hse
  cases hclB.symm.trans q1
  cases (State.methodFound?_of_named hnamed hy).symm.trans q2
  cases hnamed.symm.trans q3
  have hselP : selectMethod e.platform s.vm cellB.cls mk = .method mk := by rw [Launch.admits_selectMethod X.admits]; exact q4
  obtain ⟨vm₁, X₁, hstep₁⟩ := X.invokevirtual hx ho hlk hnamed hmethM hstM hkP hkPi hy (a := b) (cell := cellB) (by rw [hT]; exact hcB)
    (fun z h => by rw [h] at hoB; cases hoB) hselP hmethM habM hkP hkPi (g := g) hg (argsL := As) (rest := rest) (hn.trans (hlen _ hsigM)) hstack (by rw [hb]; exact hdg)
  have hn1 := X₁.named hnamed
  obtain ⟨methY, cY, hmY, hcY, -, hlY, -, -, -, -⟩ := Cond.code_spec hn1 (word_at (a' := args) X₁.warmed (Or.inl (by first | rfl | simp [Cond.onTables, Cond.keeps, Cond.steady])) hcode)
  obtain ⟨kY, hkY, -⟩ := className_of_methodNamed hn1
  have hinitY : kY.init = .initialized := Cond.initialized_spec (findClass_of_methodNamed hn1) hkY (word_at (a' := args) X₁.warmed (Or.inl (by first | rfl | simp [Cond.onTables, Cond.keeps, Cond.steady])) hini)
  have hAt : At (T.setVm vm₁) ({ g with stack := rest } : JFrame).method c below := by show At (T.setVm vm₁) g.method c below; rw [hg]; exact X₁.here
  have hPcU : Pc (Value.ref b :: As).toArray (T.setVm vm₁) := hPc _ hT X₁.warmed
  have happ : (headSpec ws rm).appliesLoose y e.platform ((T.setVm vm₁).calling { g with stack := rest } mk (Value.ref b :: As).toArray) = true :=
    Spec.appliesLoose_calling (g := { g with stack := rest }) hAt (by rw [hb]; exact hdg) hn1 hkY hinitY
      (X₁.room_calling (g := { g with stack := rest }) (R' := rm) (hsize.trans hml.symm) hmY hcY hfr (by rw [hlY]; exact Nat.le_trans (Nat.add_le_add_right (Nat.add_le_add_right hW _) _) hlo) (by rw [hrc]; omega) (by rw [hrs]; omega))
      (atoms_intro fun w hw => hws w hw _ _ X₁.warmed)
  obtain ⟨mid, hmid⟩ := hAt.above
  have hfr2 : ((T.setVm vm₁).setTop { g with stack := rest }).frames = (.java { g with stack := rest } :: mid) ++ below := by rw [State.frames_setTop' _ hAt.top, hmid]; rfl
  obtain ⟨o, s₂, hsteps, -, hend, hq⟩ := Steps.callFree hM p X₁.admits X₁.cas X₁.clock (acts := []) hfr2 happ (hbl _ _ _ _ hPcU) trivial
  rw [State.frames_setTop' _ hAt.top, X₁.tail] at hend
  have hq' : xt_Q E ((T.setVm vm₁).calling { g with stack := rest } mk (Value.ref b :: As).toArray) o s₂ := hq
  obtain ⟨x, ce, rfl, hce, hcv, hcl, hWm, hsm⟩ := hq'
  obtain ⟨T', X', hWT, hsT, ht⟩ := X₁.outOfThrown (g := { g with stack := rest }) hg (mk := mk) (a := (Value.ref b :: As).toArray) hend hWm hsm
  have hh : T'.heap[x]? = some ce := by
    have h9 : s₂.heap = T'.heap := by rw [ht]; exact Stand.throwing_heap _ _ _
    rw [← h9]; exact hce
  have hcl2 : s.vm.findClass E = some ce.cls := by
    have h9 : (T.setVm vm₁).vm.findClass E = some ce.cls := hcl
    rw [X₁.warmed.alike.findClass] at h9
    exact h9
  refine ⟨x, ce, T', X', hh, hcv, hcl2, ?_⟩
  rw [← ht]
  exact hstep₁ _ fun acts => by rw [doInvoke_state]; exact hsteps
/-- it goes on to the caller -/
theorem xt_pass (hr : xt_Run p l e R s m args below meth c (F0 m pc ls st0) rest E) (htab : c.exceptionTable.toList = []) (hlocks : meth.locks = false) : W p l e R s m args below meth c s.heap [] 0 0 (xt_MQ below E s) (F0 m pc ls st0) := by
  intro T hT X
  obtain ⟨x, ce, T', X', hce, hcv, hcl, st⟩ := hr T hT X
  obtain ⟨st1, hrun, hend, hW, hsm⟩ := X'.leaveThrown x (g := F0 m pc ls rest) rfl rfl rfl (by rw [htab]; exact fun x hx => nomatch hx) hlocks
  exact ⟨_, st.trans st1, .threw x, hrun, hend, x, ce, rfl, hce, hcv, hcl, hW, hsm⟩
/-- the search finds the one row of the table -/
theorem xt_find {S : State} {f : JFrame} {a : Addr} {h : ExceptionTableEntry} {k : ClassId} {cell : Cell} (hm : S.vm.method? f.method = some meth) (hc : meth.code = some c) (htab : c.exceptionTable.toList = [h]) (hx : covers h f.pc = true) (h0 : h.catchType ≠ 0)
    (hl : S.vm.ClassLinks e.platform f.method.cls h.catchType k) (hcell : S.heap[a]? = some cell) (hobj : ∀ z, cell.vm ≠ .statics z) (hk : ∃ z, S.vm.classes[cell.cls]? = some z) (hc2 : ∃ z, S.vm.classes[k]? = some z) (hfit : S.vm.assignable cell.cls k = true)
    (P : Handler → Pre) (B : CtlPost) (d : Bool) (acts : List Action) : wp (findHandler f a) P B e d acts S ↔ P (.found h.handlerPc) d acts (S.setVm (S.vm.noted f.method.cls h.catchType (.cls k))) := by
  rw [Jvm.W.findHandler_eq hm hc, htab]
  simp only [covers] at hx
  obtain ⟨ha, ht⟩ := (resolveClass_links e.toSetting hl).op (op := VmOp.resolveClass f.method.cls h.catchType) rfl
  have hal : S.vm.Alike (S.vm.noted f.method.cls h.catchType (.cls k)) := (Vm.Alike.refl S.vm).noted _ _ _
  obtain ⟨k1, hk1⟩ := hk
  obtain ⟨k2, hk2⟩ := hc2
  obtain ⟨k1', hk1', -⟩ := hal.2.2 _ _ hk1
  obtain ⟨k2', hk2', -⟩ := hal.2.2 _ _ hk2
  have hfit' : (S.vm.noted f.method.cls h.catchType (.cls k)).assignable cell.cls k = true := by rw [hal.assignable]; exact hfit
  simp [findHandler.go, hx, h0, ha, ht, hcell, hobj, hk1', hk2', hfit', VmOp.dirties, VmOp.acts]
/-- it is caught here: the handler goes on with the reference alone on the stack -/
theorem xt_catch {h : ExceptionTableEntry} (hr : xt_Run p l e R s m args below meth c (F0 m pc ls st0) rest E) (hown : s.vm.findClass own = some m.cls) (htab : c.exceptionTable.toList = [h]) (hx : covers h pc = true) (h0 : h.catchType ≠ 0)
    (hlink : (Cond.classLink own h.catchType E).before args s = true) (hcast : (Cond.castable E E).before args s = true)
    (kk : ∀ (x : Addr) (H1 : Heap), s.heap.size ≤ H1.size → (∀ q : Nat, q < s.heap.size → H1[q]? = s.heap[q]?) → W p l e R s m args below meth c H1 [] 1 6 Q (F0 m h.handlerPc ls [.ref x])) : W p l e R s m args below meth c s.heap [] 0 0 Q (F0 m pc ls st0) := by
  intro T hT X
  obtain ⟨x, ce, T', X', hce, hcv, hcl, st⟩ := hr T hT X
  have hpl : e.platform.magicAccessors = ({} : Platform).magicAccessors := by rw [X.admits.platform]
  obtain ⟨k, hk, hlk⟩ := Cond.classLink_spec hown hlink e.platform hpl
  obtain ⟨c3, c4, hc3, hc4, hasg⟩ := Cond.castable_spec hcast
  have e9 : k = ce.cls := Option.some.inj (hk.symm.trans hcl)
  subst e9
  cases Option.some.inj (hc3.symm.trans hcl)
  cases Option.some.inj (hc4.symm.trans hcl)
  obtain ⟨dk, _, _, kt, hd, _, _, _, _, hkt, _, hopen⟩ := hlk.here
  have hal := X'.warmed.alike
  obtain ⟨kt', hkt', -⟩ := hal.2.2 _ _ hkt
  have hW' : s.WarmedH (T'.vm.noted m.cls h.catchType (.cls ce.cls)) := X'.warmed.noted hd hopen (State.rightAt_cls hlk)
  have X2 := X'.noted hW'
  have hvm : ((T'.setTop (F0 m pc ls rest)).pushFrame (.throwing x)).vm = T'.vm := Stand.throwing_vm _ _ _
  have hhp : ((T'.setTop (F0 m pc ls rest)).pushFrame (.throwing x)).heap = T'.heap := Stand.throwing_heap _ _ _
  have hfind := fun (P : Handler → Pre) (B : CtlPost) (d : Bool) (acts : List Action) => xt_find (meth := meth) (c := c) (e := e) (S := (T'.setTop (F0 m pc ls rest)).pushFrame (.throwing x)) (f := F0 m pc ls rest) (a := x) (h := h) (k := ce.cls) (cell := ce)
    (by rw [hvm]; exact X'.method') X'.code htab hx h0 (by rw [hvm]; exact X'.warmed.classLinks hlk) (by rw [hhp]; exact hce) (fun z hz => by rw [hcv] at hz; cases hz) ⟨kt', by rw [hvm]; exact hkt'⟩ ⟨kt', by rw [hvm]; exact hkt'⟩ (by rw [hvm, hal.assignable]; exact hasg) P B d acts
  obtain ⟨t, a1, b1⟩ := kk x T'.heap (by
      have h9 := X'.same.2.1
      exact h9) (xt_kept (U := T') X'.same) (T'.setVm (T'.vm.noted m.cls h.catchType (.cls ce.cls))) rfl X2
  refine ⟨t, st.trans ?_, b1⟩
  obtain ⟨hgo, hwi⟩ := At.throwing (g := F0 m pc ls rest) X'.here x
  refine Steps.head hgo hwi ?_
  have hst : (stepThrowing e ((T'.setTop (F0 m pc ls rest)).pushFrame (.throwing x)) x (.java (F0 m pc ls rest) :: below)).1 = (((T'.setTop (F0 m pc ls rest)).pushFrame (.throwing x)).setVm (((T'.setTop (F0 m pc ls rest)).pushFrame (.throwing x)).vm.noted m.cls h.catchType (.cls ce.cls))).setFrames (.java (F0 m h.handlerPc ls [.ref x]) :: below) := by
    simp only [stepThrowing, searchFrame, vmDo]
    generalize hres : Sem.go _ e false [] ((T'.setTop (F0 m pc ls rest)).pushFrame (.throwing x)) = res
    obtain ⟨as, rfl, -⟩ := Sem.eq_ok_of hres (a := Handler.found h.handlerPc) (s' := ((T'.setTop (F0 m pc ls rest)).pushFrame (.throwing x)).setVm (((T'.setTop (F0 m pc ls rest)).pushFrame (.throwing x)).vm.noted m.cls h.catchType (.cls ce.cls))) (acts' := []) (by simp [hfind _ _ _ _])
    rfl
  obtain ⟨g₀, hg⟩ := Option.isSome_iff_exists.mp X'.here.top
  obtain ⟨r, hfrs⟩ := State.topJava?_eq_some.mp hg
  have htl : r = below := by
    have h9 := X'.tail
    rw [hfrs] at h9
    exact h9
  subst htl
  rw [stepThread_throwing (frames_entered X'.here.top _), hfrs, List.tail_cons, hst, hvm]
  have hfr2 : (T'.setVm (T'.vm.noted m.cls h.catchType (.cls ce.cls))).frames = .java g₀ :: r := hfrs
  rw [State.setTop_of_frames _ hfr2] at a1
  have e1 : ((T'.setTop (F0 m pc ls rest)).pushFrame (.throwing x)).setVm (T'.vm.noted m.cls h.catchType (.cls ce.cls)) = (T'.setVm (T'.vm.noted m.cls h.catchType (.cls ce.cls))).setFrames (.throwing x :: .java (F0 m pc ls rest) :: r) := by
    rw [State.pushFrame, State.frames_setTop _ hfrs, State.setTop_of_frames _ hfrs, State.setFrames_setFrames]
    rfl
  rw [e1, State.setFrames_setFrames]
  exact a1
end XT
section XS
variable {p : Program} {l : Launch} {e : Env} {R : Room} {s : State} {m : MethodId} {args : Array Value} {below : List Frame} {meth : Method} {c : Code} {H : Heap} {locs : List Loc} {cells slots : Nat}
/-- a static method with a table, called: its words and its room -/
abbrev xt_CSW (R : Room) (s : State) (args : Array Value) (own : String) (index : Nat) (y : MethodName) (bytes : ByteArray) (maxL : Nat) (ret : Option FieldType) (hh : List (Nat × Nat × Nat × Nat)) (ws : List Cond) (rm : Room) (mc ms n : Nat) : Prop :=
  (rm.cells = mc ∧ rm.slots = ms ∧ rm.frames + 1 ≤ R.frames ∧ 8 + (maxL + 11) + rm.locals ≤ R.locals) ∧ ((∀ w ∈ ws, ∀ (a' : Array Value) (U : State), s.WarmedH U.vm → w.before a' U = true) ∧ Cond.codeWith y bytes maxL ret hh ∈ ws) ∧
  ((Cond.codeWith y bytes maxL ret hh).before args s = true ∧ (Cond.initialized y.cls).before args s = true ∧ (Cond.static y).before args s = true ∧ (Cond.methodLink own index y).before args s = true) ∧
  (y.cls ≠ "java/lang/invoke/MethodHandle" ∧ y.cls ≠ "java/lang/invoke/VarHandle") ∧ (∀ sig, parseMethodDescriptor y.desc = some sig → n = sig.parameters.length)
theorem xt_cwSW {own : String} {index maxL mc ms : Nat} {y : MethodName} {bytes : ByteArray} {ret : Option FieldType} {hh : List (Nat × Nat × Nat × Nat)} {Ts ws ws' : List Cond} {rm : Room} (n : Nat) (ht : ∀ w ∈ Ts, w.before args s = true) (hG : GoodIn Ts ws) (hw : ws = Cond.codeWith y bytes maxL ret hh :: ws') (hrc : rm.cells = mc) (hrs : rm.slots = ms)
    (hini : (Cond.initialized y.cls).before args s = true) (hst : (Cond.static y).before args s = true) (hl : (Cond.methodLink own index y).before args s = true)
    (hd : y.cls ≠ "java/lang/invoke/MethodHandle" ∧ y.cls ≠ "java/lang/invoke/VarHandle" ∧ (parseMethodDescriptor y.desc).map (fun d => d.parameters.length) = some n) (hR : rm.frames + 1 ≤ R.frames ∧ 8 + (maxL + 11) + rm.locals ≤ R.locals) :
    xt_CSW R s args own index y bytes maxL ret hh ws rm mc ms n := by
  have hc : Cond.codeWith y bytes maxL ret hh ∈ ws := by rw [hw]; exact List.mem_cons_self
  refine ⟨⟨hrc, hrs, hR.1, hR.2⟩, ⟨pay_in ht hG, hc⟩, ⟨ht _ (hG _ hc).1, hini, hst, hl⟩, ⟨hd.1, hd.2.1⟩, fun sig h => ?_⟩
  have h2 := hd.2.2
  rw [h] at h2
  exact (Option.some.inj h2).symm
theorem xt_runSW {y : MethodName} {bytes cc : ByteArray} {maxL nL mc ms n index : Nat} {ret : Option FieldType} {hh : List (Nat × Nat × Nat × Nat)} {ws Ts : List Cond} {rm : Room} {Pc : Array Value → State → Prop} {Qc : Array Value → State → Outcome → State → Prop} {free : Addr → Prop} {own : String} {As rest : List Value} {g : JFrame}
    (S : CallFix p m c cc nL s args Ts own) (hM : Met l y ws rm Pc Qc mc ms free) (cw : xt_CSW R s args own index y bytes maxL ret hh ws rm mc ms n) (hp : PreS s H Pc As)
    (hg : g.method = m) (hn : As.length = n) (hsize : g.locals.size = nL) (hstack : g.stack = As.reverse ++ rest) (hW : 2 * g.monitorRoom + (rest.map fun v => v.category).sum ≤ 8) (hdg : decode cc g.pc = .ok (.invokestatic index, 3)) (hf : cells + mc ≤ R.cells ∧ slots + ms ≤ R.slots) :
    va_Run p l e R s m args below meth c H locs cells slots mc ms g rest (Qc As.toArray) free := by
  obtain ⟨⟨hrc, hrs, hfr, hlo⟩, ⟨hws, hcw⟩, ⟨hcode, hini, hst, hlk⟩, hy, hlen⟩ := cw
  obtain ⟨hx, hb, hml, ho, -⟩ := S
  have hK : Back l R p e below s args y 3 8 (PreOf R mc ms Pc) (PostOf Qc mc ms free) :=
    va_backW (hh := hh) (bytes := bytes) (maxL := maxL) (ret := ret) hM hp.1 hrc hrs hfr hlo hws hcw (fun a' U hW => word_at hW (Or.inl (by first | rfl | simp [Cond.onTables, Cond.keeps, Cond.steady])) hini)
  intro T hT X
  obtain ⟨mk, methM, cM, hnamed, hmethM, -, -, -, -, -, -, hsigM⟩ := Cond.codeWith_spec hcode
  have hstatic : methM.isStatic = true := Cond.static_spec hnamed hmethM hst
  obtain ⟨kP, hkP, -⟩ := className_of_methodNamed hnamed
  have hinitP : kP.init = .initialized := Cond.initialized_spec (findClass_of_methodNamed hnamed) hkP hini
  obtain ⟨vm₁, X₁, hstep₁⟩ := X.invokestatic hx ho hlk hnamed hmethM hstatic hkP hinitP hy (g := g) hg (argsL := As) (rest := rest) (hn.trans (hlen _ hsigM)) hstack (by rw [hb]; exact hdg)
  obtain ⟨v, ⟨U', l2, c2, s2⟩, X', ⟨g', mk', t, L, e1, e2, hq, h1, hL, h2, h3⟩, hsteps⟩ := hK m meth c ⟨T.setVm vm₁, locs, cells, slots⟩ { g with stack := rest } (.invokestatic index) mk As.toArray X₁ hg (hsize.trans hml.symm) (by rw [hb]; exact hdg) hW (X₁.named hnamed) ⟨hf.1, hf.2, hp.2 (T.setVm vm₁) hT X₁.warmed⟩
  dsimp only [Pt.U, Pt.locs, Pt.cells, Pt.slots] at X' e1 e2 h1 h2 h3 hsteps
  subst h1; subst h2; subst h3
  exact ⟨v, (T.setVm vm₁).calling g' mk' As.toArray, t, U', L, hT, X', hL, e1, e2, hq, fun target h => hstep₁ _ fun acts => by rw [doInvoke_state]; exact hsteps.trans h⟩
/-- the table of a method's body -/
theorem xt_table {x y : MethodName} {Sp : Spec} {cc bytes : ByteArray} {maxL maxL' : Nat} {ret ret' : Option FieldType} {s₁ : State} {hh : List (Nat × Nat × Nat × Nat)}
    (B : BodyLoose p l y Sp cc maxL ret e s m args below meth c s₁) (h : (Cond.codeWith y bytes maxL' ret' hh).before args s = true) : c.exceptionTable.toList = tableOf hh := by
  obtain ⟨m9, meth9, c9, hn9, h1, h2, -, -, h6, -⟩ := Cond.codeWith_spec h
  have e0 : m9 = m := Option.some.inj (hn9.symm.trans B.named)
  subst e0
  have e1 : meth9 = meth := Option.some.inj (h1.symm.trans B.method)
  subst e1
  have e2 : c9 = c := Option.some.inj (h2.symm.trans (Stand.of_body B).code)
  subst e2
  rw [← h6, table_eq]
end XS
end
