/-! Rows for the law: its calls, what stays beside them. -/
theorem lk_cmp (x : Int64) : lg_cmp x x = 0 := by simp [lg_cmp]
section LK
variable {p : Program} {l : Launch} {e : Env} {R : Room} {s : State} {m : MethodId} {args : Array Value} {below : List Frame} {meth : Method} {c : Code} {H : Heap} {locs : List Loc} {cells slots : Nat} {Q : State → Prop}
variable {cc : ByteArray} {pc : Nat} {ls : Array Slot} {rest st0 : List Value} {G : va_G} {A0 A1 : Nat → Prop} {H0 : Heap} {av : Array Value} {mc ms : Nat}
theorem lk_cw {own : String} {index maxL : Nat} {y : MethodName} {bytes : ByteArray} {ret : Option FieldType} {hh : List (Nat × Nat × Nat × Nat)} {Ts ws ws' : List Cond} {rm : Room} (n : Nat) (ht : ∀ w ∈ Ts, w.before args s = true) (hT : GoodIn Ts (va_wsS own index y ws)) (hw : ws = Cond.codeWith y bytes maxL ret hh :: ws') (hrc : rm.cells = mc) (hrs : rm.slots = ms)
    (hd : y.cls ≠ "java/lang/invoke/MethodHandle" ∧ y.cls ≠ "java/lang/invoke/VarHandle" ∧ (parseMethodDescriptor y.desc).map (fun d => d.parameters.length) = some n) (hR : rm.frames + 1 ≤ R.frames ∧ 8 + (maxL + 11) + rm.locals ≤ R.locals) :
    xt_CSW R s args own index y bytes maxL ret hh ws rm mc ms n := by
  have ok : ∀ w ∈ va_wsS own index y ws, w.before args s = true := fun w h => ht w (hT w h).1
  exact xt_cwSW n ht (fun w h => hT w (by unfold va_wsS; exact List.mem_append_right _ h)) hw hrc hrs (ok _ (by simp [va_wsS])) (ok _ (by simp [va_wsS])) (ok _ (by simp [va_wsS])) hd hR
theorem lk_preS {ws : va_W} {tys : List (ClassId × FieldType)} {As : List Value} (hK : va_K G vwCl tys s) (hP : va_P G vwCl ws H) : PreS s H (cb_Pc G As ws tys) As := ⟨cb_blind, fun U hU hW => ⟨rfl, by rw [hU]; exact hP, va_K.moved hW.alike hK⟩⟩
theorem lk_preT {ws : va_W} {tys : List (ClassId × FieldType)} {As : List Value} (hJ : cb_J s) (hS : va_S (fun x => s.heap.size ≤ x) s.heap H locs) (hK : va_K G vwCl tys s) (hP : va_P G vwCl ws H) : PreS s H (cb_Pt G As ws tys) As :=
  ⟨cb_blindT, fun U hU hW => ⟨rfl, by rw [hU]; exact hP, va_K.moved hW.alike hK, cb_J.to hW (fun q hq => by rw [hU]; exact hS.2.1 q hq (Nat.not_le.mpr hq)) hJ⟩⟩
/-- a call that answers r0 and leaves its cells as w1; w2 stays beside it -/
theorem lk_call {r0 : Int32} {w1 w2 : va_W} (hr : va_Run p l e R s m args below meth c H locs cells slots mc ms (F0 m pc ls st0) rest (va_Qi (fun (r : Int32) (_ : Unit) => r0 = r) (fun _ t => va_P G vwCl w1 t.heap) A1 av) A1) (hS : va_S A0 H0 H locs) (hA : ∀ x, A1 x → A0 x) (hP2 : va_P G vwCl w2 H) (hdis : ∀ x ∈ w2, ¬ A1 x.1)
    (kk : ∀ (H1 : Heap) (locs1 : List Loc), va_P G vwCl w1 H1 → va_P G vwCl w2 H1 → va_S A0 H0 H1 locs1 → W p l e R s m args below meth c H1 locs1 (cells + mc) (slots + ms) Q (F0 m (pc + 3) ls (.int r0 :: rest))) : W p l e R s m args below meth c H locs cells slots Q (F0 m pc ls st0) := by
  refine va_calli hr hS (fun q _ h => hA q h) hA (fun r u t H1 locs1 ht hvm hw hB hz hk hS => ?_)
  subst hw
  rw [ht] at hB
  exact kk H1 locs1 hB (cl_kept hP2 hk hdis) hS
/-- a call that answers r0 and leaves everything as it was -/
theorem lk_same {r0 : Int32} {w1 w2 : va_W} (hr : va_Run p l e R s m args below meth c H locs cells slots mc ms (F0 m pc ls st0) rest (va_Qi (fun (r : Int32) (_ : Unit) => r0 = r) (fun _ _ => True) (fun _ => False) av) (fun _ => False)) (hS : va_S A0 H0 H locs) (hP1 : va_P G vwCl w1 H) (hP2 : va_P G vwCl w2 H)
    (kk : ∀ (H1 : Heap) (locs1 : List Loc), va_P G vwCl w1 H1 → va_P G vwCl w2 H1 → va_S A0 H0 H1 locs1 → W p l e R s m args below meth c H1 locs1 (cells + mc) (slots + ms) Q (F0 m (pc + 3) ls (.int r0 :: rest))) : W p l e R s m args below meth c H locs cells slots Q (F0 m pc ls st0) := by
  refine va_calli hr hS (fun q _ h => h.elim) (fun q h => h.elim) (fun r u t H1 locs1 ht hvm hw hB hz hk hS => ?_)
  subst hw
  exact kk H1 locs1 (cl_kept hP1 hk (fun _ _ h => h)) (cl_kept hP2 hk (fun _ _ h => h)) hS
theorem cl_sld {b L : Nat} {xs : Nat → Int32} {A : Nat → Prop} (hexec : p.tables.exec = Jvm.exec) (hb : c.code = cc) (hX : va_X b L xs s H0) (hbl : b < H0.size) (hbA : ¬ A b) (hS : va_S A H0 H locs) {k : Nat} (hk : k < L) (hL : L < 2 ^ 31) (hdg : decode cc pc = .ok (.iaload, 1))
    (kk : W p l e R s m args below meth c H locs cells slots Q (F0 m (pc + 1) ls (.int (xs k) :: rest))) : W p l e R s m args below meth c H locs cells slots Q (F0 m pc ls (.int (nI k) :: .ref b :: rest)) := by
  refine va_sld hexec hb hX hbl hbA hS (vp_in_nI hk hL) hdg ?_
  rw [nI_clamp (Nat.lt_trans hk hL)]
  exact kk
theorem lk_out {h a o : Nat} {cI cJ : ClassId} {n : Int32} {f : Nat → Int32} {g : Nat → Int64} {v : Int64} {tys : List (ClassId × FieldType)} (hexec : p.tables.exec = Jvm.exec) (hb : c.code = cc) (hK : va_K G vwCl tys s) (ht : tys[1]? = some (cJ, .long)) (hP : va_P G vwCl (wr_w h a cI n f o cJ (vp_updL g 0 v)) H) (hdg : decode cc pc = .ok (.laload, 1))
    (kk : W p l e R s m args below meth c H locs cells slots Q (F0 m (pc + 1) ls (.long v :: rest))) : W p l e R s m args below meth c H locs cells slots Q (F0 m pc ls (.int 0 :: .ref o :: rest)) := by
  refine va_lald (D := G) (n := 1) (cA := cJ) (f := vp_updL g 0 v) hexec hb hK hP 2 1 rfl ht (by unfold vp_in; decide) hdg ?_
  rw [sb_cl0, pk_uLs]
  exact kk
end LK
/-- what holds of the law's cells all along -/
def lp_K (s : State) (G : va_G) (h a o q qa qb : Nat) (cI cJ cY cZ : ClassId) : Prop :=
  va_K G vwCl [(cI, .int), (cJ, .long), (cY, .boolean), (cZ, .boolean)] s ∧ cb_J s ∧ (h ≠ a ∧ (o ≠ h ∧ o ≠ a) ∧ md_ne q qa qb) ∧ (∀ x, wr_A h a o x → ¬ md_A q qa qb x) ∧ (∀ x, wr_A h a o x → s.heap.size ≤ x) ∧ (∀ x, md_A q qa qb x → s.heap.size ≤ x)
/-- class and reference stand alike -/
def lp_V (s : State) (G : va_G) (h a o q qa qb : Nat) (cI cJ cY cZ : ClassId) (N : Nat) (D S : Nat → Bool) (H : Heap) (locs : List Loc) : Prop :=
  (1 ≤ N ∧ N ≤ 16384 ∧ pz_ N D S) ∧ (∃ g : Nat → Int64, va_P G vwCl (wr_w h a cI (nI N) (pf_ D S) o cJ g) H) ∧ (∃ t : Int32, va_P G vwCl (md_w q qa qb cY cZ t (nI N) D S) H) ∧ va_S (fun x => s.heap.size ≤ x) s.heap H locs
theorem lp_m {h a o q qa qb : Nat} {cY cZ : ClassId} {t n : Int32} {D S : Nat → Bool} (hd : ∀ x, wr_A h a o x → ¬ md_A q qa qb x) : ∀ x ∈ md_w q qa qb cY cZ t n D S, ¬ wr_A h a o x.1 := by
  intro x hx h9
  refine hd x.1 h9 ?_
  simp only [List.mem_cons, List.not_mem_nil, or_false] at hx
  rcases hx with rfl | rfl | rfl
  · exact Or.inl rfl
  · exact Or.inr (Or.inl rfl)
  · exact Or.inr (Or.inr rfl)
theorem lp_x {h a o q qa qb : Nat} {cI cJ : ClassId} {n : Int32} {f : Nat → Int32} {g : Nat → Int64} (hd : ∀ x, wr_A h a o x → ¬ md_A q qa qb x) : ∀ x ∈ wr_w h a cI n f o cJ g, ¬ md_A q qa qb x.1 := by
  intro x hx
  refine hd x.1 ?_
  have hx : x ∈ [(h, _), (a, _), (o, _)] := hx
  simp only [List.mem_cons, List.not_mem_nil, or_false] at hx
  rcases hx with rfl | rfl | rfl
  · exact Or.inl (Or.inl rfl)
  · exact Or.inl (Or.inr rfl)
  · exact Or.inr rfl
/-- how the script's numbers fall -/
theorem ix_space (x : Int32) : (x < 1 ∨ ¬ x ≤ 16384) ∨ ∃ n : Nat, 1 ≤ n ∧ n ≤ 16384 ∧ x = nI n := by
  by_cases h1 : x < 1
  · exact Or.inl (Or.inl h1)
  · by_cases h2 : x ≤ 16384
    · have h3 : ¬ x < 0 := fun h9 => h1 (Int32.lt_trans h9 (by decide))
      obtain ⟨n, hn, rfl⟩ := nI_of2 (M := 16384) (n := 16384) (by decide) h3 h2
      refine Or.inr ⟨n, ?_, hn, rfl⟩
      rcases Nat.lt_or_ge n 1 with q | q
      · have h4 : n = 0 := by omega
        subst h4
        exact absurd (by decide) h1
      · exact q
    · exact Or.inl (Or.inr h2)
theorem ix_below (x : Int32) {n : Nat} (hn : n < 2 ^ 31) : (x < 0 ∨ ¬ x < nI n) ∨ ∃ k : Nat, k < n ∧ x = nI k := by
  rcases pk_ix x hn with h | h | h
  · exact Or.inl (Or.inl h)
  · exact Or.inl (Or.inr (Int32.not_lt.mpr h))
  · exact Or.inr h
theorem ix_size (y : Int32) {k N : Nat} (hk : k < N) (hN : N ≤ 16384) : (y < 1 ∨ ¬ y ≤ nI N - nI k) ∨ ∃ z : Nat, 1 ≤ z ∧ k + z ≤ N ∧ y = nI z := by
  rw [pk_sub (Nat.le_of_lt hk)]
  by_cases h1 : y < 1
  · exact Or.inl (Or.inl h1)
  · by_cases h2 : y ≤ nI (N - k)
    · have h3 : ¬ y < 0 := fun h9 => h1 (Int32.lt_trans h9 (by decide))
      obtain ⟨z, hz, rfl⟩ := nI_of2 (M := nI (N - k)) (n := N - k) (nI_toInt (by omega)) h3 h2
      refine Or.inr ⟨z, ?_, by omega, rfl⟩
      rcases Nat.lt_or_ge z 1 with q | q
      · have h4 : z = 0 := by omega
        subst h4
        exact absurd (by decide) h1
      · exact q
    · exact Or.inl (Or.inr h2)
theorem ix_count (x : Int32) : ((x.toInt < 0 ∨ 3 < x.toInt) ∧ (x < 0 ∨ ¬ x ≤ 3)) ∨ ∃ q : Nat, q < 4 ∧ x = nI q := by
  have e0 : (0 : Int32).toInt = 0 := by decide
  have e3 : (3 : Int32).toInt = 3 := by decide
  by_cases h1 : x < 0
  · exact Or.inl ⟨Or.inl (by rw [Int32.lt_iff_toInt_lt, e0] at h1; exact h1), Or.inl h1⟩
  · by_cases h2 : x ≤ 3
    · obtain ⟨n, hn, rfl⟩ := nI_of2 (M := 3) (n := 3) (by decide) h1 h2
      exact Or.inr ⟨n, by omega, rfl⟩
    · refine Or.inl ⟨Or.inr ?_, Or.inr h2⟩
      rw [Int32.le_iff_toInt_le, e3] at h2
      omega
theorem pu_init : (fun _ => (0 : Int32)) = pf_ (fun _ => false) (fun _ => false) := by
  funext c
  show (0 : Int32) = pm_ false false
  decide
