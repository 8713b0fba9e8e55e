/-! The class's cells, and its numbers: N cells, the row f of marks (bit 1 dirty, bit 2 saved). -/
abbrev cb_w (h a : Nat) (cI : ClassId) (n : Int32) (f : Nat → Int32) : va_W := [(h, .inr (0, [.ref a, .int n])), (a, .inl (cI, 512, .inl f))]
def cb_A (h a : Nat) : Nat → Prop := fun q => q = h ∨ q = a
theorem cb_D {h a : Nat} {cI : ClassId} {n : Int32} {f : Nat → Int32} (hne : h ≠ a) : va_D (cb_A h a) (cb_w h a cI n f) := by
  refine ⟨fun i j x y hi hj hxy => ?_, fun k q hk => ?_⟩
  · match i, j, hi, hj with
    | 0, 0, _, _ => rfl
    | 1, 1, _, _ => rfl
    | 0, 1, hi, hj => cases hi; cases hj; exact absurd hxy hne
    | 1, 0, hi, hj => cases hi; cases hj; exact absurd hxy.symm hne
    | i + 2, _, hi, _ => cases hi
    | _, j + 2, _, hj => cases hj
  · match k, hk with
    | 0, hk => cases hk; exact Or.inl rfl
    | 1, hk => cases hk; exact Or.inr rfl
    | k + 2, hk => cases hk
def cb_Pc (D : va_G) (av : List Value) (ws : va_W) (tys : List (ClassId × FieldType)) : Array Value → State → Prop := va_Pc av (fun U => va_P D vwCl ws U.heap ∧ va_K D vwCl tys U)
theorem cb_blind {D : va_G} {av : List Value} {ws : va_W} {tys : List (ClassId × FieldType)} : FrameBlind (cb_Pc D av ws tys) := fun a U g mk q => ⟨q.1, q.2.1, va_K.moved (u := U) (U := U.calling g mk a) (Vm.Alike.refl U.vm) q.2.2⟩
def cb_cc (N : Nat) : Nat := (N - 1) / 32 + 1
theorem cb_cc_le {N : Nat} (h : N ≤ 16384) : cb_cc N ≤ 512 := by unfold cb_cc; omega
theorem cb_pred {N : Nat} (h : 1 ≤ N) : nI N - 1 = nI (N - 1) := by
  obtain ⟨k, rfl⟩ : ∃ k, N = k + 1 := ⟨N - 1, by omega⟩
  exact nI_pred k
/-- how many of the first i marks bear a bit of v -/
def cb_ct (f : Nat → Int32) (v : Int32) : Nat → Nat
  | 0 => 0
  | i + 1 => if f i &&& v = 0 then cb_ct f v i else cb_ct f v i + 1
theorem cb_ct_0 {f : Nat → Int32} {v : Int32} {i : Nat} (h : f i &&& v = 0) : cb_ct f v (i + 1) = cb_ct f v i := if_pos h
theorem cb_ct_1 {f : Nat → Int32} {v : Int32} {i : Nat} (h : ¬ f i &&& v = 0) : cb_ct f v (i + 1) = cb_ct f v i + 1 := if_neg h
/-- the first of the marks i .. M - 1 that bears a bit of v, by k = M - i steps -/
def cb_fd (f : Nat → Int32) (v : Int32) : Nat → Nat → Int32
  | _, 0 => -1
  | i, k + 1 => if f i &&& v = 0 then cb_fd f v (i + 1) k else nI i
def cb_fw (f : Nat → Int32) (v : Int32) (i M : Nat) : Int32 := cb_fd f v i (M - i)
theorem cb_fw_out {f : Nat → Int32} {v : Int32} {i M : Nat} (h : M ≤ i) : cb_fw f v i M = -1 := by
  unfold cb_fw
  rw [Nat.sub_eq_zero_of_le h]
  rfl
theorem cb_fw_0 {f : Nat → Int32} {v : Int32} {i M : Nat} (h : i < M) (hf : f i &&& v = 0) : cb_fw f v i M = cb_fw f v (i + 1) M := by
  unfold cb_fw
  rw [show M - i = (M - (i + 1)) + 1 by omega]
  exact if_pos hf
theorem cb_fw_1 {f : Nat → Int32} {v : Int32} {i M : Nat} (h : i < M) (hf : ¬ f i &&& v = 0) : cb_fw f v i M = nI i := by
  unfold cb_fw
  rw [show M - i = (M - (i + 1)) + 1 by omega]
  exact if_neg hf
/-- the first i marks gone -/
def cb_clr (f : Nat → Int32) (i : Nat) : Nat → Int32 := fun c => if c < i then 0 else f c
theorem cb_clr_0 (f : Nat → Int32) : cb_clr f 0 = f := by
  funext c
  exact if_neg (Nat.not_lt_zero c)
theorem cb_clr_s (f : Nat → Int32) (i : Nat) : upd (cb_clr f i) i 0 = cb_clr f (i + 1) := by
  funext c
  unfold upd cb_clr
  by_cases h1 : c = i
  · rw [if_pos h1, if_pos (by omega)]
  · rw [if_neg h1]
    by_cases h2 : c < i
    · rw [if_pos h2, if_pos (by omega)]
    · rw [if_neg h2, if_neg (by omega)]
/-- the marks j .. i - 1 are saved -/
def cb_cov (f : Nat → Int32) (j i : Nat) : Nat → Int32 := fun c => if j ≤ c ∧ c < i then f c ||| 2 else f c
theorem cb_cov_0 (f : Nat → Int32) (j : Nat) : cb_cov f j j = f := by
  funext c
  exact if_neg (by omega)
theorem cb_cov_s {f : Nat → Int32} {j i : Nat} (h : j ≤ i) : upd (cb_cov f j i) i (cb_cov f j i i ||| 2) = cb_cov f j (i + 1) := by
  funext c
  unfold upd cb_cov
  by_cases h1 : c = i
  · rw [if_pos h1, if_neg (by omega), if_pos (by omega), h1]
  · rw [if_neg h1]
    by_cases h2 : j ≤ c ∧ c < i
    · rw [if_pos h2, if_pos (by omega)]
    · rw [if_neg h2, if_neg (by omega)]
theorem cb_last {k z : Nat} (hz : 1 ≤ z) : nI k + nI z - 1 = nI (k + z - 1) := by
  rw [nI_add]
  exact cb_pred (by omega)
theorem cb_len {x y : Nat} (h : x ≤ y) : nI y - nI x + 1 = nI (y - x + 1) := by
  rw [pk_sub h]
  exact nI_1 _
/-- clean(k, b) -/
def cb_cl (f : Nat → Int32) (k : Nat) (b : Int32) : Nat → Int32 := if f k &&& 1 = 0 ∨ b = 0 then upd f k (f k &&& (1 ^^^ (-1))) else upd f k ((f k &&& (1 ^^^ (-1))) ||| 2)
theorem cb_cl_0 {f : Nat → Int32} {k : Nat} {b : Int32} (h : f k &&& 1 = 0 ∨ b = 0) : cb_cl f k b = upd f k (f k &&& (1 ^^^ (-1))) := if_pos h
theorem cb_cl_1 {f : Nat → Int32} {k : Nat} {b : Int32} (h1 : ¬ f k &&& 1 = 0) (h2 : ¬ b = 0) : cb_cl f k b = upd (upd f k (f k &&& (1 ^^^ (-1)))) k (upd f k (f k &&& (1 ^^^ (-1))) k ||| 2) := by
  unfold cb_cl
  rw [if_neg (by intro h; rcases h with h | h; exact h1 h; exact h2 h)]
  funext c
  unfold upd
  by_cases hc : c = k
  · rw [if_pos hc, if_pos hc, if_pos rfl]
  · rw [if_neg hc, if_neg hc, if_neg hc]
theorem cb_if0 {P : Prop} [Decidable P] (h : (if P then (0 : Int32) else 1) = 0) : P := by
  by_cases hp : P
  · exact hp
  · rw [if_neg hp] at h
    exact absurd h (by decide)
theorem cb_if1 {P : Prop} [Decidable P] (h : ¬ (if P then (0 : Int32) else 1) = 0) : ¬ P := fun hp => h (if_pos hp)
theorem cb_nb {P : Prop} [Decidable P] : narrow .boolean (.int (if P then (0 : Int32) else 1)) = .int (if P then (0 : Int32) else 1) := by
  by_cases hp : P
  · rw [if_pos hp]; rfl
  · rw [if_neg hp]; rfl
def cb_cnt (f : Nat → Int32) (N q : Nat) : Int32 := match q with
  | 0 => nI N
  | 1 => nI (cb_cc N)
  | 2 => nI (cb_ct f 1 (cb_cc N))
  | _ => nI (cb_ct f 2 (cb_cc N))
section CB
variable {p : Program} {l : Launch} {e : Env} {R : Room} {s : State} {m : MethodId} {args : Array Value} {below : List Frame} {meth : Method} {c : Code} {H : Heap} {locs : List Loc} {cells slots : Nat} {Q : State → Prop}
variable {pc : Nat} {ls : Array Slot} {rest st0 : List Value} {D : va_G} {a : Array Value}
theorem cb_preV {h ad : Nat} {cI : ClassId} {n : Int32} {f : Nat → Int32} (hK : va_K D vwCl [(cI, .int)] s) (hP : va_P D vwCl (cb_w h ad cI n f) H) (As : List Value) : PreV s H RX0 h (cb_Pc D (.ref h :: As) (cb_w h ad cI n f) [(cI, .int)]) As :=
  ⟨cb_blind, va_recv hK hP (ci := 0) (q0 := 0) rfl rfl, fun U hU hW => ⟨rfl, by rw [hU]; exact hP, va_K.moved hW.alike hK⟩⟩
theorem cb_preS {As : List Value} : PreS s H (va_Pc As (fun _ => True)) As := ⟨fun _ _ _ _ q => q, fun _ _ _ => ⟨rfl, trivial⟩⟩
theorem cl_calli {v : Int32} (hr : CallRun p l e R s m args below meth c H locs cells slots 0 0 (F0 m pc ls st0) rest (cl_Q (some (.int v)) a) (fun _ => False)) (kk : W p l e R s m args below meth c H locs cells slots Q (F0 m (pc + 3) ls (.int v :: rest))) : W p l e R s m args below meth c H locs cells slots Q (F0 m pc ls st0) := cl_call hr kk
theorem cl_callv (hr : CallRun p l e R s m args below meth c H locs cells slots 0 0 (F0 m pc ls st0) rest (cl_Q none a) (fun _ => False)) (kk : W p l e R s m args below meth c H locs cells slots Q (F0 m (pc + 3) ls rest)) : W p l e R s m args below meth c H locs cells slots Q (F0 m pc ls st0) := cl_call hr kk
end CB
theorem cl_at {D : va_G} {cl : List vw_C} {w : va_W} {H : Heap} {t : State} (ht : t.heap = H) (h : va_P D cl w H) : va_P D cl w t.heap := by
  rw [ht]
  exact h
