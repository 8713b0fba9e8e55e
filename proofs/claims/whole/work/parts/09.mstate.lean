/-! The reference's cells, and its numbers: N cells, D dirty, S saved. -/
def md_b (b : Bool) : Int32 := if b then 1 else 0
abbrev md_w (q qa qb : Nat) (cY cZ : ClassId) (t n : Int32) (D S : Nat → Bool) : va_W := [(q, .inr (1, [.int t, .int n, .ref qa, .ref qb])), (qa, .inl (cY, 512, .inl (fun c => md_b (D c)))), (qb, .inl (cZ, 512, .inl (fun c => md_b (S c))))]
def md_A (q qa qb : Nat) : Nat → Prop := fun x => x = q ∨ x = qa ∨ x = qb
def md_ne (q qa qb : Nat) : Prop := q ≠ qa ∧ q ≠ qb ∧ qa ≠ qb
theorem md_D {q qa qb : Nat} {cY cZ : ClassId} {t n : Int32} {D S : Nat → Bool} (hne : md_ne q qa qb) : va_D (md_A q qa qb) (md_w q qa qb cY cZ t n D S) := by
  obtain ⟨h1, h2, h3⟩ := hne
  refine ⟨fun i j x y hi hj hxy => ?_, fun k q hk => ?_⟩
  · match i, j, hi, hj with
    | 0, 0, _, _ => rfl
    | 1, 1, _, _ => rfl
    | 2, 2, _, _ => rfl
    | 0, 1, hi, hj => cases hi; cases hj; exact absurd hxy h1
    | 1, 0, hi, hj => cases hi; cases hj; exact absurd hxy.symm h1
    | 0, 2, hi, hj => cases hi; cases hj; exact absurd hxy h2
    | 2, 0, hi, hj => cases hi; cases hj; exact absurd hxy.symm h2
    | 1, 2, hi, hj => cases hi; cases hj; exact absurd hxy h3
    | 2, 1, hi, hj => cases hi; cases hj; exact absurd hxy.symm h3
    | i + 3, _, hi, _ => cases hi
    | _, j + 3, _, hj => cases hj
  · match k, hk with
    | 0, hk => cases hk; exact Or.inl rfl
    | 1, hk => cases hk; exact Or.inr (Or.inl rfl)
    | 2, hk => cases hk; exact Or.inr (Or.inr rfl)
    | k + 3, hk => cases hk
theorem md_preV {s : State} {H : Heap} {G : va_G} {q qa qb : Nat} {cY cZ : ClassId} {t n : Int32} {D S : Nat → Bool} (hK : va_K G vwCl [(cY, .boolean), (cZ, .boolean)] s) (hP : va_P G vwCl (md_w q qa qb cY cZ t n D S) H) (As : List Value) : PreV s H RX1 q (cb_Pc G (.ref q :: As) (md_w q qa qb cY cZ t n D S) [(cY, .boolean), (cZ, .boolean)]) As :=
  ⟨cb_blind, va_recv hK hP (ci := 1) (q0 := 0) rfl rfl, fun U hU hW => ⟨rfl, by rw [hU]; exact hP, va_K.moved hW.alike hK⟩⟩
/-- a row of bits with one place set -/
def md_u (D : Nat → Bool) (k : Nat) (b : Bool) : Nat → Bool := fun c => if c = k then b else D c
theorem md_upd (D : Nat → Bool) (k : Nat) (b : Bool) : upd (fun c => md_b (D c)) k (vp_nar .boolean (md_b b)) = fun c => md_b (md_u D k b c) := by
  funext c
  have hb : vp_nar .boolean (md_b b) = md_b b := by cases b <;> rfl
  rw [hb]
  unfold upd md_u
  by_cases h : c = k
  · rw [if_pos h, if_pos h]
  · rw [if_neg h, if_neg h]
theorem md_b1 {b : Bool} (h : ¬ md_b b = 0) : b = true := by
  cases b
  · exact absurd rfl h
  · rfl
theorem md_b0 {b : Bool} (h : md_b b = 0) : b = false := by
  cases b
  · rfl
  · exact absurd h (by decide)
theorem md_nb (b : Bool) : narrow .boolean (.int (md_b b)) = .int (md_b b) := by cases b <;> rfl
/-- many(which, clears): the count, a: which bears 1, b: which bears 2 -/
def md_ct (a b : Bool) (D S : Nat → Bool) : Nat → Nat
  | 0 => 0
  | i + 1 => if (a && D i || b && S i) = true then md_ct a b D S i + 1 else md_ct a b D S i
def md_cl (D : Nat → Bool) (cl : Bool) (i : Nat) : Nat → Bool := fun c => D c && !(cl && decide (c < i))
theorem md_cl_0 (D : Nat → Bool) (cl : Bool) : md_cl D cl 0 = D := by
  funext c
  simp [md_cl]
theorem md_cl_i (D : Nat → Bool) (cl : Bool) (i : Nat) : md_cl D cl i i = D i := by simp [md_cl]
theorem md_cl_s (D : Nat → Bool) (cl : Bool) (i : Nat) : md_u (md_cl D cl i) i (D i && !cl) = md_cl D cl (i + 1) := by
  funext c
  unfold md_u md_cl
  by_cases h : c = i
  · subst h
    simp
  · rw [if_neg h]
    by_cases h2 : c < i
    · simp [h2, Nat.lt_succ_of_lt h2]
    · have h3 : ¬ c < i + 1 := by omega
      simp [h2, h3]
/-- cover: the cards j .. la below i are saved -/
def md_cv (S : Nat → Bool) (j la i : Nat) : Nat → Bool := fun c => S c || (decide (j ≤ c) && decide (c ≤ la) && decide (c < i))
theorem md_cv_0 (S : Nat → Bool) (j la : Nat) : md_cv S j la 0 = S := by
  funext c
  simp [md_cv]
theorem md_cv_1 {S : Nat → Bool} {j la i : Nat} (h1 : j ≤ i) (h2 : i ≤ la) : md_u (md_cv S j la i) i true = md_cv S j la (i + 1) := by
  funext c
  unfold md_u md_cv
  by_cases h : c = i
  · subst h
    simp [h1, h2]
  · rw [if_neg h]
    by_cases h3 : c < i
    · simp [h3, Nat.lt_succ_of_lt h3]
    · have h4 : ¬ c < i + 1 := by omega
      simp [h3, h4]
theorem md_cv_2 {S : Nat → Bool} {j la i : Nat} (h : ¬ (j ≤ i ∧ i ≤ la)) : md_cv S j la i = md_cv S j la (i + 1) := by
  funext c
  unfold md_cv
  by_cases h0 : c = i
  · subst h0
    by_cases h1 : j ≤ c
    · have h2 : ¬ c ≤ la := fun h2 => h ⟨h1, h2⟩
      simp [h2]
    · simp [h1]
  · by_cases h3 : c < i
    · simp [h3, Nat.lt_succ_of_lt h3]
    · have h4 : ¬ c < i + 1 := by omega
      simp [h3, h4]
def md_n (j la i : Nat) : Nat := min i (la + 1) - j
/-- the first bit at j or behind it among i .. 511, by k = 512 - i steps -/
def md_fd (D : Nat → Bool) (j : Nat) : Nat → Nat → Int32
  | _, 0 => -1
  | i, k + 1 => if j ≤ i ∧ D i = true then nI i else md_fd D j (i + 1) k
def md_fw (D : Nat → Bool) (j i : Nat) : Int32 := md_fd D j i (512 - i)
theorem md_fw_e {D : Nat → Bool} {j : Nat} : md_fw D j 512 = -1 := rfl
theorem md_fw_1 {D : Nat → Bool} {j i : Nat} (hi : i < 512) (h1 : j ≤ i) (h2 : D i = true) : md_fw D j i = nI i := by
  unfold md_fw
  rw [show 512 - i = (512 - (i + 1)) + 1 by omega]
  exact if_pos ⟨h1, h2⟩
theorem md_fw_0 {D : Nat → Bool} {j i : Nat} (hi : i < 512) (h : ¬ (j ≤ i ∧ D i = true)) : md_fw D j i = md_fw D j (i + 1) := by
  unfold md_fw
  rw [show 512 - i = (512 - (i + 1)) + 1 by omega]
  exact if_neg h
theorem md_cards {N : Nat} (h1 : 1 ≤ N) (h2 : N ≤ 16384) : (nI N + 31) / 32 = nI (cb_cc N) := by
  rw [show (31 : Int32) = nI 31 from rfl, nI_add]
  rw [show (32 : Int32) = nI 32 from rfl, pk_div (by omega) (by decide) (by decide)]
  unfold cb_cc
  rw [show (N + 31) / 32 = (N - 1) / 32 + 1 by omega]
def md_cnt (D S : Nat → Bool) (N q : Nat) : Int32 := match q with
  | 0 => nI N
  | 1 => nI (cb_cc N)
  | 2 => nI (md_ct true false D S 512)
  | _ => nI (md_ct false true D S 512)
def md_cd (D S : Nat → Bool) (k : Nat) : Int32 := (if D k then (1 : Int32) else 0) + (if S k then (2 : Int32) else 0)
section MR
variable {p : Program} {l : Launch} {e : Env} {R : Room} {s : State} {m : MethodId} {args : Array Value} {below : List Frame} {meth : Method} {c : Code} {H : Heap} {locs : List Loc} {cells slots : Nat} {Q : State → Prop}
variable {cc : ByteArray} {pc : Nat} {ls : Array Slot} {rest : List Value} {D : va_G} {cl : List vw_C} {A : Nat → Prop} {a : Nat} {tys : List (ClassId × FieldType)} {ws : va_W} {H0 : Heap}
/-- roads that meet: what stands behind is proved once -/
theorem cl_cut {st st2 : List Value} (pc2 : Nat) (I : Heap → List Loc → Array Slot → Prop)
    (h2 : ∀ H locs ls, I H locs ls → W p l e R s m args below meth c H locs cells slots Q (F0 m pc2 ls st2))
    (h1 : (∀ H locs ls, I H locs ls → W p l e R s m args below meth c H locs cells slots Q (F0 m pc2 ls st2)) → W p l e R s m args below meth c H locs cells slots Q (F0 m pc ls st)) : W p l e R s m args below meth c H locs cells slots Q (F0 m pc ls st) := h1 h2
theorem cl_zald (hexec : p.tables.exec = Jvm.exec) (hb : c.code = cc) (hK : va_K D cl tys s) (hP : va_P D cl ws H) (q0 t0 : Nat) {cA : ClassId} {n k : Nat} {f : Nat → Int32} (ha : ws[q0]? = some (a, .inl (cA, n, .inl f))) (ht : tys[t0]? = some (cA, .boolean)) (hk : k < n) (hn : n < 2 ^ 31) (hdg : decode cc pc = .ok (.baload, 1))
    (kk : W p l e R s m args below meth c H locs cells slots Q (F0 m (pc + 1) ls (.int (f k) :: rest))) : W p l e R s m args below meth c H locs cells slots Q (F0 m pc ls (.int (nI k) :: .ref a :: rest)) := by
  refine va_zald hexec hb hK hP q0 t0 ha ht (vp_in_nI hk hn) hdg ?_
  rw [nI_clamp (Nat.lt_trans hk hn)]
  exact kk
theorem cl_zast (hexec : p.tables.exec = Jvm.exec) (hb : c.code = cc) (hK : va_K D cl tys s) (hP : va_P D cl ws H) (hD : va_D A ws) (hS : va_S A H0 H locs) (q0 t0 : Nat) {cA : ClassId} {n k : Nat} {B : Nat → Bool} (ha : ws[q0]? = some (a, .inl (cA, n, .inl (fun c => md_b (B c))))) (ht : tys[t0]? = some (cA, .boolean)) (b : Bool) {x : Int32} (hx : x = md_b b) (hk : k < n) (hn : n < 2 ^ 31) (hdg : decode cc pc = .ok (.bastore, 1))
    (kk : ∀ (H1 : Heap) (locs1 : List Loc), va_P D cl (ws.set q0 (a, .inl (cA, n, .inl (fun c => md_b (md_u B k b c))))) H1 → va_S A H0 H1 locs1 → W p l e R s m args below meth c H1 locs1 cells slots Q (F0 m (pc + 1) ls rest)) : W p l e R s m args below meth c H locs cells slots Q (F0 m pc ls (.int x :: .int (nI k) :: .ref a :: rest)) := by
  subst hx
  refine va_zast hexec hb hK hP hD hS q0 t0 ha ht (vp_in_nI hk hn) hdg (fun H1 locs1 h1 _ h3 => ?_)
  rw [nI_clamp (Nat.lt_trans hk hn), md_upd] at h1
  exact kk H1 locs1 h1 h3
end MR
