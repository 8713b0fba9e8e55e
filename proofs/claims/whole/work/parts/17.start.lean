/-! The law from its entry. -/
theorem st_J {s : State} {b : Nat} {c0 : ClassId} (hts0 : ∀ w ∈ lw_tbl, w.before #[Value.ref b] s = true) (hgv : (Jvm.Cond.and given_1 narrow_1).before #[Value.ref b] s = true) (hf : s.vm.findClass RX0 = some c0) : cb_J s := by
  have hs := flat_of_before _ hgv
  have hvm : s.vm.Alike s.vm := Vm.Alike.refl s.vm
  have hh : ∀ q : Nat, q < s.heap.size → s.heap[q]? = s.heap[q]? := fun _ _ => rfl
  have l1 : (Cond.laysStatic Bundle.tN "UNASSIGNED_STACK" Bundle.steD).before #[Value.ref b] s = true := hts0 _ (by decide +kernel)
  have l2 : (Cond.laysStatic Bundle.tN "SUPPRESSED_SENTINEL" Bundle.listD).before #[Value.ref b] s = true := hts0 _ (by decide +kernel)
  have r1 : (Cond.isRef (.static Bundle.tN "UNASSIGNED_STACK" Bundle.steD)).before #[Value.ref b] s = true := hs _ (by decide +kernel)
  have r2 : (Cond.isRef (.static Bundle.tN "SUPPRESSED_SENTINEL" Bundle.listD)).before #[Value.ref b] s = true := hs _ (by decide +kernel)
  refine ⟨⟨⟨xt_lays hvm hh l1, xt_isRef hvm hh l1 r1⟩, xt_lays hvm hh l2, xt_isRef hvm hh l2 r2⟩, ?_, ?_⟩
  · intro q hq
    have h1 : (Cond.stringRef RX0 q.1 q.2).before #[Value.ref b] s = true := hts0 _ ((show ∀ q ∈ cb_str, Cond.stringRef RX0 q.1 q.2 ∈ lw_tbl by decide +kernel) q hq)
    obtain ⟨k, cf, i, a, -, -, -, -, -, hev⟩ := Cond.stringRef_spec hf h1
    exact ⟨a, vk_R.of h1 hev⟩
  · intro w hw
    exact xt_ride (State.WarmedH.refl s) (cb_nw_ok w hw) (hts0 w ((show ∀ w ∈ cb_nw, w ∈ lw_tbl by decide +kernel) w hw))
theorem st_D {A : Nat → Prop} {ws : va_W} (h1 : (ws.map Prod.fst).Nodup) (h2 : ∀ x ∈ ws, A x.1) : va_D A ws := by
  refine ⟨fun i j x y hi hj hxy => ?_, fun k x hk => h2 x (List.mem_of_getElem? hk)⟩
  have a1 : (ws.map Prod.fst)[i]? = some x.1 := by rw [List.getElem?_map, hi]; rfl
  have a2 : (ws.map Prod.fst)[j]? = some y.1 := by rw [List.getElem?_map, hj]; rfl
  have hlt : i < (ws.map Prod.fst).length := (List.getElem?_eq_some_iff.mp a1).1
  exact (List.getElem?_inj hlt h1).mp (by rw [a1, a2, hxy])
set_option maxHeartbeats 4000000 in
set_option maxRecDepth 100000 in
/-- THE LAW, from its entry -/
theorem whole_start {p : Program} {e : Env} {s : State} {m : MethodId} {below : List Frame} {meth : Method} {c : Code} (l : Launch) (hst : l.stackTraces = false) {b L : Nat} {xs : Nat → Int32} (hL : L ≤ 1536) (C0 : lw_At p s m meth c b L xs) : W p l e room_1 s m #[Value.ref b] below meth c s.heap [] 0 0 (lw_Z below #[Value.ref b] s) (entryFrame m ([Value.ref b] : List Value).toArray 7) := by
  obtain ⟨hx, hb, hr, hml, hown, hts0, hX, hbl, hlocks, hgv⟩ := id C0
  have hts : ∀ w ∈ wsL_law, w.before #[Value.ref b] s = true := fun w h9 => hts0 w (wsL_law_in w h9)
  have hA : ∀ x : Nat, s.heap.size ≤ x → (fun x : Nat => s.heap.size ≤ x) x := fun _ h9 => h9
  obtain ⟨c0, iS0, hKn0⟩ := u_known (C := RX0) (T := TX0) (N := 2) (n := 2) hts0 inX0 (hts (.instantiable RX0 2) (by decide +kernel))
  obtain ⟨c1, iS1, hKn1⟩ := u_known (C := RX1) (T := TX1) (N := 4) (n := 4) hts0 inX1 (hts (.instantiable RX1 4) (by decide +kernel))
  have hJ : cb_J s := st_J hts0 hgv hKn0.2.1
  obtain ⟨dC, dI, hKc⟩ : ∃ (dC : Nat → ClassId) (dI : Nat → Nat → Nat), ∀ (k : Nat) (q : vw_C), vwCl[k]? = some q → u_Kn s q.1 q.2.1 q.2.2 (dC k) (dI k) := by
    refine ⟨fun k => if k = 0 then c0 else c1, fun k => if k = 0 then iS0 else iS1, ?_⟩
    intro k q hq
    match k, hq with
    | 0, hq => cases hq; exact hKn0
    | 1, hq => cases hq; exact hKn1
    | k + 2, hq => simp [vwCl] at hq
  have hS : va_S (fun x : Nat => s.heap.size ≤ x) s.heap s.heap [] := va_S.rf
  have hK0 : va_K (dC, dI) vwCl [] s := ⟨hKc, fun k q h => by simp at h⟩
  have hP : va_P (dC, dI) vwCl [] s.heap := fun k q h => by simp at h
  have hD : va_D (fun x : Nat => s.heap.size ≤ x) [] := ⟨fun i j p q h => by simp at h, fun k q h => by simp at h⟩
  have hl := lv_entry ([.ref b]) (n := 7) (Nat.le_of_ble_eq_true rfl)
  rw [lg_entry_eq]
  generalize (lg_sl ([.ref b]) ++ List.replicate (7 - (lg_sl ([.ref b])).length) Slot.unset).toArray = ls at hl ⊢
  have hl : lv_has ls 7 [(0, .ref b)] := hl
  refine va_new (ci := 0) (fs := [.null, .int 0]) (C := RX0) (T := TX0) (N := 2) hx hb hts inlX0 tyX0 tyX0_ok hown (hts (.classLink RL 8 RX0) (by decide +kernel)) (hts (.instantiable RX0 2) (by decide +kernel)) (hts (.initialized RX0) (by decide +kernel)) hK0 hP hD hS hA rfl (fun j hj => by rcases (show j = 0 ∨ j = 1 by omega) with rfl | rfl <;> rfl) (by show _ ≤ 1036; omega) (by show _ ≤ 9771; omega) dL_law_0 (fun h H hP hD hS => ?_)
  have hP : va_P (dC, dI) vwCl [(h, .inr (0, [.null, .int 0]))] H := hP
  have hD : va_D (fun x : Nat => s.heap.size ≤ x) [(h, .inr (0, [.null, .int 0]))] := hD
  have hh0 : s.heap.size ≤ h := hD.2 0 _ rfl
  have hh1 : h < H.size := (hP 0 _ rfl).lt
  refine W.widen (k := 1) (n := 2) (by omega) (by omega) ?_
  refine lv_dup hx hb dL_law_3 rfl ?_
  refine va_callv (va_runI (As := []) (rest := [.ref h]) ⟨hx, hb, hml, hown, hts⟩ (c_init l dC dI h H.size) (cwI 0 hts gL_law_X0_init rfl rfl rfl (hts (.initialized RX0) (by decide +kernel)) (hts (.methodLink RL 44 yX0_init) (by decide +kernel)) (hts (.instanceMethod yX0_init) (by decide +kernel)) rfl (by decide +kernel) ⟨Nat.le_of_ble_eq_true rfl, Nat.le_of_ble_eq_true rfl⟩) ⟨fun a U g mk q => by obtain ⟨q0, q1, qP, qK⟩ := q; exact ⟨q0, q1, qP, va_K.moved (u := U) (U := U.calling g mk a) (Vm.Alike.refl U.vm) qK⟩, fun U hU hW => ⟨rfl, by rw [hU], by rw [hU]; exact hP, va_K.moved hW.alike hK0⟩⟩ rfl rfl hl.1 rfl (lv_room (Nat.le_of_ble_eq_true rfl)) dL_law_4 ⟨Nat.le_of_ble_eq_true rfl, Nat.le_of_ble_eq_true rfl⟩) hS (fun x h1 h9 => by rcases h9 with h9 | h9; exact h9 ▸ hh0; omega) (fun x h9 => by rcases h9 with h9 | h9; exact h9 ▸ hh0; exact Nat.le_trans hS.1 h9) (fun u t H1 locs ht hvm hw hB hz1 hk1 hS => ?_)
  obtain ⟨a, cI⟩ := u
  obtain ⟨hPx, hKx⟩ := hB
  rw [ht] at hPx
  have hKx := va_K.moved hvm.symm hKx
  try dsimp only at hw hPx hKx
  have hne : h ≠ a := by omega
  have ha0 : s.heap.size ≤ a := by have := hS.1; omega
  have ha1 : a < H1.size := (hPx 1 _ rfl).lt
  refine W.widen (k := 2) (n := 514) (by omega) (by omega) ?_
  refine lv_astore_n (lv' := [(1, .ref h), (0, .ref b)]) hx hb dL_law_7 rfl hl (by decide) rfl (fun ls hl => ?_)
  have hDx : va_D (fun x : Nat => s.heap.size ≤ x) (cb_w h a cI (nI 1024) (fun _ => 0)) := (cb_D hne).weaken (fun k x hk h9 => by rcases h9 with h9 | h9; exact h9 ▸ hh0; exact h9 ▸ ha0)
  refine va_new (ci := 1) (fs := [.int 0, .int 0, .null, .null]) (C := RX1) (T := TX1) (N := 4) hx hb hts inlX1 tyX1 tyX1_ok hown (hts (.classLink RL 45 RX1) (by decide +kernel)) (hts (.instantiable RX1 4) (by decide +kernel)) (hts (.initialized RX1) (by decide +kernel)) hKx hPx hDx hS hA rfl (fun j hj => by rcases (show j = 0 ∨ j = 1 ∨ j = 2 ∨ j = 3 by omega) with rfl | rfl | rfl | rfl <;> rfl) (by show _ ≤ 1036; omega) (by show _ ≤ 9771; omega) dL_law_8 (fun q H2 hP hD hS => ?_)
  have hP : va_P (dC, dI) vwCl [(h, .inr (0, [.ref a, .int (nI 1024)])), (a, .inl (cI, 512, .inl (fun _ => 0))), (q, .inr (1, [.int 0, .int 0, .null, .null]))] H2 := hP
  have hD : va_D (fun x : Nat => s.heap.size ≤ x) [(h, .inr (0, [.ref a, .int (nI 1024)])), (a, .inl (cI, 512, .inl (fun _ => 0))), (q, .inr (1, [.int 0, .int 0, .null, .null]))] := hD
  have hq0 : s.heap.size ≤ q := hD.2 2 _ rfl
  have hqh : h ≠ q := fun h9 => by have := hD.1 0 2 _ _ rfl rfl h9; omega
  have hqa : a ≠ q := fun h9 => by have := hD.1 1 2 _ _ rfl rfl h9; omega
  have hh2 : h < H2.size := (hP 0 _ rfl).lt
  have ha2 : a < H2.size := (hP 1 _ rfl).lt
  have hq2 : q < H2.size := (hP 2 _ rfl).lt
  refine W.widen (k := 3) (n := 518) (by omega) (by omega) ?_
  refine lv_dup hx hb dL_law_11 rfl ?_
  refine va_callv (va_runI (As := []) (rest := [.ref q]) ⟨hx, hb, hml, hown, hts⟩ (c1_init l dC dI q H2.size) (cwI 0 hts gL_law_X1_init rfl rfl rfl (hts (.initialized RX1) (by decide +kernel)) (hts (.methodLink RL 47 yX1_init) (by decide +kernel)) (hts (.instanceMethod yX1_init) (by decide +kernel)) rfl (by decide +kernel) ⟨Nat.le_of_ble_eq_true rfl, Nat.le_of_ble_eq_true rfl⟩) ⟨fun a U g mk q => by obtain ⟨q0, q1, qP, qK⟩ := q; exact ⟨q0, q1, qP, va_K.moved (u := U) (U := U.calling g mk a) (Vm.Alike.refl U.vm) qK⟩, fun U hU hW => ⟨rfl, by rw [hU], by rw [hU]; exact hP.sub [2] rfl, va_K.moved hW.alike hK0⟩⟩ rfl rfl hl.1 rfl (lv_room (Nat.le_of_ble_eq_true rfl)) dL_law_12 ⟨Nat.le_of_ble_eq_true rfl, Nat.le_of_ble_eq_true rfl⟩) hS (fun x h1 h9 => by rcases h9 with h9 | h9; exact h9 ▸ hq0; omega) (fun x h9 => by rcases h9 with h9 | h9; exact h9 ▸ hq0; exact Nat.le_trans hS.1 h9) (fun u t H3 locs ht hvm hw hB hz3 hk3 hS => ?_)
  obtain ⟨qa, qb, cY, cZ⟩ := u
  obtain ⟨hPm, hKm⟩ := hB
  rw [ht] at hPm
  have hKm := va_K.moved hvm.symm hKm
  try dsimp only at hw hPm hKm
  obtain ⟨hw1, hw2, hw3⟩ := hw
  have hPx : va_P (dC, dI) vwCl (cb_w h a cI (nI 1024) (fun _ => 0)) H3 := cl_kept (hP.sub [0, 1] rfl) hk3 (fun x hx9 h9 => by
    simp only [List.mem_cons, List.not_mem_nil, or_false] at hx9
    rcases hx9 with rfl | rfl
    · rcases h9 with h9 | h9
      · exact hqh h9
      · exact absurd h9 (Nat.not_le.mpr hh2)
    · rcases h9 with h9 | h9
      · exact hqa h9
      · exact absurd h9 (Nat.not_le.mpr ha2))
  have hs2 : s.heap.size ≤ H2.size := Nat.le_of_lt (Nat.lt_of_le_of_lt hh0 hh2)
  refine W.widen (k := 5) (n := 1542) (by omega) (by omega) ?_
  refine lv_astore_n (lv' := [(2, .ref q), (1, .ref h), (0, .ref b)]) hx hb dL_law_15 rfl hl (by decide) rfl (fun ls hl => ?_)
  refine lv_iconst (v := 1) hx hb dL_law_16 (by decide) ?_
  have hP5 : va_P (dC, dI) vwCl [(h, .inr (0, [.ref a, .int (nI 1024)])), (a, .inl (cI, 512, .inl (fun _ => 0))), (q, .inr (1, [.int 0, .int (nI 1024), .ref qa, .ref qb])), (qa, .inl (cY, 512, .inl (fun c => md_b ((fun _ => false) c)))), (qb, .inl (cZ, 512, .inl (fun c => md_b ((fun _ => false) c))))] H3 := va_P.app hPx hPm
  have hD5 : va_D (fun x : Nat => s.heap.size ≤ x) [(h, .inr (0, [.ref a, .int (nI 1024)])), (a, .inl (cI, 512, .inl (fun _ => 0))), (q, .inr (1, [.int 0, .int (nI 1024), .ref qa, .ref qb])), (qa, .inl (cY, 512, .inl (fun c => md_b ((fun _ => false) c)))), (qb, .inl (cZ, 512, .inl (fun c => md_b ((fun _ => false) c))))] := by
    refine st_D ?_ ?_
    · show [h, a, q, qa, qb].Nodup
      simp only [List.nodup_cons, List.mem_cons, List.not_mem_nil, or_false, not_or, List.nodup_nil, and_true, not_false_eq_true]
      omega
    · intro x hx9
      simp only [List.mem_cons, List.not_mem_nil, or_false] at hx9
      rcases hx9 with rfl | rfl | rfl | rfl | rfl
      · exact hh0
      · exact ha0
      · exact hq0
      · exact Nat.le_trans hs2 hw1
      · exact Nat.le_trans hs2 hw2
  have hK5 : va_K (dC, dI) vwCl [(cI, .int), (cY, .boolean), (cZ, .boolean)] s := hKx.app hKm
  refine va_newa (atype := .long) (n := 1) (ty := .long) (N' := 1) (a0 := (1, .inr (.inl (fun _ => 0)))) hx hb (hts0 (.arrayClass .long) (by decide +kernel)) rfl hK5 hP5 hD5 hS hA (fun _ => rfl) (by decide +kernel) (by decide +kernel) (by decide +kernel) (by show _ ≤ 1036; omega) (by show _ ≤ 9771; omega) dL_law_17 (fun o cJ H4 hK6 hP6 hD6 hS => ?_)
  have ho0 : s.heap.size ≤ o := hD6.2 5 _ rfl
  have o1 : h ≠ o := fun h9 => by have := hD6.1 0 5 _ _ rfl rfl h9; omega
  have o2 : a ≠ o := fun h9 => by have := hD6.1 1 5 _ _ rfl rfl h9; omega
  have o3 : q ≠ o := fun h9 => by have := hD6.1 2 5 _ _ rfl rfl h9; omega
  have o4 : qa ≠ o := fun h9 => by have := hD6.1 3 5 _ _ rfl rfl h9; omega
  have o5 : qb ≠ o := fun h9 => by have := hD6.1 4 5 _ _ rfl rfl h9; omega
  have hPw : va_P (dC, dI) vwCl (wr_w h a cI (nI 1024) (fun _ => 0) o cJ (fun _ => 0)) H4 := hP6.sub [0, 1, 5] rfl
  have hPm : va_P (dC, dI) vwCl (md_w q qa qb cY cZ 0 (nI 1024) (fun _ => false) (fun _ => false)) H4 := hP6.sub [2, 3, 4] rfl
  have hK : va_K (dC, dI) vwCl [(cI, .int), (cJ, .long), (cY, .boolean), (cZ, .boolean)] s := hK6.sub [0, 3, 1, 2] rfl
  rw [pu_init] at hPw
  refine W.widen (k := 6) (n := 1543) (by omega) (by omega) ?_
  refine lv_astore_n (lv' := [(3, .ref o), (2, .ref q), (1, .ref h), (0, .ref b)]) hx hb dL_law_19 rfl hl (by decide) rfl (fun ls hl => ?_)
  refine lv_iconst (v := 0) hx hb dL_law_20 (by decide) ?_
  refine lv_istore (lv' := [(4, .int 0), (3, .ref o), (2, .ref q), (1, .ref h), (0, .ref b)]) hx hb dL_law_21 hl (by decide) rfl (fun ls hl => ?_)
  have hqa1 : q ≠ qa := by omega
  have hqb1 : q ≠ qb := by omega
  have K0 : lp_K s (dC, dI) h a o q qa qb cI cJ cY cZ := by
    refine ⟨hK, hJ, ⟨hne, ⟨o1.symm, o2.symm⟩, hqa1, hqb1, hw3⟩, ?_, ?_, ?_⟩
    · intro x h1 h2
      rcases h1 with (h1 | h1) | h1 <;> rcases h2 with h2 | h2 | h2 <;> omega
    · intro x h1
      rcases h1 with (h1 | h1) | h1 <;> omega
    · intro x h1
      rcases h1 with h1 | h1 | h1 <;> omega
  have V0 : lp_V s (dC, dI) h a o q qa qb cI cJ cY cZ 1024 (fun _ => false) (fun _ => false) H4 locs := ⟨⟨by decide, by decide, fun _ _ => ⟨rfl, rfl⟩⟩, ⟨_, hPw⟩, ⟨_, hPm⟩, hS⟩
  exact law_loop hst hL C0 K0 (L + 1) 0 (by omega) (by omega) 1024 _ _ H4 locs ls V0 (lv_sub hl [0, 4, 3, 2, 1] rfl)
