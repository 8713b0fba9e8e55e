theorem lp_more {L j : Nat} (hL : L ≤ 1536) (h : ¬ nI L - 3 < nI (3 * j)) (hj : 3 * j ≤ L) : 3 * j + 3 ≤ L := by
  rw [Int32.lt_iff_toInt_lt, show (3 : Int32) = nI 3 from rfl, pk_sub_toInt (by omega) (by decide), nI_toInt (by omega)] at h
  omega
set_option maxHeartbeats 4000000 in
set_option maxRecDepth 100000 in
/-- THE LAW'S LOOP: at its head, with j calls done, class and reference stand alike -/
theorem law_loop {p : Program} {l : Launch} {e : Env} {s : State} {m : MethodId} {below : List Frame} {meth : Method} {c : Code} {dC : Nat → ClassId} {dI : Nat → Nat → Nat} {b L : Nat} {xs : Nat → Int32} {h a o q qa qb : Nat} {cI cJ cY cZ : ClassId} (hst : l.stackTraces = false) (hL : L ≤ 1536) (C0 : lw_At p s m meth c b L xs) (K0 : lp_K s (dC, dI) h a o q qa qb cI cJ cY cZ) :
    ∀ (n j : Nat), L < 3 * (j + n) → 3 * j ≤ L → ∀ (N : Nat) (D S : Nat → Bool) (H : Heap) (locs : List Loc) (ls : Array Slot), lp_V s (dC, dI) h a o q qa qb cI cJ cY cZ N D S H locs → lv_has ls 7 [(4, .int (nI (3 * j))), (0, .ref b), (1, .ref h), (2, .ref q), (3, .ref o)] → W p l e room_1 s m #[Value.ref b] below meth c H locs (6 + j) (1543 + 6 * j) (lw_Z below #[Value.ref b] s) (F0 m 23 ls []) := by
  intro n
  induction n with
  | zero =>
    intro j h1 h2
    omega
  | succ n ih =>
    intro j hn hj N D S H locs ls V0 hl
    obtain ⟨hx, hb, hr, hml, hown, hts0, hX, hbl, hlocks, hgv⟩ := id C0
    have hbA : ¬ (fun x : Nat => s.heap.size ≤ x) b := Nat.not_le.mpr hbl
    have hS := V0.2.2.2
    refine lv_iload hx hb dL_law_23 (lv_at hl 0 rfl) ?_
    refine lv_aload_n hx hb dL_law_25 rfl (lv_at hl 1 rfl) ?_
    refine va_slen hx hb hX hbl hbA hS dL_law_26 ?_
    refine lv_iconst (v := 3) hx hb dL_law_27 (by decide) ?_
    refine lv_isub hx hb dL_law_28 ?_
    refine lv_icmp_gt (tgt := 669) hx hb dL_law_29 (by decide) (fun hc => ?_) (fun hc => ?_)
    · refine lv_iconst (v := 1) hx hb dL_law_669 (by decide) ?_
      refine va_forget (fun x hx9 => hS.2.2 x hx9) ?_
      refine W.widen (k := 1036) (n := 9771) (by omega) (by omega) ?_
      exact lw_ret hx hb hr hlocks dL_law_670
    · have hi : 3 * j + 3 ≤ L := lp_more hL hc hj
      have hcl : 6 + j + 1 ≤ 1036 := by omega
      have hsl : 1543 + 6 * j + 6 ≤ 9771 := by omega
      have kk : ∀ (N : Nat) (D S : Nat → Bool) (H : Heap) (locs : List Loc) (ls : Array Slot), lp_V s (dC, dI) h a o q qa qb cI cJ cY cZ N D S H locs → lv_has ls 7 [(4, .int (nI (3 * j))), (0, .ref b), (1, .ref h), (2, .ref q), (3, .ref o)] → W p l e room_1 s m #[Value.ref b] below meth c H locs (6 + j + 1) (1543 + 6 * j + 6) (lw_Z below #[Value.ref b] s) (F0 m 663 ls []) := by
        intro N D S H locs ls V hl
        refine lv_iinc (v := nI (3 * (j + 1))) (lv' := [(4, .int (nI (3 * (j + 1)))), (0, .ref b), (1, .ref h), (2, .ref q), (3, .ref o)]) hx hb dL_law_663 hl (k := 0) rfl (by rw [show 3 * (j + 1) = 3 * j + 3 by omega]; exact nI_add (3 * j) 3) (by decide) rfl (fun ls hl => ?_)
        refine lv_goto (tgt := 23) hx hb dL_law_666 (by decide) ?_
        refine W.widen (k := 6 + (j + 1)) (n := 1543 + 6 * (j + 1)) (by omega) (by omega) ?_
        exact ih (j + 1) (by omega) (by omega) N D S H locs ls V hl
      refine lv_aload_n hx hb dL_law_32 rfl (lv_at hl 1 rfl) ?_
      refine lv_iload hx hb dL_law_33 (lv_at hl 0 rfl) ?_
      refine cl_sld hx hb hX hbl hbA hS (show 3 * j < L by omega) (by omega) dL_law_35 ?_
      refine lv_bipush (v := 15) hx hb dL_law_36 (by decide) ?_
      refine lv_iand hx hb dL_law_38 ?_
      obtain ⟨r, hr9, er⟩ := pk_andE (xs (3 * j)) (m := 15) 4 (by decide)
      refine cl_asi er ?_
      match r, hr9 with
      | 0, _ =>
        refine lv_tableIn (off := 53) (tgt := 92) hx hb dL_law_39 (by decide) (by decide) rfl (by decide) ?_
        exact lc_space hst hL C0 K0 hi hcl hsl V0 hl kk
      | 1, _ =>
        refine lv_tableIn (off := 109) (tgt := 148) hx hb dL_law_39 (by decide) (by decide) rfl (by decide) ?_
        exact lc_write hst hL C0 K0 hi hcl hsl V0 hl kk
      | 2, _ =>
        refine lv_tableIn (off := 165) (tgt := 204) hx hb dL_law_39 (by decide) (by decide) rfl (by decide) ?_
        exact lc_cover hst hL C0 K0 hi hcl hsl V0 hl kk
      | 3, _ =>
        refine lv_tableIn (off := 233) (tgt := 272) hx hb dL_law_39 (by decide) (by decide) rfl (by decide) ?_
        by_cases hbb : xs (3 * j + 2) = 0
        · exact lc_clean0 hst hL C0 K0 hi hbb hcl hsl V0 hl kk
        · exact lc_clean1 hst hL C0 K0 hi hbb hcl hsl V0 hl kk
      | 4, _ =>
        refine lv_tableIn (off := 324) (tgt := 363) hx hb dL_law_39 (by decide) (by decide) rfl (by decide) ?_
        exact lc_unsave hst hL C0 K0 hi hcl hsl V0 hl kk
      | 5, _ =>
        refine lv_tableIn (off := 387) (tgt := 426) hx hb dL_law_39 (by decide) (by decide) rfl (by decide) ?_
        exact lc_card hst hL C0 K0 hi hcl hsl V0 hl kk
      | 6, _ =>
        refine lv_tableIn (off := 443) (tgt := 482) hx hb dL_law_39 (by decide) (by decide) rfl (by decide) ?_
        exact lc_nextDirty hst hL C0 K0 hi hcl hsl V0 hl kk
      | 7, _ =>
        refine lv_tableIn (off := 499) (tgt := 538) hx hb dL_law_39 (by decide) (by decide) rfl (by decide) ?_
        exact lc_nextSaved hst hL C0 K0 hi hcl hsl V0 hl kk
      | 8, _ =>
        refine lv_tableIn (off := 555) (tgt := 594) hx hb dL_law_39 (by decide) (by decide) rfl (by decide) ?_
        exact lc_clear hst hL C0 K0 hi hcl hsl V0 hl kk
      | 9, _ =>
        refine lv_tableIn (off := 568) (tgt := 607) hx hb dL_law_39 (by decide) (by decide) rfl (by decide) ?_
        exact lc_count hst hL C0 K0 hi hcl hsl V0 hl kk
      | r + 10, hr9 =>
        refine lv_tableOut (tgt := 663) hx hb dL_law_39 (Or.inr (by rw [nI_toInt (by omega)]; omega)) (by decide) ?_
        refine W.widen (k := 6 + j + 1) (n := 1543 + 6 * j + 6) (by omega) (by omega) ?_
        exact kk N D S H locs ls V0 hl
