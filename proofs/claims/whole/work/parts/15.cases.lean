theorem lp_o {h a o q qa qb : Nat} {cJ cY cZ : ClassId} {g : Nat → Int64} {t n : Int32} {D S : Nat → Bool} (ho : o ≠ h ∧ o ≠ a) (hd : ∀ x, wr_A h a o x → ¬ md_A q qa qb x) : ∀ x ∈ ou_w o cJ g ++ md_w q qa qb cY cZ t n D S, ¬ cb_A h a x.1 := by
  intro x hx h9
  rcases List.mem_append.mp hx with hx | hx
  · rw [List.mem_singleton] at hx
    subst hx
    rcases h9 with h9 | h9
    · exact ho.1 h9
    · exact ho.2 h9
  · exact lp_m hd x hx (Or.inl h9)
set_option maxHeartbeats 4000000 in
set_option maxRecDepth 100000 in
/-- the law's case space -/
theorem lc_space {p : Program} {l : Launch} {e : Env} {s : State} {m : MethodId} {below : List Frame} {meth : Method} {c : Code} {dC : Nat → ClassId} {dI : Nat → Nat → Nat} {b L : Nat} {xs : Nat → Int32} {h a o q qa qb : Nat} {cI cJ cY cZ : ClassId} (hst : l.stackTraces = false) (hL : L ≤ 1536) (C0 : lw_At p s m meth c b L xs) (K0 : lp_K s (dC, dI) h a o q qa qb cI cJ cY cZ) {N i cells slots : Nat} {D S : Nat → Bool} {H : Heap} {locs : List Loc} {ls : Array Slot} (hi : i + 3 ≤ L) (hcl : cells + 1 ≤ 1036) (hsl : slots + 6 ≤ 9771) (V0 : lp_V s (dC, dI) h a o q qa qb cI cJ cY cZ N D S H locs) (hl : lv_has ls 7 [(4, .int (nI i)), (0, .ref b), (1, .ref h), (2, .ref q), (3, .ref o)])
    (kk : ∀ (N : Nat) (D S : Nat → Bool) (H : Heap) (locs : List Loc) (ls : Array Slot), lp_V s (dC, dI) h a o q qa qb cI cJ cY cZ N D S H locs → lv_has ls 7 [(4, .int (nI i)), (0, .ref b), (1, .ref h), (2, .ref q), (3, .ref o)] → W p l e room_1 s m #[Value.ref b] below meth c H locs (cells + 1) (slots + 6) (lw_Z below #[Value.ref b] s) (F0 m 663 ls [])) : W p l e room_1 s m #[Value.ref b] below meth c H locs cells slots (lw_Z below #[Value.ref b] s) (F0 m 92 ls []) := by
  obtain ⟨hx, hb, hr, hml, hown, hts0, hX, hbl, hlocks, hgv⟩ := C0
  have hts : ∀ w ∈ wsL_law, w.before #[Value.ref b] s = true := fun w h9 => hts0 w (wsL_law_in w h9)
  obtain ⟨hK, hJ, ⟨hne, ho, hmn⟩, hdj, hgx, hgm⟩ := K0
  obtain ⟨⟨h1, h2, hz⟩, ⟨g, hPw⟩, ⟨t, hPm⟩, hS⟩ := V0
  have hbA : ¬ (fun x : Nat => s.heap.size ≤ x) b := Nat.not_le.mpr hbl
  rcases ix_space (xs (i + 1)) with hbad | ⟨n, hn1, hn2, e1⟩
  · refine lv_aload_n hx hb dL_law_92 rfl (lv_at hl 2 rfl) ?_
    refine lv_aload_n hx hb dL_law_93 rfl (lv_at hl 1 rfl) ?_
    refine lv_iload hx hb dL_law_94 (lv_at hl 0 rfl) ?_
    refine lv_iconst (v := 1) hx hb dL_law_96 (by decide) ?_
    refine lv_iadd hx hb dL_law_97 ?_
    refine cl_asi (nI_add i 1) ?_
    refine cl_sld hx hb hX hbl hbA hS (show i + 1 < L by omega) (by omega) dL_law_98 ?_
    refine lv_aload_n hx hb dL_law_99 rfl (lv_at hl 4 rfl) ?_
    refine lk_same (xt_runSW (As := [.ref h, .int (xs (i + 1)), .ref o]) (rest := []) ⟨hx, hb, hml, hown, hts⟩ (v_space l hst dC dI h a cI N (pf_ D S) o cJ g (xs (i + 1)) hbad) (lk_cw 3 hts gL_law_L_space rfl rfl rfl (by decide +kernel) ⟨Nat.le_of_ble_eq_true rfl, Nat.le_of_ble_eq_true rfl⟩) (lk_preT hJ hS (hK.sub (tys' := [(cI, .int), (cJ, .long)]) [0, 1] rfl) hPw) rfl rfl hl.1 rfl (lv_room (Nat.le_of_ble_eq_true rfl)) dL_law_100 ⟨by show _ ≤ 1036; omega, by show _ ≤ 9771; omega⟩) hS hPw hPm (fun H locs hPw hPm hS => ?_)
    refine lv_istore (lv' := [(5, .int 1), (4, .int (nI i)), (0, .ref b), (1, .ref h), (2, .ref q), (3, .ref o)]) hx hb dL_law_103 hl (by decide) rfl (fun ls hl => ?_)
    refine lv_aload_n hx hb dL_law_105 rfl (lv_at hl 4 rfl) ?_
    refine lv_aload_n hx hb dL_law_106 rfl (lv_at hl 2 rfl) ?_
    refine lv_iload hx hb dL_law_107 (lv_at hl 1 rfl) ?_
    refine lv_iconst (v := 1) hx hb dL_law_109 (by decide) ?_
    refine lv_iadd hx hb dL_law_110 ?_
    refine cl_asi (nI_add i 1) ?_
    refine cl_sld hx hb hX hbl hbA hS (show i + 1 < L by omega) (by omega) dL_law_111 ?_
    refine lk_call (va_runV (As := [.int (xs (i + 1))]) (rest := []) ⟨hx, hb, hml, hown, hts0⟩ (e1_space l dC dI q qa qb cY cZ t N D S (xs (i + 1)) hbad hmn) (cwV 1 hts0 gL_law_X1_space rfl rfl rfl (by decide +kernel) ⟨Nat.le_of_ble_eq_true rfl, Nat.le_of_ble_eq_true rfl⟩) (md_preV (hK.sub (tys' := [(cY, .boolean), (cZ, .boolean)]) [2, 3] rfl) hPm [.int (xs (i + 1))]) rfl rfl hl.1 rfl (lv_room (Nat.le_of_ble_eq_true rfl)) dL_law_112 ⟨by show _ ≤ 1036; omega, by show _ ≤ 9771; omega⟩) hS hgm hPw (lp_x hdj) (fun H locs hPm hPw hS => ?_)
    have hPm : va_P (dC, dI) vwCl (md_w q qa qb cY cZ 1 (nI N) D S) H := hPm
    refine lv_istore (lv' := [(6, .int (0 : Int32)), (5, .int 1), (4, .int (nI i)), (0, .ref b), (1, .ref h), (2, .ref q), (3, .ref o)]) hx hb dL_law_115 hl (by decide) rfl (fun ls hl => ?_)
    refine lv_aload_n hx hb dL_law_117 rfl (lv_at hl 5 rfl) ?_
    refine cl_calli (W.runV (As := []) (rest := []) ⟨hx, hb, hml, hown, hts⟩ (c1_thrown l dC dI q qa qb cY cZ 1 N D S) (cwV 0 hts gL_law_X1_thrown rfl rfl rfl (by decide +kernel) ⟨Nat.le_of_ble_eq_true rfl, Nat.le_of_ble_eq_true rfl⟩) (md_preV (hK.sub (tys' := [(cY, .boolean), (cZ, .boolean)]) [2, 3] rfl) hPm []) rfl rfl hl.1 rfl (lv_room (Nat.le_of_ble_eq_true rfl)) dL_law_118 ⟨by show _ ≤ 1036; omega, by show _ ≤ 9771; omega⟩) ?_
    refine lv_iload hx hb dL_law_121 (lv_at hl 1 rfl) ?_
    refine lv_icmp_eq (tgt := 128) hx hb dL_law_123 (by decide) (fun _ => ?_) (fun h9 => absurd rfl h9)
    refine lv_iload hx hb dL_law_128 (lv_at hl 1 rfl) ?_
    refine lv_if_ne (tgt := 145) hx hb dL_law_130 (by decide) (fun _ => ?_) (fun h9 => absurd h9 (by decide))
    refine lv_goto (tgt := 663) hx hb dL_law_145 (by decide) ?_
    refine W.widen (k := cells + 1) (n := slots + 6) (by omega) (by omega) ?_
    exact kk N D S H locs ls ⟨⟨h1, h2, hz⟩, ⟨_, hPw⟩, ⟨_, hPm⟩, hS⟩ (lv_sub hl [2, 3, 4, 5, 6] rfl)
  · refine lv_aload_n hx hb dL_law_92 rfl (lv_at hl 2 rfl) ?_
    refine lv_aload_n hx hb dL_law_93 rfl (lv_at hl 1 rfl) ?_
    refine lv_iload hx hb dL_law_94 (lv_at hl 0 rfl) ?_
    refine lv_iconst (v := 1) hx hb dL_law_96 (by decide) ?_
    refine lv_iadd hx hb dL_law_97 ?_
    refine cl_asi (nI_add i 1) ?_
    refine cl_sld hx hb hX hbl hbA hS (show i + 1 < L by omega) (by omega) dL_law_98 ?_
    rw [e1]
    refine lv_aload_n hx hb dL_law_99 rfl (lv_at hl 4 rfl) ?_
    refine lk_call (xt_runSW (As := [.ref h, .int (nI n), .ref o]) (rest := []) ⟨hx, hb, hml, hown, hts⟩ (w_space l dC dI h a cI N (pf_ D S) o cJ g hne ho n h1 h2 hn1 hn2) (lk_cw 3 hts gL_law_L_space rfl rfl rfl (by decide +kernel) ⟨Nat.le_of_ble_eq_true rfl, Nat.le_of_ble_eq_true rfl⟩) (lk_preS (hK.sub (tys' := [(cI, .int), (cJ, .long)]) [0, 1] rfl) hPw) rfl rfl hl.1 rfl (lv_room (Nat.le_of_ble_eq_true rfl)) dL_law_100 ⟨by show _ ≤ 1036; omega, by show _ ≤ 9771; omega⟩) hS hgx hPm (lp_m hdj) (fun H locs hPw hPm hS => ?_)
    have hPw : va_P (dC, dI) vwCl (wr_w h a cI (nI n) (cb_clr (pf_ D S) (cb_cc N)) o cJ (vp_updL g 0 (Int32.toInt64 (nI N)))) H := hPw
    refine lv_istore (lv' := [(5, .int 0), (4, .int (nI i)), (0, .ref b), (1, .ref h), (2, .ref q), (3, .ref o)]) hx hb dL_law_103 hl (by decide) rfl (fun ls hl => ?_)
    refine lv_aload_n hx hb dL_law_105 rfl (lv_at hl 4 rfl) ?_
    refine lv_aload_n hx hb dL_law_106 rfl (lv_at hl 2 rfl) ?_
    refine lv_iload hx hb dL_law_107 (lv_at hl 1 rfl) ?_
    refine lv_iconst (v := 1) hx hb dL_law_109 (by decide) ?_
    refine lv_iadd hx hb dL_law_110 ?_
    refine cl_asi (nI_add i 1) ?_
    refine cl_sld hx hb hX hbl hbA hS (show i + 1 < L by omega) (by omega) dL_law_111 ?_
    rw [e1]
    refine lk_call (va_runV (As := [.int (nI n)]) (rest := []) ⟨hx, hb, hml, hown, hts0⟩ (c1_space l dC dI q qa qb cY cZ t N D S n hn1 hn2 hmn) (cwV 1 hts0 gL_law_X1_space rfl rfl rfl (by decide +kernel) ⟨Nat.le_of_ble_eq_true rfl, Nat.le_of_ble_eq_true rfl⟩) (md_preV (hK.sub (tys' := [(cY, .boolean), (cZ, .boolean)]) [2, 3] rfl) hPm [.int (nI n)]) rfl rfl hl.1 rfl (lv_room (Nat.le_of_ble_eq_true rfl)) dL_law_112 ⟨by show _ ≤ 1036; omega, by show _ ≤ 9771; omega⟩) hS hgm hPw (lp_x hdj) (fun H locs hPm hPw hS => ?_)
    have hPm : va_P (dC, dI) vwCl (md_w q qa qb cY cZ 0 (nI n) (md_cl D true 512) (md_cl S true 512)) H := hPm
    refine lv_istore (lv' := [(6, .int (nI N)), (5, .int 0), (4, .int (nI i)), (0, .ref b), (1, .ref h), (2, .ref q), (3, .ref o)]) hx hb dL_law_115 hl (by decide) rfl (fun ls hl => ?_)
    refine lv_aload_n hx hb dL_law_117 rfl (lv_at hl 5 rfl) ?_
    refine cl_calli (W.runV (As := []) (rest := []) ⟨hx, hb, hml, hown, hts⟩ (c1_thrown l dC dI q qa qb cY cZ 0 n (md_cl D true 512) (md_cl S true 512)) (cwV 0 hts gL_law_X1_thrown rfl rfl rfl (by decide +kernel) ⟨Nat.le_of_ble_eq_true rfl, Nat.le_of_ble_eq_true rfl⟩) (md_preV (hK.sub (tys' := [(cY, .boolean), (cZ, .boolean)]) [2, 3] rfl) hPm []) rfl rfl hl.1 rfl (lv_room (Nat.le_of_ble_eq_true rfl)) dL_law_118 ⟨by show _ ≤ 1036; omega, by show _ ≤ 9771; omega⟩) ?_
    refine lv_iload hx hb dL_law_121 (lv_at hl 1 rfl) ?_
    refine lv_icmp_eq (tgt := 128) hx hb dL_law_123 (by decide) (fun _ => ?_) (fun h9 => absurd rfl h9)
    refine lv_iload hx hb dL_law_128 (lv_at hl 1 rfl) ?_
    refine lv_if_ne (tgt := 145) hx hb dL_law_130 (by decide) (fun h9 => absurd rfl h9) (fun _ => ?_)
    refine lv_aload_n hx hb dL_law_133 rfl (lv_at hl 6 rfl) ?_
    refine lv_iconst (v := 0) hx hb dL_law_134 (by decide) ?_
    rw [pu_clr h2 hz] at hPw
    refine lk_out (v := (Int32.toInt64 (nI N))) hx hb hK rfl hPw dL_law_135 ?_
    refine lv_iload hx hb dL_law_136 (lv_at hl 0 rfl) ?_
    refine lv_i2l (v := Int32.toInt64 (nI N)) hx hb dL_law_138 rfl ?_
    refine W.lcmp hx hb dL_law_139 ?_
    refine cl_asi (lk_cmp _) ?_
    refine lv_if_eq (tgt := 145) hx hb dL_law_140 (by decide) (fun _ => ?_) (fun h9 => absurd rfl h9)
    refine lv_goto (tgt := 663) hx hb dL_law_145 (by decide) ?_
    refine W.widen (k := cells + 1) (n := slots + 6) (by omega) (by omega) ?_
    exact kk n (md_cl D true 512) (md_cl S true 512) H locs ls ⟨⟨hn1, hn2, pz_gone h2 hz⟩, ⟨_, hPw⟩, ⟨_, hPm⟩, hS⟩ (lv_sub hl [2, 3, 4, 5, 6] rfl)
set_option maxHeartbeats 4000000 in
set_option maxRecDepth 100000 in
/-- the law's case write -/
theorem lc_write {p : Program} {l : Launch} {e : Env} {s : State} {m : MethodId} {below : List Frame} {meth : Method} {c : Code} {dC : Nat → ClassId} {dI : Nat → Nat → Nat} {b L : Nat} {xs : Nat → Int32} {h a o q qa qb : Nat} {cI cJ cY cZ : ClassId} (hst : l.stackTraces = false) (hL : L ≤ 1536) (C0 : lw_At p s m meth c b L xs) (K0 : lp_K s (dC, dI) h a o q qa qb cI cJ cY cZ) {N i cells slots : Nat} {D S : Nat → Bool} {H : Heap} {locs : List Loc} {ls : Array Slot} (hi : i + 3 ≤ L) (hcl : cells + 1 ≤ 1036) (hsl : slots + 6 ≤ 9771) (V0 : lp_V s (dC, dI) h a o q qa qb cI cJ cY cZ N D S H locs) (hl : lv_has ls 7 [(4, .int (nI i)), (0, .ref b), (1, .ref h), (2, .ref q), (3, .ref o)])
    (kk : ∀ (N : Nat) (D S : Nat → Bool) (H : Heap) (locs : List Loc) (ls : Array Slot), lp_V s (dC, dI) h a o q qa qb cI cJ cY cZ N D S H locs → lv_has ls 7 [(4, .int (nI i)), (0, .ref b), (1, .ref h), (2, .ref q), (3, .ref o)] → W p l e room_1 s m #[Value.ref b] below meth c H locs (cells + 1) (slots + 6) (lw_Z below #[Value.ref b] s) (F0 m 663 ls [])) : W p l e room_1 s m #[Value.ref b] below meth c H locs cells slots (lw_Z below #[Value.ref b] s) (F0 m 148 ls []) := by
  obtain ⟨hx, hb, hr, hml, hown, hts0, hX, hbl, hlocks, hgv⟩ := C0
  have hts : ∀ w ∈ wsL_law, w.before #[Value.ref b] s = true := fun w h9 => hts0 w (wsL_law_in w h9)
  obtain ⟨hK, hJ, ⟨hne, ho, hmn⟩, hdj, hgx, hgm⟩ := K0
  obtain ⟨⟨h1, h2, hz⟩, ⟨g, hPw⟩, ⟨t, hPm⟩, hS⟩ := V0
  have hbA : ¬ (fun x : Nat => s.heap.size ≤ x) b := Nat.not_le.mpr hbl
  rcases ix_below (xs (i + 1)) (n := N) (by omega) with hbad | ⟨k, hk, e1⟩
  · refine lv_aload_n hx hb dL_law_148 rfl (lv_at hl 2 rfl) ?_
    refine lv_aload_n hx hb dL_law_149 rfl (lv_at hl 1 rfl) ?_
    refine lv_iload hx hb dL_law_150 (lv_at hl 0 rfl) ?_
    refine lv_iconst (v := 1) hx hb dL_law_152 (by decide) ?_
    refine lv_iadd hx hb dL_law_153 ?_
    refine cl_asi (nI_add i 1) ?_
    refine cl_sld hx hb hX hbl hbA hS (show i + 1 < L by omega) (by omega) dL_law_154 ?_
    refine lv_aload_n hx hb dL_law_155 rfl (lv_at hl 4 rfl) ?_
    refine lk_same (xt_runSW (As := [.ref h, .int (xs (i + 1)), .ref o]) (rest := []) ⟨hx, hb, hml, hown, hts⟩ (v_write l hst dC dI h a cI N (pf_ D S) o cJ g (xs (i + 1)) hbad) (lk_cw 3 hts gL_law_L_write rfl rfl rfl (by decide +kernel) ⟨Nat.le_of_ble_eq_true rfl, Nat.le_of_ble_eq_true rfl⟩) (lk_preT hJ hS (hK.sub (tys' := [(cI, .int), (cJ, .long)]) [0, 1] rfl) hPw) rfl rfl hl.1 rfl (lv_room (Nat.le_of_ble_eq_true rfl)) dL_law_156 ⟨by show _ ≤ 1036; omega, by show _ ≤ 9771; omega⟩) hS hPw hPm (fun H locs hPw hPm hS => ?_)
    refine lv_istore (lv' := [(5, .int 1), (4, .int (nI i)), (0, .ref b), (1, .ref h), (2, .ref q), (3, .ref o)]) hx hb dL_law_159 hl (by decide) rfl (fun ls hl => ?_)
    refine lv_aload_n hx hb dL_law_161 rfl (lv_at hl 4 rfl) ?_
    refine lv_aload_n hx hb dL_law_162 rfl (lv_at hl 2 rfl) ?_
    refine lv_iload hx hb dL_law_163 (lv_at hl 1 rfl) ?_
    refine lv_iconst (v := 1) hx hb dL_law_165 (by decide) ?_
    refine lv_iadd hx hb dL_law_166 ?_
    refine cl_asi (nI_add i 1) ?_
    refine cl_sld hx hb hX hbl hbA hS (show i + 1 < L by omega) (by omega) dL_law_167 ?_
    refine lk_call (va_runV (As := [.int (xs (i + 1))]) (rest := []) ⟨hx, hb, hml, hown, hts0⟩ (e1_write l dC dI q qa qb cY cZ t N D S (xs (i + 1)) hbad hmn) (cwV 1 hts0 gL_law_X1_write rfl rfl rfl (by decide +kernel) ⟨Nat.le_of_ble_eq_true rfl, Nat.le_of_ble_eq_true rfl⟩) (md_preV (hK.sub (tys' := [(cY, .boolean), (cZ, .boolean)]) [2, 3] rfl) hPm [.int (xs (i + 1))]) rfl rfl hl.1 rfl (lv_room (Nat.le_of_ble_eq_true rfl)) dL_law_168 ⟨by show _ ≤ 1036; omega, by show _ ≤ 9771; omega⟩) hS hgm hPw (lp_x hdj) (fun H locs hPm hPw hS => ?_)
    have hPm : va_P (dC, dI) vwCl (md_w q qa qb cY cZ 1 (nI N) D S) H := hPm
    refine lv_istore (lv' := [(6, .int (0 : Int32)), (5, .int 1), (4, .int (nI i)), (0, .ref b), (1, .ref h), (2, .ref q), (3, .ref o)]) hx hb dL_law_171 hl (by decide) rfl (fun ls hl => ?_)
    refine lv_aload_n hx hb dL_law_173 rfl (lv_at hl 5 rfl) ?_
    refine cl_calli (W.runV (As := []) (rest := []) ⟨hx, hb, hml, hown, hts⟩ (c1_thrown l dC dI q qa qb cY cZ 1 N D S) (cwV 0 hts gL_law_X1_thrown rfl rfl rfl (by decide +kernel) ⟨Nat.le_of_ble_eq_true rfl, Nat.le_of_ble_eq_true rfl⟩) (md_preV (hK.sub (tys' := [(cY, .boolean), (cZ, .boolean)]) [2, 3] rfl) hPm []) rfl rfl hl.1 rfl (lv_room (Nat.le_of_ble_eq_true rfl)) dL_law_174 ⟨by show _ ≤ 1036; omega, by show _ ≤ 9771; omega⟩) ?_
    refine lv_iload hx hb dL_law_177 (lv_at hl 1 rfl) ?_
    refine lv_icmp_eq (tgt := 184) hx hb dL_law_179 (by decide) (fun _ => ?_) (fun h9 => absurd rfl h9)
    refine lv_iload hx hb dL_law_184 (lv_at hl 1 rfl) ?_
    refine lv_if_ne (tgt := 201) hx hb dL_law_186 (by decide) (fun _ => ?_) (fun h9 => absurd h9 (by decide))
    refine lv_goto (tgt := 663) hx hb dL_law_201 (by decide) ?_
    refine W.widen (k := cells + 1) (n := slots + 6) (by omega) (by omega) ?_
    exact kk N D S H locs ls ⟨⟨h1, h2, hz⟩, ⟨_, hPw⟩, ⟨_, hPm⟩, hS⟩ (lv_sub hl [2, 3, 4, 5, 6] rfl)
  · refine lv_aload_n hx hb dL_law_148 rfl (lv_at hl 2 rfl) ?_
    refine lv_aload_n hx hb dL_law_149 rfl (lv_at hl 1 rfl) ?_
    refine lv_iload hx hb dL_law_150 (lv_at hl 0 rfl) ?_
    refine lv_iconst (v := 1) hx hb dL_law_152 (by decide) ?_
    refine lv_iadd hx hb dL_law_153 ?_
    refine cl_asi (nI_add i 1) ?_
    refine cl_sld hx hb hX hbl hbA hS (show i + 1 < L by omega) (by omega) dL_law_154 ?_
    rw [e1]
    refine lv_aload_n hx hb dL_law_155 rfl (lv_at hl 4 rfl) ?_
    refine lk_call (xt_runSW (As := [.ref h, .int (nI k), .ref o]) (rest := []) ⟨hx, hb, hml, hown, hts⟩ (w_write l dC dI h a cI N (pf_ D S) o cJ g hne ho k h2 hk) (lk_cw 3 hts gL_law_L_write rfl rfl rfl (by decide +kernel) ⟨Nat.le_of_ble_eq_true rfl, Nat.le_of_ble_eq_true rfl⟩) (lk_preS (hK.sub (tys' := [(cI, .int), (cJ, .long)]) [0, 1] rfl) hPw) rfl rfl hl.1 rfl (lv_room (Nat.le_of_ble_eq_true rfl)) dL_law_156 ⟨by show _ ≤ 1036; omega, by show _ ≤ 9771; omega⟩) hS hgx hPm (lp_m hdj) (fun H locs hPw hPm hS => ?_)
    have hPw : va_P (dC, dI) vwCl (wr_w h a cI (nI N) (upd (pf_ D S) (k / 32) (pf_ D S (k / 32) ||| 1)) o cJ (vp_updL g 0 (Int32.toInt64 (nI (k / 32))))) H := hPw
    refine lv_istore (lv' := [(5, .int 0), (4, .int (nI i)), (0, .ref b), (1, .ref h), (2, .ref q), (3, .ref o)]) hx hb dL_law_159 hl (by decide) rfl (fun ls hl => ?_)
    refine lv_aload_n hx hb dL_law_161 rfl (lv_at hl 4 rfl) ?_
    refine lv_aload_n hx hb dL_law_162 rfl (lv_at hl 2 rfl) ?_
    refine lv_iload hx hb dL_law_163 (lv_at hl 1 rfl) ?_
    refine lv_iconst (v := 1) hx hb dL_law_165 (by decide) ?_
    refine lv_iadd hx hb dL_law_166 ?_
    refine cl_asi (nI_add i 1) ?_
    refine cl_sld hx hb hX hbl hbA hS (show i + 1 < L by omega) (by omega) dL_law_167 ?_
    rw [e1]
    refine lk_call (va_runV (As := [.int (nI k)]) (rest := []) ⟨hx, hb, hml, hown, hts0⟩ (c1_write l dC dI q qa qb cY cZ t N D S k h2 hk hmn) (cwV 1 hts0 gL_law_X1_write rfl rfl rfl (by decide +kernel) ⟨Nat.le_of_ble_eq_true rfl, Nat.le_of_ble_eq_true rfl⟩) (md_preV (hK.sub (tys' := [(cY, .boolean), (cZ, .boolean)]) [2, 3] rfl) hPm [.int (nI k)]) rfl rfl hl.1 rfl (lv_room (Nat.le_of_ble_eq_true rfl)) dL_law_168 ⟨by show _ ≤ 1036; omega, by show _ ≤ 9771; omega⟩) hS hgm hPw (lp_x hdj) (fun H locs hPm hPw hS => ?_)
    have hPm : va_P (dC, dI) vwCl (md_w q qa qb cY cZ 0 (nI N) (md_u D (k / 32) true) S) H := hPm
    refine lv_istore (lv' := [(6, .int (nI (k / 32))), (5, .int 0), (4, .int (nI i)), (0, .ref b), (1, .ref h), (2, .ref q), (3, .ref o)]) hx hb dL_law_171 hl (by decide) rfl (fun ls hl => ?_)
    refine lv_aload_n hx hb dL_law_173 rfl (lv_at hl 5 rfl) ?_
    refine cl_calli (W.runV (As := []) (rest := []) ⟨hx, hb, hml, hown, hts⟩ (c1_thrown l dC dI q qa qb cY cZ 0 N (md_u D (k / 32) true) S) (cwV 0 hts gL_law_X1_thrown rfl rfl rfl (by decide +kernel) ⟨Nat.le_of_ble_eq_true rfl, Nat.le_of_ble_eq_true rfl⟩) (md_preV (hK.sub (tys' := [(cY, .boolean), (cZ, .boolean)]) [2, 3] rfl) hPm []) rfl rfl hl.1 rfl (lv_room (Nat.le_of_ble_eq_true rfl)) dL_law_174 ⟨by show _ ≤ 1036; omega, by show _ ≤ 9771; omega⟩) ?_
    refine lv_iload hx hb dL_law_177 (lv_at hl 1 rfl) ?_
    refine lv_icmp_eq (tgt := 184) hx hb dL_law_179 (by decide) (fun _ => ?_) (fun h9 => absurd rfl h9)
    refine lv_iload hx hb dL_law_184 (lv_at hl 1 rfl) ?_
    refine lv_if_ne (tgt := 201) hx hb dL_law_186 (by decide) (fun h9 => absurd rfl h9) (fun _ => ?_)
    refine lv_aload_n hx hb dL_law_189 rfl (lv_at hl 6 rfl) ?_
    refine lv_iconst (v := 0) hx hb dL_law_190 (by decide) ?_
    rw [pu_write] at hPw
    refine lk_out (v := (Int32.toInt64 (nI (k / 32)))) hx hb hK rfl hPw dL_law_191 ?_
    refine lv_iload hx hb dL_law_192 (lv_at hl 0 rfl) ?_
    refine lv_i2l (v := Int32.toInt64 (nI (k / 32))) hx hb dL_law_194 rfl ?_
    refine W.lcmp hx hb dL_law_195 ?_
    refine cl_asi (lk_cmp _) ?_
    refine lv_if_eq (tgt := 201) hx hb dL_law_196 (by decide) (fun _ => ?_) (fun h9 => absurd rfl h9)
    refine lv_goto (tgt := 663) hx hb dL_law_201 (by decide) ?_
    refine W.widen (k := cells + 1) (n := slots + 6) (by omega) (by omega) ?_
    exact kk N (md_u D (k / 32) true) S H locs ls ⟨⟨h1, h2, pz_d hz (by unfold cb_cc; omega)⟩, ⟨_, hPw⟩, ⟨_, hPm⟩, hS⟩ (lv_sub hl [2, 3, 4, 5, 6] rfl)
set_option maxHeartbeats 4000000 in
set_option maxRecDepth 100000 in
/-- the law's case cover -/
theorem lc_cover {p : Program} {l : Launch} {e : Env} {s : State} {m : MethodId} {below : List Frame} {meth : Method} {c : Code} {dC : Nat → ClassId} {dI : Nat → Nat → Nat} {b L : Nat} {xs : Nat → Int32} {h a o q qa qb : Nat} {cI cJ cY cZ : ClassId} (hst : l.stackTraces = false) (hL : L ≤ 1536) (C0 : lw_At p s m meth c b L xs) (K0 : lp_K s (dC, dI) h a o q qa qb cI cJ cY cZ) {N i cells slots : Nat} {D S : Nat → Bool} {H : Heap} {locs : List Loc} {ls : Array Slot} (hi : i + 3 ≤ L) (hcl : cells + 1 ≤ 1036) (hsl : slots + 6 ≤ 9771) (V0 : lp_V s (dC, dI) h a o q qa qb cI cJ cY cZ N D S H locs) (hl : lv_has ls 7 [(4, .int (nI i)), (0, .ref b), (1, .ref h), (2, .ref q), (3, .ref o)])
    (kk : ∀ (N : Nat) (D S : Nat → Bool) (H : Heap) (locs : List Loc) (ls : Array Slot), lp_V s (dC, dI) h a o q qa qb cI cJ cY cZ N D S H locs → lv_has ls 7 [(4, .int (nI i)), (0, .ref b), (1, .ref h), (2, .ref q), (3, .ref o)] → W p l e room_1 s m #[Value.ref b] below meth c H locs (cells + 1) (slots + 6) (lw_Z below #[Value.ref b] s) (F0 m 663 ls [])) : W p l e room_1 s m #[Value.ref b] below meth c H locs cells slots (lw_Z below #[Value.ref b] s) (F0 m 204 ls []) := by
  obtain ⟨hx, hb, hr, hml, hown, hts0, hX, hbl, hlocks, hgv⟩ := C0
  have hts : ∀ w ∈ wsL_law, w.before #[Value.ref b] s = true := fun w h9 => hts0 w (wsL_law_in w h9)
  obtain ⟨hK, hJ, ⟨hne, ho, hmn⟩, hdj, hgx, hgm⟩ := K0
  obtain ⟨⟨h1, h2, hz⟩, ⟨g, hPw⟩, ⟨t, hPm⟩, hS⟩ := V0
  have hbA : ¬ (fun x : Nat => s.heap.size ≤ x) b := Nat.not_le.mpr hbl
  rcases ix_below (xs (i + 1)) (n := N) (by omega) with hbad | ⟨k, hk, e1⟩
  · refine lv_aload_n hx hb dL_law_204 rfl (lv_at hl 2 rfl) ?_
    refine lv_aload_n hx hb dL_law_205 rfl (lv_at hl 1 rfl) ?_
    refine lv_iload hx hb dL_law_206 (lv_at hl 0 rfl) ?_
    refine lv_iconst (v := 1) hx hb dL_law_208 (by decide) ?_
    refine lv_iadd hx hb dL_law_209 ?_
    refine cl_asi (nI_add i 1) ?_
    refine cl_sld hx hb hX hbl hbA hS (show i + 1 < L by omega) (by omega) dL_law_210 ?_
    refine lv_aload_n hx hb dL_law_211 rfl (lv_at hl 1 rfl) ?_
    refine lv_iload hx hb dL_law_212 (lv_at hl 0 rfl) ?_
    refine lv_iconst (v := 2) hx hb dL_law_214 (by decide) ?_
    refine lv_iadd hx hb dL_law_215 ?_
    refine cl_asi (nI_add i 2) ?_
    refine cl_sld hx hb hX hbl hbA hS (show i + 2 < L by omega) (by omega) dL_law_216 ?_
    refine lv_aload_n hx hb dL_law_217 rfl (lv_at hl 4 rfl) ?_
    refine lk_same (xt_runSW (As := [.ref h, .int (xs (i + 1)), .int (xs (i + 2)), .ref o]) (rest := []) ⟨hx, hb, hml, hown, hts⟩ (v_cover1 l hst dC dI h a cI N (pf_ D S) o cJ g (xs (i + 1)) (xs (i + 2)) hbad) (lk_cw 4 hts gL_law_L_cover rfl rfl rfl (by decide +kernel) ⟨Nat.le_of_ble_eq_true rfl, Nat.le_of_ble_eq_true rfl⟩) (lk_preT hJ hS (hK.sub (tys' := [(cI, .int), (cJ, .long)]) [0, 1] rfl) hPw) rfl rfl hl.1 rfl (lv_room (Nat.le_of_ble_eq_true rfl)) dL_law_218 ⟨by show _ ≤ 1036; omega, by show _ ≤ 9771; omega⟩) hS hPw hPm (fun H locs hPw hPm hS => ?_)
    refine lv_istore (lv' := [(5, .int 1), (4, .int (nI i)), (0, .ref b), (1, .ref h), (2, .ref q), (3, .ref o)]) hx hb dL_law_221 hl (by decide) rfl (fun ls hl => ?_)
    refine lv_aload_n hx hb dL_law_223 rfl (lv_at hl 4 rfl) ?_
    refine lv_aload_n hx hb dL_law_224 rfl (lv_at hl 2 rfl) ?_
    refine lv_iload hx hb dL_law_225 (lv_at hl 1 rfl) ?_
    refine lv_iconst (v := 1) hx hb dL_law_227 (by decide) ?_
    refine lv_iadd hx hb dL_law_228 ?_
    refine cl_asi (nI_add i 1) ?_
    refine cl_sld hx hb hX hbl hbA hS (show i + 1 < L by omega) (by omega) dL_law_229 ?_
    refine lv_aload_n hx hb dL_law_230 rfl (lv_at hl 2 rfl) ?_
    refine lv_iload hx hb dL_law_231 (lv_at hl 1 rfl) ?_
    refine lv_iconst (v := 2) hx hb dL_law_233 (by decide) ?_
    refine lv_iadd hx hb dL_law_234 ?_
    refine cl_asi (nI_add i 2) ?_
    refine cl_sld hx hb hX hbl hbA hS (show i + 2 < L by omega) (by omega) dL_law_235 ?_
    refine lk_call (va_runV (As := [.int (xs (i + 1)), .int (xs (i + 2))]) (rest := []) ⟨hx, hb, hml, hown, hts0⟩ (e1_cover1 l dC dI q qa qb cY cZ t N D S (xs (i + 1)) (xs (i + 2)) hbad hmn) (cwV 2 hts0 gL_law_X1_cover rfl rfl rfl (by decide +kernel) ⟨Nat.le_of_ble_eq_true rfl, Nat.le_of_ble_eq_true rfl⟩) (md_preV (hK.sub (tys' := [(cY, .boolean), (cZ, .boolean)]) [2, 3] rfl) hPm [.int (xs (i + 1)), .int (xs (i + 2))]) rfl rfl hl.1 rfl (lv_room (Nat.le_of_ble_eq_true rfl)) dL_law_236 ⟨by show _ ≤ 1036; omega, by show _ ≤ 9771; omega⟩) hS hgm hPw (lp_x hdj) (fun H locs hPm hPw hS => ?_)
    have hPm : va_P (dC, dI) vwCl (md_w q qa qb cY cZ 1 (nI N) D S) H := hPm
    refine lv_istore (lv' := [(6, .int (0 : Int32)), (5, .int 1), (4, .int (nI i)), (0, .ref b), (1, .ref h), (2, .ref q), (3, .ref o)]) hx hb dL_law_239 hl (by decide) rfl (fun ls hl => ?_)
    refine lv_aload_n hx hb dL_law_241 rfl (lv_at hl 5 rfl) ?_
    refine cl_calli (W.runV (As := []) (rest := []) ⟨hx, hb, hml, hown, hts⟩ (c1_thrown l dC dI q qa qb cY cZ 1 N D S) (cwV 0 hts gL_law_X1_thrown rfl rfl rfl (by decide +kernel) ⟨Nat.le_of_ble_eq_true rfl, Nat.le_of_ble_eq_true rfl⟩) (md_preV (hK.sub (tys' := [(cY, .boolean), (cZ, .boolean)]) [2, 3] rfl) hPm []) rfl rfl hl.1 rfl (lv_room (Nat.le_of_ble_eq_true rfl)) dL_law_242 ⟨by show _ ≤ 1036; omega, by show _ ≤ 9771; omega⟩) ?_
    refine lv_iload hx hb dL_law_245 (lv_at hl 1 rfl) ?_
    refine lv_icmp_eq (tgt := 252) hx hb dL_law_247 (by decide) (fun _ => ?_) (fun h9 => absurd rfl h9)
    refine lv_iload hx hb dL_law_252 (lv_at hl 1 rfl) ?_
    refine lv_if_ne (tgt := 269) hx hb dL_law_254 (by decide) (fun _ => ?_) (fun h9 => absurd h9 (by decide))
    refine lv_goto (tgt := 663) hx hb dL_law_269 (by decide) ?_
    refine W.widen (k := cells + 1) (n := slots + 6) (by omega) (by omega) ?_
    exact kk N D S H locs ls ⟨⟨h1, h2, hz⟩, ⟨_, hPw⟩, ⟨_, hPm⟩, hS⟩ (lv_sub hl [2, 3, 4, 5, 6] rfl)
  · rcases ix_size (xs (i + 2)) hk h2 with hbad | ⟨z, hz1, hkz, e2⟩
    · refine lv_aload_n hx hb dL_law_204 rfl (lv_at hl 2 rfl) ?_
      refine lv_aload_n hx hb dL_law_205 rfl (lv_at hl 1 rfl) ?_
      refine lv_iload hx hb dL_law_206 (lv_at hl 0 rfl) ?_
      refine lv_iconst (v := 1) hx hb dL_law_208 (by decide) ?_
      refine lv_iadd hx hb dL_law_209 ?_
      refine cl_asi (nI_add i 1) ?_
      refine cl_sld hx hb hX hbl hbA hS (show i + 1 < L by omega) (by omega) dL_law_210 ?_
      rw [e1]
      refine lv_aload_n hx hb dL_law_211 rfl (lv_at hl 1 rfl) ?_
      refine lv_iload hx hb dL_law_212 (lv_at hl 0 rfl) ?_
      refine lv_iconst (v := 2) hx hb dL_law_214 (by decide) ?_
      refine lv_iadd hx hb dL_law_215 ?_
      refine cl_asi (nI_add i 2) ?_
      refine cl_sld hx hb hX hbl hbA hS (show i + 2 < L by omega) (by omega) dL_law_216 ?_
      refine lv_aload_n hx hb dL_law_217 rfl (lv_at hl 4 rfl) ?_
      refine lk_same (xt_runSW (As := [.ref h, .int (nI k), .int (xs (i + 2)), .ref o]) (rest := []) ⟨hx, hb, hml, hown, hts⟩ (v_cover2 l hst dC dI h a cI N (pf_ D S) o cJ g k (xs (i + 2)) h2 hk hbad) (lk_cw 4 hts gL_law_L_cover rfl rfl rfl (by decide +kernel) ⟨Nat.le_of_ble_eq_true rfl, Nat.le_of_ble_eq_true rfl⟩) (lk_preT hJ hS (hK.sub (tys' := [(cI, .int), (cJ, .long)]) [0, 1] rfl) hPw) rfl rfl hl.1 rfl (lv_room (Nat.le_of_ble_eq_true rfl)) dL_law_218 ⟨by show _ ≤ 1036; omega, by show _ ≤ 9771; omega⟩) hS hPw hPm (fun H locs hPw hPm hS => ?_)
      refine lv_istore (lv' := [(5, .int 1), (4, .int (nI i)), (0, .ref b), (1, .ref h), (2, .ref q), (3, .ref o)]) hx hb dL_law_221 hl (by decide) rfl (fun ls hl => ?_)
      refine lv_aload_n hx hb dL_law_223 rfl (lv_at hl 4 rfl) ?_
      refine lv_aload_n hx hb dL_law_224 rfl (lv_at hl 2 rfl) ?_
      refine lv_iload hx hb dL_law_225 (lv_at hl 1 rfl) ?_
      refine lv_iconst (v := 1) hx hb dL_law_227 (by decide) ?_
      refine lv_iadd hx hb dL_law_228 ?_
      refine cl_asi (nI_add i 1) ?_
      refine cl_sld hx hb hX hbl hbA hS (show i + 1 < L by omega) (by omega) dL_law_229 ?_
      rw [e1]
      refine lv_aload_n hx hb dL_law_230 rfl (lv_at hl 2 rfl) ?_
      refine lv_iload hx hb dL_law_231 (lv_at hl 1 rfl) ?_
      refine lv_iconst (v := 2) hx hb dL_law_233 (by decide) ?_
      refine lv_iadd hx hb dL_law_234 ?_
      refine cl_asi (nI_add i 2) ?_
      refine cl_sld hx hb hX hbl hbA hS (show i + 2 < L by omega) (by omega) dL_law_235 ?_
      refine lk_call (va_runV (As := [.int (nI k), .int (xs (i + 2))]) (rest := []) ⟨hx, hb, hml, hown, hts0⟩ (e1_cover2 l dC dI q qa qb cY cZ t N D S k (xs (i + 2)) h2 hk hbad hmn) (cwV 2 hts0 gL_law_X1_cover rfl rfl rfl (by decide +kernel) ⟨Nat.le_of_ble_eq_true rfl, Nat.le_of_ble_eq_true rfl⟩) (md_preV (hK.sub (tys' := [(cY, .boolean), (cZ, .boolean)]) [2, 3] rfl) hPm [.int (nI k), .int (xs (i + 2))]) rfl rfl hl.1 rfl (lv_room (Nat.le_of_ble_eq_true rfl)) dL_law_236 ⟨by show _ ≤ 1036; omega, by show _ ≤ 9771; omega⟩) hS hgm hPw (lp_x hdj) (fun H locs hPm hPw hS => ?_)
      have hPm : va_P (dC, dI) vwCl (md_w q qa qb cY cZ 1 (nI N) D S) H := hPm
      refine lv_istore (lv' := [(6, .int (0 : Int32)), (5, .int 1), (4, .int (nI i)), (0, .ref b), (1, .ref h), (2, .ref q), (3, .ref o)]) hx hb dL_law_239 hl (by decide) rfl (fun ls hl => ?_)
      refine lv_aload_n hx hb dL_law_241 rfl (lv_at hl 5 rfl) ?_
      refine cl_calli (W.runV (As := []) (rest := []) ⟨hx, hb, hml, hown, hts⟩ (c1_thrown l dC dI q qa qb cY cZ 1 N D S) (cwV 0 hts gL_law_X1_thrown rfl rfl rfl (by decide +kernel) ⟨Nat.le_of_ble_eq_true rfl, Nat.le_of_ble_eq_true rfl⟩) (md_preV (hK.sub (tys' := [(cY, .boolean), (cZ, .boolean)]) [2, 3] rfl) hPm []) rfl rfl hl.1 rfl (lv_room (Nat.le_of_ble_eq_true rfl)) dL_law_242 ⟨by show _ ≤ 1036; omega, by show _ ≤ 9771; omega⟩) ?_
      refine lv_iload hx hb dL_law_245 (lv_at hl 1 rfl) ?_
      refine lv_icmp_eq (tgt := 252) hx hb dL_law_247 (by decide) (fun _ => ?_) (fun h9 => absurd rfl h9)
      refine lv_iload hx hb dL_law_252 (lv_at hl 1 rfl) ?_
      refine lv_if_ne (tgt := 269) hx hb dL_law_254 (by decide) (fun _ => ?_) (fun h9 => absurd h9 (by decide))
      refine lv_goto (tgt := 663) hx hb dL_law_269 (by decide) ?_
      refine W.widen (k := cells + 1) (n := slots + 6) (by omega) (by omega) ?_
      exact kk N D S H locs ls ⟨⟨h1, h2, hz⟩, ⟨_, hPw⟩, ⟨_, hPm⟩, hS⟩ (lv_sub hl [2, 3, 4, 5, 6] rfl)
    · refine lv_aload_n hx hb dL_law_204 rfl (lv_at hl 2 rfl) ?_
      refine lv_aload_n hx hb dL_law_205 rfl (lv_at hl 1 rfl) ?_
      refine lv_iload hx hb dL_law_206 (lv_at hl 0 rfl) ?_
      refine lv_iconst (v := 1) hx hb dL_law_208 (by decide) ?_
      refine lv_iadd hx hb dL_law_209 ?_
      refine cl_asi (nI_add i 1) ?_
      refine cl_sld hx hb hX hbl hbA hS (show i + 1 < L by omega) (by omega) dL_law_210 ?_
      rw [e1]
      refine lv_aload_n hx hb dL_law_211 rfl (lv_at hl 1 rfl) ?_
      refine lv_iload hx hb dL_law_212 (lv_at hl 0 rfl) ?_
      refine lv_iconst (v := 2) hx hb dL_law_214 (by decide) ?_
      refine lv_iadd hx hb dL_law_215 ?_
      refine cl_asi (nI_add i 2) ?_
      refine cl_sld hx hb hX hbl hbA hS (show i + 2 < L by omega) (by omega) dL_law_216 ?_
      rw [e2]
      refine lv_aload_n hx hb dL_law_217 rfl (lv_at hl 4 rfl) ?_
      refine lk_call (xt_runSW (As := [.ref h, .int (nI k), .int (nI z), .ref o]) (rest := []) ⟨hx, hb, hml, hown, hts⟩ (w_cover l dC dI h a cI N (pf_ D S) o cJ g hne ho k z h2 hz1 hkz) (lk_cw 4 hts gL_law_L_cover rfl rfl rfl (by decide +kernel) ⟨Nat.le_of_ble_eq_true rfl, Nat.le_of_ble_eq_true rfl⟩) (lk_preS (hK.sub (tys' := [(cI, .int), (cJ, .long)]) [0, 1] rfl) hPw) rfl rfl hl.1 rfl (lv_room (Nat.le_of_ble_eq_true rfl)) dL_law_218 ⟨by show _ ≤ 1036; omega, by show _ ≤ 9771; omega⟩) hS hgx hPm (lp_m hdj) (fun H locs hPw hPm hS => ?_)
      have hPw : va_P (dC, dI) vwCl (wr_w h a cI (nI N) (cb_cov (pf_ D S) (k / 32) (((k + z - 1) / 32) + 1)) o cJ (vp_updL g 0 (Int32.toInt64 (nI (((k + z - 1) / 32) - k / 32 + 1))))) H := hPw
      refine lv_istore (lv' := [(5, .int 0), (4, .int (nI i)), (0, .ref b), (1, .ref h), (2, .ref q), (3, .ref o)]) hx hb dL_law_221 hl (by decide) rfl (fun ls hl => ?_)
      refine lv_aload_n hx hb dL_law_223 rfl (lv_at hl 4 rfl) ?_
      refine lv_aload_n hx hb dL_law_224 rfl (lv_at hl 2 rfl) ?_
      refine lv_iload hx hb dL_law_225 (lv_at hl 1 rfl) ?_
      refine lv_iconst (v := 1) hx hb dL_law_227 (by decide) ?_
      refine lv_iadd hx hb dL_law_228 ?_
      refine cl_asi (nI_add i 1) ?_
      refine cl_sld hx hb hX hbl hbA hS (show i + 1 < L by omega) (by omega) dL_law_229 ?_
      rw [e1]
      refine lv_aload_n hx hb dL_law_230 rfl (lv_at hl 2 rfl) ?_
      refine lv_iload hx hb dL_law_231 (lv_at hl 1 rfl) ?_
      refine lv_iconst (v := 2) hx hb dL_law_233 (by decide) ?_
      refine lv_iadd hx hb dL_law_234 ?_
      refine cl_asi (nI_add i 2) ?_
      refine cl_sld hx hb hX hbl hbA hS (show i + 2 < L by omega) (by omega) dL_law_235 ?_
      rw [e2]
      refine lk_call (va_runV (As := [.int (nI k), .int (nI z)]) (rest := []) ⟨hx, hb, hml, hown, hts0⟩ (c1_cover l dC dI q qa qb cY cZ t N D S k z h1 h2 hz1 hkz hmn) (cwV 2 hts0 gL_law_X1_cover rfl rfl rfl (by decide +kernel) ⟨Nat.le_of_ble_eq_true rfl, Nat.le_of_ble_eq_true rfl⟩) (md_preV (hK.sub (tys' := [(cY, .boolean), (cZ, .boolean)]) [2, 3] rfl) hPm [.int (nI k), .int (nI z)]) rfl rfl hl.1 rfl (lv_room (Nat.le_of_ble_eq_true rfl)) dL_law_236 ⟨by show _ ≤ 1036; omega, by show _ ≤ 9771; omega⟩) hS hgm hPw (lp_x hdj) (fun H locs hPm hPw hS => ?_)
      have hPm : va_P (dC, dI) vwCl (md_w q qa qb cY cZ 0 (nI N) D (md_cv S (k / 32) ((k + z - 1) / 32) (cb_cc N))) H := hPm
      refine lv_istore (lv' := [(6, .int (nI (md_n (k / 32) ((k + z - 1) / 32) (cb_cc N)))), (5, .int 0), (4, .int (nI i)), (0, .ref b), (1, .ref h), (2, .ref q), (3, .ref o)]) hx hb dL_law_239 hl (by decide) rfl (fun ls hl => ?_)
      refine lv_aload_n hx hb dL_law_241 rfl (lv_at hl 5 rfl) ?_
      refine cl_calli (W.runV (As := []) (rest := []) ⟨hx, hb, hml, hown, hts⟩ (c1_thrown l dC dI q qa qb cY cZ 0 N D (md_cv S (k / 32) ((k + z - 1) / 32) (cb_cc N))) (cwV 0 hts gL_law_X1_thrown rfl rfl rfl (by decide +kernel) ⟨Nat.le_of_ble_eq_true rfl, Nat.le_of_ble_eq_true rfl⟩) (md_preV (hK.sub (tys' := [(cY, .boolean), (cZ, .boolean)]) [2, 3] rfl) hPm []) rfl rfl hl.1 rfl (lv_room (Nat.le_of_ble_eq_true rfl)) dL_law_242 ⟨by show _ ≤ 1036; omega, by show _ ≤ 9771; omega⟩) ?_
      refine lv_iload hx hb dL_law_245 (lv_at hl 1 rfl) ?_
      refine lv_icmp_eq (tgt := 252) hx hb dL_law_247 (by decide) (fun _ => ?_) (fun h9 => absurd rfl h9)
      refine lv_iload hx hb dL_law_252 (lv_at hl 1 rfl) ?_
      refine lv_if_ne (tgt := 269) hx hb dL_law_254 (by decide) (fun h9 => absurd rfl h9) (fun _ => ?_)
      refine lv_aload_n hx hb dL_law_257 rfl (lv_at hl 6 rfl) ?_
      refine lv_iconst (v := 0) hx hb dL_law_258 (by decide) ?_
      rw [pu_cover (M := (cb_cc N)) (show ((k + z - 1) / 32) < (cb_cc N) by unfold cb_cc; omega), ← pu_len hz1 hkz] at hPw
      refine lk_out (v := (Int32.toInt64 (nI (md_n (k / 32) ((k + z - 1) / 32) (cb_cc N))))) hx hb hK rfl hPw dL_law_259 ?_
      refine lv_iload hx hb dL_law_260 (lv_at hl 0 rfl) ?_
      refine lv_i2l (v := Int32.toInt64 (nI (md_n (k / 32) ((k + z - 1) / 32) (cb_cc N)))) hx hb dL_law_262 rfl ?_
      refine W.lcmp hx hb dL_law_263 ?_
      refine cl_asi (lk_cmp _) ?_
      refine lv_if_eq (tgt := 269) hx hb dL_law_264 (by decide) (fun _ => ?_) (fun h9 => absurd rfl h9)
      refine lv_goto (tgt := 663) hx hb dL_law_269 (by decide) ?_
      refine W.widen (k := cells + 1) (n := slots + 6) (by omega) (by omega) ?_
      exact kk N D (md_cv S (k / 32) ((k + z - 1) / 32) (cb_cc N)) H locs ls ⟨⟨h1, h2, pz_cv hz⟩, ⟨_, hPw⟩, ⟨_, hPm⟩, hS⟩ (lv_sub hl [2, 3, 4, 5, 6] rfl)
set_option maxHeartbeats 4000000 in
set_option maxRecDepth 100000 in
/-- the law's case clean -/
theorem lc_clean0 {p : Program} {l : Launch} {e : Env} {s : State} {m : MethodId} {below : List Frame} {meth : Method} {c : Code} {dC : Nat → ClassId} {dI : Nat → Nat → Nat} {b L : Nat} {xs : Nat → Int32} {h a o q qa qb : Nat} {cI cJ cY cZ : ClassId} (hst : l.stackTraces = false) (hL : L ≤ 1536) (C0 : lw_At p s m meth c b L xs) (K0 : lp_K s (dC, dI) h a o q qa qb cI cJ cY cZ) {N i cells slots : Nat} {D S : Nat → Bool} {H : Heap} {locs : List Loc} {ls : Array Slot} (hi : i + 3 ≤ L) (hbb : xs (i + 2) = 0) (hcl : cells + 1 ≤ 1036) (hsl : slots + 6 ≤ 9771) (V0 : lp_V s (dC, dI) h a o q qa qb cI cJ cY cZ N D S H locs) (hl : lv_has ls 7 [(4, .int (nI i)), (0, .ref b), (1, .ref h), (2, .ref q), (3, .ref o)])
    (kk : ∀ (N : Nat) (D S : Nat → Bool) (H : Heap) (locs : List Loc) (ls : Array Slot), lp_V s (dC, dI) h a o q qa qb cI cJ cY cZ N D S H locs → lv_has ls 7 [(4, .int (nI i)), (0, .ref b), (1, .ref h), (2, .ref q), (3, .ref o)] → W p l e room_1 s m #[Value.ref b] below meth c H locs (cells + 1) (slots + 6) (lw_Z below #[Value.ref b] s) (F0 m 663 ls [])) : W p l e room_1 s m #[Value.ref b] below meth c H locs cells slots (lw_Z below #[Value.ref b] s) (F0 m 272 ls []) := by
  obtain ⟨hx, hb, hr, hml, hown, hts0, hX, hbl, hlocks, hgv⟩ := C0
  have hts : ∀ w ∈ wsL_law, w.before #[Value.ref b] s = true := fun w h9 => hts0 w (wsL_law_in w h9)
  obtain ⟨hK, hJ, ⟨hne, ho, hmn⟩, hdj, hgx, hgm⟩ := K0
  obtain ⟨⟨h1, h2, hz⟩, ⟨g, hPw⟩, ⟨t, hPm⟩, hS⟩ := V0
  have hbA : ¬ (fun x : Nat => s.heap.size ≤ x) b := Nat.not_le.mpr hbl
  rcases ix_below (xs (i + 1)) (n := cb_cc N) (by have := cb_cc_le h2; omega) with hbad | ⟨k, hk, e1⟩
  · refine lv_aload_n hx hb dL_law_272 rfl (lv_at hl 2 rfl) ?_
    refine lv_aload_n hx hb dL_law_273 rfl (lv_at hl 1 rfl) ?_
    refine lv_iload hx hb dL_law_274 (lv_at hl 0 rfl) ?_
    refine lv_iconst (v := 1) hx hb dL_law_276 (by decide) ?_
    refine lv_iadd hx hb dL_law_277 ?_
    refine cl_asi (nI_add i 1) ?_
    refine cl_sld hx hb hX hbl hbA hS (show i + 1 < L by omega) (by omega) dL_law_278 ?_
    refine lv_aload_n hx hb dL_law_279 rfl (lv_at hl 1 rfl) ?_
    refine lv_iload hx hb dL_law_280 (lv_at hl 0 rfl) ?_
    refine lv_iconst (v := 2) hx hb dL_law_282 (by decide) ?_
    refine lv_iadd hx hb dL_law_283 ?_
    refine cl_asi (nI_add i 2) ?_
    refine cl_sld hx hb hX hbl hbA hS (show i + 2 < L by omega) (by omega) dL_law_284 ?_
    refine lv_if_eq (tgt := 292) hx hb dL_law_285 (by decide) (fun _ => ?_) (fun h9 => absurd hbb h9)
    refine lv_iconst (v := 0) hx hb dL_law_292 (by decide) ?_
    refine lv_aload_n hx hb dL_law_293 rfl (lv_at hl 4 rfl) ?_
    refine lk_same (xt_runSW (As := [.ref h, .int (xs (i + 1)), .int 0, .ref o]) (rest := []) ⟨hx, hb, hml, hown, hts⟩ (v_clean l hst dC dI h a cI N (pf_ D S) o cJ g (xs (i + 1)) 0 h1 h2 hbad) (lk_cw 4 hts gL_law_L_clean rfl rfl rfl (by decide +kernel) ⟨Nat.le_of_ble_eq_true rfl, Nat.le_of_ble_eq_true rfl⟩) (lk_preT hJ hS (hK.sub (tys' := [(cI, .int), (cJ, .long)]) [0, 1] rfl) hPw) rfl rfl hl.1 rfl (lv_room (Nat.le_of_ble_eq_true rfl)) dL_law_294 ⟨by show _ ≤ 1036; omega, by show _ ≤ 9771; omega⟩) hS hPw hPm (fun H locs hPw hPm hS => ?_)
    refine lv_istore (lv' := [(5, .int 1), (4, .int (nI i)), (0, .ref b), (1, .ref h), (2, .ref q), (3, .ref o)]) hx hb dL_law_297 hl (by decide) rfl (fun ls hl => ?_)
    refine lv_aload_n hx hb dL_law_299 rfl (lv_at hl 4 rfl) ?_
    refine lv_aload_n hx hb dL_law_300 rfl (lv_at hl 2 rfl) ?_
    refine lv_iload hx hb dL_law_301 (lv_at hl 1 rfl) ?_
    refine lv_iconst (v := 1) hx hb dL_law_303 (by decide) ?_
    refine lv_iadd hx hb dL_law_304 ?_
    refine cl_asi (nI_add i 1) ?_
    refine cl_sld hx hb hX hbl hbA hS (show i + 1 < L by omega) (by omega) dL_law_305 ?_
    refine lv_aload_n hx hb dL_law_306 rfl (lv_at hl 2 rfl) ?_
    refine lv_iload hx hb dL_law_307 (lv_at hl 1 rfl) ?_
    refine lv_iconst (v := 2) hx hb dL_law_309 (by decide) ?_
    refine lv_iadd hx hb dL_law_310 ?_
    refine cl_asi (nI_add i 2) ?_
    refine cl_sld hx hb hX hbl hbA hS (show i + 2 < L by omega) (by omega) dL_law_311 ?_
    refine lv_if_eq (tgt := 319) hx hb dL_law_312 (by decide) (fun _ => ?_) (fun h9 => absurd hbb h9)
    refine lv_iconst (v := 0) hx hb dL_law_319 (by decide) ?_
    refine lk_call (va_runV (As := [.int (xs (i + 1)), .int 0]) (rest := []) ⟨hx, hb, hml, hown, hts0⟩ (e1_clean l dC dI q qa qb cY cZ t N D S (xs (i + 1)) 0 h1 h2 hbad hmn) (cwV 2 hts0 gL_law_X1_clean rfl rfl rfl (by decide +kernel) ⟨Nat.le_of_ble_eq_true rfl, Nat.le_of_ble_eq_true rfl⟩) (md_preV (hK.sub (tys' := [(cY, .boolean), (cZ, .boolean)]) [2, 3] rfl) hPm [.int (xs (i + 1)), .int 0]) rfl rfl hl.1 rfl (lv_room (Nat.le_of_ble_eq_true rfl)) dL_law_320 ⟨by show _ ≤ 1036; omega, by show _ ≤ 9771; omega⟩) hS hgm hPw (lp_x hdj) (fun H locs hPm hPw hS => ?_)
    have hPm : va_P (dC, dI) vwCl (md_w q qa qb cY cZ 1 (nI N) D S) H := hPm
    refine lv_istore (lv' := [(6, .int (0 : Int32)), (5, .int 1), (4, .int (nI i)), (0, .ref b), (1, .ref h), (2, .ref q), (3, .ref o)]) hx hb dL_law_323 hl (by decide) rfl (fun ls hl => ?_)
    refine lv_aload_n hx hb dL_law_325 rfl (lv_at hl 5 rfl) ?_
    refine cl_calli (W.runV (As := []) (rest := []) ⟨hx, hb, hml, hown, hts⟩ (c1_thrown l dC dI q qa qb cY cZ 1 N D S) (cwV 0 hts gL_law_X1_thrown rfl rfl rfl (by decide +kernel) ⟨Nat.le_of_ble_eq_true rfl, Nat.le_of_ble_eq_true rfl⟩) (md_preV (hK.sub (tys' := [(cY, .boolean), (cZ, .boolean)]) [2, 3] rfl) hPm []) rfl rfl hl.1 rfl (lv_room (Nat.le_of_ble_eq_true rfl)) dL_law_326 ⟨by show _ ≤ 1036; omega, by show _ ≤ 9771; omega⟩) ?_
    refine lv_iload hx hb dL_law_329 (lv_at hl 1 rfl) ?_
    refine lv_icmp_eq (tgt := 336) hx hb dL_law_331 (by decide) (fun _ => ?_) (fun h9 => absurd rfl h9)
    refine lv_iload hx hb dL_law_336 (lv_at hl 1 rfl) ?_
    refine lv_if_ne (tgt := 360) hx hb dL_law_338 (by decide) (fun _ => ?_) (fun h9 => absurd h9 (by decide))
    refine lv_goto (tgt := 663) hx hb dL_law_360 (by decide) ?_
    refine W.widen (k := cells + 1) (n := slots + 6) (by omega) (by omega) ?_
    exact kk N D S H locs ls ⟨⟨h1, h2, hz⟩, ⟨_, hPw⟩, ⟨_, hPm⟩, hS⟩ (lv_sub hl [2, 3, 4, 5, 6] rfl)
  · refine lv_aload_n hx hb dL_law_272 rfl (lv_at hl 2 rfl) ?_
    refine lv_aload_n hx hb dL_law_273 rfl (lv_at hl 1 rfl) ?_
    refine lv_iload hx hb dL_law_274 (lv_at hl 0 rfl) ?_
    refine lv_iconst (v := 1) hx hb dL_law_276 (by decide) ?_
    refine lv_iadd hx hb dL_law_277 ?_
    refine cl_asi (nI_add i 1) ?_
    refine cl_sld hx hb hX hbl hbA hS (show i + 1 < L by omega) (by omega) dL_law_278 ?_
    rw [e1]
    refine lv_aload_n hx hb dL_law_279 rfl (lv_at hl 1 rfl) ?_
    refine lv_iload hx hb dL_law_280 (lv_at hl 0 rfl) ?_
    refine lv_iconst (v := 2) hx hb dL_law_282 (by decide) ?_
    refine lv_iadd hx hb dL_law_283 ?_
    refine cl_asi (nI_add i 2) ?_
    refine cl_sld hx hb hX hbl hbA hS (show i + 2 < L by omega) (by omega) dL_law_284 ?_
    refine lv_if_eq (tgt := 292) hx hb dL_law_285 (by decide) (fun _ => ?_) (fun h9 => absurd hbb h9)
    refine lv_iconst (v := 0) hx hb dL_law_292 (by decide) ?_
    refine lv_aload_n hx hb dL_law_293 rfl (lv_at hl 4 rfl) ?_
    refine lk_call (xt_runSW (As := [.ref h, .int (nI k), .int 0, .ref o]) (rest := []) ⟨hx, hb, hml, hown, hts⟩ (w_clean l dC dI h a cI N (pf_ D S) o cJ g hne ho k 0 h1 h2 hk) (lk_cw 4 hts gL_law_L_clean rfl rfl rfl (by decide +kernel) ⟨Nat.le_of_ble_eq_true rfl, Nat.le_of_ble_eq_true rfl⟩) (lk_preS (hK.sub (tys' := [(cI, .int), (cJ, .long)]) [0, 1] rfl) hPw) rfl rfl hl.1 rfl (lv_room (Nat.le_of_ble_eq_true rfl)) dL_law_294 ⟨by show _ ≤ 1036; omega, by show _ ≤ 9771; omega⟩) hS hgx hPm (lp_m hdj) (fun H locs hPw hPm hS => ?_)
    have hPw : va_P (dC, dI) vwCl (wr_w h a cI (nI N) (cb_cl (pf_ D S) k 0) o cJ (vp_updL g 0 (if (if pf_ D S k &&& 1 = 0 then (0 : Int32) else 1) = 0 then (0 : Int64) else 1))) H := hPw
    refine lv_istore (lv' := [(5, .int 0), (4, .int (nI i)), (0, .ref b), (1, .ref h), (2, .ref q), (3, .ref o)]) hx hb dL_law_297 hl (by decide) rfl (fun ls hl => ?_)
    refine lv_aload_n hx hb dL_law_299 rfl (lv_at hl 4 rfl) ?_
    refine lv_aload_n hx hb dL_law_300 rfl (lv_at hl 2 rfl) ?_
    refine lv_iload hx hb dL_law_301 (lv_at hl 1 rfl) ?_
    refine lv_iconst (v := 1) hx hb dL_law_303 (by decide) ?_
    refine lv_iadd hx hb dL_law_304 ?_
    refine cl_asi (nI_add i 1) ?_
    refine cl_sld hx hb hX hbl hbA hS (show i + 1 < L by omega) (by omega) dL_law_305 ?_
    rw [e1]
    refine lv_aload_n hx hb dL_law_306 rfl (lv_at hl 2 rfl) ?_
    refine lv_iload hx hb dL_law_307 (lv_at hl 1 rfl) ?_
    refine lv_iconst (v := 2) hx hb dL_law_309 (by decide) ?_
    refine lv_iadd hx hb dL_law_310 ?_
    refine cl_asi (nI_add i 2) ?_
    refine cl_sld hx hb hX hbl hbA hS (show i + 2 < L by omega) (by omega) dL_law_311 ?_
    refine lv_if_eq (tgt := 319) hx hb dL_law_312 (by decide) (fun _ => ?_) (fun h9 => absurd hbb h9)
    refine lv_iconst (v := 0) hx hb dL_law_319 (by decide) ?_
    refine lk_call (va_runV (As := [.int (nI k), .int (md_b false)]) (rest := []) ⟨hx, hb, hml, hown, hts0⟩ (c1_clean l dC dI q qa qb cY cZ t N D S k false h1 h2 hk hmn) (cwV 2 hts0 gL_law_X1_clean rfl rfl rfl (by decide +kernel) ⟨Nat.le_of_ble_eq_true rfl, Nat.le_of_ble_eq_true rfl⟩) (md_preV (hK.sub (tys' := [(cY, .boolean), (cZ, .boolean)]) [2, 3] rfl) hPm [.int (nI k), .int (md_b false)]) rfl rfl hl.1 rfl (lv_room (Nat.le_of_ble_eq_true rfl)) dL_law_320 ⟨by show _ ≤ 1036; omega, by show _ ≤ 9771; omega⟩) hS hgm hPw (lp_x hdj) (fun H locs hPm hPw hS => ?_)
    have hPm : va_P (dC, dI) vwCl (md_w q qa qb cY cZ 0 (nI N) (md_u D k false) (md_u S k (S k || (D k && false)))) H := hPm
    refine lv_istore (lv' := [(6, .int (md_b (D k))), (5, .int 0), (4, .int (nI i)), (0, .ref b), (1, .ref h), (2, .ref q), (3, .ref o)]) hx hb dL_law_323 hl (by decide) rfl (fun ls hl => ?_)
    refine lv_aload_n hx hb dL_law_325 rfl (lv_at hl 5 rfl) ?_
    refine cl_calli (W.runV (As := []) (rest := []) ⟨hx, hb, hml, hown, hts⟩ (c1_thrown l dC dI q qa qb cY cZ 0 N (md_u D k false) (md_u S k (S k || (D k && false)))) (cwV 0 hts gL_law_X1_thrown rfl rfl rfl (by decide +kernel) ⟨Nat.le_of_ble_eq_true rfl, Nat.le_of_ble_eq_true rfl⟩) (md_preV (hK.sub (tys' := [(cY, .boolean), (cZ, .boolean)]) [2, 3] rfl) hPm []) rfl rfl hl.1 rfl (lv_room (Nat.le_of_ble_eq_true rfl)) dL_law_326 ⟨by show _ ≤ 1036; omega, by show _ ≤ 9771; omega⟩) ?_
    refine lv_iload hx hb dL_law_329 (lv_at hl 1 rfl) ?_
    refine lv_icmp_eq (tgt := 336) hx hb dL_law_331 (by decide) (fun _ => ?_) (fun h9 => absurd rfl h9)
    refine lv_iload hx hb dL_law_336 (lv_at hl 1 rfl) ?_
    refine lv_if_ne (tgt := 360) hx hb dL_law_338 (by decide) (fun h9 => absurd rfl h9) (fun _ => ?_)
    refine lv_aload_n hx hb dL_law_341 rfl (lv_at hl 6 rfl) ?_
    refine lv_iconst (v := 0) hx hb dL_law_342 (by decide) ?_
    rw [show cb_cl (pf_ D S) k 0 = cb_cl (pf_ D S) k (md_b false) from rfl, pu_clean, pu_r1] at hPw
    refine lk_out (v := (if (md_b (D k)) = 0 then (0 : Int64) else 1)) hx hb hK rfl hPw dL_law_343 ?_
    refine lv_iload hx hb dL_law_344 (lv_at hl 0 rfl) ?_
    refine lv_if_eq (tgt := 353) hx hb dL_law_346 (by decide) (fun hc => ?_) (fun hc => ?_)
    · refine lv_lconst (v := 0) hx hb dL_law_353 (by decide) ?_
      refine W.lcmp hx hb dL_law_354 ?_
      refine cl_asi (y := 0) (by rw [if_pos hc]; exact lk_cmp _) ?_
      refine lv_if_eq (tgt := 360) hx hb dL_law_355 (by decide) (fun _ => ?_) (fun h9 => absurd rfl h9)
      refine lv_goto (tgt := 663) hx hb dL_law_360 (by decide) ?_
      refine W.widen (k := cells + 1) (n := slots + 6) (by omega) (by omega) ?_
      exact kk N (md_u D k false) (md_u S k (S k || (D k && false))) H locs ls ⟨⟨h1, h2, pz_u hz hk⟩, ⟨_, hPw⟩, ⟨_, hPm⟩, hS⟩ (lv_sub hl [2, 3, 4, 5, 6] rfl)
    · refine lv_lconst (v := 1) hx hb dL_law_349 (by decide) ?_
      refine lv_goto (tgt := 354) hx hb dL_law_350 (by decide) ?_
      refine W.lcmp hx hb dL_law_354 ?_
      refine cl_asi (y := 0) (by rw [if_neg hc]; exact lk_cmp _) ?_
      refine lv_if_eq (tgt := 360) hx hb dL_law_355 (by decide) (fun _ => ?_) (fun h9 => absurd rfl h9)
      refine lv_goto (tgt := 663) hx hb dL_law_360 (by decide) ?_
      refine W.widen (k := cells + 1) (n := slots + 6) (by omega) (by omega) ?_
      exact kk N (md_u D k false) (md_u S k (S k || (D k && false))) H locs ls ⟨⟨h1, h2, pz_u hz hk⟩, ⟨_, hPw⟩, ⟨_, hPm⟩, hS⟩ (lv_sub hl [2, 3, 4, 5, 6] rfl)
set_option maxHeartbeats 4000000 in
set_option maxRecDepth 100000 in
/-- the law's case clean -/
theorem lc_clean1 {p : Program} {l : Launch} {e : Env} {s : State} {m : MethodId} {below : List Frame} {meth : Method} {c : Code} {dC : Nat → ClassId} {dI : Nat → Nat → Nat} {b L : Nat} {xs : Nat → Int32} {h a o q qa qb : Nat} {cI cJ cY cZ : ClassId} (hst : l.stackTraces = false) (hL : L ≤ 1536) (C0 : lw_At p s m meth c b L xs) (K0 : lp_K s (dC, dI) h a o q qa qb cI cJ cY cZ) {N i cells slots : Nat} {D S : Nat → Bool} {H : Heap} {locs : List Loc} {ls : Array Slot} (hi : i + 3 ≤ L) (hbb : ¬ xs (i + 2) = 0) (hcl : cells + 1 ≤ 1036) (hsl : slots + 6 ≤ 9771) (V0 : lp_V s (dC, dI) h a o q qa qb cI cJ cY cZ N D S H locs) (hl : lv_has ls 7 [(4, .int (nI i)), (0, .ref b), (1, .ref h), (2, .ref q), (3, .ref o)])
    (kk : ∀ (N : Nat) (D S : Nat → Bool) (H : Heap) (locs : List Loc) (ls : Array Slot), lp_V s (dC, dI) h a o q qa qb cI cJ cY cZ N D S H locs → lv_has ls 7 [(4, .int (nI i)), (0, .ref b), (1, .ref h), (2, .ref q), (3, .ref o)] → W p l e room_1 s m #[Value.ref b] below meth c H locs (cells + 1) (slots + 6) (lw_Z below #[Value.ref b] s) (F0 m 663 ls [])) : W p l e room_1 s m #[Value.ref b] below meth c H locs cells slots (lw_Z below #[Value.ref b] s) (F0 m 272 ls []) := by
  obtain ⟨hx, hb, hr, hml, hown, hts0, hX, hbl, hlocks, hgv⟩ := C0
  have hts : ∀ w ∈ wsL_law, w.before #[Value.ref b] s = true := fun w h9 => hts0 w (wsL_law_in w h9)
  obtain ⟨hK, hJ, ⟨hne, ho, hmn⟩, hdj, hgx, hgm⟩ := K0
  obtain ⟨⟨h1, h2, hz⟩, ⟨g, hPw⟩, ⟨t, hPm⟩, hS⟩ := V0
  have hbA : ¬ (fun x : Nat => s.heap.size ≤ x) b := Nat.not_le.mpr hbl
  rcases ix_below (xs (i + 1)) (n := cb_cc N) (by have := cb_cc_le h2; omega) with hbad | ⟨k, hk, e1⟩
  · refine lv_aload_n hx hb dL_law_272 rfl (lv_at hl 2 rfl) ?_
    refine lv_aload_n hx hb dL_law_273 rfl (lv_at hl 1 rfl) ?_
    refine lv_iload hx hb dL_law_274 (lv_at hl 0 rfl) ?_
    refine lv_iconst (v := 1) hx hb dL_law_276 (by decide) ?_
    refine lv_iadd hx hb dL_law_277 ?_
    refine cl_asi (nI_add i 1) ?_
    refine cl_sld hx hb hX hbl hbA hS (show i + 1 < L by omega) (by omega) dL_law_278 ?_
    refine lv_aload_n hx hb dL_law_279 rfl (lv_at hl 1 rfl) ?_
    refine lv_iload hx hb dL_law_280 (lv_at hl 0 rfl) ?_
    refine lv_iconst (v := 2) hx hb dL_law_282 (by decide) ?_
    refine lv_iadd hx hb dL_law_283 ?_
    refine cl_asi (nI_add i 2) ?_
    refine cl_sld hx hb hX hbl hbA hS (show i + 2 < L by omega) (by omega) dL_law_284 ?_
    refine lv_if_eq (tgt := 292) hx hb dL_law_285 (by decide) (fun h9 => absurd h9 hbb) (fun _ => ?_)
    refine lv_iconst (v := 1) hx hb dL_law_288 (by decide) ?_
    refine lv_goto (tgt := 293) hx hb dL_law_289 (by decide) ?_
    refine lv_aload_n hx hb dL_law_293 rfl (lv_at hl 4 rfl) ?_
    refine lk_same (xt_runSW (As := [.ref h, .int (xs (i + 1)), .int 1, .ref o]) (rest := []) ⟨hx, hb, hml, hown, hts⟩ (v_clean l hst dC dI h a cI N (pf_ D S) o cJ g (xs (i + 1)) 1 h1 h2 hbad) (lk_cw 4 hts gL_law_L_clean rfl rfl rfl (by decide +kernel) ⟨Nat.le_of_ble_eq_true rfl, Nat.le_of_ble_eq_true rfl⟩) (lk_preT hJ hS (hK.sub (tys' := [(cI, .int), (cJ, .long)]) [0, 1] rfl) hPw) rfl rfl hl.1 rfl (lv_room (Nat.le_of_ble_eq_true rfl)) dL_law_294 ⟨by show _ ≤ 1036; omega, by show _ ≤ 9771; omega⟩) hS hPw hPm (fun H locs hPw hPm hS => ?_)
    refine lv_istore (lv' := [(5, .int 1), (4, .int (nI i)), (0, .ref b), (1, .ref h), (2, .ref q), (3, .ref o)]) hx hb dL_law_297 hl (by decide) rfl (fun ls hl => ?_)
    refine lv_aload_n hx hb dL_law_299 rfl (lv_at hl 4 rfl) ?_
    refine lv_aload_n hx hb dL_law_300 rfl (lv_at hl 2 rfl) ?_
    refine lv_iload hx hb dL_law_301 (lv_at hl 1 rfl) ?_
    refine lv_iconst (v := 1) hx hb dL_law_303 (by decide) ?_
    refine lv_iadd hx hb dL_law_304 ?_
    refine cl_asi (nI_add i 1) ?_
    refine cl_sld hx hb hX hbl hbA hS (show i + 1 < L by omega) (by omega) dL_law_305 ?_
    refine lv_aload_n hx hb dL_law_306 rfl (lv_at hl 2 rfl) ?_
    refine lv_iload hx hb dL_law_307 (lv_at hl 1 rfl) ?_
    refine lv_iconst (v := 2) hx hb dL_law_309 (by decide) ?_
    refine lv_iadd hx hb dL_law_310 ?_
    refine cl_asi (nI_add i 2) ?_
    refine cl_sld hx hb hX hbl hbA hS (show i + 2 < L by omega) (by omega) dL_law_311 ?_
    refine lv_if_eq (tgt := 319) hx hb dL_law_312 (by decide) (fun h9 => absurd h9 hbb) (fun _ => ?_)
    refine lv_iconst (v := 1) hx hb dL_law_315 (by decide) ?_
    refine lv_goto (tgt := 320) hx hb dL_law_316 (by decide) ?_
    refine lk_call (va_runV (As := [.int (xs (i + 1)), .int 1]) (rest := []) ⟨hx, hb, hml, hown, hts0⟩ (e1_clean l dC dI q qa qb cY cZ t N D S (xs (i + 1)) 1 h1 h2 hbad hmn) (cwV 2 hts0 gL_law_X1_clean rfl rfl rfl (by decide +kernel) ⟨Nat.le_of_ble_eq_true rfl, Nat.le_of_ble_eq_true rfl⟩) (md_preV (hK.sub (tys' := [(cY, .boolean), (cZ, .boolean)]) [2, 3] rfl) hPm [.int (xs (i + 1)), .int 1]) rfl rfl hl.1 rfl (lv_room (Nat.le_of_ble_eq_true rfl)) dL_law_320 ⟨by show _ ≤ 1036; omega, by show _ ≤ 9771; omega⟩) hS hgm hPw (lp_x hdj) (fun H locs hPm hPw hS => ?_)
    have hPm : va_P (dC, dI) vwCl (md_w q qa qb cY cZ 1 (nI N) D S) H := hPm
    refine lv_istore (lv' := [(6, .int (0 : Int32)), (5, .int 1), (4, .int (nI i)), (0, .ref b), (1, .ref h), (2, .ref q), (3, .ref o)]) hx hb dL_law_323 hl (by decide) rfl (fun ls hl => ?_)
    refine lv_aload_n hx hb dL_law_325 rfl (lv_at hl 5 rfl) ?_
    refine cl_calli (W.runV (As := []) (rest := []) ⟨hx, hb, hml, hown, hts⟩ (c1_thrown l dC dI q qa qb cY cZ 1 N D S) (cwV 0 hts gL_law_X1_thrown rfl rfl rfl (by decide +kernel) ⟨Nat.le_of_ble_eq_true rfl, Nat.le_of_ble_eq_true rfl⟩) (md_preV (hK.sub (tys' := [(cY, .boolean), (cZ, .boolean)]) [2, 3] rfl) hPm []) rfl rfl hl.1 rfl (lv_room (Nat.le_of_ble_eq_true rfl)) dL_law_326 ⟨by show _ ≤ 1036; omega, by show _ ≤ 9771; omega⟩) ?_
    refine lv_iload hx hb dL_law_329 (lv_at hl 1 rfl) ?_
    refine lv_icmp_eq (tgt := 336) hx hb dL_law_331 (by decide) (fun _ => ?_) (fun h9 => absurd rfl h9)
    refine lv_iload hx hb dL_law_336 (lv_at hl 1 rfl) ?_
    refine lv_if_ne (tgt := 360) hx hb dL_law_338 (by decide) (fun _ => ?_) (fun h9 => absurd h9 (by decide))
    refine lv_goto (tgt := 663) hx hb dL_law_360 (by decide) ?_
    refine W.widen (k := cells + 1) (n := slots + 6) (by omega) (by omega) ?_
    exact kk N D S H locs ls ⟨⟨h1, h2, hz⟩, ⟨_, hPw⟩, ⟨_, hPm⟩, hS⟩ (lv_sub hl [2, 3, 4, 5, 6] rfl)
  · refine lv_aload_n hx hb dL_law_272 rfl (lv_at hl 2 rfl) ?_
    refine lv_aload_n hx hb dL_law_273 rfl (lv_at hl 1 rfl) ?_
    refine lv_iload hx hb dL_law_274 (lv_at hl 0 rfl) ?_
    refine lv_iconst (v := 1) hx hb dL_law_276 (by decide) ?_
    refine lv_iadd hx hb dL_law_277 ?_
    refine cl_asi (nI_add i 1) ?_
    refine cl_sld hx hb hX hbl hbA hS (show i + 1 < L by omega) (by omega) dL_law_278 ?_
    rw [e1]
    refine lv_aload_n hx hb dL_law_279 rfl (lv_at hl 1 rfl) ?_
    refine lv_iload hx hb dL_law_280 (lv_at hl 0 rfl) ?_
    refine lv_iconst (v := 2) hx hb dL_law_282 (by decide) ?_
    refine lv_iadd hx hb dL_law_283 ?_
    refine cl_asi (nI_add i 2) ?_
    refine cl_sld hx hb hX hbl hbA hS (show i + 2 < L by omega) (by omega) dL_law_284 ?_
    refine lv_if_eq (tgt := 292) hx hb dL_law_285 (by decide) (fun h9 => absurd h9 hbb) (fun _ => ?_)
    refine lv_iconst (v := 1) hx hb dL_law_288 (by decide) ?_
    refine lv_goto (tgt := 293) hx hb dL_law_289 (by decide) ?_
    refine lv_aload_n hx hb dL_law_293 rfl (lv_at hl 4 rfl) ?_
    refine lk_call (xt_runSW (As := [.ref h, .int (nI k), .int 1, .ref o]) (rest := []) ⟨hx, hb, hml, hown, hts⟩ (w_clean l dC dI h a cI N (pf_ D S) o cJ g hne ho k 1 h1 h2 hk) (lk_cw 4 hts gL_law_L_clean rfl rfl rfl (by decide +kernel) ⟨Nat.le_of_ble_eq_true rfl, Nat.le_of_ble_eq_true rfl⟩) (lk_preS (hK.sub (tys' := [(cI, .int), (cJ, .long)]) [0, 1] rfl) hPw) rfl rfl hl.1 rfl (lv_room (Nat.le_of_ble_eq_true rfl)) dL_law_294 ⟨by show _ ≤ 1036; omega, by show _ ≤ 9771; omega⟩) hS hgx hPm (lp_m hdj) (fun H locs hPw hPm hS => ?_)
    have hPw : va_P (dC, dI) vwCl (wr_w h a cI (nI N) (cb_cl (pf_ D S) k 1) o cJ (vp_updL g 0 (if (if pf_ D S k &&& 1 = 0 then (0 : Int32) else 1) = 0 then (0 : Int64) else 1))) H := hPw
    refine lv_istore (lv' := [(5, .int 0), (4, .int (nI i)), (0, .ref b), (1, .ref h), (2, .ref q), (3, .ref o)]) hx hb dL_law_297 hl (by decide) rfl (fun ls hl => ?_)
    refine lv_aload_n hx hb dL_law_299 rfl (lv_at hl 4 rfl) ?_
    refine lv_aload_n hx hb dL_law_300 rfl (lv_at hl 2 rfl) ?_
    refine lv_iload hx hb dL_law_301 (lv_at hl 1 rfl) ?_
    refine lv_iconst (v := 1) hx hb dL_law_303 (by decide) ?_
    refine lv_iadd hx hb dL_law_304 ?_
    refine cl_asi (nI_add i 1) ?_
    refine cl_sld hx hb hX hbl hbA hS (show i + 1 < L by omega) (by omega) dL_law_305 ?_
    rw [e1]
    refine lv_aload_n hx hb dL_law_306 rfl (lv_at hl 2 rfl) ?_
    refine lv_iload hx hb dL_law_307 (lv_at hl 1 rfl) ?_
    refine lv_iconst (v := 2) hx hb dL_law_309 (by decide) ?_
    refine lv_iadd hx hb dL_law_310 ?_
    refine cl_asi (nI_add i 2) ?_
    refine cl_sld hx hb hX hbl hbA hS (show i + 2 < L by omega) (by omega) dL_law_311 ?_
    refine lv_if_eq (tgt := 319) hx hb dL_law_312 (by decide) (fun h9 => absurd h9 hbb) (fun _ => ?_)
    refine lv_iconst (v := 1) hx hb dL_law_315 (by decide) ?_
    refine lv_goto (tgt := 320) hx hb dL_law_316 (by decide) ?_
    refine lk_call (va_runV (As := [.int (nI k), .int (md_b true)]) (rest := []) ⟨hx, hb, hml, hown, hts0⟩ (c1_clean l dC dI q qa qb cY cZ t N D S k true h1 h2 hk hmn) (cwV 2 hts0 gL_law_X1_clean rfl rfl rfl (by decide +kernel) ⟨Nat.le_of_ble_eq_true rfl, Nat.le_of_ble_eq_true rfl⟩) (md_preV (hK.sub (tys' := [(cY, .boolean), (cZ, .boolean)]) [2, 3] rfl) hPm [.int (nI k), .int (md_b true)]) rfl rfl hl.1 rfl (lv_room (Nat.le_of_ble_eq_true rfl)) dL_law_320 ⟨by show _ ≤ 1036; omega, by show _ ≤ 9771; omega⟩) hS hgm hPw (lp_x hdj) (fun H locs hPm hPw hS => ?_)
    have hPm : va_P (dC, dI) vwCl (md_w q qa qb cY cZ 0 (nI N) (md_u D k false) (md_u S k (S k || (D k && true)))) H := hPm
    refine lv_istore (lv' := [(6, .int (md_b (D k))), (5, .int 0), (4, .int (nI i)), (0, .ref b), (1, .ref h), (2, .ref q), (3, .ref o)]) hx hb dL_law_323 hl (by decide) rfl (fun ls hl => ?_)
    refine lv_aload_n hx hb dL_law_325 rfl (lv_at hl 5 rfl) ?_
    refine cl_calli (W.runV (As := []) (rest := []) ⟨hx, hb, hml, hown, hts⟩ (c1_thrown l dC dI q qa qb cY cZ 0 N (md_u D k false) (md_u S k (S k || (D k && true)))) (cwV 0 hts gL_law_X1_thrown rfl rfl rfl (by decide +kernel) ⟨Nat.le_of_ble_eq_true rfl, Nat.le_of_ble_eq_true rfl⟩) (md_preV (hK.sub (tys' := [(cY, .boolean), (cZ, .boolean)]) [2, 3] rfl) hPm []) rfl rfl hl.1 rfl (lv_room (Nat.le_of_ble_eq_true rfl)) dL_law_326 ⟨by show _ ≤ 1036; omega, by show _ ≤ 9771; omega⟩) ?_
    refine lv_iload hx hb dL_law_329 (lv_at hl 1 rfl) ?_
    refine lv_icmp_eq (tgt := 336) hx hb dL_law_331 (by decide) (fun _ => ?_) (fun h9 => absurd rfl h9)
    refine lv_iload hx hb dL_law_336 (lv_at hl 1 rfl) ?_
    refine lv_if_ne (tgt := 360) hx hb dL_law_338 (by decide) (fun h9 => absurd rfl h9) (fun _ => ?_)
    refine lv_aload_n hx hb dL_law_341 rfl (lv_at hl 6 rfl) ?_
    refine lv_iconst (v := 0) hx hb dL_law_342 (by decide) ?_
    rw [show cb_cl (pf_ D S) k 1 = cb_cl (pf_ D S) k (md_b true) from rfl, pu_clean, pu_r1] at hPw
    refine lk_out (v := (if (md_b (D k)) = 0 then (0 : Int64) else 1)) hx hb hK rfl hPw dL_law_343 ?_
    refine lv_iload hx hb dL_law_344 (lv_at hl 0 rfl) ?_
    refine lv_if_eq (tgt := 353) hx hb dL_law_346 (by decide) (fun hc => ?_) (fun hc => ?_)
    · refine lv_lconst (v := 0) hx hb dL_law_353 (by decide) ?_
      refine W.lcmp hx hb dL_law_354 ?_
      refine cl_asi (y := 0) (by rw [if_pos hc]; exact lk_cmp _) ?_
      refine lv_if_eq (tgt := 360) hx hb dL_law_355 (by decide) (fun _ => ?_) (fun h9 => absurd rfl h9)
      refine lv_goto (tgt := 663) hx hb dL_law_360 (by decide) ?_
      refine W.widen (k := cells + 1) (n := slots + 6) (by omega) (by omega) ?_
      exact kk N (md_u D k false) (md_u S k (S k || (D k && true))) H locs ls ⟨⟨h1, h2, pz_u hz hk⟩, ⟨_, hPw⟩, ⟨_, hPm⟩, hS⟩ (lv_sub hl [2, 3, 4, 5, 6] rfl)
    · refine lv_lconst (v := 1) hx hb dL_law_349 (by decide) ?_
      refine lv_goto (tgt := 354) hx hb dL_law_350 (by decide) ?_
      refine W.lcmp hx hb dL_law_354 ?_
      refine cl_asi (y := 0) (by rw [if_neg hc]; exact lk_cmp _) ?_
      refine lv_if_eq (tgt := 360) hx hb dL_law_355 (by decide) (fun _ => ?_) (fun h9 => absurd rfl h9)
      refine lv_goto (tgt := 663) hx hb dL_law_360 (by decide) ?_
      refine W.widen (k := cells + 1) (n := slots + 6) (by omega) (by omega) ?_
      exact kk N (md_u D k false) (md_u S k (S k || (D k && true))) H locs ls ⟨⟨h1, h2, pz_u hz hk⟩, ⟨_, hPw⟩, ⟨_, hPm⟩, hS⟩ (lv_sub hl [2, 3, 4, 5, 6] rfl)
set_option maxHeartbeats 4000000 in
set_option maxRecDepth 100000 in
/-- the law's case unsave -/
theorem lc_unsave {p : Program} {l : Launch} {e : Env} {s : State} {m : MethodId} {below : List Frame} {meth : Method} {c : Code} {dC : Nat → ClassId} {dI : Nat → Nat → Nat} {b L : Nat} {xs : Nat → Int32} {h a o q qa qb : Nat} {cI cJ cY cZ : ClassId} (hst : l.stackTraces = false) (hL : L ≤ 1536) (C0 : lw_At p s m meth c b L xs) (K0 : lp_K s (dC, dI) h a o q qa qb cI cJ cY cZ) {N i cells slots : Nat} {D S : Nat → Bool} {H : Heap} {locs : List Loc} {ls : Array Slot} (hi : i + 3 ≤ L) (hcl : cells + 1 ≤ 1036) (hsl : slots + 6 ≤ 9771) (V0 : lp_V s (dC, dI) h a o q qa qb cI cJ cY cZ N D S H locs) (hl : lv_has ls 7 [(4, .int (nI i)), (0, .ref b), (1, .ref h), (2, .ref q), (3, .ref o)])
    (kk : ∀ (N : Nat) (D S : Nat → Bool) (H : Heap) (locs : List Loc) (ls : Array Slot), lp_V s (dC, dI) h a o q qa qb cI cJ cY cZ N D S H locs → lv_has ls 7 [(4, .int (nI i)), (0, .ref b), (1, .ref h), (2, .ref q), (3, .ref o)] → W p l e room_1 s m #[Value.ref b] below meth c H locs (cells + 1) (slots + 6) (lw_Z below #[Value.ref b] s) (F0 m 663 ls [])) : W p l e room_1 s m #[Value.ref b] below meth c H locs cells slots (lw_Z below #[Value.ref b] s) (F0 m 363 ls []) := by
  obtain ⟨hx, hb, hr, hml, hown, hts0, hX, hbl, hlocks, hgv⟩ := C0
  have hts : ∀ w ∈ wsL_law, w.before #[Value.ref b] s = true := fun w h9 => hts0 w (wsL_law_in w h9)
  obtain ⟨hK, hJ, ⟨hne, ho, hmn⟩, hdj, hgx, hgm⟩ := K0
  obtain ⟨⟨h1, h2, hz⟩, ⟨g, hPw⟩, ⟨t, hPm⟩, hS⟩ := V0
  have hbA : ¬ (fun x : Nat => s.heap.size ≤ x) b := Nat.not_le.mpr hbl
  rcases ix_below (xs (i + 1)) (n := cb_cc N) (by have := cb_cc_le h2; omega) with hbad | ⟨k, hk, e1⟩
  · refine lv_aload_n hx hb dL_law_363 rfl (lv_at hl 2 rfl) ?_
    refine lv_aload_n hx hb dL_law_364 rfl (lv_at hl 1 rfl) ?_
    refine lv_iload hx hb dL_law_365 (lv_at hl 0 rfl) ?_
    refine lv_iconst (v := 1) hx hb dL_law_367 (by decide) ?_
    refine lv_iadd hx hb dL_law_368 ?_
    refine cl_asi (nI_add i 1) ?_
    refine cl_sld hx hb hX hbl hbA hS (show i + 1 < L by omega) (by omega) dL_law_369 ?_
    refine lv_aload_n hx hb dL_law_370 rfl (lv_at hl 4 rfl) ?_
    refine lk_same (xt_runSW (As := [.ref h, .int (xs (i + 1)), .ref o]) (rest := []) ⟨hx, hb, hml, hown, hts⟩ (v_unsave l hst dC dI h a cI N (pf_ D S) o cJ g (xs (i + 1)) h1 h2 hbad) (lk_cw 3 hts gL_law_L_unsave rfl rfl rfl (by decide +kernel) ⟨Nat.le_of_ble_eq_true rfl, Nat.le_of_ble_eq_true rfl⟩) (lk_preT hJ hS (hK.sub (tys' := [(cI, .int), (cJ, .long)]) [0, 1] rfl) hPw) rfl rfl hl.1 rfl (lv_room (Nat.le_of_ble_eq_true rfl)) dL_law_371 ⟨by show _ ≤ 1036; omega, by show _ ≤ 9771; omega⟩) hS hPw hPm (fun H locs hPw hPm hS => ?_)
    refine lv_istore (lv' := [(5, .int 1), (4, .int (nI i)), (0, .ref b), (1, .ref h), (2, .ref q), (3, .ref o)]) hx hb dL_law_374 hl (by decide) rfl (fun ls hl => ?_)
    refine lv_aload_n hx hb dL_law_376 rfl (lv_at hl 4 rfl) ?_
    refine lv_aload_n hx hb dL_law_377 rfl (lv_at hl 2 rfl) ?_
    refine lv_iload hx hb dL_law_378 (lv_at hl 1 rfl) ?_
    refine lv_iconst (v := 1) hx hb dL_law_380 (by decide) ?_
    refine lv_iadd hx hb dL_law_381 ?_
    refine cl_asi (nI_add i 1) ?_
    refine cl_sld hx hb hX hbl hbA hS (show i + 1 < L by omega) (by omega) dL_law_382 ?_
    refine lk_call (va_runV (As := [.int (xs (i + 1))]) (rest := []) ⟨hx, hb, hml, hown, hts0⟩ (e1_unsave l dC dI q qa qb cY cZ t N D S (xs (i + 1)) h1 h2 hbad hmn) (cwV 1 hts0 gL_law_X1_unsave rfl rfl rfl (by decide +kernel) ⟨Nat.le_of_ble_eq_true rfl, Nat.le_of_ble_eq_true rfl⟩) (md_preV (hK.sub (tys' := [(cY, .boolean), (cZ, .boolean)]) [2, 3] rfl) hPm [.int (xs (i + 1))]) rfl rfl hl.1 rfl (lv_room (Nat.le_of_ble_eq_true rfl)) dL_law_383 ⟨by show _ ≤ 1036; omega, by show _ ≤ 9771; omega⟩) hS hgm hPw (lp_x hdj) (fun H locs hPm hPw hS => ?_)
    have hPm : va_P (dC, dI) vwCl (md_w q qa qb cY cZ 1 (nI N) D S) H := hPm
    refine lv_istore (lv' := [(6, .int (0 : Int32)), (5, .int 1), (4, .int (nI i)), (0, .ref b), (1, .ref h), (2, .ref q), (3, .ref o)]) hx hb dL_law_386 hl (by decide) rfl (fun ls hl => ?_)
    refine lv_aload_n hx hb dL_law_388 rfl (lv_at hl 5 rfl) ?_
    refine cl_calli (W.runV (As := []) (rest := []) ⟨hx, hb, hml, hown, hts⟩ (c1_thrown l dC dI q qa qb cY cZ 1 N D S) (cwV 0 hts gL_law_X1_thrown rfl rfl rfl (by decide +kernel) ⟨Nat.le_of_ble_eq_true rfl, Nat.le_of_ble_eq_true rfl⟩) (md_preV (hK.sub (tys' := [(cY, .boolean), (cZ, .boolean)]) [2, 3] rfl) hPm []) rfl rfl hl.1 rfl (lv_room (Nat.le_of_ble_eq_true rfl)) dL_law_389 ⟨by show _ ≤ 1036; omega, by show _ ≤ 9771; omega⟩) ?_
    refine lv_iload hx hb dL_law_392 (lv_at hl 1 rfl) ?_
    refine lv_icmp_eq (tgt := 399) hx hb dL_law_394 (by decide) (fun _ => ?_) (fun h9 => absurd rfl h9)
    refine lv_iload hx hb dL_law_399 (lv_at hl 1 rfl) ?_
    refine lv_if_ne (tgt := 423) hx hb dL_law_401 (by decide) (fun _ => ?_) (fun h9 => absurd h9 (by decide))
    refine lv_goto (tgt := 663) hx hb dL_law_423 (by decide) ?_
    refine W.widen (k := cells + 1) (n := slots + 6) (by omega) (by omega) ?_
    exact kk N D S H locs ls ⟨⟨h1, h2, hz⟩, ⟨_, hPw⟩, ⟨_, hPm⟩, hS⟩ (lv_sub hl [2, 3, 4, 5, 6] rfl)
  · refine lv_aload_n hx hb dL_law_363 rfl (lv_at hl 2 rfl) ?_
    refine lv_aload_n hx hb dL_law_364 rfl (lv_at hl 1 rfl) ?_
    refine lv_iload hx hb dL_law_365 (lv_at hl 0 rfl) ?_
    refine lv_iconst (v := 1) hx hb dL_law_367 (by decide) ?_
    refine lv_iadd hx hb dL_law_368 ?_
    refine cl_asi (nI_add i 1) ?_
    refine cl_sld hx hb hX hbl hbA hS (show i + 1 < L by omega) (by omega) dL_law_369 ?_
    rw [e1]
    refine lv_aload_n hx hb dL_law_370 rfl (lv_at hl 4 rfl) ?_
    refine lk_call (xt_runSW (As := [.ref h, .int (nI k), .ref o]) (rest := []) ⟨hx, hb, hml, hown, hts⟩ (w_unsave l dC dI h a cI N (pf_ D S) o cJ g hne ho k h1 h2 hk) (lk_cw 3 hts gL_law_L_unsave rfl rfl rfl (by decide +kernel) ⟨Nat.le_of_ble_eq_true rfl, Nat.le_of_ble_eq_true rfl⟩) (lk_preS (hK.sub (tys' := [(cI, .int), (cJ, .long)]) [0, 1] rfl) hPw) rfl rfl hl.1 rfl (lv_room (Nat.le_of_ble_eq_true rfl)) dL_law_371 ⟨by show _ ≤ 1036; omega, by show _ ≤ 9771; omega⟩) hS hgx hPm (lp_m hdj) (fun H locs hPw hPm hS => ?_)
    have hPw : va_P (dC, dI) vwCl (wr_w h a cI (nI N) (upd (pf_ D S) k (pf_ D S k &&& (2 ^^^ (-1)))) o cJ (vp_updL g 0 (if (if pf_ D S k &&& 2 = 0 then (0 : Int32) else 1) = 0 then (0 : Int64) else 1))) H := hPw
    refine lv_istore (lv' := [(5, .int 0), (4, .int (nI i)), (0, .ref b), (1, .ref h), (2, .ref q), (3, .ref o)]) hx hb dL_law_374 hl (by decide) rfl (fun ls hl => ?_)
    refine lv_aload_n hx hb dL_law_376 rfl (lv_at hl 4 rfl) ?_
    refine lv_aload_n hx hb dL_law_377 rfl (lv_at hl 2 rfl) ?_
    refine lv_iload hx hb dL_law_378 (lv_at hl 1 rfl) ?_
    refine lv_iconst (v := 1) hx hb dL_law_380 (by decide) ?_
    refine lv_iadd hx hb dL_law_381 ?_
    refine cl_asi (nI_add i 1) ?_
    refine cl_sld hx hb hX hbl hbA hS (show i + 1 < L by omega) (by omega) dL_law_382 ?_
    rw [e1]
    refine lk_call (va_runV (As := [.int (nI k)]) (rest := []) ⟨hx, hb, hml, hown, hts0⟩ (c1_unsave l dC dI q qa qb cY cZ t N D S k h1 h2 hk hmn) (cwV 1 hts0 gL_law_X1_unsave rfl rfl rfl (by decide +kernel) ⟨Nat.le_of_ble_eq_true rfl, Nat.le_of_ble_eq_true rfl⟩) (md_preV (hK.sub (tys' := [(cY, .boolean), (cZ, .boolean)]) [2, 3] rfl) hPm [.int (nI k)]) rfl rfl hl.1 rfl (lv_room (Nat.le_of_ble_eq_true rfl)) dL_law_383 ⟨by show _ ≤ 1036; omega, by show _ ≤ 9771; omega⟩) hS hgm hPw (lp_x hdj) (fun H locs hPm hPw hS => ?_)
    have hPm : va_P (dC, dI) vwCl (md_w q qa qb cY cZ 0 (nI N) D (md_u S k false)) H := hPm
    refine lv_istore (lv' := [(6, .int (md_b (S k))), (5, .int 0), (4, .int (nI i)), (0, .ref b), (1, .ref h), (2, .ref q), (3, .ref o)]) hx hb dL_law_386 hl (by decide) rfl (fun ls hl => ?_)
    refine lv_aload_n hx hb dL_law_388 rfl (lv_at hl 5 rfl) ?_
    refine cl_calli (W.runV (As := []) (rest := []) ⟨hx, hb, hml, hown, hts⟩ (c1_thrown l dC dI q qa qb cY cZ 0 N D (md_u S k false)) (cwV 0 hts gL_law_X1_thrown rfl rfl rfl (by decide +kernel) ⟨Nat.le_of_ble_eq_true rfl, Nat.le_of_ble_eq_true rfl⟩) (md_preV (hK.sub (tys' := [(cY, .boolean), (cZ, .boolean)]) [2, 3] rfl) hPm []) rfl rfl hl.1 rfl (lv_room (Nat.le_of_ble_eq_true rfl)) dL_law_389 ⟨by show _ ≤ 1036; omega, by show _ ≤ 9771; omega⟩) ?_
    refine lv_iload hx hb dL_law_392 (lv_at hl 1 rfl) ?_
    refine lv_icmp_eq (tgt := 399) hx hb dL_law_394 (by decide) (fun _ => ?_) (fun h9 => absurd rfl h9)
    refine lv_iload hx hb dL_law_399 (lv_at hl 1 rfl) ?_
    refine lv_if_ne (tgt := 423) hx hb dL_law_401 (by decide) (fun h9 => absurd rfl h9) (fun _ => ?_)
    refine lv_aload_n hx hb dL_law_404 rfl (lv_at hl 6 rfl) ?_
    refine lv_iconst (v := 0) hx hb dL_law_405 (by decide) ?_
    rw [pu_unsave, pu_r2] at hPw
    refine lk_out (v := (if (md_b (S k)) = 0 then (0 : Int64) else 1)) hx hb hK rfl hPw dL_law_406 ?_
    refine lv_iload hx hb dL_law_407 (lv_at hl 0 rfl) ?_
    refine lv_if_eq (tgt := 416) hx hb dL_law_409 (by decide) (fun hc => ?_) (fun hc => ?_)
    · refine lv_lconst (v := 0) hx hb dL_law_416 (by decide) ?_
      refine W.lcmp hx hb dL_law_417 ?_
      refine cl_asi (y := 0) (by rw [if_pos hc]; exact lk_cmp _) ?_
      refine lv_if_eq (tgt := 423) hx hb dL_law_418 (by decide) (fun _ => ?_) (fun h9 => absurd rfl h9)
      refine lv_goto (tgt := 663) hx hb dL_law_423 (by decide) ?_
      refine W.widen (k := cells + 1) (n := slots + 6) (by omega) (by omega) ?_
      exact kk N D (md_u S k false) H locs ls ⟨⟨h1, h2, pz_s hz hk⟩, ⟨_, hPw⟩, ⟨_, hPm⟩, hS⟩ (lv_sub hl [2, 3, 4, 5, 6] rfl)
    · refine lv_lconst (v := 1) hx hb dL_law_412 (by decide) ?_
      refine lv_goto (tgt := 417) hx hb dL_law_413 (by decide) ?_
      refine W.lcmp hx hb dL_law_417 ?_
      refine cl_asi (y := 0) (by rw [if_neg hc]; exact lk_cmp _) ?_
      refine lv_if_eq (tgt := 423) hx hb dL_law_418 (by decide) (fun _ => ?_) (fun h9 => absurd rfl h9)
      refine lv_goto (tgt := 663) hx hb dL_law_423 (by decide) ?_
      refine W.widen (k := cells + 1) (n := slots + 6) (by omega) (by omega) ?_
      exact kk N D (md_u S k false) H locs ls ⟨⟨h1, h2, pz_s hz hk⟩, ⟨_, hPw⟩, ⟨_, hPm⟩, hS⟩ (lv_sub hl [2, 3, 4, 5, 6] rfl)
set_option maxHeartbeats 4000000 in
set_option maxRecDepth 100000 in
/-- the law's case card -/
theorem lc_card {p : Program} {l : Launch} {e : Env} {s : State} {m : MethodId} {below : List Frame} {meth : Method} {c : Code} {dC : Nat → ClassId} {dI : Nat → Nat → Nat} {b L : Nat} {xs : Nat → Int32} {h a o q qa qb : Nat} {cI cJ cY cZ : ClassId} (hst : l.stackTraces = false) (hL : L ≤ 1536) (C0 : lw_At p s m meth c b L xs) (K0 : lp_K s (dC, dI) h a o q qa qb cI cJ cY cZ) {N i cells slots : Nat} {D S : Nat → Bool} {H : Heap} {locs : List Loc} {ls : Array Slot} (hi : i + 3 ≤ L) (hcl : cells + 1 ≤ 1036) (hsl : slots + 6 ≤ 9771) (V0 : lp_V s (dC, dI) h a o q qa qb cI cJ cY cZ N D S H locs) (hl : lv_has ls 7 [(4, .int (nI i)), (0, .ref b), (1, .ref h), (2, .ref q), (3, .ref o)])
    (kk : ∀ (N : Nat) (D S : Nat → Bool) (H : Heap) (locs : List Loc) (ls : Array Slot), lp_V s (dC, dI) h a o q qa qb cI cJ cY cZ N D S H locs → lv_has ls 7 [(4, .int (nI i)), (0, .ref b), (1, .ref h), (2, .ref q), (3, .ref o)] → W p l e room_1 s m #[Value.ref b] below meth c H locs (cells + 1) (slots + 6) (lw_Z below #[Value.ref b] s) (F0 m 663 ls [])) : W p l e room_1 s m #[Value.ref b] below meth c H locs cells slots (lw_Z below #[Value.ref b] s) (F0 m 426 ls []) := by
  obtain ⟨hx, hb, hr, hml, hown, hts0, hX, hbl, hlocks, hgv⟩ := C0
  have hts : ∀ w ∈ wsL_law, w.before #[Value.ref b] s = true := fun w h9 => hts0 w (wsL_law_in w h9)
  obtain ⟨hK, hJ, ⟨hne, ho, hmn⟩, hdj, hgx, hgm⟩ := K0
  obtain ⟨⟨h1, h2, hz⟩, ⟨g, hPw⟩, ⟨t, hPm⟩, hS⟩ := V0
  have hbA : ¬ (fun x : Nat => s.heap.size ≤ x) b := Nat.not_le.mpr hbl
  rcases ix_below (xs (i + 1)) (n := cb_cc N) (by have := cb_cc_le h2; omega) with hbad | ⟨k, hk, e1⟩
  · refine lv_aload_n hx hb dL_law_426 rfl (lv_at hl 2 rfl) ?_
    refine lv_aload_n hx hb dL_law_427 rfl (lv_at hl 1 rfl) ?_
    refine lv_iload hx hb dL_law_428 (lv_at hl 0 rfl) ?_
    refine lv_iconst (v := 1) hx hb dL_law_430 (by decide) ?_
    refine lv_iadd hx hb dL_law_431 ?_
    refine cl_asi (nI_add i 1) ?_
    refine cl_sld hx hb hX hbl hbA hS (show i + 1 < L by omega) (by omega) dL_law_432 ?_
    refine lv_aload_n hx hb dL_law_433 rfl (lv_at hl 4 rfl) ?_
    refine lk_same (xt_runSW (As := [.ref h, .int (xs (i + 1)), .ref o]) (rest := []) ⟨hx, hb, hml, hown, hts⟩ (v_card l hst dC dI h a cI N (pf_ D S) o cJ g (xs (i + 1)) h1 h2 hbad) (lk_cw 3 hts gL_law_L_card rfl rfl rfl (by decide +kernel) ⟨Nat.le_of_ble_eq_true rfl, Nat.le_of_ble_eq_true rfl⟩) (lk_preT hJ hS (hK.sub (tys' := [(cI, .int), (cJ, .long)]) [0, 1] rfl) hPw) rfl rfl hl.1 rfl (lv_room (Nat.le_of_ble_eq_true rfl)) dL_law_434 ⟨by show _ ≤ 1036; omega, by show _ ≤ 9771; omega⟩) hS hPw hPm (fun H locs hPw hPm hS => ?_)
    refine lv_istore (lv' := [(5, .int 1), (4, .int (nI i)), (0, .ref b), (1, .ref h), (2, .ref q), (3, .ref o)]) hx hb dL_law_437 hl (by decide) rfl (fun ls hl => ?_)
    refine lv_aload_n hx hb dL_law_439 rfl (lv_at hl 4 rfl) ?_
    refine lv_aload_n hx hb dL_law_440 rfl (lv_at hl 2 rfl) ?_
    refine lv_iload hx hb dL_law_441 (lv_at hl 1 rfl) ?_
    refine lv_iconst (v := 1) hx hb dL_law_443 (by decide) ?_
    refine lv_iadd hx hb dL_law_444 ?_
    refine cl_asi (nI_add i 1) ?_
    refine cl_sld hx hb hX hbl hbA hS (show i + 1 < L by omega) (by omega) dL_law_445 ?_
    refine lk_call (va_runV (As := [.int (xs (i + 1))]) (rest := []) ⟨hx, hb, hml, hown, hts0⟩ (e1_card l dC dI q qa qb cY cZ t N D S (xs (i + 1)) h1 h2 hbad hmn) (cwV 1 hts0 gL_law_X1_card rfl rfl rfl (by decide +kernel) ⟨Nat.le_of_ble_eq_true rfl, Nat.le_of_ble_eq_true rfl⟩) (md_preV (hK.sub (tys' := [(cY, .boolean), (cZ, .boolean)]) [2, 3] rfl) hPm [.int (xs (i + 1))]) rfl rfl hl.1 rfl (lv_room (Nat.le_of_ble_eq_true rfl)) dL_law_446 ⟨by show _ ≤ 1036; omega, by show _ ≤ 9771; omega⟩) hS hgm hPw (lp_x hdj) (fun H locs hPm hPw hS => ?_)
    have hPm : va_P (dC, dI) vwCl (md_w q qa qb cY cZ 1 (nI N) D S) H := hPm
    refine lv_istore (lv' := [(6, .int (0 : Int32)), (5, .int 1), (4, .int (nI i)), (0, .ref b), (1, .ref h), (2, .ref q), (3, .ref o)]) hx hb dL_law_449 hl (by decide) rfl (fun ls hl => ?_)
    refine lv_aload_n hx hb dL_law_451 rfl (lv_at hl 5 rfl) ?_
    refine cl_calli (W.runV (As := []) (rest := []) ⟨hx, hb, hml, hown, hts⟩ (c1_thrown l dC dI q qa qb cY cZ 1 N D S) (cwV 0 hts gL_law_X1_thrown rfl rfl rfl (by decide +kernel) ⟨Nat.le_of_ble_eq_true rfl, Nat.le_of_ble_eq_true rfl⟩) (md_preV (hK.sub (tys' := [(cY, .boolean), (cZ, .boolean)]) [2, 3] rfl) hPm []) rfl rfl hl.1 rfl (lv_room (Nat.le_of_ble_eq_true rfl)) dL_law_452 ⟨by show _ ≤ 1036; omega, by show _ ≤ 9771; omega⟩) ?_
    refine lv_iload hx hb dL_law_455 (lv_at hl 1 rfl) ?_
    refine lv_icmp_eq (tgt := 462) hx hb dL_law_457 (by decide) (fun _ => ?_) (fun h9 => absurd rfl h9)
    refine lv_iload hx hb dL_law_462 (lv_at hl 1 rfl) ?_
    refine lv_if_ne (tgt := 479) hx hb dL_law_464 (by decide) (fun _ => ?_) (fun h9 => absurd h9 (by decide))
    refine lv_goto (tgt := 663) hx hb dL_law_479 (by decide) ?_
    refine W.widen (k := cells + 1) (n := slots + 6) (by omega) (by omega) ?_
    exact kk N D S H locs ls ⟨⟨h1, h2, hz⟩, ⟨_, hPw⟩, ⟨_, hPm⟩, hS⟩ (lv_sub hl [2, 3, 4, 5, 6] rfl)
  · refine lv_aload_n hx hb dL_law_426 rfl (lv_at hl 2 rfl) ?_
    refine lv_aload_n hx hb dL_law_427 rfl (lv_at hl 1 rfl) ?_
    refine lv_iload hx hb dL_law_428 (lv_at hl 0 rfl) ?_
    refine lv_iconst (v := 1) hx hb dL_law_430 (by decide) ?_
    refine lv_iadd hx hb dL_law_431 ?_
    refine cl_asi (nI_add i 1) ?_
    refine cl_sld hx hb hX hbl hbA hS (show i + 1 < L by omega) (by omega) dL_law_432 ?_
    rw [e1]
    refine lv_aload_n hx hb dL_law_433 rfl (lv_at hl 4 rfl) ?_
    refine lk_call (xt_runSW (As := [.ref h, .int (nI k), .ref o]) (rest := []) ⟨hx, hb, hml, hown, hts⟩ (w_card l dC dI h a cI N (pf_ D S) o cJ g hne ho k h1 h2 hk) (lk_cw 3 hts gL_law_L_card rfl rfl rfl (by decide +kernel) ⟨Nat.le_of_ble_eq_true rfl, Nat.le_of_ble_eq_true rfl⟩) (lk_preS (hK.sub (tys' := [(cI, .int), (cJ, .long)]) [0, 1] rfl) hPw) rfl rfl hl.1 rfl (lv_room (Nat.le_of_ble_eq_true rfl)) dL_law_434 ⟨by show _ ≤ 1036; omega, by show _ ≤ 9771; omega⟩) hS hgx hPm (lp_m hdj) (fun H locs hPw hPm hS => ?_)
    have hPw : va_P (dC, dI) vwCl (wr_w h a cI (nI N) (pf_ D S) o cJ (vp_updL g 0 (Int32.toInt64 (pf_ D S k)))) H := hPw
    refine lv_istore (lv' := [(5, .int 0), (4, .int (nI i)), (0, .ref b), (1, .ref h), (2, .ref q), (3, .ref o)]) hx hb dL_law_437 hl (by decide) rfl (fun ls hl => ?_)
    refine lv_aload_n hx hb dL_law_439 rfl (lv_at hl 4 rfl) ?_
    refine lv_aload_n hx hb dL_law_440 rfl (lv_at hl 2 rfl) ?_
    refine lv_iload hx hb dL_law_441 (lv_at hl 1 rfl) ?_
    refine lv_iconst (v := 1) hx hb dL_law_443 (by decide) ?_
    refine lv_iadd hx hb dL_law_444 ?_
    refine cl_asi (nI_add i 1) ?_
    refine cl_sld hx hb hX hbl hbA hS (show i + 1 < L by omega) (by omega) dL_law_445 ?_
    rw [e1]
    refine lk_call (va_runV (As := [.int (nI k)]) (rest := []) ⟨hx, hb, hml, hown, hts0⟩ (c1_card l dC dI q qa qb cY cZ t N D S k h1 h2 hk hmn) (cwV 1 hts0 gL_law_X1_card rfl rfl rfl (by decide +kernel) ⟨Nat.le_of_ble_eq_true rfl, Nat.le_of_ble_eq_true rfl⟩) (md_preV (hK.sub (tys' := [(cY, .boolean), (cZ, .boolean)]) [2, 3] rfl) hPm [.int (nI k)]) rfl rfl hl.1 rfl (lv_room (Nat.le_of_ble_eq_true rfl)) dL_law_446 ⟨by show _ ≤ 1036; omega, by show _ ≤ 9771; omega⟩) hS hgm hPw (lp_x hdj) (fun H locs hPm hPw hS => ?_)
    have hPm : va_P (dC, dI) vwCl (md_w q qa qb cY cZ 0 (nI N) D S) H := hPm
    refine lv_istore (lv' := [(6, .int (md_cd D S k)), (5, .int 0), (4, .int (nI i)), (0, .ref b), (1, .ref h), (2, .ref q), (3, .ref o)]) hx hb dL_law_449 hl (by decide) rfl (fun ls hl => ?_)
    refine lv_aload_n hx hb dL_law_451 rfl (lv_at hl 5 rfl) ?_
    refine cl_calli (W.runV (As := []) (rest := []) ⟨hx, hb, hml, hown, hts⟩ (c1_thrown l dC dI q qa qb cY cZ 0 N D S) (cwV 0 hts gL_law_X1_thrown rfl rfl rfl (by decide +kernel) ⟨Nat.le_of_ble_eq_true rfl, Nat.le_of_ble_eq_true rfl⟩) (md_preV (hK.sub (tys' := [(cY, .boolean), (cZ, .boolean)]) [2, 3] rfl) hPm []) rfl rfl hl.1 rfl (lv_room (Nat.le_of_ble_eq_true rfl)) dL_law_452 ⟨by show _ ≤ 1036; omega, by show _ ≤ 9771; omega⟩) ?_
    refine lv_iload hx hb dL_law_455 (lv_at hl 1 rfl) ?_
    refine lv_icmp_eq (tgt := 462) hx hb dL_law_457 (by decide) (fun _ => ?_) (fun h9 => absurd rfl h9)
    refine lv_iload hx hb dL_law_462 (lv_at hl 1 rfl) ?_
    refine lv_if_ne (tgt := 479) hx hb dL_law_464 (by decide) (fun h9 => absurd rfl h9) (fun _ => ?_)
    refine lv_aload_n hx hb dL_law_467 rfl (lv_at hl 6 rfl) ?_
    refine lv_iconst (v := 0) hx hb dL_law_468 (by decide) ?_
    have hPw : va_P (dC, dI) vwCl (wr_w h a cI (nI N) (pf_ D S) o cJ (vp_updL g 0 (Int32.toInt64 (md_cd D S k)))) H := hPw
    refine lk_out (v := (Int32.toInt64 (md_cd D S k))) hx hb hK rfl hPw dL_law_469 ?_
    refine lv_iload hx hb dL_law_470 (lv_at hl 0 rfl) ?_
    refine lv_i2l (v := Int32.toInt64 (md_cd D S k)) hx hb dL_law_472 rfl ?_
    refine W.lcmp hx hb dL_law_473 ?_
    refine cl_asi (lk_cmp _) ?_
    refine lv_if_eq (tgt := 479) hx hb dL_law_474 (by decide) (fun _ => ?_) (fun h9 => absurd rfl h9)
    refine lv_goto (tgt := 663) hx hb dL_law_479 (by decide) ?_
    refine W.widen (k := cells + 1) (n := slots + 6) (by omega) (by omega) ?_
    exact kk N D S H locs ls ⟨⟨h1, h2, hz⟩, ⟨_, hPw⟩, ⟨_, hPm⟩, hS⟩ (lv_sub hl [2, 3, 4, 5, 6] rfl)
set_option maxHeartbeats 4000000 in
set_option maxRecDepth 100000 in
/-- the law's case nextDirty -/
theorem lc_nextDirty {p : Program} {l : Launch} {e : Env} {s : State} {m : MethodId} {below : List Frame} {meth : Method} {c : Code} {dC : Nat → ClassId} {dI : Nat → Nat → Nat} {b L : Nat} {xs : Nat → Int32} {h a o q qa qb : Nat} {cI cJ cY cZ : ClassId} (hst : l.stackTraces = false) (hL : L ≤ 1536) (C0 : lw_At p s m meth c b L xs) (K0 : lp_K s (dC, dI) h a o q qa qb cI cJ cY cZ) {N i cells slots : Nat} {D S : Nat → Bool} {H : Heap} {locs : List Loc} {ls : Array Slot} (hi : i + 3 ≤ L) (hcl : cells + 1 ≤ 1036) (hsl : slots + 6 ≤ 9771) (V0 : lp_V s (dC, dI) h a o q qa qb cI cJ cY cZ N D S H locs) (hl : lv_has ls 7 [(4, .int (nI i)), (0, .ref b), (1, .ref h), (2, .ref q), (3, .ref o)])
    (kk : ∀ (N : Nat) (D S : Nat → Bool) (H : Heap) (locs : List Loc) (ls : Array Slot), lp_V s (dC, dI) h a o q qa qb cI cJ cY cZ N D S H locs → lv_has ls 7 [(4, .int (nI i)), (0, .ref b), (1, .ref h), (2, .ref q), (3, .ref o)] → W p l e room_1 s m #[Value.ref b] below meth c H locs (cells + 1) (slots + 6) (lw_Z below #[Value.ref b] s) (F0 m 663 ls [])) : W p l e room_1 s m #[Value.ref b] below meth c H locs cells slots (lw_Z below #[Value.ref b] s) (F0 m 482 ls []) := by
  obtain ⟨hx, hb, hr, hml, hown, hts0, hX, hbl, hlocks, hgv⟩ := C0
  have hts : ∀ w ∈ wsL_law, w.before #[Value.ref b] s = true := fun w h9 => hts0 w (wsL_law_in w h9)
  obtain ⟨hK, hJ, ⟨hne, ho, hmn⟩, hdj, hgx, hgm⟩ := K0
  obtain ⟨⟨h1, h2, hz⟩, ⟨g, hPw⟩, ⟨t, hPm⟩, hS⟩ := V0
  have hbA : ¬ (fun x : Nat => s.heap.size ≤ x) b := Nat.not_le.mpr hbl
  by_cases hbad : xs (i + 1) < 0
  · refine lv_aload_n hx hb dL_law_482 rfl (lv_at hl 2 rfl) ?_
    refine lv_aload_n hx hb dL_law_483 rfl (lv_at hl 1 rfl) ?_
    refine lv_iload hx hb dL_law_484 (lv_at hl 0 rfl) ?_
    refine lv_iconst (v := 1) hx hb dL_law_486 (by decide) ?_
    refine lv_iadd hx hb dL_law_487 ?_
    refine cl_asi (nI_add i 1) ?_
    refine cl_sld hx hb hX hbl hbA hS (show i + 1 < L by omega) (by omega) dL_law_488 ?_
    refine lv_aload_n hx hb dL_law_489 rfl (lv_at hl 4 rfl) ?_
    refine lk_same (xt_runSW (As := [.ref h, .int (xs (i + 1)), .ref o]) (rest := []) ⟨hx, hb, hml, hown, hts⟩ (v_nextDirty l hst dC dI h a cI N (pf_ D S) o cJ g (xs (i + 1)) hbad) (lk_cw 3 hts gL_law_L_nextDirty rfl rfl rfl (by decide +kernel) ⟨Nat.le_of_ble_eq_true rfl, Nat.le_of_ble_eq_true rfl⟩) (lk_preT hJ hS (hK.sub (tys' := [(cI, .int), (cJ, .long)]) [0, 1] rfl) hPw) rfl rfl hl.1 rfl (lv_room (Nat.le_of_ble_eq_true rfl)) dL_law_490 ⟨by show _ ≤ 1036; omega, by show _ ≤ 9771; omega⟩) hS hPw hPm (fun H locs hPw hPm hS => ?_)
    refine lv_istore (lv' := [(5, .int 1), (4, .int (nI i)), (0, .ref b), (1, .ref h), (2, .ref q), (3, .ref o)]) hx hb dL_law_493 hl (by decide) rfl (fun ls hl => ?_)
    refine lv_aload_n hx hb dL_law_495 rfl (lv_at hl 4 rfl) ?_
    refine lv_aload_n hx hb dL_law_496 rfl (lv_at hl 2 rfl) ?_
    refine lv_iload hx hb dL_law_497 (lv_at hl 1 rfl) ?_
    refine lv_iconst (v := 1) hx hb dL_law_499 (by decide) ?_
    refine lv_iadd hx hb dL_law_500 ?_
    refine cl_asi (nI_add i 1) ?_
    refine cl_sld hx hb hX hbl hbA hS (show i + 1 < L by omega) (by omega) dL_law_501 ?_
    refine lk_call (va_runV (As := [.int (xs (i + 1))]) (rest := []) ⟨hx, hb, hml, hown, hts0⟩ (e1_nextDirty l dC dI q qa qb cY cZ t N D S (xs (i + 1)) hbad hmn) (cwV 1 hts0 gL_law_X1_nextDirty rfl rfl rfl (by decide +kernel) ⟨Nat.le_of_ble_eq_true rfl, Nat.le_of_ble_eq_true rfl⟩) (md_preV (hK.sub (tys' := [(cY, .boolean), (cZ, .boolean)]) [2, 3] rfl) hPm [.int (xs (i + 1))]) rfl rfl hl.1 rfl (lv_room (Nat.le_of_ble_eq_true rfl)) dL_law_502 ⟨by show _ ≤ 1036; omega, by show _ ≤ 9771; omega⟩) hS hgm hPw (lp_x hdj) (fun H locs hPm hPw hS => ?_)
    have hPm : va_P (dC, dI) vwCl (md_w q qa qb cY cZ 1 (nI N) D S) H := hPm
    refine lv_istore (lv' := [(6, .int (0 : Int32)), (5, .int 1), (4, .int (nI i)), (0, .ref b), (1, .ref h), (2, .ref q), (3, .ref o)]) hx hb dL_law_505 hl (by decide) rfl (fun ls hl => ?_)
    refine lv_aload_n hx hb dL_law_507 rfl (lv_at hl 5 rfl) ?_
    refine cl_calli (W.runV (As := []) (rest := []) ⟨hx, hb, hml, hown, hts⟩ (c1_thrown l dC dI q qa qb cY cZ 1 N D S) (cwV 0 hts gL_law_X1_thrown rfl rfl rfl (by decide +kernel) ⟨Nat.le_of_ble_eq_true rfl, Nat.le_of_ble_eq_true rfl⟩) (md_preV (hK.sub (tys' := [(cY, .boolean), (cZ, .boolean)]) [2, 3] rfl) hPm []) rfl rfl hl.1 rfl (lv_room (Nat.le_of_ble_eq_true rfl)) dL_law_508 ⟨by show _ ≤ 1036; omega, by show _ ≤ 9771; omega⟩) ?_
    refine lv_iload hx hb dL_law_511 (lv_at hl 1 rfl) ?_
    refine lv_icmp_eq (tgt := 518) hx hb dL_law_513 (by decide) (fun _ => ?_) (fun h9 => absurd rfl h9)
    refine lv_iload hx hb dL_law_518 (lv_at hl 1 rfl) ?_
    refine lv_if_ne (tgt := 535) hx hb dL_law_520 (by decide) (fun _ => ?_) (fun h9 => absurd h9 (by decide))
    refine lv_goto (tgt := 663) hx hb dL_law_535 (by decide) ?_
    refine W.widen (k := cells + 1) (n := slots + 6) (by omega) (by omega) ?_
    exact kk N D S H locs ls ⟨⟨h1, h2, hz⟩, ⟨_, hPw⟩, ⟨_, hPm⟩, hS⟩ (lv_sub hl [2, 3, 4, 5, 6] rfl)
  · obtain ⟨j, hj, e1⟩ := nI_of hbad
    refine lv_aload_n hx hb dL_law_482 rfl (lv_at hl 2 rfl) ?_
    refine lv_aload_n hx hb dL_law_483 rfl (lv_at hl 1 rfl) ?_
    refine lv_iload hx hb dL_law_484 (lv_at hl 0 rfl) ?_
    refine lv_iconst (v := 1) hx hb dL_law_486 (by decide) ?_
    refine lv_iadd hx hb dL_law_487 ?_
    refine cl_asi (nI_add i 1) ?_
    refine cl_sld hx hb hX hbl hbA hS (show i + 1 < L by omega) (by omega) dL_law_488 ?_
    rw [e1]
    refine lv_aload_n hx hb dL_law_489 rfl (lv_at hl 4 rfl) ?_
    refine lk_call (xt_runSW (As := [.ref h, .int (nI j), .ref o]) (rest := []) ⟨hx, hb, hml, hown, hts⟩ (w_nextDirty l dC dI h a cI N (pf_ D S) o cJ g hne ho j h1 h2 hj) (lk_cw 3 hts gL_law_L_nextDirty rfl rfl rfl (by decide +kernel) ⟨Nat.le_of_ble_eq_true rfl, Nat.le_of_ble_eq_true rfl⟩) (lk_preS (hK.sub (tys' := [(cI, .int), (cJ, .long)]) [0, 1] rfl) hPw) rfl rfl hl.1 rfl (lv_room (Nat.le_of_ble_eq_true rfl)) dL_law_490 ⟨by show _ ≤ 1036; omega, by show _ ≤ 9771; omega⟩) hS hgx hPm (lp_m hdj) (fun H locs hPw hPm hS => ?_)
    have hPw : va_P (dC, dI) vwCl (wr_w h a cI (nI N) (pf_ D S) o cJ (vp_updL g 0 (Int32.toInt64 (cb_fw (pf_ D S) 1 j (cb_cc N))))) H := hPw
    refine lv_istore (lv' := [(5, .int 0), (4, .int (nI i)), (0, .ref b), (1, .ref h), (2, .ref q), (3, .ref o)]) hx hb dL_law_493 hl (by decide) rfl (fun ls hl => ?_)
    refine lv_aload_n hx hb dL_law_495 rfl (lv_at hl 4 rfl) ?_
    refine lv_aload_n hx hb dL_law_496 rfl (lv_at hl 2 rfl) ?_
    refine lv_iload hx hb dL_law_497 (lv_at hl 1 rfl) ?_
    refine lv_iconst (v := 1) hx hb dL_law_499 (by decide) ?_
    refine lv_iadd hx hb dL_law_500 ?_
    refine cl_asi (nI_add i 1) ?_
    refine cl_sld hx hb hX hbl hbA hS (show i + 1 < L by omega) (by omega) dL_law_501 ?_
    rw [e1]
    refine lk_call (va_runV (As := [.int (nI j)]) (rest := []) ⟨hx, hb, hml, hown, hts0⟩ (c1_nextDirty l dC dI q qa qb cY cZ t N D S j hj hmn) (cwV 1 hts0 gL_law_X1_nextDirty rfl rfl rfl (by decide +kernel) ⟨Nat.le_of_ble_eq_true rfl, Nat.le_of_ble_eq_true rfl⟩) (md_preV (hK.sub (tys' := [(cY, .boolean), (cZ, .boolean)]) [2, 3] rfl) hPm [.int (nI j)]) rfl rfl hl.1 rfl (lv_room (Nat.le_of_ble_eq_true rfl)) dL_law_502 ⟨by show _ ≤ 1036; omega, by show _ ≤ 9771; omega⟩) hS hgm hPw (lp_x hdj) (fun H locs hPm hPw hS => ?_)
    have hPm : va_P (dC, dI) vwCl (md_w q qa qb cY cZ 0 (nI N) D S) H := hPm
    refine lv_istore (lv' := [(6, .int (md_fw D j 0)), (5, .int 0), (4, .int (nI i)), (0, .ref b), (1, .ref h), (2, .ref q), (3, .ref o)]) hx hb dL_law_505 hl (by decide) rfl (fun ls hl => ?_)
    refine lv_aload_n hx hb dL_law_507 rfl (lv_at hl 5 rfl) ?_
    refine cl_calli (W.runV (As := []) (rest := []) ⟨hx, hb, hml, hown, hts⟩ (c1_thrown l dC dI q qa qb cY cZ 0 N D S) (cwV 0 hts gL_law_X1_thrown rfl rfl rfl (by decide +kernel) ⟨Nat.le_of_ble_eq_true rfl, Nat.le_of_ble_eq_true rfl⟩) (md_preV (hK.sub (tys' := [(cY, .boolean), (cZ, .boolean)]) [2, 3] rfl) hPm []) rfl rfl hl.1 rfl (lv_room (Nat.le_of_ble_eq_true rfl)) dL_law_508 ⟨by show _ ≤ 1036; omega, by show _ ≤ 9771; omega⟩) ?_
    refine lv_iload hx hb dL_law_511 (lv_at hl 1 rfl) ?_
    refine lv_icmp_eq (tgt := 518) hx hb dL_law_513 (by decide) (fun _ => ?_) (fun h9 => absurd rfl h9)
    refine lv_iload hx hb dL_law_518 (lv_at hl 1 rfl) ?_
    refine lv_if_ne (tgt := 535) hx hb dL_law_520 (by decide) (fun h9 => absurd rfl h9) (fun _ => ?_)
    refine lv_aload_n hx hb dL_law_523 rfl (lv_at hl 6 rfl) ?_
    refine lv_iconst (v := 0) hx hb dL_law_524 (by decide) ?_
    rw [pu_f1 h2 hz] at hPw
    refine lk_out (v := (Int32.toInt64 (md_fw D j 0))) hx hb hK rfl hPw dL_law_525 ?_
    refine lv_iload hx hb dL_law_526 (lv_at hl 0 rfl) ?_
    refine lv_i2l (v := Int32.toInt64 (md_fw D j 0)) hx hb dL_law_528 rfl ?_
    refine W.lcmp hx hb dL_law_529 ?_
    refine cl_asi (lk_cmp _) ?_
    refine lv_if_eq (tgt := 535) hx hb dL_law_530 (by decide) (fun _ => ?_) (fun h9 => absurd rfl h9)
    refine lv_goto (tgt := 663) hx hb dL_law_535 (by decide) ?_
    refine W.widen (k := cells + 1) (n := slots + 6) (by omega) (by omega) ?_
    exact kk N D S H locs ls ⟨⟨h1, h2, hz⟩, ⟨_, hPw⟩, ⟨_, hPm⟩, hS⟩ (lv_sub hl [2, 3, 4, 5, 6] rfl)
set_option maxHeartbeats 4000000 in
set_option maxRecDepth 100000 in
/-- the law's case nextSaved -/
theorem lc_nextSaved {p : Program} {l : Launch} {e : Env} {s : State} {m : MethodId} {below : List Frame} {meth : Method} {c : Code} {dC : Nat → ClassId} {dI : Nat → Nat → Nat} {b L : Nat} {xs : Nat → Int32} {h a o q qa qb : Nat} {cI cJ cY cZ : ClassId} (hst : l.stackTraces = false) (hL : L ≤ 1536) (C0 : lw_At p s m meth c b L xs) (K0 : lp_K s (dC, dI) h a o q qa qb cI cJ cY cZ) {N i cells slots : Nat} {D S : Nat → Bool} {H : Heap} {locs : List Loc} {ls : Array Slot} (hi : i + 3 ≤ L) (hcl : cells + 1 ≤ 1036) (hsl : slots + 6 ≤ 9771) (V0 : lp_V s (dC, dI) h a o q qa qb cI cJ cY cZ N D S H locs) (hl : lv_has ls 7 [(4, .int (nI i)), (0, .ref b), (1, .ref h), (2, .ref q), (3, .ref o)])
    (kk : ∀ (N : Nat) (D S : Nat → Bool) (H : Heap) (locs : List Loc) (ls : Array Slot), lp_V s (dC, dI) h a o q qa qb cI cJ cY cZ N D S H locs → lv_has ls 7 [(4, .int (nI i)), (0, .ref b), (1, .ref h), (2, .ref q), (3, .ref o)] → W p l e room_1 s m #[Value.ref b] below meth c H locs (cells + 1) (slots + 6) (lw_Z below #[Value.ref b] s) (F0 m 663 ls [])) : W p l e room_1 s m #[Value.ref b] below meth c H locs cells slots (lw_Z below #[Value.ref b] s) (F0 m 538 ls []) := by
  obtain ⟨hx, hb, hr, hml, hown, hts0, hX, hbl, hlocks, hgv⟩ := C0
  have hts : ∀ w ∈ wsL_law, w.before #[Value.ref b] s = true := fun w h9 => hts0 w (wsL_law_in w h9)
  obtain ⟨hK, hJ, ⟨hne, ho, hmn⟩, hdj, hgx, hgm⟩ := K0
  obtain ⟨⟨h1, h2, hz⟩, ⟨g, hPw⟩, ⟨t, hPm⟩, hS⟩ := V0
  have hbA : ¬ (fun x : Nat => s.heap.size ≤ x) b := Nat.not_le.mpr hbl
  by_cases hbad : xs (i + 1) < 0
  · refine lv_aload_n hx hb dL_law_538 rfl (lv_at hl 2 rfl) ?_
    refine lv_aload_n hx hb dL_law_539 rfl (lv_at hl 1 rfl) ?_
    refine lv_iload hx hb dL_law_540 (lv_at hl 0 rfl) ?_
    refine lv_iconst (v := 1) hx hb dL_law_542 (by decide) ?_
    refine lv_iadd hx hb dL_law_543 ?_
    refine cl_asi (nI_add i 1) ?_
    refine cl_sld hx hb hX hbl hbA hS (show i + 1 < L by omega) (by omega) dL_law_544 ?_
    refine lv_aload_n hx hb dL_law_545 rfl (lv_at hl 4 rfl) ?_
    refine lk_same (xt_runSW (As := [.ref h, .int (xs (i + 1)), .ref o]) (rest := []) ⟨hx, hb, hml, hown, hts⟩ (v_nextSaved l hst dC dI h a cI N (pf_ D S) o cJ g (xs (i + 1)) hbad) (lk_cw 3 hts gL_law_L_nextSaved rfl rfl rfl (by decide +kernel) ⟨Nat.le_of_ble_eq_true rfl, Nat.le_of_ble_eq_true rfl⟩) (lk_preT hJ hS (hK.sub (tys' := [(cI, .int), (cJ, .long)]) [0, 1] rfl) hPw) rfl rfl hl.1 rfl (lv_room (Nat.le_of_ble_eq_true rfl)) dL_law_546 ⟨by show _ ≤ 1036; omega, by show _ ≤ 9771; omega⟩) hS hPw hPm (fun H locs hPw hPm hS => ?_)
    refine lv_istore (lv' := [(5, .int 1), (4, .int (nI i)), (0, .ref b), (1, .ref h), (2, .ref q), (3, .ref o)]) hx hb dL_law_549 hl (by decide) rfl (fun ls hl => ?_)
    refine lv_aload_n hx hb dL_law_551 rfl (lv_at hl 4 rfl) ?_
    refine lv_aload_n hx hb dL_law_552 rfl (lv_at hl 2 rfl) ?_
    refine lv_iload hx hb dL_law_553 (lv_at hl 1 rfl) ?_
    refine lv_iconst (v := 1) hx hb dL_law_555 (by decide) ?_
    refine lv_iadd hx hb dL_law_556 ?_
    refine cl_asi (nI_add i 1) ?_
    refine cl_sld hx hb hX hbl hbA hS (show i + 1 < L by omega) (by omega) dL_law_557 ?_
    refine lk_call (va_runV (As := [.int (xs (i + 1))]) (rest := []) ⟨hx, hb, hml, hown, hts0⟩ (e1_nextSaved l dC dI q qa qb cY cZ t N D S (xs (i + 1)) hbad hmn) (cwV 1 hts0 gL_law_X1_nextSaved rfl rfl rfl (by decide +kernel) ⟨Nat.le_of_ble_eq_true rfl, Nat.le_of_ble_eq_true rfl⟩) (md_preV (hK.sub (tys' := [(cY, .boolean), (cZ, .boolean)]) [2, 3] rfl) hPm [.int (xs (i + 1))]) rfl rfl hl.1 rfl (lv_room (Nat.le_of_ble_eq_true rfl)) dL_law_558 ⟨by show _ ≤ 1036; omega, by show _ ≤ 9771; omega⟩) hS hgm hPw (lp_x hdj) (fun H locs hPm hPw hS => ?_)
    have hPm : va_P (dC, dI) vwCl (md_w q qa qb cY cZ 1 (nI N) D S) H := hPm
    refine lv_istore (lv' := [(6, .int (0 : Int32)), (5, .int 1), (4, .int (nI i)), (0, .ref b), (1, .ref h), (2, .ref q), (3, .ref o)]) hx hb dL_law_561 hl (by decide) rfl (fun ls hl => ?_)
    refine lv_aload_n hx hb dL_law_563 rfl (lv_at hl 5 rfl) ?_
    refine cl_calli (W.runV (As := []) (rest := []) ⟨hx, hb, hml, hown, hts⟩ (c1_thrown l dC dI q qa qb cY cZ 1 N D S) (cwV 0 hts gL_law_X1_thrown rfl rfl rfl (by decide +kernel) ⟨Nat.le_of_ble_eq_true rfl, Nat.le_of_ble_eq_true rfl⟩) (md_preV (hK.sub (tys' := [(cY, .boolean), (cZ, .boolean)]) [2, 3] rfl) hPm []) rfl rfl hl.1 rfl (lv_room (Nat.le_of_ble_eq_true rfl)) dL_law_564 ⟨by show _ ≤ 1036; omega, by show _ ≤ 9771; omega⟩) ?_
    refine lv_iload hx hb dL_law_567 (lv_at hl 1 rfl) ?_
    refine lv_icmp_eq (tgt := 574) hx hb dL_law_569 (by decide) (fun _ => ?_) (fun h9 => absurd rfl h9)
    refine lv_iload hx hb dL_law_574 (lv_at hl 1 rfl) ?_
    refine lv_if_ne (tgt := 591) hx hb dL_law_576 (by decide) (fun _ => ?_) (fun h9 => absurd h9 (by decide))
    refine lv_goto (tgt := 663) hx hb dL_law_591 (by decide) ?_
    refine W.widen (k := cells + 1) (n := slots + 6) (by omega) (by omega) ?_
    exact kk N D S H locs ls ⟨⟨h1, h2, hz⟩, ⟨_, hPw⟩, ⟨_, hPm⟩, hS⟩ (lv_sub hl [2, 3, 4, 5, 6] rfl)
  · obtain ⟨j, hj, e1⟩ := nI_of hbad
    refine lv_aload_n hx hb dL_law_538 rfl (lv_at hl 2 rfl) ?_
    refine lv_aload_n hx hb dL_law_539 rfl (lv_at hl 1 rfl) ?_
    refine lv_iload hx hb dL_law_540 (lv_at hl 0 rfl) ?_
    refine lv_iconst (v := 1) hx hb dL_law_542 (by decide) ?_
    refine lv_iadd hx hb dL_law_543 ?_
    refine cl_asi (nI_add i 1) ?_
    refine cl_sld hx hb hX hbl hbA hS (show i + 1 < L by omega) (by omega) dL_law_544 ?_
    rw [e1]
    refine lv_aload_n hx hb dL_law_545 rfl (lv_at hl 4 rfl) ?_
    refine lk_call (xt_runSW (As := [.ref h, .int (nI j), .ref o]) (rest := []) ⟨hx, hb, hml, hown, hts⟩ (w_nextSaved l dC dI h a cI N (pf_ D S) o cJ g hne ho j h1 h2 hj) (lk_cw 3 hts gL_law_L_nextSaved rfl rfl rfl (by decide +kernel) ⟨Nat.le_of_ble_eq_true rfl, Nat.le_of_ble_eq_true rfl⟩) (lk_preS (hK.sub (tys' := [(cI, .int), (cJ, .long)]) [0, 1] rfl) hPw) rfl rfl hl.1 rfl (lv_room (Nat.le_of_ble_eq_true rfl)) dL_law_546 ⟨by show _ ≤ 1036; omega, by show _ ≤ 9771; omega⟩) hS hgx hPm (lp_m hdj) (fun H locs hPw hPm hS => ?_)
    have hPw : va_P (dC, dI) vwCl (wr_w h a cI (nI N) (pf_ D S) o cJ (vp_updL g 0 (Int32.toInt64 (cb_fw (pf_ D S) 2 j (cb_cc N))))) H := hPw
    refine lv_istore (lv' := [(5, .int 0), (4, .int (nI i)), (0, .ref b), (1, .ref h), (2, .ref q), (3, .ref o)]) hx hb dL_law_549 hl (by decide) rfl (fun ls hl => ?_)
    refine lv_aload_n hx hb dL_law_551 rfl (lv_at hl 4 rfl) ?_
    refine lv_aload_n hx hb dL_law_552 rfl (lv_at hl 2 rfl) ?_
    refine lv_iload hx hb dL_law_553 (lv_at hl 1 rfl) ?_
    refine lv_iconst (v := 1) hx hb dL_law_555 (by decide) ?_
    refine lv_iadd hx hb dL_law_556 ?_
    refine cl_asi (nI_add i 1) ?_
    refine cl_sld hx hb hX hbl hbA hS (show i + 1 < L by omega) (by omega) dL_law_557 ?_
    rw [e1]
    refine lk_call (va_runV (As := [.int (nI j)]) (rest := []) ⟨hx, hb, hml, hown, hts0⟩ (c1_nextSaved l dC dI q qa qb cY cZ t N D S j hj hmn) (cwV 1 hts0 gL_law_X1_nextSaved rfl rfl rfl (by decide +kernel) ⟨Nat.le_of_ble_eq_true rfl, Nat.le_of_ble_eq_true rfl⟩) (md_preV (hK.sub (tys' := [(cY, .boolean), (cZ, .boolean)]) [2, 3] rfl) hPm [.int (nI j)]) rfl rfl hl.1 rfl (lv_room (Nat.le_of_ble_eq_true rfl)) dL_law_558 ⟨by show _ ≤ 1036; omega, by show _ ≤ 9771; omega⟩) hS hgm hPw (lp_x hdj) (fun H locs hPm hPw hS => ?_)
    have hPm : va_P (dC, dI) vwCl (md_w q qa qb cY cZ 0 (nI N) D S) H := hPm
    refine lv_istore (lv' := [(6, .int (md_fw S j 0)), (5, .int 0), (4, .int (nI i)), (0, .ref b), (1, .ref h), (2, .ref q), (3, .ref o)]) hx hb dL_law_561 hl (by decide) rfl (fun ls hl => ?_)
    refine lv_aload_n hx hb dL_law_563 rfl (lv_at hl 5 rfl) ?_
    refine cl_calli (W.runV (As := []) (rest := []) ⟨hx, hb, hml, hown, hts⟩ (c1_thrown l dC dI q qa qb cY cZ 0 N D S) (cwV 0 hts gL_law_X1_thrown rfl rfl rfl (by decide +kernel) ⟨Nat.le_of_ble_eq_true rfl, Nat.le_of_ble_eq_true rfl⟩) (md_preV (hK.sub (tys' := [(cY, .boolean), (cZ, .boolean)]) [2, 3] rfl) hPm []) rfl rfl hl.1 rfl (lv_room (Nat.le_of_ble_eq_true rfl)) dL_law_564 ⟨by show _ ≤ 1036; omega, by show _ ≤ 9771; omega⟩) ?_
    refine lv_iload hx hb dL_law_567 (lv_at hl 1 rfl) ?_
    refine lv_icmp_eq (tgt := 574) hx hb dL_law_569 (by decide) (fun _ => ?_) (fun h9 => absurd rfl h9)
    refine lv_iload hx hb dL_law_574 (lv_at hl 1 rfl) ?_
    refine lv_if_ne (tgt := 591) hx hb dL_law_576 (by decide) (fun h9 => absurd rfl h9) (fun _ => ?_)
    refine lv_aload_n hx hb dL_law_579 rfl (lv_at hl 6 rfl) ?_
    refine lv_iconst (v := 0) hx hb dL_law_580 (by decide) ?_
    rw [pu_f2 h2 hz] at hPw
    refine lk_out (v := (Int32.toInt64 (md_fw S j 0))) hx hb hK rfl hPw dL_law_581 ?_
    refine lv_iload hx hb dL_law_582 (lv_at hl 0 rfl) ?_
    refine lv_i2l (v := Int32.toInt64 (md_fw S j 0)) hx hb dL_law_584 rfl ?_
    refine W.lcmp hx hb dL_law_585 ?_
    refine cl_asi (lk_cmp _) ?_
    refine lv_if_eq (tgt := 591) hx hb dL_law_586 (by decide) (fun _ => ?_) (fun h9 => absurd rfl h9)
    refine lv_goto (tgt := 663) hx hb dL_law_591 (by decide) ?_
    refine W.widen (k := cells + 1) (n := slots + 6) (by omega) (by omega) ?_
    exact kk N D S H locs ls ⟨⟨h1, h2, hz⟩, ⟨_, hPw⟩, ⟨_, hPm⟩, hS⟩ (lv_sub hl [2, 3, 4, 5, 6] rfl)
set_option maxHeartbeats 4000000 in
set_option maxRecDepth 100000 in
/-- the law's case count -/
theorem lc_count {p : Program} {l : Launch} {e : Env} {s : State} {m : MethodId} {below : List Frame} {meth : Method} {c : Code} {dC : Nat → ClassId} {dI : Nat → Nat → Nat} {b L : Nat} {xs : Nat → Int32} {h a o q qa qb : Nat} {cI cJ cY cZ : ClassId} (hst : l.stackTraces = false) (hL : L ≤ 1536) (C0 : lw_At p s m meth c b L xs) (K0 : lp_K s (dC, dI) h a o q qa qb cI cJ cY cZ) {N i cells slots : Nat} {D S : Nat → Bool} {H : Heap} {locs : List Loc} {ls : Array Slot} (hi : i + 3 ≤ L) (hcl : cells + 1 ≤ 1036) (hsl : slots + 6 ≤ 9771) (V0 : lp_V s (dC, dI) h a o q qa qb cI cJ cY cZ N D S H locs) (hl : lv_has ls 7 [(4, .int (nI i)), (0, .ref b), (1, .ref h), (2, .ref q), (3, .ref o)])
    (kk : ∀ (N : Nat) (D S : Nat → Bool) (H : Heap) (locs : List Loc) (ls : Array Slot), lp_V s (dC, dI) h a o q qa qb cI cJ cY cZ N D S H locs → lv_has ls 7 [(4, .int (nI i)), (0, .ref b), (1, .ref h), (2, .ref q), (3, .ref o)] → W p l e room_1 s m #[Value.ref b] below meth c H locs (cells + 1) (slots + 6) (lw_Z below #[Value.ref b] s) (F0 m 663 ls [])) : W p l e room_1 s m #[Value.ref b] below meth c H locs cells slots (lw_Z below #[Value.ref b] s) (F0 m 607 ls []) := by
  obtain ⟨hx, hb, hr, hml, hown, hts0, hX, hbl, hlocks, hgv⟩ := C0
  have hts : ∀ w ∈ wsL_law, w.before #[Value.ref b] s = true := fun w h9 => hts0 w (wsL_law_in w h9)
  obtain ⟨hK, hJ, ⟨hne, ho, hmn⟩, hdj, hgx, hgm⟩ := K0
  obtain ⟨⟨h1, h2, hz⟩, ⟨g, hPw⟩, ⟨t, hPm⟩, hS⟩ := V0
  have hbA : ¬ (fun x : Nat => s.heap.size ≤ x) b := Nat.not_le.mpr hbl
  rcases ix_count (xs (i + 1)) with hbad | ⟨u, hu, e1⟩
  · refine lv_aload_n hx hb dL_law_607 rfl (lv_at hl 2 rfl) ?_
    refine lv_aload_n hx hb dL_law_608 rfl (lv_at hl 1 rfl) ?_
    refine lv_iload hx hb dL_law_609 (lv_at hl 0 rfl) ?_
    refine lv_iconst (v := 1) hx hb dL_law_611 (by decide) ?_
    refine lv_iadd hx hb dL_law_612 ?_
    refine cl_asi (nI_add i 1) ?_
    refine cl_sld hx hb hX hbl hbA hS (show i + 1 < L by omega) (by omega) dL_law_613 ?_
    refine lv_aload_n hx hb dL_law_614 rfl (lv_at hl 4 rfl) ?_
    refine lk_same (xt_runSW (As := [.ref h, .int (xs (i + 1)), .ref o]) (rest := []) ⟨hx, hb, hml, hown, hts⟩ (v_count l hst dC dI h a cI N (pf_ D S) o cJ g (xs (i + 1)) hbad.1) (lk_cw 3 hts gL_law_L_count rfl rfl rfl (by decide +kernel) ⟨Nat.le_of_ble_eq_true rfl, Nat.le_of_ble_eq_true rfl⟩) (lk_preT hJ hS (hK.sub (tys' := [(cI, .int), (cJ, .long)]) [0, 1] rfl) hPw) rfl rfl hl.1 rfl (lv_room (Nat.le_of_ble_eq_true rfl)) dL_law_615 ⟨by show _ ≤ 1036; omega, by show _ ≤ 9771; omega⟩) hS hPw hPm (fun H locs hPw hPm hS => ?_)
    refine lv_istore (lv' := [(5, .int 1), (4, .int (nI i)), (0, .ref b), (1, .ref h), (2, .ref q), (3, .ref o)]) hx hb dL_law_618 hl (by decide) rfl (fun ls hl => ?_)
    refine lv_aload_n hx hb dL_law_620 rfl (lv_at hl 4 rfl) ?_
    refine lv_aload_n hx hb dL_law_621 rfl (lv_at hl 2 rfl) ?_
    refine lv_iload hx hb dL_law_622 (lv_at hl 1 rfl) ?_
    refine lv_iconst (v := 1) hx hb dL_law_624 (by decide) ?_
    refine lv_iadd hx hb dL_law_625 ?_
    refine cl_asi (nI_add i 1) ?_
    refine cl_sld hx hb hX hbl hbA hS (show i + 1 < L by omega) (by omega) dL_law_626 ?_
    refine lk_call (va_runV (As := [.int (xs (i + 1))]) (rest := []) ⟨hx, hb, hml, hown, hts0⟩ (e1_count l dC dI q qa qb cY cZ t N D S (xs (i + 1)) hbad.2 hmn) (cwV 1 hts0 gL_law_X1_count rfl rfl rfl (by decide +kernel) ⟨Nat.le_of_ble_eq_true rfl, Nat.le_of_ble_eq_true rfl⟩) (md_preV (hK.sub (tys' := [(cY, .boolean), (cZ, .boolean)]) [2, 3] rfl) hPm [.int (xs (i + 1))]) rfl rfl hl.1 rfl (lv_room (Nat.le_of_ble_eq_true rfl)) dL_law_627 ⟨by show _ ≤ 1036; omega, by show _ ≤ 9771; omega⟩) hS hgm hPw (lp_x hdj) (fun H locs hPm hPw hS => ?_)
    have hPm : va_P (dC, dI) vwCl (md_w q qa qb cY cZ 1 (nI N) D S) H := hPm
    refine lv_istore (lv' := [(6, .int (0 : Int32)), (5, .int 1), (4, .int (nI i)), (0, .ref b), (1, .ref h), (2, .ref q), (3, .ref o)]) hx hb dL_law_630 hl (by decide) rfl (fun ls hl => ?_)
    refine lv_aload_n hx hb dL_law_632 rfl (lv_at hl 5 rfl) ?_
    refine cl_calli (W.runV (As := []) (rest := []) ⟨hx, hb, hml, hown, hts⟩ (c1_thrown l dC dI q qa qb cY cZ 1 N D S) (cwV 0 hts gL_law_X1_thrown rfl rfl rfl (by decide +kernel) ⟨Nat.le_of_ble_eq_true rfl, Nat.le_of_ble_eq_true rfl⟩) (md_preV (hK.sub (tys' := [(cY, .boolean), (cZ, .boolean)]) [2, 3] rfl) hPm []) rfl rfl hl.1 rfl (lv_room (Nat.le_of_ble_eq_true rfl)) dL_law_633 ⟨by show _ ≤ 1036; omega, by show _ ≤ 9771; omega⟩) ?_
    refine lv_iload hx hb dL_law_636 (lv_at hl 1 rfl) ?_
    refine lv_icmp_eq (tgt := 643) hx hb dL_law_638 (by decide) (fun _ => ?_) (fun h9 => absurd rfl h9)
    refine lv_iload hx hb dL_law_643 (lv_at hl 1 rfl) ?_
    refine lv_if_ne (tgt := 660) hx hb dL_law_645 (by decide) (fun _ => ?_) (fun h9 => absurd h9 (by decide))
    refine lv_goto (tgt := 663) hx hb dL_law_660 (by decide) ?_
    refine W.widen (k := cells + 1) (n := slots + 6) (by omega) (by omega) ?_
    exact kk N D S H locs ls ⟨⟨h1, h2, hz⟩, ⟨_, hPw⟩, ⟨_, hPm⟩, hS⟩ (lv_sub hl [2, 3, 4, 5, 6] rfl)
  · match u, hu, e1 with
    | 0, _, e1 =>
      refine lv_aload_n hx hb dL_law_607 rfl (lv_at hl 2 rfl) ?_
      refine lv_aload_n hx hb dL_law_608 rfl (lv_at hl 1 rfl) ?_
      refine lv_iload hx hb dL_law_609 (lv_at hl 0 rfl) ?_
      refine lv_iconst (v := 1) hx hb dL_law_611 (by decide) ?_
      refine lv_iadd hx hb dL_law_612 ?_
      refine cl_asi (nI_add i 1) ?_
      refine cl_sld hx hb hX hbl hbA hS (show i + 1 < L by omega) (by omega) dL_law_613 ?_
      rw [e1]
      refine lv_aload_n hx hb dL_law_614 rfl (lv_at hl 4 rfl) ?_
      refine lk_call (xt_runSW (As := [.ref h, .int (nI 0), .ref o]) (rest := []) ⟨hx, hb, hml, hown, hts⟩ (w_count l dC dI h a cI N (pf_ D S) o cJ g hne ho 0 h1 h2 (by decide)) (lk_cw 3 hts gL_law_L_count rfl rfl rfl (by decide +kernel) ⟨Nat.le_of_ble_eq_true rfl, Nat.le_of_ble_eq_true rfl⟩) (lk_preS (hK.sub (tys' := [(cI, .int), (cJ, .long)]) [0, 1] rfl) hPw) rfl rfl hl.1 rfl (lv_room (Nat.le_of_ble_eq_true rfl)) dL_law_615 ⟨by show _ ≤ 1036; omega, by show _ ≤ 9771; omega⟩) hS hgx hPm (lp_m hdj) (fun H locs hPw hPm hS => ?_)
      have hPw : va_P (dC, dI) vwCl (wr_w h a cI (nI N) (pf_ D S) o cJ (vp_updL g 0 (Int32.toInt64 (cb_cnt (pf_ D S) N 0)))) H := hPw
      refine lv_istore (lv' := [(5, .int 0), (4, .int (nI i)), (0, .ref b), (1, .ref h), (2, .ref q), (3, .ref o)]) hx hb dL_law_618 hl (by decide) rfl (fun ls hl => ?_)
      refine lv_aload_n hx hb dL_law_620 rfl (lv_at hl 4 rfl) ?_
      refine lv_aload_n hx hb dL_law_621 rfl (lv_at hl 2 rfl) ?_
      refine lv_iload hx hb dL_law_622 (lv_at hl 1 rfl) ?_
      refine lv_iconst (v := 1) hx hb dL_law_624 (by decide) ?_
      refine lv_iadd hx hb dL_law_625 ?_
      refine cl_asi (nI_add i 1) ?_
      refine cl_sld hx hb hX hbl hbA hS (show i + 1 < L by omega) (by omega) dL_law_626 ?_
      rw [e1]
      refine lk_call (va_runV (As := [.int 0]) (rest := []) ⟨hx, hb, hml, hown, hts0⟩ (c1_count0 l dC dI q qa qb cY cZ t N D S h1 h2 hmn) (cwV 1 hts0 gL_law_X1_count rfl rfl rfl (by decide +kernel) ⟨Nat.le_of_ble_eq_true rfl, Nat.le_of_ble_eq_true rfl⟩) (md_preV (hK.sub (tys' := [(cY, .boolean), (cZ, .boolean)]) [2, 3] rfl) hPm [.int 0]) rfl rfl hl.1 rfl (lv_room (Nat.le_of_ble_eq_true rfl)) dL_law_627 ⟨by show _ ≤ 1036; omega, by show _ ≤ 9771; omega⟩) hS hgm hPw (lp_x hdj) (fun H locs hPm hPw hS => ?_)
      have hPm : va_P (dC, dI) vwCl (md_w q qa qb cY cZ 0 (nI N) D S) H := hPm
      refine lv_istore (lv' := [(6, .int (md_cnt D S N 0)), (5, .int 0), (4, .int (nI i)), (0, .ref b), (1, .ref h), (2, .ref q), (3, .ref o)]) hx hb dL_law_630 hl (by decide) rfl (fun ls hl => ?_)
      refine lv_aload_n hx hb dL_law_632 rfl (lv_at hl 5 rfl) ?_
      refine cl_calli (W.runV (As := []) (rest := []) ⟨hx, hb, hml, hown, hts⟩ (c1_thrown l dC dI q qa qb cY cZ 0 N D S) (cwV 0 hts gL_law_X1_thrown rfl rfl rfl (by decide +kernel) ⟨Nat.le_of_ble_eq_true rfl, Nat.le_of_ble_eq_true rfl⟩) (md_preV (hK.sub (tys' := [(cY, .boolean), (cZ, .boolean)]) [2, 3] rfl) hPm []) rfl rfl hl.1 rfl (lv_room (Nat.le_of_ble_eq_true rfl)) dL_law_633 ⟨by show _ ≤ 1036; omega, by show _ ≤ 9771; omega⟩) ?_
      refine lv_iload hx hb dL_law_636 (lv_at hl 1 rfl) ?_
      refine lv_icmp_eq (tgt := 643) hx hb dL_law_638 (by decide) (fun _ => ?_) (fun h9 => absurd rfl h9)
      refine lv_iload hx hb dL_law_643 (lv_at hl 1 rfl) ?_
      refine lv_if_ne (tgt := 660) hx hb dL_law_645 (by decide) (fun h9 => absurd rfl h9) (fun _ => ?_)
      refine lv_aload_n hx hb dL_law_648 rfl (lv_at hl 6 rfl) ?_
      refine lv_iconst (v := 0) hx hb dL_law_649 (by decide) ?_
      rw [pu_count h2 hz] at hPw
      refine lk_out (v := (Int32.toInt64 (md_cnt D S N 0))) hx hb hK rfl hPw dL_law_650 ?_
      refine lv_iload hx hb dL_law_651 (lv_at hl 0 rfl) ?_
      refine lv_i2l (v := Int32.toInt64 (md_cnt D S N 0)) hx hb dL_law_653 rfl ?_
      refine W.lcmp hx hb dL_law_654 ?_
      refine cl_asi (lk_cmp _) ?_
      refine lv_if_eq (tgt := 660) hx hb dL_law_655 (by decide) (fun _ => ?_) (fun h9 => absurd rfl h9)
      refine lv_goto (tgt := 663) hx hb dL_law_660 (by decide) ?_
      refine W.widen (k := cells + 1) (n := slots + 6) (by omega) (by omega) ?_
      exact kk N D S H locs ls ⟨⟨h1, h2, hz⟩, ⟨_, hPw⟩, ⟨_, hPm⟩, hS⟩ (lv_sub hl [2, 3, 4, 5, 6] rfl)
    | 1, _, e1 =>
      refine lv_aload_n hx hb dL_law_607 rfl (lv_at hl 2 rfl) ?_
      refine lv_aload_n hx hb dL_law_608 rfl (lv_at hl 1 rfl) ?_
      refine lv_iload hx hb dL_law_609 (lv_at hl 0 rfl) ?_
      refine lv_iconst (v := 1) hx hb dL_law_611 (by decide) ?_
      refine lv_iadd hx hb dL_law_612 ?_
      refine cl_asi (nI_add i 1) ?_
      refine cl_sld hx hb hX hbl hbA hS (show i + 1 < L by omega) (by omega) dL_law_613 ?_
      rw [e1]
      refine lv_aload_n hx hb dL_law_614 rfl (lv_at hl 4 rfl) ?_
      refine lk_call (xt_runSW (As := [.ref h, .int (nI 1), .ref o]) (rest := []) ⟨hx, hb, hml, hown, hts⟩ (w_count l dC dI h a cI N (pf_ D S) o cJ g hne ho 1 h1 h2 (by decide)) (lk_cw 3 hts gL_law_L_count rfl rfl rfl (by decide +kernel) ⟨Nat.le_of_ble_eq_true rfl, Nat.le_of_ble_eq_true rfl⟩) (lk_preS (hK.sub (tys' := [(cI, .int), (cJ, .long)]) [0, 1] rfl) hPw) rfl rfl hl.1 rfl (lv_room (Nat.le_of_ble_eq_true rfl)) dL_law_615 ⟨by show _ ≤ 1036; omega, by show _ ≤ 9771; omega⟩) hS hgx hPm (lp_m hdj) (fun H locs hPw hPm hS => ?_)
      have hPw : va_P (dC, dI) vwCl (wr_w h a cI (nI N) (pf_ D S) o cJ (vp_updL g 0 (Int32.toInt64 (cb_cnt (pf_ D S) N 1)))) H := hPw
      refine lv_istore (lv' := [(5, .int 0), (4, .int (nI i)), (0, .ref b), (1, .ref h), (2, .ref q), (3, .ref o)]) hx hb dL_law_618 hl (by decide) rfl (fun ls hl => ?_)
      refine lv_aload_n hx hb dL_law_620 rfl (lv_at hl 4 rfl) ?_
      refine lv_aload_n hx hb dL_law_621 rfl (lv_at hl 2 rfl) ?_
      refine lv_iload hx hb dL_law_622 (lv_at hl 1 rfl) ?_
      refine lv_iconst (v := 1) hx hb dL_law_624 (by decide) ?_
      refine lv_iadd hx hb dL_law_625 ?_
      refine cl_asi (nI_add i 1) ?_
      refine cl_sld hx hb hX hbl hbA hS (show i + 1 < L by omega) (by omega) dL_law_626 ?_
      rw [e1]
      refine lk_call (va_runV (As := [.int 1]) (rest := []) ⟨hx, hb, hml, hown, hts0⟩ (c1_count1 l dC dI q qa qb cY cZ t N D S h1 h2 hmn) (cwV 1 hts0 gL_law_X1_count rfl rfl rfl (by decide +kernel) ⟨Nat.le_of_ble_eq_true rfl, Nat.le_of_ble_eq_true rfl⟩) (md_preV (hK.sub (tys' := [(cY, .boolean), (cZ, .boolean)]) [2, 3] rfl) hPm [.int 1]) rfl rfl hl.1 rfl (lv_room (Nat.le_of_ble_eq_true rfl)) dL_law_627 ⟨by show _ ≤ 1036; omega, by show _ ≤ 9771; omega⟩) hS hgm hPw (lp_x hdj) (fun H locs hPm hPw hS => ?_)
      have hPm : va_P (dC, dI) vwCl (md_w q qa qb cY cZ 0 (nI N) D S) H := hPm
      refine lv_istore (lv' := [(6, .int (md_cnt D S N 1)), (5, .int 0), (4, .int (nI i)), (0, .ref b), (1, .ref h), (2, .ref q), (3, .ref o)]) hx hb dL_law_630 hl (by decide) rfl (fun ls hl => ?_)
      refine lv_aload_n hx hb dL_law_632 rfl (lv_at hl 5 rfl) ?_
      refine cl_calli (W.runV (As := []) (rest := []) ⟨hx, hb, hml, hown, hts⟩ (c1_thrown l dC dI q qa qb cY cZ 0 N D S) (cwV 0 hts gL_law_X1_thrown rfl rfl rfl (by decide +kernel) ⟨Nat.le_of_ble_eq_true rfl, Nat.le_of_ble_eq_true rfl⟩) (md_preV (hK.sub (tys' := [(cY, .boolean), (cZ, .boolean)]) [2, 3] rfl) hPm []) rfl rfl hl.1 rfl (lv_room (Nat.le_of_ble_eq_true rfl)) dL_law_633 ⟨by show _ ≤ 1036; omega, by show _ ≤ 9771; omega⟩) ?_
      refine lv_iload hx hb dL_law_636 (lv_at hl 1 rfl) ?_
      refine lv_icmp_eq (tgt := 643) hx hb dL_law_638 (by decide) (fun _ => ?_) (fun h9 => absurd rfl h9)
      refine lv_iload hx hb dL_law_643 (lv_at hl 1 rfl) ?_
      refine lv_if_ne (tgt := 660) hx hb dL_law_645 (by decide) (fun h9 => absurd rfl h9) (fun _ => ?_)
      refine lv_aload_n hx hb dL_law_648 rfl (lv_at hl 6 rfl) ?_
      refine lv_iconst (v := 0) hx hb dL_law_649 (by decide) ?_
      rw [pu_count h2 hz] at hPw
      refine lk_out (v := (Int32.toInt64 (md_cnt D S N 1))) hx hb hK rfl hPw dL_law_650 ?_
      refine lv_iload hx hb dL_law_651 (lv_at hl 0 rfl) ?_
      refine lv_i2l (v := Int32.toInt64 (md_cnt D S N 1)) hx hb dL_law_653 rfl ?_
      refine W.lcmp hx hb dL_law_654 ?_
      refine cl_asi (lk_cmp _) ?_
      refine lv_if_eq (tgt := 660) hx hb dL_law_655 (by decide) (fun _ => ?_) (fun h9 => absurd rfl h9)
      refine lv_goto (tgt := 663) hx hb dL_law_660 (by decide) ?_
      refine W.widen (k := cells + 1) (n := slots + 6) (by omega) (by omega) ?_
      exact kk N D S H locs ls ⟨⟨h1, h2, hz⟩, ⟨_, hPw⟩, ⟨_, hPm⟩, hS⟩ (lv_sub hl [2, 3, 4, 5, 6] rfl)
    | 2, _, e1 =>
      refine lv_aload_n hx hb dL_law_607 rfl (lv_at hl 2 rfl) ?_
      refine lv_aload_n hx hb dL_law_608 rfl (lv_at hl 1 rfl) ?_
      refine lv_iload hx hb dL_law_609 (lv_at hl 0 rfl) ?_
      refine lv_iconst (v := 1) hx hb dL_law_611 (by decide) ?_
      refine lv_iadd hx hb dL_law_612 ?_
      refine cl_asi (nI_add i 1) ?_
      refine cl_sld hx hb hX hbl hbA hS (show i + 1 < L by omega) (by omega) dL_law_613 ?_
      rw [e1]
      refine lv_aload_n hx hb dL_law_614 rfl (lv_at hl 4 rfl) ?_
      refine lk_call (xt_runSW (As := [.ref h, .int (nI 2), .ref o]) (rest := []) ⟨hx, hb, hml, hown, hts⟩ (w_count l dC dI h a cI N (pf_ D S) o cJ g hne ho 2 h1 h2 (by decide)) (lk_cw 3 hts gL_law_L_count rfl rfl rfl (by decide +kernel) ⟨Nat.le_of_ble_eq_true rfl, Nat.le_of_ble_eq_true rfl⟩) (lk_preS (hK.sub (tys' := [(cI, .int), (cJ, .long)]) [0, 1] rfl) hPw) rfl rfl hl.1 rfl (lv_room (Nat.le_of_ble_eq_true rfl)) dL_law_615 ⟨by show _ ≤ 1036; omega, by show _ ≤ 9771; omega⟩) hS hgx hPm (lp_m hdj) (fun H locs hPw hPm hS => ?_)
      have hPw : va_P (dC, dI) vwCl (wr_w h a cI (nI N) (pf_ D S) o cJ (vp_updL g 0 (Int32.toInt64 (cb_cnt (pf_ D S) N 2)))) H := hPw
      refine lv_istore (lv' := [(5, .int 0), (4, .int (nI i)), (0, .ref b), (1, .ref h), (2, .ref q), (3, .ref o)]) hx hb dL_law_618 hl (by decide) rfl (fun ls hl => ?_)
      refine lv_aload_n hx hb dL_law_620 rfl (lv_at hl 4 rfl) ?_
      refine lv_aload_n hx hb dL_law_621 rfl (lv_at hl 2 rfl) ?_
      refine lv_iload hx hb dL_law_622 (lv_at hl 1 rfl) ?_
      refine lv_iconst (v := 1) hx hb dL_law_624 (by decide) ?_
      refine lv_iadd hx hb dL_law_625 ?_
      refine cl_asi (nI_add i 1) ?_
      refine cl_sld hx hb hX hbl hbA hS (show i + 1 < L by omega) (by omega) dL_law_626 ?_
      rw [e1]
      refine lk_call (va_runV (As := [.int 2]) (rest := []) ⟨hx, hb, hml, hown, hts0⟩ (c1_count2 l dC dI q qa qb cY cZ t N D S h1 h2 hmn) (cwV 1 hts0 gL_law_X1_count rfl rfl rfl (by decide +kernel) ⟨Nat.le_of_ble_eq_true rfl, Nat.le_of_ble_eq_true rfl⟩) (md_preV (hK.sub (tys' := [(cY, .boolean), (cZ, .boolean)]) [2, 3] rfl) hPm [.int 2]) rfl rfl hl.1 rfl (lv_room (Nat.le_of_ble_eq_true rfl)) dL_law_627 ⟨by show _ ≤ 1036; omega, by show _ ≤ 9771; omega⟩) hS hgm hPw (lp_x hdj) (fun H locs hPm hPw hS => ?_)
      have hPm : va_P (dC, dI) vwCl (md_w q qa qb cY cZ 0 (nI N) D S) H := hPm
      refine lv_istore (lv' := [(6, .int (md_cnt D S N 2)), (5, .int 0), (4, .int (nI i)), (0, .ref b), (1, .ref h), (2, .ref q), (3, .ref o)]) hx hb dL_law_630 hl (by decide) rfl (fun ls hl => ?_)
      refine lv_aload_n hx hb dL_law_632 rfl (lv_at hl 5 rfl) ?_
      refine cl_calli (W.runV (As := []) (rest := []) ⟨hx, hb, hml, hown, hts⟩ (c1_thrown l dC dI q qa qb cY cZ 0 N D S) (cwV 0 hts gL_law_X1_thrown rfl rfl rfl (by decide +kernel) ⟨Nat.le_of_ble_eq_true rfl, Nat.le_of_ble_eq_true rfl⟩) (md_preV (hK.sub (tys' := [(cY, .boolean), (cZ, .boolean)]) [2, 3] rfl) hPm []) rfl rfl hl.1 rfl (lv_room (Nat.le_of_ble_eq_true rfl)) dL_law_633 ⟨by show _ ≤ 1036; omega, by show _ ≤ 9771; omega⟩) ?_
      refine lv_iload hx hb dL_law_636 (lv_at hl 1 rfl) ?_
      refine lv_icmp_eq (tgt := 643) hx hb dL_law_638 (by decide) (fun _ => ?_) (fun h9 => absurd rfl h9)
      refine lv_iload hx hb dL_law_643 (lv_at hl 1 rfl) ?_
      refine lv_if_ne (tgt := 660) hx hb dL_law_645 (by decide) (fun h9 => absurd rfl h9) (fun _ => ?_)
      refine lv_aload_n hx hb dL_law_648 rfl (lv_at hl 6 rfl) ?_
      refine lv_iconst (v := 0) hx hb dL_law_649 (by decide) ?_
      rw [pu_count h2 hz] at hPw
      refine lk_out (v := (Int32.toInt64 (md_cnt D S N 2))) hx hb hK rfl hPw dL_law_650 ?_
      refine lv_iload hx hb dL_law_651 (lv_at hl 0 rfl) ?_
      refine lv_i2l (v := Int32.toInt64 (md_cnt D S N 2)) hx hb dL_law_653 rfl ?_
      refine W.lcmp hx hb dL_law_654 ?_
      refine cl_asi (lk_cmp _) ?_
      refine lv_if_eq (tgt := 660) hx hb dL_law_655 (by decide) (fun _ => ?_) (fun h9 => absurd rfl h9)
      refine lv_goto (tgt := 663) hx hb dL_law_660 (by decide) ?_
      refine W.widen (k := cells + 1) (n := slots + 6) (by omega) (by omega) ?_
      exact kk N D S H locs ls ⟨⟨h1, h2, hz⟩, ⟨_, hPw⟩, ⟨_, hPm⟩, hS⟩ (lv_sub hl [2, 3, 4, 5, 6] rfl)
    | 3, _, e1 =>
      refine lv_aload_n hx hb dL_law_607 rfl (lv_at hl 2 rfl) ?_
      refine lv_aload_n hx hb dL_law_608 rfl (lv_at hl 1 rfl) ?_
      refine lv_iload hx hb dL_law_609 (lv_at hl 0 rfl) ?_
      refine lv_iconst (v := 1) hx hb dL_law_611 (by decide) ?_
      refine lv_iadd hx hb dL_law_612 ?_
      refine cl_asi (nI_add i 1) ?_
      refine cl_sld hx hb hX hbl hbA hS (show i + 1 < L by omega) (by omega) dL_law_613 ?_
      rw [e1]
      refine lv_aload_n hx hb dL_law_614 rfl (lv_at hl 4 rfl) ?_
      refine lk_call (xt_runSW (As := [.ref h, .int (nI 3), .ref o]) (rest := []) ⟨hx, hb, hml, hown, hts⟩ (w_count l dC dI h a cI N (pf_ D S) o cJ g hne ho 3 h1 h2 (by decide)) (lk_cw 3 hts gL_law_L_count rfl rfl rfl (by decide +kernel) ⟨Nat.le_of_ble_eq_true rfl, Nat.le_of_ble_eq_true rfl⟩) (lk_preS (hK.sub (tys' := [(cI, .int), (cJ, .long)]) [0, 1] rfl) hPw) rfl rfl hl.1 rfl (lv_room (Nat.le_of_ble_eq_true rfl)) dL_law_615 ⟨by show _ ≤ 1036; omega, by show _ ≤ 9771; omega⟩) hS hgx hPm (lp_m hdj) (fun H locs hPw hPm hS => ?_)
      have hPw : va_P (dC, dI) vwCl (wr_w h a cI (nI N) (pf_ D S) o cJ (vp_updL g 0 (Int32.toInt64 (cb_cnt (pf_ D S) N 3)))) H := hPw
      refine lv_istore (lv' := [(5, .int 0), (4, .int (nI i)), (0, .ref b), (1, .ref h), (2, .ref q), (3, .ref o)]) hx hb dL_law_618 hl (by decide) rfl (fun ls hl => ?_)
      refine lv_aload_n hx hb dL_law_620 rfl (lv_at hl 4 rfl) ?_
      refine lv_aload_n hx hb dL_law_621 rfl (lv_at hl 2 rfl) ?_
      refine lv_iload hx hb dL_law_622 (lv_at hl 1 rfl) ?_
      refine lv_iconst (v := 1) hx hb dL_law_624 (by decide) ?_
      refine lv_iadd hx hb dL_law_625 ?_
      refine cl_asi (nI_add i 1) ?_
      refine cl_sld hx hb hX hbl hbA hS (show i + 1 < L by omega) (by omega) dL_law_626 ?_
      rw [e1]
      refine lk_call (va_runV (As := [.int 3]) (rest := []) ⟨hx, hb, hml, hown, hts0⟩ (c1_count3 l dC dI q qa qb cY cZ t N D S h1 h2 hmn) (cwV 1 hts0 gL_law_X1_count rfl rfl rfl (by decide +kernel) ⟨Nat.le_of_ble_eq_true rfl, Nat.le_of_ble_eq_true rfl⟩) (md_preV (hK.sub (tys' := [(cY, .boolean), (cZ, .boolean)]) [2, 3] rfl) hPm [.int 3]) rfl rfl hl.1 rfl (lv_room (Nat.le_of_ble_eq_true rfl)) dL_law_627 ⟨by show _ ≤ 1036; omega, by show _ ≤ 9771; omega⟩) hS hgm hPw (lp_x hdj) (fun H locs hPm hPw hS => ?_)
      have hPm : va_P (dC, dI) vwCl (md_w q qa qb cY cZ 0 (nI N) D S) H := hPm
      refine lv_istore (lv' := [(6, .int (md_cnt D S N 3)), (5, .int 0), (4, .int (nI i)), (0, .ref b), (1, .ref h), (2, .ref q), (3, .ref o)]) hx hb dL_law_630 hl (by decide) rfl (fun ls hl => ?_)
      refine lv_aload_n hx hb dL_law_632 rfl (lv_at hl 5 rfl) ?_
      refine cl_calli (W.runV (As := []) (rest := []) ⟨hx, hb, hml, hown, hts⟩ (c1_thrown l dC dI q qa qb cY cZ 0 N D S) (cwV 0 hts gL_law_X1_thrown rfl rfl rfl (by decide +kernel) ⟨Nat.le_of_ble_eq_true rfl, Nat.le_of_ble_eq_true rfl⟩) (md_preV (hK.sub (tys' := [(cY, .boolean), (cZ, .boolean)]) [2, 3] rfl) hPm []) rfl rfl hl.1 rfl (lv_room (Nat.le_of_ble_eq_true rfl)) dL_law_633 ⟨by show _ ≤ 1036; omega, by show _ ≤ 9771; omega⟩) ?_
      refine lv_iload hx hb dL_law_636 (lv_at hl 1 rfl) ?_
      refine lv_icmp_eq (tgt := 643) hx hb dL_law_638 (by decide) (fun _ => ?_) (fun h9 => absurd rfl h9)
      refine lv_iload hx hb dL_law_643 (lv_at hl 1 rfl) ?_
      refine lv_if_ne (tgt := 660) hx hb dL_law_645 (by decide) (fun h9 => absurd rfl h9) (fun _ => ?_)
      refine lv_aload_n hx hb dL_law_648 rfl (lv_at hl 6 rfl) ?_
      refine lv_iconst (v := 0) hx hb dL_law_649 (by decide) ?_
      rw [pu_count h2 hz] at hPw
      refine lk_out (v := (Int32.toInt64 (md_cnt D S N 3))) hx hb hK rfl hPw dL_law_650 ?_
      refine lv_iload hx hb dL_law_651 (lv_at hl 0 rfl) ?_
      refine lv_i2l (v := Int32.toInt64 (md_cnt D S N 3)) hx hb dL_law_653 rfl ?_
      refine W.lcmp hx hb dL_law_654 ?_
      refine cl_asi (lk_cmp _) ?_
      refine lv_if_eq (tgt := 660) hx hb dL_law_655 (by decide) (fun _ => ?_) (fun h9 => absurd rfl h9)
      refine lv_goto (tgt := 663) hx hb dL_law_660 (by decide) ?_
      refine W.widen (k := cells + 1) (n := slots + 6) (by omega) (by omega) ?_
      exact kk N D S H locs ls ⟨⟨h1, h2, hz⟩, ⟨_, hPw⟩, ⟨_, hPm⟩, hS⟩ (lv_sub hl [2, 3, 4, 5, 6] rfl)
set_option maxHeartbeats 4000000 in
set_option maxRecDepth 100000 in
/-- the law's case clear -/
theorem lc_clear {p : Program} {l : Launch} {e : Env} {s : State} {m : MethodId} {below : List Frame} {meth : Method} {c : Code} {dC : Nat → ClassId} {dI : Nat → Nat → Nat} {b L : Nat} {xs : Nat → Int32} {h a o q qa qb : Nat} {cI cJ cY cZ : ClassId} (hst : l.stackTraces = false) (hL : L ≤ 1536) (C0 : lw_At p s m meth c b L xs) (K0 : lp_K s (dC, dI) h a o q qa qb cI cJ cY cZ) {N i cells slots : Nat} {D S : Nat → Bool} {H : Heap} {locs : List Loc} {ls : Array Slot} (hi : i + 3 ≤ L) (hcl : cells + 1 ≤ 1036) (hsl : slots + 6 ≤ 9771) (V0 : lp_V s (dC, dI) h a o q qa qb cI cJ cY cZ N D S H locs) (hl : lv_has ls 7 [(4, .int (nI i)), (0, .ref b), (1, .ref h), (2, .ref q), (3, .ref o)])
    (kk : ∀ (N : Nat) (D S : Nat → Bool) (H : Heap) (locs : List Loc) (ls : Array Slot), lp_V s (dC, dI) h a o q qa qb cI cJ cY cZ N D S H locs → lv_has ls 7 [(4, .int (nI i)), (0, .ref b), (1, .ref h), (2, .ref q), (3, .ref o)] → W p l e room_1 s m #[Value.ref b] below meth c H locs (cells + 1) (slots + 6) (lw_Z below #[Value.ref b] s) (F0 m 663 ls [])) : W p l e room_1 s m #[Value.ref b] below meth c H locs cells slots (lw_Z below #[Value.ref b] s) (F0 m 594 ls []) := by
  obtain ⟨hx, hb, hr, hml, hown, hts0, hX, hbl, hlocks, hgv⟩ := C0
  have hts : ∀ w ∈ wsL_law, w.before #[Value.ref b] s = true := fun w h9 => hts0 w (wsL_law_in w h9)
  obtain ⟨hK, hJ, ⟨hne, ho, hmn⟩, hdj, hgx, hgm⟩ := K0
  obtain ⟨⟨h1, h2, hz⟩, ⟨g, hPw⟩, ⟨t, hPm⟩, hS⟩ := V0
  have hbA : ¬ (fun x : Nat => s.heap.size ≤ x) b := Nat.not_le.mpr hbl
  refine lv_aload_n hx hb dL_law_594 rfl (lv_at hl 2 rfl) ?_
  have hPo := hPw.sub (ws' := ou_w o cJ g) [2] rfl
  refine lk_call (va_runV (As := []) (rest := []) ⟨hx, hb, hml, hown, hts⟩ (c_clear l dC dI h a cI N (pf_ D S) h1 h2 hne) (cwV 0 hts gL_law_X0_clear rfl rfl rfl (by decide +kernel) ⟨Nat.le_of_ble_eq_true rfl, Nat.le_of_ble_eq_true rfl⟩) (cb_preV (hK.sub (tys' := [(cI, .int)]) [0] rfl) (hPw.sub (ws' := cb_w h a cI (nI N) (pf_ D S)) [0, 1] rfl) []) rfl rfl hl.1 rfl (lv_room (Nat.le_of_ble_eq_true rfl)) dL_law_595 ⟨by show _ ≤ 1036; omega, by show _ ≤ 9771; omega⟩) hS (fun x h9 => hgx x (Or.inl h9)) (va_P.app hPo hPm) (lp_o ho hdj) (fun H locs hPx hP2 hS => ?_)
  have hPm : va_P (dC, dI) vwCl (md_w q qa qb cY cZ t (nI N) D S) H := hP2.sub [1, 2, 3] rfl
  have hPw : va_P (dC, dI) vwCl (wr_w h a cI (nI N) (cb_clr (pf_ D S) (cb_cc N)) o cJ g) H := va_P.app hPx (hP2.sub (ws' := ou_w o cJ g) [0] rfl)
  refine lv_aload_n hx hb dL_law_598 rfl (lv_at hl 3 rfl) ?_
  refine lk_call (va_runV (As := []) (rest := [.int (nI (cb_ct (pf_ D S) 3 (cb_cc N)))]) ⟨hx, hb, hml, hown, hts0⟩ (c1_clear l dC dI q qa qb cY cZ t N D S hmn) (cwV 0 hts0 gL_law_X1_clear rfl rfl rfl (by decide +kernel) ⟨Nat.le_of_ble_eq_true rfl, Nat.le_of_ble_eq_true rfl⟩) (md_preV (hK.sub (tys' := [(cY, .boolean), (cZ, .boolean)]) [2, 3] rfl) hPm []) rfl rfl hl.1 rfl (lv_room (Nat.le_of_ble_eq_true rfl)) dL_law_599 ⟨by show _ ≤ 1036; omega, by show _ ≤ 9771; omega⟩) hS hgm hPw (lp_x hdj) (fun H locs hPm hPw hS => ?_)
  have hPm : va_P (dC, dI) vwCl (md_w q qa qb cY cZ 0 (nI N) (md_cl D true 512) (md_cl S true 512)) H := hPm
  rw [pu_clr h2 hz] at hPw
  rw [pu_c3 h2 hz]
  refine lv_icmp_eq (tgt := 663) hx hb dL_law_602 (by decide) (fun _ => ?_) (fun h9 => absurd rfl h9)
  refine W.widen (k := cells + 1) (n := slots + 6) (by omega) (by omega) ?_
  exact kk N (md_cl D true 512) (md_cl S true 512) H locs ls ⟨⟨h1, h2, pz_gone h2 hz⟩, ⟨_, hPw⟩, ⟨_, hPm⟩, hS⟩ (lv_sub hl [0, 1, 2, 3, 4] rfl)
