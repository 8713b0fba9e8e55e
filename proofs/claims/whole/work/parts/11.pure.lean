/-! The class's marks and the reference's two rows say the same. -/
def pm_ (d s : Bool) : Int32 := (if d then (1 : Int32) else 0) + (if s then (2 : Int32) else 0)
def pf_ (D S : Nat → Bool) : Nat → Int32 := fun c => pm_ (D c) (S c)
/-- behind the last card nothing is marked -/
def pz_ (N : Nat) (D S : Nat → Bool) : Prop := ∀ c, cb_cc N ≤ c → D c = false ∧ S c = false
theorem pm_1 (d s : Bool) : (pm_ d s &&& 1 = 0) ↔ d = false := by cases d <;> cases s <;> decide
theorem pm_2 (d s : Bool) : (pm_ d s &&& 2 = 0) ↔ s = false := by cases d <;> cases s <;> decide
theorem pm_3 (d s : Bool) : (pm_ d s &&& 3 = 0) ↔ (d || s) = false := by cases d <;> cases s <;> decide
theorem pm_o1 (d s : Bool) : pm_ d s ||| 1 = pm_ true s := by cases d <;> cases s <;> decide
theorem pm_o2 (d s : Bool) : pm_ d s ||| 2 = pm_ d true := by cases d <;> cases s <;> decide
theorem pm_a1 (d s : Bool) : pm_ d s &&& (1 ^^^ (-1)) = pm_ false s := by cases d <;> cases s <;> decide
theorem pm_a2 (d s : Bool) : pm_ d s &&& (2 ^^^ (-1)) = pm_ d false := by cases d <;> cases s <;> decide
theorem pu_upd {D S : Nat → Bool} {k : Nat} (d s : Bool) : upd (pf_ D S) k (pm_ d s) = pf_ (md_u D k d) (md_u S k s) := by
  funext c
  unfold upd pf_ md_u
  by_cases h : c = k
  · rw [if_pos h, if_pos h, if_pos h]
  · rw [if_neg h, if_neg h, if_neg h]
theorem pu_write (D S : Nat → Bool) (k : Nat) : upd (pf_ D S) k (pf_ D S k ||| 1) = pf_ (md_u D k true) S := by
  have h : pf_ D S k ||| 1 = pm_ true (S k) := pm_o1 _ _
  rw [h, pu_upd, md_u_self]
theorem pu_unsave (D S : Nat → Bool) (k : Nat) : upd (pf_ D S) k (pf_ D S k &&& (2 ^^^ (-1))) = pf_ D (md_u S k false) := by
  have h : pf_ D S k &&& (2 ^^^ (-1)) = pm_ (D k) false := pm_a2 _ _
  rw [h, pu_upd, md_u_self]
theorem pu_clean (D S : Nat → Bool) (k : Nat) (b : Bool) : cb_cl (pf_ D S) k (md_b b) = pf_ (md_u D k false) (md_u S k (S k || (D k && b))) := by
  have h0 : pf_ D S k &&& (1 ^^^ (-1)) = pm_ false (S k) := pm_a1 _ _
  unfold cb_cl
  rw [h0]
  by_cases hd : pf_ D S k &&& 1 = 0 ∨ md_b b = 0
  · rw [if_pos hd, pu_upd]
    have h1 : (S k || (D k && b)) = S k := by
      rcases hd with hd | hd
      · have h2 : D k = false := (pm_1 _ _).mp hd
        rw [h2]
        simp
      · rw [md_b0 hd]
        simp
    rw [h1]
  · rw [if_neg hd, pm_o2, pu_upd]
    have h1 : (S k || (D k && b)) = true := by
      have h2 : D k = true := by
        cases h3 : D k
        · exact absurd (Or.inl ((pm_1 (D k) (S k)).mpr h3)) hd
        · rfl
      have h4 : b = true := md_b1 (fun h5 => hd (Or.inr h5))
      rw [h2, h4]
      simp
    rw [h1]
theorem pu_cover {D S : Nat → Bool} {j la M : Nat} (h : la < M) : cb_cov (pf_ D S) j (la + 1) = pf_ D (md_cv S j la M) := by
  funext c
  show (if j ≤ c ∧ c < la + 1 then pf_ D S c ||| 2 else pf_ D S c) = pm_ (D c) (md_cv S j la M c)
  by_cases h1 : j ≤ c ∧ c < la + 1
  · rw [if_pos h1]
    have h2 : md_cv S j la M c = true := by
      have a1 : c ≤ la := by omega
      have a2 : c < M := by omega
      simp [md_cv, h1.1, a1, a2]
    rw [h2]
    exact pm_o2 _ _
  · rw [if_neg h1]
    have h2 : md_cv S j la M c = S c := by
      by_cases a1 : j ≤ c
      · have a2 : ¬ c ≤ la := by omega
        simp [md_cv, a2]
      · simp [md_cv, a1]
    rw [h2]
    rfl
theorem pu_gone {N : Nat} {D S : Nat → Bool} (h2 : N ≤ 16384) (hz : pz_ N D S) : md_cl D true 512 = (fun _ => false) ∧ md_cl S true 512 = (fun _ => false) := by
  have hc := cb_cc_le h2
  constructor
  · funext c
    by_cases h : c < 512
    · simp [md_cl, h]
    · have := (hz c (by omega)).1
      simp [md_cl, this]
  · funext c
    by_cases h : c < 512
    · simp [md_cl, h]
    · have := (hz c (by omega)).2
      simp [md_cl, this]
theorem pu_clr {N : Nat} {D S : Nat → Bool} (h2 : N ≤ 16384) (hz : pz_ N D S) : cb_clr (pf_ D S) (cb_cc N) = pf_ (md_cl D true 512) (md_cl S true 512) := by
  obtain ⟨e1, e2⟩ := pu_gone h2 hz
  rw [e1, e2]
  funext c
  show (if c < cb_cc N then 0 else pf_ D S c) = pm_ false false
  by_cases h : c < cb_cc N
  · rw [if_pos h]
    decide
  · rw [if_neg h]
    obtain ⟨a1, a2⟩ := hz c (by omega)
    show pm_ (D c) (S c) = _
    rw [a1, a2]
theorem pz_gone {N n : Nat} {D S : Nat → Bool} (h2 : N ≤ 16384) (hz : pz_ N D S) : pz_ n (md_cl D true 512) (md_cl S true 512) := by
  obtain ⟨e1, e2⟩ := pu_gone h2 hz
  rw [e1, e2]
  exact fun _ _ => ⟨rfl, rfl⟩
theorem pz_u {N : Nat} {D S : Nat → Bool} {k : Nat} {d s : Bool} (hz : pz_ N D S) (hk : k < cb_cc N) : pz_ N (md_u D k d) (md_u S k s) := by
  intro c hc
  have h : ¬ c = k := by omega
  unfold md_u
  rw [if_neg h, if_neg h]
  exact hz c hc
theorem pz_d {N : Nat} {D S : Nat → Bool} {k : Nat} {d : Bool} (hz : pz_ N D S) (hk : k < cb_cc N) : pz_ N (md_u D k d) S := by
  have h := pz_u (d := d) (s := S k) hz hk
  rw [md_u_self] at h
  exact h
theorem pz_s {N : Nat} {D S : Nat → Bool} {k : Nat} {s : Bool} (hz : pz_ N D S) (hk : k < cb_cc N) : pz_ N D (md_u S k s) := by
  have h := pz_u (d := D k) (s := s) hz hk
  rw [md_u_self] at h
  exact h
theorem pz_cv {N : Nat} {D S : Nat → Bool} {j la : Nat} (hz : pz_ N D S) : pz_ N D (md_cv S j la (cb_cc N)) := by
  intro c hc
  obtain ⟨a1, a2⟩ := hz c hc
  have h : ¬ c < cb_cc N := by omega
  exact ⟨a1, by simp [md_cv, a2, h]⟩
theorem pu_ct {f : Nat → Int32} {v : Int32} {a b : Bool} {D S : Nat → Bool} (h : ∀ c, f c &&& v = 0 ↔ (a && D c || b && S c) = false) : ∀ i, cb_ct f v i = md_ct a b D S i := by
  intro i
  induction i with
  | zero => rfl
  | succ i ih =>
    by_cases h1 : f i &&& v = 0
    · rw [cb_ct_0 h1, md_ct_0 ((h i).mp h1), ih]
    · rw [cb_ct_1 h1, md_ct_1 (by
        cases h2 : (a && D i || b && S i)
        · exact absurd ((h i).mpr h2) h1
        · rfl), ih]
theorem pu_out {a b : Bool} {D S : Nat → Bool} {M : Nat} (hz : ∀ c, M ≤ c → D c = false ∧ S c = false) : ∀ k, md_ct a b D S (M + k) = md_ct a b D S M := by
  intro k
  induction k with
  | zero => rfl
  | succ k ih =>
    obtain ⟨a1, a2⟩ := hz (M + k) (by omega)
    rw [show M + (k + 1) = (M + k) + 1 by omega, md_ct_0 (by rw [a1, a2, Bool.and_false, Bool.and_false]; rfl), ih]
theorem pu_cnt {f : Nat → Int32} {v : Int32} {a b : Bool} {N : Nat} {D S : Nat → Bool} (h2 : N ≤ 16384) (hz : pz_ N D S) (h : ∀ c, f c &&& v = 0 ↔ (a && D c || b && S c) = false) : cb_ct f v (cb_cc N) = md_ct a b D S 512 := by
  have hc := cb_cc_le h2
  have h9 := pu_out (a := a) (b := b) hz (512 - cb_cc N)
  rw [show cb_cc N + (512 - cb_cc N) = 512 by omega] at h9
  rw [pu_ct h, h9]
theorem pu_c3 {N : Nat} {D S : Nat → Bool} (h2 : N ≤ 16384) (hz : pz_ N D S) : cb_ct (pf_ D S) 3 (cb_cc N) = md_ct true true D S 512 := pu_cnt h2 hz (fun c => by
  rw [Bool.true_and, Bool.true_and]
  exact pm_3 _ _)
theorem pu_c1 {N : Nat} {D S : Nat → Bool} (h2 : N ≤ 16384) (hz : pz_ N D S) : cb_ct (pf_ D S) 1 (cb_cc N) = md_ct true false D S 512 := pu_cnt h2 hz (fun c => by
  rw [Bool.true_and, Bool.false_and, Bool.or_false]
  exact pm_1 _ _)
theorem pu_c2 {N : Nat} {D S : Nat → Bool} (h2 : N ≤ 16384) (hz : pz_ N D S) : cb_ct (pf_ D S) 2 (cb_cc N) = md_ct false true D S 512 := pu_cnt h2 hz (fun c => by
  rw [Bool.true_and, Bool.false_and, Bool.false_or]
  exact pm_2 _ _)
theorem pu_count {N q : Nat} {D S : Nat → Bool} (h2 : N ≤ 16384) (hz : pz_ N D S) : cb_cnt (pf_ D S) N q = md_cnt D S N q := by
  match q with
  | 0 => rfl
  | 1 => rfl
  | 2 =>
    show nI (cb_ct (pf_ D S) 1 (cb_cc N)) = nI (md_ct true false D S 512)
    rw [pu_c1 h2 hz]
  | q + 3 =>
    show nI (cb_ct (pf_ D S) 2 (cb_cc N)) = nI (md_ct false true D S 512)
    rw [pu_c2 h2 hz]
theorem pu_fst {f : Nat → Int32} {v : Int32} {D : Nat → Bool} {M j : Nat} (hM : M ≤ 512) (h : ∀ c, f c &&& v = 0 ↔ D c = false) (hz : ∀ c, M ≤ c → D c = false) : ∀ (n i : Nat), 512 ≤ i + n → j ≤ i → i ≤ 512 → md_fw D j i = cb_fw f v i M := by
  intro n
  induction n with
  | zero =>
    intro i h1 h2 h3
    have h4 : i = 512 := by omega
    subst h4
    rw [md_fw_e, cb_fw_out hM]
  | succ n ih =>
    intro i h1 h2 h3
    by_cases h4 : i = 512
    · subst h4
      rw [md_fw_e, cb_fw_out hM]
    · have h5 : i < 512 := by omega
      cases hd : D i
      · rw [md_fw_0 h5 (by rw [hd]; exact fun h9 => Bool.false_ne_true h9.2), ih (i + 1) (by omega) (by omega) (by omega)]
        by_cases h6 : i < M
        · rw [cb_fw_0 h6 ((h i).mpr hd)]
        · rw [cb_fw_out (show M ≤ i by omega), cb_fw_out (show M ≤ i + 1 by omega)]
      · have h6 : i < M := by
          rcases Nat.lt_or_ge i M with q | q
          · exact q
          · rw [hz i q] at hd
            exact absurd hd Bool.false_ne_true
        rw [md_fw_1 h5 h2 hd, cb_fw_1 h6 (fun h9 => by rw [(h i).mp h9] at hd; exact absurd hd Bool.false_ne_true)]
theorem pu_skip {D : Nat → Bool} {j : Nat} : ∀ i, i ≤ j → i ≤ 512 → md_fw D j 0 = md_fw D j i := by
  intro i
  induction i with
  | zero => intro _ _; rfl
  | succ i ih =>
    intro h1 h2
    rw [ih (by omega) (by omega), md_fw_0 (by omega) (fun h9 => by omega)]
theorem pu_first {f : Nat → Int32} {v : Int32} {D : Nat → Bool} {M j : Nat} (hM : M ≤ 512) (h : ∀ c, f c &&& v = 0 ↔ D c = false) (hz : ∀ c, M ≤ c → D c = false) : cb_fw f v j M = md_fw D j 0 := by
  rcases Nat.lt_or_ge 512 j with q | q
  · rw [pu_skip 512 (by omega) (Nat.le_refl _), md_fw_e, cb_fw_out (by omega)]
  · rw [pu_skip j (Nat.le_refl _) q, pu_fst hM h hz 512 j (by omega) (Nat.le_refl _) q]
theorem pu_f1 {N j : Nat} {D S : Nat → Bool} (h2 : N ≤ 16384) (hz : pz_ N D S) : cb_fw (pf_ D S) 1 j (cb_cc N) = md_fw D j 0 := pu_first (cb_cc_le h2) (fun c => pm_1 _ _) (fun c hc => (hz c hc).1)
theorem pu_f2 {N j : Nat} {D S : Nat → Bool} (h2 : N ≤ 16384) (hz : pz_ N D S) : cb_fw (pf_ D S) 2 j (cb_cc N) = md_fw S j 0 := pu_first (cb_cc_le h2) (fun c => pm_2 _ _) (fun c hc => (hz c hc).2)
theorem pu_len {k z N : Nat} (hz : 1 ≤ z) (hk : k + z ≤ N) : md_n (k / 32) ((k + z - 1) / 32) (cb_cc N) = (k + z - 1) / 32 - k / 32 + 1 := by
  unfold md_n cb_cc
  have h1 : k / 32 ≤ (k + z - 1) / 32 := Nat.div_le_div_right (by omega)
  have h2 : (k + z - 1) / 32 ≤ (N - 1) / 32 := Nat.div_le_div_right (by omega)
  omega
theorem pu_r1 (D S : Nat → Bool) (k : Nat) : (if pf_ D S k &&& 1 = 0 then (0 : Int32) else 1) = md_b (D k) := by
  have h := pm_1 (D k) (S k)
  show (if pm_ (D k) (S k) &&& 1 = 0 then (0 : Int32) else 1) = md_b (D k)
  by_cases h1 : pm_ (D k) (S k) &&& 1 = 0
  · rw [if_pos h1, h.mp h1]; rfl
  · rw [if_neg h1]
    cases hd : D k
    · exact absurd (h.mpr hd) h1
    · rfl
theorem pu_r2 (D S : Nat → Bool) (k : Nat) : (if pf_ D S k &&& 2 = 0 then (0 : Int32) else 1) = md_b (S k) := by
  have h := pm_2 (D k) (S k)
  show (if pm_ (D k) (S k) &&& 2 = 0 then (0 : Int32) else 1) = md_b (S k)
  by_cases h1 : pm_ (D k) (S k) &&& 2 = 0
  · rw [if_pos h1, h.mp h1]; rfl
  · rw [if_neg h1]
    cases hd : S k
    · exact absurd (h.mpr hd) h1
    · rfl
