def i_Rel (k : Nat) (u : SX) (v : SY) : Prop := 
  ∃ (h o x y : Nat) (d s e : Int32) (C N P O : Nat → Int32), h ≤ 10 ∧ o ≤ 16 ∧ u = (nI h, nI o, nI x, nI y, d, s, e, C, N, P, O) ∧ v = (nI h, nI o, e, s, nI x, nI y, d, C, N, P, O)
theorem bf_mk {k h o x y : Nat} {d s e : Int32} {C N P O : Nat → Int32} (hh : h ≤ 10) (ho : o ≤ 16) : i_Rel k (nI h, nI o, nI x, nI y, d, s, e, C, N, P, O) (nI h, nI o, e, s, nI x, nI y, d, C, N, P, O) :=
  ⟨h, o, x, y, d, s, e, C, N, P, O, hh, ho, rfl, rfl⟩
theorem i_up {k : Nat} {u : SX} {v : SY} (h : i_Rel k u v) : i_Rel (k + 4) u v := h
theorem i_vc0 : wpX_init (fun u => wpY_init (fun v => i_Rel 0 u v)) := by
  unfold wpX_init
  unfold wpX_resetRun
  dsimp only
  exact bf_mk (k := 0) (h := 0) (o := 0) (x := 0) (y := 0) (by decide) (by decide)
theorem i_vc_put {k : Nat} {u : SX} {v : SY} (I : i_Rel k u v) (hk : k + 4 ≤ 2048) (v1 : Int32) (v2 : Int32) (v3 : Int32) : wpX_put (fun r u' => wpY_put (fun r' v' => r' = r ∧ i_Rel (k + 4) u' v') v v1 v2 v3) u v1 v2 v3 := by
  obtain ⟨h, o, x, y, d, s, e, C, N, P, O, hh, ho, rfl, rfl⟩ := I
  obtain ⟨r, C', kX, kY⟩ := bf_put (h := h) (o := o) (x := x) (y := y) (d := d) (s := s) (e := e) (C := C) (N := N) (P := P) (O := O) v1 v2 v3
  exact kX _ (kY _ ⟨rfl, bf_mk hh ho⟩)
theorem i_vc_putThree {k : Nat} {u : SX} {v : SY} (I : i_Rel k u v) (hk : k + 4 ≤ 2048) (v1 : Int32) (v2 : Int32) (v3 : Int32) : wpX_putThree (fun r u' => wpY_putThree (fun r' v' => r' = r ∧ i_Rel (k + 4) u' v') v v1 v2 v3) u v1 v2 v3 := by
  obtain ⟨h, o, x, y, d, s, e, C, N, P, O, hh, ho, rfl, rfl⟩ := I
  obtain ⟨r, C', kX, kY⟩ := bf_three (h := h) (o := o) (x := x) (y := y) (d := d) (s := s) (e := e) (C := C) (N := N) (P := P) (O := O) v1 v2 v3
  exact kX _ (kY _ ⟨rfl, bf_mk hh ho⟩)
theorem i_vc_get {k : Nat} {u : SX} {v : SY} (I : i_Rel k u v) (hk : k + 4 ≤ 2048) (v1 : Int32) (v2 : Int32) : wpX_get (fun r => wpY_get (fun r' => r' = r ∧ i_Rel (k + 4) u v) v v1 v2) u v1 v2 := by
  obtain ⟨h, o, x, y, d, s, e, C, N, P, O, hh, ho, rfl, rfl⟩ := I
  obtain ⟨r, kX, kY⟩ := bf_get (h := h) (o := o) (x := x) (y := y) (d := d) (s := s) (e := e) (C := C) (N := N) (P := P) (O := O) v1 v2
  exact kX _ (kY _ ⟨rfl, bf_mk hh ho⟩)
theorem i_vc_clear {k : Nat} {u : SX} {v : SY} (I : i_Rel k u v) (hk : k + 4 ≤ 2048) : wpX_clear (fun u' => wpY_clear (fun v' => i_Rel (k + 4) u' v') v) u := by
  obtain ⟨h, o, x, y, d, s, e, C, N, P, O, hh, ho, rfl, rfl⟩ := I
  obtain ⟨C', kX, kY⟩ := bf_clr (h := h) (o := o) (x := x) (y := y) (d := d) (s := s) (e := e) (N := N) (P := P) (O := O) 32 0 C rfl
  unfold wpX_clear
  dsimp only
  refine ⟨33, kX _ ?_⟩
  unfold wpY_clear
  dsimp only
  exact ⟨33, kY _ (bf_mk hh ho)⟩
theorem i_vc_input {k : Nat} {u : SX} {v : SY} (I : i_Rel k u v) (hk : k + 4 ≤ 2048) (v1 : Int32) (v2 : Int32) : wpX_input (fun r u' => wpY_input (fun r' v' => r' = r ∧ i_Rel (k + 4) u' v') v v1 v2) u v1 v2 := by
  obtain ⟨h, o, x, y, d, s, e, C, N, P, O, hh, ho, rfl, rfl⟩ := I
  rcases pk_ix v1 (n := 4) (by decide) with ha | ha | ⟨j, hj, rfl⟩
  · exact br_t ha (br_t ha ⟨rfl, bf_mk hh ho⟩)
  · have n0 := bf_nn (by decide) ha
    exact br_f n0 (br_f (Int32.not_lt.mpr ha) (br_f n0 (br_f (bf_gle (n := 3) (by decide) ha) ⟨rfl, bf_mk hh ho⟩)))
  · have n0 : ¬ nI j < 0 := nI_pos (by omega)
    have hv : vp_in (nI j) 4 := vp_in_nI hj (by decide)
    exact br_f n0 (br_t (nI_lt (b := 4) hj (by decide)) ⟨hv, nm_e (br_f n0 (br_t (nI_le (b := 3) (by omega) (by decide)) ⟨hv, nm_e ⟨rfl, bf_mk hh ho⟩⟩))⟩)
theorem i_vc_run {k : Nat} {u : SX} {v : SY} (I : i_Rel k u v) (hk : k + 4 ≤ 2048) : wpX_run (fun r u' => wpY_run (fun r' v' => r' = r ∧ i_Rel (k + 4) u' v') v) u := by
  obtain ⟨h, o, x, y, d, s, e, C, N, P, O, hh, ho, rfl, rfl⟩ := I
  obtain ⟨r, h1, o1, x1, y1, d1, s1, e1, C1, P1, O1, a1, a2, kX, kY⟩ := bf_loop N 400 0 0 0 0 0 0 0 C P O rfl (by decide) (by decide) (by decide) (by decide)
  unfold wpX_run
  unfold wpX_resetRun
  dsimp only
  refine ⟨401, kX _ ?_⟩
  unfold wpY_run
  dsimp only
  exact ⟨401, kY _ ⟨rfl, bf_mk a1 a2⟩⟩
theorem i_vc_ending {k : Nat} {u : SX} {v : SY} (I : i_Rel k u v) (hk : k + 4 ≤ 2048) : wpX_ending (fun r => wpY_ending (fun r' => r' = r ∧ i_Rel (k + 4) u v) v) u := by
  obtain ⟨h, o, x, y, d, s, e, C, N, P, O, hh, ho, rfl, rfl⟩ := I
  exact ⟨rfl, bf_mk hh ho⟩
theorem i_vc_steps {k : Nat} {u : SX} {v : SY} (I : i_Rel k u v) (hk : k + 4 ≤ 2048) : wpX_steps (fun r => wpY_steps (fun r' => r' = r ∧ i_Rel (k + 4) u v) v) u := by
  obtain ⟨h, o, x, y, d, s, e, C, N, P, O, hh, ho, rfl, rfl⟩ := I
  exact ⟨rfl, bf_mk hh ho⟩
theorem i_vc_height {k : Nat} {u : SX} {v : SY} (I : i_Rel k u v) (hk : k + 4 ≤ 2048) : wpX_height (fun r => wpY_height (fun r' => r' = r ∧ i_Rel (k + 4) u v) v) u := by
  obtain ⟨h, o, x, y, d, s, e, C, N, P, O, hh, ho, rfl, rfl⟩ := I
  exact ⟨rfl, bf_mk hh ho⟩
theorem i_vc_pile {k : Nat} {u : SX} {v : SY} (I : i_Rel k u v) (hk : k + 4 ≤ 2048) (v1 : Int32) : wpX_pile (fun r => wpY_pile (fun r' => r' = r ∧ i_Rel (k + 4) u v) v v1) u v1 := by
  obtain ⟨h, o, x, y, d, s, e, C, N, P, O, hh, ho, rfl, rfl⟩ := I
  rcases pk_ix v1 (n := h) (by omega) with ha | ha | ⟨j, hj, rfl⟩
  · exact br_t ha (br_t ha ⟨rfl, bf_mk hh ho⟩)
  · have n0 := bf_nn (by omega) ha
    exact br_f n0 (br_f (Int32.not_lt.mpr ha) (br_f n0 (br_t ha ⟨rfl, bf_mk hh ho⟩)))
  · have n0 : ¬ nI j < 0 := nI_pos (by omega)
    have hv : vp_in (nI j) 10 := vp_in_nI (by omega) (by decide)
    exact br_f n0 (br_t (nI_lt hj (by omega)) ⟨hv, br_f n0 (br_f (nI_ge hj (by omega)) ⟨hv, rfl, bf_mk hh ho⟩)⟩)
theorem i_vc_outputs {k : Nat} {u : SX} {v : SY} (I : i_Rel k u v) (hk : k + 4 ≤ 2048) : wpX_outputs (fun r => wpY_outputs (fun r' => r' = r ∧ i_Rel (k + 4) u v) v) u := by
  obtain ⟨h, o, x, y, d, s, e, C, N, P, O, hh, ho, rfl, rfl⟩ := I
  exact ⟨rfl, bf_mk hh ho⟩
theorem i_vc_output {k : Nat} {u : SX} {v : SY} (I : i_Rel k u v) (hk : k + 4 ≤ 2048) (v1 : Int32) : wpX_output (fun r => wpY_output (fun r' => r' = r ∧ i_Rel (k + 4) u v) v v1) u v1 := by
  obtain ⟨h, o, x, y, d, s, e, C, N, P, O, hh, ho, rfl, rfl⟩ := I
  rcases pk_ix v1 (n := o) (by omega) with ha | ha | ⟨j, hj, rfl⟩
  · exact br_t ha (br_t ha ⟨rfl, bf_mk hh ho⟩)
  · have n0 := bf_nn (by omega) ha
    exact br_f n0 (br_f (Int32.not_lt.mpr ha) (br_f n0 (br_t ha ⟨rfl, bf_mk hh ho⟩)))
  · have n0 : ¬ nI j < 0 := nI_pos (by omega)
    have hv : vp_in (nI j) 16 := vp_in_nI (by omega) (by decide)
    exact br_f n0 (br_t (nI_lt hj (by omega)) ⟨hv, br_f n0 (br_f (nI_ge hj (by omega)) ⟨hv, rfl, bf_mk hh ho⟩)⟩)
theorem i_vc_where {k : Nat} {u : SX} {v : SY} (I : i_Rel k u v) (hk : k + 4 ≤ 2048) : wpX_where (fun r => wpY_where (fun r' => r' = r ∧ i_Rel (k + 4) u v) v) u := by
  obtain ⟨h, o, x, y, d, s, e, C, N, P, O, hh, ho, rfl, rfl⟩ := I
  exact ⟨rfl, bf_mk hh ho⟩
theorem i_vc_digest {k : Nat} {u : SX} {v : SY} (I : i_Rel k u v) (hk : k + 4 ≤ 2048) : wpX_digest (fun r => wpY_digest (fun r' => r' = r ∧ i_Rel (k + 4) u v) v) u := by
  obtain ⟨h, o, x, y, d, s, e, C, N, P, O, hh, ho, rfl, rfl⟩ := I
  obtain ⟨r, kX, kY⟩ := bf_dig (h := h) (o := o) (x := x) (y := y) (d := d) (s := s) (e := e) (C := C) (N := N) (P := P) (O := O) 32 0 0 rfl
  unfold wpX_digest
  dsimp only
  refine ⟨33, kX _ ?_⟩
  unfold wpY_digest
  dsimp only
  exact ⟨33, kY _ ⟨rfl, bf_mk hh ho⟩⟩
