section BFE
variable {h o x y : Nat} {d s e : Int32} {C N P O : Nat → Int32}
/-! the run: both sides go step by step, and end with one answer in one state -/
theorem bf_loop (N : Nat → Int32) : ∀ (m i h o x y : Nat) (d e : Int32) (C P O : Nat → Int32), i + m = 400 → h ≤ 10 → o ≤ 16 → x < 8 → y < 4 →
    ∃ (r : Int32) (h' o' x' y' : Nat) (d' s' e' : Int32) (C' P' O' : Nat → Int32), h' ≤ 10 ∧ o' ≤ 16 ∧
      (∀ post : Int32 → SX → Prop, post r (nI h', nI o', nI x', nI y', d', s', e', C', N, P', O') → wX_run_6 post (m + 1) (nI i) (nI h) (nI o) (nI x) (nI y) d (nI i) e C N P O) ∧
      (∀ post : Int32 → SY → Prop, post r (nI h', nI o', e', s', nI x', nI y', d', C', N, P', O') → wY_run_35 post (m + 1) (nI h) (nI o) e (nI i) (nI x) (nI y) d C N P O) := by
  intro m
  induction m with
  | zero =>
    intro i h o x y d e C P O hi hh ho hx hy
    have t : (400 : Int32) ≤ nI i := nI_le (a := 400) (by omega) (by omega)
    by_cases e0 : e = 0
    · exact ⟨2, h, o, x, y, d, nI i, 2, C, P, O, hh, ho, fun _ H => br_t t (br_t e0 H), fun _ H => br_t t (br_t e0 H)⟩
    · exact ⟨e, h, o, x, y, d, nI i, e, C, P, O, hh, ho, fun _ H => br_t t (br_f e0 H), fun _ H => br_t t (br_f e0 H)⟩
  | succ m ih =>
    intro i h o x y d e C P O hi hh ho hx hy
    have t : ¬ (400 : Int32) ≤ nI i := nI_ge (b := 400) (by omega) (by decide)
    by_cases e0 : e = 0
    · subst e0
      obtain ⟨h1, o1, x1, y1, d1, e1, C1, P1, O1, a1, a2, a3, a4, wX, wY⟩ := bf_work (d := d) (s := nI (i + 1)) (C := C) (N := N) (P := P) (O := O) (C (bf_j (nI x) (nI y))) hh ho hx hy
      have hj : 8 * nI y + nI x = nI (bf_j (nI x) (nI y)) := by rw [bf_jn hx hy, bf_yn]
      have hv : vp_in (8 * nI y + nI x) 32 := by rw [hj]; exact vp_in_nI (bf_j_lt _ _) (by decide)
      by_cases e1z : e1 = 0
      · subst e1z
        obtain ⟨r, h2, o2, x2, y2, d2, s2, e2, C2, P2, O2, b1, b2, kX, kY⟩ := ih (i + 1) h1 o1 (bf_mx d1 x1) (bf_my d1 y1) d1 0 C1 P1 O1 (by omega) a1 a2 (bf_mx_lt d1 a3) (bf_my_lt d1 a4)
        refine ⟨r, h2, o2, x2, y2, d2, s2, e2, C2, P2, O2, b1, b2, fun post H => ?_, fun post H => ?_⟩
        · refine br_f t (br_t rfl (nm_r (nI_1 i) ?_))
          refine bf_xread ?_
          refine wX _ ?_
          refine br_t rfl ?_
          refine bf_xmove a3 a4 ?_
          exact nm_r (nI_1 i) (kX post H)
        · refine br_f t (br_t rfl ⟨hv, nm_r (bf_a (f := C) hj (bf_jbig _ _)) (nm_r (nI_1 i) ?_)⟩)
          refine wY _ ?_
          refine br_t rfl ?_
          refine bf_ymove a3 a4 ?_
          exact kY post H
      · obtain ⟨r, h2, o2, x2, y2, d2, s2, e2, C2, P2, O2, b1, b2, kX, kY⟩ := ih (i + 1) h1 o1 x1 y1 d1 e1 C1 P1 O1 (by omega) a1 a2 a3 a4
        refine ⟨r, h2, o2, x2, y2, d2, s2, e2, C2, P2, O2, b1, b2, fun post H => ?_, fun post H => ?_⟩
        · refine br_f t (br_t rfl (nm_r (nI_1 i) ?_))
          refine bf_xread ?_
          refine wX _ ?_
          refine br_f e1z ?_
          exact nm_r (nI_1 i) (kX post H)
        · refine br_f t (br_t rfl ⟨hv, nm_r (bf_a (f := C) hj (bf_jbig _ _)) (nm_r (nI_1 i) ?_)⟩)
          refine wY _ ?_
          refine br_f e1z ?_
          exact kY post H
    · exact ⟨e, h, o, x, y, d, nI i, e, C, P, O, hh, ho, fun _ H => br_f t (br_f e0 (br_f e0 H)), fun _ H => br_f t (br_f e0 (br_f e0 H))⟩
/-! put, putThree, get -/
theorem bf_jyn {p q : Nat} (hp : p < 8) (hq : q < 4) : 8 * nI q + nI p = nI (bf_j (nI p) (nI q)) := by rw [bf_jn hp hq, bf_yn]
theorem bf_jyi {p q : Nat} (hp : p < 8) (hq : q < 4) : vp_in (8 * nI q + nI p) 32 := by
  rw [bf_jyn hp hq]; exact vp_in_nI (bf_j_lt _ _) (by decide)
theorem bf_q3 : ∀ q, q < 4 → nI q &&& 3 = nI q := by decide +kernel
theorem bf_jt (a : Int32) {q : Nat} (hq : q < 4) : 8 * nI q + (a &&& 7) = nI (bf_j a (nI q)) := by
  have := bf_jy a (nI q)
  rw [bf_q3 q hq] at this
  exact this
theorem bf_ji (a : Int32) {q : Nat} (hq : q < 4) : vp_in (8 * nI q + (a &&& 7)) 32 := by
  rw [bf_jt a hq]; exact vp_in_nI (bf_j_lt _ _) (by decide)
theorem bf_gle {n : Nat} {a : Int32} (hn : n + 1 < 2 ^ 31) (h : nI (n + 1) ≤ a) : ¬ a ≤ nI n := by
  rw [Int32.le_iff_toInt_le, nI_toInt hn] at h
  rw [Int32.le_iff_toInt_le, nI_toInt (by omega)]
  omega
theorem bf_put (a b c : Int32) : ∃ (r : Int32) (C' : Nat → Int32), (∀ post : Int32 → SX → Prop, post r (nI h, nI o, nI x, nI y, d, s, e, C', N, P, O) → wpX_put post (nI h, nI o, nI x, nI y, d, s, e, C, N, P, O) a b c) ∧ (∀ post : Int32 → SY → Prop, post r (nI h, nI o, e, s, nI x, nI y, d, C', N, P, O) → wpY_put post (nI h, nI o, e, s, nI x, nI y, d, C, N, P, O) a b c) := by
  rcases bf_cell (h := h) (o := o) (x := x) (y := y) (d := d) (s := s) (e := e) (C := C) (N := N) (P := P) (O := O) a b with ⟨p, q, hp, hq, rfl, rfl⟩ | ⟨nX, nY⟩
  · rcases pk_ix c (n := 32) (by decide) with hc | hc | ⟨j, hj, rfl⟩
    · refine ⟨-1, C, fun post H => ?_, fun post H => ?_⟩
      · unfold wpX_put
        dsimp only
        refine bf_xc1 hp hq ?_
        exact br_f (by decide) (br_t hc H)
      · unfold wpY_put
        dsimp only
        refine bf_yc1 hp hq ?_
        exact br_f (by decide) (br_t hc H)
    · refine ⟨-1, C, fun post H => ?_, fun post H => ?_⟩
      · unfold wpX_put
        dsimp only
        refine bf_xc1 hp hq ?_
        exact br_f (by decide) (br_f (bf_nn (by decide) hc) (br_f (bf_gle (n := 31) (by decide) hc) H))
      · unfold wpY_put
        dsimp only
        refine bf_yc1 hp hq ?_
        exact br_f (by decide) (br_f (bf_nn (by decide) hc) (br_f (bf_gle (n := 31) (by decide) hc) H))
    · refine ⟨C (bf_j (nI p) (nI q)), upd C (bf_j (nI p) (nI q)) (nI j &&& 31), fun post H => ?_, fun post H => ?_⟩
      · unfold wpX_put
        dsimp only
        refine bf_xc1 hp hq ?_
        refine br_f (by decide) (br_f (nI_pos (by omega)) (br_t (nI_le (b := 31) (by omega) (by decide)) ?_))
        refine bf_xread ?_
        exact bf_xwrite H
      · unfold wpY_put
        dsimp only
        refine bf_yc1 hp hq ?_
        refine br_f (by decide) (br_f (nI_pos (by omega)) (br_t (nI_le (b := 31) (by omega) (by decide)) ?_))
        refine ⟨bf_jyi hp hq, nm_r (bf_a (f := C) (bf_jyn hp hq) (bf_jbig _ _)) ⟨bf_jyi hp hq, nm_r ?_ H⟩⟩
        rw [bf_31 j hj]
        exact bf_u (bf_jyn hp hq) (bf_jbig _ _)
  · refine ⟨-1, C, fun post H => ?_, fun post H => ?_⟩
    · unfold wpX_put
      dsimp only
      refine nX _ ?_
      exact br_t rfl H
    · unfold wpY_put
      dsimp only
      refine nY _ ?_
      exact br_t rfl H
theorem bf_get (a b : Int32) : ∃ r : Int32, (∀ post : Int32 → Prop, post r → wpX_get post (nI h, nI o, nI x, nI y, d, s, e, C, N, P, O) a b) ∧ (∀ post : Int32 → Prop, post r → wpY_get post (nI h, nI o, e, s, nI x, nI y, d, C, N, P, O) a b) := by
  rcases bf_cell (h := h) (o := o) (x := x) (y := y) (d := d) (s := s) (e := e) (C := C) (N := N) (P := P) (O := O) a b with ⟨p, q, hp, hq, rfl, rfl⟩ | ⟨nX, nY⟩
  · refine ⟨C (bf_j (nI p) (nI q)), fun post H => ?_, fun post H => ?_⟩
    · unfold wpX_get
      dsimp only
      refine bf_xc1 hp hq ?_
      refine br_f (by decide) ?_
      exact bf_xread H
    · unfold wpY_get
      dsimp only
      refine bf_yc1 hp hq ?_
      refine br_f (by decide) ⟨bf_jyi hp hq, ?_⟩
      rw [bf_a (f := C) (bf_jyn hp hq) (bf_jbig _ _)]
      exact H
  · refine ⟨-1, fun post H => ?_, fun post H => ?_⟩
    · unfold wpX_get
      dsimp only
      refine nX _ ?_
      exact br_t rfl H
    · unfold wpY_get
      dsimp only
      refine nY _ ?_
      exact br_t rfl H
theorem bf_t0 {f : Nat → Int32} {p q : Nat} (c : Int32) (hq : q < 4) : upd f (8 * nI q + ((nI p + 0) &&& 7)).toNatClampNeg ((c >>> (((5 : Int32) * 0) &&& 31)) &&& 31) = upd f (bf_j (nI p) (nI q)) (c &&& 31) := by
  rw [show (5 : Int32) * 0 = 0 from by decide, sb_shr0, Int32.add_zero]
  exact bf_u (bf_jt _ hq) (bf_jbig _ _)
theorem bf_t1 {f : Nat → Int32} {p q : Nat} (c : Int32) (hq : q < 4) : upd f (8 * nI q + ((nI p + 1) &&& 7)).toNatClampNeg ((c >>> (((5 : Int32) * 1) &&& 31)) &&& 31) = upd f (bf_j (nI p + 1) (nI q)) ((c >>> ((5 : Int32) &&& 31)) &&& 31) := by
  rw [show (5 : Int32) * 1 = 5 from by decide]
  exact bf_u (bf_jt _ hq) (bf_jbig _ _)
theorem bf_t2 {f : Nat → Int32} {p q : Nat} (c : Int32) (hq : q < 4) : upd f (8 * nI q + ((nI p + 2) &&& 7)).toNatClampNeg ((c >>> (((5 : Int32) * 2) &&& 31)) &&& 31) = upd f (bf_j (nI p + 2) (nI q)) ((c >>> ((10 : Int32) &&& 31)) &&& 31) := by
  rw [show (5 : Int32) * 2 = 10 from by decide]
  exact bf_u (bf_jt _ hq) (bf_jbig _ _)
theorem bf_three (a b c : Int32) : ∃ (r : Int32) (C' : Nat → Int32), (∀ post : Int32 → SX → Prop, post r (nI h, nI o, nI x, nI y, d, s, e, C', N, P, O) → wpX_putThree post (nI h, nI o, nI x, nI y, d, s, e, C, N, P, O) a b c) ∧ (∀ post : Int32 → SY → Prop, post r (nI h, nI o, e, s, nI x, nI y, d, C', N, P, O) → wpY_putThree post (nI h, nI o, e, s, nI x, nI y, d, C, N, P, O) a b c) := by
  rcases bf_cell (h := h) (o := o) (x := x) (y := y) (d := d) (s := s) (e := e) (C := C) (N := N) (P := P) (O := O) a b with ⟨p, q, hp, hq, rfl, rfl⟩ | ⟨nX, nY⟩
  · by_cases h0 : c < 0
    · refine ⟨-1, C, fun post H => ?_, fun post H => ?_⟩
      · unfold wpX_putThree
        refine bf_xc1 hp hq ?_
        exact br_f (by decide) (br_t h0 H)
      · unfold wpY_putThree
        refine bf_yc1 hp hq ?_
        exact br_f (by decide) (br_t h0 H)
    · by_cases h1 : c ≤ 32767
      · refine ⟨0, upd (upd (upd C (bf_j (nI p) (nI q)) (c &&& 31)) (bf_j (nI p + 1) (nI q)) ((c >>> ((5 : Int32) &&& 31)) &&& 31)) (bf_j (nI p + 2) (nI q)) ((c >>> ((10 : Int32) &&& 31)) &&& 31), fun post H => ?_, fun post H => ?_⟩
        · unfold wpX_putThree
          refine bf_xc1 hp hq ?_
          refine br_f (by decide) (br_f h0 (br_t h1 ?_))
          refine bf_xwrite ?_
          refine bf_xwrite ?_
          exact bf_xwrite H
        · unfold wpY_putThree
          refine bf_yc1 hp hq ?_
          refine br_f (by decide) (br_f h0 (br_t h1 ⟨4, ?_⟩))
          refine br_f (by decide) ⟨bf_ji _ hq, nm_r (bf_t0 c hq) (nm_r (show (0 : Int32) + 1 = 1 from by decide) ?_)⟩
          refine br_f (by decide) ⟨bf_ji _ hq, nm_r (bf_t1 c hq) (nm_r (show (1 : Int32) + 1 = 2 from by decide) ?_)⟩
          refine br_f (by decide) ⟨bf_ji _ hq, nm_r (bf_t2 c hq) (nm_r (show (2 : Int32) + 1 = 3 from by decide) ?_)⟩
          exact br_t (by decide) H
      · refine ⟨-1, C, fun post H => ?_, fun post H => ?_⟩
        · unfold wpX_putThree
          refine bf_xc1 hp hq ?_
          exact br_f (by decide) (br_f h0 (br_f h1 H))
        · unfold wpY_putThree
          refine bf_yc1 hp hq ?_
          exact br_f (by decide) (br_f h0 (br_f h1 H))
  · refine ⟨-1, C, fun post H => ?_, fun post H => ?_⟩
    · unfold wpX_putThree
      refine nX _ ?_
      exact br_t rfl H
    · unfold wpY_putThree
      refine nY _ ?_
      exact br_t rfl H
/-! clear, digest -/
theorem bf_clr : ∀ (m i : Nat) (C : Nat → Int32), i + m = 32 → ∃ C' : Nat → Int32,
    (∀ post : SX → Prop, post (nI h, nI o, nI x, nI y, d, s, e, C', N, P, O) → wX_clear_2 post (nI h) (nI o) (nI x) (nI y) d s e (m + 1) (nI i) C N P O) ∧ (∀ post : SY → Prop, post (nI h, nI o, e, s, nI x, nI y, d, C', N, P, O) → wY_clear_2 post (nI h) (nI o) e s (nI x) (nI y) d (m + 1) (nI i) C N P O) := by
  intro m
  induction m with
  | zero =>
    intro i C hi
    have t : (32 : Int32) ≤ nI i := nI_le (a := 32) (by omega) (by omega)
    exact ⟨C, fun _ H => br_t t H, fun _ H => br_t t H⟩
  | succ m ih =>
    intro i C hi
    have t : ¬ (32 : Int32) ≤ nI i := nI_ge (b := 32) (by omega) (by decide)
    have hv : vp_in (nI i) 32 := vp_in_nI (by omega) (by decide)
    obtain ⟨C', kX, kY⟩ := ih (i + 1) (upd C i 0) (by omega)
    exact ⟨C', fun post H => br_f t ⟨hv, nm_r (bf_u rfl (by omega)) (nm_r (nI_1 i) (kX post H))⟩, fun post H => br_f t ⟨hv, nm_r (bf_u rfl (by omega)) (nm_r (nI_1 i) (kY post H))⟩⟩
theorem bf_dig : ∀ (m i : Nat) (t : Int32), i + m = 32 → ∃ r : Int32,
    (∀ post : Int32 → Prop, post r → wX_digest_4 post (nI h) (nI o) (nI x) (nI y) d s e C N P O (m + 1) t (nI i)) ∧ (∀ post : Int32 → Prop, post r → wY_digest_4 post (nI h) (nI o) e s (nI x) (nI y) d C N P O (m + 1) t (nI i)) := by
  intro m
  induction m with
  | zero =>
    intro i t hi
    have z : (32 : Int32) ≤ nI i := nI_le (a := 32) (by omega) (by omega)
    exact ⟨t, fun _ H => br_t z H, fun _ H => br_t z H⟩
  | succ m ih =>
    intro i t hi
    have z : ¬ (32 : Int32) ≤ nI i := nI_ge (b := 32) (by omega) (by decide)
    have hv : vp_in (nI i) 32 := vp_in_nI (by omega) (by decide)
    obtain ⟨r, kX, kY⟩ := ih (i + 1) (t + ((nI i + 1) * (C (nI i).toNatClampNeg))) (by omega)
    exact ⟨r, fun post H => br_f z ⟨hv, nm_e (nm_r (nI_1 i) (kX post H))⟩, fun post H => br_f z ⟨hv, nm_e (nm_r (nI_1 i) (kY post H))⟩⟩
end BFE
