section
section BFA
/-! rows of kit/rows/PURE-ROWS, pasted -/
theorem pk_us {f : Nat → Int32} {k : Nat} {x : Int32} : upd f k x k = x := if_pos rfl
theorem pk_un {f : Nat → Int32} {k j : Nat} {x : Int32} (h : j ≠ k) : upd f k x j = f j := if_neg h
theorem pk_sub {a b : Nat} (h : b ≤ a) : nI a - nI b = nI (a - b) := by
  obtain ⟨c, rfl⟩ : ∃ c, a = c + b := ⟨a - b, by omega⟩
  rw [← nI_add, Int32.add_sub_cancel, Nat.add_sub_cancel]
theorem pk_m1 (n : Nat) : nI (n + 1) + (-1) = nI n := by
  rw [← nI_1, Int32.add_assoc, show (1 : Int32) + (-1) = 0 from rfl, Int32.add_zero]
theorem pk_mul (a b : Nat) : nI a * nI b = nI (a * b) := (Int32.ofNat_mul a b).symm
theorem pk_ix (x : Int32) {n : Nat} (hn : n < 2 ^ 31) : x < 0 ∨ nI n ≤ x ∨ ∃ j : Nat, j < n ∧ x = nI j := by
  by_cases h : x < 0
  · exact Or.inl h
  · obtain ⟨j, hj, rfl⟩ := nI_of h
    by_cases h2 : j < n
    · exact Or.inr (Or.inr ⟨j, h2, rfl⟩)
    · exact Or.inr (Or.inl (nI_le (by omega) hj))
theorem pk_le {x y : Int32} {A B : Prop} (a b : Nat) (f : a ≤ b → A) (g : b < a → B) (hx : x = nI a := by rfl) (hy : y = nI b := by rfl) (ha : a < 2 ^ 31 := by omega) (hb : b < 2 ^ 31 := by omega) : (x ≤ y → A) ∧ (¬ x ≤ y → B) := by
  subst hx hy
  rw [nI_leI ha hb]
  exact ⟨f, fun z => g (by omega)⟩
theorem pk_lt {x y : Int32} {A B : Prop} (a b : Nat) (f : a < b → A) (g : b ≤ a → B) (hx : x = nI a := by rfl) (hy : y = nI b := by rfl) (ha : a < 2 ^ 31 := by omega) (hb : b < 2 ^ 31 := by omega) : (x < y → A) ∧ (¬ x < y → B) := by
  subst hx hy
  rw [nI_ltI ha hb]
  exact ⟨f, fun z => g (by omega)⟩
theorem pk_eq {x y : Int32} {A B : Prop} (a b : Nat) (f : a = b → A) (g : a ≠ b → B) (hx : x = nI a := by rfl) (hy : y = nI b := by rfl) (ha : a < 2 ^ 31 := by omega) (hb : b < 2 ^ 31 := by omega) : (x = y → A) ∧ (¬ x = y → B) := by
  subst hx hy
  rw [nI_eq ha hb]
  exact ⟨f, g⟩
theorem pk_in {x : Int32} (n N : Nat) (h : n < N) (hx : x = nI n := by rfl) (hN : N < 2 ^ 31 := by omega) : vp_in x N := by
  subst hx
  exact vp_in_nI h hN
theorem pk_cl {x : Int32} (n : Nat) (hx : x = nI n := by rfl) (h : n < 2 ^ 31 := by omega) : x.toNatClampNeg = n := by
  subst hx
  exact nI_clamp h
theorem pk_tn {n : Nat} (h : n < 2 ^ 32) : (nI n).toBitVec.toNat = n := Nat.mod_eq_of_lt h
theorem pk_and (x : Int32) {m : Int32} (k : Nat) (hm : m.toBitVec.toNat = 2 ^ k - 1) : x &&& m = nI (x.toBitVec.toNat % 2 ^ k) := by
  apply Int32.toBitVec_inj.mp
  apply BitVec.eq_of_toNat_eq
  rw [Int32.toBitVec_and, BitVec.toNat_and, hm, Nat.and_two_pow_sub_one_eq_mod]
  show _ = (BitVec.ofNat 32 _).toNat
  rw [BitVec.toNat_ofNat]
  exact (Nat.mod_eq_of_lt (Nat.lt_of_le_of_lt (Nat.mod_le _ _) x.toBitVec.isLt)).symm
theorem pk_andN {n : Nat} (h : n < 2 ^ 32) {m : Int32} (k : Nat) (hm : m.toBitVec.toNat = 2 ^ k - 1) : nI n &&& m = nI (n % 2 ^ k) := by
  rw [pk_and _ k hm, pk_tn h]
theorem sb_shr0 (x : Int32) : x >>> ((0 : Int32) &&& 31) = x := by
  rw [show ((0 : Int32) &&& 31) = 0 by decide]
  simp
/-! the pure picture: pile, output, cells, place -/
def bf_v (P : Nat → Int32) (h : Nat) : Int32 := if h = 0 then 0 else P (h - 1)
def bf_h (h : Nat) : Nat := if h < 10 then h + 1 else h
def bf_e (h : Nat) (e : Int32) : Int32 := if h < 10 then e else 3
def bf_P (P : Nat → Int32) (h : Nat) (v : Int32) : Nat → Int32 := if h < 10 then upd P h v else P
def bf_o (o : Nat) : Nat := if o < 16 then o + 1 else o
def bf_oe (o : Nat) (e : Int32) : Int32 := if o < 16 then e else 4
def bf_O (O : Nat → Int32) (o : Nat) (v : Int32) : Nat → Int32 := if o < 16 then upd O o v else O
theorem bf_h_le {h : Nat} (hh : h ≤ 10) : bf_h h ≤ 10 := by unfold bf_h; split <;> omega
theorem bf_o_le {o : Nat} (ho : o ≤ 16) : bf_o o ≤ 16 := by unfold bf_o; split <;> omega
theorem bf_e_lt {h : Nat} (hh : h < 10) (e : Int32) : bf_e h e = e := if_pos hh
def bf_j (a b : Int32) : Nat := a.toBitVec.toNat % 8 + 8 * (b.toBitVec.toNat % 4)
theorem bf_j_lt (a b : Int32) : bf_j a b < 32 := by unfold bf_j; omega
theorem bf_m7 (a : Int32) : a &&& 7 = nI (a.toBitVec.toNat % 8) := pk_and a 3 (by decide)
theorem bf_m3 (a : Int32) : a &&& 3 = nI (a.toBitVec.toNat % 4) := pk_and a 2 (by decide)
theorem bf_8m (n : Nat) : (8 : Int32) * nI n = nI (8 * n) := pk_mul 8 n
theorem bf_jx (a b : Int32) : (a &&& 7) + 8 * (b &&& 3) = nI (bf_j a b) := by
  rw [bf_m7, bf_m3, bf_8m, nI_add]; rfl
theorem bf_jy (a b : Int32) : 8 * (b &&& 3) + (a &&& 7) = nI (bf_j a b) := by
  rw [Int32.add_comm]; exact bf_jx a b
theorem bf_jn {x y : Nat} (hx : x < 8) (hy : y < 4) : bf_j (nI x) (nI y) = x + 8 * y := by
  unfold bf_j; rw [pk_tn (by omega), pk_tn (by omega)]; omega
theorem bf_yn (x y : Nat) : 8 * nI y + nI x = nI (x + 8 * y) := by
  rw [bf_8m, nI_add, Nat.add_comm]
def bf_mx (d : Int32) (x : Nat) : Nat := if d = 0 then (x + 1) % 8 else if d = 1 then (x + 7) % 8 else x
def bf_my (d : Int32) (y : Nat) : Nat := if d = 0 then y else if d = 1 then y else if d = 2 then (y + 1) % 4 else (y + 3) % 4
theorem bf_mx_lt {x : Nat} (d : Int32) (hx : x < 8) : bf_mx d x < 8 := by
  unfold bf_mx
  by_cases h0 : d = 0
  · rw [if_pos h0]; omega
  · rw [if_neg h0]
    by_cases h1 : d = 1
    · rw [if_pos h1]; omega
    · rw [if_neg h1]; omega
theorem bf_my_lt {y : Nat} (d : Int32) (hy : y < 4) : bf_my d y < 4 := by
  unfold bf_my
  by_cases h0 : d = 0
  · rw [if_pos h0]; omega
  · rw [if_neg h0]
    by_cases h1 : d = 1
    · rw [if_pos h1]; omega
    · rw [if_neg h1]
      by_cases h2 : d = 2
      · rw [if_pos h2]; omega
      · rw [if_neg h2]; omega
theorem bf_x1 : ∀ x, x < 8 → (nI x + 1) &&& 7 = nI ((x + 1) % 8) := by decide +kernel
theorem bf_x7s : ∀ x, x < 8 → (nI x - 1) &&& 7 = nI ((x + 7) % 8) := by decide +kernel
theorem bf_x7a : ∀ x, x < 8 → (nI x + 7) &&& 7 = nI ((x + 7) % 8) := by decide +kernel
theorem bf_y1 : ∀ y, y < 4 → (nI y + 1) &&& 3 = nI ((y + 1) % 4) := by decide +kernel
theorem bf_y3s : ∀ y, y < 4 → (nI y - 1) &&& 3 = nI ((y + 3) % 4) := by decide +kernel
theorem bf_y3a : ∀ y, y < 4 → (nI y + 3) &&& 3 = nI ((y + 3) % 4) := by decide +kernel
theorem bf_31 : ∀ c, c < 32 → nI c &&& 31 = nI c := by decide +kernel
theorem bf_a {f : Nat → Int32} {j : Int32} {n : Nat} (e : j = nI n) (hn : n < 2 ^ 31) : f j.toNatClampNeg = f n := by rw [e, nI_clamp hn]
theorem bf_u {f : Nat → Int32} {j v : Int32} {n : Nat} (e : j = nI n) (hn : n < 2 ^ 31) : upd f j.toNatClampNeg v = upd f n v := by rw [e, nI_clamp hn]
end BFA
end
section
section BFB
variable {h o x y : Nat} {d s e : Int32} {C N P O : Nat → Int32}
theorem bf_v0 : bf_v P 0 = 0 := rfl
theorem bf_vs (k : Nat) : bf_v P (k + 1) = P k := by unfold bf_v; rw [if_neg (Nat.succ_ne_zero k), Nat.add_sub_cancel]
theorem bf_00 : ¬ (0 : Int32) < nI 0 := by decide +kernel
theorem bf_nil : ¬ nI 10 < 10 := by decide +kernel
theorem bf_n16 : ¬ nI 16 < 16 := by decide +kernel
theorem bf_ne {a b : Nat} (h : a < b) (hb : b < 2 ^ 31) : ¬ nI a = nI b := fun z => by
  have := (nI_eq (Nat.lt_trans h hb) hb).mp z
  omega
theorem bf_jbig (a b : Int32) : bf_j a b < 2 ^ 31 := Nat.lt_trans (bf_j_lt a b) (by decide)
theorem bf_jin (a b : Int32) : vp_in ((a &&& 7) + (8 * (b &&& 3))) 32 := by
  rw [bf_jx]; exact vp_in_nI (bf_j_lt a b) (by decide)
theorem bf_jiy (a b : Int32) : vp_in ((8 * (b &&& 3)) + (a &&& 7)) 32 := by
  rw [bf_jy]; exact vp_in_nI (bf_j_lt a b) (by decide)
theorem bf_in3 (a : Int32) : vp_in (a &&& 3) 4 := by
  rw [bf_m3]; exact vp_in_nI (Nat.mod_lt _ (by decide)) (by decide)
/-! pop and push -/
theorem bf_xpop {post : Int32 → SX → Prop} (hh : h ≤ 10) (H : post (bf_v P h) (nI (h - 1), nI o, nI x, nI y, d, s, e, C, N, P, O)) : wpX_pop post (nI h, nI o, nI x, nI y, d, s, e, C, N, P, O) := by
  by_cases z : h = 0
  · subst z
    exact br_f bf_00 H
  · obtain ⟨k, rfl⟩ : ∃ k, h = k + 1 := ⟨h - 1, by omega⟩
    rw [bf_vs, Nat.add_sub_cancel] at H
    refine br_t (nI_lt (a := 0) (Nat.succ_pos k) (by omega)) (nm_r (nI_pred k) ⟨vp_in_nI (by omega) (by decide), ?_⟩)
    rw [nI_clamp (by omega)]
    exact H
theorem bf_ypop {post : Int32 → SY → Prop} (hh : h ≤ 10) (H : post (bf_v P h) (nI (h - 1), nI o, e, s, nI x, nI y, d, C, N, P, O)) : wpY_pop post (nI h, nI o, e, s, nI x, nI y, d, C, N, P, O) := by
  by_cases z : h = 0
  · subst z
    exact br_t nI_0 H
  · obtain ⟨k, rfl⟩ : ∃ k, h = k + 1 := ⟨h - 1, by omega⟩
    rw [bf_vs, Nat.add_sub_cancel] at H
    refine br_f (nI_ne0 (Nat.succ_pos k) (by omega)) (nm_r (nI_pred k) ⟨vp_in_nI (by omega) (by decide), ?_⟩)
    rw [nI_clamp (by omega)]
    exact H
theorem bf_xpush {post : SX → Prop} {v : Int32} (hh : h ≤ 10) (H : post (nI (bf_h h), nI o, nI x, nI y, d, s, bf_e h e, C, N, bf_P P h v, O)) : wpX_push post (nI h, nI o, nI x, nI y, d, s, e, C, N, P, O) v := by
  by_cases c : h < 10
  · simp only [bf_h, bf_e, bf_P, if_pos c] at H
    exact br_t (nI_lt (b := 10) c (by decide)) ⟨vp_in_nI c (by decide), nm_r (bf_u rfl (by omega)) (nm_r (nI_1 h) H)⟩
  · simp only [bf_h, bf_e, bf_P, if_neg c] at H
    have z : h = 10 := by omega
    subst z
    exact br_f bf_nil H
theorem bf_ypush {post : SY → Prop} {v : Int32} (hh : h ≤ 10) (H : post (nI (bf_h h), nI o, bf_e h e, s, nI x, nI y, d, C, N, bf_P P h v, O)) : wpY_push post (nI h, nI o, e, s, nI x, nI y, d, C, N, P, O) v := by
  by_cases c : h < 10
  · simp only [bf_h, bf_e, bf_P, if_pos c] at H
    exact br_f (bf_ne (b := 10) c (by decide)) ⟨vp_in_nI c (by decide), nm_r (bf_u rfl (by omega)) (nm_r (nI_1 h) H)⟩
  · simp only [bf_h, bf_e, bf_P, if_neg c] at H
    have z : h = 10 := by omega
    subst z
    exact br_t rfl H
/-! the place moves -/
theorem bf_xmove {post : SX → Prop} (hx : x < 8) (hy : y < 4) (H : post (nI h, nI o, nI (bf_mx d x), nI (bf_my d y), d, s, e, C, N, P, O)) : wpX_movePlace post (nI h, nI o, nI x, nI y, d, s, e, C, N, P, O) := by
  by_cases d0 : d = 0
  · simp only [bf_mx, bf_my, if_pos d0] at H
    exact br_f (by rw [d0]; decide) (br_f (by rw [d0]; decide) (br_t d0 (nm_r (bf_x1 x hx) H)))
  · by_cases d1 : d = 1
    · simp only [bf_mx, bf_my, if_neg d0, if_pos d1] at H
      exact br_f (by rw [d1]; decide) (br_f (by rw [d1]; decide) (br_f d0 (br_t d1 (nm_r (bf_x7s x hx) H))))
    · by_cases d2 : d = 2
      · simp only [bf_mx, bf_my, if_neg d0, if_neg d1, if_pos d2] at H
        exact br_f (by rw [d2]; decide) (br_f (by rw [d2]; decide) (br_f d0 (br_f d1 (br_t d2 (nm_r (bf_y1 y hy) H)))))
      · simp only [bf_mx, bf_my, if_neg d0, if_neg d1, if_neg d2] at H
        by_cases dn : d < 0
        · exact br_t dn (nm_r (bf_y3s y hy) H)
        · have d3 : (2 : Int32) < d := by
            obtain ⟨j, hj, rfl⟩ := nI_of dn
            have a0 : j ≠ 0 := fun z => d0 (by subst z; rfl)
            have a1 : j ≠ 1 := fun z => d1 (by subst z; rfl)
            have a2 : j ≠ 2 := fun z => d2 (by subst z; rfl)
            exact nI_lt (a := 2) (by omega) hj
          exact br_f dn (br_t d3 (nm_r (bf_y3s y hy) H))
theorem bf_ymove {post : SY → Prop} (hx : x < 8) (hy : y < 4) (H : post (nI h, nI o, e, s, nI (bf_mx d x), nI (bf_my d y), d, C, N, P, O)) : wpY_move post (nI h, nI o, e, s, nI x, nI y, d, C, N, P, O) := by
  by_cases d0 : d = 0
  · simp only [bf_mx, bf_my, if_pos d0] at H
    exact br_t d0 (nm_r (bf_x1 x hx) H)
  · by_cases d1 : d = 1
    · simp only [bf_mx, bf_my, if_neg d0, if_pos d1] at H
      exact br_f d0 (br_t d1 (nm_r (bf_x7a x hx) H))
    · by_cases d2 : d = 2
      · simp only [bf_mx, bf_my, if_neg d0, if_neg d1, if_pos d2] at H
        exact br_f d0 (br_f d1 (br_t d2 (nm_r (bf_y1 y hy) H)))
      · simp only [bf_mx, bf_my, if_neg d0, if_neg d1, if_neg d2] at H
        exact br_f d0 (br_f d1 (br_f d2 (nm_r (bf_y3a y hy) H)))
/-! cells -/
theorem bf_xread {post : Int32 → Prop} {a b : Int32} (H : post (C (bf_j a b))) : wpX_readCell post (nI h, nI o, nI x, nI y, d, s, e, C, N, P, O) a b :=
  ⟨bf_jin a b, by rw [bf_a (f := C) (bf_jx a b) (bf_jbig a b)]; exact H⟩
theorem bf_xwrite {post : SX → Prop} {a b c : Int32} (H : post (nI h, nI o, nI x, nI y, d, s, e, upd C (bf_j a b) (c &&& 31), N, P, O)) : wpX_writeCell post (nI h, nI o, nI x, nI y, d, s, e, C, N, P, O) a b c :=
  ⟨bf_jin a b, nm_r (bf_u (bf_jx a b) (bf_jbig a b)) H⟩
theorem bf_nn {n : Nat} {a : Int32} (hn : n < 2 ^ 31) (h : nI n ≤ a) : ¬ a < 0 := by
  rw [Int32.le_iff_toInt_le, nI_toInt hn] at h
  rw [Int32.lt_iff_toInt_lt, show (0 : Int32).toInt = 0 from by decide]
  omega
theorem bf_gt {n : Nat} {a : Int32} (hn : n + 1 < 2 ^ 31) (h : nI (n + 1) ≤ a) : nI n < a := by
  rw [Int32.le_iff_toInt_le, nI_toInt hn] at h
  rw [Int32.lt_iff_toInt_lt, nI_toInt (by omega)]
  omega
theorem bf_xc1 {post : Int32 → Prop} (hx : x < 8) (hy : y < 4) (H : post 1) : wpX_isCell post (nI x) (nI y) :=
  br_f (nI_pos (by omega)) (br_f (nI_ge (b := 8) hx (by decide)) (br_f (nI_pos (by omega)) (br_f (nI_ge (b := 4) hy (by decide)) H)))
theorem bf_yc1 {post : Int32 → Prop} {a b : Nat} (ha : a < 8) (hb : b < 4) (H : post 1) : wpY_isCell post (nI h, nI o, e, s, nI x, nI y, d, C, N, P, O) (nI a) (nI b) :=
  br_f (nI_pos (by omega)) (br_f (nI_nlt (a := 7) (by omega) (by decide)) (br_f (nI_pos (by omega)) (br_f (nI_nlt (a := 3) (by omega) (by decide)) H)))
theorem bf_cell (a b : Int32) : (∃ p q : Nat, p < 8 ∧ q < 4 ∧ a = nI p ∧ b = nI q) ∨ ((∀ post : Int32 → Prop, post 0 → wpX_isCell post a b) ∧ (∀ post : Int32 → Prop, post 0 → wpY_isCell post (nI h, nI o, e, s, nI x, nI y, d, C, N, P, O) a b)) := by
  rcases pk_ix a (n := 8) (by decide) with ha | ha | ⟨p, hp, rfl⟩
  · exact Or.inr ⟨fun _ H => br_t ha H, fun _ H => br_t ha H⟩
  · exact Or.inr ⟨fun _ H => br_f (bf_nn (by decide) ha) (br_t ha H), fun _ H => br_f (bf_nn (by decide) ha) (br_t (bf_gt (n := 7) (by decide) ha) H)⟩
  · rcases pk_ix b (n := 4) (by decide) with hb | hb | ⟨q, hq, rfl⟩
    · exact Or.inr ⟨fun _ H => br_f (nI_pos (by omega)) (br_f (nI_ge (b := 8) hp (by decide)) (br_t hb H)), fun _ H => br_f (nI_pos (by omega)) (br_f (nI_nlt (a := 7) (by omega) (by decide)) (br_t hb H))⟩
    · exact Or.inr ⟨fun _ H => br_f (nI_pos (by omega)) (br_f (nI_ge (b := 8) hp (by decide)) (br_f (bf_nn (by decide) hb) (br_t hb H))), fun _ H => br_f (nI_pos (by omega)) (br_f (nI_nlt (a := 7) (by omega) (by decide)) (br_f (bf_nn (by decide) hb) (br_t (bf_gt (n := 3) (by decide) hb) H)))⟩
    · exact Or.inl ⟨p, q, hp, hq, rfl, rfl⟩
end BFB
end
section
section BFC
variable {h o x y : Nat} {d s e : Int32} {C N P O : Nat → Int32}
theorem bf_x10 {post : SX → Prop} (hh : h ≤ 10) (H : post (nI (bf_h (h - 1 - 1)), nI o, nI x, nI y, d, s, bf_e (h - 1 - 1) e, C, N, bf_P P (h - 1 - 1) (bf_v P (h - 1) + bf_v P h), O)) : wpX_workOffTwoNumbers post (nI h, nI o, nI x, nI y, d, s, e, C, N, P, O) 10 := by
  unfold wpX_workOffTwoNumbers
  dsimp only
  refine bf_xpop hh ?_
  dsimp only
  refine bf_xpop (by omega) ?_
  dsimp only
  refine br_f (by decide) (br_f (by decide) (br_t (by decide) ?_))
  exact bf_xpush (by omega) H
theorem bf_x11 {post : SX → Prop} (hh : h ≤ 10) (H : post (nI (bf_h (h - 1 - 1)), nI o, nI x, nI y, d, s, bf_e (h - 1 - 1) e, C, N, bf_P P (h - 1 - 1) (bf_v P (h - 1) - bf_v P h), O)) : wpX_workOffTwoNumbers post (nI h, nI o, nI x, nI y, d, s, e, C, N, P, O) 11 := by
  unfold wpX_workOffTwoNumbers
  dsimp only
  refine bf_xpop hh ?_
  dsimp only
  refine bf_xpop (by omega) ?_
  dsimp only
  refine br_f (by decide) (br_f (by decide) (br_f (by decide) (br_t (by decide) ?_)))
  exact bf_xpush (by omega) H
theorem bf_x12 {post : SX → Prop} (hh : h ≤ 10) (H : post (nI (bf_h (h - 1 - 1)), nI o, nI x, nI y, d, s, bf_e (h - 1 - 1) e, C, N, bf_P P (h - 1 - 1) (bf_v P (h - 1) * bf_v P h), O)) : wpX_workOffTwoNumbers post (nI h, nI o, nI x, nI y, d, s, e, C, N, P, O) 12 := by
  unfold wpX_workOffTwoNumbers
  dsimp only
  refine bf_xpop hh ?_
  dsimp only
  refine bf_xpop (by omega) ?_
  dsimp only
  refine br_f (by decide) (br_f (by decide) (br_f (by decide) (br_f (by decide) (br_t (by decide) ?_))))
  exact bf_xpush (by omega) H
theorem bf_x13 {post : SX → Prop} (hh : h ≤ 10) (H : post (nI (bf_h (h - 1 - 1)), nI o, nI x, nI y, d, s, bf_e (h - 1 - 1) e, C, N, bf_P P (h - 1 - 1) (if bf_v P (h - 1) ≤ bf_v P h then 0 else 1), O)) : wpX_workOffTwoNumbers post (nI h, nI o, nI x, nI y, d, s, e, C, N, P, O) 13 := by
  unfold wpX_workOffTwoNumbers
  dsimp only
  refine bf_xpop hh ?_
  dsimp only
  refine bf_xpop (by omega) ?_
  dsimp only
  refine br_f (by decide) (br_t (by decide) ?_)
  by_cases q : bf_v P (h - 1) ≤ bf_v P h
  · rw [if_pos q] at H
    refine br_t q ?_
    unfold wX_workOffTwoNumbers_77
    exact bf_xpush (by omega) H
  · rw [if_neg q] at H
    refine br_f q ?_
    unfold wX_workOffTwoNumbers_77
    exact bf_xpush (by omega) H
theorem bf_y10 {post : SY → Prop} (hh : h ≤ 10) (H : post (nI (bf_h (h - 1 - 1)), nI o, bf_e (h - 1 - 1) e, s, nI x, nI y, d, C, N, bf_P P (h - 1 - 1) (bf_v P (h - 1) + bf_v P h), O)) : wpY_operate post (nI h, nI o, e, s, nI x, nI y, d, C, N, P, O) 10 := by
  unfold wpY_operate
  dsimp only
  refine bf_ypop hh ?_
  dsimp only
  refine bf_ypop (by omega) ?_
  dsimp only
  refine br_t (by decide) ?_
  exact bf_ypush (by omega) H
theorem bf_y11 {post : SY → Prop} (hh : h ≤ 10) (H : post (nI (bf_h (h - 1 - 1)), nI o, bf_e (h - 1 - 1) e, s, nI x, nI y, d, C, N, bf_P P (h - 1 - 1) (bf_v P (h - 1) - bf_v P h), O)) : wpY_operate post (nI h, nI o, e, s, nI x, nI y, d, C, N, P, O) 11 := by
  unfold wpY_operate
  dsimp only
  refine bf_ypop hh ?_
  dsimp only
  refine bf_ypop (by omega) ?_
  dsimp only
  refine br_f (by decide) (br_t (by decide) ?_)
  exact bf_ypush (by omega) H
theorem bf_y12 {post : SY → Prop} (hh : h ≤ 10) (H : post (nI (bf_h (h - 1 - 1)), nI o, bf_e (h - 1 - 1) e, s, nI x, nI y, d, C, N, bf_P P (h - 1 - 1) (bf_v P (h - 1) * bf_v P h), O)) : wpY_operate post (nI h, nI o, e, s, nI x, nI y, d, C, N, P, O) 12 := by
  unfold wpY_operate
  dsimp only
  refine bf_ypop hh ?_
  dsimp only
  refine bf_ypop (by omega) ?_
  dsimp only
  refine br_f (by decide) (br_f (by decide) (br_t (by decide) ?_))
  exact bf_ypush (by omega) H
theorem bf_y13 {post : SY → Prop} (hh : h ≤ 10) (H : post (nI (bf_h (h - 1 - 1)), nI o, bf_e (h - 1 - 1) e, s, nI x, nI y, d, C, N, bf_P P (h - 1 - 1) (if bf_v P (h - 1) ≤ bf_v P h then 0 else 1), O)) : wpY_operate post (nI h, nI o, e, s, nI x, nI y, d, C, N, P, O) 13 := by
  unfold wpY_operate
  dsimp only
  refine bf_ypop hh ?_
  dsimp only
  refine bf_ypop (by omega) ?_
  dsimp only
  refine br_f (by decide) (br_f (by decide) (br_f (by decide) (br_t (by decide) ?_)))
  by_cases q : bf_v P (h - 1) ≤ bf_v P h
  · rw [if_pos q] at H
    refine br_t q ?_
    unfold wY_operate_75
    exact bf_ypush (by omega) H
  · rw [if_neg q] at H
    refine br_f q ?_
    unfold wY_operate_75
    exact bf_ypush (by omega) H
theorem bf_x15 {post : SX → Prop} (hh : h ≤ 10) (H : post (nI (bf_h (bf_h (h - 1 - 1))), nI o, nI x, nI y, d, s, bf_e (bf_h (h - 1 - 1)) (bf_e (h - 1 - 1) e), C, N, bf_P (bf_P P (h - 1 - 1) (bf_v P h)) (bf_h (h - 1 - 1)) (bf_v P (h - 1)), O)) : wpX_swapTopTwo post (nI h, nI o, nI x, nI y, d, s, e, C, N, P, O) := by
  unfold wpX_swapTopTwo
  dsimp only
  refine bf_xpop hh ?_
  dsimp only
  refine bf_xpop (by omega) ?_
  dsimp only
  skip
  refine bf_xpush (by omega) ?_
  dsimp only
  exact bf_xpush (bf_h_le (by omega)) H
theorem bf_y15 {post : SY → Prop} (hh : h ≤ 10) (H : post (nI (bf_h (bf_h (h - 1 - 1))), nI o, bf_e (bf_h (h - 1 - 1)) (bf_e (h - 1 - 1) e), s, nI x, nI y, d, C, N, bf_P (bf_P P (h - 1 - 1) (bf_v P h)) (bf_h (h - 1 - 1)) (bf_v P (h - 1)), O)) : wpY_operate post (nI h, nI o, e, s, nI x, nI y, d, C, N, P, O) 15 := by
  unfold wpY_operate
  dsimp only
  refine bf_ypop hh ?_
  dsimp only
  refine bf_ypop (by omega) ?_
  dsimp only
  refine br_f (by decide) (br_f (by decide) (br_f (by decide) (br_f (by decide) ?_)))
  refine bf_ypush (by omega) ?_
  dsimp only
  exact bf_ypush (bf_h_le (by omega)) H
theorem bf_x14 {post : SX → Prop} (hh : h ≤ 10) (H : post (nI (bf_h (bf_h (h - 1))), nI o, nI x, nI y, d, s, bf_e (bf_h (h - 1)) (bf_e (h - 1) e), C, N, bf_P (bf_P P (h - 1) (bf_v P h)) (bf_h (h - 1)) (bf_v P h), O)) : wpX_pushTopTwice post (nI h, nI o, nI x, nI y, d, s, e, C, N, P, O) := by
  unfold wpX_pushTopTwice
  dsimp only
  refine bf_xpop hh ?_
  dsimp only
  refine bf_xpush (by omega) ?_
  dsimp only
  exact bf_xpush (bf_h_le (by omega)) H
theorem bf_y14 {post : SY → Prop} (hh : h ≤ 10) (he : e = 0) (H : post (nI (bf_h (bf_h (h - 1))), nI o, bf_e (bf_h (h - 1)) (bf_e (h - 1) e), s, nI x, nI y, d, C, N, bf_P (bf_P P (h - 1) (bf_v P h)) (bf_h (h - 1)) (bf_v P h), O)) : wpY_twice post (nI h, nI o, e, s, nI x, nI y, d, C, N, P, O) := by
  unfold wpY_twice
  dsimp only
  refine bf_ypop hh ?_
  dsimp only
  refine bf_ypush (by omega) ?_
  dsimp only
  refine br_t ((bf_e_lt (by omega) e).trans he) ?_
  exact bf_ypush (bf_h_le (by omega)) H
theorem bf_x17 {post : SX → Prop} (hh : h ≤ 10) (H : post (nI (bf_h (h - 1)), nI o, nI x, nI y, d, s, bf_e (h - 1) e, C, N, bf_P P (h - 1) (if bf_v P h = 0 then 1 else 0), O)) : wpX_pushNot post (nI h, nI o, nI x, nI y, d, s, e, C, N, P, O) := by
  unfold wpX_pushNot
  dsimp only
  skip
  refine bf_xpop hh ?_
  dsimp only
  by_cases q : bf_v P h = 0
  · rw [if_pos q] at H
    refine br_t q ?_
    unfold wX_pushNot_15
    exact bf_xpush (by omega) H
  · rw [if_neg q] at H
    refine br_f q ?_
    unfold wX_pushNot_15
    exact bf_xpush (by omega) H
theorem bf_y17 {post : SY → Prop} (hh : h ≤ 10) (H : post (nI (bf_h (h - 1)), nI o, bf_e (h - 1) e, s, nI x, nI y, d, C, N, bf_P P (h - 1) (if bf_v P h = 0 then 1 else 0), O)) : wpY_single post (nI h, nI o, e, s, nI x, nI y, d, C, N, P, O) 17 := by
  unfold wpY_single
  dsimp only
  refine br_f (by decide) (br_t (by decide) ?_)
  refine bf_ypop hh ?_
  dsimp only
  by_cases q : bf_v P h = 0
  · rw [if_pos q] at H
    refine br_t q ?_
    unfold wY_single_35
    exact bf_ypush (by omega) H
  · rw [if_neg q] at H
    refine br_f q ?_
    unfold wY_single_35
    exact bf_ypush (by omega) H
theorem bf_x28 {post : SX → Prop} (hh : h ≤ 10) (H : post (nI (bf_h (h - 1)), nI o, nI x, nI y, d, s, bf_e (h - 1) e, C, N, bf_P P (h - 1) (N (bf_v P h &&& 3).toNatClampNeg), O)) : wpX_pushInput post (nI h, nI o, nI x, nI y, d, s, e, C, N, P, O) := by
  unfold wpX_pushInput
  dsimp only
  skip
  refine bf_xpop hh ?_
  dsimp only
  refine ⟨bf_in3 _, ?_⟩
  exact bf_xpush (by omega) H
theorem bf_y28 {post : SY → Prop} (hh : h ≤ 10) (H : post (nI (bf_h (h - 1)), nI o, bf_e (h - 1) e, s, nI x, nI y, d, C, N, bf_P P (h - 1) (N (bf_v P h &&& 3).toNatClampNeg), O)) : wpY_single post (nI h, nI o, e, s, nI x, nI y, d, C, N, P, O) 28 := by
  unfold wpY_single
  dsimp only
  refine br_f (by decide) (br_f (by decide) (br_t (by decide) ?_))
  refine bf_ypop hh ?_
  dsimp only
  refine ⟨bf_in3 _, ?_⟩
  exact bf_ypush (by omega) H
theorem bf_x25 {post : SX → Prop} (hh : h ≤ 10) (ho : o ≤ 16) (H : post (nI (h - 1), nI (bf_o o), nI x, nI y, d, s, bf_oe o e, C, N, P, bf_O O o (bf_v P h))) : wpX_appendOutput post (nI h, nI o, nI x, nI y, d, s, e, C, N, P, O) := by
  unfold wpX_appendOutput
  dsimp only
  refine bf_xpop hh ?_
  dsimp only
  by_cases c : o < 16
  · simp only [bf_o, bf_oe, bf_O, if_pos c] at H
    exact br_t (nI_lt (b := 16) c (by decide)) ⟨vp_in_nI c (by decide), nm_r (bf_u rfl (by omega)) (nm_r (nI_1 o) H)⟩
  · simp only [bf_o, bf_oe, bf_O, if_neg c] at H
    have z : o = 16 := by omega
    subst z
    exact br_f bf_n16 H
theorem bf_y25 {post : SY → Prop} (hh : h ≤ 10) (ho : o ≤ 16) (H : post (nI (h - 1), nI (bf_o o), bf_oe o e, s, nI x, nI y, d, C, N, P, bf_O O o (bf_v P h))) : wpY_write post (nI h, nI o, e, s, nI x, nI y, d, C, N, P, O) := by
  unfold wpY_write
  dsimp only
  refine bf_ypop hh ?_
  dsimp only
  by_cases c : o < 16
  · simp only [bf_o, bf_oe, bf_O, if_pos c] at H
    exact br_f (bf_ne (b := 16) c (by decide)) ⟨vp_in_nI c (by decide), nm_r (bf_u rfl (by omega)) (nm_r (nI_1 o) H)⟩
  · simp only [bf_o, bf_oe, bf_O, if_neg c] at H
    have z : o = 16 := by omega
    subst z
    exact br_t rfl H
theorem bf_x26 {post : SX → Prop} (hh : h ≤ 10) (H : post (nI (h - 1 - 1 - 1), nI o, nI x, nI y, d, s, e, upd C (bf_j (bf_v P (h - 1)) (bf_v P h)) (bf_v P (h - 1 - 1) &&& 31), N, P, O)) : wpX_writePoppedCell post (nI h, nI o, nI x, nI y, d, s, e, C, N, P, O) := by
  unfold wpX_writePoppedCell
  dsimp only
  refine bf_xpop hh ?_
  dsimp only
  refine bf_xpop (by omega) ?_
  dsimp only
  refine bf_xpop (by omega) ?_
  dsimp only
  exact bf_xwrite H
theorem bf_y26 {post : SY → Prop} (hh : h ≤ 10) (H : post (nI (h - 1 - 1 - 1), nI o, e, s, nI x, nI y, d, upd C (bf_j (bf_v P (h - 1)) (bf_v P h)) (bf_v P (h - 1 - 1) &&& 31), N, P, O)) : wpY_access post (nI h, nI o, e, s, nI x, nI y, d, C, N, P, O) 26 := by
  unfold wpY_access
  dsimp only
  refine bf_ypop hh ?_
  dsimp only
  refine bf_ypop (by omega) ?_
  dsimp only
  refine nm_e (br_t (by decide) ?_)
  refine bf_ypop (by omega) ?_
  dsimp only
  exact ⟨bf_jiy _ _, nm_r (bf_u (bf_jy _ _) (bf_jbig _ _)) H⟩
theorem bf_x27 {post : SX → Prop} (hh : h ≤ 10) (H : post (nI (bf_h (h - 1 - 1)), nI o, nI x, nI y, d, s, bf_e (h - 1 - 1) e, C, N, bf_P P (h - 1 - 1) (C (bf_j (bf_v P (h - 1)) (bf_v P h))), O)) : wpX_pushPoppedCell post (nI h, nI o, nI x, nI y, d, s, e, C, N, P, O) := by
  unfold wpX_pushPoppedCell
  dsimp only
  refine bf_xpop hh ?_
  dsimp only
  refine bf_xpop (by omega) ?_
  dsimp only
  refine bf_xread ?_
  exact bf_xpush (by omega) H
theorem bf_y27 {post : SY → Prop} (hh : h ≤ 10) (H : post (nI (bf_h (h - 1 - 1)), nI o, bf_e (h - 1 - 1) e, s, nI x, nI y, d, C, N, bf_P P (h - 1 - 1) (C (bf_j (bf_v P (h - 1)) (bf_v P h))), O)) : wpY_access post (nI h, nI o, e, s, nI x, nI y, d, C, N, P, O) 27 := by
  unfold wpY_access
  dsimp only
  refine bf_ypop hh ?_
  dsimp only
  refine bf_ypop (by omega) ?_
  dsimp only
  refine nm_e (br_f (by decide) ⟨bf_jiy _ _, ?_⟩)
  rw [bf_a (f := C) (bf_jy _ _) (bf_jbig _ _)]
  exact bf_ypush (by omega) H
theorem bf_x22 {post : SX → Prop} (hh : h ≤ 10) (H : post (nI (h - 1), nI o, nI x, nI y, if bf_v P h = 0 then 0 else 1, s, e, C, N, P, O)) : wpX_workOffWay post (nI h, nI o, nI x, nI y, d, s, e, C, N, P, O) 22 := by
  unfold wpX_workOffWay
  dsimp only
  refine br_f (by decide) (br_f (by decide) (br_f (by decide) (br_f (by decide) (br_f (by decide) (br_f (by decide) (br_t (by decide) ?_))))))
  refine bf_xpop hh ?_
  dsimp only
  by_cases q : bf_v P h = 0
  · rw [if_pos q] at H
    exact br_t q H
  · rw [if_neg q] at H
    exact br_f q H
theorem bf_y22 {post : SY → Prop} (hh : h ≤ 10) (H : post (nI (h - 1), nI o, e, s, nI x, nI y, if bf_v P h = 0 then 0 else 1, C, N, P, O)) : wpY_steer post (nI h, nI o, e, s, nI x, nI y, d, C, N, P, O) 22 := by
  unfold wpY_steer
  dsimp only
  refine br_t (by decide) ?_
  refine bf_ypop hh ?_
  dsimp only
  refine br_t (by decide) ?_
  unfold wY_steer_34
  by_cases q : bf_v P h = 0
  · rw [if_pos q] at H
    exact br_t q (nm_r (by decide) H)
  · rw [if_neg q] at H
    exact br_f q (nm_r (by decide) H)
theorem bf_x23 {post : SX → Prop} (hh : h ≤ 10) (H : post (nI (h - 1), nI o, nI x, nI y, if bf_v P h = 0 then 2 else 3, s, e, C, N, P, O)) : wpX_workOffWay post (nI h, nI o, nI x, nI y, d, s, e, C, N, P, O) 23 := by
  unfold wpX_workOffWay
  dsimp only
  refine br_f (by decide) (br_f (by decide) (br_f (by decide) (br_f (by decide) (br_f (by decide) (br_f (by decide) (br_f (by decide) (br_t (by decide) ?_)))))))
  refine bf_xpop hh ?_
  dsimp only
  by_cases q : bf_v P h = 0
  · rw [if_pos q] at H
    exact br_t q H
  · rw [if_neg q] at H
    exact br_f q H
theorem bf_y23 {post : SY → Prop} (hh : h ≤ 10) (H : post (nI (h - 1), nI o, e, s, nI x, nI y, if bf_v P h = 0 then 2 else 3, C, N, P, O)) : wpY_steer post (nI h, nI o, e, s, nI x, nI y, d, C, N, P, O) 23 := by
  unfold wpY_steer
  dsimp only
  refine br_t (by decide) ?_
  refine bf_ypop hh ?_
  dsimp only
  refine br_f (by decide) ?_
  unfold wY_steer_34
  by_cases q : bf_v P h = 0
  · rw [if_pos q] at H
    exact br_t q (nm_r (by decide) H)
  · rw [if_neg q] at H
    exact br_f q (nm_r (by decide) H)
end BFC
end
section
section BFD
variable {h o x y : Nat} {d s : Int32} {C N P O : Nat → Int32}
/-- at code c both sides work the step off, and end in one state -/
def bf_W (h o x y : Nat) (d s : Int32) (C N P O : Nat → Int32) (c : Int32) : Prop :=
  ∃ (h' o' x' y' : Nat) (d' e' : Int32) (C' P' O' : Nat → Int32), h' ≤ 10 ∧ o' ≤ 16 ∧ x' < 8 ∧ y' < 4 ∧
    (∀ post : SX → Prop, post (nI h', nI o', nI x', nI y', d', s, e', C', N, P', O') → wpX_workOff post (nI h, nI o, nI x, nI y, d, s, 0, C, N, P, O) c) ∧
    (∀ post : SY → Prop, post (nI h', nI o', e', s, nI x', nI y', d', C', N, P', O') → wpY_work post (nI h, nI o, 0, s, nI x, nI y, d, C, N, P, O) c)
theorem bf_w10 (hh : h ≤ 10) (ho : o ≤ 16) (hx : x < 8) (hy : y < 4) : bf_W h o x y d s C N P O 10 := by
  refine ⟨(bf_h (h - 1 - 1)), o, x, y, d, (bf_e (h - 1 - 1) 0), C, (bf_P P (h - 1 - 1) (bf_v P (h - 1) + bf_v P h)), O, bf_h_le (by omega), ho, hx, hy, fun post H => ?_, fun post H => ?_⟩
  · unfold wpX_workOff
    dsimp only
    refine br_f (by decide) (br_t (by decide) (br_f (by decide) (br_f (by decide) (?_))))
    exact bf_x10 hh H
  · unfold wpY_work
    dsimp only
    refine br_f (by decide) (br_t (by decide) (br_f (by decide) (br_t (by decide) (?_))))
    unfold wY_work_37
    exact bf_y10 hh H
theorem bf_w11 (hh : h ≤ 10) (ho : o ≤ 16) (hx : x < 8) (hy : y < 4) : bf_W h o x y d s C N P O 11 := by
  refine ⟨(bf_h (h - 1 - 1)), o, x, y, d, (bf_e (h - 1 - 1) 0), C, (bf_P P (h - 1 - 1) (bf_v P (h - 1) - bf_v P h)), O, bf_h_le (by omega), ho, hx, hy, fun post H => ?_, fun post H => ?_⟩
  · unfold wpX_workOff
    dsimp only
    refine br_f (by decide) (br_t (by decide) (br_f (by decide) (br_f (by decide) (?_))))
    exact bf_x11 hh H
  · unfold wpY_work
    dsimp only
    refine br_f (by decide) (br_t (by decide) (br_f (by decide) (br_t (by decide) (?_))))
    unfold wY_work_37
    exact bf_y11 hh H
theorem bf_w12 (hh : h ≤ 10) (ho : o ≤ 16) (hx : x < 8) (hy : y < 4) : bf_W h o x y d s C N P O 12 := by
  refine ⟨(bf_h (h - 1 - 1)), o, x, y, d, (bf_e (h - 1 - 1) 0), C, (bf_P P (h - 1 - 1) (bf_v P (h - 1) * bf_v P h)), O, bf_h_le (by omega), ho, hx, hy, fun post H => ?_, fun post H => ?_⟩
  · unfold wpX_workOff
    dsimp only
    refine br_f (by decide) (br_t (by decide) (br_f (by decide) (br_f (by decide) (?_))))
    exact bf_x12 hh H
  · unfold wpY_work
    dsimp only
    refine br_f (by decide) (br_t (by decide) (br_f (by decide) (br_t (by decide) (?_))))
    unfold wY_work_37
    exact bf_y12 hh H
theorem bf_w13 (hh : h ≤ 10) (ho : o ≤ 16) (hx : x < 8) (hy : y < 4) : bf_W h o x y d s C N P O 13 := by
  refine ⟨(bf_h (h - 1 - 1)), o, x, y, d, (bf_e (h - 1 - 1) 0), C, (bf_P P (h - 1 - 1) (if bf_v P (h - 1) ≤ bf_v P h then 0 else 1)), O, bf_h_le (by omega), ho, hx, hy, fun post H => ?_, fun post H => ?_⟩
  · unfold wpX_workOff
    dsimp only
    refine br_f (by decide) (br_t (by decide) (br_f (by decide) (br_f (by decide) (?_))))
    exact bf_x13 hh H
  · unfold wpY_work
    dsimp only
    refine br_f (by decide) (br_t (by decide) (br_f (by decide) (br_t (by decide) (?_))))
    unfold wY_work_37
    exact bf_y13 hh H
theorem bf_w14 (hh : h ≤ 10) (ho : o ≤ 16) (hx : x < 8) (hy : y < 4) : bf_W h o x y d s C N P O 14 := by
  refine ⟨(bf_h (bf_h (h - 1))), o, x, y, d, (bf_e (bf_h (h - 1)) (bf_e (h - 1) 0)), C, (bf_P (bf_P P (h - 1) (bf_v P h)) (bf_h (h - 1)) (bf_v P h)), O, bf_h_le (bf_h_le (by omega)), ho, hx, hy, fun post H => ?_, fun post H => ?_⟩
  · unfold wpX_workOff
    dsimp only
    refine br_f (by decide) (br_t (by decide) (br_f (by decide) (br_t (by decide) (br_f (by decide) (br_f (by decide) (?_))))))
    unfold wpX_workOffPile
    dsimp only
    refine br_f (by decide) (br_f (by decide) (br_t (by decide) (?_)))
    exact bf_x14 hh H
  · unfold wpY_work
    dsimp only
    refine br_f (by decide) (br_t (by decide) (br_f (by decide) (br_f (by decide) (br_f (by decide) (br_t (by decide) (?_))))))
    exact bf_y14 hh rfl H
theorem bf_w15 (hh : h ≤ 10) (ho : o ≤ 16) (hx : x < 8) (hy : y < 4) : bf_W h o x y d s C N P O 15 := by
  refine ⟨(bf_h (bf_h (h - 1 - 1))), o, x, y, d, (bf_e (bf_h (h - 1 - 1)) (bf_e (h - 1 - 1) 0)), C, (bf_P (bf_P P (h - 1 - 1) (bf_v P h)) (bf_h (h - 1 - 1)) (bf_v P (h - 1))), O, bf_h_le (bf_h_le (by omega)), ho, hx, hy, fun post H => ?_, fun post H => ?_⟩
  · unfold wpX_workOff
    dsimp only
    refine br_f (by decide) (br_t (by decide) (br_f (by decide) (br_t (by decide) (br_f (by decide) (br_f (by decide) (?_))))))
    unfold wpX_workOffPile
    dsimp only
    refine br_f (by decide) (br_f (by decide) (br_f (by decide) (br_t (by decide) (?_))))
    exact bf_x15 hh H
  · unfold wpY_work
    dsimp only
    refine br_f (by decide) (br_t (by decide) (br_f (by decide) (br_f (by decide) (br_t (by decide) (?_)))))
    unfold wY_work_37
    exact bf_y15 hh H
theorem bf_w16 (hh : h ≤ 10) (ho : o ≤ 16) (hx : x < 8) (hy : y < 4) : bf_W h o x y d s C N P O 16 := by
  refine ⟨(h - 1), o, x, y, d, 0, C, P, O, by omega, ho, hx, hy, fun post H => ?_, fun post H => ?_⟩
  · unfold wpX_workOff
    dsimp only
    refine br_f (by decide) (br_t (by decide) (br_f (by decide) (br_t (by decide) (br_f (by decide) (br_f (by decide) (?_))))))
    unfold wpX_workOffPile
    dsimp only
    refine br_f (by decide) (br_f (by decide) (br_f (by decide) (br_f (by decide) (br_t (by decide) (?_)))))
    exact bf_xpop hh H
  · unfold wpY_work
    dsimp only
    refine br_f (by decide) (br_t (by decide) (br_f (by decide) (br_f (by decide) (br_f (by decide) (br_f (by decide) (br_t (by decide) (br_f (by decide) (br_f (by decide) (br_f (by decide) (br_f (by decide) (br_f (by decide) (?_))))))))))))
    unfold wpY_single
    dsimp only
    refine br_t (by decide) ?_
    exact bf_ypop hh H
theorem bf_w17 (hh : h ≤ 10) (ho : o ≤ 16) (hx : x < 8) (hy : y < 4) : bf_W h o x y d s C N P O 17 := by
  refine ⟨(bf_h (h - 1)), o, x, y, d, (bf_e (h - 1) 0), C, (bf_P P (h - 1) (if bf_v P h = 0 then 1 else 0)), O, bf_h_le (by omega), ho, hx, hy, fun post H => ?_, fun post H => ?_⟩
  · unfold wpX_workOff
    dsimp only
    refine br_f (by decide) (br_t (by decide) (br_f (by decide) (br_t (by decide) (br_f (by decide) (br_f (by decide) (?_))))))
    unfold wpX_workOffPile
    dsimp only
    refine br_f (by decide) (br_t (by decide) (?_))
    exact bf_x17 hh H
  · unfold wpY_work
    dsimp only
    refine br_f (by decide) (br_t (by decide) (br_f (by decide) (br_f (by decide) (br_f (by decide) (br_f (by decide) (br_t (by decide) (br_f (by decide) (br_f (by decide) (br_f (by decide) (br_f (by decide) (br_f (by decide) (?_))))))))))))
    exact bf_y17 hh H
theorem bf_w18 (hh : h ≤ 10) (ho : o ≤ 16) (hx : x < 8) (hy : y < 4) : bf_W h o x y d s C N P O 18 := by
  refine ⟨h, o, x, y, 0, 0, C, P, O, hh, ho, hx, hy, fun post H => ?_, fun post H => ?_⟩
  · unfold wpX_workOff
    dsimp only
    refine br_f (by decide) (br_t (by decide) (br_f (by decide) (br_t (by decide) (br_f (by decide) (br_t (by decide) (br_f (by decide) (br_f (by decide) (?_))))))))
    unfold wpX_workOffWay
    dsimp only
    refine br_f (by decide) (br_f (by decide) (br_t (by decide) (?_)))
    exact H
  · unfold wpY_work
    dsimp only
    refine br_f (by decide) (br_t (by decide) (br_f (by decide) (br_f (by decide) (br_f (by decide) (br_f (by decide) (br_f (by decide) (br_f (by decide) (?_))))))))
    unfold wpY_steer
    dsimp only
    refine br_f (by decide) ?_
    exact nm_r (by decide) H
theorem bf_w19 (hh : h ≤ 10) (ho : o ≤ 16) (hx : x < 8) (hy : y < 4) : bf_W h o x y d s C N P O 19 := by
  refine ⟨h, o, x, y, 1, 0, C, P, O, hh, ho, hx, hy, fun post H => ?_, fun post H => ?_⟩
  · unfold wpX_workOff
    dsimp only
    refine br_f (by decide) (br_t (by decide) (br_f (by decide) (br_t (by decide) (br_f (by decide) (br_t (by decide) (br_f (by decide) (br_f (by decide) (?_))))))))
    unfold wpX_workOffWay
    dsimp only
    refine br_f (by decide) (br_f (by decide) (br_f (by decide) (br_t (by decide) (?_))))
    exact H
  · unfold wpY_work
    dsimp only
    refine br_f (by decide) (br_t (by decide) (br_f (by decide) (br_f (by decide) (br_f (by decide) (br_f (by decide) (br_f (by decide) (br_f (by decide) (?_))))))))
    unfold wpY_steer
    dsimp only
    refine br_f (by decide) ?_
    exact nm_r (by decide) H
theorem bf_w20 (hh : h ≤ 10) (ho : o ≤ 16) (hx : x < 8) (hy : y < 4) : bf_W h o x y d s C N P O 20 := by
  refine ⟨h, o, x, y, 2, 0, C, P, O, hh, ho, hx, hy, fun post H => ?_, fun post H => ?_⟩
  · unfold wpX_workOff
    dsimp only
    refine br_f (by decide) (br_t (by decide) (br_f (by decide) (br_t (by decide) (br_f (by decide) (br_t (by decide) (br_f (by decide) (br_f (by decide) (?_))))))))
    unfold wpX_workOffWay
    dsimp only
    refine br_f (by decide) (br_f (by decide) (br_f (by decide) (br_f (by decide) (br_t (by decide) (?_)))))
    exact H
  · unfold wpY_work
    dsimp only
    refine br_f (by decide) (br_t (by decide) (br_f (by decide) (br_f (by decide) (br_f (by decide) (br_f (by decide) (br_f (by decide) (br_f (by decide) (?_))))))))
    unfold wpY_steer
    dsimp only
    refine br_f (by decide) ?_
    exact nm_r (by decide) H
theorem bf_w21 (hh : h ≤ 10) (ho : o ≤ 16) (hx : x < 8) (hy : y < 4) : bf_W h o x y d s C N P O 21 := by
  refine ⟨h, o, x, y, 3, 0, C, P, O, hh, ho, hx, hy, fun post H => ?_, fun post H => ?_⟩
  · unfold wpX_workOff
    dsimp only
    refine br_f (by decide) (br_t (by decide) (br_f (by decide) (br_t (by decide) (br_f (by decide) (br_t (by decide) (br_f (by decide) (br_f (by decide) (?_))))))))
    unfold wpX_workOffWay
    dsimp only
    refine br_f (by decide) (br_f (by decide) (br_f (by decide) (br_f (by decide) (br_f (by decide) (br_t (by decide) (?_))))))
    exact H
  · unfold wpY_work
    dsimp only
    refine br_f (by decide) (br_t (by decide) (br_f (by decide) (br_f (by decide) (br_f (by decide) (br_f (by decide) (br_f (by decide) (br_f (by decide) (?_))))))))
    unfold wpY_steer
    dsimp only
    refine br_f (by decide) ?_
    exact nm_r (by decide) H
theorem bf_w22 (hh : h ≤ 10) (ho : o ≤ 16) (hx : x < 8) (hy : y < 4) : bf_W h o x y d s C N P O 22 := by
  refine ⟨(h - 1), o, x, y, (if bf_v P h = 0 then 0 else 1), 0, C, P, O, by omega, ho, hx, hy, fun post H => ?_, fun post H => ?_⟩
  · unfold wpX_workOff
    dsimp only
    refine br_f (by decide) (br_t (by decide) (br_f (by decide) (br_t (by decide) (br_f (by decide) (br_t (by decide) (br_f (by decide) (br_f (by decide) (?_))))))))
    exact bf_x22 hh H
  · unfold wpY_work
    dsimp only
    refine br_f (by decide) (br_t (by decide) (br_f (by decide) (br_f (by decide) (br_f (by decide) (br_f (by decide) (br_f (by decide) (br_f (by decide) (?_))))))))
    exact bf_y22 hh H
theorem bf_w23 (hh : h ≤ 10) (ho : o ≤ 16) (hx : x < 8) (hy : y < 4) : bf_W h o x y d s C N P O 23 := by
  refine ⟨(h - 1), o, x, y, (if bf_v P h = 0 then 2 else 3), 0, C, P, O, by omega, ho, hx, hy, fun post H => ?_, fun post H => ?_⟩
  · unfold wpX_workOff
    dsimp only
    refine br_f (by decide) (br_t (by decide) (br_f (by decide) (br_t (by decide) (br_f (by decide) (br_t (by decide) (br_f (by decide) (br_f (by decide) (?_))))))))
    exact bf_x23 hh H
  · unfold wpY_work
    dsimp only
    refine br_f (by decide) (br_t (by decide) (br_f (by decide) (br_f (by decide) (br_f (by decide) (br_f (by decide) (br_f (by decide) (br_f (by decide) (?_))))))))
    exact bf_y23 hh H
theorem bf_w24 (hh : h ≤ 10) (ho : o ≤ 16) (hx : x < 8) (hy : y < 4) : bf_W h o x y d s C N P O 24 := by
  refine ⟨h, o, (bf_mx d x), (bf_my d y), d, 0, C, P, O, hh, ho, bf_mx_lt d hx, bf_my_lt d hy, fun post H => ?_, fun post H => ?_⟩
  · unfold wpX_workOff
    dsimp only
    refine br_f (by decide) (br_t (by decide) (br_f (by decide) (br_t (by decide) (br_f (by decide) (br_t (by decide) (br_f (by decide) (br_f (by decide) (?_))))))))
    unfold wpX_workOffWay
    dsimp only
    refine br_f (by decide) (br_t (by decide) (?_))
    exact bf_xmove hx hy H
  · unfold wpY_work
    dsimp only
    refine br_f (by decide) (br_t (by decide) (br_f (by decide) (br_f (by decide) (br_f (by decide) (br_f (by decide) (br_f (by decide) (br_t (by decide) (br_t (by decide) (?_)))))))))
    exact bf_ymove hx hy H
theorem bf_w25 (hh : h ≤ 10) (ho : o ≤ 16) (hx : x < 8) (hy : y < 4) : bf_W h o x y d s C N P O 25 := by
  refine ⟨(h - 1), (bf_o o), x, y, d, (bf_oe o 0), C, P, (bf_O O o (bf_v P h)), by omega, bf_o_le ho, hx, hy, fun post H => ?_, fun post H => ?_⟩
  · unfold wpX_workOff
    dsimp only
    refine br_f (by decide) (br_t (by decide) (br_f (by decide) (br_t (by decide) (br_f (by decide) (br_t (by decide) (br_f (by decide) (br_t (by decide) (br_f (by decide) (br_f (by decide) (?_))))))))))
    unfold wpX_workOffOutside
    dsimp only
    refine br_f (by decide) (br_f (by decide) (br_t (by decide) (?_)))
    exact bf_x25 hh ho H
  · unfold wpY_work
    dsimp only
    refine br_f (by decide) (br_t (by decide) (br_f (by decide) (br_f (by decide) (br_f (by decide) (br_f (by decide) (br_f (by decide) (br_t (by decide) (br_f (by decide) (br_t (by decide) (?_))))))))))
    exact bf_y25 hh ho H
theorem bf_w26 (hh : h ≤ 10) (ho : o ≤ 16) (hx : x < 8) (hy : y < 4) : bf_W h o x y d s C N P O 26 := by
  refine ⟨(h - 1 - 1 - 1), o, x, y, d, 0, (upd C (bf_j (bf_v P (h - 1)) (bf_v P h)) (bf_v P (h - 1 - 1) &&& 31)), P, O, by omega, ho, hx, hy, fun post H => ?_, fun post H => ?_⟩
  · unfold wpX_workOff
    dsimp only
    refine br_f (by decide) (br_t (by decide) (br_f (by decide) (br_t (by decide) (br_f (by decide) (br_t (by decide) (br_f (by decide) (br_t (by decide) (br_f (by decide) (br_f (by decide) (?_))))))))))
    unfold wpX_workOffOutside
    dsimp only
    refine br_f (by decide) (br_f (by decide) (br_f (by decide) (br_t (by decide) (?_))))
    exact bf_x26 hh H
  · unfold wpY_work
    dsimp only
    refine br_f (by decide) (br_t (by decide) (br_f (by decide) (br_f (by decide) (br_f (by decide) (br_f (by decide) (br_f (by decide) (br_t (by decide) (br_f (by decide) (br_f (by decide) (br_t (by decide) (?_)))))))))))
    unfold wY_work_116
    exact bf_y26 hh H
theorem bf_w27 (hh : h ≤ 10) (ho : o ≤ 16) (hx : x < 8) (hy : y < 4) : bf_W h o x y d s C N P O 27 := by
  refine ⟨(bf_h (h - 1 - 1)), o, x, y, d, (bf_e (h - 1 - 1) 0), C, (bf_P P (h - 1 - 1) (C (bf_j (bf_v P (h - 1)) (bf_v P h)))), O, bf_h_le (by omega), ho, hx, hy, fun post H => ?_, fun post H => ?_⟩
  · unfold wpX_workOff
    dsimp only
    refine br_f (by decide) (br_t (by decide) (br_f (by decide) (br_t (by decide) (br_f (by decide) (br_t (by decide) (br_f (by decide) (br_t (by decide) (br_f (by decide) (br_f (by decide) (?_))))))))))
    unfold wpX_workOffOutside
    dsimp only
    refine br_f (by decide) (br_f (by decide) (br_f (by decide) (br_f (by decide) (br_t (by decide) (?_)))))
    exact bf_x27 hh H
  · unfold wpY_work
    dsimp only
    refine br_f (by decide) (br_t (by decide) (br_f (by decide) (br_f (by decide) (br_f (by decide) (br_f (by decide) (br_f (by decide) (br_t (by decide) (br_f (by decide) (br_f (by decide) (br_f (by decide) (br_t (by decide) (?_))))))))))))
    unfold wY_work_116
    exact bf_y27 hh H
theorem bf_w28 (hh : h ≤ 10) (ho : o ≤ 16) (hx : x < 8) (hy : y < 4) : bf_W h o x y d s C N P O 28 := by
  refine ⟨(bf_h (h - 1)), o, x, y, d, (bf_e (h - 1) 0), C, (bf_P P (h - 1) (N (bf_v P h &&& 3).toNatClampNeg)), O, bf_h_le (by omega), ho, hx, hy, fun post H => ?_, fun post H => ?_⟩
  · unfold wpX_workOff
    dsimp only
    refine br_f (by decide) (br_t (by decide) (br_f (by decide) (br_t (by decide) (br_f (by decide) (br_t (by decide) (br_f (by decide) (br_t (by decide) (br_f (by decide) (br_f (by decide) (?_))))))))))
    unfold wpX_workOffOutside
    dsimp only
    refine br_f (by decide) (br_f (by decide) (br_f (by decide) (br_f (by decide) (br_f (by decide) (br_t (by decide) (?_))))))
    exact bf_x28 hh H
  · unfold wpY_work
    dsimp only
    refine br_f (by decide) (br_t (by decide) (br_f (by decide) (br_f (by decide) (br_f (by decide) (br_f (by decide) (br_f (by decide) (br_t (by decide) (br_f (by decide) (br_f (by decide) (br_f (by decide) (br_f (by decide) (br_f (by decide) (?_)))))))))))))
    exact bf_y28 hh H
theorem bf_w29 (hh : h ≤ 10) (ho : o ≤ 16) (hx : x < 8) (hy : y < 4) : bf_W h o x y d s C N P O 29 := by
  refine ⟨h, o, x, y, d, 1, C, P, O, hh, ho, hx, hy, fun post H => ?_, fun post H => ?_⟩
  · unfold wpX_workOff
    dsimp only
    refine br_f (by decide) (br_t (by decide) (br_f (by decide) (br_t (by decide) (br_f (by decide) (br_t (by decide) (br_f (by decide) (br_t (by decide) (br_f (by decide) (br_f (by decide) (?_))))))))))
    unfold wpX_workOffOutside
    dsimp only
    refine br_f (by decide) (br_t (by decide) (?_))
    exact H
  · unfold wpY_work
    dsimp only
    refine br_f (by decide) (br_t (by decide) (br_f (by decide) (br_f (by decide) (br_f (by decide) (br_f (by decide) (br_f (by decide) (br_t (by decide) (br_f (by decide) (br_f (by decide) (br_f (by decide) (br_f (by decide) (br_t (by decide) (?_)))))))))))))
    exact H
theorem bf_i1 {c : Int32} (k : Int32) (hc : c.toInt < 1) (hk : 1 ≤ k.toInt := by decide) : c < k := by
  rw [Int32.lt_iff_toInt_lt]; omega
theorem bf_i2 {c : Int32} (k : Int32) (hc : c.toInt < 1) (hk : 1 ≤ k.toInt := by decide) : ¬ c = k := fun z => by
  rw [z] at hc; omega
theorem bf_i3 {c : Int32} (k : Int32) (hc : 29 < c.toInt) (hk : k.toInt ≤ 29 := by decide) : k < c := by
  rw [Int32.lt_iff_toInt_lt]; omega
theorem bf_i4 {c : Int32} (k : Int32) (hc : 29 < c.toInt) (hk : k.toInt ≤ 29 := by decide) : ¬ c < k := by
  rw [Int32.lt_iff_toInt_lt]; omega
theorem bf_i5 {c : Int32} (k : Int32) (hc : 29 < c.toInt) (hk : k.toInt ≤ 29 := by decide) : ¬ c ≤ k := by
  rw [Int32.le_iff_toInt_le]; omega
theorem bf_i6 {c : Int32} (k : Int32) (hc : 29 < c.toInt) (hk : k.toInt ≤ 29 := by decide) : ¬ c = k := fun z => by
  rw [z] at hc; omega
theorem bf_wlo {c : Int32} (hc : c.toInt < 1) (hh : h ≤ 10) (ho : o ≤ 16) (hx : x < 8) (hy : y < 4) : bf_W h o x y d s C N P O c := by
  refine ⟨h, o, x, y, d, 0, C, P, O, hh, ho, hx, hy, fun post H => ?_, fun post H => ?_⟩
  · unfold wpX_workOff
    dsimp only
    exact br_t (bf_i1 _ hc) (br_t (bf_i1 _ hc) (br_t (bf_i1 _ hc) (br_t (bf_i1 _ hc) (br_t (bf_i1 _ hc) H))))
  · unfold wpY_work
    dsimp only
    refine br_t (bf_i1 _ hc) (br_t (bf_i1 _ hc) (br_f (bf_i2 _ hc) (br_f (bf_i2 _ hc) (br_t (bf_i1 _ hc) (br_f (bf_i2 _ hc) (br_f (bf_i2 _ hc) (br_f (bf_i2 _ hc) (br_f (bf_i2 _ hc) (br_f (bf_i2 _ hc) ?_)))))))))
    unfold wpY_single
    dsimp only
    exact br_f (bf_i2 _ hc) (br_f (bf_i2 _ hc) (br_f (bf_i2 _ hc) H))
theorem bf_whi {c : Int32} (hc : 29 < c.toInt) (hh : h ≤ 10) (ho : o ≤ 16) (hx : x < 8) (hy : y < 4) : bf_W h o x y d s C N P O c := by
  refine ⟨h, o, x, y, d, 0, C, P, O, hh, ho, hx, hy, fun post H => ?_, fun post H => ?_⟩
  · unfold wpX_workOff
    dsimp only
    exact br_f (bf_i4 _ hc) (br_t (bf_i3 _ hc) (br_f (bf_i4 _ hc) (br_t (bf_i3 _ hc) (br_f (bf_i4 _ hc) (br_t (bf_i3 _ hc) (br_f (bf_i4 _ hc) (br_t (bf_i3 _ hc) (br_f (bf_i4 _ hc) (br_t (bf_i3 _ hc) H)))))))))
  · unfold wpY_work
    dsimp only
    refine br_f (bf_i4 _ hc) (br_t (bf_i3 _ hc) (br_f (bf_i4 _ hc) (br_f (bf_i5 _ hc) (br_f (bf_i6 _ hc) (br_f (bf_i6 _ hc) (br_f (bf_i4 _ hc) (br_t (bf_i3 _ hc) (br_f (bf_i6 _ hc) (br_f (bf_i6 _ hc) (br_f (bf_i6 _ hc) (br_f (bf_i6 _ hc) (br_f (bf_i6 _ hc) ?_))))))))))))
    unfold wpY_single
    dsimp only
    exact br_f (bf_i6 _ hc) (br_f (bf_i6 _ hc) (br_f (bf_i6 _ hc) H))
theorem bf_wnum {c : Int32} (h1 : ¬ c < 1) (h9 : ¬ 9 < c) (hh : h ≤ 10) (ho : o ≤ 16) (hx : x < 8) (hy : y < 4) : bf_W h o x y d s C N P O c := by
  refine ⟨bf_h h, o, x, y, d, bf_e h 0, C, bf_P P h c, O, bf_h_le hh, ho, hx, hy, fun post H => ?_, fun post H => ?_⟩
  · unfold wpX_workOff
    dsimp only
    exact br_f h1 (br_f h9 (bf_xpush hh H))
  · unfold wpY_work
    dsimp only
    exact br_f h1 (br_f h9 (bf_ypush hh H))
theorem bf_work (c : Int32) (hh : h ≤ 10) (ho : o ≤ 16) (hx : x < 8) (hy : y < 4) : bf_W h o x y d s C N P O c := by
  by_cases l : c.toInt < 1
  · exact bf_wlo l hh ho hx hy
  · by_cases g : 29 < c.toInt
    · exact bf_whi g hh ho hx hy
    · by_cases n : c.toInt ≤ 9
      · refine bf_wnum ?_ ?_ hh ho hx hy
        · rw [Int32.lt_iff_toInt_lt, show (1 : Int32).toInt = 1 from by decide]; omega
        · rw [Int32.lt_iff_toInt_lt, show (9 : Int32).toInt = 9 from by decide]; omega
      · have c0 : ¬ c < 0 := by
          rw [Int32.lt_iff_toInt_lt, show (0 : Int32).toInt = 0 from by decide]; omega
        obtain ⟨j, hj, rfl⟩ := nI_of c0
        rw [nI_toInt hj] at l g n
        have hj2 : j = 10 ∨ j = 11 ∨ j = 12 ∨ j = 13 ∨ j = 14 ∨ j = 15 ∨ j = 16 ∨ j = 17 ∨ j = 18 ∨ j = 19 ∨ j = 20 ∨ j = 21 ∨ j = 22 ∨ j = 23 ∨ j = 24 ∨ j = 25 ∨ j = 26 ∨ j = 27 ∨ j = 28 ∨ j = 29 := by omega
        rcases hj2 with rfl | rfl | rfl | rfl | rfl | rfl | rfl | rfl | rfl | rfl | rfl | rfl | rfl | rfl | rfl | rfl | rfl | rfl | rfl | rfl
        · exact bf_w10 hh ho hx hy
        · exact bf_w11 hh ho hx hy
        · exact bf_w12 hh ho hx hy
        · exact bf_w13 hh ho hx hy
        · exact bf_w14 hh ho hx hy
        · exact bf_w15 hh ho hx hy
        · exact bf_w16 hh ho hx hy
        · exact bf_w17 hh ho hx hy
        · exact bf_w18 hh ho hx hy
        · exact bf_w19 hh ho hx hy
        · exact bf_w20 hh ho hx hy
        · exact bf_w21 hh ho hx hy
        · exact bf_w22 hh ho hx hy
        · exact bf_w23 hh ho hx hy
        · exact bf_w24 hh ho hx hy
        · exact bf_w25 hh ho hx hy
        · exact bf_w26 hh ho hx hy
        · exact bf_w27 hh ho hx hy
        · exact bf_w28 hh ho hx hy
        · exact bf_w29 hh ho hx hy
end BFD
end
section
section BFE
variable {h o x y : Nat} {d s e : Int32} {C N P O : Nat → Int32}
/-! the run: both sides go step by step, and end with one answer in one state -/
theorem bf_loop (N : Nat → Int32) : ∀ (m i h o x y : Nat) (d e : Int32) (C P O : Nat → Int32), i + m = 400 → h ≤ 10 → o ≤ 16 → x < 8 → y < 4 →
    ∃ (r : Int32) (h' o' x' y' : Nat) (d' s' e' : Int32) (C' P' O' : Nat → Int32), h' ≤ 10 ∧ o' ≤ 16 ∧
      (∀ post : Int32 → SX → Prop, post r (nI h', nI o', nI x', nI y', d', s', e', C', N, P', O') → wX_run_6 post (m + 1) (nI i) (nI h) (nI o) (nI x) (nI y) d (nI i) e C N P O) ∧
      (∀ post : Int32 → SY → Prop, post r (nI h', nI o', e', s', nI x', nI y', d', C', N, P', O') → wY_run_35 post (m + 1) (nI h) (nI o) e (nI i) (nI x) (nI y) d C N P O) := by
  intro m
  induction m with
  | zero =>
    intro i h o x y d e C P O hi hh ho hx hy
    have t : (400 : Int32) ≤ nI i := nI_le (a := 400) (by omega) (by omega)
    by_cases e0 : e = 0
    · exact ⟨2, h, o, x, y, d, nI i, 2, C, P, O, hh, ho, fun _ H => br_t t (br_t e0 H), fun _ H => br_t t (br_t e0 H)⟩
    · exact ⟨e, h, o, x, y, d, nI i, e, C, P, O, hh, ho, fun _ H => br_t t (br_f e0 H), fun _ H => br_t t (br_f e0 H)⟩
  | succ m ih =>
    intro i h o x y d e C P O hi hh ho hx hy
    have t : ¬ (400 : Int32) ≤ nI i := nI_ge (b := 400) (by omega) (by decide)
    by_cases e0 : e = 0
    · subst e0
      obtain ⟨h1, o1, x1, y1, d1, e1, C1, P1, O1, a1, a2, a3, a4, wX, wY⟩ := bf_work (d := d) (s := nI (i + 1)) (C := C) (N := N) (P := P) (O := O) (C (bf_j (nI x) (nI y))) hh ho hx hy
      have hj : 8 * nI y + nI x = nI (bf_j (nI x) (nI y)) := by rw [bf_jn hx hy, bf_yn]
      have hv : vp_in (8 * nI y + nI x) 32 := by rw [hj]; exact vp_in_nI (bf_j_lt _ _) (by decide)
      by_cases e1z : e1 = 0
      · subst e1z
        obtain ⟨r, h2, o2, x2, y2, d2, s2, e2, C2, P2, O2, b1, b2, kX, kY⟩ := ih (i + 1) h1 o1 (bf_mx d1 x1) (bf_my d1 y1) d1 0 C1 P1 O1 (by omega) a1 a2 (bf_mx_lt d1 a3) (bf_my_lt d1 a4)
        refine ⟨r, h2, o2, x2, y2, d2, s2, e2, C2, P2, O2, b1, b2, fun post H => ?_, fun post H => ?_⟩
        · refine br_f t (br_t rfl (nm_r (nI_1 i) ?_))
          refine bf_xread ?_
          refine wX _ ?_
          refine br_t rfl ?_
          refine bf_xmove a3 a4 ?_
          exact nm_r (nI_1 i) (kX post H)
        · refine br_f t (br_t rfl ⟨hv, nm_r (bf_a (f := C) hj (bf_jbig _ _)) (nm_r (nI_1 i) ?_)⟩)
          refine wY _ ?_
          refine br_t rfl ?_
          refine bf_ymove a3 a4 ?_
          exact kY post H
      · obtain ⟨r, h2, o2, x2, y2, d2, s2, e2, C2, P2, O2, b1, b2, kX, kY⟩ := ih (i + 1) h1 o1 x1 y1 d1 e1 C1 P1 O1 (by omega) a1 a2 a3 a4
        refine ⟨r, h2, o2, x2, y2, d2, s2, e2, C2, P2, O2, b1, b2, fun post H => ?_, fun post H => ?_⟩
        · refine br_f t (br_t rfl (nm_r (nI_1 i) ?_))
          refine bf_xread ?_
          refine wX _ ?_
          refine br_f e1z ?_
          exact nm_r (nI_1 i) (kX post H)
        · refine br_f t (br_t rfl ⟨hv, nm_r (bf_a (f := C) hj (bf_jbig _ _)) (nm_r (nI_1 i) ?_)⟩)
          refine wY _ ?_
          refine br_f e1z ?_
          exact kY post H
    · exact ⟨e, h, o, x, y, d, nI i, e, C, P, O, hh, ho, fun _ H => br_f t (br_f e0 (br_f e0 H)), fun _ H => br_f t (br_f e0 (br_f e0 H))⟩
/-! put, putThree, get -/
theorem bf_jyn {p q : Nat} (hp : p < 8) (hq : q < 4) : 8 * nI q + nI p = nI (bf_j (nI p) (nI q)) := by rw [bf_jn hp hq, bf_yn]
theorem bf_jyi {p q : Nat} (hp : p < 8) (hq : q < 4) : vp_in (8 * nI q + nI p) 32 := by
  rw [bf_jyn hp hq]; exact vp_in_nI (bf_j_lt _ _) (by decide)
theorem bf_q3 : ∀ q, q < 4 → nI q &&& 3 = nI q := by decide +kernel
theorem bf_jt (a : Int32) {q : Nat} (hq : q < 4) : 8 * nI q + (a &&& 7) = nI (bf_j a (nI q)) := by
  have := bf_jy a (nI q)
  rw [bf_q3 q hq] at this
  exact this
theorem bf_ji (a : Int32) {q : Nat} (hq : q < 4) : vp_in (8 * nI q + (a &&& 7)) 32 := by
  rw [bf_jt a hq]; exact vp_in_nI (bf_j_lt _ _) (by decide)
theorem bf_gle {n : Nat} {a : Int32} (hn : n + 1 < 2 ^ 31) (h : nI (n + 1) ≤ a) : ¬ a ≤ nI n := by
  rw [Int32.le_iff_toInt_le, nI_toInt hn] at h
  rw [Int32.le_iff_toInt_le, nI_toInt (by omega)]
  omega
theorem bf_put (a b c : Int32) : ∃ (r : Int32) (C' : Nat → Int32), (∀ post : Int32 → SX → Prop, post r (nI h, nI o, nI x, nI y, d, s, e, C', N, P, O) → wpX_put post (nI h, nI o, nI x, nI y, d, s, e, C, N, P, O) a b c) ∧ (∀ post : Int32 → SY → Prop, post r (nI h, nI o, e, s, nI x, nI y, d, C', N, P, O) → wpY_put post (nI h, nI o, e, s, nI x, nI y, d, C, N, P, O) a b c) := by
  rcases bf_cell (h := h) (o := o) (x := x) (y := y) (d := d) (s := s) (e := e) (C := C) (N := N) (P := P) (O := O) a b with ⟨p, q, hp, hq, rfl, rfl⟩ | ⟨nX, nY⟩
  · rcases pk_ix c (n := 32) (by decide) with hc | hc | ⟨j, hj, rfl⟩
    · refine ⟨-1, C, fun post H => ?_, fun post H => ?_⟩
      · unfold wpX_put
        dsimp only
        refine bf_xc1 hp hq ?_
        exact br_f (by decide) (br_t hc H)
      · unfold wpY_put
        dsimp only
        refine bf_yc1 hp hq ?_
        exact br_f (by decide) (br_t hc H)
    · refine ⟨-1, C, fun post H => ?_, fun post H => ?_⟩
      · unfold wpX_put
        dsimp only
        refine bf_xc1 hp hq ?_
        exact br_f (by decide) (br_f (bf_nn (by decide) hc) (br_f (bf_gle (n := 31) (by decide) hc) H))
      · unfold wpY_put
        dsimp only
        refine bf_yc1 hp hq ?_
        exact br_f (by decide) (br_f (bf_nn (by decide) hc) (br_f (bf_gle (n := 31) (by decide) hc) H))
    · refine ⟨C (bf_j (nI p) (nI q)), upd C (bf_j (nI p) (nI q)) (nI j &&& 31), fun post H => ?_, fun post H => ?_⟩
      · unfold wpX_put
        dsimp only
        refine bf_xc1 hp hq ?_
        refine br_f (by decide) (br_f (nI_pos (by omega)) (br_t (nI_le (b := 31) (by omega) (by decide)) ?_))
        refine bf_xread ?_
        exact bf_xwrite H
      · unfold wpY_put
        dsimp only
        refine bf_yc1 hp hq ?_
        refine br_f (by decide) (br_f (nI_pos (by omega)) (br_t (nI_le (b := 31) (by omega) (by decide)) ?_))
        refine ⟨bf_jyi hp hq, nm_r (bf_a (f := C) (bf_jyn hp hq) (bf_jbig _ _)) ⟨bf_jyi hp hq, nm_r ?_ H⟩⟩
        rw [bf_31 j hj]
        exact bf_u (bf_jyn hp hq) (bf_jbig _ _)
  · refine ⟨-1, C, fun post H => ?_, fun post H => ?_⟩
    · unfold wpX_put
      dsimp only
      refine nX _ ?_
      exact br_t rfl H
    · unfold wpY_put
      dsimp only
      refine nY _ ?_
      exact br_t rfl H
theorem bf_get (a b : Int32) : ∃ r : Int32, (∀ post : Int32 → Prop, post r → wpX_get post (nI h, nI o, nI x, nI y, d, s, e, C, N, P, O) a b) ∧ (∀ post : Int32 → Prop, post r → wpY_get post (nI h, nI o, e, s, nI x, nI y, d, C, N, P, O) a b) := by
  rcases bf_cell (h := h) (o := o) (x := x) (y := y) (d := d) (s := s) (e := e) (C := C) (N := N) (P := P) (O := O) a b with ⟨p, q, hp, hq, rfl, rfl⟩ | ⟨nX, nY⟩
  · refine ⟨C (bf_j (nI p) (nI q)), fun post H => ?_, fun post H => ?_⟩
    · unfold wpX_get
      dsimp only
      refine bf_xc1 hp hq ?_
      refine br_f (by decide) ?_
      exact bf_xread H
    · unfold wpY_get
      dsimp only
      refine bf_yc1 hp hq ?_
      refine br_f (by decide) ⟨bf_jyi hp hq, ?_⟩
      rw [bf_a (f := C) (bf_jyn hp hq) (bf_jbig _ _)]
      exact H
  · refine ⟨-1, fun post H => ?_, fun post H => ?_⟩
    · unfold wpX_get
      dsimp only
      refine nX _ ?_
      exact br_t rfl H
    · unfold wpY_get
      dsimp only
      refine nY _ ?_
      exact br_t rfl H
theorem bf_t0 {f : Nat → Int32} {p q : Nat} (c : Int32) (hq : q < 4) : upd f (8 * nI q + ((nI p + 0) &&& 7)).toNatClampNeg ((c >>> (((5 : Int32) * 0) &&& 31)) &&& 31) = upd f (bf_j (nI p) (nI q)) (c &&& 31) := by
  rw [show (5 : Int32) * 0 = 0 from by decide, sb_shr0, Int32.add_zero]
  exact bf_u (bf_jt _ hq) (bf_jbig _ _)
theorem bf_t1 {f : Nat → Int32} {p q : Nat} (c : Int32) (hq : q < 4) : upd f (8 * nI q + ((nI p + 1) &&& 7)).toNatClampNeg ((c >>> (((5 : Int32) * 1) &&& 31)) &&& 31) = upd f (bf_j (nI p + 1) (nI q)) ((c >>> ((5 : Int32) &&& 31)) &&& 31) := by
  rw [show (5 : Int32) * 1 = 5 from by decide]
  exact bf_u (bf_jt _ hq) (bf_jbig _ _)
theorem bf_t2 {f : Nat → Int32} {p q : Nat} (c : Int32) (hq : q < 4) : upd f (8 * nI q + ((nI p + 2) &&& 7)).toNatClampNeg ((c >>> (((5 : Int32) * 2) &&& 31)) &&& 31) = upd f (bf_j (nI p + 2) (nI q)) ((c >>> ((10 : Int32) &&& 31)) &&& 31) := by
  rw [show (5 : Int32) * 2 = 10 from by decide]
  exact bf_u (bf_jt _ hq) (bf_jbig _ _)
theorem bf_three (a b c : Int32) : ∃ (r : Int32) (C' : Nat → Int32), (∀ post : Int32 → SX → Prop, post r (nI h, nI o, nI x, nI y, d, s, e, C', N, P, O) → wpX_putThree post (nI h, nI o, nI x, nI y, d, s, e, C, N, P, O) a b c) ∧ (∀ post : Int32 → SY → Prop, post r (nI h, nI o, e, s, nI x, nI y, d, C', N, P, O) → wpY_putThree post (nI h, nI o, e, s, nI x, nI y, d, C, N, P, O) a b c) := by
  rcases bf_cell (h := h) (o := o) (x := x) (y := y) (d := d) (s := s) (e := e) (C := C) (N := N) (P := P) (O := O) a b with ⟨p, q, hp, hq, rfl, rfl⟩ | ⟨nX, nY⟩
  · by_cases h0 : c < 0
    · refine ⟨-1, C, fun post H => ?_, fun post H => ?_⟩
      · unfold wpX_putThree
        refine bf_xc1 hp hq ?_
        exact br_f (by decide) (br_t h0 H)
      · unfold wpY_putThree
        refine bf_yc1 hp hq ?_
        exact br_f (by decide) (br_t h0 H)
    · by_cases h1 : c ≤ 32767
      · refine ⟨0, upd (upd (upd C (bf_j (nI p) (nI q)) (c &&& 31)) (bf_j (nI p + 1) (nI q)) ((c >>> ((5 : Int32) &&& 31)) &&& 31)) (bf_j (nI p + 2) (nI q)) ((c >>> ((10 : Int32) &&& 31)) &&& 31), fun post H => ?_, fun post H => ?_⟩
        · unfold wpX_putThree
          refine bf_xc1 hp hq ?_
          refine br_f (by decide) (br_f h0 (br_t h1 ?_))
          refine bf_xwrite ?_
          refine bf_xwrite ?_
          exact bf_xwrite H
        · unfold wpY_putThree
          refine bf_yc1 hp hq ?_
          refine br_f (by decide) (br_f h0 (br_t h1 ⟨4, ?_⟩))
          refine br_f (by decide) ⟨bf_ji _ hq, nm_r (bf_t0 c hq) (nm_r (show (0 : Int32) + 1 = 1 from by decide) ?_)⟩
          refine br_f (by decide) ⟨bf_ji _ hq, nm_r (bf_t1 c hq) (nm_r (show (1 : Int32) + 1 = 2 from by decide) ?_)⟩
          refine br_f (by decide) ⟨bf_ji _ hq, nm_r (bf_t2 c hq) (nm_r (show (2 : Int32) + 1 = 3 from by decide) ?_)⟩
          exact br_t (by decide) H
      · refine ⟨-1, C, fun post H => ?_, fun post H => ?_⟩
        · unfold wpX_putThree
          refine bf_xc1 hp hq ?_
          exact br_f (by decide) (br_f h0 (br_f h1 H))
        · unfold wpY_putThree
          refine bf_yc1 hp hq ?_
          exact br_f (by decide) (br_f h0 (br_f h1 H))
  · refine ⟨-1, C, fun post H => ?_, fun post H => ?_⟩
    · unfold wpX_putThree
      refine nX _ ?_
      exact br_t rfl H
    · unfold wpY_putThree
      refine nY _ ?_
      exact br_t rfl H
/-! clear, digest -/
theorem bf_clr : ∀ (m i : Nat) (C : Nat → Int32), i + m = 32 → ∃ C' : Nat → Int32,
    (∀ post : SX → Prop, post (nI h, nI o, nI x, nI y, d, s, e, C', N, P, O) → wX_clear_2 post (nI h) (nI o) (nI x) (nI y) d s e (m + 1) (nI i) C N P O) ∧ (∀ post : SY → Prop, post (nI h, nI o, e, s, nI x, nI y, d, C', N, P, O) → wY_clear_2 post (nI h) (nI o) e s (nI x) (nI y) d (m + 1) (nI i) C N P O) := by
  intro m
  induction m with
  | zero =>
    intro i C hi
    have t : (32 : Int32) ≤ nI i := nI_le (a := 32) (by omega) (by omega)
    exact ⟨C, fun _ H => br_t t H, fun _ H => br_t t H⟩
  | succ m ih =>
    intro i C hi
    have t : ¬ (32 : Int32) ≤ nI i := nI_ge (b := 32) (by omega) (by decide)
    have hv : vp_in (nI i) 32 := vp_in_nI (by omega) (by decide)
    obtain ⟨C', kX, kY⟩ := ih (i + 1) (upd C i 0) (by omega)
    exact ⟨C', fun post H => br_f t ⟨hv, nm_r (bf_u rfl (by omega)) (nm_r (nI_1 i) (kX post H))⟩, fun post H => br_f t ⟨hv, nm_r (bf_u rfl (by omega)) (nm_r (nI_1 i) (kY post H))⟩⟩
theorem bf_dig : ∀ (m i : Nat) (t : Int32), i + m = 32 → ∃ r : Int32,
    (∀ post : Int32 → Prop, post r → wX_digest_4 post (nI h) (nI o) (nI x) (nI y) d s e C N P O (m + 1) t (nI i)) ∧ (∀ post : Int32 → Prop, post r → wY_digest_4 post (nI h) (nI o) e s (nI x) (nI y) d C N P O (m + 1) t (nI i)) := by
  intro m
  induction m with
  | zero =>
    intro i t hi
    have z : (32 : Int32) ≤ nI i := nI_le (a := 32) (by omega) (by omega)
    exact ⟨t, fun _ H => br_t z H, fun _ H => br_t z H⟩
  | succ m ih =>
    intro i t hi
    have z : ¬ (32 : Int32) ≤ nI i := nI_ge (b := 32) (by omega) (by decide)
    have hv : vp_in (nI i) 32 := vp_in_nI (by omega) (by decide)
    obtain ⟨r, kX, kY⟩ := ih (i + 1) (t + ((nI i + 1) * (C (nI i).toNatClampNeg))) (by omega)
    exact ⟨r, fun post H => br_f z ⟨hv, nm_e (nm_r (nI_1 i) (kX post H))⟩, fun post H => br_f z ⟨hv, nm_e (nm_r (nI_1 i) (kY post H))⟩⟩
end BFE
end
section
def i_Rel (k : Nat) (u : SX) (v : SY) : Prop := 
  ∃ (h o x y : Nat) (d s e : Int32) (C N P O : Nat → Int32), h ≤ 10 ∧ o ≤ 16 ∧ u = (nI h, nI o, nI x, nI y, d, s, e, C, N, P, O) ∧ v = (nI h, nI o, e, s, nI x, nI y, d, C, N, P, O)
theorem bf_mk {k h o x y : Nat} {d s e : Int32} {C N P O : Nat → Int32} (hh : h ≤ 10) (ho : o ≤ 16) : i_Rel k (nI h, nI o, nI x, nI y, d, s, e, C, N, P, O) (nI h, nI o, e, s, nI x, nI y, d, C, N, P, O) :=
  ⟨h, o, x, y, d, s, e, C, N, P, O, hh, ho, rfl, rfl⟩
theorem i_up {k : Nat} {u : SX} {v : SY} (h : i_Rel k u v) : i_Rel (k + 4) u v := h
theorem i_vc0 : wpX_init (fun u => wpY_init (fun v => i_Rel 0 u v)) := by
  unfold wpX_init
  unfold wpX_resetRun
  dsimp only
  exact bf_mk (k := 0) (h := 0) (o := 0) (x := 0) (y := 0) (by decide) (by decide)
theorem i_vc_put {k : Nat} {u : SX} {v : SY} (I : i_Rel k u v) (hk : k + 4 ≤ 2048) (v1 : Int32) (v2 : Int32) (v3 : Int32) : wpX_put (fun r u' => wpY_put (fun r' v' => r' = r ∧ i_Rel (k + 4) u' v') v v1 v2 v3) u v1 v2 v3 := by
  obtain ⟨h, o, x, y, d, s, e, C, N, P, O, hh, ho, rfl, rfl⟩ := I
  obtain ⟨r, C', kX, kY⟩ := bf_put (h := h) (o := o) (x := x) (y := y) (d := d) (s := s) (e := e) (C := C) (N := N) (P := P) (O := O) v1 v2 v3
  exact kX _ (kY _ ⟨rfl, bf_mk hh ho⟩)
theorem i_vc_putThree {k : Nat} {u : SX} {v : SY} (I : i_Rel k u v) (hk : k + 4 ≤ 2048) (v1 : Int32) (v2 : Int32) (v3 : Int32) : wpX_putThree (fun r u' => wpY_putThree (fun r' v' => r' = r ∧ i_Rel (k + 4) u' v') v v1 v2 v3) u v1 v2 v3 := by
  obtain ⟨h, o, x, y, d, s, e, C, N, P, O, hh, ho, rfl, rfl⟩ := I
  obtain ⟨r, C', kX, kY⟩ := bf_three (h := h) (o := o) (x := x) (y := y) (d := d) (s := s) (e := e) (C := C) (N := N) (P := P) (O := O) v1 v2 v3
  exact kX _ (kY _ ⟨rfl, bf_mk hh ho⟩)
theorem i_vc_get {k : Nat} {u : SX} {v : SY} (I : i_Rel k u v) (hk : k + 4 ≤ 2048) (v1 : Int32) (v2 : Int32) : wpX_get (fun r => wpY_get (fun r' => r' = r ∧ i_Rel (k + 4) u v) v v1 v2) u v1 v2 := by
  obtain ⟨h, o, x, y, d, s, e, C, N, P, O, hh, ho, rfl, rfl⟩ := I
  obtain ⟨r, kX, kY⟩ := bf_get (h := h) (o := o) (x := x) (y := y) (d := d) (s := s) (e := e) (C := C) (N := N) (P := P) (O := O) v1 v2
  exact kX _ (kY _ ⟨rfl, bf_mk hh ho⟩)
theorem i_vc_clear {k : Nat} {u : SX} {v : SY} (I : i_Rel k u v) (hk : k + 4 ≤ 2048) : wpX_clear (fun u' => wpY_clear (fun v' => i_Rel (k + 4) u' v') v) u := by
  obtain ⟨h, o, x, y, d, s, e, C, N, P, O, hh, ho, rfl, rfl⟩ := I
  obtain ⟨C', kX, kY⟩ := bf_clr (h := h) (o := o) (x := x) (y := y) (d := d) (s := s) (e := e) (N := N) (P := P) (O := O) 32 0 C rfl
  unfold wpX_clear
  dsimp only
  refine ⟨33, kX _ ?_⟩
  unfold wpY_clear
  dsimp only
  exact ⟨33, kY _ (bf_mk hh ho)⟩
theorem i_vc_input {k : Nat} {u : SX} {v : SY} (I : i_Rel k u v) (hk : k + 4 ≤ 2048) (v1 : Int32) (v2 : Int32) : wpX_input (fun r u' => wpY_input (fun r' v' => r' = r ∧ i_Rel (k + 4) u' v') v v1 v2) u v1 v2 := by
  obtain ⟨h, o, x, y, d, s, e, C, N, P, O, hh, ho, rfl, rfl⟩ := I
  rcases pk_ix v1 (n := 4) (by decide) with ha | ha | ⟨j, hj, rfl⟩
  · exact br_t ha (br_t ha ⟨rfl, bf_mk hh ho⟩)
  · have n0 := bf_nn (by decide) ha
    exact br_f n0 (br_f (Int32.not_lt.mpr ha) (br_f n0 (br_f (bf_gle (n := 3) (by decide) ha) ⟨rfl, bf_mk hh ho⟩)))
  · have n0 : ¬ nI j < 0 := nI_pos (by omega)
    have hv : vp_in (nI j) 4 := vp_in_nI hj (by decide)
    exact br_f n0 (br_t (nI_lt (b := 4) hj (by decide)) ⟨hv, nm_e (br_f n0 (br_t (nI_le (b := 3) (by omega) (by decide)) ⟨hv, nm_e ⟨rfl, bf_mk hh ho⟩⟩))⟩)
theorem i_vc_run {k : Nat} {u : SX} {v : SY} (I : i_Rel k u v) (hk : k + 4 ≤ 2048) : wpX_run (fun r u' => wpY_run (fun r' v' => r' = r ∧ i_Rel (k + 4) u' v') v) u := by
  obtain ⟨h, o, x, y, d, s, e, C, N, P, O, hh, ho, rfl, rfl⟩ := I
  obtain ⟨r, h1, o1, x1, y1, d1, s1, e1, C1, P1, O1, a1, a2, kX, kY⟩ := bf_loop N 400 0 0 0 0 0 0 0 C P O rfl (by decide) (by decide) (by decide) (by decide)
  unfold wpX_run
  unfold wpX_resetRun
  dsimp only
  refine ⟨401, kX _ ?_⟩
  unfold wpY_run
  dsimp only
  exact ⟨401, kY _ ⟨rfl, bf_mk a1 a2⟩⟩
theorem i_vc_ending {k : Nat} {u : SX} {v : SY} (I : i_Rel k u v) (hk : k + 4 ≤ 2048) : wpX_ending (fun r => wpY_ending (fun r' => r' = r ∧ i_Rel (k + 4) u v) v) u := by
  obtain ⟨h, o, x, y, d, s, e, C, N, P, O, hh, ho, rfl, rfl⟩ := I
  exact ⟨rfl, bf_mk hh ho⟩
theorem i_vc_steps {k : Nat} {u : SX} {v : SY} (I : i_Rel k u v) (hk : k + 4 ≤ 2048) : wpX_steps (fun r => wpY_steps (fun r' => r' = r ∧ i_Rel (k + 4) u v) v) u := by
  obtain ⟨h, o, x, y, d, s, e, C, N, P, O, hh, ho, rfl, rfl⟩ := I
  exact ⟨rfl, bf_mk hh ho⟩
theorem i_vc_height {k : Nat} {u : SX} {v : SY} (I : i_Rel k u v) (hk : k + 4 ≤ 2048) : wpX_height (fun r => wpY_height (fun r' => r' = r ∧ i_Rel (k + 4) u v) v) u := by
  obtain ⟨h, o, x, y, d, s, e, C, N, P, O, hh, ho, rfl, rfl⟩ := I
  exact ⟨rfl, bf_mk hh ho⟩
theorem i_vc_pile {k : Nat} {u : SX} {v : SY} (I : i_Rel k u v) (hk : k + 4 ≤ 2048) (v1 : Int32) : wpX_pile (fun r => wpY_pile (fun r' => r' = r ∧ i_Rel (k + 4) u v) v v1) u v1 := by
  obtain ⟨h, o, x, y, d, s, e, C, N, P, O, hh, ho, rfl, rfl⟩ := I
  rcases pk_ix v1 (n := h) (by omega) with ha | ha | ⟨j, hj, rfl⟩
  · exact br_t ha (br_t ha ⟨rfl, bf_mk hh ho⟩)
  · have n0 := bf_nn (by omega) ha
    exact br_f n0 (br_f (Int32.not_lt.mpr ha) (br_f n0 (br_t ha ⟨rfl, bf_mk hh ho⟩)))
  · have n0 : ¬ nI j < 0 := nI_pos (by omega)
    have hv : vp_in (nI j) 10 := vp_in_nI (by omega) (by decide)
    exact br_f n0 (br_t (nI_lt hj (by omega)) ⟨hv, br_f n0 (br_f (nI_ge hj (by omega)) ⟨hv, rfl, bf_mk hh ho⟩)⟩)
theorem i_vc_outputs {k : Nat} {u : SX} {v : SY} (I : i_Rel k u v) (hk : k + 4 ≤ 2048) : wpX_outputs (fun r => wpY_outputs (fun r' => r' = r ∧ i_Rel (k + 4) u v) v) u := by
  obtain ⟨h, o, x, y, d, s, e, C, N, P, O, hh, ho, rfl, rfl⟩ := I
  exact ⟨rfl, bf_mk hh ho⟩
theorem i_vc_output {k : Nat} {u : SX} {v : SY} (I : i_Rel k u v) (hk : k + 4 ≤ 2048) (v1 : Int32) : wpX_output (fun r => wpY_output (fun r' => r' = r ∧ i_Rel (k + 4) u v) v v1) u v1 := by
  obtain ⟨h, o, x, y, d, s, e, C, N, P, O, hh, ho, rfl, rfl⟩ := I
  rcases pk_ix v1 (n := o) (by omega) with ha | ha | ⟨j, hj, rfl⟩
  · exact br_t ha (br_t ha ⟨rfl, bf_mk hh ho⟩)
  · have n0 := bf_nn (by omega) ha
    exact br_f n0 (br_f (Int32.not_lt.mpr ha) (br_f n0 (br_t ha ⟨rfl, bf_mk hh ho⟩)))
  · have n0 : ¬ nI j < 0 := nI_pos (by omega)
    have hv : vp_in (nI j) 16 := vp_in_nI (by omega) (by decide)
    exact br_f n0 (br_t (nI_lt hj (by omega)) ⟨hv, br_f n0 (br_f (nI_ge hj (by omega)) ⟨hv, rfl, bf_mk hh ho⟩)⟩)
theorem i_vc_where {k : Nat} {u : SX} {v : SY} (I : i_Rel k u v) (hk : k + 4 ≤ 2048) : wpX_where (fun r => wpY_where (fun r' => r' = r ∧ i_Rel (k + 4) u v) v) u := by
  obtain ⟨h, o, x, y, d, s, e, C, N, P, O, hh, ho, rfl, rfl⟩ := I
  exact ⟨rfl, bf_mk hh ho⟩
theorem i_vc_digest {k : Nat} {u : SX} {v : SY} (I : i_Rel k u v) (hk : k + 4 ≤ 2048) : wpX_digest (fun r => wpY_digest (fun r' => r' = r ∧ i_Rel (k + 4) u v) v) u := by
  obtain ⟨h, o, x, y, d, s, e, C, N, P, O, hh, ho, rfl, rfl⟩ := I
  obtain ⟨r, kX, kY⟩ := bf_dig (h := h) (o := o) (x := x) (y := y) (d := d) (s := s) (e := e) (C := C) (N := N) (P := P) (O := O) 32 0 0 rfl
  unfold wpX_digest
  dsimp only
  refine ⟨33, kX _ ?_⟩
  unfold wpY_digest
  dsimp only
  exact ⟨33, kY _ ⟨rfl, bf_mk hh ho⟩⟩
end
