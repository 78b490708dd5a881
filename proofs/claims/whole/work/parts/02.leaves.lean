section BFB
variable {h o x y : Nat} {d s e : Int32} {C N P O : Nat → Int32}
theorem bf_v0 : bf_v P 0 = 0 := rfl
theorem bf_vs (k : Nat) : bf_v P (k + 1) = P k := by unfold bf_v; rw [if_neg (Nat.succ_ne_zero k), Nat.add_sub_cancel]
theorem bf_00 : ¬ (0 : Int32) < nI 0 := by decide +kernel
theorem bf_nil : ¬ nI 10 < 10 := by decide +kernel
theorem bf_n16 : ¬ nI 16 < 16 := by decide +kernel
theorem bf_ne {a b : Nat} (h : a < b) (hb : b < 2 ^ 31) : ¬ nI a = nI b := fun z => by
  have := (nI_eq (Nat.lt_trans h hb) hb).mp z
  omega
theorem bf_jbig (a b : Int32) : bf_j a b < 2 ^ 31 := Nat.lt_trans (bf_j_lt a b) (by decide)
theorem bf_jin (a b : Int32) : vp_in ((a &&& 7) + (8 * (b &&& 3))) 32 := by
  rw [bf_jx]; exact vp_in_nI (bf_j_lt a b) (by decide)
theorem bf_jiy (a b : Int32) : vp_in ((8 * (b &&& 3)) + (a &&& 7)) 32 := by
  rw [bf_jy]; exact vp_in_nI (bf_j_lt a b) (by decide)
theorem bf_in3 (a : Int32) : vp_in (a &&& 3) 4 := by
  rw [bf_m3]; exact vp_in_nI (Nat.mod_lt _ (by decide)) (by decide)
/-! pop and push -/
theorem bf_xpop {post : Int32 → SX → Prop} (hh : h ≤ 10) (H : post (bf_v P h) (nI (h - 1), nI o, nI x, nI y, d, s, e, C, N, P, O)) : wpX_pop post (nI h, nI o, nI x, nI y, d, s, e, C, N, P, O) := by
  by_cases z : h = 0
  · subst z
    exact br_f bf_00 H
  · obtain ⟨k, rfl⟩ : ∃ k, h = k + 1 := ⟨h - 1, by omega⟩
    rw [bf_vs, Nat.add_sub_cancel] at H
    refine br_t (nI_lt (a := 0) (Nat.succ_pos k) (by omega)) (nm_r (nI_pred k) ⟨vp_in_nI (by omega) (by decide), ?_⟩)
    rw [nI_clamp (by omega)]
    exact H
theorem bf_ypop {post : Int32 → SY → Prop} (hh : h ≤ 10) (H : post (bf_v P h) (nI (h - 1), nI o, e, s, nI x, nI y, d, C, N, P, O)) : wpY_pop post (nI h, nI o, e, s, nI x, nI y, d, C, N, P, O) := by
  by_cases z : h = 0
  · subst z
    exact br_t nI_0 H
  · obtain ⟨k, rfl⟩ : ∃ k, h = k + 1 := ⟨h - 1, by omega⟩
    rw [bf_vs, Nat.add_sub_cancel] at H
    refine br_f (nI_ne0 (Nat.succ_pos k) (by omega)) (nm_r (nI_pred k) ⟨vp_in_nI (by omega) (by decide), ?_⟩)
    rw [nI_clamp (by omega)]
    exact H
theorem bf_xpush {post : SX → Prop} {v : Int32} (hh : h ≤ 10) (H : post (nI (bf_h h), nI o, nI x, nI y, d, s, bf_e h e, C, N, bf_P P h v, O)) : wpX_push post (nI h, nI o, nI x, nI y, d, s, e, C, N, P, O) v := by
  by_cases c : h < 10
  · simp only [bf_h, bf_e, bf_P, if_pos c] at H
    exact br_t (nI_lt (b := 10) c (by decide)) ⟨vp_in_nI c (by decide), nm_r (bf_u rfl (by omega)) (nm_r (nI_1 h) H)⟩
  · simp only [bf_h, bf_e, bf_P, if_neg c] at H
    have z : h = 10 := by omega
    subst z
    exact br_f bf_nil H
theorem bf_ypush {post : SY → Prop} {v : Int32} (hh : h ≤ 10) (H : post (nI (bf_h h), nI o, bf_e h e, s, nI x, nI y, d, C, N, bf_P P h v, O)) : wpY_push post (nI h, nI o, e, s, nI x, nI y, d, C, N, P, O) v := by
  by_cases c : h < 10
  · simp only [bf_h, bf_e, bf_P, if_pos c] at H
    exact br_f (bf_ne (b := 10) c (by decide)) ⟨vp_in_nI c (by decide), nm_r (bf_u rfl (by omega)) (nm_r (nI_1 h) H)⟩
  · simp only [bf_h, bf_e, bf_P, if_neg c] at H
    have z : h = 10 := by omega
    subst z
    exact br_t rfl H
/-! the place moves -/
theorem bf_xmove {post : SX → Prop} (hx : x < 8) (hy : y < 4) (H : post (nI h, nI o, nI (bf_mx d x), nI (bf_my d y), d, s, e, C, N, P, O)) : wpX_movePlace post (nI h, nI o, nI x, nI y, d, s, e, C, N, P, O) := by
  by_cases d0 : d = 0
  · simp only [bf_mx, bf_my, if_pos d0] at H
    exact br_f (by rw [d0]; decide) (br_f (by rw [d0]; decide) (br_t d0 (nm_r (bf_x1 x hx) H)))
  · by_cases d1 : d = 1
    · simp only [bf_mx, bf_my, if_neg d0, if_pos d1] at H
      exact br_f (by rw [d1]; decide) (br_f (by rw [d1]; decide) (br_f d0 (br_t d1 (nm_r (bf_x7s x hx) H))))
    · by_cases d2 : d = 2
      · simp only [bf_mx, bf_my, if_neg d0, if_neg d1, if_pos d2] at H
        exact br_f (by rw [d2]; decide) (br_f (by rw [d2]; decide) (br_f d0 (br_f d1 (br_t d2 (nm_r (bf_y1 y hy) H)))))
      · simp only [bf_mx, bf_my, if_neg d0, if_neg d1, if_neg d2] at H
        by_cases dn : d < 0
        · exact br_t dn (nm_r (bf_y3s y hy) H)
        · have d3 : (2 : Int32) < d := by
            obtain ⟨j, hj, rfl⟩ := nI_of dn
            have a0 : j ≠ 0 := fun z => d0 (by subst z; rfl)
            have a1 : j ≠ 1 := fun z => d1 (by subst z; rfl)
            have a2 : j ≠ 2 := fun z => d2 (by subst z; rfl)
            exact nI_lt (a := 2) (by omega) hj
          exact br_f dn (br_t d3 (nm_r (bf_y3s y hy) H))
theorem bf_ymove {post : SY → Prop} (hx : x < 8) (hy : y < 4) (H : post (nI h, nI o, e, s, nI (bf_mx d x), nI (bf_my d y), d, C, N, P, O)) : wpY_move post (nI h, nI o, e, s, nI x, nI y, d, C, N, P, O) := by
  by_cases d0 : d = 0
  · simp only [bf_mx, bf_my, if_pos d0] at H
    exact br_t d0 (nm_r (bf_x1 x hx) H)
  · by_cases d1 : d = 1
    · simp only [bf_mx, bf_my, if_neg d0, if_pos d1] at H
      exact br_f d0 (br_t d1 (nm_r (bf_x7a x hx) H))
    · by_cases d2 : d = 2
      · simp only [bf_mx, bf_my, if_neg d0, if_neg d1, if_pos d2] at H
        exact br_f d0 (br_f d1 (br_t d2 (nm_r (bf_y1 y hy) H)))
      · simp only [bf_mx, bf_my, if_neg d0, if_neg d1, if_neg d2] at H
        exact br_f d0 (br_f d1 (br_f d2 (nm_r (bf_y3a y hy) H)))
/-! cells -/
theorem bf_xread {post : Int32 → Prop} {a b : Int32} (H : post (C (bf_j a b))) : wpX_readCell post (nI h, nI o, nI x, nI y, d, s, e, C, N, P, O) a b :=
  ⟨bf_jin a b, by rw [bf_a (f := C) (bf_jx a b) (bf_jbig a b)]; exact H⟩
theorem bf_xwrite {post : SX → Prop} {a b c : Int32} (H : post (nI h, nI o, nI x, nI y, d, s, e, upd C (bf_j a b) (c &&& 31), N, P, O)) : wpX_writeCell post (nI h, nI o, nI x, nI y, d, s, e, C, N, P, O) a b c :=
  ⟨bf_jin a b, nm_r (bf_u (bf_jx a b) (bf_jbig a b)) H⟩
theorem bf_nn {n : Nat} {a : Int32} (hn : n < 2 ^ 31) (h : nI n ≤ a) : ¬ a < 0 := by
  rw [Int32.le_iff_toInt_le, nI_toInt hn] at h
  rw [Int32.lt_iff_toInt_lt, show (0 : Int32).toInt = 0 from by decide]
  omega
theorem bf_gt {n : Nat} {a : Int32} (hn : n + 1 < 2 ^ 31) (h : nI (n + 1) ≤ a) : nI n < a := by
  rw [Int32.le_iff_toInt_le, nI_toInt hn] at h
  rw [Int32.lt_iff_toInt_lt, nI_toInt (by omega)]
  omega
theorem bf_xc1 {post : Int32 → Prop} (hx : x < 8) (hy : y < 4) (H : post 1) : wpX_isCell post (nI x) (nI y) :=
  br_f (nI_pos (by omega)) (br_f (nI_ge (b := 8) hx (by decide)) (br_f (nI_pos (by omega)) (br_f (nI_ge (b := 4) hy (by decide)) H)))
theorem bf_yc1 {post : Int32 → Prop} {a b : Nat} (ha : a < 8) (hb : b < 4) (H : post 1) : wpY_isCell post (nI h, nI o, e, s, nI x, nI y, d, C, N, P, O) (nI a) (nI b) :=
  br_f (nI_pos (by omega)) (br_f (nI_nlt (a := 7) (by omega) (by decide)) (br_f (nI_pos (by omega)) (br_f (nI_nlt (a := 3) (by omega) (by decide)) H)))
theorem bf_cell (a b : Int32) : (∃ p q : Nat, p < 8 ∧ q < 4 ∧ a = nI p ∧ b = nI q) ∨ ((∀ post : Int32 → Prop, post 0 → wpX_isCell post a b) ∧ (∀ post : Int32 → Prop, post 0 → wpY_isCell post (nI h, nI o, e, s, nI x, nI y, d, C, N, P, O) a b)) := by
  rcases pk_ix a (n := 8) (by decide) with ha | ha | ⟨p, hp, rfl⟩
  · exact Or.inr ⟨fun _ H => br_t ha H, fun _ H => br_t ha H⟩
  · exact Or.inr ⟨fun _ H => br_f (bf_nn (by decide) ha) (br_t ha H), fun _ H => br_f (bf_nn (by decide) ha) (br_t (bf_gt (n := 7) (by decide) ha) H)⟩
  · rcases pk_ix b (n := 4) (by decide) with hb | hb | ⟨q, hq, rfl⟩
    · exact Or.inr ⟨fun _ H => br_f (nI_pos (by omega)) (br_f (nI_ge (b := 8) hp (by decide)) (br_t hb H)), fun _ H => br_f (nI_pos (by omega)) (br_f (nI_nlt (a := 7) (by omega) (by decide)) (br_t hb H))⟩
    · exact Or.inr ⟨fun _ H => br_f (nI_pos (by omega)) (br_f (nI_ge (b := 8) hp (by decide)) (br_f (bf_nn (by decide) hb) (br_t hb H))), fun _ H => br_f (nI_pos (by omega)) (br_f (nI_nlt (a := 7) (by omega) (by decide)) (br_f (bf_nn (by decide) hb) (br_t (bf_gt (n := 3) (by decide) hb) H)))⟩
    · exact Or.inl ⟨p, q, hp, hq, rfl, rfl⟩
end BFB
