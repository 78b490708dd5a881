section BFC
variable {h o x y : Nat} {d s e : Int32} {C N P O : Nat → Int32}
theorem bf_x10 {post : SX → Prop} (hh : h ≤ 10) (H : post (nI (bf_h (h - 1 - 1)), nI o, nI x, nI y, d, s, bf_e (h - 1 - 1) e, C, N, bf_P P (h - 1 - 1) (bf_v P (h - 1) + bf_v P h), O)) : wpX_workOffTwoNumbers post (nI h, nI o, nI x, nI y, d, s, e, C, N, P, O) 10 := by
  unfold wpX_workOffTwoNumbers
  dsimp only
  refine bf_xpop hh ?_
  dsimp only
  refine bf_xpop (by omega) ?_
  dsimp only
  refine br_f (by decide) (br_f (by decide) (br_t (by decide) ?_))
  exact bf_xpush (by omega) H
theorem bf_x11 {post : SX → Prop} (hh : h ≤ 10) (H : post (nI (bf_h (h - 1 - 1)), nI o, nI x, nI y, d, s, bf_e (h - 1 - 1) e, C, N, bf_P P (h - 1 - 1) (bf_v P (h - 1) - bf_v P h), O)) : wpX_workOffTwoNumbers post (nI h, nI o, nI x, nI y, d, s, e, C, N, P, O) 11 := by
  unfold wpX_workOffTwoNumbers
  dsimp only
  refine bf_xpop hh ?_
  dsimp only
  refine bf_xpop (by omega) ?_
  dsimp only
  refine br_f (by decide) (br_f (by decide) (br_f (by decide) (br_t (by decide) ?_)))
  exact bf_xpush (by omega) H
theorem bf_x12 {post : SX → Prop} (hh : h ≤ 10) (H : post (nI (bf_h (h - 1 - 1)), nI o, nI x, nI y, d, s, bf_e (h - 1 - 1) e, C, N, bf_P P (h - 1 - 1) (bf_v P (h - 1) * bf_v P h), O)) : wpX_workOffTwoNumbers post (nI h, nI o, nI x, nI y, d, s, e, C, N, P, O) 12 := by
  unfold wpX_workOffTwoNumbers
  dsimp only
  refine bf_xpop hh ?_
  dsimp only
  refine bf_xpop (by omega) ?_
  dsimp only
  refine br_f (by decide) (br_f (by decide) (br_f (by decide) (br_f (by decide) (br_t (by decide) ?_))))
  exact bf_xpush (by omega) H
theorem bf_x13 {post : SX → Prop} (hh : h ≤ 10) (H : post (nI (bf_h (h - 1 - 1)), nI o, nI x, nI y, d, s, bf_e (h - 1 - 1) e, C, N, bf_P P (h - 1 - 1) (if bf_v P (h - 1) ≤ bf_v P h then 0 else 1), O)) : wpX_workOffTwoNumbers post (nI h, nI o, nI x, nI y, d, s, e, C, N, P, O) 13 := by
  unfold wpX_workOffTwoNumbers
  dsimp only
  refine bf_xpop hh ?_
  dsimp only
  refine bf_xpop (by omega) ?_
  dsimp only
  refine br_f (by decide) (br_t (by decide) ?_)
  by_cases q : bf_v P (h - 1) ≤ bf_v P h
  · rw [if_pos q] at H
    refine br_t q ?_
    unfold wX_workOffTwoNumbers_77
    exact bf_xpush (by omega) H
  · rw [if_neg q] at H
    refine br_f q ?_
    unfold wX_workOffTwoNumbers_77
    exact bf_xpush (by omega) H
theorem bf_y10 {post : SY → Prop} (hh : h ≤ 10) (H : post (nI (bf_h (h - 1 - 1)), nI o, bf_e (h - 1 - 1) e, s, nI x, nI y, d, C, N, bf_P P (h - 1 - 1) (bf_v P (h - 1) + bf_v P h), O)) : wpY_operate post (nI h, nI o, e, s, nI x, nI y, d, C, N, P, O) 10 := by
  unfold wpY_operate
  dsimp only
  refine bf_ypop hh ?_
  dsimp only
  refine bf_ypop (by omega) ?_
  dsimp only
  refine br_t (by decide) ?_
  exact bf_ypush (by omega) H
theorem bf_y11 {post : SY → Prop} (hh : h ≤ 10) (H : post (nI (bf_h (h - 1 - 1)), nI o, bf_e (h - 1 - 1) e, s, nI x, nI y, d, C, N, bf_P P (h - 1 - 1) (bf_v P (h - 1) - bf_v P h), O)) : wpY_operate post (nI h, nI o, e, s, nI x, nI y, d, C, N, P, O) 11 := by
  unfold wpY_operate
  dsimp only
  refine bf_ypop hh ?_
  dsimp only
  refine bf_ypop (by omega) ?_
  dsimp only
  refine br_f (by decide) (br_t (by decide) ?_)
  exact bf_ypush (by omega) H
theorem bf_y12 {post : SY → Prop} (hh : h ≤ 10) (H : post (nI (bf_h (h - 1 - 1)), nI o, bf_e (h - 1 - 1) e, s, nI x, nI y, d, C, N, bf_P P (h - 1 - 1) (bf_v P (h - 1) * bf_v P h), O)) : wpY_operate post (nI h, nI o, e, s, nI x, nI y, d, C, N, P, O) 12 := by
  unfold wpY_operate
  dsimp only
  refine bf_ypop hh ?_
  dsimp only
  refine bf_ypop (by omega) ?_
  dsimp only
  refine br_f (by decide) (br_f (by decide) (br_t (by decide) ?_))
  exact bf_ypush (by omega) H
theorem bf_y13 {post : SY → Prop} (hh : h ≤ 10) (H : post (nI (bf_h (h - 1 - 1)), nI o, bf_e (h - 1 - 1) e, s, nI x, nI y, d, C, N, bf_P P (h - 1 - 1) (if bf_v P (h - 1) ≤ bf_v P h then 0 else 1), O)) : wpY_operate post (nI h, nI o, e, s, nI x, nI y, d, C, N, P, O) 13 := by
  unfold wpY_operate
  dsimp only
  refine bf_ypop hh ?_
  dsimp only
  refine bf_ypop (by omega) ?_
  dsimp only
  refine br_f (by decide) (br_f (by decide) (br_f (by decide) (br_t (by decide) ?_)))
  by_cases q : bf_v P (h - 1) ≤ bf_v P h
  · rw [if_pos q] at H
    refine br_t q ?_
    unfold wY_operate_75
    exact bf_ypush (by omega) H
  · rw [if_neg q] at H
    refine br_f q ?_
    unfold wY_operate_75
    exact bf_ypush (by omega) H
theorem bf_x15 {post : SX → Prop} (hh : h ≤ 10) (H : post (nI (bf_h (bf_h (h - 1 - 1))), nI o, nI x, nI y, d, s, bf_e (bf_h (h - 1 - 1)) (bf_e (h - 1 - 1) e), C, N, bf_P (bf_P P (h - 1 - 1) (bf_v P h)) (bf_h (h - 1 - 1)) (bf_v P (h - 1)), O)) : wpX_swapTopTwo post (nI h, nI o, nI x, nI y, d, s, e, C, N, P, O) := by
  unfold wpX_swapTopTwo
  dsimp only
  refine bf_xpop hh ?_
  dsimp only
  refine bf_xpop (by omega) ?_
  dsimp only
  skip
  refine bf_xpush (by omega) ?_
  dsimp only
  exact bf_xpush (bf_h_le (by omega)) H
theorem bf_y15 {post : SY → Prop} (hh : h ≤ 10) (H : post (nI (bf_h (bf_h (h - 1 - 1))), nI o, bf_e (bf_h (h - 1 - 1)) (bf_e (h - 1 - 1) e), s, nI x, nI y, d, C, N, bf_P (bf_P P (h - 1 - 1) (bf_v P h)) (bf_h (h - 1 - 1)) (bf_v P (h - 1)), O)) : wpY_operate post (nI h, nI o, e, s, nI x, nI y, d, C, N, P, O) 15 := by
  unfold wpY_operate
  dsimp only
  refine bf_ypop hh ?_
  dsimp only
  refine bf_ypop (by omega) ?_
  dsimp only
  refine br_f (by decide) (br_f (by decide) (br_f (by decide) (br_f (by decide) ?_)))
  refine bf_ypush (by omega) ?_
  dsimp only
  exact bf_ypush (bf_h_le (by omega)) H
theorem bf_x14 {post : SX → Prop} (hh : h ≤ 10) (H : post (nI (bf_h (bf_h (h - 1))), nI o, nI x, nI y, d, s, bf_e (bf_h (h - 1)) (bf_e (h - 1) e), C, N, bf_P (bf_P P (h - 1) (bf_v P h)) (bf_h (h - 1)) (bf_v P h), O)) : wpX_pushTopTwice post (nI h, nI o, nI x, nI y, d, s, e, C, N, P, O) := by
  unfold wpX_pushTopTwice
  dsimp only
  refine bf_xpop hh ?_
  dsimp only
  refine bf_xpush (by omega) ?_
  dsimp only
  exact bf_xpush (bf_h_le (by omega)) H
theorem bf_y14 {post : SY → Prop} (hh : h ≤ 10) (he : e = 0) (H : post (nI (bf_h (bf_h (h - 1))), nI o, bf_e (bf_h (h - 1)) (bf_e (h - 1) e), s, nI x, nI y, d, C, N, bf_P (bf_P P (h - 1) (bf_v P h)) (bf_h (h - 1)) (bf_v P h), O)) : wpY_twice post (nI h, nI o, e, s, nI x, nI y, d, C, N, P, O) := by
  unfold wpY_twice
  dsimp only
  refine bf_ypop hh ?_
  dsimp only
  refine bf_ypush (by omega) ?_
  dsimp only
  refine br_t ((bf_e_lt (by omega) e).trans he) ?_
  exact bf_ypush (bf_h_le (by omega)) H
theorem bf_x17 {post : SX → Prop} (hh : h ≤ 10) (H : post (nI (bf_h (h - 1)), nI o, nI x, nI y, d, s, bf_e (h - 1) e, C, N, bf_P P (h - 1) (if bf_v P h = 0 then 1 else 0), O)) : wpX_pushNot post (nI h, nI o, nI x, nI y, d, s, e, C, N, P, O) := by
  unfold wpX_pushNot
  dsimp only
  skip
  refine bf_xpop hh ?_
  dsimp only
  by_cases q : bf_v P h = 0
  · rw [if_pos q] at H
    refine br_t q ?_
    unfold wX_pushNot_15
    exact bf_xpush (by omega) H
  · rw [if_neg q] at H
    refine br_f q ?_
    unfold wX_pushNot_15
    exact bf_xpush (by omega) H
theorem bf_y17 {post : SY → Prop} (hh : h ≤ 10) (H : post (nI (bf_h (h - 1)), nI o, bf_e (h - 1) e, s, nI x, nI y, d, C, N, bf_P P (h - 1) (if bf_v P h = 0 then 1 else 0), O)) : wpY_single post (nI h, nI o, e, s, nI x, nI y, d, C, N, P, O) 17 := by
  unfold wpY_single
  dsimp only
  refine br_f (by decide) (br_t (by decide) ?_)
  refine bf_ypop hh ?_
  dsimp only
  by_cases q : bf_v P h = 0
  · rw [if_pos q] at H
    refine br_t q ?_
    unfold wY_single_35
    exact bf_ypush (by omega) H
  · rw [if_neg q] at H
    refine br_f q ?_
    unfold wY_single_35
    exact bf_ypush (by omega) H
theorem bf_x28 {post : SX → Prop} (hh : h ≤ 10) (H : post (nI (bf_h (h - 1)), nI o, nI x, nI y, d, s, bf_e (h - 1) e, C, N, bf_P P (h - 1) (N (bf_v P h &&& 3).toNatClampNeg), O)) : wpX_pushInput post (nI h, nI o, nI x, nI y, d, s, e, C, N, P, O) := by
  unfold wpX_pushInput
  dsimp only
  skip
  refine bf_xpop hh ?_
  dsimp only
  refine ⟨bf_in3 _, ?_⟩
  exact bf_xpush (by omega) H
theorem bf_y28 {post : SY → Prop} (hh : h ≤ 10) (H : post (nI (bf_h (h - 1)), nI o, bf_e (h - 1) e, s, nI x, nI y, d, C, N, bf_P P (h - 1) (N (bf_v P h &&& 3).toNatClampNeg), O)) : wpY_single post (nI h, nI o, e, s, nI x, nI y, d, C, N, P, O) 28 := by
  unfold wpY_single
  dsimp only
  refine br_f (by decide) (br_f (by decide) (br_t (by decide) ?_))
  refine bf_ypop hh ?_
  dsimp only
  refine ⟨bf_in3 _, ?_⟩
  exact bf_ypush (by omega) H
theorem bf_x25 {post : SX → Prop} (hh : h ≤ 10) (ho : o ≤ 16) (H : post (nI (h - 1), nI (bf_o o), nI x, nI y, d, s, bf_oe o e, C, N, P, bf_O O o (bf_v P h))) : wpX_appendOutput post (nI h, nI o, nI x, nI y, d, s, e, C, N, P, O) := by
  unfold wpX_appendOutput
  dsimp only
  refine bf_xpop hh ?_
  dsimp only
  by_cases c : o < 16
  · simp only [bf_o, bf_oe, bf_O, if_pos c] at H
    exact br_t (nI_lt (b := 16) c (by decide)) ⟨vp_in_nI c (by decide), nm_r (bf_u rfl (by omega)) (nm_r (nI_1 o) H)⟩
  · simp only [bf_o, bf_oe, bf_O, if_neg c] at H
    have z : o = 16 := by omega
    subst z
    exact br_f bf_n16 H
theorem bf_y25 {post : SY → Prop} (hh : h ≤ 10) (ho : o ≤ 16) (H : post (nI (h - 1), nI (bf_o o), bf_oe o e, s, nI x, nI y, d, C, N, P, bf_O O o (bf_v P h))) : wpY_write post (nI h, nI o, e, s, nI x, nI y, d, C, N, P, O) := by
  unfold wpY_write
  dsimp only
  refine bf_ypop hh ?_
  dsimp only
  by_cases c : o < 16
  · simp only [bf_o, bf_oe, bf_O, if_pos c] at H
    exact br_f (bf_ne (b := 16) c (by decide)) ⟨vp_in_nI c (by decide), nm_r (bf_u rfl (by omega)) (nm_r (nI_1 o) H)⟩
  · simp only [bf_o, bf_oe, bf_O, if_neg c] at H
    have z : o = 16 := by omega
    subst z
    exact br_t rfl H
theorem bf_x26 {post : SX → Prop} (hh : h ≤ 10) (H : post (nI (h - 1 - 1 - 1), nI o, nI x, nI y, d, s, e, upd C (bf_j (bf_v P (h - 1)) (bf_v P h)) (bf_v P (h - 1 - 1) &&& 31), N, P, O)) : wpX_writePoppedCell post (nI h, nI o, nI x, nI y, d, s, e, C, N, P, O) := by
  unfold wpX_writePoppedCell
  dsimp only
  refine bf_xpop hh ?_
  dsimp only
  refine bf_xpop (by omega) ?_
  dsimp only
  refine bf_xpop (by omega) ?_
  dsimp only
  exact bf_xwrite H
theorem bf_y26 {post : SY → Prop} (hh : h ≤ 10) (H : post (nI (h - 1 - 1 - 1), nI o, e, s, nI x, nI y, d, upd C (bf_j (bf_v P (h - 1)) (bf_v P h)) (bf_v P (h - 1 - 1) &&& 31), N, P, O)) : wpY_access post (nI h, nI o, e, s, nI x, nI y, d, C, N, P, O) 26 := by
  unfold wpY_access
  dsimp only
  refine bf_ypop hh ?_
  dsimp only
  refine bf_ypop (by omega) ?_
  dsimp only
  refine nm_e (br_t (by decide) ?_)
  refine bf_ypop (by omega) ?_
  dsimp only
  exact ⟨bf_jiy _ _, nm_r (bf_u (bf_jy _ _) (bf_jbig _ _)) H⟩
theorem bf_x27 {post : SX → Prop} (hh : h ≤ 10) (H : post (nI (bf_h (h - 1 - 1)), nI o, nI x, nI y, d, s, bf_e (h - 1 - 1) e, C, N, bf_P P (h - 1 - 1) (C (bf_j (bf_v P (h - 1)) (bf_v P h))), O)) : wpX_pushPoppedCell post (nI h, nI o, nI x, nI y, d, s, e, C, N, P, O) := by
  unfold wpX_pushPoppedCell
  dsimp only
  refine bf_xpop hh ?_
  dsimp only
  refine bf_xpop (by omega) ?_
  dsimp only
  refine bf_xread ?_
  exact bf_xpush (by omega) H
theorem bf_y27 {post : SY → Prop} (hh : h ≤ 10) (H : post (nI (bf_h (h - 1 - 1)), nI o, bf_e (h - 1 - 1) e, s, nI x, nI y, d, C, N, bf_P P (h - 1 - 1) (C (bf_j (bf_v P (h - 1)) (bf_v P h))), O)) : wpY_access post (nI h, nI o, e, s, nI x, nI y, d, C, N, P, O) 27 := by
  unfold wpY_access
  dsimp only
  refine bf_ypop hh ?_
  dsimp only
  refine bf_ypop (by omega) ?_
  dsimp only
  refine nm_e (br_f (by decide) ⟨bf_jiy _ _, ?_⟩)
  rw [bf_a (f := C) (bf_jy _ _) (bf_jbig _ _)]
  exact bf_ypush (by omega) H
theorem bf_x22 {post : SX → Prop} (hh : h ≤ 10) (H : post (nI (h - 1), nI o, nI x, nI y, if bf_v P h = 0 then 0 else 1, s, e, C, N, P, O)) : wpX_workOffWay post (nI h, nI o, nI x, nI y, d, s, e, C, N, P, O) 22 := by
  unfold wpX_workOffWay
  dsimp only
  refine br_f (by decide) (br_f (by decide) (br_f (by decide) (br_f (by decide) (br_f (by decide) (br_f (by decide) (br_t (by decide) ?_))))))
  refine bf_xpop hh ?_
  dsimp only
  by_cases q : bf_v P h = 0
  · rw [if_pos q] at H
    exact br_t q H
  · rw [if_neg q] at H
    exact br_f q H
theorem bf_y22 {post : SY → Prop} (hh : h ≤ 10) (H : post (nI (h - 1), nI o, e, s, nI x, nI y, if bf_v P h = 0 then 0 else 1, C, N, P, O)) : wpY_steer post (nI h, nI o, e, s, nI x, nI y, d, C, N, P, O) 22 := by
  unfold wpY_steer
  dsimp only
  refine br_t (by decide) ?_
  refine bf_ypop hh ?_
  dsimp only
  refine br_t (by decide) ?_
  unfold wY_steer_34
  by_cases q : bf_v P h = 0
  · rw [if_pos q] at H
    exact br_t q (nm_r (by decide) H)
  · rw [if_neg q] at H
    exact br_f q (nm_r (by decide) H)
theorem bf_x23 {post : SX → Prop} (hh : h ≤ 10) (H : post (nI (h - 1), nI o, nI x, nI y, if bf_v P h = 0 then 2 else 3, s, e, C, N, P, O)) : wpX_workOffWay post (nI h, nI o, nI x, nI y, d, s, e, C, N, P, O) 23 := by
  unfold wpX_workOffWay
  dsimp only
  refine br_f (by decide) (br_f (by decide) (br_f (by decide) (br_f (by decide) (br_f (by decide) (br_f (by decide) (br_f (by decide) (br_t (by decide) ?_)))))))
  refine bf_xpop hh ?_
  dsimp only
  by_cases q : bf_v P h = 0
  · rw [if_pos q] at H
    exact br_t q H
  · rw [if_neg q] at H
    exact br_f q H
theorem bf_y23 {post : SY → Prop} (hh : h ≤ 10) (H : post (nI (h - 1), nI o, e, s, nI x, nI y, if bf_v P h = 0 then 2 else 3, C, N, P, O)) : wpY_steer post (nI h, nI o, e, s, nI x, nI y, d, C, N, P, O) 23 := by
  unfold wpY_steer
  dsimp only
  refine br_t (by decide) ?_
  refine bf_ypop hh ?_
  dsimp only
  refine br_f (by decide) ?_
  unfold wY_steer_34
  by_cases q : bf_v P h = 0
  · rw [if_pos q] at H
    exact br_t q (nm_r (by decide) H)
  · rw [if_neg q] at H
    exact br_f q (nm_r (by decide) H)
end BFC
