section BFD
variable {h o x y : Nat} {d s : Int32} {C N P O : Nat → Int32}
/-- at code c both sides work the step off, and end in one state -/
def bf_W (h o x y : Nat) (d s : Int32) (C N P O : Nat → Int32) (c : Int32) : Prop :=
  ∃ (h' o' x' y' : Nat) (d' e' : Int32) (C' P' O' : Nat → Int32), h' ≤ 10 ∧ o' ≤ 16 ∧ x' < 8 ∧ y' < 4 ∧
    (∀ post : SX → Prop, post (nI h', nI o', nI x', nI y', d', s, e', C', N, P', O') → wpX_workOff post (nI h, nI o, nI x, nI y, d, s, 0, C, N, P, O) c) ∧
    (∀ post : SY → Prop, post (nI h', nI o', e', s, nI x', nI y', d', C', N, P', O') → wpY_work post (nI h, nI o, 0, s, nI x, nI y, d, C, N, P, O) c)
theorem bf_w10 (hh : h ≤ 10) (ho : o ≤ 16) (hx : x < 8) (hy : y < 4) : bf_W h o x y d s C N P O 10 := by
  refine ⟨(bf_h (h - 1 - 1)), o, x, y, d, (bf_e (h - 1 - 1) 0), C, (bf_P P (h - 1 - 1) (bf_v P (h - 1) + bf_v P h)), O, bf_h_le (by omega), ho, hx, hy, fun post H => ?_, fun post H => ?_⟩
  · unfold wpX_workOff
    dsimp only
    refine br_f (by decide) (br_t (by decide) (br_f (by decide) (br_f (by decide) (?_))))
    exact bf_x10 hh H
  · unfold wpY_work
    dsimp only
    refine br_f (by decide) (br_t (by decide) (br_f (by decide) (br_t (by decide) (?_))))
    unfold wY_work_37
    exact bf_y10 hh H
theorem bf_w11 (hh : h ≤ 10) (ho : o ≤ 16) (hx : x < 8) (hy : y < 4) : bf_W h o x y d s C N P O 11 := by
  refine ⟨(bf_h (h - 1 - 1)), o, x, y, d, (bf_e (h - 1 - 1) 0), C, (bf_P P (h - 1 - 1) (bf_v P (h - 1) - bf_v P h)), O, bf_h_le (by omega), ho, hx, hy, fun post H => ?_, fun post H => ?_⟩
  · unfold wpX_workOff
    dsimp only
    refine br_f (by decide) (br_t (by decide) (br_f (by decide) (br_f (by decide) (?_))))
    exact bf_x11 hh H
  · unfold wpY_work
    dsimp only
    refine br_f (by decide) (br_t (by decide) (br_f (by decide) (br_t (by decide) (?_))))
    unfold wY_work_37
    exact bf_y11 hh H
theorem bf_w12 (hh : h ≤ 10) (ho : o ≤ 16) (hx : x < 8) (hy : y < 4) : bf_W h o x y d s C N P O 12 := by
  refine ⟨(bf_h (h - 1 - 1)), o, x, y, d, (bf_e (h - 1 - 1) 0), C, (bf_P P (h - 1 - 1) (bf_v P (h - 1) * bf_v P h)), O, bf_h_le (by omega), ho, hx, hy, fun post H => ?_, fun post H => ?_⟩
  · unfold wpX_workOff
    dsimp only
    refine br_f (by decide) (br_t (by decide) (br_f (by decide) (br_f (by decide) (?_))))
    exact bf_x12 hh H
  · unfold wpY_work
    dsimp only
    refine br_f (by decide) (br_t (by decide) (br_f (by decide) (br_t (by decide) (?_))))
    unfold wY_work_37
    exact bf_y12 hh H
theorem bf_w13 (hh : h ≤ 10) (ho : o ≤ 16) (hx : x < 8) (hy : y < 4) : bf_W h o x y d s C N P O 13 := by
  refine ⟨(bf_h (h - 1 - 1)), o, x, y, d, (bf_e (h - 1 - 1) 0), C, (bf_P P (h - 1 - 1) (if bf_v P (h - 1) ≤ bf_v P h then 0 else 1)), O, bf_h_le (by omega), ho, hx, hy, fun post H => ?_, fun post H => ?_⟩
  · unfold wpX_workOff
    dsimp only
    refine br_f (by decide) (br_t (by decide) (br_f (by decide) (br_f (by decide) (?_))))
    exact bf_x13 hh H
  · unfold wpY_work
    dsimp only
    refine br_f (by decide) (br_t (by decide) (br_f (by decide) (br_t (by decide) (?_))))
    unfold wY_work_37
    exact bf_y13 hh H
theorem bf_w14 (hh : h ≤ 10) (ho : o ≤ 16) (hx : x < 8) (hy : y < 4) : bf_W h o x y d s C N P O 14 := by
  refine ⟨(bf_h (bf_h (h - 1))), o, x, y, d, (bf_e (bf_h (h - 1)) (bf_e (h - 1) 0)), C, (bf_P (bf_P P (h - 1) (bf_v P h)) (bf_h (h - 1)) (bf_v P h)), O, bf_h_le (bf_h_le (by omega)), ho, hx, hy, fun post H => ?_, fun post H => ?_⟩
  · unfold wpX_workOff
    dsimp only
    refine br_f (by decide) (br_t (by decide) (br_f (by decide) (br_t (by decide) (br_f (by decide) (br_f (by decide) (?_))))))
    unfold wpX_workOffPile
    dsimp only
    refine br_f (by decide) (br_f (by decide) (br_t (by decide) (?_)))
    exact bf_x14 hh H
  · unfold wpY_work
    dsimp only
    refine br_f (by decide) (br_t (by decide) (br_f (by decide) (br_f (by decide) (br_f (by decide) (br_t (by decide) (?_))))))
    exact bf_y14 hh rfl H
theorem bf_w15 (hh : h ≤ 10) (ho : o ≤ 16) (hx : x < 8) (hy : y < 4) : bf_W h o x y d s C N P O 15 := by
  refine ⟨(bf_h (bf_h (h - 1 - 1))), o, x, y, d, (bf_e (bf_h (h - 1 - 1)) (bf_e (h - 1 - 1) 0)), C, (bf_P (bf_P P (h - 1 - 1) (bf_v P h)) (bf_h (h - 1 - 1)) (bf_v P (h - 1))), O, bf_h_le (bf_h_le (by omega)), ho, hx, hy, fun post H => ?_, fun post H => ?_⟩
  · unfold wpX_workOff
    dsimp only
    refine br_f (by decide) (br_t (by decide) (br_f (by decide) (br_t (by decide) (br_f (by decide) (br_f (by decide) (?_))))))
    unfold wpX_workOffPile
    dsimp only
    refine br_f (by decide) (br_f (by decide) (br_f (by decide) (br_t (by decide) (?_))))
    exact bf_x15 hh H
  · unfold wpY_work
    dsimp only
    refine br_f (by decide) (br_t (by decide) (br_f (by decide) (br_f (by decide) (br_t (by decide) (?_)))))
    unfold wY_work_37
    exact bf_y15 hh H
theorem bf_w16 (hh : h ≤ 10) (ho : o ≤ 16) (hx : x < 8) (hy : y < 4) : bf_W h o x y d s C N P O 16 := by
  refine ⟨(h - 1), o, x, y, d, 0, C, P, O, by omega, ho, hx, hy, fun post H => ?_, fun post H => ?_⟩
  · unfold wpX_workOff
    dsimp only
    refine br_f (by decide) (br_t (by decide) (br_f (by decide) (br_t (by decide) (br_f (by decide) (br_f (by decide) (?_))))))
    unfold wpX_workOffPile
    dsimp only
    refine br_f (by decide) (br_f (by decide) (br_f (by decide) (br_f (by decide) (br_t (by decide) (?_)))))
    exact bf_xpop hh H
  · unfold wpY_work
    dsimp only
    refine br_f (by decide) (br_t (by decide) (br_f (by decide) (br_f (by decide) (br_f (by decide) (br_f (by decide) (br_t (by decide) (br_f (by decide) (br_f (by decide) (br_f (by decide) (br_f (by decide) (br_f (by decide) (?_))))))))))))
    unfold wpY_single
    dsimp only
    refine br_t (by decide) ?_
    exact bf_ypop hh H
theorem bf_w17 (hh : h ≤ 10) (ho : o ≤ 16) (hx : x < 8) (hy : y < 4) : bf_W h o x y d s C N P O 17 := by
  refine ⟨(bf_h (h - 1)), o, x, y, d, (bf_e (h - 1) 0), C, (bf_P P (h - 1) (if bf_v P h = 0 then 1 else 0)), O, bf_h_le (by omega), ho, hx, hy, fun post H => ?_, fun post H => ?_⟩
  · unfold wpX_workOff
    dsimp only
    refine br_f (by decide) (br_t (by decide) (br_f (by decide) (br_t (by decide) (br_f (by decide) (br_f (by decide) (?_))))))
    unfold wpX_workOffPile
    dsimp only
    refine br_f (by decide) (br_t (by decide) (?_))
    exact bf_x17 hh H
  · unfold wpY_work
    dsimp only
    refine br_f (by decide) (br_t (by decide) (br_f (by decide) (br_f (by decide) (br_f (by decide) (br_f (by decide) (br_t (by decide) (br_f (by decide) (br_f (by decide) (br_f (by decide) (br_f (by decide) (br_f (by decide) (?_))))))))))))
    exact bf_y17 hh H
theorem bf_w18 (hh : h ≤ 10) (ho : o ≤ 16) (hx : x < 8) (hy : y < 4) : bf_W h o x y d s C N P O 18 := by
  refine ⟨h, o, x, y, 0, 0, C, P, O, hh, ho, hx, hy, fun post H => ?_, fun post H => ?_⟩
  · unfold wpX_workOff
    dsimp only
    refine br_f (by decide) (br_t (by decide) (br_f (by decide) (br_t (by decide) (br_f (by decide) (br_t (by decide) (br_f (by decide) (br_f (by decide) (?_))))))))
    unfold wpX_workOffWay
    dsimp only
    refine br_f (by decide) (br_f (by decide) (br_t (by decide) (?_)))
    exact H
  · unfold wpY_work
    dsimp only
    refine br_f (by decide) (br_t (by decide) (br_f (by decide) (br_f (by decide) (br_f (by decide) (br_f (by decide) (br_f (by decide) (br_f (by decide) (?_))))))))
    unfold wpY_steer
    dsimp only
    refine br_f (by decide) ?_
    exact nm_r (by decide) H
theorem bf_w19 (hh : h ≤ 10) (ho : o ≤ 16) (hx : x < 8) (hy : y < 4) : bf_W h o x y d s C N P O 19 := by
  refine ⟨h, o, x, y, 1, 0, C, P, O, hh, ho, hx, hy, fun post H => ?_, fun post H => ?_⟩
  · unfold wpX_workOff
    dsimp only
    refine br_f (by decide) (br_t (by decide) (br_f (by decide) (br_t (by decide) (br_f (by decide) (br_t (by decide) (br_f (by decide) (br_f (by decide) (?_))))))))
    unfold wpX_workOffWay
    dsimp only
    refine br_f (by decide) (br_f (by decide) (br_f (by decide) (br_t (by decide) (?_))))
    exact H
  · unfold wpY_work
    dsimp only
    refine br_f (by decide) (br_t (by decide) (br_f (by decide) (br_f (by decide) (br_f (by decide) (br_f (by decide) (br_f (by decide) (br_f (by decide) (?_))))))))
    unfold wpY_steer
    dsimp only
    refine br_f (by decide) ?_
    exact nm_r (by decide) H
theorem bf_w20 (hh : h ≤ 10) (ho : o ≤ 16) (hx : x < 8) (hy : y < 4) : bf_W h o x y d s C N P O 20 := by
  refine ⟨h, o, x, y, 2, 0, C, P, O, hh, ho, hx, hy, fun post H => ?_, fun post H => ?_⟩
  · unfold wpX_workOff
    dsimp only
    refine br_f (by decide) (br_t (by decide) (br_f (by decide) (br_t (by decide) (br_f (by decide) (br_t (by decide) (br_f (by decide) (br_f (by decide) (?_))))))))
    unfold wpX_workOffWay
    dsimp only
    refine br_f (by decide) (br_f (by decide) (br_f (by decide) (br_f (by decide) (br_t (by decide) (?_)))))
    exact H
  · unfold wpY_work
    dsimp only
    refine br_f (by decide) (br_t (by decide) (br_f (by decide) (br_f (by decide) (br_f (by decide) (br_f (by decide) (br_f (by decide) (br_f (by decide) (?_))))))))
    unfold wpY_steer
    dsimp only
    refine br_f (by decide) ?_
    exact nm_r (by decide) H
theorem bf_w21 (hh : h ≤ 10) (ho : o ≤ 16) (hx : x < 8) (hy : y < 4) : bf_W h o x y d s C N P O 21 := by
  refine ⟨h, o, x, y, 3, 0, C, P, O, hh, ho, hx, hy, fun post H => ?_, fun post H => ?_⟩
  · unfold wpX_workOff
    dsimp only
    refine br_f (by decide) (br_t (by decide) (br_f (by decide) (br_t (by decide) (br_f (by decide) (br_t (by decide) (br_f (by decide) (br_f (by decide) (?_))))))))
    unfold wpX_workOffWay
    dsimp only
    refine br_f (by decide) (br_f (by decide) (br_f (by decide) (br_f (by decide) (br_f (by decide) (br_t (by decide) (?_))))))
    exact H
  · unfold wpY_work
    dsimp only
    refine br_f (by decide) (br_t (by decide) (br_f (by decide) (br_f (by decide) (br_f (by decide) (br_f (by decide) (br_f (by decide) (br_f (by decide) (?_))))))))
    unfold wpY_steer
    dsimp only
    refine br_f (by decide) ?_
    exact nm_r (by decide) H
theorem bf_w22 (hh : h ≤ 10) (ho : o ≤ 16) (hx : x < 8) (hy : y < 4) : bf_W h o x y d s C N P O 22 := by
  refine ⟨(h - 1), o, x, y, (if bf_v P h = 0 then 0 else 1), 0, C, P, O, by omega, ho, hx, hy, fun post H => ?_, fun post H => ?_⟩
  · unfold wpX_workOff
    dsimp only
    refine br_f (by decide) (br_t (by decide) (br_f (by decide) (br_t (by decide) (br_f (by decide) (br_t (by decide) (br_f (by decide) (br_f (by decide) (?_))))))))
    exact bf_x22 hh H
  · unfold wpY_work
    dsimp only
    refine br_f (by decide) (br_t (by decide) (br_f (by decide) (br_f (by decide) (br_f (by decide) (br_f (by decide) (br_f (by decide) (br_f (by decide) (?_))))))))
    exact bf_y22 hh H
theorem bf_w23 (hh : h ≤ 10) (ho : o ≤ 16) (hx : x < 8) (hy : y < 4) : bf_W h o x y d s C N P O 23 := by
  refine ⟨(h - 1), o, x, y, (if bf_v P h = 0 then 2 else 3), 0, C, P, O, by omega, ho, hx, hy, fun post H => ?_, fun post H => ?_⟩
  · unfold wpX_workOff
    dsimp only
    refine br_f (by decide) (br_t (by decide) (br_f (by decide) (br_t (by decide) (br_f (by decide) (br_t (by decide) (br_f (by decide) (br_f (by decide) (?_))))))))
    exact bf_x23 hh H
  · unfold wpY_work
    dsimp only
    refine br_f (by decide) (br_t (by decide) (br_f (by decide) (br_f (by decide) (br_f (by decide) (br_f (by decide) (br_f (by decide) (br_f (by decide) (?_))))))))
    exact bf_y23 hh H
theorem bf_w24 (hh : h ≤ 10) (ho : o ≤ 16) (hx : x < 8) (hy : y < 4) : bf_W h o x y d s C N P O 24 := by
  refine ⟨h, o, (bf_mx d x), (bf_my d y), d, 0, C, P, O, hh, ho, bf_mx_lt d hx, bf_my_lt d hy, fun post H => ?_, fun post H => ?_⟩
  · unfold wpX_workOff
    dsimp only
    refine br_f (by decide) (br_t (by decide) (br_f (by decide) (br_t (by decide) (br_f (by decide) (br_t (by decide) (br_f (by decide) (br_f (by decide) (?_))))))))
    unfold wpX_workOffWay
    dsimp only
    refine br_f (by decide) (br_t (by decide) (?_))
    exact bf_xmove hx hy H
  · unfold wpY_work
    dsimp only
    refine br_f (by decide) (br_t (by decide) (br_f (by decide) (br_f (by decide) (br_f (by decide) (br_f (by decide) (br_f (by decide) (br_t (by decide) (br_t (by decide) (?_)))))))))
    exact bf_ymove hx hy H
theorem bf_w25 (hh : h ≤ 10) (ho : o ≤ 16) (hx : x < 8) (hy : y < 4) : bf_W h o x y d s C N P O 25 := by
  refine ⟨(h - 1), (bf_o o), x, y, d, (bf_oe o 0), C, P, (bf_O O o (bf_v P h)), by omega, bf_o_le ho, hx, hy, fun post H => ?_, fun post H => ?_⟩
  · unfold wpX_workOff
    dsimp only
    refine br_f (by decide) (br_t (by decide) (br_f (by decide) (br_t (by decide) (br_f (by decide) (br_t (by decide) (br_f (by decide) (br_t (by decide) (br_f (by decide) (br_f (by decide) (?_))))))))))
    unfold wpX_workOffOutside
    dsimp only
    refine br_f (by decide) (br_f (by decide) (br_t (by decide) (?_)))
    exact bf_x25 hh ho H
  · unfold wpY_work
    dsimp only
    refine br_f (by decide) (br_t (by decide) (br_f (by decide) (br_f (by decide) (br_f (by decide) (br_f (by decide) (br_f (by decide) (br_t (by decide) (br_f (by decide) (br_t (by decide) (?_))))))))))
    exact bf_y25 hh ho H
theorem bf_w26 (hh : h ≤ 10) (ho : o ≤ 16) (hx : x < 8) (hy : y < 4) : bf_W h o x y d s C N P O 26 := by
  refine ⟨(h - 1 - 1 - 1), o, x, y, d, 0, (upd C (bf_j (bf_v P (h - 1)) (bf_v P h)) (bf_v P (h - 1 - 1) &&& 31)), P, O, by omega, ho, hx, hy, fun post H => ?_, fun post H => ?_⟩
  · unfold wpX_workOff
    dsimp only
    refine br_f (by decide) (br_t (by decide) (br_f (by decide) (br_t (by decide) (br_f (by decide) (br_t (by decide) (br_f (by decide) (br_t (by decide) (br_f (by decide) (br_f (by decide) (?_))))))))))
    unfold wpX_workOffOutside
    dsimp only
    refine br_f (by decide) (br_f (by decide) (br_f (by decide) (br_t (by decide) (?_))))
    exact bf_x26 hh H
  · unfold wpY_work
    dsimp only
    refine br_f (by decide) (br_t (by decide) (br_f (by decide) (br_f (by decide) (br_f (by decide) (br_f (by decide) (br_f (by decide) (br_t (by decide) (br_f (by decide) (br_f (by decide) (br_t (by decide) (?_)))))))))))
    unfold wY_work_116
    exact bf_y26 hh H
theorem bf_w27 (hh : h ≤ 10) (ho : o ≤ 16) (hx : x < 8) (hy : y < 4) : bf_W h o x y d s C N P O 27 := by
  refine ⟨(bf_h (h - 1 - 1)), o, x, y, d, (bf_e (h - 1 - 1) 0), C, (bf_P P (h - 1 - 1) (C (bf_j (bf_v P (h - 1)) (bf_v P h)))), O, bf_h_le (by omega), ho, hx, hy, fun post H => ?_, fun post H => ?_⟩
  · unfold wpX_workOff
    dsimp only
    refine br_f (by decide) (br_t (by decide) (br_f (by decide) (br_t (by decide) (br_f (by decide) (br_t (by decide) (br_f (by decide) (br_t (by decide) (br_f (by decide) (br_f (by decide) (?_))))))))))
    unfold wpX_workOffOutside
    dsimp only
    refine br_f (by decide) (br_f (by decide) (br_f (by decide) (br_f (by decide) (br_t (by decide) (?_)))))
    exact bf_x27 hh H
  · unfold wpY_work
    dsimp only
    refine br_f (by decide) (br_t (by decide) (br_f (by decide) (br_f (by decide) (br_f (by decide) (br_f (by decide) (br_f (by decide) (br_t (by decide) (br_f (by decide) (br_f (by decide) (br_f (by decide) (br_t (by decide) (?_))))))))))))
    unfold wY_work_116
    exact bf_y27 hh H
theorem bf_w28 (hh : h ≤ 10) (ho : o ≤ 16) (hx : x < 8) (hy : y < 4) : bf_W h o x y d s C N P O 28 := by
  refine ⟨(bf_h (h - 1)), o, x, y, d, (bf_e (h - 1) 0), C, (bf_P P (h - 1) (N (bf_v P h &&& 3).toNatClampNeg)), O, bf_h_le (by omega), ho, hx, hy, fun post H => ?_, fun post H => ?_⟩
  · unfold wpX_workOff
    dsimp only
    refine br_f (by decide) (br_t (by decide) (br_f (by decide) (br_t (by decide) (br_f (by decide) (br_t (by decide) (br_f (by decide) (br_t (by decide) (br_f (by decide) (br_f (by decide) (?_))))))))))
    unfold wpX_workOffOutside
    dsimp only
    refine br_f (by decide) (br_f (by decide) (br_f (by decide) (br_f (by decide) (br_f (by decide) (br_t (by decide) (?_))))))
    exact bf_x28 hh H
  · unfold wpY_work
    dsimp only
    refine br_f (by decide) (br_t (by decide) (br_f (by decide) (br_f (by decide) (br_f (by decide) (br_f (by decide) (br_f (by decide) (br_t (by decide) (br_f (by decide) (br_f (by decide) (br_f (by decide) (br_f (by decide) (br_f (by decide) (?_)))))))))))))
    exact bf_y28 hh H
theorem bf_w29 (hh : h ≤ 10) (ho : o ≤ 16) (hx : x < 8) (hy : y < 4) : bf_W h o x y d s C N P O 29 := by
  refine ⟨h, o, x, y, d, 1, C, P, O, hh, ho, hx, hy, fun post H => ?_, fun post H => ?_⟩
  · unfold wpX_workOff
    dsimp only
    refine br_f (by decide) (br_t (by decide) (br_f (by decide) (br_t (by decide) (br_f (by decide) (br_t (by decide) (br_f (by decide) (br_t (by decide) (br_f (by decide) (br_f (by decide) (?_))))))))))
    unfold wpX_workOffOutside
    dsimp only
    refine br_f (by decide) (br_t (by decide) (?_))
    exact H
  · unfold wpY_work
    dsimp only
    refine br_f (by decide) (br_t (by decide) (br_f (by decide) (br_f (by decide) (br_f (by decide) (br_f (by decide) (br_f (by decide) (br_t (by decide) (br_f (by decide) (br_f (by decide) (br_f (by decide) (br_f (by decide) (br_t (by decide) (?_)))))))))))))
    exact H
theorem bf_i1 {c : Int32} (k : Int32) (hc : c.toInt < 1) (hk : 1 ≤ k.toInt := by decide) : c < k := by
  rw [Int32.lt_iff_toInt_lt]; omega
theorem bf_i2 {c : Int32} (k : Int32) (hc : c.toInt < 1) (hk : 1 ≤ k.toInt := by decide) : ¬ c = k := fun z => by
  rw [z] at hc; omega
theorem bf_i3 {c : Int32} (k : Int32) (hc : 29 < c.toInt) (hk : k.toInt ≤ 29 := by decide) : k < c := by
  rw [Int32.lt_iff_toInt_lt]; omega
theorem bf_i4 {c : Int32} (k : Int32) (hc : 29 < c.toInt) (hk : k.toInt ≤ 29 := by decide) : ¬ c < k := by
  rw [Int32.lt_iff_toInt_lt]; omega
theorem bf_i5 {c : Int32} (k : Int32) (hc : 29 < c.toInt) (hk : k.toInt ≤ 29 := by decide) : ¬ c ≤ k := by
  rw [Int32.le_iff_toInt_le]; omega
theorem bf_i6 {c : Int32} (k : Int32) (hc : 29 < c.toInt) (hk : k.toInt ≤ 29 := by decide) : ¬ c = k := fun z => by
  rw [z] at hc; omega
theorem bf_wlo {c : Int32} (hc : c.toInt < 1) (hh : h ≤ 10) (ho : o ≤ 16) (hx : x < 8) (hy : y < 4) : bf_W h o x y d s C N P O c := by
  refine ⟨h, o, x, y, d, 0, C, P, O, hh, ho, hx, hy, fun post H => ?_, fun post H => ?_⟩
  · unfold wpX_workOff
    dsimp only
    exact br_t (bf_i1 _ hc) (br_t (bf_i1 _ hc) (br_t (bf_i1 _ hc) (br_t (bf_i1 _ hc) (br_t (bf_i1 _ hc) H))))
  · unfold wpY_work
    dsimp only
    refine br_t (bf_i1 _ hc) (br_t (bf_i1 _ hc) (br_f (bf_i2 _ hc) (br_f (bf_i2 _ hc) (br_t (bf_i1 _ hc) (br_f (bf_i2 _ hc) (br_f (bf_i2 _ hc) (br_f (bf_i2 _ hc) (br_f (bf_i2 _ hc) (br_f (bf_i2 _ hc) ?_)))))))))
    unfold wpY_single
    dsimp only
    exact br_f (bf_i2 _ hc) (br_f (bf_i2 _ hc) (br_f (bf_i2 _ hc) H))
theorem bf_whi {c : Int32} (hc : 29 < c.toInt) (hh : h ≤ 10) (ho : o ≤ 16) (hx : x < 8) (hy : y < 4) : bf_W h o x y d s C N P O c := by
  refine ⟨h, o, x, y, d, 0, C, P, O, hh, ho, hx, hy, fun post H => ?_, fun post H => ?_⟩
  · unfold wpX_workOff
    dsimp only
    exact br_f (bf_i4 _ hc) (br_t (bf_i3 _ hc) (br_f (bf_i4 _ hc) (br_t (bf_i3 _ hc) (br_f (bf_i4 _ hc) (br_t (bf_i3 _ hc) (br_f (bf_i4 _ hc) (br_t (bf_i3 _ hc) (br_f (bf_i4 _ hc) (br_t (bf_i3 _ hc) H)))))))))
  · unfold wpY_work
    dsimp only
    refine br_f (bf_i4 _ hc) (br_t (bf_i3 _ hc) (br_f (bf_i4 _ hc) (br_f (bf_i5 _ hc) (br_f (bf_i6 _ hc) (br_f (bf_i6 _ hc) (br_f (bf_i4 _ hc) (br_t (bf_i3 _ hc) (br_f (bf_i6 _ hc) (br_f (bf_i6 _ hc) (br_f (bf_i6 _ hc) (br_f (bf_i6 _ hc) (br_f (bf_i6 _ hc) ?_))))))))))))
    unfold wpY_single
    dsimp only
    exact br_f (bf_i6 _ hc) (br_f (bf_i6 _ hc) (br_f (bf_i6 _ hc) H))
theorem bf_wnum {c : Int32} (h1 : ¬ c < 1) (h9 : ¬ 9 < c) (hh : h ≤ 10) (ho : o ≤ 16) (hx : x < 8) (hy : y < 4) : bf_W h o x y d s C N P O c := by
  refine ⟨bf_h h, o, x, y, d, bf_e h 0, C, bf_P P h c, O, bf_h_le hh, ho, hx, hy, fun post H => ?_, fun post H => ?_⟩
  · unfold wpX_workOff
    dsimp only
    exact br_f h1 (br_f h9 (bf_xpush hh H))
  · unfold wpY_work
    dsimp only
    exact br_f h1 (br_f h9 (bf_ypush hh H))
theorem bf_work (c : Int32) (hh : h ≤ 10) (ho : o ≤ 16) (hx : x < 8) (hy : y < 4) : bf_W h o x y d s C N P O c := by
  by_cases l : c.toInt < 1
  · exact bf_wlo l hh ho hx hy
  · by_cases g : 29 < c.toInt
    · exact bf_whi g hh ho hx hy
    · by_cases n : c.toInt ≤ 9
      · refine bf_wnum ?_ ?_ hh ho hx hy
        · rw [Int32.lt_iff_toInt_lt, show (1 : Int32).toInt = 1 from by decide]; omega
        · rw [Int32.lt_iff_toInt_lt, show (9 : Int32).toInt = 9 from by decide]; omega
      · have c0 : ¬ c < 0 := by
          rw [Int32.lt_iff_toInt_lt, show (0 : Int32).toInt = 0 from by decide]; omega
        obtain ⟨j, hj, rfl⟩ := nI_of c0
        rw [nI_toInt hj] at l g n
        have hj2 : j = 10 ∨ j = 11 ∨ j = 12 ∨ j = 13 ∨ j = 14 ∨ j = 15 ∨ j = 16 ∨ j = 17 ∨ j = 18 ∨ j = 19 ∨ j = 20 ∨ j = 21 ∨ j = 22 ∨ j = 23 ∨ j = 24 ∨ j = 25 ∨ j = 26 ∨ j = 27 ∨ j = 28 ∨ j = 29 := by omega
        rcases hj2 with rfl | rfl | rfl | rfl | rfl | rfl | rfl | rfl | rfl | rfl | rfl | rfl | rfl | rfl | rfl | rfl | rfl | rfl | rfl | rfl
        · exact bf_w10 hh ho hx hy
        · exact bf_w11 hh ho hx hy
        · exact bf_w12 hh ho hx hy
        · exact bf_w13 hh ho hx hy
        · exact bf_w14 hh ho hx hy
        · exact bf_w15 hh ho hx hy
        · exact bf_w16 hh ho hx hy
        · exact bf_w17 hh ho hx hy
        · exact bf_w18 hh ho hx hy
        · exact bf_w19 hh ho hx hy
        · exact bf_w20 hh ho hx hy
        · exact bf_w21 hh ho hx hy
        · exact bf_w22 hh ho hx hy
        · exact bf_w23 hh ho hx hy
        · exact bf_w24 hh ho hx hy
        · exact bf_w25 hh ho hx hy
        · exact bf_w26 hh ho hx hy
        · exact bf_w27 hh ho hx hy
        · exact bf_w28 hh ho hx hy
        · exact bf_w29 hh ho hx hy
end BFD
