section BFA
/-! rows of kit/rows/PURE-ROWS, pasted -/
theorem pk_us {f : Nat → Int32} {k : Nat} {x : Int32} : upd f k x k = x := if_pos rfl
theorem pk_un {f : Nat → Int32} {k j : Nat} {x : Int32} (h : j ≠ k) : upd f k x j = f j := if_neg h
theorem pk_sub {a b : Nat} (h : b ≤ a) : nI a - nI b = nI (a - b) := by
  obtain ⟨c, rfl⟩ : ∃ c, a = c + b := ⟨a - b, by omega⟩
  rw [← nI_add, Int32.add_sub_cancel, Nat.add_sub_cancel]
theorem pk_m1 (n : Nat) : nI (n + 1) + (-1) = nI n := by
  rw [← nI_1, Int32.add_assoc, show (1 : Int32) + (-1) = 0 from rfl, Int32.add_zero]
theorem pk_mul (a b : Nat) : nI a * nI b = nI (a * b) := (Int32.ofNat_mul a b).symm
theorem pk_ix (x : Int32) {n : Nat} (hn : n < 2 ^ 31) : x < 0 ∨ nI n ≤ x ∨ ∃ j : Nat, j < n ∧ x = nI j := by
  by_cases h : x < 0
  · exact Or.inl h
  · obtain ⟨j, hj, rfl⟩ := nI_of h
    by_cases h2 : j < n
    · exact Or.inr (Or.inr ⟨j, h2, rfl⟩)
    · exact Or.inr (Or.inl (nI_le (by omega) hj))
theorem pk_le {x y : Int32} {A B : Prop} (a b : Nat) (f : a ≤ b → A) (g : b < a → B) (hx : x = nI a := by rfl) (hy : y = nI b := by rfl) (ha : a < 2 ^ 31 := by omega) (hb : b < 2 ^ 31 := by omega) : (x ≤ y → A) ∧ (¬ x ≤ y → B) := by
  subst hx hy
  rw [nI_leI ha hb]
  exact ⟨f, fun z => g (by omega)⟩
theorem pk_lt {x y : Int32} {A B : Prop} (a b : Nat) (f : a < b → A) (g : b ≤ a → B) (hx : x = nI a := by rfl) (hy : y = nI b := by rfl) (ha : a < 2 ^ 31 := by omega) (hb : b < 2 ^ 31 := by omega) : (x < y → A) ∧ (¬ x < y → B) := by
  subst hx hy
  rw [nI_ltI ha hb]
  exact ⟨f, fun z => g (by omega)⟩
theorem pk_eq {x y : Int32} {A B : Prop} (a b : Nat) (f : a = b → A) (g : a ≠ b → B) (hx : x = nI a := by rfl) (hy : y = nI b := by rfl) (ha : a < 2 ^ 31 := by omega) (hb : b < 2 ^ 31 := by omega) : (x = y → A) ∧ (¬ x = y → B) := by
  subst hx hy
  rw [nI_eq ha hb]
  exact ⟨f, g⟩
theorem pk_in {x : Int32} (n N : Nat) (h : n < N) (hx : x = nI n := by rfl) (hN : N < 2 ^ 31 := by omega) : vp_in x N := by
  subst hx
  exact vp_in_nI h hN
theorem pk_cl {x : Int32} (n : Nat) (hx : x = nI n := by rfl) (h : n < 2 ^ 31 := by omega) : x.toNatClampNeg = n := by
  subst hx
  exact nI_clamp h
theorem pk_tn {n : Nat} (h : n < 2 ^ 32) : (nI n).toBitVec.toNat = n := Nat.mod_eq_of_lt h
theorem pk_and (x : Int32) {m : Int32} (k : Nat) (hm : m.toBitVec.toNat = 2 ^ k - 1) : x &&& m = nI (x.toBitVec.toNat % 2 ^ k) := by
  apply Int32.toBitVec_inj.mp
  apply BitVec.eq_of_toNat_eq
  rw [Int32.toBitVec_and, BitVec.toNat_and, hm, Nat.and_two_pow_sub_one_eq_mod]
  show _ = (BitVec.ofNat 32 _).toNat
  rw [BitVec.toNat_ofNat]
  exact (Nat.mod_eq_of_lt (Nat.lt_of_le_of_lt (Nat.mod_le _ _) x.toBitVec.isLt)).symm
theorem pk_andN {n : Nat} (h : n < 2 ^ 32) {m : Int32} (k : Nat) (hm : m.toBitVec.toNat = 2 ^ k - 1) : nI n &&& m = nI (n % 2 ^ k) := by
  rw [pk_and _ k hm, pk_tn h]
theorem sb_shr0 (x : Int32) : x >>> ((0 : Int32) &&& 31) = x := by
  rw [show ((0 : Int32) &&& 31) = 0 by decide]
  simp
/-! the pure picture: pile, output, cells, place -/
def bf_v (P : Nat → Int32) (h : Nat) : Int32 := if h = 0 then 0 else P (h - 1)
def bf_h (h : Nat) : Nat := if h < 10 then h + 1 else h
def bf_e (h : Nat) (e : Int32) : Int32 := if h < 10 then e else 3
def bf_P (P : Nat → Int32) (h : Nat) (v : Int32) : Nat → Int32 := if h < 10 then upd P h v else P
def bf_o (o : Nat) : Nat := if o < 16 then o + 1 else o
def bf_oe (o : Nat) (e : Int32) : Int32 := if o < 16 then e else 4
def bf_O (O : Nat → Int32) (o : Nat) (v : Int32) : Nat → Int32 := if o < 16 then upd O o v else O
theorem bf_h_le {h : Nat} (hh : h ≤ 10) : bf_h h ≤ 10 := by unfold bf_h; split <;> omega
theorem bf_o_le {o : Nat} (ho : o ≤ 16) : bf_o o ≤ 16 := by unfold bf_o; split <;> omega
theorem bf_e_lt {h : Nat} (hh : h < 10) (e : Int32) : bf_e h e = e := if_pos hh
def bf_j (a b : Int32) : Nat := a.toBitVec.toNat % 8 + 8 * (b.toBitVec.toNat % 4)
theorem bf_j_lt (a b : Int32) : bf_j a b < 32 := by unfold bf_j; omega
theorem bf_m7 (a : Int32) : a &&& 7 = nI (a.toBitVec.toNat % 8) := pk_and a 3 (by decide)
theorem bf_m3 (a : Int32) : a &&& 3 = nI (a.toBitVec.toNat % 4) := pk_and a 2 (by decide)
theorem bf_8m (n : Nat) : (8 : Int32) * nI n = nI (8 * n) := pk_mul 8 n
theorem bf_jx (a b : Int32) : (a &&& 7) + 8 * (b &&& 3) = nI (bf_j a b) := by
  rw [bf_m7, bf_m3, bf_8m, nI_add]; rfl
theorem bf_jy (a b : Int32) : 8 * (b &&& 3) + (a &&& 7) = nI (bf_j a b) := by
  rw [Int32.add_comm]; exact bf_jx a b
theorem bf_jn {x y : Nat} (hx : x < 8) (hy : y < 4) : bf_j (nI x) (nI y) = x + 8 * y := by
  unfold bf_j; rw [pk_tn (by omega), pk_tn (by omega)]; omega
theorem bf_yn (x y : Nat) : 8 * nI y + nI x = nI (x + 8 * y) := by
  rw [bf_8m, nI_add, Nat.add_comm]
def bf_mx (d : Int32) (x : Nat) : Nat := if d = 0 then (x + 1) % 8 else if d = 1 then (x + 7) % 8 else x
def bf_my (d : Int32) (y : Nat) : Nat := if d = 0 then y else if d = 1 then y else if d = 2 then (y + 1) % 4 else (y + 3) % 4
theorem bf_mx_lt {x : Nat} (d : Int32) (hx : x < 8) : bf_mx d x < 8 := by
  unfold bf_mx
  by_cases h0 : d = 0
  · rw [if_pos h0]; omega
  · rw [if_neg h0]
    by_cases h1 : d = 1
    · rw [if_pos h1]; omega
    · rw [if_neg h1]; omega
theorem bf_my_lt {y : Nat} (d : Int32) (hy : y < 4) : bf_my d y < 4 := by
  unfold bf_my
  by_cases h0 : d = 0
  · rw [if_pos h0]; omega
  · rw [if_neg h0]
    by_cases h1 : d = 1
    · rw [if_pos h1]; omega
    · rw [if_neg h1]
      by_cases h2 : d = 2
      · rw [if_pos h2]; omega
      · rw [if_neg h2]; omega
theorem bf_x1 : ∀ x, x < 8 → (nI x + 1) &&& 7 = nI ((x + 1) % 8) := by decide +kernel
theorem bf_x7s : ∀ x, x < 8 → (nI x - 1) &&& 7 = nI ((x + 7) % 8) := by decide +kernel
theorem bf_x7a : ∀ x, x < 8 → (nI x + 7) &&& 7 = nI ((x + 7) % 8) := by decide +kernel
theorem bf_y1 : ∀ y, y < 4 → (nI y + 1) &&& 3 = nI ((y + 1) % 4) := by decide +kernel
theorem bf_y3s : ∀ y, y < 4 → (nI y - 1) &&& 3 = nI ((y + 3) % 4) := by decide +kernel
theorem bf_y3a : ∀ y, y < 4 → (nI y + 3) &&& 3 = nI ((y + 3) % 4) := by decide +kernel
theorem bf_31 : ∀ c, c < 32 → nI c &&& 31 = nI c := by decide +kernel
theorem bf_a {f : Nat → Int32} {j : Int32} {n : Nat} (e : j = nI n) (hn : n < 2 ^ 31) : f j.toNatClampNeg = f n := by rw [e, nI_clamp hn]
theorem bf_u {f : Nat → Int32} {j v : Int32} {n : Nat} (e : j = nI n) (hn : n < 2 ^ 31) : upd f j.toNatClampNeg v = upd f n v := by rw [e, nI_clamp hn]
end BFA
