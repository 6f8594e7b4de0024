/-! Numbers: longs as whole numbers, floors, counters, the table's places. -/
theorem rg (x : Int64) : -9223372036854775808 ≤ x.toInt ∧ x.toInt < 9223372036854775808 := by
  have h1 := Int64.le_toInt x
  have h2 := Int64.toInt_lt x
  omega
theorem rgI (x : Int32) : -2147483648 ≤ x.toInt ∧ x.toInt < 2147483648 := by
  have h1 := Int32.le_toInt x
  have h2 := Int32.toInt_lt x
  omega
theorem bm {z : Int} (h1 : -9223372036854775808 ≤ z) (h2 : z < 9223372036854775808) : z.bmod (2 ^ 64) = z := by
  rw [Int.bmod_eq_of_le (by omega) (by omega)]
theorem bmI {z : Int} (h1 : -2147483648 ≤ z) (h2 : z < 2147483648) : z.bmod (2 ^ 32) = z := by
  rw [Int.bmod_eq_of_le (by omega) (by omega)]
theorem tA {x y : Int64} (h1 : -9223372036854775808 ≤ x.toInt + y.toInt) (h2 : x.toInt + y.toInt < 9223372036854775808) : (x + y).toInt = x.toInt + y.toInt := by
  rw [Int64.toInt_add, bm h1 h2]
theorem tS {x y : Int64} (h1 : -9223372036854775808 ≤ x.toInt - y.toInt) (h2 : x.toInt - y.toInt < 9223372036854775808) : (x - y).toInt = x.toInt - y.toInt := by
  rw [Int64.toInt_sub, bm h1 h2]
theorem tM {x y : Int64} (h1 : -9223372036854775808 ≤ x.toInt * y.toInt) (h2 : x.toInt * y.toInt < 9223372036854775808) : (x * y).toInt = x.toInt * y.toInt := by
  rw [Int64.toInt_mul, bm h1 h2]
theorem tN {x : Int64} (h : x.toInt ≠ -9223372036854775808) : (-x).toInt = -x.toInt := by
  have := rg x
  rw [Int64.toInt_neg, bm (by omega) (by omega)]
theorem tI {x : Int64} (h1 : -2147483648 ≤ x.toInt) (h2 : x.toInt < 2147483648) : x.toInt32.toInt = x.toInt := by
  rw [Int64.toInt_toInt32, bmI h1 h2]
theorem tAI {x y : Int32} (h1 : -2147483648 ≤ x.toInt + y.toInt) (h2 : x.toInt + y.toInt < 2147483648) : (x + y).toInt = x.toInt + y.toInt := by
  rw [Int32.toInt_add, bmI h1 h2]
theorem tSI {x y : Int32} (h1 : -2147483648 ≤ x.toInt - y.toInt) (h2 : x.toInt - y.toInt < 2147483648) : (x - y).toInt = x.toInt - y.toInt := by
  rw [Int32.toInt_sub, bmI h1 h2]
theorem ltL {x y : Int64} : x < y ↔ x.toInt < y.toInt := Int64.lt_iff_toInt_lt
theorem eqL {x y : Int64} : x = y ↔ x.toInt = y.toInt := Int64.toInt_inj.symm
theorem ltI {x y : Int32} : x < y ↔ x.toInt < y.toInt := Int32.lt_iff_toInt_lt
theorem eqI {x y : Int32} : x = y ↔ x.toInt = y.toInt := Int32.toInt_inj.symm
theorem sh64r (a s : Int64) (k : Nat) (hs : (s.toBitVec.smod 64).toNat = k) : (a >>> s).toInt = a.toInt / 2 ^ k := by
  show (a.toBitVec.sshiftRight (s.toBitVec.smod 64).toNat).toInt = _
  rw [hs, BitVec.toInt_sshiftRight, Int.shiftRight_eq_div_pow]
  rfl
theorem sh16 (x : Int64) : (x >>> ((16 : Int32).toInt64 &&& 63)).toInt = x.toInt / 65536 := sh64r x _ 16 (by decide)
theorem flU {a b q : Int} (hb : 0 < b) (h1 : q * b ≤ a) (h2 : a < q * b + b) : a / b = q := by
  have k1 : q ≤ a / b := (Int.le_ediv_iff_mul_le hb).mpr h1
  have k2 : a / b < q + 1 := (Int.ediv_lt_iff_lt_mul hb).mpr (by rw [Int.add_mul, Int.one_mul]; exact h2)
  omega
/-- a division of longs towards 0, by a divisor above 0: nothing overflows -/
theorem dv {a b : Int64} (hb : 0 < b.toInt) : (a / b).toInt = a.toInt.tdiv b.toInt ∧ (a / b * b).toInt = a.toInt.tdiv b.toInt * b.toInt ∧ (a - a / b * b).toInt = a.toInt - a.toInt.tdiv b.toInt * b.toInt ∧
    (0 ≤ a.toInt → a.toInt.tdiv b.toInt = a.toInt / b.toInt ∧ a.toInt.tdiv b.toInt * b.toInt ≤ a.toInt ∧ a.toInt < a.toInt.tdiv b.toInt * b.toInt + b.toInt) ∧ (a.toInt < 0 → a.toInt.tdiv b.toInt * b.toInt - b.toInt < a.toInt ∧ a.toInt ≤ a.toInt.tdiv b.toInt * b.toInt ∧ a.toInt.tdiv b.toInt ≤ 0) := by
  have ra := rg a
  have rb := rg b
  have e1 : (a / b).toInt = a.toInt.tdiv b.toInt := Int64.toInt_div_of_ne_right a b (fun h => by rw [h] at hb; exact absurd hb (by decide))
  have m1 : a.toInt.tdiv b.toInt * b.toInt + a.toInt.tmod b.toInt = a.toInt := by rw [Int.mul_comm]; exact Int.mul_tdiv_add_tmod a.toInt b.toInt
  have p1 : 0 ≤ a.toInt → 0 ≤ a.toInt.tmod b.toInt ∧ a.toInt.tmod b.toInt < b.toInt := fun h => ⟨Int.tmod_nonneg _ h, Int.tmod_lt_of_pos _ hb⟩
  have p2 : a.toInt < 0 → -b.toInt < a.toInt.tmod b.toInt ∧ a.toInt.tmod b.toInt ≤ 0 := fun h => by
    have k := Int.tmod_nonneg b.toInt (show 0 ≤ -a.toInt by omega)
    have k2 := Int.tmod_lt_of_pos (-a.toInt) hb
    rw [Int.neg_tmod] at k k2
    omega
  have p3 : a.toInt < 0 → a.toInt.tdiv b.toInt ≤ 0 := fun h => by
    have k := Int.tdiv_nonneg (show 0 ≤ -a.toInt by omega) (show 0 ≤ b.toInt by omega)
    rw [Int.neg_tdiv] at k
    omega
  have p4 : 0 ≤ a.toInt → a.toInt.tdiv b.toInt = a.toInt / b.toInt := fun h => Int.tdiv_eq_ediv_of_nonneg h
  have e2 : (a / b * b).toInt = a.toInt.tdiv b.toInt * b.toInt := by
    rw [← e1]
    refine tM ?_ ?_ <;> rw [e1] <;> rcases Int.lt_or_le a.toInt 0 with h | h
    · have := p2 h; omega
    · have := p1 h; omega
    · have := p2 h; omega
    · have := p1 h; omega
  have e3 : (a - a / b * b).toInt = a.toInt - a.toInt.tdiv b.toInt * b.toInt := by
    rw [← e2]
    refine tS ?_ ?_ <;> rw [e2] <;> rcases Int.lt_or_le a.toInt 0 with h | h
    · have := p2 h; omega
    · have := p1 h; omega
    · have := p2 h; omega
    · have := p1 h; omega
  refine ⟨e1, e2, e3, fun h => ⟨p4 h, ?_, ?_⟩, fun h => ⟨?_, ?_, p3 h⟩⟩
  · have := p1 h; omega
  · have := p1 h; omega
  · have := p2 h; omega
  · have := p2 h; omega
theorem i0 : (0 : Int64).toInt = 0 := by decide
theorem i1 : (1 : Int64).toInt = 1 := by decide
/-- the floor that the reference reckons -/
theorem dn_s {a b : Int64} (hb : 0 < b.toInt) : (f_X1_down a b).toInt = a.toInt / b.toInt := by
  obtain ⟨e1, e2, e3, h1, h2⟩ := dv (a := a) hb
  have ra := rg a
  have rb := rg b
  have nb : ¬ b < 0 := by rw [ltL, i0]; omega
  unfold f_X1_down
  rw [if_neg nb, if_neg nb]
  by_cases c1 : a - a / b * b = 0
  · rw [if_pos c1, e1]
    rw [eqL, e3, i0] at c1
    exact (flU hb (by omega) (by omega)).symm
  · rw [if_neg c1]
    rw [eqL, e3, i0] at c1
    by_cases c2 : a < 0
    · rw [if_pos c2]
      rw [ltL, i0] at c2
      obtain ⟨q1, q2, q3⟩ := h2 c2
      have hq : -9223372036854775808 < (a / b).toInt := by
        rw [e1]
        rcases Int.lt_or_le 0 (a.toInt.tdiv b.toInt + 9223372036854775808) with h | h
        · omega
        · have hm : a.toInt.tdiv b.toInt * b.toInt ≤ a.toInt.tdiv b.toInt * 1 := Int.mul_le_mul_of_nonpos_left q3 (by omega)
          omega
      rw [tS (by rw [i1]; omega) (by rw [i1]; have := rg (a / b); omega), e1, i1]
      refine (flU hb ?_ ?_).symm <;> rw [Int.sub_mul, Int.one_mul] <;> omega
    · rw [if_neg c2, e1]
      rw [ltL, i0] at c2
      exact (h1 (by omega)).1
/-- signs by the exclusive or -/
theorem xs {a b : Int64} (hb : 0 < b.toInt) : (a ^^^ b) < 0 ↔ a < 0 := by
  have h0 : ∀ x : Int64, x < 0 ↔ x.toBitVec.msb = true := fun x => by
    rw [ltL, i0, ← Int64.toInt_toBitVec, BitVec.msb_eq_toInt]
    simp
  have hbm : b.toBitVec.msb = false := by
    rw [BitVec.msb_eq_toInt]
    simp
    omega
  rw [h0, h0, Int64.toBitVec_xor, BitVec.msb_xor, hbm, Bool.xor_false]
theorem fd_s {a b : Int64} (hb : 0 < b.toInt) : f_J9_floorDiv_f86c9 a b = f_X1_down a b := by
  obtain ⟨e1, e2, e3, h1, h2⟩ := dv (a := a) hb
  have nb : ¬ b < 0 := by rw [ltL, i0]; omega
  have hz : (a / b * b = a) ↔ (a - a / b * b = 0) := by rw [eqL, eqL, e2, e3, i0]; omega
  unfold f_J9_floorDiv_f86c9 f_X1_down
  simp only [xs hb, hz, if_neg nb]
  by_cases c1 : a - a / b * b = 0 <;> by_cases c2 : a < 0 <;> simp [c1, c2]
theorem fm_s {a b : Int64} (hb : 0 < b.toInt) : f_J9_floorMod_f86c9 a b = a - f_X1_down a b * b := by
  have nb : ¬ b < 0 := by rw [ltL, i0]; omega
  unfold f_J9_floorMod_f86c9 f_X1_down
  simp only [xs hb, if_neg nb]
  by_cases c1 : a - a / b * b = 0 <;> by_cases c2 : a < 0
  · rw [if_pos c2, if_pos c1, if_pos c1]
  · rw [if_neg c2, if_pos c1]
  · rw [if_pos c2, if_neg c1, if_neg c1, if_pos c2, Int64.sub_mul]
    grind
  · rw [if_neg c2, if_neg c1, if_neg c2]
theorem abs_s (x : Int64) (h : x.toInt ≠ -9223372036854775808) : ((if 0 < x then x else -x) : Int64).toInt = if 0 < x.toInt then x.toInt else -x.toInt := by
  by_cases c : 0 < x
  · rw [if_pos c]
    rw [ltL, i0] at c
    rw [if_pos c]
  · rw [if_neg c]
    rw [ltL, i0] at c
    rw [if_neg c, tN h]
theorem abs_ne0 {x : Int64} (h : ¬ x = 0) : ¬ (if 0 < x then x else -x) = 0 := by
  by_cases c : 0 < x
  · rw [if_pos c]; exact h
  · rw [if_neg c]
    intro q
    exact Int64.neg_ne_zero.mpr h q
theorem i64_0 {x : Int32} (h : ¬ x = 0) : ¬ x.toInt64 = 0 := by
  rw [eqL, Int32.toInt_toInt64, i0]
  rw [eqI, Int32.toInt_zero] at h
  exact h
/-- counters -/
theorem cn_lt {N n : Nat} {b : Int32} (hb : b = nI N) (hN : N < 2 ^ 31) (h : n + 1 ≤ N) : nI (N - (n + 1)) < b := by
  rw [hb]
  exact nI_lt (by omega) hN
theorem cn_st {N n : Nat} (h : n + 1 ≤ N) : nI (N - (n + 1)) + Int32.ofInt 1 = nI (N - n) := by
  rw [show N - n = (N - (n + 1)) + 1 by omega]
  exact (nI_succ _).symm
/-- the table's places -/
theorem sfq_ix {x : Int64} (h1 : 0 < x) (h2 : x < 5898240) : vp_in (x >>> ((16 : Int32).toInt64 &&& 63)).toInt32 91 := by
  rw [ltL, i0] at h1
  rw [ltL, show (5898240 : Int64).toInt = 5898240 by decide] at h2
  rw [vp_in_iff, tI (by rw [sh16]; omega) (by rw [sh16]; omega), sh16]
  omega
theorem sfq_ix1 {x : Int64} (h1 : 0 < x) (h2 : x < 5898240) : vp_in ((x >>> ((16 : Int32).toInt64 &&& 63)).toInt32 + 1) 91 := by
  rw [ltL, i0] at h1
  rw [ltL, show (5898240 : Int64).toInt = 5898240 by decide] at h2
  have e : (x >>> ((16 : Int32).toInt64 &&& 63)).toInt32.toInt = x.toInt / 65536 := by rw [tI (by rw [sh16]; omega) (by rw [sh16]; omega), sh16]
  have e1 : (1 : Int32).toInt = 1 := by decide
  rw [vp_in_iff, tAI (by rw [e, e1]; omega) (by rw [e, e1]; omega), e, e1]
  omega
theorem qd {x : Int64} (h : 0 ≤ x.toInt ∧ x.toInt ≤ 5898240) : (x / 65536).toInt32.toInt = x.toInt / 65536 := by
  have e := (dv (a := x) (b := 65536) (by decide)).1
  have e2 := ((dv (a := x) (b := 65536) (by decide)).2.2.2.1 h.1).1
  have e3 : (65536 : Int64).toInt = 65536 := by decide
  rw [e3] at e e2
  rw [tI (by omega) (by omega), e, e2]
theorem qt_ix {x : Int64} (h : 0 ≤ x.toInt ∧ x.toInt ≤ 5898240) : vp_in (x / 65536).toInt32 91 := by
  rw [vp_in_iff, qd h]
  omega
theorem qt_ix1 {x : Int64} (h : 0 ≤ x.toInt ∧ x.toInt ≤ 5898240) (hf : ¬ (x - (x / 65536).toInt32.toInt64 * 65536) = 0) : vp_in ((x / 65536).toInt32 + 1) 91 := by
  have hn : x.toInt ≠ 5898240 := by
    intro q
    have e : x = 5898240 := by rw [eqL, q]; decide
    subst e
    exact hf (by decide)
  have e1 : (1 : Int32).toInt = 1 := by decide
  rw [vp_in_iff, tAI (by rw [qd h, e1]; omega) (by rw [qd h, e1]; omega), qd h, e1]
  omega
/-- the halving of the reference's search -/
def frI (n : Nat) (lo hi : Int64) : Prop := 0 ≤ lo.toInt ∧ lo.toInt < hi.toInt ∧ hi.toInt ≤ 1099511627776 ∧ hi.toInt - lo.toInt ≤ 2 ^ n
theorem frI_z {lo hi : Int64} (h : frI 0 lo hi) : ¬ 1 < hi - lo := by
  obtain ⟨h1, h2, h3, h4⟩ := h
  rw [Int.pow_zero] at h4
  rw [ltL, i1, tS (by omega) (by omega)]
  omega
theorem frI_m {n : Nat} {lo hi : Int64} (h : frI n lo hi) : ((lo + hi) / 2).toInt = (lo.toInt + hi.toInt) / 2 := by
  obtain ⟨h1, h2, h3, h4⟩ := h
  have e : (lo + hi).toInt = lo.toInt + hi.toInt := tA (by omega) (by omega)
  obtain ⟨q1, -, -, q2, -⟩ := dv (a := lo + hi) (b := 2) (by decide)
  rw [q1, (q2 (by omega)).1, e]
  rfl
theorem frI_lo {n : Nat} {lo hi : Int64} (h : frI (n + 1) lo hi) (c : 1 < hi - lo) : frI n ((lo + hi) / 2) hi := by
  have m := frI_m h
  obtain ⟨h1, h2, h3, h4⟩ := h
  rw [ltL, i1, tS (by omega) (by omega)] at c
  rw [Int.pow_succ] at h4
  unfold frI
  rw [m]
  omega
theorem frI_hi {n : Nat} {lo hi : Int64} (h : frI (n + 1) lo hi) (c : 1 < hi - lo) : frI n lo ((lo + hi) / 2) := by
  have m := frI_m h
  obtain ⟨h1, h2, h3, h4⟩ := h
  rw [ltL, i1, tS (by omega) (by omega)] at c
  rw [Int.pow_succ] at h4
  unfold frI
  rw [m]
  omega
theorem nI64 {k : Nat} (h : k < 2 ^ 31) : (nI k).toInt64.toInt = (k : Int) := by
  rw [Int32.toInt_toInt64, nI_toInt h]
theorem k65 : (65536 : Int64).toInt = 65536 := by decide
theorem nI65 {k : Nat} (h : k ≤ 1000) : ((nI k).toInt64 * 65536).toInt = (k : Int) * 65536 := by
  have e := nI64 (k := k) (by omega)
  rw [tM (by rw [e, k65]; omega) (by rw [e, k65]; omega), e, k65]
theorem frI_0 (k : Nat) (h : k ≤ 90) : frI 16 ((nI k).toInt64 * 65536) ((nI k).toInt64 * 65536 + 65536) := by
  have e := nI65 (k := k) (by omega)
  have e2 : ((nI k).toInt64 * 65536 + 65536).toInt = (k : Int) * 65536 + 65536 := by rw [tA (by rw [e, k65]; omega) (by rw [e, k65]; omega), e, k65]
  unfold frI
  rw [e2, e]
  omega
/-- one turn -/
theorem k360 : (23592960 : Int64).toInt = 23592960 := by decide
theorem k180 : (11796480 : Int64).toInt = 11796480 := by decide
theorem k90 : (5898240 : Int64).toInt = 5898240 := by decide
theorem sn_m (n : Int64) : (n - f_X1_down n 23592960 * 23592960).toInt = n.toInt % 23592960 := by
  have rn := rg n
  have d := dn_s (a := n) (b := 23592960) (by decide)
  rw [k360] at d
  rw [Int64.toInt_sub, Int64.toInt_mul, d, k360, Int.sub_bmod_bmod, bm (by omega) (by omega)]
  omega
theorem sn_r (n : Int64) : 0 ≤ (n - f_X1_down n 23592960 * 23592960).toInt ∧ (n - f_X1_down n 23592960 * 23592960).toInt < 23592960 := by
  rw [sn_m]
  omega
theorem sn_tt {a : Int64} (h : 0 ≤ a.toInt ∧ a.toInt < 23592960) (c1 : a < 11796480) (c2 : 5898240 < a) : 0 ≤ (11796480 - a).toInt ∧ (11796480 - a).toInt ≤ 5898240 := by
  rw [ltL, k180] at c1
  rw [ltL, k90] at c2
  rw [tS (by rw [k180]; omega) (by rw [k180]; omega), k180]
  omega
theorem sn_tf {a : Int64} (h : 0 ≤ a.toInt ∧ a.toInt < 23592960) (c1 : a < 11796480) (c2 : ¬ 5898240 < a) : 0 ≤ a.toInt ∧ a.toInt ≤ 5898240 := by
  rw [ltL, k90] at c2
  omega
theorem sn_ff {a : Int64} (h : 0 ≤ a.toInt ∧ a.toInt < 23592960) (c1 : ¬ a < 11796480) (c2 : ¬ 5898240 < a - 11796480) : 0 ≤ (a - 11796480).toInt ∧ (a - 11796480).toInt ≤ 5898240 := by
  rw [ltL, k180] at c1
  have e : (a - 11796480).toInt = a.toInt - 11796480 := by rw [tS (by rw [k180]; omega) (by rw [k180]; omega), k180]
  rw [ltL, k90, e] at c2
  rw [e]
  omega
theorem sn_ft {a : Int64} (h : 0 ≤ a.toInt ∧ a.toInt < 23592960) (c1 : ¬ a < 11796480) (c2 : 5898240 < a - 11796480) : 0 ≤ (11796480 - (a - 11796480)).toInt ∧ (11796480 - (a - 11796480)).toInt ≤ 5898240 := by
  rw [ltL, k180] at c1
  have e : (a - 11796480).toInt = a.toInt - 11796480 := by rw [tS (by rw [k180]; omega) (by rw [k180]; omega), k180]
  rw [ltL, k90, e] at c2
  rw [tS (by rw [k180, e]; omega) (by rw [k180, e]; omega), k180, e]
  omega
/-- the reference's shift, place by place -/
theorem sh_e {b : Int32} (h1 : ¬ 31 < b) (h2 : ¬ b < -31) : b.toInt.toNat ≤ b.toInt.toNat ∧ b.toInt ≤ 31 ∧ -31 ≤ b.toInt := by
  rw [ltI, show (31 : Int32).toInt = 31 by decide] at h1
  rw [ltI, show (-31 : Int32).toInt = -31 by decide] at h2
  omega
theorem sh1_z {b : Int32} (h : 0 ≤ b.toInt.toNat ∧ b.toInt ≤ 31 ∧ -31 ≤ b.toInt) : ¬ nI (b.toInt.toNat - 0) < b := by
  rw [ltI, nI_toInt (by omega)]
  omega
theorem sh1_s {b : Int32} {n : Nat} (h : n + 1 ≤ b.toInt.toNat ∧ b.toInt ≤ 31 ∧ -31 ≤ b.toInt) : nI (b.toInt.toNat - (n + 1)) < b := by
  rw [ltI, nI_toInt (by omega)]
  omega
theorem nIn {k : Nat} (h : k < 1000) : (-(nI k)).toInt = -(k : Int) := by
  have e := nI_toInt (n := k) (by omega)
  rw [Int32.toInt_neg, e, bmI (by omega) (by omega)]
theorem sh2_z {b : Int32} (h : 0 ≤ (-b.toInt).toNat ∧ b.toInt ≤ 31 ∧ -31 ≤ b.toInt) : ¬ b < -(nI ((-b.toInt).toNat - 0)) := by
  rw [ltI, nIn (by omega)]
  omega
theorem sh2_s {b : Int32} {n : Nat} (h : n + 1 ≤ (-b.toInt).toNat ∧ b.toInt ≤ 31 ∧ -31 ≤ b.toInt) : b < -(nI ((-b.toInt).toNat - (n + 1))) := by
  rw [ltI, nIn (by omega)]
  omega
theorem sh2_i {b : Int32} {n : Nat} (h : n + 1 ≤ (-b.toInt).toNat ∧ b.toInt ≤ 31 ∧ -31 ≤ b.toInt) : -(nI ((-b.toInt).toNat - (n + 1))) + Int32.ofInt (-1) = -(nI ((-b.toInt).toNat - n)) := by
  have e1 := nIn (k := (-b.toInt).toNat - (n + 1)) (by omega)
  have e2 := nIn (k := (-b.toInt).toNat - n) (by omega)
  have e3 : (Int32.ofInt (-1)).toInt = -1 := by decide
  rw [eqI, tAI (by rw [e1, e3]; omega) (by rw [e1, e3]; omega), e1, e2, e3]
  omega
