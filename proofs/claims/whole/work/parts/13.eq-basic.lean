/-! The class's small functions and the reference's are the same. -/
theorem e_wp (p : Int64) : f_X0_withoutPlaces p = f_X1_rounded p := by
  rw [eqL]
  unfold f_X0_withoutPlaces f_X1_rounded
  rw [sh16, dn_s (by decide), k65]
theorem z_isReal (x : Int64) : f_X0_isReal x = 0 ↔ ¬ (-2147483647 ≤ x.toInt ∧ x.toInt ≤ 2147483647) := by
  have e1 : (-2147483647 : Int64).toInt = -2147483647 := by decide
  have e2 : (2147483647 : Int64).toInt = 2147483647 := by decide
  unfold f_X0_isReal
  by_cases c1 : x < -2147483647
  · rw [if_pos c1]
    rw [ltL, e1] at c1
    constructor
    · intro _; omega
    · intro _; rfl
  · rw [if_neg c1]
    rw [ltL, e1] at c1
    by_cases c2 : 2147483647 < x
    · rw [if_pos c2]
      rw [ltL, e2] at c2
      constructor
      · intro _; omega
      · intro _; rfl
    · rw [if_neg c2]
      rw [ltL, e2] at c2
      constructor
      · intro h; exact absurd h (by decide)
      · intro h; exact absurd (show -2147483647 ≤ x.toInt ∧ x.toInt ≤ 2147483647 by omega) h
theorem kmin : (-2147483648 : Int32).toInt = -2147483648 := by decide
theorem z_isReal64 (x : Int32) : f_X0_isReal x.toInt64 = 0 ↔ x = -2147483648 := by
  have r := rgI x
  rw [z_isReal, Int32.toInt_toInt64, eqI, kmin]
  omega
theorem z_isBad (x : Int32) : f_X1_isBad x = 0 ↔ ¬ x = -2147483648 := by
  unfold f_X1_isBad
  by_cases c : x = -2147483648
  · rw [if_pos c]
    simp [c]
  · rw [if_neg c]
    simp [c]
theorem e_isValue (k v : Int32) : f_X0_isValue k v = f_X1_isValue k v := by
  unfold f_X0_isValue f_X1_isValue
  simp only [z_isReal64]
theorem v_kind {k v : Int32} (h : ¬ f_X1_isValue k v = 0) : k = 1 ∨ k = 2 := by
  unfold f_X1_isValue at h
  by_cases c1 : k = 1
  · exact Or.inl c1
  · by_cases c2 : k = 2
    · exact Or.inr c2
    · rw [if_neg c1, if_neg c2] at h
      exact absurd rfl h
theorem v_real {v : Int32} (h : ¬ f_X1_isValue 2 v = 0) : ¬ v = -2147483648 := by
  intro q
  unfold f_X1_isValue at h
  rw [if_neg (by decide), if_pos rfl, if_pos q] at h
  exact h rfl
theorem z_areBad (a b c d e f : Int32) : f_X0_areReals a.toInt64 b.toInt64 c.toInt64 d.toInt64 e.toInt64 f.toInt64 = 0 ↔ ¬ f_X1_areBad a b c d e f = 0 := by
  unfold f_X0_areReals f_X1_areBad
  simp only [z_isReal64, z_isBad]
  by_cases c1 : a = -2147483648 <;> by_cases c2 : b = -2147483648 <;> by_cases c3 : c = -2147483648 <;> by_cases c4 : d = -2147483648 <;> by_cases c5 : e = -2147483648 <;> by_cases c6 : f = -2147483648 <;> simp [c1, c2, c3, c4, c5, c6]
theorem e_units {k : Int32} (v : Int32) (h : k = 1 ∨ k = 2) : f_X0_units k v = f_X1_units k v := by
  unfold f_X0_units f_X1_units
  rcases h with rfl | rfl
  · rw [if_pos rfl, if_neg (by decide), Int64.mul_comm]
  · rw [if_neg (by decide), if_pos rfl]
theorem u_1 (v : Int32) : (f_X1_units 1 v).toInt = 65536 * v.toInt := by
  have r := rgI v
  unfold f_X1_units
  rw [if_neg (by decide), tM (by rw [k65, Int32.toInt_toInt64]; omega) (by rw [k65, Int32.toInt_toInt64]; omega), k65, Int32.toInt_toInt64]
theorem u_2 (v : Int32) : f_X1_units 2 v = v.toInt64 := by
  unfold f_X1_units
  rw [if_pos rfl]
theorem z_has {k v : Int32} (h : ¬ f_X1_isValue k v = 0) : f_X0_isReal (f_X0_units k v) = 0 ↔ f_X1_hasUnits k v = 0 := by
  have e1 : (-32767 : Int32).toInt = -32767 := by decide
  have e2 : (32767 : Int32).toInt = 32767 := by decide
  rw [e_units v (v_kind h), z_isReal]
  unfold f_X1_hasUnits
  rcases v_kind h with rfl | rfl
  · rw [if_neg (by decide), u_1]
    by_cases c1 : v < -32767
    · rw [if_pos c1]
      rw [ltI, e1] at c1
      constructor
      · intro _; rfl
      · intro _; omega
    · rw [if_neg c1]
      rw [ltI, e1] at c1
      by_cases c2 : 32767 < v
      · rw [if_pos c2]
        rw [ltI, e2] at c2
        constructor
        · intro _; rfl
        · intro _; omega
      · rw [if_neg c2]
        rw [ltI, e2] at c2
        constructor
        · intro q; exact absurd (show -2147483647 ≤ 65536 * v.toInt ∧ 65536 * v.toInt ≤ 2147483647 by omega) q
        · intro q; exact absurd q (by decide)
  · rw [if_pos rfl, u_2, Int32.toInt_toInt64]
    have hr := v_real h
    have r := rgI v
    rw [eqI, kmin] at hr
    constructor
    · intro q; exact absurd (show -2147483647 ≤ v.toInt ∧ v.toInt ≤ 2147483647 by omega) q
    · intro q; exact absurd q (by decide)
/-- units that the class takes as a real lie within the reals -/
theorem b_units {k v : Int32} (h : ¬ f_X0_isReal (f_X0_units k v) = 0) : -2147483647 ≤ (f_X0_units k v).toInt ∧ (f_X0_units k v).toInt ≤ 2147483647 := by
  rw [z_isReal] at h
  exact Decidable.not_not.mp h
theorem e_whole (rk rn : Int32) (x : Int64) : f_X0_keep rk rn 1 x = f_X1_whole rk rn x := by
  have e1 : (-2147483648 : Int64).toInt = -2147483648 := by decide
  have e2 : (2147483647 : Int64).toInt = 2147483647 := by decide
  have hq : (x = x.toInt32.toInt64) ↔ (-2147483648 ≤ x.toInt ∧ x.toInt ≤ 2147483647) := by
    rw [eqL, Int32.toInt_toInt64]
    constructor
    · intro q
      have r := rgI x.toInt32
      omega
    · intro q
      rw [tI (by omega) (by omega)]
  unfold f_X0_keep f_X1_whole
  rw [if_pos rfl]
  by_cases c1 : 2147483647 < x
  · rw [if_pos c1, if_neg (fun q => by rw [ltL, e2] at c1; have := hq.mp q; omega)]
  · rw [if_neg c1]
    by_cases c2 : x < -2147483648
    · rw [if_pos c2, if_neg (fun q => by rw [ltL, e1] at c2; have := hq.mp q; omega)]
    · rw [if_neg c2, if_pos (hq.mpr (by rw [ltL, e2] at c1; rw [ltL, e1] at c2; omega))]
theorem e_real (rk rn : Int32) (x : Int64) : f_X0_keep rk rn 2 x = f_X1_real rk rn x := by
  have e1 : (-2147483647 : Int64).toInt = -2147483647 := by decide
  have e2 : (2147483647 : Int64).toInt = 2147483647 := by decide
  unfold f_X0_keep f_X1_real
  rw [if_neg (by decide)]
  by_cases c1 : 2147483647 < x
  · rw [if_pos c1, if_pos ((z_isReal x).mpr (by rw [ltL, e2] at c1; omega))]
  · rw [if_neg c1]
    by_cases c2 : x < -2147483647
    · rw [if_pos c2, if_pos ((z_isReal x).mpr (by rw [ltL, e1] at c2; omega))]
    · rw [if_neg c2, if_neg (fun q => by rw [z_isReal] at q; rw [ltL, e2] at c1; rw [ltL, e1] at c2; omega)]
theorem shl16 (a : Int64) : a <<< ((16 : Int32).toInt64 &&& 63) = a * 65536 := by
  apply Int64.toBitVec_inj.mp
  show a.toBitVec <<< (((16 : Int32).toInt64 &&& 63).toBitVec.smod 64).toNat = a.toBitVec * (65536 : Int64).toBitVec
  rw [show (((16 : Int32).toInt64 &&& 63).toBitVec.smod 64).toNat = 16 by decide, BitVec.shiftLeft_eq_mul_twoPow]
  rfl
theorem e_floor (x : Int64) : f_X0_floor x = f_X1_down x 65536 * 65536 := by
  unfold f_X0_floor
  rw [shl16]
  congr 1
  rw [eqL, sh16, dn_s (by decide), k65]
theorem bit1 : ∀ n : Nat, n < 25 → ((1 : Int64) <<< ((nI n).toInt64 &&& 63)).toInt = 2 ^ n := by decide
theorem e_rootL (p : Int64) : ∀ (n : Nat) (sq r : Int64), f_X0_root_L13 p n sq r = f_X1_root_L13 p n sq r := by
  intro n
  induction n with
  | zero => intro sq r; rfl
  | succ n ih =>
    intro sq r
    rw [f_X0_root_L13, f_X1_root_L13, ih, ih]
theorem e_root {n : Int64} (h0 : 0 ≤ n.toInt) (h1 : n.toInt ≤ 2147483647) : f_X0_root n = f_X1_root n := by
  have hc : n * 65536 < (0 + (1 : Int64) <<< ((nI 24).toInt64 &&& 63)) * (0 + (1 : Int64) <<< ((nI 24).toInt64 &&& 63)) := by
    rw [ltL, tM (by rw [k65]; omega) (by rw [k65]; omega), k65]
    rw [show ((0 + (1 : Int64) <<< ((nI 24).toInt64 &&& 63)) * (0 + (1 : Int64) <<< ((nI 24).toInt64 &&& 63))).toInt = 281474976710656 by decide]
    omega
  have e : ∀ k : Nat, k = 24 → f_X1_root_L13 n (k + 1) (n * 65536) 0 = f_X1_root_L13 n k (n * 65536) 0 := fun k hk => by
    rw [f_X1_root_L13, if_pos (by rw [hk]; exact hc)]
  unfold f_X0_root f_X1_root
  rw [e_rootL]
  exact (e 24 rfl).symm
/-- the two quarters of the sine -/
theorem sq_d {x : Int64} (h : 0 ≤ x.toInt ∧ x.toInt ≤ 5898240) : (x >>> ((16 : Int32).toInt64 &&& 63)).toInt32 = (x / 65536).toInt32 := by
  rw [eqI, qd h, tI (by rw [sh16]; omega) (by rw [sh16]; omega), sh16]
theorem e_quarter {x : Int64} (h : 0 ≤ x.toInt ∧ x.toInt ≤ 5898240) : f_X0_sineOfFirstQuarter x = f_X1_quarter x := by
  unfold f_X0_sineOfFirstQuarter
  by_cases c1 : 0 < x
  · rw [if_pos c1]
    by_cases c2 : x < 5898240
    · rw [if_pos c2, sq_d h, e_wp]
      unfold f_X1_quarter
      by_cases c3 : x - (x / 65536).toInt32.toInt64 * 65536 = 0
      · rw [if_pos c3, c3, Int64.mul_zero]
        rw [show f_X1_rounded 0 = 0 by decide, Int64.add_zero]
      · rw [if_neg c3]
    · rw [if_neg c2]
      rw [ltL, k90] at c2
      have e : x = 5898240 := by rw [eqL, k90]; omega
      subst e
      decide
  · rw [if_neg c1]
    rw [ltL, i0] at c1
    have e : x = 0 := by rw [eqL, i0]; omega
    subst e
    decide
theorem e_sine (n : Int64) : f_X0_sine n = f_X1_sine n := by
  unfold f_X0_sine f_X1_sine
  rw [fm_s (by decide)]
  have hr := sn_r n
  generalize n - f_X1_down n 23592960 * 23592960 = a at hr ⊢
  have hm : ∀ z : Int64, 0 ≤ z.toInt → z.toInt ≤ 11796480 → ((11796480 - z < z) ↔ (5898240 < z)) := fun z h1 h2 => by
    rw [ltL, ltL, tS (by rw [k180]; omega) (by rw [k180]; omega), k180, k90]
    omega
  by_cases c1 : a < 11796480
  · rw [if_pos c1, if_pos c1]
    have c1' := c1
    rw [ltL, k180] at c1'
    by_cases c2 : 5898240 < a
    · rw [if_pos c2, if_pos ((hm a hr.1 (by omega)).mpr c2), e_quarter (sn_tt hr c1 c2)]
    · rw [if_neg c2, if_neg (fun q => c2 ((hm a hr.1 (by omega)).mp q)), e_quarter (sn_tf hr c1 c2)]
  · rw [if_neg c1, if_neg c1]
    have c1' := c1
    rw [ltL, k180] at c1'
    have e : (a - 11796480).toInt = a.toInt - 11796480 := by rw [tS (by rw [k180]; omega) (by rw [k180]; omega), k180]
    by_cases c2 : 5898240 < a - 11796480
    · rw [if_pos c2, if_pos ((hm (a - 11796480) (by omega) (by omega)).mpr c2), e_quarter (sn_ft hr c1 c2)]
    · rw [if_neg c2, if_neg (fun q => c2 ((hm (a - 11796480) (by omega) (by omega)).mp q)), e_quarter (sn_ff hr c1 c2)]
