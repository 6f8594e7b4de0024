/-! Shifts, cuts and quotients. -/
theorem m32 : ∀ k : Nat, k < 32 → ((nI k &&& 31).toBitVec.smod 32).toNat = k := by decide
theorem n32 : ∀ k : Nat, k < 32 → (((-(-(nI k))).toUInt32 &&& Int32.toUInt32 31).toBitVec % 32).toNat = k := by decide
theorem s18 (a b : Int32) : ∀ (n : Nat) (v : Int32), ∃ w : Int32, f_X1_shifted_L18 a b n v = f_X1_shifted_L35 a b (-b.toInt).toNat w ∧ w.toBitVec.toNat = v.toBitVec.toNat * 2 ^ n % 2 ^ 32 := by
  intro n
  induction n with
  | zero =>
    intro v
    refine ⟨v, by rw [f_X1_shifted_L18], ?_⟩
    have := v.toBitVec.isLt
    omega
  | succ n ih =>
    intro v
    obtain ⟨w, h1, h2⟩ := ih (v + v)
    refine ⟨w, by rw [f_X1_shifted_L18, h1], ?_⟩
    rw [h2, Int32.toBitVec_add, BitVec.toNat_add, Nat.mod_mul_mod]
    congr 1
    rw [← Nat.two_mul, Nat.mul_comm 2, Nat.mul_assoc, Nat.mul_comm 2, Nat.pow_succ]
theorem s35 (a b : Int32) : ∀ (n : Nat) (v : Int32), (f_X1_shifted_L35 a b n v).toBitVec.toNat = v.toBitVec.toNat / 2 ^ n := by
  intro n
  induction n with
  | zero => intro v; rw [f_X1_shifted_L35, Nat.pow_zero, Nat.div_one]
  | succ n ih =>
    intro v
    rw [f_X1_shifted_L35, ih, pk_ushr v 1 1 (by decide), Nat.div_div_eq_div_mul, ← Nat.pow_add, Nat.add_comm]
theorem e_shifted (a b : Int32) : f_X0_shifted a b = f_X1_shifted a b := by
  have k1 : (-32 : Int32).toInt = -32 := by decide
  have k2 : (32 : Int32).toInt = 32 := by decide
  have k3 : (31 : Int32).toInt = 31 := by decide
  have k4 : (-31 : Int32).toInt = -31 := by decide
  have k0 : (0 : Int32).toInt = 0 := by decide
  unfold f_X0_shifted f_X1_shifted
  by_cases c1 : 31 < b
  · rw [if_pos c1, if_neg (show ¬ b < 32 by rw [ltI, k2]; rw [ltI, k3] at c1; omega)]
    split <;> rfl
  · rw [if_neg c1]
    by_cases c2 : b < -31
    · rw [if_pos c2, if_neg (show ¬ -32 < b by rw [ltI, k1]; rw [ltI, k4] at c2; omega)]
    · rw [if_neg c2]
      rw [ltI, k3] at c1
      rw [ltI, k4] at c2
      rw [if_pos (show -32 < b by rw [ltI, k1]; omega), if_pos (show b < 32 by rw [ltI, k2]; omega)]
      obtain ⟨w, h1, h2⟩ := s18 a b b.toInt.toNat a
      rw [h1]
      apply Int32.toBitVec_inj.mp
      apply BitVec.eq_of_toNat_eq
      rw [s35, h2]
      have ha := a.toBitVec.isLt
      by_cases c3 : b < 0
      · rw [if_pos c3]
        rw [ltI, k0] at c3
        have hb : b = -(nI (-b.toInt).toNat) := by
          rw [eqI, nIn (by omega)]
          omega
        rw [pk_ushr a (-b) (-b.toInt).toNat (by
          have hz := n32 (-b.toInt).toNat (by omega)
          rw [← hb] at hz
          exact hz), show b.toInt.toNat = 0 by omega, Nat.pow_zero, Nat.mul_one, Nat.mod_eq_of_lt ha]
      · rw [if_neg c3]
        rw [ltI, k0] at c3
        have hb : b = nI b.toInt.toNat := by
          rw [eqI, nI_toInt (by omega)]
          omega
        rw [pk_shl a (b &&& 31) b.toInt.toNat (by
          have hz := m32 b.toInt.toNat (by omega)
          rw [← hb] at hz
          exact hz), show (-b.toInt).toNat = 0 by omega, Nat.pow_zero, Nat.div_one]
/-- the units cut to a whole real -/
theorem dn65 (x : Int64) : (f_X1_down x 65536).toInt = x.toInt / 65536 := by rw [dn_s (by decide), k65]
theorem ct_e {x : Int64} (h : -2147483648 ≤ x.toInt ∧ x.toInt ≤ 2147483647) : (f_X1_down x 65536 * 65536 = x) ↔ x.toInt % 65536 = 0 := by
  rw [eqL, tM (by rw [dn65, k65]; omega) (by rw [dn65, k65]; omega), dn65, k65]
  omega
theorem e_cut2 {x : Int64} (h : -2147483648 ≤ x.toInt ∧ x.toInt ≤ 2147483647) : f_X0_floor (x + 65535) = if f_X1_down x 65536 * 65536 = x then f_X1_down x 65536 * 65536 else (f_X1_down x 65536 + 1) * 65536 := by
  have k5 : (65535 : Int64).toInt = 65535 := by decide
  have ea : (x + 65535).toInt = x.toInt + 65535 := by rw [tA (by rw [k5]; omega) (by rw [k5]; omega), k5]
  rw [e_floor]
  by_cases c : f_X1_down x 65536 * 65536 = x
  · rw [if_pos c]
    have c' := (ct_e h).mp c
    exact congrArg (fun z : Int64 => z * 65536) (by rw [eqL, dn65, dn65, ea]; omega)
  · rw [if_neg c]
    have c' : ¬ x.toInt % 65536 = 0 := fun q => c ((ct_e h).mpr q)
    exact congrArg (fun z : Int64 => z * 65536) (by rw [eqL, tA (by rw [dn65, i1]; omega) (by rw [dn65, i1]; omega), dn65, dn65, ea, i1]; omega)
theorem e_cut4 (x : Int64) : f_X0_floor (x + 32768) = f_X1_rounded x * 65536 := by
  rw [e_floor]
  rfl
theorem e_abs (x : Int64) : (if 0 < x then x else -x) = (if x < 0 then -x else x) := by
  by_cases c : 0 < x
  · rw [if_pos c, if_neg (by rw [ltL, i0] at *; omega)]
  · rw [if_neg c]
    by_cases c2 : x < 0
    · rw [if_pos c2]
    · rw [if_neg c2]
      have e : x = 0 := by rw [eqL, i0]; rw [ltL, i0] at c c2; omega
      subst e
      decide
