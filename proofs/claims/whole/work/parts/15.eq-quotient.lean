/-! Quotients, place by place: both are the exact quotient rounded once. -/
/-- x / b rounded -/
def rnd (x b : Int) : Int := (2 * x + b) / (2 * b)
theorem rnd_ge {x b K : Int} (hb : 0 < b) (h : K * b ≤ x) : K ≤ rnd x b := by
  unfold rnd
  rw [Int.le_ediv_iff_mul_le (by omega), Int.mul_left_comm]
  omega
theorem rnd_le {x b K : Int} (hb : 0 < b) (h : x ≤ K * b) : rnd x b ≤ K := by
  have h2 : rnd x b < K + 1 := by
    unfold rnd
    rw [Int.ediv_lt_iff_lt_mul (by omega), Int.mul_left_comm, Int.add_mul]
    omega
  omega
theorem dn_r {P b : Int64} (hb : 0 < b.toInt) : (P - f_X1_down P b * b).toInt = P.toInt % b.toInt := by
  have rP := rg P
  have rb := rg b
  have h1 := Int.emod_nonneg P.toInt (show b.toInt ≠ 0 by omega)
  have h2 := Int.emod_lt_of_pos P.toInt hb
  have h3 : P.toInt - P.toInt / b.toInt * b.toInt = P.toInt % b.toInt := by
    have := Int.mul_ediv_add_emod P.toInt b.toInt
    rw [Int.mul_comm] at this
    omega
  rw [Int64.toInt_sub, Int64.toInt_mul, dn_s hb, Int.sub_bmod_bmod, h3, bm (by omega) (by omega)]
theorem k2 : (2 : Int64).toInt = 2 := by decide
/-- the loop: from q and what is left, n places more, rounded -/
theorem L_s (p0 p1 : Int64) {sz : Int64} (hs : 0 < sz.toInt) : ∀ (n m : Nat) (q r : Int64), n + m = 50 → 0 ≤ r.toInt → r.toInt < sz.toInt → -(2 ^ m) < q.toInt → q.toInt < 2 ^ m →
    (f_X0_quotient_L63 p0 p1 n sz q r).toInt = rnd (2 ^ n * (q.toInt * sz.toInt + r.toInt)) sz.toInt := by
  intro n
  have rs := rg sz
  induction n with
  | zero =>
    intro m q r hm h1 h2 h3 h4
    have hm50 : m = 50 := by omega
    subst hm50
    have e : (sz - r).toInt = sz.toInt - r.toInt := tS (by omega) (by omega)
    rw [Int.pow_zero, Int.one_mul, f_X0_quotient_L63]
    unfold rnd
    by_cases c : r < sz - r
    · rw [if_pos c]
      rw [ltL, e] at c
      refine (flU (by omega) ?_ ?_).symm <;> rw [Int.mul_left_comm] <;> omega
    · rw [if_neg c]
      rw [ltL, e] at c
      have e2 : (q + 1).toInt = q.toInt + 1 := by rw [tA (by rw [i1]; omega) (by rw [i1]; omega), i1]
      rw [e2]
      refine (flU (by omega) ?_ ?_).symm <;> rw [Int.mul_left_comm, Int.add_mul] <;> omega
  | succ n ih =>
    intro m q r hm h1 h2 h3 h4
    have hp : (2 : Int) ^ m ≤ 2 ^ 50 := by
      have := Nat.pow_le_pow_right (n := 2) (by decide) (show m ≤ 50 by omega)
      exact_mod_cast this
    have hp2 : (2 : Int) ^ (m + 1) = 2 ^ m * 2 := Int.pow_succ 2 m
    have e : (sz - r).toInt = sz.toInt - r.toInt := tS (by omega) (by omega)
    have e2 : (2 * q).toInt = 2 * q.toInt := by rw [tM (by rw [k2]; omega) (by rw [k2]; omega), k2]
    rw [f_X0_quotient_L63]
    by_cases c : r < sz - r
    · rw [if_pos c]
      rw [ltL, e] at c
      have e3 : (2 * q + 0).toInt = 2 * q.toInt := by rw [Int64.add_zero, e2]
      have e4 : (r + r).toInt = r.toInt + r.toInt := tA (by omega) (by omega)
      rw [ih (m + 1) _ _ (by omega) (by rw [e4]; omega) (by rw [e4]; omega) (by rw [e3, hp2]; omega) (by rw [e3, hp2]; omega), e3, e4]
      rw [Int.pow_succ, Int.mul_assoc (2 ^ n) 2]
      exact congrArg (fun z : Int => rnd (2 ^ n * z) sz.toInt) (by rw [Int.mul_add, Int.mul_assoc]; omega)
    · rw [if_neg c]
      rw [ltL, e] at c
      have e3 : (2 * q + 1).toInt = 2 * q.toInt + 1 := by rw [tA (by rw [e2, i1]; omega) (by rw [e2, i1]; omega), e2, i1]
      have e4 : (r - (sz - r)).toInt = r.toInt - (sz.toInt - r.toInt) := by rw [tS (by rw [e]; omega) (by rw [e]; omega), e]
      rw [ih (m + 1) _ _ (by omega) (by rw [e4]; omega) (by rw [e4]; omega) (by rw [e3, hp2]; omega) (by rw [e3, hp2]; omega), e3, e4]
      rw [Int.pow_succ, Int.mul_assoc (2 ^ n) 2]
      exact congrArg (fun z : Int => rnd (2 ^ n * z) sz.toInt) (by rw [Int.mul_add, Int.add_mul, Int.one_mul, Int.mul_assoc]; omega)
theorem L_86 (a b p0 p1 : Int64) : ∀ (n : Nat) (sz q r : Int64), f_X1_quotient_16_L86 a b n sz q r = (f_X0_quotient_L63 p0 p1 n sz q r, 0) := by
  intro n
  induction n with
  | zero =>
    intro sz q r
    rw [f_X1_quotient_16_L86, f_X0_quotient_L63]
    by_cases c : r < sz - r
    · rw [if_pos c, if_pos c]
    · rw [if_neg c, if_neg c]
  | succ n ih =>
    intro sz q r
    rw [f_X1_quotient_16_L86, f_X0_quotient_L63]
    by_cases c : r < sz - r
    · rw [if_pos c, if_pos c, ih]
    · rw [if_neg c, if_neg c, ih]
abbrev inR (z : Int) : Prop := -2147483647 ≤ z ∧ z ≤ 2147483647
/-- the class's quotient, by a divisor above 0 -/
def cQ (p0 p1 P sz : Int64) : Int64 := if f_X1_down P sz < -32768 then 2147483648 else if f_X1_down P sz < 32768 then f_X0_quotient_L63 p0 p1 16 sz (f_X1_down P sz) (P - f_X1_down P sz * sz) else 2147483648
def mQ16 (p0 p1 P sz : Int64) : Int64 × Int32 := if 4294967296 < f_X1_down P sz then (0, 1) else if f_X1_down P sz < -4294967296 then (0, 1) else f_X1_quotient_16_L86 p0 p1 16 sz (f_X1_down P sz) (P - f_X1_down P sz * sz)
def mQ0 (P sz : Int64) : Int64 × Int32 := if 4294967296 < f_X1_down P sz then (0, 1) else if f_X1_down P sz < -4294967296 then (0, 1) else if P - f_X1_down P sz * sz < sz - (P - f_X1_down P sz * sz) then (f_X1_down P sz, 0) else (f_X1_down P sz + 1, 0)
theorem pq {P sz : Int} : P / sz * sz + P % sz = P := by
  rw [Int.mul_comm]
  exact Int.mul_ediv_add_emod P sz
theorem cQ_s (p0 p1 : Int64) {P sz : Int64} (hs : 0 < sz.toInt) : (inR (cQ p0 p1 P sz).toInt ↔ inR (rnd (65536 * P.toInt) sz.toInt)) ∧ (inR (rnd (65536 * P.toInt) sz.toInt) → (cQ p0 p1 P sz).toInt = rnd (65536 * P.toInt) sz.toInt) := by
  have kb : (2147483648 : Int64).toInt = 2147483648 := by decide
  have k1 : (-32768 : Int64).toInt = -32768 := by decide
  have k3 : (32768 : Int64).toInt = 32768 := by decide
  have hd := dn_s (a := P) hs
  have hr := dn_r (P := P) hs
  have h1 := Int.emod_nonneg P.toInt (show sz.toInt ≠ 0 by omega)
  have h2 := Int.emod_lt_of_pos P.toInt hs
  have hpq := pq (P := P.toInt) (sz := sz.toInt)
  unfold cQ
  by_cases c1 : f_X1_down P sz < -32768
  · rw [if_pos c1, kb]
    rw [ltL, hd, k1] at c1
    have hle : rnd (65536 * P.toInt) sz.toInt ≤ -2147483648 := by
      apply rnd_le hs
      have hm : P.toInt / sz.toInt * sz.toInt ≤ -32769 * sz.toInt := Int.mul_le_mul_of_nonneg_right (by omega) (by omega)
      omega
    unfold inR
    omega
  · rw [if_neg c1]
    rw [ltL, hd, k1] at c1
    by_cases c2 : f_X1_down P sz < 32768
    · rw [if_pos c2]
      rw [ltL, hd, k3] at c2
      have e : (f_X0_quotient_L63 p0 p1 16 sz (f_X1_down P sz) (P - f_X1_down P sz * sz)).toInt = rnd (65536 * P.toInt) sz.toInt := by
        rw [L_s p0 p1 hs 16 34 _ _ rfl (by rw [hr]; omega) (by rw [hr]; omega) (by rw [hd]; omega) (by rw [hd]; omega), hd, hr, hpq]
        rfl
      rw [e]
      exact ⟨Iff.rfl, fun _ => rfl⟩
    · rw [if_neg c2, kb]
      rw [ltL, hd, k3] at c2
      have hge : 2147483648 ≤ rnd (65536 * P.toInt) sz.toInt := by
        apply rnd_ge hs
        have hm : 32768 * sz.toInt ≤ P.toInt / sz.toInt * sz.toInt := Int.mul_le_mul_of_nonneg_right (by omega) (by omega)
        omega
      unfold inR
      omega
theorem mQ16_s (p0 p1 : Int64) {P sz : Int64} (hs : 0 < sz.toInt) : ((mQ16 p0 p1 P sz).2 = 0 ∧ (mQ16 p0 p1 P sz).1.toInt = rnd (65536 * P.toInt) sz.toInt) ∨ (¬ (mQ16 p0 p1 P sz).2 = 0 ∧ ¬ inR (rnd (65536 * P.toInt) sz.toInt)) := by
  have k1 : (4294967296 : Int64).toInt = 4294967296 := by decide
  have k3 : (-4294967296 : Int64).toInt = -4294967296 := by decide
  have hd := dn_s (a := P) hs
  have hr := dn_r (P := P) hs
  have h1 := Int.emod_nonneg P.toInt (show sz.toInt ≠ 0 by omega)
  have h2 := Int.emod_lt_of_pos P.toInt hs
  have hpq := pq (P := P.toInt) (sz := sz.toInt)
  unfold mQ16
  by_cases c1 : 4294967296 < f_X1_down P sz
  · rw [if_pos c1]
    rw [ltL, hd, k1] at c1
    refine Or.inr ⟨by decide, ?_⟩
    have hge : 2147483648 ≤ rnd (65536 * P.toInt) sz.toInt := by
      apply rnd_ge hs
      have hm : 32768 * sz.toInt ≤ P.toInt / sz.toInt * sz.toInt := Int.mul_le_mul_of_nonneg_right (by omega) (by omega)
      omega
    unfold inR
    omega
  · rw [if_neg c1]
    rw [ltL, hd, k1] at c1
    by_cases c2 : f_X1_down P sz < -4294967296
    · rw [if_pos c2]
      rw [ltL, hd, k3] at c2
      refine Or.inr ⟨by decide, ?_⟩
      have hle : rnd (65536 * P.toInt) sz.toInt ≤ -2147483648 := by
        apply rnd_le hs
        have hm : P.toInt / sz.toInt * sz.toInt ≤ -32769 * sz.toInt := Int.mul_le_mul_of_nonneg_right (by omega) (by omega)
        omega
      unfold inR
      omega
    · rw [if_neg c2, L_86 p0 p1 p0 p1]
      rw [ltL, hd, k3] at c2
      refine Or.inl ⟨rfl, ?_⟩
      show (f_X0_quotient_L63 p0 p1 16 sz (f_X1_down P sz) (P - f_X1_down P sz * sz)).toInt = _
      rw [L_s p0 p1 hs 16 34 _ _ rfl (by rw [hr]; omega) (by rw [hr]; omega) (by rw [hd]; omega) (by rw [hd]; omega), hd, hr, hpq]
      rfl
theorem mQ0_s {P sz : Int64} (hs : 0 < sz.toInt) : ((mQ0 P sz).2 = 0 ∧ (mQ0 P sz).1.toInt = rnd P.toInt sz.toInt) ∨ (¬ (mQ0 P sz).2 = 0 ∧ ¬ inR (rnd P.toInt sz.toInt)) := by
  have k1 : (4294967296 : Int64).toInt = 4294967296 := by decide
  have k3 : (-4294967296 : Int64).toInt = -4294967296 := by decide
  have rs := rg sz
  have hd := dn_s (a := P) hs
  have hr := dn_r (P := P) hs
  have h1 := Int.emod_nonneg P.toInt (show sz.toInt ≠ 0 by omega)
  have h2 := Int.emod_lt_of_pos P.toInt hs
  have hpq := pq (P := P.toInt) (sz := sz.toInt)
  unfold mQ0
  by_cases c1 : 4294967296 < f_X1_down P sz
  · rw [if_pos c1]
    rw [ltL, hd, k1] at c1
    refine Or.inr ⟨by decide, ?_⟩
    have hge : 2147483648 ≤ rnd P.toInt sz.toInt := by
      apply rnd_ge hs
      have hm : 2147483648 * sz.toInt ≤ P.toInt / sz.toInt * sz.toInt := Int.mul_le_mul_of_nonneg_right (by omega) (by omega)
      omega
    unfold inR
    omega
  · rw [if_neg c1]
    rw [ltL, hd, k1] at c1
    by_cases c2 : f_X1_down P sz < -4294967296
    · rw [if_pos c2]
      rw [ltL, hd, k3] at c2
      refine Or.inr ⟨by decide, ?_⟩
      have hle : rnd P.toInt sz.toInt ≤ -2147483648 := by
        apply rnd_le hs
        have hm : P.toInt / sz.toInt * sz.toInt ≤ -4294967297 * sz.toInt := Int.mul_le_mul_of_nonneg_right (by omega) (by omega)
        omega
      unfold inR
      omega
    · rw [if_neg c2]
      rw [ltL, hd, k3] at c2
      have e : (sz - (P - f_X1_down P sz * sz)).toInt = sz.toInt - P.toInt % sz.toInt := by rw [tS (by rw [hr]; omega) (by rw [hr]; omega), hr]
      by_cases c3 : P - f_X1_down P sz * sz < sz - (P - f_X1_down P sz * sz)
      · rw [if_pos c3]
        rw [ltL, e, hr] at c3
        refine Or.inl ⟨rfl, ?_⟩
        show (f_X1_down P sz).toInt = _
        rw [hd]
        unfold rnd
        refine (flU (by omega) ?_ ?_).symm <;> rw [Int.mul_left_comm] <;> omega
      · rw [if_neg c3]
        rw [ltL, e, hr] at c3
        refine Or.inl ⟨rfl, ?_⟩
        show (f_X1_down P sz + 1).toInt = _
        rw [tA (by rw [hd, i1]; omega) (by rw [hd, i1]; omega), hd, i1]
        unfold rnd
        refine (flU (by omega) ?_ ?_).symm <;> rw [Int.mul_left_comm, Int.add_mul] <;> omega
