/-! The angle: both searches come to the same threshold of one function that never falls. -/
def sI (d : Nat) : Int := (sinV d).toInt
theorem sI_b : ∀ d : Nat, d < 92 → 0 ≤ sI d ∧ sI d ≤ 65536 := by decide
theorem sI_m : ∀ d : Nat, d < 90 → sI d ≤ sI (d + 1) := by decide
theorem sI_0 : sI 0 = 0 := by decide
theorem sI_90 : sI 90 = 65536 := by decide
def s64 (k : Nat) : Int := (f_X1_quarter (lN k)).toInt
theorem lNt {k : Nat} (h : k ≤ 5898240) : (lN k).toInt = (k : Int) := pk_lT (by omega)
theorem rd_s {z : Int64} (h1 : -1000000000000 ≤ z.toInt) (h2 : z.toInt ≤ 1000000000000) : (f_X1_rounded z).toInt = (z.toInt + 32768) / 65536 := by
  have k3 : (32768 : Int64).toInt = 32768 := by decide
  unfold f_X1_rounded
  rw [dn65, tA (by rw [k3]; omega) (by rw [k3]; omega), k3]
theorem s64_s {k : Nat} (h : k ≤ 5898240) : s64 k = sI (k / 65536) + ((sI (k / 65536 + 1) - sI (k / 65536)) * ((k % 65536 : Nat) : Int) + 32768) / 65536 := by
  have hk := lNt h
  have hx : 0 ≤ (lN k).toInt ∧ (lN k).toInt ≤ 5898240 := by omega
  have hq := qd hx
  have hd : (lN k / 65536).toInt32.toInt = ((k / 65536 : Nat) : Int) := by rw [hq, hk]; omega
  have hc : (lN k / 65536).toInt32.toNatClampNeg = k / 65536 := by
    show (lN k / 65536).toInt32.toInt.toNat = _
    rw [hd]; omega
  have b1 := sI_b (k / 65536) (by omega)
  have b2 := sI_b (k / 65536 + 1) (by omega)
  have hm : ((lN k / 65536).toInt32.toInt64 * 65536).toInt = ((k / 65536 : Nat) : Int) * 65536 := by
    rw [tM (by rw [Int32.toInt_toInt64, hd, k65]; omega) (by rw [Int32.toInt_toInt64, hd, k65]; omega), Int32.toInt_toInt64, hd, k65]
  have hf : (lN k - (lN k / 65536).toInt32.toInt64 * 65536).toInt = ((k % 65536 : Nat) : Int) := by
    rw [tS (by rw [hm, hk]; omega) (by rw [hm, hk]; omega), hm, hk]
    omega
  unfold s64 f_X1_quarter
  by_cases c : lN k - (lN k / 65536).toInt32.toInt64 * 65536 = 0
  · rw [if_pos c, hc, Int32.toInt_toInt64]
    have c2 : ((k % 65536 : Nat) : Int) = 0 := by rw [← hf, c]; decide
    rw [c2, Int.mul_zero]
    show sI (k / 65536) = _
    omega
  · rw [if_neg c, hc]
    have c2 : ¬ ((k % 65536 : Nat) : Int) = 0 := fun q => c (by rw [eqL, hf, q]; decide)
    have e1 : (1 : Int32).toInt = 1 := by decide
    have hc1 : ((lN k / 65536).toInt32 + 1).toNatClampNeg = k / 65536 + 1 := by
      show ((lN k / 65536).toInt32 + 1).toInt.toNat = _
      rw [tAI (by rw [hd, e1]; omega) (by rw [hd, e1]; omega), hd, e1]
      omega
    rw [hc1]
    have hs : (sinV (k / 65536 + 1) - sinV (k / 65536)).toInt = sI (k / 65536 + 1) - sI (k / 65536) := tSI (by show -2147483648 ≤ sI _ - sI _; omega) (by show sI _ - sI _ < 2147483648; omega)
    have hb : -65536 * 65536 ≤ (sI (k / 65536 + 1) - sI (k / 65536)) * ((k % 65536 : Nat) : Int) ∧ (sI (k / 65536 + 1) - sI (k / 65536)) * ((k % 65536 : Nat) : Int) ≤ 65536 * 65536 := by
      have z0 : (0 : Int) ≤ ((k % 65536 : Nat) : Int) := by omega
      have z1 : ((k % 65536 : Nat) : Int) ≤ 65536 := by omega
      have q1 := Int.mul_le_mul_of_nonneg_right (show sI (k / 65536 + 1) - sI (k / 65536) ≤ 65536 by omega) z0
      have q2 := Int.mul_le_mul_of_nonneg_right (show -65536 ≤ sI (k / 65536 + 1) - sI (k / 65536) by omega) z0
      omega
    have hp : ((sinV (k / 65536 + 1) - sinV (k / 65536)).toInt64 * (lN k - (lN k / 65536).toInt32.toInt64 * 65536)).toInt = (sI (k / 65536 + 1) - sI (k / 65536)) * ((k % 65536 : Nat) : Int) := by
      rw [tM (by rw [Int32.toInt_toInt64, hs, hf]; omega) (by rw [Int32.toInt_toInt64, hs, hf]; omega), Int32.toInt_toInt64, hs, hf]
    have hr := rd_s (z := (sinV (k / 65536 + 1) - sinV (k / 65536)).toInt64 * (lN k - (lN k / 65536).toInt32.toInt64 * 65536)) (by rw [hp]; omega) (by rw [hp]; omega)
    rw [hp] at hr
    rw [tA (by rw [hr, Int32.toInt_toInt64]; show _ ≤ sI _ + _; omega) (by rw [hr, Int32.toInt_toInt64]; show sI _ + _ < _; omega), hr, Int32.toInt_toInt64]
    rfl
theorem s64_st {k : Nat} (h : k < 5898240) : s64 k ≤ s64 (k + 1) := by
  rw [s64_s (by omega), s64_s (by omega)]
  have hm := sI_m (k / 65536) (by omega)
  by_cases c : k % 65536 = 65535
  · rw [show (k + 1) / 65536 = k / 65536 + 1 by omega, show (k + 1) % 65536 = 0 by omega, c]
    rw [show ((0 : Nat) : Int) = 0 from rfl, Int.mul_zero]
    omega
  · rw [show (k + 1) / 65536 = k / 65536 by omega, show (k + 1) % 65536 = k % 65536 + 1 by omega]
    have q : (sI (k / 65536 + 1) - sI (k / 65536)) * ((k % 65536 : Nat) : Int) ≤ (sI (k / 65536 + 1) - sI (k / 65536)) * ((k % 65536 + 1 : Nat) : Int) := Int.mul_le_mul_of_nonneg_left (by omega) (by omega)
    omega
theorem s64_mono {j : Nat} : ∀ n : Nat, j + n ≤ 5898240 → s64 j ≤ s64 (j + n) := by
  intro n
  induction n with
  | zero => intro _; exact Int.le_refl _
  | succ n ih =>
    intro h
    have h1 := ih (by omega)
    have h2 := s64_st (k := j + n) (by omega)
    exact Int.le_trans h1 h2
theorem s64_b {k : Nat} (h : k ≤ 5898240) : 0 ≤ s64 k ∧ s64 k ≤ 65536 := by
  have h1 := s64_mono (j := 0) k (by omega)
  have h2 := s64_mono (j := k) (5898240 - k) (by omega)
  rw [show k + (5898240 - k) = 5898240 by omega] at h2
  rw [Nat.zero_add] at h1
  have e0 : s64 0 = 0 := by rw [s64_s (by omega)]; decide
  have e9 : s64 5898240 = 65536 := by rw [s64_s (by omega)]; decide
  omega
theorem s64_0 : s64 0 = 0 := by rw [s64_s (by omega)]; decide
theorem s64_9 : s64 5898240 = 65536 := by rw [s64_s (by omega)]; decide
def gA (x y : Int) (k : Nat) : Int := x * s64 k - y * s64 (5898240 - k)
theorem gA_mono {x y : Int} (hx : 0 ≤ x) (hy : 0 ≤ y) {j k : Nat} (h : j ≤ k) (hk : k ≤ 5898240) : gA x y j ≤ gA x y k := by
  have h1 := s64_mono (j := j) (k - j) (by omega)
  have h2 := s64_mono (j := 5898240 - k) (k - j) (by omega)
  rw [show j + (k - j) = k by omega] at h1
  rw [show 5898240 - k + (k - j) = 5898240 - j by omega] at h2
  have q1 := Int.mul_le_mul_of_nonneg_left h1 hx
  have q2 := Int.mul_le_mul_of_nonneg_left h2 hy
  unfold gA
  omega
/-- the threshold: what lies below it is at most 'most', the rest above -/
def thr (x y most : Int) (F : Nat) : Prop := 0 < F ∧ F ≤ 5898240 ∧ ∀ b : Nat, b ≤ 5898240 → (gA x y b ≤ most ↔ b < F)
theorem thr_ex {x y most : Int} (hx : 0 < x) (hy : 0 < y) (hm : most = -1 ∨ most = 0) : ∃ F, thr x y most F := by
  have g0 : gA x y 0 = -(y * 65536) := by unfold gA; rw [s64_0, Nat.sub_zero, s64_9, Int.mul_zero]; omega
  have g9 : gA x y 5898240 = x * 65536 := by unfold gA; rw [s64_9, Nat.sub_self, s64_0, Int.mul_zero]; omega
  obtain ⟨F, h1, h2⟩ := pk_least (fun k => k ≤ 5898240 ∧ most < gA x y k) ⟨5898240, Nat.le_refl _, by rw [g9]; omega⟩
  refine ⟨F, ?_, h1.1, fun b hb => ⟨fun h => ?_, fun h => ?_⟩⟩
  · rcases Nat.eq_zero_or_pos F with q | q
    · rw [q, g0] at h1
      omega
    · exact q
  · rcases Nat.lt_or_ge b F with q | q
    · exact q
    · have := gA_mono (Int.le_of_lt hx) (Int.le_of_lt hy) q hb
      omega
  · have := h2 b h
    omega
/-- a long that lies in the first quarter, by its number -/
theorem lNof {a : Int64} (h0 : 0 ≤ a.toInt) (h1 : a.toInt ≤ 5898240) : a = lN a.toInt.toNat := by
  rw [eqL, lNt (by omega)]
  omega
theorem gC {x y : Int64} (hx : 0 < x.toInt ∧ x.toInt ≤ 2147483647) (hy : 0 < y.toInt ∧ y.toInt ≤ 2147483647) {k : Nat} (hk : k ≤ 5898240) :
    (x * f_X1_quarter (lN k)).toInt = x.toInt * s64 k ∧ (y * f_X1_quarter (lN (5898240 - k))).toInt = y.toInt * s64 (5898240 - k) ∧ (x * f_X1_quarter (lN k) - y * f_X1_quarter (lN (5898240 - k))).toInt = gA x.toInt y.toInt k := by
  have b1 := s64_b hk
  have b2 := s64_b (k := 5898240 - k) (by omega)
  have m1 : 0 ≤ x.toInt * s64 k ∧ x.toInt * s64 k ≤ 2147483647 * 65536 := ⟨Int.mul_nonneg (by omega) b1.1, Int.mul_le_mul hx.2 b1.2 b1.1 (by omega)⟩
  have m2 : 0 ≤ y.toInt * s64 (5898240 - k) ∧ y.toInt * s64 (5898240 - k) ≤ 2147483647 * 65536 := ⟨Int.mul_nonneg (by omega) b2.1, Int.mul_le_mul hy.2 b2.2 b2.1 (by omega)⟩
  have e1 : (x * f_X1_quarter (lN k)).toInt = x.toInt * s64 k := tM (by show _ ≤ x.toInt * s64 k; omega) (by show x.toInt * s64 k < _; omega)
  have e2 : (y * f_X1_quarter (lN (5898240 - k))).toInt = y.toInt * s64 (5898240 - k) := tM (by show _ ≤ y.toInt * s64 (5898240 - k); omega) (by show y.toInt * s64 (5898240 - k) < _; omega)
  refine ⟨e1, e2, ?_⟩
  rw [tS (by rw [e1, e2]; omega) (by rw [e1, e2]; omega), e1, e2]
  rfl
theorem lN_sub9 {k : Nat} (hk : k ≤ 5898240) : 5898240 - lN k = lN (5898240 - k) := by
  have e := lNt hk
  rw [eqL, tS (by rw [e, k90]; omega) (by rw [e, k90]; omega), e, k90, lNt (by omega)]
  omega
theorem gX {x y : Int64} (hx : 0 < x.toInt ∧ x.toInt ≤ 2147483647) (hy : 0 < y.toInt ∧ y.toInt ≤ 2147483647) {k : Nat} (hk : k ≤ 5898240) :
    (x * f_X0_sineOfFirstQuarter (lN k) - y * f_X0_sineOfFirstQuarter (5898240 - lN k)).toInt = gA x.toInt y.toInt k := by
  have e := lNt hk
  have e2 := lNt (k := 5898240 - k) (by omega)
  rw [lN_sub9 hk, e_quarter (by omega), e_quarter (by omega)]
  exact (gC hx hy hk).2.2
/-- the class's search, bit by bit -/
theorem gr_L {x y most : Int64} (hx : 0 < x.toInt ∧ x.toInt ≤ 2147483647) (hy : 0 < y.toInt ∧ y.toInt ≤ 2147483647) {F : Nat} (hF : thr x.toInt y.toInt most.toInt F) :
    ∀ (n a : Nat), n ≤ 23 → a < F → F ≤ a + 2 ^ n → f_X0_greatestAngle_L7 x y most n (lN a) = lN (F - 1) := by
  obtain ⟨f0, f1, f2⟩ := hF
  intro n
  induction n with
  | zero =>
    intro a _ h1 h2
    rw [f_X0_greatestAngle_L7, show a = F - 1 by rw [Nat.pow_zero] at h2; omega]
  | succ n ih =>
    intro a hn h1 h2
    have hb := bit1 n (by omega)
    have hp : (2 : Nat) ^ n ≤ 2 ^ 22 := Nat.pow_le_pow_right (by decide) (by omega)
    have hpi : ((2 : Int) ^ n) = ((2 ^ n : Nat) : Int) := by push_cast; rfl
    have ha := lNt (k := a) (by omega)
    rw [Nat.pow_succ] at h2
    have e : (lN a + (1 : Int64) <<< ((nI n).toInt64 &&& 63)) = lN (a + 2 ^ n) := by
      rw [eqL, tA (by rw [ha, hb, hpi]; omega) (by rw [ha, hb, hpi]; omega), ha, hb, hpi, pk_lT (by omega)]
      push_cast
      rfl
    rw [f_X0_greatestAngle_L7, e]
    have hc : (5898240 : Int64) < lN (a + 2 ^ n) ↔ 5898240 < a + 2 ^ n := by
      rw [ltL, k90, pk_lT (by omega)]
      omega
    by_cases c : 5898240 < a + 2 ^ n
    · simp only [if_pos (hc.mpr c)]
      have e9 : (5898240 : Int64) = lN 5898240 := by decide
      have hg := gX hx hy (k := 5898240) (Nat.le_refl _)
      have hq : most < x * f_X0_sineOfFirstQuarter 5898240 - y * f_X0_sineOfFirstQuarter (5898240 - 5898240) := by
        rw [ltL]
        have hg2 : (x * f_X0_sineOfFirstQuarter 5898240 - y * f_X0_sineOfFirstQuarter (5898240 - 5898240)).toInt = gA x.toInt y.toInt 5898240 := hg
        rw [hg2]
        have := f2 5898240 (Nat.le_refl _)
        omega
      rw [if_pos hq]
      exact ih a (by omega) h1 (by omega)
    · simp only [if_neg (fun q => c (hc.mp q))]
      have hg := gX hx hy (k := a + 2 ^ n) (by omega)
      have hiff := f2 (a + 2 ^ n) (by omega)
      by_cases c2 : most < x * f_X0_sineOfFirstQuarter (lN (a + 2 ^ n)) - y * f_X0_sineOfFirstQuarter (5898240 - lN (a + 2 ^ n))
      · rw [if_pos c2]
        rw [ltL, hg] at c2
        exact ih a (by omega) h1 (by omega)
      · rw [if_neg c2]
        rw [ltL, hg] at c2
        exact ih (a + 2 ^ n) (by omega) (by omega) (by omega)
theorem gr_s {x y most : Int64} (hx : 0 < x.toInt ∧ x.toInt ≤ 2147483647) (hy : 0 < y.toInt ∧ y.toInt ≤ 2147483647) {F : Nat} (hF : thr x.toInt y.toInt most.toInt F) : f_X0_greatestAngle x y most = lN (F - 1) := by
  unfold f_X0_greatestAngle
  exact gr_L hx hy hF 23 0 (by decide) hF.1 (by have := hF.2.1; omega)
/-- the reference's sines at a point of the first quarter -/
theorem sn_1 {k : Nat} (hk : k ≤ 5898240) : f_X1_sine (lN k) = f_X1_quarter (lN k) := by
  have e := lNt hk
  have ha : lN k - f_X1_down (lN k) 23592960 * 23592960 = lN k := by
    rw [eqL, sn_m, e]
    omega
  unfold f_X1_sine
  rw [ha, if_pos (by rw [ltL, e, k180]; omega), if_neg (by rw [ltL, e, k90]; omega)]
theorem sn_2 {k : Nat} (hk : k ≤ 5898240) : f_X1_sine (lN k + 5898240) = f_X1_quarter (lN (5898240 - k)) := by
  have e := lNt hk
  have e1 : (lN k + 5898240).toInt = (k : Int) + 5898240 := by rw [tA (by rw [e, k90]; omega) (by rw [e, k90]; omega), e, k90]
  have ha : lN k + 5898240 - f_X1_down (lN k + 5898240) 23592960 * 23592960 = lN k + 5898240 := by
    rw [eqL, sn_m, e1]
    omega
  unfold f_X1_sine
  rw [ha]
  by_cases c1 : k = 5898240
  · subst c1
    rw [if_neg (by rw [ltL, e1, k180]; omega)]
    decide
  · rw [if_pos (by rw [ltL, e1, k180]; omega)]
    by_cases c2 : k = 0
    · subst c2
      rw [if_neg (by rw [ltL, e1, k90]; omega)]
      decide
    · rw [if_pos (by rw [ltL, e1, k90]; omega)]
      exact congrArg f_X1_quarter (by rw [eqL, tS (by rw [e1, k180]; omega) (by rw [e1, k180]; omega), e1, k180, lNt (by omega)]; omega)
/-- the reference's comparison, against 0 and against 1 -/
theorem ag_s {x y : Int64} {bd : Int32} {most : Int} (hb : (bd = 0 ∧ most = -1) ∨ (bd = 1 ∧ most = 0)) (hx : 0 < x.toInt ∧ x.toInt ≤ 2147483647) (hy : 0 < y.toInt ∧ y.toInt ≤ 2147483647) {k : Nat} (hk : k ≤ 5898240) : f_X1_against x y (lN k) < bd ↔ gA x.toInt y.toInt k ≤ most := by
  obtain ⟨g1, g2, -⟩ := gC hx hy hk
  unfold f_X1_against
  rw [sn_1 hk, sn_2 hk]
  have hg : gA x.toInt y.toInt k = x.toInt * s64 k - y.toInt * s64 (5898240 - k) := rfl
  have m0 : (-1 : Int32) < 0 := by decide
  have m1 : (-1 : Int32) < 1 := by decide
  have p0 : ¬ (1 : Int32) < 0 := by decide
  have p1 : ¬ (1 : Int32) < 1 := by decide
  have z0 : ¬ (0 : Int32) < 0 := by decide
  have z1 : (0 : Int32) < 1 := by decide
  by_cases c1 : x * f_X1_quarter (lN k) < y * f_X1_quarter (lN (5898240 - k))
  · rw [if_pos c1]
    rw [ltL, g1, g2] at c1
    rcases hb with ⟨rfl, rfl⟩ | ⟨rfl, rfl⟩
    · exact ⟨fun _ => by omega, fun _ => m0⟩
    · exact ⟨fun _ => by omega, fun _ => m1⟩
  · rw [if_neg c1]
    rw [ltL, g1, g2] at c1
    by_cases c2 : y * f_X1_quarter (lN (5898240 - k)) < x * f_X1_quarter (lN k)
    · rw [if_pos c2]
      rw [ltL, g1, g2] at c2
      rcases hb with ⟨rfl, rfl⟩ | ⟨rfl, rfl⟩
      · exact ⟨fun h => absurd h p0, fun h => by omega⟩
      · exact ⟨fun h => absurd h p1, fun h => by omega⟩
    · rw [if_neg c2]
      rw [ltL, g1, g2] at c2
      rcases hb with ⟨rfl, rfl⟩ | ⟨rfl, rfl⟩
      · exact ⟨fun h => absurd h z0, fun h => by omega⟩
      · exact ⟨fun _ => by omega, fun _ => z1⟩
theorem lNh {a b : Nat} (ha : a ≤ 5898240) (hb : b ≤ 5898240) : (lN a + lN b) / 2 = lN ((a + b) / 2) := by
  rw [lN_add, show (2 : Int64) = lN 2 by decide, pk_lDiv (by omega) (by omega) (by omega)]
theorem fi_L {x y : Int64} {bd : Int32} {most : Int} (hb : (bd = 0 ∧ most = -1) ∨ (bd = 1 ∧ most = 0)) (hx : 0 < x.toInt ∧ x.toInt ≤ 2147483647) (hy : 0 < y.toInt ∧ y.toInt ≤ 2147483647) {F : Nat} (hF : thr x.toInt y.toInt most F) :
    ∀ (n lo hi : Nat), lo < F → F ≤ hi → hi ≤ 5898240 → hi - lo ≤ 2 ^ n → f_X1_first_L67 x y bd n (lN lo) (lN hi) = lN F := by
  obtain ⟨f0, f1, f2⟩ := hF
  intro n
  induction n with
  | zero =>
    intro lo hi h1 h2 h3 h4
    rw [Nat.pow_zero] at h4
    rw [f_X1_first_L67, show hi = F by omega]
  | succ n ih =>
    intro lo hi h1 h2 h3 h4
    rw [Nat.pow_succ] at h4
    rw [f_X1_first_L67, lNh (by omega) (by omega)]
    have hc : (1 : Int64) < lN hi - lN lo ↔ 1 < hi - lo := by
      have e1 := lNt h3
      have e2 := lNt (k := lo) (by omega)
      rw [ltL, i1, tS (by rw [e1, e2]; omega) (by rw [e1, e2]; omega), e1, e2]
      omega
    by_cases c : 1 < hi - lo
    · rw [if_pos (hc.mpr c)]
      have hg := ag_s hb hx hy (k := (lo + hi) / 2) (by omega)
      have hm := f2 ((lo + hi) / 2) (by omega)
      by_cases c2 : f_X1_against x y (lN ((lo + hi) / 2)) < bd
      · rw [if_pos c2]
        have := hm.mp (hg.mp c2)
        exact ih _ _ this h2 h3 (by omega)
      · rw [if_neg c2]
        have : ¬ (lo + hi) / 2 < F := fun q => c2 (hg.mpr (hm.mpr q))
        exact ih _ _ h1 (by omega) (by omega) (by omega)
    · rw [if_neg (fun q => c (hc.mp q)), show hi = F by omega]
theorem lN65 {k : Nat} (h : k ≤ 90) : (nI k).toInt64 * 65536 = lN (k * 65536) := by
  rw [nI_l (by omega), show (65536 : Int64) = lN 65536 by decide, lN_mul]
theorem fi_3 {x y : Int64} {bd : Int32} {most : Int} (hb : (bd = 0 ∧ most = -1) ∨ (bd = 1 ∧ most = 0)) (hx : 0 < x.toInt ∧ x.toInt ≤ 2147483647) (hy : 0 < y.toInt ∧ y.toInt ≤ 2147483647) {F : Nat} (hF : thr x.toInt y.toInt most F) :
    ∀ n : Nat, n ≤ 90 → (90 - n) * 65536 < F → f_X1_first_L3 x y bd n = lN F := by
  intro n
  induction n with
  | zero =>
    intro _ h
    have := hF.2.1
    omega
  | succ n ih =>
    intro hn h
    have f2 := hF.2.2
    have ha : ∀ k : Nat, k ≤ 90 → (f_X1_against x y (lN (k * 65536)) < bd ↔ k * 65536 < F) := fun k hk => (ag_s hb hx hy (k := k * 65536) (by omega)).trans (f2 _ (by omega))
    have e1 : nI (90 - (n + 1)) + 1 = nI (90 - n) := by rw [nI_1, show 90 - (n + 1) + 1 = 90 - n by omega]
    rw [f_X1_first_L3, e1, lN65 (by omega), lN65 (by omega)]
    by_cases c : f_X1_against x y (lN ((90 - n) * 65536)) < bd
    · rw [if_pos c]
      exact ih (by omega) ((ha _ (by omega)).mp c)
    · rw [if_neg c, if_pos ((ha _ (by omega)).mpr h)]
      have hle : ¬ (90 - n) * 65536 < F := fun q => c ((ha _ (by omega)).mpr q)
      rw [show (65536 : Int64) = lN 65536 by decide, lN_add]
      exact fi_L hb hx hy hF 16 _ _ h (by omega) (by omega) (by omega)
theorem fi_s {x y : Int64} {bd : Int32} {most : Int} (hb : (bd = 0 ∧ most = -1) ∨ (bd = 1 ∧ most = 0)) (hx : 0 < x.toInt ∧ x.toInt ≤ 2147483647) (hy : 0 < y.toInt ∧ y.toInt ≤ 2147483647) {F : Nat} (hF : thr x.toInt y.toInt most F) : f_X1_first x y bd = lN F := by
  unfold f_X1_first
  exact fi_3 hb hx hy hF 90 (Nat.le_refl _) (by have := hF.1; omega)
/-- the middle of the two -/
theorem mid_s {x y : Int64} (hx : 0 < x.toInt ∧ x.toInt ≤ 2147483647) (hy : 0 < y.toInt ∧ y.toInt ≤ 2147483647) :
    (f_X0_greatestAngle x y (-1) + 1 + f_X0_greatestAngle x y 0) / 2 = f_X1_down (f_X1_first x y 0 + (f_X1_first x y 1 - 1)) 2 := by
  obtain ⟨F, hF⟩ := thr_ex hx.1 hy.1 (Or.inl rfl : (-1 : Int) = -1 ∨ (-1 : Int) = 0)
  obtain ⟨G, hG⟩ := thr_ex hx.1 hy.1 (Or.inr rfl : (0 : Int) = -1 ∨ (0 : Int) = 0)
  rw [gr_s hx hy (most := -1) hF, gr_s hx hy (most := 0) hG, fi_s (Or.inl ⟨rfl, rfl⟩) hx hy hF, fi_s (Or.inr ⟨rfl, rfl⟩) hx hy hG]
  have f1 := hF.1
  have f2 := hF.2.1
  have g1 := hG.1
  have g2 := hG.2.1
  rw [show (1 : Int64) = lN 1 by decide, lN_add, lN_sub (by omega), lN_add, lN_add, show F - 1 + 1 = F by omega]
  rw [eqL, dn_s (by decide)]
  rw [(dv (a := lN (F + (G - 1))) (b := 2) (by decide)).1, ((dv (a := lN (F + (G - 1))) (b := 2) (by decide)).2.2.2.1 (by rw [pk_lT (by omega)]; omega)).1]
theorem e_aFQ {x y : Int64} (hx : 0 < x.toInt ∧ x.toInt ≤ 2147483647) (hy : 0 < y.toInt ∧ y.toInt ≤ 2147483647) : f_X0_angleOfFirstQuarter x y = f_X1_down (f_X1_first x y 0 + (f_X1_first x y 1 - 1)) 2 := by
  unfold f_X0_angleOfFirstQuarter
  rw [if_neg (by rw [eqL, i0]; omega), if_neg (by rw [eqL, i0]; omega), mid_s hx hy]
theorem ab_p {x : Int64} (h : ¬ x < 0) : (if 0 < x then x else -x) = x := by rw [e_abs, if_neg h]
theorem ab_n {x : Int64} (h : x < 0) : (if 0 < x then x else -x) = -x := by rw [e_abs, if_pos h]
theorem e_angle {p0 p1 : Int64} (h0 : -2147483647 ≤ p0.toInt ∧ p0.toInt ≤ 2147483647) (h1 : -2147483647 ≤ p1.toInt ∧ p1.toInt ≤ 2147483647) : f_X0_angle p0 p1 = f_X1_angle p0 p1 := by
  have n0 : (-p0).toInt = -p0.toInt := tN (by omega)
  have n1 : (-p1).toInt = -p1.toInt := tN (by omega)
  unfold f_X0_angle f_X1_angle
  by_cases c0 : p0 < 0
  · rw [if_pos c0, if_pos c0, ab_n c0]
    have c0' := c0
    rw [ltL, i0] at c0'
    have z0 : ¬ -p0 = 0 := by rw [eqL, n0, i0]; omega
    by_cases c1 : p1 < 0
    · rw [if_pos c1, if_pos c1, ab_n c1]
      have c1' := c1
      rw [ltL, i0] at c1'
      have z1 : ¬ -p1 = 0 := by rw [eqL, n1, i0]; omega
      rw [if_neg z1, if_neg z0, e_aFQ (by omega) (by omega)]
    · rw [if_neg c1, if_neg c1, ab_p c1]
      by_cases c2 : p1 = 0
      · rw [if_pos c2, c2]
        unfold f_X0_angleOfFirstQuarter
        rw [if_pos rfl]
        decide
      · rw [ltL, i0] at c1
        rw [eqL, i0] at c2
        rw [if_neg (show ¬ p1 = 0 by rw [eqL, i0]; exact c2), if_neg z0, e_aFQ (by omega) (by omega)]
  · rw [if_neg c0, if_neg c0, ab_p c0]
    have c0' := c0
    rw [ltL, i0] at c0'
    by_cases c1 : p1 < 0
    · rw [if_pos c1, if_pos c1, ab_n c1]
      have c1' := c1
      rw [ltL, i0] at c1'
      have z1 : ¬ -p1 = 0 := by rw [eqL, n1, i0]; omega
      rw [if_neg z1]
      by_cases c2 : p0 = 0
      · rw [if_pos c2, c2]
        unfold f_X0_angleOfFirstQuarter
        rw [if_neg z1, if_pos rfl]
        decide
      · rw [if_neg c2]
        rw [eqL, i0] at c2
        rw [e_aFQ (by omega) (by omega)]
    · rw [if_neg c1, if_neg c1, ab_p c1]
      by_cases c2 : p1 = 0
      · rw [if_pos c2, c2]
        unfold f_X0_angleOfFirstQuarter
        rw [if_pos rfl]
      · rw [if_neg c2]
        by_cases c3 : p0 = 0
        · rw [if_pos c3, c3]
          unfold f_X0_angleOfFirstQuarter
          rw [if_neg c2, if_pos rfl]
        · rw [if_neg c3]
          rw [ltL, i0] at c1
          rw [eqL, i0] at c2 c3
          rw [e_aFQ (by omega) (by omega)]
