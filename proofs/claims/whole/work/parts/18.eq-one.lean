theorem e_ofOne1 (rk rn p0 a : Int32) : f_X0_ofOne rk rn p0 1 a = f_X1_onWhole rk rn p0 a.toInt64 := by
  unfold f_X0_ofOne f_X1_onWhole
  rw [e_abs]
  by_cases c0 : p0 = 0
  · rw [if_pos c0, if_pos c0, e_whole]
  · rw [if_neg c0, if_neg c0]
    by_cases c1 : p0 = 1
    · rw [if_pos c1, if_pos c1, e_whole]
      by_cases c2 : a.toInt64 < 0
      · rw [if_pos c2, if_pos c2]
      · rw [if_neg c2, if_neg c2]
    · rw [if_neg c1, if_neg c1, if_pos rfl, if_pos rfl, e_whole]
      split <;> rfl
theorem op12 {p0 : Int32} (h1 : ¬ p0 < 0) (h2 : ¬ 11 < p0) : p0 = 0 ∨ p0 = 1 ∨ p0 = 2 ∨ p0 = 3 ∨ p0 = 4 ∨ p0 = 5 ∨ p0 = 6 ∨ p0 = 7 ∨ p0 = 8 ∨ p0 = 9 ∨ p0 = 10 ∨ p0 = 11 := by
  rw [ltI, show (0 : Int32).toInt = 0 by decide] at h1
  rw [ltI, show (11 : Int32).toInt = 11 by decide] at h2
  simp only [eqI, show (0 : Int32).toInt = 0 by decide, show (1 : Int32).toInt = 1 by decide, show (2 : Int32).toInt = 2 by decide, show (3 : Int32).toInt = 3 by decide, show (4 : Int32).toInt = 4 by decide, show (5 : Int32).toInt = 5 by decide, show (6 : Int32).toInt = 6 by decide, show (7 : Int32).toInt = 7 by decide, show (8 : Int32).toInt = 8 by decide, show (9 : Int32).toInt = 9 by decide, show (10 : Int32).toInt = 10 by decide, show (11 : Int32).toInt = 11 by decide]
  omega
theorem dv32 (a : Int32) : (a / 65536).toInt64 = a.toInt64 / 65536 := Int32.toInt64_div_of_ne_right a 65536 (by decide)
theorem e_ofOne2 (rk rn a : Int32) {p0 : Int32} (hp : p0 = 0 ∨ p0 = 1 ∨ p0 = 2 ∨ p0 = 3 ∨ p0 = 4 ∨ p0 = 5 ∨ p0 = 9) : f_X0_ofOne rk rn p0 2 a = f_X1_onReal rk rn p0 a.toInt64 := by
  have r := rgI a
  have hb : -2147483648 ≤ a.toInt64.toInt ∧ a.toInt64.toInt ≤ 2147483647 := by rw [Int32.toInt_toInt64]; omega
  have h2 := e_cut2 hb
  unfold f_X0_ofOne f_X1_onReal f_X0_cut
  rw [e_abs, h2, e_cut4, e_floor, dv32]
  by_cases ce : f_X1_down a.toInt64 65536 * 65536 = a.toInt64
  · rcases hp with h | h | h | h | h | h | h
    · simp +decide only [h, ↓reduceIte, e_real, if_pos ce]
    · simp +decide only [h, ↓reduceIte, e_real, if_pos ce]
      split <;> rfl
    · simp +decide only [h, ↓reduceIte, e_real, if_pos ce]
    · simp +decide only [h, ↓reduceIte, e_real, if_pos ce]
    · simp +decide only [h, ↓reduceIte, e_real, if_pos ce]
    · simp +decide only [h, ↓reduceIte, e_real, if_pos ce]
    · simp +decide only [h, ↓reduceIte, e_whole, if_pos ce]
  · rcases hp with h | h | h | h | h | h | h
    · simp +decide only [h, ↓reduceIte, e_real, if_neg ce]
    · simp +decide only [h, ↓reduceIte, e_real, if_neg ce]
      split <;> rfl
    · simp +decide only [h, ↓reduceIte, e_real, if_neg ce]
    · simp +decide only [h, ↓reduceIte, e_real, if_neg ce]
    · simp +decide only [h, ↓reduceIte, e_real, if_neg ce]
    · simp +decide only [h, ↓reduceIte, e_real, if_neg ce]
    · simp +decide only [h, ↓reduceIte, e_whole, if_neg ce]
theorem e_ofReal (rk rn p0 : Int32) {x : Int64} (hx : inR x.toInt) : f_X0_ofReal rk rn p0 x = if p0 = 6 then (if x < 0 then (-3, rk, rn) else f_X1_real rk rn (f_X1_root x)) else (if p0 = 7 then f_X1_real rk rn (f_X1_sine x) else (if p0 = 8 then f_X1_real rk rn (f_X1_sine (x + 5898240)) else f_X1_real rk rn x)) := by
  have hx' : -2147483647 ≤ x.toInt ∧ x.toInt ≤ 2147483647 := hx
  unfold f_X0_ofReal
  rw [e_real, e_real, e_real, e_real, e_sine, e_sine]
  by_cases c : x < 0
  · rw [if_pos c, if_pos c]
  · rw [if_neg c, if_neg c]
    rw [ltL, i0] at c
    rw [e_root (by omega) hx'.2]
theorem e_one (rk rn p0 p1 p2 : Int32) : f_X0_one rk rn p0 p1 p2 = f_X1_one rk rn p0 p1 p2 := by
  unfold f_X0_one f_X1_one
  rw [e_isValue]
  by_cases a1 : p0 < 0
  · rw [if_pos a1, if_pos a1]
  · rw [if_neg a1, if_neg a1]
    by_cases a2 : 11 < p0
    · rw [if_pos a2, if_pos a2]
    · rw [if_neg a2, if_neg a2]
      by_cases a3 : f_X1_isValue p1 p2 = 0
      · rw [if_pos a3, if_pos a3]
      · rw [if_neg a3, if_neg a3]
        have z1 := z_has a3
        have u1 := e_units p2 (v_kind a3)
        have b1 := fun h : ¬ f_X1_hasUnits p1 p2 = 0 => b_units (k := p1) (v := p2) (fun q => h (z1.mp q))
        rw [u1] at z1 b1
        rw [u1]
        have hk := v_kind a3
        have N : p0 = 0 ∨ p0 = 1 ∨ p0 = 2 ∨ p0 = 3 ∨ p0 = 4 ∨ p0 = 5 ∨ p0 = 9 → f_X0_ofOne rk rn p0 p1 p2 = if p1 = 1 then f_X1_onWhole rk rn p0 p2.toInt64 else f_X1_onReal rk rn p0 p2.toInt64 := fun h => by
          rcases hk with q | q
          · rw [q, if_pos rfl, e_ofOne1]
          · rw [q, if_neg (by decide), e_ofOne2 rk rn p2 h]
        have R : (if f_X0_isReal (f_X1_units p1 p2) = 0 then (-2, rk, rn) else f_X0_ofReal rk rn p0 (f_X1_units p1 p2)) = (if f_X1_hasUnits p1 p2 = 0 then (-2, rk, rn) else if p0 = 6 then (if f_X1_units p1 p2 < 0 then (-3, rk, rn) else f_X1_real rk rn (f_X1_root (f_X1_units p1 p2))) else (if p0 = 7 then f_X1_real rk rn (f_X1_sine (f_X1_units p1 p2)) else (if p0 = 8 then f_X1_real rk rn (f_X1_sine (f_X1_units p1 p2 + 5898240)) else f_X1_real rk rn (f_X1_units p1 p2)))) := by
          by_cases d1 : f_X1_hasUnits p1 p2 = 0
          · rw [if_pos d1, if_pos (z1.mpr d1)]
          · rw [if_neg d1, if_neg (fun q => d1 (z1.mp q)), e_ofReal rk rn p0 (b1 d1)]
        rcases op12 a1 a2 with h | h | h | h | h | h | h | h | h | h | h | h
        · rw [h] at N; simp +decide only [h, ↓reduceIte, f_X0_isAsAReal]; exact N (by decide)
        · rw [h] at N; simp +decide only [h, ↓reduceIte, f_X0_isAsAReal]; exact N (by decide)
        · rw [h] at N; simp +decide only [h, ↓reduceIte, f_X0_isAsAReal]; exact N (by decide)
        · rw [h] at N; simp +decide only [h, ↓reduceIte, f_X0_isAsAReal]; exact N (by decide)
        · rw [h] at N; simp +decide only [h, ↓reduceIte, f_X0_isAsAReal]; exact N (by decide)
        · rw [h] at N; simp +decide only [h, ↓reduceIte, f_X0_isAsAReal]; exact N (by decide)
        · rw [h] at R; simp +decide only [↓reduceIte] at R; simp +decide only [h, ↓reduceIte, f_X0_isAsAReal]; exact R
        · rw [h] at R; simp +decide only [↓reduceIte] at R; simp +decide only [h, ↓reduceIte, f_X0_isAsAReal]; exact R
        · rw [h] at R; simp +decide only [↓reduceIte] at R; simp +decide only [h, ↓reduceIte, f_X0_isAsAReal]; exact R
        · rw [h] at N; simp +decide only [h, ↓reduceIte, f_X0_isAsAReal]; exact N (by decide)
        · rw [h] at R; simp +decide only [↓reduceIte] at R; simp +decide only [h, ↓reduceIte, f_X0_isAsAReal]; exact R
        · rcases hk with q | q
          · simp +decide only [h, q, ↓reduceIte, e_whole]
          · simp +decide only [h, q, ↓reduceIte]
theorem e_compare (p0 p1 p2 p3 : Int32) : f_X0_compare p0 p1 p2 p3 = f_X1_compare p0 p1 p2 p3 := by
  unfold f_X0_compare f_X1_compare
  rw [e_isValue, e_isValue]
  by_cases a3 : f_X1_isValue p0 p1 = 0
  · rw [if_pos a3, if_pos a3]
  · rw [if_neg a3, if_neg a3]
    by_cases a4 : f_X1_isValue p2 p3 = 0
    · rw [if_pos a4, if_pos a4]
    · rw [if_neg a4, if_neg a4, e_units p1 (v_kind a3), e_units p3 (v_kind a4)]
      by_cases c2 : f_X1_units p0 p1 = f_X1_units p2 p3
      · have c1 : ¬ f_X1_units p0 p1 < f_X1_units p2 p3 := by
          rw [c2, ltL]
          omega
        rw [if_pos c2, if_neg c1, if_pos c2]
      · rw [if_neg c2]
        by_cases c1 : f_X1_units p0 p1 < f_X1_units p2 p3
        · rw [if_pos c1, if_pos c1]
        · rw [if_neg c1, if_neg c1, if_neg c2]
theorem e_moved (mx my p : Int32) : f_X0_moved mx my p = f_X1_moved mx my p := rfl
theorem e_entry (en : Nat → Int32) (p : Int32) : f_X0_entry (en 0) (en 1) (en 2) (en 3) (en 4) (en 5) p = f_X1_entry en p := by
  unfold f_X0_entry f_X1_entry
  have k0 : (0 : Int32).toInt = 0 := by decide
  have k6 : (6 : Int32).toInt = 6 := by decide
  by_cases c1 : p < 0
  · rw [if_pos c1]
    have n : ∀ k : Int32, ¬ k < 0 → ¬ p = k := fun k hk q => hk (q ▸ c1)
    rw [if_neg (n 0 (by decide)), if_neg (n 1 (by decide)), if_neg (n 2 (by decide)), if_neg (n 3 (by decide)), if_neg (n 4 (by decide)), if_neg (n 5 (by decide))]
  · rw [if_neg c1]
    by_cases c2 : p < 6
    · rw [if_pos c2]
      obtain ⟨j, hj, rfl⟩ := vp_in_of (en_ix c1 c2) (by decide)
      have hc : (nI j).toNatClampNeg = j := nI_clamp (by omega)
      rw [hc]
      match j, hj with
      | 0, _ => rfl
      | 1, _ => rfl
      | 2, _ => rfl
      | 3, _ => rfl
      | 4, _ => rfl
      | 5, _ => rfl
      | k + 6, h => exact absurd h (by omega)
    · rw [if_neg c2]
      have n : ∀ k : Int32, k < 6 → ¬ p = k := fun k hk q => c2 (q ▸ hk)
      rw [if_neg (n 0 (by decide)), if_neg (n 1 (by decide)), if_neg (n 2 (by decide)), if_neg (n 3 (by decide)), if_neg (n 4 (by decide)), if_neg (n 5 (by decide))]
