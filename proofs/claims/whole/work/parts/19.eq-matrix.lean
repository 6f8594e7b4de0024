/-! The matrix: putting six reals, moving, putting together. -/
def okE (en : Nat → Int32) : Prop := ∀ k : Nat, k < 6 → ¬ en k = -2147483648
theorem z_tri {α : Type} (x : Int64) (A B : α) : (if 2147483647 < x then A else if x < -2147483647 then A else B) = if f_X0_isReal x = 0 then A else B := by
  have e1 : (-2147483647 : Int64).toInt = -2147483647 := by decide
  have e2 : (2147483647 : Int64).toInt = 2147483647 := by decide
  by_cases c1 : 2147483647 < x
  · rw [if_pos c1, if_pos ((z_isReal x).mpr (by rw [ltL, e2] at c1; omega))]
  · rw [if_neg c1]
    by_cases c2 : x < -2147483647
    · rw [if_pos c2, if_pos ((z_isReal x).mpr (by rw [ltL, e1] at c2; omega))]
    · rw [if_neg c2, if_neg (fun q => by rw [z_isReal] at q; rw [ltL, e2] at c1; rw [ltL, e1] at c2; omega)]
theorem back32 (p : Int32) : p.toInt64.toInt32 = p := by
  have r := rgI p
  rw [eqI, tI (by rw [Int32.toInt_toInt64]; omega) (by rw [Int32.toInt_toInt64]; omega), Int32.toInt_toInt64]
abbrev upd6 (en : Nat → Int32) (a b c d e f : Int32) : Nat → Int32 := upd (upd (upd (upd (upd (upd en 0 a) 1 b) 2 c) 3 d) 4 e) 5 f
theorem upd6_v (en : Nat → Int32) (a b c d e f : Int32) : upd6 en a b c d e f 0 = a ∧ upd6 en a b c d e f 1 = b ∧ upd6 en a b c d e f 2 = c ∧ upd6 en a b c d e f 3 = d ∧ upd6 en a b c d e f 4 = e ∧ upd6 en a b c d e f 5 = f := by
  refine ⟨?_, ?_, ?_, ?_, ?_, ?_⟩ <;> simp [upd]
theorem upd6_ok {en : Nat → Int32} {a b c d e f : Int32} (ha : ¬ a = -2147483648) (hb : ¬ b = -2147483648) (hc : ¬ c = -2147483648) (hd : ¬ d = -2147483648) (he : ¬ e = -2147483648) (hf : ¬ f = -2147483648) : okE (upd6 en a b c d e f) := by
  obtain ⟨h0, h1, h2, h3, h4, h5⟩ := upd6_v en a b c d e f
  intro k hk
  match k, hk with
  | 0, _ => rw [h0]; exact ha
  | 1, _ => rw [h1]; exact hb
  | 2, _ => rw [h2]; exact hc
  | 3, _ => rw [h3]; exact hd
  | 4, _ => rw [h4]; exact he
  | 5, _ => rw [h5]; exact hf
  | k + 6, h => exact absurd h (by omega)
theorem bad_ok {a b c d e f : Int32} (h : f_X1_areBad a b c d e f = 0) : ¬ a = -2147483648 ∧ ¬ b = -2147483648 ∧ ¬ c = -2147483648 ∧ ¬ d = -2147483648 ∧ ¬ e = -2147483648 ∧ ¬ f = -2147483648 := by
  unfold f_X1_areBad at h
  simp only [z_isBad] at h
  by_cases c1 : a = -2147483648
  · simp [c1] at h
  · by_cases c2 : b = -2147483648
    · simp [c1, c2] at h
    · by_cases c3 : c = -2147483648
      · simp [c1, c2, c3] at h
      · by_cases c4 : d = -2147483648
        · simp [c1, c2, c3, c4] at h
        · by_cases c5 : e = -2147483648
          · simp [c1, c2, c3, c4, c5] at h
          · by_cases c6 : f = -2147483648
            · simp [c1, c2, c3, c4, c5, c6] at h
            · exact ⟨c1, c2, c3, c4, c5, c6⟩
abbrev six (r : Int32) (en : Nat → Int32) : Int32 × Int32 × Int32 × Int32 × Int32 × Int32 × Int32 := (r, en 0, en 1, en 2, en 3, en 4, en 5)
theorem e_matrix (en : Nat → Int32) (a b c d e f : Int32) : f_X0_matrix (en 0) (en 1) (en 2) (en 3) (en 4) (en 5) a b c d e f = six (f_X1_matrix en a b c d e f).1 (f_X1_matrix en a b c d e f).2 := by
  obtain ⟨h0, h1, h2, h3, h4, h5⟩ := upd6_v en a b c d e f
  unfold f_X0_matrix f_X0_keepMatrix f_X1_matrix
  by_cases z : f_X1_areBad a b c d e f = 0
  · rw [if_pos z, if_neg (fun q => (z_areBad a b c d e f).mp q z), back32, back32, back32, back32, back32, back32]
    show _ = six 1 (upd6 en a b c d e f)
    unfold six
    rw [h0, h1, h2, h3, h4, h5]
  · rw [if_neg z, if_pos ((z_areBad a b c d e f).mpr z)]
theorem k_matrix {en : Nat → Int32} (h : okE en) (a b c d e f : Int32) : okE (f_X1_matrix en a b c d e f).2 := by
  unfold f_X1_matrix
  by_cases z : f_X1_areBad a b c d e f = 0
  · rw [if_pos z]
    obtain ⟨h1, h2, h3, h4, h5, h6⟩ := bad_ok z
    exact upd6_ok h1 h2 h3 h4 h5 h6
  · rw [if_neg z]
    exact h
theorem take_s (en : Nat → Int32) (nx : Nat → Int64) : f_X1_take en nx = if f_X0_areReals (nx 0) (nx 1) (nx 2) (nx 3) (nx 4) (nx 5) = 0 then (-2, en) else (1, upd6 en (nx 0).toInt32 (nx 1).toInt32 (nx 2).toInt32 (nx 3).toInt32 (nx 4).toInt32 (nx 5).toInt32) := by
  unfold f_X1_take f_X0_areReals
  simp only [z_tri]
  by_cases c0 : f_X0_isReal (nx 0) = 0
  · rw [if_pos c0, if_pos c0, if_pos rfl]
  · rw [if_neg c0, if_neg c0]
    by_cases c1 : f_X0_isReal (nx 1) = 0
    · rw [if_pos c1, if_pos c1, if_pos rfl]
    · rw [if_neg c1, if_neg c1]
      by_cases c2 : f_X0_isReal (nx 2) = 0
      · rw [if_pos c2, if_pos c2, if_pos rfl]
      · rw [if_neg c2, if_neg c2]
        by_cases c3 : f_X0_isReal (nx 3) = 0
        · rw [if_pos c3, if_pos c3, if_pos rfl]
        · rw [if_neg c3, if_neg c3]
          by_cases c4 : f_X0_isReal (nx 4) = 0
          · rw [if_pos c4, if_pos c4, if_pos rfl]
          · rw [if_neg c4, if_neg c4]
            by_cases c5 : f_X0_isReal (nx 5) = 0
            · rw [if_pos c5, if_pos c5, if_pos rfl]
            · rw [if_neg c5, if_neg c5, if_neg (by decide)]
theorem z_all {a b c d e f : Int64} : f_X0_areReals a b c d e f = 0 ↔ ¬ (inR a.toInt ∧ inR b.toInt ∧ inR c.toInt ∧ inR d.toInt ∧ inR e.toInt ∧ inR f.toInt) := by
  have z : ∀ x : Int64, f_X0_isReal x = 0 ↔ ¬ inR x.toInt := z_isReal
  unfold f_X0_areReals
  simp only [z]
  by_cases c1 : inR a.toInt <;> by_cases c2 : inR b.toInt <;> by_cases c3 : inR c.toInt <;> by_cases c4 : inR d.toInt <;> by_cases c5 : inR e.toInt <;> by_cases c6 : inR f.toInt <;> simp [c1, c2, c3, c4, c5, c6]
theorem r_ok {x : Int64} (h : inR x.toInt) : ¬ x.toInt32 = -2147483648 := by
  have h' : -2147483647 ≤ x.toInt ∧ x.toInt ≤ 2147483647 := h
  rw [eqI, kmin, tI (by omega) (by omega)]
  omega
theorem k_take {en : Nat → Int32} (h : okE en) (nx : Nat → Int64) : okE (f_X1_take en nx).2 := by
  rw [take_s]
  by_cases z : f_X0_areReals (nx 0) (nx 1) (nx 2) (nx 3) (nx 4) (nx 5) = 0
  · rw [if_pos z]
    exact h
  · rw [if_neg z]
    obtain ⟨h0, h1, h2, h3, h4, h5⟩ := Decidable.not_not.mp (fun q => z (z_all.mpr q))
    exact upd6_ok (r_ok h0) (r_ok h1) (r_ok h2) (r_ok h3) (r_ok h4) (r_ok h5)
/-- the class's keeping against the reference's taking, of the same six numbers -/
theorem e_take (en : Nat → Int32) (nx : Nat → Int64) : (if (f_X0_keepMatrix (en 0) (en 1) (en 2) (en 3) (en 4) (en 5) (nx 0) (nx 1) (nx 2) (nx 3) (nx 4) (nx 5)).1 = 0 then (-2 : Int32) else 1) = (f_X1_take en nx).1 ∧ (f_X0_keepMatrix (en 0) (en 1) (en 2) (en 3) (en 4) (en 5) (nx 0) (nx 1) (nx 2) (nx 3) (nx 4) (nx 5)).2 = ((f_X1_take en nx).2 0, (f_X1_take en nx).2 1, (f_X1_take en nx).2 2, (f_X1_take en nx).2 3, (f_X1_take en nx).2 4, (f_X1_take en nx).2 5) := by
  rw [take_s]
  unfold f_X0_keepMatrix
  by_cases z : f_X0_areReals (nx 0) (nx 1) (nx 2) (nx 3) (nx 4) (nx 5) = 0
  · rw [if_pos z, if_pos z]
    exact ⟨rfl, rfl⟩
  · rw [if_neg z, if_neg z]
    obtain ⟨h0, h1, h2, h3, h4, h5⟩ := upd6_v en (nx 0).toInt32 (nx 1).toInt32 (nx 2).toInt32 (nx 3).toInt32 (nx 4).toInt32 (nx 5).toInt32
    refine ⟨by show (if (1 : Int32) = 0 then (-2 : Int32) else 1) = 1; decide, ?_⟩
    show ((nx 0).toInt32, (nx 1).toInt32, (nx 2).toInt32, (nx 3).toInt32, (nx 4).toInt32, (nx 5).toInt32) = (upd6 en (nx 0).toInt32 (nx 1).toInt32 (nx 2).toInt32 (nx 3).toInt32 (nx 4).toInt32 (nx 5).toInt32 0, upd6 en (nx 0).toInt32 (nx 1).toInt32 (nx 2).toInt32 (nx 3).toInt32 (nx 4).toInt32 (nx 5).toInt32 1, upd6 en (nx 0).toInt32 (nx 1).toInt32 (nx 2).toInt32 (nx 3).toInt32 (nx 4).toInt32 (nx 5).toInt32 2, upd6 en (nx 0).toInt32 (nx 1).toInt32 (nx 2).toInt32 (nx 3).toInt32 (nx 4).toInt32 (nx 5).toInt32 3, upd6 en (nx 0).toInt32 (nx 1).toInt32 (nx 2).toInt32 (nx 3).toInt32 (nx 4).toInt32 (nx 5).toInt32 4, upd6 en (nx 0).toInt32 (nx 1).toInt32 (nx 2).toInt32 (nx 3).toInt32 (nx 4).toInt32 (nx 5).toInt32 5)
    rw [h0, h1, h2, h3, h4, h5]
