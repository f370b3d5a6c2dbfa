/-! PURE: what bars, and the bits of a place -/
def sp_in (v : Int32) (b : Int) : Prop := -b ≤ v.toInt ∧ v.toInt ≤ b
theorem lo_or {sw f : Nat → Int32} {n : Nat} (hb : ∀ k, k < n → sp_in (f k) 10000) : ∀ k, k ≤ n → (mb_lo sw f k = mh_lo sw f k ∧ sp_in (mh_lo sw f k) 10000 ∧ ∃ i, i < k ∧ ¬ sw i ≤ 0) ∨ ((∀ i, i < k → sw i ≤ 0) ∧ mb_lo sw f k = 1000000000 ∧ mh_lo sw f k = 10000) := by
  intro k
  induction k with
  | zero => exact fun _ => Or.inr ⟨fun i h => absurd h (Nat.not_lt_zero i), rfl, rfl⟩
  | succ k ih =>
    intro hk
    have hk1 := hb k (by omega)
    by_cases h0 : sw k ≤ 0
    · have e1 : mb_lo sw f (k + 1) = mb_lo sw f k := if_pos h0
      have e2 : mh_lo sw f (k + 1) = mh_lo sw f k := if_pos h0
      rw [e1, e2]
      rcases ih (by omega) with ⟨h1, h2, i, h3, h4⟩ | ⟨h1, h2⟩
      · exact Or.inl ⟨h1, h2, i, by omega, h4⟩
      · refine Or.inr ⟨fun i hi => ?_, h2⟩
        by_cases e : i = k
        · rw [e]; exact h0
        · exact h1 i (by omega)
    · have e1 : mb_lo sw f (k + 1) = if f k < mb_lo sw f k then f k else mb_lo sw f k := if_neg h0
      have e2 : mh_lo sw f (k + 1) = if f k < mh_lo sw f k then f k else mh_lo sw f k := if_neg h0
      refine Or.inl ?_
      rcases ih (by omega) with ⟨h1, h2, -⟩ | ⟨-, h2, h3⟩
      · rw [e1, e2, h1]
        refine ⟨rfl, ?_, k, Nat.lt_succ_self k, h0⟩
        split
        · exact hk1
        · exact h2
      · have c1 : (1000000000 : Int32).toInt = 1000000000 := by decide
        have c2 : (10000 : Int32).toInt = 10000 := by decide
        have z1 : mb_lo sw f (k + 1) = f k := by
          rw [e1, h2, if_pos]
          rw [Int32.lt_iff_toInt_lt, c1]
          have := hk1.2
          omega
        have z2 : mh_lo sw f (k + 1) = f k := by
          rw [e2, h3]
          split
          · rfl
          · rename_i h
            rw [Int32.lt_iff_toInt_lt, c2] at h
            have := hk1.2
            exact Int32.toInt_inj.mp (by rw [c2]; omega)
        rw [z1, z2]
        exact ⟨rfl, hk1, k, Nat.lt_succ_self k, h0⟩
theorem hi_or {sw f : Nat → Int32} {n : Nat} (hb : ∀ k, k < n → sp_in (f k) 10000) : ∀ k, k ≤ n → (mb_hi sw f k = mh_hi sw f k ∧ sp_in (mh_hi sw f k) 10000 ∧ ∃ i, i < k ∧ ¬ sw i ≤ 0) ∨ ((∀ i, i < k → sw i ≤ 0) ∧ mb_hi sw f k = -1000000000 ∧ mh_hi sw f k = -10000) := by
  intro k
  induction k with
  | zero => exact fun _ => Or.inr ⟨fun i h => absurd h (Nat.not_lt_zero i), rfl, rfl⟩
  | succ k ih =>
    intro hk
    have hk1 := hb k (by omega)
    by_cases h0 : sw k ≤ 0
    · have e1 : mb_hi sw f (k + 1) = mb_hi sw f k := if_pos h0
      have e2 : mh_hi sw f (k + 1) = mh_hi sw f k := if_pos h0
      rw [e1, e2]
      rcases ih (by omega) with ⟨h1, h2, i, h3, h4⟩ | ⟨h1, h2⟩
      · exact Or.inl ⟨h1, h2, i, by omega, h4⟩
      · refine Or.inr ⟨fun i hi => ?_, h2⟩
        by_cases e : i = k
        · rw [e]; exact h0
        · exact h1 i (by omega)
    · have e1 : mb_hi sw f (k + 1) = if mb_hi sw f k < f k then f k else mb_hi sw f k := if_neg h0
      have e2 : mh_hi sw f (k + 1) = if mh_hi sw f k < f k then f k else mh_hi sw f k := if_neg h0
      refine Or.inl ?_
      rcases ih (by omega) with ⟨h1, h2, -⟩ | ⟨-, h2, h3⟩
      · rw [e1, e2, h1]
        refine ⟨rfl, ?_, k, Nat.lt_succ_self k, h0⟩
        split
        · exact hk1
        · exact h2
      · have c1 : (-1000000000 : Int32).toInt = -1000000000 := by decide
        have c2 : (-10000 : Int32).toInt = -10000 := by decide
        have z1 : mb_hi sw f (k + 1) = f k := by
          rw [e1, h2, if_pos]
          rw [Int32.lt_iff_toInt_lt, c1]
          have := hk1.1
          omega
        have z2 : mh_hi sw f (k + 1) = f k := by
          rw [e2, h3]
          split
          · rfl
          · rename_i h
            rw [Int32.lt_iff_toInt_lt, c2] at h
            have := hk1.1
            exact Int32.toInt_inj.mp (by rw [c2]; omega)
        rw [z1, z2]
        exact ⟨rfl, hk1, k, Nat.lt_succ_self k, h0⟩
theorem lo_le {sw f : Nat → Int32} {k n : Nat} (hk : k < n) (h : ¬ sw k ≤ 0) : (mh_lo sw f n).toInt ≤ (f k).toInt := by
  induction n with
  | zero => exact absurd hk (Nat.not_lt_zero k)
  | succ n ih =>
    unfold mh_lo
    by_cases e : k = n
    · subst e
      rw [if_neg h]
      split
      · exact Int.le_refl _
      · rename_i h2
        exact Int32.le_iff_toInt_le.mp (Int32.not_lt.mp h2)
    · have := ih (by omega)
      split
      · exact this
      · split
        · rename_i h2
          have := Int32.lt_iff_toInt_lt.mp h2
          omega
        · exact this
theorem hi_ge {sw f : Nat → Int32} {k n : Nat} (hk : k < n) (h : ¬ sw k ≤ 0) : (f k).toInt ≤ (mh_hi sw f n).toInt := by
  induction n with
  | zero => exact absurd hk (Nat.not_lt_zero k)
  | succ n ih =>
    unfold mh_hi
    by_cases e : k = n
    · subst e
      rw [if_neg h]
      split
      · exact Int.le_refl _
      · rename_i h2
        exact Int32.le_iff_toInt_le.mp (Int32.not_lt.mp h2)
    · have := ih (by omega)
      split
      · exact this
      · split
        · rename_i h2
          have := Int32.lt_iff_toInt_lt.mp h2
          omega
        · exact this
theorem mc_ov_iff (a b c d : Int32) : mc_ov a b c d = true ↔ a.toInt < b.toInt ∧ a.toInt < d.toInt ∧ c.toInt < b.toInt ∧ c.toInt < d.toInt := by
  unfold mc_ov
  rw [decide_eq_true_iff, Int32.lt_iff_toInt_lt]
  have h1 : (if a < c then c else a).toInt = if a.toInt < c.toInt then c.toInt else a.toInt := by
    by_cases h : a < c
    · rw [if_pos h, if_pos (Int32.lt_iff_toInt_lt.mp h)]
    · rw [if_neg h, if_neg (fun h2 => h (Int32.lt_iff_toInt_lt.mpr h2))]
  have h2 : (if d < b then d else b).toInt = if d.toInt < b.toInt then d.toInt else b.toInt := by
    by_cases h : d < b
    · rw [if_pos h, if_pos (Int32.lt_iff_toInt_lt.mp h)]
    · rw [if_neg h, if_neg (fun h2 => h (Int32.lt_iff_toInt_lt.mpr h2))]
  rw [h1, h2]
  split <;> split <;> omega
theorem mb_box_iff (bx : Nat → Int32) (x0 x1 y0 y1 : Int32) (c : Nat) : mb_box bx x0 x1 y0 y1 c = true ↔ (x0.toInt < (bx (4 * c + 2)).toInt ∧ (bx (4 * c)).toInt < x1.toInt ∧ y0.toInt < (bx (4 * c + 3)).toInt ∧ (bx (4 * c + 1)).toInt < y1.toInt) ∧ (bx (4 * c)).toInt < (bx (4 * c + 2)).toInt ∧ (bx (4 * c + 1)).toInt < (bx (4 * c + 3)).toInt := by
  unfold mb_box
  simp only [Bool.and_eq_true, decide_eq_true_iff, Int32.lt_iff_toInt_lt]
  omega
theorem dq_any_congr {P R : Nat → Bool} {n : Nat} (h : ∀ i, i < n → P i = R i) : dq_any P n = dq_any R n := by
  induction n with
  | zero => rfl
  | succ n ih => rw [dq_any_s, dq_any_s, ih (fun i hi => h i (by omega)), h n (Nat.lt_succ_self n)]
/-- the same bars, with a spindle that is there -/
theorem bar_eq {sx sy sw cx0 cy0 cx1 cy1 bx : Nat → Int32} {n cc : Nat} {f0 f1 f2 f3 x y : Int32} (hsx : ∀ k, k < n → sp_in (sx k) 10000) (hsy : ∀ k, k < n → sp_in (sy k) 10000) {k0 : Nat} (hk0 : k0 < n) (hw0 : ¬ sw k0 ≤ 0)
    (e0 : f0 = mh_lo sw sx n - 1) (e1 : f1 = mh_lo sw sy n - 1) (e2 : f2 = mh_hi sw sx n + 1) (e3 : f3 = mh_hi sw sy n + 1) (hx : sp_in x 20000) (hy : sp_in y 20000)
    (hbx : ∀ c, c < cc → bx (4 * c) = cx0 c ∧ bx (4 * c + 1) = cy0 c ∧ bx (4 * c + 2) = cx1 c ∧ bx (4 * c + 3) = cy1 c) : mc_bar cx0 cy0 cx1 cy1 cc f0 f1 f2 f3 x y = mb_bar sx sy sw n bx cc x y := by
  unfold mc_bar mb_bar
  have one : (1 : Int32).toInt = 1 := by decide
  rcases lo_or (sw := sw) hsx n (Nat.le_refl n) with ⟨a1, a2, -⟩ | ⟨a1, -⟩
  · rcases lo_or (sw := sw) hsy n (Nat.le_refl n) with ⟨b1, b2, -⟩ | ⟨b1, -⟩
    · rcases hi_or (sw := sw) hsx n (Nat.le_refl n) with ⟨c1, c2, -⟩ | ⟨c1, -⟩
      · rcases hi_or (sw := sw) hsy n (Nat.le_refl n) with ⟨d1, d2, -⟩ | ⟨d1, -⟩
        · have l1 := lo_le (f := sx) hk0 hw0
          have l2 := lo_le (f := sy) hk0 hw0
          have l3 := hi_ge (f := sx) hk0 hw0
          have l4 := hi_ge (f := sy) hk0 hw0
          rw [a1, b1, c1, d1, e0, e1, e2, e3]
          obtain ⟨x1, x2⟩ := hx
          obtain ⟨y1, y2⟩ := hy
          obtain ⟨a3, a4⟩ := a2
          obtain ⟨b3, b4⟩ := b2
          obtain ⟨c3, c4⟩ := c2
          obtain ⟨d3, d4⟩ := d2
          generalize mh_lo sw sx n = p at *
          generalize mh_lo sw sy n = q at *
          generalize mh_hi sw sx n = r at *
          generalize mh_hi sw sy n = t at *
          have t1 : (p - 1).toInt = p.toInt - 1 := by rw [i32_sub (by rw [one]; omega) (by rw [one]; omega), one]
          have t2 : (q - 1).toInt = q.toInt - 1 := by rw [i32_sub (by rw [one]; omega) (by rw [one]; omega), one]
          have t3 : (r + 1).toInt = r.toInt + 1 := by rw [i32_add (by rw [one]; omega) (by rw [one]; omega), one]
          have t4 : (t + 1).toInt = t.toInt + 1 := by rw [i32_add (by rw [one]; omega) (by rw [one]; omega), one]
          have u1 : (x + (p - 1)).toInt = x.toInt + p.toInt - 1 := by rw [i32_add (by omega) (by omega), t1]; omega
          have u2 : (y + (q - 1)).toInt = y.toInt + q.toInt - 1 := by rw [i32_add (by omega) (by omega), t2]; omega
          have u3 : (x + (r + 1)).toInt = x.toInt + r.toInt + 1 := by rw [i32_add (by omega) (by omega), t3]; omega
          have u4 : (y + (t + 1)).toInt = y.toInt + t.toInt + 1 := by rw [i32_add (by omega) (by omega), t4]; omega
          have s1 : (x + p).toInt = x.toInt + p.toInt := i32_add (by omega) (by omega)
          have s2 : (y + q).toInt = y.toInt + q.toInt := i32_add (by omega) (by omega)
          have s3 : (x + r).toInt = x.toInt + r.toInt := i32_add (by omega) (by omega)
          have s4 : (y + t).toInt = y.toInt + t.toInt := i32_add (by omega) (by omega)
          have v1 : (x + p - 1).toInt = x.toInt + p.toInt - 1 := by rw [i32_sub (by rw [one]; omega) (by rw [one]; omega), one, s1]
          have v2 : (y + q - 1).toInt = y.toInt + q.toInt - 1 := by rw [i32_sub (by rw [one]; omega) (by rw [one]; omega), one, s2]
          have v3 : (x + r + 1).toInt = x.toInt + r.toInt + 1 := by rw [i32_add (by rw [one]; omega) (by rw [one]; omega), one, s3]
          have v4 : (y + t + 1).toInt = y.toInt + t.toInt + 1 := by rw [i32_add (by rw [one]; omega) (by rw [one]; omega), one, s4]
          refine dq_any_congr fun c hc => ?_
          obtain ⟨w1, w2, w3, w4⟩ := hbx c hc
          rw [Bool.eq_iff_iff, Bool.and_eq_true, mc_ov_iff, mc_ov_iff, mb_box_iff, u1, u2, u3, u4, v1, v2, v3, v4, w1, w2, w3, w4]
          omega
        · exact absurd (d1 k0 hk0) hw0
      · exact absurd (c1 k0 hk0) hw0
    · exact absurd (b1 k0 hk0) hw0
  · exact absurd (a1 k0 hk0) hw0
theorem mp_bits_bit (F : Nat → Bool) (i d j : Nat) : (mp_bits F i d).testBit j = (decide (i ≤ j) && decide (j < i + d) && F j) := by
  induction d with
  | zero =>
    show (0 : Nat).testBit j = _
    rw [Nat.zero_testBit]
    by_cases h : i ≤ j
    · rw [decide_eq_false (show ¬ j < i + 0 by omega)]
      simp
    · simp [h]
  | succ d ih =>
    have e : mp_bits F i (d + 1) = if F (i + d) = true then mp_bits F i d ||| 2 ^ (i + d) else mp_bits F i d := rfl
    rw [e]
    by_cases hj : j = i + d
    · subst hj
      have h1 : decide (i ≤ i + d) = true := decide_eq_true (by omega)
      have h2 : decide (i + d < i + (d + 1)) = true := decide_eq_true (by omega)
      have h3 : decide (i + d < i + d) = false := decide_eq_false (by omega)
      rw [h1, h2]
      by_cases hF : F (i + d) = true
      · rw [if_pos hF, Nat.testBit_or, Nat.testBit_two_pow_self, hF]
        simp
      · rw [if_neg hF, ih, h1, h3]
        have : F (i + d) = false := by simpa using hF
        rw [this]
        rfl
    · have h2 : decide (j < i + (d + 1)) = decide (j < i + d) := by
        by_cases q : j < i + d
        · rw [decide_eq_true q, decide_eq_true (by omega)]
        · rw [decide_eq_false q, decide_eq_false (by omega)]
      rw [h2]
      by_cases hF : F (i + d) = true
      · rw [if_pos hF, Nat.testBit_or, Nat.testBit_two_pow_of_ne (by omega), Bool.or_false, ih]
      · rw [if_neg hF, ih]
theorem mp_bits_lt (F : Nat → Bool) (i d : Nat) : mp_bits F i d < 2 ^ (i + d) := by
  apply Nat.lt_pow_two_of_testBit
  intro j hj
  rw [mp_bits_bit, decide_eq_false (show ¬ j < i + d by omega)]
  simp
theorem dq_df_ext {S D D' : Nat} (hS : S < 2 ^ 32) (h : ∀ j, j < 32 → S.testBit j = true → D.testBit j = D'.testBit j) : dq_df S D = dq_df S D' := by
  apply Nat.eq_of_testBit_eq
  intro j
  by_cases hj : j < 32
  · rw [dq_df_bit S D j hj, dq_df_bit S D' j hj]
    cases hb : S.testBit j with
    | false => rfl
    | true => rw [h j hj hb]
  · have h1 : dq_df S D < 2 ^ j := Nat.lt_of_le_of_lt (dq_df_le _ _) (Nat.lt_of_lt_of_le hS (Nat.pow_le_pow_right (by omega) (by omega)))
    have h2 : dq_df S D' < 2 ^ j := Nat.lt_of_le_of_lt (dq_df_le _ _) (Nat.lt_of_lt_of_le hS (Nat.pow_le_pow_right (by omega) (by omega)))
    rw [Nat.testBit_lt_two_pow h1, Nat.testBit_lt_two_pow h2]
theorem dq_fst_ne {P : Nat → Bool} {n k : Nat} (hk : k < n) (hn : n < 2 ^ 31) (h : P k = true) : ¬ dq_fst P n = -1 := by
  unfold dq_fst
  cases hf : (List.range n).find? P with
  | none =>
    rw [List.find?_eq_none] at hf
    exact absurd h (hf k (List.mem_range.mpr hk))
  | some j =>
    have hj := List.mem_range.mp (List.mem_of_find?_eq_some hf)
    exact dq_nm1 (by omega)
/-- a place of a hole drills it -/
theorem mp_F_self {sx sy sw px py pw pd pf pt : Nat → Int32} {n h k : Nat} {x y : Int32} (hk : k < n) (hn : n ≤ 16) (hw : sw k = pw h) (hx : x = px h - sx k) (hy : y = py h - sy k) : mp_F sx sy sw px py pw pd pf pt n h x y h = true := by
  unfold mp_F
  have e1 : sx k = px h - x := by rw [hx]; exact (dq_sub32 (px h - sx k) (sx k) (px h)).mp (Int32.sub_add_cancel _ _)
  have e2 : sy k = py h - y := by rw [hy]; exact (dq_sub32 (py h - sy k) (sy k) (py h)).mp (Int32.sub_add_cancel _ _)
  have hne := dq_fst_ne (P := fun k => decide (sx k = px h - x) && decide (sy k = py h - y) && decide (sw k = pw h)) hk (by omega) (by rw [decide_eq_true e1, decide_eq_true e2, decide_eq_true hw]; rfl)
  rw [decide_eq_false hne]
  unfold ml_alike
  simp
theorem dq_lo_low {S j : Nat} (h : j < dq_lo S) : S.testBit j = false := (dq_fn_spec (fun i => S.testBit i) 32).1 j h
