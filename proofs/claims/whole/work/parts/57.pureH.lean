/-! PURE: small matters of the law -/
theorem mr_iff {v a b : Int32} : mr_in v a b = true ↔ a.toInt ≤ v.toInt ∧ v.toInt ≤ b.toInt := by
  unfold mr_in
  rw [Bool.and_eq_true, decide_eq_true_iff, decide_eq_true_iff, Int32.le_iff_toInt_le, Int32.le_iff_toInt_le]
theorem mr_f {v a b : Int32} (h : mr_in v a b = false) : v.toInt < a.toInt ∨ b.toInt < v.toInt := by
  have h1 : ¬ mr_in v a b = true := by rw [h]; decide
  rw [mr_iff] at h1
  omega
theorem mr_10 {v : Int32} (h : mr_in v (-10000) 10000 = true) : sp_in v 10000 := by
  rw [mr_iff] at h
  have e1 : (-10000 : Int32).toInt = -10000 := by decide
  have e2 : (10000 : Int32).toInt = 10000 := by decide
  rw [e1, e2] at h
  exact h
theorem mr_p {v b : Int32} (h : mr_in v 1 b = true) : ¬ v ≤ 0 := by
  rw [mr_iff] at h
  have e1 : (1 : Int32).toInt = 1 := by decide
  have e2 : (0 : Int32).toInt = 0 := by decide
  rw [e1] at h
  rw [Int32.le_iff_toInt_le, e2]
  omega
theorem mr_3f {v : Int32} (h : mr_in v 0 3 = false) : v.toInt < 0 ∨ 3 < v.toInt := by
  have e1 : (0 : Int32).toInt = 0 := by decide
  have e2 : (3 : Int32).toInt = 3 := by decide
  have := mr_f h
  rw [e1, e2] at this
  exact this
theorem mr_3 {v : Int32} (h : mr_in v 0 3 = true) : v = 0 ∨ v = 1 ∨ v = 2 ∨ v = 3 := by
  rw [mr_iff] at h
  have e0 : (0 : Int32).toInt = 0 := by decide
  have e1 : (1 : Int32).toInt = 1 := by decide
  have e2 : (2 : Int32).toInt = 2 := by decide
  have e3 : (3 : Int32).toInt = 3 := by decide
  rw [e0, e3] at h
  rw [← Int32.toInt_inj, ← Int32.toInt_inj, ← Int32.toInt_inj, ← Int32.toInt_inj, e0, e1, e2, e3]
  omega
theorem mr_1 {v : Int32} (h : mr_in v 0 1 = true) : v = 0 ∨ v = 1 := by
  rw [mr_iff] at h
  have e0 : (0 : Int32).toInt = 0 := by decide
  have e1 : (1 : Int32).toInt = 1 := by decide
  rw [e0, e1] at h
  rw [← Int32.toInt_inj, ← Int32.toInt_inj, e0, e1]
  omega
/-- a number names one of n things, or none -/
theorem ix_or (a : Int32) (n : Nat) (hn : n < 2 ^ 31) : (a < 0 ∨ ¬ a < nI n) ∨ ∃ k, k < n ∧ a = nI k := by
  have e0 : (0 : Int32).toInt = 0 := by decide
  by_cases h1 : a < 0
  · exact Or.inl (Or.inl h1)
  · by_cases h2 : a < nI n
    · right
      rw [Int32.lt_iff_toInt_lt, e0] at h1
      rw [Int32.lt_iff_toInt_lt, nI_toInt hn] at h2
      refine ⟨a.toInt.toNat, by omega, Int32.toInt_inj.mp ?_⟩
      rw [nI_toInt (by omega)]
      omega
    · exact Or.inl (Or.inr h2)
theorem dq_pc_up {S n : Nat} (h : S < 2 ^ n) : ∀ d, dq_pc S (n + d) = dq_pc S n := by
  intro d
  induction d with
  | zero => rfl
  | succ d ih =>
    show (if S.testBit (n + d) = true then dq_pc S (n + d) + 1 else dq_pc S (n + d)) = _
    rw [Nat.testBit_lt_two_pow (Nat.lt_of_lt_of_le h (Nat.pow_le_pow_right (by omega) (by omega))), if_neg (by decide), ih]
theorem dq_pc_14 {S n : Nat} (hn : n ≤ 14) (h : S < 2 ^ n) : dq_pc S 14 = dq_pc S n := by
  have := dq_pc_up h (14 - n)
  rw [show n + (14 - n) = 14 by omega] at this
  exact this
theorem bo_q : ∀ c, c < 17 → ¬ c = 0 → ((0 : Int32) + nI c - 1) / nI c = 0 := by decide +kernel
theorem se_c : ∀ a, a < 15 → ∀ b, b < 15 → (4 * nI a + 12 * nI b).toInt64 = 4 * (nI a).toInt64 + 12 * (nI b).toInt64 := by decide +kernel
theorem bnd_sp {n hn : Nat} {sx sy px py pw : Nat → Int32} (h : bnd n hn sx sy px py pw) {k : Nat} {a b : Int32} (ha : sp_in a 10000) (hb : sp_in b 10000) : bnd n hn (upd sx k a) (upd sy k b) px py pw := by
  refine ⟨fun j hj => ?_, h.2⟩
  by_cases e : j = k
  · subst e
    rw [pk_us, pk_us]
    exact ⟨ha, hb⟩
  · rw [pk_un e, pk_un e]
    exact h.1 j hj
theorem bnd_ho {n hn : Nat} {sx sy px py pw : Nat → Int32} (h : bnd n hn sx sy px py pw) {a b c : Int32} (ha : sp_in a 10000) (hb : sp_in b 10000) (hc : ¬ c ≤ 0) : bnd n (hn + 1) sx sy (upd px hn a) (upd py hn b) (upd pw hn c) := by
  refine ⟨h.1, fun j hj => ?_⟩
  by_cases e : j = hn
  · subst e
    rw [pk_us, pk_us, pk_us]
    exact ⟨ha, hb, hc⟩
  · rw [pk_un e, pk_un e, pk_un e]
    exact h.2 j (by omega)
theorem neg_in {v : Int32} (h : sp_in v 10000) : sp_in (-v) 10000 := by
  obtain ⟨h1, h2⟩ := h
  have e := i32_neg (a := v) (by omega)
  exact ⟨by omega, by omega⟩
theorem bnd_m0 {n hn : Nat} {sx sy px py pw : Nat → Int32} (h : bnd n hn sx sy px py pw) : bnd n hn sx sy (mn_neg px hn) py pw := by
  refine ⟨h.1, fun j hj => ?_⟩
  obtain ⟨h1, h2⟩ := h.2 j hj
  refine ⟨?_, h2⟩
  have : mn_neg px hn j = -(px j) := if_pos hj
  rw [this]
  exact neg_in h1
theorem bnd_m1 {n hn : Nat} {sx sy px py pw : Nat → Int32} (h : bnd n hn sx sy px py pw) : bnd n hn sx sy px (mn_neg py hn) pw := by
  refine ⟨h.1, fun j hj => ?_⟩
  obtain ⟨h1, h2, h3⟩ := h.2 j hj
  refine ⟨h1, ?_, h3⟩
  have : mn_neg py hn j = -(py j) := if_pos hj
  rw [this]
  exact neg_in h2
theorem mn_0 (f : Nat → Int32) : mn_neg f 0 = f := by
  funext j
  unfold mn_neg
  rw [if_neg (by omega)]
theorem bxs_up {cn : Nat} {bx cx0 cy0 cx1 cy1 : Nat → Int32} (h : bxs cn bx cx0 cy0 cx1 cy1) (a b c d : Int32) : bxs (cn + 1) (upd (upd (upd (upd bx (4 * cn) a) (4 * cn + 1) b) (4 * cn + 2) c) (4 * cn + 3) d) (upd cx0 cn a) (upd cy0 cn b) (upd cx1 cn c) (upd cy1 cn d) := by
  intro j hj
  by_cases e : j = cn
  · subst e
    refine ⟨?_, ?_, ?_, ?_⟩
    · rw [pk_un (by omega), pk_un (by omega), pk_un (by omega), pk_us, pk_us]
    · rw [pk_un (by omega), pk_un (by omega), pk_us, pk_us]
    · rw [pk_un (by omega), pk_us, pk_us]
    · rw [pk_us, pk_us]
  · obtain ⟨h1, h2, h3, h4⟩ := h j (by omega)
    refine ⟨?_, ?_, ?_, ?_⟩
    · rw [pk_un (by omega), pk_un (by omega), pk_un (by omega), pk_un (by omega), pk_un e]; exact h1
    · rw [pk_un (by omega), pk_un (by omega), pk_un (by omega), pk_un (by omega), pk_un e]; exact h2
    · rw [pk_un (by omega), pk_un (by omega), pk_un (by omega), pk_un (by omega), pk_un e]; exact h3
    · rw [pk_un (by omega), pk_un (by omega), pk_un (by omega), pk_un (by omega), pk_un e]; exact h4
