/-! PURE: the order -/
/-- a number as a long -/
def nL (n : Nat) : Int64 := Int64.ofNat n
theorem nL_toInt {n : Nat} (h : n < 2 ^ 62) : (nL n).toInt = (n : Int) := by
  exact Int64.toInt_ofNat_of_lt (by omega)
theorem nL_add (a b : Nat) : nL a + nL b = nL (a + b) := (Int64.ofNat_add a b).symm
theorem nL_lt {a b : Nat} (ha : a < 2 ^ 62) (hb : b < 2 ^ 62) : nL a < nL b ↔ a < b := by
  rw [Int64.lt_iff_toInt_lt, nL_toInt ha, nL_toInt hb]
  omega
theorem nL_le {a b : Nat} (ha : a < 2 ^ 62) (hb : b < 2 ^ 62) : nL a ≤ nL b ↔ a ≤ b := by
  rw [Int64.le_iff_toInt_le, nL_toInt ha, nL_toInt hb]
  omega
/-- how far it is to a place -/
def wd (X Y : Nat → Int32) (k : Nat) (x y : Int32) : Nat := ((X k).toInt - x.toInt).natAbs + ((Y k).toInt - y.toInt).natAbs
def wd2 (X Y : Nat → Int32) (t k : Nat) : Nat := wd X Y k (X t) (Y t)
theorem mw_abs_ok {v : Int32} {a : Int} (h : v.toInt = a) (h1 : -100000 ≤ a) (h2 : a ≤ 100000) : mw_abs v = nI a.natAbs := by
  have z : (0 : Int32).toInt = 0 := by decide
  unfold mw_abs
  apply Int32.toInt_inj.mp
  rw [nI_toInt (by omega)]
  split
  · rename_i h3
    rw [Int32.le_iff_toInt_le, z] at h3
    omega
  · rename_i h3
    rw [Int32.le_iff_toInt_le, z] at h3
    rw [i32_sub (by rw [z]; omega) (by rw [z]; omega), z]
    omega
theorem mw_d_ok {X Y : Nat → Int32} {k : Nat} {x y : Int32} (h1 : sp_in (X k) 20000) (h2 : sp_in (Y k) 20000) (h3 : sp_in x 20000) (h4 : sp_in y 20000) : mw_d X Y k x y = nI (wd X Y k x y) ∧ wd X Y k x y ≤ 80000 := by
  obtain ⟨a1, a2⟩ := h1
  obtain ⟨b1, b2⟩ := h2
  obtain ⟨c1, c2⟩ := h3
  obtain ⟨d1, d2⟩ := h4
  unfold mw_d wd
  rw [mw_abs_ok (i32_sub (by omega) (by omega)) (by omega) (by omega), mw_abs_ok (i32_sub (by omega) (by omega)) (by omega) (by omega), nI_add]
  exact ⟨rfl, by omega⟩
theorem ms_sz_ok {v : Int32} {a : Int} (h : v.toInt = a) (h1 : -100000 ≤ a) (h2 : a ≤ 100000) : ms_sz v = nL a.natAbs := by
  have z : (0 : Int32).toInt = 0 := by decide
  unfold ms_sz
  apply Int64.toInt_inj.mp
  rw [nL_toInt (by omega)]
  split
  · rename_i h3
    rw [Int32.lt_iff_toInt_lt, z] at h3
    rw [Int64.toInt_neg, Int32.toInt_toInt64, h]
    rw [Int.bmod_eq_of_le (by omega) (by omega)]
    omega
  · rename_i h3
    rw [Int32.lt_iff_toInt_lt, z] at h3
    rw [Int32.toInt_toInt64]
    omega
theorem nI_L {n : Nat} (h : n < 2 ^ 31) : (nI n).toInt64 = nL n := by
  apply Int64.toInt_inj.mp
  rw [Int32.toInt_toInt64, nI_toInt h, nL_toInt (by omega)]
theorem ms_bt_ok {X Y : Nat → Int32} {t k : Nat} (h1 : sp_in (X k) 20000) (h2 : sp_in (Y k) 20000) (h3 : sp_in (X t) 20000) (h4 : sp_in (Y t) 20000) : ms_bt X Y t k = nL (wd2 X Y t k) := by
  obtain ⟨a1, a2⟩ := h1
  obtain ⟨b1, b2⟩ := h2
  obtain ⟨c1, c2⟩ := h3
  obtain ⟨d1, d2⟩ := h4
  unfold ms_bt wd2 wd
  rw [ms_sz_ok (i32_sub (by omega) (by omega)) (by omega) (by omega), ms_sz_ok (i32_sub (by omega) (by omega)) (by omega) (by omega), nL_add]
  congr 1
  omega
/-- the shortest way on: over the first hits -/
def wm (d : Nat → Nat → Nat) (W : Nat → Nat → Nat) (U t : Nat) : Nat → Nat
  | 0 => if U = 0 then 0 else 1152921504606846976
  | k + 1 => if U.testBit k = true then (if d t k + W (dq_df U (2 ^ k)) k < wm d W U t k then d t k + W (dq_df U (2 ^ k)) k else wm d W U t k) else wm d W U t k
def wk (d : Nat → Nat → Nat) (n : Nat) : Nat → Nat → Nat → Nat
  | 0, _, _ => 0
  | f + 1, U, t => wm d (wk d n f) U t n
def ww (d : Nat → Nat → Nat) (n U t : Nat) : Nat := wk d n U U t
theorem dq_df_self {U k : Nat} (hk : k < 32) (h : U.testBit k = true) : dq_df U (2 ^ k) < U := dq_df_lt h (by rw [Nat.testBit_two_pow_self]) hk
theorem wm_congr {d : Nat → Nat → Nat} {W W' : Nat → Nat → Nat} {U t : Nat} : ∀ n, (∀ k, k < n → U.testBit k = true → W (dq_df U (2 ^ k)) k = W' (dq_df U (2 ^ k)) k) → wm d W U t n = wm d W' U t n := by
  intro n
  induction n with
  | zero => intro _; rfl
  | succ n ih =>
    intro h
    unfold wm
    by_cases hb : U.testBit n = true
    · rw [if_pos hb, if_pos hb, h n (Nat.lt_succ_self n) hb, ih (fun k hk hb => h k (by omega) hb)]
    · rw [if_neg hb, if_neg hb, ih (fun k hk hb => h k (by omega) hb)]
theorem wm_0 (d : Nat → Nat → Nat) (W : Nat → Nat → Nat) (t n : Nat) : wm d W 0 t n = 0 := by
  induction n with
  | zero => rfl
  | succ n ih =>
    unfold wm
    rw [Nat.zero_testBit, if_neg (by decide), ih]
theorem wk_st {d : Nat → Nat → Nat} {n : Nat} (hn : n ≤ 31) : ∀ U f f' t, U ≤ f → U ≤ f' → wk d n f U t = wk d n f' U t := by
  intro U
  induction U using Nat.strongRecOn with
  | ind U ih =>
    intro f f' t hf hf'
    by_cases h0 : U = 0
    · subst h0
      cases f <;> cases f' <;> simp [wk, wm_0]
    · obtain ⟨a, rfl⟩ : ∃ a, f = a + 1 := ⟨f - 1, by omega⟩
      obtain ⟨b, rfl⟩ : ∃ b, f' = b + 1 := ⟨f' - 1, by omega⟩
      show wm d (wk d n a) U t n = wm d (wk d n b) U t n
      refine wm_congr n fun k hk hb => ?_
      have := dq_df_self (show k < 32 by omega) hb
      exact ih _ this a b k (by omega) (by omega)
theorem ww_rec {d : Nat → Nat → Nat} {n : Nat} (hn : n ≤ 31) (U t : Nat) : ww d n U t = wm d (ww d n) U t n := by
  by_cases h0 : U = 0
  · subst h0
    rw [wm_0]
    rfl
  · unfold ww
    obtain ⟨a, rfl⟩ : ∃ a, U = a + 1 := ⟨U - 1, by omega⟩
    show wm d (wk d n a) (a + 1) t n = _
    refine wm_congr n fun k hk hb => ?_
    have := dq_df_self (show k < 32 by omega) hb
    exact wk_st hn _ _ _ k (by omega) (Nat.le_refl _)
theorem wm_at {d : Nat → Nat → Nat} {W : Nat → Nat → Nat} {U t : Nat} : ∀ n k, k < n → U.testBit k = true → wm d W U t n ≤ d t k + W (dq_df U (2 ^ k)) k := by
  intro n
  induction n with
  | zero => intro k hk; exact absurd hk (Nat.not_lt_zero k)
  | succ n ih =>
    intro k hk hb
    unfold wm
    by_cases e : k = n
    · subst e
      rw [if_pos hb]
      split <;> omega
    · have := ih k (by omega) hb
      split
      · split <;> omega
      · exact this
/-- the least is one of them -/
theorem wm_one {d : Nat → Nat → Nat} {W : Nat → Nat → Nat} {U t : Nat} (hU : 0 < U) (hs : ∀ k, U.testBit k = true → d t k + W (dq_df U (2 ^ k)) k < 1152921504606846976) : ∀ n, (wm d W U t n = 1152921504606846976 ∧ ∀ k, k < n → U.testBit k = false) ∨ ∃ k, k < n ∧ U.testBit k = true ∧ wm d W U t n = d t k + W (dq_df U (2 ^ k)) k := by
  intro n
  induction n with
  | zero => exact Or.inl ⟨if_neg (by omega), fun k hk => absurd hk (Nat.not_lt_zero k)⟩
  | succ n ih =>
    unfold wm
    by_cases hb : U.testBit n = true
    · rw [if_pos hb]
      right
      by_cases hc : d t n + W (dq_df U (2 ^ n)) n < wm d W U t n
      · rw [if_pos hc]
        exact ⟨n, Nat.lt_succ_self n, hb, rfl⟩
      · rw [if_neg hc]
        rcases ih with ⟨z, -⟩ | ⟨k, z1, z2, z3⟩
        · have := hs n hb
          omega
        · exact ⟨k, by omega, z2, z3⟩
    · rw [if_neg hb]
      rcases ih with ⟨z1, z2⟩ | ⟨k, z1, z2, z3⟩
      · refine Or.inl ⟨z1, fun k hk => ?_⟩
        by_cases e : k = n
        · rw [e]; simpa using hb
        · exact z2 k (by omega)
      · exact Or.inr ⟨k, by omega, z2, z3⟩
theorem dq_bit_lt {U n k : Nat} (hU : U < 2 ^ n) (h : U.testBit k = true) : k < n := by
  rcases Nat.lt_or_ge k n with q | q
  · exact q
  · rw [Nat.testBit_lt_two_pow (Nat.lt_of_lt_of_le hU (Nat.pow_le_pow_right (by omega) q))] at h
    exact absurd h (by decide)
theorem dq_some_bit {U n : Nat} (h0 : 0 < U) (hU : U < 2 ^ n) : ∃ k, k < n ∧ U.testBit k = true := by
  obtain ⟨k, hk⟩ := Nat.exists_testBit_of_ne_zero (show U ≠ 0 by omega)
  exact ⟨k, dq_bit_lt hU hk, hk⟩
theorem ww_le {d : Nat → Nat → Nat} {n : Nat} (hn : n ≤ 14) (hd : ∀ t k, t < n → k < n → d t k ≤ 80000) : ∀ U t, U < 2 ^ n → t < n → ww d n U t ≤ 80000 * dq_pc U n := by
  intro U
  induction U using Nat.strongRecOn with
  | ind U ih =>
    intro t hU ht
    rcases Nat.eq_zero_or_pos U with z | z
    · subst z
      exact Nat.zero_le _
    · obtain ⟨k, hk, hb⟩ := dq_some_bit z hU
      have h1 := dq_df_self (show k < 32 by omega) hb
      have h2 := ih _ h1 k (by omega) hk
      have h3 := (dq_pc_df (S := U) (t := k) n (by omega) hb).1 hk
      have h4 := wm_at (d := d) (W := ww d n) (U := U) (t := t) n k hk hb
      have h5 := hd t k ht hk
      rw [ww_rec (by omega)]
      omega
theorem ww_lt {d : Nat → Nat → Nat} {n : Nat} (hn : n ≤ 14) (hd : ∀ t k, t < n → k < n → d t k ≤ 80000) {U t : Nat} (hU : U < 2 ^ n) (ht : t < n) : ww d n U t ≤ 1120000 := by
  have h1 := ww_le hn hd U t hU ht
  have h2 := dq_pc_le U n
  omega
/-- the sum that the least is taken of -/
theorem ww_one {d : Nat → Nat → Nat} {n : Nat} (hn : n ≤ 14) (hd : ∀ t k, t < n → k < n → d t k ≤ 80000) {U t : Nat} (h0 : 0 < U) (hU : U < 2 ^ n) (ht : t < n) : ∃ k, k < n ∧ U.testBit k = true ∧ ww d n U t = d t k + ww d n (dq_df U (2 ^ k)) k := by
  have hs : ∀ k, U.testBit k = true → d t k + ww d n (dq_df U (2 ^ k)) k < 1152921504606846976 := fun k hb => by
    have hk := dq_bit_lt hU hb
    have h1 := ww_lt hn hd (show dq_df U (2 ^ k) < 2 ^ n from Nat.lt_of_le_of_lt (dq_df_le _ _) hU) hk
    have h2 := hd t k ht hk
    omega
  rcases wm_one (d := d) (W := ww d n) (t := t) h0 hs n with ⟨-, z⟩ | ⟨k, z1, z2, z3⟩
  · obtain ⟨k, hk, hb⟩ := dq_some_bit h0 hU
    rw [z k hk] at hb
    exact absurd hb (by decide)
  · exact ⟨k, z1, z2, (ww_rec (by omega) U t).trans z3⟩
/-! the class's table of ways -/
/-- the first of the least -/
def nx_T (c : Nat → Nat) (S k : Nat) (z : Int32 × Int32) : Prop := ((z.1 = -1 ∧ ∀ t, t < k → S.testBit t = false)) ∨ ∃ t, t < k ∧ z.1 = nI t ∧ S.testBit t = true ∧ z.2 = nI (c t) ∧ ∀ t2, t2 < k → S.testBit t2 = true → c t ≤ c t2 ∧ (t2 < t → c t < c t2)
theorem mw_nx_T {sh X Y : Nat → Int32} {hc S : Nat} {x y : Int32} {c : Nat → Nat} : ∀ k, k ≤ 14 → (∀ t, t < k → S.testBit t = true → mw_o sh X Y hc t S x y = nI (c t) ∧ c t < 2 ^ 31) → nx_T c S k (mw_nx sh X Y hc S x y k) := by
  intro k
  induction k with
  | zero => intro _ _; exact Or.inl ⟨rfl, fun t ht => absurd ht (Nat.not_lt_zero t)⟩
  | succ k ih =>
    intro hk h
    have hi := ih (by omega) (fun t ht hb => h t (by omega) hb)
    unfold mw_nx
    by_cases hb : S.testBit k = true
    · rw [if_pos hb]
      obtain ⟨e1, e2⟩ := h k (Nat.lt_succ_self k) hb
      rcases hi with ⟨z1, z2⟩ | ⟨t, z1, z2, z3, z4, z5⟩
      · rw [if_pos (Or.inl z1)]
        refine Or.inr ⟨k, Nat.lt_succ_self k, rfl, hb, e1, fun t2 ht2 hb2 => ?_⟩
        by_cases e : t2 = k
        · subst e
          exact ⟨Nat.le_refl _, fun h9 => absurd h9 (Nat.lt_irrefl _)⟩
        · rw [z2 t2 (by omega)] at hb2
          exact absurd hb2 (by decide)
      · have e3 := (h t (by omega) z3).2
        have hne : ¬ (mw_nx sh X Y hc S x y k).1 = -1 := by
          rw [z2]
          exact mw_ne1 (by omega)
        by_cases hc2 : c k < c t
        · rw [if_pos (Or.inr (by rw [e1, z4]; exact nI_lt hc2 (by omega)))]
          refine Or.inr ⟨k, Nat.lt_succ_self k, rfl, hb, e1, fun t2 ht2 hb2 => ?_⟩
          by_cases e : t2 = k
          · subst e
            exact ⟨Nat.le_refl _, fun h9 => absurd h9 (Nat.lt_irrefl _)⟩
          · have := (z5 t2 (by omega) hb2).1
            exact ⟨by omega, fun _ => by omega⟩
        · rw [if_neg (by
            intro h9
            rcases h9 with h9 | h9
            · exact hne h9
            · rw [e1, z4] at h9
              exact nI_nlt (by omega) (by omega) h9)]
          refine Or.inr ⟨t, by omega, z2, z3, z4, fun t2 ht2 hb2 => ?_⟩
          by_cases e : t2 = k
          · subst e
            exact ⟨by omega, fun h9 => by omega⟩
          · exact z5 t2 (by omega) hb2
    · rw [if_neg hb]
      have hb' : S.testBit k = false := by simpa using hb
      rcases hi with ⟨z1, z2⟩ | ⟨t, z1, z2, z3, z4, z5⟩
      · refine Or.inl ⟨z1, fun t ht => ?_⟩
        by_cases e : t = k
        · rw [e]; exact hb'
        · exact z2 t (by omega)
      · refine Or.inr ⟨t, by omega, z2, z3, z4, fun t2 ht2 hb2 => ?_⟩
        by_cases e : t2 = k
        · rw [e, hb'] at hb2
          exact absurd hb2 (by decide)
        · exact z5 t2 (by omega) hb2
/-- what the table holds -/
def sh_ok (X Y : Nat → Int32) (n : Nat) (sh : Nat → Int32) (L : Nat) : Prop := ∀ U, U < L → ∀ k, k < n → U.testBit k = false → sh (U * n + k) = nI (ww (wd2 X Y) n U k)
def in_ok (X Y : Nat → Int32) (n : Nat) : Prop := ∀ k, k < n → sp_in (X k) 20000 ∧ sp_in (Y k) 20000
theorem wd2_le {X Y : Nat → Int32} {n : Nat} (h : in_ok X Y n) : ∀ t k, t < n → k < n → wd2 X Y t k ≤ 80000 := fun t k ht hk => (mw_d_ok (h k hk).1 (h k hk).2 (h t ht).1 (h t ht).2).2
theorem dq_df_off {S k : Nat} (hk : k < 32) : (dq_df S (2 ^ k)).testBit k = false := by
  rw [dq_df1 _ _ _ hk]
  simp
theorem mw_o_ok {X Y : Nat → Int32} {n : Nat} (hn : n ≤ 14) (h : in_ok X Y n) {sh : Nat → Int32} {S t : Nat} {x y : Int32} (hx : sp_in x 20000) (hy : sp_in y 20000) (hS : S < 2 ^ n) (ht : t < n) (hsh : sh (dq_df S (2 ^ t) * n + t) = nI (ww (wd2 X Y) n (dq_df S (2 ^ t)) t)) : mw_o sh X Y n t S x y = nI (wd X Y t x y + ww (wd2 X Y) n (dq_df S (2 ^ t)) t) ∧ wd X Y t x y + ww (wd2 X Y) n (dq_df S (2 ^ t)) t < 2 ^ 31 := by
  obtain ⟨h1, h2⟩ := mw_d_ok (h t ht).1 (h t ht).2 hx hy
  have h3 := ww_lt hn (wd2_le h) (show dq_df S (2 ^ t) < 2 ^ n from Nat.lt_of_le_of_lt (dq_df_le _ _) hS) ht
  unfold mw_o
  rw [h1, hsh, nI_add]
  exact ⟨rfl, by omega⟩
theorem mw_cell_ok {X Y : Nat → Int32} {n : Nat} (hn : n ≤ 14) (h : in_ok X Y n) {sh : Nat → Int32} {S k : Nat} (hS : S < 2 ^ n) (hk : k < n) (hsh : ∀ t, t < n → S.testBit t = true → sh (dq_df S (2 ^ t) * n + t) = nI (ww (wd2 X Y) n (dq_df S (2 ^ t)) t)) : mw_cell sh X Y n S k = nI (ww (wd2 X Y) n S k) := by
  have ho := fun t ht hb => mw_o_ok hn h (x := X k) (y := Y k) (S := S) (h k hk).1 (h k hk).2 hS ht (hsh t ht hb)
  have hT := mw_nx_T (sh := sh) (X := X) (Y := Y) (hc := n) (S := S) (x := X k) (y := Y k) (c := fun t => wd X Y t (X k) (Y k) + ww (wd2 X Y) n (dq_df S (2 ^ t)) t) n hn ho
  unfold mw_cell
  rcases hT with ⟨z1, z2⟩ | ⟨t, z1, z2, z3, z4, z5⟩
  · rw [if_pos z1]
    rcases Nat.eq_zero_or_pos S with e | e
    · subst e
      rfl
    · obtain ⟨j, hj, hb⟩ := dq_some_bit e hS
      rw [z2 j hj] at hb
      exact absurd hb (by decide)
  · rw [if_neg (by rw [z2]; exact mw_ne1 (by omega)), z2, nI_clamp (by omega), (ho t z1 z3).1]
    have h0 : 0 < S := by
      rcases Nat.eq_zero_or_pos S with e | e
      · subst e
        rw [Nat.zero_testBit] at z3
        exact absurd z3 (by decide)
      · exact e
    obtain ⟨j, j1, j2, j3⟩ := ww_one hn (wd2_le h) h0 hS hk
    have a1 := wm_at (d := wd2 X Y) (W := ww (wd2 X Y) n) (U := S) (t := k) n t z1 z3
    rw [← ww_rec (by omega)] at a1
    have a2 := (z5 j j1 j2).1
    dsimp only at a2
    congr 1
    have e1 : wd2 X Y k j = wd X Y j (X k) (Y k) := rfl
    have e2 : wd2 X Y k t = wd X Y t (X k) (Y k) := rfl
    rw [e1] at j3
    rw [e2] at a1
    omega
theorem mw_row_low {X Y : Nat → Int32} {n S i : Nat} {sh : Nat → Int32} (hi : i < S * n) : ∀ k, mw_row sh X Y n S k i = sh i := by
  intro k
  induction k with
  | zero => rfl
  | succ k ih =>
    unfold mw_row
    split
    · exact ih
    · rw [pk_un (by omega)]
      exact ih
theorem mw_row_ok {X Y : Nat → Int32} {n : Nat} (hn : n ≤ 14) (h : in_ok X Y n) {sh : Nat → Int32} {S : Nat} (hS : S < 2 ^ n) (hsh : sh_ok X Y n sh S) : ∀ k, k ≤ n → ∀ j, j < k → S.testBit j = false → mw_row sh X Y n S k (S * n + j) = nI (ww (wd2 X Y) n S j) := by
  intro k
  induction k with
  | zero => intro _ j hj; exact absurd hj (Nat.not_lt_zero j)
  | succ k ih =>
    intro hk j hj hb
    unfold mw_row
    by_cases hb2 : S.testBit k = true
    · rw [if_pos hb2]
      by_cases e : j = k
      · rw [e, hb2] at hb
        exact absurd hb (by decide)
      · exact ih (by omega) j (by omega) hb
    · rw [if_neg hb2]
      by_cases e : j = k
      · subst e
        rw [pk_us]
        refine mw_cell_ok hn h hS (by omega) fun t ht hb3 => ?_
        have h1 := dq_df_self (show t < 32 by omega) hb3
        rw [mw_row_low (mw_ix h1 ht)]
        exact hsh _ h1 t ht (dq_df_off (by omega))
      · rw [pk_un (by omega)]
        exact ih (by omega) j (by omega) hb
theorem mw_fill_ok {X Y : Nat → Int32} {n : Nat} (hn : n ≤ 14) (h : in_ok X Y n) (sh : Nat → Int32) : ∀ L, L ≤ 2 ^ n → sh_ok X Y n (mw_fill sh X Y n L) L := by
  intro L
  induction L with
  | zero => intro _ U hU; exact absurd hU (Nat.not_lt_zero U)
  | succ L ih =>
    intro hL U hU k hk hb
    show mw_row (mw_fill sh X Y n L) X Y n L n (U * n + k) = _
    by_cases e : U = L
    · subst e
      exact mw_row_ok hn h (by omega) (ih (by omega)) n (Nat.le_refl n) k hk hb
    · rw [mw_row_low (mw_ix (show U < L by omega) hk)]
      exact ih (by omega) U (by omega) k hk hb
