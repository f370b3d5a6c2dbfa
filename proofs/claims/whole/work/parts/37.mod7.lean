/-! PLACES: pairs by one number -/
def sp_key (x y : Int32) : Int := x.toInt * 4294967296 + y.toInt
def sp_lt (a b c d : Int32) : Bool := decide (a < c) || (decide (a = c) && decide (b < d))
theorem sp_b32 (y : Int32) : -2147483648 ≤ y.toInt ∧ y.toInt < 2147483648 := ⟨Int32.le_toInt y, Int32.toInt_lt y⟩
theorem sp_lt_key (a b c d : Int32) : sp_lt a b c d = true ↔ sp_key a b < sp_key c d := by
  have h1 := sp_b32 b
  have h2 := sp_b32 d
  unfold sp_lt sp_key
  rw [Bool.or_eq_true, Bool.and_eq_true, decide_eq_true_iff, decide_eq_true_iff, decide_eq_true_iff, Int32.lt_iff_toInt_lt, Int32.lt_iff_toInt_lt, ← Int32.toInt_inj]
  omega
theorem sp_key_inj {a b c d : Int32} (h : sp_key a b = sp_key c d) : a = c ∧ b = d := by
  have h1 := sp_b32 b
  have h2 := sp_b32 d
  unfold sp_key at h
  exact ⟨Int32.toInt_inj.mp (by omega), Int32.toInt_inj.mp (by omega)⟩
theorem sp_lt_gt {a b c d : Int32} (h : a < c) : sp_lt a b c d = true := by unfold sp_lt; rw [decide_eq_true h]; rfl
theorem sp_lt_eq {a b c d : Int32} (h : a = c) (h2 : b < d) : sp_lt a b c d = true := by unfold sp_lt; rw [decide_eq_true h, decide_eq_true h2]; simp
theorem sp_lt_f1 {a b c d : Int32} (h : ¬ a < c) (h2 : ¬ a = c) : sp_lt a b c d = false := by unfold sp_lt; rw [decide_eq_false h, decide_eq_false h2]; rfl
theorem sp_lt_f2 {a b c d : Int32} (h : ¬ a < c) (h2 : ¬ b < d) : sp_lt a b c d = false := by unfold sp_lt; rw [decide_eq_false h, decide_eq_false h2]; simp
/-- the least candidate behind (lx, ly) -/
def sp_mm (sx sy sw : Nat → Int32) (a b wd lx ly : Int32) : Nat → Int32 × Int32
  | 0 => (1000000000, 1000000000)
  | k + 1 => if sw k = wd ∧ sp_lt lx ly (a - sx k) (b - sy k) = true ∧ sp_lt (a - sx k) (b - sy k) (sp_mm sx sy sw a b wd lx ly k).1 (sp_mm sx sy sw a b wd lx ly k).2 = true then (a - sx k, b - sy k) else sp_mm sx sy sw a b wd lx ly k
theorem sp_mm_or (sx sy sw : Nat → Int32) (a b wd lx ly : Int32) (k : Nat) : sp_mm sx sy sw a b wd lx ly k = (1000000000, 1000000000) ∨ ∃ i, i < k ∧ sw i = wd ∧ sp_mm sx sy sw a b wd lx ly k = (a - sx i, b - sy i) ∧ sp_key lx ly < sp_key (a - sx i) (b - sy i) := by
  induction k with
  | zero => exact Or.inl rfl
  | succ k ih =>
    unfold sp_mm
    split
    · rename_i h
      exact Or.inr ⟨k, Nat.lt_succ_self k, h.1, rfl, (sp_lt_key _ _ _ _).mp h.2.1⟩
    · rcases ih with h | ⟨i, h1, h2, h3, h4⟩
      · exact Or.inl h
      · exact Or.inr ⟨i, Nat.lt_succ_of_lt h1, h2, h3, h4⟩
theorem sp_mm_min (sx sy sw : Nat → Int32) (a b wd lx ly : Int32) (k : Nat) : ∀ i, i < k → sw i = wd → sp_key lx ly < sp_key (a - sx i) (b - sy i) → sp_key (sp_mm sx sy sw a b wd lx ly k).1 (sp_mm sx sy sw a b wd lx ly k).2 ≤ sp_key (a - sx i) (b - sy i) := by
  induction k with
  | zero => intro i hi; exact absurd hi (Nat.not_lt_zero i)
  | succ k ih =>
    intro i hi h1 h2
    have key : sp_key (sp_mm sx sy sw a b wd lx ly (k + 1)).1 (sp_mm sx sy sw a b wd lx ly (k + 1)).2 ≤ sp_key (sp_mm sx sy sw a b wd lx ly k).1 (sp_mm sx sy sw a b wd lx ly k).2 := by
      by_cases hc : sw k = wd ∧ sp_lt lx ly (a - sx k) (b - sy k) = true ∧ sp_lt (a - sx k) (b - sy k) (sp_mm sx sy sw a b wd lx ly k).1 (sp_mm sx sy sw a b wd lx ly k).2 = true
      · have e : sp_mm sx sy sw a b wd lx ly (k + 1) = (a - sx k, b - sy k) := if_pos hc
        rw [e]
        exact Int.le_of_lt ((sp_lt_key _ _ _ _).mp hc.2.2)
      · have e : sp_mm sx sy sw a b wd lx ly (k + 1) = sp_mm sx sy sw a b wd lx ly k := if_neg hc
        rw [e]
        exact Int.le_refl _
    by_cases hik : i = k
    · subst hik
      by_cases hb : sp_lt (a - sx i) (b - sy i) (sp_mm sx sy sw a b wd lx ly i).1 (sp_mm sx sy sw a b wd lx ly i).2 = true
      · have e : sp_mm sx sy sw a b wd lx ly (i + 1) = (a - sx i, b - sy i) := if_pos ⟨h1, (sp_lt_key _ _ _ _).mpr h2, hb⟩
        rw [e]
        exact Int.le_refl _
      · rw [sp_lt_key] at hb
        omega
    · exact Int.le_trans key (ih i (by omega) h1 h2)
/-- what the places of a hole are -/
def sp_P (sx sy sw : Nat → Int32) (n : Nat) (a b wd : Int32) (bar : Int32 → Int32 → Bool) (q : Nat) (X Y : Nat → Int32) : Prop :=
  (∀ i j, i < j → j < q → sp_key (X i) (Y i) < sp_key (X j) (Y j)) ∧ (∀ i, i < q → bar (X i) (Y i) = false ∧ ∃ k, k < n ∧ sw k = wd ∧ X i = a - sx k ∧ Y i = b - sy k) ∧ (∀ k, k < n → sw k = wd → bar (a - sx k) (b - sy k) = false → ∃ i, i < q ∧ X i = a - sx k ∧ Y i = b - sy k)
/-- j of them are up to (lx, ly) -/
def sp_I (q : Nat) (X Y : Nat → Int32) (lx ly : Int32) (j : Nat) : Prop := j ≤ q ∧ (∀ i, i < j → sp_key (X i) (Y i) ≤ sp_key lx ly) ∧ ∀ i, j ≤ i → i < q → sp_key lx ly < sp_key (X i) (Y i)
def sp_bd (sx sy sw : Nat → Int32) (n : Nat) (a b wd : Int32) : Prop := ∀ k, k < n → sw k = wd → (-20000 ≤ (a - sx k).toInt ∧ (a - sx k).toInt ≤ 20000) ∧ (-20000 ≤ (b - sy k).toInt ∧ (b - sy k).toInt ≤ 20000)
theorem sp_start {sx sy sw : Nat → Int32} {n : Nat} {a b wd : Int32} {bar : Int32 → Int32 → Bool} {q : Nat} {X Y : Nat → Int32} (hP : sp_P sx sy sw n a b wd bar q X Y) (hb : sp_bd sx sy sw n a b wd) : sp_I q X Y (-1000000000) (-1000000000) 0 := by
  refine ⟨Nat.zero_le _, fun i hi => absurd hi (Nat.not_lt_zero i), fun i _ hi => ?_⟩
  obtain ⟨-, k, h1, h2, h3, h4⟩ := hP.2.1 i hi
  obtain ⟨⟨b1, b2⟩, b3, b4⟩ := hb k h1 h2
  rw [h3, h4]
  unfold sp_key
  have e : (-1000000000 : Int32).toInt = -1000000000 := by decide
  rw [e]
  omega
theorem sp_end {sx sy sw : Nat → Int32} {n : Nat} {a b wd : Int32} {bar : Int32 → Int32 → Bool} {q : Nat} {X Y : Nat → Int32} {lx ly : Int32} {j : Nat} (hP : sp_P sx sy sw n a b wd bar q X Y) (hb : sp_bd sx sy sw n a b wd) (hI : sp_I q X Y lx ly j) (h : ¬ (sp_mm sx sy sw a b wd lx ly n).1 < 1000000000) : j = q := by
  rcases Nat.lt_or_ge j q with hj | hj
  · obtain ⟨-, k, h1, h2, h3, h4⟩ := hP.2.1 j hj
    have h5 := hI.2.2 j (Nat.le_refl j) hj
    rw [h3, h4] at h5
    have h6 := sp_mm_min sx sy sw a b wd lx ly n k h1 h2 h5
    rcases sp_mm_or sx sy sw a b wd lx ly n with h7 | ⟨i, g1, g2, g3, g4⟩
    · obtain ⟨⟨b1, b2⟩, b3, b4⟩ := hb k h1 h2
      rw [h7] at h6
      unfold sp_key at h6
      have e : (1000000000 : Int32).toInt = 1000000000 := by decide
      rw [e] at h6
      omega
    · obtain ⟨⟨b1, b2⟩, -⟩ := hb i g1 g2
      rw [g3] at h
      refine absurd ?_ h
      rw [Int32.lt_iff_toInt_lt]
      have e : (1000000000 : Int32).toInt = 1000000000 := by decide
      rw [e]
      show (a - sx i).toInt < 1000000000
      omega
  · have := hI.1
    omega
theorem sp_cand {sx sy sw : Nat → Int32} {n : Nat} {a b wd lx ly : Int32} (h : (sp_mm sx sy sw a b wd lx ly n).1 < 1000000000) : ∃ i, i < n ∧ sw i = wd ∧ sp_mm sx sy sw a b wd lx ly n = (a - sx i, b - sy i) ∧ sp_key lx ly < sp_key (a - sx i) (b - sy i) := by
  rcases sp_mm_or sx sy sw a b wd lx ly n with h7 | h7
  · rw [h7] at h
    exact absurd h (by decide)
  · exact h7
theorem sp_bar {sx sy sw : Nat → Int32} {n : Nat} {a b wd : Int32} {bar : Int32 → Int32 → Bool} {q : Nat} {X Y : Nat → Int32} {lx ly : Int32} {j : Nat} (hP : sp_P sx sy sw n a b wd bar q X Y) (hI : sp_I q X Y lx ly j) (h : (sp_mm sx sy sw a b wd lx ly n).1 < 1000000000) (hbar : bar (sp_mm sx sy sw a b wd lx ly n).1 (sp_mm sx sy sw a b wd lx ly n).2 = true) :
    sp_I q X Y (sp_mm sx sy sw a b wd lx ly n).1 (sp_mm sx sy sw a b wd lx ly n).2 j := by
  obtain ⟨k, h1, h2, h3, h4⟩ := sp_cand h
  refine ⟨hI.1, fun i hi => ?_, fun i hj hi => ?_⟩
  · have := hI.2.1 i hi
    rw [h3]
    exact Int.le_trans this (Int.le_of_lt h4)
  · obtain ⟨g0, k2, g1, g2, g3, g4⟩ := hP.2.1 i hi
    have g5 := hI.2.2 i hj hi
    rw [g3, g4] at g5
    have g6 := sp_mm_min sx sy sw a b wd lx ly n k2 g1 g2 g5
    rw [← g3, ← g4] at g6
    rcases Int.lt_or_le (sp_key (sp_mm sx sy sw a b wd lx ly n).1 (sp_mm sx sy sw a b wd lx ly n).2) (sp_key (X i) (Y i)) with g7 | g7
    · exact g7
    · obtain ⟨e1, e2⟩ := sp_key_inj (Int.le_antisymm g6 g7)
      rw [e1, e2, g0] at hbar
      exact absurd hbar (by decide)
theorem sp_free {sx sy sw : Nat → Int32} {n : Nat} {a b wd : Int32} {bar : Int32 → Int32 → Bool} {q : Nat} {X Y : Nat → Int32} {lx ly : Int32} {j : Nat} (hP : sp_P sx sy sw n a b wd bar q X Y) (hI : sp_I q X Y lx ly j) (h : (sp_mm sx sy sw a b wd lx ly n).1 < 1000000000) (hbar : bar (sp_mm sx sy sw a b wd lx ly n).1 (sp_mm sx sy sw a b wd lx ly n).2 = false) :
    j < q ∧ (sp_mm sx sy sw a b wd lx ly n).1 = X j ∧ (sp_mm sx sy sw a b wd lx ly n).2 = Y j ∧ sp_I q X Y (sp_mm sx sy sw a b wd lx ly n).1 (sp_mm sx sy sw a b wd lx ly n).2 (j + 1) := by
  obtain ⟨k, h1, h2, h3, h4⟩ := sp_cand h
  have hm : ∀ i, j ≤ i → i < q → sp_key (a - sx k) (b - sy k) ≤ sp_key (X i) (Y i) := by
    intro i hj hi
    obtain ⟨-, k2, g1, g2, g3, g4⟩ := hP.2.1 i hi
    have g5 := hI.2.2 i hj hi
    rw [g3, g4] at g5
    have g6 := sp_mm_min sx sy sw a b wd lx ly n k2 g1 g2 g5
    rw [h3, ← g3, ← g4] at g6
    exact g6
  rw [h3] at hbar ⊢
  obtain ⟨i, i1, i2, i3⟩ := hP.2.2 k h1 h2 hbar
  have hji : j ≤ i := by
    rcases Nat.lt_or_ge i j with z | z
    · have := hI.2.1 i z
      rw [i2, i3] at this
      omega
    · exact z
  have hij : i = j := by
    rcases Nat.lt_or_ge j i with z | z
    · have z1 := hP.1 j i z i1
      have z2 := hm j (Nat.le_refl j) (by omega)
      rw [i2, i3] at z1
      omega
    · omega
  subst hij
  refine ⟨i1, i2.symm, i3.symm, i1, fun t ht => ?_, fun t ht1 ht2 => ?_⟩
  · rcases Nat.lt_or_ge t i with z | z
    · exact Int.le_trans (hI.2.1 t z) (Int.le_of_lt h4)
    · have : t = i := by omega
      subst this
      rw [i2, i3]
      exact Int.le_refl _
  · have z1 := hP.1 i t ht1 ht2
    rw [i2, i3] at z1
    exact z1
/-- how many of 0 .. n - 1 have P -/
def dq_ct (P : Nat → Bool) : Nat → Nat
  | 0 => 0
  | k + 1 => if P k = true then dq_ct P k + 1 else dq_ct P k
theorem dq_ct_le {P R : Nat → Bool} (h : ∀ i, R i = true → P i = true) (n : Nat) : dq_ct R n ≤ dq_ct P n := by
  induction n with
  | zero => exact Nat.le_refl 0
  | succ n ih =>
    unfold dq_ct
    by_cases h1 : R n = true
    · rw [if_pos h1, if_pos (h n h1)]
      omega
    · rw [if_neg h1]
      split <;> omega
theorem dq_ct_lt {P R : Nat → Bool} (h : ∀ i, R i = true → P i = true) {n k : Nat} (hk : k < n) (h1 : P k = true) (h2 : R k = false) : dq_ct R n < dq_ct P n := by
  induction n with
  | zero => exact absurd hk (Nat.not_lt_zero k)
  | succ n ih =>
    unfold dq_ct
    by_cases e : k = n
    · subst e
      rw [if_pos h1, if_neg (by rw [h2]; decide)]
      have := dq_ct_le h k
      omega
    · have := ih (by omega)
      by_cases h3 : R n = true
      · rw [if_pos h3, if_pos (h n h3)]
        omega
      · rw [if_neg h3]
        split <;> omega
theorem dq_ct_n (P : Nat → Bool) (n : Nat) : dq_ct P n ≤ n := by
  induction n with
  | zero => exact Nat.le_refl 0
  | succ n ih => unfold dq_ct; split <;> omega
/-- how many candidates are behind (lx, ly) -/
def sp_mu (sx sy sw : Nat → Int32) (n : Nat) (a b wd lx ly : Int32) : Nat := dq_ct (fun k => decide (sw k = wd) && sp_lt lx ly (a - sx k) (b - sy k)) n
theorem sp_mu_lt {sx sy sw : Nat → Int32} {n : Nat} {a b wd lx ly : Int32} (h : (sp_mm sx sy sw a b wd lx ly n).1 < 1000000000) : sp_mu sx sy sw n a b wd (sp_mm sx sy sw a b wd lx ly n).1 (sp_mm sx sy sw a b wd lx ly n).2 < sp_mu sx sy sw n a b wd lx ly := by
  obtain ⟨k, h1, h2, h3, h4⟩ := sp_cand h
  rw [h3]
  dsimp only
  refine dq_ct_lt (k := k) (fun i hi => ?_) h1 ?_ ?_
  · rw [Bool.and_eq_true, sp_lt_key] at hi ⊢
    exact ⟨hi.1, by omega⟩
  · rw [Bool.and_eq_true, sp_lt_key]
    exact ⟨decide_eq_true h2, h4⟩
  · rw [Bool.and_eq_false_iff]
    right
    rw [← Bool.not_eq_true, sp_lt_key]
    omega
/-- j numbers laid from b on -/
def sp_w (f X : Nat → Int32) (b j : Nat) : Nat → Int32 := fun t => if b ≤ t ∧ t < b + j then X (t - b) else f t
theorem sp_w_0 (f X : Nat → Int32) (b : Nat) : sp_w f X b 0 = f := by
  funext t
  exact if_neg (by omega)
theorem sp_w_s (f X : Nat → Int32) (b j : Nat) : upd (sp_w f X b j) (b + j) (X j) = sp_w f X b (j + 1) := by
  funext t
  by_cases h : t = b + j
  · subst h
    rw [pk_us]
    unfold sp_w
    rw [if_pos (by omega), Nat.add_sub_cancel_left]
  · rw [pk_un h]
    unfold sp_w
    by_cases h2 : b ≤ t ∧ t < b + j
    · rw [if_pos h2, if_pos (by omega)]
    · rw [if_neg h2, if_neg (by omega)]
/-- whether the boxes bar a place -/
def mb_bar (sx sy sw : Nat → Int32) (n : Nat) (bx : Nat → Int32) (cn : Nat) (x y : Int32) : Bool := dq_any (mb_box bx (x + mb_lo sw sx n - 1) (x + mb_hi sw sx n + 1) (y + mb_lo sw sy n - 1) (y + mb_hi sw sy n + 1)) cn
set_option maxHeartbeats 4000000 in
set_option maxRecDepth 100000 in
/-- size -/
theorem m_size (l : Launch) (D : va_G) (g : Nat → ClassId) (ad : Nat → Nat) (w : Nat → Option va_E) (sz : Nat) (a0 : Int32)   : Met l yMo_size wsMo_size ({ frames := 0, cells := 0, slots := 0, locals := 0 } : Room) (va_Pc [.int a0] (dq_S D vwCl (dq_t g) ad w sz)) (va_Ql (fun r u => r = ms_sz a0 ∧ u = w) (dq_B D vwCl (dq_t g) ad (dq_A ad w sz)) (dq_A ad w sz)) 0 0 (dq_A ad w sz) := by
  refine dq_ofl (cc := cMo_size) (maxL := 1) (by decide) rfl (Nat.le_of_ble_eq_true rfl) ?_
  intro p e s m below meth c A Q ls ⟨hx, hb, hml, hown, hts⟩ hnm hA hW hK hZ hl hret
  have hS : va_S A s.heap s.heap [] := va_S.rf
  have hl : lv_has ls 1 [(0, .int a0)] := hl
  refine lv_iload_n hx hb dMo_size_0 rfl (lv_at hl 0 rfl) ?_
  refine lv_if_ge (tgt := 10) hx hb dMo_size_1 (by decide) (fun c1 => ?_) (fun c1 => ?_)
  · refine lv_iload_n hx hb dMo_size_10 rfl (lv_at hl 0 rfl) ?_
    refine lv_i2l hx hb dMo_size_11 rfl ?_
    exact hret _ _ _ _ _ _ ⟨by unfold ms_sz; rw [if_neg (Int32.not_lt.mpr c1)], rfl⟩ hW hS dMo_size_12
  · refine lv_iload_n hx hb dMo_size_4 rfl (lv_at hl 0 rfl) ?_
    refine lv_i2l hx hb dMo_size_5 rfl ?_
    refine lv_lneg hx hb dMo_size_6 ?_
    refine lv_goto (tgt := 12) hx hb dMo_size_7 (by decide) ?_
    exact hret _ _ _ _ _ _ ⟨by unfold ms_sz; rw [if_pos (Int32.not_le.mp c1)], rfl⟩ hW hS dMo_size_12

set_option maxHeartbeats 4000000 in
set_option maxRecDepth 100000 in
/-- between -/
theorem m_between (l : Launch) (D : va_G) (g : Nat → ClassId) (ad : Nat → Nat) (w : Nat → Option va_E) (sz : Nat) (cd : Int32) (n hn cn : Nat) (pl : Int32) (tn : Nat) (sg : Int32) (wy : Int64) (tX tY tF tS : Nat → Int32) (a b : Nat) (m100 : w 100 = some (.inr (8, [.int cd, .int (nI n), .ref (ad 102), .ref (ad 103), .ref (ad 104), .int (nI hn), .ref (ad 106), .ref (ad 107), .ref (ad 108), .ref (ad 109), .ref (ad 110), .ref (ad 111), .int (nI cn), .ref (ad 113), .int pl, .int (nI tn), .ref (ad 116), .ref (ad 117), .ref (ad 118), .ref (ad 119), .int sg, .ref (ad 121), .long wy, .ref (ad 123), .ref (ad 124), .ref (ad 125), .ref (ad 126), .ref (ad 127), .ref (ad 128)]))) (m116 : w 116 = some (.inl (g 0, 14, .inl tX))) (m117 : w 117 = some (.inl (g 0, 14, .inl tY))) (ha : a < 14) (hb14 : b < 14) : Met l yMo_between wsMo_between ({ frames := 1, cells := 0, slots := 0, locals := 24 } : Room) (va_Pc [.ref (ad 100), .int (nI a), .int (nI b)] (dq_S D vwCl (dq_t g) ad w sz)) (va_Ql (fun r u => r = ms_bt tX tY a b ∧ u = w) (dq_B D vwCl (dq_t g) ad (dq_A ad w sz)) (dq_A ad w sz)) 0 0 (dq_A ad w sz) := by
  refine dq_ofl (cc := cMo_between) (maxL := 3) (by decide) rfl (Nat.le_of_ble_eq_true rfl) ?_
  intro p e s m below meth c A Q ls ⟨hx, hb, hml, hown, hts⟩ hnm hA hW hK hZ hl hret
  have hS : va_S A s.heap s.heap [] := va_S.rf
  have hl : lv_has ls 3 [(0, .ref (ad 100)), (1, .int (nI a)), (2, .int (nI b))] := hl
  have hf41 := hts _ (List.mem_cons_of_mem _ tw3_170)
  have hf44 := hts _ (List.mem_cons_of_mem _ tw3_171)
  have hinMo : ∀ w ∈ u_ws RMo TMo 29, w ∈ wsMo_between := fun w h => List.mem_cons_of_mem _ (inMo w h)
  refine lv_aload_n hx hb dMo_between_0 rfl (lv_at hl 0 rfl) ?_
  refine dq_get (D := D) (ci := 8) (v := .ref (ad 116)) (C := RMo) (T := TMo) (N := 29) hx hb hts hinMo hown hK hW 100 m100 rfl 16 (by decide) hf41 (fun _ h9 => h9) rfl dMo_between_1 ?_
  refine lv_iload_n hx hb dMo_between_4 rfl (lv_at hl 1 rfl) ?_
  refine dq_ialdN hx hb hK hW 116 0 m116 rfl a (by omega) (by omega) dMo_between_5 ?_
  refine lv_aload_n hx hb dMo_between_6 rfl (lv_at hl 0 rfl) ?_
  refine dq_get (D := D) (ci := 8) (v := .ref (ad 116)) (C := RMo) (T := TMo) (N := 29) hx hb hts hinMo hown hK hW 100 m100 rfl 16 (by decide) hf41 (fun _ h9 => h9) rfl dMo_between_7 ?_
  refine lv_iload_n hx hb dMo_between_10 rfl (lv_at hl 2 rfl) ?_
  refine dq_ialdN hx hb hK hW 116 0 m116 rfl b (by omega) (by omega) dMo_between_11 ?_
  refine lv_isub hx hb dMo_between_12 ?_
  refine dq_calll (va_runS (As := [.int ((tX a) - (tX b))]) (rest := []) ⟨hx, hb, hml, hown, hts⟩ (m_size l D g ad (w) _ (tX a - tX b)  ) (cwS 1 hts (dq_giS2 tw4_76 tw4_77 tw1_10 tw4_78) rfl rfl rfl (by decide +kernel) ⟨Nat.le_of_ble_eq_true rfl, Nat.le_of_ble_eq_true rfl⟩) (dq_preS hW hS hA hK hZ) rfl rfl hl.1 rfl (lv_room (Nat.le_of_ble_eq_true rfl)) dMo_between_13 ⟨Nat.zero_le _, Nat.zero_le _⟩) hW hS hA (fun r1 u_9 H locs hp1 hW hS hz9 => ?_)
  obtain ⟨hr1, hu9⟩ := hp1
  rw [hu9] at hW
  subst hr1
  refine lv_aload_n hx hb dMo_between_16 rfl (lv_at hl 0 rfl) ?_
  refine dq_get (D := D) (ci := 8) (v := .ref (ad 117)) (C := RMo) (T := TMo) (N := 29) hx hb hts hinMo hown hK hW 100 m100 rfl 17 (by decide) hf44 (fun _ h9 => h9) rfl dMo_between_17 ?_
  refine lv_iload_n hx hb dMo_between_20 rfl (lv_at hl 1 rfl) ?_
  refine dq_ialdN hx hb hK hW 117 0 m117 rfl a (by omega) (by omega) dMo_between_21 ?_
  refine lv_aload_n hx hb dMo_between_22 rfl (lv_at hl 0 rfl) ?_
  refine dq_get (D := D) (ci := 8) (v := .ref (ad 117)) (C := RMo) (T := TMo) (N := 29) hx hb hts hinMo hown hK hW 100 m100 rfl 17 (by decide) hf44 (fun _ h9 => h9) rfl dMo_between_23 ?_
  refine lv_iload_n hx hb dMo_between_26 rfl (lv_at hl 2 rfl) ?_
  refine dq_ialdN hx hb hK hW 117 0 m117 rfl b (by omega) (by omega) dMo_between_27 ?_
  refine lv_isub hx hb dMo_between_28 ?_
  refine dq_calll (va_runS (As := [.int ((tY a) - (tY b))]) (rest := [.long (ms_sz (tX a - tX b))]) ⟨hx, hb, hml, hown, hts⟩ (m_size l D g ad (w) _ (tY a - tY b)  ) (cwS 1 hts (dq_giS2 tw4_76 tw4_77 tw1_10 tw4_78) rfl rfl rfl (by decide +kernel) ⟨Nat.le_of_ble_eq_true rfl, Nat.le_of_ble_eq_true rfl⟩) (dq_preS hW hS hA hK hZ) rfl rfl hl.1 rfl (lv_room (Nat.le_of_ble_eq_true rfl)) dMo_between_29 ⟨Nat.zero_le _, Nat.zero_le _⟩) hW hS hA (fun r2 u_9 H locs hp2 hW hS hz9 => ?_)
  obtain ⟨hr2, hu9⟩ := hp2
  rw [hu9] at hW
  subst hr2
  refine lv_ladd hx hb dMo_between_32 ?_
  exact hret _ _ _ _ _ _ ⟨rfl, rfl⟩ hW hS dMo_between_33

set_option maxHeartbeats 4000000 in
set_option maxRecDepth 100000 in
/-- lowest(set) -/
theorem m_lowest (l : Launch) (D : va_G) (g : Nat → ClassId) (ad : Nat → Nat) (w : Nat → Option va_E) (sz : Nat) (S : Nat)  (hS0 : 0 < S) (hS9 : S < 16384) : Met l yMo_lowest wsMo_lowest ({ frames := 0, cells := 0, slots := 0, locals := 0 } : Room) (va_Pc [.int (nI S)] (dq_S D vwCl (dq_t g) ad w sz)) (va_Qi (fun r u => r = nI (dq_lo S) ∧ u = w) (dq_B D vwCl (dq_t g) ad (dq_A ad w sz)) (dq_A ad w sz)) 0 0 (dq_A ad w sz) := by
  refine dq_ofi (cc := cMo_lowest) (maxL := 2) (by decide) rfl (Nat.le_of_ble_eq_true rfl) ?_
  intro p e s m below meth c A Q ls ⟨hx, hb, hml, hown, hts⟩ hnm hA hW hK hZ hl hret
  have hS : va_S A s.heap s.heap [] := va_S.rf
  have hl : lv_has ls 2 [(0, .int (nI S))] := hl
  obtain ⟨-, hlo, hbit, -⟩ := dq_lo_l2 hS0 hS9
  refine lv_iconst (v := (nI 0)) hx hb dMo_lowest_0 (by decide) ?_
  refine lv_istore_n (lv' := [(1, .int (nI 0)), (0, .int (nI S))]) hx hb dMo_lowest_1 rfl hl (by decide) rfl (fun ls hl => ?_)
  have loop : ∀ (j : Nat) (k : Nat) (ls : Array Slot), dq_lo S < k + j → k ≤ dq_lo S → (∀ i, i < k → S.testBit i = false) → lv_has ls 2 [(0, .int (nI S)), (1, .int (nI k))] → W p l e ({ frames := 0, cells := 0, slots := 0, locals := 0 } : Room) s m ([.int (nI S)] : List Value).toArray below meth c s.heap [] 0 0 Q (F0 m 2 ls []) := by
    intro j
    induction j with
    | zero => intro k ls hj hk hb9  hl; exact absurd hj (by omega)
    | succ j ih =>
      intro k ls hj hk hb9  hl
      refine lv_iload_n hx hb dMo_lowest_2 rfl (lv_at hl 0 rfl) ?_
      refine lv_iload_n hx hb dMo_lowest_3 rfl (lv_at hl 1 rfl) ?_
      refine lv_ishr hx hb dMo_lowest_4 ?_
      refine lv_iconst (v := (1)) hx hb dMo_lowest_5 (by decide) ?_
      refine lv_iand hx hb dMo_lowest_6 ?_
      refine dq_top (y := dq_b (S.testBit k)) (dq_bit (by omega) (by omega)) ?_
      refine lv_if_ne (tgt := 16) hx hb dMo_lowest_7 (by decide) (fun c1 => ?_) (fun c1 => ?_)
      · have e1 : dq_lo S = k := dq_fn_eq (P := fun i => S.testBit i) (by omega) hb9 (fun _ => dq_b_t c1)
        refine lv_iload_n hx hb dMo_lowest_16 rfl (lv_at hl 1 rfl) ?_
        exact hret _ _ _ _ _ _ ⟨by rw [e1], rfl⟩ hW hS dMo_lowest_17
      · have hk2 : ¬ k = dq_lo S := fun h9 => absurd ((dq_b_f c1).symm.trans (h9 ▸ hbit)) (by decide)
        refine lv_iinc (v := (nI (k + 1))) (lv' := [(1, .int (nI (k + 1))), (0, .int (nI S))]) hx hb dMo_lowest_10 hl (k := 1) rfl (by show nI k + 1 = _; exact nI_1 _) (by decide) rfl (fun ls hl => ?_)
        refine lv_goto (tgt := 2) hx hb dMo_lowest_13 (by decide) ?_
        exact ih (k + 1) _ (by omega) (by omega) (lt_s hb9 (dq_b_f c1))  (lv_sub hl [1, 0] rfl)
  exact loop (dq_lo S + 1) 0 _ (by omega) (Nat.zero_le _) lt_0  (lv_sub hl [1, 0] rfl)

set_option maxHeartbeats 4000000 in
set_option maxRecDepth 100000 in
/-- isBarred(x, y) -/
theorem m_isBarred (l : Launch) (D : va_G) (g : Nat → ClassId) (ad : Nat → Nat) (w : Nat → Option va_E) (sz : Nat) (cd : Int32) (n hn cn : Nat) (pl : Int32) (tn : Nat) (sg : Int32) (wy : Int64) (sx sy sw : Nat → Int32) (bx : Nat → Int32) (a0 a1 : Int32) (m100 : w 100 = some (.inr (8, [.int cd, .int (nI n), .ref (ad 102), .ref (ad 103), .ref (ad 104), .int (nI hn), .ref (ad 106), .ref (ad 107), .ref (ad 108), .ref (ad 109), .ref (ad 110), .ref (ad 111), .int (nI cn), .ref (ad 113), .int pl, .int (nI tn), .ref (ad 116), .ref (ad 117), .ref (ad 118), .ref (ad 119), .int sg, .ref (ad 121), .long wy, .ref (ad 123), .ref (ad 124), .ref (ad 125), .ref (ad 126), .ref (ad 127), .ref (ad 128)]))) (m102 : w 102 = some (.inl (g 0, 16, .inl sx))) (m103 : w 103 = some (.inl (g 0, 16, .inl sy))) (m104 : w 104 = some (.inl (g 0, 16, .inl sw))) (m113 : w 113 = some (.inl (g 0, 24, .inl bx))) (hn16 : n ≤ 16) (hcn : cn ≤ 6) : Met l yMo_isBarred wsMo_isBarred ({ frames := 0, cells := 0, slots := 0, locals := 0 } : Room) (va_Pc [.ref (ad 100), .int a0, .int a1] (dq_S D vwCl (dq_t g) ad w sz)) (va_Qi (fun r u => r = dq_b (mb_bar sx sy sw n bx cn a0 a1) ∧ u = w) (dq_B D vwCl (dq_t g) ad (dq_A ad w sz)) (dq_A ad w sz)) 0 0 (dq_A ad w sz) := by
  refine dq_ofz (cc := cMo_isBarred) (maxL := 10) (by decide) rfl (Nat.le_of_ble_eq_true rfl) ?_
  intro p e s m below meth c A Q ls ⟨hx, hb, hml, hown, hts⟩ hnm hA hW hK hZ hl hret
  have hS : va_S A s.heap s.heap [] := va_S.rf
  have hl : lv_has ls 10 [(0, .ref (ad 100)), (1, .int a0), (2, .int a1)] := hl
  have hf7 := hts _ (List.mem_cons_of_mem _ tw3_156)
  have hf13 := hts _ (List.mem_cons_of_mem _ tw3_157)
  have hf16 := hts _ (List.mem_cons_of_mem _ tw3_158)
  have hf38 := hts _ (List.mem_cons_of_mem _ tw3_167)
  have hf75 := hts _ (List.mem_cons_of_mem _ tw3_155)
  have hf97 := hts _ (List.mem_cons_of_mem _ tw3_166)
  have hinMo : ∀ w ∈ u_ws RMo TMo 29, w ∈ wsMo_isBarred := fun w h => List.mem_cons_of_mem _ (inMo w h)
  refine lv_ldc hx hb hown (hts _ (List.mem_cons_of_mem _ tw4_43)) dMo_isBarred_0 ?_
  refine lv_istore_n (lv' := [(3, .int (1000000000)), (0, .ref (ad 100)), (1, .int a0), (2, .int a1)]) hx hb dMo_isBarred_2 rfl hl (by decide) rfl (fun ls hl => ?_)
  refine lv_ldc hx hb hown (hts _ (List.mem_cons_of_mem _ tw4_42)) dMo_isBarred_3 ?_
  refine lv_istore (lv' := [(4, .int (-1000000000)), (3, .int (1000000000)), (0, .ref (ad 100)), (1, .int a0), (2, .int a1)]) hx hb dMo_isBarred_5 hl (by decide) rfl (fun ls hl => ?_)
  refine lv_ldc hx hb hown (hts _ (List.mem_cons_of_mem _ tw4_43)) dMo_isBarred_7 ?_
  refine lv_istore (lv' := [(5, .int (1000000000)), (4, .int (-1000000000)), (3, .int (1000000000)), (0, .ref (ad 100)), (1, .int a0), (2, .int a1)]) hx hb dMo_isBarred_9 hl (by decide) rfl (fun ls hl => ?_)
  refine lv_ldc hx hb hown (hts _ (List.mem_cons_of_mem _ tw4_42)) dMo_isBarred_11 ?_
  refine lv_istore (lv' := [(6, .int (-1000000000)), (5, .int (1000000000)), (4, .int (-1000000000)), (3, .int (1000000000)), (0, .ref (ad 100)), (1, .int a0), (2, .int a1)]) hx hb dMo_isBarred_13 hl (by decide) rfl (fun ls hl => ?_)
  refine lv_iconst (v := (nI 0)) hx hb dMo_isBarred_15 (by decide) ?_
  refine lv_istore (lv' := [(7, .int (nI 0)), (6, .int (-1000000000)), (5, .int (1000000000)), (4, .int (-1000000000)), (3, .int (1000000000)), (0, .ref (ad 100)), (1, .int a0), (2, .int a1)]) hx hb dMo_isBarred_16 hl (by decide) rfl (fun ls hl => ?_)
  have loop : ∀ (j : Nat) (k : Nat) (ls : Array Slot), n < k + j → k ≤ n → lv_has ls 10 [(0, .ref (ad 100)), (1, .int a0), (2, .int a1), (3, .int (mb_lo sw sx k)), (4, .int (mb_hi sw sx k)), (5, .int (mb_lo sw sy k)), (6, .int (mb_hi sw sy k)), (7, .int (nI k))] → W p l e ({ frames := 0, cells := 0, slots := 0, locals := 0 } : Room) s m ([.ref (ad 100), .int a0, .int a1] : List Value).toArray below meth c s.heap [] 0 0 Q (F0 m 18 ls []) := by
    intro j
    induction j with
    | zero => intro k ls hj hk  hl; exact absurd hj (by omega)
    | succ j ih =>
      intro k ls hj hk  hl
      refine lv_iload hx hb dMo_isBarred_18 (lv_at hl 7 rfl) ?_
      refine lv_aload_n hx hb dMo_isBarred_20 rfl (lv_at hl 0 rfl) ?_
      refine dq_get (D := D) (ci := 8) (v := .int (nI n)) (C := RMo) (T := TMo) (N := 29) hx hb hts hinMo hown hK hW 100 m100 rfl 1 (by decide) hf75 (fun _ h9 => h9) rfl dMo_isBarred_21 ?_
      refine lv_icmp_ge (tgt := 144) hx hb dMo_isBarred_24 (by decide) (fun c1 => ?_) (fun c1 => ?_)
      · have hkn : n = k := by have q9 := (nI_leI (by omega) (by omega)).mp c1; omega
        subst hkn
        refine lv_iconst (v := (0)) hx hb dMo_isBarred_144 (by decide) ?_
        refine dq_top (y := dq_b (dq_any (mb_box bx (a0 + mb_lo sw sx n - 1) (a0 + mb_hi sw sx n + 1) (a1 + mb_lo sw sy n - 1) (a1 + mb_hi sw sy n + 1)) 0)) (by rfl) ?_
        refine lv_istore (lv' := [(7, .int (dq_b (dq_any (mb_box bx (a0 + mb_lo sw sx n - 1) (a0 + mb_hi sw sx n + 1) (a1 + mb_lo sw sy n - 1) (a1 + mb_hi sw sy n + 1)) 0))), (0, .ref (ad 100)), (1, .int a0), (2, .int a1), (3, .int (mb_lo sw sx n)), (4, .int (mb_hi sw sx n)), (5, .int (mb_lo sw sy n)), (6, .int (mb_hi sw sy n))]) hx hb dMo_isBarred_145 hl (by decide) rfl (fun ls hl => ?_)
        refine lv_iconst (v := (nI 0)) hx hb dMo_isBarred_147 (by decide) ?_
        refine lv_istore (lv' := [(8, .int (nI 0)), (7, .int (dq_b (dq_any (mb_box bx (a0 + mb_lo sw sx n - 1) (a0 + mb_hi sw sx n + 1) (a1 + mb_lo sw sy n - 1) (a1 + mb_hi sw sy n + 1)) 0))), (0, .ref (ad 100)), (1, .int a0), (2, .int a1), (3, .int (mb_lo sw sx n)), (4, .int (mb_hi sw sx n)), (5, .int (mb_lo sw sy n)), (6, .int (mb_hi sw sy n))]) hx hb dMo_isBarred_148 hl (by decide) rfl (fun ls hl => ?_)
        have loop2 : ∀ (j : Nat) (c9 : Nat) (ls : Array Slot), cn < c9 + j → c9 ≤ cn → lv_has ls 10 [(0, .ref (ad 100)), (1, .int a0), (2, .int a1), (3, .int (mb_lo sw sx n)), (4, .int (mb_hi sw sx n)), (5, .int (mb_lo sw sy n)), (6, .int (mb_hi sw sy n)), (7, .int (dq_b (dq_any (mb_box bx (a0 + mb_lo sw sx n - 1) (a0 + mb_hi sw sx n + 1) (a1 + mb_lo sw sy n - 1) (a1 + mb_hi sw sy n + 1)) c9))), (8, .int (nI (4 * c9)))] → W p l e ({ frames := 0, cells := 0, slots := 0, locals := 0 } : Room) s m ([.ref (ad 100), .int a0, .int a1] : List Value).toArray below meth c s.heap [] 0 0 Q (F0 m 150 ls []) := by
          intro j
          induction j with
          | zero => intro c9 ls hj hk  hl; exact absurd hj (by omega)
          | succ j ih =>
            intro c9 ls hj hk  hl
            refine lv_iload hx hb dMo_isBarred_150 (lv_at hl 8 rfl) ?_
            refine lv_iconst (v := (4)) hx hb dMo_isBarred_152 (by decide) ?_
            refine lv_aload_n hx hb dMo_isBarred_153 rfl (lv_at hl 0 rfl) ?_
            refine dq_get (D := D) (ci := 8) (v := .int (nI cn)) (C := RMo) (T := TMo) (N := 29) hx hb hts hinMo hown hK hW 100 m100 rfl 12 (by decide) hf97 (fun _ h9 => h9) rfl dMo_isBarred_154 ?_
            refine lv_imul hx hb dMo_isBarred_157 ?_
            refine dq_top (y := nI (4 * cn)) (va_mulN 4 cn) ?_
            refine lv_icmp_ge (tgt := 300) hx hb dMo_isBarred_158 (by decide) (fun c1 => ?_) (fun c1 => ?_)
            · have hcn9 : cn = c9 := by have q9 := (nI_leI (by omega) (by omega)).mp c1; omega
              subst hcn9
              refine lv_iload hx hb dMo_isBarred_300 (lv_at hl 7 rfl) ?_
              exact hret _ _ _ _ _ _ ⟨rfl, rfl⟩ (dq_b_nar _) hW hS dMo_isBarred_302
            · have hcc : c9 < cn := by rcases Nat.lt_or_ge c9 cn with q | q; exact q; exact absurd (nI_le (by omega) (by omega)) c1
              have J1 : ∀ (ls : Array Slot), lv_has ls 10 [(0, .ref (ad 100)), (1, .int a0), (2, .int a1), (3, .int (mb_lo sw sx n)), (4, .int (mb_hi sw sx n)), (5, .int (mb_lo sw sy n)), (6, .int (mb_hi sw sy n)), (7, .int (dq_b (dq_any (mb_box bx (a0 + mb_lo sw sx n - 1) (a0 + mb_hi sw sx n + 1) (a1 + mb_lo sw sy n - 1) (a1 + mb_hi sw sy n + 1)) c9))), (8, .int (nI (4 * c9)))] → W p l e ({ frames := 0, cells := 0, slots := 0, locals := 0 } : Room) s m ([.ref (ad 100), .int a0, .int a1] : List Value).toArray below meth c s.heap [] 0 0 Q (F0 m 235 ls [.int (dq_b ((decide ((a0 + mb_lo sw sx n - 1) < bx (4 * c9 + 2)) && decide (bx (4 * c9) < (a0 + mb_hi sw sx n + 1))) && (decide ((a1 + mb_lo sw sy n - 1) < bx (4 * c9 + 3)) && decide (bx (4 * c9 + 1) < (a1 + mb_hi sw sy n + 1)))))]) := by
                intro  ls   hl
                have J2 : ∀ (ls : Array Slot), lv_has ls 10 [(0, .ref (ad 100)), (1, .int a0), (2, .int a1), (3, .int (mb_lo sw sx n)), (4, .int (mb_hi sw sx n)), (5, .int (mb_lo sw sy n)), (6, .int (mb_hi sw sy n)), (7, .int (dq_b (dq_any (mb_box bx (a0 + mb_lo sw sx n - 1) (a0 + mb_hi sw sx n + 1) (a1 + mb_lo sw sy n - 1) (a1 + mb_hi sw sy n + 1)) c9))), (8, .int (nI (4 * c9)))] → W p l e ({ frames := 0, cells := 0, slots := 0, locals := 0 } : Room) s m ([.ref (ad 100), .int a0, .int a1] : List Value).toArray below meth c s.heap [] 0 0 Q (F0 m 292 ls [.int (dq_b (dq_any (mb_box bx (a0 + mb_lo sw sx n - 1) (a0 + mb_hi sw sx n + 1) (a1 + mb_lo sw sy n - 1) (a1 + mb_hi sw sy n + 1)) (c9 + 1)))]) := by
                  intro  ls   hl
                  refine lv_istore (lv' := [(7, .int (dq_b (dq_any (mb_box bx (a0 + mb_lo sw sx n - 1) (a0 + mb_hi sw sx n + 1) (a1 + mb_lo sw sy n - 1) (a1 + mb_hi sw sy n + 1)) (c9 + 1)))), (0, .ref (ad 100)), (1, .int a0), (2, .int a1), (3, .int (mb_lo sw sx n)), (4, .int (mb_hi sw sx n)), (5, .int (mb_lo sw sy n)), (6, .int (mb_hi sw sy n)), (8, .int (nI (4 * c9)))]) hx hb dMo_isBarred_292 hl (by decide) rfl (fun ls hl => ?_)
                  refine lv_iinc (v := (nI (4 * (c9 + 1)))) (lv' := [(8, .int (nI (4 * (c9 + 1)))), (7, .int (dq_b (dq_any (mb_box bx (a0 + mb_lo sw sx n - 1) (a0 + mb_hi sw sx n + 1) (a1 + mb_lo sw sy n - 1) (a1 + mb_hi sw sy n + 1)) (c9 + 1)))), (0, .ref (ad 100)), (1, .int a0), (2, .int a1), (3, .int (mb_lo sw sx n)), (4, .int (mb_hi sw sx n)), (5, .int (mb_lo sw sy n)), (6, .int (mb_hi sw sy n))]) hx hb dMo_isBarred_294 hl (k := 8) rfl (nI_add (4 * c9) 4) (by decide) rfl (fun ls hl => ?_)
                  refine lv_goto (tgt := 150) hx hb dMo_isBarred_297 (by decide) ?_
                  exact ih (c9 + 1) _ (by omega) (by omega)  (lv_sub hl [2, 3, 4, 5, 6, 7, 8, 1, 0] rfl)
                refine lv_istore (lv' := [(9, .int (dq_b ((decide ((a0 + mb_lo sw sx n - 1) < bx (4 * c9 + 2)) && decide (bx (4 * c9) < (a0 + mb_hi sw sx n + 1))) && (decide ((a1 + mb_lo sw sy n - 1) < bx (4 * c9 + 3)) && decide (bx (4 * c9 + 1) < (a1 + mb_hi sw sy n + 1)))))), (0, .ref (ad 100)), (1, .int a0), (2, .int a1), (3, .int (mb_lo sw sx n)), (4, .int (mb_hi sw sx n)), (5, .int (mb_lo sw sy n)), (6, .int (mb_hi sw sy n)), (7, .int (dq_b (dq_any (mb_box bx (a0 + mb_lo sw sx n - 1) (a0 + mb_hi sw sx n + 1) (a1 + mb_lo sw sy n - 1) (a1 + mb_hi sw sy n + 1)) c9))), (8, .int (nI (4 * c9)))]) hx hb dMo_isBarred_235 hl (by decide) rfl (fun ls hl => ?_)
                refine lv_iload hx hb dMo_isBarred_237 (lv_at hl 8 rfl) ?_
                refine lv_if_ne (tgt := 287) hx hb dMo_isBarred_239 (by decide) (fun d1 => ?_) (fun d1 => ?_)
                · have e9 : dq_b (dq_any (mb_box bx (a0 + mb_lo sw sx n - 1) (a0 + mb_hi sw sx n + 1) (a1 + mb_lo sw sy n - 1) (a1 + mb_hi sw sy n + 1)) (c9 + 1)) = 1 := by rw [dq_any_s]; rw [dq_b_t d1]; rfl
                  rw [e9] at J2
                  refine lv_iconst (v := (1)) hx hb dMo_isBarred_287 (by decide) ?_
                  refine lv_goto (tgt := 292) hx hb dMo_isBarred_288 (by decide) ?_
                  exact J2  _   (lv_sub hl [1, 2, 3, 4, 5, 6, 7, 8, 9] rfl)
                · have hno := dq_b_f d1
                  refine lv_iload hx hb dMo_isBarred_242 (lv_at hl 0 rfl) ?_
                  refine lv_if_eq (tgt := 291) hx hb dMo_isBarred_244 (by decide) (fun d2 => ?_) (fun d2 => ?_)
                  · have e9 : dq_b (dq_any (mb_box bx (a0 + mb_lo sw sx n - 1) (a0 + mb_hi sw sx n + 1) (a1 + mb_lo sw sy n - 1) (a1 + mb_hi sw sy n + 1)) (c9 + 1)) = 0 := by rw [dq_any_s]; rw [hno]; show dq_b (((decide ((a0 + mb_lo sw sx n - 1) < bx (4 * c9 + 2)) && decide (bx (4 * c9) < (a0 + mb_hi sw sx n + 1))) && (decide ((a1 + mb_lo sw sy n - 1) < bx (4 * c9 + 3)) && decide (bx (4 * c9 + 1) < (a1 + mb_hi sw sy n + 1)))) && (decide (bx (4 * c9) < bx (4 * c9 + 2)) && decide (bx (4 * c9 + 1) < bx (4 * c9 + 3)))) = 0; rw [dq_b_f d2]; rfl
                    rw [e9] at J2
                    refine lv_iconst (v := (0)) hx hb dMo_isBarred_291 (by decide) ?_
                    exact J2  _   (lv_sub hl [1, 2, 3, 4, 5, 6, 7, 8, 9] rfl)
                  · have hov := dq_b_t d2
                    refine lv_aload_n hx hb dMo_isBarred_247 rfl (lv_at hl 1 rfl) ?_
                    refine dq_get (D := D) (ci := 8) (v := .ref (ad 113)) (C := RMo) (T := TMo) (N := 29) hx hb hts hinMo hown hK hW 100 m100 rfl 13 (by decide) hf38 (fun _ h9 => h9) rfl dMo_isBarred_248 ?_
                    refine lv_iload hx hb dMo_isBarred_251 (lv_at hl 9 rfl) ?_
                    refine dq_ialdN hx hb hK hW 113 0 m113 rfl (4 * c9) (by omega) (by omega) dMo_isBarred_253 ?_
                    refine lv_aload_n hx hb dMo_isBarred_254 rfl (lv_at hl 1 rfl) ?_
                    refine dq_get (D := D) (ci := 8) (v := .ref (ad 113)) (C := RMo) (T := TMo) (N := 29) hx hb hts hinMo hown hK hW 100 m100 rfl 13 (by decide) hf38 (fun _ h9 => h9) rfl dMo_isBarred_255 ?_
                    refine lv_iload hx hb dMo_isBarred_258 (lv_at hl 9 rfl) ?_
                    refine lv_iconst (v := (2)) hx hb dMo_isBarred_260 (by decide) ?_
                    refine lv_iadd hx hb dMo_isBarred_261 ?_
                    refine dq_top (y := nI (4 * c9 + 2)) (nI_add (4 * c9) 2) ?_
                    refine dq_ialdN hx hb hK hW 113 0 m113 rfl (4 * c9 + 2) (by omega) (by omega) dMo_isBarred_262 ?_
                    refine lv_icmp_ge (tgt := 291) hx hb dMo_isBarred_263 (by decide) (fun d3 => ?_) (fun d3 => ?_)
                    · have e9 : dq_b (dq_any (mb_box bx (a0 + mb_lo sw sx n - 1) (a0 + mb_hi sw sx n + 1) (a1 + mb_lo sw sy n - 1) (a1 + mb_hi sw sy n + 1)) (c9 + 1)) = 0 := by rw [dq_any_s]; rw [hno]; show dq_b (((decide ((a0 + mb_lo sw sx n - 1) < bx (4 * c9 + 2)) && decide (bx (4 * c9) < (a0 + mb_hi sw sx n + 1))) && (decide ((a1 + mb_lo sw sy n - 1) < bx (4 * c9 + 3)) && decide (bx (4 * c9 + 1) < (a1 + mb_hi sw sy n + 1)))) && (decide (bx (4 * c9) < bx (4 * c9 + 2)) && decide (bx (4 * c9 + 1) < bx (4 * c9 + 3)))) = 0; rw [decide_eq_false (show ¬ bx (4 * c9) < bx (4 * c9 + 2) from Int32.not_lt.mpr d3), Bool.false_and, Bool.and_false]; rfl
                      rw [e9] at J2
                      refine lv_iconst (v := (0)) hx hb dMo_isBarred_291 (by decide) ?_
                      exact J2  _   (lv_sub hl [1, 2, 3, 4, 5, 6, 7, 8, 9] rfl)
                    · refine lv_aload_n hx hb dMo_isBarred_266 rfl (lv_at hl 1 rfl) ?_
                      refine dq_get (D := D) (ci := 8) (v := .ref (ad 113)) (C := RMo) (T := TMo) (N := 29) hx hb hts hinMo hown hK hW 100 m100 rfl 13 (by decide) hf38 (fun _ h9 => h9) rfl dMo_isBarred_267 ?_
                      refine lv_iload hx hb dMo_isBarred_270 (lv_at hl 9 rfl) ?_
                      refine lv_iconst (v := (1)) hx hb dMo_isBarred_272 (by decide) ?_
                      refine lv_iadd hx hb dMo_isBarred_273 ?_
                      refine dq_top (y := nI (4 * c9 + 1)) (nI_add (4 * c9) 1) ?_
                      refine dq_ialdN hx hb hK hW 113 0 m113 rfl (4 * c9 + 1) (by omega) (by omega) dMo_isBarred_274 ?_
                      refine lv_aload_n hx hb dMo_isBarred_275 rfl (lv_at hl 1 rfl) ?_
                      refine dq_get (D := D) (ci := 8) (v := .ref (ad 113)) (C := RMo) (T := TMo) (N := 29) hx hb hts hinMo hown hK hW 100 m100 rfl 13 (by decide) hf38 (fun _ h9 => h9) rfl dMo_isBarred_276 ?_
                      refine lv_iload hx hb dMo_isBarred_279 (lv_at hl 9 rfl) ?_
                      refine lv_iconst (v := (3)) hx hb dMo_isBarred_281 (by decide) ?_
                      refine lv_iadd hx hb dMo_isBarred_282 ?_
                      refine dq_top (y := nI (4 * c9 + 3)) (nI_add (4 * c9) 3) ?_
                      refine dq_ialdN hx hb hK hW 113 0 m113 rfl (4 * c9 + 3) (by omega) (by omega) dMo_isBarred_283 ?_
                      refine lv_icmp_ge (tgt := 291) hx hb dMo_isBarred_284 (by decide) (fun d4 => ?_) (fun d4 => ?_)
                      · have e9 : dq_b (dq_any (mb_box bx (a0 + mb_lo sw sx n - 1) (a0 + mb_hi sw sx n + 1) (a1 + mb_lo sw sy n - 1) (a1 + mb_hi sw sy n + 1)) (c9 + 1)) = 0 := by rw [dq_any_s]; rw [hno]; show dq_b (((decide ((a0 + mb_lo sw sx n - 1) < bx (4 * c9 + 2)) && decide (bx (4 * c9) < (a0 + mb_hi sw sx n + 1))) && (decide ((a1 + mb_lo sw sy n - 1) < bx (4 * c9 + 3)) && decide (bx (4 * c9 + 1) < (a1 + mb_hi sw sy n + 1)))) && (decide (bx (4 * c9) < bx (4 * c9 + 2)) && decide (bx (4 * c9 + 1) < bx (4 * c9 + 3)))) = 0; rw [decide_eq_false (show ¬ bx (4 * c9 + 1) < bx (4 * c9 + 3) from Int32.not_lt.mpr d4), Bool.and_false, Bool.and_false]; rfl
                        rw [e9] at J2
                        refine lv_iconst (v := (0)) hx hb dMo_isBarred_291 (by decide) ?_
                        exact J2  _   (lv_sub hl [1, 2, 3, 4, 5, 6, 7, 8, 9] rfl)
                      · have e9 : dq_b (dq_any (mb_box bx (a0 + mb_lo sw sx n - 1) (a0 + mb_hi sw sx n + 1) (a1 + mb_lo sw sy n - 1) (a1 + mb_hi sw sy n + 1)) (c9 + 1)) = 1 := by rw [dq_any_s]; rw [hno]; show dq_b (((decide ((a0 + mb_lo sw sx n - 1) < bx (4 * c9 + 2)) && decide (bx (4 * c9) < (a0 + mb_hi sw sx n + 1))) && (decide ((a1 + mb_lo sw sy n - 1) < bx (4 * c9 + 3)) && decide (bx (4 * c9 + 1) < (a1 + mb_hi sw sy n + 1)))) && (decide (bx (4 * c9) < bx (4 * c9 + 2)) && decide (bx (4 * c9 + 1) < bx (4 * c9 + 3)))) = 1; rw [hov, decide_eq_true (Int32.not_le.mp d3), decide_eq_true (Int32.not_le.mp d4)]; rfl
                        rw [e9] at J2
                        refine lv_iconst (v := (1)) hx hb dMo_isBarred_287 (by decide) ?_
                        refine lv_goto (tgt := 292) hx hb dMo_isBarred_288 (by decide) ?_
                        exact J2  _   (lv_sub hl [1, 2, 3, 4, 5, 6, 7, 8, 9] rfl)
              refine lv_iload_n hx hb dMo_isBarred_161 rfl (lv_at hl 1 rfl) ?_
              refine lv_iload_n hx hb dMo_isBarred_162 rfl (lv_at hl 3 rfl) ?_
              refine lv_iadd hx hb dMo_isBarred_163 ?_
              refine lv_iconst (v := (1)) hx hb dMo_isBarred_164 (by decide) ?_
              refine lv_isub hx hb dMo_isBarred_165 ?_
              refine lv_aload_n hx hb dMo_isBarred_166 rfl (lv_at hl 0 rfl) ?_
              refine dq_get (D := D) (ci := 8) (v := .ref (ad 113)) (C := RMo) (T := TMo) (N := 29) hx hb hts hinMo hown hK hW 100 m100 rfl 13 (by decide) hf38 (fun _ h9 => h9) rfl dMo_isBarred_167 ?_
              refine lv_iload hx hb dMo_isBarred_170 (lv_at hl 8 rfl) ?_
              refine lv_iconst (v := (2)) hx hb dMo_isBarred_172 (by decide) ?_
              refine lv_iadd hx hb dMo_isBarred_173 ?_
              refine dq_top (y := nI (4 * c9 + 2)) (nI_add (4 * c9) 2) ?_
              refine dq_ialdN hx hb hK hW 113 0 m113 rfl (4 * c9 + 2) (by omega) (by omega) dMo_isBarred_174 ?_
              refine lv_icmp_ge (tgt := 234) hx hb dMo_isBarred_175 (by decide) (fun e1 => ?_) (fun e1 => ?_)
              · have e8 : dq_b ((decide ((a0 + mb_lo sw sx n - 1) < bx (4 * c9 + 2)) && decide (bx (4 * c9) < (a0 + mb_hi sw sx n + 1))) && (decide ((a1 + mb_lo sw sy n - 1) < bx (4 * c9 + 3)) && decide (bx (4 * c9 + 1) < (a1 + mb_hi sw sy n + 1)))) = 0 := by rw [decide_eq_false (show ¬ (a0 + mb_lo sw sx n - 1) < bx (4 * c9 + 2) from Int32.not_lt.mpr e1)]; rfl
                rw [e8] at J1
                refine lv_iconst (v := (0)) hx hb dMo_isBarred_234 (by decide) ?_
                exact J1  _   (lv_sub hl [0, 1, 2, 3, 4, 5, 6, 7, 8] rfl)
              · refine lv_iload_n hx hb dMo_isBarred_178 rfl (lv_at hl 1 rfl) ?_
                refine lv_iload hx hb dMo_isBarred_179 (lv_at hl 4 rfl) ?_
                refine lv_iadd hx hb dMo_isBarred_181 ?_
                refine lv_iconst (v := (1)) hx hb dMo_isBarred_182 (by decide) ?_
                refine lv_iadd hx hb dMo_isBarred_183 ?_
                refine lv_aload_n hx hb dMo_isBarred_184 rfl (lv_at hl 0 rfl) ?_
                refine dq_get (D := D) (ci := 8) (v := .ref (ad 113)) (C := RMo) (T := TMo) (N := 29) hx hb hts hinMo hown hK hW 100 m100 rfl 13 (by decide) hf38 (fun _ h9 => h9) rfl dMo_isBarred_185 ?_
                refine lv_iload hx hb dMo_isBarred_188 (lv_at hl 8 rfl) ?_
                refine dq_ialdN hx hb hK hW 113 0 m113 rfl (4 * c9) (by omega) (by omega) dMo_isBarred_190 ?_
                refine lv_icmp_le (tgt := 234) hx hb dMo_isBarred_191 (by decide) (fun e2 => ?_) (fun e2 => ?_)
                · have e8 : dq_b ((decide ((a0 + mb_lo sw sx n - 1) < bx (4 * c9 + 2)) && decide (bx (4 * c9) < (a0 + mb_hi sw sx n + 1))) && (decide ((a1 + mb_lo sw sy n - 1) < bx (4 * c9 + 3)) && decide (bx (4 * c9 + 1) < (a1 + mb_hi sw sy n + 1)))) = 0 := by rw [decide_eq_true (Int32.not_le.mp e1), decide_eq_false (show ¬ bx (4 * c9) < (a0 + mb_hi sw sx n + 1) from Int32.not_lt.mpr e2)]; rfl
                  rw [e8] at J1
                  refine lv_iconst (v := (0)) hx hb dMo_isBarred_234 (by decide) ?_
                  exact J1  _   (lv_sub hl [0, 1, 2, 3, 4, 5, 6, 7, 8] rfl)
                · refine lv_iload_n hx hb dMo_isBarred_194 rfl (lv_at hl 2 rfl) ?_
                  refine lv_iload hx hb dMo_isBarred_195 (lv_at hl 5 rfl) ?_
                  refine lv_iadd hx hb dMo_isBarred_197 ?_
                  refine lv_iconst (v := (1)) hx hb dMo_isBarred_198 (by decide) ?_
                  refine lv_isub hx hb dMo_isBarred_199 ?_
                  refine lv_aload_n hx hb dMo_isBarred_200 rfl (lv_at hl 0 rfl) ?_
                  refine dq_get (D := D) (ci := 8) (v := .ref (ad 113)) (C := RMo) (T := TMo) (N := 29) hx hb hts hinMo hown hK hW 100 m100 rfl 13 (by decide) hf38 (fun _ h9 => h9) rfl dMo_isBarred_201 ?_
                  refine lv_iload hx hb dMo_isBarred_204 (lv_at hl 8 rfl) ?_
                  refine lv_iconst (v := (3)) hx hb dMo_isBarred_206 (by decide) ?_
                  refine lv_iadd hx hb dMo_isBarred_207 ?_
                  refine dq_top (y := nI (4 * c9 + 3)) (nI_add (4 * c9) 3) ?_
                  refine dq_ialdN hx hb hK hW 113 0 m113 rfl (4 * c9 + 3) (by omega) (by omega) dMo_isBarred_208 ?_
                  refine lv_icmp_ge (tgt := 234) hx hb dMo_isBarred_209 (by decide) (fun e3 => ?_) (fun e3 => ?_)
                  · have e8 : dq_b ((decide ((a0 + mb_lo sw sx n - 1) < bx (4 * c9 + 2)) && decide (bx (4 * c9) < (a0 + mb_hi sw sx n + 1))) && (decide ((a1 + mb_lo sw sy n - 1) < bx (4 * c9 + 3)) && decide (bx (4 * c9 + 1) < (a1 + mb_hi sw sy n + 1)))) = 0 := by rw [decide_eq_true (Int32.not_le.mp e1), decide_eq_true (Int32.not_le.mp e2), decide_eq_false (show ¬ (a1 + mb_lo sw sy n - 1) < bx (4 * c9 + 3) from Int32.not_lt.mpr e3)]; rfl
                    rw [e8] at J1
                    refine lv_iconst (v := (0)) hx hb dMo_isBarred_234 (by decide) ?_
                    exact J1  _   (lv_sub hl [0, 1, 2, 3, 4, 5, 6, 7, 8] rfl)
                  · refine lv_iload_n hx hb dMo_isBarred_212 rfl (lv_at hl 2 rfl) ?_
                    refine lv_iload hx hb dMo_isBarred_213 (lv_at hl 6 rfl) ?_
                    refine lv_iadd hx hb dMo_isBarred_215 ?_
                    refine lv_iconst (v := (1)) hx hb dMo_isBarred_216 (by decide) ?_
                    refine lv_iadd hx hb dMo_isBarred_217 ?_
                    refine lv_aload_n hx hb dMo_isBarred_218 rfl (lv_at hl 0 rfl) ?_
                    refine dq_get (D := D) (ci := 8) (v := .ref (ad 113)) (C := RMo) (T := TMo) (N := 29) hx hb hts hinMo hown hK hW 100 m100 rfl 13 (by decide) hf38 (fun _ h9 => h9) rfl dMo_isBarred_219 ?_
                    refine lv_iload hx hb dMo_isBarred_222 (lv_at hl 8 rfl) ?_
                    refine lv_iconst (v := (1)) hx hb dMo_isBarred_224 (by decide) ?_
                    refine lv_iadd hx hb dMo_isBarred_225 ?_
                    refine dq_top (y := nI (4 * c9 + 1)) (nI_add (4 * c9) 1) ?_
                    refine dq_ialdN hx hb hK hW 113 0 m113 rfl (4 * c9 + 1) (by omega) (by omega) dMo_isBarred_226 ?_
                    refine lv_icmp_le (tgt := 234) hx hb dMo_isBarred_227 (by decide) (fun e4 => ?_) (fun e4 => ?_)
                    · have e8 : dq_b ((decide ((a0 + mb_lo sw sx n - 1) < bx (4 * c9 + 2)) && decide (bx (4 * c9) < (a0 + mb_hi sw sx n + 1))) && (decide ((a1 + mb_lo sw sy n - 1) < bx (4 * c9 + 3)) && decide (bx (4 * c9 + 1) < (a1 + mb_hi sw sy n + 1)))) = 0 := by rw [decide_eq_true (Int32.not_le.mp e1), decide_eq_true (Int32.not_le.mp e2), decide_eq_true (Int32.not_le.mp e3), decide_eq_false (show ¬ bx (4 * c9 + 1) < (a1 + mb_hi sw sy n + 1) from Int32.not_lt.mpr e4)]; rfl
                      rw [e8] at J1
                      refine lv_iconst (v := (0)) hx hb dMo_isBarred_234 (by decide) ?_
                      exact J1  _   (lv_sub hl [0, 1, 2, 3, 4, 5, 6, 7, 8] rfl)
                    · have e8 : dq_b ((decide ((a0 + mb_lo sw sx n - 1) < bx (4 * c9 + 2)) && decide (bx (4 * c9) < (a0 + mb_hi sw sx n + 1))) && (decide ((a1 + mb_lo sw sy n - 1) < bx (4 * c9 + 3)) && decide (bx (4 * c9 + 1) < (a1 + mb_hi sw sy n + 1)))) = 1 := by rw [decide_eq_true (Int32.not_le.mp e1), decide_eq_true (Int32.not_le.mp e2), decide_eq_true (Int32.not_le.mp e3), decide_eq_true (Int32.not_le.mp e4)]; rfl
                      rw [e8] at J1
                      refine lv_iconst (v := (1)) hx hb dMo_isBarred_230 (by decide) ?_
                      refine lv_goto (tgt := 235) hx hb dMo_isBarred_231 (by decide) ?_
                      exact J1  _   (lv_sub hl [0, 1, 2, 3, 4, 5, 6, 7, 8] rfl)
        exact loop2 (cn + 1) 0 _ (by omega) (Nat.zero_le _)  (lv_sub hl [2, 3, 4, 5, 6, 7, 8, 1, 0] rfl)
      · have hkn : k < n := by rcases Nat.lt_or_ge k n with q | q; exact q; exact absurd (nI_le q (by omega)) c1
        refine lv_aload_n hx hb dMo_isBarred_27 rfl (lv_at hl 0 rfl) ?_
        refine dq_get (D := D) (ci := 8) (v := .ref (ad 104)) (C := RMo) (T := TMo) (N := 29) hx hb hts hinMo hown hK hW 100 m100 rfl 4 (by decide) hf16 (fun _ h9 => h9) rfl dMo_isBarred_28 ?_
        refine lv_iload hx hb dMo_isBarred_31 (lv_at hl 7 rfl) ?_
        refine dq_ialdN hx hb hK hW 104 0 m104 rfl k (by omega) (by omega) dMo_isBarred_33 ?_
        refine lv_if_le (tgt := 138) hx hb dMo_isBarred_34 (by decide) (fun c2 => ?_) (fun c2 => ?_)
        · have e0 : mb_lo sw sx (k + 1) = mb_lo sw sx k := if_pos c2
          have e1 : mb_hi sw sx (k + 1) = mb_hi sw sx k := if_pos c2
          have e2 : mb_lo sw sy (k + 1) = mb_lo sw sy k := if_pos c2
          have e3 : mb_hi sw sy (k + 1) = mb_hi sw sy k := if_pos c2
          refine lv_iinc (v := (nI (k + 1))) (lv' := [(7, .int (nI (k + 1))), (0, .ref (ad 100)), (1, .int a0), (2, .int a1), (3, .int (mb_lo sw sx k)), (4, .int (mb_hi sw sx k)), (5, .int (mb_lo sw sy k)), (6, .int (mb_hi sw sy k))]) hx hb dMo_isBarred_138 hl (k := 7) rfl (by show nI k + 1 = _; exact nI_1 _) (by decide) rfl (fun ls hl => ?_)
          refine lv_goto (tgt := 18) hx hb dMo_isBarred_141 (by decide) ?_
          exact ih (k + 1) _ (by omega) (by omega)  (by rw [e0, e1, e2, e3]; exact (lv_sub hl [1, 2, 3, 4, 5, 6, 7, 0] rfl))
        · have K0 : ∀ (ls : Array Slot), lv_has ls 10 [(0, .ref (ad 100)), (1, .int a0), (2, .int a1), (3, .int (mb_lo sw sx k)), (4, .int (mb_hi sw sx k)), (5, .int (mb_lo sw sy k)), (6, .int (mb_hi sw sy k)), (7, .int (nI k))] → W p l e ({ frames := 0, cells := 0, slots := 0, locals := 0 } : Room) s m ([.ref (ad 100), .int a0, .int a1] : List Value).toArray below meth c s.heap [] 0 0 Q (F0 m 59 ls [.int (mb_lo sw sx (k + 1))]) := by
            intro  ls   hl
            refine lv_istore_n (lv' := [(3, .int (mb_lo sw sx (k + 1))), (0, .ref (ad 100)), (1, .int a0), (2, .int a1), (4, .int (mb_hi sw sx k)), (5, .int (mb_lo sw sy k)), (6, .int (mb_hi sw sy k)), (7, .int (nI k))]) hx hb dMo_isBarred_59 rfl hl (by decide) rfl (fun ls hl => ?_)
            have K1 : ∀ (ls : Array Slot), lv_has ls 10 [(0, .ref (ad 100)), (1, .int a0), (2, .int a1), (3, .int (mb_lo sw sx (k + 1))), (4, .int (mb_hi sw sx k)), (5, .int (mb_lo sw sy k)), (6, .int (mb_hi sw sy k)), (7, .int (nI k))] → W p l e ({ frames := 0, cells := 0, slots := 0, locals := 0 } : Room) s m ([.ref (ad 100), .int a0, .int a1] : List Value).toArray below meth c s.heap [] 0 0 Q (F0 m 84 ls [.int (mb_hi sw sx (k + 1))]) := by
              intro  ls   hl
              refine lv_istore (lv' := [(4, .int (mb_hi sw sx (k + 1))), (0, .ref (ad 100)), (1, .int a0), (2, .int a1), (3, .int (mb_lo sw sx (k + 1))), (5, .int (mb_lo sw sy k)), (6, .int (mb_hi sw sy k)), (7, .int (nI k))]) hx hb dMo_isBarred_84 hl (by decide) rfl (fun ls hl => ?_)
              have K2 : ∀ (ls : Array Slot), lv_has ls 10 [(0, .ref (ad 100)), (1, .int a0), (2, .int a1), (3, .int (mb_lo sw sx (k + 1))), (4, .int (mb_hi sw sx (k + 1))), (5, .int (mb_lo sw sy k)), (6, .int (mb_hi sw sy k)), (7, .int (nI k))] → W p l e ({ frames := 0, cells := 0, slots := 0, locals := 0 } : Room) s m ([.ref (ad 100), .int a0, .int a1] : List Value).toArray below meth c s.heap [] 0 0 Q (F0 m 110 ls [.int (mb_lo sw sy (k + 1))]) := by
                intro  ls   hl
                refine lv_istore (lv' := [(5, .int (mb_lo sw sy (k + 1))), (0, .ref (ad 100)), (1, .int a0), (2, .int a1), (3, .int (mb_lo sw sx (k + 1))), (4, .int (mb_hi sw sx (k + 1))), (6, .int (mb_hi sw sy k)), (7, .int (nI k))]) hx hb dMo_isBarred_110 hl (by decide) rfl (fun ls hl => ?_)
                have K3 : ∀ (ls : Array Slot), lv_has ls 10 [(0, .ref (ad 100)), (1, .int a0), (2, .int a1), (3, .int (mb_lo sw sx (k + 1))), (4, .int (mb_hi sw sx (k + 1))), (5, .int (mb_lo sw sy (k + 1))), (6, .int (mb_hi sw sy k)), (7, .int (nI k))] → W p l e ({ frames := 0, cells := 0, slots := 0, locals := 0 } : Room) s m ([.ref (ad 100), .int a0, .int a1] : List Value).toArray below meth c s.heap [] 0 0 Q (F0 m 136 ls [.int (mb_hi sw sy (k + 1))]) := by
                  intro  ls   hl
                  refine lv_istore (lv' := [(6, .int (mb_hi sw sy (k + 1))), (0, .ref (ad 100)), (1, .int a0), (2, .int a1), (3, .int (mb_lo sw sx (k + 1))), (4, .int (mb_hi sw sx (k + 1))), (5, .int (mb_lo sw sy (k + 1))), (7, .int (nI k))]) hx hb dMo_isBarred_136 hl (by decide) rfl (fun ls hl => ?_)
                  refine lv_iinc (v := (nI (k + 1))) (lv' := [(7, .int (nI (k + 1))), (6, .int (mb_hi sw sy (k + 1))), (0, .ref (ad 100)), (1, .int a0), (2, .int a1), (3, .int (mb_lo sw sx (k + 1))), (4, .int (mb_hi sw sx (k + 1))), (5, .int (mb_lo sw sy (k + 1)))]) hx hb dMo_isBarred_138 hl (k := 7) rfl (by show nI k + 1 = _; exact nI_1 _) (by decide) rfl (fun ls hl => ?_)
                  refine lv_goto (tgt := 18) hx hb dMo_isBarred_141 (by decide) ?_
                  exact ih (k + 1) _ (by omega) (by omega)  (lv_sub hl [2, 3, 4, 5, 6, 7, 1, 0] rfl)
                refine lv_aload_n hx hb dMo_isBarred_112 rfl (lv_at hl 1 rfl) ?_
                refine dq_get (D := D) (ci := 8) (v := .ref (ad 103)) (C := RMo) (T := TMo) (N := 29) hx hb hts hinMo hown hK hW 100 m100 rfl 3 (by decide) hf13 (fun _ h9 => h9) rfl dMo_isBarred_113 ?_
                refine lv_iload hx hb dMo_isBarred_116 (lv_at hl 7 rfl) ?_
                refine dq_ialdN hx hb hK hW 103 0 m103 rfl k (by omega) (by omega) dMo_isBarred_118 ?_
                refine lv_iload hx hb dMo_isBarred_119 (lv_at hl 6 rfl) ?_
                refine lv_icmp_le (tgt := 134) hx hb dMo_isBarred_121 (by decide) (fun c6 => ?_) (fun c6 => ?_)
                · have e5 : mb_hi sw sy (k + 1) = mb_hi sw sy k := by show (if sw k ≤ 0 then _ else if _ then _ else _) = _; rw [if_neg c2, if_neg (show ¬ mb_hi sw sy k < sy k from Int32.not_lt.mpr c6)]
                  rw [e5] at K3
                  refine lv_iload hx hb dMo_isBarred_134 (lv_at hl 6 rfl) ?_
                  exact K3  _   (lv_sub hl [1, 2, 3, 4, 5, 0, 6, 7] rfl)
                · have e5 : mb_hi sw sy (k + 1) = sy k := by show (if sw k ≤ 0 then _ else if _ then _ else _) = _; rw [if_neg c2, if_pos (show mb_hi sw sy k < sy k from Int32.not_le.mp c6)]
                  rw [e5] at K3
                  refine lv_aload_n hx hb dMo_isBarred_124 rfl (lv_at hl 1 rfl) ?_
                  refine dq_get (D := D) (ci := 8) (v := .ref (ad 103)) (C := RMo) (T := TMo) (N := 29) hx hb hts hinMo hown hK hW 100 m100 rfl 3 (by decide) hf13 (fun _ h9 => h9) rfl dMo_isBarred_125 ?_
                  refine lv_iload hx hb dMo_isBarred_128 (lv_at hl 7 rfl) ?_
                  refine dq_ialdN hx hb hK hW 103 0 m103 rfl k (by omega) (by omega) dMo_isBarred_130 ?_
                  refine lv_goto (tgt := 136) hx hb dMo_isBarred_131 (by decide) ?_
                  exact K3  _   (lv_sub hl [1, 2, 3, 4, 5, 0, 6, 7] rfl)
              refine lv_aload_n hx hb dMo_isBarred_86 rfl (lv_at hl 1 rfl) ?_
              refine dq_get (D := D) (ci := 8) (v := .ref (ad 103)) (C := RMo) (T := TMo) (N := 29) hx hb hts hinMo hown hK hW 100 m100 rfl 3 (by decide) hf13 (fun _ h9 => h9) rfl dMo_isBarred_87 ?_
              refine lv_iload hx hb dMo_isBarred_90 (lv_at hl 7 rfl) ?_
              refine dq_ialdN hx hb hK hW 103 0 m103 rfl k (by omega) (by omega) dMo_isBarred_92 ?_
              refine lv_iload hx hb dMo_isBarred_93 (lv_at hl 5 rfl) ?_
              refine lv_icmp_ge (tgt := 108) hx hb dMo_isBarred_95 (by decide) (fun c5 => ?_) (fun c5 => ?_)
              · have e5 : mb_lo sw sy (k + 1) = mb_lo sw sy k := by show (if sw k ≤ 0 then _ else if _ then _ else _) = _; rw [if_neg c2, if_neg (show ¬ sy k < mb_lo sw sy k from Int32.not_lt.mpr c5)]
                rw [e5] at K2
                refine lv_iload hx hb dMo_isBarred_108 (lv_at hl 5 rfl) ?_
                exact K2  _   (lv_sub hl [1, 2, 3, 4, 0, 5, 6, 7] rfl)
              · have e5 : mb_lo sw sy (k + 1) = sy k := by show (if sw k ≤ 0 then _ else if _ then _ else _) = _; rw [if_neg c2, if_pos (show sy k < mb_lo sw sy k from Int32.not_le.mp c5)]
                rw [e5] at K2
                refine lv_aload_n hx hb dMo_isBarred_98 rfl (lv_at hl 1 rfl) ?_
                refine dq_get (D := D) (ci := 8) (v := .ref (ad 103)) (C := RMo) (T := TMo) (N := 29) hx hb hts hinMo hown hK hW 100 m100 rfl 3 (by decide) hf13 (fun _ h9 => h9) rfl dMo_isBarred_99 ?_
                refine lv_iload hx hb dMo_isBarred_102 (lv_at hl 7 rfl) ?_
                refine dq_ialdN hx hb hK hW 103 0 m103 rfl k (by omega) (by omega) dMo_isBarred_104 ?_
                refine lv_goto (tgt := 110) hx hb dMo_isBarred_105 (by decide) ?_
                exact K2  _   (lv_sub hl [1, 2, 3, 4, 0, 5, 6, 7] rfl)
            refine lv_aload_n hx hb dMo_isBarred_60 rfl (lv_at hl 1 rfl) ?_
            refine dq_get (D := D) (ci := 8) (v := .ref (ad 102)) (C := RMo) (T := TMo) (N := 29) hx hb hts hinMo hown hK hW 100 m100 rfl 2 (by decide) hf7 (fun _ h9 => h9) rfl dMo_isBarred_61 ?_
            refine lv_iload hx hb dMo_isBarred_64 (lv_at hl 7 rfl) ?_
            refine dq_ialdN hx hb hK hW 102 0 m102 rfl k (by omega) (by omega) dMo_isBarred_66 ?_
            refine lv_iload hx hb dMo_isBarred_67 (lv_at hl 4 rfl) ?_
            refine lv_icmp_le (tgt := 82) hx hb dMo_isBarred_69 (by decide) (fun c4 => ?_) (fun c4 => ?_)
            · have e5 : mb_hi sw sx (k + 1) = mb_hi sw sx k := by show (if sw k ≤ 0 then _ else if _ then _ else _) = _; rw [if_neg c2, if_neg (show ¬ mb_hi sw sx k < sx k from Int32.not_lt.mpr c4)]
              rw [e5] at K1
              refine lv_iload hx hb dMo_isBarred_82 (lv_at hl 4 rfl) ?_
              exact K1  _   (lv_sub hl [1, 2, 3, 0, 4, 5, 6, 7] rfl)
            · have e5 : mb_hi sw sx (k + 1) = sx k := by show (if sw k ≤ 0 then _ else if _ then _ else _) = _; rw [if_neg c2, if_pos (show mb_hi sw sx k < sx k from Int32.not_le.mp c4)]
              rw [e5] at K1
              refine lv_aload_n hx hb dMo_isBarred_72 rfl (lv_at hl 1 rfl) ?_
              refine dq_get (D := D) (ci := 8) (v := .ref (ad 102)) (C := RMo) (T := TMo) (N := 29) hx hb hts hinMo hown hK hW 100 m100 rfl 2 (by decide) hf7 (fun _ h9 => h9) rfl dMo_isBarred_73 ?_
              refine lv_iload hx hb dMo_isBarred_76 (lv_at hl 7 rfl) ?_
              refine dq_ialdN hx hb hK hW 102 0 m102 rfl k (by omega) (by omega) dMo_isBarred_78 ?_
              refine lv_goto (tgt := 84) hx hb dMo_isBarred_79 (by decide) ?_
              exact K1  _   (lv_sub hl [1, 2, 3, 0, 4, 5, 6, 7] rfl)
          refine lv_aload_n hx hb dMo_isBarred_37 rfl (lv_at hl 0 rfl) ?_
          refine dq_get (D := D) (ci := 8) (v := .ref (ad 102)) (C := RMo) (T := TMo) (N := 29) hx hb hts hinMo hown hK hW 100 m100 rfl 2 (by decide) hf7 (fun _ h9 => h9) rfl dMo_isBarred_38 ?_
          refine lv_iload hx hb dMo_isBarred_41 (lv_at hl 7 rfl) ?_
          refine dq_ialdN hx hb hK hW 102 0 m102 rfl k (by omega) (by omega) dMo_isBarred_43 ?_
          refine lv_iload_n hx hb dMo_isBarred_44 rfl (lv_at hl 3 rfl) ?_
          refine lv_icmp_ge (tgt := 58) hx hb dMo_isBarred_45 (by decide) (fun c3 => ?_) (fun c3 => ?_)
          · have e5 : mb_lo sw sx (k + 1) = mb_lo sw sx k := by show (if sw k ≤ 0 then _ else if _ then _ else _) = _; rw [if_neg c2, if_neg (show ¬ sx k < mb_lo sw sx k from Int32.not_lt.mpr c3)]
            rw [e5] at K0
            refine lv_iload_n hx hb dMo_isBarred_58 rfl (lv_at hl 3 rfl) ?_
            exact K0  _   (lv_sub hl [0, 1, 2, 3, 4, 5, 6, 7] rfl)
          · have e5 : mb_lo sw sx (k + 1) = sx k := by show (if sw k ≤ 0 then _ else if _ then _ else _) = _; rw [if_neg c2, if_pos (show sx k < mb_lo sw sx k from Int32.not_le.mp c3)]
            rw [e5] at K0
            refine lv_aload_n hx hb dMo_isBarred_48 rfl (lv_at hl 0 rfl) ?_
            refine dq_get (D := D) (ci := 8) (v := .ref (ad 102)) (C := RMo) (T := TMo) (N := 29) hx hb hts hinMo hown hK hW 100 m100 rfl 2 (by decide) hf7 (fun _ h9 => h9) rfl dMo_isBarred_49 ?_
            refine lv_iload hx hb dMo_isBarred_52 (lv_at hl 7 rfl) ?_
            refine dq_ialdN hx hb hK hW 102 0 m102 rfl k (by omega) (by omega) dMo_isBarred_54 ?_
            refine lv_goto (tgt := 59) hx hb dMo_isBarred_55 (by decide) ?_
            exact K0  _   (lv_sub hl [0, 1, 2, 3, 4, 5, 6, 7] rfl)
  exact loop (n + 1) 0 _ (by omega) (Nat.zero_le _)  (lv_sub hl [5, 6, 7, 4, 3, 2, 1, 0] rfl)
