/-! Sets of holes and hits: numbers as bits -/
theorem s_l : ∀ n, n < 32 → ((nI n &&& 31).toBitVec.smod 32).toNat = n := by decide +kernel
theorem nx_and (a b : Nat) : nI a &&& nI b = nI (a &&& b) := by
  apply Int32.toBitVec_inj.1
  show BitVec.ofNat 32 a &&& BitVec.ofNat 32 b = BitVec.ofNat 32 (a &&& b)
  apply BitVec.eq_of_getLsbD_eq
  intro i hi
  simp [hi]
theorem nx_xor (a b : Nat) : nI a ^^^ nI b = nI (a ^^^ b) := by
  apply Int32.toBitVec_inj.1
  show BitVec.ofNat 32 a ^^^ BitVec.ofNat 32 b = BitVec.ofNat 32 (a ^^^ b)
  apply BitVec.eq_of_getLsbD_eq
  intro i hi
  simp [hi]
theorem nx_or (a b : Nat) : nI a ||| nI b = nI (a ||| b) := by
  apply Int32.toBitVec_inj.1
  show BitVec.ofNat 32 a ||| BitVec.ofNat 32 b = BitVec.ofNat 32 (a ||| b)
  apply BitVec.eq_of_getLsbD_eq
  intro i hi
  simp [hi]
theorem dq_sh1 : ∀ k, k < 31 → (1 : Int32) <<< (nI k &&& 31) = nI (2 ^ k) := by decide +kernel
theorem dq_bitv {S k : Nat} (hS : S < 2 ^ 31) (hk : k < 31) : (nI S >>> (nI k &&& 31)) &&& 1 = nI (S / 2 ^ k % 2) := by
  rw [pk_shrN hS _ k (s_l k (by omega))]
  show nI (S / 2 ^ k) &&& nI 1 = _
  rw [nx_and, Nat.and_one_is_mod]
theorem dq_bit {S k : Nat} (hS : S < 2 ^ 31) (hk : k < 31) : (nI S >>> (nI k &&& 31)) &&& 1 = dq_b (S.testBit k) := by
  rw [dq_bitv hS hk, Nat.testBit_eq_decide_div_mod_eq]
  unfold dq_b
  have h2 : S / 2 ^ k % 2 < 2 := Nat.mod_lt _ (by omega)
  rcases (show S / 2 ^ k % 2 = 0 ∨ S / 2 ^ k % 2 = 1 by omega) with h | h
  · rw [h]; rfl
  · rw [h]; rfl
/-- all bits but those of D -/
def dq_nt (D : Nat) : Nat := D ^^^ 4294967295
/-- S without D -/
def dq_df (S D : Nat) : Nat := S &&& dq_nt D
theorem dq_dfI (S D : Nat) : nI S &&& (nI D ^^^ (-1)) = nI (dq_df S D) := by
  show nI S &&& (nI D ^^^ nI 4294967295) = _
  rw [nx_xor, nx_and]
  rfl
theorem dq_df_le (S D : Nat) : dq_df S D ≤ S := Nat.and_le_left
theorem dq_df_bit (S D j : Nat) (hj : j < 32) : (dq_df S D).testBit j = (S.testBit j && !(D.testBit j)) := by
  have h : (4294967295 : Nat).testBit j = true := by
    rw [show (4294967295 : Nat) = 2 ^ 32 - 1 from rfl, Nat.testBit_two_pow_sub_one]
    exact decide_eq_true hj
  unfold dq_df dq_nt
  rw [Nat.testBit_and, Nat.testBit_xor, h]
  cases D.testBit j <;> rfl
/-- the least bit -/
def dq_lo (S : Nat) : Nat := dq_fn (fun i => S.testBit i) 32
theorem dq_uu (f : Nat → Int32) (k : Nat) (a b : Int32) : upd (upd f k a) k b = upd f k b := by
  funext j
  by_cases h : j = k
  · subst h; rw [pk_us, pk_us]
  · rw [pk_un h, pk_un h, pk_un h]
/-- the bits i .. i + d - 1 with F -/
def mp_bits (F : Nat → Bool) (i : Nat) : Nat → Nat
  | 0 => 0
  | d + 1 => if F (i + d) = true then mp_bits F i d ||| 2 ^ (i + d) else mp_bits F i d
def mp_F (hx hy hw px py pw pd pf pt : Nat → Int32) (n i : Nat) (x y : Int32) (h : Nat) : Bool := ml_alike pd pf pt i h && !(decide (dq_fst (fun k => decide (hx k = px h - x) && decide (hy k = py h - y) && decide (hw k = pw h)) n = -1))
def mp_D (B : Nat → Nat) (Dr : Nat → Int32) (k : Nat) : Nat → Int32 := fun p => if p < k then nI (B p) else Dr p
theorem mp_D_0 (B : Nat → Nat) (Dr : Nat → Int32) : mp_D B Dr 0 = Dr := by
  funext p
  unfold mp_D
  rw [if_neg (by omega)]
theorem mp_D_s (B : Nat → Nat) (Dr : Nat → Int32) (k : Nat) : upd (mp_D B Dr k) k (nI (B k)) = mp_D B Dr (k + 1) := by
  funext p
  by_cases h : p = k
  · subst h
    rw [pk_us]
    unfold mp_D
    rw [if_pos (by omega)]
  · rw [pk_un h]
    unfold mp_D
    by_cases h2 : p < k
    · rw [if_pos h2, if_pos (by omega)]
    · rw [if_neg h2, if_neg (by omega)]
