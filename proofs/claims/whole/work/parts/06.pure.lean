/-! MIRRORS: what the methods compute, as functions -/
/-- the first of 0 .. n - 1 with P, or -1 -/
def dq_fst (P : Nat → Bool) (n : Nat) : Int32 := match (List.range n).find? P with
  | some k => nI k
  | none => -1
theorem dq_fst_at {P : Nat → Bool} {n k : Nat} (hk : k < n) (h : P k = true) (hb : ∀ i, i < k → P i = false) : dq_fst P n = nI k := by
  have h1 : (List.range n).find? P = some k := by
    rw [List.find?_range_eq_some]
    exact ⟨h, List.mem_range.mpr hk, fun j hj => by rw [hb j hj]; rfl⟩
  unfold dq_fst
  rw [h1]
theorem dq_fst_none {P : Nat → Bool} {n : Nat} (h : ∀ i, i < n → P i = false) : dq_fst P n = -1 := by
  have h1 : (List.range n).find? P = none := by
    rw [List.find?_eq_none]
    intro x hx
    rw [h x (List.mem_range.mp hx)]
    decide
  unfold dq_fst
  rw [h1]
/-- how many of 0 .. k - 1 have a number above 0 -/
def mh_cnt (f : Nat → Int32) : Nat → Nat
  | 0 => 0
  | k + 1 => if f k ≤ 0 then mh_cnt f k else mh_cnt f k + 1
theorem mh_cnt_le (f : Nat → Int32) (k : Nat) : mh_cnt f k ≤ k := by
  induction k with
  | zero => exact Nat.le_refl 0
  | succ k ih =>
    unfold mh_cnt
    split <;> omega
/-- the FRAME's least and greatest: over those with a width -/
def mh_lo (hw f : Nat → Int32) : Nat → Int32
  | 0 => 10000
  | k + 1 => if hw k ≤ 0 then mh_lo hw f k else (if f k < mh_lo hw f k then f k else mh_lo hw f k)
def mh_hi (hw f : Nat → Int32) : Nat → Int32
  | 0 => -10000
  | k + 1 => if hw k ≤ 0 then mh_hi hw f k else (if mh_hi hw f k < f k then f k else mh_hi hw f k)
def dq_any (P : Nat → Bool) (n : Nat) : Bool := (List.range n).any P
theorem dq_any_t {P : Nat → Bool} {n k : Nat} (hk : k < n) (h : P k = true) : dq_any P n = true := by
  unfold dq_any
  rw [List.any_eq_true]
  exact ⟨k, List.mem_range.mpr hk, h⟩
theorem dq_any_f {P : Nat → Bool} {n : Nat} (h : ∀ i, i < n → P i = false) : dq_any P n = false := by
  unfold dq_any
  rw [List.any_eq_false]
  intro x hx
  rw [h x (List.mem_range.mp hx)]
  decide
/-- the first of 0 .. n - 1 with P, or n -/
def dq_fn (P : Nat → Bool) (n : Nat) : Nat := ((List.range n).find? P).getD n
theorem dq_fn_eq {P : Nat → Bool} {n k : Nat} (hk : k ≤ n) (hb : ∀ i, i < k → P i = false) (h : k < n → P k = true) : dq_fn P n = k := by
  unfold dq_fn
  rcases Nat.lt_or_ge k n with q | q
  · have h1 : (List.range n).find? P = some k := by
      rw [List.find?_range_eq_some]
      exact ⟨h q, List.mem_range.mpr q, fun j hj => by rw [hb j hj]; rfl⟩
    rw [h1]; rfl
  · have hkn : k = n := by omega
    subst hkn
    have h1 : (List.range k).find? P = none := by
      rw [List.find?_eq_none]
      intro x hx
      rw [hb x (List.mem_range.mp hx)]
      decide
    rw [h1]; rfl
theorem dq_Uid {w : Nat → Option va_E} {r : Nat} {e : va_E} (h : w r = some e) : dq_U w r e = w := by
  funext j
  by_cases hj : j = r
  · subst hj; rw [dq_Us, h]
  · rw [dq_Un hj]
theorem dq_U3 {w : Nat → Option va_E} {a b c : Nat} {x y z x' y' z' : va_E} : dq_U (dq_U (dq_U (dq_U (dq_U (dq_U w a x) b y) c z) a x') b y') c z' = dq_U (dq_U (dq_U w a x') b y') c z' := by
  funext j
  by_cases h1 : j = c
  · simp [dq_U, h1]
  · by_cases h2 : j = b
    · subst h2; simp [dq_U, h1]
    · by_cases h3 : j = a
      · subst h3; simp [dq_U, h1, h2]
      · simp [dq_U, h1, h2, h3]
/-- (X i, Y i) comes before (a, b) -/
def mp_lt (X Y : Nat → Int32) (a b : Int32) (i : Nat) : Bool := decide (X i < a) || (decide (X i = a) && decide (Y i < b))
def mp_at (c : Nat) (X Y : Nat → Int32) (a b : Int32) : Nat := dq_fn (fun i => !(mp_lt X Y a b i)) c
def mp_sh (X : Nat → Int32) (t c : Nat) (a : Int32) : Nat → Int32 := fun j => if j < t then X j else if j = t then a else if j ≤ c then X (j - 1) else X j
def mp_ins (r : Nat × (Nat → Int32) × (Nat → Int32)) (a b : Int32) : Nat × (Nat → Int32) × (Nat → Int32) :=
  if (mp_at r.1 r.2.1 r.2.2 a b < r.1 ∧ r.2.1 (mp_at r.1 r.2.1 r.2.2 a b) = a ∧ r.2.2 (mp_at r.1 r.2.1 r.2.2 a b) = b) ∨ 16 ≤ r.1 then r
  else (r.1 + 1, mp_sh r.2.1 (mp_at r.1 r.2.1 r.2.2 a b) r.1 a, mp_sh r.2.2 (mp_at r.1 r.2.1 r.2.2 a b) r.1 b)
def mp_find (hx hy hw : Nat → Int32) (a b wd : Int32) (bar : Int32 → Int32 → Bool) (X Y : Nat → Int32) : Nat → Nat × (Nat → Int32) × (Nat → Int32)
  | 0 => (0, X, Y)
  | k + 1 => if hw k = wd then (if bar (a - hx k) (b - hy k) = true then mp_find hx hy hw a b wd bar X Y k else mp_ins (mp_find hx hy hw a b wd bar X Y k) (a - hx k) (b - hy k)) else mp_find hx hy hw a b wd bar X Y k
def mc_ov (a b c d : Int32) : Bool := decide ((if a < c then c else a) < (if d < b then d else b))
def mc_bar (cx0 cy0 cx1 cy1 : Nat → Int32) (cc_ : Nat) (f0 f1 f2 f3 : Int32) (x y : Int32) : Bool := dq_any (fun i => mc_ov (cx0 i) (cx1 i) (x + f0) (x + f2) && mc_ov (cy0 i) (cy1 i) (y + f1) (y + f3)) cc_
def dq_b (b : Bool) : Int32 := if b = true then 1 else 0
def ml_alike (pd pf pt : Nat → Int32) (a b : Nat) : Bool := decide (pf a = pf b) && decide (pt a = pt b) && (decide (¬ pt a = 0) || decide (pd a = pd b))
theorem dq_b_t {b : Bool} (h : ¬ dq_b b = 0) : b = true := by
  cases b
  · exact absurd rfl h
  · rfl
theorem dq_b_f {b : Bool} (h : dq_b b = 0) : b = false := by
  cases b
  · rfl
  · exact absurd h (by decide)
/-- the places above b up to c moved by one -/
def mp_s (X : Nat → Int32) (b c : Nat) : Nat → Int32 := fun j => if b < j ∧ j ≤ c then X (j - 1) else X j
theorem mp_s_0 (X : Nat → Int32) (c : Nat) : mp_s X c c = X := by
  funext j
  unfold mp_s
  rw [if_neg (by omega)]
theorem mp_s_step (X : Nat → Int32) {b c : Nat} (h : b + 1 ≤ c) : upd (mp_s X (b + 1) c) (b + 1) (mp_s X (b + 1) c b) = mp_s X b c := by
  funext j
  by_cases hj : j = b + 1
  · subst hj
    rw [pk_us]
    unfold mp_s
    rw [if_neg (by omega), if_pos (by omega)]
    rfl
  · rw [pk_un hj]
    unfold mp_s
    by_cases h1 : b + 1 < j ∧ j ≤ c
    · rw [if_pos h1, if_pos (by omega)]
    · rw [if_neg h1, if_neg (by omega)]
theorem mp_sh_s (X : Nat → Int32) (t c : Nat) (a : Int32) : upd (mp_s X t c) t a = mp_sh X t c a := by
  funext j
  by_cases hj : j = t
  · subst hj
    rw [pk_us]
    unfold mp_sh
    rw [if_neg (by omega), if_pos rfl]
  · rw [pk_un hj]
    unfold mp_s mp_sh
    by_cases h1 : j < t
    · rw [if_pos h1, if_neg (by omega)]
    · rw [if_neg h1, if_neg hj]
      by_cases h2 : j ≤ c
      · rw [if_pos h2, if_pos (by omega)]
      · rw [if_neg h2, if_neg (by omega)]
theorem mp_ins_le {r : Nat × (Nat → Int32) × (Nat → Int32)} {a b : Int32} (h : r.1 ≤ 16) : (mp_ins r a b).1 ≤ 16 := by
  unfold mp_ins
  split
  · exact h
  · show r.1 + 1 ≤ 16
    omega
theorem mp_find_le (hx hy hw : Nat → Int32) (a b wd : Int32) (bar : Int32 → Int32 → Bool) (X Y : Nat → Int32) (k : Nat) : (mp_find hx hy hw a b wd bar X Y k).1 ≤ 16 := by
  induction k with
  | zero => exact Nat.zero_le 16
  | succ k ih =>
    unfold mp_find
    split
    · split
      · exact ih
      · exact mp_ins_le ih
    · exact ih
