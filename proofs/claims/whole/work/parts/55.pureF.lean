/-! PURE: the order of the class is that of the specification -/
theorem fu_bit {n S k : Nat} (hn : n ≤ 14) (hk : k < n) : (dq_df (2 ^ n - 1) S).testBit k = !(S.testBit k) := by
  rw [dq_df_bit _ _ _ (by omega), Nat.testBit_two_pow_sub_one, decide_eq_true hk]
  rfl
theorem fu_lt (n S : Nat) : dq_df (2 ^ n - 1) S < 2 ^ n := by
  have h1 := dq_df_le (2 ^ n - 1) S
  have h2 := Nat.two_pow_pos n
  omega
theorem fu_hi {n S k : Nat} (hk : n ≤ k) : (dq_df (2 ^ n - 1) S).testBit k = false := Nat.testBit_lt_two_pow (Nat.lt_of_lt_of_le (fu_lt n S) (Nat.pow_le_pow_right (by omega) hk))
theorem fu_df {n S k : Nat} (hn : n ≤ 14) (hk : k < n) : dq_df (dq_df (2 ^ n - 1) S) (2 ^ k) = dq_df (2 ^ n - 1) (S ||| 2 ^ k) := by
  apply Nat.eq_of_testBit_eq
  intro j
  by_cases hj : j < n
  · rw [dq_df1 _ _ _ (by omega), fu_bit hn hj, fu_bit hn hj, Nat.testBit_or, Nat.testBit_two_pow]
    cases S.testBit j <;> simp
  · have h1 : dq_df (dq_df (2 ^ n - 1) S) (2 ^ k) < 2 ^ n := Nat.lt_of_le_of_lt (dq_df_le _ _) (fu_lt n S)
    rw [fu_hi (by omega), Nat.testBit_lt_two_pow (Nat.lt_of_lt_of_le h1 (Nat.pow_le_pow_right (by omega) (by omega)))]
theorem fu_0 {n S : Nat} (hn : n ≤ 14) (hS : S < 2 ^ n) : dq_df (2 ^ n - 1) S = 0 ↔ S = 2 ^ n - 1 := by
  constructor
  · intro h
    apply Nat.eq_of_testBit_eq
    intro j
    by_cases hj : j < n
    · have h2 := fu_bit (S := S) hn hj
      rw [h, Nat.zero_testBit] at h2
      rw [Nat.testBit_two_pow_sub_one, decide_eq_true hj]
      cases hb : S.testBit j
      · rw [hb] at h2
        exact absurd h2 (by decide)
      · rfl
    · rw [Nat.testBit_two_pow_sub_one, decide_eq_false hj, Nat.testBit_lt_two_pow (Nat.lt_of_lt_of_le hS (Nat.pow_le_pow_right (by omega) (by omega)))]
  · intro h
    rcases Nat.eq_zero_or_pos (dq_df (2 ^ n - 1) S) with e | e
    · exact e
    · obtain ⟨k, hk, hb⟩ := dq_some_bit e (fu_lt n S)
      rw [fu_bit hn hk, h, Nat.testBit_two_pow_sub_one, decide_eq_true hk] at hb
      exact absurd hb (by decide)
/-- the shortest rests -/
def wG (X Y : Nat → Int32) (n S t : Nat) : Int64 := nL (ww (wd2 X Y) n (dq_df (2 ^ n - 1) S) t)
def ar_eq (X Y tX tY : Nat → Int32) (n : Nat) : Prop := ∀ k, k < n → tX k = X k ∧ tY k = Y k
theorem ms_bt_eq {X Y tX tY : Nat → Int32} {n : Nat} (h : in_ok X Y n) (he : ar_eq X Y tX tY n) {t k : Nat} (ht : t < n) (hk : k < n) : ms_bt tX tY t k = nL (wd2 X Y t k) := by
  rw [← ms_bt_ok (h k hk).1 (h k hk).2 (h t ht).1 (h t ht).2]
  unfold ms_bt
  rw [(he t ht).1, (he t ht).2, (he k hk).1, (he k hk).2]
theorem mo_b_eq {X Y tX tY : Nat → Int32} {n : Nat} (hn : n ≤ 14) (h : in_ok X Y n) (he : ar_eq X Y tX tY n) {S t : Nat} (hS : S < 2 ^ n) (ht : t < n) : ∀ k, k ≤ n → mo_b tX tY (wG X Y n) n S t k = nL (wm (wd2 X Y) (ww (wd2 X Y) n) (dq_df (2 ^ n - 1) S) t k) ∧ wm (wd2 X Y) (ww (wd2 X Y) n) (dq_df (2 ^ n - 1) S) t k ≤ 1152921504606846976 := by
  intro k
  induction k with
  | zero =>
    intro _
    unfold mo_b wm
    by_cases e : S = 2 ^ n - 1
    · rw [if_pos e, if_pos ((fu_0 hn hS).mpr e)]
      exact ⟨rfl, by omega⟩
    · rw [if_neg e, if_neg (fun h9 => e ((fu_0 hn hS).mp h9))]
      exact ⟨rfl, by omega⟩
  | succ k ih =>
    intro hk
    obtain ⟨i1, i2⟩ := ih (by omega)
    unfold mo_b wm
    rw [fu_bit hn (show k < n by omega)]
    cases hb : S.testBit k
    · rw [if_neg (show ¬ false = true by decide), if_pos (show (!false) = true by decide), i1, ms_bt_eq h he ht (by omega)]
      have e1 : wG X Y n (S ||| 2 ^ k) k = nL (ww (wd2 X Y) n (dq_df (dq_df (2 ^ n - 1) S) (2 ^ k)) k) := by
        rw [fu_df hn (by omega)]
        rfl
      rw [e1, nL_add]
      have b1 := wd2_le h t k ht (by omega)
      have b2 := ww_lt hn (wd2_le h) (show dq_df (dq_df (2 ^ n - 1) S) (2 ^ k) < 2 ^ n from Nat.lt_of_le_of_lt (dq_df_le _ _) (fu_lt n S)) (show k < n by omega)
      by_cases hc : wd2 X Y t k + ww (wd2 X Y) n (dq_df (dq_df (2 ^ n - 1) S) (2 ^ k)) k < wm (wd2 X Y) (ww (wd2 X Y) n) (dq_df (2 ^ n - 1) S) t k
      · rw [if_pos hc, if_pos ((nL_lt (by omega) (by omega)).mpr hc)]
        exact ⟨rfl, by omega⟩
      · rw [if_neg hc, if_neg (fun h9 => hc ((nL_lt (by omega) (by omega)).mp h9))]
        exact ⟨rfl, i2⟩
    · rw [if_pos (show true = true from rfl), if_neg (show ¬ (!true) = true by decide)]
      exact ⟨i1, i2⟩
theorem wG_ok {X Y tX tY : Nat → Int32} {n : Nat} (hn : n ≤ 14) (h : in_ok X Y n) (he : ar_eq X Y tX tY n) {S t : Nat} (hS : S < 2 ^ n) (ht : t < n) : wG X Y n S t = mo_b tX tY (wG X Y n) n S t n := by
  rw [(mo_b_eq hn h he hS ht n (Nat.le_refl n)).1]
  unfold wG
  rw [ww_rec (by omega)]
/-- where the head stands before a step -/
def w_at (X : Nat → Int32) (oN : Nat → Nat) (i : Nat) : Int32 := if i = 0 then 0 else X (oN (i - 1))
theorem w_at_in {X : Nat → Int32} {oN : Nat → Nat} {n i : Nat} (h : ∀ k, k < n → sp_in (X k) 20000) (ho : ∀ j, j < i → oN j < n) : sp_in (w_at X oN i) 20000 := by
  unfold w_at
  split
  · exact ⟨by decide, by decide⟩
  · exact h _ (ho _ (by omega))
theorem mo_step_ok {X Y tX tY : Nat → Int32} {n : Nat} (h : in_ok X Y n) (he : ar_eq X Y tX tY n) {oN : Nat → Nat} {i k : Nat} (hk : k < n) (ho : ∀ j, j < i → oN j < n) : mo_step tX tY oN i k = nL (wd X Y k (w_at X oN i) (w_at Y oN i)) := by
  unfold mo_step w_at
  by_cases hi : i = 0
  · rw [if_pos hi, if_pos hi, if_pos hi, (he k hk).1, (he k hk).2]
    obtain ⟨⟨a1, a2⟩, b1, b2⟩ := h k hk
    rw [ms_sz_ok rfl (by omega) (by omega), ms_sz_ok rfl (by omega) (by omega), nL_add]
    unfold wd
    have z : (0 : Int32).toInt = 0 := by decide
    rw [z, Int.sub_zero, Int.sub_zero]
  · rw [if_neg hi, if_neg hi, if_neg hi]
    exact ms_bt_eq h he (ho _ (by omega)) hk
theorem mw_len_ok {X Y tX tY : Nat → Int32} {n : Nat} (h : in_ok X Y n) (he : ar_eq X Y tX tY n) {oN : Nat → Nat} : ∀ i, (∀ j, j < i → oN j < n) → mw_len X Y oN i = (mo_way tX tY oN i, w_at X oN i, w_at Y oN i) := by
  intro i
  induction i with
  | zero => intro _; rfl
  | succ i ih =>
    intro ho
    have ho' : ∀ j, j < i → oN j < n := fun j hj => ho j (by omega)
    have hi := ho i (Nat.lt_succ_self i)
    unfold mw_len mo_way
    rw [ih ho']
    dsimp only
    obtain ⟨e1, e2⟩ := mw_d_ok (h _ hi).1 (h _ hi).2 (w_at_in (fun k hk => (h k hk).1) ho') (w_at_in (fun k hk => (h k hk).2) ho')
    rw [e1, nI_L (by omega), mo_step_ok h he hi ho']
    rfl
/-- which hits are done -/
def w_V (oN : Nat → Nat) : Nat → Nat
  | 0 => 0
  | i + 1 => w_V oN i ||| 2 ^ oN i
theorem w_V_lt {oN : Nat → Nat} {n : Nat} : ∀ i, (∀ j, j < i → oN j < n) → w_V oN i < 2 ^ n := by
  intro i
  induction i with
  | zero => intro _; exact Nat.two_pow_pos n
  | succ i ih =>
    intro h
    exact dq_or_lt (ih (fun j hj => h j (by omega))) (h i (Nat.lt_succ_self i))
theorem mw_tk_keep {sh X Y : Nat → Int32} {n : Nat} {sq : Nat → Int32} {i j : Nat} (hj : j < i) : ∀ d, (mw_tk sh X Y n sq (i + d)).1 j = (mw_tk sh X Y n sq i).1 j := by
  intro d
  induction d with
  | zero => rfl
  | succ d ih =>
    show (if (mw_nx sh X Y n (mw_tk sh X Y n sq (i + d)).2.1 (mw_tk sh X Y n sq (i + d)).2.2.1 (mw_tk sh X Y n sq (i + d)).2.2.2 n).1 = -1 then mw_tk sh X Y n sq (i + d) else _).1 j = _
    split
    · exact ih
    · show upd (mw_tk sh X Y n sq (i + d)).1 (i + d) _ j = _
      rw [pk_un (by omega)]
      exact ih
theorem mw_tk_out {sh X Y : Nat → Int32} {n : Nat} {sq : Nat → Int32} : ∀ i j, i ≤ j → (mw_tk sh X Y n sq i).1 j = sq j := by
  intro i
  induction i with
  | zero => intro j _; rfl
  | succ i ih =>
    intro j hj
    show (if (mw_nx sh X Y n (mw_tk sh X Y n sq i).2.1 (mw_tk sh X Y n sq i).2.2.1 (mw_tk sh X Y n sq i).2.2.2 n).1 = -1 then mw_tk sh X Y n sq i else _).1 j = _
    split
    · exact ih j (by omega)
    · show upd (mw_tk sh X Y n sq i).1 i _ j = _
      rw [pk_un (by omega)]
      exact ih j (by omega)
theorem od_ok {X Y tX tY : Nat → Int32} {n : Nat} (hn : n ≤ 10) (h : in_ok X Y n) (he : ar_eq X Y tX tY n) {sh : Nat → Int32} (hsh : sh_ok X Y n sh (2 ^ n)) (sq : Nat → Int32) (oN : Nat → Nat) (hoN : oN = fun i => ((mw_tk sh X Y n sq n).1 i).toNatClampNeg) :
    mo_O tX tY (wG X Y n) oN (w_V oN) n ∧ (∀ i, i < n → oN i < n ∧ (mw_tk sh X Y n sq n).1 i = nI (oN i)) := by
  have key : ∀ i, i ≤ n → (∀ j, j < i → oN j < n) ∧ (mw_tk sh X Y n sq i).2.1 = dq_df (2 ^ n - 1) (w_V oN i) ∧ (mw_tk sh X Y n sq i).2.2.1 = w_at X oN i ∧ (mw_tk sh X Y n sq i).2.2.2 = w_at Y oN i ∧
      ∀ j, j < i → (mw_tk sh X Y n sq n).1 j = nI (oN j) ∧ (w_V oN j).testBit (oN j) = false ∧ ∀ k, k < n → (w_V oN j).testBit k = false → mo_c tX tY (wG X Y n) oN (w_V oN) j (oN j) ≤ mo_c tX tY (wG X Y n) oN (w_V oN) j k ∧ (k < oN j → mo_c tX tY (wG X Y n) oN (w_V oN) j (oN j) < mo_c tX tY (wG X Y n) oN (w_V oN) j k) := by
    intro i
    induction i with
    | zero =>
      intro _
      refine ⟨fun j hj => absurd hj (Nat.not_lt_zero j), ?_, rfl, rfl, fun j hj => absurd hj (Nat.not_lt_zero j)⟩
      show 2 ^ n - 1 = dq_df (2 ^ n - 1) 0
      apply Nat.eq_of_testBit_eq
      intro j
      by_cases hj : j < n
      · rw [fu_bit (by omega) hj, Nat.testBit_two_pow_sub_one, decide_eq_true hj, Nat.zero_testBit]
        rfl
      · rw [fu_hi (by omega), Nat.testBit_two_pow_sub_one, decide_eq_false hj]
    | succ i ih =>
      intro hi
      obtain ⟨i1, i2, i3, i4, i5⟩ := ih (by omega)
      have hV := w_V_lt i i1
      have hxi := w_at_in (X := X) (fun k hk => (h k hk).1) i1
      have hyi := w_at_in (X := Y) (fun k hk => (h k hk).2) i1
      have ho : ∀ t, t < n → (dq_df (2 ^ n - 1) (w_V oN i)).testBit t = true → mw_o sh X Y n t (dq_df (2 ^ n - 1) (w_V oN i)) (w_at X oN i) (w_at Y oN i) = nI (wd X Y t (w_at X oN i) (w_at Y oN i) + ww (wd2 X Y) n (dq_df (dq_df (2 ^ n - 1) (w_V oN i)) (2 ^ t)) t) ∧ wd X Y t (w_at X oN i) (w_at Y oN i) + ww (wd2 X Y) n (dq_df (dq_df (2 ^ n - 1) (w_V oN i)) (2 ^ t)) t < 2 ^ 31 := by
        intro t ht hb
        refine mw_o_ok (by omega) h hxi hyi (fu_lt n _) ht ?_
        exact hsh _ (Nat.lt_of_le_of_lt (dq_df_le _ _) (fu_lt n _)) t ht (dq_df_off (by omega))
      have hT := mw_nx_T (sh := sh) (X := X) (Y := Y) (hc := n) (S := dq_df (2 ^ n - 1) (w_V oN i)) (x := w_at X oN i) (y := w_at Y oN i) (c := fun t => wd X Y t (w_at X oN i) (w_at Y oN i) + ww (wd2 X Y) n (dq_df (dq_df (2 ^ n - 1) (w_V oN i)) (2 ^ t)) t) n (by omega) ho
      have hpc := (mw_tk_ok sh X Y (hc := n) hn sq i (by omega)).1
      rcases hT with ⟨z1, z2⟩ | ⟨t, z1, z2, z3, z4, z5⟩
      · rw [i2, dq_pc_zero z2] at hpc
        omega
      · have hst := mw_tk_s (sh := sh) (hX := X) (hY := Y) (hc := n) (sq := sq) (i := i) (t := t) (by omega) (by rw [i2, i3, i4]; exact z2) (mw_ne1 (by omega))
        have hsq : (mw_tk sh X Y n sq n).1 i = nI t := by
          have e := mw_tk_keep (sh := sh) (X := X) (Y := Y) (n := n) (sq := sq) (i := i + 1) (j := i) (Nat.lt_succ_self i) (n - (i + 1))
          rw [show i + 1 + (n - (i + 1)) = n by omega, hst] at e
          exact e.trans pk_us
        have hoi : oN i = t := by
          rw [hoN]
          show ((mw_tk sh X Y n sq n).1 i).toNatClampNeg = t
          rw [hsq, nI_clamp (by omega)]
        have ho2 : ∀ j, j < i + 1 → oN j < n := fun j hj => by
          by_cases e : j = i
          · rw [e, hoi]; exact z1
          · exact i1 j (by omega)
        have hcc : ∀ k, k < n → mo_c tX tY (wG X Y n) oN (w_V oN) i k = nL (wd X Y k (w_at X oN i) (w_at Y oN i) + ww (wd2 X Y) n (dq_df (dq_df (2 ^ n - 1) (w_V oN i)) (2 ^ k)) k) := by
          intro k hk
          unfold mo_c
          rw [mo_step_ok h he hk i1, fu_df (by omega) hk]
          unfold wG
          rw [nL_add]
        have hVf : ∀ k, k < n → ((w_V oN i).testBit k = false ↔ (dq_df (2 ^ n - 1) (w_V oN i)).testBit k = true) := by
          intro k hk
          rw [fu_bit (by omega) hk]
          simp
        refine ⟨ho2, ?_, ?_, ?_, fun j hj => ?_⟩
        · rw [hst]
          show dq_df (mw_tk sh X Y n sq i).2.1 (2 ^ t) = dq_df (2 ^ n - 1) (w_V oN i ||| 2 ^ oN i)
          rw [i2, hoi, fu_df (by omega) z1]
        · rw [hst]
          show X t = (if i + 1 = 0 then 0 else X (oN (i + 1 - 1)))
          rw [if_neg (by omega), Nat.add_sub_cancel, hoi]
        · rw [hst]
          show Y t = (if i + 1 = 0 then 0 else Y (oN (i + 1 - 1)))
          rw [if_neg (by omega), Nat.add_sub_cancel, hoi]
        · by_cases e : j = i
          · rw [e, hoi]
            refine ⟨hsq, (hVf t z1).mpr z3, fun k hk hb => ?_⟩
            rw [hcc t z1, hcc k hk]
            have hb2 := (hVf k hk).mp hb
            have o1 := (ho t z1 z3).2
            have o2 := (ho k hk hb2).2
            obtain ⟨q1, q2⟩ := z5 k hk hb2
            exact ⟨(nL_le (by omega) (by omega)).mpr q1, fun h9 => (nL_lt (by omega) (by omega)).mpr (q2 h9)⟩
          · exact i5 j (by omega)
  obtain ⟨k1, -, -, -, k5⟩ := key n (Nat.le_refl n)
  refine ⟨⟨rfl, fun i hi => ?_⟩, fun i hi => ⟨k1 i hi, (k5 i hi).1⟩⟩
  obtain ⟨-, q2, q3⟩ := k5 i hi
  exact ⟨k1 i hi, q2, rfl, w_V_lt i (fun j hj => k1 j (by omega)), q3⟩
theorem wG_congr {X Y tX tY : Nat → Int32} {n : Nat} (hn : n ≤ 14) (h : in_ok X Y n) (he : ar_eq X Y tX tY n) : ∀ S t, S < 2 ^ n → t < n → wG tX tY n S t = wG X Y n S t := by
  have hd : ∀ t k, t < n → k < n → wd2 tX tY t k = wd2 X Y t k := fun t k ht hk => by
    unfold wd2 wd
    rw [(he t ht).1, (he t ht).2, (he k hk).1, (he k hk).2]
  have key : ∀ U t, U < 2 ^ n → t < n → ww (wd2 tX tY) n U t = ww (wd2 X Y) n U t := by
    intro U
    induction U using Nat.strongRecOn with
    | ind U ih =>
      intro t hU ht
      rw [ww_rec (by omega), ww_rec (by omega)]
      have : ∀ k, k ≤ n → wm (wd2 tX tY) (ww (wd2 tX tY) n) U t k = wm (wd2 X Y) (ww (wd2 X Y) n) U t k := by
        intro k
        induction k with
        | zero => intro _; simp only [wm]
        | succ k ihk =>
          intro hk
          unfold wm
          rw [ihk (by omega)]
          by_cases hb : U.testBit k = true
          · rw [if_pos hb, if_pos hb, hd t k ht (by omega), ih _ (dq_df_self (show k < 32 by omega) hb) k (Nat.lt_of_le_of_lt (dq_df_le _ _) hU) (by omega)]
          · rw [if_neg hb, if_neg hb]
      exact this n (Nat.le_refl n)
  intro S t hS ht
  unfold wG
  rw [key _ t (fu_lt n S) ht]
