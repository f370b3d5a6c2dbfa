/-! PURE: the fewest hits -/
theorem dq_pc_ct (S n : Nat) : dq_pc S n = dq_ct (fun j => S.testBit j) n := by
  induction n with
  | zero => rfl
  | succ n ih =>
    show (if S.testBit n = true then dq_pc S n + 1 else dq_pc S n) = (if S.testBit n = true then dq_ct (fun j => S.testBit j) n + 1 else dq_ct (fun j => S.testBit j) n)
    rw [ih]
theorem dq_pc_lt {S T n i : Nat} (hST : ∀ j, T.testBit j = true → S.testBit j = true) (hi : i < n) (h1 : S.testBit i = true) (h2 : T.testBit i = false) : dq_pc T n < dq_pc S n := by
  rw [dq_pc_ct, dq_pc_ct]
  exact dq_ct_lt (P := fun j => S.testBit j) (R := fun j => T.testBit j) hST hi h1 h2
theorem dq_df_sub {S D : Nat} (hS : S < 2 ^ 32) {j : Nat} (h : (dq_df S D).testBit j = true) : S.testBit j = true := by
  by_cases hj : j < 32
  · rw [dq_df_bit S D j hj] at h
    exact (Bool.and_eq_true_iff.mp h).1
  · have h1 : dq_df S D < 2 ^ j := Nat.lt_of_le_of_lt (dq_df_le _ _) (Nat.lt_of_lt_of_le hS (Nat.pow_le_pow_right (by omega) (by omega)))
    rw [Nat.testBit_lt_two_pow h1] at h
    exact absurd h (by decide)
theorem mo_min_congr {FF FF' : Nat → Nat} {D : Nat → Nat} {S : Nat} : ∀ q, (∀ p, p < q → FF (dq_df S (D p)) = FF' (dq_df S (D p))) → mo_min FF D S q = mo_min FF' D S q := by
  intro q
  induction q with
  | zero => intro _; rfl
  | succ q ih =>
    intro h
    show (if FF (dq_df S (D q)) + 1 < mo_min FF D S q then FF (dq_df S (D q)) + 1 else mo_min FF D S q) = (if FF' (dq_df S (D q)) + 1 < mo_min FF' D S q then FF' (dq_df S (D q)) + 1 else mo_min FF' D S q)
    rw [ih (fun p hp => h p (by omega)), h q (Nat.lt_succ_self q)]
theorem mo_min_at {FF : Nat → Nat} {D : Nat → Nat} {S : Nat} : ∀ q p, p < q → mo_min FF D S q ≤ FF (dq_df S (D p)) + 1 := by
  intro q
  induction q with
  | zero => intro p hp; exact absurd hp (Nat.not_lt_zero p)
  | succ q ih =>
    intro p hp
    show (if FF (dq_df S (D q)) + 1 < mo_min FF D S q then FF (dq_df S (D q)) + 1 else mo_min FF D S q) ≤ _
    by_cases e : p = q
    · subst e
      split <;> omega
    · have := ih p (by omega)
      split <;> omega
def ff_k (DM : Nat → Nat → Nat) (qs : Nat → Nat) : Nat → Nat → Nat
  | 0, _ => 0
  | k + 1, S => if S = 0 then 0 else mo_min (ff_k DM qs k) (DM (dq_lo S)) S (qs (dq_lo S))
def ff (DM : Nat → Nat → Nat) (qs : Nat → Nat) (S : Nat) : Nat := ff_k DM qs S S
theorem ff_stable {DM : Nat → Nat → Nat} {qs : Nat → Nat} {hn : Nat} (h14 : hn ≤ 14) (hD : ∀ h, h < hn → ∀ p, p < qs h → (DM h p).testBit h = true) : ∀ S k k', S < 2 ^ hn → S ≤ k → S ≤ k' → ff_k DM qs k S = ff_k DM qs k' S := by
  intro S
  induction S using Nat.strongRecOn with
  | ind S ih =>
    intro k k' hS hk hk'
    by_cases h0 : S = 0
    · subst h0
      cases k <;> cases k' <;> simp [ff_k]
    · obtain ⟨a, rfl⟩ : ∃ a, k = a + 1 := ⟨k - 1, by omega⟩
      obtain ⟨b, rfl⟩ : ∃ b, k' = b + 1 := ⟨k' - 1, by omega⟩
      show (if S = 0 then 0 else _) = (if S = 0 then 0 else _)
      rw [if_neg h0, if_neg h0]
      obtain ⟨hlo, hbit, hS14⟩ := dq_lo_hn (by omega) hS h14
      refine mo_min_congr _ fun p hp => ?_
      have hlt := dq_df_lt hbit (hD _ hlo p hp) (by omega)
      exact ih _ hlt a b (by omega) (by omega) (by omega)
theorem ff_rec {DM : Nat → Nat → Nat} {qs : Nat → Nat} {hn : Nat} (h14 : hn ≤ 14) (hD : ∀ h, h < hn → ∀ p, p < qs h → (DM h p).testBit h = true) {S : Nat} (h0 : 0 < S) (hS : S < 2 ^ hn) : ff DM qs S = mo_min (ff DM qs) (DM (dq_lo S)) S (qs (dq_lo S)) := by
  unfold ff
  obtain ⟨a, rfl⟩ : ∃ a, S = a + 1 := ⟨S - 1, by omega⟩
  show (if a + 1 = 0 then 0 else _) = _
  rw [if_neg (by omega)]
  obtain ⟨hlo, hbit, hS14⟩ := dq_lo_hn (by omega) hS h14
  refine mo_min_congr _ fun p hp => ?_
  have hlt := dq_df_lt hbit (hD _ hlo p hp) (by omega)
  exact ff_stable h14 hD _ _ _ (by omega) (by omega) (Nat.le_refl _)
theorem ff_0 (DM : Nat → Nat → Nat) (qs : Nat → Nat) : ff DM qs 0 = 0 := rfl
theorem ff_le {DM : Nat → Nat → Nat} {qs : Nat → Nat} {hn : Nat} (h14 : hn ≤ 14) (hD : ∀ h, h < hn → ∀ p, p < qs h → (DM h p).testBit h = true) : ∀ S, S < 2 ^ hn → (∀ h, S.testBit h = true → 0 < qs h) → ff DM qs S ≤ dq_pc S 14 := by
  intro S
  induction S using Nat.strongRecOn with
  | ind S ih =>
    intro hS hq
    by_cases h0 : S = 0
    · subst h0
      exact Nat.zero_le _
    · obtain ⟨hlo, hbit, hS14⟩ := dq_lo_hn (by omega) hS h14
      have h1 := hq _ hbit
      have hb0 := hD _ hlo 0 h1
      have hlt := dq_df_lt hbit hb0 (by omega)
      have h2 := ih _ hlt (by omega) (fun h hb => hq h (dq_df_sub (by omega) hb))
      have h3 : dq_pc (dq_df S (DM (dq_lo S) 0)) 14 < dq_pc S 14 := dq_pc_lt (fun j hj => dq_df_sub (by omega) hj) (show dq_lo S < 14 by omega) hbit (by rw [dq_df_bit _ _ _ (by omega), hbit, hb0]; rfl)
      have h4 := mo_min_at (FF := ff DM qs) (D := DM (dq_lo S)) (S := S) (qs (dq_lo S)) 0 h1
      rw [ff_rec h14 hD (by omega) hS]
      omega
/-- the least of the first values, at most 14 -/
def ma (v : Nat → Nat) : Nat → Nat
  | 0 => 14
  | p + 1 => if v p < ma v p then v p else ma v p
theorem ma_le (v : Nat → Nat) (q : Nat) : ma v q ≤ 14 := by
  induction q with
  | zero => exact Nat.le_refl 14
  | succ q ih => unfold ma; split <;> omega
theorem mt_aft_ma {fw : Nat → Int32} {DN : Nat → Nat} {S : Nat} {v : Nat → Nat} : ∀ q, (∀ p, p < q → fw (dq_df S (DN p)) = nI (v p) ∧ v p ≤ 14) → mt_aft fw DN S q = nI (ma v q) := by
  intro q
  induction q with
  | zero => intro _; rfl
  | succ q ih =>
    intro h
    show (if fw (dq_df S (DN q)) < mt_aft fw DN S q then fw (dq_df S (DN q)) else mt_aft fw DN S q) = nI (if v q < ma v q then v q else ma v q)
    have h1 := ih (fun p hp => h p (by omega))
    obtain ⟨h2, h3⟩ := h q (Nat.lt_succ_self q)
    have h4 := ma_le v q
    rw [h1, h2]
    by_cases hc : v q < ma v q
    · rw [if_pos hc, if_pos (nI_lt hc (by omega))]
    · rw [if_neg hc, if_neg (nI_nlt (by omega) (by omega))]
theorem ma_min {FF : Nat → Nat} {D : Nat → Nat} {S : Nat} {v : Nat → Nat} : ∀ q, (∀ p, p < q → FF (dq_df S (D p)) = v p ∧ v p ≤ 14) → (q = 0 ∧ ma v q = 14 ∧ mo_min FF D S q = 1000000000) ∨ (mo_min FF D S q = ma v q + 1 ∧ ∃ p, p < q ∧ v p = ma v q) := by
  intro q
  induction q with
  | zero => intro _; exact Or.inl ⟨rfl, rfl, rfl⟩
  | succ q ih =>
    intro h
    obtain ⟨h2, h3⟩ := h q (Nat.lt_succ_self q)
    have e1 : mo_min FF D S (q + 1) = if FF (dq_df S (D q)) + 1 < mo_min FF D S q then FF (dq_df S (D q)) + 1 else mo_min FF D S q := rfl
    have e2 : ma v (q + 1) = if v q < ma v q then v q else ma v q := rfl
    right
    rcases ih (fun p hp => h p (by omega)) with ⟨z1, z2, z3⟩ | ⟨z1, p, z2, z3⟩
    · have e3 : ma v (q + 1) = v q := by
        rw [e2, z2]
        split <;> omega
      rw [e1, e3, z3, h2, if_pos (by omega)]
      exact ⟨rfl, q, Nat.lt_succ_self q, rfl⟩
    · rw [e1, e2, h2, z1]
      by_cases hc : v q < ma v q
      · rw [if_pos (by omega), if_pos hc]
        exact ⟨rfl, q, Nat.lt_succ_self q, rfl⟩
      · rw [if_neg (by omega), if_neg hc]
        exact ⟨rfl, p, by omega, z3⟩
/-- what the marks are: closed, and parts of M -/
def mk_ok (DN : Nat → Nat → Nat) (qs : Nat → Nat) (hn : Nat) : Prop := ∀ h, h < hn → ∀ p, p < qs h → (DN h p).testBit h = true
theorem mt_row_keep {f : Nat → Int32} {D : Nat → Nat} {S T : Nat} (h : f T = -1) (q : Nat) : mt_row f D S q T = -1 := by
  induction q with
  | zero => exact h
  | succ q ih =>
    show upd (mt_row f D S q) (dq_df S (D q)) (-1) T = -1
    by_cases e : T = dq_df S (D q)
    · subst e; exact pk_us
    · rw [pk_un e]; exact ih
theorem mt_row_at {f : Nat → Int32} {D : Nat → Nat} {S : Nat} : ∀ q p, p < q → mt_row f D S q (dq_df S (D p)) = -1 := by
  intro q
  induction q with
  | zero => intro p hp; exact absurd hp (Nat.not_lt_zero p)
  | succ q ih =>
    intro p hp
    show upd (mt_row f D S q) (dq_df S (D q)) (-1) _ = -1
    by_cases e : dq_df S (D p) = dq_df S (D q)
    · rw [e]; exact pk_us
    · rw [pk_un e]
      exact ih p (by rcases Nat.lt_or_ge p q with h | h; exact h; exact absurd (by rw [show p = q by omega]) e)
theorem mt_row_out {f : Nat → Int32} {D : Nat → Nat} {S T : Nat} : ∀ q, (∀ p, p < q → dq_df S (D p) ≠ T) → mt_row f D S q T = f T := by
  intro q
  induction q with
  | zero => intro _; rfl
  | succ q ih =>
    intro h
    show upd (mt_row f D S q) (dq_df S (D q)) (-1) T = f T
    rw [pk_un (fun e => h q (Nat.lt_succ_self q) e.symm)]
    exact ih (fun p hp => h p (by omega))
theorem mt_st_keep {f : Nat → Int32} {DN : Nat → Nat → Nat} {qs : Nat → Nat} {S T : Nat} (h : f T = -1) : mt_st f DN qs S T = -1 := by
  unfold mt_st
  split
  · exact mt_row_keep h _
  · exact h
theorem mt_st_up {f : Nat → Int32} {DN : Nat → Nat → Nat} {qs : Nat → Nat} {hn S T : Nat} (h14 : hn ≤ 14) (hk : mk_ok DN qs hn) (hS : S < 2 ^ hn) (h0 : 0 < S) (hT : S ≤ T) : mt_st f DN qs S T = f T := by
  unfold mt_st
  split
  · refine mt_row_out _ fun p hp e => ?_
    obtain ⟨hlo, hbit, hS14⟩ := dq_lo_hn h0 hS h14
    have := dq_df_lt hbit (hk _ hlo p hp) (by omega)
    omega
  · rfl
theorem mt_mk_fix {f : Nat → Int32} {DN : Nat → Nat → Nat} {qs : Nat → Nat} {hn M S : Nat} (h14 : hn ≤ 14) (hk : mk_ok DN qs hn) (hM : M < 2 ^ hn) (hS : S ≤ M) : ∀ d, M - S + d ≤ M → mt_mk f DN qs M (M - S + d) S = mt_mk f DN qs M (M - S) S := by
  intro d
  induction d with
  | zero => intro _; rfl
  | succ d ih =>
    intro hd
    show mt_st (mt_mk f DN qs M (M - S + d)) DN qs (M - (M - S + d)) S = _
    rw [mt_st_up h14 hk (by omega) (by omega) (by omega)]
    exact ih (by omega)
theorem mt_mk_keep {f : Nat → Int32} {DN : Nat → Nat → Nat} {qs : Nat → Nat} {M T : Nat} : ∀ c d, mt_mk f DN qs M c T = -1 → mt_mk f DN qs M (c + d) T = -1 := by
  intro c d
  induction d with
  | zero => exact fun h => h
  | succ d ih => exact fun h => mt_st_keep (ih h)
theorem mt_mk_closed {f : Nat → Int32} {DN : Nat → Nat → Nat} {qs : Nat → Nat} {hn M S : Nat} (h14 : hn ≤ 14) (hk : mk_ok DN qs hn) (hM : M < 2 ^ hn) (h0 : 0 < S) (hS : S ≤ M) (hm : mt_mk f DN qs M M S = -1) {p : Nat} (hp : p < qs (dq_lo S)) : mt_mk f DN qs M M (dq_df S (DN (dq_lo S) p)) = -1 := by
  have e1 := mt_mk_fix (f := f) h14 hk hM hS S (by omega)
  rw [show M - S + S = M by omega, hm] at e1
  have e2 : mt_mk f DN qs M (M - S + 1) (dq_df S (DN (dq_lo S) p)) = -1 := by
    show mt_st (mt_mk f DN qs M (M - S)) DN qs (M - (M - S)) _ = -1
    rw [show M - (M - S) = S by omega]
    unfold mt_st
    rw [if_pos e1.symm]
    exact mt_row_at _ p hp
  have := mt_mk_keep (M - S + 1) (S - 1) e2
  rw [show M - S + 1 + (S - 1) = M by omega] at this
  exact this
theorem mt_row_sub {f : Nat → Int32} {D : Nat → Nat} {S T : Nat} {P : Nat → Prop} (hS : ∀ d, P (dq_df S d)) (hf : f T = -1 → P T) : ∀ q, mt_row f D S q T = -1 → P T := by
  intro q
  induction q with
  | zero => exact hf
  | succ q ih =>
    intro h
    by_cases e : T = dq_df S (D q)
    · rw [e]; exact hS _
    · have h2 : upd (mt_row f D S q) (dq_df S (D q)) (-1) T = -1 := h
      rw [pk_un e] at h2
      exact ih h2
theorem mt_mk_sub {f : Nat → Int32} {DN : Nat → Nat → Nat} {qs : Nat → Nat} {M : Nat} (hM : M < 2 ^ 32) : ∀ c, c ≤ M → ∀ T, T ≤ M → mt_mk (mt_m0 f M) DN qs M c T = -1 → ∀ j, T.testBit j = true → M.testBit j = true := by
  intro c
  induction c with
  | zero =>
    intro _ T hT h
    have h2 : upd (mt_z f M) M (-1) T = -1 := h
    by_cases e : T = M
    · rw [e]; exact fun j hj => hj
    · rw [pk_un e] at h2
      have h3 : mt_z f M T = 0 := if_pos (by omega)
      rw [h3] at h2
      exact absurd h2 (by decide)
  | succ c ih =>
    intro hc T hT h
    have h2 : mt_st (mt_mk (mt_m0 f M) DN qs M c) DN qs (M - c) T = -1 := h
    unfold mt_st at h2
    split at h2
    · rename_i h3
      have hU := ih (by omega) (M - c) (by omega) h3
      exact mt_row_sub (P := fun T => ∀ j, T.testBit j = true → M.testBit j = true) (fun d j hj => hU j (dq_df_sub (by omega) hj)) (ih (by omega) T hT) _ h2
    · exact ih (by omega) T hT h2
/-- the class's table at a marked set -/
theorem mt_fl_ok {f : Nat → Int32} {DN DM : Nat → Nat → Nat} {qs : Nat → Nat} {hn M : Nat} (h14 : hn ≤ 14) (hk : mk_ok DN qs hn) (hD : mk_ok DM qs hn) (hDD : ∀ S, 0 < S → S < 2 ^ hn → ∀ p, p < qs (dq_lo S) → dq_df S (DN (dq_lo S) p) = dq_df S (DM (dq_lo S) p)) (hM : M < 2 ^ hn) (hq : ∀ h, M.testBit h = true → 0 < qs h) :
    ∀ c, c ≤ M → (∀ S, S ≤ c → (mt_mk (mt_m0 f M) DN qs M M S = -1 ∨ S = 0) → mt_fl (mt_mk (mt_m0 f M) DN qs M M) DN qs c S = nI (ff DM qs S)) ∧ ∀ S, c < S → mt_fl (mt_mk (mt_m0 f M) DN qs M M) DN qs c S = mt_mk (mt_m0 f M) DN qs M M S := by
  have hM32 : M < 2 ^ 32 := Nat.lt_of_lt_of_le hM (Nat.pow_le_pow_right (by omega) (by omega))
  intro c
  induction c with
  | zero =>
    intro _
    refine ⟨fun S hS _ => ?_, fun S hS => ?_⟩
    · rw [show S = 0 by omega]
      exact pk_us
    · exact pk_un (by omega)
  | succ c ih =>
    intro hc
    obtain ⟨i1, i2⟩ := ih (by omega)
    have e : mt_fl (mt_mk (mt_m0 f M) DN qs M M) DN qs (c + 1) = if mt_fl (mt_mk (mt_m0 f M) DN qs M M) DN qs c (c + 1) = -1 then upd (mt_fl (mt_mk (mt_m0 f M) DN qs M M) DN qs c) (c + 1) (1 + mt_aft (mt_fl (mt_mk (mt_m0 f M) DN qs M M) DN qs c) (DN (dq_lo (c + 1))) (c + 1) (qs (dq_lo (c + 1)))) else mt_fl (mt_mk (mt_m0 f M) DN qs M M) DN qs c := rfl
    rw [i2 (c + 1) (Nat.lt_succ_self c)] at e
    by_cases hm : mt_mk (mt_m0 f M) DN qs M M (c + 1) = -1
    · rw [if_pos hm] at e
      rw [e]
      refine ⟨fun S hS hS2 => ?_, fun S hS => ?_⟩
      · by_cases hSc : S = c + 1
        · subst hSc
          rw [pk_us]
          have hsub := mt_mk_sub hM32 M (Nat.le_refl M) (c + 1) hc hm
          obtain ⟨hlo, hbit, hS14⟩ := dq_lo_hn (S := c + 1) (by omega) (by omega) h14
          have hq0 := hq _ (hsub _ hbit)
          have hv : ∀ p, p < qs (dq_lo (c + 1)) → mt_fl (mt_mk (mt_m0 f M) DN qs M M) DN qs c (dq_df (c + 1) (DN (dq_lo (c + 1)) p)) = nI (ff DM qs (dq_df (c + 1) (DM (dq_lo (c + 1)) p))) ∧ ff DM qs (dq_df (c + 1) (DM (dq_lo (c + 1)) p)) ≤ 14 := by
            intro p hp
            have hlt := dq_df_lt hbit (hk _ hlo p hp) (by omega)
            have hcl := mt_mk_closed h14 hk hM (by omega) hc hm hp
            have h1 := i1 _ (by omega) (Or.inl hcl)
            rw [hDD (c + 1) (by omega) (by omega) p hp] at h1 hlt ⊢
            refine ⟨h1, ?_⟩
            have h2 := ff_le h14 hD _ (show dq_df (c + 1) (DM (dq_lo (c + 1)) p) < 2 ^ hn by omega) (fun h hb => hq h (hsub h (dq_df_sub (by omega) hb)))
            exact Nat.le_trans h2 (dq_pc_le _ 14)
          rw [mt_aft_ma (v := fun p => ff DM qs (dq_df (c + 1) (DM (dq_lo (c + 1)) p))) _ hv]
          rcases ma_min (FF := ff DM qs) (D := DM (dq_lo (c + 1))) (S := c + 1) (v := fun p => ff DM qs (dq_df (c + 1) (DM (dq_lo (c + 1)) p))) (qs (dq_lo (c + 1))) (fun p hp => ⟨rfl, (hv p hp).2⟩) with ⟨z, -⟩ | ⟨z, -⟩
          · omega
          · rw [ff_rec h14 hD (by omega) (by omega), z, Int32.add_comm]
            exact nI_1 _
        · rw [pk_un hSc]
          exact i1 S (by omega) hS2
      · rw [pk_un (by omega)]
        exact i2 S (by omega)
    · rw [if_neg hm] at e
      rw [e]
      refine ⟨fun S hS hS2 => ?_, fun S hS => i2 S (by omega)⟩
      by_cases hSc : S = c + 1
      · subst hSc
        rcases hS2 with h | h
        · exact absurd h hm
        · omega
      · exact i1 S (by omega) hS2
