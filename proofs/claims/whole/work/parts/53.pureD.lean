/-! PURE: the chain of hits -/
theorem mf_sg_bit (c : Nat → Nat) (n j : Nat) : (mf_sg c n).testBit j = (decide (j < n) && decide (c j = 0)) := by
  induction n with
  | zero =>
    show (0 : Nat).testBit j = _
    rw [Nat.zero_testBit, decide_eq_false (Nat.not_lt_zero j)]
    rfl
  | succ n ih =>
    have e : mf_sg c (n + 1) = if c n = 0 then mf_sg c n ||| 2 ^ n else mf_sg c n := rfl
    rw [e]
    by_cases hj : j = n
    · subst hj
      rw [decide_eq_true (Nat.lt_succ_self j), Bool.true_and]
      by_cases h : c j = 0
      · rw [if_pos h, Nat.testBit_or, Nat.testBit_two_pow_self, Bool.or_true, decide_eq_true h]
      · rw [if_neg h, ih, decide_eq_false (Nat.lt_irrefl j), decide_eq_false h]
        rfl
    · have e2 : decide (j < n + 1) = decide (j < n) := by
        by_cases h : j < n
        · rw [decide_eq_true h, decide_eq_true (by omega)]
        · rw [decide_eq_false h, decide_eq_false (by omega)]
      rw [e2]
      by_cases h : c n = 0
      · rw [if_pos h, Nat.testBit_or, Nat.testBit_two_pow_of_ne (fun h9 => hj h9.symm), Bool.or_false, ih]
      · rw [if_neg h, ih]
theorem mf_sg_congr {c c' : Nat → Nat} {n : Nat} (h : ∀ i, i < n → c i = c' i) : mf_sg c n = mf_sg c' n := by
  apply Nat.eq_of_testBit_eq
  intro j
  rw [mf_sg_bit, mf_sg_bit]
  by_cases hj : j < n
  · rw [h j hj]
  · rw [decide_eq_false hj]
    rfl
theorem mf_sg_lt (c : Nat → Nat) (n : Nat) : mf_sg c n < 2 ^ n := by
  apply Nat.lt_pow_two_of_testBit
  intro j hj
  rw [mf_sg_bit, decide_eq_false (show ¬ j < n by omega)]
  rfl
theorem ml_bit {qs : Nat → Nat} {hn j : Nat} (h14 : hn ≤ 14) (h : (dq_df (2 ^ hn - 1) (mf_sg qs hn)).testBit j = true) : j < hn ∧ 0 < qs j := by
  have h0 : 2 ^ hn - 1 < 2 ^ 32 := Nat.lt_of_lt_of_le (show 2 ^ hn - 1 < 2 ^ hn from Nat.sub_lt (Nat.two_pow_pos hn) (by omega)) (Nat.pow_le_pow_right (by omega) (by omega))
  have h1 := dq_df_sub h0 h
  rw [Nat.testBit_two_pow_sub_one, decide_eq_true_iff] at h1
  rw [dq_df_bit _ _ _ (by omega), mf_sg_bit, decide_eq_true h1, Nat.testBit_two_pow_sub_one, decide_eq_true h1] at h
  refine ⟨h1, ?_⟩
  rcases Nat.eq_zero_or_pos (qs j) with e | e
  · rw [decide_eq_true e] at h
    exact absurd h (by decide)
  · exact e
/-- what one hit is -/
def pl_S (fw : Nat → Int32) (DN : Nat → Nat → Nat) (qs : Nat → Nat) (M : Nat) : Nat → Nat
  | 0 => M
  | k + 1 => dq_df (pl_S fw DN qs M k) (DN (dq_lo (pl_S fw DN qs M k)) (mt_fN fw (DN (dq_lo (pl_S fw DN qs M k))) (pl_S fw DN qs M k) (qs (dq_lo (pl_S fw DN qs M k)))))
def pl_p (fw : Nat → Int32) (DN : Nat → Nat → Nat) (qs : Nat → Nat) (M k : Nat) : Nat := mt_fN fw (DN (dq_lo (pl_S fw DN qs M k))) (pl_S fw DN qs M k) (qs (dq_lo (pl_S fw DN qs M k)))
theorem mp_pl_S (fw : Nat → Int32) (DN : Nat → Nat → Nat) (qs : Nat → Nat) (XX YY : Nat → Nat → Int32) (pf : Nat → Int32) (z0 : (Nat → Int32) × (Nat → Int32) × (Nat → Int32) × (Nat → Int32) × Nat) (k : Nat) : (mp_pl fw DN qs XX YY pf z0 k).2.2.2.2 = pl_S fw DN qs z0.2.2.2.2 k := by
  induction k with
  | zero => rfl
  | succ k ih =>
    have e : (mp_pl fw DN qs XX YY pf z0 (k + 1)).2.2.2.2 = dq_df (mp_pl fw DN qs XX YY pf z0 k).2.2.2.2 (DN (dq_lo (mp_pl fw DN qs XX YY pf z0 k).2.2.2.2) (mt_fN fw (DN (dq_lo (mp_pl fw DN qs XX YY pf z0 k).2.2.2.2)) (mp_pl fw DN qs XX YY pf z0 k).2.2.2.2 (qs (dq_lo (mp_pl fw DN qs XX YY pf z0 k).2.2.2.2)))) := rfl
    rw [e, ih]
    rfl
theorem mp_pl_at (fw : Nat → Int32) (DN : Nat → Nat → Nat) (qs : Nat → Nat) (XX YY : Nat → Nat → Int32) (pf : Nat → Int32) (z0 : (Nat → Int32) × (Nat → Int32) × (Nat → Int32) × (Nat → Int32) × Nat) (SS pp : Nat → Nat) (hS : SS = pl_S fw DN qs z0.2.2.2.2) (hp : pp = pl_p fw DN qs z0.2.2.2.2) : ∀ k j, j < k →
    (mp_pl fw DN qs XX YY pf z0 k).1 j = XX (dq_lo (SS j)) (pp j) ∧ (mp_pl fw DN qs XX YY pf z0 k).2.1 j = YY (dq_lo (SS j)) (pp j) ∧ (mp_pl fw DN qs XX YY pf z0 k).2.2.1 j = pf (dq_lo (SS j)) ∧ (mp_pl fw DN qs XX YY pf z0 k).2.2.2.1 j = nI (DN (dq_lo (SS j)) (pp j) &&& SS j) := by
  intro k
  induction k with
  | zero => intro j hj; exact absurd hj (Nat.not_lt_zero j)
  | succ k ih =>
    intro j hj
    have e : mp_pl fw DN qs XX YY pf z0 (k + 1) = (upd (mp_pl fw DN qs XX YY pf z0 k).1 k (XX (dq_lo (SS k)) (pp k)), upd (mp_pl fw DN qs XX YY pf z0 k).2.1 k (YY (dq_lo (SS k)) (pp k)), upd (mp_pl fw DN qs XX YY pf z0 k).2.2.1 k (pf (dq_lo (SS k))), upd (mp_pl fw DN qs XX YY pf z0 k).2.2.2.1 k (nI (DN (dq_lo (SS k)) (pp k) &&& SS k)), dq_df (SS k) (DN (dq_lo (SS k)) (pp k))) := by
      rw [hS, hp]
      unfold pl_p
      rw [← mp_pl_S fw DN qs XX YY pf z0 k]
      rfl
    rw [e]
    dsimp only
    by_cases hjk : j = k
    · subst hjk
      rw [pk_us, pk_us, pk_us, pk_us]
      exact ⟨rfl, rfl, rfl, rfl⟩
    · rw [pk_un hjk, pk_un hjk, pk_un hjk, pk_un hjk]
      exact ih j (by omega)
/-- one step at a marked set -/
theorem pl_step {fw : Nat → Int32} {DN DM : Nat → Nat → Nat} {qs : Nat → Nat} {hn M S : Nat} {mk : Nat → Prop} (h14 : hn ≤ 14) (hk : mk_ok DN qs hn) (hD : mk_ok DM qs hn) (hDD : ∀ S, 0 < S → S < 2 ^ hn → ∀ p, p < qs (dq_lo S) → dq_df S (DN (dq_lo S) p) = dq_df S (DM (dq_lo S) p)) (hM : M < 2 ^ hn) (hq : ∀ h, M.testBit h = true → 0 < qs h)
    (hfw : ∀ S, S ≤ M → (mk S ∨ S = 0) → fw S = nI (ff DM qs S)) (hcl : ∀ S, 0 < S → S ≤ M → mk S → ∀ p, p < qs (dq_lo S) → mk (dq_df S (DN (dq_lo S) p))) (hsub : ∀ S, S ≤ M → mk S → ∀ j, S.testBit j = true → M.testBit j = true) (h0 : 0 < S) (hSM : S ≤ M) (hm : mk S) :
    mt_fN fw (DN (dq_lo S)) S (qs (dq_lo S)) < qs (dq_lo S) ∧ ff DM qs (dq_df S (DM (dq_lo S) (mt_fN fw (DN (dq_lo S)) S (qs (dq_lo S))))) + 1 = ff DM qs S ∧ (∀ p, p < mt_fN fw (DN (dq_lo S)) S (qs (dq_lo S)) → ¬ ff DM qs (dq_df S (DM (dq_lo S) p)) + 1 = ff DM qs S) := by
  obtain ⟨hlo, hbit, hS14⟩ := dq_lo_hn h0 (by omega) h14
  have hM32 : M < 2 ^ 32 := Nat.lt_of_lt_of_le hM (Nat.pow_le_pow_right (by omega) (by omega))
  have hq0 := hq _ (hsub S hSM hm _ hbit)
  have hv : ∀ p, p < qs (dq_lo S) → fw (dq_df S (DN (dq_lo S) p)) = nI (ff DM qs (dq_df S (DM (dq_lo S) p))) ∧ ff DM qs (dq_df S (DM (dq_lo S) p)) ≤ 14 := by
    intro p hp
    have h1 := hfw _ (Nat.le_trans (dq_df_le S (DN (dq_lo S) p)) hSM) (Or.inl (hcl S h0 hSM hm p hp))
    rw [hDD S h0 (by omega) p hp] at h1 ⊢
    refine ⟨h1, ?_⟩
    have h2 := ff_le h14 hD _ (show dq_df S (DM (dq_lo S) p) < 2 ^ hn from Nat.lt_of_le_of_lt (dq_df_le _ _) (by omega)) (fun h hb => hq h (hsub S hSM hm h (dq_df_sub (by omega) hb)))
    exact Nat.le_trans h2 (dq_pc_le _ 14)
  have ha := mt_aft_ma (v := fun p => ff DM qs (dq_df S (DM (dq_lo S) p))) _ hv
  rcases ma_min (FF := ff DM qs) (D := DM (dq_lo S)) (S := S) (v := fun p => ff DM qs (dq_df S (DM (dq_lo S) p))) (qs (dq_lo S)) (fun p hp => ⟨rfl, (hv p hp).2⟩) with ⟨z, -⟩ | ⟨z, p1, z1, z2⟩
  · omega
  · have hr := ff_rec h14 hD h0 (show S < 2 ^ hn by omega)
    rw [z] at hr
    have hml := ma_le (fun p => ff DM qs (dq_df S (DM (dq_lo S) p))) (qs (dq_lo S))
    have hP : ∀ p, p < qs (dq_lo S) → (decide (fw (dq_df S (DN (dq_lo S) p)) = mt_aft fw (DN (dq_lo S)) S (qs (dq_lo S))) = true ↔ ff DM qs (dq_df S (DM (dq_lo S) p)) = ma (fun p => ff DM qs (dq_df S (DM (dq_lo S) p))) (qs (dq_lo S))) := by
      intro p hp
      obtain ⟨v1, v2⟩ := hv p hp
      rw [decide_eq_true_iff, v1, ha, nI_eq (by omega) (by omega)]
    obtain ⟨f1, f2, f3⟩ := dq_fn_spec (fun p => decide (fw (dq_df S (DN (dq_lo S) p)) = mt_aft fw (DN (dq_lo S)) S (qs (dq_lo S)))) (qs (dq_lo S))
    have hlt : dq_fn (fun p => decide (fw (dq_df S (DN (dq_lo S) p)) = mt_aft fw (DN (dq_lo S)) S (qs (dq_lo S)))) (qs (dq_lo S)) < qs (dq_lo S) := by
      rcases Nat.lt_or_ge p1 (dq_fn (fun p => decide (fw (dq_df S (DN (dq_lo S) p)) = mt_aft fw (DN (dq_lo S)) S (qs (dq_lo S)))) (qs (dq_lo S))) with h | h
      · have h2 := f1 p1 h
        have h3 := (hP p1 z1).mpr z2
        rw [h3] at h2
        exact absurd h2 (by decide)
      · omega
    have e : mt_fN fw (DN (dq_lo S)) S (qs (dq_lo S)) = dq_fn (fun p => decide (fw (dq_df S (DN (dq_lo S) p)) = mt_aft fw (DN (dq_lo S)) S (qs (dq_lo S)))) (qs (dq_lo S)) := if_pos hlt
    rw [e]
    refine ⟨hlt, ?_, fun p hp hn2 => ?_⟩
    · rw [(hP _ hlt).mp (f2 hlt)]
      exact hr.symm
    · have h2 := f1 p hp
      have h3 := (hP p (by omega)).mpr (by omega)
      rw [h3] at h2
      exact absurd h2 (by decide)
/-- THE PLAN of the class is that of the specification -/
theorem pl_ok {fw : Nat → Int32} {DN DM : Nat → Nat → Nat} {qs : Nat → Nat} {hn : Nat} {M : Nat} {FW : Nat → Int32} (h14 : hn ≤ 14) (hk : mk_ok DN qs hn) (hD : mk_ok DM qs hn) (hB : ∀ h, h < hn → ∀ p, p < qs h → ∀ j, h ≤ j → j < hn → (DN h p).testBit j = (DM h p).testBit j) (hM : M = dq_df (2 ^ hn - 1) (mf_sg qs hn)) (hFW : FW = mt_fill fw DN qs M)
    (XX YY : Nat → Nat → Int32) (pf : Nat → Int32) (z0 : (Nat → Int32) × (Nat → Int32) × (Nat → Int32) × (Nat → Int32) × Nat) (hz0 : z0.2.2.2.2 = M) (nh : Nat) (hnh : nh = mp_n FW DN qs XX YY pf z0) :
    mo_S (ff DM qs) DM qs hn nh (pl_S FW DN qs M) (pl_p FW DN qs M) ∧ ∀ j, j < nh →
    (mp_pl FW DN qs XX YY pf z0 nh).1 j = XX (dq_lo (pl_S FW DN qs M j)) (pl_p FW DN qs M j) ∧ (mp_pl FW DN qs XX YY pf z0 nh).2.1 j = YY (dq_lo (pl_S FW DN qs M j)) (pl_p FW DN qs M j) ∧ (mp_pl FW DN qs XX YY pf z0 nh).2.2.1 j = pf (dq_lo (pl_S FW DN qs M j)) ∧ (mp_pl FW DN qs XX YY pf z0 nh).2.2.2.1 j = nI (pl_S FW DN qs M j &&& DM (dq_lo (pl_S FW DN qs M j)) (pl_p FW DN qs M j)) := by
  have h2p : 0 < 2 ^ hn := Nat.two_pow_pos hn
  have hMlt : M < 2 ^ hn := by
    have := dq_df_le (2 ^ hn - 1) (mf_sg qs hn)
    omega
  have hM32 : M < 2 ^ 32 := Nat.lt_of_lt_of_le hMlt (Nat.pow_le_pow_right (by omega) (by omega))
  have hM14 : M < 2 ^ 14 := Nat.lt_of_lt_of_le hMlt (Nat.pow_le_pow_right (by omega) h14)
  have hq : ∀ h, M.testBit h = true → 0 < qs h := fun h hb => by
    rw [hM] at hb
    exact (ml_bit h14 hb).2
  have hSb : ∀ S, 0 < S → S < 2 ^ hn → ∀ j, S.testBit j = true → dq_lo S ≤ j ∧ j < hn := by
    intro S h0 hS j hj
    refine ⟨?_, ?_⟩
    · rcases Nat.lt_or_ge j (dq_lo S) with h | h
      · rw [dq_lo_low h] at hj
        exact absurd hj (by decide)
      · exact h
    · rcases Nat.lt_or_ge j hn with h | h
      · exact h
      · have h3 : S < 2 ^ j := Nat.lt_of_lt_of_le hS (Nat.pow_le_pow_right (by omega) h)
        rw [Nat.testBit_lt_two_pow h3] at hj
        exact absurd hj (by decide)
  have hDD : ∀ S, 0 < S → S < 2 ^ hn → ∀ p, p < qs (dq_lo S) → dq_df S (DN (dq_lo S) p) = dq_df S (DM (dq_lo S) p) := by
    intro S h0 hS p hp
    obtain ⟨hlo, -, -⟩ := dq_lo_hn h0 hS h14
    refine dq_df_ext (Nat.lt_of_lt_of_le hS (Nat.pow_le_pow_right (by omega) (by omega))) fun j hj hb => ?_
    exact hB _ hlo p hp j (hSb S h0 hS j hb).1 (hSb S h0 hS j hb).2
  have hfl := (mt_fl_ok (f := fw) h14 hk hD hDD hMlt hq M (Nat.le_refl M)).1
  have hfw : ∀ S, S ≤ M → (mt_mk (mt_m0 fw M) DN qs M M S = -1 ∨ S = 0) → FW S = nI (ff DM qs S) := by
    rw [hFW]
    exact hfl
  have hst := fun S h0 hSM hm => pl_step (mk := fun S => mt_mk (mt_m0 fw M) DN qs M M S = -1) (S := S) h14 hk hD hDD hMlt hq hfw (fun S h0 hS hm p hp => mt_mk_closed h14 hk hMlt h0 hS hm hp) (fun S hS hm => mt_mk_sub hM32 M (Nat.le_refl M) S hS hm) h0 hSM hm
  have hmM : mt_mk (mt_m0 fw M) DN qs M M M = -1 := by
    have e := mt_mk_fix (f := mt_m0 fw M) h14 hk hMlt (Nat.le_refl M) M (by omega)
    rw [show M - M + M = M by omega, Nat.sub_self] at e
    rw [e]
    exact pk_us
  have hinv : ∀ k, pl_S FW DN qs M k ≤ M ∧ (mt_mk (mt_m0 fw M) DN qs M M (pl_S FW DN qs M k) = -1 ∨ pl_S FW DN qs M k = 0) ∧ (pl_S FW DN qs M k = 0 ∨ dq_pc (pl_S FW DN qs M k) 14 + k ≤ 14) := by
    intro k
    induction k with
    | zero => exact ⟨Nat.le_refl M, Or.inl hmM, Or.inr (dq_pc_le _ 14)⟩
    | succ k ih =>
      obtain ⟨i1, i2, i3⟩ := ih
      have e : pl_S FW DN qs M (k + 1) = dq_df (pl_S FW DN qs M k) (DN (dq_lo (pl_S FW DN qs M k)) (pl_p FW DN qs M k)) := rfl
      rw [e]
      refine ⟨Nat.le_trans (dq_df_le _ _) i1, ?_, ?_⟩
      · rcases Nat.eq_zero_or_pos (pl_S FW DN qs M k) with z | z
        · right
          rw [z]
          exact Nat.le_zero.mp (dq_df_le 0 _)
        · left
          have hm : mt_mk (mt_m0 fw M) DN qs M M (pl_S FW DN qs M k) = -1 := by
            rcases i2 with h | h
            · exact h
            · omega
          exact mt_mk_closed h14 hk hMlt z i1 hm (hst _ z i1 hm).1
      · rcases Nat.eq_zero_or_pos (pl_S FW DN qs M k) with z | z
        · left
          rw [z]
          exact Nat.le_zero.mp (dq_df_le 0 _)
        · right
          have hm : mt_mk (mt_m0 fw M) DN qs M M (pl_S FW DN qs M k) = -1 := by
            rcases i2 with h | h
            · exact h
            · omega
          obtain ⟨hlo, hbit, -⟩ := dq_lo_hn z (show pl_S FW DN qs M k < 2 ^ hn by omega) h14
          have hp := (hst _ z i1 hm).1
          have hb2 := hk _ hlo _ hp
          have h3 := dq_pc_lt (S := pl_S FW DN qs M k) (T := dq_df (pl_S FW DN qs M k) (DN (dq_lo (pl_S FW DN qs M k)) (pl_p FW DN qs M k))) (n := 14) (fun j hj => dq_df_sub (by omega) hj) (show dq_lo (pl_S FW DN qs M k) < 14 by omega) hbit (by rw [dq_df_bit _ _ _ (by omega), hbit]; unfold pl_p; rw [hb2]; rfl)
          rcases i3 with h | h
          · omega
          · omega
  have hn9 : nh = dq_fn (fun k => decide (pl_S FW DN qs M k = 0)) 14 := by
    rw [hnh]
    unfold mp_n
    congr 1
    funext k
    rw [mp_pl_S, hz0]
  obtain ⟨f1, f2, f3⟩ := dq_fn_spec (fun k => decide (pl_S FW DN qs M k = 0)) 14
  rw [← hn9] at f1 f2 f3
  have hend : pl_S FW DN qs M nh = 0 := by
    rcases Nat.lt_or_ge nh 14 with h | h
    · exact of_decide_eq_true (f2 h)
    · obtain ⟨i1, -, i3⟩ := hinv nh
      rcases Nat.eq_zero_or_pos (pl_S FW DN qs M nh) with z | z
      · exact z
      · obtain ⟨hlo, hbit, -⟩ := dq_lo_hn z (show pl_S FW DN qs M nh < 2 ^ hn by omega) h14
        have h3 := dq_pc_lt (S := pl_S FW DN qs M nh) (T := 0) (n := 14) (fun j hj => absurd hj (by rw [Nat.zero_testBit]; decide)) (show dq_lo (pl_S FW DN qs M nh) < 14 by omega) hbit (Nat.zero_testBit _)
        omega
  refine ⟨⟨hM, hend, f3, fun k hkn => ?_⟩, fun j hj => ?_⟩
  · have hne := of_decide_eq_false (f1 k hkn)
    obtain ⟨i1, i2, -⟩ := hinv k
    have z : 0 < pl_S FW DN qs M k := by omega
    have hm : mt_mk (mt_m0 fw M) DN qs M M (pl_S FW DN qs M k) = -1 := by
      rcases i2 with h | h
      · exact h
      · omega
    obtain ⟨s1, s2, s3⟩ := hst _ z i1 hm
    have e2 : pl_S FW DN qs M (k + 1) = dq_df (pl_S FW DN qs M k) (DM (dq_lo (pl_S FW DN qs M k)) (pl_p FW DN qs M k)) := by
      show dq_df (pl_S FW DN qs M k) (DN (dq_lo (pl_S FW DN qs M k)) (pl_p FW DN qs M k)) = _
      exact hDD _ z (by omega) _ s1
    refine ⟨z, by omega, s1, e2, ?_, s3⟩
    rw [e2]
    exact s2
  · obtain ⟨a1, a2, a3, a4⟩ := mp_pl_at FW DN qs XX YY pf z0 (pl_S FW DN qs M) (pl_p FW DN qs M) (by rw [hz0]) (by rw [hz0]) nh j hj
    refine ⟨a1, a2, a3, a4.trans (congrArg nI ?_)⟩
    have hne := of_decide_eq_false (f1 j hj)
    obtain ⟨i1, i2, -⟩ := hinv j
    have z : 0 < pl_S FW DN qs M j := by omega
    have hm : mt_mk (mt_m0 fw M) DN qs M M (pl_S FW DN qs M j) = -1 := by
      rcases i2 with h | h
      · exact h
      · omega
    have hp := (hst _ z i1 hm).1
    obtain ⟨hlo, hbit, -⟩ := dq_lo_hn z (show pl_S FW DN qs M j < 2 ^ hn by omega) h14
    apply Nat.eq_of_testBit_eq
    intro b
    rw [Nat.testBit_and, Nat.testBit_and]
    cases hb : (pl_S FW DN qs M j).testBit b with
    | false => simp
    | true =>
      obtain ⟨b1, b2⟩ := hSb _ z (by omega) b hb
      rw [Bool.and_true, Bool.true_and]
      exact hB _ hlo _ hp b b1 b2
