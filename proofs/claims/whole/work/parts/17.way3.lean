theorem dq_pc_zero {S n : Nat} (h : ∀ i, i < n → S.testBit i = false) : dq_pc S n = 0 := by
  induction n with
  | zero => rfl
  | succ n ih =>
    show (if S.testBit n = true then dq_pc S n + 1 else dq_pc S n) = 0
    rw [h n (by omega), if_neg (by decide)]
    exact ih (fun i hi => h i (by omega))
theorem dq_pc_full {c n : Nat} (h : n ≤ c) : dq_pc (2 ^ c - 1) n = n := by
  induction n with
  | zero => rfl
  | succ n ih =>
    show (if (2 ^ c - 1).testBit n = true then dq_pc (2 ^ c - 1) n + 1 else dq_pc (2 ^ c - 1) n) = n + 1
    rw [Nat.testBit_two_pow_sub_one, if_pos (decide_eq_true (by omega)), ih (by omega)]
theorem dq_df1 (S t j : Nat) (hj : j < 32) : (dq_df S (2 ^ t)).testBit j = (S.testBit j && !(decide (t = j))) := by
  rw [dq_df_bit S _ j hj, Nat.testBit_two_pow]
theorem dq_pc_df {S t : Nat} (n : Nat) (hn : n ≤ 31) (hb : S.testBit t = true) : (t < n → dq_pc (dq_df S (2 ^ t)) n + 1 = dq_pc S n) ∧ (n ≤ t → dq_pc (dq_df S (2 ^ t)) n = dq_pc S n) := by
  induction n with
  | zero => exact ⟨fun h => absurd h (by omega), fun _ => rfl⟩
  | succ n ih =>
    obtain ⟨i1, i2⟩ := ih (by omega)
    have e : (dq_df S (2 ^ t)).testBit n = (S.testBit n && !(decide (t = n))) := dq_df1 S t n (by omega)
    constructor
    · intro h
      show (if (dq_df S (2 ^ t)).testBit n = true then dq_pc (dq_df S (2 ^ t)) n + 1 else dq_pc (dq_df S (2 ^ t)) n) + 1 = (if S.testBit n = true then dq_pc S n + 1 else dq_pc S n)
      by_cases htn : t = n
      · subst htn
        rw [e, hb, if_neg (by simp), if_pos rfl, i2 (Nat.le_refl _)]
      · have i3 := i1 (by omega)
        have e2 : (dq_df S (2 ^ t)).testBit n = S.testBit n := by rw [e]; simp [htn]
        rw [e2]
        split <;> omega
    · intro h
      show (if (dq_df S (2 ^ t)).testBit n = true then dq_pc (dq_df S (2 ^ t)) n + 1 else dq_pc (dq_df S (2 ^ t)) n) = (if S.testBit n = true then dq_pc S n + 1 else dq_pc S n)
      have htn : ¬ t = n := by omega
      have e2 : (dq_df S (2 ^ t)).testBit n = S.testBit n := by rw [e]; simp [htn]
      rw [e2, i2 (by omega)]
theorem mw_tk_ok (sh hX hY : Nat → Int32) {hc : Nat} (hc10 : hc ≤ 10) (sq : Nat → Int32) (i : Nat) (hi : i ≤ hc) : dq_pc (mw_tk sh hX hY hc sq i).2.1 hc = hc - i ∧ ∀ a, a < i → ∃ t, t < hc ∧ (mw_tk sh hX hY hc sq i).1 a = nI t := by
  induction i with
  | zero => exact ⟨by show dq_pc (2 ^ hc - 1) hc = hc - 0; rw [dq_pc_full (Nat.le_refl _)]; rfl, fun a ha => absurd ha (by omega)⟩
  | succ i ih =>
    obtain ⟨h1, h2⟩ := ih (by omega)
    rcases mw_nx_in sh hX hY hc (mw_tk sh hX hY hc sq i).2.1 (mw_tk sh hX hY hc sq i).2.2.1 (mw_tk sh hX hY hc sq i).2.2.2 hc (by omega) with ⟨-, h9⟩ | ⟨t, h7, h8, h9⟩
    · rw [dq_pc_zero h9] at h1
      omega
    · have e5 := mw_tk_s (by omega) h9 (mw_ne1 (by omega))
      rw [e5]
      refine ⟨?_, fun a ha => ?_⟩
      · have := (dq_pc_df (S := (mw_tk sh hX hY hc sq i).2.1) hc (by omega) h8).1 h7
        show dq_pc (dq_df (mw_tk sh hX hY hc sq i).2.1 (2 ^ t)) hc = hc - (i + 1)
        omega
      · show ∃ t9, t9 < hc ∧ upd (mw_tk sh hX hY hc sq i).1 i (nI t) a = nI t9
        by_cases hai : a = i
        · subst hai
          exact ⟨t, h7, pk_us⟩
        · rw [pk_un hai]
          exact h2 a (by omega)
set_option maxHeartbeats 4000000 in
set_option maxRecDepth 100000 in
/-- Way.find -/
theorem c_Way_find (l : Launch) (D : va_G) (g : Nat → ClassId) (ad : Nat → Nat) (w : Nat → Option va_E) (sz : Nat) (hX hY : Nat → Int32) (hc : Nat) (wl : Int64) (sq sh : Nat → Int32) (sl : Nat) (t18 : w 18 = some (.inr (2, [.ref (ad 19), .ref (ad 20), .ref (ad 21), .ref (ad 22), .int (nI hc)]))) (t19 : w 19 = some (.inl (g 0, 14, .inl hX))) (t20 : w 20 = some (.inl (g 0, 14, .inl hY))) (y25 : w 25 = some (.inr (6, [.ref (ad 26), .long wl, .ref (ad 27)]))) (y26 : w 26 = some (.inl (g 0, 14, .inl sq))) (y27 : w 27 = some (.inl (g 0, sl, .inl sh))) (hc14 : hc ≤ 14) (hsl2 : sl ≤ 10240) : Met l yWy_find wsWy_find ({ frames := 5, cells := (if (hc ≤ 10 ∧ sl < 2 ^ hc * hc) then 1 else 0), slots := (if (hc ≤ 10 ∧ sl < 2 ^ hc * hc) then 2 ^ hc * hc else 0), locals := 140 } : Room) (va_Pc [.ref (ad 25), .ref (ad 18)] (dq_S D vwCl (dq_t g) ad w sz)) (va_Qv (fun u => (∀ j, j ≠ 27 → u.1 j = ad j) ∧ (∀ j, j ≠ 25 → j ≠ 26 → j ≠ 27 → u.2 j = w j) ∧ ∃ (SQ sh9 : Nat → Int32), ((hc ≤ 10 ∧ ∃ sh8 : Nat → Int32, SQ = (mw_tk (mw_fill sh8 hX hY hc (2 ^ hc)) hX hY hc sq hc).1) ∨ (10 < hc ∧ SQ = mw_own sq hc)) ∧ u.2 25 = some (.inr (6, [.ref (u.1 26), .long (mw_len hX hY (fun i => (SQ i).toNatClampNeg) hc).1, .ref (u.1 27)])) ∧ u.2 26 = some (.inl (g 0, 14, .inl SQ)) ∧ u.2 27 = some (.inl (g 0, (if (hc ≤ 10 ∧ sl < 2 ^ hc * hc) then 2 ^ hc * hc else sl), .inl sh9))) (dq_B2 D vwCl (dq_t g) (dq_A ad w sz)) (dq_A ad w sz)) (if (hc ≤ 10 ∧ sl < 2 ^ hc * hc) then 1 else 0) (if (hc ≤ 10 ∧ sl < 2 ^ hc * hc) then 2 ^ hc * hc else 0) (dq_A ad w sz) := by
  refine dq_ofv2 (cc := cWy_find) (maxL := 2) (by decide) rfl (Nat.le_of_ble_eq_true rfl) ?_
  intro p e s m below meth c A Q ls ⟨hx, hb, hml, hown, hts⟩ hnm hA hW hK hZ hl hret
  have hS : va_S A s.heap s.heap [] := va_S.rf
  have hl : lv_has ls 2 [(0, .ref (ad 25)), (1, .ref (ad 18))] := hl
  have hf18 := hts _ (List.mem_cons_of_mem _ tw1_173)
  have hinHt : ∀ w ∈ u_ws RHt THt 5, w ∈ wsWy_find := fun w h => List.mem_cons_of_mem _ (inHt w h)
  have j27 : ∀ (ad1 : Nat → Nat) (w1 : Nat → Option va_E) (sl1 : Nat) (SQ sh1 : Nat → Int32) (H : Heap) (locs : List Loc) (ls : Array Slot), (∀ j, j ≠ 27 → ad1 j = ad j) → (∀ j, j ≠ 25 → j ≠ 26 → j ≠ 27 → w1 j = w j) → ((hc ≤ 10 ∧ ∃ sh8 : Nat → Int32, SQ = (mw_tk (mw_fill sh8 hX hY hc (2 ^ hc)) hX hY hc sq hc).1) ∨ (10 < hc ∧ SQ = mw_own sq hc)) → w1 25 = some (.inr (6, [.ref (ad1 26), .long wl, .ref (ad1 27)])) → w1 26 = some (.inl (g 0, 14, .inl SQ)) → w1 27 = some (.inl (g 0, sl1, .inl sh1)) → sl1 = (if (hc ≤ 10 ∧ sl < 2 ^ hc * hc) then 2 ^ hc * hc else sl) → dq_W D vwCl ad1 w1 A H → va_S A s.heap H locs → lv_has ls 2 [(0, .ref (ad1 25)), (1, .ref (ad1 18))] → W p l e ({ frames := 5, cells := (if (hc ≤ 10 ∧ sl < 2 ^ hc * hc) then 1 else 0), slots := (if (hc ≤ 10 ∧ sl < 2 ^ hc * hc) then 2 ^ hc * hc else 0), locals := 140 } : Room) s m ([.ref (ad 25), .ref (ad 18)] : List Value).toArray below meth c H locs (if (hc ≤ 10 ∧ sl < 2 ^ hc * hc) then 1 else 0) (if (hc ≤ 10 ∧ sl < 2 ^ hc * hc) then 2 ^ hc * hc else 0) Q (F0 m 27 ls []) := by
    intro ad1 w1 sl1 SQ sh1 H locs ls hadj hfr hSQ e25 e26 e27 hl1 hW hS hl
    have e18 : w1 18 = some (.inr (2, [.ref (ad1 19), .ref (ad1 20), .ref (ad1 21), .ref (ad1 22), .int (nI hc)])) := by rw [hadj 19 (by decide), hadj 20 (by decide), hadj 21 (by decide), hadj 22 (by decide), hfr 18 (by decide) (by decide) (by decide)]; exact t18
    have e19 : w1 19 = some (.inl (g 0, 14, .inl hX)) := by rw [hfr 19 (by decide) (by decide) (by decide)]; exact t19
    have e20 : w1 20 = some (.inl (g 0, 14, .inl hY)) := by rw [hfr 20 (by decide) (by decide) (by decide)]; exact t20
    have hok : ∀ i, i < hc → SQ i = nI (SQ i).toNatClampNeg ∧ (SQ i).toNatClampNeg < 14 := by
      intro i hi
      have hex : ∃ t, t < hc ∧ SQ i = nI t := by
        rcases hSQ with ⟨h1, sh8, h2⟩ | ⟨h1, h2⟩
        · rw [h2]; exact (mw_tk_ok _ hX hY h1 sq hc (Nat.le_refl _)).2 i hi
        · exact ⟨i, hi, by rw [h2]; exact if_pos hi⟩
      obtain ⟨t, h1, h2⟩ := hex
      rw [h2, nI_clamp (by omega)]
      exact ⟨rfl, by omega⟩
    refine lv_aload_n hx hb dWy_find_27 rfl (lv_at hl 0 rfl) ?_
    refine lv_aload_n hx hb dWy_find_28 rfl (lv_at hl 1 rfl) ?_
    refine dq_callv (va_runV (As := [.ref (ad1 18)]) (rest := []) ⟨hx, hb, hml, hown, hts⟩ (c_Way_measure l D g ad1 (w1) _ hX hY hc wl SQ sh1 sl1 (fun i => (SQ i).toNatClampNeg) e18 e19 e20 e25 e26 hc14 hok) (cwV 1 hts (dq_giV tw2_112 tw2_114 twp_10 tw1_9 tw2_115) rfl rfl rfl (by decide +kernel) ⟨Nat.le_of_ble_eq_true rfl, Nat.le_of_ble_eq_true rfl⟩) (dq_preV (ci := 6) hW hS hA hK hZ e25 rfl rfl) rfl rfl hl.1 rfl (lv_room (Nat.le_of_ble_eq_true rfl)) dWy_find_29 ⟨Nat.le_refl _, Nat.le_refl _⟩) hW hS hA (fun u_9 H locs hp1 hW hS hz9 => ?_)
    obtain ⟨w2, hw2⟩ : ∃ w2, w2 = u_9 := ⟨_, rfl⟩
    rw [← hw2] at hp1 hW
    refine W.widen (k := (if (hc ≤ 10 ∧ sl < 2 ^ hc * hc) then 1 else 0)) (n := (if (hc ≤ 10 ∧ sl < 2 ^ hc * hc) then 2 ^ hc * hc else 0)) (Nat.le_refl _) (Nat.le_refl _) ?_
    exact hret (ad1, w2) _ _ _ _ ⟨hadj, fun j h1 h2 h3 => by show w2 j = _; rw [hp1, dq_Un h1]; exact hfr j h1 h2 h3, SQ, sh1, hSQ, by show w2 25 = _; rw [hp1, dq_Us], by show w2 26 = _; rw [hp1, dq_Un (by decide)]; exact e26, by show w2 27 = _; rw [hp1, dq_Un (by decide), e27, hl1]⟩ hW hS dWy_find_32
  refine lv_aload_n hx hb dWy_find_0 rfl (lv_at hl 1 rfl) ?_
  refine dq_get (D := D) (ci := 2) (v := .int (nI hc)) (C := RHt) (T := THt) (N := 5) hx hb hts hinHt hown hK hW 18 t18 rfl 4 (by decide) hf18 (fun _ h9 => h9) rfl dWy_find_1 ?_
  refine lv_bipush (v := (nI 10)) hx hb dWy_find_4 (by decide) ?_
  refine lv_icmp_gt (tgt := 22) hx hb dWy_find_6 (by decide) (fun c1 => ?_) (fun c1 => ?_)
  · have hbig : 10 < hc := (nI_ltI (by omega) (by omega)).mp c1
    refine lv_aload_n hx hb dWy_find_22 rfl (lv_at hl 0 rfl) ?_
    refine lv_aload_n hx hb dWy_find_23 rfl (lv_at hl 1 rfl) ?_
    refine dq_callv (va_runV (As := [.ref (ad 18)]) (rest := []) ⟨hx, hb, hml, hown, hts⟩ (c_Way_takeOwn l D g ad (w) _ hc wl sq sh sl t18 y25 y26 hc14) (cwV 1 hts (dq_giV tw2_108 tw2_110 twp_9 tw1_9 tw2_111) rfl rfl rfl (by decide +kernel) ⟨Nat.le_of_ble_eq_true rfl, Nat.le_of_ble_eq_true rfl⟩) (dq_preV (ci := 6) hW hS hA hK hZ y25 rfl rfl) rfl rfl hl.1 rfl (lv_room (Nat.le_of_ble_eq_true rfl)) dWy_find_24 ⟨Nat.zero_le _, Nat.zero_le _⟩) hW hS hA (fun u_9 H locs hp1 hW hS hz9 => ?_)
    obtain ⟨w2, hw2⟩ : ∃ w2, w2 = u_9 := ⟨_, rfl⟩
    rw [← hw2] at hp1 hW
    refine W.widen (k := (if (hc ≤ 10 ∧ sl < 2 ^ hc * hc) then 1 else 0)) (n := (if (hc ≤ 10 ∧ sl < 2 ^ hc * hc) then 2 ^ hc * hc else 0)) (Nat.zero_le _) (Nat.zero_le _) ?_
    exact j27 ad w2 sl (mw_own sq hc) sh _ _ _ (fun _ _ => rfl) (fun j h1 h2 h3 => by rw [hp1, dq_Un h2]) (Or.inr ⟨hbig, rfl⟩) (by rw [hp1, dq_Un (by decide)]; exact y25) (by rw [hp1, dq_Us]) (by rw [hp1, dq_Un (by decide)]; exact y27) (if_neg (fun h9 => absurd h9.1 (by omega))).symm hW hS (lv_sub hl [0, 1] rfl)
  · have hc10 : hc ≤ 10 := by rcases Nat.lt_or_ge 10 hc with q9 | q9; exact absurd (nI_lt q9 (by omega)) c1; exact q9
    have hm1 : ∀ a : Nat, (if (hc ≤ 10 ∧ sl < 2 ^ hc * hc) then a else 0) = (if sl < 2 ^ hc * hc then a else 0) := fun a => by simp only [hc10, true_and]
    refine lv_aload_n hx hb dWy_find_9 rfl (lv_at hl 0 rfl) ?_
    refine lv_aload_n hx hb dWy_find_10 rfl (lv_at hl 1 rfl) ?_
    refine dq_callv2 (va_runV (As := [.ref (ad 18)]) (rest := []) ⟨hx, hb, hml, hown, hts⟩ (c_Way_fillShortest l D g ad (w) _ hX hY hc wl sq sh sl t18 t19 t20 y25 y27 hc10 hsl2) (cwV 1 hts (dq_giV tw2_80 tw2_82 twp_5 tw1_9 tw2_83) rfl rfl rfl (by decide +kernel) ⟨Nat.le_of_ble_eq_true rfl, Nat.le_of_ble_eq_true rfl⟩) (dq_preV (ci := 6) hW hS hA hK hZ y25 rfl rfl) rfl rfl hl.1 rfl (lv_room (Nat.le_of_ble_eq_true rfl)) dWy_find_11 ⟨by show 0 + _ ≤ _; rw [Nat.zero_add]; exact Nat.le_of_eq (hm1 1).symm, by show 0 + _ ≤ _; rw [Nat.zero_add]; exact Nat.le_of_eq (hm1 _).symm⟩) hW hS hA (fun u_9 H locs hp1 hW hS hz9 => ?_)
    refine W.widen (k := (if (hc ≤ 10 ∧ sl < 2 ^ hc * hc) then 1 else 0)) (n := (if (hc ≤ 10 ∧ sl < 2 ^ hc * hc) then 2 ^ hc * hc else 0)) (by rw [Nat.zero_add]; exact Nat.le_of_eq (hm1 1).symm) (by rw [Nat.zero_add]; exact Nat.le_of_eq (hm1 _).symm) ?_
    obtain ⟨ad1, w1⟩ := u_9
    obtain ⟨hadj, hfr2, e25, sh8, e27⟩ := hp1
    dsimp only at hadj hfr2 e25 e27 hW
    have hfr : ∀ j, j ≠ 25 → j ≠ 26 → j ≠ 27 → w1 j = w j := fun j h1 _ h3 => hfr2 j h1 h3
    have e26 : w1 26 = some (.inl (g 0, 14, .inl sq)) := by rw [hfr2 26 (by decide) (by decide)]; exact y26
    have e18 : w1 18 = some (.inr (2, [.ref (ad1 19), .ref (ad1 20), .ref (ad1 21), .ref (ad1 22), .int (nI hc)])) := by rw [hadj 19 (by decide), hadj 20 (by decide), hadj 21 (by decide), hadj 22 (by decide), hfr 18 (by decide) (by decide) (by decide)]; exact t18
    have e19 : w1 19 = some (.inl (g 0, 14, .inl hX)) := by rw [hfr 19 (by decide) (by decide) (by decide)]; exact t19
    have e20 : w1 20 = some (.inl (g 0, 14, .inl hY)) := by rw [hfr 20 (by decide) (by decide) (by decide)]; exact t20
    have hl : lv_has ls 2 [(0, .ref (ad1 25)), (1, .ref (ad1 18))] := by rw [hadj 25 (by decide), hadj 18 (by decide)]; exact (lv_sub hl [0, 1] rfl)
    have hp9 : 2 ^ hc ≤ 1024 := Nat.le_trans (Nat.pow_le_pow_right (by omega) hc10) (Nat.le_refl 1024)
    have hp8 : 2 ^ hc * hc ≤ 10240 := Nat.le_trans (Nat.mul_le_mul hp9 hc10) (Nat.le_refl 10240)
    have hl2 : 2 ^ hc * hc ≤ (if sl < 2 ^ hc * hc then 2 ^ hc * hc else sl) ∧ (if sl < 2 ^ hc * hc then 2 ^ hc * hc else sl) ≤ 10240 := by split <;> omega
    refine lv_aload_n hx hb dWy_find_14 rfl (lv_at hl 0 rfl) ?_
    refine lv_aload_n hx hb dWy_find_15 rfl (lv_at hl 1 rfl) ?_
    refine dq_callv (va_runV (As := [.ref (ad1 18)]) (rest := []) ⟨hx, hb, hml, hown, hts⟩ (c_Way_takeShortest l D g ad1 (w1) _ hX hY hc wl sq (mw_fill sh8 hX hY hc (2 ^ hc)) (if sl < 2 ^ hc * hc then 2 ^ hc * hc else sl) e18 e19 e20 e25 e26 e27 hc10 hl2.1 hl2.2) (cwV 1 hts (dq_giV tw2_104 tw2_106 twp_8 tw1_9 tw2_107) rfl rfl rfl (by decide +kernel) ⟨Nat.le_of_ble_eq_true rfl, Nat.le_of_ble_eq_true rfl⟩) (dq_preV (ci := 6) hW hS hA hK hZ e25 rfl rfl) rfl rfl hl.1 rfl (lv_room (Nat.le_of_ble_eq_true rfl)) dWy_find_16 ⟨Nat.le_refl _, Nat.le_refl _⟩) hW hS hA (fun u_9 H locs hp1 hW hS hz9 => ?_)
    obtain ⟨w2, hw2⟩ : ∃ w2, w2 = u_9 := ⟨_, rfl⟩
    rw [← hw2] at hp1 hW
    refine lv_goto (tgt := 27) hx hb dWy_find_19 (by decide) ?_
    exact j27 ad1 w2 _ _ (mw_fill sh8 hX hY hc (2 ^ hc)) _ _ _ hadj (fun j h1 h2 h3 => by rw [hp1, dq_Un h2]; exact hfr j h1 h2 h3) (Or.inl ⟨hc10, sh8, rfl⟩) (by rw [hp1, dq_Un (by decide)]; exact e25) (by rw [hp1, dq_Us]) (by rw [hp1, dq_Un (by decide)]; exact e27) (by simp only [hc10, true_and]) hW hS (lv_sub hl [0, 1] rfl)
