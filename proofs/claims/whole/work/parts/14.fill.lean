set_option maxHeartbeats 4000000 in
set_option maxRecDepth 100000 in
/-- Table.fill -/
theorem c_Table_fill (l : Launch) (D : va_G) (g : Nat → ClassId) (ad : Nat → Nat) (w : Nat → Option va_E) (sz : Nat) (len : Nat) (fw : Nat → Int32) (hn M : Nat) (qs : Nat → Nat) (DD : Nat → Nat → Int32) (DN : Nat → Nat → Nat) (b23 : w 23 = some (.inr (5, [.ref (ad 24)]))) (b24 : w 24 = some (.inl (g 0, len, .inl fw))) (a17 : w 17 = some (.inl (g 3, 14, .inr (.inr (.inr (.inr (fun h => some (ad (30 + 4 * h))))))))) (hM : M < 2 ^ hn) (hn14 : hn ≤ 14) (hln : len ≤ 16384) (lp0 : ∀ h, h < 14 → w (30 + 4 * h) = some (.inr (4, [.ref (ad (31 + 4 * h)), .ref (ad (32 + 4 * h)), .ref (ad (33 + 4 * h)), .int (nI (qs h))]))) (lp3 : ∀ h, h < 14 → w (33 + 4 * h) = some (.inl (g 0, 16, .inl (DD h)))) (hq16 : ∀ h, h < 14 → qs h ≤ 16) (hDN : ∀ h, h < 14 → ∀ p, p < qs h → DD h p = nI (DN h p)) : Met l yTb_fill wsTb_fill ({ frames := 3, cells := (if len < 2 ^ hn then 1 else 0), slots := (if len < 2 ^ hn then 2 ^ hn else 0), locals := 80 } : Room) (va_Pc [.ref (ad 23), .ref (ad 17), .int (nI hn), .int (nI M)] (dq_S D vwCl (dq_t g) ad w sz)) (va_Qv (fun u => (∀ j, j ≠ 24 → u.1 j = ad j) ∧ (∀ j, j ≠ 23 → j ≠ 24 → u.2 j = w j) ∧ u.2 23 = some (.inr (5, [.ref (u.1 24)])) ∧ u.2 24 = some (.inl (g 0, (if len < 2 ^ hn then 2 ^ hn else len), .inl (mt_fill (if len < 2 ^ hn then (fun _ => 0) else fw) DN qs M)))) (dq_B2 D vwCl (dq_t g) (dq_A ad w sz)) (dq_A ad w sz)) (if len < 2 ^ hn then 1 else 0) (if len < 2 ^ hn then 2 ^ hn else 0) (dq_A ad w sz) := by
  refine dq_ofv2 (cc := cTb_fill) (maxL := 5) (by decide) rfl (Nat.le_of_ble_eq_true rfl) ?_
  intro p e s m below meth c A Q ls ⟨hx, hb, hml, hown, hts⟩ hnm hA hW hK hZ hl hret
  have hS : va_S A s.heap s.heap [] := va_S.rf
  have hl : lv_has ls 5 [(0, .ref (ad 23)), (1, .ref (ad 17)), (2, .int (nI hn)), (3, .int (nI M))] := hl
  have hf9 := hts _ (List.mem_cons_of_mem _ tw1_192)
  have hinTb : ∀ w ∈ u_ws RTb TTb 1, w ∈ wsTb_fill := fun w h => List.mem_cons_of_mem _ (inTb w h)
  have hp2 : 2 ^ hn ≤ 16384 := Nat.le_trans (Nat.pow_le_pow_right (by omega) hn14) (Nat.le_refl 16384)
  have j20 : ∀ (ad1 : Nat → Nat) (w1 : Nat → Option va_E) (ln1 : Nat) (fw1 : Nat → Int32) (H : Heap) (locs : List Loc) (ls : Array Slot), (∀ j, j ≠ 24 → ad1 j = ad j) → (∀ j, j ≠ 23 → j ≠ 24 → w1 j = w j) → w1 23 = some (.inr (5, [.ref (ad1 24)])) → w1 24 = some (.inl (g 0, ln1, .inl fw1)) → ln1 = (if len < 2 ^ hn then 2 ^ hn else len) → fw1 = (if len < 2 ^ hn then (fun _ => 0) else fw) → dq_W D vwCl ad1 w1 A H → va_S A s.heap H locs → lv_has ls 5 [(0, .ref (ad1 23)), (1, .ref (ad1 17)), (2, .int (nI hn)), (3, .int (nI M))] → W p l e ({ frames := 3, cells := (if len < 2 ^ hn then 1 else 0), slots := (if len < 2 ^ hn then 2 ^ hn else 0), locals := 80 } : Room) s m ([.ref (ad 23), .ref (ad 17), .int (nI hn), .int (nI M)] : List Value).toArray below meth c H locs (if len < 2 ^ hn then 1 else 0) (if len < 2 ^ hn then 2 ^ hn else 0) Q (F0 m 20 ls []) := by
    intro ad1 w1 ln1 fw1 H locs ls hadj hfr e23 e24 hl1 hf1 hW hS hl
    have hl2 : 2 ^ hn ≤ ln1 ∧ ln1 ≤ 16384 := by rw [hl1]; split <;> omega
    have hff : (fun h => some (ad1 (30 + 4 * h))) = (fun h => some (ad (30 + 4 * h))) := by funext h; rw [hadj _ (by omega)]
    have e17 : w1 17 = some (.inl (g 3, 14, .inr (.inr (.inr (.inr (fun h => some (ad1 (30 + 4 * h)))))))) := by rw [hff, hfr 17 (by decide) (by decide)]; exact a17
    have lp0 : ∀ h, h < 14 → w1 (30 + 4 * h) = some (.inr (4, [.ref (ad1 (31 + 4 * h)), .ref (ad1 (32 + 4 * h)), .ref (ad1 (33 + 4 * h)), .int (nI (qs h))])) := fun h hh => by rw [hfr _ (by omega) (by omega), hadj _ (by omega), hadj _ (by omega), hadj _ (by omega)]; exact lp0 h hh
    have lp3 : ∀ h, h < 14 → w1 (33 + 4 * h) = some (.inl (g 0, 16, .inl (DD h))) := fun h hh => by rw [hfr _ (by omega) (by omega)]; exact lp3 h hh
    refine lv_aload_n hx hb dTb_fill_20 rfl (lv_at hl 0 rfl) ?_
    refine lv_aload_n hx hb dTb_fill_21 rfl (lv_at hl 1 rfl) ?_
    refine lv_iload_n hx hb dTb_fill_22 rfl (lv_at hl 3 rfl) ?_
    refine dq_callv (va_runV (As := [.ref (ad1 17), .int (nI M)]) (rest := []) ⟨hx, hb, hml, hown, hts⟩ (c_Table_mark l D g ad1 (w1) _ ln1 fw1 M qs DD DN e23 e24 e17 (by omega) (by omega) (fun h hh => lp0 h hh) (fun h hh => lp3 h hh) hq16 hDN) (cwV 2 hts (dq_giV tw2_51 tw2_53 twp_3 tw1_8 tw2_54) rfl rfl rfl (by decide +kernel) ⟨Nat.le_of_ble_eq_true rfl, Nat.le_of_ble_eq_true rfl⟩) (dq_preV (ci := 5) hW hS hA hK hZ e23 rfl rfl) rfl rfl hl.1 rfl (lv_room (Nat.le_of_ble_eq_true rfl)) dTb_fill_23 ⟨Nat.le_refl _, Nat.le_refl _⟩) hW hS hA (fun u_9 H locs hp1 hW hS hz9 => ?_)
    rw [hp1] at hW
    refine lv_aload_n hx hb dTb_fill_26 rfl (lv_at hl 0 rfl) ?_
    refine dq_get (D := D) (ci := 5) (v := .ref (ad1 24)) (C := RTb) (T := TTb) (N := 1) hx hb hts hinTb hown hK hW 23 ((dq_Un (by decide)).trans e23) rfl 0 (by decide) hf9 (fun _ h9 => h9) rfl dTb_fill_27 ?_
    refine lv_iconst (v := (nI 0)) hx hb dTb_fill_30 (by decide) ?_
    refine lv_iconst (v := (0)) hx hb dTb_fill_31 (by decide) ?_
    refine dq_iastN hx hb hK hW hS 24 0 dq_Us rfl 0 (by omega) (by omega) dTb_fill_32 (fun H locs hW hS => ?_)
    rw [dq_UU] at hW
    refine lv_iconst (v := (nI 1)) hx hb dTb_fill_33 (by decide) ?_
    refine lv_istore (lv' := [(4, .int (nI 1)), (0, .ref (ad1 23)), (1, .ref (ad1 17)), (2, .int (nI hn)), (3, .int (nI M))]) hx hb dTb_fill_34 hl (by decide) rfl (fun ls hl => ?_)
    have loop : ∀ (j : Nat) (c9 : Nat) (H : Heap) (locs : List Loc) (ls : Array Slot), M < c9 + j → c9 ≤ M → dq_W D vwCl ad1 (dq_U w1 24 (.inl (g 0, ln1, .inl (mt_fl (mt_mk (mt_m0 fw1 M) DN qs M M) DN qs c9)))) A H → va_S A s.heap H locs → lv_has ls 5 [(0, .ref (ad1 23)), (1, .ref (ad1 17)), (2, .int (nI hn)), (3, .int (nI M)), (4, .int (nI (c9 + 1)))] → W p l e ({ frames := 3, cells := (if len < 2 ^ hn then 1 else 0), slots := (if len < 2 ^ hn then 2 ^ hn else 0), locals := 80 } : Room) s m ([.ref (ad 23), .ref (ad 17), .int (nI hn), .int (nI M)] : List Value).toArray below meth c H locs (if len < 2 ^ hn then 1 else 0) (if len < 2 ^ hn then 2 ^ hn else 0) Q (F0 m 36 ls []) := by
      intro j
      induction j with
      | zero => intro c9 H locs ls hj hcM hW hS hl; exact absurd hj (by omega)
      | succ j ih =>
        intro c9 H locs ls hj hcM hW hS hl
        refine lv_iload hx hb dTb_fill_36 (lv_at hl 4 rfl) ?_
        refine lv_iload_n hx hb dTb_fill_38 rfl (lv_at hl 3 rfl) ?_
        refine lv_icmp_gt (tgt := 81) hx hb dTb_fill_39 (by decide) (fun c1 => ?_) (fun c1 => ?_)
        · have hcm : c9 = M := by have q9 := (nI_ltI (by omega) (by omega)).mp c1; omega
          subst hcm
          obtain ⟨w2, hw2⟩ : ∃ w2, w2 = dq_U w1 24 (.inl (g 0, ln1, .inl (mt_fill fw1 DN qs c9))) := ⟨_, rfl⟩
          have hfin : dq_W D vwCl ad1 w2 A H := by rw [hw2]; exact hW
          refine W.widen (k := (if len < 2 ^ hn then 1 else 0)) (n := (if len < 2 ^ hn then 2 ^ hn else 0)) (Nat.le_refl _) (Nat.le_refl _) ?_
          exact hret (ad1, w2) _ _ _ _ ⟨hadj, fun j h1 h2 => by show w2 j = _; rw [hw2, dq_Un h2]; exact hfr j h1 h2, by show w2 23 = _; rw [hw2, dq_Un (by decide)]; exact e23, by show w2 24 = _; rw [hw2, dq_Us, hl1, hf1]⟩ hfin hS dTb_fill_81
        · have hcm : c9 < M := by rcases Nat.lt_or_ge c9 M with q9 | q9; exact q9; exact absurd (nI_lt (show M < c9 + 1 by omega) (by omega)) c1
          refine lv_aload_n hx hb dTb_fill_42 rfl (lv_at hl 0 rfl) ?_
          refine dq_get (D := D) (ci := 5) (v := .ref (ad1 24)) (C := RTb) (T := TTb) (N := 1) hx hb hts hinTb hown hK hW 23 ((dq_Un (by decide)).trans e23) rfl 0 (by decide) hf9 (fun _ h9 => h9) rfl dTb_fill_43 ?_
          refine lv_iload hx hb dTb_fill_46 (lv_at hl 4 rfl) ?_
          refine dq_ialdN hx hb hK hW 24 0 dq_Us rfl (c9 + 1) (by omega) (by omega) dTb_fill_48 ?_
          refine lv_iconst (v := (-1)) hx hb dTb_fill_49 (by decide) ?_
          refine lv_icmp_ne (tgt := 75) hx hb dTb_fill_50 (by decide) (fun c2 => ?_) (fun c2 => ?_)
          · have e5 : mt_fl (mt_mk (mt_m0 fw1 M) DN qs M M) DN qs (c9 + 1) = mt_fl (mt_mk (mt_m0 fw1 M) DN qs M M) DN qs c9 := if_neg c2
            refine lv_iinc (v := (nI ((c9 + 1) + 1))) (lv' := [(4, .int (nI ((c9 + 1) + 1))), (0, .ref (ad1 23)), (1, .ref (ad1 17)), (2, .int (nI hn)), (3, .int (nI M))]) hx hb dTb_fill_75 hl (k := 4) rfl (by show nI (c9 + 1) + 1 = _; exact nI_1 _) (by decide) rfl (fun ls hl => ?_)
            refine lv_goto (tgt := 36) hx hb dTb_fill_78 (by decide) ?_
            exact ih (c9 + 1) _ _ _ (by omega) (by omega) (by rw [e5]; exact hW) hS (lv_sub hl [1, 2, 3, 4, 0] rfl)
          · obtain ⟨elo, hlo, -, -⟩ := dq_lo_l2 (S := c9 + 1) (by omega) (by omega)
            refine lv_aload_n hx hb dTb_fill_53 rfl (lv_at hl 0 rfl) ?_
            refine dq_get (D := D) (ci := 5) (v := .ref (ad1 24)) (C := RTb) (T := TTb) (N := 1) hx hb hts hinTb hown hK hW 23 ((dq_Un (by decide)).trans e23) rfl 0 (by decide) hf9 (fun _ h9 => h9) rfl dTb_fill_54 ?_
            refine lv_iload hx hb dTb_fill_57 (lv_at hl 4 rfl) ?_
            refine lv_iconst (v := (1)) hx hb dTb_fill_59 (by decide) ?_
            refine lv_aload_n hx hb dTb_fill_60 rfl (lv_at hl 0 rfl) ?_
            refine lv_aload_n hx hb dTb_fill_61 rfl (lv_at hl 1 rfl) ?_
            refine lv_iload hx hb dTb_fill_62 (lv_at hl 4 rfl) ?_
            refine dq_calli (va_runSN (As := [.int (nI (c9 + 1))]) (rest := [.ref (ad1 17), .ref (ad1 23), .int (1), .int (nI (c9 + 1)), .ref (ad1 24)]) ⟨hx, hb, hml, hown, hts⟩ (c_leastOf l D g ad1 (dq_U w1 24 (.inl (g 0, ln1, .inl (mt_fl (mt_mk (mt_m0 fw1 M) DN qs M M) DN qs c9)))) _ (c9 + 1)  (by omega) (by omega)) ⟨va_cnB 1 hts (dq_gi tw2_57) rfl rfl rfl (hZ.n6) (hts _ (List.mem_cons_of_mem _ tw1_1)) (by decide +kernel) ⟨Nat.le_of_ble_eq_true rfl, Nat.le_of_ble_eq_true rfl⟩, (hts _ (List.mem_cons_of_mem _ tw2_56)), trivial⟩ (dq_preS hW hS hA hK hZ) rfl rfl hl.1 rfl (lv_room (Nat.le_of_ble_eq_true rfl)) dTb_fill_64 ⟨Nat.le_refl _, Nat.le_refl _⟩) hW hS hA (fun r1 u_9 H locs hp1 hW hS hz9 => ?_)
            obtain ⟨hr1, hu9⟩ := hp1
            rw [hu9] at hW
            subst hr1
            generalize hb0 : dq_lo (c9 + 1) = t at hlo
            refine dq_aaldN hx hb hK hW 17 3 ((dq_Un (by decide)).trans e17) rfl t (by omega) (by omega) (a := (ad1 (30 + 4 * t))) rfl dTb_fill_67 ?_
            refine lv_iload hx hb dTb_fill_68 (lv_at hl 4 rfl) ?_
            refine dq_calli (va_runV (As := [.ref (ad1 (30 + 4 * t)), .int (nI (c9 + 1))]) (rest := [.int (1), .int (nI (c9 + 1)), .ref (ad1 24)]) ⟨hx, hb, hml, hown, hts⟩ (c_Table_after l D g ad1 (dq_U w1 24 (.inl (g 0, ln1, .inl (mt_fl (mt_mk (mt_m0 fw1 M) DN qs M M) DN qs c9)))) _ ln1 (mt_fl (mt_mk (mt_m0 fw1 M) DN qs M M) DN qs c9) t (qs t) (c9 + 1) (DD t) (DN t) ((dq_Un (by decide)).trans e23) dq_Us ((dq_Un (by omega)).trans (lp0 t hlo)) ((dq_Un (by omega)).trans (lp3 t hlo)) (by omega) (by omega) (hq16 t hlo) (hDN t hlo)) (cwV 2 hts (dq_giV tw2_62 tw2_64 twp_4 tw1_8 tw2_65) rfl rfl rfl (by decide +kernel) ⟨Nat.le_of_ble_eq_true rfl, Nat.le_of_ble_eq_true rfl⟩) (dq_preV (ci := 5) hW hS hA hK hZ ((dq_Un (by decide)).trans e23) rfl rfl) rfl rfl hl.1 rfl (lv_room (Nat.le_of_ble_eq_true rfl)) dTb_fill_70 ⟨Nat.le_refl _, Nat.le_refl _⟩) hW hS hA (fun r2 u_9 H locs hp2 hW hS hz9 => ?_)
            obtain ⟨hr2, hu9⟩ := hp2
            rw [hu9] at hW
            subst hr2
            refine lv_iadd hx hb dTb_fill_73 ?_
            refine dq_iastN hx hb hK hW hS 24 0 dq_Us rfl (c9 + 1) (by omega) (by omega) dTb_fill_74 (fun H locs hW hS => ?_)
            rw [dq_UU] at hW
            refine lv_iinc (v := (nI ((c9 + 1) + 1))) (lv' := [(4, .int (nI ((c9 + 1) + 1))), (0, .ref (ad1 23)), (1, .ref (ad1 17)), (2, .int (nI hn)), (3, .int (nI M))]) hx hb dTb_fill_75 hl (k := 4) rfl (by show nI (c9 + 1) + 1 = _; exact nI_1 _) (by decide) rfl (fun ls hl => ?_)
            refine lv_goto (tgt := 36) hx hb dTb_fill_78 (by decide) ?_
            have e5 : mt_fl (mt_mk (mt_m0 fw1 M) DN qs M M) DN qs (c9 + 1) = upd (mt_fl (mt_mk (mt_m0 fw1 M) DN qs M M) DN qs c9) (c9 + 1) (1 + mt_aft (mt_fl (mt_mk (mt_m0 fw1 M) DN qs M M) DN qs c9) (DN t) (c9 + 1) (qs t)) := by rw [← hb0]; exact if_pos c2
            exact ih (c9 + 1) _ _ _ (by omega) (by omega) (by rw [e5]; exact hW) hS (lv_sub hl [1, 2, 3, 4, 0] rfl)
    exact loop (M + 1) 0 _ _ _ (by omega) (Nat.zero_le _) hW hS (lv_sub hl [1, 2, 3, 4, 0] rfl)
  refine lv_aload_n hx hb dTb_fill_0 rfl (lv_at hl 0 rfl) ?_
  refine dq_get (D := D) (ci := 5) (v := .ref (ad 24)) (C := RTb) (T := TTb) (N := 1) hx hb hts hinTb hown hK hW 23 b23 rfl 0 (by decide) hf9 (fun _ h9 => h9) rfl dTb_fill_1 ?_
  refine dq_alen hx hb hK hW 24 0 b24 rfl (v := nI len) rfl dTb_fill_4 ?_
  refine lv_iconst (v := (1)) hx hb dTb_fill_5 (by decide) ?_
  refine lv_iload_n hx hb dTb_fill_6 rfl (lv_at hl 2 rfl) ?_
  refine lv_ishl hx hb dTb_fill_7 ?_
  refine dq_top (y := nI (2 ^ hn)) (dq_sh1 hn (by omega)) ?_
  refine lv_icmp_ge (tgt := 20) hx hb dTb_fill_8 (by decide) (fun c1 => ?_) (fun c1 => ?_)
  · have hge : ¬ len < 2 ^ hn := by have q9 := (nI_leI (by omega) (by omega)).mp c1; omega
    refine W.widen (k := (if len < 2 ^ hn then 1 else 0)) (n := (if len < 2 ^ hn then 2 ^ hn else 0)) (Nat.zero_le _) (Nat.zero_le _) ?_
    exact j20 ad w len fw _ _ _ (fun _ _ => rfl) (fun _ _ _ => rfl) b23 b24 (if_neg hge).symm (if_neg hge).symm hW hS (lv_sub hl [0, 1, 2, 3] rfl)
  · have hlt : len < 2 ^ hn := by rcases Nat.lt_or_ge len (2 ^ hn) with q9 | q9; exact q9; exact absurd (nI_le q9 (by omega)) c1
    have hm1 : (if len < 2 ^ hn then 1 else 0) = 1 := if_pos hlt
    have hm2 : (if len < 2 ^ hn then 2 ^ hn else 0) = 2 ^ hn := if_pos hlt
    refine lv_aload_n hx hb dTb_fill_11 rfl (lv_at hl 0 rfl) ?_
    refine lv_iconst (v := (1)) hx hb dTb_fill_12 (by decide) ?_
    refine lv_iload_n hx hb dTb_fill_13 rfl (lv_at hl 2 rfl) ?_
    refine lv_ishl hx hb dTb_fill_14 ?_
    refine dq_top (y := nI (2 ^ hn)) (dq_sh1 hn (by omega)) ?_
    refine dq_newi (N := 2 ^ hn) hx hb (hts _ (List.mem_cons_of_mem _ tw1_68)) hK hW hS hA 24 0 rfl (nI_pos (by omega)) (nI_clamp (by omega)) (by omega) (by show 0 + 1 ≤ (if len < 2 ^ hn then 1 else 0); omega) (by show 0 + 2 ^ hn ≤ (if len < 2 ^ hn then 2 ^ hn else 0); omega) dTb_fill_15 (fun q9 H hW hS => ?_)
    have had : ∀ j, j ≠ 24 → va_up ad 24 q9 j = ad j := fun j h => va_up_ne _ _ h
    have h24 : va_up ad 24 q9 24 = q9 := va_up_self _ _ _
    generalize va_up ad 24 q9 = ad1 at hW had h24
    refine W.eq (g2 := F0 m 17 ls [.ref q9, .ref (ad1 23)]) (by rw [had 23 (by decide)]) ?_
    refine dq_put (D := D) (ci := 5) (v := .ref q9) (ty := (.array .int)) (C := RTb) (T := TTb) (N := 1) hx hb hts hinTb tyTb tyTb_ok nmTb hown hK hW hS 23 ((dq_Un (by decide)).trans b23) rfl 0 (by decide) hf9 (fun _ h9 => h9) rfl (by decide +kernel) rfl rfl (Nat.le_of_ble_eq_true rfl) dTb_fill_17 (fun H locs hW hS => ?_)
    refine W.widen (k := (if len < 2 ^ hn then 1 else 0)) (n := (if len < 2 ^ hn then 2 ^ hn else 0)) (by omega) (by omega) ?_
    exact j20 ad1 _ (2 ^ hn) (fun _ => 0) _ _ _ had (fun j h1 h2 => (dq_Un h1).trans (dq_Un h2)) (by rw [h24]; exact dq_Us) ((dq_Un (by decide)).trans dq_Us) (if_pos hlt).symm (if_pos hlt).symm hW hS (by rw [had 23 (by decide), had 17 (by decide)]; exact (lv_sub hl [0, 1, 2, 3] rfl))
