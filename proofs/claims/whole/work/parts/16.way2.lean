theorem mw_tk_lt (sh hX hY : Nat → Int32) (hc : Nat) (sq : Nat → Int32) (i : Nat) : (mw_tk sh hX hY hc sq i).2.1 < 2 ^ hc := by
  induction i with
  | zero =>
    show 2 ^ hc - 1 < 2 ^ hc
    have : 0 < 2 ^ hc := Nat.two_pow_pos hc
    omega
  | succ i ih =>
    show ((if (mw_nx sh hX hY hc (mw_tk sh hX hY hc sq i).2.1 (mw_tk sh hX hY hc sq i).2.2.1 (mw_tk sh hX hY hc sq i).2.2.2 hc).1 = -1 then mw_tk sh hX hY hc sq i else _).2.1) < 2 ^ hc
    split
    · exact ih
    · exact Nat.lt_of_le_of_lt (dq_df_le _ _) ih
theorem mw_tk_s {sh hX hY : Nat → Int32} {hc : Nat} {sq : Nat → Int32} {i t : Nat} (ht : t < 2 ^ 31) (h : (mw_nx sh hX hY hc (mw_tk sh hX hY hc sq i).2.1 (mw_tk sh hX hY hc sq i).2.2.1 (mw_tk sh hX hY hc sq i).2.2.2 hc).1 = nI t) (hne : ¬ nI t = -1) : mw_tk sh hX hY hc sq (i + 1) = (upd (mw_tk sh hX hY hc sq i).1 i (nI t), dq_df (mw_tk sh hX hY hc sq i).2.1 (2 ^ t), hX t, hY t) := by
  show (if (mw_nx sh hX hY hc (mw_tk sh hX hY hc sq i).2.1 (mw_tk sh hX hY hc sq i).2.2.1 (mw_tk sh hX hY hc sq i).2.2.2 hc).1 = -1 then mw_tk sh hX hY hc sq i else _) = _
  rw [h, if_neg hne, nI_clamp ht]
theorem mw_ne1 {t : Nat} (ht : t < 2 ^ 31) : ¬ nI t = -1 := fun h => absurd (h ▸ nI_pos ht : ¬ (-1 : Int32) < 0) (by decide)
set_option maxHeartbeats 4000000 in
set_option maxRecDepth 100000 in
/-- Way.takeShortest -/
theorem c_Way_takeShortest (l : Launch) (D : va_G) (g : Nat → ClassId) (ad : Nat → Nat) (w : Nat → Option va_E) (sz : Nat) (hX hY : Nat → Int32) (hc : Nat) (wl : Int64) (sq sh : Nat → Int32) (sl : Nat) (t18 : w 18 = some (.inr (2, [.ref (ad 19), .ref (ad 20), .ref (ad 21), .ref (ad 22), .int (nI hc)]))) (t19 : w 19 = some (.inl (g 0, 14, .inl hX))) (t20 : w 20 = some (.inl (g 0, 14, .inl hY))) (y25 : w 25 = some (.inr (6, [.ref (ad 26), .long wl, .ref (ad 27)]))) (y26 : w 26 = some (.inl (g 0, 14, .inl sq))) (y27 : w 27 = some (.inl (g 0, sl, .inl sh))) (hc10 : hc ≤ 10) (hsl : 2 ^ hc * hc ≤ sl) (hsl2 : sl ≤ 10240) : Met l yWy_takeShortest wsWy_takeShortest ({ frames := 4, cells := 0, slots := 0, locals := 112 } : Room) (va_Pc [.ref (ad 25), .ref (ad 18)] (dq_S D vwCl (dq_t g) ad w sz)) (va_Qv (fun u => u = dq_U w 26 (.inl (g 0, 14, .inl ((mw_tk sh hX hY hc sq hc).1)))) (dq_B D vwCl (dq_t g) ad (dq_A ad w sz)) (dq_A ad w sz)) 0 0 (dq_A ad w sz) := by
  refine dq_ofv (cc := cWy_takeShortest) (maxL := 7) (by decide) rfl (Nat.le_of_ble_eq_true rfl) ?_
  intro p e s m below meth c A Q ls ⟨hx, hb, hml, hown, hts⟩ hnm hA hW hK hZ hl hret
  have hS : va_S A s.heap s.heap [] := va_S.rf
  have hl : lv_has ls 7 [(0, .ref (ad 25)), (1, .ref (ad 18))] := hl
  have hf9 := hts _ (List.mem_cons_of_mem _ tw1_202)
  have hf18 := hts _ (List.mem_cons_of_mem _ tw1_173)
  have hf41 := hts _ (List.mem_cons_of_mem _ tw1_163)
  have hf44 := hts _ (List.mem_cons_of_mem _ tw1_166)
  have hinHt : ∀ w ∈ u_ws RHt THt 5, w ∈ wsWy_takeShortest := fun w h => List.mem_cons_of_mem _ (inHt w h)
  have hinWy : ∀ w ∈ u_ws RWy TWy 3, w ∈ wsWy_takeShortest := fun w h => List.mem_cons_of_mem _ (inWy w h)
  have hp9 : 2 ^ hc ≤ 1024 := Nat.le_trans (Nat.pow_le_pow_right (by omega) hc10) (Nat.le_refl 1024)
  refine lv_iconst (v := (1)) hx hb dWy_takeShortest_0 (by decide) ?_
  refine lv_aload_n hx hb dWy_takeShortest_1 rfl (lv_at hl 1 rfl) ?_
  refine dq_get (D := D) (ci := 2) (v := .int (nI hc)) (C := RHt) (T := THt) (N := 5) hx hb hts hinHt hown hK hW 18 t18 rfl 4 (by decide) hf18 (fun _ h9 => h9) rfl dWy_takeShortest_2 ?_
  refine lv_ishl hx hb dWy_takeShortest_5 ?_
  refine dq_top (y := nI (2 ^ hc)) (dq_sh1 hc (by omega)) ?_
  refine lv_iconst (v := (1)) hx hb dWy_takeShortest_6 (by decide) ?_
  refine lv_isub hx hb dWy_takeShortest_7 ?_
  refine dq_top (y := nI (2 ^ hc - 1)) (pk_sub (b := 1) Nat.one_le_two_pow) ?_
  refine lv_istore_n (lv' := [(2, .int (nI (2 ^ hc - 1))), (0, .ref (ad 25)), (1, .ref (ad 18))]) hx hb dWy_takeShortest_8 rfl hl (by decide) rfl (fun ls hl => ?_)
  refine lv_iconst (v := (0)) hx hb dWy_takeShortest_9 (by decide) ?_
  refine lv_istore_n (lv' := [(3, .int (0)), (2, .int (nI (2 ^ hc - 1))), (0, .ref (ad 25)), (1, .ref (ad 18))]) hx hb dWy_takeShortest_10 rfl hl (by decide) rfl (fun ls hl => ?_)
  refine lv_iconst (v := (0)) hx hb dWy_takeShortest_11 (by decide) ?_
  refine lv_istore (lv' := [(4, .int (0)), (3, .int (0)), (2, .int (nI (2 ^ hc - 1))), (0, .ref (ad 25)), (1, .ref (ad 18))]) hx hb dWy_takeShortest_12 hl (by decide) rfl (fun ls hl => ?_)
  refine lv_iconst (v := (nI 0)) hx hb dWy_takeShortest_14 (by decide) ?_
  refine lv_istore (lv' := [(5, .int (nI 0)), (4, .int (0)), (3, .int (0)), (2, .int (nI (2 ^ hc - 1))), (0, .ref (ad 25)), (1, .ref (ad 18))]) hx hb dWy_takeShortest_15 hl (by decide) rfl (fun ls hl => ?_)
  have loop : ∀ (j : Nat) (k : Nat) (H : Heap) (locs : List Loc) (ls : Array Slot), hc < k + j → k ≤ hc → dq_W D vwCl ad (dq_U w 26 (.inl (g 0, 14, .inl ((mw_tk sh hX hY hc sq k).1)))) A H → va_S A s.heap H locs → lv_has ls 7 [(0, .ref (ad 25)), (1, .ref (ad 18)), (2, .int (nI (mw_tk sh hX hY hc sq k).2.1)), (3, .int (mw_tk sh hX hY hc sq k).2.2.1), (4, .int (mw_tk sh hX hY hc sq k).2.2.2), (5, .int (nI k))] → W p l e ({ frames := 4, cells := 0, slots := 0, locals := 112 } : Room) s m ([.ref (ad 25), .ref (ad 18)] : List Value).toArray below meth c H locs 0 0 Q (F0 m 17 ls []) := by
    intro j
    induction j with
    | zero => intro k H locs ls hj hk hW hS hl; exact absurd hj (by omega)
    | succ j ih =>
      intro k H locs ls hj hk hW hS hl
      refine lv_iload hx hb dWy_takeShortest_17 (lv_at hl 5 rfl) ?_
      refine lv_aload_n hx hb dWy_takeShortest_19 rfl (lv_at hl 1 rfl) ?_
      refine dq_get (D := D) (ci := 2) (v := .int (nI hc)) (C := RHt) (T := THt) (N := 5) hx hb hts hinHt hown hK hW 18 ((dq_Un (by decide)).trans t18) rfl 4 (by decide) hf18 (fun _ h9 => h9) rfl dWy_takeShortest_20 ?_
      refine lv_icmp_ge (tgt := 83) hx hb dWy_takeShortest_23 (by decide) (fun c1 => ?_) (fun c1 => ?_)
      · have hkn : hc = k := by have q9 := (nI_leI (by omega) (by omega)).mp c1; omega
        subst hkn
        exact hret _ _ _ _ _ rfl hW hS dWy_takeShortest_83
      · have hkn : k < hc := by rcases Nat.lt_or_ge k hc with q | q; exact q; exact absurd (nI_le q (by omega)) c1
        have hlt9 : (mw_tk sh hX hY hc sq k).2.1 < 2 ^ hc := mw_tk_lt _ _ _ _ _ _
        refine lv_aload_n hx hb dWy_takeShortest_26 rfl (lv_at hl 0 rfl) ?_
        refine lv_aload_n hx hb dWy_takeShortest_27 rfl (lv_at hl 1 rfl) ?_
        refine lv_iload_n hx hb dWy_takeShortest_28 rfl (lv_at hl 2 rfl) ?_
        refine lv_iload_n hx hb dWy_takeShortest_29 rfl (lv_at hl 3 rfl) ?_
        refine lv_iload hx hb dWy_takeShortest_30 (lv_at hl 4 rfl) ?_
        refine dq_calli (va_runV (As := [.ref (ad 18), .int (nI (mw_tk sh hX hY hc sq k).2.1), .int (mw_tk sh hX hY hc sq k).2.2.1, .int (mw_tk sh hX hY hc sq k).2.2.2]) (rest := []) ⟨hx, hb, hml, hown, hts⟩ (c_Way_nextHit l D g ad (dq_U w 26 (.inl (g 0, 14, .inl ((mw_tk sh hX hY hc sq k).1)))) _ hX hY hc wl sq sh sl ((mw_tk sh hX hY hc sq k).2.1) ((mw_tk sh hX hY hc sq k).2.2.1) ((mw_tk sh hX hY hc sq k).2.2.2) ((dq_Un (by decide)).trans t18) ((dq_Un (by decide)).trans t19) ((dq_Un (by decide)).trans t20) ((dq_Un (by decide)).trans y25) ((dq_Un (by decide)).trans y27) hc10 hlt9 hsl hsl2) (cwV 4 hts (dq_giV tw2_87 tw2_89 twp_6 tw1_9 tw2_90) rfl rfl rfl (by decide +kernel) ⟨Nat.le_of_ble_eq_true rfl, Nat.le_of_ble_eq_true rfl⟩) (dq_preV (ci := 6) hW hS hA hK hZ ((dq_Un (by decide)).trans y25) rfl rfl) rfl rfl hl.1 rfl (lv_room (Nat.le_of_ble_eq_true rfl)) dWy_takeShortest_32 ⟨Nat.zero_le _, Nat.zero_le _⟩) hW hS hA (fun r1 u_9 H locs hp1 hW hS hz9 => ?_)
        obtain ⟨hr1, hu9⟩ := hp1
        rw [hu9] at hW
        refine lv_istore (lv' := [(6, .int r1), (0, .ref (ad 25)), (1, .ref (ad 18)), (2, .int (nI (mw_tk sh hX hY hc sq k).2.1)), (3, .int (mw_tk sh hX hY hc sq k).2.2.1), (4, .int (mw_tk sh hX hY hc sq k).2.2.2), (5, .int (nI k))]) hx hb dWy_takeShortest_35 hl (by decide) rfl (fun ls hl => ?_)
        refine lv_iload hx hb dWy_takeShortest_37 (lv_at hl 0 rfl) ?_
        refine lv_iconst (v := (-1)) hx hb dWy_takeShortest_39 (by decide) ?_
        refine lv_icmp_ne (tgt := 44) hx hb dWy_takeShortest_40 (by decide) (fun c2 => ?_) (fun c2 => ?_)
        · have hex : ∃ t, t < hc ∧ r1 = nI t := by rcases mw_nx_in sh hX hY hc (mw_tk sh hX hY hc sq k).2.1 (mw_tk sh hX hY hc sq k).2.2.1 (mw_tk sh hX hY hc sq k).2.2.2 hc (by omega) with h9 | ⟨t, h7, h8, h9⟩; exact absurd (hr1.trans h9.1) c2; exact ⟨t, h7, hr1.trans h9⟩
          obtain ⟨t, ht1, rfl⟩ := hex
          have e5 := mw_tk_s (i := k) (by omega) hr1.symm c2
          refine lv_aload_n hx hb dWy_takeShortest_44 rfl (lv_at hl 1 rfl) ?_
          refine dq_get (D := D) (ci := 6) (v := .ref (ad 26)) (C := RWy) (T := TWy) (N := 3) hx hb hts hinWy hown hK hW 25 ((dq_Un (by decide)).trans y25) rfl 0 (by decide) hf9 (fun _ h9 => h9) rfl dWy_takeShortest_45 ?_
          refine lv_iload hx hb dWy_takeShortest_48 (lv_at hl 6 rfl) ?_
          refine lv_iload hx hb dWy_takeShortest_50 (lv_at hl 0 rfl) ?_
          refine dq_iastN hx hb hK hW hS 26 0 dq_Us rfl k (by omega) (by omega) dWy_takeShortest_52 (fun H locs hW hS => ?_)
          rw [dq_UU] at hW
          refine lv_iload_n hx hb dWy_takeShortest_53 rfl (lv_at hl 3 rfl) ?_
          refine lv_iload hx hb dWy_takeShortest_54 (lv_at hl 0 rfl) ?_
          refine dq_calli (va_runSN (As := [.int (nI (mw_tk sh hX hY hc sq k).2.1), .int (nI t)]) (rest := []) ⟨hx, hb, hml, hown, hts⟩ (c_without l D g ad (dq_U w 26 (.inl (g 0, 14, .inl (upd ((mw_tk sh hX hY hc sq k).1) k (nI t))))) _ ((mw_tk sh hX hY hc sq k).2.1) t  (by omega)) ⟨va_cnB 2 hts (dq_gi tw2_103) rfl rfl rfl (hZ.n8) (hts _ (List.mem_cons_of_mem _ tw1_1)) (by decide +kernel) ⟨Nat.le_of_ble_eq_true rfl, Nat.le_of_ble_eq_true rfl⟩, (hts _ (List.mem_cons_of_mem _ tw2_102)), trivial⟩ (dq_preS hW hS hA hK hZ) rfl rfl hl.1 rfl (lv_room (Nat.le_of_ble_eq_true rfl)) dWy_takeShortest_56 ⟨Nat.zero_le _, Nat.zero_le _⟩) hW hS hA (fun r2 u_9 H locs hp2 hW hS hz9 => ?_)
          obtain ⟨hr2, hu9⟩ := hp2
          rw [hu9] at hW
          subst hr2
          refine lv_istore_n (lv' := [(2, .int (nI (dq_df (mw_tk sh hX hY hc sq k).2.1 (2 ^ t)))), (6, .int (nI t)), (0, .ref (ad 25)), (1, .ref (ad 18)), (3, .int (mw_tk sh hX hY hc sq k).2.2.1), (4, .int (mw_tk sh hX hY hc sq k).2.2.2), (5, .int (nI k))]) hx hb dWy_takeShortest_59 rfl hl (by decide) rfl (fun ls hl => ?_)
          refine lv_aload_n hx hb dWy_takeShortest_60 rfl (lv_at hl 3 rfl) ?_
          refine dq_get (D := D) (ci := 2) (v := .ref (ad 19)) (C := RHt) (T := THt) (N := 5) hx hb hts hinHt hown hK hW 18 ((dq_Un (by decide)).trans t18) rfl 0 (by decide) hf41 (fun _ h9 => h9) rfl dWy_takeShortest_61 ?_
          refine lv_iload hx hb dWy_takeShortest_64 (lv_at hl 1 rfl) ?_
          refine dq_ialdN hx hb hK hW 19 0 ((dq_Un (by decide)).trans t19) rfl t (by omega) (by omega) dWy_takeShortest_66 ?_
          refine lv_istore_n (lv' := [(3, .int (hX t)), (2, .int (nI (dq_df (mw_tk sh hX hY hc sq k).2.1 (2 ^ t)))), (6, .int (nI t)), (0, .ref (ad 25)), (1, .ref (ad 18)), (4, .int (mw_tk sh hX hY hc sq k).2.2.2), (5, .int (nI k))]) hx hb dWy_takeShortest_67 rfl hl (by decide) rfl (fun ls hl => ?_)
          refine lv_aload_n hx hb dWy_takeShortest_68 rfl (lv_at hl 4 rfl) ?_
          refine dq_get (D := D) (ci := 2) (v := .ref (ad 20)) (C := RHt) (T := THt) (N := 5) hx hb hts hinHt hown hK hW 18 ((dq_Un (by decide)).trans t18) rfl 1 (by decide) hf44 (fun _ h9 => h9) rfl dWy_takeShortest_69 ?_
          refine lv_iload hx hb dWy_takeShortest_72 (lv_at hl 2 rfl) ?_
          refine dq_ialdN hx hb hK hW 20 0 ((dq_Un (by decide)).trans t20) rfl t (by omega) (by omega) dWy_takeShortest_74 ?_
          refine lv_istore (lv' := [(4, .int (hY t)), (3, .int (hX t)), (2, .int (nI (dq_df (mw_tk sh hX hY hc sq k).2.1 (2 ^ t)))), (6, .int (nI t)), (0, .ref (ad 25)), (1, .ref (ad 18)), (5, .int (nI k))]) hx hb dWy_takeShortest_75 hl (by decide) rfl (fun ls hl => ?_)
          refine lv_iinc (v := (nI (k + 1))) (lv' := [(5, .int (nI (k + 1))), (4, .int (hY t)), (3, .int (hX t)), (2, .int (nI (dq_df (mw_tk sh hX hY hc sq k).2.1 (2 ^ t)))), (6, .int (nI t)), (0, .ref (ad 25)), (1, .ref (ad 18))]) hx hb dWy_takeShortest_77 hl (k := 6) rfl (by show nI k + 1 = _; exact nI_1 _) (by decide) rfl (fun ls hl => ?_)
          refine lv_goto (tgt := 17) hx hb dWy_takeShortest_80 (by decide) ?_
          exact ih (k + 1) _ _ _ (by omega) (by omega) (by rw [e5]; exact hW) hS (by rw [e5]; exact (lv_sub hl [5, 6, 3, 2, 1, 0] rfl))
        · have e6 := mw_tk_stop (i := k) (hr1.symm.trans c2) (hc - k)
          rw [show k + (hc - k) = hc by omega] at e6
          exact hret _ _ _ _ _ (by rw [e6]) hW hS dWy_takeShortest_43
  exact loop (hc + 1) 0 _ _ _ (by omega) (Nat.zero_le _) (dq_Wc (by show _ = dq_U w 26 (.inl (g 0, 14, .inl sq)); rw [dq_Uid y26]) hW) hS (lv_sub hl [4, 5, 3, 2, 1, 0] rfl)
set_option maxHeartbeats 4000000 in
set_option maxRecDepth 100000 in
/-- Way.fillShortest -/
theorem c_Way_fillShortest (l : Launch) (D : va_G) (g : Nat → ClassId) (ad : Nat → Nat) (w : Nat → Option va_E) (sz : Nat) (hX hY : Nat → Int32) (hc : Nat) (wl : Int64) (sq sh : Nat → Int32) (sl : Nat) (t18 : w 18 = some (.inr (2, [.ref (ad 19), .ref (ad 20), .ref (ad 21), .ref (ad 22), .int (nI hc)]))) (t19 : w 19 = some (.inl (g 0, 14, .inl hX))) (t20 : w 20 = some (.inl (g 0, 14, .inl hY))) (y25 : w 25 = some (.inr (6, [.ref (ad 26), .long wl, .ref (ad 27)]))) (y27 : w 27 = some (.inl (g 0, sl, .inl sh))) (hc10 : hc ≤ 10) (hsl2 : sl ≤ 10240) : Met l yWy_fillShortest wsWy_fillShortest ({ frames := 4, cells := (if sl < 2 ^ hc * hc then 1 else 0), slots := (if sl < 2 ^ hc * hc then 2 ^ hc * hc else 0), locals := 112 } : Room) (va_Pc [.ref (ad 25), .ref (ad 18)] (dq_S D vwCl (dq_t g) ad w sz)) (va_Qv (fun u => (∀ j, j ≠ 27 → u.1 j = ad j) ∧ (∀ j, j ≠ 25 → j ≠ 27 → u.2 j = w j) ∧ u.2 25 = some (.inr (6, [.ref (u.1 26), .long wl, .ref (u.1 27)])) ∧ ∃ sh9 : Nat → Int32, u.2 27 = some (.inl (g 0, (if sl < 2 ^ hc * hc then 2 ^ hc * hc else sl), .inl (mw_fill sh9 hX hY hc (2 ^ hc))))) (dq_B2 D vwCl (dq_t g) (dq_A ad w sz)) (dq_A ad w sz)) (if sl < 2 ^ hc * hc then 1 else 0) (if sl < 2 ^ hc * hc then 2 ^ hc * hc else 0) (dq_A ad w sz) := by
  refine dq_ofv2 (cc := cWy_fillShortest) (maxL := 7) (by decide) rfl (Nat.le_of_ble_eq_true rfl) ?_
  intro p e s m below meth c A Q ls ⟨hx, hb, hml, hown, hts⟩ hnm hA hW hK hZ hl hret
  have hS : va_S A s.heap s.heap [] := va_S.rf
  have hl : lv_has ls 7 [(0, .ref (ad 25)), (1, .ref (ad 18))] := hl
  have hf15 := hts _ (List.mem_cons_of_mem _ tw1_206)
  have hf18 := hts _ (List.mem_cons_of_mem _ tw1_173)
  have hf41 := hts _ (List.mem_cons_of_mem _ tw1_163)
  have hf44 := hts _ (List.mem_cons_of_mem _ tw1_166)
  have hinHt : ∀ w ∈ u_ws RHt THt 5, w ∈ wsWy_fillShortest := fun w h => List.mem_cons_of_mem _ (inHt w h)
  have hinWy : ∀ w ∈ u_ws RWy TWy 3, w ∈ wsWy_fillShortest := fun w h => List.mem_cons_of_mem _ (inWy w h)
  have hp9 : 2 ^ hc ≤ 1024 := Nat.le_trans (Nat.pow_le_pow_right (by omega) hc10) (Nat.le_refl 1024)
  have hp8 : 2 ^ hc * hc ≤ 10240 := Nat.le_trans (Nat.mul_le_mul hp9 hc10) (Nat.le_refl 10240)
  have j33 : ∀ (ad1 : Nat → Nat) (w1 : Nat → Option va_E) (sl1 : Nat) (sh1 : Nat → Int32) (H : Heap) (locs : List Loc) (ls : Array Slot), (∀ j, j ≠ 27 → ad1 j = ad j) → (∀ j, j ≠ 25 → j ≠ 27 → w1 j = w j) → w1 25 = some (.inr (6, [.ref (ad1 26), .long wl, .ref (ad1 27)])) → w1 27 = some (.inl (g 0, sl1, .inl sh1)) → sl1 = (if sl < 2 ^ hc * hc then 2 ^ hc * hc else sl) → dq_W D vwCl ad1 w1 A H → va_S A s.heap H locs → lv_has ls 7 [(0, .ref (ad1 25)), (1, .ref (ad1 18)), (2, .int (nI (2 ^ hc)))] → W p l e ({ frames := 4, cells := (if sl < 2 ^ hc * hc then 1 else 0), slots := (if sl < 2 ^ hc * hc then 2 ^ hc * hc else 0), locals := 112 } : Room) s m ([.ref (ad 25), .ref (ad 18)] : List Value).toArray below meth c H locs (if sl < 2 ^ hc * hc then 1 else 0) (if sl < 2 ^ hc * hc then 2 ^ hc * hc else 0) Q (F0 m 33 ls []) := by
    intro ad1 w1 sl1 sh1 H locs ls hadj hfr e25 e27 hl1 hW hS hl
    have hl2 : 2 ^ hc * hc ≤ sl1 ∧ sl1 ≤ 10240 := by rw [hl1]; split <;> omega
    have e18 : w1 18 = some (.inr (2, [.ref (ad1 19), .ref (ad1 20), .ref (ad1 21), .ref (ad1 22), .int (nI hc)])) := by rw [hadj 19 (by decide), hadj 20 (by decide), hadj 21 (by decide), hadj 22 (by decide), hfr 18 (by decide) (by decide)]; exact t18
    have e19 : w1 19 = some (.inl (g 0, 14, .inl hX)) := by rw [hfr 19 (by decide) (by decide)]; exact t19
    have e20 : w1 20 = some (.inl (g 0, 14, .inl hY)) := by rw [hfr 20 (by decide) (by decide)]; exact t20
    refine lv_iconst (v := (nI 0)) hx hb dWy_fillShortest_33 (by decide) ?_
    refine lv_istore_n (lv' := [(3, .int (nI 0)), (0, .ref (ad1 25)), (1, .ref (ad1 18)), (2, .int (nI (2 ^ hc)))]) hx hb dWy_fillShortest_34 rfl hl (by decide) rfl (fun ls hl => ?_)
    have loop : ∀ (j : Nat) (S : Nat) (H : Heap) (locs : List Loc) (ls : Array Slot), 2 ^ hc < S + j → S ≤ 2 ^ hc → dq_W D vwCl ad1 (dq_U w1 27 (.inl (g 0, sl1, .inl (mw_fill sh1 hX hY hc S)))) A H → va_S A s.heap H locs → lv_has ls 7 [(0, .ref (ad1 25)), (1, .ref (ad1 18)), (2, .int (nI (2 ^ hc))), (3, .int (nI S))] → W p l e ({ frames := 4, cells := (if sl < 2 ^ hc * hc then 1 else 0), slots := (if sl < 2 ^ hc * hc then 2 ^ hc * hc else 0), locals := 112 } : Room) s m ([.ref (ad 25), .ref (ad 18)] : List Value).toArray below meth c H locs (if sl < 2 ^ hc * hc then 1 else 0) (if sl < 2 ^ hc * hc then 2 ^ hc * hc else 0) Q (F0 m 35 ls []) := by
      intro j
      induction j with
      | zero => intro S H locs ls hj hS9 hW hS hl; exact absurd hj (by omega)
      | succ j ih =>
        intro S H locs ls hj hS9 hW hS hl
        refine lv_iload_n hx hb dWy_fillShortest_35 rfl (lv_at hl 3 rfl) ?_
        refine lv_iload_n hx hb dWy_fillShortest_36 rfl (lv_at hl 2 rfl) ?_
        refine lv_icmp_ge (tgt := 145) hx hb dWy_fillShortest_37 (by decide) (fun c1 => ?_) (fun c1 => ?_)
        · have hSn : S = 2 ^ hc := by have q9 := (nI_leI (by omega) (by omega)).mp c1; omega
          obtain ⟨w2, hw2⟩ : ∃ w2, w2 = dq_U w1 27 (.inl (g 0, sl1, .inl (mw_fill sh1 hX hY hc (2 ^ hc)))) := ⟨_, rfl⟩
          have hfin : dq_W D vwCl ad1 w2 A H := by rw [hw2, ← hSn]; exact hW
          refine W.widen (k := (if sl < 2 ^ hc * hc then 1 else 0)) (n := (if sl < 2 ^ hc * hc then 2 ^ hc * hc else 0)) (Nat.le_refl _) (Nat.le_refl _) ?_
          exact hret (ad1, w2) _ _ _ _ ⟨hadj, fun j h1 h2 => by show w2 j = _; rw [hw2, dq_Un h2]; exact hfr j h1 h2, by show w2 25 = _; rw [hw2, dq_Un (by decide)]; exact e25, sh1, by show w2 27 = _; rw [hw2, dq_Us, hl1]⟩ hfin hS dWy_fillShortest_145
        · have hSn : S < 2 ^ hc := by rcases Nat.lt_or_ge S (2 ^ hc) with q9 | q9; exact q9; exact absurd (nI_le q9 (by omega)) c1
          refine lv_iconst (v := (nI 0)) hx hb dWy_fillShortest_40 (by decide) ?_
          refine lv_istore (lv' := [(4, .int (nI 0)), (0, .ref (ad1 25)), (1, .ref (ad1 18)), (2, .int (nI (2 ^ hc))), (3, .int (nI S))]) hx hb dWy_fillShortest_41 hl (by decide) rfl (fun ls hl => ?_)
          have loop4 : ∀ (j4 : Nat) (k : Nat) (H : Heap) (locs : List Loc) (ls : Array Slot), hc < k + j4 → k ≤ hc → dq_W D vwCl ad1 (dq_U w1 27 (.inl (g 0, sl1, .inl (mw_row (mw_fill sh1 hX hY hc S) hX hY hc S k)))) A H → va_S A s.heap H locs → lv_has ls 7 [(0, .ref (ad1 25)), (1, .ref (ad1 18)), (2, .int (nI (2 ^ hc))), (3, .int (nI S)), (4, .int (nI k))] → W p l e ({ frames := 4, cells := (if sl < 2 ^ hc * hc then 1 else 0), slots := (if sl < 2 ^ hc * hc then 2 ^ hc * hc else 0), locals := 112 } : Room) s m ([.ref (ad 25), .ref (ad 18)] : List Value).toArray below meth c H locs (if sl < 2 ^ hc * hc then 1 else 0) (if sl < 2 ^ hc * hc then 2 ^ hc * hc else 0) Q (F0 m 43 ls []) := by
            intro j4
            induction j4 with
            | zero => intro k H locs ls hj4 hk4 hW hS hl; exact absurd hj4 (by omega)
            | succ j4 ih4 =>
              intro k H locs ls hj4 hk4 hW hS hl
              refine lv_iload hx hb dWy_fillShortest_43 (lv_at hl 4 rfl) ?_
              refine lv_aload_n hx hb dWy_fillShortest_45 rfl (lv_at hl 1 rfl) ?_
              refine dq_get (D := D) (ci := 2) (v := .int (nI hc)) (C := RHt) (T := THt) (N := 5) hx hb hts hinHt hown hK hW 18 ((dq_Un (by decide)).trans e18) rfl 4 (by decide) hf18 (fun _ h9 => h9) rfl dWy_fillShortest_46 ?_
              refine lv_icmp_ge (tgt := 139) hx hb dWy_fillShortest_49 (by decide) (fun c2 => ?_) (fun c2 => ?_)
              · have hkn : hc = k := by have q9 := (nI_leI (by omega) (by omega)).mp c2; omega
                refine lv_iinc (v := (nI (S + 1))) (lv' := [(3, .int (nI (S + 1))), (0, .ref (ad1 25)), (1, .ref (ad1 18)), (2, .int (nI (2 ^ hc))), (4, .int (nI k))]) hx hb dWy_fillShortest_139 hl (k := 3) rfl (by show nI S + 1 = _; exact nI_1 _) (by decide) rfl (fun ls hl => ?_)
                refine lv_goto (tgt := 35) hx hb dWy_fillShortest_142 (by decide) ?_
                exact ih (S + 1) _ _ _ (by omega) (by omega) (by show dq_W D vwCl ad1 (dq_U w1 27 (.inl (g 0, sl1, .inl (mw_row (mw_fill sh1 hX hY hc S) hX hY hc S hc)))) A H; rw [hkn]; rw [← hkn]; rw [← hkn] at hW; exact hW) hS (lv_sub hl [1, 2, 3, 0] rfl)
              · have hkn : k < hc := by rcases Nat.lt_or_ge k hc with q | q; exact q; exact absurd (nI_le q (by omega)) c2
                refine lv_iload_n hx hb dWy_fillShortest_52 rfl (lv_at hl 3 rfl) ?_
                refine lv_iload hx hb dWy_fillShortest_53 (lv_at hl 4 rfl) ?_
                refine dq_calli (va_runSN (As := [.int (nI S), .int (nI k)]) (rest := []) ⟨hx, hb, hml, hown, hts⟩ (c_holds l D g ad1 (dq_U w1 27 (.inl (g 0, sl1, .inl (mw_row (mw_fill sh1 hX hY hc S) hX hY hc S k)))) _ S k  (by omega) (by omega)) ⟨va_cnB 2 hts (dq_gi tw2_86) rfl rfl rfl (hZ.n7) (hts _ (List.mem_cons_of_mem _ tw1_1)) (by decide +kernel) ⟨Nat.le_of_ble_eq_true rfl, Nat.le_of_ble_eq_true rfl⟩, (hts _ (List.mem_cons_of_mem _ tw2_85)), trivial⟩ (dq_preS hW hS hA hK hZ) rfl rfl hl.1 rfl (lv_room (Nat.le_of_ble_eq_true rfl)) dWy_fillShortest_55 ⟨Nat.le_refl _, Nat.le_refl _⟩) hW hS hA (fun r1 u_9 H locs hp1 hW hS hz9 => ?_)
                obtain ⟨hr1, hu9⟩ := hp1
                rw [hu9] at hW
                refine lv_if_ne (tgt := 133) hx hb dWy_fillShortest_58 (by decide) (fun c3 => ?_) (fun c3 => ?_)
                · have e5 : mw_row (mw_fill sh1 hX hY hc S) hX hY hc S (k + 1) = mw_row (mw_fill sh1 hX hY hc S) hX hY hc S k := if_pos (dq_b_t (by rw [← hr1]; exact c3))
                  refine lv_iinc (v := (nI (k + 1))) (lv' := [(4, .int (nI (k + 1))), (0, .ref (ad1 25)), (1, .ref (ad1 18)), (2, .int (nI (2 ^ hc))), (3, .int (nI S))]) hx hb dWy_fillShortest_133 hl (k := 4) rfl (by show nI k + 1 = _; exact nI_1 _) (by decide) rfl (fun ls hl => ?_)
                  refine lv_goto (tgt := 43) hx hb dWy_fillShortest_136 (by decide) ?_
                  exact ih4 (k + 1) _ _ _ (by omega) (by omega) (by rw [e5]; exact hW) hS (lv_sub hl [1, 2, 3, 4, 0] rfl)
                · have hbt : S.testBit k = false := dq_b_f (by rw [← hr1]; exact c3)
                  refine lv_aload_n hx hb dWy_fillShortest_61 rfl (lv_at hl 0 rfl) ?_
                  refine lv_aload_n hx hb dWy_fillShortest_62 rfl (lv_at hl 1 rfl) ?_
                  refine lv_iload_n hx hb dWy_fillShortest_63 rfl (lv_at hl 3 rfl) ?_
                  refine lv_aload_n hx hb dWy_fillShortest_64 rfl (lv_at hl 1 rfl) ?_
                  refine dq_get (D := D) (ci := 2) (v := .ref (ad1 19)) (C := RHt) (T := THt) (N := 5) hx hb hts hinHt hown hK hW 18 ((dq_Un (by decide)).trans e18) rfl 0 (by decide) hf41 (fun _ h9 => h9) rfl dWy_fillShortest_65 ?_
                  refine lv_iload hx hb dWy_fillShortest_68 (lv_at hl 4 rfl) ?_
                  refine dq_ialdN hx hb hK hW 19 0 ((dq_Un (by decide)).trans e19) rfl k (by omega) (by omega) dWy_fillShortest_70 ?_
                  refine lv_aload_n hx hb dWy_fillShortest_71 rfl (lv_at hl 1 rfl) ?_
                  refine dq_get (D := D) (ci := 2) (v := .ref (ad1 20)) (C := RHt) (T := THt) (N := 5) hx hb hts hinHt hown hK hW 18 ((dq_Un (by decide)).trans e18) rfl 1 (by decide) hf44 (fun _ h9 => h9) rfl dWy_fillShortest_72 ?_
                  refine lv_iload hx hb dWy_fillShortest_75 (lv_at hl 4 rfl) ?_
                  refine dq_ialdN hx hb hK hW 20 0 ((dq_Un (by decide)).trans e20) rfl k (by omega) (by omega) dWy_fillShortest_77 ?_
                  refine dq_calli (va_runV (As := [.ref (ad1 18), .int (nI S), .int (hX k), .int (hY k)]) (rest := []) ⟨hx, hb, hml, hown, hts⟩ (c_Way_nextHit l D g ad1 (dq_U w1 27 (.inl (g 0, sl1, .inl (mw_row (mw_fill sh1 hX hY hc S) hX hY hc S k)))) _ hX hY hc wl sq (mw_row (mw_fill sh1 hX hY hc S) hX hY hc S k) sl1 S (hX k) (hY k) ((dq_Un (by decide)).trans e18) ((dq_Un (by decide)).trans e19) ((dq_Un (by decide)).trans e20) ((dq_Un (by decide)).trans e25) dq_Us hc10 hSn hl2.1 hl2.2) (cwV 4 hts (dq_giV tw2_87 tw2_89 twp_6 tw1_9 tw2_90) rfl rfl rfl (by decide +kernel) ⟨Nat.le_of_ble_eq_true rfl, Nat.le_of_ble_eq_true rfl⟩) (dq_preV (ci := 6) hW hS hA hK hZ ((dq_Un (by decide)).trans e25) rfl rfl) rfl rfl hl.1 rfl (lv_room (Nat.le_of_ble_eq_true rfl)) dWy_fillShortest_78 ⟨Nat.le_refl _, Nat.le_refl _⟩) hW hS hA (fun r2 u_9 H locs hp2 hW hS hz9 => ?_)
                  obtain ⟨hr2, hu9⟩ := hp2
                  rw [hu9] at hW
                  refine lv_istore (lv' := [(5, .int r2), (0, .ref (ad1 25)), (1, .ref (ad1 18)), (2, .int (nI (2 ^ hc))), (3, .int (nI S)), (4, .int (nI k))]) hx hb dWy_fillShortest_81 hl (by decide) rfl (fun ls hl => ?_)
                  refine lv_iload hx hb dWy_fillShortest_83 (lv_at hl 0 rfl) ?_
                  refine lv_iconst (v := (-1)) hx hb dWy_fillShortest_85 (by decide) ?_
                  refine lv_icmp_ne (tgt := 93) hx hb dWy_fillShortest_86 (by decide) (fun c4 => ?_) (fun c4 => ?_)
                  · have hex : ∃ t, t < hc ∧ r2 = nI t := by rcases mw_nx_in (mw_row (mw_fill sh1 hX hY hc S) hX hY hc S k) hX hY hc S (hX k) (hY k) hc (by omega) with h9 | ⟨t, h7, h8, h9⟩; exact absurd (hr2.trans h9.1) c4; exact ⟨t, h7, hr2.trans h9⟩
                    obtain ⟨t, ht1, rfl⟩ := hex
                    refine lv_aload_n hx hb dWy_fillShortest_93 rfl (lv_at hl 1 rfl) ?_
                    refine lv_aload_n hx hb dWy_fillShortest_94 rfl (lv_at hl 2 rfl) ?_
                    refine lv_iload hx hb dWy_fillShortest_95 (lv_at hl 0 rfl) ?_
                    refine lv_iload_n hx hb dWy_fillShortest_97 rfl (lv_at hl 4 rfl) ?_
                    refine lv_aload_n hx hb dWy_fillShortest_98 rfl (lv_at hl 2 rfl) ?_
                    refine dq_get (D := D) (ci := 2) (v := .ref (ad1 19)) (C := RHt) (T := THt) (N := 5) hx hb hts hinHt hown hK hW 18 ((dq_Un (by decide)).trans e18) rfl 0 (by decide) hf41 (fun _ h9 => h9) rfl dWy_fillShortest_99 ?_
                    refine lv_iload hx hb dWy_fillShortest_102 (lv_at hl 5 rfl) ?_
                    refine dq_ialdN hx hb hK hW 19 0 ((dq_Un (by decide)).trans e19) rfl k (by omega) (by omega) dWy_fillShortest_104 ?_
                    refine lv_aload_n hx hb dWy_fillShortest_105 rfl (lv_at hl 2 rfl) ?_
                    refine dq_get (D := D) (ci := 2) (v := .ref (ad1 20)) (C := RHt) (T := THt) (N := 5) hx hb hts hinHt hown hK hW 18 ((dq_Un (by decide)).trans e18) rfl 1 (by decide) hf44 (fun _ h9 => h9) rfl dWy_fillShortest_106 ?_
                    refine lv_iload hx hb dWy_fillShortest_109 (lv_at hl 5 rfl) ?_
                    refine dq_ialdN hx hb hK hW 20 0 ((dq_Un (by decide)).trans e20) rfl k (by omega) (by omega) dWy_fillShortest_111 ?_
                    refine dq_calli (va_runV (As := [.ref (ad1 18), .int (nI t), .int (nI S), .int (hX k), .int (hY k)]) (rest := []) ⟨hx, hb, hml, hown, hts⟩ (c_Way_wayOver l D g ad1 (dq_U w1 27 (.inl (g 0, sl1, .inl (mw_row (mw_fill sh1 hX hY hc S) hX hY hc S k)))) _ hX hY hc wl sq (mw_row (mw_fill sh1 hX hY hc S) hX hY hc S k) sl1 t S (hX k) (hY k) ((dq_Un (by decide)).trans e18) ((dq_Un (by decide)).trans e19) ((dq_Un (by decide)).trans e20) ((dq_Un (by decide)).trans e25) dq_Us ht1 hc10 hSn hl2.1 hl2.2) (cwV 5 hts (dq_giV tw2_91 tw2_93 twp_7 tw1_9 tw2_94) rfl rfl rfl (by decide +kernel) ⟨Nat.le_of_ble_eq_true rfl, Nat.le_of_ble_eq_true rfl⟩) (dq_preV (ci := 6) hW hS hA hK hZ ((dq_Un (by decide)).trans e25) rfl rfl) rfl rfl hl.1 rfl (lv_room (Nat.le_of_ble_eq_true rfl)) dWy_fillShortest_112 ⟨Nat.le_refl _, Nat.le_refl _⟩) hW hS hA (fun r3 u_9 H locs hp3 hW hS hz9 => ?_)
                    obtain ⟨hr3, hu9⟩ := hp3
                    rw [hu9] at hW
                    subst hr3
                    have e5 : mw_row (mw_fill sh1 hX hY hc S) hX hY hc S (k + 1) = upd (mw_row (mw_fill sh1 hX hY hc S) hX hY hc S k) (S * hc + k) (mw_o (mw_row (mw_fill sh1 hX hY hc S) hX hY hc S k) hX hY hc t S (hX k) (hY k)) := by show (if S.testBit k = true then _ else _) = _; rw [if_neg (by rw [hbt]; decide), show mw_cell (mw_row (mw_fill sh1 hX hY hc S) hX hY hc S k) hX hY hc S k = mw_o (mw_row (mw_fill sh1 hX hY hc S) hX hY hc S k) hX hY hc t S (hX k) (hY k) from by unfold mw_cell; rw [← hr2, if_neg c4, nI_clamp (by omega)]]
                    refine lv_istore (lv' := [(6, .int (mw_o (mw_row (mw_fill sh1 hX hY hc S) hX hY hc S k) hX hY hc t S (hX k) (hY k))), (5, .int (nI t)), (0, .ref (ad1 25)), (1, .ref (ad1 18)), (2, .int (nI (2 ^ hc))), (3, .int (nI S)), (4, .int (nI k))]) hx hb dWy_fillShortest_115 hl (by decide) rfl (fun ls hl => ?_)
                    refine lv_aload_n hx hb dWy_fillShortest_117 rfl (lv_at hl 2 rfl) ?_
                    refine dq_get (D := D) (ci := 6) (v := .ref (ad1 27)) (C := RWy) (T := TWy) (N := 3) hx hb hts hinWy hown hK hW 25 ((dq_Un (by decide)).trans e25) rfl 2 (by decide) hf15 (fun _ h9 => h9) rfl dWy_fillShortest_118 ?_
                    refine lv_iload_n hx hb dWy_fillShortest_121 rfl (lv_at hl 5 rfl) ?_
                    refine lv_aload_n hx hb dWy_fillShortest_122 rfl (lv_at hl 3 rfl) ?_
                    refine dq_get (D := D) (ci := 2) (v := .int (nI hc)) (C := RHt) (T := THt) (N := 5) hx hb hts hinHt hown hK hW 18 ((dq_Un (by decide)).trans e18) rfl 4 (by decide) hf18 (fun _ h9 => h9) rfl dWy_fillShortest_123 ?_
                    refine lv_imul hx hb dWy_fillShortest_126 ?_
                    refine dq_top (y := nI (S * hc)) (pk_mul _ _) ?_
                    refine lv_iload hx hb dWy_fillShortest_127 (lv_at hl 6 rfl) ?_
                    refine lv_iadd hx hb dWy_fillShortest_129 ?_
                    refine dq_top (y := nI (S * hc + k)) (nI_add _ _) ?_
                    refine lv_iload hx hb dWy_fillShortest_130 (lv_at hl 0 rfl) ?_
                    refine dq_iastN hx hb hK hW hS 27 0 dq_Us rfl (S * hc + k) (Nat.lt_of_lt_of_le (mw_ix hSn hkn) hl2.1) (by omega) dWy_fillShortest_132 (fun H locs hW hS => ?_)
                    rw [dq_UU] at hW
                    refine lv_iinc (v := (nI (k + 1))) (lv' := [(4, .int (nI (k + 1))), (6, .int (mw_o (mw_row (mw_fill sh1 hX hY hc S) hX hY hc S k) hX hY hc t S (hX k) (hY k))), (5, .int (nI t)), (0, .ref (ad1 25)), (1, .ref (ad1 18)), (2, .int (nI (2 ^ hc))), (3, .int (nI S))]) hx hb dWy_fillShortest_133 hl (k := 6) rfl (by show nI k + 1 = _; exact nI_1 _) (by decide) rfl (fun ls hl => ?_)
                    refine lv_goto (tgt := 43) hx hb dWy_fillShortest_136 (by decide) ?_
                    exact ih4 (k + 1) _ _ _ (by omega) (by omega) (by rw [e5]; exact hW) hS (lv_sub hl [3, 4, 5, 6, 0] rfl)
                  · refine lv_iconst (v := (0)) hx hb dWy_fillShortest_89 (by decide) ?_
                    refine lv_goto (tgt := 115) hx hb dWy_fillShortest_90 (by decide) ?_
                    have e5 : mw_row (mw_fill sh1 hX hY hc S) hX hY hc S (k + 1) = upd (mw_row (mw_fill sh1 hX hY hc S) hX hY hc S k) (S * hc + k) 0 := by show (if S.testBit k = true then _ else _) = _; rw [if_neg (by rw [hbt]; decide), show mw_cell (mw_row (mw_fill sh1 hX hY hc S) hX hY hc S k) hX hY hc S k = 0 from if_pos (hr2.symm.trans c4)]
                    refine lv_istore (lv' := [(6, .int (0)), (5, .int r2), (0, .ref (ad1 25)), (1, .ref (ad1 18)), (2, .int (nI (2 ^ hc))), (3, .int (nI S)), (4, .int (nI k))]) hx hb dWy_fillShortest_115 hl (by decide) rfl (fun ls hl => ?_)
                    refine lv_aload_n hx hb dWy_fillShortest_117 rfl (lv_at hl 2 rfl) ?_
                    refine dq_get (D := D) (ci := 6) (v := .ref (ad1 27)) (C := RWy) (T := TWy) (N := 3) hx hb hts hinWy hown hK hW 25 ((dq_Un (by decide)).trans e25) rfl 2 (by decide) hf15 (fun _ h9 => h9) rfl dWy_fillShortest_118 ?_
                    refine lv_iload_n hx hb dWy_fillShortest_121 rfl (lv_at hl 5 rfl) ?_
                    refine lv_aload_n hx hb dWy_fillShortest_122 rfl (lv_at hl 3 rfl) ?_
                    refine dq_get (D := D) (ci := 2) (v := .int (nI hc)) (C := RHt) (T := THt) (N := 5) hx hb hts hinHt hown hK hW 18 ((dq_Un (by decide)).trans e18) rfl 4 (by decide) hf18 (fun _ h9 => h9) rfl dWy_fillShortest_123 ?_
                    refine lv_imul hx hb dWy_fillShortest_126 ?_
                    refine dq_top (y := nI (S * hc)) (pk_mul _ _) ?_
                    refine lv_iload hx hb dWy_fillShortest_127 (lv_at hl 6 rfl) ?_
                    refine lv_iadd hx hb dWy_fillShortest_129 ?_
                    refine dq_top (y := nI (S * hc + k)) (nI_add _ _) ?_
                    refine lv_iload hx hb dWy_fillShortest_130 (lv_at hl 0 rfl) ?_
                    refine dq_iastN hx hb hK hW hS 27 0 dq_Us rfl (S * hc + k) (Nat.lt_of_lt_of_le (mw_ix hSn hkn) hl2.1) (by omega) dWy_fillShortest_132 (fun H locs hW hS => ?_)
                    rw [dq_UU] at hW
                    refine lv_iinc (v := (nI (k + 1))) (lv' := [(4, .int (nI (k + 1))), (6, .int (0)), (5, .int r2), (0, .ref (ad1 25)), (1, .ref (ad1 18)), (2, .int (nI (2 ^ hc))), (3, .int (nI S))]) hx hb dWy_fillShortest_133 hl (k := 6) rfl (by show nI k + 1 = _; exact nI_1 _) (by decide) rfl (fun ls hl => ?_)
                    refine lv_goto (tgt := 43) hx hb dWy_fillShortest_136 (by decide) ?_
                    exact ih4 (k + 1) _ _ _ (by omega) (by omega) (by rw [e5]; exact hW) hS (lv_sub hl [3, 4, 5, 6, 0] rfl)
          exact loop4 (hc + 1) 0 _ _ _ (by omega) (Nat.zero_le _) hW hS (lv_sub hl [1, 2, 3, 4, 0] rfl)
    exact loop (2 ^ hc + 1) 0 _ _ _ (by omega) (Nat.zero_le _) (dq_Wc (by show _ = dq_U w1 27 (.inl (g 0, sl1, .inl sh1)); rw [dq_Uid e27]) hW) hS (lv_sub hl [1, 2, 3, 0] rfl)
  refine lv_iconst (v := (1)) hx hb dWy_fillShortest_0 (by decide) ?_
  refine lv_aload_n hx hb dWy_fillShortest_1 rfl (lv_at hl 1 rfl) ?_
  refine dq_get (D := D) (ci := 2) (v := .int (nI hc)) (C := RHt) (T := THt) (N := 5) hx hb hts hinHt hown hK hW 18 t18 rfl 4 (by decide) hf18 (fun _ h9 => h9) rfl dWy_fillShortest_2 ?_
  refine lv_ishl hx hb dWy_fillShortest_5 ?_
  refine dq_top (y := nI (2 ^ hc)) (dq_sh1 hc (by omega)) ?_
  refine lv_istore_n (lv' := [(2, .int (nI (2 ^ hc))), (0, .ref (ad 25)), (1, .ref (ad 18))]) hx hb dWy_fillShortest_6 rfl hl (by decide) rfl (fun ls hl => ?_)
  refine lv_aload_n hx hb dWy_fillShortest_7 rfl (lv_at hl 1 rfl) ?_
  refine dq_get (D := D) (ci := 6) (v := .ref (ad 27)) (C := RWy) (T := TWy) (N := 3) hx hb hts hinWy hown hK hW 25 y25 rfl 2 (by decide) hf15 (fun _ h9 => h9) rfl dWy_fillShortest_8 ?_
  refine dq_alen hx hb hK hW 27 0 y27 rfl (v := nI sl) rfl dWy_fillShortest_11 ?_
  refine lv_iload_n hx hb dWy_fillShortest_12 rfl (lv_at hl 0 rfl) ?_
  refine lv_aload_n hx hb dWy_fillShortest_13 rfl (lv_at hl 2 rfl) ?_
  refine dq_get (D := D) (ci := 2) (v := .int (nI hc)) (C := RHt) (T := THt) (N := 5) hx hb hts hinHt hown hK hW 18 t18 rfl 4 (by decide) hf18 (fun _ h9 => h9) rfl dWy_fillShortest_14 ?_
  refine lv_imul hx hb dWy_fillShortest_17 ?_
  refine dq_top (y := nI (2 ^ hc * hc)) (pk_mul _ _) ?_
  refine lv_icmp_ge (tgt := 33) hx hb dWy_fillShortest_18 (by decide) (fun c1 => ?_) (fun c1 => ?_)
  · have hge : ¬ sl < 2 ^ hc * hc := by have q9 := (nI_leI (by omega) (by omega)).mp c1; omega
    refine W.widen (k := (if sl < 2 ^ hc * hc then 1 else 0)) (n := (if sl < 2 ^ hc * hc then 2 ^ hc * hc else 0)) (Nat.zero_le _) (Nat.zero_le _) ?_
    exact j33 ad w sl sh _ _ _ (fun _ _ => rfl) (fun _ _ _ => rfl) y25 y27 (if_neg hge).symm hW hS (lv_sub hl [1, 2, 0] rfl)
  · have hlt : sl < 2 ^ hc * hc := by rcases Nat.lt_or_ge sl (2 ^ hc * hc) with q9 | q9; exact q9; exact absurd (nI_le q9 (by omega)) c1
    have hm1 : (if sl < 2 ^ hc * hc then 1 else 0) = 1 := if_pos hlt
    have hm2 : (if sl < 2 ^ hc * hc then 2 ^ hc * hc else 0) = 2 ^ hc * hc := if_pos hlt
    refine lv_aload_n hx hb dWy_fillShortest_21 rfl (lv_at hl 1 rfl) ?_
    refine lv_iload_n hx hb dWy_fillShortest_22 rfl (lv_at hl 0 rfl) ?_
    refine lv_aload_n hx hb dWy_fillShortest_23 rfl (lv_at hl 2 rfl) ?_
    refine dq_get (D := D) (ci := 2) (v := .int (nI hc)) (C := RHt) (T := THt) (N := 5) hx hb hts hinHt hown hK hW 18 t18 rfl 4 (by decide) hf18 (fun _ h9 => h9) rfl dWy_fillShortest_24 ?_
    refine lv_imul hx hb dWy_fillShortest_27 ?_
    refine dq_top (y := nI (2 ^ hc * hc)) (pk_mul _ _) ?_
    refine dq_newi (N := 2 ^ hc * hc) hx hb (hts _ (List.mem_cons_of_mem _ tw1_68)) hK hW hS hA 27 0 rfl (nI_pos (by omega)) (nI_clamp (by omega)) (by omega) (by show 0 + 1 ≤ (if sl < 2 ^ hc * hc then 1 else 0); omega) (by show 0 + 2 ^ hc * hc ≤ (if sl < 2 ^ hc * hc then 2 ^ hc * hc else 0); omega) dWy_fillShortest_28 (fun q9 H hW hS => ?_)
    have had : ∀ j, j ≠ 27 → va_up ad 27 q9 j = ad j := fun j h => va_up_ne _ _ h
    have h27 : va_up ad 27 q9 27 = q9 := va_up_self _ _ _
    generalize va_up ad 27 q9 = ad1 at hW had h27
    refine W.eq (g2 := F0 m 30 ls [.ref q9, .ref (ad1 25)]) (by rw [had 25 (by decide)]) ?_
    refine dq_put (D := D) (ci := 6) (v := .ref q9) (ty := (.array .int)) (C := RWy) (T := TWy) (N := 3) hx hb hts hinWy tyWy tyWy_ok nmWy hown hK hW hS 25 ((dq_Un (by decide)).trans y25) rfl 2 (by decide) hf15 (fun _ h9 => h9) rfl (by decide +kernel) rfl rfl (Nat.le_of_ble_eq_true rfl) dWy_fillShortest_30 (fun H locs hW hS => ?_)
    refine W.widen (k := (if sl < 2 ^ hc * hc then 1 else 0)) (n := (if sl < 2 ^ hc * hc then 2 ^ hc * hc else 0)) (by omega) (by omega) ?_
    exact j33 ad1 _ (2 ^ hc * hc) (fun _ => 0) _ _ _ had (fun j h1 h2 => (dq_Un h1).trans (dq_Un h2)) (by rw [h27, had 26 (by decide)]; exact dq_Us) ((dq_Un (by decide)).trans dq_Us) (if_pos hlt).symm hW hS (by rw [had 25 (by decide), had 18 (by decide)]; exact (lv_sub hl [1, 2, 0] rfl))
