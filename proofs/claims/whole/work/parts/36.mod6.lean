set_option maxHeartbeats 4000000 in
set_option maxRecDepth 100000 in
/-- singleCount() -/
theorem m_singleCount (l : Launch) (D : va_G) (g : Nat → ClassId) (ad : Nat → Nat) (w : Nat → Option va_E) (sz : Nat) (sgN : Nat) (cd : Int32) (n hn cn : Nat) (pl : Int32) (tn : Nat) (wy : Int64) (m100 : w 100 = some (.inr (8, [.int cd, .int (nI n), .ref (ad 102), .ref (ad 103), .ref (ad 104), .int (nI hn), .ref (ad 106), .ref (ad 107), .ref (ad 108), .ref (ad 109), .ref (ad 110), .ref (ad 111), .int (nI cn), .ref (ad 113), .int pl, .int (nI tn), .ref (ad 116), .ref (ad 117), .ref (ad 118), .ref (ad 119), .int (nI sgN), .ref (ad 121), .long wy, .ref (ad 123), .ref (ad 124), .ref (ad 125), .ref (ad 126), .ref (ad 127), .ref (ad 128)]))) (hpc : hn ≤ 14) (hS8 : sgN < 2 ^ 31) : Met l yMo_singleCount wsMo_singleCount ({ frames := 0, cells := 0, slots := 0, locals := 0 } : Room) (va_Pc [.ref (ad 100)] (dq_S D vwCl (dq_t g) ad w sz)) (va_Qi (fun r u => r = nI (dq_pc sgN hn) ∧ u = w) (dq_B D vwCl (dq_t g) ad (dq_A ad w sz)) (dq_A ad w sz)) 0 0 (dq_A ad w sz) := by
  refine dq_ofi (cc := cMo_singleCount) (maxL := 3) (by decide) rfl (Nat.le_of_ble_eq_true rfl) ?_
  intro p e s m below meth c A Q ls ⟨hx, hb, hml, hown, hts⟩ hnm hA hW hK hZ hl hret
  have hS : va_S A s.heap s.heap [] := va_S.rf
  have hl : lv_has ls 3 [(0, .ref (ad 100))] := hl
  have hf90 := hts _ (List.mem_cons_of_mem _ tw3_159)
  have hf120 := hts _ (List.mem_cons_of_mem _ tw3_174)
  have hinMo : ∀ w ∈ u_ws RMo TMo 29, w ∈ wsMo_singleCount := fun w h => List.mem_cons_of_mem _ (inMo w h)
  refine lv_iconst (v := (nI 0)) hx hb dMo_singleCount_0 (by decide) ?_
  refine lv_istore_n (lv' := [(1, .int (nI 0)), (0, .ref (ad 100))]) hx hb dMo_singleCount_1 rfl hl (by decide) rfl (fun ls hl => ?_)
  refine lv_iconst (v := (nI 0)) hx hb dMo_singleCount_2 (by decide) ?_
  refine lv_istore_n (lv' := [(2, .int (nI 0)), (1, .int (nI 0)), (0, .ref (ad 100))]) hx hb dMo_singleCount_3 rfl hl (by decide) rfl (fun ls hl => ?_)
  have loop : ∀ (j : Nat) (k : Nat) (ls : Array Slot), hn < k + j → k ≤ hn → lv_has ls 3 [(0, .ref (ad 100)), (1, .int (nI (dq_pc sgN k))), (2, .int (nI k))] → W p l e ({ frames := 0, cells := 0, slots := 0, locals := 0 } : Room) s m ([.ref (ad 100)] : List Value).toArray below meth c s.heap [] 0 0 Q (F0 m 4 ls []) := by
    intro j
    induction j with
    | zero => intro k ls hj hk  hl; exact absurd hj (by omega)
    | succ j ih =>
      intro k ls hj hk  hl
      refine lv_iload_n hx hb dMo_singleCount_4 rfl (lv_at hl 2 rfl) ?_
      refine lv_aload_n hx hb dMo_singleCount_5 rfl (lv_at hl 0 rfl) ?_
      refine dq_get (D := D) (ci := 8) (v := .int (nI hn)) (C := RMo) (T := TMo) (N := 29) hx hb hts hinMo hown hK hW 100 m100 rfl 5 (by decide) hf90 (fun _ h9 => h9) rfl dMo_singleCount_6 ?_
      refine lv_icmp_ge (tgt := 38) hx hb dMo_singleCount_9 (by decide) (fun c1 => ?_) (fun c1 => ?_)
      · have hkn : hn = k := by have q9 := (nI_leI (by omega) (by omega)).mp c1; omega
        subst hkn
        refine lv_iload_n hx hb dMo_singleCount_38 rfl (lv_at hl 1 rfl) ?_
        exact hret _ _ _ _ _ _ ⟨rfl, rfl⟩ hW hS dMo_singleCount_39
      · have hkn : k < hn := by rcases Nat.lt_or_ge k hn with q | q; exact q; exact absurd (nI_le q (by omega)) c1
        refine lv_aload_n hx hb dMo_singleCount_12 rfl (lv_at hl 0 rfl) ?_
        refine dq_get (D := D) (ci := 8) (v := .int (nI sgN)) (C := RMo) (T := TMo) (N := 29) hx hb hts hinMo hown hK hW 100 m100 rfl 20 (by decide) hf120 (fun _ h9 => h9) rfl dMo_singleCount_13 ?_
        refine lv_iload_n hx hb dMo_singleCount_16 rfl (lv_at hl 2 rfl) ?_
        refine lv_ishr hx hb dMo_singleCount_17 ?_
        refine lv_iconst (v := (1)) hx hb dMo_singleCount_18 (by decide) ?_
        refine lv_iand hx hb dMo_singleCount_19 ?_
        refine dq_top (y := dq_b (sgN.testBit k)) (dq_bit hS8 (by omega)) ?_
        refine lv_iconst (v := (1)) hx hb dMo_singleCount_20 (by decide) ?_
        refine lv_icmp_ne (tgt := 30) hx hb dMo_singleCount_21 (by decide) (fun c2 => ?_) (fun c2 => ?_)
        · have e1 : dq_pc sgN (k + 1) = dq_pc sgN k := if_neg (fun h9 => c2 (dq_b_1.mpr h9))
          refine lv_iload_n hx hb dMo_singleCount_30 rfl (lv_at hl 1 rfl) ?_
          refine lv_istore_n (lv' := [(1, .int (nI (dq_pc sgN k))), (0, .ref (ad 100)), (2, .int (nI k))]) hx hb dMo_singleCount_31 rfl hl (by decide) rfl (fun ls hl => ?_)
          refine lv_iinc (v := (nI (k + 1))) (lv' := [(2, .int (nI (k + 1))), (1, .int (nI (dq_pc sgN k))), (0, .ref (ad 100))]) hx hb dMo_singleCount_32 hl (k := 2) rfl (by show nI k + 1 = _; exact nI_1 _) (by decide) rfl (fun ls hl => ?_)
          refine lv_goto (tgt := 4) hx hb dMo_singleCount_35 (by decide) ?_
          exact ih (k + 1) _ (by omega) (by omega)  (by rw [e1]; exact (lv_sub hl [2, 1, 0] rfl))
        · have e1 : dq_pc sgN (k + 1) = dq_pc sgN k + 1 := if_pos (dq_b_1.mp c2)
          refine lv_iload_n hx hb dMo_singleCount_24 rfl (lv_at hl 1 rfl) ?_
          refine lv_iconst (v := (1)) hx hb dMo_singleCount_25 (by decide) ?_
          refine lv_iadd hx hb dMo_singleCount_26 ?_
          refine dq_top (y := nI (dq_pc sgN k + 1)) (nI_1 _) ?_
          refine lv_goto (tgt := 31) hx hb dMo_singleCount_27 (by decide) ?_
          refine lv_istore_n (lv' := [(1, .int (nI (dq_pc sgN k + 1))), (0, .ref (ad 100)), (2, .int (nI k))]) hx hb dMo_singleCount_31 rfl hl (by decide) rfl (fun ls hl => ?_)
          refine lv_iinc (v := (nI (k + 1))) (lv' := [(2, .int (nI (k + 1))), (1, .int (nI (dq_pc sgN k + 1))), (0, .ref (ad 100))]) hx hb dMo_singleCount_32 hl (k := 2) rfl (by show nI k + 1 = _; exact nI_1 _) (by decide) rfl (fun ls hl => ?_)
          refine lv_goto (tgt := 4) hx hb dMo_singleCount_35 (by decide) ?_
          exact ih (k + 1) _ (by omega) (by omega)  (by rw [e1]; exact (lv_sub hl [2, 1, 0] rfl))
  exact loop (hn + 1) 0 _ (by omega) (Nat.zero_le _)  (lv_sub hl [2, 1, 0] rfl)

set_option maxHeartbeats 4000000 in
set_option maxRecDepth 100000 in
/-- bound, not planned -/
theorem m_bound1 (l : Launch) (D : va_G) (g : Nat → ClassId) (ad : Nat → Nat) (w : Nat → Option va_E) (sz : Nat) (cd : Int32) (n hn cn : Nat) (pl : Int32) (tn : Nat) (sg : Int32) (wy : Int64) (m100 : w 100 = some (.inr (8, [.int cd, .int (nI n), .ref (ad 102), .ref (ad 103), .ref (ad 104), .int (nI hn), .ref (ad 106), .ref (ad 107), .ref (ad 108), .ref (ad 109), .ref (ad 110), .ref (ad 111), .int (nI cn), .ref (ad 113), .int pl, .int (nI tn), .ref (ad 116), .ref (ad 117), .ref (ad 118), .ref (ad 119), .int sg, .ref (ad 121), .long wy, .ref (ad 123), .ref (ad 124), .ref (ad 125), .ref (ad 126), .ref (ad 127), .ref (ad 128)]))) (hpl : pl = 0) : Met l yMo_bound wsMo_bound ({ frames := 2, cells := 0, slots := 0, locals := 50 } : Room) (va_Pc [.ref (ad 100)] (dq_S D vwCl (dq_t g) ad w sz)) (va_Qi (fun r u => r = 0 ∧ u = dq_U w 100 (.inr (8, [.int 1, .int (nI n), .ref (ad 102), .ref (ad 103), .ref (ad 104), .int (nI hn), .ref (ad 106), .ref (ad 107), .ref (ad 108), .ref (ad 109), .ref (ad 110), .ref (ad 111), .int (nI cn), .ref (ad 113), .int pl, .int (nI tn), .ref (ad 116), .ref (ad 117), .ref (ad 118), .ref (ad 119), .int sg, .ref (ad 121), .long wy, .ref (ad 123), .ref (ad 124), .ref (ad 125), .ref (ad 126), .ref (ad 127), .ref (ad 128)]))) (dq_B D vwCl (dq_t g) ad (dq_A ad w sz)) (dq_A ad w sz)) 0 0 (dq_A ad w sz) := by
  refine dq_ofi (cc := cMo_bound) (maxL := 3) (by decide) rfl (Nat.le_of_ble_eq_true rfl) ?_
  intro p e s m below meth c A Q ls ⟨hx, hb, hml, hown, hts⟩ hnm hA hW hK hZ hl hret
  have hS : va_S A s.heap s.heap [] := va_S.rf
  have hl : lv_has ls 3 [(0, .ref (ad 100))] := hl
  have hf16 := hts _ (List.mem_cons_of_mem _ tw3_158)
  have hf75 := hts _ (List.mem_cons_of_mem _ tw3_155)
  have hf90 := hts _ (List.mem_cons_of_mem _ tw3_159)
  have hinMo : ∀ w ∈ u_ws RMo TMo 29, w ∈ wsMo_bound := fun w h => List.mem_cons_of_mem _ (inMo w h)
  refine lv_aload_n hx hb dMo_bound_0 rfl (lv_at hl 0 rfl) ?_
  refine dq_calli (va_runV (As := []) (rest := []) ⟨hx, hb, hml, hown, hts⟩ (m_none_y l D g ad (w) _ cd n hn cn pl tn sg wy m100 hpl) (cwV 0 hts (dq_giV tw4_87 tw4_89 twp_25 tw1_10 tw4_90) rfl rfl rfl (by decide +kernel) ⟨Nat.le_of_ble_eq_true rfl, Nat.le_of_ble_eq_true rfl⟩) (dq_preV (ci := 8) hW hS hA hK hZ m100 rfl rfl) rfl rfl hl.1 rfl (lv_room (Nat.le_of_ble_eq_true rfl)) dMo_bound_1 ⟨Nat.zero_le _, Nat.zero_le _⟩) hW hS hA (fun r1 u_9 H locs hp1 hW hS hz9 => ?_)
  obtain ⟨hr1, hu9⟩ := hp1
  rw [hu9] at hW
  subst hr1
  refine lv_if_eq (tgt := 9) hx hb dMo_bound_4 (by decide) (fun c1 => ?_) (fun c1 => ?_)
  · exact absurd c1 (by decide)
  · refine lv_iconst (v := (0)) hx hb dMo_bound_7 (by decide) ?_
    exact hret _ _ _ _ _ _ ⟨rfl, rfl⟩ hW hS dMo_bound_8

set_option maxHeartbeats 4000000 in
set_option maxRecDepth 100000 in
/-- bound() -/
theorem m_bound_z (l : Launch) (D : va_G) (g : Nat → ClassId) (ad : Nat → Nat) (w : Nat → Option va_E) (sz : Nat) (sgN : Nat) (cd : Int32) (n hn cn : Nat) (pl : Int32) (tn : Nat) (wy : Int64) (sw : Nat → Int32) (m100 : w 100 = some (.inr (8, [.int cd, .int (nI n), .ref (ad 102), .ref (ad 103), .ref (ad 104), .int (nI hn), .ref (ad 106), .ref (ad 107), .ref (ad 108), .ref (ad 109), .ref (ad 110), .ref (ad 111), .int (nI cn), .ref (ad 113), .int pl, .int (nI tn), .ref (ad 116), .ref (ad 117), .ref (ad 118), .ref (ad 119), .int (nI sgN), .ref (ad 121), .long wy, .ref (ad 123), .ref (ad 124), .ref (ad 125), .ref (ad 126), .ref (ad 127), .ref (ad 128)]))) (m104 : w 104 = some (.inl (g 0, 16, .inl sw))) (hpl : ¬ pl = 0) (hn16 : n ≤ 16) (hpc : hn ≤ 14) (hS8 : sgN < 2 ^ 31) (h0 : mh_cnt sw n = 0) : Met l yMo_bound wsMo_bound ({ frames := 2, cells := 0, slots := 0, locals := 50 } : Room) (va_Pc [.ref (ad 100)] (dq_S D vwCl (dq_t g) ad w sz)) (va_Qi (fun r u => r = 0 ∧ u = dq_U w 100 (.inr (8, [.int 0, .int (nI n), .ref (ad 102), .ref (ad 103), .ref (ad 104), .int (nI hn), .ref (ad 106), .ref (ad 107), .ref (ad 108), .ref (ad 109), .ref (ad 110), .ref (ad 111), .int (nI cn), .ref (ad 113), .int pl, .int (nI tn), .ref (ad 116), .ref (ad 117), .ref (ad 118), .ref (ad 119), .int (nI sgN), .ref (ad 121), .long wy, .ref (ad 123), .ref (ad 124), .ref (ad 125), .ref (ad 126), .ref (ad 127), .ref (ad 128)]))) (dq_B D vwCl (dq_t g) ad (dq_A ad w sz)) (dq_A ad w sz)) 0 0 (dq_A ad w sz) := by
  refine dq_ofi (cc := cMo_bound) (maxL := 3) (by decide) rfl (Nat.le_of_ble_eq_true rfl) ?_
  intro p e s m below meth c A Q ls ⟨hx, hb, hml, hown, hts⟩ hnm hA hW hK hZ hl hret
  have hS : va_S A s.heap s.heap [] := va_S.rf
  have hl : lv_has ls 3 [(0, .ref (ad 100))] := hl
  have hf16 := hts _ (List.mem_cons_of_mem _ tw3_158)
  have hf75 := hts _ (List.mem_cons_of_mem _ tw3_155)
  have hf90 := hts _ (List.mem_cons_of_mem _ tw3_159)
  have hinMo : ∀ w ∈ u_ws RMo TMo 29, w ∈ wsMo_bound := fun w h => List.mem_cons_of_mem _ (inMo w h)
  have hcl : mh_cnt sw n ≤ n := mh_cnt_le sw n
  refine lv_aload_n hx hb dMo_bound_0 rfl (lv_at hl 0 rfl) ?_
  refine dq_calli (va_runV (As := []) (rest := []) ⟨hx, hb, hml, hown, hts⟩ (m_none_n l D g ad (w) _ cd n hn cn pl tn (nI sgN) wy m100 hpl) (cwV 0 hts (dq_giV tw4_87 tw4_89 twp_25 tw1_10 tw4_90) rfl rfl rfl (by decide +kernel) ⟨Nat.le_of_ble_eq_true rfl, Nat.le_of_ble_eq_true rfl⟩) (dq_preV (ci := 8) hW hS hA hK hZ m100 rfl rfl) rfl rfl hl.1 rfl (lv_room (Nat.le_of_ble_eq_true rfl)) dMo_bound_1 ⟨Nat.zero_le _, Nat.zero_le _⟩) hW hS hA (fun r1 u_9 H locs hp1 hW hS hz9 => ?_)
  obtain ⟨hr1, hu9⟩ := hp1
  rw [hu9] at hW
  subst hr1
  refine lv_if_eq (tgt := 9) hx hb dMo_bound_4 (by decide) (fun c1 => ?_) (fun c1 => ?_)
  · refine lv_iconst (v := (nI 0)) hx hb dMo_bound_9 (by decide) ?_
    refine lv_istore_n (lv' := [(1, .int (nI 0)), (0, .ref (ad 100))]) hx hb dMo_bound_10 rfl hl (by decide) rfl (fun ls hl => ?_)
    refine lv_iconst (v := (nI 0)) hx hb dMo_bound_11 (by decide) ?_
    refine lv_istore_n (lv' := [(2, .int (nI 0)), (1, .int (nI 0)), (0, .ref (ad 100))]) hx hb dMo_bound_12 rfl hl (by decide) rfl (fun ls hl => ?_)
    have loop : ∀ (j : Nat) (k : Nat) (H : Heap) (locs : List Loc) (ls : Array Slot), n < k + j → k ≤ n → dq_W D vwCl ad (dq_U w 100 (.inr (8, [.int 0, .int (nI n), .ref (ad 102), .ref (ad 103), .ref (ad 104), .int (nI hn), .ref (ad 106), .ref (ad 107), .ref (ad 108), .ref (ad 109), .ref (ad 110), .ref (ad 111), .int (nI cn), .ref (ad 113), .int pl, .int (nI tn), .ref (ad 116), .ref (ad 117), .ref (ad 118), .ref (ad 119), .int (nI sgN), .ref (ad 121), .long wy, .ref (ad 123), .ref (ad 124), .ref (ad 125), .ref (ad 126), .ref (ad 127), .ref (ad 128)]))) A H → va_S A s.heap H locs → lv_has ls 3 [(0, .ref (ad 100)), (1, .int (nI (mh_cnt sw k))), (2, .int (nI k))] → W p l e ({ frames := 2, cells := 0, slots := 0, locals := 50 } : Room) s m ([.ref (ad 100)] : List Value).toArray below meth c H locs 0 0 Q (F0 m 13 ls []) := by
      intro j
      induction j with
      | zero => intro k H locs ls hj hk hW hS hl; exact absurd hj (by omega)
      | succ j ih =>
        intro k H locs ls hj hk hW hS hl
        refine lv_iload_n hx hb dMo_bound_13 rfl (lv_at hl 2 rfl) ?_
        refine lv_aload_n hx hb dMo_bound_14 rfl (lv_at hl 0 rfl) ?_
        refine dq_get (D := D) (ci := 8) (v := .int (nI n)) (C := RMo) (T := TMo) (N := 29) hx hb hts hinMo hown hK hW 100 dq_Us rfl 1 (by decide) hf75 (fun _ h9 => h9) rfl dMo_bound_15 ?_
        refine lv_icmp_ge (tgt := 44) hx hb dMo_bound_18 (by decide) (fun c2 => ?_) (fun c2 => ?_)
        · have hkn : n = k := by have q9 := (nI_leI (by omega) (by omega)).mp c2; omega
          subst hkn
          refine lv_aload_n hx hb dMo_bound_44 rfl (lv_at hl 0 rfl) ?_
          refine dq_get (D := D) (ci := 8) (v := .int (nI hn)) (C := RMo) (T := TMo) (N := 29) hx hb hts hinMo hown hK hW 100 dq_Us rfl 5 (by decide) hf90 (fun _ h9 => h9) rfl dMo_bound_45 ?_
          refine lv_aload_n hx hb dMo_bound_48 rfl (lv_at hl 0 rfl) ?_
          refine dq_calli (va_runV (As := []) (rest := [.int (nI hn)]) ⟨hx, hb, hml, hown, hts⟩ (m_singleCount l D g ad (dq_U w 100 (.inr (8, [.int 0, .int (nI n), .ref (ad 102), .ref (ad 103), .ref (ad 104), .int (nI hn), .ref (ad 106), .ref (ad 107), .ref (ad 108), .ref (ad 109), .ref (ad 110), .ref (ad 111), .int (nI cn), .ref (ad 113), .int pl, .int (nI tn), .ref (ad 116), .ref (ad 117), .ref (ad 118), .ref (ad 119), .int (nI sgN), .ref (ad 121), .long wy, .ref (ad 123), .ref (ad 124), .ref (ad 125), .ref (ad 126), .ref (ad 127), .ref (ad 128)]))) _ sgN 0 n hn cn pl tn wy dq_Us hpc hS8) (cwV 0 hts (dq_giV tw4_123 tw4_125 twp_27 tw1_10 tw4_126) rfl rfl rfl (by decide +kernel) ⟨Nat.le_of_ble_eq_true rfl, Nat.le_of_ble_eq_true rfl⟩) (dq_preV (ci := 8) hW hS hA hK hZ dq_Us rfl rfl) rfl rfl hl.1 rfl (lv_room (Nat.le_of_ble_eq_true rfl)) dMo_bound_49 ⟨Nat.zero_le _, Nat.zero_le _⟩) hW hS hA (fun r2 u_9 H locs hp2 hW hS hz9 => ?_)
          obtain ⟨hr2, hu9⟩ := hp2
          rw [hu9] at hW
          subst hr2
          refine lv_isub hx hb dMo_bound_52 ?_
          refine lv_istore_n (lv' := [(2, .int ((nI hn) - (nI (dq_pc sgN hn)))), (0, .ref (ad 100)), (1, .int (nI (mh_cnt sw n)))]) hx hb dMo_bound_53 rfl hl (by decide) rfl (fun ls hl => ?_)
          refine lv_iload_n hx hb dMo_bound_54 rfl (lv_at hl 2 rfl) ?_
          refine lv_if_eq (tgt := 62) hx hb dMo_bound_55 (by decide) (fun c3 => ?_) (fun c3 => ?_)
          · refine lv_iconst (v := (0)) hx hb dMo_bound_62 (by decide) ?_
            refine lv_goto (tgt := 73) hx hb dMo_bound_63 (by decide) ?_
            exact hret _ _ _ _ _ _ ⟨rfl, rfl⟩ hW hS dMo_bound_73
          · exact absurd (by rw [h0]; rfl) c3
        · have hkn : k < n := by rcases Nat.lt_or_ge k n with q | q; exact q; exact absurd (nI_le q (by omega)) c2
          refine lv_aload_n hx hb dMo_bound_21 rfl (lv_at hl 0 rfl) ?_
          refine dq_get (D := D) (ci := 8) (v := .ref (ad 104)) (C := RMo) (T := TMo) (N := 29) hx hb hts hinMo hown hK hW 100 dq_Us rfl 4 (by decide) hf16 (fun _ h9 => h9) rfl dMo_bound_22 ?_
          refine lv_iload_n hx hb dMo_bound_25 rfl (lv_at hl 2 rfl) ?_
          refine dq_ialdN hx hb hK hW 104 0 ((dq_Un (by decide)).trans m104) rfl k (by omega) (by omega) dMo_bound_26 ?_
          refine lv_if_le (tgt := 36) hx hb dMo_bound_27 (by decide) (fun c3 => ?_) (fun c3 => ?_)
          · have e1 : mh_cnt sw (k + 1) = mh_cnt sw k := if_pos c3
            refine lv_iload_n hx hb dMo_bound_36 rfl (lv_at hl 1 rfl) ?_
            refine lv_istore_n (lv' := [(1, .int (nI (mh_cnt sw k))), (0, .ref (ad 100)), (2, .int (nI k))]) hx hb dMo_bound_37 rfl hl (by decide) rfl (fun ls hl => ?_)
            refine lv_iinc (v := (nI (k + 1))) (lv' := [(2, .int (nI (k + 1))), (1, .int (nI (mh_cnt sw k))), (0, .ref (ad 100))]) hx hb dMo_bound_38 hl (k := 2) rfl (by show nI k + 1 = _; exact nI_1 _) (by decide) rfl (fun ls hl => ?_)
            refine lv_goto (tgt := 13) hx hb dMo_bound_41 (by decide) ?_
            exact ih (k + 1) _ _ _ (by omega) (by omega) hW hS (by rw [e1]; exact (lv_sub hl [2, 1, 0] rfl))
          · have e1 : mh_cnt sw (k + 1) = mh_cnt sw k + 1 := if_neg c3
            refine lv_iload_n hx hb dMo_bound_30 rfl (lv_at hl 1 rfl) ?_
            refine lv_iconst (v := (1)) hx hb dMo_bound_31 (by decide) ?_
            refine lv_iadd hx hb dMo_bound_32 ?_
            refine dq_top (y := nI (mh_cnt sw k + 1)) (nI_1 _) ?_
            refine lv_goto (tgt := 37) hx hb dMo_bound_33 (by decide) ?_
            refine lv_istore_n (lv' := [(1, .int (nI (mh_cnt sw k + 1))), (0, .ref (ad 100)), (2, .int (nI k))]) hx hb dMo_bound_37 rfl hl (by decide) rfl (fun ls hl => ?_)
            refine lv_iinc (v := (nI (k + 1))) (lv' := [(2, .int (nI (k + 1))), (1, .int (nI (mh_cnt sw k + 1))), (0, .ref (ad 100))]) hx hb dMo_bound_38 hl (k := 2) rfl (by show nI k + 1 = _; exact nI_1 _) (by decide) rfl (fun ls hl => ?_)
            refine lv_goto (tgt := 13) hx hb dMo_bound_41 (by decide) ?_
            exact ih (k + 1) _ _ _ (by omega) (by omega) hW hS (by rw [e1]; exact (lv_sub hl [2, 1, 0] rfl))
    exact loop (n + 1) 0 _ _ _ (by omega) (Nat.zero_le _) hW hS (lv_sub hl [2, 1, 0] rfl)
  · exact absurd rfl c1

set_option maxHeartbeats 4000000 in
set_option maxRecDepth 100000 in
/-- bound() -/
theorem m_bound_q (l : Launch) (D : va_G) (g : Nat → ClassId) (ad : Nat → Nat) (w : Nat → Option va_E) (sz : Nat) (sgN : Nat) (cd : Int32) (n hn cn : Nat) (pl : Int32) (tn : Nat) (wy : Int64) (sw : Nat → Int32) (m100 : w 100 = some (.inr (8, [.int cd, .int (nI n), .ref (ad 102), .ref (ad 103), .ref (ad 104), .int (nI hn), .ref (ad 106), .ref (ad 107), .ref (ad 108), .ref (ad 109), .ref (ad 110), .ref (ad 111), .int (nI cn), .ref (ad 113), .int pl, .int (nI tn), .ref (ad 116), .ref (ad 117), .ref (ad 118), .ref (ad 119), .int (nI sgN), .ref (ad 121), .long wy, .ref (ad 123), .ref (ad 124), .ref (ad 125), .ref (ad 126), .ref (ad 127), .ref (ad 128)]))) (m104 : w 104 = some (.inl (g 0, 16, .inl sw))) (hpl : ¬ pl = 0) (hn16 : n ≤ 16) (hpc : hn ≤ 14) (hS8 : sgN < 2 ^ 31) (h0 : ¬ mh_cnt sw n = 0) (h1 : (nI hn - nI (dq_pc sgN hn)) = 0) : Met l yMo_bound wsMo_bound ({ frames := 2, cells := 0, slots := 0, locals := 50 } : Room) (va_Pc [.ref (ad 100)] (dq_S D vwCl (dq_t g) ad w sz)) (va_Qi (fun r u => r = 0 ∧ u = dq_U w 100 (.inr (8, [.int 0, .int (nI n), .ref (ad 102), .ref (ad 103), .ref (ad 104), .int (nI hn), .ref (ad 106), .ref (ad 107), .ref (ad 108), .ref (ad 109), .ref (ad 110), .ref (ad 111), .int (nI cn), .ref (ad 113), .int pl, .int (nI tn), .ref (ad 116), .ref (ad 117), .ref (ad 118), .ref (ad 119), .int (nI sgN), .ref (ad 121), .long wy, .ref (ad 123), .ref (ad 124), .ref (ad 125), .ref (ad 126), .ref (ad 127), .ref (ad 128)]))) (dq_B D vwCl (dq_t g) ad (dq_A ad w sz)) (dq_A ad w sz)) 0 0 (dq_A ad w sz) := by
  refine dq_ofi (cc := cMo_bound) (maxL := 3) (by decide) rfl (Nat.le_of_ble_eq_true rfl) ?_
  intro p e s m below meth c A Q ls ⟨hx, hb, hml, hown, hts⟩ hnm hA hW hK hZ hl hret
  have hS : va_S A s.heap s.heap [] := va_S.rf
  have hl : lv_has ls 3 [(0, .ref (ad 100))] := hl
  have hf16 := hts _ (List.mem_cons_of_mem _ tw3_158)
  have hf75 := hts _ (List.mem_cons_of_mem _ tw3_155)
  have hf90 := hts _ (List.mem_cons_of_mem _ tw3_159)
  have hinMo : ∀ w ∈ u_ws RMo TMo 29, w ∈ wsMo_bound := fun w h => List.mem_cons_of_mem _ (inMo w h)
  have hcl : mh_cnt sw n ≤ n := mh_cnt_le sw n
  refine lv_aload_n hx hb dMo_bound_0 rfl (lv_at hl 0 rfl) ?_
  refine dq_calli (va_runV (As := []) (rest := []) ⟨hx, hb, hml, hown, hts⟩ (m_none_n l D g ad (w) _ cd n hn cn pl tn (nI sgN) wy m100 hpl) (cwV 0 hts (dq_giV tw4_87 tw4_89 twp_25 tw1_10 tw4_90) rfl rfl rfl (by decide +kernel) ⟨Nat.le_of_ble_eq_true rfl, Nat.le_of_ble_eq_true rfl⟩) (dq_preV (ci := 8) hW hS hA hK hZ m100 rfl rfl) rfl rfl hl.1 rfl (lv_room (Nat.le_of_ble_eq_true rfl)) dMo_bound_1 ⟨Nat.zero_le _, Nat.zero_le _⟩) hW hS hA (fun r1 u_9 H locs hp1 hW hS hz9 => ?_)
  obtain ⟨hr1, hu9⟩ := hp1
  rw [hu9] at hW
  subst hr1
  refine lv_if_eq (tgt := 9) hx hb dMo_bound_4 (by decide) (fun c1 => ?_) (fun c1 => ?_)
  · refine lv_iconst (v := (nI 0)) hx hb dMo_bound_9 (by decide) ?_
    refine lv_istore_n (lv' := [(1, .int (nI 0)), (0, .ref (ad 100))]) hx hb dMo_bound_10 rfl hl (by decide) rfl (fun ls hl => ?_)
    refine lv_iconst (v := (nI 0)) hx hb dMo_bound_11 (by decide) ?_
    refine lv_istore_n (lv' := [(2, .int (nI 0)), (1, .int (nI 0)), (0, .ref (ad 100))]) hx hb dMo_bound_12 rfl hl (by decide) rfl (fun ls hl => ?_)
    have loop : ∀ (j : Nat) (k : Nat) (H : Heap) (locs : List Loc) (ls : Array Slot), n < k + j → k ≤ n → dq_W D vwCl ad (dq_U w 100 (.inr (8, [.int 0, .int (nI n), .ref (ad 102), .ref (ad 103), .ref (ad 104), .int (nI hn), .ref (ad 106), .ref (ad 107), .ref (ad 108), .ref (ad 109), .ref (ad 110), .ref (ad 111), .int (nI cn), .ref (ad 113), .int pl, .int (nI tn), .ref (ad 116), .ref (ad 117), .ref (ad 118), .ref (ad 119), .int (nI sgN), .ref (ad 121), .long wy, .ref (ad 123), .ref (ad 124), .ref (ad 125), .ref (ad 126), .ref (ad 127), .ref (ad 128)]))) A H → va_S A s.heap H locs → lv_has ls 3 [(0, .ref (ad 100)), (1, .int (nI (mh_cnt sw k))), (2, .int (nI k))] → W p l e ({ frames := 2, cells := 0, slots := 0, locals := 50 } : Room) s m ([.ref (ad 100)] : List Value).toArray below meth c H locs 0 0 Q (F0 m 13 ls []) := by
      intro j
      induction j with
      | zero => intro k H locs ls hj hk hW hS hl; exact absurd hj (by omega)
      | succ j ih =>
        intro k H locs ls hj hk hW hS hl
        refine lv_iload_n hx hb dMo_bound_13 rfl (lv_at hl 2 rfl) ?_
        refine lv_aload_n hx hb dMo_bound_14 rfl (lv_at hl 0 rfl) ?_
        refine dq_get (D := D) (ci := 8) (v := .int (nI n)) (C := RMo) (T := TMo) (N := 29) hx hb hts hinMo hown hK hW 100 dq_Us rfl 1 (by decide) hf75 (fun _ h9 => h9) rfl dMo_bound_15 ?_
        refine lv_icmp_ge (tgt := 44) hx hb dMo_bound_18 (by decide) (fun c2 => ?_) (fun c2 => ?_)
        · have hkn : n = k := by have q9 := (nI_leI (by omega) (by omega)).mp c2; omega
          subst hkn
          refine lv_aload_n hx hb dMo_bound_44 rfl (lv_at hl 0 rfl) ?_
          refine dq_get (D := D) (ci := 8) (v := .int (nI hn)) (C := RMo) (T := TMo) (N := 29) hx hb hts hinMo hown hK hW 100 dq_Us rfl 5 (by decide) hf90 (fun _ h9 => h9) rfl dMo_bound_45 ?_
          refine lv_aload_n hx hb dMo_bound_48 rfl (lv_at hl 0 rfl) ?_
          refine dq_calli (va_runV (As := []) (rest := [.int (nI hn)]) ⟨hx, hb, hml, hown, hts⟩ (m_singleCount l D g ad (dq_U w 100 (.inr (8, [.int 0, .int (nI n), .ref (ad 102), .ref (ad 103), .ref (ad 104), .int (nI hn), .ref (ad 106), .ref (ad 107), .ref (ad 108), .ref (ad 109), .ref (ad 110), .ref (ad 111), .int (nI cn), .ref (ad 113), .int pl, .int (nI tn), .ref (ad 116), .ref (ad 117), .ref (ad 118), .ref (ad 119), .int (nI sgN), .ref (ad 121), .long wy, .ref (ad 123), .ref (ad 124), .ref (ad 125), .ref (ad 126), .ref (ad 127), .ref (ad 128)]))) _ sgN 0 n hn cn pl tn wy dq_Us hpc hS8) (cwV 0 hts (dq_giV tw4_123 tw4_125 twp_27 tw1_10 tw4_126) rfl rfl rfl (by decide +kernel) ⟨Nat.le_of_ble_eq_true rfl, Nat.le_of_ble_eq_true rfl⟩) (dq_preV (ci := 8) hW hS hA hK hZ dq_Us rfl rfl) rfl rfl hl.1 rfl (lv_room (Nat.le_of_ble_eq_true rfl)) dMo_bound_49 ⟨Nat.zero_le _, Nat.zero_le _⟩) hW hS hA (fun r2 u_9 H locs hp2 hW hS hz9 => ?_)
          obtain ⟨hr2, hu9⟩ := hp2
          rw [hu9] at hW
          subst hr2
          refine lv_isub hx hb dMo_bound_52 ?_
          refine lv_istore_n (lv' := [(2, .int ((nI hn) - (nI (dq_pc sgN hn)))), (0, .ref (ad 100)), (1, .int (nI (mh_cnt sw n)))]) hx hb dMo_bound_53 rfl hl (by decide) rfl (fun ls hl => ?_)
          refine lv_iload_n hx hb dMo_bound_54 rfl (lv_at hl 2 rfl) ?_
          refine lv_if_eq (tgt := 62) hx hb dMo_bound_55 (by decide) (fun c3 => ?_) (fun c3 => ?_)
          · exact absurd ((nI_eq (b := 0) (by omega) (by omega)).mp c3) h0
          · refine lv_iload_n hx hb dMo_bound_58 rfl (lv_at hl 0 rfl) ?_
            refine lv_if_ne (tgt := 66) hx hb dMo_bound_59 (by decide) (fun c4 => ?_) (fun c4 => ?_)
            · exact absurd h1 c4
            · refine lv_iconst (v := (0)) hx hb dMo_bound_62 (by decide) ?_
              refine lv_goto (tgt := 73) hx hb dMo_bound_63 (by decide) ?_
              exact hret _ _ _ _ _ _ ⟨rfl, rfl⟩ hW hS dMo_bound_73
        · have hkn : k < n := by rcases Nat.lt_or_ge k n with q | q; exact q; exact absurd (nI_le q (by omega)) c2
          refine lv_aload_n hx hb dMo_bound_21 rfl (lv_at hl 0 rfl) ?_
          refine dq_get (D := D) (ci := 8) (v := .ref (ad 104)) (C := RMo) (T := TMo) (N := 29) hx hb hts hinMo hown hK hW 100 dq_Us rfl 4 (by decide) hf16 (fun _ h9 => h9) rfl dMo_bound_22 ?_
          refine lv_iload_n hx hb dMo_bound_25 rfl (lv_at hl 2 rfl) ?_
          refine dq_ialdN hx hb hK hW 104 0 ((dq_Un (by decide)).trans m104) rfl k (by omega) (by omega) dMo_bound_26 ?_
          refine lv_if_le (tgt := 36) hx hb dMo_bound_27 (by decide) (fun c3 => ?_) (fun c3 => ?_)
          · have e1 : mh_cnt sw (k + 1) = mh_cnt sw k := if_pos c3
            refine lv_iload_n hx hb dMo_bound_36 rfl (lv_at hl 1 rfl) ?_
            refine lv_istore_n (lv' := [(1, .int (nI (mh_cnt sw k))), (0, .ref (ad 100)), (2, .int (nI k))]) hx hb dMo_bound_37 rfl hl (by decide) rfl (fun ls hl => ?_)
            refine lv_iinc (v := (nI (k + 1))) (lv' := [(2, .int (nI (k + 1))), (1, .int (nI (mh_cnt sw k))), (0, .ref (ad 100))]) hx hb dMo_bound_38 hl (k := 2) rfl (by show nI k + 1 = _; exact nI_1 _) (by decide) rfl (fun ls hl => ?_)
            refine lv_goto (tgt := 13) hx hb dMo_bound_41 (by decide) ?_
            exact ih (k + 1) _ _ _ (by omega) (by omega) hW hS (by rw [e1]; exact (lv_sub hl [2, 1, 0] rfl))
          · have e1 : mh_cnt sw (k + 1) = mh_cnt sw k + 1 := if_neg c3
            refine lv_iload_n hx hb dMo_bound_30 rfl (lv_at hl 1 rfl) ?_
            refine lv_iconst (v := (1)) hx hb dMo_bound_31 (by decide) ?_
            refine lv_iadd hx hb dMo_bound_32 ?_
            refine dq_top (y := nI (mh_cnt sw k + 1)) (nI_1 _) ?_
            refine lv_goto (tgt := 37) hx hb dMo_bound_33 (by decide) ?_
            refine lv_istore_n (lv' := [(1, .int (nI (mh_cnt sw k + 1))), (0, .ref (ad 100)), (2, .int (nI k))]) hx hb dMo_bound_37 rfl hl (by decide) rfl (fun ls hl => ?_)
            refine lv_iinc (v := (nI (k + 1))) (lv' := [(2, .int (nI (k + 1))), (1, .int (nI (mh_cnt sw k + 1))), (0, .ref (ad 100))]) hx hb dMo_bound_38 hl (k := 2) rfl (by show nI k + 1 = _; exact nI_1 _) (by decide) rfl (fun ls hl => ?_)
            refine lv_goto (tgt := 13) hx hb dMo_bound_41 (by decide) ?_
            exact ih (k + 1) _ _ _ (by omega) (by omega) hW hS (by rw [e1]; exact (lv_sub hl [2, 1, 0] rfl))
    exact loop (n + 1) 0 _ _ _ (by omega) (Nat.zero_le _) hW hS (lv_sub hl [2, 1, 0] rfl)
  · exact absurd rfl c1

set_option maxHeartbeats 4000000 in
set_option maxRecDepth 100000 in
/-- bound() -/
theorem m_bound_p (l : Launch) (D : va_G) (g : Nat → ClassId) (ad : Nat → Nat) (w : Nat → Option va_E) (sz : Nat) (sgN : Nat) (cd : Int32) (n hn cn : Nat) (pl : Int32) (tn : Nat) (wy : Int64) (sw : Nat → Int32) (m100 : w 100 = some (.inr (8, [.int cd, .int (nI n), .ref (ad 102), .ref (ad 103), .ref (ad 104), .int (nI hn), .ref (ad 106), .ref (ad 107), .ref (ad 108), .ref (ad 109), .ref (ad 110), .ref (ad 111), .int (nI cn), .ref (ad 113), .int pl, .int (nI tn), .ref (ad 116), .ref (ad 117), .ref (ad 118), .ref (ad 119), .int (nI sgN), .ref (ad 121), .long wy, .ref (ad 123), .ref (ad 124), .ref (ad 125), .ref (ad 126), .ref (ad 127), .ref (ad 128)]))) (m104 : w 104 = some (.inl (g 0, 16, .inl sw))) (hpl : ¬ pl = 0) (hn16 : n ≤ 16) (hpc : hn ≤ 14) (hS8 : sgN < 2 ^ 31) (h0 : ¬ mh_cnt sw n = 0) (h1 : ¬ (nI hn - nI (dq_pc sgN hn)) = 0) : Met l yMo_bound wsMo_bound ({ frames := 2, cells := 0, slots := 0, locals := 50 } : Room) (va_Pc [.ref (ad 100)] (dq_S D vwCl (dq_t g) ad w sz)) (va_Qi (fun r u => r = ((nI hn - nI (dq_pc sgN hn)) + nI (mh_cnt sw n) - 1) / nI (mh_cnt sw n) ∧ u = dq_U w 100 (.inr (8, [.int 0, .int (nI n), .ref (ad 102), .ref (ad 103), .ref (ad 104), .int (nI hn), .ref (ad 106), .ref (ad 107), .ref (ad 108), .ref (ad 109), .ref (ad 110), .ref (ad 111), .int (nI cn), .ref (ad 113), .int pl, .int (nI tn), .ref (ad 116), .ref (ad 117), .ref (ad 118), .ref (ad 119), .int (nI sgN), .ref (ad 121), .long wy, .ref (ad 123), .ref (ad 124), .ref (ad 125), .ref (ad 126), .ref (ad 127), .ref (ad 128)]))) (dq_B D vwCl (dq_t g) ad (dq_A ad w sz)) (dq_A ad w sz)) 0 0 (dq_A ad w sz) := by
  refine dq_ofi (cc := cMo_bound) (maxL := 3) (by decide) rfl (Nat.le_of_ble_eq_true rfl) ?_
  intro p e s m below meth c A Q ls ⟨hx, hb, hml, hown, hts⟩ hnm hA hW hK hZ hl hret
  have hS : va_S A s.heap s.heap [] := va_S.rf
  have hl : lv_has ls 3 [(0, .ref (ad 100))] := hl
  have hf16 := hts _ (List.mem_cons_of_mem _ tw3_158)
  have hf75 := hts _ (List.mem_cons_of_mem _ tw3_155)
  have hf90 := hts _ (List.mem_cons_of_mem _ tw3_159)
  have hinMo : ∀ w ∈ u_ws RMo TMo 29, w ∈ wsMo_bound := fun w h => List.mem_cons_of_mem _ (inMo w h)
  have hcl : mh_cnt sw n ≤ n := mh_cnt_le sw n
  refine lv_aload_n hx hb dMo_bound_0 rfl (lv_at hl 0 rfl) ?_
  refine dq_calli (va_runV (As := []) (rest := []) ⟨hx, hb, hml, hown, hts⟩ (m_none_n l D g ad (w) _ cd n hn cn pl tn (nI sgN) wy m100 hpl) (cwV 0 hts (dq_giV tw4_87 tw4_89 twp_25 tw1_10 tw4_90) rfl rfl rfl (by decide +kernel) ⟨Nat.le_of_ble_eq_true rfl, Nat.le_of_ble_eq_true rfl⟩) (dq_preV (ci := 8) hW hS hA hK hZ m100 rfl rfl) rfl rfl hl.1 rfl (lv_room (Nat.le_of_ble_eq_true rfl)) dMo_bound_1 ⟨Nat.zero_le _, Nat.zero_le _⟩) hW hS hA (fun r1 u_9 H locs hp1 hW hS hz9 => ?_)
  obtain ⟨hr1, hu9⟩ := hp1
  rw [hu9] at hW
  subst hr1
  refine lv_if_eq (tgt := 9) hx hb dMo_bound_4 (by decide) (fun c1 => ?_) (fun c1 => ?_)
  · refine lv_iconst (v := (nI 0)) hx hb dMo_bound_9 (by decide) ?_
    refine lv_istore_n (lv' := [(1, .int (nI 0)), (0, .ref (ad 100))]) hx hb dMo_bound_10 rfl hl (by decide) rfl (fun ls hl => ?_)
    refine lv_iconst (v := (nI 0)) hx hb dMo_bound_11 (by decide) ?_
    refine lv_istore_n (lv' := [(2, .int (nI 0)), (1, .int (nI 0)), (0, .ref (ad 100))]) hx hb dMo_bound_12 rfl hl (by decide) rfl (fun ls hl => ?_)
    have loop : ∀ (j : Nat) (k : Nat) (H : Heap) (locs : List Loc) (ls : Array Slot), n < k + j → k ≤ n → dq_W D vwCl ad (dq_U w 100 (.inr (8, [.int 0, .int (nI n), .ref (ad 102), .ref (ad 103), .ref (ad 104), .int (nI hn), .ref (ad 106), .ref (ad 107), .ref (ad 108), .ref (ad 109), .ref (ad 110), .ref (ad 111), .int (nI cn), .ref (ad 113), .int pl, .int (nI tn), .ref (ad 116), .ref (ad 117), .ref (ad 118), .ref (ad 119), .int (nI sgN), .ref (ad 121), .long wy, .ref (ad 123), .ref (ad 124), .ref (ad 125), .ref (ad 126), .ref (ad 127), .ref (ad 128)]))) A H → va_S A s.heap H locs → lv_has ls 3 [(0, .ref (ad 100)), (1, .int (nI (mh_cnt sw k))), (2, .int (nI k))] → W p l e ({ frames := 2, cells := 0, slots := 0, locals := 50 } : Room) s m ([.ref (ad 100)] : List Value).toArray below meth c H locs 0 0 Q (F0 m 13 ls []) := by
      intro j
      induction j with
      | zero => intro k H locs ls hj hk hW hS hl; exact absurd hj (by omega)
      | succ j ih =>
        intro k H locs ls hj hk hW hS hl
        refine lv_iload_n hx hb dMo_bound_13 rfl (lv_at hl 2 rfl) ?_
        refine lv_aload_n hx hb dMo_bound_14 rfl (lv_at hl 0 rfl) ?_
        refine dq_get (D := D) (ci := 8) (v := .int (nI n)) (C := RMo) (T := TMo) (N := 29) hx hb hts hinMo hown hK hW 100 dq_Us rfl 1 (by decide) hf75 (fun _ h9 => h9) rfl dMo_bound_15 ?_
        refine lv_icmp_ge (tgt := 44) hx hb dMo_bound_18 (by decide) (fun c2 => ?_) (fun c2 => ?_)
        · have hkn : n = k := by have q9 := (nI_leI (by omega) (by omega)).mp c2; omega
          subst hkn
          refine lv_aload_n hx hb dMo_bound_44 rfl (lv_at hl 0 rfl) ?_
          refine dq_get (D := D) (ci := 8) (v := .int (nI hn)) (C := RMo) (T := TMo) (N := 29) hx hb hts hinMo hown hK hW 100 dq_Us rfl 5 (by decide) hf90 (fun _ h9 => h9) rfl dMo_bound_45 ?_
          refine lv_aload_n hx hb dMo_bound_48 rfl (lv_at hl 0 rfl) ?_
          refine dq_calli (va_runV (As := []) (rest := [.int (nI hn)]) ⟨hx, hb, hml, hown, hts⟩ (m_singleCount l D g ad (dq_U w 100 (.inr (8, [.int 0, .int (nI n), .ref (ad 102), .ref (ad 103), .ref (ad 104), .int (nI hn), .ref (ad 106), .ref (ad 107), .ref (ad 108), .ref (ad 109), .ref (ad 110), .ref (ad 111), .int (nI cn), .ref (ad 113), .int pl, .int (nI tn), .ref (ad 116), .ref (ad 117), .ref (ad 118), .ref (ad 119), .int (nI sgN), .ref (ad 121), .long wy, .ref (ad 123), .ref (ad 124), .ref (ad 125), .ref (ad 126), .ref (ad 127), .ref (ad 128)]))) _ sgN 0 n hn cn pl tn wy dq_Us hpc hS8) (cwV 0 hts (dq_giV tw4_123 tw4_125 twp_27 tw1_10 tw4_126) rfl rfl rfl (by decide +kernel) ⟨Nat.le_of_ble_eq_true rfl, Nat.le_of_ble_eq_true rfl⟩) (dq_preV (ci := 8) hW hS hA hK hZ dq_Us rfl rfl) rfl rfl hl.1 rfl (lv_room (Nat.le_of_ble_eq_true rfl)) dMo_bound_49 ⟨Nat.zero_le _, Nat.zero_le _⟩) hW hS hA (fun r2 u_9 H locs hp2 hW hS hz9 => ?_)
          obtain ⟨hr2, hu9⟩ := hp2
          rw [hu9] at hW
          subst hr2
          refine lv_isub hx hb dMo_bound_52 ?_
          refine lv_istore_n (lv' := [(2, .int ((nI hn) - (nI (dq_pc sgN hn)))), (0, .ref (ad 100)), (1, .int (nI (mh_cnt sw n)))]) hx hb dMo_bound_53 rfl hl (by decide) rfl (fun ls hl => ?_)
          refine lv_iload_n hx hb dMo_bound_54 rfl (lv_at hl 2 rfl) ?_
          refine lv_if_eq (tgt := 62) hx hb dMo_bound_55 (by decide) (fun c3 => ?_) (fun c3 => ?_)
          · exact absurd ((nI_eq (b := 0) (by omega) (by omega)).mp c3) h0
          · refine lv_iload_n hx hb dMo_bound_58 rfl (lv_at hl 0 rfl) ?_
            refine lv_if_ne (tgt := 66) hx hb dMo_bound_59 (by decide) (fun c4 => ?_) (fun c4 => ?_)
            · refine lv_iload_n hx hb dMo_bound_66 rfl (lv_at hl 0 rfl) ?_
              refine lv_iload_n hx hb dMo_bound_67 rfl (lv_at hl 2 rfl) ?_
              refine lv_iadd hx hb dMo_bound_68 ?_
              refine lv_iconst (v := (1)) hx hb dMo_bound_69 (by decide) ?_
              refine lv_isub hx hb dMo_bound_70 ?_
              refine lv_iload_n hx hb dMo_bound_71 rfl (lv_at hl 2 rfl) ?_
              refine lv_idiv hx hb dMo_bound_72 (fun h9 => c3 h9) ?_
              exact hret _ _ _ _ _ _ ⟨rfl, rfl⟩ hW hS dMo_bound_73
            · exact absurd c4 h1
        · have hkn : k < n := by rcases Nat.lt_or_ge k n with q | q; exact q; exact absurd (nI_le q (by omega)) c2
          refine lv_aload_n hx hb dMo_bound_21 rfl (lv_at hl 0 rfl) ?_
          refine dq_get (D := D) (ci := 8) (v := .ref (ad 104)) (C := RMo) (T := TMo) (N := 29) hx hb hts hinMo hown hK hW 100 dq_Us rfl 4 (by decide) hf16 (fun _ h9 => h9) rfl dMo_bound_22 ?_
          refine lv_iload_n hx hb dMo_bound_25 rfl (lv_at hl 2 rfl) ?_
          refine dq_ialdN hx hb hK hW 104 0 ((dq_Un (by decide)).trans m104) rfl k (by omega) (by omega) dMo_bound_26 ?_
          refine lv_if_le (tgt := 36) hx hb dMo_bound_27 (by decide) (fun c3 => ?_) (fun c3 => ?_)
          · have e1 : mh_cnt sw (k + 1) = mh_cnt sw k := if_pos c3
            refine lv_iload_n hx hb dMo_bound_36 rfl (lv_at hl 1 rfl) ?_
            refine lv_istore_n (lv' := [(1, .int (nI (mh_cnt sw k))), (0, .ref (ad 100)), (2, .int (nI k))]) hx hb dMo_bound_37 rfl hl (by decide) rfl (fun ls hl => ?_)
            refine lv_iinc (v := (nI (k + 1))) (lv' := [(2, .int (nI (k + 1))), (1, .int (nI (mh_cnt sw k))), (0, .ref (ad 100))]) hx hb dMo_bound_38 hl (k := 2) rfl (by show nI k + 1 = _; exact nI_1 _) (by decide) rfl (fun ls hl => ?_)
            refine lv_goto (tgt := 13) hx hb dMo_bound_41 (by decide) ?_
            exact ih (k + 1) _ _ _ (by omega) (by omega) hW hS (by rw [e1]; exact (lv_sub hl [2, 1, 0] rfl))
          · have e1 : mh_cnt sw (k + 1) = mh_cnt sw k + 1 := if_neg c3
            refine lv_iload_n hx hb dMo_bound_30 rfl (lv_at hl 1 rfl) ?_
            refine lv_iconst (v := (1)) hx hb dMo_bound_31 (by decide) ?_
            refine lv_iadd hx hb dMo_bound_32 ?_
            refine dq_top (y := nI (mh_cnt sw k + 1)) (nI_1 _) ?_
            refine lv_goto (tgt := 37) hx hb dMo_bound_33 (by decide) ?_
            refine lv_istore_n (lv' := [(1, .int (nI (mh_cnt sw k + 1))), (0, .ref (ad 100)), (2, .int (nI k))]) hx hb dMo_bound_37 rfl hl (by decide) rfl (fun ls hl => ?_)
            refine lv_iinc (v := (nI (k + 1))) (lv' := [(2, .int (nI (k + 1))), (1, .int (nI (mh_cnt sw k + 1))), (0, .ref (ad 100))]) hx hb dMo_bound_38 hl (k := 2) rfl (by show nI k + 1 = _; exact nI_1 _) (by decide) rfl (fun ls hl => ?_)
            refine lv_goto (tgt := 13) hx hb dMo_bound_41 (by decide) ?_
            exact ih (k + 1) _ _ _ (by omega) (by omega) hW hS (by rw [e1]; exact (lv_sub hl [2, 1, 0] rfl))
    exact loop (n + 1) 0 _ _ _ (by omega) (Nat.zero_le _) hW hS (lv_sub hl [2, 1, 0] rfl)
  · exact absurd rfl c1

set_option maxHeartbeats 4000000 in
set_option maxRecDepth 100000 in
/-- seconds, not planned -/
theorem m_seconds1 (l : Launch) (D : va_G) (g : Nat → ClassId) (ad : Nat → Nat) (w : Nat → Option va_E) (sz : Nat) (cd : Int32) (n hn cn : Nat) (pl : Int32) (tn : Nat) (sg : Int32) (wy : Int64) (m100 : w 100 = some (.inr (8, [.int cd, .int (nI n), .ref (ad 102), .ref (ad 103), .ref (ad 104), .int (nI hn), .ref (ad 106), .ref (ad 107), .ref (ad 108), .ref (ad 109), .ref (ad 110), .ref (ad 111), .int (nI cn), .ref (ad 113), .int pl, .int (nI tn), .ref (ad 116), .ref (ad 117), .ref (ad 118), .ref (ad 119), .int sg, .ref (ad 121), .long wy, .ref (ad 123), .ref (ad 124), .ref (ad 125), .ref (ad 126), .ref (ad 127), .ref (ad 128)]))) (hpl : pl = 0) : Met l yMo_seconds wsMo_seconds ({ frames := 2, cells := 0, slots := 0, locals := 50 } : Room) (va_Pc [.ref (ad 100)] (dq_S D vwCl (dq_t g) ad w sz)) (va_Ql (fun r u => r = 0 ∧ u = dq_U w 100 (.inr (8, [.int 1, .int (nI n), .ref (ad 102), .ref (ad 103), .ref (ad 104), .int (nI hn), .ref (ad 106), .ref (ad 107), .ref (ad 108), .ref (ad 109), .ref (ad 110), .ref (ad 111), .int (nI cn), .ref (ad 113), .int pl, .int (nI tn), .ref (ad 116), .ref (ad 117), .ref (ad 118), .ref (ad 119), .int sg, .ref (ad 121), .long wy, .ref (ad 123), .ref (ad 124), .ref (ad 125), .ref (ad 126), .ref (ad 127), .ref (ad 128)]))) (dq_B D vwCl (dq_t g) ad (dq_A ad w sz)) (dq_A ad w sz)) 0 0 (dq_A ad w sz) := by
  refine dq_ofl (cc := cMo_seconds) (maxL := 1) (by decide) rfl (Nat.le_of_ble_eq_true rfl) ?_
  intro p e s m below meth c A Q ls ⟨hx, hb, hml, hown, hts⟩ hnm hA hW hK hZ hl hret
  have hS : va_S A s.heap s.heap [] := va_S.rf
  have hl : lv_has ls 1 [(0, .ref (ad 100))] := hl
  have hf127 := hts _ (List.mem_cons_of_mem _ tw3_169)
  have hf146 := hts _ (List.mem_cons_of_mem _ tw3_176)
  have hinMo : ∀ w ∈ u_ws RMo TMo 29, w ∈ wsMo_seconds := fun w h => List.mem_cons_of_mem _ (inMo w h)
  refine lv_aload_n hx hb dMo_seconds_0 rfl (lv_at hl 0 rfl) ?_
  refine dq_calli (va_runV (As := []) (rest := []) ⟨hx, hb, hml, hown, hts⟩ (m_none_y l D g ad (w) _ cd n hn cn pl tn sg wy m100 hpl) (cwV 0 hts (dq_giV tw4_87 tw4_89 twp_25 tw1_10 tw4_90) rfl rfl rfl (by decide +kernel) ⟨Nat.le_of_ble_eq_true rfl, Nat.le_of_ble_eq_true rfl⟩) (dq_preV (ci := 8) hW hS hA hK hZ m100 rfl rfl) rfl rfl hl.1 rfl (lv_room (Nat.le_of_ble_eq_true rfl)) dMo_seconds_1 ⟨Nat.zero_le _, Nat.zero_le _⟩) hW hS hA (fun r1 u_9 H locs hp1 hW hS hz9 => ?_)
  obtain ⟨hr1, hu9⟩ := hp1
  rw [hu9] at hW
  subst hr1
  refine lv_if_eq (tgt := 11) hx hb dMo_seconds_4 (by decide) (fun c1 => ?_) (fun c1 => ?_)
  · exact absurd c1 (by decide)
  · refine lv_lconst (v := 0) hx hb dMo_seconds_7 (by decide) ?_
    refine lv_goto (tgt := 39) hx hb dMo_seconds_8 (by decide) ?_
    exact hret _ _ _ _ _ _ ⟨rfl, rfl⟩ hW hS dMo_seconds_39

set_option maxHeartbeats 4000000 in
set_option maxRecDepth 100000 in
/-- seconds() -/
theorem m_seconds (l : Launch) (D : va_G) (g : Nat → ClassId) (ad : Nat → Nat) (w : Nat → Option va_E) (sz : Nat) (sgN : Nat) (cd : Int32) (n hn cn : Nat) (pl : Int32) (tn : Nat) (wy : Int64) (m100 : w 100 = some (.inr (8, [.int cd, .int (nI n), .ref (ad 102), .ref (ad 103), .ref (ad 104), .int (nI hn), .ref (ad 106), .ref (ad 107), .ref (ad 108), .ref (ad 109), .ref (ad 110), .ref (ad 111), .int (nI cn), .ref (ad 113), .int pl, .int (nI tn), .ref (ad 116), .ref (ad 117), .ref (ad 118), .ref (ad 119), .int (nI sgN), .ref (ad 121), .long wy, .ref (ad 123), .ref (ad 124), .ref (ad 125), .ref (ad 126), .ref (ad 127), .ref (ad 128)]))) (hpl : ¬ pl = 0) (hpc : hn ≤ 14) (hS8 : sgN < 2 ^ 31) : Met l yMo_seconds wsMo_seconds ({ frames := 2, cells := 0, slots := 0, locals := 50 } : Room) (va_Pc [.ref (ad 100)] (dq_S D vwCl (dq_t g) ad w sz)) (va_Ql (fun r u => r = 4 * (nI tn).toInt64 + 12 * (nI (dq_pc sgN hn)).toInt64 + wy / 500 ∧ u = dq_U w 100 (.inr (8, [.int 0, .int (nI n), .ref (ad 102), .ref (ad 103), .ref (ad 104), .int (nI hn), .ref (ad 106), .ref (ad 107), .ref (ad 108), .ref (ad 109), .ref (ad 110), .ref (ad 111), .int (nI cn), .ref (ad 113), .int pl, .int (nI tn), .ref (ad 116), .ref (ad 117), .ref (ad 118), .ref (ad 119), .int (nI sgN), .ref (ad 121), .long wy, .ref (ad 123), .ref (ad 124), .ref (ad 125), .ref (ad 126), .ref (ad 127), .ref (ad 128)]))) (dq_B D vwCl (dq_t g) ad (dq_A ad w sz)) (dq_A ad w sz)) 0 0 (dq_A ad w sz) := by
  refine dq_ofl (cc := cMo_seconds) (maxL := 1) (by decide) rfl (Nat.le_of_ble_eq_true rfl) ?_
  intro p e s m below meth c A Q ls ⟨hx, hb, hml, hown, hts⟩ hnm hA hW hK hZ hl hret
  have hS : va_S A s.heap s.heap [] := va_S.rf
  have hl : lv_has ls 1 [(0, .ref (ad 100))] := hl
  have hf127 := hts _ (List.mem_cons_of_mem _ tw3_169)
  have hf146 := hts _ (List.mem_cons_of_mem _ tw3_176)
  have hinMo : ∀ w ∈ u_ws RMo TMo 29, w ∈ wsMo_seconds := fun w h => List.mem_cons_of_mem _ (inMo w h)
  refine lv_aload_n hx hb dMo_seconds_0 rfl (lv_at hl 0 rfl) ?_
  refine dq_calli (va_runV (As := []) (rest := []) ⟨hx, hb, hml, hown, hts⟩ (m_none_n l D g ad (w) _ cd n hn cn pl tn (nI sgN) wy m100 hpl) (cwV 0 hts (dq_giV tw4_87 tw4_89 twp_25 tw1_10 tw4_90) rfl rfl rfl (by decide +kernel) ⟨Nat.le_of_ble_eq_true rfl, Nat.le_of_ble_eq_true rfl⟩) (dq_preV (ci := 8) hW hS hA hK hZ m100 rfl rfl) rfl rfl hl.1 rfl (lv_room (Nat.le_of_ble_eq_true rfl)) dMo_seconds_1 ⟨Nat.zero_le _, Nat.zero_le _⟩) hW hS hA (fun r1 u_9 H locs hp1 hW hS hz9 => ?_)
  obtain ⟨hr1, hu9⟩ := hp1
  rw [hu9] at hW
  subst hr1
  refine lv_if_eq (tgt := 11) hx hb dMo_seconds_4 (by decide) (fun c1 => ?_) (fun c1 => ?_)
  · refine lv_ldc2 hx hb hown (hts _ (List.mem_cons_of_mem _ tw4_131)) dMo_seconds_11 ?_
    refine lv_aload_n hx hb dMo_seconds_14 rfl (lv_at hl 0 rfl) ?_
    refine dq_get (D := D) (ci := 8) (v := .int (nI tn)) (C := RMo) (T := TMo) (N := 29) hx hb hts hinMo hown hK hW 100 dq_Us rfl 15 (by decide) hf127 (fun _ h9 => h9) rfl dMo_seconds_15 ?_
    refine lv_i2l hx hb dMo_seconds_18 rfl ?_
    refine lv_lmul hx hb dMo_seconds_19 ?_
    refine lv_ldc2 hx hb hown (hts _ (List.mem_cons_of_mem _ tw4_132)) dMo_seconds_20 ?_
    refine lv_aload_n hx hb dMo_seconds_23 rfl (lv_at hl 0 rfl) ?_
    refine dq_calli (va_runV (As := []) (rest := [.long (12), .long ((4) * ((nI tn)).toInt64)]) ⟨hx, hb, hml, hown, hts⟩ (m_singleCount l D g ad (dq_U w 100 (.inr (8, [.int 0, .int (nI n), .ref (ad 102), .ref (ad 103), .ref (ad 104), .int (nI hn), .ref (ad 106), .ref (ad 107), .ref (ad 108), .ref (ad 109), .ref (ad 110), .ref (ad 111), .int (nI cn), .ref (ad 113), .int pl, .int (nI tn), .ref (ad 116), .ref (ad 117), .ref (ad 118), .ref (ad 119), .int (nI sgN), .ref (ad 121), .long wy, .ref (ad 123), .ref (ad 124), .ref (ad 125), .ref (ad 126), .ref (ad 127), .ref (ad 128)]))) _ sgN 0 n hn cn pl tn wy dq_Us hpc hS8) (cwV 0 hts (dq_giV tw4_123 tw4_125 twp_27 tw1_10 tw4_126) rfl rfl rfl (by decide +kernel) ⟨Nat.le_of_ble_eq_true rfl, Nat.le_of_ble_eq_true rfl⟩) (dq_preV (ci := 8) hW hS hA hK hZ dq_Us rfl rfl) rfl rfl hl.1 rfl (lv_room (Nat.le_of_ble_eq_true rfl)) dMo_seconds_24 ⟨Nat.zero_le _, Nat.zero_le _⟩) hW hS hA (fun r2 u_9 H locs hp2 hW hS hz9 => ?_)
    obtain ⟨hr2, hu9⟩ := hp2
    rw [hu9] at hW
    subst hr2
    refine lv_i2l hx hb dMo_seconds_27 rfl ?_
    refine lv_lmul hx hb dMo_seconds_28 ?_
    refine lv_ladd hx hb dMo_seconds_29 ?_
    refine lv_aload_n hx hb dMo_seconds_30 rfl (lv_at hl 0 rfl) ?_
    refine dq_get (D := D) (ci := 8) (v := .long wy) (C := RMo) (T := TMo) (N := 29) hx hb hts hinMo hown hK hW 100 dq_Us rfl 22 (by decide) hf146 (fun _ h9 => h9) rfl dMo_seconds_31 ?_
    refine lv_ldc2 hx hb hown (hts _ (List.mem_cons_of_mem _ tw4_133)) dMo_seconds_34 ?_
    refine lv_ldiv hx hb dMo_seconds_37 (by decide) ?_
    refine lv_ladd hx hb dMo_seconds_38 ?_
    exact hret _ _ _ _ _ _ ⟨rfl, rfl⟩ hW hS dMo_seconds_39
  · exact absurd rfl c1
