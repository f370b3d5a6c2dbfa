set_option maxHeartbeats 4000000 in
set_option maxRecDepth 100000 in
/-- spindleAt(h, x, y) -/
theorem m_spindleAt (l : Launch) (D : va_G) (g : Nat → ClassId) (ad : Nat → Nat) (w : Nat → Option va_E) (sz : Nat) (cd : Int32) (n hn cn : Nat) (pl : Int32) (tn : Nat) (sg : Int32) (wy : Int64) (sx sy sw : Nat → Int32) (px py pw pd pf pt : Nat → Int32) (h : Nat) (a0 a1 : Int32) (m100 : w 100 = some (.inr (8, [.int cd, .int (nI n), .ref (ad 102), .ref (ad 103), .ref (ad 104), .int (nI hn), .ref (ad 106), .ref (ad 107), .ref (ad 108), .ref (ad 109), .ref (ad 110), .ref (ad 111), .int (nI cn), .ref (ad 113), .int pl, .int (nI tn), .ref (ad 116), .ref (ad 117), .ref (ad 118), .ref (ad 119), .int sg, .ref (ad 121), .long wy, .ref (ad 123), .ref (ad 124), .ref (ad 125), .ref (ad 126), .ref (ad 127), .ref (ad 128)]))) (m102 : w 102 = some (.inl (g 0, 16, .inl sx))) (m103 : w 103 = some (.inl (g 0, 16, .inl sy))) (m104 : w 104 = some (.inl (g 0, 16, .inl sw))) (m106 : w 106 = some (.inl (g 0, 14, .inl px))) (m107 : w 107 = some (.inl (g 0, 14, .inl py))) (m108 : w 108 = some (.inl (g 0, 14, .inl pw))) (hn16 : n ≤ 16) (hh : h < 14) : Met l yMo_spindleAt wsMo_spindleAt ({ frames := 0, cells := 0, slots := 0, locals := 0 } : Room) (va_Pc [.ref (ad 100), .int (nI h), .int a0, .int a1] (dq_S D vwCl (dq_t g) ad w sz)) (va_Qi (fun r u => r = dq_fst (ms_at sx sy sw (px h) (py h) (pw h) a0 a1) n ∧ u = w) (dq_B D vwCl (dq_t g) ad (dq_A ad w sz)) (dq_A ad w sz)) 0 0 (dq_A ad w sz) := by
  refine dq_ofi (cc := cMo_spindleAt) (maxL := 5) (by decide) rfl (Nat.le_of_ble_eq_true rfl) ?_
  intro p e s m below meth c A Q ls ⟨hx, hb, hml, hown, hts⟩ hnm hA hW hK hZ hl hret
  have hS : va_S A s.heap s.heap [] := va_S.rf
  have hl : lv_has ls 5 [(0, .ref (ad 100)), (1, .int (nI h)), (2, .int a0), (3, .int a1)] := hl
  have hf7 := hts _ (List.mem_cons_of_mem _ tw3_156)
  have hf13 := hts _ (List.mem_cons_of_mem _ tw3_157)
  have hf16 := hts _ (List.mem_cons_of_mem _ tw3_158)
  have hf19 := hts _ (List.mem_cons_of_mem _ tw3_160)
  have hf22 := hts _ (List.mem_cons_of_mem _ tw3_161)
  have hf25 := hts _ (List.mem_cons_of_mem _ tw3_162)
  have hf75 := hts _ (List.mem_cons_of_mem _ tw3_155)
  have hinMo : ∀ w ∈ u_ws RMo TMo 29, w ∈ wsMo_spindleAt := fun w h => List.mem_cons_of_mem _ (inMo w h)
  refine lv_iconst (v := (nI 0)) hx hb dMo_spindleAt_0 (by decide) ?_
  refine lv_istore (lv' := [(4, .int (nI 0)), (0, .ref (ad 100)), (1, .int (nI h)), (2, .int a0), (3, .int a1)]) hx hb dMo_spindleAt_1 hl (by decide) rfl (fun ls hl => ?_)
  have loop : ∀ (j : Nat) (k : Nat) (ls : Array Slot), n < k + j → k ≤ n → (∀ i, i < k → (ms_at sx sy sw (px h) (py h) (pw h) a0 a1) i = false) → lv_has ls 5 [(0, .ref (ad 100)), (1, .int (nI h)), (2, .int a0), (3, .int a1), (4, .int (nI k))] → W p l e ({ frames := 0, cells := 0, slots := 0, locals := 0 } : Room) s m ([.ref (ad 100), .int (nI h), .int a0, .int a1] : List Value).toArray below meth c s.heap [] 0 0 Q (F0 m 3 ls []) := by
    intro j
    induction j with
    | zero => intro k ls hj hk hb9  hl; exact absurd hj (by omega)
    | succ j ih =>
      intro k ls hj hk hb9  hl
      refine lv_iload hx hb dMo_spindleAt_3 (lv_at hl 4 rfl) ?_
      refine lv_aload_n hx hb dMo_spindleAt_5 rfl (lv_at hl 0 rfl) ?_
      refine dq_get (D := D) (ci := 8) (v := .int (nI n)) (C := RMo) (T := TMo) (N := 29) hx hb hts hinMo hown hK hW 100 m100 rfl 1 (by decide) hf75 (fun _ h9 => h9) rfl dMo_spindleAt_6 ?_
      refine lv_icmp_ge (tgt := 73) hx hb dMo_spindleAt_9 (by decide) (fun c1 => ?_) (fun c1 => ?_)
      · have hkn : k = n := by have q := (nI_leI (by omega) (by omega)).mp c1; omega
        refine lv_iconst (v := (-1)) hx hb dMo_spindleAt_73 (by decide) ?_
        exact hret _ _ _ _ _ _ ⟨(dq_fst_none (by rw [← hkn]; exact hb9)).symm, rfl⟩ hW hS dMo_spindleAt_74
      · have hkn : k < n := by rcases Nat.lt_or_ge k n with q | q; exact q; exact absurd (nI_le q (by omega)) c1
        refine lv_aload_n hx hb dMo_spindleAt_12 rfl (lv_at hl 0 rfl) ?_
        refine dq_get (D := D) (ci := 8) (v := .ref (ad 104)) (C := RMo) (T := TMo) (N := 29) hx hb hts hinMo hown hK hW 100 m100 rfl 4 (by decide) hf16 (fun _ h9 => h9) rfl dMo_spindleAt_13 ?_
        refine lv_iload hx hb dMo_spindleAt_16 (lv_at hl 4 rfl) ?_
        refine dq_ialdN hx hb hK hW 104 0 m104 rfl k (by omega) (by omega) dMo_spindleAt_18 ?_
        refine lv_aload_n hx hb dMo_spindleAt_19 rfl (lv_at hl 0 rfl) ?_
        refine dq_get (D := D) (ci := 8) (v := .ref (ad 108)) (C := RMo) (T := TMo) (N := 29) hx hb hts hinMo hown hK hW 100 m100 rfl 8 (by decide) hf25 (fun _ h9 => h9) rfl dMo_spindleAt_20 ?_
        refine lv_iload_n hx hb dMo_spindleAt_23 rfl (lv_at hl 1 rfl) ?_
        refine dq_ialdN hx hb hK hW 108 0 m108 rfl h (by omega) (by omega) dMo_spindleAt_24 ?_
        refine lv_icmp_ne (tgt := 67) hx hb dMo_spindleAt_25 (by decide) (fun c2 => ?_) (fun c2 => ?_)
        · have e1 : (ms_at sx sy sw (px h) (py h) (pw h) a0 a1) k = false := ms_at_1 c2
          refine lv_iinc (v := (nI (k + 1))) (lv' := [(4, .int (nI (k + 1))), (0, .ref (ad 100)), (1, .int (nI h)), (2, .int a0), (3, .int a1)]) hx hb dMo_spindleAt_67 hl (k := 4) rfl (by show nI k + 1 = _; exact nI_1 _) (by decide) rfl (fun ls hl => ?_)
          refine lv_goto (tgt := 3) hx hb dMo_spindleAt_70 (by decide) ?_
          exact ih (k + 1) _ (by omega) (by omega) (lt_s hb9 e1)  (lv_sub hl [1, 2, 3, 4, 0] rfl)
        · refine lv_iload_n hx hb dMo_spindleAt_28 rfl (lv_at hl 2 rfl) ?_
          refine lv_aload_n hx hb dMo_spindleAt_29 rfl (lv_at hl 0 rfl) ?_
          refine dq_get (D := D) (ci := 8) (v := .ref (ad 102)) (C := RMo) (T := TMo) (N := 29) hx hb hts hinMo hown hK hW 100 m100 rfl 2 (by decide) hf7 (fun _ h9 => h9) rfl dMo_spindleAt_30 ?_
          refine lv_iload hx hb dMo_spindleAt_33 (lv_at hl 4 rfl) ?_
          refine dq_ialdN hx hb hK hW 102 0 m102 rfl k (by omega) (by omega) dMo_spindleAt_35 ?_
          refine lv_iadd hx hb dMo_spindleAt_36 ?_
          refine lv_aload_n hx hb dMo_spindleAt_37 rfl (lv_at hl 0 rfl) ?_
          refine dq_get (D := D) (ci := 8) (v := .ref (ad 106)) (C := RMo) (T := TMo) (N := 29) hx hb hts hinMo hown hK hW 100 m100 rfl 6 (by decide) hf19 (fun _ h9 => h9) rfl dMo_spindleAt_38 ?_
          refine lv_iload_n hx hb dMo_spindleAt_41 rfl (lv_at hl 1 rfl) ?_
          refine dq_ialdN hx hb hK hW 106 0 m106 rfl h (by omega) (by omega) dMo_spindleAt_42 ?_
          refine lv_icmp_ne (tgt := 67) hx hb dMo_spindleAt_43 (by decide) (fun c3 => ?_) (fun c3 => ?_)
          · have e1 : (ms_at sx sy sw (px h) (py h) (pw h) a0 a1) k = false := ms_at_2 c3
            refine lv_iinc (v := (nI (k + 1))) (lv' := [(4, .int (nI (k + 1))), (0, .ref (ad 100)), (1, .int (nI h)), (2, .int a0), (3, .int a1)]) hx hb dMo_spindleAt_67 hl (k := 4) rfl (by show nI k + 1 = _; exact nI_1 _) (by decide) rfl (fun ls hl => ?_)
            refine lv_goto (tgt := 3) hx hb dMo_spindleAt_70 (by decide) ?_
            exact ih (k + 1) _ (by omega) (by omega) (lt_s hb9 e1)  (lv_sub hl [1, 2, 3, 4, 0] rfl)
          · refine lv_iload_n hx hb dMo_spindleAt_46 rfl (lv_at hl 3 rfl) ?_
            refine lv_aload_n hx hb dMo_spindleAt_47 rfl (lv_at hl 0 rfl) ?_
            refine dq_get (D := D) (ci := 8) (v := .ref (ad 103)) (C := RMo) (T := TMo) (N := 29) hx hb hts hinMo hown hK hW 100 m100 rfl 3 (by decide) hf13 (fun _ h9 => h9) rfl dMo_spindleAt_48 ?_
            refine lv_iload hx hb dMo_spindleAt_51 (lv_at hl 4 rfl) ?_
            refine dq_ialdN hx hb hK hW 103 0 m103 rfl k (by omega) (by omega) dMo_spindleAt_53 ?_
            refine lv_iadd hx hb dMo_spindleAt_54 ?_
            refine lv_aload_n hx hb dMo_spindleAt_55 rfl (lv_at hl 0 rfl) ?_
            refine dq_get (D := D) (ci := 8) (v := .ref (ad 107)) (C := RMo) (T := TMo) (N := 29) hx hb hts hinMo hown hK hW 100 m100 rfl 7 (by decide) hf22 (fun _ h9 => h9) rfl dMo_spindleAt_56 ?_
            refine lv_iload_n hx hb dMo_spindleAt_59 rfl (lv_at hl 1 rfl) ?_
            refine dq_ialdN hx hb hK hW 107 0 m107 rfl h (by omega) (by omega) dMo_spindleAt_60 ?_
            refine lv_icmp_ne (tgt := 67) hx hb dMo_spindleAt_61 (by decide) (fun c4 => ?_) (fun c4 => ?_)
            · have e1 : (ms_at sx sy sw (px h) (py h) (pw h) a0 a1) k = false := ms_at_3 c4
              refine lv_iinc (v := (nI (k + 1))) (lv' := [(4, .int (nI (k + 1))), (0, .ref (ad 100)), (1, .int (nI h)), (2, .int a0), (3, .int a1)]) hx hb dMo_spindleAt_67 hl (k := 4) rfl (by show nI k + 1 = _; exact nI_1 _) (by decide) rfl (fun ls hl => ?_)
              refine lv_goto (tgt := 3) hx hb dMo_spindleAt_70 (by decide) ?_
              exact ih (k + 1) _ (by omega) (by omega) (lt_s hb9 e1)  (lv_sub hl [1, 2, 3, 4, 0] rfl)
            · have e1 : (ms_at sx sy sw (px h) (py h) (pw h) a0 a1) k = true := ms_at_t c2 c3 c4
              refine lv_iload hx hb dMo_spindleAt_64 (lv_at hl 4 rfl) ?_
              exact hret _ _ _ _ _ _ ⟨(dq_fst_at hkn e1 hb9).symm, rfl⟩ hW hS dMo_spindleAt_66
  exact loop (n + 1) 0 _ (by omega) (Nat.zero_le _) lt_0  (lv_sub hl [1, 2, 3, 4, 0] rfl)

set_option maxHeartbeats 4000000 in
set_option maxRecDepth 100000 in
/-- areAlike -/
theorem m_areAlike (l : Launch) (D : va_G) (g : Nat → ClassId) (ad : Nat → Nat) (w : Nat → Option va_E) (sz : Nat) (cd : Int32) (n hn cn : Nat) (pl : Int32) (tn : Nat) (sg : Int32) (wy : Int64) (px py pw pd pf pt : Nat → Int32) (i j_ : Nat) (m100 : w 100 = some (.inr (8, [.int cd, .int (nI n), .ref (ad 102), .ref (ad 103), .ref (ad 104), .int (nI hn), .ref (ad 106), .ref (ad 107), .ref (ad 108), .ref (ad 109), .ref (ad 110), .ref (ad 111), .int (nI cn), .ref (ad 113), .int pl, .int (nI tn), .ref (ad 116), .ref (ad 117), .ref (ad 118), .ref (ad 119), .int sg, .ref (ad 121), .long wy, .ref (ad 123), .ref (ad 124), .ref (ad 125), .ref (ad 126), .ref (ad 127), .ref (ad 128)]))) (m109 : w 109 = some (.inl (g 0, 14, .inl pd))) (m110 : w 110 = some (.inl (g 0, 14, .inl pf))) (m111 : w 111 = some (.inl (g 1, 14, .inl pt))) (hi : i < 14) (hj : j_ < 14) : Met l yMo_areAlike wsMo_areAlike ({ frames := 0, cells := 0, slots := 0, locals := 0 } : Room) (va_Pc [.ref (ad 100), .int (nI i), .int (nI j_)] (dq_S D vwCl (dq_t g) ad w sz)) (va_Qi (fun r u => r = dq_b (ml_alike pd pf pt i j_) ∧ u = w) (dq_B D vwCl (dq_t g) ad (dq_A ad w sz)) (dq_A ad w sz)) 0 0 (dq_A ad w sz) := by
  refine dq_ofz (cc := cMo_areAlike) (maxL := 3) (by decide) rfl (Nat.le_of_ble_eq_true rfl) ?_
  intro p e s m below meth c A Q ls ⟨hx, hb, hml, hown, hts⟩ hnm hA hW hK hZ hl hret
  have hS : va_S A s.heap s.heap [] := va_S.rf
  have hl : lv_has ls 3 [(0, .ref (ad 100)), (1, .int (nI i)), (2, .int (nI j_))] := hl
  have hf28 := hts _ (List.mem_cons_of_mem _ tw3_163)
  have hf31 := hts _ (List.mem_cons_of_mem _ tw3_164)
  have hf34 := hts _ (List.mem_cons_of_mem _ tw3_165)
  have hinMo : ∀ w ∈ u_ws RMo TMo 29, w ∈ wsMo_areAlike := fun w h => List.mem_cons_of_mem _ (inMo w h)
  refine lv_aload_n hx hb dMo_areAlike_0 rfl (lv_at hl 0 rfl) ?_
  refine dq_get (D := D) (ci := 8) (v := .ref (ad 110)) (C := RMo) (T := TMo) (N := 29) hx hb hts hinMo hown hK hW 100 m100 rfl 10 (by decide) hf31 (fun _ h9 => h9) rfl dMo_areAlike_1 ?_
  refine lv_iload_n hx hb dMo_areAlike_4 rfl (lv_at hl 1 rfl) ?_
  refine dq_ialdN hx hb hK hW 110 0 m110 rfl i (by omega) (by omega) dMo_areAlike_5 ?_
  refine lv_aload_n hx hb dMo_areAlike_6 rfl (lv_at hl 0 rfl) ?_
  refine dq_get (D := D) (ci := 8) (v := .ref (ad 110)) (C := RMo) (T := TMo) (N := 29) hx hb hts hinMo hown hK hW 100 m100 rfl 10 (by decide) hf31 (fun _ h9 => h9) rfl dMo_areAlike_7 ?_
  refine lv_iload_n hx hb dMo_areAlike_10 rfl (lv_at hl 2 rfl) ?_
  refine dq_ialdN hx hb hK hW 110 0 m110 rfl j_ (by omega) (by omega) dMo_areAlike_11 ?_
  refine lv_icmp_ne (tgt := 58) hx hb dMo_areAlike_12 (by decide) (fun c1 => ?_) (fun c1 => ?_)
  · refine lv_iconst (v := (0)) hx hb dMo_areAlike_58 (by decide) ?_
    exact hret _ _ _ _ _ _ ⟨by simp [ml_alike, dq_b, c1], rfl⟩ (by decide) hW hS dMo_areAlike_59
  · refine lv_aload_n hx hb dMo_areAlike_15 rfl (lv_at hl 0 rfl) ?_
    refine dq_get (D := D) (ci := 8) (v := .ref (ad 111)) (C := RMo) (T := TMo) (N := 29) hx hb hts hinMo hown hK hW 100 m100 rfl 11 (by decide) hf34 (fun _ h9 => h9) rfl dMo_areAlike_16 ?_
    refine lv_iload_n hx hb dMo_areAlike_19 rfl (lv_at hl 1 rfl) ?_
    refine dq_zaldN hx hb hK hW 111 1 m111 rfl i (by omega) (by omega) dMo_areAlike_20 ?_
    refine lv_aload_n hx hb dMo_areAlike_21 rfl (lv_at hl 0 rfl) ?_
    refine dq_get (D := D) (ci := 8) (v := .ref (ad 111)) (C := RMo) (T := TMo) (N := 29) hx hb hts hinMo hown hK hW 100 m100 rfl 11 (by decide) hf34 (fun _ h9 => h9) rfl dMo_areAlike_22 ?_
    refine lv_iload_n hx hb dMo_areAlike_25 rfl (lv_at hl 2 rfl) ?_
    refine dq_zaldN hx hb hK hW 111 1 m111 rfl j_ (by omega) (by omega) dMo_areAlike_26 ?_
    refine lv_icmp_ne (tgt := 58) hx hb dMo_areAlike_27 (by decide) (fun c2 => ?_) (fun c2 => ?_)
    · refine lv_iconst (v := (0)) hx hb dMo_areAlike_58 (by decide) ?_
      exact hret _ _ _ _ _ _ ⟨by simp [ml_alike, dq_b, c1, c2], rfl⟩ (by decide) hW hS dMo_areAlike_59
    · refine lv_aload_n hx hb dMo_areAlike_30 rfl (lv_at hl 0 rfl) ?_
      refine dq_get (D := D) (ci := 8) (v := .ref (ad 111)) (C := RMo) (T := TMo) (N := 29) hx hb hts hinMo hown hK hW 100 m100 rfl 11 (by decide) hf34 (fun _ h9 => h9) rfl dMo_areAlike_31 ?_
      refine lv_iload_n hx hb dMo_areAlike_34 rfl (lv_at hl 1 rfl) ?_
      refine dq_zaldN hx hb hK hW 111 1 m111 rfl i (by omega) (by omega) dMo_areAlike_35 ?_
      refine lv_if_ne (tgt := 54) hx hb dMo_areAlike_36 (by decide) (fun c3 => ?_) (fun c3 => ?_)
      · refine lv_iconst (v := (1)) hx hb dMo_areAlike_54 (by decide) ?_
        refine lv_goto (tgt := 59) hx hb dMo_areAlike_55 (by decide) ?_
        exact hret _ _ _ _ _ _ ⟨by simp [ml_alike, dq_b, c1, c2, show ¬ pt j_ = 0 from c2 ▸ c3], rfl⟩ (by decide) hW hS dMo_areAlike_59
      · refine lv_aload_n hx hb dMo_areAlike_39 rfl (lv_at hl 0 rfl) ?_
        refine dq_get (D := D) (ci := 8) (v := .ref (ad 109)) (C := RMo) (T := TMo) (N := 29) hx hb hts hinMo hown hK hW 100 m100 rfl 9 (by decide) hf28 (fun _ h9 => h9) rfl dMo_areAlike_40 ?_
        refine lv_iload_n hx hb dMo_areAlike_43 rfl (lv_at hl 1 rfl) ?_
        refine dq_ialdN hx hb hK hW 109 0 m109 rfl i (by omega) (by omega) dMo_areAlike_44 ?_
        refine lv_aload_n hx hb dMo_areAlike_45 rfl (lv_at hl 0 rfl) ?_
        refine dq_get (D := D) (ci := 8) (v := .ref (ad 109)) (C := RMo) (T := TMo) (N := 29) hx hb hts hinMo hown hK hW 100 m100 rfl 9 (by decide) hf28 (fun _ h9 => h9) rfl dMo_areAlike_46 ?_
        refine lv_iload_n hx hb dMo_areAlike_49 rfl (lv_at hl 2 rfl) ?_
        refine dq_ialdN hx hb hK hW 109 0 m109 rfl j_ (by omega) (by omega) dMo_areAlike_50 ?_
        refine lv_icmp_ne (tgt := 58) hx hb dMo_areAlike_51 (by decide) (fun c4 => ?_) (fun c4 => ?_)
        · refine lv_iconst (v := (0)) hx hb dMo_areAlike_58 (by decide) ?_
          exact hret _ _ _ _ _ _ ⟨by simp [ml_alike, dq_b, c1, show pt j_ = 0 from c2 ▸ c3, c3, c4], rfl⟩ (by decide) hW hS dMo_areAlike_59
        · refine lv_iconst (v := (1)) hx hb dMo_areAlike_54 (by decide) ?_
          refine lv_goto (tgt := 59) hx hb dMo_areAlike_55 (by decide) ?_
          exact hret _ _ _ _ _ _ ⟨by simp [ml_alike, dq_b, c1, show pt j_ = 0 from c2 ▸ c3, c3, c4], rfl⟩ (by decide) hW hS dMo_areAlike_59

set_option maxHeartbeats 4000000 in
set_option maxRecDepth 100000 in
/-- drilledAt(h, x, y) -/
theorem m_drilledAt (l : Launch) (D : va_G) (g : Nat → ClassId) (ad : Nat → Nat) (w : Nat → Option va_E) (sz : Nat) (cd : Int32) (n hn cn : Nat) (pl : Int32) (tn : Nat) (sg : Int32) (wy : Int64) (sx sy sw : Nat → Int32) (px py pw pd pf pt : Nat → Int32) (h : Nat) (a0 a1 : Int32) (m100 : w 100 = some (.inr (8, [.int cd, .int (nI n), .ref (ad 102), .ref (ad 103), .ref (ad 104), .int (nI hn), .ref (ad 106), .ref (ad 107), .ref (ad 108), .ref (ad 109), .ref (ad 110), .ref (ad 111), .int (nI cn), .ref (ad 113), .int pl, .int (nI tn), .ref (ad 116), .ref (ad 117), .ref (ad 118), .ref (ad 119), .int sg, .ref (ad 121), .long wy, .ref (ad 123), .ref (ad 124), .ref (ad 125), .ref (ad 126), .ref (ad 127), .ref (ad 128)]))) (m102 : w 102 = some (.inl (g 0, 16, .inl sx))) (m103 : w 103 = some (.inl (g 0, 16, .inl sy))) (m104 : w 104 = some (.inl (g 0, 16, .inl sw))) (m106 : w 106 = some (.inl (g 0, 14, .inl px))) (m107 : w 107 = some (.inl (g 0, 14, .inl py))) (m108 : w 108 = some (.inl (g 0, 14, .inl pw))) (m109 : w 109 = some (.inl (g 0, 14, .inl pd))) (m110 : w 110 = some (.inl (g 0, 14, .inl pf))) (m111 : w 111 = some (.inl (g 1, 14, .inl pt))) (hn16 : n ≤ 16) (hh : h < 14) (hpc : hn ≤ 14) : Met l yMo_drilledAt wsMo_drilledAt ({ frames := 1, cells := 0, slots := 0, locals := 24 } : Room) (va_Pc [.ref (ad 100), .int (nI h), .int a0, .int a1] (dq_S D vwCl (dq_t g) ad w sz)) (va_Qi (fun r u => r = nI (mp_bits (mp_F sx sy sw px py pw pd pf pt n h a0 a1) 0 hn) ∧ u = w) (dq_B D vwCl (dq_t g) ad (dq_A ad w sz)) (dq_A ad w sz)) 0 0 (dq_A ad w sz) := by
  refine dq_ofi (cc := cMo_drilledAt) (maxL := 6) (by decide) rfl (Nat.le_of_ble_eq_true rfl) ?_
  intro p e s m below meth c A Q ls ⟨hx, hb, hml, hown, hts⟩ hnm hA hW hK hZ hl hret
  have hS : va_S A s.heap s.heap [] := va_S.rf
  have hl : lv_has ls 6 [(0, .ref (ad 100)), (1, .int (nI h)), (2, .int a0), (3, .int a1)] := hl
  have hf90 := hts _ (List.mem_cons_of_mem _ tw3_159)
  have hinMo : ∀ w ∈ u_ws RMo TMo 29, w ∈ wsMo_drilledAt := fun w h => List.mem_cons_of_mem _ (inMo w h)
  refine lv_iconst (v := (nI 0)) hx hb dMo_drilledAt_0 (by decide) ?_
  refine lv_istore (lv' := [(4, .int (nI 0)), (0, .ref (ad 100)), (1, .int (nI h)), (2, .int a0), (3, .int a1)]) hx hb dMo_drilledAt_1 hl (by decide) rfl (fun ls hl => ?_)
  refine lv_iconst (v := (nI 0)) hx hb dMo_drilledAt_3 (by decide) ?_
  refine lv_istore (lv' := [(5, .int (nI 0)), (4, .int (nI 0)), (0, .ref (ad 100)), (1, .int (nI h)), (2, .int a0), (3, .int a1)]) hx hb dMo_drilledAt_4 hl (by decide) rfl (fun ls hl => ?_)
  have loop : ∀ (j : Nat) (k : Nat) (H : Heap) (locs : List Loc) (ls : Array Slot), hn < k + j → k ≤ hn → dq_W D vwCl ad (w) A H → va_S A s.heap H locs → lv_has ls 6 [(0, .ref (ad 100)), (1, .int (nI h)), (2, .int a0), (3, .int a1), (4, .int (nI (mp_bits (mp_F sx sy sw px py pw pd pf pt n h a0 a1) 0 k))), (5, .int (nI k))] → W p l e ({ frames := 1, cells := 0, slots := 0, locals := 24 } : Room) s m ([.ref (ad 100), .int (nI h), .int a0, .int a1] : List Value).toArray below meth c H locs 0 0 Q (F0 m 6 ls []) := by
    intro j
    induction j with
    | zero => intro k H locs ls hj hk hW hS hl; exact absurd hj (by omega)
    | succ j ih =>
      intro k H locs ls hj hk hW hS hl
      refine lv_iload hx hb dMo_drilledAt_6 (lv_at hl 5 rfl) ?_
      refine lv_aload_n hx hb dMo_drilledAt_8 rfl (lv_at hl 0 rfl) ?_
      refine dq_get (D := D) (ci := 8) (v := .int (nI hn)) (C := RMo) (T := TMo) (N := 29) hx hb hts hinMo hown hK hW 100 m100 rfl 5 (by decide) hf90 (fun _ h9 => h9) rfl dMo_drilledAt_9 ?_
      refine lv_icmp_ge (tgt := 56) hx hb dMo_drilledAt_12 (by decide) (fun c1 => ?_) (fun c1 => ?_)
      · have hkn : hn = k := by have q9 := (nI_leI (by omega) (by omega)).mp c1; omega
        subst hkn
        refine lv_iload hx hb dMo_drilledAt_56 (lv_at hl 4 rfl) ?_
        exact hret _ _ _ _ _ _ ⟨rfl, rfl⟩ hW hS dMo_drilledAt_58
      · have hkn : k < hn := by rcases Nat.lt_or_ge k hn with q | q; exact q; exact absurd (nI_le q (by omega)) c1
        refine lv_aload_n hx hb dMo_drilledAt_15 rfl (lv_at hl 0 rfl) ?_
        refine lv_iload_n hx hb dMo_drilledAt_16 rfl (lv_at hl 1 rfl) ?_
        refine lv_iload hx hb dMo_drilledAt_17 (lv_at hl 5 rfl) ?_
        refine dq_calli (va_runV (As := [.int (nI h), .int (nI k)]) (rest := []) ⟨hx, hb, hml, hown, hts⟩ (m_areAlike l D g ad (w) _ cd n hn cn pl tn sg wy px py pw pd pf pt h k m100 m109 m110 m111 hh (by omega)) (cwV 2 hts (dq_giV tw4_52 tw4_54 twp_20 tw1_10 tw4_55) rfl rfl rfl (by decide +kernel) ⟨Nat.le_of_ble_eq_true rfl, Nat.le_of_ble_eq_true rfl⟩) (dq_preV (ci := 8) hW hS hA hK hZ m100 rfl rfl) rfl rfl hl.1 rfl (lv_room (Nat.le_of_ble_eq_true rfl)) dMo_drilledAt_19 ⟨Nat.zero_le _, Nat.zero_le _⟩) hW hS hA (fun r1 u_9 H locs hp1 hW hS hz9 => ?_)
        obtain ⟨hr1, hu9⟩ := hp1
        rw [hu9] at hW
        subst hr1
        refine lv_if_eq (tgt := 46) hx hb dMo_drilledAt_22 (by decide) (fun c2 => ?_) (fun c2 => ?_)
        · have e1 : (mp_F sx sy sw px py pw pd pf pt n h a0 a1) k = false := by unfold mp_F; rw [dq_b_f c2]; rfl
          have e5 : mp_bits (mp_F sx sy sw px py pw pd pf pt n h a0 a1) 0 (k + 1) = mp_bits (mp_F sx sy sw px py pw pd pf pt n h a0 a1) 0 k := by show (if (mp_F sx sy sw px py pw pd pf pt n h a0 a1) (0 + k) = true then _ else _) = _; rw [Nat.zero_add]; exact if_neg (by rw [e1]; decide)
          refine lv_iload hx hb dMo_drilledAt_46 (lv_at hl 4 rfl) ?_
          refine lv_istore (lv' := [(4, .int (nI (mp_bits (mp_F sx sy sw px py pw pd pf pt n h a0 a1) 0 k))), (0, .ref (ad 100)), (1, .int (nI h)), (2, .int a0), (3, .int a1), (5, .int (nI k))]) hx hb dMo_drilledAt_48 hl (by decide) rfl (fun ls hl => ?_)
          refine lv_iinc (v := (nI (k + 1))) (lv' := [(5, .int (nI (k + 1))), (4, .int (nI (mp_bits (mp_F sx sy sw px py pw pd pf pt n h a0 a1) 0 k))), (0, .ref (ad 100)), (1, .int (nI h)), (2, .int a0), (3, .int a1)]) hx hb dMo_drilledAt_50 hl (k := 5) rfl (by show nI k + 1 = _; exact nI_1 _) (by decide) rfl (fun ls hl => ?_)
          refine lv_goto (tgt := 6) hx hb dMo_drilledAt_53 (by decide) ?_
          exact ih (k + 1) _ _ _ (by omega) (by omega) hW hS (by rw [e5]; exact (lv_sub hl [2, 3, 4, 5, 1, 0] rfl))
        · have hal := dq_b_t c2
          refine lv_aload_n hx hb dMo_drilledAt_25 rfl (lv_at hl 0 rfl) ?_
          refine lv_iload hx hb dMo_drilledAt_26 (lv_at hl 5 rfl) ?_
          refine lv_iload_n hx hb dMo_drilledAt_28 rfl (lv_at hl 2 rfl) ?_
          refine lv_iload_n hx hb dMo_drilledAt_29 rfl (lv_at hl 3 rfl) ?_
          refine dq_calli (va_runV (As := [.int (nI k), .int a0, .int a1]) (rest := []) ⟨hx, hb, hml, hown, hts⟩ (m_spindleAt l D g ad (w) _ cd n hn cn pl tn sg wy sx sy sw px py pw pd pf pt k a0 a1 m100 m102 m103 m104 m106 m107 m108 hn16 (by omega)) (cwV 3 hts (dq_giV tw4_56 tw4_58 twp_21 tw1_10 tw4_59) rfl rfl rfl (by decide +kernel) ⟨Nat.le_of_ble_eq_true rfl, Nat.le_of_ble_eq_true rfl⟩) (dq_preV (ci := 8) hW hS hA hK hZ m100 rfl rfl) rfl rfl hl.1 rfl (lv_room (Nat.le_of_ble_eq_true rfl)) dMo_drilledAt_30 ⟨Nat.zero_le _, Nat.zero_le _⟩) hW hS hA (fun r2 u_9 H locs hp2 hW hS hz9 => ?_)
          obtain ⟨hr2, hu9⟩ := hp2
          rw [hu9] at hW
          subst hr2
          refine lv_if_lt (tgt := 46) hx hb dMo_drilledAt_33 (by decide) (fun c3 => ?_) (fun c3 => ?_)
          · have e1 : (mp_F sx sy sw px py pw pd pf pt n h a0 a1) k = false := by have h9 := (dq_fst_neg (by omega)).mp c3; unfold mp_F; rw [hal, Bool.true_and]; exact congrArg Bool.not (decide_eq_true h9)
            have e5 : mp_bits (mp_F sx sy sw px py pw pd pf pt n h a0 a1) 0 (k + 1) = mp_bits (mp_F sx sy sw px py pw pd pf pt n h a0 a1) 0 k := by show (if (mp_F sx sy sw px py pw pd pf pt n h a0 a1) (0 + k) = true then _ else _) = _; rw [Nat.zero_add]; exact if_neg (by rw [e1]; decide)
            refine lv_iload hx hb dMo_drilledAt_46 (lv_at hl 4 rfl) ?_
            refine lv_istore (lv' := [(4, .int (nI (mp_bits (mp_F sx sy sw px py pw pd pf pt n h a0 a1) 0 k))), (0, .ref (ad 100)), (1, .int (nI h)), (2, .int a0), (3, .int a1), (5, .int (nI k))]) hx hb dMo_drilledAt_48 hl (by decide) rfl (fun ls hl => ?_)
            refine lv_iinc (v := (nI (k + 1))) (lv' := [(5, .int (nI (k + 1))), (4, .int (nI (mp_bits (mp_F sx sy sw px py pw pd pf pt n h a0 a1) 0 k))), (0, .ref (ad 100)), (1, .int (nI h)), (2, .int a0), (3, .int a1)]) hx hb dMo_drilledAt_50 hl (k := 5) rfl (by show nI k + 1 = _; exact nI_1 _) (by decide) rfl (fun ls hl => ?_)
            refine lv_goto (tgt := 6) hx hb dMo_drilledAt_53 (by decide) ?_
            exact ih (k + 1) _ _ _ (by omega) (by omega) hW hS (by rw [e5]; exact (lv_sub hl [2, 3, 4, 5, 1, 0] rfl))
          · have e1 : (mp_F sx sy sw px py pw pd pf pt n h a0 a1) k = true := by have h9 := fun z => c3 ((dq_fst_neg (by omega)).mpr z); unfold mp_F; rw [hal, Bool.true_and]; exact congrArg Bool.not (decide_eq_false h9)
            have e5 : mp_bits (mp_F sx sy sw px py pw pd pf pt n h a0 a1) 0 (k + 1) = mp_bits (mp_F sx sy sw px py pw pd pf pt n h a0 a1) 0 k ||| 2 ^ k := by show (if (mp_F sx sy sw px py pw pd pf pt n h a0 a1) (0 + k) = true then _ else _) = _; rw [Nat.zero_add]; exact if_pos e1
            refine lv_iload hx hb dMo_drilledAt_36 (lv_at hl 4 rfl) ?_
            refine lv_iconst (v := (1)) hx hb dMo_drilledAt_38 (by decide) ?_
            refine lv_iload hx hb dMo_drilledAt_39 (lv_at hl 5 rfl) ?_
            refine lv_ishl hx hb dMo_drilledAt_41 ?_
            refine dq_top (y := nI (2 ^ k)) (dq_sh1 _ (by omega)) ?_
            refine lv_ior hx hb dMo_drilledAt_42 ?_
            refine dq_top (y := nI (mp_bits (mp_F sx sy sw px py pw pd pf pt n h a0 a1) 0 k ||| 2 ^ k)) (nx_or _ _) ?_
            refine lv_goto (tgt := 48) hx hb dMo_drilledAt_43 (by decide) ?_
            refine lv_istore (lv' := [(4, .int (nI (mp_bits (mp_F sx sy sw px py pw pd pf pt n h a0 a1) 0 k ||| 2 ^ k))), (0, .ref (ad 100)), (1, .int (nI h)), (2, .int a0), (3, .int a1), (5, .int (nI k))]) hx hb dMo_drilledAt_48 hl (by decide) rfl (fun ls hl => ?_)
            refine lv_iinc (v := (nI (k + 1))) (lv' := [(5, .int (nI (k + 1))), (4, .int (nI (mp_bits (mp_F sx sy sw px py pw pd pf pt n h a0 a1) 0 k ||| 2 ^ k))), (0, .ref (ad 100)), (1, .int (nI h)), (2, .int a0), (3, .int a1)]) hx hb dMo_drilledAt_50 hl (k := 5) rfl (by show nI k + 1 = _; exact nI_1 _) (by decide) rfl (fun ls hl => ?_)
            refine lv_goto (tgt := 6) hx hb dMo_drilledAt_53 (by decide) ?_
            exact ih (k + 1) _ _ _ (by omega) (by omega) hW hS (by rw [e5]; exact (lv_sub hl [2, 3, 4, 5, 1, 0] rfl))
  exact loop (hn + 1) 0 _ _ _ (by omega) (Nat.zero_le _) hW hS (lv_sub hl [2, 3, 4, 5, 1, 0] rfl)
set_option maxHeartbeats 4000000 in
set_option maxRecDepth 100000 in
/-- by -/
theorem m_by1 (l : Launch) (D : va_G) (g : Nat → ClassId) (ad : Nat → Nat) (w : Nat → Option va_E) (sz : Nat) (cd : Int32) (n hn cn : Nat) (pl : Int32) (tn : Nat) (sg : Int32) (wy : Int64) (a0 : Int32) (m100 : w 100 = some (.inr (8, [.int cd, .int (nI n), .ref (ad 102), .ref (ad 103), .ref (ad 104), .int (nI hn), .ref (ad 106), .ref (ad 107), .ref (ad 108), .ref (ad 109), .ref (ad 110), .ref (ad 111), .int (nI cn), .ref (ad 113), .int pl, .int (nI tn), .ref (ad 116), .ref (ad 117), .ref (ad 118), .ref (ad 119), .int sg, .ref (ad 121), .long wy, .ref (ad 123), .ref (ad 124), .ref (ad 125), .ref (ad 126), .ref (ad 127), .ref (ad 128)]))) (hpl : pl = 0) : Met l yMo_by wsMo_by ({ frames := 2, cells := 0, slots := 0, locals := 50 } : Room) (va_Pc [.ref (ad 100), .int a0] (dq_S D vwCl (dq_t g) ad w sz)) (va_Qi (fun r u => r = 0 ∧ u = dq_U w 100 (.inr (8, [.int 1, .int (nI n), .ref (ad 102), .ref (ad 103), .ref (ad 104), .int (nI hn), .ref (ad 106), .ref (ad 107), .ref (ad 108), .ref (ad 109), .ref (ad 110), .ref (ad 111), .int (nI cn), .ref (ad 113), .int pl, .int (nI tn), .ref (ad 116), .ref (ad 117), .ref (ad 118), .ref (ad 119), .int sg, .ref (ad 121), .long wy, .ref (ad 123), .ref (ad 124), .ref (ad 125), .ref (ad 126), .ref (ad 127), .ref (ad 128)]))) (dq_B D vwCl (dq_t g) ad (dq_A ad w sz)) (dq_A ad w sz)) 0 0 (dq_A ad w sz) := by
  refine dq_ofi (cc := cMo_by) (maxL := 3) (by decide) rfl (Nat.le_of_ble_eq_true rfl) ?_
  intro p e s m below meth c A Q ls ⟨hx, hb, hml, hown, hts⟩ hnm hA hW hK hZ hl hret
  have hS : va_S A s.heap s.heap [] := va_S.rf
  have hl : lv_has ls 3 [(0, .ref (ad 100)), (1, .int a0)] := hl
  have hf41 := hts _ (List.mem_cons_of_mem _ tw3_170)
  have hf44 := hts _ (List.mem_cons_of_mem _ tw3_171)
  have hf50 := hts _ (List.mem_cons_of_mem _ tw3_173)
  have hf127 := hts _ (List.mem_cons_of_mem _ tw3_169)
  have hinMo : ∀ w ∈ u_ws RMo TMo 29, w ∈ wsMo_by := fun w h => List.mem_cons_of_mem _ (inMo w h)
  refine lv_aload_n hx hb dMo_by_0 rfl (lv_at hl 0 rfl) ?_
  refine lv_iload_n hx hb dMo_by_1 rfl (lv_at hl 1 rfl) ?_
  refine dq_calli (va_runV (As := [.int a0]) (rest := []) ⟨hx, hb, hml, hown, hts⟩ (m_noHoleOf_1 l D g ad (w) _ cd n hn cn pl tn sg wy a0 m100 hpl) (cwV 1 hts (dq_giV tw4_99 tw4_101 twp_26 tw1_10 tw4_102) rfl rfl rfl (by decide +kernel) ⟨Nat.le_of_ble_eq_true rfl, Nat.le_of_ble_eq_true rfl⟩) (dq_preV (ci := 8) hW hS hA hK hZ m100 rfl rfl) rfl rfl hl.1 rfl (lv_room (Nat.le_of_ble_eq_true rfl)) dMo_by_2 ⟨Nat.zero_le _, Nat.zero_le _⟩) hW hS hA (fun r1 u_9 H locs hp1 hW hS hz9 => ?_)
  obtain ⟨hr1, hu9⟩ := hp1
  rw [hu9] at hW
  subst hr1
  refine lv_if_eq (tgt := 10) hx hb dMo_by_5 (by decide) (fun c1 => ?_) (fun c1 => ?_)
  · exact absurd c1 (by decide)
  · refine lv_iconst (v := (0)) hx hb dMo_by_8 (by decide) ?_
    exact hret _ _ _ _ _ _ ⟨rfl, rfl⟩ hW hS dMo_by_9

set_option maxHeartbeats 4000000 in
set_option maxRecDepth 100000 in
/-- by -/
theorem m_by2 (l : Launch) (D : va_G) (g : Nat → ClassId) (ad : Nat → Nat) (w : Nat → Option va_E) (sz : Nat) (cd : Int32) (n hn cn : Nat) (pl : Int32) (tn : Nat) (sg : Int32) (wy : Int64) (a0 : Int32) (m100 : w 100 = some (.inr (8, [.int cd, .int (nI n), .ref (ad 102), .ref (ad 103), .ref (ad 104), .int (nI hn), .ref (ad 106), .ref (ad 107), .ref (ad 108), .ref (ad 109), .ref (ad 110), .ref (ad 111), .int (nI cn), .ref (ad 113), .int pl, .int (nI tn), .ref (ad 116), .ref (ad 117), .ref (ad 118), .ref (ad 119), .int sg, .ref (ad 121), .long wy, .ref (ad 123), .ref (ad 124), .ref (ad 125), .ref (ad 126), .ref (ad 127), .ref (ad 128)]))) (hpl : ¬ pl = 0) (h0 : a0 < 0 ∨ ¬ a0 < nI hn) : Met l yMo_by wsMo_by ({ frames := 2, cells := 0, slots := 0, locals := 50 } : Room) (va_Pc [.ref (ad 100), .int a0] (dq_S D vwCl (dq_t g) ad w sz)) (va_Qi (fun r u => r = 0 ∧ u = dq_U w 100 (.inr (8, [.int 2, .int (nI n), .ref (ad 102), .ref (ad 103), .ref (ad 104), .int (nI hn), .ref (ad 106), .ref (ad 107), .ref (ad 108), .ref (ad 109), .ref (ad 110), .ref (ad 111), .int (nI cn), .ref (ad 113), .int pl, .int (nI tn), .ref (ad 116), .ref (ad 117), .ref (ad 118), .ref (ad 119), .int sg, .ref (ad 121), .long wy, .ref (ad 123), .ref (ad 124), .ref (ad 125), .ref (ad 126), .ref (ad 127), .ref (ad 128)]))) (dq_B D vwCl (dq_t g) ad (dq_A ad w sz)) (dq_A ad w sz)) 0 0 (dq_A ad w sz) := by
  refine dq_ofi (cc := cMo_by) (maxL := 3) (by decide) rfl (Nat.le_of_ble_eq_true rfl) ?_
  intro p e s m below meth c A Q ls ⟨hx, hb, hml, hown, hts⟩ hnm hA hW hK hZ hl hret
  have hS : va_S A s.heap s.heap [] := va_S.rf
  have hl : lv_has ls 3 [(0, .ref (ad 100)), (1, .int a0)] := hl
  have hf41 := hts _ (List.mem_cons_of_mem _ tw3_170)
  have hf44 := hts _ (List.mem_cons_of_mem _ tw3_171)
  have hf50 := hts _ (List.mem_cons_of_mem _ tw3_173)
  have hf127 := hts _ (List.mem_cons_of_mem _ tw3_169)
  have hinMo : ∀ w ∈ u_ws RMo TMo 29, w ∈ wsMo_by := fun w h => List.mem_cons_of_mem _ (inMo w h)
  refine lv_aload_n hx hb dMo_by_0 rfl (lv_at hl 0 rfl) ?_
  refine lv_iload_n hx hb dMo_by_1 rfl (lv_at hl 1 rfl) ?_
  refine dq_calli (va_runV (As := [.int a0]) (rest := []) ⟨hx, hb, hml, hown, hts⟩ (m_noHoleOf_2 l D g ad (w) _ cd n hn cn pl tn sg wy a0 m100 hpl h0) (cwV 1 hts (dq_giV tw4_99 tw4_101 twp_26 tw1_10 tw4_102) rfl rfl rfl (by decide +kernel) ⟨Nat.le_of_ble_eq_true rfl, Nat.le_of_ble_eq_true rfl⟩) (dq_preV (ci := 8) hW hS hA hK hZ m100 rfl rfl) rfl rfl hl.1 rfl (lv_room (Nat.le_of_ble_eq_true rfl)) dMo_by_2 ⟨Nat.zero_le _, Nat.zero_le _⟩) hW hS hA (fun r1 u_9 H locs hp1 hW hS hz9 => ?_)
  obtain ⟨hr1, hu9⟩ := hp1
  rw [hu9] at hW
  subst hr1
  refine lv_if_eq (tgt := 10) hx hb dMo_by_5 (by decide) (fun c1 => ?_) (fun c1 => ?_)
  · exact absurd c1 (by decide)
  · refine lv_iconst (v := (0)) hx hb dMo_by_8 (by decide) ?_
    exact hret _ _ _ _ _ _ ⟨rfl, rfl⟩ hW hS dMo_by_9

set_option maxHeartbeats 4000000 in
set_option maxRecDepth 100000 in
/-- by(hole), in no hit -/
theorem m_by_no (l : Launch) (D : va_G) (g : Nat → ClassId) (ad : Nat → Nat) (w : Nat → Option va_E) (sz : Nat) (cd : Int32) (n hn cn : Nat) (pl : Int32) (tn : Nat) (sg : Int32) (wy : Int64) (tX tY tF tS : Nat → Int32) (sx sy sw : Nat → Int32) (px py pw pd pf pt : Nat → Int32) (hB : Nat → Nat) (h : Nat) (m100 : w 100 = some (.inr (8, [.int cd, .int (nI n), .ref (ad 102), .ref (ad 103), .ref (ad 104), .int (nI hn), .ref (ad 106), .ref (ad 107), .ref (ad 108), .ref (ad 109), .ref (ad 110), .ref (ad 111), .int (nI cn), .ref (ad 113), .int pl, .int (nI tn), .ref (ad 116), .ref (ad 117), .ref (ad 118), .ref (ad 119), .int sg, .ref (ad 121), .long wy, .ref (ad 123), .ref (ad 124), .ref (ad 125), .ref (ad 126), .ref (ad 127), .ref (ad 128)]))) (m116 : w 116 = some (.inl (g 0, 14, .inl tX))) (m117 : w 117 = some (.inl (g 0, 14, .inl tY))) (m118 : w 118 = some (.inl (g 0, 14, .inl tF))) (m119 : w 119 = some (.inl (g 0, 14, .inl tS))) (m102 : w 102 = some (.inl (g 0, 16, .inl sx))) (m103 : w 103 = some (.inl (g 0, 16, .inl sy))) (m104 : w 104 = some (.inl (g 0, 16, .inl sw))) (m106 : w 106 = some (.inl (g 0, 14, .inl px))) (m107 : w 107 = some (.inl (g 0, 14, .inl py))) (m108 : w 108 = some (.inl (g 0, 14, .inl pw))) (hpl : ¬ pl = 0) (ht14 : tn ≤ 14) (hh : h < hn) (hpc : hn ≤ 14) (hn16 : n ≤ 16) (hSl : ∀ k, k < tn → tS k = nI (hB k) ∧ hB k < 2 ^ 31) (hno : ∀ k, k < tn → (hB k).testBit h = false) : Met l yMo_by wsMo_by ({ frames := 2, cells := 0, slots := 0, locals := 50 } : Room) (va_Pc [.ref (ad 100), .int (nI h)] (dq_S D vwCl (dq_t g) ad w sz)) (va_Qi (fun r u => r = -1 ∧ u = dq_U w 100 (.inr (8, [.int 0, .int (nI n), .ref (ad 102), .ref (ad 103), .ref (ad 104), .int (nI hn), .ref (ad 106), .ref (ad 107), .ref (ad 108), .ref (ad 109), .ref (ad 110), .ref (ad 111), .int (nI cn), .ref (ad 113), .int pl, .int (nI tn), .ref (ad 116), .ref (ad 117), .ref (ad 118), .ref (ad 119), .int sg, .ref (ad 121), .long wy, .ref (ad 123), .ref (ad 124), .ref (ad 125), .ref (ad 126), .ref (ad 127), .ref (ad 128)]))) (dq_B D vwCl (dq_t g) ad (dq_A ad w sz)) (dq_A ad w sz)) 0 0 (dq_A ad w sz) := by
  refine dq_ofi (cc := cMo_by) (maxL := 3) (by decide) rfl (Nat.le_of_ble_eq_true rfl) ?_
  intro p e s m below meth c A Q ls ⟨hx, hb, hml, hown, hts⟩ hnm hA hW hK hZ hl hret
  have hS : va_S A s.heap s.heap [] := va_S.rf
  have hl : lv_has ls 3 [(0, .ref (ad 100)), (1, .int (nI h))] := hl
  have hf41 := hts _ (List.mem_cons_of_mem _ tw3_170)
  have hf44 := hts _ (List.mem_cons_of_mem _ tw3_171)
  have hf50 := hts _ (List.mem_cons_of_mem _ tw3_173)
  have hf127 := hts _ (List.mem_cons_of_mem _ tw3_169)
  have hinMo : ∀ w ∈ u_ws RMo TMo 29, w ∈ wsMo_by := fun w h => List.mem_cons_of_mem _ (inMo w h)
  refine lv_aload_n hx hb dMo_by_0 rfl (lv_at hl 0 rfl) ?_
  refine lv_iload_n hx hb dMo_by_1 rfl (lv_at hl 1 rfl) ?_
  refine dq_calli (va_runV (As := [.int (nI h)]) (rest := []) ⟨hx, hb, hml, hown, hts⟩ (m_noHoleOf_n l D g ad (w) _ cd n hn cn pl tn sg wy (nI h) m100 hpl (nI_pos (show h < 2 ^ 31 by omega)) (nI_lt hh (by omega))) (cwV 1 hts (dq_giV tw4_99 tw4_101 twp_26 tw1_10 tw4_102) rfl rfl rfl (by decide +kernel) ⟨Nat.le_of_ble_eq_true rfl, Nat.le_of_ble_eq_true rfl⟩) (dq_preV (ci := 8) hW hS hA hK hZ m100 rfl rfl) rfl rfl hl.1 rfl (lv_room (Nat.le_of_ble_eq_true rfl)) dMo_by_2 ⟨Nat.zero_le _, Nat.zero_le _⟩) hW hS hA (fun r1 u_9 H locs hp1 hW hS hz9 => ?_)
  obtain ⟨hr1, hu9⟩ := hp1
  rw [hu9] at hW
  subst hr1
  refine lv_if_eq (tgt := 10) hx hb dMo_by_5 (by decide) (fun c1 => ?_) (fun c1 => ?_)
  · refine lv_iconst (v := (nI 0)) hx hb dMo_by_10 (by decide) ?_
    refine lv_istore_n (lv' := [(2, .int (nI 0)), (0, .ref (ad 100)), (1, .int (nI h))]) hx hb dMo_by_11 rfl hl (by decide) rfl (fun ls hl => ?_)
    have loop : ∀ (j : Nat) (k : Nat) (H : Heap) (locs : List Loc) (ls : Array Slot), tn < k + j → k ≤ tn → dq_W D vwCl ad (dq_U w 100 (.inr (8, [.int 0, .int (nI n), .ref (ad 102), .ref (ad 103), .ref (ad 104), .int (nI hn), .ref (ad 106), .ref (ad 107), .ref (ad 108), .ref (ad 109), .ref (ad 110), .ref (ad 111), .int (nI cn), .ref (ad 113), .int pl, .int (nI tn), .ref (ad 116), .ref (ad 117), .ref (ad 118), .ref (ad 119), .int sg, .ref (ad 121), .long wy, .ref (ad 123), .ref (ad 124), .ref (ad 125), .ref (ad 126), .ref (ad 127), .ref (ad 128)]))) A H → va_S A s.heap H locs → lv_has ls 3 [(0, .ref (ad 100)), (1, .int (nI h)), (2, .int (nI k))] → W p l e ({ frames := 2, cells := 0, slots := 0, locals := 50 } : Room) s m ([.ref (ad 100), .int (nI h)] : List Value).toArray below meth c H locs 0 0 Q (F0 m 12 ls []) := by
      intro j
      induction j with
      | zero => intro k H locs ls hj hk hW hS hl; exact absurd hj (by omega)
      | succ j ih =>
        intro k H locs ls hj hk hW hS hl
        refine lv_iload_n hx hb dMo_by_12 rfl (lv_at hl 2 rfl) ?_
        refine lv_aload_n hx hb dMo_by_13 rfl (lv_at hl 0 rfl) ?_
        refine dq_get (D := D) (ci := 8) (v := .int (nI tn)) (C := RMo) (T := TMo) (N := 29) hx hb hts hinMo hown hK hW 100 dq_Us rfl 15 (by decide) hf127 (fun _ h9 => h9) rfl dMo_by_14 ?_
        refine lv_icmp_ge (tgt := 58) hx hb dMo_by_17 (by decide) (fun c2 => ?_) (fun c2 => ?_)
        · refine lv_iconst (v := (-1)) hx hb dMo_by_58 (by decide) ?_
          exact hret _ _ _ _ _ _ ⟨rfl, rfl⟩ hW hS dMo_by_59
        · have hkt : k < tn := by rcases Nat.lt_or_ge k tn with q | q; exact q; exact absurd (nI_le q (by omega)) c2
          refine lv_aload_n hx hb dMo_by_20 rfl (lv_at hl 0 rfl) ?_
          refine dq_get (D := D) (ci := 8) (v := .ref (ad 119)) (C := RMo) (T := TMo) (N := 29) hx hb hts hinMo hown hK hW 100 dq_Us rfl 19 (by decide) hf50 (fun _ h9 => h9) rfl dMo_by_21 ?_
          refine lv_iload_n hx hb dMo_by_24 rfl (lv_at hl 2 rfl) ?_
          refine dq_ialdN hx hb hK hW 119 0 ((dq_Un (by decide)).trans m119) rfl k (by omega) (by omega) dMo_by_25 ?_
          refine dq_top (y := nI (hB k)) (hSl k (by omega)).1 ?_
          refine lv_iload_n hx hb dMo_by_26 rfl (lv_at hl 1 rfl) ?_
          refine lv_ishr hx hb dMo_by_27 ?_
          refine lv_iconst (v := (1)) hx hb dMo_by_28 (by decide) ?_
          refine lv_iand hx hb dMo_by_29 ?_
          refine dq_top (y := dq_b ((hB k).testBit h)) (dq_bit (hSl k (by omega)).2 (by omega)) ?_
          refine lv_iconst (v := (1)) hx hb dMo_by_30 (by decide) ?_
          refine lv_icmp_ne (tgt := 52) hx hb dMo_by_31 (by decide) (fun c3 => ?_) (fun c3 => ?_)
          · refine lv_iinc (v := (nI (k + 1))) (lv' := [(2, .int (nI (k + 1))), (0, .ref (ad 100)), (1, .int (nI h))]) hx hb dMo_by_52 hl (k := 2) rfl (by show nI k + 1 = _; exact nI_1 _) (by decide) rfl (fun ls hl => ?_)
            refine lv_goto (tgt := 12) hx hb dMo_by_55 (by decide) ?_
            exact ih (k + 1) _ _ _ (by omega) (by omega) hW hS (lv_sub hl [1, 2, 0] rfl)
          · exact absurd ((hno k hkt).symm.trans (dq_b_1.mp c3)) (by decide)
    exact loop (tn + 1) 0 _ _ _ (by omega) (Nat.zero_le _) hW hS (lv_sub hl [1, 2, 0] rfl)
  · exact absurd rfl c1

set_option maxHeartbeats 4000000 in
set_option maxRecDepth 100000 in
/-- by(hole), in a hit -/
theorem m_by_yes (l : Launch) (D : va_G) (g : Nat → ClassId) (ad : Nat → Nat) (w : Nat → Option va_E) (sz : Nat) (cd : Int32) (n hn cn : Nat) (pl : Int32) (tn : Nat) (sg : Int32) (wy : Int64) (tX tY tF tS : Nat → Int32) (sx sy sw : Nat → Int32) (px py pw pd pf pt : Nat → Int32) (hB : Nat → Nat) (h t : Nat) (m100 : w 100 = some (.inr (8, [.int cd, .int (nI n), .ref (ad 102), .ref (ad 103), .ref (ad 104), .int (nI hn), .ref (ad 106), .ref (ad 107), .ref (ad 108), .ref (ad 109), .ref (ad 110), .ref (ad 111), .int (nI cn), .ref (ad 113), .int pl, .int (nI tn), .ref (ad 116), .ref (ad 117), .ref (ad 118), .ref (ad 119), .int sg, .ref (ad 121), .long wy, .ref (ad 123), .ref (ad 124), .ref (ad 125), .ref (ad 126), .ref (ad 127), .ref (ad 128)]))) (m116 : w 116 = some (.inl (g 0, 14, .inl tX))) (m117 : w 117 = some (.inl (g 0, 14, .inl tY))) (m118 : w 118 = some (.inl (g 0, 14, .inl tF))) (m119 : w 119 = some (.inl (g 0, 14, .inl tS))) (m102 : w 102 = some (.inl (g 0, 16, .inl sx))) (m103 : w 103 = some (.inl (g 0, 16, .inl sy))) (m104 : w 104 = some (.inl (g 0, 16, .inl sw))) (m106 : w 106 = some (.inl (g 0, 14, .inl px))) (m107 : w 107 = some (.inl (g 0, 14, .inl py))) (m108 : w 108 = some (.inl (g 0, 14, .inl pw))) (hpl : ¬ pl = 0) (ht14 : tn ≤ 14) (hh : h < hn) (hpc : hn ≤ 14) (hn16 : n ≤ 16) (hSl : ∀ k, k < tn → tS k = nI (hB k) ∧ hB k < 2 ^ 31) (ht : t < tn) (hyes : (hB t).testBit h = true) (hno : ∀ k, k < t → (hB k).testBit h = false) : Met l yMo_by wsMo_by ({ frames := 2, cells := 0, slots := 0, locals := 50 } : Room) (va_Pc [.ref (ad 100), .int (nI h)] (dq_S D vwCl (dq_t g) ad w sz)) (va_Qi (fun r u => r = dq_fst (ms_at sx sy sw (px h) (py h) (pw h) (tX t) (tY t)) n ∧ u = dq_U w 100 (.inr (8, [.int 0, .int (nI n), .ref (ad 102), .ref (ad 103), .ref (ad 104), .int (nI hn), .ref (ad 106), .ref (ad 107), .ref (ad 108), .ref (ad 109), .ref (ad 110), .ref (ad 111), .int (nI cn), .ref (ad 113), .int pl, .int (nI tn), .ref (ad 116), .ref (ad 117), .ref (ad 118), .ref (ad 119), .int sg, .ref (ad 121), .long wy, .ref (ad 123), .ref (ad 124), .ref (ad 125), .ref (ad 126), .ref (ad 127), .ref (ad 128)]))) (dq_B D vwCl (dq_t g) ad (dq_A ad w sz)) (dq_A ad w sz)) 0 0 (dq_A ad w sz) := by
  refine dq_ofi (cc := cMo_by) (maxL := 3) (by decide) rfl (Nat.le_of_ble_eq_true rfl) ?_
  intro p e s m below meth c A Q ls ⟨hx, hb, hml, hown, hts⟩ hnm hA hW hK hZ hl hret
  have hS : va_S A s.heap s.heap [] := va_S.rf
  have hl : lv_has ls 3 [(0, .ref (ad 100)), (1, .int (nI h))] := hl
  have hf41 := hts _ (List.mem_cons_of_mem _ tw3_170)
  have hf44 := hts _ (List.mem_cons_of_mem _ tw3_171)
  have hf50 := hts _ (List.mem_cons_of_mem _ tw3_173)
  have hf127 := hts _ (List.mem_cons_of_mem _ tw3_169)
  have hinMo : ∀ w ∈ u_ws RMo TMo 29, w ∈ wsMo_by := fun w h => List.mem_cons_of_mem _ (inMo w h)
  refine lv_aload_n hx hb dMo_by_0 rfl (lv_at hl 0 rfl) ?_
  refine lv_iload_n hx hb dMo_by_1 rfl (lv_at hl 1 rfl) ?_
  refine dq_calli (va_runV (As := [.int (nI h)]) (rest := []) ⟨hx, hb, hml, hown, hts⟩ (m_noHoleOf_n l D g ad (w) _ cd n hn cn pl tn sg wy (nI h) m100 hpl (nI_pos (show h < 2 ^ 31 by omega)) (nI_lt hh (by omega))) (cwV 1 hts (dq_giV tw4_99 tw4_101 twp_26 tw1_10 tw4_102) rfl rfl rfl (by decide +kernel) ⟨Nat.le_of_ble_eq_true rfl, Nat.le_of_ble_eq_true rfl⟩) (dq_preV (ci := 8) hW hS hA hK hZ m100 rfl rfl) rfl rfl hl.1 rfl (lv_room (Nat.le_of_ble_eq_true rfl)) dMo_by_2 ⟨Nat.zero_le _, Nat.zero_le _⟩) hW hS hA (fun r1 u_9 H locs hp1 hW hS hz9 => ?_)
  obtain ⟨hr1, hu9⟩ := hp1
  rw [hu9] at hW
  subst hr1
  refine lv_if_eq (tgt := 10) hx hb dMo_by_5 (by decide) (fun c1 => ?_) (fun c1 => ?_)
  · refine lv_iconst (v := (nI 0)) hx hb dMo_by_10 (by decide) ?_
    refine lv_istore_n (lv' := [(2, .int (nI 0)), (0, .ref (ad 100)), (1, .int (nI h))]) hx hb dMo_by_11 rfl hl (by decide) rfl (fun ls hl => ?_)
    have loop : ∀ (j : Nat) (k : Nat) (H : Heap) (locs : List Loc) (ls : Array Slot), t < k + j → k ≤ t → dq_W D vwCl ad (dq_U w 100 (.inr (8, [.int 0, .int (nI n), .ref (ad 102), .ref (ad 103), .ref (ad 104), .int (nI hn), .ref (ad 106), .ref (ad 107), .ref (ad 108), .ref (ad 109), .ref (ad 110), .ref (ad 111), .int (nI cn), .ref (ad 113), .int pl, .int (nI tn), .ref (ad 116), .ref (ad 117), .ref (ad 118), .ref (ad 119), .int sg, .ref (ad 121), .long wy, .ref (ad 123), .ref (ad 124), .ref (ad 125), .ref (ad 126), .ref (ad 127), .ref (ad 128)]))) A H → va_S A s.heap H locs → lv_has ls 3 [(0, .ref (ad 100)), (1, .int (nI h)), (2, .int (nI k))] → W p l e ({ frames := 2, cells := 0, slots := 0, locals := 50 } : Room) s m ([.ref (ad 100), .int (nI h)] : List Value).toArray below meth c H locs 0 0 Q (F0 m 12 ls []) := by
      intro j
      induction j with
      | zero => intro k H locs ls hj hk hW hS hl; exact absurd hj (by omega)
      | succ j ih =>
        intro k H locs ls hj hk hW hS hl
        refine lv_iload_n hx hb dMo_by_12 rfl (lv_at hl 2 rfl) ?_
        refine lv_aload_n hx hb dMo_by_13 rfl (lv_at hl 0 rfl) ?_
        refine dq_get (D := D) (ci := 8) (v := .int (nI tn)) (C := RMo) (T := TMo) (N := 29) hx hb hts hinMo hown hK hW 100 dq_Us rfl 15 (by decide) hf127 (fun _ h9 => h9) rfl dMo_by_14 ?_
        refine lv_icmp_ge (tgt := 58) hx hb dMo_by_17 (by decide) (fun c2 => ?_) (fun c2 => ?_)
        · exact absurd ((nI_leI (by omega) (by omega)).mp c2) (by omega)
        · have hkt : k < tn := by omega
          refine lv_aload_n hx hb dMo_by_20 rfl (lv_at hl 0 rfl) ?_
          refine dq_get (D := D) (ci := 8) (v := .ref (ad 119)) (C := RMo) (T := TMo) (N := 29) hx hb hts hinMo hown hK hW 100 dq_Us rfl 19 (by decide) hf50 (fun _ h9 => h9) rfl dMo_by_21 ?_
          refine lv_iload_n hx hb dMo_by_24 rfl (lv_at hl 2 rfl) ?_
          refine dq_ialdN hx hb hK hW 119 0 ((dq_Un (by decide)).trans m119) rfl k (by omega) (by omega) dMo_by_25 ?_
          refine dq_top (y := nI (hB k)) (hSl k (by omega)).1 ?_
          refine lv_iload_n hx hb dMo_by_26 rfl (lv_at hl 1 rfl) ?_
          refine lv_ishr hx hb dMo_by_27 ?_
          refine lv_iconst (v := (1)) hx hb dMo_by_28 (by decide) ?_
          refine lv_iand hx hb dMo_by_29 ?_
          refine dq_top (y := dq_b ((hB k).testBit h)) (dq_bit (hSl k (by omega)).2 (by omega)) ?_
          refine lv_iconst (v := (1)) hx hb dMo_by_30 (by decide) ?_
          refine lv_icmp_ne (tgt := 52) hx hb dMo_by_31 (by decide) (fun c3 => ?_) (fun c3 => ?_)
          · refine lv_iinc (v := (nI (k + 1))) (lv' := [(2, .int (nI (k + 1))), (0, .ref (ad 100)), (1, .int (nI h))]) hx hb dMo_by_52 hl (k := 2) rfl (by show nI k + 1 = _; exact nI_1 _) (by decide) rfl (fun ls hl => ?_)
            refine lv_goto (tgt := 12) hx hb dMo_by_55 (by decide) ?_
            have hk2 : ¬ k = t := fun h9 => c3 (by rw [h9, hyes]; rfl)
            exact ih (k + 1) _ _ _ (by omega) (by omega) hW hS (lv_sub hl [1, 2, 0] rfl)
          · have hkk : k = t := by rcases Nat.lt_or_ge k t with q | q; exact absurd ((hno k q).symm.trans (dq_b_1.mp c3)) (by decide); omega
            subst hkk
            refine lv_aload_n hx hb dMo_by_34 rfl (lv_at hl 0 rfl) ?_
            refine lv_iload_n hx hb dMo_by_35 rfl (lv_at hl 1 rfl) ?_
            refine lv_aload_n hx hb dMo_by_36 rfl (lv_at hl 0 rfl) ?_
            refine dq_get (D := D) (ci := 8) (v := .ref (ad 116)) (C := RMo) (T := TMo) (N := 29) hx hb hts hinMo hown hK hW 100 dq_Us rfl 16 (by decide) hf41 (fun _ h9 => h9) rfl dMo_by_37 ?_
            refine lv_iload_n hx hb dMo_by_40 rfl (lv_at hl 2 rfl) ?_
            refine dq_ialdN hx hb hK hW 116 0 ((dq_Un (by decide)).trans m116) rfl k (by omega) (by omega) dMo_by_41 ?_
            refine lv_aload_n hx hb dMo_by_42 rfl (lv_at hl 0 rfl) ?_
            refine dq_get (D := D) (ci := 8) (v := .ref (ad 117)) (C := RMo) (T := TMo) (N := 29) hx hb hts hinMo hown hK hW 100 dq_Us rfl 17 (by decide) hf44 (fun _ h9 => h9) rfl dMo_by_43 ?_
            refine lv_iload_n hx hb dMo_by_46 rfl (lv_at hl 2 rfl) ?_
            refine dq_ialdN hx hb hK hW 117 0 ((dq_Un (by decide)).trans m117) rfl k (by omega) (by omega) dMo_by_47 ?_
            refine dq_calli (va_runV (As := [.int (nI h), .int (tX k), .int (tY k)]) (rest := []) ⟨hx, hb, hml, hown, hts⟩ (m_spindleAt l D g ad (dq_U w 100 (.inr (8, [.int 0, .int (nI n), .ref (ad 102), .ref (ad 103), .ref (ad 104), .int (nI hn), .ref (ad 106), .ref (ad 107), .ref (ad 108), .ref (ad 109), .ref (ad 110), .ref (ad 111), .int (nI cn), .ref (ad 113), .int pl, .int (nI tn), .ref (ad 116), .ref (ad 117), .ref (ad 118), .ref (ad 119), .int sg, .ref (ad 121), .long wy, .ref (ad 123), .ref (ad 124), .ref (ad 125), .ref (ad 126), .ref (ad 127), .ref (ad 128)]))) _ 0 n hn cn pl tn sg wy sx sy sw px py pw pd pf pt h (tX k) (tY k) dq_Us ((dq_Un (by decide)).trans m102) ((dq_Un (by decide)).trans m103) ((dq_Un (by decide)).trans m104) ((dq_Un (by decide)).trans m106) ((dq_Un (by decide)).trans m107) ((dq_Un (by decide)).trans m108) hn16 (by omega)) (cwV 3 hts (dq_giV tw4_56 tw4_58 twp_21 tw1_10 tw4_59) rfl rfl rfl (by decide +kernel) ⟨Nat.le_of_ble_eq_true rfl, Nat.le_of_ble_eq_true rfl⟩) (dq_preV (ci := 8) hW hS hA hK hZ dq_Us rfl rfl) rfl rfl hl.1 rfl (lv_room (Nat.le_of_ble_eq_true rfl)) dMo_by_48 ⟨Nat.zero_le _, Nat.zero_le _⟩) hW hS hA (fun r2 u_9 H locs hp2 hW hS hz9 => ?_)
            obtain ⟨hr2, hu9⟩ := hp2
            rw [hu9] at hW
            exact hret _ _ _ _ _ _ ⟨hr2, rfl⟩ hW hS dMo_by_51
    exact loop (t + 1) 0 _ _ _ (by omega) (Nat.zero_le _) hW hS (lv_sub hl [1, 2, 0] rfl)
  · exact absurd rfl c1

set_option maxHeartbeats 4000000 in
set_option maxRecDepth 100000 in
/-- single -/
theorem m_single1 (l : Launch) (D : va_G) (g : Nat → ClassId) (ad : Nat → Nat) (w : Nat → Option va_E) (sz : Nat) (cd : Int32) (n hn cn : Nat) (pl : Int32) (tn : Nat) (sg : Int32) (wy : Int64) (a0 : Int32) (m100 : w 100 = some (.inr (8, [.int cd, .int (nI n), .ref (ad 102), .ref (ad 103), .ref (ad 104), .int (nI hn), .ref (ad 106), .ref (ad 107), .ref (ad 108), .ref (ad 109), .ref (ad 110), .ref (ad 111), .int (nI cn), .ref (ad 113), .int pl, .int (nI tn), .ref (ad 116), .ref (ad 117), .ref (ad 118), .ref (ad 119), .int sg, .ref (ad 121), .long wy, .ref (ad 123), .ref (ad 124), .ref (ad 125), .ref (ad 126), .ref (ad 127), .ref (ad 128)]))) (hpl : pl = 0) : Met l yMo_single wsMo_single ({ frames := 2, cells := 0, slots := 0, locals := 50 } : Room) (va_Pc [.ref (ad 100), .int a0] (dq_S D vwCl (dq_t g) ad w sz)) (va_Qi (fun r u => r = 0 ∧ u = dq_U w 100 (.inr (8, [.int 1, .int (nI n), .ref (ad 102), .ref (ad 103), .ref (ad 104), .int (nI hn), .ref (ad 106), .ref (ad 107), .ref (ad 108), .ref (ad 109), .ref (ad 110), .ref (ad 111), .int (nI cn), .ref (ad 113), .int pl, .int (nI tn), .ref (ad 116), .ref (ad 117), .ref (ad 118), .ref (ad 119), .int sg, .ref (ad 121), .long wy, .ref (ad 123), .ref (ad 124), .ref (ad 125), .ref (ad 126), .ref (ad 127), .ref (ad 128)]))) (dq_B D vwCl (dq_t g) ad (dq_A ad w sz)) (dq_A ad w sz)) 0 0 (dq_A ad w sz) := by
  refine dq_ofz (cc := cMo_single) (maxL := 2) (by decide) rfl (Nat.le_of_ble_eq_true rfl) ?_
  intro p e s m below meth c A Q ls ⟨hx, hb, hml, hown, hts⟩ hnm hA hW hK hZ hl hret
  have hS : va_S A s.heap s.heap [] := va_S.rf
  have hl : lv_has ls 2 [(0, .ref (ad 100)), (1, .int a0)] := hl
  have hf120 := hts _ (List.mem_cons_of_mem _ tw3_174)
  have hinMo : ∀ w ∈ u_ws RMo TMo 29, w ∈ wsMo_single := fun w h => List.mem_cons_of_mem _ (inMo w h)
  refine lv_aload_n hx hb dMo_single_0 rfl (lv_at hl 0 rfl) ?_
  refine lv_iload_n hx hb dMo_single_1 rfl (lv_at hl 1 rfl) ?_
  refine dq_calli (va_runV (As := [.int a0]) (rest := []) ⟨hx, hb, hml, hown, hts⟩ (m_noHoleOf_1 l D g ad (w) _ cd n hn cn pl tn sg wy a0 m100 hpl) (cwV 1 hts (dq_giV tw4_99 tw4_101 twp_26 tw1_10 tw4_102) rfl rfl rfl (by decide +kernel) ⟨Nat.le_of_ble_eq_true rfl, Nat.le_of_ble_eq_true rfl⟩) (dq_preV (ci := 8) hW hS hA hK hZ m100 rfl rfl) rfl rfl hl.1 rfl (lv_room (Nat.le_of_ble_eq_true rfl)) dMo_single_2 ⟨Nat.zero_le _, Nat.zero_le _⟩) hW hS hA (fun r1 u_9 H locs hp1 hW hS hz9 => ?_)
  obtain ⟨hr1, hu9⟩ := hp1
  rw [hu9] at hW
  subst hr1
  refine lv_if_ne (tgt := 24) hx hb dMo_single_5 (by decide) (fun c1 => ?_) (fun c1 => ?_)
  · refine lv_iconst (v := (0)) hx hb dMo_single_24 (by decide) ?_
    exact hret _ _ _ _ _ _ ⟨rfl, rfl⟩ (by decide) hW hS dMo_single_25
  · exact absurd c1 (by decide)

set_option maxHeartbeats 4000000 in
set_option maxRecDepth 100000 in
/-- single -/
theorem m_single2 (l : Launch) (D : va_G) (g : Nat → ClassId) (ad : Nat → Nat) (w : Nat → Option va_E) (sz : Nat) (cd : Int32) (n hn cn : Nat) (pl : Int32) (tn : Nat) (sg : Int32) (wy : Int64) (a0 : Int32) (m100 : w 100 = some (.inr (8, [.int cd, .int (nI n), .ref (ad 102), .ref (ad 103), .ref (ad 104), .int (nI hn), .ref (ad 106), .ref (ad 107), .ref (ad 108), .ref (ad 109), .ref (ad 110), .ref (ad 111), .int (nI cn), .ref (ad 113), .int pl, .int (nI tn), .ref (ad 116), .ref (ad 117), .ref (ad 118), .ref (ad 119), .int sg, .ref (ad 121), .long wy, .ref (ad 123), .ref (ad 124), .ref (ad 125), .ref (ad 126), .ref (ad 127), .ref (ad 128)]))) (hpl : ¬ pl = 0) (h0 : a0 < 0 ∨ ¬ a0 < nI hn) : Met l yMo_single wsMo_single ({ frames := 2, cells := 0, slots := 0, locals := 50 } : Room) (va_Pc [.ref (ad 100), .int a0] (dq_S D vwCl (dq_t g) ad w sz)) (va_Qi (fun r u => r = 0 ∧ u = dq_U w 100 (.inr (8, [.int 2, .int (nI n), .ref (ad 102), .ref (ad 103), .ref (ad 104), .int (nI hn), .ref (ad 106), .ref (ad 107), .ref (ad 108), .ref (ad 109), .ref (ad 110), .ref (ad 111), .int (nI cn), .ref (ad 113), .int pl, .int (nI tn), .ref (ad 116), .ref (ad 117), .ref (ad 118), .ref (ad 119), .int sg, .ref (ad 121), .long wy, .ref (ad 123), .ref (ad 124), .ref (ad 125), .ref (ad 126), .ref (ad 127), .ref (ad 128)]))) (dq_B D vwCl (dq_t g) ad (dq_A ad w sz)) (dq_A ad w sz)) 0 0 (dq_A ad w sz) := by
  refine dq_ofz (cc := cMo_single) (maxL := 2) (by decide) rfl (Nat.le_of_ble_eq_true rfl) ?_
  intro p e s m below meth c A Q ls ⟨hx, hb, hml, hown, hts⟩ hnm hA hW hK hZ hl hret
  have hS : va_S A s.heap s.heap [] := va_S.rf
  have hl : lv_has ls 2 [(0, .ref (ad 100)), (1, .int a0)] := hl
  have hf120 := hts _ (List.mem_cons_of_mem _ tw3_174)
  have hinMo : ∀ w ∈ u_ws RMo TMo 29, w ∈ wsMo_single := fun w h => List.mem_cons_of_mem _ (inMo w h)
  refine lv_aload_n hx hb dMo_single_0 rfl (lv_at hl 0 rfl) ?_
  refine lv_iload_n hx hb dMo_single_1 rfl (lv_at hl 1 rfl) ?_
  refine dq_calli (va_runV (As := [.int a0]) (rest := []) ⟨hx, hb, hml, hown, hts⟩ (m_noHoleOf_2 l D g ad (w) _ cd n hn cn pl tn sg wy a0 m100 hpl h0) (cwV 1 hts (dq_giV tw4_99 tw4_101 twp_26 tw1_10 tw4_102) rfl rfl rfl (by decide +kernel) ⟨Nat.le_of_ble_eq_true rfl, Nat.le_of_ble_eq_true rfl⟩) (dq_preV (ci := 8) hW hS hA hK hZ m100 rfl rfl) rfl rfl hl.1 rfl (lv_room (Nat.le_of_ble_eq_true rfl)) dMo_single_2 ⟨Nat.zero_le _, Nat.zero_le _⟩) hW hS hA (fun r1 u_9 H locs hp1 hW hS hz9 => ?_)
  obtain ⟨hr1, hu9⟩ := hp1
  rw [hu9] at hW
  subst hr1
  refine lv_if_ne (tgt := 24) hx hb dMo_single_5 (by decide) (fun c1 => ?_) (fun c1 => ?_)
  · refine lv_iconst (v := (0)) hx hb dMo_single_24 (by decide) ?_
    exact hret _ _ _ _ _ _ ⟨rfl, rfl⟩ (by decide) hW hS dMo_single_25
  · exact absurd c1 (by decide)

set_option maxHeartbeats 4000000 in
set_option maxRecDepth 100000 in
/-- single(hole) -/
theorem m_single (l : Launch) (D : va_G) (g : Nat → ClassId) (ad : Nat → Nat) (w : Nat → Option va_E) (sz : Nat) (sgN : Nat) (cd : Int32) (n hn cn : Nat) (pl : Int32) (tn : Nat) (wy : Int64) (h : Nat) (m100 : w 100 = some (.inr (8, [.int cd, .int (nI n), .ref (ad 102), .ref (ad 103), .ref (ad 104), .int (nI hn), .ref (ad 106), .ref (ad 107), .ref (ad 108), .ref (ad 109), .ref (ad 110), .ref (ad 111), .int (nI cn), .ref (ad 113), .int pl, .int (nI tn), .ref (ad 116), .ref (ad 117), .ref (ad 118), .ref (ad 119), .int (nI sgN), .ref (ad 121), .long wy, .ref (ad 123), .ref (ad 124), .ref (ad 125), .ref (ad 126), .ref (ad 127), .ref (ad 128)]))) (hpl : ¬ pl = 0) (hh : h < hn) (hpc : hn ≤ 14) (hS8 : sgN < 2 ^ 31) : Met l yMo_single wsMo_single ({ frames := 2, cells := 0, slots := 0, locals := 50 } : Room) (va_Pc [.ref (ad 100), .int (nI h)] (dq_S D vwCl (dq_t g) ad w sz)) (va_Qi (fun r u => r = dq_b (sgN.testBit h) ∧ u = dq_U w 100 (.inr (8, [.int 0, .int (nI n), .ref (ad 102), .ref (ad 103), .ref (ad 104), .int (nI hn), .ref (ad 106), .ref (ad 107), .ref (ad 108), .ref (ad 109), .ref (ad 110), .ref (ad 111), .int (nI cn), .ref (ad 113), .int pl, .int (nI tn), .ref (ad 116), .ref (ad 117), .ref (ad 118), .ref (ad 119), .int (nI sgN), .ref (ad 121), .long wy, .ref (ad 123), .ref (ad 124), .ref (ad 125), .ref (ad 126), .ref (ad 127), .ref (ad 128)]))) (dq_B D vwCl (dq_t g) ad (dq_A ad w sz)) (dq_A ad w sz)) 0 0 (dq_A ad w sz) := by
  refine dq_ofz (cc := cMo_single) (maxL := 2) (by decide) rfl (Nat.le_of_ble_eq_true rfl) ?_
  intro p e s m below meth c A Q ls ⟨hx, hb, hml, hown, hts⟩ hnm hA hW hK hZ hl hret
  have hS : va_S A s.heap s.heap [] := va_S.rf
  have hl : lv_has ls 2 [(0, .ref (ad 100)), (1, .int (nI h))] := hl
  have hf120 := hts _ (List.mem_cons_of_mem _ tw3_174)
  have hinMo : ∀ w ∈ u_ws RMo TMo 29, w ∈ wsMo_single := fun w h => List.mem_cons_of_mem _ (inMo w h)
  refine lv_aload_n hx hb dMo_single_0 rfl (lv_at hl 0 rfl) ?_
  refine lv_iload_n hx hb dMo_single_1 rfl (lv_at hl 1 rfl) ?_
  refine dq_calli (va_runV (As := [.int (nI h)]) (rest := []) ⟨hx, hb, hml, hown, hts⟩ (m_noHoleOf_n l D g ad (w) _ cd n hn cn pl tn (nI sgN) wy (nI h) m100 hpl (nI_pos (show h < 2 ^ 31 by omega)) (nI_lt hh (by omega))) (cwV 1 hts (dq_giV tw4_99 tw4_101 twp_26 tw1_10 tw4_102) rfl rfl rfl (by decide +kernel) ⟨Nat.le_of_ble_eq_true rfl, Nat.le_of_ble_eq_true rfl⟩) (dq_preV (ci := 8) hW hS hA hK hZ m100 rfl rfl) rfl rfl hl.1 rfl (lv_room (Nat.le_of_ble_eq_true rfl)) dMo_single_2 ⟨Nat.zero_le _, Nat.zero_le _⟩) hW hS hA (fun r1 u_9 H locs hp1 hW hS hz9 => ?_)
  obtain ⟨hr1, hu9⟩ := hp1
  rw [hu9] at hW
  subst hr1
  refine lv_if_ne (tgt := 24) hx hb dMo_single_5 (by decide) (fun c1 => ?_) (fun c1 => ?_)
  · exact absurd rfl c1
  · refine lv_aload_n hx hb dMo_single_8 rfl (lv_at hl 0 rfl) ?_
    refine dq_get (D := D) (ci := 8) (v := .int (nI sgN)) (C := RMo) (T := TMo) (N := 29) hx hb hts hinMo hown hK hW 100 dq_Us rfl 20 (by decide) hf120 (fun _ h9 => h9) rfl dMo_single_9 ?_
    refine lv_iload_n hx hb dMo_single_12 rfl (lv_at hl 1 rfl) ?_
    refine lv_ishr hx hb dMo_single_13 ?_
    refine lv_iconst (v := (1)) hx hb dMo_single_14 (by decide) ?_
    refine lv_iand hx hb dMo_single_15 ?_
    refine dq_top (y := dq_b (sgN.testBit h)) (dq_bit hS8 (by omega)) ?_
    refine lv_iconst (v := (1)) hx hb dMo_single_16 (by decide) ?_
    refine lv_icmp_ne (tgt := 24) hx hb dMo_single_17 (by decide) (fun c7 => ?_) (fun c7 => ?_)
    · refine lv_iconst (v := (0)) hx hb dMo_single_24 (by decide) ?_
      exact hret _ _ _ _ _ _ ⟨by cases hb9 : sgN.testBit h; rfl; exact absurd (dq_b_1.mpr hb9) c7, rfl⟩ (by decide) hW hS dMo_single_25
    · refine lv_iconst (v := (1)) hx hb dMo_single_20 (by decide) ?_
      refine lv_goto (tgt := 25) hx hb dMo_single_21 (by decide) ?_
      exact hret _ _ _ _ _ _ ⟨c7.symm, rfl⟩ (by decide) hW hS dMo_single_25

set_option maxHeartbeats 4000000 in
set_option maxRecDepth 100000 in
/-- order, not planned -/
theorem m_order1 (l : Launch) (D : va_G) (g : Nat → ClassId) (ad : Nat → Nat) (w : Nat → Option va_E) (sz : Nat) (cd : Int32) (n hn cn : Nat) (pl : Int32) (tn : Nat) (sg : Int32) (wy : Int64) (a0 : Int32) (m100 : w 100 = some (.inr (8, [.int cd, .int (nI n), .ref (ad 102), .ref (ad 103), .ref (ad 104), .int (nI hn), .ref (ad 106), .ref (ad 107), .ref (ad 108), .ref (ad 109), .ref (ad 110), .ref (ad 111), .int (nI cn), .ref (ad 113), .int pl, .int (nI tn), .ref (ad 116), .ref (ad 117), .ref (ad 118), .ref (ad 119), .int sg, .ref (ad 121), .long wy, .ref (ad 123), .ref (ad 124), .ref (ad 125), .ref (ad 126), .ref (ad 127), .ref (ad 128)]))) (hpl : pl = 0) : Met l yMo_order wsMo_order ({ frames := 2, cells := 0, slots := 0, locals := 50 } : Room) (va_Pc [.ref (ad 100), .int a0] (dq_S D vwCl (dq_t g) ad w sz)) (va_Qi (fun r u => r = 0 ∧ u = dq_U w 100 (.inr (8, [.int 1, .int (nI n), .ref (ad 102), .ref (ad 103), .ref (ad 104), .int (nI hn), .ref (ad 106), .ref (ad 107), .ref (ad 108), .ref (ad 109), .ref (ad 110), .ref (ad 111), .int (nI cn), .ref (ad 113), .int pl, .int (nI tn), .ref (ad 116), .ref (ad 117), .ref (ad 118), .ref (ad 119), .int sg, .ref (ad 121), .long wy, .ref (ad 123), .ref (ad 124), .ref (ad 125), .ref (ad 126), .ref (ad 127), .ref (ad 128)]))) (dq_B D vwCl (dq_t g) ad (dq_A ad w sz)) (dq_A ad w sz)) 0 0 (dq_A ad w sz) := by
  refine dq_ofi (cc := cMo_order) (maxL := 2) (by decide) rfl (Nat.le_of_ble_eq_true rfl) ?_
  intro p e s m below meth c A Q ls ⟨hx, hb, hml, hown, hts⟩ hnm hA hW hK hZ hl hret
  have hS : va_S A s.heap s.heap [] := va_S.rf
  have hl : lv_has ls 2 [(0, .ref (ad 100)), (1, .int a0)] := hl
  have hf53 := hts _ (List.mem_cons_of_mem _ tw3_175)
  have hf79 := hts _ (List.mem_cons_of_mem _ tw3_154)
  have hf127 := hts _ (List.mem_cons_of_mem _ tw3_169)
  have hinMo : ∀ w ∈ u_ws RMo TMo 29, w ∈ wsMo_order := fun w h => List.mem_cons_of_mem _ (inMo w h)
  refine lv_aload_n hx hb dMo_order_0 rfl (lv_at hl 0 rfl) ?_
  refine dq_calli (va_runV (As := []) (rest := []) ⟨hx, hb, hml, hown, hts⟩ (m_none_y l D g ad (w) _ cd n hn cn pl tn sg wy m100 hpl) (cwV 0 hts (dq_giV tw4_87 tw4_89 twp_25 tw1_10 tw4_90) rfl rfl rfl (by decide +kernel) ⟨Nat.le_of_ble_eq_true rfl, Nat.le_of_ble_eq_true rfl⟩) (dq_preV (ci := 8) hW hS hA hK hZ m100 rfl rfl) rfl rfl hl.1 rfl (lv_room (Nat.le_of_ble_eq_true rfl)) dMo_order_1 ⟨Nat.zero_le _, Nat.zero_le _⟩) hW hS hA (fun r1 u_9 H locs hp1 hW hS hz9 => ?_)
  obtain ⟨hr1, hu9⟩ := hp1
  rw [hu9] at hW
  subst hr1
  refine lv_if_eq (tgt := 9) hx hb dMo_order_4 (by decide) (fun c1 => ?_) (fun c1 => ?_)
  · exact absurd c1 (by decide)
  · refine lv_iconst (v := (0)) hx hb dMo_order_7 (by decide) ?_
    exact hret _ _ _ _ _ _ ⟨rfl, rfl⟩ hW hS dMo_order_8

set_option maxHeartbeats 4000000 in
set_option maxRecDepth 100000 in
/-- order, no such hit -/
theorem m_order2 (l : Launch) (D : va_G) (g : Nat → ClassId) (ad : Nat → Nat) (w : Nat → Option va_E) (sz : Nat) (cd : Int32) (n hn cn : Nat) (pl : Int32) (tn : Nat) (sg : Int32) (wy : Int64) (a0 : Int32) (m100 : w 100 = some (.inr (8, [.int cd, .int (nI n), .ref (ad 102), .ref (ad 103), .ref (ad 104), .int (nI hn), .ref (ad 106), .ref (ad 107), .ref (ad 108), .ref (ad 109), .ref (ad 110), .ref (ad 111), .int (nI cn), .ref (ad 113), .int pl, .int (nI tn), .ref (ad 116), .ref (ad 117), .ref (ad 118), .ref (ad 119), .int sg, .ref (ad 121), .long wy, .ref (ad 123), .ref (ad 124), .ref (ad 125), .ref (ad 126), .ref (ad 127), .ref (ad 128)]))) (hpl : ¬ pl = 0) (h0 : a0 < 0 ∨ ¬ a0 < nI tn) : Met l yMo_order wsMo_order ({ frames := 2, cells := 0, slots := 0, locals := 50 } : Room) (va_Pc [.ref (ad 100), .int a0] (dq_S D vwCl (dq_t g) ad w sz)) (va_Qi (fun r u => r = 0 ∧ u = dq_U w 100 (.inr (8, [.int 2, .int (nI n), .ref (ad 102), .ref (ad 103), .ref (ad 104), .int (nI hn), .ref (ad 106), .ref (ad 107), .ref (ad 108), .ref (ad 109), .ref (ad 110), .ref (ad 111), .int (nI cn), .ref (ad 113), .int pl, .int (nI tn), .ref (ad 116), .ref (ad 117), .ref (ad 118), .ref (ad 119), .int sg, .ref (ad 121), .long wy, .ref (ad 123), .ref (ad 124), .ref (ad 125), .ref (ad 126), .ref (ad 127), .ref (ad 128)]))) (dq_B D vwCl (dq_t g) ad (dq_A ad w sz)) (dq_A ad w sz)) 0 0 (dq_A ad w sz) := by
  refine dq_ofi (cc := cMo_order) (maxL := 2) (by decide) rfl (Nat.le_of_ble_eq_true rfl) ?_
  intro p e s m below meth c A Q ls ⟨hx, hb, hml, hown, hts⟩ hnm hA hW hK hZ hl hret
  have hS : va_S A s.heap s.heap [] := va_S.rf
  have hl : lv_has ls 2 [(0, .ref (ad 100)), (1, .int a0)] := hl
  have hf53 := hts _ (List.mem_cons_of_mem _ tw3_175)
  have hf79 := hts _ (List.mem_cons_of_mem _ tw3_154)
  have hf127 := hts _ (List.mem_cons_of_mem _ tw3_169)
  have hinMo : ∀ w ∈ u_ws RMo TMo 29, w ∈ wsMo_order := fun w h => List.mem_cons_of_mem _ (inMo w h)
  refine lv_aload_n hx hb dMo_order_0 rfl (lv_at hl 0 rfl) ?_
  refine dq_calli (va_runV (As := []) (rest := []) ⟨hx, hb, hml, hown, hts⟩ (m_none_n l D g ad (w) _ cd n hn cn pl tn sg wy m100 hpl) (cwV 0 hts (dq_giV tw4_87 tw4_89 twp_25 tw1_10 tw4_90) rfl rfl rfl (by decide +kernel) ⟨Nat.le_of_ble_eq_true rfl, Nat.le_of_ble_eq_true rfl⟩) (dq_preV (ci := 8) hW hS hA hK hZ m100 rfl rfl) rfl rfl hl.1 rfl (lv_room (Nat.le_of_ble_eq_true rfl)) dMo_order_1 ⟨Nat.zero_le _, Nat.zero_le _⟩) hW hS hA (fun r1 u_9 H locs hp1 hW hS hz9 => ?_)
  obtain ⟨hr1, hu9⟩ := hp1
  rw [hu9] at hW
  subst hr1
  refine lv_if_eq (tgt := 9) hx hb dMo_order_4 (by decide) (fun c1 => ?_) (fun c1 => ?_)
  · refine lv_aload_n hx hb dMo_order_9 rfl (lv_at hl 0 rfl) ?_
    refine lv_iload_n hx hb dMo_order_10 rfl (lv_at hl 1 rfl) ?_
    refine lv_if_lt (tgt := 22) hx hb dMo_order_11 (by decide) (fun c2 => ?_) (fun c2 => ?_)
    · refine lv_iconst (v := (2)) hx hb dMo_order_22 (by decide) ?_
      refine lv_goto (tgt := 27) hx hb dMo_order_23 (by decide) ?_
      refine dq_put (D := D) (ci := 8) (v := .int (2)) (ty := .int) (C := RMo) (T := TMo) (N := 29) hx hb hts hinMo tyMo tyMo_ok nmMo hown hK hW hS 100 dq_Us rfl 0 (by decide) hf79 (fun _ h9 => h9) rfl (by decide +kernel) rfl rfl (Nat.le_of_ble_eq_true rfl) dMo_order_27 (fun H locs hW hS => ?_)
      rw [dq_UU] at hW
      refine lv_aload_n hx hb dMo_order_30 rfl (lv_at hl 0 rfl) ?_
      refine dq_get (D := D) (ci := 8) (v := .int (2)) (C := RMo) (T := TMo) (N := 29) hx hb hts hinMo hown hK hW 100 dq_Us rfl 0 (by decide) hf79 (fun _ h9 => h9) rfl dMo_order_31 ?_
      refine lv_if_le (tgt := 41) hx hb dMo_order_34 (by decide) (fun c4 => ?_) (fun c4 => ?_)
      · exact absurd c4 (by decide)
      · refine lv_iconst (v := (0)) hx hb dMo_order_37 (by decide) ?_
        refine lv_goto (tgt := 47) hx hb dMo_order_38 (by decide) ?_
        exact hret _ _ _ _ _ _ ⟨rfl, rfl⟩ hW hS dMo_order_47
    · refine lv_iload_n hx hb dMo_order_14 rfl (lv_at hl 1 rfl) ?_
      refine lv_aload_n hx hb dMo_order_15 rfl (lv_at hl 0 rfl) ?_
      refine dq_get (D := D) (ci := 8) (v := .int (nI tn)) (C := RMo) (T := TMo) (N := 29) hx hb hts hinMo hown hK hW 100 dq_Us rfl 15 (by decide) hf127 (fun _ h9 => h9) rfl dMo_order_16 ?_
      refine lv_icmp_lt (tgt := 26) hx hb dMo_order_19 (by decide) (fun c3 => ?_) (fun c3 => ?_)
      · exact (h0.elim c2 (fun h => absurd c3 h)).elim
      · refine lv_iconst (v := (2)) hx hb dMo_order_22 (by decide) ?_
        refine lv_goto (tgt := 27) hx hb dMo_order_23 (by decide) ?_
        refine dq_put (D := D) (ci := 8) (v := .int (2)) (ty := .int) (C := RMo) (T := TMo) (N := 29) hx hb hts hinMo tyMo tyMo_ok nmMo hown hK hW hS 100 dq_Us rfl 0 (by decide) hf79 (fun _ h9 => h9) rfl (by decide +kernel) rfl rfl (Nat.le_of_ble_eq_true rfl) dMo_order_27 (fun H locs hW hS => ?_)
        rw [dq_UU] at hW
        refine lv_aload_n hx hb dMo_order_30 rfl (lv_at hl 0 rfl) ?_
        refine dq_get (D := D) (ci := 8) (v := .int (2)) (C := RMo) (T := TMo) (N := 29) hx hb hts hinMo hown hK hW 100 dq_Us rfl 0 (by decide) hf79 (fun _ h9 => h9) rfl dMo_order_31 ?_
        refine lv_if_le (tgt := 41) hx hb dMo_order_34 (by decide) (fun c4 => ?_) (fun c4 => ?_)
        · exact absurd c4 (by decide)
        · refine lv_iconst (v := (0)) hx hb dMo_order_37 (by decide) ?_
          refine lv_goto (tgt := 47) hx hb dMo_order_38 (by decide) ?_
          exact hret _ _ _ _ _ _ ⟨rfl, rfl⟩ hW hS dMo_order_47
  · exact absurd rfl c1

set_option maxHeartbeats 4000000 in
set_option maxRecDepth 100000 in
/-- order(k) -/
theorem m_order (l : Launch) (D : va_G) (g : Nat → ClassId) (ad : Nat → Nat) (w : Nat → Option va_E) (sz : Nat) (cd : Int32) (n hn cn : Nat) (pl : Int32) (tn : Nat) (sg : Int32) (wy : Int64) (od : Nat → Int32) (k : Nat) (m100 : w 100 = some (.inr (8, [.int cd, .int (nI n), .ref (ad 102), .ref (ad 103), .ref (ad 104), .int (nI hn), .ref (ad 106), .ref (ad 107), .ref (ad 108), .ref (ad 109), .ref (ad 110), .ref (ad 111), .int (nI cn), .ref (ad 113), .int pl, .int (nI tn), .ref (ad 116), .ref (ad 117), .ref (ad 118), .ref (ad 119), .int sg, .ref (ad 121), .long wy, .ref (ad 123), .ref (ad 124), .ref (ad 125), .ref (ad 126), .ref (ad 127), .ref (ad 128)]))) (m121 : w 121 = some (.inl (g 0, 14, .inl od))) (hpl : ¬ pl = 0) (hk : k < tn) (ht14 : tn ≤ 14) : Met l yMo_order wsMo_order ({ frames := 2, cells := 0, slots := 0, locals := 50 } : Room) (va_Pc [.ref (ad 100), .int (nI k)] (dq_S D vwCl (dq_t g) ad w sz)) (va_Qi (fun r u => r = od k ∧ u = dq_U w 100 (.inr (8, [.int 0, .int (nI n), .ref (ad 102), .ref (ad 103), .ref (ad 104), .int (nI hn), .ref (ad 106), .ref (ad 107), .ref (ad 108), .ref (ad 109), .ref (ad 110), .ref (ad 111), .int (nI cn), .ref (ad 113), .int pl, .int (nI tn), .ref (ad 116), .ref (ad 117), .ref (ad 118), .ref (ad 119), .int sg, .ref (ad 121), .long wy, .ref (ad 123), .ref (ad 124), .ref (ad 125), .ref (ad 126), .ref (ad 127), .ref (ad 128)]))) (dq_B D vwCl (dq_t g) ad (dq_A ad w sz)) (dq_A ad w sz)) 0 0 (dq_A ad w sz) := by
  refine dq_ofi (cc := cMo_order) (maxL := 2) (by decide) rfl (Nat.le_of_ble_eq_true rfl) ?_
  intro p e s m below meth c A Q ls ⟨hx, hb, hml, hown, hts⟩ hnm hA hW hK hZ hl hret
  have hS : va_S A s.heap s.heap [] := va_S.rf
  have hl : lv_has ls 2 [(0, .ref (ad 100)), (1, .int (nI k))] := hl
  have hf53 := hts _ (List.mem_cons_of_mem _ tw3_175)
  have hf79 := hts _ (List.mem_cons_of_mem _ tw3_154)
  have hf127 := hts _ (List.mem_cons_of_mem _ tw3_169)
  have hinMo : ∀ w ∈ u_ws RMo TMo 29, w ∈ wsMo_order := fun w h => List.mem_cons_of_mem _ (inMo w h)
  refine lv_aload_n hx hb dMo_order_0 rfl (lv_at hl 0 rfl) ?_
  refine dq_calli (va_runV (As := []) (rest := []) ⟨hx, hb, hml, hown, hts⟩ (m_none_n l D g ad (w) _ cd n hn cn pl tn sg wy m100 hpl) (cwV 0 hts (dq_giV tw4_87 tw4_89 twp_25 tw1_10 tw4_90) rfl rfl rfl (by decide +kernel) ⟨Nat.le_of_ble_eq_true rfl, Nat.le_of_ble_eq_true rfl⟩) (dq_preV (ci := 8) hW hS hA hK hZ m100 rfl rfl) rfl rfl hl.1 rfl (lv_room (Nat.le_of_ble_eq_true rfl)) dMo_order_1 ⟨Nat.zero_le _, Nat.zero_le _⟩) hW hS hA (fun r1 u_9 H locs hp1 hW hS hz9 => ?_)
  obtain ⟨hr1, hu9⟩ := hp1
  rw [hu9] at hW
  subst hr1
  refine lv_if_eq (tgt := 9) hx hb dMo_order_4 (by decide) (fun c1 => ?_) (fun c1 => ?_)
  · refine lv_aload_n hx hb dMo_order_9 rfl (lv_at hl 0 rfl) ?_
    refine lv_iload_n hx hb dMo_order_10 rfl (lv_at hl 1 rfl) ?_
    refine lv_if_lt (tgt := 22) hx hb dMo_order_11 (by decide) (fun c2 => ?_) (fun c2 => ?_)
    · exact absurd c2 (nI_pos (by omega))
    · refine lv_iload_n hx hb dMo_order_14 rfl (lv_at hl 1 rfl) ?_
      refine lv_aload_n hx hb dMo_order_15 rfl (lv_at hl 0 rfl) ?_
      refine dq_get (D := D) (ci := 8) (v := .int (nI tn)) (C := RMo) (T := TMo) (N := 29) hx hb hts hinMo hown hK hW 100 dq_Us rfl 15 (by decide) hf127 (fun _ h9 => h9) rfl dMo_order_16 ?_
      refine lv_icmp_lt (tgt := 26) hx hb dMo_order_19 (by decide) (fun c3 => ?_) (fun c3 => ?_)
      · refine lv_iconst (v := (0)) hx hb dMo_order_26 (by decide) ?_
        refine dq_put (D := D) (ci := 8) (v := .int (0)) (ty := .int) (C := RMo) (T := TMo) (N := 29) hx hb hts hinMo tyMo tyMo_ok nmMo hown hK hW hS 100 dq_Us rfl 0 (by decide) hf79 (fun _ h9 => h9) rfl (by decide +kernel) rfl rfl (Nat.le_of_ble_eq_true rfl) dMo_order_27 (fun H locs hW hS => ?_)
        rw [dq_UU] at hW
        refine lv_aload_n hx hb dMo_order_30 rfl (lv_at hl 0 rfl) ?_
        refine dq_get (D := D) (ci := 8) (v := .int (0)) (C := RMo) (T := TMo) (N := 29) hx hb hts hinMo hown hK hW 100 dq_Us rfl 0 (by decide) hf79 (fun _ h9 => h9) rfl dMo_order_31 ?_
        refine lv_if_le (tgt := 41) hx hb dMo_order_34 (by decide) (fun c4 => ?_) (fun c4 => ?_)
        · refine lv_aload_n hx hb dMo_order_41 rfl (lv_at hl 0 rfl) ?_
          refine dq_get (D := D) (ci := 8) (v := .ref (ad 121)) (C := RMo) (T := TMo) (N := 29) hx hb hts hinMo hown hK hW 100 dq_Us rfl 21 (by decide) hf53 (fun _ h9 => h9) rfl dMo_order_42 ?_
          refine lv_iload_n hx hb dMo_order_45 rfl (lv_at hl 1 rfl) ?_
          refine dq_ialdN hx hb hK hW 121 0 ((dq_Un (by decide)).trans m121) rfl k (by omega) (by omega) dMo_order_46 ?_
          exact hret _ _ _ _ _ _ ⟨rfl, rfl⟩ hW hS dMo_order_47
        · exact absurd (by decide) c4
      · exact absurd (nI_lt hk (by omega)) c3
  · exact absurd rfl c1

set_option maxHeartbeats 4000000 in
set_option maxRecDepth 100000 in
/-- travel, not planned -/
theorem m_travel1 (l : Launch) (D : va_G) (g : Nat → ClassId) (ad : Nat → Nat) (w : Nat → Option va_E) (sz : Nat) (cd : Int32) (n hn cn : Nat) (pl : Int32) (tn : Nat) (sg : Int32) (wy : Int64) (m100 : w 100 = some (.inr (8, [.int cd, .int (nI n), .ref (ad 102), .ref (ad 103), .ref (ad 104), .int (nI hn), .ref (ad 106), .ref (ad 107), .ref (ad 108), .ref (ad 109), .ref (ad 110), .ref (ad 111), .int (nI cn), .ref (ad 113), .int pl, .int (nI tn), .ref (ad 116), .ref (ad 117), .ref (ad 118), .ref (ad 119), .int sg, .ref (ad 121), .long wy, .ref (ad 123), .ref (ad 124), .ref (ad 125), .ref (ad 126), .ref (ad 127), .ref (ad 128)]))) (hpl : pl = 0) : Met l yMo_travel wsMo_travel ({ frames := 2, cells := 0, slots := 0, locals := 50 } : Room) (va_Pc [.ref (ad 100)] (dq_S D vwCl (dq_t g) ad w sz)) (va_Ql (fun r u => r = 0 ∧ u = dq_U w 100 (.inr (8, [.int 1, .int (nI n), .ref (ad 102), .ref (ad 103), .ref (ad 104), .int (nI hn), .ref (ad 106), .ref (ad 107), .ref (ad 108), .ref (ad 109), .ref (ad 110), .ref (ad 111), .int (nI cn), .ref (ad 113), .int pl, .int (nI tn), .ref (ad 116), .ref (ad 117), .ref (ad 118), .ref (ad 119), .int sg, .ref (ad 121), .long wy, .ref (ad 123), .ref (ad 124), .ref (ad 125), .ref (ad 126), .ref (ad 127), .ref (ad 128)]))) (dq_B D vwCl (dq_t g) ad (dq_A ad w sz)) (dq_A ad w sz)) 0 0 (dq_A ad w sz) := by
  refine dq_ofl (cc := cMo_travel) (maxL := 1) (by decide) rfl (Nat.le_of_ble_eq_true rfl) ?_
  intro p e s m below meth c A Q ls ⟨hx, hb, hml, hown, hts⟩ hnm hA hW hK hZ hl hret
  have hS : va_S A s.heap s.heap [] := va_S.rf
  have hl : lv_has ls 1 [(0, .ref (ad 100))] := hl
  have hf146 := hts _ (List.mem_cons_of_mem _ tw3_176)
  have hinMo : ∀ w ∈ u_ws RMo TMo 29, w ∈ wsMo_travel := fun w h => List.mem_cons_of_mem _ (inMo w h)
  refine lv_aload_n hx hb dMo_travel_0 rfl (lv_at hl 0 rfl) ?_
  refine dq_calli (va_runV (As := []) (rest := []) ⟨hx, hb, hml, hown, hts⟩ (m_none_y l D g ad (w) _ cd n hn cn pl tn sg wy m100 hpl) (cwV 0 hts (dq_giV tw4_87 tw4_89 twp_25 tw1_10 tw4_90) rfl rfl rfl (by decide +kernel) ⟨Nat.le_of_ble_eq_true rfl, Nat.le_of_ble_eq_true rfl⟩) (dq_preV (ci := 8) hW hS hA hK hZ m100 rfl rfl) rfl rfl hl.1 rfl (lv_room (Nat.le_of_ble_eq_true rfl)) dMo_travel_1 ⟨Nat.zero_le _, Nat.zero_le _⟩) hW hS hA (fun r1 u_9 H locs hp1 hW hS hz9 => ?_)
  obtain ⟨hr1, hu9⟩ := hp1
  rw [hu9] at hW
  subst hr1
  refine lv_if_eq (tgt := 11) hx hb dMo_travel_4 (by decide) (fun c1 => ?_) (fun c1 => ?_)
  · exact absurd c1 (by decide)
  · refine lv_lconst (v := 0) hx hb dMo_travel_7 (by decide) ?_
    refine lv_goto (tgt := 15) hx hb dMo_travel_8 (by decide) ?_
    exact hret _ _ _ _ _ _ ⟨rfl, rfl⟩ hW hS dMo_travel_15

set_option maxHeartbeats 4000000 in
set_option maxRecDepth 100000 in
/-- travel() -/
theorem m_travel (l : Launch) (D : va_G) (g : Nat → ClassId) (ad : Nat → Nat) (w : Nat → Option va_E) (sz : Nat) (cd : Int32) (n hn cn : Nat) (pl : Int32) (tn : Nat) (sg : Int32) (wy : Int64) (m100 : w 100 = some (.inr (8, [.int cd, .int (nI n), .ref (ad 102), .ref (ad 103), .ref (ad 104), .int (nI hn), .ref (ad 106), .ref (ad 107), .ref (ad 108), .ref (ad 109), .ref (ad 110), .ref (ad 111), .int (nI cn), .ref (ad 113), .int pl, .int (nI tn), .ref (ad 116), .ref (ad 117), .ref (ad 118), .ref (ad 119), .int sg, .ref (ad 121), .long wy, .ref (ad 123), .ref (ad 124), .ref (ad 125), .ref (ad 126), .ref (ad 127), .ref (ad 128)]))) (hpl : ¬ pl = 0) : Met l yMo_travel wsMo_travel ({ frames := 2, cells := 0, slots := 0, locals := 50 } : Room) (va_Pc [.ref (ad 100)] (dq_S D vwCl (dq_t g) ad w sz)) (va_Ql (fun r u => r = wy ∧ u = dq_U w 100 (.inr (8, [.int 0, .int (nI n), .ref (ad 102), .ref (ad 103), .ref (ad 104), .int (nI hn), .ref (ad 106), .ref (ad 107), .ref (ad 108), .ref (ad 109), .ref (ad 110), .ref (ad 111), .int (nI cn), .ref (ad 113), .int pl, .int (nI tn), .ref (ad 116), .ref (ad 117), .ref (ad 118), .ref (ad 119), .int sg, .ref (ad 121), .long wy, .ref (ad 123), .ref (ad 124), .ref (ad 125), .ref (ad 126), .ref (ad 127), .ref (ad 128)]))) (dq_B D vwCl (dq_t g) ad (dq_A ad w sz)) (dq_A ad w sz)) 0 0 (dq_A ad w sz) := by
  refine dq_ofl (cc := cMo_travel) (maxL := 1) (by decide) rfl (Nat.le_of_ble_eq_true rfl) ?_
  intro p e s m below meth c A Q ls ⟨hx, hb, hml, hown, hts⟩ hnm hA hW hK hZ hl hret
  have hS : va_S A s.heap s.heap [] := va_S.rf
  have hl : lv_has ls 1 [(0, .ref (ad 100))] := hl
  have hf146 := hts _ (List.mem_cons_of_mem _ tw3_176)
  have hinMo : ∀ w ∈ u_ws RMo TMo 29, w ∈ wsMo_travel := fun w h => List.mem_cons_of_mem _ (inMo w h)
  refine lv_aload_n hx hb dMo_travel_0 rfl (lv_at hl 0 rfl) ?_
  refine dq_calli (va_runV (As := []) (rest := []) ⟨hx, hb, hml, hown, hts⟩ (m_none_n l D g ad (w) _ cd n hn cn pl tn sg wy m100 hpl) (cwV 0 hts (dq_giV tw4_87 tw4_89 twp_25 tw1_10 tw4_90) rfl rfl rfl (by decide +kernel) ⟨Nat.le_of_ble_eq_true rfl, Nat.le_of_ble_eq_true rfl⟩) (dq_preV (ci := 8) hW hS hA hK hZ m100 rfl rfl) rfl rfl hl.1 rfl (lv_room (Nat.le_of_ble_eq_true rfl)) dMo_travel_1 ⟨Nat.zero_le _, Nat.zero_le _⟩) hW hS hA (fun r1 u_9 H locs hp1 hW hS hz9 => ?_)
  obtain ⟨hr1, hu9⟩ := hp1
  rw [hu9] at hW
  subst hr1
  refine lv_if_eq (tgt := 11) hx hb dMo_travel_4 (by decide) (fun c1 => ?_) (fun c1 => ?_)
  · refine lv_aload_n hx hb dMo_travel_11 rfl (lv_at hl 0 rfl) ?_
    refine dq_get (D := D) (ci := 8) (v := .long wy) (C := RMo) (T := TMo) (N := 29) hx hb hts hinMo hown hK hW 100 dq_Us rfl 22 (by decide) hf146 (fun _ h9 => h9) rfl dMo_travel_12 ?_
    exact hret _ _ _ _ _ _ ⟨rfl, rfl⟩ hW hS dMo_travel_15
  · exact absurd rfl c1

set_option maxHeartbeats 4000000 in
set_option maxRecDepth 100000 in
/-- least, not planned -/
theorem m_least1 (l : Launch) (D : va_G) (g : Nat → ClassId) (ad : Nat → Nat) (w : Nat → Option va_E) (sz : Nat) (cd : Int32) (n hn cn : Nat) (pl : Int32) (tn : Nat) (sg : Int32) (wy : Int64) (m100 : w 100 = some (.inr (8, [.int cd, .int (nI n), .ref (ad 102), .ref (ad 103), .ref (ad 104), .int (nI hn), .ref (ad 106), .ref (ad 107), .ref (ad 108), .ref (ad 109), .ref (ad 110), .ref (ad 111), .int (nI cn), .ref (ad 113), .int pl, .int (nI tn), .ref (ad 116), .ref (ad 117), .ref (ad 118), .ref (ad 119), .int sg, .ref (ad 121), .long wy, .ref (ad 123), .ref (ad 124), .ref (ad 125), .ref (ad 126), .ref (ad 127), .ref (ad 128)]))) (hpl : pl = 0) : Met l yMo_least wsMo_least ({ frames := 2, cells := 0, slots := 0, locals := 50 } : Room) (va_Pc [.ref (ad 100)] (dq_S D vwCl (dq_t g) ad w sz)) (va_Qi (fun r u => r = 0 ∧ u = dq_U w 100 (.inr (8, [.int 1, .int (nI n), .ref (ad 102), .ref (ad 103), .ref (ad 104), .int (nI hn), .ref (ad 106), .ref (ad 107), .ref (ad 108), .ref (ad 109), .ref (ad 110), .ref (ad 111), .int (nI cn), .ref (ad 113), .int pl, .int (nI tn), .ref (ad 116), .ref (ad 117), .ref (ad 118), .ref (ad 119), .int sg, .ref (ad 121), .long wy, .ref (ad 123), .ref (ad 124), .ref (ad 125), .ref (ad 126), .ref (ad 127), .ref (ad 128)]))) (dq_B D vwCl (dq_t g) ad (dq_A ad w sz)) (dq_A ad w sz)) 0 0 (dq_A ad w sz) := by
  refine dq_ofz (cc := cMo_least) (maxL := 1) (by decide) rfl (Nat.le_of_ble_eq_true rfl) ?_
  intro p e s m below meth c A Q ls ⟨hx, hb, hml, hown, hts⟩ hnm hA hW hK hZ hl hret
  have hS : va_S A s.heap s.heap [] := va_S.rf
  have hl : lv_has ls 1 [(0, .ref (ad 100))] := hl
  have hf127 := hts _ (List.mem_cons_of_mem _ tw3_169)
  have hinMo : ∀ w ∈ u_ws RMo TMo 29, w ∈ wsMo_least := fun w h => List.mem_cons_of_mem _ (inMo w h)
  refine lv_aload_n hx hb dMo_least_0 rfl (lv_at hl 0 rfl) ?_
  refine dq_calli (va_runV (As := []) (rest := []) ⟨hx, hb, hml, hown, hts⟩ (m_none_y l D g ad (w) _ cd n hn cn pl tn sg wy m100 hpl) (cwV 0 hts (dq_giV tw4_87 tw4_89 twp_25 tw1_10 tw4_90) rfl rfl rfl (by decide +kernel) ⟨Nat.le_of_ble_eq_true rfl, Nat.le_of_ble_eq_true rfl⟩) (dq_preV (ci := 8) hW hS hA hK hZ m100 rfl rfl) rfl rfl hl.1 rfl (lv_room (Nat.le_of_ble_eq_true rfl)) dMo_least_1 ⟨Nat.zero_le _, Nat.zero_le _⟩) hW hS hA (fun r1 u_9 H locs hp1 hW hS hz9 => ?_)
  obtain ⟨hr1, hu9⟩ := hp1
  rw [hu9] at hW
  subst hr1
  refine lv_if_ne (tgt := 20) hx hb dMo_least_4 (by decide) (fun c1 => ?_) (fun c1 => ?_)
  · refine lv_iconst (v := (0)) hx hb dMo_least_20 (by decide) ?_
    exact hret _ _ _ _ _ _ ⟨rfl, rfl⟩ (by decide) hW hS dMo_least_21
  · exact absurd c1 (by decide)

set_option maxHeartbeats 4000000 in
set_option maxRecDepth 100000 in
/-- least() -/
theorem m_least_y (l : Launch) (D : va_G) (g : Nat → ClassId) (ad : Nat → Nat) (w : Nat → Option va_E) (sz : Nat) (cd : Int32) (n hn cn : Nat) (pl : Int32) (tn : Nat) (sg : Int32) (wy : Int64) (m100 : w 100 = some (.inr (8, [.int cd, .int (nI n), .ref (ad 102), .ref (ad 103), .ref (ad 104), .int (nI hn), .ref (ad 106), .ref (ad 107), .ref (ad 108), .ref (ad 109), .ref (ad 110), .ref (ad 111), .int (nI cn), .ref (ad 113), .int pl, .int (nI tn), .ref (ad 116), .ref (ad 117), .ref (ad 118), .ref (ad 119), .int sg, .ref (ad 121), .long wy, .ref (ad 123), .ref (ad 124), .ref (ad 125), .ref (ad 126), .ref (ad 127), .ref (ad 128)]))) (hpl : ¬ pl = 0) (ht14 : tn ≤ 14) (h0 : tn ≤ 10) : Met l yMo_least wsMo_least ({ frames := 2, cells := 0, slots := 0, locals := 50 } : Room) (va_Pc [.ref (ad 100)] (dq_S D vwCl (dq_t g) ad w sz)) (va_Qi (fun r u => r = 1 ∧ u = dq_U w 100 (.inr (8, [.int 0, .int (nI n), .ref (ad 102), .ref (ad 103), .ref (ad 104), .int (nI hn), .ref (ad 106), .ref (ad 107), .ref (ad 108), .ref (ad 109), .ref (ad 110), .ref (ad 111), .int (nI cn), .ref (ad 113), .int pl, .int (nI tn), .ref (ad 116), .ref (ad 117), .ref (ad 118), .ref (ad 119), .int sg, .ref (ad 121), .long wy, .ref (ad 123), .ref (ad 124), .ref (ad 125), .ref (ad 126), .ref (ad 127), .ref (ad 128)]))) (dq_B D vwCl (dq_t g) ad (dq_A ad w sz)) (dq_A ad w sz)) 0 0 (dq_A ad w sz) := by
  refine dq_ofz (cc := cMo_least) (maxL := 1) (by decide) rfl (Nat.le_of_ble_eq_true rfl) ?_
  intro p e s m below meth c A Q ls ⟨hx, hb, hml, hown, hts⟩ hnm hA hW hK hZ hl hret
  have hS : va_S A s.heap s.heap [] := va_S.rf
  have hl : lv_has ls 1 [(0, .ref (ad 100))] := hl
  have hf127 := hts _ (List.mem_cons_of_mem _ tw3_169)
  have hinMo : ∀ w ∈ u_ws RMo TMo 29, w ∈ wsMo_least := fun w h => List.mem_cons_of_mem _ (inMo w h)
  refine lv_aload_n hx hb dMo_least_0 rfl (lv_at hl 0 rfl) ?_
  refine dq_calli (va_runV (As := []) (rest := []) ⟨hx, hb, hml, hown, hts⟩ (m_none_n l D g ad (w) _ cd n hn cn pl tn sg wy m100 hpl) (cwV 0 hts (dq_giV tw4_87 tw4_89 twp_25 tw1_10 tw4_90) rfl rfl rfl (by decide +kernel) ⟨Nat.le_of_ble_eq_true rfl, Nat.le_of_ble_eq_true rfl⟩) (dq_preV (ci := 8) hW hS hA hK hZ m100 rfl rfl) rfl rfl hl.1 rfl (lv_room (Nat.le_of_ble_eq_true rfl)) dMo_least_1 ⟨Nat.zero_le _, Nat.zero_le _⟩) hW hS hA (fun r1 u_9 H locs hp1 hW hS hz9 => ?_)
  obtain ⟨hr1, hu9⟩ := hp1
  rw [hu9] at hW
  subst hr1
  refine lv_if_ne (tgt := 20) hx hb dMo_least_4 (by decide) (fun c1 => ?_) (fun c1 => ?_)
  · exact absurd rfl c1
  · refine lv_aload_n hx hb dMo_least_7 rfl (lv_at hl 0 rfl) ?_
    refine dq_get (D := D) (ci := 8) (v := .int (nI tn)) (C := RMo) (T := TMo) (N := 29) hx hb hts hinMo hown hK hW 100 dq_Us rfl 15 (by decide) hf127 (fun _ h9 => h9) rfl dMo_least_8 ?_
    refine lv_bipush (v := (nI 10)) hx hb dMo_least_11 (by decide) ?_
    refine lv_icmp_gt (tgt := 20) hx hb dMo_least_13 (by decide) (fun c2 => ?_) (fun c2 => ?_)
    · exact absurd ((nI_ltI (by omega) (by omega)).mp c2) (by omega)
    · refine lv_iconst (v := (1)) hx hb dMo_least_16 (by decide) ?_
      refine lv_goto (tgt := 21) hx hb dMo_least_17 (by decide) ?_
      exact hret _ _ _ _ _ _ ⟨rfl, rfl⟩ (by decide) hW hS dMo_least_21

set_option maxHeartbeats 4000000 in
set_option maxRecDepth 100000 in
/-- least() -/
theorem m_least_n (l : Launch) (D : va_G) (g : Nat → ClassId) (ad : Nat → Nat) (w : Nat → Option va_E) (sz : Nat) (cd : Int32) (n hn cn : Nat) (pl : Int32) (tn : Nat) (sg : Int32) (wy : Int64) (m100 : w 100 = some (.inr (8, [.int cd, .int (nI n), .ref (ad 102), .ref (ad 103), .ref (ad 104), .int (nI hn), .ref (ad 106), .ref (ad 107), .ref (ad 108), .ref (ad 109), .ref (ad 110), .ref (ad 111), .int (nI cn), .ref (ad 113), .int pl, .int (nI tn), .ref (ad 116), .ref (ad 117), .ref (ad 118), .ref (ad 119), .int sg, .ref (ad 121), .long wy, .ref (ad 123), .ref (ad 124), .ref (ad 125), .ref (ad 126), .ref (ad 127), .ref (ad 128)]))) (hpl : ¬ pl = 0) (ht14 : tn ≤ 14) (h0 : 10 < tn) : Met l yMo_least wsMo_least ({ frames := 2, cells := 0, slots := 0, locals := 50 } : Room) (va_Pc [.ref (ad 100)] (dq_S D vwCl (dq_t g) ad w sz)) (va_Qi (fun r u => r = 0 ∧ u = dq_U w 100 (.inr (8, [.int 0, .int (nI n), .ref (ad 102), .ref (ad 103), .ref (ad 104), .int (nI hn), .ref (ad 106), .ref (ad 107), .ref (ad 108), .ref (ad 109), .ref (ad 110), .ref (ad 111), .int (nI cn), .ref (ad 113), .int pl, .int (nI tn), .ref (ad 116), .ref (ad 117), .ref (ad 118), .ref (ad 119), .int sg, .ref (ad 121), .long wy, .ref (ad 123), .ref (ad 124), .ref (ad 125), .ref (ad 126), .ref (ad 127), .ref (ad 128)]))) (dq_B D vwCl (dq_t g) ad (dq_A ad w sz)) (dq_A ad w sz)) 0 0 (dq_A ad w sz) := by
  refine dq_ofz (cc := cMo_least) (maxL := 1) (by decide) rfl (Nat.le_of_ble_eq_true rfl) ?_
  intro p e s m below meth c A Q ls ⟨hx, hb, hml, hown, hts⟩ hnm hA hW hK hZ hl hret
  have hS : va_S A s.heap s.heap [] := va_S.rf
  have hl : lv_has ls 1 [(0, .ref (ad 100))] := hl
  have hf127 := hts _ (List.mem_cons_of_mem _ tw3_169)
  have hinMo : ∀ w ∈ u_ws RMo TMo 29, w ∈ wsMo_least := fun w h => List.mem_cons_of_mem _ (inMo w h)
  refine lv_aload_n hx hb dMo_least_0 rfl (lv_at hl 0 rfl) ?_
  refine dq_calli (va_runV (As := []) (rest := []) ⟨hx, hb, hml, hown, hts⟩ (m_none_n l D g ad (w) _ cd n hn cn pl tn sg wy m100 hpl) (cwV 0 hts (dq_giV tw4_87 tw4_89 twp_25 tw1_10 tw4_90) rfl rfl rfl (by decide +kernel) ⟨Nat.le_of_ble_eq_true rfl, Nat.le_of_ble_eq_true rfl⟩) (dq_preV (ci := 8) hW hS hA hK hZ m100 rfl rfl) rfl rfl hl.1 rfl (lv_room (Nat.le_of_ble_eq_true rfl)) dMo_least_1 ⟨Nat.zero_le _, Nat.zero_le _⟩) hW hS hA (fun r1 u_9 H locs hp1 hW hS hz9 => ?_)
  obtain ⟨hr1, hu9⟩ := hp1
  rw [hu9] at hW
  subst hr1
  refine lv_if_ne (tgt := 20) hx hb dMo_least_4 (by decide) (fun c1 => ?_) (fun c1 => ?_)
  · exact absurd rfl c1
  · refine lv_aload_n hx hb dMo_least_7 rfl (lv_at hl 0 rfl) ?_
    refine dq_get (D := D) (ci := 8) (v := .int (nI tn)) (C := RMo) (T := TMo) (N := 29) hx hb hts hinMo hown hK hW 100 dq_Us rfl 15 (by decide) hf127 (fun _ h9 => h9) rfl dMo_least_8 ?_
    refine lv_bipush (v := (nI 10)) hx hb dMo_least_11 (by decide) ?_
    refine lv_icmp_gt (tgt := 20) hx hb dMo_least_13 (by decide) (fun c2 => ?_) (fun c2 => ?_)
    · refine lv_iconst (v := (0)) hx hb dMo_least_20 (by decide) ?_
      exact hret _ _ _ _ _ _ ⟨rfl, rfl⟩ (by decide) hW hS dMo_least_21
    · exact absurd (nI_lt h0 (by omega)) c2
