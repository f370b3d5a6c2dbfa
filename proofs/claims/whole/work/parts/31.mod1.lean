set_option maxHeartbeats 4000000 in
set_option maxRecDepth 100000 in
/-- isIn -/
theorem m_isIn (l : Launch) (D : va_G) (g : Nat → ClassId) (ad : Nat → Nat) (w : Nat → Option va_E) (sz : Nat) (a0 a1 a2 : Int32)   : Met l yMo_isIn wsMo_isIn ({ frames := 0, cells := 0, slots := 0, locals := 0 } : Room) (va_Pc [.int a0, .int a1, .int a2] (dq_S D vwCl (dq_t g) ad w sz)) (va_Qi (fun r u => r = dq_b (mr_in a0 a1 a2) ∧ u = w) (dq_B D vwCl (dq_t g) ad (dq_A ad w sz)) (dq_A ad w sz)) 0 0 (dq_A ad w sz) := by
  refine dq_ofz (cc := cMo_isIn) (maxL := 3) (by decide) rfl (Nat.le_of_ble_eq_true rfl) ?_
  intro p e s m below meth c A Q ls ⟨hx, hb, hml, hown, hts⟩ hnm hA hW hK hZ hl hret
  have hS : va_S A s.heap s.heap [] := va_S.rf
  have hl : lv_has ls 3 [(0, .int a0), (1, .int a1), (2, .int a2)] := hl
  refine lv_iload_n hx hb dMo_isIn_0 rfl (lv_at hl 0 rfl) ?_
  refine lv_iload_n hx hb dMo_isIn_1 rfl (lv_at hl 1 rfl) ?_
  refine lv_icmp_lt (tgt := 14) hx hb dMo_isIn_2 (by decide) (fun c1 => ?_) (fun c1 => ?_)
  · refine lv_iconst (v := (0)) hx hb dMo_isIn_14 (by decide) ?_
    exact hret _ _ _ _ _ _ ⟨by rw [mr_in_a c1]; rfl, rfl⟩ (by decide) hW hS dMo_isIn_15
  · refine lv_iload_n hx hb dMo_isIn_5 rfl (lv_at hl 0 rfl) ?_
    refine lv_iload_n hx hb dMo_isIn_6 rfl (lv_at hl 2 rfl) ?_
    refine lv_icmp_gt (tgt := 14) hx hb dMo_isIn_7 (by decide) (fun c2 => ?_) (fun c2 => ?_)
    · refine lv_iconst (v := (0)) hx hb dMo_isIn_14 (by decide) ?_
      exact hret _ _ _ _ _ _ ⟨by rw [mr_in_b (Int32.not_le.mpr c2)]; rfl, rfl⟩ (by decide) hW hS dMo_isIn_15
    · refine lv_iconst (v := (1)) hx hb dMo_isIn_10 (by decide) ?_
      refine lv_goto (tgt := 15) hx hb dMo_isIn_11 (by decide) ?_
      exact hret _ _ _ _ _ _ ⟨by rw [mr_in_t c1 (Int32.not_lt.mp c2)]; rfl, rfl⟩ (by decide) hW hS dMo_isIn_15

set_option maxHeartbeats 4000000 in
set_option maxRecDepth 100000 in
/-- thrown() -/
theorem m_thrown (l : Launch) (D : va_G) (g : Nat → ClassId) (ad : Nat → Nat) (w : Nat → Option va_E) (sz : Nat) (cd : Int32) (n hn cn : Nat) (pl : Int32) (tn : Nat) (sg : Int32) (wy : Int64) (m100 : w 100 = some (.inr (8, [.int cd, .int (nI n), .ref (ad 102), .ref (ad 103), .ref (ad 104), .int (nI hn), .ref (ad 106), .ref (ad 107), .ref (ad 108), .ref (ad 109), .ref (ad 110), .ref (ad 111), .int (nI cn), .ref (ad 113), .int pl, .int (nI tn), .ref (ad 116), .ref (ad 117), .ref (ad 118), .ref (ad 119), .int sg, .ref (ad 121), .long wy, .ref (ad 123), .ref (ad 124), .ref (ad 125), .ref (ad 126), .ref (ad 127), .ref (ad 128)])))  : Met l yMo_thrown wsMo_thrown ({ frames := 0, cells := 0, slots := 0, locals := 0 } : Room) (va_Pc [.ref (ad 100)] (dq_S D vwCl (dq_t g) ad w sz)) (va_Qi (fun r u => r = cd ∧ u = w) (dq_B D vwCl (dq_t g) ad (dq_A ad w sz)) (dq_A ad w sz)) 0 0 (dq_A ad w sz) := by
  refine dq_ofi (cc := cMo_thrown) (maxL := 1) (by decide) rfl (Nat.le_of_ble_eq_true rfl) ?_
  intro p e s m below meth c A Q ls ⟨hx, hb, hml, hown, hts⟩ hnm hA hW hK hZ hl hret
  have hS : va_S A s.heap s.heap [] := va_S.rf
  have hl : lv_has ls 1 [(0, .ref (ad 100))] := hl
  have hf79 := hts _ (List.mem_cons_of_mem _ tw3_154)
  have hinMo : ∀ w ∈ u_ws RMo TMo 29, w ∈ wsMo_thrown := fun w h => List.mem_cons_of_mem _ (inMo w h)
  refine lv_aload_n hx hb dMo_thrown_0 rfl (lv_at hl 0 rfl) ?_
  refine dq_get (D := D) (ci := 8) (v := .int cd) (C := RMo) (T := TMo) (N := 29) hx hb hts hinMo hown hK hW 100 m100 rfl 0 (by decide) hf79 (fun _ h9 => h9) rfl dMo_thrown_1 ?_
  exact hret _ _ _ _ _ _ ⟨rfl, rfl⟩ hW hS dMo_thrown_4

set_option maxHeartbeats 4000000 in
set_option maxRecDepth 100000 in
/-- noHole -/
theorem m_noHole_y (l : Launch) (D : va_G) (g : Nat → ClassId) (ad : Nat → Nat) (w : Nat → Option va_E) (sz : Nat) (cd : Int32) (n hn cn : Nat) (pl : Int32) (tn : Nat) (sg : Int32) (wy : Int64) (a0 : Int32) (m100 : w 100 = some (.inr (8, [.int cd, .int (nI n), .ref (ad 102), .ref (ad 103), .ref (ad 104), .int (nI hn), .ref (ad 106), .ref (ad 107), .ref (ad 108), .ref (ad 109), .ref (ad 110), .ref (ad 111), .int (nI cn), .ref (ad 113), .int pl, .int (nI tn), .ref (ad 116), .ref (ad 117), .ref (ad 118), .ref (ad 119), .int sg, .ref (ad 121), .long wy, .ref (ad 123), .ref (ad 124), .ref (ad 125), .ref (ad 126), .ref (ad 127), .ref (ad 128)]))) (h0 : a0 < 0 ∨ ¬ a0 < nI hn) : Met l yMo_noHole wsMo_noHole ({ frames := 0, cells := 0, slots := 0, locals := 0 } : Room) (va_Pc [.ref (ad 100), .int a0] (dq_S D vwCl (dq_t g) ad w sz)) (va_Qi (fun r u => r = 1 ∧ u = dq_U w 100 (.inr (8, [.int 1, .int (nI n), .ref (ad 102), .ref (ad 103), .ref (ad 104), .int (nI hn), .ref (ad 106), .ref (ad 107), .ref (ad 108), .ref (ad 109), .ref (ad 110), .ref (ad 111), .int (nI cn), .ref (ad 113), .int pl, .int (nI tn), .ref (ad 116), .ref (ad 117), .ref (ad 118), .ref (ad 119), .int sg, .ref (ad 121), .long wy, .ref (ad 123), .ref (ad 124), .ref (ad 125), .ref (ad 126), .ref (ad 127), .ref (ad 128)]))) (dq_B D vwCl (dq_t g) ad (dq_A ad w sz)) (dq_A ad w sz)) 0 0 (dq_A ad w sz) := by
  refine dq_ofz (cc := cMo_noHole) (maxL := 2) (by decide) rfl (Nat.le_of_ble_eq_true rfl) ?_
  intro p e s m below meth c A Q ls ⟨hx, hb, hml, hown, hts⟩ hnm hA hW hK hZ hl hret
  have hS : va_S A s.heap s.heap [] := va_S.rf
  have hl : lv_has ls 2 [(0, .ref (ad 100)), (1, .int a0)] := hl
  have hf79 := hts _ (List.mem_cons_of_mem _ tw3_154)
  have hf90 := hts _ (List.mem_cons_of_mem _ tw3_159)
  have hinMo : ∀ w ∈ u_ws RMo TMo 29, w ∈ wsMo_noHole := fun w h => List.mem_cons_of_mem _ (inMo w h)
  refine lv_aload_n hx hb dMo_noHole_0 rfl (lv_at hl 0 rfl) ?_
  refine lv_iload_n hx hb dMo_noHole_1 rfl (lv_at hl 1 rfl) ?_
  refine lv_if_lt (tgt := 13) hx hb dMo_noHole_2 (by decide) (fun c1 => ?_) (fun c1 => ?_)
  · refine lv_iconst (v := (1)) hx hb dMo_noHole_13 (by decide) ?_
    refine lv_goto (tgt := 18) hx hb dMo_noHole_14 (by decide) ?_
    refine dq_put (D := D) (ci := 8) (v := .int (1)) (ty := .int) (C := RMo) (T := TMo) (N := 29) hx hb hts hinMo tyMo tyMo_ok nmMo hown hK hW hS 100 m100 rfl 0 (by decide) hf79 (fun _ h9 => h9) rfl (by decide +kernel) rfl rfl (Nat.le_of_ble_eq_true rfl) dMo_noHole_18 (fun H locs hW hS => ?_)
    refine lv_aload_n hx hb dMo_noHole_21 rfl (lv_at hl 0 rfl) ?_
    refine dq_get (D := D) (ci := 8) (v := .int (1)) (C := RMo) (T := TMo) (N := 29) hx hb hts hinMo hown hK hW 100 dq_Us rfl 0 (by decide) hf79 (fun _ h9 => h9) rfl dMo_noHole_22 ?_
    refine lv_if_le (tgt := 32) hx hb dMo_noHole_25 (by decide) (fun c3 => ?_) (fun c3 => ?_)
    · exact absurd c3 (by decide)
    · refine lv_iconst (v := (1)) hx hb dMo_noHole_28 (by decide) ?_
      refine lv_goto (tgt := 33) hx hb dMo_noHole_29 (by decide) ?_
      exact hret _ _ _ _ _ _ ⟨rfl, rfl⟩ (by decide) hW hS dMo_noHole_33
  · refine lv_iload_n hx hb dMo_noHole_5 rfl (lv_at hl 1 rfl) ?_
    refine lv_aload_n hx hb dMo_noHole_6 rfl (lv_at hl 0 rfl) ?_
    refine dq_get (D := D) (ci := 8) (v := .int (nI hn)) (C := RMo) (T := TMo) (N := 29) hx hb hts hinMo hown hK hW 100 m100 rfl 5 (by decide) hf90 (fun _ h9 => h9) rfl dMo_noHole_7 ?_
    refine lv_icmp_lt (tgt := 17) hx hb dMo_noHole_10 (by decide) (fun c2 => ?_) (fun c2 => ?_)
    · exact (h0.elim c1 (fun h => absurd c2 h)).elim
    · refine lv_iconst (v := (1)) hx hb dMo_noHole_13 (by decide) ?_
      refine lv_goto (tgt := 18) hx hb dMo_noHole_14 (by decide) ?_
      refine dq_put (D := D) (ci := 8) (v := .int (1)) (ty := .int) (C := RMo) (T := TMo) (N := 29) hx hb hts hinMo tyMo tyMo_ok nmMo hown hK hW hS 100 m100 rfl 0 (by decide) hf79 (fun _ h9 => h9) rfl (by decide +kernel) rfl rfl (Nat.le_of_ble_eq_true rfl) dMo_noHole_18 (fun H locs hW hS => ?_)
      refine lv_aload_n hx hb dMo_noHole_21 rfl (lv_at hl 0 rfl) ?_
      refine dq_get (D := D) (ci := 8) (v := .int (1)) (C := RMo) (T := TMo) (N := 29) hx hb hts hinMo hown hK hW 100 dq_Us rfl 0 (by decide) hf79 (fun _ h9 => h9) rfl dMo_noHole_22 ?_
      refine lv_if_le (tgt := 32) hx hb dMo_noHole_25 (by decide) (fun c3 => ?_) (fun c3 => ?_)
      · exact absurd c3 (by decide)
      · refine lv_iconst (v := (1)) hx hb dMo_noHole_28 (by decide) ?_
        refine lv_goto (tgt := 33) hx hb dMo_noHole_29 (by decide) ?_
        exact hret _ _ _ _ _ _ ⟨rfl, rfl⟩ (by decide) hW hS dMo_noHole_33

set_option maxHeartbeats 4000000 in
set_option maxRecDepth 100000 in
/-- noHole -/
theorem m_noHole_n (l : Launch) (D : va_G) (g : Nat → ClassId) (ad : Nat → Nat) (w : Nat → Option va_E) (sz : Nat) (cd : Int32) (n hn cn : Nat) (pl : Int32) (tn : Nat) (sg : Int32) (wy : Int64) (a0 : Int32) (m100 : w 100 = some (.inr (8, [.int cd, .int (nI n), .ref (ad 102), .ref (ad 103), .ref (ad 104), .int (nI hn), .ref (ad 106), .ref (ad 107), .ref (ad 108), .ref (ad 109), .ref (ad 110), .ref (ad 111), .int (nI cn), .ref (ad 113), .int pl, .int (nI tn), .ref (ad 116), .ref (ad 117), .ref (ad 118), .ref (ad 119), .int sg, .ref (ad 121), .long wy, .ref (ad 123), .ref (ad 124), .ref (ad 125), .ref (ad 126), .ref (ad 127), .ref (ad 128)]))) (h0 : ¬ a0 < 0) (h1 : a0 < nI hn) : Met l yMo_noHole wsMo_noHole ({ frames := 0, cells := 0, slots := 0, locals := 0 } : Room) (va_Pc [.ref (ad 100), .int a0] (dq_S D vwCl (dq_t g) ad w sz)) (va_Qi (fun r u => r = 0 ∧ u = dq_U w 100 (.inr (8, [.int 0, .int (nI n), .ref (ad 102), .ref (ad 103), .ref (ad 104), .int (nI hn), .ref (ad 106), .ref (ad 107), .ref (ad 108), .ref (ad 109), .ref (ad 110), .ref (ad 111), .int (nI cn), .ref (ad 113), .int pl, .int (nI tn), .ref (ad 116), .ref (ad 117), .ref (ad 118), .ref (ad 119), .int sg, .ref (ad 121), .long wy, .ref (ad 123), .ref (ad 124), .ref (ad 125), .ref (ad 126), .ref (ad 127), .ref (ad 128)]))) (dq_B D vwCl (dq_t g) ad (dq_A ad w sz)) (dq_A ad w sz)) 0 0 (dq_A ad w sz) := by
  refine dq_ofz (cc := cMo_noHole) (maxL := 2) (by decide) rfl (Nat.le_of_ble_eq_true rfl) ?_
  intro p e s m below meth c A Q ls ⟨hx, hb, hml, hown, hts⟩ hnm hA hW hK hZ hl hret
  have hS : va_S A s.heap s.heap [] := va_S.rf
  have hl : lv_has ls 2 [(0, .ref (ad 100)), (1, .int a0)] := hl
  have hf79 := hts _ (List.mem_cons_of_mem _ tw3_154)
  have hf90 := hts _ (List.mem_cons_of_mem _ tw3_159)
  have hinMo : ∀ w ∈ u_ws RMo TMo 29, w ∈ wsMo_noHole := fun w h => List.mem_cons_of_mem _ (inMo w h)
  refine lv_aload_n hx hb dMo_noHole_0 rfl (lv_at hl 0 rfl) ?_
  refine lv_iload_n hx hb dMo_noHole_1 rfl (lv_at hl 1 rfl) ?_
  refine lv_if_lt (tgt := 13) hx hb dMo_noHole_2 (by decide) (fun c1 => ?_) (fun c1 => ?_)
  · exact absurd c1 h0
  · refine lv_iload_n hx hb dMo_noHole_5 rfl (lv_at hl 1 rfl) ?_
    refine lv_aload_n hx hb dMo_noHole_6 rfl (lv_at hl 0 rfl) ?_
    refine dq_get (D := D) (ci := 8) (v := .int (nI hn)) (C := RMo) (T := TMo) (N := 29) hx hb hts hinMo hown hK hW 100 m100 rfl 5 (by decide) hf90 (fun _ h9 => h9) rfl dMo_noHole_7 ?_
    refine lv_icmp_lt (tgt := 17) hx hb dMo_noHole_10 (by decide) (fun c2 => ?_) (fun c2 => ?_)
    · refine lv_iconst (v := (0)) hx hb dMo_noHole_17 (by decide) ?_
      refine dq_put (D := D) (ci := 8) (v := .int (0)) (ty := .int) (C := RMo) (T := TMo) (N := 29) hx hb hts hinMo tyMo tyMo_ok nmMo hown hK hW hS 100 m100 rfl 0 (by decide) hf79 (fun _ h9 => h9) rfl (by decide +kernel) rfl rfl (Nat.le_of_ble_eq_true rfl) dMo_noHole_18 (fun H locs hW hS => ?_)
      refine lv_aload_n hx hb dMo_noHole_21 rfl (lv_at hl 0 rfl) ?_
      refine dq_get (D := D) (ci := 8) (v := .int (0)) (C := RMo) (T := TMo) (N := 29) hx hb hts hinMo hown hK hW 100 dq_Us rfl 0 (by decide) hf79 (fun _ h9 => h9) rfl dMo_noHole_22 ?_
      refine lv_if_le (tgt := 32) hx hb dMo_noHole_25 (by decide) (fun c3 => ?_) (fun c3 => ?_)
      · refine lv_iconst (v := (0)) hx hb dMo_noHole_32 (by decide) ?_
        exact hret _ _ _ _ _ _ ⟨rfl, rfl⟩ (by decide) hW hS dMo_noHole_33
      · exact absurd (by decide) c3
    · exact absurd h1 c2

set_option maxHeartbeats 4000000 in
set_option maxRecDepth 100000 in
/-- none -/
theorem m_none_y (l : Launch) (D : va_G) (g : Nat → ClassId) (ad : Nat → Nat) (w : Nat → Option va_E) (sz : Nat) (cd : Int32) (n hn cn : Nat) (pl : Int32) (tn : Nat) (sg : Int32) (wy : Int64) (m100 : w 100 = some (.inr (8, [.int cd, .int (nI n), .ref (ad 102), .ref (ad 103), .ref (ad 104), .int (nI hn), .ref (ad 106), .ref (ad 107), .ref (ad 108), .ref (ad 109), .ref (ad 110), .ref (ad 111), .int (nI cn), .ref (ad 113), .int pl, .int (nI tn), .ref (ad 116), .ref (ad 117), .ref (ad 118), .ref (ad 119), .int sg, .ref (ad 121), .long wy, .ref (ad 123), .ref (ad 124), .ref (ad 125), .ref (ad 126), .ref (ad 127), .ref (ad 128)]))) (h0 : pl = 0) : Met l yMo_none wsMo_none ({ frames := 0, cells := 0, slots := 0, locals := 0 } : Room) (va_Pc [.ref (ad 100)] (dq_S D vwCl (dq_t g) ad w sz)) (va_Qi (fun r u => r = 1 ∧ u = dq_U w 100 (.inr (8, [.int 1, .int (nI n), .ref (ad 102), .ref (ad 103), .ref (ad 104), .int (nI hn), .ref (ad 106), .ref (ad 107), .ref (ad 108), .ref (ad 109), .ref (ad 110), .ref (ad 111), .int (nI cn), .ref (ad 113), .int pl, .int (nI tn), .ref (ad 116), .ref (ad 117), .ref (ad 118), .ref (ad 119), .int sg, .ref (ad 121), .long wy, .ref (ad 123), .ref (ad 124), .ref (ad 125), .ref (ad 126), .ref (ad 127), .ref (ad 128)]))) (dq_B D vwCl (dq_t g) ad (dq_A ad w sz)) (dq_A ad w sz)) 0 0 (dq_A ad w sz) := by
  refine dq_ofz (cc := cMo_none) (maxL := 1) (by decide) rfl (Nat.le_of_ble_eq_true rfl) ?_
  intro p e s m below meth c A Q ls ⟨hx, hb, hml, hown, hts⟩ hnm hA hW hK hZ hl hret
  have hS : va_S A s.heap s.heap [] := va_S.rf
  have hl : lv_has ls 1 [(0, .ref (ad 100))] := hl
  have hf79 := hts _ (List.mem_cons_of_mem _ tw3_154)
  have hf86 := hts _ (List.mem_cons_of_mem _ tw3_168)
  have hinMo : ∀ w ∈ u_ws RMo TMo 29, w ∈ wsMo_none := fun w h => List.mem_cons_of_mem _ (inMo w h)
  refine lv_aload_n hx hb dMo_none_0 rfl (lv_at hl 0 rfl) ?_
  refine lv_aload_n hx hb dMo_none_1 rfl (lv_at hl 0 rfl) ?_
  refine dq_get (D := D) (ci := 8) (v := .int pl) (C := RMo) (T := TMo) (N := 29) hx hb hts hinMo hown hK hW 100 m100 rfl 14 (by decide) hf86 (fun _ h9 => h9) rfl dMo_none_2 ?_
  refine lv_if_eq (tgt := 12) hx hb dMo_none_5 (by decide) (fun c1 => ?_) (fun c1 => ?_)
  · refine lv_iconst (v := (1)) hx hb dMo_none_12 (by decide) ?_
    refine dq_put (D := D) (ci := 8) (v := .int (1)) (ty := .int) (C := RMo) (T := TMo) (N := 29) hx hb hts hinMo tyMo tyMo_ok nmMo hown hK hW hS 100 m100 rfl 0 (by decide) hf79 (fun _ h9 => h9) rfl (by decide +kernel) rfl rfl (Nat.le_of_ble_eq_true rfl) dMo_none_13 (fun H locs hW hS => ?_)
    refine lv_aload_n hx hb dMo_none_16 rfl (lv_at hl 0 rfl) ?_
    refine dq_get (D := D) (ci := 8) (v := .int (1)) (C := RMo) (T := TMo) (N := 29) hx hb hts hinMo hown hK hW 100 dq_Us rfl 0 (by decide) hf79 (fun _ h9 => h9) rfl dMo_none_17 ?_
    refine lv_if_le (tgt := 27) hx hb dMo_none_20 (by decide) (fun c3 => ?_) (fun c3 => ?_)
    · exact absurd c3 (by decide)
    · refine lv_iconst (v := (1)) hx hb dMo_none_23 (by decide) ?_
      refine lv_goto (tgt := 28) hx hb dMo_none_24 (by decide) ?_
      exact hret _ _ _ _ _ _ ⟨rfl, rfl⟩ (by decide) hW hS dMo_none_28
  · exact absurd h0 c1

set_option maxHeartbeats 4000000 in
set_option maxRecDepth 100000 in
/-- none -/
theorem m_none_n (l : Launch) (D : va_G) (g : Nat → ClassId) (ad : Nat → Nat) (w : Nat → Option va_E) (sz : Nat) (cd : Int32) (n hn cn : Nat) (pl : Int32) (tn : Nat) (sg : Int32) (wy : Int64) (m100 : w 100 = some (.inr (8, [.int cd, .int (nI n), .ref (ad 102), .ref (ad 103), .ref (ad 104), .int (nI hn), .ref (ad 106), .ref (ad 107), .ref (ad 108), .ref (ad 109), .ref (ad 110), .ref (ad 111), .int (nI cn), .ref (ad 113), .int pl, .int (nI tn), .ref (ad 116), .ref (ad 117), .ref (ad 118), .ref (ad 119), .int sg, .ref (ad 121), .long wy, .ref (ad 123), .ref (ad 124), .ref (ad 125), .ref (ad 126), .ref (ad 127), .ref (ad 128)]))) (h0 : ¬ pl = 0) : Met l yMo_none wsMo_none ({ frames := 0, cells := 0, slots := 0, locals := 0 } : Room) (va_Pc [.ref (ad 100)] (dq_S D vwCl (dq_t g) ad w sz)) (va_Qi (fun r u => r = 0 ∧ u = dq_U w 100 (.inr (8, [.int 0, .int (nI n), .ref (ad 102), .ref (ad 103), .ref (ad 104), .int (nI hn), .ref (ad 106), .ref (ad 107), .ref (ad 108), .ref (ad 109), .ref (ad 110), .ref (ad 111), .int (nI cn), .ref (ad 113), .int pl, .int (nI tn), .ref (ad 116), .ref (ad 117), .ref (ad 118), .ref (ad 119), .int sg, .ref (ad 121), .long wy, .ref (ad 123), .ref (ad 124), .ref (ad 125), .ref (ad 126), .ref (ad 127), .ref (ad 128)]))) (dq_B D vwCl (dq_t g) ad (dq_A ad w sz)) (dq_A ad w sz)) 0 0 (dq_A ad w sz) := by
  refine dq_ofz (cc := cMo_none) (maxL := 1) (by decide) rfl (Nat.le_of_ble_eq_true rfl) ?_
  intro p e s m below meth c A Q ls ⟨hx, hb, hml, hown, hts⟩ hnm hA hW hK hZ hl hret
  have hS : va_S A s.heap s.heap [] := va_S.rf
  have hl : lv_has ls 1 [(0, .ref (ad 100))] := hl
  have hf79 := hts _ (List.mem_cons_of_mem _ tw3_154)
  have hf86 := hts _ (List.mem_cons_of_mem _ tw3_168)
  have hinMo : ∀ w ∈ u_ws RMo TMo 29, w ∈ wsMo_none := fun w h => List.mem_cons_of_mem _ (inMo w h)
  refine lv_aload_n hx hb dMo_none_0 rfl (lv_at hl 0 rfl) ?_
  refine lv_aload_n hx hb dMo_none_1 rfl (lv_at hl 0 rfl) ?_
  refine dq_get (D := D) (ci := 8) (v := .int pl) (C := RMo) (T := TMo) (N := 29) hx hb hts hinMo hown hK hW 100 m100 rfl 14 (by decide) hf86 (fun _ h9 => h9) rfl dMo_none_2 ?_
  refine lv_if_eq (tgt := 12) hx hb dMo_none_5 (by decide) (fun c1 => ?_) (fun c1 => ?_)
  · exact absurd c1 h0
  · refine lv_iconst (v := (0)) hx hb dMo_none_8 (by decide) ?_
    refine lv_goto (tgt := 13) hx hb dMo_none_9 (by decide) ?_
    refine dq_put (D := D) (ci := 8) (v := .int (0)) (ty := .int) (C := RMo) (T := TMo) (N := 29) hx hb hts hinMo tyMo tyMo_ok nmMo hown hK hW hS 100 m100 rfl 0 (by decide) hf79 (fun _ h9 => h9) rfl (by decide +kernel) rfl rfl (Nat.le_of_ble_eq_true rfl) dMo_none_13 (fun H locs hW hS => ?_)
    refine lv_aload_n hx hb dMo_none_16 rfl (lv_at hl 0 rfl) ?_
    refine dq_get (D := D) (ci := 8) (v := .int (0)) (C := RMo) (T := TMo) (N := 29) hx hb hts hinMo hown hK hW 100 dq_Us rfl 0 (by decide) hf79 (fun _ h9 => h9) rfl dMo_none_17 ?_
    refine lv_if_le (tgt := 27) hx hb dMo_none_20 (by decide) (fun c3 => ?_) (fun c3 => ?_)
    · refine lv_iconst (v := (0)) hx hb dMo_none_27 (by decide) ?_
      exact hret _ _ _ _ _ _ ⟨rfl, rfl⟩ (by decide) hW hS dMo_none_28
    · exact absurd (by decide) c3

set_option maxHeartbeats 4000000 in
set_option maxRecDepth 100000 in
/-- noHoleOf -/
theorem m_noHoleOf_1 (l : Launch) (D : va_G) (g : Nat → ClassId) (ad : Nat → Nat) (w : Nat → Option va_E) (sz : Nat) (cd : Int32) (n hn cn : Nat) (pl : Int32) (tn : Nat) (sg : Int32) (wy : Int64) (a0 : Int32) (m100 : w 100 = some (.inr (8, [.int cd, .int (nI n), .ref (ad 102), .ref (ad 103), .ref (ad 104), .int (nI hn), .ref (ad 106), .ref (ad 107), .ref (ad 108), .ref (ad 109), .ref (ad 110), .ref (ad 111), .int (nI cn), .ref (ad 113), .int pl, .int (nI tn), .ref (ad 116), .ref (ad 117), .ref (ad 118), .ref (ad 119), .int sg, .ref (ad 121), .long wy, .ref (ad 123), .ref (ad 124), .ref (ad 125), .ref (ad 126), .ref (ad 127), .ref (ad 128)]))) (h0 : pl = 0) : Met l yMo_noHoleOf wsMo_noHoleOf ({ frames := 0, cells := 0, slots := 0, locals := 0 } : Room) (va_Pc [.ref (ad 100), .int a0] (dq_S D vwCl (dq_t g) ad w sz)) (va_Qi (fun r u => r = 1 ∧ u = dq_U w 100 (.inr (8, [.int 1, .int (nI n), .ref (ad 102), .ref (ad 103), .ref (ad 104), .int (nI hn), .ref (ad 106), .ref (ad 107), .ref (ad 108), .ref (ad 109), .ref (ad 110), .ref (ad 111), .int (nI cn), .ref (ad 113), .int pl, .int (nI tn), .ref (ad 116), .ref (ad 117), .ref (ad 118), .ref (ad 119), .int sg, .ref (ad 121), .long wy, .ref (ad 123), .ref (ad 124), .ref (ad 125), .ref (ad 126), .ref (ad 127), .ref (ad 128)]))) (dq_B D vwCl (dq_t g) ad (dq_A ad w sz)) (dq_A ad w sz)) 0 0 (dq_A ad w sz) := by
  refine dq_ofz (cc := cMo_noHoleOf) (maxL := 2) (by decide) rfl (Nat.le_of_ble_eq_true rfl) ?_
  intro p e s m below meth c A Q ls ⟨hx, hb, hml, hown, hts⟩ hnm hA hW hK hZ hl hret
  have hS : va_S A s.heap s.heap [] := va_S.rf
  have hl : lv_has ls 2 [(0, .ref (ad 100)), (1, .int a0)] := hl
  have hf79 := hts _ (List.mem_cons_of_mem _ tw3_154)
  have hf86 := hts _ (List.mem_cons_of_mem _ tw3_168)
  have hf90 := hts _ (List.mem_cons_of_mem _ tw3_159)
  have hinMo : ∀ w ∈ u_ws RMo TMo 29, w ∈ wsMo_noHoleOf := fun w h => List.mem_cons_of_mem _ (inMo w h)
  refine lv_aload_n hx hb dMo_noHoleOf_0 rfl (lv_at hl 0 rfl) ?_
  refine lv_aload_n hx hb dMo_noHoleOf_1 rfl (lv_at hl 0 rfl) ?_
  refine dq_get (D := D) (ci := 8) (v := .int pl) (C := RMo) (T := TMo) (N := 29) hx hb hts hinMo hown hK hW 100 m100 rfl 14 (by decide) hf86 (fun _ h9 => h9) rfl dMo_noHoleOf_2 ?_
  refine lv_if_ne (tgt := 12) hx hb dMo_noHoleOf_5 (by decide) (fun c1 => ?_) (fun c1 => ?_)
  · exact absurd h0 c1
  · refine lv_iconst (v := (1)) hx hb dMo_noHoleOf_8 (by decide) ?_
    refine lv_goto (tgt := 29) hx hb dMo_noHoleOf_9 (by decide) ?_
    refine dq_put (D := D) (ci := 8) (v := .int (1)) (ty := .int) (C := RMo) (T := TMo) (N := 29) hx hb hts hinMo tyMo tyMo_ok nmMo hown hK hW hS 100 m100 rfl 0 (by decide) hf79 (fun _ h9 => h9) rfl (by decide +kernel) rfl rfl (Nat.le_of_ble_eq_true rfl) dMo_noHoleOf_29 (fun H locs hW hS => ?_)
    refine lv_aload_n hx hb dMo_noHoleOf_32 rfl (lv_at hl 0 rfl) ?_
    refine dq_get (D := D) (ci := 8) (v := .int (1)) (C := RMo) (T := TMo) (N := 29) hx hb hts hinMo hown hK hW 100 dq_Us rfl 0 (by decide) hf79 (fun _ h9 => h9) rfl dMo_noHoleOf_33 ?_
    refine lv_if_le (tgt := 43) hx hb dMo_noHoleOf_36 (by decide) (fun c3 => ?_) (fun c3 => ?_)
    · exact absurd c3 (by decide)
    · refine lv_iconst (v := (1)) hx hb dMo_noHoleOf_39 (by decide) ?_
      refine lv_goto (tgt := 44) hx hb dMo_noHoleOf_40 (by decide) ?_
      exact hret _ _ _ _ _ _ ⟨rfl, rfl⟩ (by decide) hW hS dMo_noHoleOf_44

set_option maxHeartbeats 4000000 in
set_option maxRecDepth 100000 in
/-- noHoleOf -/
theorem m_noHoleOf_2 (l : Launch) (D : va_G) (g : Nat → ClassId) (ad : Nat → Nat) (w : Nat → Option va_E) (sz : Nat) (cd : Int32) (n hn cn : Nat) (pl : Int32) (tn : Nat) (sg : Int32) (wy : Int64) (a0 : Int32) (m100 : w 100 = some (.inr (8, [.int cd, .int (nI n), .ref (ad 102), .ref (ad 103), .ref (ad 104), .int (nI hn), .ref (ad 106), .ref (ad 107), .ref (ad 108), .ref (ad 109), .ref (ad 110), .ref (ad 111), .int (nI cn), .ref (ad 113), .int pl, .int (nI tn), .ref (ad 116), .ref (ad 117), .ref (ad 118), .ref (ad 119), .int sg, .ref (ad 121), .long wy, .ref (ad 123), .ref (ad 124), .ref (ad 125), .ref (ad 126), .ref (ad 127), .ref (ad 128)]))) (hpl : ¬ pl = 0) (h0 : a0 < 0 ∨ ¬ a0 < nI hn) : Met l yMo_noHoleOf wsMo_noHoleOf ({ frames := 0, cells := 0, slots := 0, locals := 0 } : Room) (va_Pc [.ref (ad 100), .int a0] (dq_S D vwCl (dq_t g) ad w sz)) (va_Qi (fun r u => r = 1 ∧ u = dq_U w 100 (.inr (8, [.int 2, .int (nI n), .ref (ad 102), .ref (ad 103), .ref (ad 104), .int (nI hn), .ref (ad 106), .ref (ad 107), .ref (ad 108), .ref (ad 109), .ref (ad 110), .ref (ad 111), .int (nI cn), .ref (ad 113), .int pl, .int (nI tn), .ref (ad 116), .ref (ad 117), .ref (ad 118), .ref (ad 119), .int sg, .ref (ad 121), .long wy, .ref (ad 123), .ref (ad 124), .ref (ad 125), .ref (ad 126), .ref (ad 127), .ref (ad 128)]))) (dq_B D vwCl (dq_t g) ad (dq_A ad w sz)) (dq_A ad w sz)) 0 0 (dq_A ad w sz) := by
  refine dq_ofz (cc := cMo_noHoleOf) (maxL := 2) (by decide) rfl (Nat.le_of_ble_eq_true rfl) ?_
  intro p e s m below meth c A Q ls ⟨hx, hb, hml, hown, hts⟩ hnm hA hW hK hZ hl hret
  have hS : va_S A s.heap s.heap [] := va_S.rf
  have hl : lv_has ls 2 [(0, .ref (ad 100)), (1, .int a0)] := hl
  have hf79 := hts _ (List.mem_cons_of_mem _ tw3_154)
  have hf86 := hts _ (List.mem_cons_of_mem _ tw3_168)
  have hf90 := hts _ (List.mem_cons_of_mem _ tw3_159)
  have hinMo : ∀ w ∈ u_ws RMo TMo 29, w ∈ wsMo_noHoleOf := fun w h => List.mem_cons_of_mem _ (inMo w h)
  refine lv_aload_n hx hb dMo_noHoleOf_0 rfl (lv_at hl 0 rfl) ?_
  refine lv_aload_n hx hb dMo_noHoleOf_1 rfl (lv_at hl 0 rfl) ?_
  refine dq_get (D := D) (ci := 8) (v := .int pl) (C := RMo) (T := TMo) (N := 29) hx hb hts hinMo hown hK hW 100 m100 rfl 14 (by decide) hf86 (fun _ h9 => h9) rfl dMo_noHoleOf_2 ?_
  refine lv_if_ne (tgt := 12) hx hb dMo_noHoleOf_5 (by decide) (fun c1 => ?_) (fun c1 => ?_)
  · refine lv_iload_n hx hb dMo_noHoleOf_12 rfl (lv_at hl 1 rfl) ?_
    refine lv_if_lt (tgt := 24) hx hb dMo_noHoleOf_13 (by decide) (fun c2 => ?_) (fun c2 => ?_)
    · refine lv_iconst (v := (2)) hx hb dMo_noHoleOf_24 (by decide) ?_
      refine lv_goto (tgt := 29) hx hb dMo_noHoleOf_25 (by decide) ?_
      refine dq_put (D := D) (ci := 8) (v := .int (2)) (ty := .int) (C := RMo) (T := TMo) (N := 29) hx hb hts hinMo tyMo tyMo_ok nmMo hown hK hW hS 100 m100 rfl 0 (by decide) hf79 (fun _ h9 => h9) rfl (by decide +kernel) rfl rfl (Nat.le_of_ble_eq_true rfl) dMo_noHoleOf_29 (fun H locs hW hS => ?_)
      refine lv_aload_n hx hb dMo_noHoleOf_32 rfl (lv_at hl 0 rfl) ?_
      refine dq_get (D := D) (ci := 8) (v := .int (2)) (C := RMo) (T := TMo) (N := 29) hx hb hts hinMo hown hK hW 100 dq_Us rfl 0 (by decide) hf79 (fun _ h9 => h9) rfl dMo_noHoleOf_33 ?_
      refine lv_if_le (tgt := 43) hx hb dMo_noHoleOf_36 (by decide) (fun c3 => ?_) (fun c3 => ?_)
      · exact absurd c3 (by decide)
      · refine lv_iconst (v := (1)) hx hb dMo_noHoleOf_39 (by decide) ?_
        refine lv_goto (tgt := 44) hx hb dMo_noHoleOf_40 (by decide) ?_
        exact hret _ _ _ _ _ _ ⟨rfl, rfl⟩ (by decide) hW hS dMo_noHoleOf_44
    · refine lv_iload_n hx hb dMo_noHoleOf_16 rfl (lv_at hl 1 rfl) ?_
      refine lv_aload_n hx hb dMo_noHoleOf_17 rfl (lv_at hl 0 rfl) ?_
      refine dq_get (D := D) (ci := 8) (v := .int (nI hn)) (C := RMo) (T := TMo) (N := 29) hx hb hts hinMo hown hK hW 100 m100 rfl 5 (by decide) hf90 (fun _ h9 => h9) rfl dMo_noHoleOf_18 ?_
      refine lv_icmp_lt (tgt := 28) hx hb dMo_noHoleOf_21 (by decide) (fun c4 => ?_) (fun c4 => ?_)
      · exact (h0.elim c2 (fun h => absurd c4 h)).elim
      · refine lv_iconst (v := (2)) hx hb dMo_noHoleOf_24 (by decide) ?_
        refine lv_goto (tgt := 29) hx hb dMo_noHoleOf_25 (by decide) ?_
        refine dq_put (D := D) (ci := 8) (v := .int (2)) (ty := .int) (C := RMo) (T := TMo) (N := 29) hx hb hts hinMo tyMo tyMo_ok nmMo hown hK hW hS 100 m100 rfl 0 (by decide) hf79 (fun _ h9 => h9) rfl (by decide +kernel) rfl rfl (Nat.le_of_ble_eq_true rfl) dMo_noHoleOf_29 (fun H locs hW hS => ?_)
        refine lv_aload_n hx hb dMo_noHoleOf_32 rfl (lv_at hl 0 rfl) ?_
        refine dq_get (D := D) (ci := 8) (v := .int (2)) (C := RMo) (T := TMo) (N := 29) hx hb hts hinMo hown hK hW 100 dq_Us rfl 0 (by decide) hf79 (fun _ h9 => h9) rfl dMo_noHoleOf_33 ?_
        refine lv_if_le (tgt := 43) hx hb dMo_noHoleOf_36 (by decide) (fun c3 => ?_) (fun c3 => ?_)
        · exact absurd c3 (by decide)
        · refine lv_iconst (v := (1)) hx hb dMo_noHoleOf_39 (by decide) ?_
          refine lv_goto (tgt := 44) hx hb dMo_noHoleOf_40 (by decide) ?_
          exact hret _ _ _ _ _ _ ⟨rfl, rfl⟩ (by decide) hW hS dMo_noHoleOf_44
  · exact absurd c1 hpl

set_option maxHeartbeats 4000000 in
set_option maxRecDepth 100000 in
/-- noHoleOf -/
theorem m_noHoleOf_n (l : Launch) (D : va_G) (g : Nat → ClassId) (ad : Nat → Nat) (w : Nat → Option va_E) (sz : Nat) (cd : Int32) (n hn cn : Nat) (pl : Int32) (tn : Nat) (sg : Int32) (wy : Int64) (a0 : Int32) (m100 : w 100 = some (.inr (8, [.int cd, .int (nI n), .ref (ad 102), .ref (ad 103), .ref (ad 104), .int (nI hn), .ref (ad 106), .ref (ad 107), .ref (ad 108), .ref (ad 109), .ref (ad 110), .ref (ad 111), .int (nI cn), .ref (ad 113), .int pl, .int (nI tn), .ref (ad 116), .ref (ad 117), .ref (ad 118), .ref (ad 119), .int sg, .ref (ad 121), .long wy, .ref (ad 123), .ref (ad 124), .ref (ad 125), .ref (ad 126), .ref (ad 127), .ref (ad 128)]))) (hpl : ¬ pl = 0) (h0 : ¬ a0 < 0) (h1 : a0 < nI hn) : Met l yMo_noHoleOf wsMo_noHoleOf ({ frames := 0, cells := 0, slots := 0, locals := 0 } : Room) (va_Pc [.ref (ad 100), .int a0] (dq_S D vwCl (dq_t g) ad w sz)) (va_Qi (fun r u => r = 0 ∧ u = dq_U w 100 (.inr (8, [.int 0, .int (nI n), .ref (ad 102), .ref (ad 103), .ref (ad 104), .int (nI hn), .ref (ad 106), .ref (ad 107), .ref (ad 108), .ref (ad 109), .ref (ad 110), .ref (ad 111), .int (nI cn), .ref (ad 113), .int pl, .int (nI tn), .ref (ad 116), .ref (ad 117), .ref (ad 118), .ref (ad 119), .int sg, .ref (ad 121), .long wy, .ref (ad 123), .ref (ad 124), .ref (ad 125), .ref (ad 126), .ref (ad 127), .ref (ad 128)]))) (dq_B D vwCl (dq_t g) ad (dq_A ad w sz)) (dq_A ad w sz)) 0 0 (dq_A ad w sz) := by
  refine dq_ofz (cc := cMo_noHoleOf) (maxL := 2) (by decide) rfl (Nat.le_of_ble_eq_true rfl) ?_
  intro p e s m below meth c A Q ls ⟨hx, hb, hml, hown, hts⟩ hnm hA hW hK hZ hl hret
  have hS : va_S A s.heap s.heap [] := va_S.rf
  have hl : lv_has ls 2 [(0, .ref (ad 100)), (1, .int a0)] := hl
  have hf79 := hts _ (List.mem_cons_of_mem _ tw3_154)
  have hf86 := hts _ (List.mem_cons_of_mem _ tw3_168)
  have hf90 := hts _ (List.mem_cons_of_mem _ tw3_159)
  have hinMo : ∀ w ∈ u_ws RMo TMo 29, w ∈ wsMo_noHoleOf := fun w h => List.mem_cons_of_mem _ (inMo w h)
  refine lv_aload_n hx hb dMo_noHoleOf_0 rfl (lv_at hl 0 rfl) ?_
  refine lv_aload_n hx hb dMo_noHoleOf_1 rfl (lv_at hl 0 rfl) ?_
  refine dq_get (D := D) (ci := 8) (v := .int pl) (C := RMo) (T := TMo) (N := 29) hx hb hts hinMo hown hK hW 100 m100 rfl 14 (by decide) hf86 (fun _ h9 => h9) rfl dMo_noHoleOf_2 ?_
  refine lv_if_ne (tgt := 12) hx hb dMo_noHoleOf_5 (by decide) (fun c1 => ?_) (fun c1 => ?_)
  · refine lv_iload_n hx hb dMo_noHoleOf_12 rfl (lv_at hl 1 rfl) ?_
    refine lv_if_lt (tgt := 24) hx hb dMo_noHoleOf_13 (by decide) (fun c2 => ?_) (fun c2 => ?_)
    · exact absurd c2 h0
    · refine lv_iload_n hx hb dMo_noHoleOf_16 rfl (lv_at hl 1 rfl) ?_
      refine lv_aload_n hx hb dMo_noHoleOf_17 rfl (lv_at hl 0 rfl) ?_
      refine dq_get (D := D) (ci := 8) (v := .int (nI hn)) (C := RMo) (T := TMo) (N := 29) hx hb hts hinMo hown hK hW 100 m100 rfl 5 (by decide) hf90 (fun _ h9 => h9) rfl dMo_noHoleOf_18 ?_
      refine lv_icmp_lt (tgt := 28) hx hb dMo_noHoleOf_21 (by decide) (fun c4 => ?_) (fun c4 => ?_)
      · refine lv_iconst (v := (0)) hx hb dMo_noHoleOf_28 (by decide) ?_
        refine dq_put (D := D) (ci := 8) (v := .int (0)) (ty := .int) (C := RMo) (T := TMo) (N := 29) hx hb hts hinMo tyMo tyMo_ok nmMo hown hK hW hS 100 m100 rfl 0 (by decide) hf79 (fun _ h9 => h9) rfl (by decide +kernel) rfl rfl (Nat.le_of_ble_eq_true rfl) dMo_noHoleOf_29 (fun H locs hW hS => ?_)
        refine lv_aload_n hx hb dMo_noHoleOf_32 rfl (lv_at hl 0 rfl) ?_
        refine dq_get (D := D) (ci := 8) (v := .int (0)) (C := RMo) (T := TMo) (N := 29) hx hb hts hinMo hown hK hW 100 dq_Us rfl 0 (by decide) hf79 (fun _ h9 => h9) rfl dMo_noHoleOf_33 ?_
        refine lv_if_le (tgt := 43) hx hb dMo_noHoleOf_36 (by decide) (fun c3 => ?_) (fun c3 => ?_)
        · refine lv_iconst (v := (0)) hx hb dMo_noHoleOf_43 (by decide) ?_
          exact hret _ _ _ _ _ _ ⟨rfl, rfl⟩ (by decide) hW hS dMo_noHoleOf_44
        · exact absurd (by decide) c3
      · exact absurd h1 c4
  · exact absurd c1 hpl
set_option maxHeartbeats 4000000 in
set_option maxRecDepth 100000 in
/-- spindle, no such spindle -/
theorem m_spindle1 (l : Launch) (D : va_G) (g : Nat → ClassId) (ad : Nat → Nat) (w : Nat → Option va_E) (sz : Nat) (cd : Int32) (n hn cn : Nat) (pl : Int32) (tn : Nat) (sg : Int32) (wy : Int64) (sx sy sw : Nat → Int32) (a0 a1 a2 a3 : Int32) (m100 : w 100 = some (.inr (8, [.int cd, .int (nI n), .ref (ad 102), .ref (ad 103), .ref (ad 104), .int (nI hn), .ref (ad 106), .ref (ad 107), .ref (ad 108), .ref (ad 109), .ref (ad 110), .ref (ad 111), .int (nI cn), .ref (ad 113), .int pl, .int (nI tn), .ref (ad 116), .ref (ad 117), .ref (ad 118), .ref (ad 119), .int sg, .ref (ad 121), .long wy, .ref (ad 123), .ref (ad 124), .ref (ad 125), .ref (ad 126), .ref (ad 127), .ref (ad 128)]))) (m102 : w 102 = some (.inl (g 0, 16, .inl sx))) (m103 : w 103 = some (.inl (g 0, 16, .inl sy))) (m104 : w 104 = some (.inl (g 0, 16, .inl sw))) (h0 : a0 < 0 ∨ ¬ a0 < nI n) : Met l yMo_spindle wsMo_spindle ({ frames := 1, cells := 0, slots := 0, locals := 24 } : Room) (va_Pc [.ref (ad 100), .int a0, .int a1, .int a2, .int a3] (dq_S D vwCl (dq_t g) ad w sz)) (va_Qi (fun r u => r = 0 ∧ u = dq_U w 100 (.inr (8, [.int 1, .int (nI n), .ref (ad 102), .ref (ad 103), .ref (ad 104), .int (nI hn), .ref (ad 106), .ref (ad 107), .ref (ad 108), .ref (ad 109), .ref (ad 110), .ref (ad 111), .int (nI cn), .ref (ad 113), .int pl, .int (nI tn), .ref (ad 116), .ref (ad 117), .ref (ad 118), .ref (ad 119), .int sg, .ref (ad 121), .long wy, .ref (ad 123), .ref (ad 124), .ref (ad 125), .ref (ad 126), .ref (ad 127), .ref (ad 128)]))) (dq_B D vwCl (dq_t g) ad (dq_A ad w sz)) (dq_A ad w sz)) 0 0 (dq_A ad w sz) := by
  refine dq_ofz (cc := cMo_spindle) (maxL := 6) (by decide) rfl (Nat.le_of_ble_eq_true rfl) ?_
  intro p e s m below meth c A Q ls ⟨hx, hb, hml, hown, hts⟩ hnm hA hW hK hZ hl hret
  have hS : va_S A s.heap s.heap [] := va_S.rf
  have hl : lv_has ls 6 [(0, .ref (ad 100)), (1, .int a0), (2, .int a1), (3, .int a2), (4, .int a3)] := hl
  have hf7 := hts _ (List.mem_cons_of_mem _ tw3_156)
  have hf13 := hts _ (List.mem_cons_of_mem _ tw3_157)
  have hf16 := hts _ (List.mem_cons_of_mem _ tw3_158)
  have hf75 := hts _ (List.mem_cons_of_mem _ tw3_155)
  have hf79 := hts _ (List.mem_cons_of_mem _ tw3_154)
  have hf86 := hts _ (List.mem_cons_of_mem _ tw3_168)
  have hinMo : ∀ w ∈ u_ws RMo TMo 29, w ∈ wsMo_spindle := fun w h => List.mem_cons_of_mem _ (inMo w h)
  have J : ∀ (v : Int32) (H : Heap) (locs : List Loc) (ls : Array Slot), v = dq_b ((mr_in a1 (-10000) 10000 && mr_in a2 (-10000) 10000) && mr_in a3 0 100) → dq_W D vwCl ad (w) A H → va_S A s.heap H locs → lv_has ls 6 [(0, .ref (ad 100)), (1, .int a0), (2, .int a1), (3, .int a2), (4, .int a3)] → W p l e ({ frames := 1, cells := 0, slots := 0, locals := 24 } : Room) s m ([.ref (ad 100), .int a0, .int a1, .int a2, .int a3] : List Value).toArray below meth c H locs 0 0 Q (F0 m 42 ls [.int v]) := by
    intro v H locs ls hv hW hS hl
    refine lv_istore (lv' := [(5, .int v), (0, .ref (ad 100)), (1, .int a0), (2, .int a1), (3, .int a2), (4, .int a3)]) hx hb dMo_spindle_42 hl (by decide) rfl (fun ls hl => ?_)
    refine lv_aload_n hx hb dMo_spindle_44 rfl (lv_at hl 1 rfl) ?_
    refine lv_iload_n hx hb dMo_spindle_45 rfl (lv_at hl 2 rfl) ?_
    refine lv_if_lt (tgt := 57) hx hb dMo_spindle_46 (by decide) (fun c1 => ?_) (fun c1 => ?_)
    · refine lv_iconst (v := (1)) hx hb dMo_spindle_57 (by decide) ?_
      refine lv_goto (tgt := 71) hx hb dMo_spindle_58 (by decide) ?_
      refine dq_put (D := D) (ci := 8) (v := .int (1)) (ty := .int) (C := RMo) (T := TMo) (N := 29) hx hb hts hinMo tyMo tyMo_ok nmMo hown hK hW hS 100 m100 rfl 0 (by decide) hf79 (fun _ h9 => h9) rfl (by decide +kernel) rfl rfl (Nat.le_of_ble_eq_true rfl) dMo_spindle_71 (fun H locs hW hS => ?_)
      refine lv_aload_n hx hb dMo_spindle_74 rfl (lv_at hl 1 rfl) ?_
      refine dq_get (D := D) (ci := 8) (v := .int (1)) (C := RMo) (T := TMo) (N := 29) hx hb hts hinMo hown hK hW 100 dq_Us rfl 0 (by decide) hf79 (fun _ h9 => h9) rfl dMo_spindle_75 ?_
      refine lv_if_gt (tgt := 112) hx hb dMo_spindle_78 (by decide) (fun c3 => ?_) (fun c3 => ?_)
      · refine lv_iconst (v := (0)) hx hb dMo_spindle_112 (by decide) ?_
        exact hret _ _ _ _ _ _ ⟨rfl, rfl⟩ (by decide) hW hS dMo_spindle_113
      · exact absurd (by decide) c3
    · refine lv_iload_n hx hb dMo_spindle_49 rfl (lv_at hl 2 rfl) ?_
      refine lv_aload_n hx hb dMo_spindle_50 rfl (lv_at hl 1 rfl) ?_
      refine dq_get (D := D) (ci := 8) (v := .int (nI n)) (C := RMo) (T := TMo) (N := 29) hx hb hts hinMo hown hK hW 100 m100 rfl 1 (by decide) hf75 (fun _ h9 => h9) rfl dMo_spindle_51 ?_
      refine lv_icmp_lt (tgt := 61) hx hb dMo_spindle_54 (by decide) (fun c2 => ?_) (fun c2 => ?_)
      · exact (h0.elim c1 (fun h => absurd c2 h)).elim
      · refine lv_iconst (v := (1)) hx hb dMo_spindle_57 (by decide) ?_
        refine lv_goto (tgt := 71) hx hb dMo_spindle_58 (by decide) ?_
        refine dq_put (D := D) (ci := 8) (v := .int (1)) (ty := .int) (C := RMo) (T := TMo) (N := 29) hx hb hts hinMo tyMo tyMo_ok nmMo hown hK hW hS 100 m100 rfl 0 (by decide) hf79 (fun _ h9 => h9) rfl (by decide +kernel) rfl rfl (Nat.le_of_ble_eq_true rfl) dMo_spindle_71 (fun H locs hW hS => ?_)
        refine lv_aload_n hx hb dMo_spindle_74 rfl (lv_at hl 1 rfl) ?_
        refine dq_get (D := D) (ci := 8) (v := .int (1)) (C := RMo) (T := TMo) (N := 29) hx hb hts hinMo hown hK hW 100 dq_Us rfl 0 (by decide) hf79 (fun _ h9 => h9) rfl dMo_spindle_75 ?_
        refine lv_if_gt (tgt := 112) hx hb dMo_spindle_78 (by decide) (fun c3 => ?_) (fun c3 => ?_)
        · refine lv_iconst (v := (0)) hx hb dMo_spindle_112 (by decide) ?_
          exact hret _ _ _ _ _ _ ⟨rfl, rfl⟩ (by decide) hW hS dMo_spindle_113
        · exact absurd (by decide) c3
  refine lv_iload_n hx hb dMo_spindle_0 rfl (lv_at hl 2 rfl) ?_
  refine lv_sipush (v := (-10000)) hx hb dMo_spindle_1 (by decide) ?_
  refine lv_sipush (v := (10000)) hx hb dMo_spindle_4 (by decide) ?_
  refine dq_calli (va_runS (As := [.int a1, .int (-10000), .int (10000)]) (rest := []) ⟨hx, hb, hml, hown, hts⟩ (m_isIn l D g ad (w) _ a1 (-10000) 10000  ) (cwS 3 hts (dq_giS2 tw4_11 tw4_12 tw1_10 tw4_13) rfl rfl rfl (by decide +kernel) ⟨Nat.le_of_ble_eq_true rfl, Nat.le_of_ble_eq_true rfl⟩) (dq_preS hW hS hA hK hZ) rfl rfl hl.1 rfl (lv_room (Nat.le_of_ble_eq_true rfl)) dMo_spindle_7 ⟨Nat.zero_le _, Nat.zero_le _⟩) hW hS hA (fun r1 u_9 H locs hp1 hW hS hz9 => ?_)
  obtain ⟨hr1, hu9⟩ := hp1
  rw [hu9] at hW
  subst hr1
  refine lv_if_eq (tgt := 41) hx hb dMo_spindle_10 (by decide) (fun c9 => ?_) (fun c9 => ?_)
  · have q0 := dq_b_f c9
    refine lv_iconst (v := (0)) hx hb dMo_spindle_41 (by decide) ?_
    exact J 0 _ _ _ (by rw [q0]; rfl) hW hS (lv_sub hl [0, 1, 2, 3, 4] rfl)
  · have q0 := dq_b_t c9
    refine lv_iload_n hx hb dMo_spindle_13 rfl (lv_at hl 3 rfl) ?_
    refine lv_sipush (v := (-10000)) hx hb dMo_spindle_14 (by decide) ?_
    refine lv_sipush (v := (10000)) hx hb dMo_spindle_17 (by decide) ?_
    refine dq_calli (va_runS (As := [.int a2, .int (-10000), .int (10000)]) (rest := []) ⟨hx, hb, hml, hown, hts⟩ (m_isIn l D g ad (w) _ a2 (-10000) 10000  ) (cwS 3 hts (dq_giS2 tw4_11 tw4_12 tw1_10 tw4_13) rfl rfl rfl (by decide +kernel) ⟨Nat.le_of_ble_eq_true rfl, Nat.le_of_ble_eq_true rfl⟩) (dq_preS hW hS hA hK hZ) rfl rfl hl.1 rfl (lv_room (Nat.le_of_ble_eq_true rfl)) dMo_spindle_20 ⟨Nat.zero_le _, Nat.zero_le _⟩) hW hS hA (fun r1 u_9 H locs hp1 hW hS hz9 => ?_)
    obtain ⟨hr1, hu9⟩ := hp1
    rw [hu9] at hW
    subst hr1
    refine lv_if_eq (tgt := 41) hx hb dMo_spindle_23 (by decide) (fun c9 => ?_) (fun c9 => ?_)
    · have q1 := dq_b_f c9
      refine lv_iconst (v := (0)) hx hb dMo_spindle_41 (by decide) ?_
      exact J 0 _ _ _ (by rw [q0, q1]; rfl) hW hS (lv_sub hl [0, 1, 2, 3, 4] rfl)
    · have q1 := dq_b_t c9
      refine lv_iload hx hb dMo_spindle_26 (lv_at hl 4 rfl) ?_
      refine lv_iconst (v := (0)) hx hb dMo_spindle_28 (by decide) ?_
      refine lv_bipush (v := (100)) hx hb dMo_spindle_29 (by decide) ?_
      refine dq_calli (va_runS (As := [.int a3, .int (0), .int (100)]) (rest := []) ⟨hx, hb, hml, hown, hts⟩ (m_isIn l D g ad (w) _ a3 0 100  ) (cwS 3 hts (dq_giS2 tw4_11 tw4_12 tw1_10 tw4_13) rfl rfl rfl (by decide +kernel) ⟨Nat.le_of_ble_eq_true rfl, Nat.le_of_ble_eq_true rfl⟩) (dq_preS hW hS hA hK hZ) rfl rfl hl.1 rfl (lv_room (Nat.le_of_ble_eq_true rfl)) dMo_spindle_31 ⟨Nat.zero_le _, Nat.zero_le _⟩) hW hS hA (fun r1 u_9 H locs hp1 hW hS hz9 => ?_)
      obtain ⟨hr1, hu9⟩ := hp1
      rw [hu9] at hW
      subst hr1
      refine lv_if_eq (tgt := 41) hx hb dMo_spindle_34 (by decide) (fun c9 => ?_) (fun c9 => ?_)
      · have q2 := dq_b_f c9
        refine lv_iconst (v := (0)) hx hb dMo_spindle_41 (by decide) ?_
        exact J 0 _ _ _ (by rw [q0, q1, q2]; rfl) hW hS (lv_sub hl [0, 1, 2, 3, 4] rfl)
      · have q2 := dq_b_t c9
        refine lv_iconst (v := (1)) hx hb dMo_spindle_37 (by decide) ?_
        refine lv_goto (tgt := 42) hx hb dMo_spindle_38 (by decide) ?_
        exact J 1 _ _ _ (by rw [q0, q1, q2]; rfl) hW hS (lv_sub hl [0, 1, 2, 3, 4] rfl)

set_option maxHeartbeats 4000000 in
set_option maxRecDepth 100000 in
/-- spindle, out of range -/
theorem m_spindle2 (l : Launch) (D : va_G) (g : Nat → ClassId) (ad : Nat → Nat) (w : Nat → Option va_E) (sz : Nat) (cd : Int32) (n hn cn : Nat) (pl : Int32) (tn : Nat) (sg : Int32) (wy : Int64) (sx sy sw : Nat → Int32) (k : Nat) (a1 a2 a3 : Int32) (m100 : w 100 = some (.inr (8, [.int cd, .int (nI n), .ref (ad 102), .ref (ad 103), .ref (ad 104), .int (nI hn), .ref (ad 106), .ref (ad 107), .ref (ad 108), .ref (ad 109), .ref (ad 110), .ref (ad 111), .int (nI cn), .ref (ad 113), .int pl, .int (nI tn), .ref (ad 116), .ref (ad 117), .ref (ad 118), .ref (ad 119), .int sg, .ref (ad 121), .long wy, .ref (ad 123), .ref (ad 124), .ref (ad 125), .ref (ad 126), .ref (ad 127), .ref (ad 128)]))) (m102 : w 102 = some (.inl (g 0, 16, .inl sx))) (m103 : w 103 = some (.inl (g 0, 16, .inl sy))) (m104 : w 104 = some (.inl (g 0, 16, .inl sw))) (hk : k < n) (hn16 : n ≤ 16) (h0 : ((mr_in a1 (-10000) 10000 && mr_in a2 (-10000) 10000) && mr_in a3 0 100) = false) : Met l yMo_spindle wsMo_spindle ({ frames := 1, cells := 0, slots := 0, locals := 24 } : Room) (va_Pc [.ref (ad 100), .int (nI k), .int a1, .int a2, .int a3] (dq_S D vwCl (dq_t g) ad w sz)) (va_Qi (fun r u => r = 0 ∧ u = dq_U w 100 (.inr (8, [.int 2, .int (nI n), .ref (ad 102), .ref (ad 103), .ref (ad 104), .int (nI hn), .ref (ad 106), .ref (ad 107), .ref (ad 108), .ref (ad 109), .ref (ad 110), .ref (ad 111), .int (nI cn), .ref (ad 113), .int pl, .int (nI tn), .ref (ad 116), .ref (ad 117), .ref (ad 118), .ref (ad 119), .int sg, .ref (ad 121), .long wy, .ref (ad 123), .ref (ad 124), .ref (ad 125), .ref (ad 126), .ref (ad 127), .ref (ad 128)]))) (dq_B D vwCl (dq_t g) ad (dq_A ad w sz)) (dq_A ad w sz)) 0 0 (dq_A ad w sz) := by
  refine dq_ofz (cc := cMo_spindle) (maxL := 6) (by decide) rfl (Nat.le_of_ble_eq_true rfl) ?_
  intro p e s m below meth c A Q ls ⟨hx, hb, hml, hown, hts⟩ hnm hA hW hK hZ hl hret
  have hS : va_S A s.heap s.heap [] := va_S.rf
  have hl : lv_has ls 6 [(0, .ref (ad 100)), (1, .int (nI k)), (2, .int a1), (3, .int a2), (4, .int a3)] := hl
  have hf7 := hts _ (List.mem_cons_of_mem _ tw3_156)
  have hf13 := hts _ (List.mem_cons_of_mem _ tw3_157)
  have hf16 := hts _ (List.mem_cons_of_mem _ tw3_158)
  have hf75 := hts _ (List.mem_cons_of_mem _ tw3_155)
  have hf79 := hts _ (List.mem_cons_of_mem _ tw3_154)
  have hf86 := hts _ (List.mem_cons_of_mem _ tw3_168)
  have hinMo : ∀ w ∈ u_ws RMo TMo 29, w ∈ wsMo_spindle := fun w h => List.mem_cons_of_mem _ (inMo w h)
  have J : ∀ (v : Int32) (H : Heap) (locs : List Loc) (ls : Array Slot), v = dq_b ((mr_in a1 (-10000) 10000 && mr_in a2 (-10000) 10000) && mr_in a3 0 100) → dq_W D vwCl ad (w) A H → va_S A s.heap H locs → lv_has ls 6 [(0, .ref (ad 100)), (1, .int (nI k)), (2, .int a1), (3, .int a2), (4, .int a3)] → W p l e ({ frames := 1, cells := 0, slots := 0, locals := 24 } : Room) s m ([.ref (ad 100), .int (nI k), .int a1, .int a2, .int a3] : List Value).toArray below meth c H locs 0 0 Q (F0 m 42 ls [.int v]) := by
    intro v H locs ls hv hW hS hl
    rw [h0] at hv
    subst hv
    refine lv_istore (lv' := [(5, .int (dq_b false)), (0, .ref (ad 100)), (1, .int (nI k)), (2, .int a1), (3, .int a2), (4, .int a3)]) hx hb dMo_spindle_42 hl (by decide) rfl (fun ls hl => ?_)
    refine lv_aload_n hx hb dMo_spindle_44 rfl (lv_at hl 1 rfl) ?_
    refine lv_iload_n hx hb dMo_spindle_45 rfl (lv_at hl 2 rfl) ?_
    refine lv_if_lt (tgt := 57) hx hb dMo_spindle_46 (by decide) (fun c1 => ?_) (fun c1 => ?_)
    · exact absurd c1 (nI_pos (by omega))
    · refine lv_iload_n hx hb dMo_spindle_49 rfl (lv_at hl 2 rfl) ?_
      refine lv_aload_n hx hb dMo_spindle_50 rfl (lv_at hl 1 rfl) ?_
      refine dq_get (D := D) (ci := 8) (v := .int (nI n)) (C := RMo) (T := TMo) (N := 29) hx hb hts hinMo hown hK hW 100 m100 rfl 1 (by decide) hf75 (fun _ h9 => h9) rfl dMo_spindle_51 ?_
      refine lv_icmp_lt (tgt := 61) hx hb dMo_spindle_54 (by decide) (fun c2 => ?_) (fun c2 => ?_)
      · refine lv_iload hx hb dMo_spindle_61 (lv_at hl 0 rfl) ?_
        refine lv_if_eq (tgt := 70) hx hb dMo_spindle_63 (by decide) (fun c3 => ?_) (fun c3 => ?_)
        · refine lv_iconst (v := (2)) hx hb dMo_spindle_70 (by decide) ?_
          refine dq_put (D := D) (ci := 8) (v := .int (2)) (ty := .int) (C := RMo) (T := TMo) (N := 29) hx hb hts hinMo tyMo tyMo_ok nmMo hown hK hW hS 100 m100 rfl 0 (by decide) hf79 (fun _ h9 => h9) rfl (by decide +kernel) rfl rfl (Nat.le_of_ble_eq_true rfl) dMo_spindle_71 (fun H locs hW hS => ?_)
          refine lv_aload_n hx hb dMo_spindle_74 rfl (lv_at hl 1 rfl) ?_
          refine dq_get (D := D) (ci := 8) (v := .int (2)) (C := RMo) (T := TMo) (N := 29) hx hb hts hinMo hown hK hW 100 dq_Us rfl 0 (by decide) hf79 (fun _ h9 => h9) rfl dMo_spindle_75 ?_
          refine lv_if_gt (tgt := 112) hx hb dMo_spindle_78 (by decide) (fun c4 => ?_) (fun c4 => ?_)
          · refine lv_iconst (v := (0)) hx hb dMo_spindle_112 (by decide) ?_
            exact hret _ _ _ _ _ _ ⟨rfl, rfl⟩ (by decide) hW hS dMo_spindle_113
          · exact absurd (by decide) c4
        · exact absurd rfl c3
      · exact absurd (nI_lt hk (by omega)) c2
  refine lv_iload_n hx hb dMo_spindle_0 rfl (lv_at hl 2 rfl) ?_
  refine lv_sipush (v := (-10000)) hx hb dMo_spindle_1 (by decide) ?_
  refine lv_sipush (v := (10000)) hx hb dMo_spindle_4 (by decide) ?_
  refine dq_calli (va_runS (As := [.int a1, .int (-10000), .int (10000)]) (rest := []) ⟨hx, hb, hml, hown, hts⟩ (m_isIn l D g ad (w) _ a1 (-10000) 10000  ) (cwS 3 hts (dq_giS2 tw4_11 tw4_12 tw1_10 tw4_13) rfl rfl rfl (by decide +kernel) ⟨Nat.le_of_ble_eq_true rfl, Nat.le_of_ble_eq_true rfl⟩) (dq_preS hW hS hA hK hZ) rfl rfl hl.1 rfl (lv_room (Nat.le_of_ble_eq_true rfl)) dMo_spindle_7 ⟨Nat.zero_le _, Nat.zero_le _⟩) hW hS hA (fun r1 u_9 H locs hp1 hW hS hz9 => ?_)
  obtain ⟨hr1, hu9⟩ := hp1
  rw [hu9] at hW
  subst hr1
  refine lv_if_eq (tgt := 41) hx hb dMo_spindle_10 (by decide) (fun c9 => ?_) (fun c9 => ?_)
  · have q0 := dq_b_f c9
    refine lv_iconst (v := (0)) hx hb dMo_spindle_41 (by decide) ?_
    exact J 0 _ _ _ (by rw [q0]; rfl) hW hS (lv_sub hl [0, 1, 2, 3, 4] rfl)
  · have q0 := dq_b_t c9
    refine lv_iload_n hx hb dMo_spindle_13 rfl (lv_at hl 3 rfl) ?_
    refine lv_sipush (v := (-10000)) hx hb dMo_spindle_14 (by decide) ?_
    refine lv_sipush (v := (10000)) hx hb dMo_spindle_17 (by decide) ?_
    refine dq_calli (va_runS (As := [.int a2, .int (-10000), .int (10000)]) (rest := []) ⟨hx, hb, hml, hown, hts⟩ (m_isIn l D g ad (w) _ a2 (-10000) 10000  ) (cwS 3 hts (dq_giS2 tw4_11 tw4_12 tw1_10 tw4_13) rfl rfl rfl (by decide +kernel) ⟨Nat.le_of_ble_eq_true rfl, Nat.le_of_ble_eq_true rfl⟩) (dq_preS hW hS hA hK hZ) rfl rfl hl.1 rfl (lv_room (Nat.le_of_ble_eq_true rfl)) dMo_spindle_20 ⟨Nat.zero_le _, Nat.zero_le _⟩) hW hS hA (fun r1 u_9 H locs hp1 hW hS hz9 => ?_)
    obtain ⟨hr1, hu9⟩ := hp1
    rw [hu9] at hW
    subst hr1
    refine lv_if_eq (tgt := 41) hx hb dMo_spindle_23 (by decide) (fun c9 => ?_) (fun c9 => ?_)
    · have q1 := dq_b_f c9
      refine lv_iconst (v := (0)) hx hb dMo_spindle_41 (by decide) ?_
      exact J 0 _ _ _ (by rw [q0, q1]; rfl) hW hS (lv_sub hl [0, 1, 2, 3, 4] rfl)
    · have q1 := dq_b_t c9
      refine lv_iload hx hb dMo_spindle_26 (lv_at hl 4 rfl) ?_
      refine lv_iconst (v := (0)) hx hb dMo_spindle_28 (by decide) ?_
      refine lv_bipush (v := (100)) hx hb dMo_spindle_29 (by decide) ?_
      refine dq_calli (va_runS (As := [.int a3, .int (0), .int (100)]) (rest := []) ⟨hx, hb, hml, hown, hts⟩ (m_isIn l D g ad (w) _ a3 0 100  ) (cwS 3 hts (dq_giS2 tw4_11 tw4_12 tw1_10 tw4_13) rfl rfl rfl (by decide +kernel) ⟨Nat.le_of_ble_eq_true rfl, Nat.le_of_ble_eq_true rfl⟩) (dq_preS hW hS hA hK hZ) rfl rfl hl.1 rfl (lv_room (Nat.le_of_ble_eq_true rfl)) dMo_spindle_31 ⟨Nat.zero_le _, Nat.zero_le _⟩) hW hS hA (fun r1 u_9 H locs hp1 hW hS hz9 => ?_)
      obtain ⟨hr1, hu9⟩ := hp1
      rw [hu9] at hW
      subst hr1
      refine lv_if_eq (tgt := 41) hx hb dMo_spindle_34 (by decide) (fun c9 => ?_) (fun c9 => ?_)
      · have q2 := dq_b_f c9
        refine lv_iconst (v := (0)) hx hb dMo_spindle_41 (by decide) ?_
        exact J 0 _ _ _ (by rw [q0, q1, q2]; rfl) hW hS (lv_sub hl [0, 1, 2, 3, 4] rfl)
      · have q2 := dq_b_t c9
        refine lv_iconst (v := (1)) hx hb dMo_spindle_37 (by decide) ?_
        refine lv_goto (tgt := 42) hx hb dMo_spindle_38 (by decide) ?_
        exact J 1 _ _ _ (by rw [q0, q1, q2]; rfl) hW hS (lv_sub hl [0, 1, 2, 3, 4] rfl)

set_option maxHeartbeats 4000000 in
set_option maxRecDepth 100000 in
/-- spindle, as it was -/
theorem m_spindle_no (l : Launch) (D : va_G) (g : Nat → ClassId) (ad : Nat → Nat) (w : Nat → Option va_E) (sz : Nat) (cd : Int32) (n hn cn : Nat) (pl : Int32) (tn : Nat) (sg : Int32) (wy : Int64) (sx sy sw : Nat → Int32) (k : Nat) (a1 a2 a3 : Int32) (m100 : w 100 = some (.inr (8, [.int cd, .int (nI n), .ref (ad 102), .ref (ad 103), .ref (ad 104), .int (nI hn), .ref (ad 106), .ref (ad 107), .ref (ad 108), .ref (ad 109), .ref (ad 110), .ref (ad 111), .int (nI cn), .ref (ad 113), .int pl, .int (nI tn), .ref (ad 116), .ref (ad 117), .ref (ad 118), .ref (ad 119), .int sg, .ref (ad 121), .long wy, .ref (ad 123), .ref (ad 124), .ref (ad 125), .ref (ad 126), .ref (ad 127), .ref (ad 128)]))) (m102 : w 102 = some (.inl (g 0, 16, .inl sx))) (m103 : w 103 = some (.inl (g 0, 16, .inl sy))) (m104 : w 104 = some (.inl (g 0, 16, .inl sw))) (hk : k < n) (hn16 : n ≤ 16) (h0 : ((mr_in a1 (-10000) 10000 && mr_in a2 (-10000) 10000) && mr_in a3 0 100) = true) (e1 : sx k = a1) (e2 : sy k = a2) (e3 : sw k = a3) : Met l yMo_spindle wsMo_spindle ({ frames := 1, cells := 0, slots := 0, locals := 24 } : Room) (va_Pc [.ref (ad 100), .int (nI k), .int a1, .int a2, .int a3] (dq_S D vwCl (dq_t g) ad w sz)) (va_Qi (fun r u => r = 0 ∧ u = dq_U w 100 (.inr (8, [.int 0, .int (nI n), .ref (ad 102), .ref (ad 103), .ref (ad 104), .int (nI hn), .ref (ad 106), .ref (ad 107), .ref (ad 108), .ref (ad 109), .ref (ad 110), .ref (ad 111), .int (nI cn), .ref (ad 113), .int pl, .int (nI tn), .ref (ad 116), .ref (ad 117), .ref (ad 118), .ref (ad 119), .int sg, .ref (ad 121), .long wy, .ref (ad 123), .ref (ad 124), .ref (ad 125), .ref (ad 126), .ref (ad 127), .ref (ad 128)]))) (dq_B D vwCl (dq_t g) ad (dq_A ad w sz)) (dq_A ad w sz)) 0 0 (dq_A ad w sz) := by
  refine dq_ofz (cc := cMo_spindle) (maxL := 6) (by decide) rfl (Nat.le_of_ble_eq_true rfl) ?_
  intro p e s m below meth c A Q ls ⟨hx, hb, hml, hown, hts⟩ hnm hA hW hK hZ hl hret
  have hS : va_S A s.heap s.heap [] := va_S.rf
  have hl : lv_has ls 6 [(0, .ref (ad 100)), (1, .int (nI k)), (2, .int a1), (3, .int a2), (4, .int a3)] := hl
  have hf7 := hts _ (List.mem_cons_of_mem _ tw3_156)
  have hf13 := hts _ (List.mem_cons_of_mem _ tw3_157)
  have hf16 := hts _ (List.mem_cons_of_mem _ tw3_158)
  have hf75 := hts _ (List.mem_cons_of_mem _ tw3_155)
  have hf79 := hts _ (List.mem_cons_of_mem _ tw3_154)
  have hf86 := hts _ (List.mem_cons_of_mem _ tw3_168)
  have hinMo : ∀ w ∈ u_ws RMo TMo 29, w ∈ wsMo_spindle := fun w h => List.mem_cons_of_mem _ (inMo w h)
  have J : ∀ (v : Int32) (H : Heap) (locs : List Loc) (ls : Array Slot), v = dq_b ((mr_in a1 (-10000) 10000 && mr_in a2 (-10000) 10000) && mr_in a3 0 100) → dq_W D vwCl ad (w) A H → va_S A s.heap H locs → lv_has ls 6 [(0, .ref (ad 100)), (1, .int (nI k)), (2, .int a1), (3, .int a2), (4, .int a3)] → W p l e ({ frames := 1, cells := 0, slots := 0, locals := 24 } : Room) s m ([.ref (ad 100), .int (nI k), .int a1, .int a2, .int a3] : List Value).toArray below meth c H locs 0 0 Q (F0 m 42 ls [.int v]) := by
    intro v H locs ls hv hW hS hl
    rw [h0] at hv
    subst hv
    refine lv_istore (lv' := [(5, .int (dq_b true)), (0, .ref (ad 100)), (1, .int (nI k)), (2, .int a1), (3, .int a2), (4, .int a3)]) hx hb dMo_spindle_42 hl (by decide) rfl (fun ls hl => ?_)
    refine lv_aload_n hx hb dMo_spindle_44 rfl (lv_at hl 1 rfl) ?_
    refine lv_iload_n hx hb dMo_spindle_45 rfl (lv_at hl 2 rfl) ?_
    refine lv_if_lt (tgt := 57) hx hb dMo_spindle_46 (by decide) (fun c1 => ?_) (fun c1 => ?_)
    · exact absurd c1 (nI_pos (by omega))
    · refine lv_iload_n hx hb dMo_spindle_49 rfl (lv_at hl 2 rfl) ?_
      refine lv_aload_n hx hb dMo_spindle_50 rfl (lv_at hl 1 rfl) ?_
      refine dq_get (D := D) (ci := 8) (v := .int (nI n)) (C := RMo) (T := TMo) (N := 29) hx hb hts hinMo hown hK hW 100 m100 rfl 1 (by decide) hf75 (fun _ h9 => h9) rfl dMo_spindle_51 ?_
      refine lv_icmp_lt (tgt := 61) hx hb dMo_spindle_54 (by decide) (fun c2 => ?_) (fun c2 => ?_)
      · refine lv_iload hx hb dMo_spindle_61 (lv_at hl 0 rfl) ?_
        refine lv_if_eq (tgt := 70) hx hb dMo_spindle_63 (by decide) (fun c3 => ?_) (fun c3 => ?_)
        · exact absurd c3 (by decide)
        · refine lv_iconst (v := (0)) hx hb dMo_spindle_66 (by decide) ?_
          refine lv_goto (tgt := 71) hx hb dMo_spindle_67 (by decide) ?_
          refine dq_put (D := D) (ci := 8) (v := .int (0)) (ty := .int) (C := RMo) (T := TMo) (N := 29) hx hb hts hinMo tyMo tyMo_ok nmMo hown hK hW hS 100 m100 rfl 0 (by decide) hf79 (fun _ h9 => h9) rfl (by decide +kernel) rfl rfl (Nat.le_of_ble_eq_true rfl) dMo_spindle_71 (fun H locs hW hS => ?_)
          refine lv_aload_n hx hb dMo_spindle_74 rfl (lv_at hl 1 rfl) ?_
          refine dq_get (D := D) (ci := 8) (v := .int (0)) (C := RMo) (T := TMo) (N := 29) hx hb hts hinMo hown hK hW 100 dq_Us rfl 0 (by decide) hf79 (fun _ h9 => h9) rfl dMo_spindle_75 ?_
          refine lv_if_gt (tgt := 112) hx hb dMo_spindle_78 (by decide) (fun c4 => ?_) (fun c4 => ?_)
          · exact absurd c4 (by decide)
          · refine lv_aload_n hx hb dMo_spindle_81 rfl (lv_at hl 1 rfl) ?_
            refine dq_get (D := D) (ci := 8) (v := .ref (ad 102)) (C := RMo) (T := TMo) (N := 29) hx hb hts hinMo hown hK hW 100 dq_Us rfl 2 (by decide) hf7 (fun _ h9 => h9) rfl dMo_spindle_82 ?_
            refine lv_iload_n hx hb dMo_spindle_85 rfl (lv_at hl 2 rfl) ?_
            refine dq_ialdN hx hb hK hW 102 0 ((dq_Un (by decide)).trans m102) rfl k (by omega) (by omega) dMo_spindle_86 ?_
            refine lv_iload_n hx hb dMo_spindle_87 rfl (lv_at hl 3 rfl) ?_
            refine lv_icmp_ne (tgt := 114) hx hb dMo_spindle_88 (by decide) (fun c5 => ?_) (fun c5 => ?_)
            · exact absurd e1 c5
            · refine lv_aload_n hx hb dMo_spindle_91 rfl (lv_at hl 1 rfl) ?_
              refine dq_get (D := D) (ci := 8) (v := .ref (ad 103)) (C := RMo) (T := TMo) (N := 29) hx hb hts hinMo hown hK hW 100 dq_Us rfl 3 (by decide) hf13 (fun _ h9 => h9) rfl dMo_spindle_92 ?_
              refine lv_iload_n hx hb dMo_spindle_95 rfl (lv_at hl 2 rfl) ?_
              refine dq_ialdN hx hb hK hW 103 0 ((dq_Un (by decide)).trans m103) rfl k (by omega) (by omega) dMo_spindle_96 ?_
              refine lv_iload_n hx hb dMo_spindle_97 rfl (lv_at hl 4 rfl) ?_
              refine lv_icmp_ne (tgt := 114) hx hb dMo_spindle_98 (by decide) (fun c6 => ?_) (fun c6 => ?_)
              · exact absurd e2 c6
              · refine lv_aload_n hx hb dMo_spindle_101 rfl (lv_at hl 1 rfl) ?_
                refine dq_get (D := D) (ci := 8) (v := .ref (ad 104)) (C := RMo) (T := TMo) (N := 29) hx hb hts hinMo hown hK hW 100 dq_Us rfl 4 (by decide) hf16 (fun _ h9 => h9) rfl dMo_spindle_102 ?_
                refine lv_iload_n hx hb dMo_spindle_105 rfl (lv_at hl 2 rfl) ?_
                refine dq_ialdN hx hb hK hW 104 0 ((dq_Un (by decide)).trans m104) rfl k (by omega) (by omega) dMo_spindle_106 ?_
                refine lv_iload hx hb dMo_spindle_107 (lv_at hl 5 rfl) ?_
                refine lv_icmp_ne (tgt := 114) hx hb dMo_spindle_109 (by decide) (fun c7 => ?_) (fun c7 => ?_)
                · exact absurd e3 c7
                · refine lv_iconst (v := (0)) hx hb dMo_spindle_112 (by decide) ?_
                  exact hret _ _ _ _ _ _ ⟨rfl, rfl⟩ (by decide) hW hS dMo_spindle_113
      · exact absurd (nI_lt hk (by omega)) c2
  refine lv_iload_n hx hb dMo_spindle_0 rfl (lv_at hl 2 rfl) ?_
  refine lv_sipush (v := (-10000)) hx hb dMo_spindle_1 (by decide) ?_
  refine lv_sipush (v := (10000)) hx hb dMo_spindle_4 (by decide) ?_
  refine dq_calli (va_runS (As := [.int a1, .int (-10000), .int (10000)]) (rest := []) ⟨hx, hb, hml, hown, hts⟩ (m_isIn l D g ad (w) _ a1 (-10000) 10000  ) (cwS 3 hts (dq_giS2 tw4_11 tw4_12 tw1_10 tw4_13) rfl rfl rfl (by decide +kernel) ⟨Nat.le_of_ble_eq_true rfl, Nat.le_of_ble_eq_true rfl⟩) (dq_preS hW hS hA hK hZ) rfl rfl hl.1 rfl (lv_room (Nat.le_of_ble_eq_true rfl)) dMo_spindle_7 ⟨Nat.zero_le _, Nat.zero_le _⟩) hW hS hA (fun r1 u_9 H locs hp1 hW hS hz9 => ?_)
  obtain ⟨hr1, hu9⟩ := hp1
  rw [hu9] at hW
  subst hr1
  refine lv_if_eq (tgt := 41) hx hb dMo_spindle_10 (by decide) (fun c9 => ?_) (fun c9 => ?_)
  · have q0 := dq_b_f c9
    refine lv_iconst (v := (0)) hx hb dMo_spindle_41 (by decide) ?_
    exact J 0 _ _ _ (by rw [q0]; rfl) hW hS (lv_sub hl [0, 1, 2, 3, 4] rfl)
  · have q0 := dq_b_t c9
    refine lv_iload_n hx hb dMo_spindle_13 rfl (lv_at hl 3 rfl) ?_
    refine lv_sipush (v := (-10000)) hx hb dMo_spindle_14 (by decide) ?_
    refine lv_sipush (v := (10000)) hx hb dMo_spindle_17 (by decide) ?_
    refine dq_calli (va_runS (As := [.int a2, .int (-10000), .int (10000)]) (rest := []) ⟨hx, hb, hml, hown, hts⟩ (m_isIn l D g ad (w) _ a2 (-10000) 10000  ) (cwS 3 hts (dq_giS2 tw4_11 tw4_12 tw1_10 tw4_13) rfl rfl rfl (by decide +kernel) ⟨Nat.le_of_ble_eq_true rfl, Nat.le_of_ble_eq_true rfl⟩) (dq_preS hW hS hA hK hZ) rfl rfl hl.1 rfl (lv_room (Nat.le_of_ble_eq_true rfl)) dMo_spindle_20 ⟨Nat.zero_le _, Nat.zero_le _⟩) hW hS hA (fun r1 u_9 H locs hp1 hW hS hz9 => ?_)
    obtain ⟨hr1, hu9⟩ := hp1
    rw [hu9] at hW
    subst hr1
    refine lv_if_eq (tgt := 41) hx hb dMo_spindle_23 (by decide) (fun c9 => ?_) (fun c9 => ?_)
    · have q1 := dq_b_f c9
      refine lv_iconst (v := (0)) hx hb dMo_spindle_41 (by decide) ?_
      exact J 0 _ _ _ (by rw [q0, q1]; rfl) hW hS (lv_sub hl [0, 1, 2, 3, 4] rfl)
    · have q1 := dq_b_t c9
      refine lv_iload hx hb dMo_spindle_26 (lv_at hl 4 rfl) ?_
      refine lv_iconst (v := (0)) hx hb dMo_spindle_28 (by decide) ?_
      refine lv_bipush (v := (100)) hx hb dMo_spindle_29 (by decide) ?_
      refine dq_calli (va_runS (As := [.int a3, .int (0), .int (100)]) (rest := []) ⟨hx, hb, hml, hown, hts⟩ (m_isIn l D g ad (w) _ a3 0 100  ) (cwS 3 hts (dq_giS2 tw4_11 tw4_12 tw1_10 tw4_13) rfl rfl rfl (by decide +kernel) ⟨Nat.le_of_ble_eq_true rfl, Nat.le_of_ble_eq_true rfl⟩) (dq_preS hW hS hA hK hZ) rfl rfl hl.1 rfl (lv_room (Nat.le_of_ble_eq_true rfl)) dMo_spindle_31 ⟨Nat.zero_le _, Nat.zero_le _⟩) hW hS hA (fun r1 u_9 H locs hp1 hW hS hz9 => ?_)
      obtain ⟨hr1, hu9⟩ := hp1
      rw [hu9] at hW
      subst hr1
      refine lv_if_eq (tgt := 41) hx hb dMo_spindle_34 (by decide) (fun c9 => ?_) (fun c9 => ?_)
      · have q2 := dq_b_f c9
        refine lv_iconst (v := (0)) hx hb dMo_spindle_41 (by decide) ?_
        exact J 0 _ _ _ (by rw [q0, q1, q2]; rfl) hW hS (lv_sub hl [0, 1, 2, 3, 4] rfl)
      · have q2 := dq_b_t c9
        refine lv_iconst (v := (1)) hx hb dMo_spindle_37 (by decide) ?_
        refine lv_goto (tgt := 42) hx hb dMo_spindle_38 (by decide) ?_
        exact J 1 _ _ _ (by rw [q0, q1, q2]; rfl) hW hS (lv_sub hl [0, 1, 2, 3, 4] rfl)

set_option maxHeartbeats 4000000 in
set_option maxRecDepth 100000 in
/-- spindle, changed -/
theorem m_spindle_yes (l : Launch) (D : va_G) (g : Nat → ClassId) (ad : Nat → Nat) (w : Nat → Option va_E) (sz : Nat) (cd : Int32) (n hn cn : Nat) (pl : Int32) (tn : Nat) (sg : Int32) (wy : Int64) (sx sy sw : Nat → Int32) (k : Nat) (a1 a2 a3 : Int32) (m100 : w 100 = some (.inr (8, [.int cd, .int (nI n), .ref (ad 102), .ref (ad 103), .ref (ad 104), .int (nI hn), .ref (ad 106), .ref (ad 107), .ref (ad 108), .ref (ad 109), .ref (ad 110), .ref (ad 111), .int (nI cn), .ref (ad 113), .int pl, .int (nI tn), .ref (ad 116), .ref (ad 117), .ref (ad 118), .ref (ad 119), .int sg, .ref (ad 121), .long wy, .ref (ad 123), .ref (ad 124), .ref (ad 125), .ref (ad 126), .ref (ad 127), .ref (ad 128)]))) (m102 : w 102 = some (.inl (g 0, 16, .inl sx))) (m103 : w 103 = some (.inl (g 0, 16, .inl sy))) (m104 : w 104 = some (.inl (g 0, 16, .inl sw))) (hk : k < n) (hn16 : n ≤ 16) (h0 : ((mr_in a1 (-10000) 10000 && mr_in a2 (-10000) 10000) && mr_in a3 0 100) = true) (he : ¬ (sx k = a1 ∧ sy k = a2 ∧ sw k = a3)) : Met l yMo_spindle wsMo_spindle ({ frames := 1, cells := 0, slots := 0, locals := 24 } : Room) (va_Pc [.ref (ad 100), .int (nI k), .int a1, .int a2, .int a3] (dq_S D vwCl (dq_t g) ad w sz)) (va_Qi (fun r u => r = 1 ∧ u = dq_U (dq_U (dq_U (dq_U w 100 (.inr (8, [.int 0, .int (nI n), .ref (ad 102), .ref (ad 103), .ref (ad 104), .int (nI hn), .ref (ad 106), .ref (ad 107), .ref (ad 108), .ref (ad 109), .ref (ad 110), .ref (ad 111), .int (nI cn), .ref (ad 113), .int 0, .int (nI tn), .ref (ad 116), .ref (ad 117), .ref (ad 118), .ref (ad 119), .int sg, .ref (ad 121), .long wy, .ref (ad 123), .ref (ad 124), .ref (ad 125), .ref (ad 126), .ref (ad 127), .ref (ad 128)]))) 102 (.inl (g 0, 16, .inl (upd sx k a1)))) 103 (.inl (g 0, 16, .inl (upd sy k a2)))) 104 (.inl (g 0, 16, .inl (upd sw k a3)))) (dq_B D vwCl (dq_t g) ad (dq_A ad w sz)) (dq_A ad w sz)) 0 0 (dq_A ad w sz) := by
  refine dq_ofz (cc := cMo_spindle) (maxL := 6) (by decide) rfl (Nat.le_of_ble_eq_true rfl) ?_
  intro p e s m below meth c A Q ls ⟨hx, hb, hml, hown, hts⟩ hnm hA hW hK hZ hl hret
  have hS : va_S A s.heap s.heap [] := va_S.rf
  have hl : lv_has ls 6 [(0, .ref (ad 100)), (1, .int (nI k)), (2, .int a1), (3, .int a2), (4, .int a3)] := hl
  have hf7 := hts _ (List.mem_cons_of_mem _ tw3_156)
  have hf13 := hts _ (List.mem_cons_of_mem _ tw3_157)
  have hf16 := hts _ (List.mem_cons_of_mem _ tw3_158)
  have hf75 := hts _ (List.mem_cons_of_mem _ tw3_155)
  have hf79 := hts _ (List.mem_cons_of_mem _ tw3_154)
  have hf86 := hts _ (List.mem_cons_of_mem _ tw3_168)
  have hinMo : ∀ w ∈ u_ws RMo TMo 29, w ∈ wsMo_spindle := fun w h => List.mem_cons_of_mem _ (inMo w h)
  have J : ∀ (v : Int32) (H : Heap) (locs : List Loc) (ls : Array Slot), v = dq_b ((mr_in a1 (-10000) 10000 && mr_in a2 (-10000) 10000) && mr_in a3 0 100) → dq_W D vwCl ad (w) A H → va_S A s.heap H locs → lv_has ls 6 [(0, .ref (ad 100)), (1, .int (nI k)), (2, .int a1), (3, .int a2), (4, .int a3)] → W p l e ({ frames := 1, cells := 0, slots := 0, locals := 24 } : Room) s m ([.ref (ad 100), .int (nI k), .int a1, .int a2, .int a3] : List Value).toArray below meth c H locs 0 0 Q (F0 m 42 ls [.int v]) := by
    intro v H locs ls hv hW hS hl
    rw [h0] at hv
    subst hv
    refine lv_istore (lv' := [(5, .int (dq_b true)), (0, .ref (ad 100)), (1, .int (nI k)), (2, .int a1), (3, .int a2), (4, .int a3)]) hx hb dMo_spindle_42 hl (by decide) rfl (fun ls hl => ?_)
    refine lv_aload_n hx hb dMo_spindle_44 rfl (lv_at hl 1 rfl) ?_
    refine lv_iload_n hx hb dMo_spindle_45 rfl (lv_at hl 2 rfl) ?_
    refine lv_if_lt (tgt := 57) hx hb dMo_spindle_46 (by decide) (fun c1 => ?_) (fun c1 => ?_)
    · exact absurd c1 (nI_pos (by omega))
    · refine lv_iload_n hx hb dMo_spindle_49 rfl (lv_at hl 2 rfl) ?_
      refine lv_aload_n hx hb dMo_spindle_50 rfl (lv_at hl 1 rfl) ?_
      refine dq_get (D := D) (ci := 8) (v := .int (nI n)) (C := RMo) (T := TMo) (N := 29) hx hb hts hinMo hown hK hW 100 m100 rfl 1 (by decide) hf75 (fun _ h9 => h9) rfl dMo_spindle_51 ?_
      refine lv_icmp_lt (tgt := 61) hx hb dMo_spindle_54 (by decide) (fun c2 => ?_) (fun c2 => ?_)
      · refine lv_iload hx hb dMo_spindle_61 (lv_at hl 0 rfl) ?_
        refine lv_if_eq (tgt := 70) hx hb dMo_spindle_63 (by decide) (fun c3 => ?_) (fun c3 => ?_)
        · exact absurd c3 (by decide)
        · refine lv_iconst (v := (0)) hx hb dMo_spindle_66 (by decide) ?_
          refine lv_goto (tgt := 71) hx hb dMo_spindle_67 (by decide) ?_
          refine dq_put (D := D) (ci := 8) (v := .int (0)) (ty := .int) (C := RMo) (T := TMo) (N := 29) hx hb hts hinMo tyMo tyMo_ok nmMo hown hK hW hS 100 m100 rfl 0 (by decide) hf79 (fun _ h9 => h9) rfl (by decide +kernel) rfl rfl (Nat.le_of_ble_eq_true rfl) dMo_spindle_71 (fun H locs hW hS => ?_)
          refine lv_aload_n hx hb dMo_spindle_74 rfl (lv_at hl 1 rfl) ?_
          refine dq_get (D := D) (ci := 8) (v := .int (0)) (C := RMo) (T := TMo) (N := 29) hx hb hts hinMo hown hK hW 100 dq_Us rfl 0 (by decide) hf79 (fun _ h9 => h9) rfl dMo_spindle_75 ?_
          refine lv_if_gt (tgt := 112) hx hb dMo_spindle_78 (by decide) (fun c4 => ?_) (fun c4 => ?_)
          · exact absurd c4 (by decide)
          · refine lv_aload_n hx hb dMo_spindle_81 rfl (lv_at hl 1 rfl) ?_
            refine dq_get (D := D) (ci := 8) (v := .ref (ad 102)) (C := RMo) (T := TMo) (N := 29) hx hb hts hinMo hown hK hW 100 dq_Us rfl 2 (by decide) hf7 (fun _ h9 => h9) rfl dMo_spindle_82 ?_
            refine lv_iload_n hx hb dMo_spindle_85 rfl (lv_at hl 2 rfl) ?_
            refine dq_ialdN hx hb hK hW 102 0 ((dq_Un (by decide)).trans m102) rfl k (by omega) (by omega) dMo_spindle_86 ?_
            refine lv_iload_n hx hb dMo_spindle_87 rfl (lv_at hl 3 rfl) ?_
            have J2 : ∀ (H : Heap) (locs : List Loc) (ls : Array Slot), dq_W D vwCl ad (dq_U w 100 (.inr (8, [.int (0), .int (nI n), .ref (ad 102), .ref (ad 103), .ref (ad 104), .int (nI hn), .ref (ad 106), .ref (ad 107), .ref (ad 108), .ref (ad 109), .ref (ad 110), .ref (ad 111), .int (nI cn), .ref (ad 113), .int pl, .int (nI tn), .ref (ad 116), .ref (ad 117), .ref (ad 118), .ref (ad 119), .int sg, .ref (ad 121), .long wy, .ref (ad 123), .ref (ad 124), .ref (ad 125), .ref (ad 126), .ref (ad 127), .ref (ad 128)]))) A H → va_S A s.heap H locs → lv_has ls 6 [(0, .ref (ad 100)), (1, .int (nI k)), (2, .int a1), (3, .int a2), (4, .int a3)] → W p l e ({ frames := 1, cells := 0, slots := 0, locals := 24 } : Room) s m ([.ref (ad 100), .int (nI k), .int a1, .int a2, .int a3] : List Value).toArray below meth c H locs 0 0 Q (F0 m 114 ls []) := by
              intro  H locs ls  hW hS hl
              refine lv_aload_n hx hb dMo_spindle_114 rfl (lv_at hl 0 rfl) ?_
              refine dq_get (D := D) (ci := 8) (v := .ref (ad 102)) (C := RMo) (T := TMo) (N := 29) hx hb hts hinMo hown hK hW 100 dq_Us rfl 2 (by decide) hf7 (fun _ h9 => h9) rfl dMo_spindle_115 ?_
              refine lv_iload_n hx hb dMo_spindle_118 rfl (lv_at hl 1 rfl) ?_
              refine lv_iload_n hx hb dMo_spindle_119 rfl (lv_at hl 2 rfl) ?_
              refine dq_iastN hx hb hK hW hS 102 0 ((dq_Un (by decide)).trans m102) rfl k (by omega) (by omega) dMo_spindle_120 (fun H locs hW hS => ?_)
              refine lv_aload_n hx hb dMo_spindle_121 rfl (lv_at hl 0 rfl) ?_
              refine dq_get (D := D) (ci := 8) (v := .ref (ad 103)) (C := RMo) (T := TMo) (N := 29) hx hb hts hinMo hown hK hW 100 ((dq_Un (by decide)).trans dq_Us) rfl 3 (by decide) hf13 (fun _ h9 => h9) rfl dMo_spindle_122 ?_
              refine lv_iload_n hx hb dMo_spindle_125 rfl (lv_at hl 1 rfl) ?_
              refine lv_iload_n hx hb dMo_spindle_126 rfl (lv_at hl 3 rfl) ?_
              refine dq_iastN hx hb hK hW hS 103 0 ((dq_Un (by decide)).trans ((dq_Un (by decide)).trans m103)) rfl k (by omega) (by omega) dMo_spindle_127 (fun H locs hW hS => ?_)
              refine lv_aload_n hx hb dMo_spindle_128 rfl (lv_at hl 0 rfl) ?_
              refine dq_get (D := D) (ci := 8) (v := .ref (ad 104)) (C := RMo) (T := TMo) (N := 29) hx hb hts hinMo hown hK hW 100 ((dq_Un (by decide)).trans ((dq_Un (by decide)).trans dq_Us)) rfl 4 (by decide) hf16 (fun _ h9 => h9) rfl dMo_spindle_129 ?_
              refine lv_iload_n hx hb dMo_spindle_132 rfl (lv_at hl 1 rfl) ?_
              refine lv_iload hx hb dMo_spindle_133 (lv_at hl 4 rfl) ?_
              refine dq_iastN hx hb hK hW hS 104 0 ((dq_Un (by decide)).trans ((dq_Un (by decide)).trans ((dq_Un (by decide)).trans m104))) rfl k (by omega) (by omega) dMo_spindle_135 (fun H locs hW hS => ?_)
              refine lv_aload_n hx hb dMo_spindle_136 rfl (lv_at hl 0 rfl) ?_
              refine lv_iconst (v := (0)) hx hb dMo_spindle_137 (by decide) ?_
              refine dq_put (D := D) (ci := 8) (v := .int (0)) (ty := .boolean) (C := RMo) (T := TMo) (N := 29) hx hb hts hinMo tyMo tyMo_ok nmMo hown hK hW hS 100 ((dq_Un (by decide)).trans ((dq_Un (by decide)).trans ((dq_Un (by decide)).trans dq_Us))) rfl 14 (by decide) hf86 (fun _ h9 => h9) rfl (by decide +kernel) rfl rfl (Nat.le_of_ble_eq_true rfl) dMo_spindle_138 (fun H locs hW hS => ?_)
              have hW : dq_W D vwCl ad (dq_U (dq_U (dq_U (dq_U w 100 (.inr (8, [.int (0), .int (nI n), .ref (ad 102), .ref (ad 103), .ref (ad 104), .int (nI hn), .ref (ad 106), .ref (ad 107), .ref (ad 108), .ref (ad 109), .ref (ad 110), .ref (ad 111), .int (nI cn), .ref (ad 113), .int (0), .int (nI tn), .ref (ad 116), .ref (ad 117), .ref (ad 118), .ref (ad 119), .int sg, .ref (ad 121), .long wy, .ref (ad 123), .ref (ad 124), .ref (ad 125), .ref (ad 126), .ref (ad 127), .ref (ad 128)]))) 102 (.inl (g 0, 16, .inl (upd sx k a1)))) 103 (.inl (g 0, 16, .inl (upd sy k a2)))) 104 (.inl (g 0, 16, .inl (upd sw k a3)))) A H := dq_Wc (by funext j; unfold dq_U; (repeat' split) <;> first | rfl | omega) hW
              refine lv_iconst (v := (1)) hx hb dMo_spindle_141 (by decide) ?_
              exact hret _ _ _ _ _ _ ⟨rfl, rfl⟩ (by decide) hW hS dMo_spindle_142
            refine lv_icmp_ne (tgt := 114) hx hb dMo_spindle_88 (by decide) (fun c5 => ?_) (fun c5 => ?_)
            · exact J2  _ _ _  hW hS (lv_sub hl [1, 2, 3, 4, 5] rfl)
            · refine lv_aload_n hx hb dMo_spindle_91 rfl (lv_at hl 1 rfl) ?_
              refine dq_get (D := D) (ci := 8) (v := .ref (ad 103)) (C := RMo) (T := TMo) (N := 29) hx hb hts hinMo hown hK hW 100 dq_Us rfl 3 (by decide) hf13 (fun _ h9 => h9) rfl dMo_spindle_92 ?_
              refine lv_iload_n hx hb dMo_spindle_95 rfl (lv_at hl 2 rfl) ?_
              refine dq_ialdN hx hb hK hW 103 0 ((dq_Un (by decide)).trans m103) rfl k (by omega) (by omega) dMo_spindle_96 ?_
              refine lv_iload_n hx hb dMo_spindle_97 rfl (lv_at hl 4 rfl) ?_
              refine lv_icmp_ne (tgt := 114) hx hb dMo_spindle_98 (by decide) (fun c6 => ?_) (fun c6 => ?_)
              · exact J2  _ _ _  hW hS (lv_sub hl [1, 2, 3, 4, 5] rfl)
              · refine lv_aload_n hx hb dMo_spindle_101 rfl (lv_at hl 1 rfl) ?_
                refine dq_get (D := D) (ci := 8) (v := .ref (ad 104)) (C := RMo) (T := TMo) (N := 29) hx hb hts hinMo hown hK hW 100 dq_Us rfl 4 (by decide) hf16 (fun _ h9 => h9) rfl dMo_spindle_102 ?_
                refine lv_iload_n hx hb dMo_spindle_105 rfl (lv_at hl 2 rfl) ?_
                refine dq_ialdN hx hb hK hW 104 0 ((dq_Un (by decide)).trans m104) rfl k (by omega) (by omega) dMo_spindle_106 ?_
                refine lv_iload hx hb dMo_spindle_107 (lv_at hl 5 rfl) ?_
                refine lv_icmp_ne (tgt := 114) hx hb dMo_spindle_109 (by decide) (fun c7 => ?_) (fun c7 => ?_)
                · exact J2  _ _ _  hW hS (lv_sub hl [1, 2, 3, 4, 5] rfl)
                · exact absurd ⟨c5, c6, c7⟩ he
      · exact absurd (nI_lt hk (by omega)) c2
  refine lv_iload_n hx hb dMo_spindle_0 rfl (lv_at hl 2 rfl) ?_
  refine lv_sipush (v := (-10000)) hx hb dMo_spindle_1 (by decide) ?_
  refine lv_sipush (v := (10000)) hx hb dMo_spindle_4 (by decide) ?_
  refine dq_calli (va_runS (As := [.int a1, .int (-10000), .int (10000)]) (rest := []) ⟨hx, hb, hml, hown, hts⟩ (m_isIn l D g ad (w) _ a1 (-10000) 10000  ) (cwS 3 hts (dq_giS2 tw4_11 tw4_12 tw1_10 tw4_13) rfl rfl rfl (by decide +kernel) ⟨Nat.le_of_ble_eq_true rfl, Nat.le_of_ble_eq_true rfl⟩) (dq_preS hW hS hA hK hZ) rfl rfl hl.1 rfl (lv_room (Nat.le_of_ble_eq_true rfl)) dMo_spindle_7 ⟨Nat.zero_le _, Nat.zero_le _⟩) hW hS hA (fun r1 u_9 H locs hp1 hW hS hz9 => ?_)
  obtain ⟨hr1, hu9⟩ := hp1
  rw [hu9] at hW
  subst hr1
  refine lv_if_eq (tgt := 41) hx hb dMo_spindle_10 (by decide) (fun c9 => ?_) (fun c9 => ?_)
  · have q0 := dq_b_f c9
    refine lv_iconst (v := (0)) hx hb dMo_spindle_41 (by decide) ?_
    exact J 0 _ _ _ (by rw [q0]; rfl) hW hS (lv_sub hl [0, 1, 2, 3, 4] rfl)
  · have q0 := dq_b_t c9
    refine lv_iload_n hx hb dMo_spindle_13 rfl (lv_at hl 3 rfl) ?_
    refine lv_sipush (v := (-10000)) hx hb dMo_spindle_14 (by decide) ?_
    refine lv_sipush (v := (10000)) hx hb dMo_spindle_17 (by decide) ?_
    refine dq_calli (va_runS (As := [.int a2, .int (-10000), .int (10000)]) (rest := []) ⟨hx, hb, hml, hown, hts⟩ (m_isIn l D g ad (w) _ a2 (-10000) 10000  ) (cwS 3 hts (dq_giS2 tw4_11 tw4_12 tw1_10 tw4_13) rfl rfl rfl (by decide +kernel) ⟨Nat.le_of_ble_eq_true rfl, Nat.le_of_ble_eq_true rfl⟩) (dq_preS hW hS hA hK hZ) rfl rfl hl.1 rfl (lv_room (Nat.le_of_ble_eq_true rfl)) dMo_spindle_20 ⟨Nat.zero_le _, Nat.zero_le _⟩) hW hS hA (fun r1 u_9 H locs hp1 hW hS hz9 => ?_)
    obtain ⟨hr1, hu9⟩ := hp1
    rw [hu9] at hW
    subst hr1
    refine lv_if_eq (tgt := 41) hx hb dMo_spindle_23 (by decide) (fun c9 => ?_) (fun c9 => ?_)
    · have q1 := dq_b_f c9
      refine lv_iconst (v := (0)) hx hb dMo_spindle_41 (by decide) ?_
      exact J 0 _ _ _ (by rw [q0, q1]; rfl) hW hS (lv_sub hl [0, 1, 2, 3, 4] rfl)
    · have q1 := dq_b_t c9
      refine lv_iload hx hb dMo_spindle_26 (lv_at hl 4 rfl) ?_
      refine lv_iconst (v := (0)) hx hb dMo_spindle_28 (by decide) ?_
      refine lv_bipush (v := (100)) hx hb dMo_spindle_29 (by decide) ?_
      refine dq_calli (va_runS (As := [.int a3, .int (0), .int (100)]) (rest := []) ⟨hx, hb, hml, hown, hts⟩ (m_isIn l D g ad (w) _ a3 0 100  ) (cwS 3 hts (dq_giS2 tw4_11 tw4_12 tw1_10 tw4_13) rfl rfl rfl (by decide +kernel) ⟨Nat.le_of_ble_eq_true rfl, Nat.le_of_ble_eq_true rfl⟩) (dq_preS hW hS hA hK hZ) rfl rfl hl.1 rfl (lv_room (Nat.le_of_ble_eq_true rfl)) dMo_spindle_31 ⟨Nat.zero_le _, Nat.zero_le _⟩) hW hS hA (fun r1 u_9 H locs hp1 hW hS hz9 => ?_)
      obtain ⟨hr1, hu9⟩ := hp1
      rw [hu9] at hW
      subst hr1
      refine lv_if_eq (tgt := 41) hx hb dMo_spindle_34 (by decide) (fun c9 => ?_) (fun c9 => ?_)
      · have q2 := dq_b_f c9
        refine lv_iconst (v := (0)) hx hb dMo_spindle_41 (by decide) ?_
        exact J 0 _ _ _ (by rw [q0, q1, q2]; rfl) hW hS (lv_sub hl [0, 1, 2, 3, 4] rfl)
      · have q2 := dq_b_t c9
        refine lv_iconst (v := (1)) hx hb dMo_spindle_37 (by decide) ?_
        refine lv_goto (tgt := 42) hx hb dMo_spindle_38 (by decide) ?_
        exact J 1 _ _ _ (by rw [q0, q1, q2]; rfl) hW hS (lv_sub hl [0, 1, 2, 3, 4] rfl)
