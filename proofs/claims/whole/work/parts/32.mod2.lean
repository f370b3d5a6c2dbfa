theorem dq_updid (f : Nat → Int32) (k : Nat) : upd f k (f k) = f := by
  funext j
  by_cases h : j = k
  · subst h; rw [pk_us]
  · rw [pk_un h]
theorem va_mulN (a b : Nat) : nI a * nI b = nI (a * b) := (Int32.ofNat_mul a b).symm
set_option maxHeartbeats 4000000 in
set_option maxRecDepth 100000 in
/-- hole, no room -/
theorem m_hole1 (l : Launch) (D : va_G) (g : Nat → ClassId) (ad : Nat → Nat) (w : Nat → Option va_E) (sz : Nat) (cd : Int32) (n hn cn : Nat) (pl : Int32) (tn : Nat) (sg : Int32) (wy : Int64) (px py pw pd pf pt : Nat → Int32) (a1 a2 a3 a4 a5 : Int32) (m100 : w 100 = some (.inr (8, [.int cd, .int (nI n), .ref (ad 102), .ref (ad 103), .ref (ad 104), .int (nI hn), .ref (ad 106), .ref (ad 107), .ref (ad 108), .ref (ad 109), .ref (ad 110), .ref (ad 111), .int (nI cn), .ref (ad 113), .int pl, .int (nI tn), .ref (ad 116), .ref (ad 117), .ref (ad 118), .ref (ad 119), .int sg, .ref (ad 121), .long wy, .ref (ad 123), .ref (ad 124), .ref (ad 125), .ref (ad 126), .ref (ad 127), .ref (ad 128)]))) (m106 : w 106 = some (.inl (g 0, 14, .inl px))) (m107 : w 107 = some (.inl (g 0, 14, .inl py))) (m108 : w 108 = some (.inl (g 0, 14, .inl pw))) (m109 : w 109 = some (.inl (g 0, 14, .inl pd))) (m110 : w 110 = some (.inl (g 0, 14, .inl pf))) (h0 : hn = 14) : Met l yMo_hole wsMo_hole ({ frames := 1, cells := 0, slots := 0, locals := 24 } : Room) (va_Pc [.ref (ad 100), .int a1, .int a2, .int a3, .int a4, .int a5] (dq_S D vwCl (dq_t g) ad w sz)) (va_Qi (fun r u => r = 0 ∧ u = dq_U w 100 (.inr (8, [.int 1, .int (nI n), .ref (ad 102), .ref (ad 103), .ref (ad 104), .int (nI hn), .ref (ad 106), .ref (ad 107), .ref (ad 108), .ref (ad 109), .ref (ad 110), .ref (ad 111), .int (nI cn), .ref (ad 113), .int pl, .int (nI tn), .ref (ad 116), .ref (ad 117), .ref (ad 118), .ref (ad 119), .int sg, .ref (ad 121), .long wy, .ref (ad 123), .ref (ad 124), .ref (ad 125), .ref (ad 126), .ref (ad 127), .ref (ad 128)]))) (dq_B D vwCl (dq_t g) ad (dq_A ad w sz)) (dq_A ad w sz)) 0 0 (dq_A ad w sz) := by
  refine dq_ofi (cc := cMo_hole) (maxL := 7) (by decide) rfl (Nat.le_of_ble_eq_true rfl) ?_
  intro p e s m below meth c A Q ls ⟨hx, hb, hml, hown, hts⟩ hnm hA hW hK hZ hl hret
  have hS : va_S A s.heap s.heap [] := va_S.rf
  have hl : lv_has ls 7 [(0, .ref (ad 100)), (1, .int a1), (2, .int a2), (3, .int a3), (4, .int a4), (5, .int a5)] := hl
  have hf19 := hts _ (List.mem_cons_of_mem _ tw3_160)
  have hf22 := hts _ (List.mem_cons_of_mem _ tw3_161)
  have hf25 := hts _ (List.mem_cons_of_mem _ tw3_162)
  have hf28 := hts _ (List.mem_cons_of_mem _ tw3_163)
  have hf31 := hts _ (List.mem_cons_of_mem _ tw3_164)
  have hf79 := hts _ (List.mem_cons_of_mem _ tw3_154)
  have hf86 := hts _ (List.mem_cons_of_mem _ tw3_168)
  have hf90 := hts _ (List.mem_cons_of_mem _ tw3_159)
  have hinMo : ∀ w ∈ u_ws RMo TMo 29, w ∈ wsMo_hole := fun w h => List.mem_cons_of_mem _ (inMo w h)
  have J : ∀ (v : Int32) (H : Heap) (locs : List Loc) (ls : Array Slot), v = dq_b (((((mr_in a1 (-10000) 10000 && mr_in a2 (-10000) 10000) && mr_in a3 1 100) && mr_in a4 1 1000) && mr_in a5 0 4)) → dq_W D vwCl ad (w) A H → va_S A s.heap H locs → lv_has ls 7 [(0, .ref (ad 100)), (1, .int a1), (2, .int a2), (3, .int a3), (4, .int a4), (5, .int a5)] → W p l e ({ frames := 1, cells := 0, slots := 0, locals := 24 } : Room) s m ([.ref (ad 100), .int a1, .int a2, .int a3, .int a4, .int a5] : List Value).toArray below meth c H locs 0 0 Q (F0 m 63 ls [.int v]) := by
    intro v H locs ls hv hW hS hl
    refine lv_istore (lv' := [(6, .int v), (0, .ref (ad 100)), (1, .int a1), (2, .int a2), (3, .int a3), (4, .int a4), (5, .int a5)]) hx hb dMo_hole_63 hl (by decide) rfl (fun ls hl => ?_)
    refine lv_aload_n hx hb dMo_hole_65 rfl (lv_at hl 1 rfl) ?_
    refine lv_aload_n hx hb dMo_hole_66 rfl (lv_at hl 1 rfl) ?_
    refine dq_get (D := D) (ci := 8) (v := .int (nI hn)) (C := RMo) (T := TMo) (N := 29) hx hb hts hinMo hown hK hW 100 m100 rfl 5 (by decide) hf90 (fun _ h9 => h9) rfl dMo_hole_67 ?_
    refine lv_bipush (v := (nI 14)) hx hb dMo_hole_70 (by decide) ?_
    refine lv_icmp_ne (tgt := 79) hx hb dMo_hole_72 (by decide) (fun c1 => ?_) (fun c1 => ?_)
    · exact absurd (by rw [h0]) c1
    · refine lv_iconst (v := (1)) hx hb dMo_hole_75 (by decide) ?_
      refine lv_goto (tgt := 89) hx hb dMo_hole_76 (by decide) ?_
      refine dq_put (D := D) (ci := 8) (v := .int (1)) (ty := .int) (C := RMo) (T := TMo) (N := 29) hx hb hts hinMo tyMo tyMo_ok nmMo hown hK hW hS 100 m100 rfl 0 (by decide) hf79 (fun _ h9 => h9) rfl (by decide +kernel) rfl rfl (Nat.le_of_ble_eq_true rfl) dMo_hole_89 (fun H locs hW hS => ?_)
      refine lv_aload_n hx hb dMo_hole_92 rfl (lv_at hl 1 rfl) ?_
      refine dq_get (D := D) (ci := 8) (v := .int (1)) (C := RMo) (T := TMo) (N := 29) hx hb hts hinMo hown hK hW 100 dq_Us rfl 0 (by decide) hf79 (fun _ h9 => h9) rfl dMo_hole_93 ?_
      refine lv_if_le (tgt := 101) hx hb dMo_hole_96 (by decide) (fun c2 => ?_) (fun c2 => ?_)
      · exact absurd c2 (by decide)
      · refine lv_iconst (v := (0)) hx hb dMo_hole_99 (by decide) ?_
        exact hret _ _ _ _ _ _ ⟨rfl, rfl⟩ hW hS dMo_hole_100
  refine lv_iload_n hx hb dMo_hole_0 rfl (lv_at hl 1 rfl) ?_
  refine lv_sipush (v := (-10000)) hx hb dMo_hole_1 (by decide) ?_
  refine lv_sipush (v := (10000)) hx hb dMo_hole_4 (by decide) ?_
  refine dq_calli (va_runS (As := [.int a1, .int (-10000), .int (10000)]) (rest := []) ⟨hx, hb, hml, hown, hts⟩ (m_isIn l D g ad (w) _ a1 (-10000) 10000  ) (cwS 3 hts (dq_giS2 tw4_11 tw4_12 tw1_10 tw4_13) rfl rfl rfl (by decide +kernel) ⟨Nat.le_of_ble_eq_true rfl, Nat.le_of_ble_eq_true rfl⟩) (dq_preS hW hS hA hK hZ) rfl rfl hl.1 rfl (lv_room (Nat.le_of_ble_eq_true rfl)) dMo_hole_7 ⟨Nat.zero_le _, Nat.zero_le _⟩) hW hS hA (fun r1 u_9 H locs hp1 hW hS hz9 => ?_)
  obtain ⟨hr1, hu9⟩ := hp1
  rw [hu9] at hW
  subst hr1
  refine lv_if_eq (tgt := 62) hx hb dMo_hole_10 (by decide) (fun c9 => ?_) (fun c9 => ?_)
  · have q0 := dq_b_f c9
    refine lv_iconst (v := (0)) hx hb dMo_hole_62 (by decide) ?_
    exact J 0 _ _ _ (by rw [q0]; rfl) hW hS (lv_sub hl [0, 1, 2, 3, 4, 5] rfl)
  · have q0 := dq_b_t c9
    refine lv_iload_n hx hb dMo_hole_13 rfl (lv_at hl 2 rfl) ?_
    refine lv_sipush (v := (-10000)) hx hb dMo_hole_14 (by decide) ?_
    refine lv_sipush (v := (10000)) hx hb dMo_hole_17 (by decide) ?_
    refine dq_calli (va_runS (As := [.int a2, .int (-10000), .int (10000)]) (rest := []) ⟨hx, hb, hml, hown, hts⟩ (m_isIn l D g ad (w) _ a2 (-10000) 10000  ) (cwS 3 hts (dq_giS2 tw4_11 tw4_12 tw1_10 tw4_13) rfl rfl rfl (by decide +kernel) ⟨Nat.le_of_ble_eq_true rfl, Nat.le_of_ble_eq_true rfl⟩) (dq_preS hW hS hA hK hZ) rfl rfl hl.1 rfl (lv_room (Nat.le_of_ble_eq_true rfl)) dMo_hole_20 ⟨Nat.zero_le _, Nat.zero_le _⟩) hW hS hA (fun r1 u_9 H locs hp1 hW hS hz9 => ?_)
    obtain ⟨hr1, hu9⟩ := hp1
    rw [hu9] at hW
    subst hr1
    refine lv_if_eq (tgt := 62) hx hb dMo_hole_23 (by decide) (fun c9 => ?_) (fun c9 => ?_)
    · have q1 := dq_b_f c9
      refine lv_iconst (v := (0)) hx hb dMo_hole_62 (by decide) ?_
      exact J 0 _ _ _ (by rw [q0, q1]; rfl) hW hS (lv_sub hl [0, 1, 2, 3, 4, 5] rfl)
    · have q1 := dq_b_t c9
      refine lv_iload_n hx hb dMo_hole_26 rfl (lv_at hl 3 rfl) ?_
      refine lv_iconst (v := (1)) hx hb dMo_hole_27 (by decide) ?_
      refine lv_bipush (v := (100)) hx hb dMo_hole_28 (by decide) ?_
      refine dq_calli (va_runS (As := [.int a3, .int (1), .int (100)]) (rest := []) ⟨hx, hb, hml, hown, hts⟩ (m_isIn l D g ad (w) _ a3 1 100  ) (cwS 3 hts (dq_giS2 tw4_11 tw4_12 tw1_10 tw4_13) rfl rfl rfl (by decide +kernel) ⟨Nat.le_of_ble_eq_true rfl, Nat.le_of_ble_eq_true rfl⟩) (dq_preS hW hS hA hK hZ) rfl rfl hl.1 rfl (lv_room (Nat.le_of_ble_eq_true rfl)) dMo_hole_30 ⟨Nat.zero_le _, Nat.zero_le _⟩) hW hS hA (fun r1 u_9 H locs hp1 hW hS hz9 => ?_)
      obtain ⟨hr1, hu9⟩ := hp1
      rw [hu9] at hW
      subst hr1
      refine lv_if_eq (tgt := 62) hx hb dMo_hole_33 (by decide) (fun c9 => ?_) (fun c9 => ?_)
      · have q2 := dq_b_f c9
        refine lv_iconst (v := (0)) hx hb dMo_hole_62 (by decide) ?_
        exact J 0 _ _ _ (by rw [q0, q1, q2]; rfl) hW hS (lv_sub hl [0, 1, 2, 3, 4, 5] rfl)
      · have q2 := dq_b_t c9
        refine lv_iload hx hb dMo_hole_36 (lv_at hl 4 rfl) ?_
        refine lv_iconst (v := (1)) hx hb dMo_hole_38 (by decide) ?_
        refine lv_sipush (v := (1000)) hx hb dMo_hole_39 (by decide) ?_
        refine dq_calli (va_runS (As := [.int a4, .int (1), .int (1000)]) (rest := []) ⟨hx, hb, hml, hown, hts⟩ (m_isIn l D g ad (w) _ a4 1 1000  ) (cwS 3 hts (dq_giS2 tw4_11 tw4_12 tw1_10 tw4_13) rfl rfl rfl (by decide +kernel) ⟨Nat.le_of_ble_eq_true rfl, Nat.le_of_ble_eq_true rfl⟩) (dq_preS hW hS hA hK hZ) rfl rfl hl.1 rfl (lv_room (Nat.le_of_ble_eq_true rfl)) dMo_hole_42 ⟨Nat.zero_le _, Nat.zero_le _⟩) hW hS hA (fun r1 u_9 H locs hp1 hW hS hz9 => ?_)
        obtain ⟨hr1, hu9⟩ := hp1
        rw [hu9] at hW
        subst hr1
        refine lv_if_eq (tgt := 62) hx hb dMo_hole_45 (by decide) (fun c9 => ?_) (fun c9 => ?_)
        · have q3 := dq_b_f c9
          refine lv_iconst (v := (0)) hx hb dMo_hole_62 (by decide) ?_
          exact J 0 _ _ _ (by rw [q0, q1, q2, q3]; rfl) hW hS (lv_sub hl [0, 1, 2, 3, 4, 5] rfl)
        · have q3 := dq_b_t c9
          refine lv_iload hx hb dMo_hole_48 (lv_at hl 5 rfl) ?_
          refine lv_iconst (v := (0)) hx hb dMo_hole_50 (by decide) ?_
          refine lv_iconst (v := (4)) hx hb dMo_hole_51 (by decide) ?_
          refine dq_calli (va_runS (As := [.int a5, .int (0), .int (4)]) (rest := []) ⟨hx, hb, hml, hown, hts⟩ (m_isIn l D g ad (w) _ a5 0 4  ) (cwS 3 hts (dq_giS2 tw4_11 tw4_12 tw1_10 tw4_13) rfl rfl rfl (by decide +kernel) ⟨Nat.le_of_ble_eq_true rfl, Nat.le_of_ble_eq_true rfl⟩) (dq_preS hW hS hA hK hZ) rfl rfl hl.1 rfl (lv_room (Nat.le_of_ble_eq_true rfl)) dMo_hole_52 ⟨Nat.zero_le _, Nat.zero_le _⟩) hW hS hA (fun r1 u_9 H locs hp1 hW hS hz9 => ?_)
          obtain ⟨hr1, hu9⟩ := hp1
          rw [hu9] at hW
          subst hr1
          refine lv_if_eq (tgt := 62) hx hb dMo_hole_55 (by decide) (fun c9 => ?_) (fun c9 => ?_)
          · have q4 := dq_b_f c9
            refine lv_iconst (v := (0)) hx hb dMo_hole_62 (by decide) ?_
            exact J 0 _ _ _ (by rw [q0, q1, q2, q3, q4]; rfl) hW hS (lv_sub hl [0, 1, 2, 3, 4, 5] rfl)
          · have q4 := dq_b_t c9
            refine lv_iconst (v := (1)) hx hb dMo_hole_58 (by decide) ?_
            refine lv_goto (tgt := 63) hx hb dMo_hole_59 (by decide) ?_
            exact J 1 _ _ _ (by rw [q0, q1, q2, q3, q4]; rfl) hW hS (lv_sub hl [0, 1, 2, 3, 4, 5] rfl)

set_option maxHeartbeats 4000000 in
set_option maxRecDepth 100000 in
/-- hole, out of range -/
theorem m_hole2 (l : Launch) (D : va_G) (g : Nat → ClassId) (ad : Nat → Nat) (w : Nat → Option va_E) (sz : Nat) (cd : Int32) (n hn cn : Nat) (pl : Int32) (tn : Nat) (sg : Int32) (wy : Int64) (px py pw pd pf pt : Nat → Int32) (a1 a2 a3 a4 a5 : Int32) (m100 : w 100 = some (.inr (8, [.int cd, .int (nI n), .ref (ad 102), .ref (ad 103), .ref (ad 104), .int (nI hn), .ref (ad 106), .ref (ad 107), .ref (ad 108), .ref (ad 109), .ref (ad 110), .ref (ad 111), .int (nI cn), .ref (ad 113), .int pl, .int (nI tn), .ref (ad 116), .ref (ad 117), .ref (ad 118), .ref (ad 119), .int sg, .ref (ad 121), .long wy, .ref (ad 123), .ref (ad 124), .ref (ad 125), .ref (ad 126), .ref (ad 127), .ref (ad 128)]))) (m106 : w 106 = some (.inl (g 0, 14, .inl px))) (m107 : w 107 = some (.inl (g 0, 14, .inl py))) (m108 : w 108 = some (.inl (g 0, 14, .inl pw))) (m109 : w 109 = some (.inl (g 0, 14, .inl pd))) (m110 : w 110 = some (.inl (g 0, 14, .inl pf))) (hpc : hn < 14) (h0 : (((((mr_in a1 (-10000) 10000 && mr_in a2 (-10000) 10000) && mr_in a3 1 100) && mr_in a4 1 1000) && mr_in a5 0 4)) = false) : Met l yMo_hole wsMo_hole ({ frames := 1, cells := 0, slots := 0, locals := 24 } : Room) (va_Pc [.ref (ad 100), .int a1, .int a2, .int a3, .int a4, .int a5] (dq_S D vwCl (dq_t g) ad w sz)) (va_Qi (fun r u => r = 0 ∧ u = dq_U w 100 (.inr (8, [.int 2, .int (nI n), .ref (ad 102), .ref (ad 103), .ref (ad 104), .int (nI hn), .ref (ad 106), .ref (ad 107), .ref (ad 108), .ref (ad 109), .ref (ad 110), .ref (ad 111), .int (nI cn), .ref (ad 113), .int pl, .int (nI tn), .ref (ad 116), .ref (ad 117), .ref (ad 118), .ref (ad 119), .int sg, .ref (ad 121), .long wy, .ref (ad 123), .ref (ad 124), .ref (ad 125), .ref (ad 126), .ref (ad 127), .ref (ad 128)]))) (dq_B D vwCl (dq_t g) ad (dq_A ad w sz)) (dq_A ad w sz)) 0 0 (dq_A ad w sz) := by
  refine dq_ofi (cc := cMo_hole) (maxL := 7) (by decide) rfl (Nat.le_of_ble_eq_true rfl) ?_
  intro p e s m below meth c A Q ls ⟨hx, hb, hml, hown, hts⟩ hnm hA hW hK hZ hl hret
  have hS : va_S A s.heap s.heap [] := va_S.rf
  have hl : lv_has ls 7 [(0, .ref (ad 100)), (1, .int a1), (2, .int a2), (3, .int a3), (4, .int a4), (5, .int a5)] := hl
  have hf19 := hts _ (List.mem_cons_of_mem _ tw3_160)
  have hf22 := hts _ (List.mem_cons_of_mem _ tw3_161)
  have hf25 := hts _ (List.mem_cons_of_mem _ tw3_162)
  have hf28 := hts _ (List.mem_cons_of_mem _ tw3_163)
  have hf31 := hts _ (List.mem_cons_of_mem _ tw3_164)
  have hf79 := hts _ (List.mem_cons_of_mem _ tw3_154)
  have hf86 := hts _ (List.mem_cons_of_mem _ tw3_168)
  have hf90 := hts _ (List.mem_cons_of_mem _ tw3_159)
  have hinMo : ∀ w ∈ u_ws RMo TMo 29, w ∈ wsMo_hole := fun w h => List.mem_cons_of_mem _ (inMo w h)
  have J : ∀ (v : Int32) (H : Heap) (locs : List Loc) (ls : Array Slot), v = dq_b (((((mr_in a1 (-10000) 10000 && mr_in a2 (-10000) 10000) && mr_in a3 1 100) && mr_in a4 1 1000) && mr_in a5 0 4)) → dq_W D vwCl ad (w) A H → va_S A s.heap H locs → lv_has ls 7 [(0, .ref (ad 100)), (1, .int a1), (2, .int a2), (3, .int a3), (4, .int a4), (5, .int a5)] → W p l e ({ frames := 1, cells := 0, slots := 0, locals := 24 } : Room) s m ([.ref (ad 100), .int a1, .int a2, .int a3, .int a4, .int a5] : List Value).toArray below meth c H locs 0 0 Q (F0 m 63 ls [.int v]) := by
    intro v H locs ls hv hW hS hl
    rw [h0] at hv
    subst hv
    refine lv_istore (lv' := [(6, .int (dq_b false)), (0, .ref (ad 100)), (1, .int a1), (2, .int a2), (3, .int a3), (4, .int a4), (5, .int a5)]) hx hb dMo_hole_63 hl (by decide) rfl (fun ls hl => ?_)
    refine lv_aload_n hx hb dMo_hole_65 rfl (lv_at hl 1 rfl) ?_
    refine lv_aload_n hx hb dMo_hole_66 rfl (lv_at hl 1 rfl) ?_
    refine dq_get (D := D) (ci := 8) (v := .int (nI hn)) (C := RMo) (T := TMo) (N := 29) hx hb hts hinMo hown hK hW 100 m100 rfl 5 (by decide) hf90 (fun _ h9 => h9) rfl dMo_hole_67 ?_
    refine lv_bipush (v := (nI 14)) hx hb dMo_hole_70 (by decide) ?_
    refine lv_icmp_ne (tgt := 79) hx hb dMo_hole_72 (by decide) (fun c1 => ?_) (fun c1 => ?_)
    · refine lv_iload hx hb dMo_hole_79 (lv_at hl 0 rfl) ?_
      refine lv_if_eq (tgt := 88) hx hb dMo_hole_81 (by decide) (fun c2 => ?_) (fun c2 => ?_)
      · refine lv_iconst (v := (2)) hx hb dMo_hole_88 (by decide) ?_
        refine dq_put (D := D) (ci := 8) (v := .int (2)) (ty := .int) (C := RMo) (T := TMo) (N := 29) hx hb hts hinMo tyMo tyMo_ok nmMo hown hK hW hS 100 m100 rfl 0 (by decide) hf79 (fun _ h9 => h9) rfl (by decide +kernel) rfl rfl (Nat.le_of_ble_eq_true rfl) dMo_hole_89 (fun H locs hW hS => ?_)
        refine lv_aload_n hx hb dMo_hole_92 rfl (lv_at hl 1 rfl) ?_
        refine dq_get (D := D) (ci := 8) (v := .int (2)) (C := RMo) (T := TMo) (N := 29) hx hb hts hinMo hown hK hW 100 dq_Us rfl 0 (by decide) hf79 (fun _ h9 => h9) rfl dMo_hole_93 ?_
        refine lv_if_le (tgt := 101) hx hb dMo_hole_96 (by decide) (fun c3 => ?_) (fun c3 => ?_)
        · exact absurd c3 (by decide)
        · refine lv_iconst (v := (0)) hx hb dMo_hole_99 (by decide) ?_
          exact hret _ _ _ _ _ _ ⟨rfl, rfl⟩ hW hS dMo_hole_100
      · exact absurd rfl c2
    · exact absurd ((nI_eq (by omega) (by omega)).mp c1) (by omega)
  refine lv_iload_n hx hb dMo_hole_0 rfl (lv_at hl 1 rfl) ?_
  refine lv_sipush (v := (-10000)) hx hb dMo_hole_1 (by decide) ?_
  refine lv_sipush (v := (10000)) hx hb dMo_hole_4 (by decide) ?_
  refine dq_calli (va_runS (As := [.int a1, .int (-10000), .int (10000)]) (rest := []) ⟨hx, hb, hml, hown, hts⟩ (m_isIn l D g ad (w) _ a1 (-10000) 10000  ) (cwS 3 hts (dq_giS2 tw4_11 tw4_12 tw1_10 tw4_13) rfl rfl rfl (by decide +kernel) ⟨Nat.le_of_ble_eq_true rfl, Nat.le_of_ble_eq_true rfl⟩) (dq_preS hW hS hA hK hZ) rfl rfl hl.1 rfl (lv_room (Nat.le_of_ble_eq_true rfl)) dMo_hole_7 ⟨Nat.zero_le _, Nat.zero_le _⟩) hW hS hA (fun r1 u_9 H locs hp1 hW hS hz9 => ?_)
  obtain ⟨hr1, hu9⟩ := hp1
  rw [hu9] at hW
  subst hr1
  refine lv_if_eq (tgt := 62) hx hb dMo_hole_10 (by decide) (fun c9 => ?_) (fun c9 => ?_)
  · have q0 := dq_b_f c9
    refine lv_iconst (v := (0)) hx hb dMo_hole_62 (by decide) ?_
    exact J 0 _ _ _ (by rw [q0]; rfl) hW hS (lv_sub hl [0, 1, 2, 3, 4, 5] rfl)
  · have q0 := dq_b_t c9
    refine lv_iload_n hx hb dMo_hole_13 rfl (lv_at hl 2 rfl) ?_
    refine lv_sipush (v := (-10000)) hx hb dMo_hole_14 (by decide) ?_
    refine lv_sipush (v := (10000)) hx hb dMo_hole_17 (by decide) ?_
    refine dq_calli (va_runS (As := [.int a2, .int (-10000), .int (10000)]) (rest := []) ⟨hx, hb, hml, hown, hts⟩ (m_isIn l D g ad (w) _ a2 (-10000) 10000  ) (cwS 3 hts (dq_giS2 tw4_11 tw4_12 tw1_10 tw4_13) rfl rfl rfl (by decide +kernel) ⟨Nat.le_of_ble_eq_true rfl, Nat.le_of_ble_eq_true rfl⟩) (dq_preS hW hS hA hK hZ) rfl rfl hl.1 rfl (lv_room (Nat.le_of_ble_eq_true rfl)) dMo_hole_20 ⟨Nat.zero_le _, Nat.zero_le _⟩) hW hS hA (fun r1 u_9 H locs hp1 hW hS hz9 => ?_)
    obtain ⟨hr1, hu9⟩ := hp1
    rw [hu9] at hW
    subst hr1
    refine lv_if_eq (tgt := 62) hx hb dMo_hole_23 (by decide) (fun c9 => ?_) (fun c9 => ?_)
    · have q1 := dq_b_f c9
      refine lv_iconst (v := (0)) hx hb dMo_hole_62 (by decide) ?_
      exact J 0 _ _ _ (by rw [q0, q1]; rfl) hW hS (lv_sub hl [0, 1, 2, 3, 4, 5] rfl)
    · have q1 := dq_b_t c9
      refine lv_iload_n hx hb dMo_hole_26 rfl (lv_at hl 3 rfl) ?_
      refine lv_iconst (v := (1)) hx hb dMo_hole_27 (by decide) ?_
      refine lv_bipush (v := (100)) hx hb dMo_hole_28 (by decide) ?_
      refine dq_calli (va_runS (As := [.int a3, .int (1), .int (100)]) (rest := []) ⟨hx, hb, hml, hown, hts⟩ (m_isIn l D g ad (w) _ a3 1 100  ) (cwS 3 hts (dq_giS2 tw4_11 tw4_12 tw1_10 tw4_13) rfl rfl rfl (by decide +kernel) ⟨Nat.le_of_ble_eq_true rfl, Nat.le_of_ble_eq_true rfl⟩) (dq_preS hW hS hA hK hZ) rfl rfl hl.1 rfl (lv_room (Nat.le_of_ble_eq_true rfl)) dMo_hole_30 ⟨Nat.zero_le _, Nat.zero_le _⟩) hW hS hA (fun r1 u_9 H locs hp1 hW hS hz9 => ?_)
      obtain ⟨hr1, hu9⟩ := hp1
      rw [hu9] at hW
      subst hr1
      refine lv_if_eq (tgt := 62) hx hb dMo_hole_33 (by decide) (fun c9 => ?_) (fun c9 => ?_)
      · have q2 := dq_b_f c9
        refine lv_iconst (v := (0)) hx hb dMo_hole_62 (by decide) ?_
        exact J 0 _ _ _ (by rw [q0, q1, q2]; rfl) hW hS (lv_sub hl [0, 1, 2, 3, 4, 5] rfl)
      · have q2 := dq_b_t c9
        refine lv_iload hx hb dMo_hole_36 (lv_at hl 4 rfl) ?_
        refine lv_iconst (v := (1)) hx hb dMo_hole_38 (by decide) ?_
        refine lv_sipush (v := (1000)) hx hb dMo_hole_39 (by decide) ?_
        refine dq_calli (va_runS (As := [.int a4, .int (1), .int (1000)]) (rest := []) ⟨hx, hb, hml, hown, hts⟩ (m_isIn l D g ad (w) _ a4 1 1000  ) (cwS 3 hts (dq_giS2 tw4_11 tw4_12 tw1_10 tw4_13) rfl rfl rfl (by decide +kernel) ⟨Nat.le_of_ble_eq_true rfl, Nat.le_of_ble_eq_true rfl⟩) (dq_preS hW hS hA hK hZ) rfl rfl hl.1 rfl (lv_room (Nat.le_of_ble_eq_true rfl)) dMo_hole_42 ⟨Nat.zero_le _, Nat.zero_le _⟩) hW hS hA (fun r1 u_9 H locs hp1 hW hS hz9 => ?_)
        obtain ⟨hr1, hu9⟩ := hp1
        rw [hu9] at hW
        subst hr1
        refine lv_if_eq (tgt := 62) hx hb dMo_hole_45 (by decide) (fun c9 => ?_) (fun c9 => ?_)
        · have q3 := dq_b_f c9
          refine lv_iconst (v := (0)) hx hb dMo_hole_62 (by decide) ?_
          exact J 0 _ _ _ (by rw [q0, q1, q2, q3]; rfl) hW hS (lv_sub hl [0, 1, 2, 3, 4, 5] rfl)
        · have q3 := dq_b_t c9
          refine lv_iload hx hb dMo_hole_48 (lv_at hl 5 rfl) ?_
          refine lv_iconst (v := (0)) hx hb dMo_hole_50 (by decide) ?_
          refine lv_iconst (v := (4)) hx hb dMo_hole_51 (by decide) ?_
          refine dq_calli (va_runS (As := [.int a5, .int (0), .int (4)]) (rest := []) ⟨hx, hb, hml, hown, hts⟩ (m_isIn l D g ad (w) _ a5 0 4  ) (cwS 3 hts (dq_giS2 tw4_11 tw4_12 tw1_10 tw4_13) rfl rfl rfl (by decide +kernel) ⟨Nat.le_of_ble_eq_true rfl, Nat.le_of_ble_eq_true rfl⟩) (dq_preS hW hS hA hK hZ) rfl rfl hl.1 rfl (lv_room (Nat.le_of_ble_eq_true rfl)) dMo_hole_52 ⟨Nat.zero_le _, Nat.zero_le _⟩) hW hS hA (fun r1 u_9 H locs hp1 hW hS hz9 => ?_)
          obtain ⟨hr1, hu9⟩ := hp1
          rw [hu9] at hW
          subst hr1
          refine lv_if_eq (tgt := 62) hx hb dMo_hole_55 (by decide) (fun c9 => ?_) (fun c9 => ?_)
          · have q4 := dq_b_f c9
            refine lv_iconst (v := (0)) hx hb dMo_hole_62 (by decide) ?_
            exact J 0 _ _ _ (by rw [q0, q1, q2, q3, q4]; rfl) hW hS (lv_sub hl [0, 1, 2, 3, 4, 5] rfl)
          · have q4 := dq_b_t c9
            refine lv_iconst (v := (1)) hx hb dMo_hole_58 (by decide) ?_
            refine lv_goto (tgt := 63) hx hb dMo_hole_59 (by decide) ?_
            exact J 1 _ _ _ (by rw [q0, q1, q2, q3, q4]; rfl) hW hS (lv_sub hl [0, 1, 2, 3, 4, 5] rfl)

set_option maxHeartbeats 4000000 in
set_option maxRecDepth 100000 in
/-- hole -/
theorem m_hole (l : Launch) (D : va_G) (g : Nat → ClassId) (ad : Nat → Nat) (w : Nat → Option va_E) (sz : Nat) (cd : Int32) (n hn cn : Nat) (pl : Int32) (tn : Nat) (sg : Int32) (wy : Int64) (px py pw pd pf pt : Nat → Int32) (a1 a2 a3 a4 a5 : Int32) (m100 : w 100 = some (.inr (8, [.int cd, .int (nI n), .ref (ad 102), .ref (ad 103), .ref (ad 104), .int (nI hn), .ref (ad 106), .ref (ad 107), .ref (ad 108), .ref (ad 109), .ref (ad 110), .ref (ad 111), .int (nI cn), .ref (ad 113), .int pl, .int (nI tn), .ref (ad 116), .ref (ad 117), .ref (ad 118), .ref (ad 119), .int sg, .ref (ad 121), .long wy, .ref (ad 123), .ref (ad 124), .ref (ad 125), .ref (ad 126), .ref (ad 127), .ref (ad 128)]))) (m106 : w 106 = some (.inl (g 0, 14, .inl px))) (m107 : w 107 = some (.inl (g 0, 14, .inl py))) (m108 : w 108 = some (.inl (g 0, 14, .inl pw))) (m109 : w 109 = some (.inl (g 0, 14, .inl pd))) (m110 : w 110 = some (.inl (g 0, 14, .inl pf))) (hpc : hn < 14) (h0 : (((((mr_in a1 (-10000) 10000 && mr_in a2 (-10000) 10000) && mr_in a3 1 100) && mr_in a4 1 1000) && mr_in a5 0 4)) = true) : Met l yMo_hole wsMo_hole ({ frames := 1, cells := 0, slots := 0, locals := 24 } : Room) (va_Pc [.ref (ad 100), .int a1, .int a2, .int a3, .int a4, .int a5] (dq_S D vwCl (dq_t g) ad w sz)) (va_Qi (fun r u => r = nI hn ∧ u = dq_U (dq_U (dq_U (dq_U (dq_U (dq_U w 100 (.inr (8, [.int 0, .int (nI n), .ref (ad 102), .ref (ad 103), .ref (ad 104), .int (nI (hn + 1)), .ref (ad 106), .ref (ad 107), .ref (ad 108), .ref (ad 109), .ref (ad 110), .ref (ad 111), .int (nI cn), .ref (ad 113), .int 0, .int (nI tn), .ref (ad 116), .ref (ad 117), .ref (ad 118), .ref (ad 119), .int sg, .ref (ad 121), .long wy, .ref (ad 123), .ref (ad 124), .ref (ad 125), .ref (ad 126), .ref (ad 127), .ref (ad 128)]))) 106 (.inl (g 0, 14, .inl (upd px hn a1)))) 107 (.inl (g 0, 14, .inl (upd py hn a2)))) 108 (.inl (g 0, 14, .inl (upd pw hn a3)))) 109 (.inl (g 0, 14, .inl (upd pd hn a4)))) 110 (.inl (g 0, 14, .inl (upd pf hn a5)))) (dq_B D vwCl (dq_t g) ad (dq_A ad w sz)) (dq_A ad w sz)) 0 0 (dq_A ad w sz) := by
  refine dq_ofi (cc := cMo_hole) (maxL := 7) (by decide) rfl (Nat.le_of_ble_eq_true rfl) ?_
  intro p e s m below meth c A Q ls ⟨hx, hb, hml, hown, hts⟩ hnm hA hW hK hZ hl hret
  have hS : va_S A s.heap s.heap [] := va_S.rf
  have hl : lv_has ls 7 [(0, .ref (ad 100)), (1, .int a1), (2, .int a2), (3, .int a3), (4, .int a4), (5, .int a5)] := hl
  have hf19 := hts _ (List.mem_cons_of_mem _ tw3_160)
  have hf22 := hts _ (List.mem_cons_of_mem _ tw3_161)
  have hf25 := hts _ (List.mem_cons_of_mem _ tw3_162)
  have hf28 := hts _ (List.mem_cons_of_mem _ tw3_163)
  have hf31 := hts _ (List.mem_cons_of_mem _ tw3_164)
  have hf79 := hts _ (List.mem_cons_of_mem _ tw3_154)
  have hf86 := hts _ (List.mem_cons_of_mem _ tw3_168)
  have hf90 := hts _ (List.mem_cons_of_mem _ tw3_159)
  have hinMo : ∀ w ∈ u_ws RMo TMo 29, w ∈ wsMo_hole := fun w h => List.mem_cons_of_mem _ (inMo w h)
  have J : ∀ (v : Int32) (H : Heap) (locs : List Loc) (ls : Array Slot), v = dq_b (((((mr_in a1 (-10000) 10000 && mr_in a2 (-10000) 10000) && mr_in a3 1 100) && mr_in a4 1 1000) && mr_in a5 0 4)) → dq_W D vwCl ad (w) A H → va_S A s.heap H locs → lv_has ls 7 [(0, .ref (ad 100)), (1, .int a1), (2, .int a2), (3, .int a3), (4, .int a4), (5, .int a5)] → W p l e ({ frames := 1, cells := 0, slots := 0, locals := 24 } : Room) s m ([.ref (ad 100), .int a1, .int a2, .int a3, .int a4, .int a5] : List Value).toArray below meth c H locs 0 0 Q (F0 m 63 ls [.int v]) := by
    intro v H locs ls hv hW hS hl
    rw [h0] at hv
    subst hv
    refine lv_istore (lv' := [(6, .int (dq_b true)), (0, .ref (ad 100)), (1, .int a1), (2, .int a2), (3, .int a3), (4, .int a4), (5, .int a5)]) hx hb dMo_hole_63 hl (by decide) rfl (fun ls hl => ?_)
    refine lv_aload_n hx hb dMo_hole_65 rfl (lv_at hl 1 rfl) ?_
    refine lv_aload_n hx hb dMo_hole_66 rfl (lv_at hl 1 rfl) ?_
    refine dq_get (D := D) (ci := 8) (v := .int (nI hn)) (C := RMo) (T := TMo) (N := 29) hx hb hts hinMo hown hK hW 100 m100 rfl 5 (by decide) hf90 (fun _ h9 => h9) rfl dMo_hole_67 ?_
    refine lv_bipush (v := (nI 14)) hx hb dMo_hole_70 (by decide) ?_
    refine lv_icmp_ne (tgt := 79) hx hb dMo_hole_72 (by decide) (fun c1 => ?_) (fun c1 => ?_)
    · refine lv_iload hx hb dMo_hole_79 (lv_at hl 0 rfl) ?_
      refine lv_if_eq (tgt := 88) hx hb dMo_hole_81 (by decide) (fun c2 => ?_) (fun c2 => ?_)
      · exact absurd c2 (by decide)
      · refine lv_iconst (v := (0)) hx hb dMo_hole_84 (by decide) ?_
        refine lv_goto (tgt := 89) hx hb dMo_hole_85 (by decide) ?_
        refine dq_put (D := D) (ci := 8) (v := .int (0)) (ty := .int) (C := RMo) (T := TMo) (N := 29) hx hb hts hinMo tyMo tyMo_ok nmMo hown hK hW hS 100 m100 rfl 0 (by decide) hf79 (fun _ h9 => h9) rfl (by decide +kernel) rfl rfl (Nat.le_of_ble_eq_true rfl) dMo_hole_89 (fun H locs hW hS => ?_)
        refine lv_aload_n hx hb dMo_hole_92 rfl (lv_at hl 1 rfl) ?_
        refine dq_get (D := D) (ci := 8) (v := .int (0)) (C := RMo) (T := TMo) (N := 29) hx hb hts hinMo hown hK hW 100 dq_Us rfl 0 (by decide) hf79 (fun _ h9 => h9) rfl dMo_hole_93 ?_
        refine lv_if_le (tgt := 101) hx hb dMo_hole_96 (by decide) (fun c3 => ?_) (fun c3 => ?_)
        · refine lv_aload_n hx hb dMo_hole_101 rfl (lv_at hl 1 rfl) ?_
          refine dq_get (D := D) (ci := 8) (v := .ref (ad 106)) (C := RMo) (T := TMo) (N := 29) hx hb hts hinMo hown hK hW 100 dq_Us rfl 6 (by decide) hf19 (fun _ h9 => h9) rfl dMo_hole_102 ?_
          refine lv_aload_n hx hb dMo_hole_105 rfl (lv_at hl 1 rfl) ?_
          refine dq_get (D := D) (ci := 8) (v := .int (nI hn)) (C := RMo) (T := TMo) (N := 29) hx hb hts hinMo hown hK hW 100 dq_Us rfl 5 (by decide) hf90 (fun _ h9 => h9) rfl dMo_hole_106 ?_
          refine lv_iload_n hx hb dMo_hole_109 rfl (lv_at hl 2 rfl) ?_
          refine dq_iastN hx hb hK hW hS 106 0 ((dq_Un (by decide)).trans m106) rfl hn (by omega) (by omega) dMo_hole_110 (fun H locs hW hS => ?_)
          refine lv_aload_n hx hb dMo_hole_111 rfl (lv_at hl 1 rfl) ?_
          refine dq_get (D := D) (ci := 8) (v := .ref (ad 107)) (C := RMo) (T := TMo) (N := 29) hx hb hts hinMo hown hK hW 100 ((dq_Un (by decide)).trans dq_Us) rfl 7 (by decide) hf22 (fun _ h9 => h9) rfl dMo_hole_112 ?_
          refine lv_aload_n hx hb dMo_hole_115 rfl (lv_at hl 1 rfl) ?_
          refine dq_get (D := D) (ci := 8) (v := .int (nI hn)) (C := RMo) (T := TMo) (N := 29) hx hb hts hinMo hown hK hW 100 ((dq_Un (by decide)).trans dq_Us) rfl 5 (by decide) hf90 (fun _ h9 => h9) rfl dMo_hole_116 ?_
          refine lv_iload_n hx hb dMo_hole_119 rfl (lv_at hl 3 rfl) ?_
          refine dq_iastN hx hb hK hW hS 107 0 ((dq_Un (by decide)).trans ((dq_Un (by decide)).trans m107)) rfl hn (by omega) (by omega) dMo_hole_120 (fun H locs hW hS => ?_)
          refine lv_aload_n hx hb dMo_hole_121 rfl (lv_at hl 1 rfl) ?_
          refine dq_get (D := D) (ci := 8) (v := .ref (ad 108)) (C := RMo) (T := TMo) (N := 29) hx hb hts hinMo hown hK hW 100 ((dq_Un (by decide)).trans ((dq_Un (by decide)).trans dq_Us)) rfl 8 (by decide) hf25 (fun _ h9 => h9) rfl dMo_hole_122 ?_
          refine lv_aload_n hx hb dMo_hole_125 rfl (lv_at hl 1 rfl) ?_
          refine dq_get (D := D) (ci := 8) (v := .int (nI hn)) (C := RMo) (T := TMo) (N := 29) hx hb hts hinMo hown hK hW 100 ((dq_Un (by decide)).trans ((dq_Un (by decide)).trans dq_Us)) rfl 5 (by decide) hf90 (fun _ h9 => h9) rfl dMo_hole_126 ?_
          refine lv_iload_n hx hb dMo_hole_129 rfl (lv_at hl 4 rfl) ?_
          refine dq_iastN hx hb hK hW hS 108 0 ((dq_Un (by decide)).trans ((dq_Un (by decide)).trans ((dq_Un (by decide)).trans m108))) rfl hn (by omega) (by omega) dMo_hole_130 (fun H locs hW hS => ?_)
          refine lv_aload_n hx hb dMo_hole_131 rfl (lv_at hl 1 rfl) ?_
          refine dq_get (D := D) (ci := 8) (v := .ref (ad 109)) (C := RMo) (T := TMo) (N := 29) hx hb hts hinMo hown hK hW 100 ((dq_Un (by decide)).trans ((dq_Un (by decide)).trans ((dq_Un (by decide)).trans dq_Us))) rfl 9 (by decide) hf28 (fun _ h9 => h9) rfl dMo_hole_132 ?_
          refine lv_aload_n hx hb dMo_hole_135 rfl (lv_at hl 1 rfl) ?_
          refine dq_get (D := D) (ci := 8) (v := .int (nI hn)) (C := RMo) (T := TMo) (N := 29) hx hb hts hinMo hown hK hW 100 ((dq_Un (by decide)).trans ((dq_Un (by decide)).trans ((dq_Un (by decide)).trans dq_Us))) rfl 5 (by decide) hf90 (fun _ h9 => h9) rfl dMo_hole_136 ?_
          refine lv_iload hx hb dMo_hole_139 (lv_at hl 5 rfl) ?_
          refine dq_iastN hx hb hK hW hS 109 0 ((dq_Un (by decide)).trans ((dq_Un (by decide)).trans ((dq_Un (by decide)).trans ((dq_Un (by decide)).trans m109)))) rfl hn (by omega) (by omega) dMo_hole_141 (fun H locs hW hS => ?_)
          refine lv_aload_n hx hb dMo_hole_142 rfl (lv_at hl 1 rfl) ?_
          refine dq_get (D := D) (ci := 8) (v := .ref (ad 110)) (C := RMo) (T := TMo) (N := 29) hx hb hts hinMo hown hK hW 100 ((dq_Un (by decide)).trans ((dq_Un (by decide)).trans ((dq_Un (by decide)).trans ((dq_Un (by decide)).trans dq_Us)))) rfl 10 (by decide) hf31 (fun _ h9 => h9) rfl dMo_hole_143 ?_
          refine lv_aload_n hx hb dMo_hole_146 rfl (lv_at hl 1 rfl) ?_
          refine dq_get (D := D) (ci := 8) (v := .int (nI hn)) (C := RMo) (T := TMo) (N := 29) hx hb hts hinMo hown hK hW 100 ((dq_Un (by decide)).trans ((dq_Un (by decide)).trans ((dq_Un (by decide)).trans ((dq_Un (by decide)).trans dq_Us)))) rfl 5 (by decide) hf90 (fun _ h9 => h9) rfl dMo_hole_147 ?_
          refine lv_iload hx hb dMo_hole_150 (lv_at hl 6 rfl) ?_
          refine dq_iastN hx hb hK hW hS 110 0 ((dq_Un (by decide)).trans ((dq_Un (by decide)).trans ((dq_Un (by decide)).trans ((dq_Un (by decide)).trans ((dq_Un (by decide)).trans m110))))) rfl hn (by omega) (by omega) dMo_hole_152 (fun H locs hW hS => ?_)
          refine lv_aload_n hx hb dMo_hole_153 rfl (lv_at hl 1 rfl) ?_
          refine lv_dup hx hb dMo_hole_154 rfl ?_
          refine dq_get (D := D) (ci := 8) (v := .int (nI hn)) (C := RMo) (T := TMo) (N := 29) hx hb hts hinMo hown hK hW 100 ((dq_Un (by decide)).trans ((dq_Un (by decide)).trans ((dq_Un (by decide)).trans ((dq_Un (by decide)).trans ((dq_Un (by decide)).trans dq_Us))))) rfl 5 (by decide) hf90 (fun _ h9 => h9) rfl dMo_hole_155 ?_
          refine lv_iconst (v := (1)) hx hb dMo_hole_158 (by decide) ?_
          refine lv_iadd hx hb dMo_hole_159 ?_
          refine dq_top (y := nI (hn + 1)) (nI_1 hn) ?_
          refine dq_put (D := D) (ci := 8) (v := .int (nI (hn + 1))) (ty := .int) (C := RMo) (T := TMo) (N := 29) hx hb hts hinMo tyMo tyMo_ok nmMo hown hK hW hS 100 ((dq_Un (by decide)).trans ((dq_Un (by decide)).trans ((dq_Un (by decide)).trans ((dq_Un (by decide)).trans ((dq_Un (by decide)).trans dq_Us))))) rfl 5 (by decide) hf90 (fun _ h9 => h9) rfl (by decide +kernel) rfl rfl (Nat.le_of_ble_eq_true rfl) dMo_hole_160 (fun H locs hW hS => ?_)
          have hW : dq_W D vwCl ad (dq_U (dq_U (dq_U (dq_U (dq_U (dq_U w 100 (.inr (8, [.int (0), .int (nI n), .ref (ad 102), .ref (ad 103), .ref (ad 104), .int (nI (hn + 1)), .ref (ad 106), .ref (ad 107), .ref (ad 108), .ref (ad 109), .ref (ad 110), .ref (ad 111), .int (nI cn), .ref (ad 113), .int pl, .int (nI tn), .ref (ad 116), .ref (ad 117), .ref (ad 118), .ref (ad 119), .int sg, .ref (ad 121), .long wy, .ref (ad 123), .ref (ad 124), .ref (ad 125), .ref (ad 126), .ref (ad 127), .ref (ad 128)]))) 106 (.inl (g 0, 14, .inl (upd px hn a1)))) 107 (.inl (g 0, 14, .inl (upd py hn a2)))) 108 (.inl (g 0, 14, .inl (upd pw hn a3)))) 109 (.inl (g 0, 14, .inl (upd pd hn a4)))) 110 (.inl (g 0, 14, .inl (upd pf hn a5)))) A H := dq_Wc (by funext j; unfold dq_U; (repeat' split) <;> first | rfl | omega) hW
          refine lv_aload_n hx hb dMo_hole_163 rfl (lv_at hl 1 rfl) ?_
          refine lv_iconst (v := (0)) hx hb dMo_hole_164 (by decide) ?_
          refine dq_put (D := D) (ci := 8) (v := .int (0)) (ty := .boolean) (C := RMo) (T := TMo) (N := 29) hx hb hts hinMo tyMo tyMo_ok nmMo hown hK hW hS 100 ((dq_Un (by decide)).trans ((dq_Un (by decide)).trans ((dq_Un (by decide)).trans ((dq_Un (by decide)).trans ((dq_Un (by decide)).trans dq_Us))))) rfl 14 (by decide) hf86 (fun _ h9 => h9) rfl (by decide +kernel) rfl rfl (Nat.le_of_ble_eq_true rfl) dMo_hole_165 (fun H locs hW hS => ?_)
          have hW : dq_W D vwCl ad (dq_U (dq_U (dq_U (dq_U (dq_U (dq_U w 100 (.inr (8, [.int (0), .int (nI n), .ref (ad 102), .ref (ad 103), .ref (ad 104), .int (nI (hn + 1)), .ref (ad 106), .ref (ad 107), .ref (ad 108), .ref (ad 109), .ref (ad 110), .ref (ad 111), .int (nI cn), .ref (ad 113), .int (0), .int (nI tn), .ref (ad 116), .ref (ad 117), .ref (ad 118), .ref (ad 119), .int sg, .ref (ad 121), .long wy, .ref (ad 123), .ref (ad 124), .ref (ad 125), .ref (ad 126), .ref (ad 127), .ref (ad 128)]))) 106 (.inl (g 0, 14, .inl (upd px hn a1)))) 107 (.inl (g 0, 14, .inl (upd py hn a2)))) 108 (.inl (g 0, 14, .inl (upd pw hn a3)))) 109 (.inl (g 0, 14, .inl (upd pd hn a4)))) 110 (.inl (g 0, 14, .inl (upd pf hn a5)))) A H := dq_Wc (by funext j; unfold dq_U; (repeat' split) <;> first | rfl | omega) hW
          refine lv_aload_n hx hb dMo_hole_168 rfl (lv_at hl 1 rfl) ?_
          refine dq_get (D := D) (ci := 8) (v := .int (nI (hn + 1))) (C := RMo) (T := TMo) (N := 29) hx hb hts hinMo hown hK hW 100 ((dq_Un (by decide)).trans ((dq_Un (by decide)).trans ((dq_Un (by decide)).trans ((dq_Un (by decide)).trans ((dq_Un (by decide)).trans dq_Us))))) rfl 5 (by decide) hf90 (fun _ h9 => h9) rfl dMo_hole_169 ?_
          refine lv_iconst (v := (1)) hx hb dMo_hole_172 (by decide) ?_
          refine lv_isub hx hb dMo_hole_173 ?_
          refine dq_top (y := nI hn) (nI_pred hn) ?_
          exact hret _ _ _ _ _ _ ⟨rfl, rfl⟩ hW hS dMo_hole_174
        · exact absurd (by decide) c3
    · exact absurd ((nI_eq (by omega) (by omega)).mp c1) (by omega)
  refine lv_iload_n hx hb dMo_hole_0 rfl (lv_at hl 1 rfl) ?_
  refine lv_sipush (v := (-10000)) hx hb dMo_hole_1 (by decide) ?_
  refine lv_sipush (v := (10000)) hx hb dMo_hole_4 (by decide) ?_
  refine dq_calli (va_runS (As := [.int a1, .int (-10000), .int (10000)]) (rest := []) ⟨hx, hb, hml, hown, hts⟩ (m_isIn l D g ad (w) _ a1 (-10000) 10000  ) (cwS 3 hts (dq_giS2 tw4_11 tw4_12 tw1_10 tw4_13) rfl rfl rfl (by decide +kernel) ⟨Nat.le_of_ble_eq_true rfl, Nat.le_of_ble_eq_true rfl⟩) (dq_preS hW hS hA hK hZ) rfl rfl hl.1 rfl (lv_room (Nat.le_of_ble_eq_true rfl)) dMo_hole_7 ⟨Nat.zero_le _, Nat.zero_le _⟩) hW hS hA (fun r1 u_9 H locs hp1 hW hS hz9 => ?_)
  obtain ⟨hr1, hu9⟩ := hp1
  rw [hu9] at hW
  subst hr1
  refine lv_if_eq (tgt := 62) hx hb dMo_hole_10 (by decide) (fun c9 => ?_) (fun c9 => ?_)
  · have q0 := dq_b_f c9
    refine lv_iconst (v := (0)) hx hb dMo_hole_62 (by decide) ?_
    exact J 0 _ _ _ (by rw [q0]; rfl) hW hS (lv_sub hl [0, 1, 2, 3, 4, 5] rfl)
  · have q0 := dq_b_t c9
    refine lv_iload_n hx hb dMo_hole_13 rfl (lv_at hl 2 rfl) ?_
    refine lv_sipush (v := (-10000)) hx hb dMo_hole_14 (by decide) ?_
    refine lv_sipush (v := (10000)) hx hb dMo_hole_17 (by decide) ?_
    refine dq_calli (va_runS (As := [.int a2, .int (-10000), .int (10000)]) (rest := []) ⟨hx, hb, hml, hown, hts⟩ (m_isIn l D g ad (w) _ a2 (-10000) 10000  ) (cwS 3 hts (dq_giS2 tw4_11 tw4_12 tw1_10 tw4_13) rfl rfl rfl (by decide +kernel) ⟨Nat.le_of_ble_eq_true rfl, Nat.le_of_ble_eq_true rfl⟩) (dq_preS hW hS hA hK hZ) rfl rfl hl.1 rfl (lv_room (Nat.le_of_ble_eq_true rfl)) dMo_hole_20 ⟨Nat.zero_le _, Nat.zero_le _⟩) hW hS hA (fun r1 u_9 H locs hp1 hW hS hz9 => ?_)
    obtain ⟨hr1, hu9⟩ := hp1
    rw [hu9] at hW
    subst hr1
    refine lv_if_eq (tgt := 62) hx hb dMo_hole_23 (by decide) (fun c9 => ?_) (fun c9 => ?_)
    · have q1 := dq_b_f c9
      refine lv_iconst (v := (0)) hx hb dMo_hole_62 (by decide) ?_
      exact J 0 _ _ _ (by rw [q0, q1]; rfl) hW hS (lv_sub hl [0, 1, 2, 3, 4, 5] rfl)
    · have q1 := dq_b_t c9
      refine lv_iload_n hx hb dMo_hole_26 rfl (lv_at hl 3 rfl) ?_
      refine lv_iconst (v := (1)) hx hb dMo_hole_27 (by decide) ?_
      refine lv_bipush (v := (100)) hx hb dMo_hole_28 (by decide) ?_
      refine dq_calli (va_runS (As := [.int a3, .int (1), .int (100)]) (rest := []) ⟨hx, hb, hml, hown, hts⟩ (m_isIn l D g ad (w) _ a3 1 100  ) (cwS 3 hts (dq_giS2 tw4_11 tw4_12 tw1_10 tw4_13) rfl rfl rfl (by decide +kernel) ⟨Nat.le_of_ble_eq_true rfl, Nat.le_of_ble_eq_true rfl⟩) (dq_preS hW hS hA hK hZ) rfl rfl hl.1 rfl (lv_room (Nat.le_of_ble_eq_true rfl)) dMo_hole_30 ⟨Nat.zero_le _, Nat.zero_le _⟩) hW hS hA (fun r1 u_9 H locs hp1 hW hS hz9 => ?_)
      obtain ⟨hr1, hu9⟩ := hp1
      rw [hu9] at hW
      subst hr1
      refine lv_if_eq (tgt := 62) hx hb dMo_hole_33 (by decide) (fun c9 => ?_) (fun c9 => ?_)
      · have q2 := dq_b_f c9
        refine lv_iconst (v := (0)) hx hb dMo_hole_62 (by decide) ?_
        exact J 0 _ _ _ (by rw [q0, q1, q2]; rfl) hW hS (lv_sub hl [0, 1, 2, 3, 4, 5] rfl)
      · have q2 := dq_b_t c9
        refine lv_iload hx hb dMo_hole_36 (lv_at hl 4 rfl) ?_
        refine lv_iconst (v := (1)) hx hb dMo_hole_38 (by decide) ?_
        refine lv_sipush (v := (1000)) hx hb dMo_hole_39 (by decide) ?_
        refine dq_calli (va_runS (As := [.int a4, .int (1), .int (1000)]) (rest := []) ⟨hx, hb, hml, hown, hts⟩ (m_isIn l D g ad (w) _ a4 1 1000  ) (cwS 3 hts (dq_giS2 tw4_11 tw4_12 tw1_10 tw4_13) rfl rfl rfl (by decide +kernel) ⟨Nat.le_of_ble_eq_true rfl, Nat.le_of_ble_eq_true rfl⟩) (dq_preS hW hS hA hK hZ) rfl rfl hl.1 rfl (lv_room (Nat.le_of_ble_eq_true rfl)) dMo_hole_42 ⟨Nat.zero_le _, Nat.zero_le _⟩) hW hS hA (fun r1 u_9 H locs hp1 hW hS hz9 => ?_)
        obtain ⟨hr1, hu9⟩ := hp1
        rw [hu9] at hW
        subst hr1
        refine lv_if_eq (tgt := 62) hx hb dMo_hole_45 (by decide) (fun c9 => ?_) (fun c9 => ?_)
        · have q3 := dq_b_f c9
          refine lv_iconst (v := (0)) hx hb dMo_hole_62 (by decide) ?_
          exact J 0 _ _ _ (by rw [q0, q1, q2, q3]; rfl) hW hS (lv_sub hl [0, 1, 2, 3, 4, 5] rfl)
        · have q3 := dq_b_t c9
          refine lv_iload hx hb dMo_hole_48 (lv_at hl 5 rfl) ?_
          refine lv_iconst (v := (0)) hx hb dMo_hole_50 (by decide) ?_
          refine lv_iconst (v := (4)) hx hb dMo_hole_51 (by decide) ?_
          refine dq_calli (va_runS (As := [.int a5, .int (0), .int (4)]) (rest := []) ⟨hx, hb, hml, hown, hts⟩ (m_isIn l D g ad (w) _ a5 0 4  ) (cwS 3 hts (dq_giS2 tw4_11 tw4_12 tw1_10 tw4_13) rfl rfl rfl (by decide +kernel) ⟨Nat.le_of_ble_eq_true rfl, Nat.le_of_ble_eq_true rfl⟩) (dq_preS hW hS hA hK hZ) rfl rfl hl.1 rfl (lv_room (Nat.le_of_ble_eq_true rfl)) dMo_hole_52 ⟨Nat.zero_le _, Nat.zero_le _⟩) hW hS hA (fun r1 u_9 H locs hp1 hW hS hz9 => ?_)
          obtain ⟨hr1, hu9⟩ := hp1
          rw [hu9] at hW
          subst hr1
          refine lv_if_eq (tgt := 62) hx hb dMo_hole_55 (by decide) (fun c9 => ?_) (fun c9 => ?_)
          · have q4 := dq_b_f c9
            refine lv_iconst (v := (0)) hx hb dMo_hole_62 (by decide) ?_
            exact J 0 _ _ _ (by rw [q0, q1, q2, q3, q4]; rfl) hW hS (lv_sub hl [0, 1, 2, 3, 4, 5] rfl)
          · have q4 := dq_b_t c9
            refine lv_iconst (v := (1)) hx hb dMo_hole_58 (by decide) ?_
            refine lv_goto (tgt := 63) hx hb dMo_hole_59 (by decide) ?_
            exact J 1 _ _ _ (by rw [q0, q1, q2, q3, q4]; rfl) hW hS (lv_sub hl [0, 1, 2, 3, 4, 5] rfl)
set_option maxHeartbeats 4000000 in
set_option maxRecDepth 100000 in
/-- through, no such hole -/
theorem m_through1 (l : Launch) (D : va_G) (g : Nat → ClassId) (ad : Nat → Nat) (w : Nat → Option va_E) (sz : Nat) (cd : Int32) (n hn cn : Nat) (pl : Int32) (tn : Nat) (sg : Int32) (wy : Int64) (pt : Nat → Int32) (a0 a1 : Int32) (m100 : w 100 = some (.inr (8, [.int cd, .int (nI n), .ref (ad 102), .ref (ad 103), .ref (ad 104), .int (nI hn), .ref (ad 106), .ref (ad 107), .ref (ad 108), .ref (ad 109), .ref (ad 110), .ref (ad 111), .int (nI cn), .ref (ad 113), .int pl, .int (nI tn), .ref (ad 116), .ref (ad 117), .ref (ad 118), .ref (ad 119), .int sg, .ref (ad 121), .long wy, .ref (ad 123), .ref (ad 124), .ref (ad 125), .ref (ad 126), .ref (ad 127), .ref (ad 128)]))) (m111 : w 111 = some (.inl (g 1, 14, .inl pt))) (h0 : a0 < 0 ∨ ¬ a0 < nI hn) : Met l yMo_through wsMo_through ({ frames := 1, cells := 0, slots := 0, locals := 24 } : Room) (va_Pc [.ref (ad 100), .int a0, .int a1] (dq_S D vwCl (dq_t g) ad w sz)) (va_Qi (fun r u => r = 0 ∧ u = dq_U w 100 (.inr (8, [.int 1, .int (nI n), .ref (ad 102), .ref (ad 103), .ref (ad 104), .int (nI hn), .ref (ad 106), .ref (ad 107), .ref (ad 108), .ref (ad 109), .ref (ad 110), .ref (ad 111), .int (nI cn), .ref (ad 113), .int pl, .int (nI tn), .ref (ad 116), .ref (ad 117), .ref (ad 118), .ref (ad 119), .int sg, .ref (ad 121), .long wy, .ref (ad 123), .ref (ad 124), .ref (ad 125), .ref (ad 126), .ref (ad 127), .ref (ad 128)]))) (dq_B D vwCl (dq_t g) ad (dq_A ad w sz)) (dq_A ad w sz)) 0 0 (dq_A ad w sz) := by
  refine dq_ofz (cc := cMo_through) (maxL := 3) (by decide) rfl (Nat.le_of_ble_eq_true rfl) ?_
  intro p e s m below meth c A Q ls ⟨hx, hb, hml, hown, hts⟩ hnm hA hW hK hZ hl hret
  have hS : va_S A s.heap s.heap [] := va_S.rf
  have hl : lv_has ls 3 [(0, .ref (ad 100)), (1, .int a0), (2, .int a1)] := hl
  have hf34 := hts _ (List.mem_cons_of_mem _ tw3_165)
  have hf86 := hts _ (List.mem_cons_of_mem _ tw3_168)
  have hinMo : ∀ w ∈ u_ws RMo TMo 29, w ∈ wsMo_through := fun w h => List.mem_cons_of_mem _ (inMo w h)
  refine lv_aload_n hx hb dMo_through_0 rfl (lv_at hl 0 rfl) ?_
  refine lv_iload_n hx hb dMo_through_1 rfl (lv_at hl 1 rfl) ?_
  refine dq_calli (va_runV (As := [.int a0]) (rest := []) ⟨hx, hb, hml, hown, hts⟩ (m_noHole_y l D g ad (w) _ cd n hn cn pl tn sg wy a0 m100 h0) (cwV 1 hts (dq_giV tw4_22 tw4_24 twp_16 tw1_10 tw4_25) rfl rfl rfl (by decide +kernel) ⟨Nat.le_of_ble_eq_true rfl, Nat.le_of_ble_eq_true rfl⟩) (dq_preV (ci := 8) hW hS hA hK hZ m100 rfl rfl) rfl rfl hl.1 rfl (lv_room (Nat.le_of_ble_eq_true rfl)) dMo_through_2 ⟨Nat.zero_le _, Nat.zero_le _⟩) hW hS hA (fun r1 u_9 H locs hp1 hW hS hz9 => ?_)
  obtain ⟨hr1, hu9⟩ := hp1
  rw [hu9] at hW
  subst hr1
  refine lv_if_ne (tgt := 18) hx hb dMo_through_5 (by decide) (fun c1 => ?_) (fun c1 => ?_)
  · refine lv_iconst (v := (0)) hx hb dMo_through_18 (by decide) ?_
    exact hret _ _ _ _ _ _ ⟨rfl, rfl⟩ (by decide) hW hS dMo_through_19
  · exact absurd c1 (by decide)

set_option maxHeartbeats 4000000 in
set_option maxRecDepth 100000 in
/-- through -/
theorem m_through_no (l : Launch) (D : va_G) (g : Nat → ClassId) (ad : Nat → Nat) (w : Nat → Option va_E) (sz : Nat) (cd : Int32) (n hn cn : Nat) (pl : Int32) (tn : Nat) (sg : Int32) (wy : Int64) (pt : Nat → Int32) (h : Nat) (a1 : Int32) (m100 : w 100 = some (.inr (8, [.int cd, .int (nI n), .ref (ad 102), .ref (ad 103), .ref (ad 104), .int (nI hn), .ref (ad 106), .ref (ad 107), .ref (ad 108), .ref (ad 109), .ref (ad 110), .ref (ad 111), .int (nI cn), .ref (ad 113), .int pl, .int (nI tn), .ref (ad 116), .ref (ad 117), .ref (ad 118), .ref (ad 119), .int sg, .ref (ad 121), .long wy, .ref (ad 123), .ref (ad 124), .ref (ad 125), .ref (ad 126), .ref (ad 127), .ref (ad 128)]))) (m111 : w 111 = some (.inl (g 1, 14, .inl pt))) (hh : h < hn) (hpc : hn ≤ 14) (e1 : pt h = a1) : Met l yMo_through wsMo_through ({ frames := 1, cells := 0, slots := 0, locals := 24 } : Room) (va_Pc [.ref (ad 100), .int (nI h), .int a1] (dq_S D vwCl (dq_t g) ad w sz)) (va_Qi (fun r u => r = 0 ∧ u = dq_U w 100 (.inr (8, [.int 0, .int (nI n), .ref (ad 102), .ref (ad 103), .ref (ad 104), .int (nI hn), .ref (ad 106), .ref (ad 107), .ref (ad 108), .ref (ad 109), .ref (ad 110), .ref (ad 111), .int (nI cn), .ref (ad 113), .int pl, .int (nI tn), .ref (ad 116), .ref (ad 117), .ref (ad 118), .ref (ad 119), .int sg, .ref (ad 121), .long wy, .ref (ad 123), .ref (ad 124), .ref (ad 125), .ref (ad 126), .ref (ad 127), .ref (ad 128)]))) (dq_B D vwCl (dq_t g) ad (dq_A ad w sz)) (dq_A ad w sz)) 0 0 (dq_A ad w sz) := by
  refine dq_ofz (cc := cMo_through) (maxL := 3) (by decide) rfl (Nat.le_of_ble_eq_true rfl) ?_
  intro p e s m below meth c A Q ls ⟨hx, hb, hml, hown, hts⟩ hnm hA hW hK hZ hl hret
  have hS : va_S A s.heap s.heap [] := va_S.rf
  have hl : lv_has ls 3 [(0, .ref (ad 100)), (1, .int (nI h)), (2, .int a1)] := hl
  have hf34 := hts _ (List.mem_cons_of_mem _ tw3_165)
  have hf86 := hts _ (List.mem_cons_of_mem _ tw3_168)
  have hinMo : ∀ w ∈ u_ws RMo TMo 29, w ∈ wsMo_through := fun w h => List.mem_cons_of_mem _ (inMo w h)
  refine lv_aload_n hx hb dMo_through_0 rfl (lv_at hl 0 rfl) ?_
  refine lv_iload_n hx hb dMo_through_1 rfl (lv_at hl 1 rfl) ?_
  refine dq_calli (va_runV (As := [.int (nI h)]) (rest := []) ⟨hx, hb, hml, hown, hts⟩ (m_noHole_n l D g ad (w) _ cd n hn cn pl tn sg wy (nI h) m100 (nI_pos (show h < 2 ^ 31 by omega)) (nI_lt hh (by omega))) (cwV 1 hts (dq_giV tw4_22 tw4_24 twp_16 tw1_10 tw4_25) rfl rfl rfl (by decide +kernel) ⟨Nat.le_of_ble_eq_true rfl, Nat.le_of_ble_eq_true rfl⟩) (dq_preV (ci := 8) hW hS hA hK hZ m100 rfl rfl) rfl rfl hl.1 rfl (lv_room (Nat.le_of_ble_eq_true rfl)) dMo_through_2 ⟨Nat.zero_le _, Nat.zero_le _⟩) hW hS hA (fun r1 u_9 H locs hp1 hW hS hz9 => ?_)
  obtain ⟨hr1, hu9⟩ := hp1
  rw [hu9] at hW
  subst hr1
  refine lv_if_ne (tgt := 18) hx hb dMo_through_5 (by decide) (fun c1 => ?_) (fun c1 => ?_)
  · exact absurd rfl c1
  · refine lv_aload_n hx hb dMo_through_8 rfl (lv_at hl 0 rfl) ?_
    refine dq_get (D := D) (ci := 8) (v := .ref (ad 111)) (C := RMo) (T := TMo) (N := 29) hx hb hts hinMo hown hK hW 100 dq_Us rfl 11 (by decide) hf34 (fun _ h9 => h9) rfl dMo_through_9 ?_
    refine lv_iload_n hx hb dMo_through_12 rfl (lv_at hl 1 rfl) ?_
    refine dq_zaldN hx hb hK hW 111 1 ((dq_Un (by decide)).trans m111) rfl h (by omega) (by omega) dMo_through_13 ?_
    refine lv_iload_n hx hb dMo_through_14 rfl (lv_at hl 2 rfl) ?_
    refine lv_icmp_ne (tgt := 20) hx hb dMo_through_15 (by decide) (fun c2 => ?_) (fun c2 => ?_)
    · exact absurd e1 c2
    · refine lv_iconst (v := (0)) hx hb dMo_through_18 (by decide) ?_
      exact hret _ _ _ _ _ _ ⟨rfl, rfl⟩ (by decide) hW hS dMo_through_19

set_option maxHeartbeats 4000000 in
set_option maxRecDepth 100000 in
/-- through -/
theorem m_through_yes (l : Launch) (D : va_G) (g : Nat → ClassId) (ad : Nat → Nat) (w : Nat → Option va_E) (sz : Nat) (cd : Int32) (n hn cn : Nat) (pl : Int32) (tn : Nat) (sg : Int32) (wy : Int64) (pt : Nat → Int32) (h : Nat) (a1 : Int32) (m100 : w 100 = some (.inr (8, [.int cd, .int (nI n), .ref (ad 102), .ref (ad 103), .ref (ad 104), .int (nI hn), .ref (ad 106), .ref (ad 107), .ref (ad 108), .ref (ad 109), .ref (ad 110), .ref (ad 111), .int (nI cn), .ref (ad 113), .int pl, .int (nI tn), .ref (ad 116), .ref (ad 117), .ref (ad 118), .ref (ad 119), .int sg, .ref (ad 121), .long wy, .ref (ad 123), .ref (ad 124), .ref (ad 125), .ref (ad 126), .ref (ad 127), .ref (ad 128)]))) (m111 : w 111 = some (.inl (g 1, 14, .inl pt))) (hh : h < hn) (hpc : hn ≤ 14) (e1 : ¬ pt h = a1) : Met l yMo_through wsMo_through ({ frames := 1, cells := 0, slots := 0, locals := 24 } : Room) (va_Pc [.ref (ad 100), .int (nI h), .int a1] (dq_S D vwCl (dq_t g) ad w sz)) (va_Qi (fun r u => r = 1 ∧ u = dq_U (dq_U w 100 (.inr (8, [.int 0, .int (nI n), .ref (ad 102), .ref (ad 103), .ref (ad 104), .int (nI hn), .ref (ad 106), .ref (ad 107), .ref (ad 108), .ref (ad 109), .ref (ad 110), .ref (ad 111), .int (nI cn), .ref (ad 113), .int 0, .int (nI tn), .ref (ad 116), .ref (ad 117), .ref (ad 118), .ref (ad 119), .int sg, .ref (ad 121), .long wy, .ref (ad 123), .ref (ad 124), .ref (ad 125), .ref (ad 126), .ref (ad 127), .ref (ad 128)]))) 111 (.inl (g 1, 14, .inl (upd pt h (vp_nar .boolean a1))))) (dq_B D vwCl (dq_t g) ad (dq_A ad w sz)) (dq_A ad w sz)) 0 0 (dq_A ad w sz) := by
  refine dq_ofz (cc := cMo_through) (maxL := 3) (by decide) rfl (Nat.le_of_ble_eq_true rfl) ?_
  intro p e s m below meth c A Q ls ⟨hx, hb, hml, hown, hts⟩ hnm hA hW hK hZ hl hret
  have hS : va_S A s.heap s.heap [] := va_S.rf
  have hl : lv_has ls 3 [(0, .ref (ad 100)), (1, .int (nI h)), (2, .int a1)] := hl
  have hf34 := hts _ (List.mem_cons_of_mem _ tw3_165)
  have hf86 := hts _ (List.mem_cons_of_mem _ tw3_168)
  have hinMo : ∀ w ∈ u_ws RMo TMo 29, w ∈ wsMo_through := fun w h => List.mem_cons_of_mem _ (inMo w h)
  refine lv_aload_n hx hb dMo_through_0 rfl (lv_at hl 0 rfl) ?_
  refine lv_iload_n hx hb dMo_through_1 rfl (lv_at hl 1 rfl) ?_
  refine dq_calli (va_runV (As := [.int (nI h)]) (rest := []) ⟨hx, hb, hml, hown, hts⟩ (m_noHole_n l D g ad (w) _ cd n hn cn pl tn sg wy (nI h) m100 (nI_pos (show h < 2 ^ 31 by omega)) (nI_lt hh (by omega))) (cwV 1 hts (dq_giV tw4_22 tw4_24 twp_16 tw1_10 tw4_25) rfl rfl rfl (by decide +kernel) ⟨Nat.le_of_ble_eq_true rfl, Nat.le_of_ble_eq_true rfl⟩) (dq_preV (ci := 8) hW hS hA hK hZ m100 rfl rfl) rfl rfl hl.1 rfl (lv_room (Nat.le_of_ble_eq_true rfl)) dMo_through_2 ⟨Nat.zero_le _, Nat.zero_le _⟩) hW hS hA (fun r1 u_9 H locs hp1 hW hS hz9 => ?_)
  obtain ⟨hr1, hu9⟩ := hp1
  rw [hu9] at hW
  subst hr1
  refine lv_if_ne (tgt := 18) hx hb dMo_through_5 (by decide) (fun c1 => ?_) (fun c1 => ?_)
  · exact absurd rfl c1
  · refine lv_aload_n hx hb dMo_through_8 rfl (lv_at hl 0 rfl) ?_
    refine dq_get (D := D) (ci := 8) (v := .ref (ad 111)) (C := RMo) (T := TMo) (N := 29) hx hb hts hinMo hown hK hW 100 dq_Us rfl 11 (by decide) hf34 (fun _ h9 => h9) rfl dMo_through_9 ?_
    refine lv_iload_n hx hb dMo_through_12 rfl (lv_at hl 1 rfl) ?_
    refine dq_zaldN hx hb hK hW 111 1 ((dq_Un (by decide)).trans m111) rfl h (by omega) (by omega) dMo_through_13 ?_
    refine lv_iload_n hx hb dMo_through_14 rfl (lv_at hl 2 rfl) ?_
    refine lv_icmp_ne (tgt := 20) hx hb dMo_through_15 (by decide) (fun c2 => ?_) (fun c2 => ?_)
    · refine lv_aload_n hx hb dMo_through_20 rfl (lv_at hl 0 rfl) ?_
      refine dq_get (D := D) (ci := 8) (v := .ref (ad 111)) (C := RMo) (T := TMo) (N := 29) hx hb hts hinMo hown hK hW 100 dq_Us rfl 11 (by decide) hf34 (fun _ h9 => h9) rfl dMo_through_21 ?_
      refine lv_iload_n hx hb dMo_through_24 rfl (lv_at hl 1 rfl) ?_
      refine lv_iload_n hx hb dMo_through_25 rfl (lv_at hl 2 rfl) ?_
      refine dq_zastN hx hb hK hW hS 111 1 ((dq_Un (by decide)).trans m111) rfl h (by omega) (by omega) dMo_through_26 (fun H locs hW hS => ?_)
      refine lv_aload_n hx hb dMo_through_27 rfl (lv_at hl 0 rfl) ?_
      refine lv_iconst (v := (0)) hx hb dMo_through_28 (by decide) ?_
      refine dq_put (D := D) (ci := 8) (v := .int (0)) (ty := .boolean) (C := RMo) (T := TMo) (N := 29) hx hb hts hinMo tyMo tyMo_ok nmMo hown hK hW hS 100 ((dq_Un (by decide)).trans dq_Us) rfl 14 (by decide) hf86 (fun _ h9 => h9) rfl (by decide +kernel) rfl rfl (Nat.le_of_ble_eq_true rfl) dMo_through_29 (fun H locs hW hS => ?_)
      have hW : dq_W D vwCl ad (dq_U (dq_U w 100 (.inr (8, [.int 0, .int (nI n), .ref (ad 102), .ref (ad 103), .ref (ad 104), .int (nI hn), .ref (ad 106), .ref (ad 107), .ref (ad 108), .ref (ad 109), .ref (ad 110), .ref (ad 111), .int (nI cn), .ref (ad 113), .int (0), .int (nI tn), .ref (ad 116), .ref (ad 117), .ref (ad 118), .ref (ad 119), .int sg, .ref (ad 121), .long wy, .ref (ad 123), .ref (ad 124), .ref (ad 125), .ref (ad 126), .ref (ad 127), .ref (ad 128)]))) 111 (.inl (g 1, 14, .inl (upd pt h (vp_nar .boolean a1))))) A H := dq_Wc (by funext j; unfold dq_U; (repeat' split) <;> first | rfl | omega) hW
      refine lv_iconst (v := (1)) hx hb dMo_through_32 (by decide) ?_
      exact hret _ _ _ _ _ _ ⟨rfl, rfl⟩ (by decide) hW hS dMo_through_33
    · exact absurd c2 e1
