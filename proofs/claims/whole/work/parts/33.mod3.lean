set_option maxHeartbeats 4000000 in
set_option maxRecDepth 100000 in
/-- clamp, out of range -/
theorem m_clamp1 (l : Launch) (D : va_G) (g : Nat → ClassId) (ad : Nat → Nat) (w : Nat → Option va_E) (sz : Nat) (cd : Int32) (n hn cn : Nat) (pl : Int32) (tn : Nat) (sg : Int32) (wy : Int64) (bx : Nat → Int32) (a1 a2 a3 a4 : Int32) (m100 : w 100 = some (.inr (8, [.int cd, .int (nI n), .ref (ad 102), .ref (ad 103), .ref (ad 104), .int (nI hn), .ref (ad 106), .ref (ad 107), .ref (ad 108), .ref (ad 109), .ref (ad 110), .ref (ad 111), .int (nI cn), .ref (ad 113), .int pl, .int (nI tn), .ref (ad 116), .ref (ad 117), .ref (ad 118), .ref (ad 119), .int sg, .ref (ad 121), .long wy, .ref (ad 123), .ref (ad 124), .ref (ad 125), .ref (ad 126), .ref (ad 127), .ref (ad 128)]))) (m113 : w 113 = some (.inl (g 0, 24, .inl bx))) (h0 : (((mr_in a1 (-20000) 20000 && mr_in a2 (-20000) 20000) && mr_in a3 a1 20000) && mr_in a4 a2 20000) = false) : Met l yMo_clamp wsMo_clamp ({ frames := 1, cells := 0, slots := 0, locals := 24 } : Room) (va_Pc [.ref (ad 100), .int a1, .int a2, .int a3, .int a4] (dq_S D vwCl (dq_t g) ad w sz)) (va_Qi (fun r u => r = 0 ∧ u = dq_U w 100 (.inr (8, [.int 1, .int (nI n), .ref (ad 102), .ref (ad 103), .ref (ad 104), .int (nI hn), .ref (ad 106), .ref (ad 107), .ref (ad 108), .ref (ad 109), .ref (ad 110), .ref (ad 111), .int (nI cn), .ref (ad 113), .int pl, .int (nI tn), .ref (ad 116), .ref (ad 117), .ref (ad 118), .ref (ad 119), .int sg, .ref (ad 121), .long wy, .ref (ad 123), .ref (ad 124), .ref (ad 125), .ref (ad 126), .ref (ad 127), .ref (ad 128)]))) (dq_B D vwCl (dq_t g) ad (dq_A ad w sz)) (dq_A ad w sz)) 0 0 (dq_A ad w sz) := by
  refine dq_ofz (cc := cMo_clamp) (maxL := 6) (by decide) rfl (Nat.le_of_ble_eq_true rfl) ?_
  intro p e s m below meth c A Q ls ⟨hx, hb, hml, hown, hts⟩ hnm hA hW hK hZ hl hret
  have hS : va_S A s.heap s.heap [] := va_S.rf
  have hl : lv_has ls 6 [(0, .ref (ad 100)), (1, .int a1), (2, .int a2), (3, .int a3), (4, .int a4)] := hl
  have hf38 := hts _ (List.mem_cons_of_mem _ tw3_167)
  have hf79 := hts _ (List.mem_cons_of_mem _ tw3_154)
  have hf86 := hts _ (List.mem_cons_of_mem _ tw3_168)
  have hf97 := hts _ (List.mem_cons_of_mem _ tw3_166)
  have hinMo : ∀ w ∈ u_ws RMo TMo 29, w ∈ wsMo_clamp := fun w h => List.mem_cons_of_mem _ (inMo w h)
  have J : ∀ (v : Int32) (H : Heap) (locs : List Loc) (ls : Array Slot), v = dq_b (((mr_in a1 (-20000) 20000 && mr_in a2 (-20000) 20000) && mr_in a3 a1 20000) && mr_in a4 a2 20000) → dq_W D vwCl ad (w) A H → va_S A s.heap H locs → lv_has ls 6 [(0, .ref (ad 100)), (1, .int a1), (2, .int a2), (3, .int a3), (4, .int a4)] → W p l e ({ frames := 1, cells := 0, slots := 0, locals := 24 } : Room) s m ([.ref (ad 100), .int a1, .int a2, .int a3, .int a4] : List Value).toArray below meth c H locs 0 0 Q (F0 m 54 ls [.int v]) := by
    intro v H locs ls hv hW hS hl
    rw [h0] at hv
    subst hv
    refine lv_istore (lv' := [(5, .int (dq_b false)), (0, .ref (ad 100)), (1, .int a1), (2, .int a2), (3, .int a3), (4, .int a4)]) hx hb dMo_clamp_54 hl (by decide) rfl (fun ls hl => ?_)
    refine lv_aload_n hx hb dMo_clamp_56 rfl (lv_at hl 1 rfl) ?_
    refine lv_iload hx hb dMo_clamp_57 (lv_at hl 0 rfl) ?_
    refine lv_if_eq (tgt := 66) hx hb dMo_clamp_59 (by decide) (fun c1 => ?_) (fun c1 => ?_)
    · refine lv_iconst (v := (1)) hx hb dMo_clamp_66 (by decide) ?_
      refine dq_put (D := D) (ci := 8) (v := .int (1)) (ty := .int) (C := RMo) (T := TMo) (N := 29) hx hb hts hinMo tyMo tyMo_ok nmMo hown hK hW hS 100 m100 rfl 0 (by decide) hf79 (fun _ h9 => h9) rfl (by decide +kernel) rfl rfl (Nat.le_of_ble_eq_true rfl) dMo_clamp_67 (fun H locs hW hS => ?_)
      refine lv_aload_n hx hb dMo_clamp_70 rfl (lv_at hl 1 rfl) ?_
      refine dq_get (D := D) (ci := 8) (v := .int (1)) (C := RMo) (T := TMo) (N := 29) hx hb hts hinMo hown hK hW 100 dq_Us rfl 0 (by decide) hf79 (fun _ h9 => h9) rfl dMo_clamp_71 ?_
      refine lv_if_gt (tgt := 86) hx hb dMo_clamp_74 (by decide) (fun c2 => ?_) (fun c2 => ?_)
      · refine lv_iconst (v := (0)) hx hb dMo_clamp_86 (by decide) ?_
        exact hret _ _ _ _ _ _ ⟨rfl, rfl⟩ (by decide) hW hS dMo_clamp_87
      · exact absurd (by decide) c2
    · exact absurd rfl c1
  refine lv_iload_n hx hb dMo_clamp_0 rfl (lv_at hl 1 rfl) ?_
  refine lv_sipush (v := (-20000)) hx hb dMo_clamp_1 (by decide) ?_
  refine lv_sipush (v := (20000)) hx hb dMo_clamp_4 (by decide) ?_
  refine dq_calli (va_runS (As := [.int a1, .int (-20000), .int (20000)]) (rest := []) ⟨hx, hb, hml, hown, hts⟩ (m_isIn l D g ad (w) _ a1 (-20000) 20000  ) (cwS 3 hts (dq_giS2 tw4_11 tw4_12 tw1_10 tw4_13) rfl rfl rfl (by decide +kernel) ⟨Nat.le_of_ble_eq_true rfl, Nat.le_of_ble_eq_true rfl⟩) (dq_preS hW hS hA hK hZ) rfl rfl hl.1 rfl (lv_room (Nat.le_of_ble_eq_true rfl)) dMo_clamp_7 ⟨Nat.zero_le _, Nat.zero_le _⟩) hW hS hA (fun r1 u_9 H locs hp1 hW hS hz9 => ?_)
  obtain ⟨hr1, hu9⟩ := hp1
  rw [hu9] at hW
  subst hr1
  refine lv_if_eq (tgt := 53) hx hb dMo_clamp_10 (by decide) (fun c9 => ?_) (fun c9 => ?_)
  · have q0 := dq_b_f c9
    refine lv_iconst (v := (0)) hx hb dMo_clamp_53 (by decide) ?_
    exact J 0 _ _ _ (by rw [q0]; rfl) hW hS (lv_sub hl [0, 1, 2, 3, 4] rfl)
  · have q0 := dq_b_t c9
    refine lv_iload_n hx hb dMo_clamp_13 rfl (lv_at hl 2 rfl) ?_
    refine lv_sipush (v := (-20000)) hx hb dMo_clamp_14 (by decide) ?_
    refine lv_sipush (v := (20000)) hx hb dMo_clamp_17 (by decide) ?_
    refine dq_calli (va_runS (As := [.int a2, .int (-20000), .int (20000)]) (rest := []) ⟨hx, hb, hml, hown, hts⟩ (m_isIn l D g ad (w) _ a2 (-20000) 20000  ) (cwS 3 hts (dq_giS2 tw4_11 tw4_12 tw1_10 tw4_13) rfl rfl rfl (by decide +kernel) ⟨Nat.le_of_ble_eq_true rfl, Nat.le_of_ble_eq_true rfl⟩) (dq_preS hW hS hA hK hZ) rfl rfl hl.1 rfl (lv_room (Nat.le_of_ble_eq_true rfl)) dMo_clamp_20 ⟨Nat.zero_le _, Nat.zero_le _⟩) hW hS hA (fun r1 u_9 H locs hp1 hW hS hz9 => ?_)
    obtain ⟨hr1, hu9⟩ := hp1
    rw [hu9] at hW
    subst hr1
    refine lv_if_eq (tgt := 53) hx hb dMo_clamp_23 (by decide) (fun c9 => ?_) (fun c9 => ?_)
    · have q1 := dq_b_f c9
      refine lv_iconst (v := (0)) hx hb dMo_clamp_53 (by decide) ?_
      exact J 0 _ _ _ (by rw [q0, q1]; rfl) hW hS (lv_sub hl [0, 1, 2, 3, 4] rfl)
    · have q1 := dq_b_t c9
      refine lv_iload_n hx hb dMo_clamp_26 rfl (lv_at hl 3 rfl) ?_
      refine lv_iload_n hx hb dMo_clamp_27 rfl (lv_at hl 1 rfl) ?_
      refine lv_sipush (v := (20000)) hx hb dMo_clamp_28 (by decide) ?_
      refine dq_calli (va_runS (As := [.int a3, .int a1, .int (20000)]) (rest := []) ⟨hx, hb, hml, hown, hts⟩ (m_isIn l D g ad (w) _ a3 a1 20000  ) (cwS 3 hts (dq_giS2 tw4_11 tw4_12 tw1_10 tw4_13) rfl rfl rfl (by decide +kernel) ⟨Nat.le_of_ble_eq_true rfl, Nat.le_of_ble_eq_true rfl⟩) (dq_preS hW hS hA hK hZ) rfl rfl hl.1 rfl (lv_room (Nat.le_of_ble_eq_true rfl)) dMo_clamp_31 ⟨Nat.zero_le _, Nat.zero_le _⟩) hW hS hA (fun r1 u_9 H locs hp1 hW hS hz9 => ?_)
      obtain ⟨hr1, hu9⟩ := hp1
      rw [hu9] at hW
      subst hr1
      refine lv_if_eq (tgt := 53) hx hb dMo_clamp_34 (by decide) (fun c9 => ?_) (fun c9 => ?_)
      · have q2 := dq_b_f c9
        refine lv_iconst (v := (0)) hx hb dMo_clamp_53 (by decide) ?_
        exact J 0 _ _ _ (by rw [q0, q1, q2]; rfl) hW hS (lv_sub hl [0, 1, 2, 3, 4] rfl)
      · have q2 := dq_b_t c9
        refine lv_iload hx hb dMo_clamp_37 (lv_at hl 4 rfl) ?_
        refine lv_iload_n hx hb dMo_clamp_39 rfl (lv_at hl 2 rfl) ?_
        refine lv_sipush (v := (20000)) hx hb dMo_clamp_40 (by decide) ?_
        refine dq_calli (va_runS (As := [.int a4, .int a2, .int (20000)]) (rest := []) ⟨hx, hb, hml, hown, hts⟩ (m_isIn l D g ad (w) _ a4 a2 20000  ) (cwS 3 hts (dq_giS2 tw4_11 tw4_12 tw1_10 tw4_13) rfl rfl rfl (by decide +kernel) ⟨Nat.le_of_ble_eq_true rfl, Nat.le_of_ble_eq_true rfl⟩) (dq_preS hW hS hA hK hZ) rfl rfl hl.1 rfl (lv_room (Nat.le_of_ble_eq_true rfl)) dMo_clamp_43 ⟨Nat.zero_le _, Nat.zero_le _⟩) hW hS hA (fun r1 u_9 H locs hp1 hW hS hz9 => ?_)
        obtain ⟨hr1, hu9⟩ := hp1
        rw [hu9] at hW
        subst hr1
        refine lv_if_eq (tgt := 53) hx hb dMo_clamp_46 (by decide) (fun c9 => ?_) (fun c9 => ?_)
        · have q3 := dq_b_f c9
          refine lv_iconst (v := (0)) hx hb dMo_clamp_53 (by decide) ?_
          exact J 0 _ _ _ (by rw [q0, q1, q2, q3]; rfl) hW hS (lv_sub hl [0, 1, 2, 3, 4] rfl)
        · have q3 := dq_b_t c9
          refine lv_iconst (v := (1)) hx hb dMo_clamp_49 (by decide) ?_
          refine lv_goto (tgt := 54) hx hb dMo_clamp_50 (by decide) ?_
          exact J 1 _ _ _ (by rw [q0, q1, q2, q3]; rfl) hW hS (lv_sub hl [0, 1, 2, 3, 4] rfl)

set_option maxHeartbeats 4000000 in
set_option maxRecDepth 100000 in
/-- clamp, no room -/
theorem m_clamp_no (l : Launch) (D : va_G) (g : Nat → ClassId) (ad : Nat → Nat) (w : Nat → Option va_E) (sz : Nat) (cd : Int32) (n hn cn : Nat) (pl : Int32) (tn : Nat) (sg : Int32) (wy : Int64) (bx : Nat → Int32) (a1 a2 a3 a4 : Int32) (m100 : w 100 = some (.inr (8, [.int cd, .int (nI n), .ref (ad 102), .ref (ad 103), .ref (ad 104), .int (nI hn), .ref (ad 106), .ref (ad 107), .ref (ad 108), .ref (ad 109), .ref (ad 110), .ref (ad 111), .int (nI cn), .ref (ad 113), .int pl, .int (nI tn), .ref (ad 116), .ref (ad 117), .ref (ad 118), .ref (ad 119), .int sg, .ref (ad 121), .long wy, .ref (ad 123), .ref (ad 124), .ref (ad 125), .ref (ad 126), .ref (ad 127), .ref (ad 128)]))) (m113 : w 113 = some (.inl (g 0, 24, .inl bx))) (hcc : cn = 6) (h0 : (((mr_in a1 (-20000) 20000 && mr_in a2 (-20000) 20000) && mr_in a3 a1 20000) && mr_in a4 a2 20000) = true) : Met l yMo_clamp wsMo_clamp ({ frames := 1, cells := 0, slots := 0, locals := 24 } : Room) (va_Pc [.ref (ad 100), .int a1, .int a2, .int a3, .int a4] (dq_S D vwCl (dq_t g) ad w sz)) (va_Qi (fun r u => r = 0 ∧ u = dq_U w 100 (.inr (8, [.int 0, .int (nI n), .ref (ad 102), .ref (ad 103), .ref (ad 104), .int (nI hn), .ref (ad 106), .ref (ad 107), .ref (ad 108), .ref (ad 109), .ref (ad 110), .ref (ad 111), .int (nI cn), .ref (ad 113), .int pl, .int (nI tn), .ref (ad 116), .ref (ad 117), .ref (ad 118), .ref (ad 119), .int sg, .ref (ad 121), .long wy, .ref (ad 123), .ref (ad 124), .ref (ad 125), .ref (ad 126), .ref (ad 127), .ref (ad 128)]))) (dq_B D vwCl (dq_t g) ad (dq_A ad w sz)) (dq_A ad w sz)) 0 0 (dq_A ad w sz) := by
  refine dq_ofz (cc := cMo_clamp) (maxL := 6) (by decide) rfl (Nat.le_of_ble_eq_true rfl) ?_
  intro p e s m below meth c A Q ls ⟨hx, hb, hml, hown, hts⟩ hnm hA hW hK hZ hl hret
  have hS : va_S A s.heap s.heap [] := va_S.rf
  have hl : lv_has ls 6 [(0, .ref (ad 100)), (1, .int a1), (2, .int a2), (3, .int a3), (4, .int a4)] := hl
  have hf38 := hts _ (List.mem_cons_of_mem _ tw3_167)
  have hf79 := hts _ (List.mem_cons_of_mem _ tw3_154)
  have hf86 := hts _ (List.mem_cons_of_mem _ tw3_168)
  have hf97 := hts _ (List.mem_cons_of_mem _ tw3_166)
  have hinMo : ∀ w ∈ u_ws RMo TMo 29, w ∈ wsMo_clamp := fun w h => List.mem_cons_of_mem _ (inMo w h)
  have J : ∀ (v : Int32) (H : Heap) (locs : List Loc) (ls : Array Slot), v = dq_b (((mr_in a1 (-20000) 20000 && mr_in a2 (-20000) 20000) && mr_in a3 a1 20000) && mr_in a4 a2 20000) → dq_W D vwCl ad (w) A H → va_S A s.heap H locs → lv_has ls 6 [(0, .ref (ad 100)), (1, .int a1), (2, .int a2), (3, .int a3), (4, .int a4)] → W p l e ({ frames := 1, cells := 0, slots := 0, locals := 24 } : Room) s m ([.ref (ad 100), .int a1, .int a2, .int a3, .int a4] : List Value).toArray below meth c H locs 0 0 Q (F0 m 54 ls [.int v]) := by
    intro v H locs ls hv hW hS hl
    rw [h0] at hv
    subst hv
    refine lv_istore (lv' := [(5, .int (dq_b true)), (0, .ref (ad 100)), (1, .int a1), (2, .int a2), (3, .int a3), (4, .int a4)]) hx hb dMo_clamp_54 hl (by decide) rfl (fun ls hl => ?_)
    refine lv_aload_n hx hb dMo_clamp_56 rfl (lv_at hl 1 rfl) ?_
    refine lv_iload hx hb dMo_clamp_57 (lv_at hl 0 rfl) ?_
    refine lv_if_eq (tgt := 66) hx hb dMo_clamp_59 (by decide) (fun c1 => ?_) (fun c1 => ?_)
    · exact absurd c1 (by decide)
    · refine lv_iconst (v := (0)) hx hb dMo_clamp_62 (by decide) ?_
      refine lv_goto (tgt := 67) hx hb dMo_clamp_63 (by decide) ?_
      refine dq_put (D := D) (ci := 8) (v := .int (0)) (ty := .int) (C := RMo) (T := TMo) (N := 29) hx hb hts hinMo tyMo tyMo_ok nmMo hown hK hW hS 100 m100 rfl 0 (by decide) hf79 (fun _ h9 => h9) rfl (by decide +kernel) rfl rfl (Nat.le_of_ble_eq_true rfl) dMo_clamp_67 (fun H locs hW hS => ?_)
      refine lv_aload_n hx hb dMo_clamp_70 rfl (lv_at hl 1 rfl) ?_
      refine dq_get (D := D) (ci := 8) (v := .int (0)) (C := RMo) (T := TMo) (N := 29) hx hb hts hinMo hown hK hW 100 dq_Us rfl 0 (by decide) hf79 (fun _ h9 => h9) rfl dMo_clamp_71 ?_
      refine lv_if_gt (tgt := 86) hx hb dMo_clamp_74 (by decide) (fun c2 => ?_) (fun c2 => ?_)
      · exact absurd c2 (by decide)
      · refine lv_aload_n hx hb dMo_clamp_77 rfl (lv_at hl 1 rfl) ?_
        refine dq_get (D := D) (ci := 8) (v := .int (nI cn)) (C := RMo) (T := TMo) (N := 29) hx hb hts hinMo hown hK hW 100 dq_Us rfl 12 (by decide) hf97 (fun _ h9 => h9) rfl dMo_clamp_78 ?_
        refine lv_bipush (v := (nI 6)) hx hb dMo_clamp_81 (by decide) ?_
        refine lv_icmp_ne (tgt := 88) hx hb dMo_clamp_83 (by decide) (fun c3 => ?_) (fun c3 => ?_)
        · exact absurd (by rw [hcc]) c3
        · refine lv_iconst (v := (0)) hx hb dMo_clamp_86 (by decide) ?_
          exact hret _ _ _ _ _ _ ⟨rfl, rfl⟩ (by decide) hW hS dMo_clamp_87
  refine lv_iload_n hx hb dMo_clamp_0 rfl (lv_at hl 1 rfl) ?_
  refine lv_sipush (v := (-20000)) hx hb dMo_clamp_1 (by decide) ?_
  refine lv_sipush (v := (20000)) hx hb dMo_clamp_4 (by decide) ?_
  refine dq_calli (va_runS (As := [.int a1, .int (-20000), .int (20000)]) (rest := []) ⟨hx, hb, hml, hown, hts⟩ (m_isIn l D g ad (w) _ a1 (-20000) 20000  ) (cwS 3 hts (dq_giS2 tw4_11 tw4_12 tw1_10 tw4_13) rfl rfl rfl (by decide +kernel) ⟨Nat.le_of_ble_eq_true rfl, Nat.le_of_ble_eq_true rfl⟩) (dq_preS hW hS hA hK hZ) rfl rfl hl.1 rfl (lv_room (Nat.le_of_ble_eq_true rfl)) dMo_clamp_7 ⟨Nat.zero_le _, Nat.zero_le _⟩) hW hS hA (fun r1 u_9 H locs hp1 hW hS hz9 => ?_)
  obtain ⟨hr1, hu9⟩ := hp1
  rw [hu9] at hW
  subst hr1
  refine lv_if_eq (tgt := 53) hx hb dMo_clamp_10 (by decide) (fun c9 => ?_) (fun c9 => ?_)
  · have q0 := dq_b_f c9
    refine lv_iconst (v := (0)) hx hb dMo_clamp_53 (by decide) ?_
    exact J 0 _ _ _ (by rw [q0]; rfl) hW hS (lv_sub hl [0, 1, 2, 3, 4] rfl)
  · have q0 := dq_b_t c9
    refine lv_iload_n hx hb dMo_clamp_13 rfl (lv_at hl 2 rfl) ?_
    refine lv_sipush (v := (-20000)) hx hb dMo_clamp_14 (by decide) ?_
    refine lv_sipush (v := (20000)) hx hb dMo_clamp_17 (by decide) ?_
    refine dq_calli (va_runS (As := [.int a2, .int (-20000), .int (20000)]) (rest := []) ⟨hx, hb, hml, hown, hts⟩ (m_isIn l D g ad (w) _ a2 (-20000) 20000  ) (cwS 3 hts (dq_giS2 tw4_11 tw4_12 tw1_10 tw4_13) rfl rfl rfl (by decide +kernel) ⟨Nat.le_of_ble_eq_true rfl, Nat.le_of_ble_eq_true rfl⟩) (dq_preS hW hS hA hK hZ) rfl rfl hl.1 rfl (lv_room (Nat.le_of_ble_eq_true rfl)) dMo_clamp_20 ⟨Nat.zero_le _, Nat.zero_le _⟩) hW hS hA (fun r1 u_9 H locs hp1 hW hS hz9 => ?_)
    obtain ⟨hr1, hu9⟩ := hp1
    rw [hu9] at hW
    subst hr1
    refine lv_if_eq (tgt := 53) hx hb dMo_clamp_23 (by decide) (fun c9 => ?_) (fun c9 => ?_)
    · have q1 := dq_b_f c9
      refine lv_iconst (v := (0)) hx hb dMo_clamp_53 (by decide) ?_
      exact J 0 _ _ _ (by rw [q0, q1]; rfl) hW hS (lv_sub hl [0, 1, 2, 3, 4] rfl)
    · have q1 := dq_b_t c9
      refine lv_iload_n hx hb dMo_clamp_26 rfl (lv_at hl 3 rfl) ?_
      refine lv_iload_n hx hb dMo_clamp_27 rfl (lv_at hl 1 rfl) ?_
      refine lv_sipush (v := (20000)) hx hb dMo_clamp_28 (by decide) ?_
      refine dq_calli (va_runS (As := [.int a3, .int a1, .int (20000)]) (rest := []) ⟨hx, hb, hml, hown, hts⟩ (m_isIn l D g ad (w) _ a3 a1 20000  ) (cwS 3 hts (dq_giS2 tw4_11 tw4_12 tw1_10 tw4_13) rfl rfl rfl (by decide +kernel) ⟨Nat.le_of_ble_eq_true rfl, Nat.le_of_ble_eq_true rfl⟩) (dq_preS hW hS hA hK hZ) rfl rfl hl.1 rfl (lv_room (Nat.le_of_ble_eq_true rfl)) dMo_clamp_31 ⟨Nat.zero_le _, Nat.zero_le _⟩) hW hS hA (fun r1 u_9 H locs hp1 hW hS hz9 => ?_)
      obtain ⟨hr1, hu9⟩ := hp1
      rw [hu9] at hW
      subst hr1
      refine lv_if_eq (tgt := 53) hx hb dMo_clamp_34 (by decide) (fun c9 => ?_) (fun c9 => ?_)
      · have q2 := dq_b_f c9
        refine lv_iconst (v := (0)) hx hb dMo_clamp_53 (by decide) ?_
        exact J 0 _ _ _ (by rw [q0, q1, q2]; rfl) hW hS (lv_sub hl [0, 1, 2, 3, 4] rfl)
      · have q2 := dq_b_t c9
        refine lv_iload hx hb dMo_clamp_37 (lv_at hl 4 rfl) ?_
        refine lv_iload_n hx hb dMo_clamp_39 rfl (lv_at hl 2 rfl) ?_
        refine lv_sipush (v := (20000)) hx hb dMo_clamp_40 (by decide) ?_
        refine dq_calli (va_runS (As := [.int a4, .int a2, .int (20000)]) (rest := []) ⟨hx, hb, hml, hown, hts⟩ (m_isIn l D g ad (w) _ a4 a2 20000  ) (cwS 3 hts (dq_giS2 tw4_11 tw4_12 tw1_10 tw4_13) rfl rfl rfl (by decide +kernel) ⟨Nat.le_of_ble_eq_true rfl, Nat.le_of_ble_eq_true rfl⟩) (dq_preS hW hS hA hK hZ) rfl rfl hl.1 rfl (lv_room (Nat.le_of_ble_eq_true rfl)) dMo_clamp_43 ⟨Nat.zero_le _, Nat.zero_le _⟩) hW hS hA (fun r1 u_9 H locs hp1 hW hS hz9 => ?_)
        obtain ⟨hr1, hu9⟩ := hp1
        rw [hu9] at hW
        subst hr1
        refine lv_if_eq (tgt := 53) hx hb dMo_clamp_46 (by decide) (fun c9 => ?_) (fun c9 => ?_)
        · have q3 := dq_b_f c9
          refine lv_iconst (v := (0)) hx hb dMo_clamp_53 (by decide) ?_
          exact J 0 _ _ _ (by rw [q0, q1, q2, q3]; rfl) hW hS (lv_sub hl [0, 1, 2, 3, 4] rfl)
        · have q3 := dq_b_t c9
          refine lv_iconst (v := (1)) hx hb dMo_clamp_49 (by decide) ?_
          refine lv_goto (tgt := 54) hx hb dMo_clamp_50 (by decide) ?_
          exact J 1 _ _ _ (by rw [q0, q1, q2, q3]; rfl) hW hS (lv_sub hl [0, 1, 2, 3, 4] rfl)

set_option maxHeartbeats 4000000 in
set_option maxRecDepth 100000 in
/-- clamp -/
theorem m_clamp_yes (l : Launch) (D : va_G) (g : Nat → ClassId) (ad : Nat → Nat) (w : Nat → Option va_E) (sz : Nat) (cd : Int32) (n hn cn : Nat) (pl : Int32) (tn : Nat) (sg : Int32) (wy : Int64) (bx : Nat → Int32) (a1 a2 a3 a4 : Int32) (m100 : w 100 = some (.inr (8, [.int cd, .int (nI n), .ref (ad 102), .ref (ad 103), .ref (ad 104), .int (nI hn), .ref (ad 106), .ref (ad 107), .ref (ad 108), .ref (ad 109), .ref (ad 110), .ref (ad 111), .int (nI cn), .ref (ad 113), .int pl, .int (nI tn), .ref (ad 116), .ref (ad 117), .ref (ad 118), .ref (ad 119), .int sg, .ref (ad 121), .long wy, .ref (ad 123), .ref (ad 124), .ref (ad 125), .ref (ad 126), .ref (ad 127), .ref (ad 128)]))) (m113 : w 113 = some (.inl (g 0, 24, .inl bx))) (hcc : cn < 6) (h0 : (((mr_in a1 (-20000) 20000 && mr_in a2 (-20000) 20000) && mr_in a3 a1 20000) && mr_in a4 a2 20000) = true) : Met l yMo_clamp wsMo_clamp ({ frames := 1, cells := 0, slots := 0, locals := 24 } : Room) (va_Pc [.ref (ad 100), .int a1, .int a2, .int a3, .int a4] (dq_S D vwCl (dq_t g) ad w sz)) (va_Qi (fun r u => r = 1 ∧ u = dq_U (dq_U w 100 (.inr (8, [.int 0, .int (nI n), .ref (ad 102), .ref (ad 103), .ref (ad 104), .int (nI hn), .ref (ad 106), .ref (ad 107), .ref (ad 108), .ref (ad 109), .ref (ad 110), .ref (ad 111), .int (nI (cn + 1)), .ref (ad 113), .int 0, .int (nI tn), .ref (ad 116), .ref (ad 117), .ref (ad 118), .ref (ad 119), .int sg, .ref (ad 121), .long wy, .ref (ad 123), .ref (ad 124), .ref (ad 125), .ref (ad 126), .ref (ad 127), .ref (ad 128)]))) 113 (.inl (g 0, 24, .inl (upd (upd (upd (upd bx (4 * cn) a1) (4 * cn + 1) a2) (4 * cn + 2) a3) (4 * cn + 3) a4)))) (dq_B D vwCl (dq_t g) ad (dq_A ad w sz)) (dq_A ad w sz)) 0 0 (dq_A ad w sz) := by
  refine dq_ofz (cc := cMo_clamp) (maxL := 6) (by decide) rfl (Nat.le_of_ble_eq_true rfl) ?_
  intro p e s m below meth c A Q ls ⟨hx, hb, hml, hown, hts⟩ hnm hA hW hK hZ hl hret
  have hS : va_S A s.heap s.heap [] := va_S.rf
  have hl : lv_has ls 6 [(0, .ref (ad 100)), (1, .int a1), (2, .int a2), (3, .int a3), (4, .int a4)] := hl
  have hf38 := hts _ (List.mem_cons_of_mem _ tw3_167)
  have hf79 := hts _ (List.mem_cons_of_mem _ tw3_154)
  have hf86 := hts _ (List.mem_cons_of_mem _ tw3_168)
  have hf97 := hts _ (List.mem_cons_of_mem _ tw3_166)
  have hinMo : ∀ w ∈ u_ws RMo TMo 29, w ∈ wsMo_clamp := fun w h => List.mem_cons_of_mem _ (inMo w h)
  have J : ∀ (v : Int32) (H : Heap) (locs : List Loc) (ls : Array Slot), v = dq_b (((mr_in a1 (-20000) 20000 && mr_in a2 (-20000) 20000) && mr_in a3 a1 20000) && mr_in a4 a2 20000) → dq_W D vwCl ad (w) A H → va_S A s.heap H locs → lv_has ls 6 [(0, .ref (ad 100)), (1, .int a1), (2, .int a2), (3, .int a3), (4, .int a4)] → W p l e ({ frames := 1, cells := 0, slots := 0, locals := 24 } : Room) s m ([.ref (ad 100), .int a1, .int a2, .int a3, .int a4] : List Value).toArray below meth c H locs 0 0 Q (F0 m 54 ls [.int v]) := by
    intro v H locs ls hv hW hS hl
    rw [h0] at hv
    subst hv
    refine lv_istore (lv' := [(5, .int (dq_b true)), (0, .ref (ad 100)), (1, .int a1), (2, .int a2), (3, .int a3), (4, .int a4)]) hx hb dMo_clamp_54 hl (by decide) rfl (fun ls hl => ?_)
    refine lv_aload_n hx hb dMo_clamp_56 rfl (lv_at hl 1 rfl) ?_
    refine lv_iload hx hb dMo_clamp_57 (lv_at hl 0 rfl) ?_
    refine lv_if_eq (tgt := 66) hx hb dMo_clamp_59 (by decide) (fun c1 => ?_) (fun c1 => ?_)
    · exact absurd c1 (by decide)
    · refine lv_iconst (v := (0)) hx hb dMo_clamp_62 (by decide) ?_
      refine lv_goto (tgt := 67) hx hb dMo_clamp_63 (by decide) ?_
      refine dq_put (D := D) (ci := 8) (v := .int (0)) (ty := .int) (C := RMo) (T := TMo) (N := 29) hx hb hts hinMo tyMo tyMo_ok nmMo hown hK hW hS 100 m100 rfl 0 (by decide) hf79 (fun _ h9 => h9) rfl (by decide +kernel) rfl rfl (Nat.le_of_ble_eq_true rfl) dMo_clamp_67 (fun H locs hW hS => ?_)
      refine lv_aload_n hx hb dMo_clamp_70 rfl (lv_at hl 1 rfl) ?_
      refine dq_get (D := D) (ci := 8) (v := .int (0)) (C := RMo) (T := TMo) (N := 29) hx hb hts hinMo hown hK hW 100 dq_Us rfl 0 (by decide) hf79 (fun _ h9 => h9) rfl dMo_clamp_71 ?_
      refine lv_if_gt (tgt := 86) hx hb dMo_clamp_74 (by decide) (fun c2 => ?_) (fun c2 => ?_)
      · exact absurd c2 (by decide)
      · refine lv_aload_n hx hb dMo_clamp_77 rfl (lv_at hl 1 rfl) ?_
        refine dq_get (D := D) (ci := 8) (v := .int (nI cn)) (C := RMo) (T := TMo) (N := 29) hx hb hts hinMo hown hK hW 100 dq_Us rfl 12 (by decide) hf97 (fun _ h9 => h9) rfl dMo_clamp_78 ?_
        refine lv_bipush (v := (nI 6)) hx hb dMo_clamp_81 (by decide) ?_
        refine lv_icmp_ne (tgt := 88) hx hb dMo_clamp_83 (by decide) (fun c3 => ?_) (fun c3 => ?_)
        · refine lv_aload_n hx hb dMo_clamp_88 rfl (lv_at hl 1 rfl) ?_
          refine dq_get (D := D) (ci := 8) (v := .ref (ad 113)) (C := RMo) (T := TMo) (N := 29) hx hb hts hinMo hown hK hW 100 dq_Us rfl 13 (by decide) hf38 (fun _ h9 => h9) rfl dMo_clamp_89 ?_
          refine lv_iconst (v := (4)) hx hb dMo_clamp_92 (by decide) ?_
          refine lv_aload_n hx hb dMo_clamp_93 rfl (lv_at hl 1 rfl) ?_
          refine dq_get (D := D) (ci := 8) (v := .int (nI cn)) (C := RMo) (T := TMo) (N := 29) hx hb hts hinMo hown hK hW 100 dq_Us rfl 12 (by decide) hf97 (fun _ h9 => h9) rfl dMo_clamp_94 ?_
          refine lv_imul hx hb dMo_clamp_97 ?_
          refine dq_top (y := nI (4 * cn)) (va_mulN 4 cn) ?_
          refine lv_iload_n hx hb dMo_clamp_98 rfl (lv_at hl 2 rfl) ?_
          refine dq_iastN hx hb hK hW hS 113 0 ((dq_Un (by decide)).trans m113) rfl (4 * cn) (by omega) (by omega) dMo_clamp_99 (fun H locs hW hS => ?_)
          refine lv_aload_n hx hb dMo_clamp_100 rfl (lv_at hl 1 rfl) ?_
          refine dq_get (D := D) (ci := 8) (v := .ref (ad 113)) (C := RMo) (T := TMo) (N := 29) hx hb hts hinMo hown hK hW 100 ((dq_Un (by decide)).trans dq_Us) rfl 13 (by decide) hf38 (fun _ h9 => h9) rfl dMo_clamp_101 ?_
          refine lv_iconst (v := (4)) hx hb dMo_clamp_104 (by decide) ?_
          refine lv_aload_n hx hb dMo_clamp_105 rfl (lv_at hl 1 rfl) ?_
          refine dq_get (D := D) (ci := 8) (v := .int (nI cn)) (C := RMo) (T := TMo) (N := 29) hx hb hts hinMo hown hK hW 100 ((dq_Un (by decide)).trans dq_Us) rfl 12 (by decide) hf97 (fun _ h9 => h9) rfl dMo_clamp_106 ?_
          refine lv_imul hx hb dMo_clamp_109 ?_
          refine dq_top (y := nI (4 * cn)) (va_mulN 4 cn) ?_
          refine lv_iconst (v := (1)) hx hb dMo_clamp_110 (by decide) ?_
          refine lv_iadd hx hb dMo_clamp_111 ?_
          refine dq_top (y := nI (4 * cn + 1)) (nI_add (4 * cn) 1) ?_
          refine lv_iload_n hx hb dMo_clamp_112 rfl (lv_at hl 3 rfl) ?_
          refine dq_iastN hx hb hK hW hS 113 0 dq_Us rfl (4 * cn + 1) (by omega) (by omega) dMo_clamp_113 (fun H locs hW hS => ?_)
          rw [dq_UU] at hW
          refine lv_aload_n hx hb dMo_clamp_114 rfl (lv_at hl 1 rfl) ?_
          refine dq_get (D := D) (ci := 8) (v := .ref (ad 113)) (C := RMo) (T := TMo) (N := 29) hx hb hts hinMo hown hK hW 100 ((dq_Un (by decide)).trans dq_Us) rfl 13 (by decide) hf38 (fun _ h9 => h9) rfl dMo_clamp_115 ?_
          refine lv_iconst (v := (4)) hx hb dMo_clamp_118 (by decide) ?_
          refine lv_aload_n hx hb dMo_clamp_119 rfl (lv_at hl 1 rfl) ?_
          refine dq_get (D := D) (ci := 8) (v := .int (nI cn)) (C := RMo) (T := TMo) (N := 29) hx hb hts hinMo hown hK hW 100 ((dq_Un (by decide)).trans dq_Us) rfl 12 (by decide) hf97 (fun _ h9 => h9) rfl dMo_clamp_120 ?_
          refine lv_imul hx hb dMo_clamp_123 ?_
          refine dq_top (y := nI (4 * cn)) (va_mulN 4 cn) ?_
          refine lv_iconst (v := (2)) hx hb dMo_clamp_124 (by decide) ?_
          refine lv_iadd hx hb dMo_clamp_125 ?_
          refine dq_top (y := nI (4 * cn + 2)) (nI_add (4 * cn) 2) ?_
          refine lv_iload_n hx hb dMo_clamp_126 rfl (lv_at hl 4 rfl) ?_
          refine dq_iastN hx hb hK hW hS 113 0 dq_Us rfl (4 * cn + 2) (by omega) (by omega) dMo_clamp_127 (fun H locs hW hS => ?_)
          rw [dq_UU] at hW
          refine lv_aload_n hx hb dMo_clamp_128 rfl (lv_at hl 1 rfl) ?_
          refine dq_get (D := D) (ci := 8) (v := .ref (ad 113)) (C := RMo) (T := TMo) (N := 29) hx hb hts hinMo hown hK hW 100 ((dq_Un (by decide)).trans dq_Us) rfl 13 (by decide) hf38 (fun _ h9 => h9) rfl dMo_clamp_129 ?_
          refine lv_iconst (v := (4)) hx hb dMo_clamp_132 (by decide) ?_
          refine lv_aload_n hx hb dMo_clamp_133 rfl (lv_at hl 1 rfl) ?_
          refine dq_get (D := D) (ci := 8) (v := .int (nI cn)) (C := RMo) (T := TMo) (N := 29) hx hb hts hinMo hown hK hW 100 ((dq_Un (by decide)).trans dq_Us) rfl 12 (by decide) hf97 (fun _ h9 => h9) rfl dMo_clamp_134 ?_
          refine lv_imul hx hb dMo_clamp_137 ?_
          refine dq_top (y := nI (4 * cn)) (va_mulN 4 cn) ?_
          refine lv_iconst (v := (3)) hx hb dMo_clamp_138 (by decide) ?_
          refine lv_iadd hx hb dMo_clamp_139 ?_
          refine dq_top (y := nI (4 * cn + 3)) (nI_add (4 * cn) 3) ?_
          refine lv_iload hx hb dMo_clamp_140 (lv_at hl 5 rfl) ?_
          refine dq_iastN hx hb hK hW hS 113 0 dq_Us rfl (4 * cn + 3) (by omega) (by omega) dMo_clamp_142 (fun H locs hW hS => ?_)
          rw [dq_UU] at hW
          refine lv_aload_n hx hb dMo_clamp_143 rfl (lv_at hl 1 rfl) ?_
          refine lv_dup hx hb dMo_clamp_144 rfl ?_
          refine dq_get (D := D) (ci := 8) (v := .int (nI cn)) (C := RMo) (T := TMo) (N := 29) hx hb hts hinMo hown hK hW 100 ((dq_Un (by decide)).trans dq_Us) rfl 12 (by decide) hf97 (fun _ h9 => h9) rfl dMo_clamp_145 ?_
          refine lv_iconst (v := (1)) hx hb dMo_clamp_148 (by decide) ?_
          refine lv_iadd hx hb dMo_clamp_149 ?_
          refine dq_top (y := nI (cn + 1)) (nI_1 cn) ?_
          refine dq_put (D := D) (ci := 8) (v := .int (nI (cn + 1))) (ty := .int) (C := RMo) (T := TMo) (N := 29) hx hb hts hinMo tyMo tyMo_ok nmMo hown hK hW hS 100 ((dq_Un (by decide)).trans dq_Us) rfl 12 (by decide) hf97 (fun _ h9 => h9) rfl (by decide +kernel) rfl rfl (Nat.le_of_ble_eq_true rfl) dMo_clamp_150 (fun H locs hW hS => ?_)
          have hW : dq_W D vwCl ad (dq_U (dq_U w 100 (.inr (8, [.int (0), .int (nI n), .ref (ad 102), .ref (ad 103), .ref (ad 104), .int (nI hn), .ref (ad 106), .ref (ad 107), .ref (ad 108), .ref (ad 109), .ref (ad 110), .ref (ad 111), .int (nI (cn + 1)), .ref (ad 113), .int pl, .int (nI tn), .ref (ad 116), .ref (ad 117), .ref (ad 118), .ref (ad 119), .int sg, .ref (ad 121), .long wy, .ref (ad 123), .ref (ad 124), .ref (ad 125), .ref (ad 126), .ref (ad 127), .ref (ad 128)]))) 113 (.inl (g 0, 24, .inl (upd (upd (upd (upd bx (4 * cn) a1) (4 * cn + 1) a2) (4 * cn + 2) a3) (4 * cn + 3) a4)))) A H := dq_Wc (by funext j; unfold dq_U; (repeat' split) <;> first | rfl | omega) hW
          refine lv_aload_n hx hb dMo_clamp_153 rfl (lv_at hl 1 rfl) ?_
          refine lv_iconst (v := (0)) hx hb dMo_clamp_154 (by decide) ?_
          refine dq_put (D := D) (ci := 8) (v := .int (0)) (ty := .boolean) (C := RMo) (T := TMo) (N := 29) hx hb hts hinMo tyMo tyMo_ok nmMo hown hK hW hS 100 ((dq_Un (by decide)).trans dq_Us) rfl 14 (by decide) hf86 (fun _ h9 => h9) rfl (by decide +kernel) rfl rfl (Nat.le_of_ble_eq_true rfl) dMo_clamp_155 (fun H locs hW hS => ?_)
          have hW : dq_W D vwCl ad (dq_U (dq_U w 100 (.inr (8, [.int (0), .int (nI n), .ref (ad 102), .ref (ad 103), .ref (ad 104), .int (nI hn), .ref (ad 106), .ref (ad 107), .ref (ad 108), .ref (ad 109), .ref (ad 110), .ref (ad 111), .int (nI (cn + 1)), .ref (ad 113), .int (0), .int (nI tn), .ref (ad 116), .ref (ad 117), .ref (ad 118), .ref (ad 119), .int sg, .ref (ad 121), .long wy, .ref (ad 123), .ref (ad 124), .ref (ad 125), .ref (ad 126), .ref (ad 127), .ref (ad 128)]))) 113 (.inl (g 0, 24, .inl (upd (upd (upd (upd bx (4 * cn) a1) (4 * cn + 1) a2) (4 * cn + 2) a3) (4 * cn + 3) a4)))) A H := dq_Wc (by funext j; unfold dq_U; (repeat' split) <;> first | rfl | omega) hW
          refine lv_iconst (v := (1)) hx hb dMo_clamp_158 (by decide) ?_
          exact hret _ _ _ _ _ _ ⟨rfl, rfl⟩ (by decide) hW hS dMo_clamp_159
        · exact absurd ((nI_eq (by omega) (by omega)).mp c3) (by omega)
  refine lv_iload_n hx hb dMo_clamp_0 rfl (lv_at hl 1 rfl) ?_
  refine lv_sipush (v := (-20000)) hx hb dMo_clamp_1 (by decide) ?_
  refine lv_sipush (v := (20000)) hx hb dMo_clamp_4 (by decide) ?_
  refine dq_calli (va_runS (As := [.int a1, .int (-20000), .int (20000)]) (rest := []) ⟨hx, hb, hml, hown, hts⟩ (m_isIn l D g ad (w) _ a1 (-20000) 20000  ) (cwS 3 hts (dq_giS2 tw4_11 tw4_12 tw1_10 tw4_13) rfl rfl rfl (by decide +kernel) ⟨Nat.le_of_ble_eq_true rfl, Nat.le_of_ble_eq_true rfl⟩) (dq_preS hW hS hA hK hZ) rfl rfl hl.1 rfl (lv_room (Nat.le_of_ble_eq_true rfl)) dMo_clamp_7 ⟨Nat.zero_le _, Nat.zero_le _⟩) hW hS hA (fun r1 u_9 H locs hp1 hW hS hz9 => ?_)
  obtain ⟨hr1, hu9⟩ := hp1
  rw [hu9] at hW
  subst hr1
  refine lv_if_eq (tgt := 53) hx hb dMo_clamp_10 (by decide) (fun c9 => ?_) (fun c9 => ?_)
  · have q0 := dq_b_f c9
    refine lv_iconst (v := (0)) hx hb dMo_clamp_53 (by decide) ?_
    exact J 0 _ _ _ (by rw [q0]; rfl) hW hS (lv_sub hl [0, 1, 2, 3, 4] rfl)
  · have q0 := dq_b_t c9
    refine lv_iload_n hx hb dMo_clamp_13 rfl (lv_at hl 2 rfl) ?_
    refine lv_sipush (v := (-20000)) hx hb dMo_clamp_14 (by decide) ?_
    refine lv_sipush (v := (20000)) hx hb dMo_clamp_17 (by decide) ?_
    refine dq_calli (va_runS (As := [.int a2, .int (-20000), .int (20000)]) (rest := []) ⟨hx, hb, hml, hown, hts⟩ (m_isIn l D g ad (w) _ a2 (-20000) 20000  ) (cwS 3 hts (dq_giS2 tw4_11 tw4_12 tw1_10 tw4_13) rfl rfl rfl (by decide +kernel) ⟨Nat.le_of_ble_eq_true rfl, Nat.le_of_ble_eq_true rfl⟩) (dq_preS hW hS hA hK hZ) rfl rfl hl.1 rfl (lv_room (Nat.le_of_ble_eq_true rfl)) dMo_clamp_20 ⟨Nat.zero_le _, Nat.zero_le _⟩) hW hS hA (fun r1 u_9 H locs hp1 hW hS hz9 => ?_)
    obtain ⟨hr1, hu9⟩ := hp1
    rw [hu9] at hW
    subst hr1
    refine lv_if_eq (tgt := 53) hx hb dMo_clamp_23 (by decide) (fun c9 => ?_) (fun c9 => ?_)
    · have q1 := dq_b_f c9
      refine lv_iconst (v := (0)) hx hb dMo_clamp_53 (by decide) ?_
      exact J 0 _ _ _ (by rw [q0, q1]; rfl) hW hS (lv_sub hl [0, 1, 2, 3, 4] rfl)
    · have q1 := dq_b_t c9
      refine lv_iload_n hx hb dMo_clamp_26 rfl (lv_at hl 3 rfl) ?_
      refine lv_iload_n hx hb dMo_clamp_27 rfl (lv_at hl 1 rfl) ?_
      refine lv_sipush (v := (20000)) hx hb dMo_clamp_28 (by decide) ?_
      refine dq_calli (va_runS (As := [.int a3, .int a1, .int (20000)]) (rest := []) ⟨hx, hb, hml, hown, hts⟩ (m_isIn l D g ad (w) _ a3 a1 20000  ) (cwS 3 hts (dq_giS2 tw4_11 tw4_12 tw1_10 tw4_13) rfl rfl rfl (by decide +kernel) ⟨Nat.le_of_ble_eq_true rfl, Nat.le_of_ble_eq_true rfl⟩) (dq_preS hW hS hA hK hZ) rfl rfl hl.1 rfl (lv_room (Nat.le_of_ble_eq_true rfl)) dMo_clamp_31 ⟨Nat.zero_le _, Nat.zero_le _⟩) hW hS hA (fun r1 u_9 H locs hp1 hW hS hz9 => ?_)
      obtain ⟨hr1, hu9⟩ := hp1
      rw [hu9] at hW
      subst hr1
      refine lv_if_eq (tgt := 53) hx hb dMo_clamp_34 (by decide) (fun c9 => ?_) (fun c9 => ?_)
      · have q2 := dq_b_f c9
        refine lv_iconst (v := (0)) hx hb dMo_clamp_53 (by decide) ?_
        exact J 0 _ _ _ (by rw [q0, q1, q2]; rfl) hW hS (lv_sub hl [0, 1, 2, 3, 4] rfl)
      · have q2 := dq_b_t c9
        refine lv_iload hx hb dMo_clamp_37 (lv_at hl 4 rfl) ?_
        refine lv_iload_n hx hb dMo_clamp_39 rfl (lv_at hl 2 rfl) ?_
        refine lv_sipush (v := (20000)) hx hb dMo_clamp_40 (by decide) ?_
        refine dq_calli (va_runS (As := [.int a4, .int a2, .int (20000)]) (rest := []) ⟨hx, hb, hml, hown, hts⟩ (m_isIn l D g ad (w) _ a4 a2 20000  ) (cwS 3 hts (dq_giS2 tw4_11 tw4_12 tw1_10 tw4_13) rfl rfl rfl (by decide +kernel) ⟨Nat.le_of_ble_eq_true rfl, Nat.le_of_ble_eq_true rfl⟩) (dq_preS hW hS hA hK hZ) rfl rfl hl.1 rfl (lv_room (Nat.le_of_ble_eq_true rfl)) dMo_clamp_43 ⟨Nat.zero_le _, Nat.zero_le _⟩) hW hS hA (fun r1 u_9 H locs hp1 hW hS hz9 => ?_)
        obtain ⟨hr1, hu9⟩ := hp1
        rw [hu9] at hW
        subst hr1
        refine lv_if_eq (tgt := 53) hx hb dMo_clamp_46 (by decide) (fun c9 => ?_) (fun c9 => ?_)
        · have q3 := dq_b_f c9
          refine lv_iconst (v := (0)) hx hb dMo_clamp_53 (by decide) ?_
          exact J 0 _ _ _ (by rw [q0, q1, q2, q3]; rfl) hW hS (lv_sub hl [0, 1, 2, 3, 4] rfl)
        · have q3 := dq_b_t c9
          refine lv_iconst (v := (1)) hx hb dMo_clamp_49 (by decide) ?_
          refine lv_goto (tgt := 54) hx hb dMo_clamp_50 (by decide) ?_
          exact J 1 _ _ _ (by rw [q0, q1, q2, q3]; rfl) hW hS (lv_sub hl [0, 1, 2, 3, 4] rfl)
set_option maxHeartbeats 4000000 in
set_option maxRecDepth 100000 in
/-- mirror, no such axis -/
theorem m_mirror1 (l : Launch) (D : va_G) (g : Nat → ClassId) (ad : Nat → Nat) (w : Nat → Option va_E) (sz : Nat) (cd : Int32) (n hn cn : Nat) (pl : Int32) (tn : Nat) (sg : Int32) (wy : Int64) (px py pw pd pf pt : Nat → Int32) (a0 : Int32) (m100 : w 100 = some (.inr (8, [.int cd, .int (nI n), .ref (ad 102), .ref (ad 103), .ref (ad 104), .int (nI hn), .ref (ad 106), .ref (ad 107), .ref (ad 108), .ref (ad 109), .ref (ad 110), .ref (ad 111), .int (nI cn), .ref (ad 113), .int pl, .int (nI tn), .ref (ad 116), .ref (ad 117), .ref (ad 118), .ref (ad 119), .int sg, .ref (ad 121), .long wy, .ref (ad 123), .ref (ad 124), .ref (ad 125), .ref (ad 126), .ref (ad 127), .ref (ad 128)]))) (m106 : w 106 = some (.inl (g 0, 14, .inl px))) (m107 : w 107 = some (.inl (g 0, 14, .inl py))) (h0 : mr_in a0 0 1 = false) : Met l yMo_mirror wsMo_mirror ({ frames := 1, cells := 0, slots := 0, locals := 24 } : Room) (va_Pc [.ref (ad 100), .int a0] (dq_S D vwCl (dq_t g) ad w sz)) (va_Qi (fun r u => r = 0 ∧ u = dq_U w 100 (.inr (8, [.int 1, .int (nI n), .ref (ad 102), .ref (ad 103), .ref (ad 104), .int (nI hn), .ref (ad 106), .ref (ad 107), .ref (ad 108), .ref (ad 109), .ref (ad 110), .ref (ad 111), .int (nI cn), .ref (ad 113), .int pl, .int (nI tn), .ref (ad 116), .ref (ad 117), .ref (ad 118), .ref (ad 119), .int sg, .ref (ad 121), .long wy, .ref (ad 123), .ref (ad 124), .ref (ad 125), .ref (ad 126), .ref (ad 127), .ref (ad 128)]))) (dq_B D vwCl (dq_t g) ad (dq_A ad w sz)) (dq_A ad w sz)) 0 0 (dq_A ad w sz) := by
  refine dq_ofi (cc := cMo_mirror) (maxL := 3) (by decide) rfl (Nat.le_of_ble_eq_true rfl) ?_
  intro p e s m below meth c A Q ls ⟨hx, hb, hml, hown, hts⟩ hnm hA hW hK hZ hl hret
  have hS : va_S A s.heap s.heap [] := va_S.rf
  have hl : lv_has ls 3 [(0, .ref (ad 100)), (1, .int a0)] := hl
  have hf19 := hts _ (List.mem_cons_of_mem _ tw3_160)
  have hf22 := hts _ (List.mem_cons_of_mem _ tw3_161)
  have hf79 := hts _ (List.mem_cons_of_mem _ tw3_154)
  have hf86 := hts _ (List.mem_cons_of_mem _ tw3_168)
  have hf90 := hts _ (List.mem_cons_of_mem _ tw3_159)
  have hinMo : ∀ w ∈ u_ws RMo TMo 29, w ∈ wsMo_mirror := fun w h => List.mem_cons_of_mem _ (inMo w h)
  refine lv_aload_n hx hb dMo_mirror_0 rfl (lv_at hl 0 rfl) ?_
  refine lv_iload_n hx hb dMo_mirror_1 rfl (lv_at hl 1 rfl) ?_
  refine lv_iconst (v := (0)) hx hb dMo_mirror_2 (by decide) ?_
  refine lv_iconst (v := (1)) hx hb dMo_mirror_3 (by decide) ?_
  refine dq_calli (va_runS (As := [.int a0, .int (0), .int (1)]) (rest := [.ref (ad 100)]) ⟨hx, hb, hml, hown, hts⟩ (m_isIn l D g ad (w) _ a0 0 1  ) (cwS 3 hts (dq_giS2 tw4_11 tw4_12 tw1_10 tw4_13) rfl rfl rfl (by decide +kernel) ⟨Nat.le_of_ble_eq_true rfl, Nat.le_of_ble_eq_true rfl⟩) (dq_preS hW hS hA hK hZ) rfl rfl hl.1 rfl (lv_room (Nat.le_of_ble_eq_true rfl)) dMo_mirror_4 ⟨Nat.zero_le _, Nat.zero_le _⟩) hW hS hA (fun r1 u_9 H locs hp1 hW hS hz9 => ?_)
  obtain ⟨hr1, hu9⟩ := hp1
  rw [hu9] at hW
  subst hr1
  refine lv_if_eq (tgt := 14) hx hb dMo_mirror_7 (by decide) (fun c9 => ?_) (fun c9 => ?_)
  · have q0 := dq_b_f c9
    refine lv_iconst (v := (1)) hx hb dMo_mirror_14 (by decide) ?_
    refine dq_put (D := D) (ci := 8) (v := .int (1)) (ty := .int) (C := RMo) (T := TMo) (N := 29) hx hb hts hinMo tyMo tyMo_ok nmMo hown hK hW hS 100 m100 rfl 0 (by decide) hf79 (fun _ h9 => h9) rfl (by decide +kernel) rfl rfl (Nat.le_of_ble_eq_true rfl) dMo_mirror_15 (fun H locs hW hS => ?_)
    refine lv_aload_n hx hb dMo_mirror_18 rfl (lv_at hl 0 rfl) ?_
    refine dq_get (D := D) (ci := 8) (v := .int (1)) (C := RMo) (T := TMo) (N := 29) hx hb hts hinMo hown hK hW 100 dq_Us rfl 0 (by decide) hf79 (fun _ h9 => h9) rfl dMo_mirror_19 ?_
    refine lv_if_le (tgt := 27) hx hb dMo_mirror_22 (by decide) (fun c1 => ?_) (fun c1 => ?_)
    · exact absurd c1 (by decide)
    · refine lv_iconst (v := (0)) hx hb dMo_mirror_25 (by decide) ?_
      exact hret _ _ _ _ _ _ ⟨rfl, rfl⟩ hW hS dMo_mirror_26
  · have q0 := dq_b_t c9
    exact absurd (h0.symm.trans q0) (by decide)

set_option maxHeartbeats 4000000 in
set_option maxRecDepth 100000 in
/-- mirror(0) -/
theorem m_mirror_0z (l : Launch) (D : va_G) (g : Nat → ClassId) (ad : Nat → Nat) (w : Nat → Option va_E) (sz : Nat) (cd : Int32) (n hn cn : Nat) (pl : Int32) (tn : Nat) (sg : Int32) (wy : Int64) (px py pw pd pf pt : Nat → Int32) (m100 : w 100 = some (.inr (8, [.int cd, .int (nI n), .ref (ad 102), .ref (ad 103), .ref (ad 104), .int (nI hn), .ref (ad 106), .ref (ad 107), .ref (ad 108), .ref (ad 109), .ref (ad 110), .ref (ad 111), .int (nI cn), .ref (ad 113), .int pl, .int (nI tn), .ref (ad 116), .ref (ad 117), .ref (ad 118), .ref (ad 119), .int sg, .ref (ad 121), .long wy, .ref (ad 123), .ref (ad 124), .ref (ad 125), .ref (ad 126), .ref (ad 127), .ref (ad 128)]))) (m106 : w 106 = some (.inl (g 0, 14, .inl px))) (m107 : w 107 = some (.inl (g 0, 14, .inl py))) (hpc : hn ≤ 14) (hpl : pl = 1) (hz : hn = 0) : Met l yMo_mirror wsMo_mirror ({ frames := 1, cells := 0, slots := 0, locals := 24 } : Room) (va_Pc [.ref (ad 100), .int 0] (dq_S D vwCl (dq_t g) ad w sz)) (va_Qi (fun r u => r = nI hn ∧ u = dq_U (dq_U (dq_U w 100 (.inr (8, [.int 0, .int (nI n), .ref (ad 102), .ref (ad 103), .ref (ad 104), .int (nI hn), .ref (ad 106), .ref (ad 107), .ref (ad 108), .ref (ad 109), .ref (ad 110), .ref (ad 111), .int (nI cn), .ref (ad 113), .int 1, .int (nI tn), .ref (ad 116), .ref (ad 117), .ref (ad 118), .ref (ad 119), .int sg, .ref (ad 121), .long wy, .ref (ad 123), .ref (ad 124), .ref (ad 125), .ref (ad 126), .ref (ad 127), .ref (ad 128)]))) 106 (.inl (g 0, 14, .inl (mn_neg px hn)))) 107 (.inl (g 0, 14, .inl py))) (dq_B D vwCl (dq_t g) ad (dq_A ad w sz)) (dq_A ad w sz)) 0 0 (dq_A ad w sz) := by
  refine dq_ofi (cc := cMo_mirror) (maxL := 3) (by decide) rfl (Nat.le_of_ble_eq_true rfl) ?_
  intro p e s m below meth c A Q ls ⟨hx, hb, hml, hown, hts⟩ hnm hA hW hK hZ hl hret
  have hS : va_S A s.heap s.heap [] := va_S.rf
  have hl : lv_has ls 3 [(0, .ref (ad 100)), (1, .int 0)] := hl
  have hf19 := hts _ (List.mem_cons_of_mem _ tw3_160)
  have hf22 := hts _ (List.mem_cons_of_mem _ tw3_161)
  have hf79 := hts _ (List.mem_cons_of_mem _ tw3_154)
  have hf86 := hts _ (List.mem_cons_of_mem _ tw3_168)
  have hf90 := hts _ (List.mem_cons_of_mem _ tw3_159)
  have hinMo : ∀ w ∈ u_ws RMo TMo 29, w ∈ wsMo_mirror := fun w h => List.mem_cons_of_mem _ (inMo w h)
  refine lv_aload_n hx hb dMo_mirror_0 rfl (lv_at hl 0 rfl) ?_
  refine lv_iload_n hx hb dMo_mirror_1 rfl (lv_at hl 1 rfl) ?_
  refine lv_iconst (v := (0)) hx hb dMo_mirror_2 (by decide) ?_
  refine lv_iconst (v := (1)) hx hb dMo_mirror_3 (by decide) ?_
  refine dq_calli (va_runS (As := [.int 0, .int (0), .int (1)]) (rest := [.ref (ad 100)]) ⟨hx, hb, hml, hown, hts⟩ (m_isIn l D g ad (w) _ 0 0 1  ) (cwS 3 hts (dq_giS2 tw4_11 tw4_12 tw1_10 tw4_13) rfl rfl rfl (by decide +kernel) ⟨Nat.le_of_ble_eq_true rfl, Nat.le_of_ble_eq_true rfl⟩) (dq_preS hW hS hA hK hZ) rfl rfl hl.1 rfl (lv_room (Nat.le_of_ble_eq_true rfl)) dMo_mirror_4 ⟨Nat.zero_le _, Nat.zero_le _⟩) hW hS hA (fun r1 u_9 H locs hp1 hW hS hz9 => ?_)
  obtain ⟨hr1, hu9⟩ := hp1
  rw [hu9] at hW
  subst hr1
  refine lv_if_eq (tgt := 14) hx hb dMo_mirror_7 (by decide) (fun c9 => ?_) (fun c9 => ?_)
  · have q0 := dq_b_f c9
    exact absurd q0 (by decide)
  · have q0 := dq_b_t c9
    refine lv_iconst (v := (0)) hx hb dMo_mirror_10 (by decide) ?_
    refine lv_goto (tgt := 15) hx hb dMo_mirror_11 (by decide) ?_
    refine dq_put (D := D) (ci := 8) (v := .int (0)) (ty := .int) (C := RMo) (T := TMo) (N := 29) hx hb hts hinMo tyMo tyMo_ok nmMo hown hK hW hS 100 m100 rfl 0 (by decide) hf79 (fun _ h9 => h9) rfl (by decide +kernel) rfl rfl (Nat.le_of_ble_eq_true rfl) dMo_mirror_15 (fun H locs hW hS => ?_)
    refine lv_aload_n hx hb dMo_mirror_18 rfl (lv_at hl 0 rfl) ?_
    refine dq_get (D := D) (ci := 8) (v := .int (0)) (C := RMo) (T := TMo) (N := 29) hx hb hts hinMo hown hK hW 100 dq_Us rfl 0 (by decide) hf79 (fun _ h9 => h9) rfl dMo_mirror_19 ?_
    refine lv_if_le (tgt := 27) hx hb dMo_mirror_22 (by decide) (fun c1 => ?_) (fun c1 => ?_)
    · refine lv_iconst (v := (nI 0)) hx hb dMo_mirror_27 (by decide) ?_
      refine lv_istore_n (lv' := [(2, .int (nI 0)), (0, .ref (ad 100)), (1, .int 0)]) hx hb dMo_mirror_28 rfl hl (by decide) rfl (fun ls hl => ?_)
      have hW : dq_W D vwCl ad (dq_U (dq_U (dq_U w 100 (.inr (8, [.int 0, .int (nI n), .ref (ad 102), .ref (ad 103), .ref (ad 104), .int (nI hn), .ref (ad 106), .ref (ad 107), .ref (ad 108), .ref (ad 109), .ref (ad 110), .ref (ad 111), .int (nI cn), .ref (ad 113), .int pl, .int (nI tn), .ref (ad 116), .ref (ad 117), .ref (ad 118), .ref (ad 119), .int sg, .ref (ad 121), .long wy, .ref (ad 123), .ref (ad 124), .ref (ad 125), .ref (ad 126), .ref (ad 127), .ref (ad 128)]))) 106 (.inl (g 0, 14, .inl px))) 107 (.inl (g 0, 14, .inl py))) A H := dq_Wc (by rw [dq_Uid (r := 106) ((dq_Un (by decide)).trans m106), dq_Uid (r := 107) ((dq_Un (by decide)).trans m107)]; try rfl) hW
      have hW : dq_W D vwCl ad (dq_U (dq_U (dq_U w 100 (.inr (8, [.int 0, .int (nI n), .ref (ad 102), .ref (ad 103), .ref (ad 104), .int (nI hn), .ref (ad 106), .ref (ad 107), .ref (ad 108), .ref (ad 109), .ref (ad 110), .ref (ad 111), .int (nI cn), .ref (ad 113), .int pl, .int (nI tn), .ref (ad 116), .ref (ad 117), .ref (ad 118), .ref (ad 119), .int sg, .ref (ad 121), .long wy, .ref (ad 123), .ref (ad 124), .ref (ad 125), .ref (ad 126), .ref (ad 127), .ref (ad 128)]))) 106 (.inl (g 0, 14, .inl (mn_neg px 0)))) 107 (.inl (g 0, 14, .inl py))) A H := dq_Wc (by rw [mn_neg_0]; try rfl) hW
      have loop : ∀ (j : Nat) (k : Nat) (H : Heap) (locs : List Loc) (ls : Array Slot), hn < k + j → k ≤ hn → dq_W D vwCl ad (dq_U (dq_U (dq_U w 100 (.inr (8, [.int 0, .int (nI n), .ref (ad 102), .ref (ad 103), .ref (ad 104), .int (nI hn), .ref (ad 106), .ref (ad 107), .ref (ad 108), .ref (ad 109), .ref (ad 110), .ref (ad 111), .int (nI cn), .ref (ad 113), .int pl, .int (nI tn), .ref (ad 116), .ref (ad 117), .ref (ad 118), .ref (ad 119), .int sg, .ref (ad 121), .long wy, .ref (ad 123), .ref (ad 124), .ref (ad 125), .ref (ad 126), .ref (ad 127), .ref (ad 128)]))) 106 (.inl (g 0, 14, .inl (mn_neg px k)))) 107 (.inl (g 0, 14, .inl py))) A H → va_S A s.heap H locs → lv_has ls 3 [(0, .ref (ad 100)), (1, .int 0), (2, .int (nI k))] → W p l e ({ frames := 1, cells := 0, slots := 0, locals := 24 } : Room) s m ([.ref (ad 100), .int 0] : List Value).toArray below meth c H locs 0 0 Q (F0 m 29 ls []) := by
        intro j
        induction j with
        | zero => intro k H locs ls hj hk hW hS hl; exact absurd hj (by omega)
        | succ j ih =>
          intro k H locs ls hj hk hW hS hl
          refine lv_iload_n hx hb dMo_mirror_29 rfl (lv_at hl 2 rfl) ?_
          refine lv_aload_n hx hb dMo_mirror_30 rfl (lv_at hl 0 rfl) ?_
          refine dq_get (D := D) (ci := 8) (v := .int (nI hn)) (C := RMo) (T := TMo) (N := 29) hx hb hts hinMo hown hK hW 100 ((dq_Un (by decide)).trans ((dq_Un (by decide)).trans dq_Us)) rfl 5 (by decide) hf90 (fun _ h9 => h9) rfl dMo_mirror_31 ?_
          refine lv_icmp_ge (tgt := 96) hx hb dMo_mirror_34 (by decide) (fun c1 => ?_) (fun c1 => ?_)
          · have hkn : hn = k := by have q9 := (nI_leI (by omega) (by omega)).mp c1; omega
            subst hkn
            refine lv_aload_n hx hb dMo_mirror_96 rfl (lv_at hl 0 rfl) ?_
            refine lv_aload_n hx hb dMo_mirror_97 rfl (lv_at hl 0 rfl) ?_
            refine dq_get (D := D) (ci := 8) (v := .int pl) (C := RMo) (T := TMo) (N := 29) hx hb hts hinMo hown hK hW 100 ((dq_Un (by decide)).trans ((dq_Un (by decide)).trans dq_Us)) rfl 14 (by decide) hf86 (fun _ h9 => h9) rfl dMo_mirror_98 ?_
            refine lv_if_eq (tgt := 115) hx hb dMo_mirror_101 (by decide) (fun c2 => ?_) (fun c2 => ?_)
            · exact absurd (hpl.symm.trans c2) (by decide)
            · refine lv_aload_n hx hb dMo_mirror_104 rfl (lv_at hl 0 rfl) ?_
              refine dq_get (D := D) (ci := 8) (v := .int (nI hn)) (C := RMo) (T := TMo) (N := 29) hx hb hts hinMo hown hK hW 100 ((dq_Un (by decide)).trans ((dq_Un (by decide)).trans dq_Us)) rfl 5 (by decide) hf90 (fun _ h9 => h9) rfl dMo_mirror_105 ?_
              refine lv_if_ne (tgt := 115) hx hb dMo_mirror_108 (by decide) (fun c3 => ?_) (fun c3 => ?_)
              · exact absurd (by rw [hz]; rfl) c3
              · refine lv_iconst (v := (1)) hx hb dMo_mirror_111 (by decide) ?_
                refine lv_goto (tgt := 116) hx hb dMo_mirror_112 (by decide) ?_
                refine dq_put (D := D) (ci := 8) (v := .int (1)) (ty := .boolean) (C := RMo) (T := TMo) (N := 29) hx hb hts hinMo tyMo tyMo_ok nmMo hown hK hW hS 100 ((dq_Un (by decide)).trans ((dq_Un (by decide)).trans dq_Us)) rfl 14 (by decide) hf86 (fun _ h9 => h9) rfl (by decide +kernel) rfl rfl (Nat.le_of_ble_eq_true rfl) dMo_mirror_116 (fun H locs hW hS => ?_)
                have hW : dq_W D vwCl ad (dq_U (dq_U (dq_U w 100 (.inr (8, [.int 0, .int (nI n), .ref (ad 102), .ref (ad 103), .ref (ad 104), .int (nI hn), .ref (ad 106), .ref (ad 107), .ref (ad 108), .ref (ad 109), .ref (ad 110), .ref (ad 111), .int (nI cn), .ref (ad 113), .int (1), .int (nI tn), .ref (ad 116), .ref (ad 117), .ref (ad 118), .ref (ad 119), .int sg, .ref (ad 121), .long wy, .ref (ad 123), .ref (ad 124), .ref (ad 125), .ref (ad 126), .ref (ad 127), .ref (ad 128)]))) 106 (.inl (g 0, 14, .inl (mn_neg px hn)))) 107 (.inl (g 0, 14, .inl py))) A H := dq_Wc (by funext j; unfold dq_U; (repeat' split) <;> first | rfl | omega) hW
                refine lv_aload_n hx hb dMo_mirror_119 rfl (lv_at hl 0 rfl) ?_
                refine dq_get (D := D) (ci := 8) (v := .int (nI hn)) (C := RMo) (T := TMo) (N := 29) hx hb hts hinMo hown hK hW 100 ((dq_Un (by decide)).trans ((dq_Un (by decide)).trans dq_Us)) rfl 5 (by decide) hf90 (fun _ h9 => h9) rfl dMo_mirror_120 ?_
                exact hret _ _ _ _ _ _ ⟨rfl, rfl⟩ hW hS dMo_mirror_123
          · have hkn : k < hn := by rcases Nat.lt_or_ge k hn with q | q; exact q; exact absurd (nI_le q (by omega)) c1
            refine lv_aload_n hx hb dMo_mirror_37 rfl (lv_at hl 0 rfl) ?_
            refine dq_get (D := D) (ci := 8) (v := .ref (ad 106)) (C := RMo) (T := TMo) (N := 29) hx hb hts hinMo hown hK hW 100 ((dq_Un (by decide)).trans ((dq_Un (by decide)).trans dq_Us)) rfl 6 (by decide) hf19 (fun _ h9 => h9) rfl dMo_mirror_38 ?_
            refine lv_iload_n hx hb dMo_mirror_41 rfl (lv_at hl 2 rfl) ?_
            refine lv_iload_n hx hb dMo_mirror_42 rfl (lv_at hl 1 rfl) ?_
            refine lv_if_ne (tgt := 56) hx hb dMo_mirror_43 (by decide) (fun c2 => ?_) (fun c2 => ?_)
            · exact absurd rfl c2
            · refine lv_aload_n hx hb dMo_mirror_46 rfl (lv_at hl 0 rfl) ?_
              refine dq_get (D := D) (ci := 8) (v := .ref (ad 106)) (C := RMo) (T := TMo) (N := 29) hx hb hts hinMo hown hK hW 100 ((dq_Un (by decide)).trans ((dq_Un (by decide)).trans dq_Us)) rfl 6 (by decide) hf19 (fun _ h9 => h9) rfl dMo_mirror_47 ?_
              refine lv_iload_n hx hb dMo_mirror_50 rfl (lv_at hl 2 rfl) ?_
              refine dq_ialdN hx hb hK hW 106 0 ((dq_Un (by decide)).trans dq_Us) rfl k (by omega) (by omega) dMo_mirror_51 ?_
              refine lv_ineg hx hb dMo_mirror_52 ?_
              refine lv_goto (tgt := 62) hx hb dMo_mirror_53 (by decide) ?_
              refine dq_iastN hx hb hK hW hS 106 0 ((dq_Un (by decide)).trans dq_Us) rfl k (by omega) (by omega) dMo_mirror_62 (fun H locs hW hS => ?_)
              have hW : dq_W D vwCl ad (dq_U (dq_U (dq_U w 100 (.inr (8, [.int 0, .int (nI n), .ref (ad 102), .ref (ad 103), .ref (ad 104), .int (nI hn), .ref (ad 106), .ref (ad 107), .ref (ad 108), .ref (ad 109), .ref (ad 110), .ref (ad 111), .int (nI cn), .ref (ad 113), .int pl, .int (nI tn), .ref (ad 116), .ref (ad 117), .ref (ad 118), .ref (ad 119), .int sg, .ref (ad 121), .long wy, .ref (ad 123), .ref (ad 124), .ref (ad 125), .ref (ad 126), .ref (ad 127), .ref (ad 128)]))) 106 (.inl (g 0, 14, .inl (upd (mn_neg px k) k (-((mn_neg px k) k)))))) 107 (.inl (g 0, 14, .inl py))) A H := dq_Wc (by funext j; unfold dq_U; (repeat' split) <;> first | rfl | omega) hW
              refine lv_aload_n hx hb dMo_mirror_63 rfl (lv_at hl 0 rfl) ?_
              refine dq_get (D := D) (ci := 8) (v := .ref (ad 107)) (C := RMo) (T := TMo) (N := 29) hx hb hts hinMo hown hK hW 100 ((dq_Un (by decide)).trans ((dq_Un (by decide)).trans dq_Us)) rfl 7 (by decide) hf22 (fun _ h9 => h9) rfl dMo_mirror_64 ?_
              refine lv_iload_n hx hb dMo_mirror_67 rfl (lv_at hl 2 rfl) ?_
              refine lv_iload_n hx hb dMo_mirror_68 rfl (lv_at hl 1 rfl) ?_
              refine lv_iconst (v := (1)) hx hb dMo_mirror_69 (by decide) ?_
              refine lv_icmp_ne (tgt := 83) hx hb dMo_mirror_70 (by decide) (fun c3 => ?_) (fun c3 => ?_)
              · refine lv_aload_n hx hb dMo_mirror_83 rfl (lv_at hl 0 rfl) ?_
                refine dq_get (D := D) (ci := 8) (v := .ref (ad 107)) (C := RMo) (T := TMo) (N := 29) hx hb hts hinMo hown hK hW 100 ((dq_Un (by decide)).trans ((dq_Un (by decide)).trans dq_Us)) rfl 7 (by decide) hf22 (fun _ h9 => h9) rfl dMo_mirror_84 ?_
                refine lv_iload_n hx hb dMo_mirror_87 rfl (lv_at hl 2 rfl) ?_
                refine dq_ialdN hx hb hK hW 107 0 dq_Us rfl k (by omega) (by omega) dMo_mirror_88 ?_
                refine dq_iastN hx hb hK hW hS 107 0 dq_Us rfl k (by omega) (by omega) dMo_mirror_89 (fun H locs hW hS => ?_)
                rw [dq_UU] at hW
                refine lv_iinc (v := (nI (k + 1))) (lv' := [(2, .int (nI (k + 1))), (0, .ref (ad 100)), (1, .int 0)]) hx hb dMo_mirror_90 hl (k := 2) rfl (by show nI k + 1 = _; exact nI_1 _) (by decide) rfl (fun ls hl => ?_)
                refine lv_goto (tgt := 29) hx hb dMo_mirror_93 (by decide) ?_
                have hW : dq_W D vwCl ad (dq_U (dq_U (dq_U w 100 (.inr (8, [.int 0, .int (nI n), .ref (ad 102), .ref (ad 103), .ref (ad 104), .int (nI hn), .ref (ad 106), .ref (ad 107), .ref (ad 108), .ref (ad 109), .ref (ad 110), .ref (ad 111), .int (nI cn), .ref (ad 113), .int pl, .int (nI tn), .ref (ad 116), .ref (ad 117), .ref (ad 118), .ref (ad 119), .int sg, .ref (ad 121), .long wy, .ref (ad 123), .ref (ad 124), .ref (ad 125), .ref (ad 126), .ref (ad 127), .ref (ad 128)]))) 106 (.inl (g 0, 14, .inl (mn_neg px (k + 1))))) 107 (.inl (g 0, 14, .inl py))) A H := dq_Wc (by rw [mn_neg_s, dq_updid]; try rfl) hW
                exact ih (k + 1) _ _ _ (by omega) (by omega) hW hS (lv_sub hl [1, 2, 0] rfl)
              · exact absurd c3 (by decide)
      exact loop (hn + 1) 0 _ _ _ (by omega) (Nat.zero_le _) hW hS (lv_sub hl [1, 2, 0] rfl)
    · exact absurd (by decide) c1

set_option maxHeartbeats 4000000 in
set_option maxRecDepth 100000 in
/-- mirror(0) -/
theorem m_mirror_0p (l : Launch) (D : va_G) (g : Nat → ClassId) (ad : Nat → Nat) (w : Nat → Option va_E) (sz : Nat) (cd : Int32) (n hn cn : Nat) (pl : Int32) (tn : Nat) (sg : Int32) (wy : Int64) (px py pw pd pf pt : Nat → Int32) (m100 : w 100 = some (.inr (8, [.int cd, .int (nI n), .ref (ad 102), .ref (ad 103), .ref (ad 104), .int (nI hn), .ref (ad 106), .ref (ad 107), .ref (ad 108), .ref (ad 109), .ref (ad 110), .ref (ad 111), .int (nI cn), .ref (ad 113), .int pl, .int (nI tn), .ref (ad 116), .ref (ad 117), .ref (ad 118), .ref (ad 119), .int sg, .ref (ad 121), .long wy, .ref (ad 123), .ref (ad 124), .ref (ad 125), .ref (ad 126), .ref (ad 127), .ref (ad 128)]))) (m106 : w 106 = some (.inl (g 0, 14, .inl px))) (m107 : w 107 = some (.inl (g 0, 14, .inl py))) (hpc : hn ≤ 14) (hz : 0 < hn) : Met l yMo_mirror wsMo_mirror ({ frames := 1, cells := 0, slots := 0, locals := 24 } : Room) (va_Pc [.ref (ad 100), .int 0] (dq_S D vwCl (dq_t g) ad w sz)) (va_Qi (fun r u => r = nI hn ∧ u = dq_U (dq_U (dq_U w 100 (.inr (8, [.int 0, .int (nI n), .ref (ad 102), .ref (ad 103), .ref (ad 104), .int (nI hn), .ref (ad 106), .ref (ad 107), .ref (ad 108), .ref (ad 109), .ref (ad 110), .ref (ad 111), .int (nI cn), .ref (ad 113), .int 0, .int (nI tn), .ref (ad 116), .ref (ad 117), .ref (ad 118), .ref (ad 119), .int sg, .ref (ad 121), .long wy, .ref (ad 123), .ref (ad 124), .ref (ad 125), .ref (ad 126), .ref (ad 127), .ref (ad 128)]))) 106 (.inl (g 0, 14, .inl (mn_neg px hn)))) 107 (.inl (g 0, 14, .inl py))) (dq_B D vwCl (dq_t g) ad (dq_A ad w sz)) (dq_A ad w sz)) 0 0 (dq_A ad w sz) := by
  refine dq_ofi (cc := cMo_mirror) (maxL := 3) (by decide) rfl (Nat.le_of_ble_eq_true rfl) ?_
  intro p e s m below meth c A Q ls ⟨hx, hb, hml, hown, hts⟩ hnm hA hW hK hZ hl hret
  have hS : va_S A s.heap s.heap [] := va_S.rf
  have hl : lv_has ls 3 [(0, .ref (ad 100)), (1, .int 0)] := hl
  have hf19 := hts _ (List.mem_cons_of_mem _ tw3_160)
  have hf22 := hts _ (List.mem_cons_of_mem _ tw3_161)
  have hf79 := hts _ (List.mem_cons_of_mem _ tw3_154)
  have hf86 := hts _ (List.mem_cons_of_mem _ tw3_168)
  have hf90 := hts _ (List.mem_cons_of_mem _ tw3_159)
  have hinMo : ∀ w ∈ u_ws RMo TMo 29, w ∈ wsMo_mirror := fun w h => List.mem_cons_of_mem _ (inMo w h)
  refine lv_aload_n hx hb dMo_mirror_0 rfl (lv_at hl 0 rfl) ?_
  refine lv_iload_n hx hb dMo_mirror_1 rfl (lv_at hl 1 rfl) ?_
  refine lv_iconst (v := (0)) hx hb dMo_mirror_2 (by decide) ?_
  refine lv_iconst (v := (1)) hx hb dMo_mirror_3 (by decide) ?_
  refine dq_calli (va_runS (As := [.int 0, .int (0), .int (1)]) (rest := [.ref (ad 100)]) ⟨hx, hb, hml, hown, hts⟩ (m_isIn l D g ad (w) _ 0 0 1  ) (cwS 3 hts (dq_giS2 tw4_11 tw4_12 tw1_10 tw4_13) rfl rfl rfl (by decide +kernel) ⟨Nat.le_of_ble_eq_true rfl, Nat.le_of_ble_eq_true rfl⟩) (dq_preS hW hS hA hK hZ) rfl rfl hl.1 rfl (lv_room (Nat.le_of_ble_eq_true rfl)) dMo_mirror_4 ⟨Nat.zero_le _, Nat.zero_le _⟩) hW hS hA (fun r1 u_9 H locs hp1 hW hS hz9 => ?_)
  obtain ⟨hr1, hu9⟩ := hp1
  rw [hu9] at hW
  subst hr1
  refine lv_if_eq (tgt := 14) hx hb dMo_mirror_7 (by decide) (fun c9 => ?_) (fun c9 => ?_)
  · have q0 := dq_b_f c9
    exact absurd q0 (by decide)
  · have q0 := dq_b_t c9
    refine lv_iconst (v := (0)) hx hb dMo_mirror_10 (by decide) ?_
    refine lv_goto (tgt := 15) hx hb dMo_mirror_11 (by decide) ?_
    refine dq_put (D := D) (ci := 8) (v := .int (0)) (ty := .int) (C := RMo) (T := TMo) (N := 29) hx hb hts hinMo tyMo tyMo_ok nmMo hown hK hW hS 100 m100 rfl 0 (by decide) hf79 (fun _ h9 => h9) rfl (by decide +kernel) rfl rfl (Nat.le_of_ble_eq_true rfl) dMo_mirror_15 (fun H locs hW hS => ?_)
    refine lv_aload_n hx hb dMo_mirror_18 rfl (lv_at hl 0 rfl) ?_
    refine dq_get (D := D) (ci := 8) (v := .int (0)) (C := RMo) (T := TMo) (N := 29) hx hb hts hinMo hown hK hW 100 dq_Us rfl 0 (by decide) hf79 (fun _ h9 => h9) rfl dMo_mirror_19 ?_
    refine lv_if_le (tgt := 27) hx hb dMo_mirror_22 (by decide) (fun c1 => ?_) (fun c1 => ?_)
    · refine lv_iconst (v := (nI 0)) hx hb dMo_mirror_27 (by decide) ?_
      refine lv_istore_n (lv' := [(2, .int (nI 0)), (0, .ref (ad 100)), (1, .int 0)]) hx hb dMo_mirror_28 rfl hl (by decide) rfl (fun ls hl => ?_)
      have hW : dq_W D vwCl ad (dq_U (dq_U (dq_U w 100 (.inr (8, [.int 0, .int (nI n), .ref (ad 102), .ref (ad 103), .ref (ad 104), .int (nI hn), .ref (ad 106), .ref (ad 107), .ref (ad 108), .ref (ad 109), .ref (ad 110), .ref (ad 111), .int (nI cn), .ref (ad 113), .int pl, .int (nI tn), .ref (ad 116), .ref (ad 117), .ref (ad 118), .ref (ad 119), .int sg, .ref (ad 121), .long wy, .ref (ad 123), .ref (ad 124), .ref (ad 125), .ref (ad 126), .ref (ad 127), .ref (ad 128)]))) 106 (.inl (g 0, 14, .inl px))) 107 (.inl (g 0, 14, .inl py))) A H := dq_Wc (by rw [dq_Uid (r := 106) ((dq_Un (by decide)).trans m106), dq_Uid (r := 107) ((dq_Un (by decide)).trans m107)]; try rfl) hW
      have hW : dq_W D vwCl ad (dq_U (dq_U (dq_U w 100 (.inr (8, [.int 0, .int (nI n), .ref (ad 102), .ref (ad 103), .ref (ad 104), .int (nI hn), .ref (ad 106), .ref (ad 107), .ref (ad 108), .ref (ad 109), .ref (ad 110), .ref (ad 111), .int (nI cn), .ref (ad 113), .int pl, .int (nI tn), .ref (ad 116), .ref (ad 117), .ref (ad 118), .ref (ad 119), .int sg, .ref (ad 121), .long wy, .ref (ad 123), .ref (ad 124), .ref (ad 125), .ref (ad 126), .ref (ad 127), .ref (ad 128)]))) 106 (.inl (g 0, 14, .inl (mn_neg px 0)))) 107 (.inl (g 0, 14, .inl py))) A H := dq_Wc (by rw [mn_neg_0]; try rfl) hW
      have loop : ∀ (j : Nat) (k : Nat) (H : Heap) (locs : List Loc) (ls : Array Slot), hn < k + j → k ≤ hn → dq_W D vwCl ad (dq_U (dq_U (dq_U w 100 (.inr (8, [.int 0, .int (nI n), .ref (ad 102), .ref (ad 103), .ref (ad 104), .int (nI hn), .ref (ad 106), .ref (ad 107), .ref (ad 108), .ref (ad 109), .ref (ad 110), .ref (ad 111), .int (nI cn), .ref (ad 113), .int pl, .int (nI tn), .ref (ad 116), .ref (ad 117), .ref (ad 118), .ref (ad 119), .int sg, .ref (ad 121), .long wy, .ref (ad 123), .ref (ad 124), .ref (ad 125), .ref (ad 126), .ref (ad 127), .ref (ad 128)]))) 106 (.inl (g 0, 14, .inl (mn_neg px k)))) 107 (.inl (g 0, 14, .inl py))) A H → va_S A s.heap H locs → lv_has ls 3 [(0, .ref (ad 100)), (1, .int 0), (2, .int (nI k))] → W p l e ({ frames := 1, cells := 0, slots := 0, locals := 24 } : Room) s m ([.ref (ad 100), .int 0] : List Value).toArray below meth c H locs 0 0 Q (F0 m 29 ls []) := by
        intro j
        induction j with
        | zero => intro k H locs ls hj hk hW hS hl; exact absurd hj (by omega)
        | succ j ih =>
          intro k H locs ls hj hk hW hS hl
          refine lv_iload_n hx hb dMo_mirror_29 rfl (lv_at hl 2 rfl) ?_
          refine lv_aload_n hx hb dMo_mirror_30 rfl (lv_at hl 0 rfl) ?_
          refine dq_get (D := D) (ci := 8) (v := .int (nI hn)) (C := RMo) (T := TMo) (N := 29) hx hb hts hinMo hown hK hW 100 ((dq_Un (by decide)).trans ((dq_Un (by decide)).trans dq_Us)) rfl 5 (by decide) hf90 (fun _ h9 => h9) rfl dMo_mirror_31 ?_
          refine lv_icmp_ge (tgt := 96) hx hb dMo_mirror_34 (by decide) (fun c1 => ?_) (fun c1 => ?_)
          · have hkn : hn = k := by have q9 := (nI_leI (by omega) (by omega)).mp c1; omega
            subst hkn
            refine lv_aload_n hx hb dMo_mirror_96 rfl (lv_at hl 0 rfl) ?_
            refine lv_aload_n hx hb dMo_mirror_97 rfl (lv_at hl 0 rfl) ?_
            refine dq_get (D := D) (ci := 8) (v := .int pl) (C := RMo) (T := TMo) (N := 29) hx hb hts hinMo hown hK hW 100 ((dq_Un (by decide)).trans ((dq_Un (by decide)).trans dq_Us)) rfl 14 (by decide) hf86 (fun _ h9 => h9) rfl dMo_mirror_98 ?_
            refine lv_if_eq (tgt := 115) hx hb dMo_mirror_101 (by decide) (fun c2 => ?_) (fun c2 => ?_)
            · refine lv_iconst (v := (0)) hx hb dMo_mirror_115 (by decide) ?_
              refine dq_put (D := D) (ci := 8) (v := .int (0)) (ty := .boolean) (C := RMo) (T := TMo) (N := 29) hx hb hts hinMo tyMo tyMo_ok nmMo hown hK hW hS 100 ((dq_Un (by decide)).trans ((dq_Un (by decide)).trans dq_Us)) rfl 14 (by decide) hf86 (fun _ h9 => h9) rfl (by decide +kernel) rfl rfl (Nat.le_of_ble_eq_true rfl) dMo_mirror_116 (fun H locs hW hS => ?_)
              have hW : dq_W D vwCl ad (dq_U (dq_U (dq_U w 100 (.inr (8, [.int 0, .int (nI n), .ref (ad 102), .ref (ad 103), .ref (ad 104), .int (nI hn), .ref (ad 106), .ref (ad 107), .ref (ad 108), .ref (ad 109), .ref (ad 110), .ref (ad 111), .int (nI cn), .ref (ad 113), .int (0), .int (nI tn), .ref (ad 116), .ref (ad 117), .ref (ad 118), .ref (ad 119), .int sg, .ref (ad 121), .long wy, .ref (ad 123), .ref (ad 124), .ref (ad 125), .ref (ad 126), .ref (ad 127), .ref (ad 128)]))) 106 (.inl (g 0, 14, .inl (mn_neg px hn)))) 107 (.inl (g 0, 14, .inl py))) A H := dq_Wc (by funext j; unfold dq_U; (repeat' split) <;> first | rfl | omega) hW
              refine lv_aload_n hx hb dMo_mirror_119 rfl (lv_at hl 0 rfl) ?_
              refine dq_get (D := D) (ci := 8) (v := .int (nI hn)) (C := RMo) (T := TMo) (N := 29) hx hb hts hinMo hown hK hW 100 ((dq_Un (by decide)).trans ((dq_Un (by decide)).trans dq_Us)) rfl 5 (by decide) hf90 (fun _ h9 => h9) rfl dMo_mirror_120 ?_
              exact hret _ _ _ _ _ _ ⟨rfl, rfl⟩ hW hS dMo_mirror_123
            · refine lv_aload_n hx hb dMo_mirror_104 rfl (lv_at hl 0 rfl) ?_
              refine dq_get (D := D) (ci := 8) (v := .int (nI hn)) (C := RMo) (T := TMo) (N := 29) hx hb hts hinMo hown hK hW 100 ((dq_Un (by decide)).trans ((dq_Un (by decide)).trans dq_Us)) rfl 5 (by decide) hf90 (fun _ h9 => h9) rfl dMo_mirror_105 ?_
              refine lv_if_ne (tgt := 115) hx hb dMo_mirror_108 (by decide) (fun c3 => ?_) (fun c3 => ?_)
              · refine lv_iconst (v := (0)) hx hb dMo_mirror_115 (by decide) ?_
                refine dq_put (D := D) (ci := 8) (v := .int (0)) (ty := .boolean) (C := RMo) (T := TMo) (N := 29) hx hb hts hinMo tyMo tyMo_ok nmMo hown hK hW hS 100 ((dq_Un (by decide)).trans ((dq_Un (by decide)).trans dq_Us)) rfl 14 (by decide) hf86 (fun _ h9 => h9) rfl (by decide +kernel) rfl rfl (Nat.le_of_ble_eq_true rfl) dMo_mirror_116 (fun H locs hW hS => ?_)
                have hW : dq_W D vwCl ad (dq_U (dq_U (dq_U w 100 (.inr (8, [.int 0, .int (nI n), .ref (ad 102), .ref (ad 103), .ref (ad 104), .int (nI hn), .ref (ad 106), .ref (ad 107), .ref (ad 108), .ref (ad 109), .ref (ad 110), .ref (ad 111), .int (nI cn), .ref (ad 113), .int (0), .int (nI tn), .ref (ad 116), .ref (ad 117), .ref (ad 118), .ref (ad 119), .int sg, .ref (ad 121), .long wy, .ref (ad 123), .ref (ad 124), .ref (ad 125), .ref (ad 126), .ref (ad 127), .ref (ad 128)]))) 106 (.inl (g 0, 14, .inl (mn_neg px hn)))) 107 (.inl (g 0, 14, .inl py))) A H := dq_Wc (by funext j; unfold dq_U; (repeat' split) <;> first | rfl | omega) hW
                refine lv_aload_n hx hb dMo_mirror_119 rfl (lv_at hl 0 rfl) ?_
                refine dq_get (D := D) (ci := 8) (v := .int (nI hn)) (C := RMo) (T := TMo) (N := 29) hx hb hts hinMo hown hK hW 100 ((dq_Un (by decide)).trans ((dq_Un (by decide)).trans dq_Us)) rfl 5 (by decide) hf90 (fun _ h9 => h9) rfl dMo_mirror_120 ?_
                exact hret _ _ _ _ _ _ ⟨rfl, rfl⟩ hW hS dMo_mirror_123
              · exact absurd ((nI_eq (b := 0) (by omega) (by omega)).mp c3) (by omega)
          · have hkn : k < hn := by rcases Nat.lt_or_ge k hn with q | q; exact q; exact absurd (nI_le q (by omega)) c1
            refine lv_aload_n hx hb dMo_mirror_37 rfl (lv_at hl 0 rfl) ?_
            refine dq_get (D := D) (ci := 8) (v := .ref (ad 106)) (C := RMo) (T := TMo) (N := 29) hx hb hts hinMo hown hK hW 100 ((dq_Un (by decide)).trans ((dq_Un (by decide)).trans dq_Us)) rfl 6 (by decide) hf19 (fun _ h9 => h9) rfl dMo_mirror_38 ?_
            refine lv_iload_n hx hb dMo_mirror_41 rfl (lv_at hl 2 rfl) ?_
            refine lv_iload_n hx hb dMo_mirror_42 rfl (lv_at hl 1 rfl) ?_
            refine lv_if_ne (tgt := 56) hx hb dMo_mirror_43 (by decide) (fun c2 => ?_) (fun c2 => ?_)
            · exact absurd rfl c2
            · refine lv_aload_n hx hb dMo_mirror_46 rfl (lv_at hl 0 rfl) ?_
              refine dq_get (D := D) (ci := 8) (v := .ref (ad 106)) (C := RMo) (T := TMo) (N := 29) hx hb hts hinMo hown hK hW 100 ((dq_Un (by decide)).trans ((dq_Un (by decide)).trans dq_Us)) rfl 6 (by decide) hf19 (fun _ h9 => h9) rfl dMo_mirror_47 ?_
              refine lv_iload_n hx hb dMo_mirror_50 rfl (lv_at hl 2 rfl) ?_
              refine dq_ialdN hx hb hK hW 106 0 ((dq_Un (by decide)).trans dq_Us) rfl k (by omega) (by omega) dMo_mirror_51 ?_
              refine lv_ineg hx hb dMo_mirror_52 ?_
              refine lv_goto (tgt := 62) hx hb dMo_mirror_53 (by decide) ?_
              refine dq_iastN hx hb hK hW hS 106 0 ((dq_Un (by decide)).trans dq_Us) rfl k (by omega) (by omega) dMo_mirror_62 (fun H locs hW hS => ?_)
              have hW : dq_W D vwCl ad (dq_U (dq_U (dq_U w 100 (.inr (8, [.int 0, .int (nI n), .ref (ad 102), .ref (ad 103), .ref (ad 104), .int (nI hn), .ref (ad 106), .ref (ad 107), .ref (ad 108), .ref (ad 109), .ref (ad 110), .ref (ad 111), .int (nI cn), .ref (ad 113), .int pl, .int (nI tn), .ref (ad 116), .ref (ad 117), .ref (ad 118), .ref (ad 119), .int sg, .ref (ad 121), .long wy, .ref (ad 123), .ref (ad 124), .ref (ad 125), .ref (ad 126), .ref (ad 127), .ref (ad 128)]))) 106 (.inl (g 0, 14, .inl (upd (mn_neg px k) k (-((mn_neg px k) k)))))) 107 (.inl (g 0, 14, .inl py))) A H := dq_Wc (by funext j; unfold dq_U; (repeat' split) <;> first | rfl | omega) hW
              refine lv_aload_n hx hb dMo_mirror_63 rfl (lv_at hl 0 rfl) ?_
              refine dq_get (D := D) (ci := 8) (v := .ref (ad 107)) (C := RMo) (T := TMo) (N := 29) hx hb hts hinMo hown hK hW 100 ((dq_Un (by decide)).trans ((dq_Un (by decide)).trans dq_Us)) rfl 7 (by decide) hf22 (fun _ h9 => h9) rfl dMo_mirror_64 ?_
              refine lv_iload_n hx hb dMo_mirror_67 rfl (lv_at hl 2 rfl) ?_
              refine lv_iload_n hx hb dMo_mirror_68 rfl (lv_at hl 1 rfl) ?_
              refine lv_iconst (v := (1)) hx hb dMo_mirror_69 (by decide) ?_
              refine lv_icmp_ne (tgt := 83) hx hb dMo_mirror_70 (by decide) (fun c3 => ?_) (fun c3 => ?_)
              · refine lv_aload_n hx hb dMo_mirror_83 rfl (lv_at hl 0 rfl) ?_
                refine dq_get (D := D) (ci := 8) (v := .ref (ad 107)) (C := RMo) (T := TMo) (N := 29) hx hb hts hinMo hown hK hW 100 ((dq_Un (by decide)).trans ((dq_Un (by decide)).trans dq_Us)) rfl 7 (by decide) hf22 (fun _ h9 => h9) rfl dMo_mirror_84 ?_
                refine lv_iload_n hx hb dMo_mirror_87 rfl (lv_at hl 2 rfl) ?_
                refine dq_ialdN hx hb hK hW 107 0 dq_Us rfl k (by omega) (by omega) dMo_mirror_88 ?_
                refine dq_iastN hx hb hK hW hS 107 0 dq_Us rfl k (by omega) (by omega) dMo_mirror_89 (fun H locs hW hS => ?_)
                rw [dq_UU] at hW
                refine lv_iinc (v := (nI (k + 1))) (lv' := [(2, .int (nI (k + 1))), (0, .ref (ad 100)), (1, .int 0)]) hx hb dMo_mirror_90 hl (k := 2) rfl (by show nI k + 1 = _; exact nI_1 _) (by decide) rfl (fun ls hl => ?_)
                refine lv_goto (tgt := 29) hx hb dMo_mirror_93 (by decide) ?_
                have hW : dq_W D vwCl ad (dq_U (dq_U (dq_U w 100 (.inr (8, [.int 0, .int (nI n), .ref (ad 102), .ref (ad 103), .ref (ad 104), .int (nI hn), .ref (ad 106), .ref (ad 107), .ref (ad 108), .ref (ad 109), .ref (ad 110), .ref (ad 111), .int (nI cn), .ref (ad 113), .int pl, .int (nI tn), .ref (ad 116), .ref (ad 117), .ref (ad 118), .ref (ad 119), .int sg, .ref (ad 121), .long wy, .ref (ad 123), .ref (ad 124), .ref (ad 125), .ref (ad 126), .ref (ad 127), .ref (ad 128)]))) 106 (.inl (g 0, 14, .inl (mn_neg px (k + 1))))) 107 (.inl (g 0, 14, .inl py))) A H := dq_Wc (by rw [mn_neg_s, dq_updid]; try rfl) hW
                exact ih (k + 1) _ _ _ (by omega) (by omega) hW hS (lv_sub hl [1, 2, 0] rfl)
              · exact absurd c3 (by decide)
      exact loop (hn + 1) 0 _ _ _ (by omega) (Nat.zero_le _) hW hS (lv_sub hl [1, 2, 0] rfl)
    · exact absurd (by decide) c1

set_option maxHeartbeats 4000000 in
set_option maxRecDepth 100000 in
/-- mirror(0) -/
theorem m_mirror_0n (l : Launch) (D : va_G) (g : Nat → ClassId) (ad : Nat → Nat) (w : Nat → Option va_E) (sz : Nat) (cd : Int32) (n hn cn : Nat) (pl : Int32) (tn : Nat) (sg : Int32) (wy : Int64) (px py pw pd pf pt : Nat → Int32) (m100 : w 100 = some (.inr (8, [.int cd, .int (nI n), .ref (ad 102), .ref (ad 103), .ref (ad 104), .int (nI hn), .ref (ad 106), .ref (ad 107), .ref (ad 108), .ref (ad 109), .ref (ad 110), .ref (ad 111), .int (nI cn), .ref (ad 113), .int pl, .int (nI tn), .ref (ad 116), .ref (ad 117), .ref (ad 118), .ref (ad 119), .int sg, .ref (ad 121), .long wy, .ref (ad 123), .ref (ad 124), .ref (ad 125), .ref (ad 126), .ref (ad 127), .ref (ad 128)]))) (m106 : w 106 = some (.inl (g 0, 14, .inl px))) (m107 : w 107 = some (.inl (g 0, 14, .inl py))) (hpc : hn ≤ 14) (hpl : pl = 0) : Met l yMo_mirror wsMo_mirror ({ frames := 1, cells := 0, slots := 0, locals := 24 } : Room) (va_Pc [.ref (ad 100), .int 0] (dq_S D vwCl (dq_t g) ad w sz)) (va_Qi (fun r u => r = nI hn ∧ u = dq_U (dq_U (dq_U w 100 (.inr (8, [.int 0, .int (nI n), .ref (ad 102), .ref (ad 103), .ref (ad 104), .int (nI hn), .ref (ad 106), .ref (ad 107), .ref (ad 108), .ref (ad 109), .ref (ad 110), .ref (ad 111), .int (nI cn), .ref (ad 113), .int 0, .int (nI tn), .ref (ad 116), .ref (ad 117), .ref (ad 118), .ref (ad 119), .int sg, .ref (ad 121), .long wy, .ref (ad 123), .ref (ad 124), .ref (ad 125), .ref (ad 126), .ref (ad 127), .ref (ad 128)]))) 106 (.inl (g 0, 14, .inl (mn_neg px hn)))) 107 (.inl (g 0, 14, .inl py))) (dq_B D vwCl (dq_t g) ad (dq_A ad w sz)) (dq_A ad w sz)) 0 0 (dq_A ad w sz) := by
  refine dq_ofi (cc := cMo_mirror) (maxL := 3) (by decide) rfl (Nat.le_of_ble_eq_true rfl) ?_
  intro p e s m below meth c A Q ls ⟨hx, hb, hml, hown, hts⟩ hnm hA hW hK hZ hl hret
  have hS : va_S A s.heap s.heap [] := va_S.rf
  have hl : lv_has ls 3 [(0, .ref (ad 100)), (1, .int 0)] := hl
  have hf19 := hts _ (List.mem_cons_of_mem _ tw3_160)
  have hf22 := hts _ (List.mem_cons_of_mem _ tw3_161)
  have hf79 := hts _ (List.mem_cons_of_mem _ tw3_154)
  have hf86 := hts _ (List.mem_cons_of_mem _ tw3_168)
  have hf90 := hts _ (List.mem_cons_of_mem _ tw3_159)
  have hinMo : ∀ w ∈ u_ws RMo TMo 29, w ∈ wsMo_mirror := fun w h => List.mem_cons_of_mem _ (inMo w h)
  refine lv_aload_n hx hb dMo_mirror_0 rfl (lv_at hl 0 rfl) ?_
  refine lv_iload_n hx hb dMo_mirror_1 rfl (lv_at hl 1 rfl) ?_
  refine lv_iconst (v := (0)) hx hb dMo_mirror_2 (by decide) ?_
  refine lv_iconst (v := (1)) hx hb dMo_mirror_3 (by decide) ?_
  refine dq_calli (va_runS (As := [.int 0, .int (0), .int (1)]) (rest := [.ref (ad 100)]) ⟨hx, hb, hml, hown, hts⟩ (m_isIn l D g ad (w) _ 0 0 1  ) (cwS 3 hts (dq_giS2 tw4_11 tw4_12 tw1_10 tw4_13) rfl rfl rfl (by decide +kernel) ⟨Nat.le_of_ble_eq_true rfl, Nat.le_of_ble_eq_true rfl⟩) (dq_preS hW hS hA hK hZ) rfl rfl hl.1 rfl (lv_room (Nat.le_of_ble_eq_true rfl)) dMo_mirror_4 ⟨Nat.zero_le _, Nat.zero_le _⟩) hW hS hA (fun r1 u_9 H locs hp1 hW hS hz9 => ?_)
  obtain ⟨hr1, hu9⟩ := hp1
  rw [hu9] at hW
  subst hr1
  refine lv_if_eq (tgt := 14) hx hb dMo_mirror_7 (by decide) (fun c9 => ?_) (fun c9 => ?_)
  · have q0 := dq_b_f c9
    exact absurd q0 (by decide)
  · have q0 := dq_b_t c9
    refine lv_iconst (v := (0)) hx hb dMo_mirror_10 (by decide) ?_
    refine lv_goto (tgt := 15) hx hb dMo_mirror_11 (by decide) ?_
    refine dq_put (D := D) (ci := 8) (v := .int (0)) (ty := .int) (C := RMo) (T := TMo) (N := 29) hx hb hts hinMo tyMo tyMo_ok nmMo hown hK hW hS 100 m100 rfl 0 (by decide) hf79 (fun _ h9 => h9) rfl (by decide +kernel) rfl rfl (Nat.le_of_ble_eq_true rfl) dMo_mirror_15 (fun H locs hW hS => ?_)
    refine lv_aload_n hx hb dMo_mirror_18 rfl (lv_at hl 0 rfl) ?_
    refine dq_get (D := D) (ci := 8) (v := .int (0)) (C := RMo) (T := TMo) (N := 29) hx hb hts hinMo hown hK hW 100 dq_Us rfl 0 (by decide) hf79 (fun _ h9 => h9) rfl dMo_mirror_19 ?_
    refine lv_if_le (tgt := 27) hx hb dMo_mirror_22 (by decide) (fun c1 => ?_) (fun c1 => ?_)
    · refine lv_iconst (v := (nI 0)) hx hb dMo_mirror_27 (by decide) ?_
      refine lv_istore_n (lv' := [(2, .int (nI 0)), (0, .ref (ad 100)), (1, .int 0)]) hx hb dMo_mirror_28 rfl hl (by decide) rfl (fun ls hl => ?_)
      have hW : dq_W D vwCl ad (dq_U (dq_U (dq_U w 100 (.inr (8, [.int 0, .int (nI n), .ref (ad 102), .ref (ad 103), .ref (ad 104), .int (nI hn), .ref (ad 106), .ref (ad 107), .ref (ad 108), .ref (ad 109), .ref (ad 110), .ref (ad 111), .int (nI cn), .ref (ad 113), .int pl, .int (nI tn), .ref (ad 116), .ref (ad 117), .ref (ad 118), .ref (ad 119), .int sg, .ref (ad 121), .long wy, .ref (ad 123), .ref (ad 124), .ref (ad 125), .ref (ad 126), .ref (ad 127), .ref (ad 128)]))) 106 (.inl (g 0, 14, .inl px))) 107 (.inl (g 0, 14, .inl py))) A H := dq_Wc (by rw [dq_Uid (r := 106) ((dq_Un (by decide)).trans m106), dq_Uid (r := 107) ((dq_Un (by decide)).trans m107)]; try rfl) hW
      have hW : dq_W D vwCl ad (dq_U (dq_U (dq_U w 100 (.inr (8, [.int 0, .int (nI n), .ref (ad 102), .ref (ad 103), .ref (ad 104), .int (nI hn), .ref (ad 106), .ref (ad 107), .ref (ad 108), .ref (ad 109), .ref (ad 110), .ref (ad 111), .int (nI cn), .ref (ad 113), .int pl, .int (nI tn), .ref (ad 116), .ref (ad 117), .ref (ad 118), .ref (ad 119), .int sg, .ref (ad 121), .long wy, .ref (ad 123), .ref (ad 124), .ref (ad 125), .ref (ad 126), .ref (ad 127), .ref (ad 128)]))) 106 (.inl (g 0, 14, .inl (mn_neg px 0)))) 107 (.inl (g 0, 14, .inl py))) A H := dq_Wc (by rw [mn_neg_0]; try rfl) hW
      have loop : ∀ (j : Nat) (k : Nat) (H : Heap) (locs : List Loc) (ls : Array Slot), hn < k + j → k ≤ hn → dq_W D vwCl ad (dq_U (dq_U (dq_U w 100 (.inr (8, [.int 0, .int (nI n), .ref (ad 102), .ref (ad 103), .ref (ad 104), .int (nI hn), .ref (ad 106), .ref (ad 107), .ref (ad 108), .ref (ad 109), .ref (ad 110), .ref (ad 111), .int (nI cn), .ref (ad 113), .int pl, .int (nI tn), .ref (ad 116), .ref (ad 117), .ref (ad 118), .ref (ad 119), .int sg, .ref (ad 121), .long wy, .ref (ad 123), .ref (ad 124), .ref (ad 125), .ref (ad 126), .ref (ad 127), .ref (ad 128)]))) 106 (.inl (g 0, 14, .inl (mn_neg px k)))) 107 (.inl (g 0, 14, .inl py))) A H → va_S A s.heap H locs → lv_has ls 3 [(0, .ref (ad 100)), (1, .int 0), (2, .int (nI k))] → W p l e ({ frames := 1, cells := 0, slots := 0, locals := 24 } : Room) s m ([.ref (ad 100), .int 0] : List Value).toArray below meth c H locs 0 0 Q (F0 m 29 ls []) := by
        intro j
        induction j with
        | zero => intro k H locs ls hj hk hW hS hl; exact absurd hj (by omega)
        | succ j ih =>
          intro k H locs ls hj hk hW hS hl
          refine lv_iload_n hx hb dMo_mirror_29 rfl (lv_at hl 2 rfl) ?_
          refine lv_aload_n hx hb dMo_mirror_30 rfl (lv_at hl 0 rfl) ?_
          refine dq_get (D := D) (ci := 8) (v := .int (nI hn)) (C := RMo) (T := TMo) (N := 29) hx hb hts hinMo hown hK hW 100 ((dq_Un (by decide)).trans ((dq_Un (by decide)).trans dq_Us)) rfl 5 (by decide) hf90 (fun _ h9 => h9) rfl dMo_mirror_31 ?_
          refine lv_icmp_ge (tgt := 96) hx hb dMo_mirror_34 (by decide) (fun c1 => ?_) (fun c1 => ?_)
          · have hkn : hn = k := by have q9 := (nI_leI (by omega) (by omega)).mp c1; omega
            subst hkn
            refine lv_aload_n hx hb dMo_mirror_96 rfl (lv_at hl 0 rfl) ?_
            refine lv_aload_n hx hb dMo_mirror_97 rfl (lv_at hl 0 rfl) ?_
            refine dq_get (D := D) (ci := 8) (v := .int pl) (C := RMo) (T := TMo) (N := 29) hx hb hts hinMo hown hK hW 100 ((dq_Un (by decide)).trans ((dq_Un (by decide)).trans dq_Us)) rfl 14 (by decide) hf86 (fun _ h9 => h9) rfl dMo_mirror_98 ?_
            refine lv_if_eq (tgt := 115) hx hb dMo_mirror_101 (by decide) (fun c2 => ?_) (fun c2 => ?_)
            · refine lv_iconst (v := (0)) hx hb dMo_mirror_115 (by decide) ?_
              refine dq_put (D := D) (ci := 8) (v := .int (0)) (ty := .boolean) (C := RMo) (T := TMo) (N := 29) hx hb hts hinMo tyMo tyMo_ok nmMo hown hK hW hS 100 ((dq_Un (by decide)).trans ((dq_Un (by decide)).trans dq_Us)) rfl 14 (by decide) hf86 (fun _ h9 => h9) rfl (by decide +kernel) rfl rfl (Nat.le_of_ble_eq_true rfl) dMo_mirror_116 (fun H locs hW hS => ?_)
              have hW : dq_W D vwCl ad (dq_U (dq_U (dq_U w 100 (.inr (8, [.int 0, .int (nI n), .ref (ad 102), .ref (ad 103), .ref (ad 104), .int (nI hn), .ref (ad 106), .ref (ad 107), .ref (ad 108), .ref (ad 109), .ref (ad 110), .ref (ad 111), .int (nI cn), .ref (ad 113), .int (0), .int (nI tn), .ref (ad 116), .ref (ad 117), .ref (ad 118), .ref (ad 119), .int sg, .ref (ad 121), .long wy, .ref (ad 123), .ref (ad 124), .ref (ad 125), .ref (ad 126), .ref (ad 127), .ref (ad 128)]))) 106 (.inl (g 0, 14, .inl (mn_neg px hn)))) 107 (.inl (g 0, 14, .inl py))) A H := dq_Wc (by funext j; unfold dq_U; (repeat' split) <;> first | rfl | omega) hW
              refine lv_aload_n hx hb dMo_mirror_119 rfl (lv_at hl 0 rfl) ?_
              refine dq_get (D := D) (ci := 8) (v := .int (nI hn)) (C := RMo) (T := TMo) (N := 29) hx hb hts hinMo hown hK hW 100 ((dq_Un (by decide)).trans ((dq_Un (by decide)).trans dq_Us)) rfl 5 (by decide) hf90 (fun _ h9 => h9) rfl dMo_mirror_120 ?_
              exact hret _ _ _ _ _ _ ⟨rfl, rfl⟩ hW hS dMo_mirror_123
            · exact absurd hpl c2
          · have hkn : k < hn := by rcases Nat.lt_or_ge k hn with q | q; exact q; exact absurd (nI_le q (by omega)) c1
            refine lv_aload_n hx hb dMo_mirror_37 rfl (lv_at hl 0 rfl) ?_
            refine dq_get (D := D) (ci := 8) (v := .ref (ad 106)) (C := RMo) (T := TMo) (N := 29) hx hb hts hinMo hown hK hW 100 ((dq_Un (by decide)).trans ((dq_Un (by decide)).trans dq_Us)) rfl 6 (by decide) hf19 (fun _ h9 => h9) rfl dMo_mirror_38 ?_
            refine lv_iload_n hx hb dMo_mirror_41 rfl (lv_at hl 2 rfl) ?_
            refine lv_iload_n hx hb dMo_mirror_42 rfl (lv_at hl 1 rfl) ?_
            refine lv_if_ne (tgt := 56) hx hb dMo_mirror_43 (by decide) (fun c2 => ?_) (fun c2 => ?_)
            · exact absurd rfl c2
            · refine lv_aload_n hx hb dMo_mirror_46 rfl (lv_at hl 0 rfl) ?_
              refine dq_get (D := D) (ci := 8) (v := .ref (ad 106)) (C := RMo) (T := TMo) (N := 29) hx hb hts hinMo hown hK hW 100 ((dq_Un (by decide)).trans ((dq_Un (by decide)).trans dq_Us)) rfl 6 (by decide) hf19 (fun _ h9 => h9) rfl dMo_mirror_47 ?_
              refine lv_iload_n hx hb dMo_mirror_50 rfl (lv_at hl 2 rfl) ?_
              refine dq_ialdN hx hb hK hW 106 0 ((dq_Un (by decide)).trans dq_Us) rfl k (by omega) (by omega) dMo_mirror_51 ?_
              refine lv_ineg hx hb dMo_mirror_52 ?_
              refine lv_goto (tgt := 62) hx hb dMo_mirror_53 (by decide) ?_
              refine dq_iastN hx hb hK hW hS 106 0 ((dq_Un (by decide)).trans dq_Us) rfl k (by omega) (by omega) dMo_mirror_62 (fun H locs hW hS => ?_)
              have hW : dq_W D vwCl ad (dq_U (dq_U (dq_U w 100 (.inr (8, [.int 0, .int (nI n), .ref (ad 102), .ref (ad 103), .ref (ad 104), .int (nI hn), .ref (ad 106), .ref (ad 107), .ref (ad 108), .ref (ad 109), .ref (ad 110), .ref (ad 111), .int (nI cn), .ref (ad 113), .int pl, .int (nI tn), .ref (ad 116), .ref (ad 117), .ref (ad 118), .ref (ad 119), .int sg, .ref (ad 121), .long wy, .ref (ad 123), .ref (ad 124), .ref (ad 125), .ref (ad 126), .ref (ad 127), .ref (ad 128)]))) 106 (.inl (g 0, 14, .inl (upd (mn_neg px k) k (-((mn_neg px k) k)))))) 107 (.inl (g 0, 14, .inl py))) A H := dq_Wc (by funext j; unfold dq_U; (repeat' split) <;> first | rfl | omega) hW
              refine lv_aload_n hx hb dMo_mirror_63 rfl (lv_at hl 0 rfl) ?_
              refine dq_get (D := D) (ci := 8) (v := .ref (ad 107)) (C := RMo) (T := TMo) (N := 29) hx hb hts hinMo hown hK hW 100 ((dq_Un (by decide)).trans ((dq_Un (by decide)).trans dq_Us)) rfl 7 (by decide) hf22 (fun _ h9 => h9) rfl dMo_mirror_64 ?_
              refine lv_iload_n hx hb dMo_mirror_67 rfl (lv_at hl 2 rfl) ?_
              refine lv_iload_n hx hb dMo_mirror_68 rfl (lv_at hl 1 rfl) ?_
              refine lv_iconst (v := (1)) hx hb dMo_mirror_69 (by decide) ?_
              refine lv_icmp_ne (tgt := 83) hx hb dMo_mirror_70 (by decide) (fun c3 => ?_) (fun c3 => ?_)
              · refine lv_aload_n hx hb dMo_mirror_83 rfl (lv_at hl 0 rfl) ?_
                refine dq_get (D := D) (ci := 8) (v := .ref (ad 107)) (C := RMo) (T := TMo) (N := 29) hx hb hts hinMo hown hK hW 100 ((dq_Un (by decide)).trans ((dq_Un (by decide)).trans dq_Us)) rfl 7 (by decide) hf22 (fun _ h9 => h9) rfl dMo_mirror_84 ?_
                refine lv_iload_n hx hb dMo_mirror_87 rfl (lv_at hl 2 rfl) ?_
                refine dq_ialdN hx hb hK hW 107 0 dq_Us rfl k (by omega) (by omega) dMo_mirror_88 ?_
                refine dq_iastN hx hb hK hW hS 107 0 dq_Us rfl k (by omega) (by omega) dMo_mirror_89 (fun H locs hW hS => ?_)
                rw [dq_UU] at hW
                refine lv_iinc (v := (nI (k + 1))) (lv' := [(2, .int (nI (k + 1))), (0, .ref (ad 100)), (1, .int 0)]) hx hb dMo_mirror_90 hl (k := 2) rfl (by show nI k + 1 = _; exact nI_1 _) (by decide) rfl (fun ls hl => ?_)
                refine lv_goto (tgt := 29) hx hb dMo_mirror_93 (by decide) ?_
                have hW : dq_W D vwCl ad (dq_U (dq_U (dq_U w 100 (.inr (8, [.int 0, .int (nI n), .ref (ad 102), .ref (ad 103), .ref (ad 104), .int (nI hn), .ref (ad 106), .ref (ad 107), .ref (ad 108), .ref (ad 109), .ref (ad 110), .ref (ad 111), .int (nI cn), .ref (ad 113), .int pl, .int (nI tn), .ref (ad 116), .ref (ad 117), .ref (ad 118), .ref (ad 119), .int sg, .ref (ad 121), .long wy, .ref (ad 123), .ref (ad 124), .ref (ad 125), .ref (ad 126), .ref (ad 127), .ref (ad 128)]))) 106 (.inl (g 0, 14, .inl (mn_neg px (k + 1))))) 107 (.inl (g 0, 14, .inl py))) A H := dq_Wc (by rw [mn_neg_s, dq_updid]; try rfl) hW
                exact ih (k + 1) _ _ _ (by omega) (by omega) hW hS (lv_sub hl [1, 2, 0] rfl)
              · exact absurd c3 (by decide)
      exact loop (hn + 1) 0 _ _ _ (by omega) (Nat.zero_le _) hW hS (lv_sub hl [1, 2, 0] rfl)
    · exact absurd (by decide) c1

set_option maxHeartbeats 4000000 in
set_option maxRecDepth 100000 in
/-- mirror(1) -/
theorem m_mirror_1z (l : Launch) (D : va_G) (g : Nat → ClassId) (ad : Nat → Nat) (w : Nat → Option va_E) (sz : Nat) (cd : Int32) (n hn cn : Nat) (pl : Int32) (tn : Nat) (sg : Int32) (wy : Int64) (px py pw pd pf pt : Nat → Int32) (m100 : w 100 = some (.inr (8, [.int cd, .int (nI n), .ref (ad 102), .ref (ad 103), .ref (ad 104), .int (nI hn), .ref (ad 106), .ref (ad 107), .ref (ad 108), .ref (ad 109), .ref (ad 110), .ref (ad 111), .int (nI cn), .ref (ad 113), .int pl, .int (nI tn), .ref (ad 116), .ref (ad 117), .ref (ad 118), .ref (ad 119), .int sg, .ref (ad 121), .long wy, .ref (ad 123), .ref (ad 124), .ref (ad 125), .ref (ad 126), .ref (ad 127), .ref (ad 128)]))) (m106 : w 106 = some (.inl (g 0, 14, .inl px))) (m107 : w 107 = some (.inl (g 0, 14, .inl py))) (hpc : hn ≤ 14) (hpl : pl = 1) (hz : hn = 0) : Met l yMo_mirror wsMo_mirror ({ frames := 1, cells := 0, slots := 0, locals := 24 } : Room) (va_Pc [.ref (ad 100), .int 1] (dq_S D vwCl (dq_t g) ad w sz)) (va_Qi (fun r u => r = nI hn ∧ u = dq_U (dq_U (dq_U w 100 (.inr (8, [.int 0, .int (nI n), .ref (ad 102), .ref (ad 103), .ref (ad 104), .int (nI hn), .ref (ad 106), .ref (ad 107), .ref (ad 108), .ref (ad 109), .ref (ad 110), .ref (ad 111), .int (nI cn), .ref (ad 113), .int 1, .int (nI tn), .ref (ad 116), .ref (ad 117), .ref (ad 118), .ref (ad 119), .int sg, .ref (ad 121), .long wy, .ref (ad 123), .ref (ad 124), .ref (ad 125), .ref (ad 126), .ref (ad 127), .ref (ad 128)]))) 106 (.inl (g 0, 14, .inl px))) 107 (.inl (g 0, 14, .inl (mn_neg py hn)))) (dq_B D vwCl (dq_t g) ad (dq_A ad w sz)) (dq_A ad w sz)) 0 0 (dq_A ad w sz) := by
  refine dq_ofi (cc := cMo_mirror) (maxL := 3) (by decide) rfl (Nat.le_of_ble_eq_true rfl) ?_
  intro p e s m below meth c A Q ls ⟨hx, hb, hml, hown, hts⟩ hnm hA hW hK hZ hl hret
  have hS : va_S A s.heap s.heap [] := va_S.rf
  have hl : lv_has ls 3 [(0, .ref (ad 100)), (1, .int 1)] := hl
  have hf19 := hts _ (List.mem_cons_of_mem _ tw3_160)
  have hf22 := hts _ (List.mem_cons_of_mem _ tw3_161)
  have hf79 := hts _ (List.mem_cons_of_mem _ tw3_154)
  have hf86 := hts _ (List.mem_cons_of_mem _ tw3_168)
  have hf90 := hts _ (List.mem_cons_of_mem _ tw3_159)
  have hinMo : ∀ w ∈ u_ws RMo TMo 29, w ∈ wsMo_mirror := fun w h => List.mem_cons_of_mem _ (inMo w h)
  refine lv_aload_n hx hb dMo_mirror_0 rfl (lv_at hl 0 rfl) ?_
  refine lv_iload_n hx hb dMo_mirror_1 rfl (lv_at hl 1 rfl) ?_
  refine lv_iconst (v := (0)) hx hb dMo_mirror_2 (by decide) ?_
  refine lv_iconst (v := (1)) hx hb dMo_mirror_3 (by decide) ?_
  refine dq_calli (va_runS (As := [.int 1, .int (0), .int (1)]) (rest := [.ref (ad 100)]) ⟨hx, hb, hml, hown, hts⟩ (m_isIn l D g ad (w) _ 1 0 1  ) (cwS 3 hts (dq_giS2 tw4_11 tw4_12 tw1_10 tw4_13) rfl rfl rfl (by decide +kernel) ⟨Nat.le_of_ble_eq_true rfl, Nat.le_of_ble_eq_true rfl⟩) (dq_preS hW hS hA hK hZ) rfl rfl hl.1 rfl (lv_room (Nat.le_of_ble_eq_true rfl)) dMo_mirror_4 ⟨Nat.zero_le _, Nat.zero_le _⟩) hW hS hA (fun r1 u_9 H locs hp1 hW hS hz9 => ?_)
  obtain ⟨hr1, hu9⟩ := hp1
  rw [hu9] at hW
  subst hr1
  refine lv_if_eq (tgt := 14) hx hb dMo_mirror_7 (by decide) (fun c9 => ?_) (fun c9 => ?_)
  · have q0 := dq_b_f c9
    exact absurd q0 (by decide)
  · have q0 := dq_b_t c9
    refine lv_iconst (v := (0)) hx hb dMo_mirror_10 (by decide) ?_
    refine lv_goto (tgt := 15) hx hb dMo_mirror_11 (by decide) ?_
    refine dq_put (D := D) (ci := 8) (v := .int (0)) (ty := .int) (C := RMo) (T := TMo) (N := 29) hx hb hts hinMo tyMo tyMo_ok nmMo hown hK hW hS 100 m100 rfl 0 (by decide) hf79 (fun _ h9 => h9) rfl (by decide +kernel) rfl rfl (Nat.le_of_ble_eq_true rfl) dMo_mirror_15 (fun H locs hW hS => ?_)
    refine lv_aload_n hx hb dMo_mirror_18 rfl (lv_at hl 0 rfl) ?_
    refine dq_get (D := D) (ci := 8) (v := .int (0)) (C := RMo) (T := TMo) (N := 29) hx hb hts hinMo hown hK hW 100 dq_Us rfl 0 (by decide) hf79 (fun _ h9 => h9) rfl dMo_mirror_19 ?_
    refine lv_if_le (tgt := 27) hx hb dMo_mirror_22 (by decide) (fun c1 => ?_) (fun c1 => ?_)
    · refine lv_iconst (v := (nI 0)) hx hb dMo_mirror_27 (by decide) ?_
      refine lv_istore_n (lv' := [(2, .int (nI 0)), (0, .ref (ad 100)), (1, .int 1)]) hx hb dMo_mirror_28 rfl hl (by decide) rfl (fun ls hl => ?_)
      have hW : dq_W D vwCl ad (dq_U (dq_U (dq_U w 100 (.inr (8, [.int 0, .int (nI n), .ref (ad 102), .ref (ad 103), .ref (ad 104), .int (nI hn), .ref (ad 106), .ref (ad 107), .ref (ad 108), .ref (ad 109), .ref (ad 110), .ref (ad 111), .int (nI cn), .ref (ad 113), .int pl, .int (nI tn), .ref (ad 116), .ref (ad 117), .ref (ad 118), .ref (ad 119), .int sg, .ref (ad 121), .long wy, .ref (ad 123), .ref (ad 124), .ref (ad 125), .ref (ad 126), .ref (ad 127), .ref (ad 128)]))) 106 (.inl (g 0, 14, .inl px))) 107 (.inl (g 0, 14, .inl py))) A H := dq_Wc (by rw [dq_Uid (r := 106) ((dq_Un (by decide)).trans m106), dq_Uid (r := 107) ((dq_Un (by decide)).trans m107)]; try rfl) hW
      have hW : dq_W D vwCl ad (dq_U (dq_U (dq_U w 100 (.inr (8, [.int 0, .int (nI n), .ref (ad 102), .ref (ad 103), .ref (ad 104), .int (nI hn), .ref (ad 106), .ref (ad 107), .ref (ad 108), .ref (ad 109), .ref (ad 110), .ref (ad 111), .int (nI cn), .ref (ad 113), .int pl, .int (nI tn), .ref (ad 116), .ref (ad 117), .ref (ad 118), .ref (ad 119), .int sg, .ref (ad 121), .long wy, .ref (ad 123), .ref (ad 124), .ref (ad 125), .ref (ad 126), .ref (ad 127), .ref (ad 128)]))) 106 (.inl (g 0, 14, .inl px))) 107 (.inl (g 0, 14, .inl (mn_neg py 0)))) A H := dq_Wc (by rw [mn_neg_0]; try rfl) hW
      have loop : ∀ (j : Nat) (k : Nat) (H : Heap) (locs : List Loc) (ls : Array Slot), hn < k + j → k ≤ hn → dq_W D vwCl ad (dq_U (dq_U (dq_U w 100 (.inr (8, [.int 0, .int (nI n), .ref (ad 102), .ref (ad 103), .ref (ad 104), .int (nI hn), .ref (ad 106), .ref (ad 107), .ref (ad 108), .ref (ad 109), .ref (ad 110), .ref (ad 111), .int (nI cn), .ref (ad 113), .int pl, .int (nI tn), .ref (ad 116), .ref (ad 117), .ref (ad 118), .ref (ad 119), .int sg, .ref (ad 121), .long wy, .ref (ad 123), .ref (ad 124), .ref (ad 125), .ref (ad 126), .ref (ad 127), .ref (ad 128)]))) 106 (.inl (g 0, 14, .inl px))) 107 (.inl (g 0, 14, .inl (mn_neg py k)))) A H → va_S A s.heap H locs → lv_has ls 3 [(0, .ref (ad 100)), (1, .int 1), (2, .int (nI k))] → W p l e ({ frames := 1, cells := 0, slots := 0, locals := 24 } : Room) s m ([.ref (ad 100), .int 1] : List Value).toArray below meth c H locs 0 0 Q (F0 m 29 ls []) := by
        intro j
        induction j with
        | zero => intro k H locs ls hj hk hW hS hl; exact absurd hj (by omega)
        | succ j ih =>
          intro k H locs ls hj hk hW hS hl
          refine lv_iload_n hx hb dMo_mirror_29 rfl (lv_at hl 2 rfl) ?_
          refine lv_aload_n hx hb dMo_mirror_30 rfl (lv_at hl 0 rfl) ?_
          refine dq_get (D := D) (ci := 8) (v := .int (nI hn)) (C := RMo) (T := TMo) (N := 29) hx hb hts hinMo hown hK hW 100 ((dq_Un (by decide)).trans ((dq_Un (by decide)).trans dq_Us)) rfl 5 (by decide) hf90 (fun _ h9 => h9) rfl dMo_mirror_31 ?_
          refine lv_icmp_ge (tgt := 96) hx hb dMo_mirror_34 (by decide) (fun c1 => ?_) (fun c1 => ?_)
          · have hkn : hn = k := by have q9 := (nI_leI (by omega) (by omega)).mp c1; omega
            subst hkn
            refine lv_aload_n hx hb dMo_mirror_96 rfl (lv_at hl 0 rfl) ?_
            refine lv_aload_n hx hb dMo_mirror_97 rfl (lv_at hl 0 rfl) ?_
            refine dq_get (D := D) (ci := 8) (v := .int pl) (C := RMo) (T := TMo) (N := 29) hx hb hts hinMo hown hK hW 100 ((dq_Un (by decide)).trans ((dq_Un (by decide)).trans dq_Us)) rfl 14 (by decide) hf86 (fun _ h9 => h9) rfl dMo_mirror_98 ?_
            refine lv_if_eq (tgt := 115) hx hb dMo_mirror_101 (by decide) (fun c2 => ?_) (fun c2 => ?_)
            · exact absurd (hpl.symm.trans c2) (by decide)
            · refine lv_aload_n hx hb dMo_mirror_104 rfl (lv_at hl 0 rfl) ?_
              refine dq_get (D := D) (ci := 8) (v := .int (nI hn)) (C := RMo) (T := TMo) (N := 29) hx hb hts hinMo hown hK hW 100 ((dq_Un (by decide)).trans ((dq_Un (by decide)).trans dq_Us)) rfl 5 (by decide) hf90 (fun _ h9 => h9) rfl dMo_mirror_105 ?_
              refine lv_if_ne (tgt := 115) hx hb dMo_mirror_108 (by decide) (fun c3 => ?_) (fun c3 => ?_)
              · exact absurd (by rw [hz]; rfl) c3
              · refine lv_iconst (v := (1)) hx hb dMo_mirror_111 (by decide) ?_
                refine lv_goto (tgt := 116) hx hb dMo_mirror_112 (by decide) ?_
                refine dq_put (D := D) (ci := 8) (v := .int (1)) (ty := .boolean) (C := RMo) (T := TMo) (N := 29) hx hb hts hinMo tyMo tyMo_ok nmMo hown hK hW hS 100 ((dq_Un (by decide)).trans ((dq_Un (by decide)).trans dq_Us)) rfl 14 (by decide) hf86 (fun _ h9 => h9) rfl (by decide +kernel) rfl rfl (Nat.le_of_ble_eq_true rfl) dMo_mirror_116 (fun H locs hW hS => ?_)
                have hW : dq_W D vwCl ad (dq_U (dq_U (dq_U w 100 (.inr (8, [.int 0, .int (nI n), .ref (ad 102), .ref (ad 103), .ref (ad 104), .int (nI hn), .ref (ad 106), .ref (ad 107), .ref (ad 108), .ref (ad 109), .ref (ad 110), .ref (ad 111), .int (nI cn), .ref (ad 113), .int (1), .int (nI tn), .ref (ad 116), .ref (ad 117), .ref (ad 118), .ref (ad 119), .int sg, .ref (ad 121), .long wy, .ref (ad 123), .ref (ad 124), .ref (ad 125), .ref (ad 126), .ref (ad 127), .ref (ad 128)]))) 106 (.inl (g 0, 14, .inl px))) 107 (.inl (g 0, 14, .inl (mn_neg py hn)))) A H := dq_Wc (by funext j; unfold dq_U; (repeat' split) <;> first | rfl | omega) hW
                refine lv_aload_n hx hb dMo_mirror_119 rfl (lv_at hl 0 rfl) ?_
                refine dq_get (D := D) (ci := 8) (v := .int (nI hn)) (C := RMo) (T := TMo) (N := 29) hx hb hts hinMo hown hK hW 100 ((dq_Un (by decide)).trans ((dq_Un (by decide)).trans dq_Us)) rfl 5 (by decide) hf90 (fun _ h9 => h9) rfl dMo_mirror_120 ?_
                exact hret _ _ _ _ _ _ ⟨rfl, rfl⟩ hW hS dMo_mirror_123
          · have hkn : k < hn := by rcases Nat.lt_or_ge k hn with q | q; exact q; exact absurd (nI_le q (by omega)) c1
            refine lv_aload_n hx hb dMo_mirror_37 rfl (lv_at hl 0 rfl) ?_
            refine dq_get (D := D) (ci := 8) (v := .ref (ad 106)) (C := RMo) (T := TMo) (N := 29) hx hb hts hinMo hown hK hW 100 ((dq_Un (by decide)).trans ((dq_Un (by decide)).trans dq_Us)) rfl 6 (by decide) hf19 (fun _ h9 => h9) rfl dMo_mirror_38 ?_
            refine lv_iload_n hx hb dMo_mirror_41 rfl (lv_at hl 2 rfl) ?_
            refine lv_iload_n hx hb dMo_mirror_42 rfl (lv_at hl 1 rfl) ?_
            refine lv_if_ne (tgt := 56) hx hb dMo_mirror_43 (by decide) (fun c2 => ?_) (fun c2 => ?_)
            · refine lv_aload_n hx hb dMo_mirror_56 rfl (lv_at hl 0 rfl) ?_
              refine dq_get (D := D) (ci := 8) (v := .ref (ad 106)) (C := RMo) (T := TMo) (N := 29) hx hb hts hinMo hown hK hW 100 ((dq_Un (by decide)).trans ((dq_Un (by decide)).trans dq_Us)) rfl 6 (by decide) hf19 (fun _ h9 => h9) rfl dMo_mirror_57 ?_
              refine lv_iload_n hx hb dMo_mirror_60 rfl (lv_at hl 2 rfl) ?_
              refine dq_ialdN hx hb hK hW 106 0 ((dq_Un (by decide)).trans dq_Us) rfl k (by omega) (by omega) dMo_mirror_61 ?_
              refine dq_iastN hx hb hK hW hS 106 0 ((dq_Un (by decide)).trans dq_Us) rfl k (by omega) (by omega) dMo_mirror_62 (fun H locs hW hS => ?_)
              have hW : dq_W D vwCl ad (dq_U (dq_U (dq_U w 100 (.inr (8, [.int 0, .int (nI n), .ref (ad 102), .ref (ad 103), .ref (ad 104), .int (nI hn), .ref (ad 106), .ref (ad 107), .ref (ad 108), .ref (ad 109), .ref (ad 110), .ref (ad 111), .int (nI cn), .ref (ad 113), .int pl, .int (nI tn), .ref (ad 116), .ref (ad 117), .ref (ad 118), .ref (ad 119), .int sg, .ref (ad 121), .long wy, .ref (ad 123), .ref (ad 124), .ref (ad 125), .ref (ad 126), .ref (ad 127), .ref (ad 128)]))) 106 (.inl (g 0, 14, .inl (upd px k (px k))))) 107 (.inl (g 0, 14, .inl (mn_neg py k)))) A H := dq_Wc (by funext j; unfold dq_U; (repeat' split) <;> first | rfl | omega) hW
              refine lv_aload_n hx hb dMo_mirror_63 rfl (lv_at hl 0 rfl) ?_
              refine dq_get (D := D) (ci := 8) (v := .ref (ad 107)) (C := RMo) (T := TMo) (N := 29) hx hb hts hinMo hown hK hW 100 ((dq_Un (by decide)).trans ((dq_Un (by decide)).trans dq_Us)) rfl 7 (by decide) hf22 (fun _ h9 => h9) rfl dMo_mirror_64 ?_
              refine lv_iload_n hx hb dMo_mirror_67 rfl (lv_at hl 2 rfl) ?_
              refine lv_iload_n hx hb dMo_mirror_68 rfl (lv_at hl 1 rfl) ?_
              refine lv_iconst (v := (1)) hx hb dMo_mirror_69 (by decide) ?_
              refine lv_icmp_ne (tgt := 83) hx hb dMo_mirror_70 (by decide) (fun c3 => ?_) (fun c3 => ?_)
              · exact absurd rfl c3
              · refine lv_aload_n hx hb dMo_mirror_73 rfl (lv_at hl 0 rfl) ?_
                refine dq_get (D := D) (ci := 8) (v := .ref (ad 107)) (C := RMo) (T := TMo) (N := 29) hx hb hts hinMo hown hK hW 100 ((dq_Un (by decide)).trans ((dq_Un (by decide)).trans dq_Us)) rfl 7 (by decide) hf22 (fun _ h9 => h9) rfl dMo_mirror_74 ?_
                refine lv_iload_n hx hb dMo_mirror_77 rfl (lv_at hl 2 rfl) ?_
                refine dq_ialdN hx hb hK hW 107 0 dq_Us rfl k (by omega) (by omega) dMo_mirror_78 ?_
                refine lv_ineg hx hb dMo_mirror_79 ?_
                refine lv_goto (tgt := 89) hx hb dMo_mirror_80 (by decide) ?_
                refine dq_iastN hx hb hK hW hS 107 0 dq_Us rfl k (by omega) (by omega) dMo_mirror_89 (fun H locs hW hS => ?_)
                rw [dq_UU] at hW
                refine lv_iinc (v := (nI (k + 1))) (lv' := [(2, .int (nI (k + 1))), (0, .ref (ad 100)), (1, .int 1)]) hx hb dMo_mirror_90 hl (k := 2) rfl (by show nI k + 1 = _; exact nI_1 _) (by decide) rfl (fun ls hl => ?_)
                refine lv_goto (tgt := 29) hx hb dMo_mirror_93 (by decide) ?_
                have hW : dq_W D vwCl ad (dq_U (dq_U (dq_U w 100 (.inr (8, [.int 0, .int (nI n), .ref (ad 102), .ref (ad 103), .ref (ad 104), .int (nI hn), .ref (ad 106), .ref (ad 107), .ref (ad 108), .ref (ad 109), .ref (ad 110), .ref (ad 111), .int (nI cn), .ref (ad 113), .int pl, .int (nI tn), .ref (ad 116), .ref (ad 117), .ref (ad 118), .ref (ad 119), .int sg, .ref (ad 121), .long wy, .ref (ad 123), .ref (ad 124), .ref (ad 125), .ref (ad 126), .ref (ad 127), .ref (ad 128)]))) 106 (.inl (g 0, 14, .inl px))) 107 (.inl (g 0, 14, .inl (mn_neg py (k + 1))))) A H := dq_Wc (by rw [mn_neg_s, dq_updid]; try rfl) hW
                exact ih (k + 1) _ _ _ (by omega) (by omega) hW hS (lv_sub hl [1, 2, 0] rfl)
            · exact absurd c2 (by decide)
      exact loop (hn + 1) 0 _ _ _ (by omega) (Nat.zero_le _) hW hS (lv_sub hl [1, 2, 0] rfl)
    · exact absurd (by decide) c1

set_option maxHeartbeats 4000000 in
set_option maxRecDepth 100000 in
/-- mirror(1) -/
theorem m_mirror_1p (l : Launch) (D : va_G) (g : Nat → ClassId) (ad : Nat → Nat) (w : Nat → Option va_E) (sz : Nat) (cd : Int32) (n hn cn : Nat) (pl : Int32) (tn : Nat) (sg : Int32) (wy : Int64) (px py pw pd pf pt : Nat → Int32) (m100 : w 100 = some (.inr (8, [.int cd, .int (nI n), .ref (ad 102), .ref (ad 103), .ref (ad 104), .int (nI hn), .ref (ad 106), .ref (ad 107), .ref (ad 108), .ref (ad 109), .ref (ad 110), .ref (ad 111), .int (nI cn), .ref (ad 113), .int pl, .int (nI tn), .ref (ad 116), .ref (ad 117), .ref (ad 118), .ref (ad 119), .int sg, .ref (ad 121), .long wy, .ref (ad 123), .ref (ad 124), .ref (ad 125), .ref (ad 126), .ref (ad 127), .ref (ad 128)]))) (m106 : w 106 = some (.inl (g 0, 14, .inl px))) (m107 : w 107 = some (.inl (g 0, 14, .inl py))) (hpc : hn ≤ 14) (hz : 0 < hn) : Met l yMo_mirror wsMo_mirror ({ frames := 1, cells := 0, slots := 0, locals := 24 } : Room) (va_Pc [.ref (ad 100), .int 1] (dq_S D vwCl (dq_t g) ad w sz)) (va_Qi (fun r u => r = nI hn ∧ u = dq_U (dq_U (dq_U w 100 (.inr (8, [.int 0, .int (nI n), .ref (ad 102), .ref (ad 103), .ref (ad 104), .int (nI hn), .ref (ad 106), .ref (ad 107), .ref (ad 108), .ref (ad 109), .ref (ad 110), .ref (ad 111), .int (nI cn), .ref (ad 113), .int 0, .int (nI tn), .ref (ad 116), .ref (ad 117), .ref (ad 118), .ref (ad 119), .int sg, .ref (ad 121), .long wy, .ref (ad 123), .ref (ad 124), .ref (ad 125), .ref (ad 126), .ref (ad 127), .ref (ad 128)]))) 106 (.inl (g 0, 14, .inl px))) 107 (.inl (g 0, 14, .inl (mn_neg py hn)))) (dq_B D vwCl (dq_t g) ad (dq_A ad w sz)) (dq_A ad w sz)) 0 0 (dq_A ad w sz) := by
  refine dq_ofi (cc := cMo_mirror) (maxL := 3) (by decide) rfl (Nat.le_of_ble_eq_true rfl) ?_
  intro p e s m below meth c A Q ls ⟨hx, hb, hml, hown, hts⟩ hnm hA hW hK hZ hl hret
  have hS : va_S A s.heap s.heap [] := va_S.rf
  have hl : lv_has ls 3 [(0, .ref (ad 100)), (1, .int 1)] := hl
  have hf19 := hts _ (List.mem_cons_of_mem _ tw3_160)
  have hf22 := hts _ (List.mem_cons_of_mem _ tw3_161)
  have hf79 := hts _ (List.mem_cons_of_mem _ tw3_154)
  have hf86 := hts _ (List.mem_cons_of_mem _ tw3_168)
  have hf90 := hts _ (List.mem_cons_of_mem _ tw3_159)
  have hinMo : ∀ w ∈ u_ws RMo TMo 29, w ∈ wsMo_mirror := fun w h => List.mem_cons_of_mem _ (inMo w h)
  refine lv_aload_n hx hb dMo_mirror_0 rfl (lv_at hl 0 rfl) ?_
  refine lv_iload_n hx hb dMo_mirror_1 rfl (lv_at hl 1 rfl) ?_
  refine lv_iconst (v := (0)) hx hb dMo_mirror_2 (by decide) ?_
  refine lv_iconst (v := (1)) hx hb dMo_mirror_3 (by decide) ?_
  refine dq_calli (va_runS (As := [.int 1, .int (0), .int (1)]) (rest := [.ref (ad 100)]) ⟨hx, hb, hml, hown, hts⟩ (m_isIn l D g ad (w) _ 1 0 1  ) (cwS 3 hts (dq_giS2 tw4_11 tw4_12 tw1_10 tw4_13) rfl rfl rfl (by decide +kernel) ⟨Nat.le_of_ble_eq_true rfl, Nat.le_of_ble_eq_true rfl⟩) (dq_preS hW hS hA hK hZ) rfl rfl hl.1 rfl (lv_room (Nat.le_of_ble_eq_true rfl)) dMo_mirror_4 ⟨Nat.zero_le _, Nat.zero_le _⟩) hW hS hA (fun r1 u_9 H locs hp1 hW hS hz9 => ?_)
  obtain ⟨hr1, hu9⟩ := hp1
  rw [hu9] at hW
  subst hr1
  refine lv_if_eq (tgt := 14) hx hb dMo_mirror_7 (by decide) (fun c9 => ?_) (fun c9 => ?_)
  · have q0 := dq_b_f c9
    exact absurd q0 (by decide)
  · have q0 := dq_b_t c9
    refine lv_iconst (v := (0)) hx hb dMo_mirror_10 (by decide) ?_
    refine lv_goto (tgt := 15) hx hb dMo_mirror_11 (by decide) ?_
    refine dq_put (D := D) (ci := 8) (v := .int (0)) (ty := .int) (C := RMo) (T := TMo) (N := 29) hx hb hts hinMo tyMo tyMo_ok nmMo hown hK hW hS 100 m100 rfl 0 (by decide) hf79 (fun _ h9 => h9) rfl (by decide +kernel) rfl rfl (Nat.le_of_ble_eq_true rfl) dMo_mirror_15 (fun H locs hW hS => ?_)
    refine lv_aload_n hx hb dMo_mirror_18 rfl (lv_at hl 0 rfl) ?_
    refine dq_get (D := D) (ci := 8) (v := .int (0)) (C := RMo) (T := TMo) (N := 29) hx hb hts hinMo hown hK hW 100 dq_Us rfl 0 (by decide) hf79 (fun _ h9 => h9) rfl dMo_mirror_19 ?_
    refine lv_if_le (tgt := 27) hx hb dMo_mirror_22 (by decide) (fun c1 => ?_) (fun c1 => ?_)
    · refine lv_iconst (v := (nI 0)) hx hb dMo_mirror_27 (by decide) ?_
      refine lv_istore_n (lv' := [(2, .int (nI 0)), (0, .ref (ad 100)), (1, .int 1)]) hx hb dMo_mirror_28 rfl hl (by decide) rfl (fun ls hl => ?_)
      have hW : dq_W D vwCl ad (dq_U (dq_U (dq_U w 100 (.inr (8, [.int 0, .int (nI n), .ref (ad 102), .ref (ad 103), .ref (ad 104), .int (nI hn), .ref (ad 106), .ref (ad 107), .ref (ad 108), .ref (ad 109), .ref (ad 110), .ref (ad 111), .int (nI cn), .ref (ad 113), .int pl, .int (nI tn), .ref (ad 116), .ref (ad 117), .ref (ad 118), .ref (ad 119), .int sg, .ref (ad 121), .long wy, .ref (ad 123), .ref (ad 124), .ref (ad 125), .ref (ad 126), .ref (ad 127), .ref (ad 128)]))) 106 (.inl (g 0, 14, .inl px))) 107 (.inl (g 0, 14, .inl py))) A H := dq_Wc (by rw [dq_Uid (r := 106) ((dq_Un (by decide)).trans m106), dq_Uid (r := 107) ((dq_Un (by decide)).trans m107)]; try rfl) hW
      have hW : dq_W D vwCl ad (dq_U (dq_U (dq_U w 100 (.inr (8, [.int 0, .int (nI n), .ref (ad 102), .ref (ad 103), .ref (ad 104), .int (nI hn), .ref (ad 106), .ref (ad 107), .ref (ad 108), .ref (ad 109), .ref (ad 110), .ref (ad 111), .int (nI cn), .ref (ad 113), .int pl, .int (nI tn), .ref (ad 116), .ref (ad 117), .ref (ad 118), .ref (ad 119), .int sg, .ref (ad 121), .long wy, .ref (ad 123), .ref (ad 124), .ref (ad 125), .ref (ad 126), .ref (ad 127), .ref (ad 128)]))) 106 (.inl (g 0, 14, .inl px))) 107 (.inl (g 0, 14, .inl (mn_neg py 0)))) A H := dq_Wc (by rw [mn_neg_0]; try rfl) hW
      have loop : ∀ (j : Nat) (k : Nat) (H : Heap) (locs : List Loc) (ls : Array Slot), hn < k + j → k ≤ hn → dq_W D vwCl ad (dq_U (dq_U (dq_U w 100 (.inr (8, [.int 0, .int (nI n), .ref (ad 102), .ref (ad 103), .ref (ad 104), .int (nI hn), .ref (ad 106), .ref (ad 107), .ref (ad 108), .ref (ad 109), .ref (ad 110), .ref (ad 111), .int (nI cn), .ref (ad 113), .int pl, .int (nI tn), .ref (ad 116), .ref (ad 117), .ref (ad 118), .ref (ad 119), .int sg, .ref (ad 121), .long wy, .ref (ad 123), .ref (ad 124), .ref (ad 125), .ref (ad 126), .ref (ad 127), .ref (ad 128)]))) 106 (.inl (g 0, 14, .inl px))) 107 (.inl (g 0, 14, .inl (mn_neg py k)))) A H → va_S A s.heap H locs → lv_has ls 3 [(0, .ref (ad 100)), (1, .int 1), (2, .int (nI k))] → W p l e ({ frames := 1, cells := 0, slots := 0, locals := 24 } : Room) s m ([.ref (ad 100), .int 1] : List Value).toArray below meth c H locs 0 0 Q (F0 m 29 ls []) := by
        intro j
        induction j with
        | zero => intro k H locs ls hj hk hW hS hl; exact absurd hj (by omega)
        | succ j ih =>
          intro k H locs ls hj hk hW hS hl
          refine lv_iload_n hx hb dMo_mirror_29 rfl (lv_at hl 2 rfl) ?_
          refine lv_aload_n hx hb dMo_mirror_30 rfl (lv_at hl 0 rfl) ?_
          refine dq_get (D := D) (ci := 8) (v := .int (nI hn)) (C := RMo) (T := TMo) (N := 29) hx hb hts hinMo hown hK hW 100 ((dq_Un (by decide)).trans ((dq_Un (by decide)).trans dq_Us)) rfl 5 (by decide) hf90 (fun _ h9 => h9) rfl dMo_mirror_31 ?_
          refine lv_icmp_ge (tgt := 96) hx hb dMo_mirror_34 (by decide) (fun c1 => ?_) (fun c1 => ?_)
          · have hkn : hn = k := by have q9 := (nI_leI (by omega) (by omega)).mp c1; omega
            subst hkn
            refine lv_aload_n hx hb dMo_mirror_96 rfl (lv_at hl 0 rfl) ?_
            refine lv_aload_n hx hb dMo_mirror_97 rfl (lv_at hl 0 rfl) ?_
            refine dq_get (D := D) (ci := 8) (v := .int pl) (C := RMo) (T := TMo) (N := 29) hx hb hts hinMo hown hK hW 100 ((dq_Un (by decide)).trans ((dq_Un (by decide)).trans dq_Us)) rfl 14 (by decide) hf86 (fun _ h9 => h9) rfl dMo_mirror_98 ?_
            refine lv_if_eq (tgt := 115) hx hb dMo_mirror_101 (by decide) (fun c2 => ?_) (fun c2 => ?_)
            · refine lv_iconst (v := (0)) hx hb dMo_mirror_115 (by decide) ?_
              refine dq_put (D := D) (ci := 8) (v := .int (0)) (ty := .boolean) (C := RMo) (T := TMo) (N := 29) hx hb hts hinMo tyMo tyMo_ok nmMo hown hK hW hS 100 ((dq_Un (by decide)).trans ((dq_Un (by decide)).trans dq_Us)) rfl 14 (by decide) hf86 (fun _ h9 => h9) rfl (by decide +kernel) rfl rfl (Nat.le_of_ble_eq_true rfl) dMo_mirror_116 (fun H locs hW hS => ?_)
              have hW : dq_W D vwCl ad (dq_U (dq_U (dq_U w 100 (.inr (8, [.int 0, .int (nI n), .ref (ad 102), .ref (ad 103), .ref (ad 104), .int (nI hn), .ref (ad 106), .ref (ad 107), .ref (ad 108), .ref (ad 109), .ref (ad 110), .ref (ad 111), .int (nI cn), .ref (ad 113), .int (0), .int (nI tn), .ref (ad 116), .ref (ad 117), .ref (ad 118), .ref (ad 119), .int sg, .ref (ad 121), .long wy, .ref (ad 123), .ref (ad 124), .ref (ad 125), .ref (ad 126), .ref (ad 127), .ref (ad 128)]))) 106 (.inl (g 0, 14, .inl px))) 107 (.inl (g 0, 14, .inl (mn_neg py hn)))) A H := dq_Wc (by funext j; unfold dq_U; (repeat' split) <;> first | rfl | omega) hW
              refine lv_aload_n hx hb dMo_mirror_119 rfl (lv_at hl 0 rfl) ?_
              refine dq_get (D := D) (ci := 8) (v := .int (nI hn)) (C := RMo) (T := TMo) (N := 29) hx hb hts hinMo hown hK hW 100 ((dq_Un (by decide)).trans ((dq_Un (by decide)).trans dq_Us)) rfl 5 (by decide) hf90 (fun _ h9 => h9) rfl dMo_mirror_120 ?_
              exact hret _ _ _ _ _ _ ⟨rfl, rfl⟩ hW hS dMo_mirror_123
            · refine lv_aload_n hx hb dMo_mirror_104 rfl (lv_at hl 0 rfl) ?_
              refine dq_get (D := D) (ci := 8) (v := .int (nI hn)) (C := RMo) (T := TMo) (N := 29) hx hb hts hinMo hown hK hW 100 ((dq_Un (by decide)).trans ((dq_Un (by decide)).trans dq_Us)) rfl 5 (by decide) hf90 (fun _ h9 => h9) rfl dMo_mirror_105 ?_
              refine lv_if_ne (tgt := 115) hx hb dMo_mirror_108 (by decide) (fun c3 => ?_) (fun c3 => ?_)
              · refine lv_iconst (v := (0)) hx hb dMo_mirror_115 (by decide) ?_
                refine dq_put (D := D) (ci := 8) (v := .int (0)) (ty := .boolean) (C := RMo) (T := TMo) (N := 29) hx hb hts hinMo tyMo tyMo_ok nmMo hown hK hW hS 100 ((dq_Un (by decide)).trans ((dq_Un (by decide)).trans dq_Us)) rfl 14 (by decide) hf86 (fun _ h9 => h9) rfl (by decide +kernel) rfl rfl (Nat.le_of_ble_eq_true rfl) dMo_mirror_116 (fun H locs hW hS => ?_)
                have hW : dq_W D vwCl ad (dq_U (dq_U (dq_U w 100 (.inr (8, [.int 0, .int (nI n), .ref (ad 102), .ref (ad 103), .ref (ad 104), .int (nI hn), .ref (ad 106), .ref (ad 107), .ref (ad 108), .ref (ad 109), .ref (ad 110), .ref (ad 111), .int (nI cn), .ref (ad 113), .int (0), .int (nI tn), .ref (ad 116), .ref (ad 117), .ref (ad 118), .ref (ad 119), .int sg, .ref (ad 121), .long wy, .ref (ad 123), .ref (ad 124), .ref (ad 125), .ref (ad 126), .ref (ad 127), .ref (ad 128)]))) 106 (.inl (g 0, 14, .inl px))) 107 (.inl (g 0, 14, .inl (mn_neg py hn)))) A H := dq_Wc (by funext j; unfold dq_U; (repeat' split) <;> first | rfl | omega) hW
                refine lv_aload_n hx hb dMo_mirror_119 rfl (lv_at hl 0 rfl) ?_
                refine dq_get (D := D) (ci := 8) (v := .int (nI hn)) (C := RMo) (T := TMo) (N := 29) hx hb hts hinMo hown hK hW 100 ((dq_Un (by decide)).trans ((dq_Un (by decide)).trans dq_Us)) rfl 5 (by decide) hf90 (fun _ h9 => h9) rfl dMo_mirror_120 ?_
                exact hret _ _ _ _ _ _ ⟨rfl, rfl⟩ hW hS dMo_mirror_123
              · exact absurd ((nI_eq (b := 0) (by omega) (by omega)).mp c3) (by omega)
          · have hkn : k < hn := by rcases Nat.lt_or_ge k hn with q | q; exact q; exact absurd (nI_le q (by omega)) c1
            refine lv_aload_n hx hb dMo_mirror_37 rfl (lv_at hl 0 rfl) ?_
            refine dq_get (D := D) (ci := 8) (v := .ref (ad 106)) (C := RMo) (T := TMo) (N := 29) hx hb hts hinMo hown hK hW 100 ((dq_Un (by decide)).trans ((dq_Un (by decide)).trans dq_Us)) rfl 6 (by decide) hf19 (fun _ h9 => h9) rfl dMo_mirror_38 ?_
            refine lv_iload_n hx hb dMo_mirror_41 rfl (lv_at hl 2 rfl) ?_
            refine lv_iload_n hx hb dMo_mirror_42 rfl (lv_at hl 1 rfl) ?_
            refine lv_if_ne (tgt := 56) hx hb dMo_mirror_43 (by decide) (fun c2 => ?_) (fun c2 => ?_)
            · refine lv_aload_n hx hb dMo_mirror_56 rfl (lv_at hl 0 rfl) ?_
              refine dq_get (D := D) (ci := 8) (v := .ref (ad 106)) (C := RMo) (T := TMo) (N := 29) hx hb hts hinMo hown hK hW 100 ((dq_Un (by decide)).trans ((dq_Un (by decide)).trans dq_Us)) rfl 6 (by decide) hf19 (fun _ h9 => h9) rfl dMo_mirror_57 ?_
              refine lv_iload_n hx hb dMo_mirror_60 rfl (lv_at hl 2 rfl) ?_
              refine dq_ialdN hx hb hK hW 106 0 ((dq_Un (by decide)).trans dq_Us) rfl k (by omega) (by omega) dMo_mirror_61 ?_
              refine dq_iastN hx hb hK hW hS 106 0 ((dq_Un (by decide)).trans dq_Us) rfl k (by omega) (by omega) dMo_mirror_62 (fun H locs hW hS => ?_)
              have hW : dq_W D vwCl ad (dq_U (dq_U (dq_U w 100 (.inr (8, [.int 0, .int (nI n), .ref (ad 102), .ref (ad 103), .ref (ad 104), .int (nI hn), .ref (ad 106), .ref (ad 107), .ref (ad 108), .ref (ad 109), .ref (ad 110), .ref (ad 111), .int (nI cn), .ref (ad 113), .int pl, .int (nI tn), .ref (ad 116), .ref (ad 117), .ref (ad 118), .ref (ad 119), .int sg, .ref (ad 121), .long wy, .ref (ad 123), .ref (ad 124), .ref (ad 125), .ref (ad 126), .ref (ad 127), .ref (ad 128)]))) 106 (.inl (g 0, 14, .inl (upd px k (px k))))) 107 (.inl (g 0, 14, .inl (mn_neg py k)))) A H := dq_Wc (by funext j; unfold dq_U; (repeat' split) <;> first | rfl | omega) hW
              refine lv_aload_n hx hb dMo_mirror_63 rfl (lv_at hl 0 rfl) ?_
              refine dq_get (D := D) (ci := 8) (v := .ref (ad 107)) (C := RMo) (T := TMo) (N := 29) hx hb hts hinMo hown hK hW 100 ((dq_Un (by decide)).trans ((dq_Un (by decide)).trans dq_Us)) rfl 7 (by decide) hf22 (fun _ h9 => h9) rfl dMo_mirror_64 ?_
              refine lv_iload_n hx hb dMo_mirror_67 rfl (lv_at hl 2 rfl) ?_
              refine lv_iload_n hx hb dMo_mirror_68 rfl (lv_at hl 1 rfl) ?_
              refine lv_iconst (v := (1)) hx hb dMo_mirror_69 (by decide) ?_
              refine lv_icmp_ne (tgt := 83) hx hb dMo_mirror_70 (by decide) (fun c3 => ?_) (fun c3 => ?_)
              · exact absurd rfl c3
              · refine lv_aload_n hx hb dMo_mirror_73 rfl (lv_at hl 0 rfl) ?_
                refine dq_get (D := D) (ci := 8) (v := .ref (ad 107)) (C := RMo) (T := TMo) (N := 29) hx hb hts hinMo hown hK hW 100 ((dq_Un (by decide)).trans ((dq_Un (by decide)).trans dq_Us)) rfl 7 (by decide) hf22 (fun _ h9 => h9) rfl dMo_mirror_74 ?_
                refine lv_iload_n hx hb dMo_mirror_77 rfl (lv_at hl 2 rfl) ?_
                refine dq_ialdN hx hb hK hW 107 0 dq_Us rfl k (by omega) (by omega) dMo_mirror_78 ?_
                refine lv_ineg hx hb dMo_mirror_79 ?_
                refine lv_goto (tgt := 89) hx hb dMo_mirror_80 (by decide) ?_
                refine dq_iastN hx hb hK hW hS 107 0 dq_Us rfl k (by omega) (by omega) dMo_mirror_89 (fun H locs hW hS => ?_)
                rw [dq_UU] at hW
                refine lv_iinc (v := (nI (k + 1))) (lv' := [(2, .int (nI (k + 1))), (0, .ref (ad 100)), (1, .int 1)]) hx hb dMo_mirror_90 hl (k := 2) rfl (by show nI k + 1 = _; exact nI_1 _) (by decide) rfl (fun ls hl => ?_)
                refine lv_goto (tgt := 29) hx hb dMo_mirror_93 (by decide) ?_
                have hW : dq_W D vwCl ad (dq_U (dq_U (dq_U w 100 (.inr (8, [.int 0, .int (nI n), .ref (ad 102), .ref (ad 103), .ref (ad 104), .int (nI hn), .ref (ad 106), .ref (ad 107), .ref (ad 108), .ref (ad 109), .ref (ad 110), .ref (ad 111), .int (nI cn), .ref (ad 113), .int pl, .int (nI tn), .ref (ad 116), .ref (ad 117), .ref (ad 118), .ref (ad 119), .int sg, .ref (ad 121), .long wy, .ref (ad 123), .ref (ad 124), .ref (ad 125), .ref (ad 126), .ref (ad 127), .ref (ad 128)]))) 106 (.inl (g 0, 14, .inl px))) 107 (.inl (g 0, 14, .inl (mn_neg py (k + 1))))) A H := dq_Wc (by rw [mn_neg_s, dq_updid]; try rfl) hW
                exact ih (k + 1) _ _ _ (by omega) (by omega) hW hS (lv_sub hl [1, 2, 0] rfl)
            · exact absurd c2 (by decide)
      exact loop (hn + 1) 0 _ _ _ (by omega) (Nat.zero_le _) hW hS (lv_sub hl [1, 2, 0] rfl)
    · exact absurd (by decide) c1

set_option maxHeartbeats 4000000 in
set_option maxRecDepth 100000 in
/-- mirror(1) -/
theorem m_mirror_1n (l : Launch) (D : va_G) (g : Nat → ClassId) (ad : Nat → Nat) (w : Nat → Option va_E) (sz : Nat) (cd : Int32) (n hn cn : Nat) (pl : Int32) (tn : Nat) (sg : Int32) (wy : Int64) (px py pw pd pf pt : Nat → Int32) (m100 : w 100 = some (.inr (8, [.int cd, .int (nI n), .ref (ad 102), .ref (ad 103), .ref (ad 104), .int (nI hn), .ref (ad 106), .ref (ad 107), .ref (ad 108), .ref (ad 109), .ref (ad 110), .ref (ad 111), .int (nI cn), .ref (ad 113), .int pl, .int (nI tn), .ref (ad 116), .ref (ad 117), .ref (ad 118), .ref (ad 119), .int sg, .ref (ad 121), .long wy, .ref (ad 123), .ref (ad 124), .ref (ad 125), .ref (ad 126), .ref (ad 127), .ref (ad 128)]))) (m106 : w 106 = some (.inl (g 0, 14, .inl px))) (m107 : w 107 = some (.inl (g 0, 14, .inl py))) (hpc : hn ≤ 14) (hpl : pl = 0) : Met l yMo_mirror wsMo_mirror ({ frames := 1, cells := 0, slots := 0, locals := 24 } : Room) (va_Pc [.ref (ad 100), .int 1] (dq_S D vwCl (dq_t g) ad w sz)) (va_Qi (fun r u => r = nI hn ∧ u = dq_U (dq_U (dq_U w 100 (.inr (8, [.int 0, .int (nI n), .ref (ad 102), .ref (ad 103), .ref (ad 104), .int (nI hn), .ref (ad 106), .ref (ad 107), .ref (ad 108), .ref (ad 109), .ref (ad 110), .ref (ad 111), .int (nI cn), .ref (ad 113), .int 0, .int (nI tn), .ref (ad 116), .ref (ad 117), .ref (ad 118), .ref (ad 119), .int sg, .ref (ad 121), .long wy, .ref (ad 123), .ref (ad 124), .ref (ad 125), .ref (ad 126), .ref (ad 127), .ref (ad 128)]))) 106 (.inl (g 0, 14, .inl px))) 107 (.inl (g 0, 14, .inl (mn_neg py hn)))) (dq_B D vwCl (dq_t g) ad (dq_A ad w sz)) (dq_A ad w sz)) 0 0 (dq_A ad w sz) := by
  refine dq_ofi (cc := cMo_mirror) (maxL := 3) (by decide) rfl (Nat.le_of_ble_eq_true rfl) ?_
  intro p e s m below meth c A Q ls ⟨hx, hb, hml, hown, hts⟩ hnm hA hW hK hZ hl hret
  have hS : va_S A s.heap s.heap [] := va_S.rf
  have hl : lv_has ls 3 [(0, .ref (ad 100)), (1, .int 1)] := hl
  have hf19 := hts _ (List.mem_cons_of_mem _ tw3_160)
  have hf22 := hts _ (List.mem_cons_of_mem _ tw3_161)
  have hf79 := hts _ (List.mem_cons_of_mem _ tw3_154)
  have hf86 := hts _ (List.mem_cons_of_mem _ tw3_168)
  have hf90 := hts _ (List.mem_cons_of_mem _ tw3_159)
  have hinMo : ∀ w ∈ u_ws RMo TMo 29, w ∈ wsMo_mirror := fun w h => List.mem_cons_of_mem _ (inMo w h)
  refine lv_aload_n hx hb dMo_mirror_0 rfl (lv_at hl 0 rfl) ?_
  refine lv_iload_n hx hb dMo_mirror_1 rfl (lv_at hl 1 rfl) ?_
  refine lv_iconst (v := (0)) hx hb dMo_mirror_2 (by decide) ?_
  refine lv_iconst (v := (1)) hx hb dMo_mirror_3 (by decide) ?_
  refine dq_calli (va_runS (As := [.int 1, .int (0), .int (1)]) (rest := [.ref (ad 100)]) ⟨hx, hb, hml, hown, hts⟩ (m_isIn l D g ad (w) _ 1 0 1  ) (cwS 3 hts (dq_giS2 tw4_11 tw4_12 tw1_10 tw4_13) rfl rfl rfl (by decide +kernel) ⟨Nat.le_of_ble_eq_true rfl, Nat.le_of_ble_eq_true rfl⟩) (dq_preS hW hS hA hK hZ) rfl rfl hl.1 rfl (lv_room (Nat.le_of_ble_eq_true rfl)) dMo_mirror_4 ⟨Nat.zero_le _, Nat.zero_le _⟩) hW hS hA (fun r1 u_9 H locs hp1 hW hS hz9 => ?_)
  obtain ⟨hr1, hu9⟩ := hp1
  rw [hu9] at hW
  subst hr1
  refine lv_if_eq (tgt := 14) hx hb dMo_mirror_7 (by decide) (fun c9 => ?_) (fun c9 => ?_)
  · have q0 := dq_b_f c9
    exact absurd q0 (by decide)
  · have q0 := dq_b_t c9
    refine lv_iconst (v := (0)) hx hb dMo_mirror_10 (by decide) ?_
    refine lv_goto (tgt := 15) hx hb dMo_mirror_11 (by decide) ?_
    refine dq_put (D := D) (ci := 8) (v := .int (0)) (ty := .int) (C := RMo) (T := TMo) (N := 29) hx hb hts hinMo tyMo tyMo_ok nmMo hown hK hW hS 100 m100 rfl 0 (by decide) hf79 (fun _ h9 => h9) rfl (by decide +kernel) rfl rfl (Nat.le_of_ble_eq_true rfl) dMo_mirror_15 (fun H locs hW hS => ?_)
    refine lv_aload_n hx hb dMo_mirror_18 rfl (lv_at hl 0 rfl) ?_
    refine dq_get (D := D) (ci := 8) (v := .int (0)) (C := RMo) (T := TMo) (N := 29) hx hb hts hinMo hown hK hW 100 dq_Us rfl 0 (by decide) hf79 (fun _ h9 => h9) rfl dMo_mirror_19 ?_
    refine lv_if_le (tgt := 27) hx hb dMo_mirror_22 (by decide) (fun c1 => ?_) (fun c1 => ?_)
    · refine lv_iconst (v := (nI 0)) hx hb dMo_mirror_27 (by decide) ?_
      refine lv_istore_n (lv' := [(2, .int (nI 0)), (0, .ref (ad 100)), (1, .int 1)]) hx hb dMo_mirror_28 rfl hl (by decide) rfl (fun ls hl => ?_)
      have hW : dq_W D vwCl ad (dq_U (dq_U (dq_U w 100 (.inr (8, [.int 0, .int (nI n), .ref (ad 102), .ref (ad 103), .ref (ad 104), .int (nI hn), .ref (ad 106), .ref (ad 107), .ref (ad 108), .ref (ad 109), .ref (ad 110), .ref (ad 111), .int (nI cn), .ref (ad 113), .int pl, .int (nI tn), .ref (ad 116), .ref (ad 117), .ref (ad 118), .ref (ad 119), .int sg, .ref (ad 121), .long wy, .ref (ad 123), .ref (ad 124), .ref (ad 125), .ref (ad 126), .ref (ad 127), .ref (ad 128)]))) 106 (.inl (g 0, 14, .inl px))) 107 (.inl (g 0, 14, .inl py))) A H := dq_Wc (by rw [dq_Uid (r := 106) ((dq_Un (by decide)).trans m106), dq_Uid (r := 107) ((dq_Un (by decide)).trans m107)]; try rfl) hW
      have hW : dq_W D vwCl ad (dq_U (dq_U (dq_U w 100 (.inr (8, [.int 0, .int (nI n), .ref (ad 102), .ref (ad 103), .ref (ad 104), .int (nI hn), .ref (ad 106), .ref (ad 107), .ref (ad 108), .ref (ad 109), .ref (ad 110), .ref (ad 111), .int (nI cn), .ref (ad 113), .int pl, .int (nI tn), .ref (ad 116), .ref (ad 117), .ref (ad 118), .ref (ad 119), .int sg, .ref (ad 121), .long wy, .ref (ad 123), .ref (ad 124), .ref (ad 125), .ref (ad 126), .ref (ad 127), .ref (ad 128)]))) 106 (.inl (g 0, 14, .inl px))) 107 (.inl (g 0, 14, .inl (mn_neg py 0)))) A H := dq_Wc (by rw [mn_neg_0]; try rfl) hW
      have loop : ∀ (j : Nat) (k : Nat) (H : Heap) (locs : List Loc) (ls : Array Slot), hn < k + j → k ≤ hn → dq_W D vwCl ad (dq_U (dq_U (dq_U w 100 (.inr (8, [.int 0, .int (nI n), .ref (ad 102), .ref (ad 103), .ref (ad 104), .int (nI hn), .ref (ad 106), .ref (ad 107), .ref (ad 108), .ref (ad 109), .ref (ad 110), .ref (ad 111), .int (nI cn), .ref (ad 113), .int pl, .int (nI tn), .ref (ad 116), .ref (ad 117), .ref (ad 118), .ref (ad 119), .int sg, .ref (ad 121), .long wy, .ref (ad 123), .ref (ad 124), .ref (ad 125), .ref (ad 126), .ref (ad 127), .ref (ad 128)]))) 106 (.inl (g 0, 14, .inl px))) 107 (.inl (g 0, 14, .inl (mn_neg py k)))) A H → va_S A s.heap H locs → lv_has ls 3 [(0, .ref (ad 100)), (1, .int 1), (2, .int (nI k))] → W p l e ({ frames := 1, cells := 0, slots := 0, locals := 24 } : Room) s m ([.ref (ad 100), .int 1] : List Value).toArray below meth c H locs 0 0 Q (F0 m 29 ls []) := by
        intro j
        induction j with
        | zero => intro k H locs ls hj hk hW hS hl; exact absurd hj (by omega)
        | succ j ih =>
          intro k H locs ls hj hk hW hS hl
          refine lv_iload_n hx hb dMo_mirror_29 rfl (lv_at hl 2 rfl) ?_
          refine lv_aload_n hx hb dMo_mirror_30 rfl (lv_at hl 0 rfl) ?_
          refine dq_get (D := D) (ci := 8) (v := .int (nI hn)) (C := RMo) (T := TMo) (N := 29) hx hb hts hinMo hown hK hW 100 ((dq_Un (by decide)).trans ((dq_Un (by decide)).trans dq_Us)) rfl 5 (by decide) hf90 (fun _ h9 => h9) rfl dMo_mirror_31 ?_
          refine lv_icmp_ge (tgt := 96) hx hb dMo_mirror_34 (by decide) (fun c1 => ?_) (fun c1 => ?_)
          · have hkn : hn = k := by have q9 := (nI_leI (by omega) (by omega)).mp c1; omega
            subst hkn
            refine lv_aload_n hx hb dMo_mirror_96 rfl (lv_at hl 0 rfl) ?_
            refine lv_aload_n hx hb dMo_mirror_97 rfl (lv_at hl 0 rfl) ?_
            refine dq_get (D := D) (ci := 8) (v := .int pl) (C := RMo) (T := TMo) (N := 29) hx hb hts hinMo hown hK hW 100 ((dq_Un (by decide)).trans ((dq_Un (by decide)).trans dq_Us)) rfl 14 (by decide) hf86 (fun _ h9 => h9) rfl dMo_mirror_98 ?_
            refine lv_if_eq (tgt := 115) hx hb dMo_mirror_101 (by decide) (fun c2 => ?_) (fun c2 => ?_)
            · refine lv_iconst (v := (0)) hx hb dMo_mirror_115 (by decide) ?_
              refine dq_put (D := D) (ci := 8) (v := .int (0)) (ty := .boolean) (C := RMo) (T := TMo) (N := 29) hx hb hts hinMo tyMo tyMo_ok nmMo hown hK hW hS 100 ((dq_Un (by decide)).trans ((dq_Un (by decide)).trans dq_Us)) rfl 14 (by decide) hf86 (fun _ h9 => h9) rfl (by decide +kernel) rfl rfl (Nat.le_of_ble_eq_true rfl) dMo_mirror_116 (fun H locs hW hS => ?_)
              have hW : dq_W D vwCl ad (dq_U (dq_U (dq_U w 100 (.inr (8, [.int 0, .int (nI n), .ref (ad 102), .ref (ad 103), .ref (ad 104), .int (nI hn), .ref (ad 106), .ref (ad 107), .ref (ad 108), .ref (ad 109), .ref (ad 110), .ref (ad 111), .int (nI cn), .ref (ad 113), .int (0), .int (nI tn), .ref (ad 116), .ref (ad 117), .ref (ad 118), .ref (ad 119), .int sg, .ref (ad 121), .long wy, .ref (ad 123), .ref (ad 124), .ref (ad 125), .ref (ad 126), .ref (ad 127), .ref (ad 128)]))) 106 (.inl (g 0, 14, .inl px))) 107 (.inl (g 0, 14, .inl (mn_neg py hn)))) A H := dq_Wc (by funext j; unfold dq_U; (repeat' split) <;> first | rfl | omega) hW
              refine lv_aload_n hx hb dMo_mirror_119 rfl (lv_at hl 0 rfl) ?_
              refine dq_get (D := D) (ci := 8) (v := .int (nI hn)) (C := RMo) (T := TMo) (N := 29) hx hb hts hinMo hown hK hW 100 ((dq_Un (by decide)).trans ((dq_Un (by decide)).trans dq_Us)) rfl 5 (by decide) hf90 (fun _ h9 => h9) rfl dMo_mirror_120 ?_
              exact hret _ _ _ _ _ _ ⟨rfl, rfl⟩ hW hS dMo_mirror_123
            · exact absurd hpl c2
          · have hkn : k < hn := by rcases Nat.lt_or_ge k hn with q | q; exact q; exact absurd (nI_le q (by omega)) c1
            refine lv_aload_n hx hb dMo_mirror_37 rfl (lv_at hl 0 rfl) ?_
            refine dq_get (D := D) (ci := 8) (v := .ref (ad 106)) (C := RMo) (T := TMo) (N := 29) hx hb hts hinMo hown hK hW 100 ((dq_Un (by decide)).trans ((dq_Un (by decide)).trans dq_Us)) rfl 6 (by decide) hf19 (fun _ h9 => h9) rfl dMo_mirror_38 ?_
            refine lv_iload_n hx hb dMo_mirror_41 rfl (lv_at hl 2 rfl) ?_
            refine lv_iload_n hx hb dMo_mirror_42 rfl (lv_at hl 1 rfl) ?_
            refine lv_if_ne (tgt := 56) hx hb dMo_mirror_43 (by decide) (fun c2 => ?_) (fun c2 => ?_)
            · refine lv_aload_n hx hb dMo_mirror_56 rfl (lv_at hl 0 rfl) ?_
              refine dq_get (D := D) (ci := 8) (v := .ref (ad 106)) (C := RMo) (T := TMo) (N := 29) hx hb hts hinMo hown hK hW 100 ((dq_Un (by decide)).trans ((dq_Un (by decide)).trans dq_Us)) rfl 6 (by decide) hf19 (fun _ h9 => h9) rfl dMo_mirror_57 ?_
              refine lv_iload_n hx hb dMo_mirror_60 rfl (lv_at hl 2 rfl) ?_
              refine dq_ialdN hx hb hK hW 106 0 ((dq_Un (by decide)).trans dq_Us) rfl k (by omega) (by omega) dMo_mirror_61 ?_
              refine dq_iastN hx hb hK hW hS 106 0 ((dq_Un (by decide)).trans dq_Us) rfl k (by omega) (by omega) dMo_mirror_62 (fun H locs hW hS => ?_)
              have hW : dq_W D vwCl ad (dq_U (dq_U (dq_U w 100 (.inr (8, [.int 0, .int (nI n), .ref (ad 102), .ref (ad 103), .ref (ad 104), .int (nI hn), .ref (ad 106), .ref (ad 107), .ref (ad 108), .ref (ad 109), .ref (ad 110), .ref (ad 111), .int (nI cn), .ref (ad 113), .int pl, .int (nI tn), .ref (ad 116), .ref (ad 117), .ref (ad 118), .ref (ad 119), .int sg, .ref (ad 121), .long wy, .ref (ad 123), .ref (ad 124), .ref (ad 125), .ref (ad 126), .ref (ad 127), .ref (ad 128)]))) 106 (.inl (g 0, 14, .inl (upd px k (px k))))) 107 (.inl (g 0, 14, .inl (mn_neg py k)))) A H := dq_Wc (by funext j; unfold dq_U; (repeat' split) <;> first | rfl | omega) hW
              refine lv_aload_n hx hb dMo_mirror_63 rfl (lv_at hl 0 rfl) ?_
              refine dq_get (D := D) (ci := 8) (v := .ref (ad 107)) (C := RMo) (T := TMo) (N := 29) hx hb hts hinMo hown hK hW 100 ((dq_Un (by decide)).trans ((dq_Un (by decide)).trans dq_Us)) rfl 7 (by decide) hf22 (fun _ h9 => h9) rfl dMo_mirror_64 ?_
              refine lv_iload_n hx hb dMo_mirror_67 rfl (lv_at hl 2 rfl) ?_
              refine lv_iload_n hx hb dMo_mirror_68 rfl (lv_at hl 1 rfl) ?_
              refine lv_iconst (v := (1)) hx hb dMo_mirror_69 (by decide) ?_
              refine lv_icmp_ne (tgt := 83) hx hb dMo_mirror_70 (by decide) (fun c3 => ?_) (fun c3 => ?_)
              · exact absurd rfl c3
              · refine lv_aload_n hx hb dMo_mirror_73 rfl (lv_at hl 0 rfl) ?_
                refine dq_get (D := D) (ci := 8) (v := .ref (ad 107)) (C := RMo) (T := TMo) (N := 29) hx hb hts hinMo hown hK hW 100 ((dq_Un (by decide)).trans ((dq_Un (by decide)).trans dq_Us)) rfl 7 (by decide) hf22 (fun _ h9 => h9) rfl dMo_mirror_74 ?_
                refine lv_iload_n hx hb dMo_mirror_77 rfl (lv_at hl 2 rfl) ?_
                refine dq_ialdN hx hb hK hW 107 0 dq_Us rfl k (by omega) (by omega) dMo_mirror_78 ?_
                refine lv_ineg hx hb dMo_mirror_79 ?_
                refine lv_goto (tgt := 89) hx hb dMo_mirror_80 (by decide) ?_
                refine dq_iastN hx hb hK hW hS 107 0 dq_Us rfl k (by omega) (by omega) dMo_mirror_89 (fun H locs hW hS => ?_)
                rw [dq_UU] at hW
                refine lv_iinc (v := (nI (k + 1))) (lv' := [(2, .int (nI (k + 1))), (0, .ref (ad 100)), (1, .int 1)]) hx hb dMo_mirror_90 hl (k := 2) rfl (by show nI k + 1 = _; exact nI_1 _) (by decide) rfl (fun ls hl => ?_)
                refine lv_goto (tgt := 29) hx hb dMo_mirror_93 (by decide) ?_
                have hW : dq_W D vwCl ad (dq_U (dq_U (dq_U w 100 (.inr (8, [.int 0, .int (nI n), .ref (ad 102), .ref (ad 103), .ref (ad 104), .int (nI hn), .ref (ad 106), .ref (ad 107), .ref (ad 108), .ref (ad 109), .ref (ad 110), .ref (ad 111), .int (nI cn), .ref (ad 113), .int pl, .int (nI tn), .ref (ad 116), .ref (ad 117), .ref (ad 118), .ref (ad 119), .int sg, .ref (ad 121), .long wy, .ref (ad 123), .ref (ad 124), .ref (ad 125), .ref (ad 126), .ref (ad 127), .ref (ad 128)]))) 106 (.inl (g 0, 14, .inl px))) 107 (.inl (g 0, 14, .inl (mn_neg py (k + 1))))) A H := dq_Wc (by rw [mn_neg_s, dq_updid]; try rfl) hW
                exact ih (k + 1) _ _ _ (by omega) (by omega) hW hS (lv_sub hl [1, 2, 0] rfl)
            · exact absurd c2 (by decide)
      exact loop (hn + 1) 0 _ _ _ (by omega) (Nat.zero_le _) hW hS (lv_sub hl [1, 2, 0] rfl)
    · exact absurd (by decide) c1
