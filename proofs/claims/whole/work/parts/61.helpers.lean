set_option maxHeartbeats 4000000 in
set_option maxRecDepth 100000 in
/-- the helper of spindle -/
theorem H_spindle (l : Launch) (D : va_G) (g : Nat → ClassId) (ad : Nat → Nat) (w : Nat → Option va_E) (sz : Nat) {fs0 : List Value} (o0 : w 0 = some (.inr (7, fs0))) (a0 a1 a2 a3 : Int32) {rr : Int32} {w1 : Nat → Option va_E} {o9 : Nat → Int64} (hC : ∀ sz : Nat, Met l yDH_spindle wsDH_spindle ({ frames := 8, cells := 0, slots := 0, locals := 136 } : Room) (va_Pc [.ref (ad 0), .int a0, .int a1, .int a2, .int a3] (dq_S D vwCl (dq_t g) ad w sz)) (va_Qi (fun r u => r = rr ∧ u = w1) (dq_B D vwCl (dq_t g) ad (dq_A ad w sz)) (dq_A ad w sz)) 0 0 (dq_A ad w sz)) (o200 : w1 200 = some (.inl (g 2, 1, .inr (.inl o9)))) : Met l yLw_spindle wsLw_spindle ({ frames := 9, cells := 0, slots := 0, locals := 180 } : Room) (va_Pc [.ref (ad 0), .int a0, .int a1, .int a2, .int a3, .ref (ad 200)] (dq_S D vwCl (dq_t g) ad w sz)) (va_Qi (fun r u => r = 0 ∧ u = dq_U w1 200 (.inl (g 2, 1, .inr (.inl (vp_updL o9 0 (if rr = 0 then 0 else 1)))))) (dq_B D vwCl (dq_t g) ad (dq_A ad w sz)) (dq_A ad w sz)) 0 0 (dq_A ad w sz) := by
  refine dx_ofiW (cc := cLw_spindle) (maxL := 7) (hh := [(0, 21, 24, 13), (0, 21, 28, 15)]) (by decide) rfl (Nat.le_of_ble_eq_true rfl) ?_
  intro p e s m below meth c A Q ls ⟨hx, hb, hml, hown, hts⟩ hnm hA hW hK hZ hl htab hret
  have hS : va_S A s.heap s.heap [] := va_S.rf
  have hl : lv_has ls 7 [(0, .ref (ad 0)), (1, .int a0), (2, .int a1), (3, .int a2), (4, .int a3), (5, .ref (ad 200))] := hl
  refine lv_aload hx hb dLw_spindle_0 (lv_at hl 5 rfl) ?_
  refine lv_iconst (v := (nI 0)) hx hb dLw_spindle_2 (by decide) ?_
  refine lv_aload_n hx hb dLw_spindle_3 rfl (lv_at hl 0 rfl) ?_
  refine lv_iload_n hx hb dLw_spindle_4 rfl (lv_at hl 1 rfl) ?_
  refine lv_iload_n hx hb dLw_spindle_5 rfl (lv_at hl 2 rfl) ?_
  refine lv_iload_n hx hb dLw_spindle_6 rfl (lv_at hl 3 rfl) ?_
  refine lv_iload hx hb dLw_spindle_7 (lv_at hl 4 rfl) ?_
  refine dq_calli (va_runV (As := [.int a0, .int a1, .int a2, .int a3]) (rest := [.int (nI 0), .ref (ad 200)]) ⟨hx, hb, hml, hown, hts⟩ (hC _) (cwV 4 hts (dq_giV tw2_124 tw2_125 tw2_126 tw1_1 tw2_127) rfl rfl rfl (by decide +kernel) ⟨Nat.le_of_ble_eq_true rfl, Nat.le_of_ble_eq_true rfl⟩) (dq_preV (ci := 7) hW hS hA hK hZ o0 rfl rfl) rfl rfl hl.1 rfl (lv_room (Nat.le_of_ble_eq_true rfl)) dLw_spindle_9 ⟨Nat.zero_le _, Nat.zero_le _⟩) hW hS hA (fun r1 u_9 H locs hp1 hW hS hz9 => ?_)
  obtain ⟨h_r1, hu9⟩ := hp1
  rw [hu9] at hW
  rw [h_r1]
  refine lv_if_eq (tgt := 19) hx hb dLw_spindle_12 (by decide) (fun c1 => ?_) (fun c1 => ?_)
  · refine lv_lconst (v := 0) hx hb dLw_spindle_19 (by decide) ?_
    refine dq_lastN hx hb hK hW hS 200 2 o200 rfl 0 (by omega) (by omega) dLw_spindle_20 (fun H locs hW hS => ?_)
    refine lv_goto (tgt := 32) hx hb dLw_spindle_21 (by decide) ?_
    refine lv_iconst (v := (0)) hx hb dLw_spindle_32 (by decide) ?_
    exact hret _ _ _ _ _ _ ⟨rfl, by rw [if_pos c1]⟩ hW hS dLw_spindle_33
  · refine lv_lconst (v := 1) hx hb dLw_spindle_15 (by decide) ?_
    refine lv_goto (tgt := 20) hx hb dLw_spindle_16 (by decide) ?_
    refine dq_lastN hx hb hK hW hS 200 2 o200 rfl 0 (by omega) (by omega) dLw_spindle_20 (fun H locs hW hS => ?_)
    refine lv_goto (tgt := 32) hx hb dLw_spindle_21 (by decide) ?_
    refine lv_iconst (v := (0)) hx hb dLw_spindle_32 (by decide) ?_
    exact hret _ _ _ _ _ _ ⟨rfl, by rw [if_neg c1]⟩ hW hS dLw_spindle_33

set_option maxHeartbeats 4000000 in
set_option maxRecDepth 100000 in
/-- the helper of spindle, thrown -/
theorem H_spindle_1 (l : Launch) (D : va_G) (g : Nat → ClassId) (ad : Nat → Nat) (w : Nat → Option va_E) (sz : Nat) {fs0 : List Value} (o0 : w 0 = some (.inr (7, fs0))) (a0 a1 a2 a3 : Int32) (hC : ∀ sz : Nat, dx_M l yDH_spindle wsDH_spindle ({ frames := 8, cells := 1, slots := 6, locals := 136 } : Room) (va_Pc [.ref (ad 0), .int a0, .int a1, .int a2, .int a3] (dq_S D vwCl (dq_t g) ad w sz)) (dx_X D vwCl (dq_t g) ad w (dq_A ad w sz) (fun E => E = "java/lang/IndexOutOfBoundsException")) (dq_A ad w sz) 1 6) : Met l yLw_spindle wsLw_spindle ({ frames := 9, cells := 1, slots := 6, locals := 180 } : Room) (va_Pc [.ref (ad 0), .int a0, .int a1, .int a2, .int a3, .ref (ad 200)] (dq_S D vwCl (dq_t g) ad w sz)) (va_Qi (fun r u => r = 1 ∧ u = w) (dq_B D vwCl (dq_t g) ad (dq_A ad w sz)) (dq_A ad w sz)) 1 6 (dq_A ad w sz) := by
  refine dx_ofiW (cc := cLw_spindle) (maxL := 7) (hh := [(0, 21, 24, 13), (0, 21, 28, 15)]) (by decide) rfl (Nat.le_of_ble_eq_true rfl) ?_
  intro p e s m below meth c A Q ls ⟨hx, hb, hml, hown, hts⟩ hnm hA hW hK hZ hl htab hret
  have hS : va_S A s.heap s.heap [] := va_S.rf
  have hl : lv_has ls 7 [(0, .ref (ad 0)), (1, .int a0), (2, .int a1), (3, .int a2), (4, .int a3), (5, .ref (ad 200))] := hl
  refine lv_aload hx hb dLw_spindle_0 (lv_at hl 5 rfl) ?_
  refine lv_iconst (v := (nI 0)) hx hb dLw_spindle_2 (by decide) ?_
  refine lv_aload_n hx hb dLw_spindle_3 rfl (lv_at hl 0 rfl) ?_
  refine lv_iload_n hx hb dLw_spindle_4 rfl (lv_at hl 1 rfl) ?_
  refine lv_iload_n hx hb dLw_spindle_5 rfl (lv_at hl 2 rfl) ?_
  refine lv_iload_n hx hb dLw_spindle_6 rfl (lv_at hl 3 rfl) ?_
  refine lv_iload hx hb dLw_spindle_7 (lv_at hl 4 rfl) ?_
  refine dx_callV (As := [.int a0, .int a1, .int a2, .int a3]) (rest := [.int (nI 0), .ref (ad 200)]) ⟨hx, hb, hml, hown, hts⟩ (hC _) (cwV 4 hts (dq_giV tw2_124 tw2_125 tw2_126 tw1_1 tw2_127) rfl rfl rfl (by decide +kernel) ⟨Nat.le_of_ble_eq_true rfl, Nat.le_of_ble_eq_true rfl⟩) (dq_preV (ci := 7) hW hS hA hK hZ o0 rfl rfl) rfl hl.1 rfl (lv_room (Nat.le_of_ble_eq_true rfl)) dLw_spindle_9 ⟨Nat.le_of_ble_eq_true rfl, Nat.le_of_ble_eq_true rfl⟩ hS (dq_A.sub hW hS hA) (fun q9 E9 ce9 t9 H locs ht9 hal9 hX9 hz9 hk9 hS9 hce9 hcv9 hcl9 => ?_)
  obtain ⟨hE9, hW9, hK9⟩ := hX9
  rw [ht9] at hW9
  rw [hE9] at hcl9
  refine dx_catch (E := "java/lang/IndexOutOfBoundsException") (pre := []) (x := (0, 21, 24, 13)) (post := [(0, 21, 28, 15)]) hown htab (fun _ h => absurd h List.not_mem_nil) ⟨⟨Nat.le_of_ble_eq_true rfl, Nat.le_of_ble_eq_true rfl, by decide⟩, "java/lang/IndexOutOfBoundsException", (hts _ (List.mem_cons_of_mem _ tw2_122)), Cond.castable_spec (va_Nw.use (A := ([.ref (ad 0), .int a0, .int a1, .int a2, .int a3, .ref (ad 200)] : List Value).toArray) rfl hZ.c0)⟩ hce9 hcv9 hcl9 ?_
  have hW : dq_W D vwCl ad w A H := hW9.weaken (dq_A.sub hW hS hA)
  have hS := hS9
  refine lv_astore (lv' := [(6, .ref q9), (0, .ref (ad 0)), (1, .int a0), (2, .int a1), (3, .int a2), (4, .int a3), (5, .ref (ad 200))]) hx hb dLw_spindle_24 hl (by decide) rfl (fun ls hl => ?_)
  refine lv_iconst (v := (1)) hx hb dLw_spindle_26 (by decide) ?_
  exact hret _ _ _ _ _ _ ⟨rfl, rfl⟩ hW hS dLw_spindle_27

set_option maxHeartbeats 4000000 in
set_option maxRecDepth 100000 in
/-- the helper of spindle, thrown -/
theorem H_spindle_2 (l : Launch) (D : va_G) (g : Nat → ClassId) (ad : Nat → Nat) (w : Nat → Option va_E) (sz : Nat) {fs0 : List Value} (o0 : w 0 = some (.inr (7, fs0))) (a0 a1 a2 a3 : Int32) (hC : ∀ sz : Nat, dx_M l yDH_spindle wsDH_spindle ({ frames := 8, cells := 1, slots := 6, locals := 136 } : Room) (va_Pc [.ref (ad 0), .int a0, .int a1, .int a2, .int a3] (dq_S D vwCl (dq_t g) ad w sz)) (dx_X D vwCl (dq_t g) ad w (dq_A ad w sz) (fun E => E = "java/lang/IllegalArgumentException")) (dq_A ad w sz) 1 6) : Met l yLw_spindle wsLw_spindle ({ frames := 9, cells := 1, slots := 6, locals := 180 } : Room) (va_Pc [.ref (ad 0), .int a0, .int a1, .int a2, .int a3, .ref (ad 200)] (dq_S D vwCl (dq_t g) ad w sz)) (va_Qi (fun r u => r = 2 ∧ u = w) (dq_B D vwCl (dq_t g) ad (dq_A ad w sz)) (dq_A ad w sz)) 1 6 (dq_A ad w sz) := by
  refine dx_ofiW (cc := cLw_spindle) (maxL := 7) (hh := [(0, 21, 24, 13), (0, 21, 28, 15)]) (by decide) rfl (Nat.le_of_ble_eq_true rfl) ?_
  intro p e s m below meth c A Q ls ⟨hx, hb, hml, hown, hts⟩ hnm hA hW hK hZ hl htab hret
  have hS : va_S A s.heap s.heap [] := va_S.rf
  have hl : lv_has ls 7 [(0, .ref (ad 0)), (1, .int a0), (2, .int a1), (3, .int a2), (4, .int a3), (5, .ref (ad 200))] := hl
  refine lv_aload hx hb dLw_spindle_0 (lv_at hl 5 rfl) ?_
  refine lv_iconst (v := (nI 0)) hx hb dLw_spindle_2 (by decide) ?_
  refine lv_aload_n hx hb dLw_spindle_3 rfl (lv_at hl 0 rfl) ?_
  refine lv_iload_n hx hb dLw_spindle_4 rfl (lv_at hl 1 rfl) ?_
  refine lv_iload_n hx hb dLw_spindle_5 rfl (lv_at hl 2 rfl) ?_
  refine lv_iload_n hx hb dLw_spindle_6 rfl (lv_at hl 3 rfl) ?_
  refine lv_iload hx hb dLw_spindle_7 (lv_at hl 4 rfl) ?_
  refine dx_callV (As := [.int a0, .int a1, .int a2, .int a3]) (rest := [.int (nI 0), .ref (ad 200)]) ⟨hx, hb, hml, hown, hts⟩ (hC _) (cwV 4 hts (dq_giV tw2_124 tw2_125 tw2_126 tw1_1 tw2_127) rfl rfl rfl (by decide +kernel) ⟨Nat.le_of_ble_eq_true rfl, Nat.le_of_ble_eq_true rfl⟩) (dq_preV (ci := 7) hW hS hA hK hZ o0 rfl rfl) rfl hl.1 rfl (lv_room (Nat.le_of_ble_eq_true rfl)) dLw_spindle_9 ⟨Nat.le_of_ble_eq_true rfl, Nat.le_of_ble_eq_true rfl⟩ hS (dq_A.sub hW hS hA) (fun q9 E9 ce9 t9 H locs ht9 hal9 hX9 hz9 hk9 hS9 hce9 hcv9 hcl9 => ?_)
  obtain ⟨hE9, hW9, hK9⟩ := hX9
  rw [ht9] at hW9
  rw [hE9] at hcl9
  refine dx_catch (E := "java/lang/IllegalArgumentException") (pre := [(0, 21, 24, 13)]) (x := (0, 21, 28, 15)) (post := []) hown htab (List.forall_mem_cons.mpr ⟨⟨⟨Nat.le_of_ble_eq_true rfl, Nat.le_of_ble_eq_true rfl, by decide⟩, "java/lang/IndexOutOfBoundsException", (hts _ (List.mem_cons_of_mem _ tw2_122)), hZ.x0⟩, (fun _ h => absurd h List.not_mem_nil)⟩) ⟨⟨Nat.le_of_ble_eq_true rfl, Nat.le_of_ble_eq_true rfl, by decide⟩, "java/lang/IllegalArgumentException", (hts _ (List.mem_cons_of_mem _ tw2_123)), Cond.castable_spec (va_Nw.use (A := ([.ref (ad 0), .int a0, .int a1, .int a2, .int a3, .ref (ad 200)] : List Value).toArray) rfl hZ.c1)⟩ hce9 hcv9 hcl9 ?_
  have hW : dq_W D vwCl ad w A H := hW9.weaken (dq_A.sub hW hS hA)
  have hS := hS9
  refine lv_astore (lv' := [(6, .ref q9), (0, .ref (ad 0)), (1, .int a0), (2, .int a1), (3, .int a2), (4, .int a3), (5, .ref (ad 200))]) hx hb dLw_spindle_28 hl (by decide) rfl (fun ls hl => ?_)
  refine lv_iconst (v := (2)) hx hb dLw_spindle_30 (by decide) ?_
  exact hret _ _ _ _ _ _ ⟨rfl, rfl⟩ hW hS dLw_spindle_31

set_option maxHeartbeats 4000000 in
set_option maxRecDepth 100000 in
/-- the helper of hole -/
theorem H_hole (l : Launch) (D : va_G) (g : Nat → ClassId) (ad : Nat → Nat) (w : Nat → Option va_E) (sz : Nat) {fs0 : List Value} (o0 : w 0 = some (.inr (7, fs0))) (a0 a1 a2 a3 a4 : Int32) {rr : Int32} {w1 : Nat → Option va_E} {o9 : Nat → Int64} (hC : ∀ sz : Nat, Met l yDH_hole wsDH_hole ({ frames := 8, cells := 0, slots := 0, locals := 136 } : Room) (va_Pc [.ref (ad 0), .int a0, .int a1, .int a2, .int a3, .int a4] (dq_S D vwCl (dq_t g) ad w sz)) (va_Qi (fun r u => r = rr ∧ u = w1) (dq_B D vwCl (dq_t g) ad (dq_A ad w sz)) (dq_A ad w sz)) 0 0 (dq_A ad w sz)) (o200 : w1 200 = some (.inl (g 2, 1, .inr (.inl o9)))) : Met l yLw_hole wsLw_hole ({ frames := 9, cells := 0, slots := 0, locals := 180 } : Room) (va_Pc [.ref (ad 0), .int a0, .int a1, .int a2, .int a3, .int a4, .ref (ad 200)] (dq_S D vwCl (dq_t g) ad w sz)) (va_Qi (fun r u => r = 0 ∧ u = dq_U w1 200 (.inl (g 2, 1, .inr (.inl (vp_updL o9 0 rr.toInt64))))) (dq_B D vwCl (dq_t g) ad (dq_A ad w sz)) (dq_A ad w sz)) 0 0 (dq_A ad w sz) := by
  refine dx_ofiW (cc := cLw_hole) (maxL := 8) (hh := [(0, 16, 19, 21), (0, 16, 23, 15)]) (by decide) rfl (Nat.le_of_ble_eq_true rfl) ?_
  intro p e s m below meth c A Q ls ⟨hx, hb, hml, hown, hts⟩ hnm hA hW hK hZ hl htab hret
  have hS : va_S A s.heap s.heap [] := va_S.rf
  have hl : lv_has ls 8 [(0, .ref (ad 0)), (1, .int a0), (2, .int a1), (3, .int a2), (4, .int a3), (5, .int a4), (6, .ref (ad 200))] := hl
  refine lv_aload hx hb dLw_hole_0 (lv_at hl 6 rfl) ?_
  refine lv_iconst (v := (nI 0)) hx hb dLw_hole_2 (by decide) ?_
  refine lv_aload_n hx hb dLw_hole_3 rfl (lv_at hl 0 rfl) ?_
  refine lv_iload_n hx hb dLw_hole_4 rfl (lv_at hl 1 rfl) ?_
  refine lv_iload_n hx hb dLw_hole_5 rfl (lv_at hl 2 rfl) ?_
  refine lv_iload_n hx hb dLw_hole_6 rfl (lv_at hl 3 rfl) ?_
  refine lv_iload hx hb dLw_hole_7 (lv_at hl 4 rfl) ?_
  refine lv_iload hx hb dLw_hole_9 (lv_at hl 5 rfl) ?_
  refine dq_calli (va_runV (As := [.int a0, .int a1, .int a2, .int a3, .int a4]) (rest := [.int (nI 0), .ref (ad 200)]) ⟨hx, hb, hml, hown, hts⟩ (hC _) (cwV 5 hts (dq_giV tw2_232 tw2_233 tw2_234 tw1_1 tw2_235) rfl rfl rfl (by decide +kernel) ⟨Nat.le_of_ble_eq_true rfl, Nat.le_of_ble_eq_true rfl⟩) (dq_preV (ci := 7) hW hS hA hK hZ o0 rfl rfl) rfl rfl hl.1 rfl (lv_room (Nat.le_of_ble_eq_true rfl)) dLw_hole_11 ⟨Nat.zero_le _, Nat.zero_le _⟩) hW hS hA (fun r1 u_9 H locs hp1 hW hS hz9 => ?_)
  obtain ⟨h_r1, hu9⟩ := hp1
  rw [hu9] at hW
  rw [h_r1]
  refine lv_i2l hx hb dLw_hole_14 rfl ?_
  refine dq_lastN hx hb hK hW hS 200 2 o200 rfl 0 (by omega) (by omega) dLw_hole_15 (fun H locs hW hS => ?_)
  refine lv_goto (tgt := 27) hx hb dLw_hole_16 (by decide) ?_
  refine lv_iconst (v := (0)) hx hb dLw_hole_27 (by decide) ?_
  exact hret _ _ _ _ _ _ ⟨rfl, rfl⟩ hW hS dLw_hole_28

set_option maxHeartbeats 4000000 in
set_option maxRecDepth 100000 in
/-- the helper of hole, thrown -/
theorem H_hole_1 (l : Launch) (D : va_G) (g : Nat → ClassId) (ad : Nat → Nat) (w : Nat → Option va_E) (sz : Nat) {fs0 : List Value} (o0 : w 0 = some (.inr (7, fs0))) (a0 a1 a2 a3 a4 : Int32) (hC : ∀ sz : Nat, dx_M l yDH_hole wsDH_hole ({ frames := 8, cells := 1, slots := 6, locals := 136 } : Room) (va_Pc [.ref (ad 0), .int a0, .int a1, .int a2, .int a3, .int a4] (dq_S D vwCl (dq_t g) ad w sz)) (dx_X D vwCl (dq_t g) ad w (dq_A ad w sz) (fun E => E = "java/lang/IllegalStateException")) (dq_A ad w sz) 1 6) : Met l yLw_hole wsLw_hole ({ frames := 9, cells := 1, slots := 6, locals := 180 } : Room) (va_Pc [.ref (ad 0), .int a0, .int a1, .int a2, .int a3, .int a4, .ref (ad 200)] (dq_S D vwCl (dq_t g) ad w sz)) (va_Qi (fun r u => r = 1 ∧ u = w) (dq_B D vwCl (dq_t g) ad (dq_A ad w sz)) (dq_A ad w sz)) 1 6 (dq_A ad w sz) := by
  refine dx_ofiW (cc := cLw_hole) (maxL := 8) (hh := [(0, 16, 19, 21), (0, 16, 23, 15)]) (by decide) rfl (Nat.le_of_ble_eq_true rfl) ?_
  intro p e s m below meth c A Q ls ⟨hx, hb, hml, hown, hts⟩ hnm hA hW hK hZ hl htab hret
  have hS : va_S A s.heap s.heap [] := va_S.rf
  have hl : lv_has ls 8 [(0, .ref (ad 0)), (1, .int a0), (2, .int a1), (3, .int a2), (4, .int a3), (5, .int a4), (6, .ref (ad 200))] := hl
  refine lv_aload hx hb dLw_hole_0 (lv_at hl 6 rfl) ?_
  refine lv_iconst (v := (nI 0)) hx hb dLw_hole_2 (by decide) ?_
  refine lv_aload_n hx hb dLw_hole_3 rfl (lv_at hl 0 rfl) ?_
  refine lv_iload_n hx hb dLw_hole_4 rfl (lv_at hl 1 rfl) ?_
  refine lv_iload_n hx hb dLw_hole_5 rfl (lv_at hl 2 rfl) ?_
  refine lv_iload_n hx hb dLw_hole_6 rfl (lv_at hl 3 rfl) ?_
  refine lv_iload hx hb dLw_hole_7 (lv_at hl 4 rfl) ?_
  refine lv_iload hx hb dLw_hole_9 (lv_at hl 5 rfl) ?_
  refine dx_callV (As := [.int a0, .int a1, .int a2, .int a3, .int a4]) (rest := [.int (nI 0), .ref (ad 200)]) ⟨hx, hb, hml, hown, hts⟩ (hC _) (cwV 5 hts (dq_giV tw2_232 tw2_233 tw2_234 tw1_1 tw2_235) rfl rfl rfl (by decide +kernel) ⟨Nat.le_of_ble_eq_true rfl, Nat.le_of_ble_eq_true rfl⟩) (dq_preV (ci := 7) hW hS hA hK hZ o0 rfl rfl) rfl hl.1 rfl (lv_room (Nat.le_of_ble_eq_true rfl)) dLw_hole_11 ⟨Nat.le_of_ble_eq_true rfl, Nat.le_of_ble_eq_true rfl⟩ hS (dq_A.sub hW hS hA) (fun q9 E9 ce9 t9 H locs ht9 hal9 hX9 hz9 hk9 hS9 hce9 hcv9 hcl9 => ?_)
  obtain ⟨hE9, hW9, hK9⟩ := hX9
  rw [ht9] at hW9
  rw [hE9] at hcl9
  refine dx_catch (E := "java/lang/IllegalStateException") (pre := []) (x := (0, 16, 19, 21)) (post := [(0, 16, 23, 15)]) hown htab (fun _ h => absurd h List.not_mem_nil) ⟨⟨Nat.le_of_ble_eq_true rfl, Nat.le_of_ble_eq_true rfl, by decide⟩, "java/lang/IllegalStateException", (hts _ (List.mem_cons_of_mem _ tw2_231)), Cond.castable_spec (va_Nw.use (A := ([.ref (ad 0), .int a0, .int a1, .int a2, .int a3, .int a4, .ref (ad 200)] : List Value).toArray) rfl hZ.c2)⟩ hce9 hcv9 hcl9 ?_
  have hW : dq_W D vwCl ad w A H := hW9.weaken (dq_A.sub hW hS hA)
  have hS := hS9
  refine lv_astore (lv' := [(7, .ref q9), (0, .ref (ad 0)), (1, .int a0), (2, .int a1), (3, .int a2), (4, .int a3), (5, .int a4), (6, .ref (ad 200))]) hx hb dLw_hole_19 hl (by decide) rfl (fun ls hl => ?_)
  refine lv_iconst (v := (1)) hx hb dLw_hole_21 (by decide) ?_
  exact hret _ _ _ _ _ _ ⟨rfl, rfl⟩ hW hS dLw_hole_22

set_option maxHeartbeats 4000000 in
set_option maxRecDepth 100000 in
/-- the helper of hole, thrown -/
theorem H_hole_2 (l : Launch) (D : va_G) (g : Nat → ClassId) (ad : Nat → Nat) (w : Nat → Option va_E) (sz : Nat) {fs0 : List Value} (o0 : w 0 = some (.inr (7, fs0))) (a0 a1 a2 a3 a4 : Int32) (hC : ∀ sz : Nat, dx_M l yDH_hole wsDH_hole ({ frames := 8, cells := 1, slots := 6, locals := 136 } : Room) (va_Pc [.ref (ad 0), .int a0, .int a1, .int a2, .int a3, .int a4] (dq_S D vwCl (dq_t g) ad w sz)) (dx_X D vwCl (dq_t g) ad w (dq_A ad w sz) (fun E => E = "java/lang/IllegalArgumentException")) (dq_A ad w sz) 1 6) : Met l yLw_hole wsLw_hole ({ frames := 9, cells := 1, slots := 6, locals := 180 } : Room) (va_Pc [.ref (ad 0), .int a0, .int a1, .int a2, .int a3, .int a4, .ref (ad 200)] (dq_S D vwCl (dq_t g) ad w sz)) (va_Qi (fun r u => r = 2 ∧ u = w) (dq_B D vwCl (dq_t g) ad (dq_A ad w sz)) (dq_A ad w sz)) 1 6 (dq_A ad w sz) := by
  refine dx_ofiW (cc := cLw_hole) (maxL := 8) (hh := [(0, 16, 19, 21), (0, 16, 23, 15)]) (by decide) rfl (Nat.le_of_ble_eq_true rfl) ?_
  intro p e s m below meth c A Q ls ⟨hx, hb, hml, hown, hts⟩ hnm hA hW hK hZ hl htab hret
  have hS : va_S A s.heap s.heap [] := va_S.rf
  have hl : lv_has ls 8 [(0, .ref (ad 0)), (1, .int a0), (2, .int a1), (3, .int a2), (4, .int a3), (5, .int a4), (6, .ref (ad 200))] := hl
  refine lv_aload hx hb dLw_hole_0 (lv_at hl 6 rfl) ?_
  refine lv_iconst (v := (nI 0)) hx hb dLw_hole_2 (by decide) ?_
  refine lv_aload_n hx hb dLw_hole_3 rfl (lv_at hl 0 rfl) ?_
  refine lv_iload_n hx hb dLw_hole_4 rfl (lv_at hl 1 rfl) ?_
  refine lv_iload_n hx hb dLw_hole_5 rfl (lv_at hl 2 rfl) ?_
  refine lv_iload_n hx hb dLw_hole_6 rfl (lv_at hl 3 rfl) ?_
  refine lv_iload hx hb dLw_hole_7 (lv_at hl 4 rfl) ?_
  refine lv_iload hx hb dLw_hole_9 (lv_at hl 5 rfl) ?_
  refine dx_callV (As := [.int a0, .int a1, .int a2, .int a3, .int a4]) (rest := [.int (nI 0), .ref (ad 200)]) ⟨hx, hb, hml, hown, hts⟩ (hC _) (cwV 5 hts (dq_giV tw2_232 tw2_233 tw2_234 tw1_1 tw2_235) rfl rfl rfl (by decide +kernel) ⟨Nat.le_of_ble_eq_true rfl, Nat.le_of_ble_eq_true rfl⟩) (dq_preV (ci := 7) hW hS hA hK hZ o0 rfl rfl) rfl hl.1 rfl (lv_room (Nat.le_of_ble_eq_true rfl)) dLw_hole_11 ⟨Nat.le_of_ble_eq_true rfl, Nat.le_of_ble_eq_true rfl⟩ hS (dq_A.sub hW hS hA) (fun q9 E9 ce9 t9 H locs ht9 hal9 hX9 hz9 hk9 hS9 hce9 hcv9 hcl9 => ?_)
  obtain ⟨hE9, hW9, hK9⟩ := hX9
  rw [ht9] at hW9
  rw [hE9] at hcl9
  refine dx_catch (E := "java/lang/IllegalArgumentException") (pre := [(0, 16, 19, 21)]) (x := (0, 16, 23, 15)) (post := []) hown htab (List.forall_mem_cons.mpr ⟨⟨⟨Nat.le_of_ble_eq_true rfl, Nat.le_of_ble_eq_true rfl, by decide⟩, "java/lang/IllegalStateException", (hts _ (List.mem_cons_of_mem _ tw2_231)), hZ.x1⟩, (fun _ h => absurd h List.not_mem_nil)⟩) ⟨⟨Nat.le_of_ble_eq_true rfl, Nat.le_of_ble_eq_true rfl, by decide⟩, "java/lang/IllegalArgumentException", (hts _ (List.mem_cons_of_mem _ tw2_123)), Cond.castable_spec (va_Nw.use (A := ([.ref (ad 0), .int a0, .int a1, .int a2, .int a3, .int a4, .ref (ad 200)] : List Value).toArray) rfl hZ.c1)⟩ hce9 hcv9 hcl9 ?_
  have hW : dq_W D vwCl ad w A H := hW9.weaken (dq_A.sub hW hS hA)
  have hS := hS9
  refine lv_astore (lv' := [(7, .ref q9), (0, .ref (ad 0)), (1, .int a0), (2, .int a1), (3, .int a2), (4, .int a3), (5, .int a4), (6, .ref (ad 200))]) hx hb dLw_hole_23 hl (by decide) rfl (fun ls hl => ?_)
  refine lv_iconst (v := (2)) hx hb dLw_hole_25 (by decide) ?_
  exact hret _ _ _ _ _ _ ⟨rfl, rfl⟩ hW hS dLw_hole_26

set_option maxHeartbeats 4000000 in
set_option maxRecDepth 100000 in
/-- the helper of through -/
theorem H_through (l : Launch) (D : va_G) (g : Nat → ClassId) (ad : Nat → Nat) (w : Nat → Option va_E) (sz : Nat) {fs0 : List Value} (o0 : w 0 = some (.inr (7, fs0))) (a0 a1 : Int32) {rr : Int32} {w1 : Nat → Option va_E} {o9 : Nat → Int64} (hC : ∀ sz : Nat, Met l yDH_through wsDH_through ({ frames := 8, cells := 0, slots := 0, locals := 136 } : Room) (va_Pc [.ref (ad 0), .int a0, .int a1] (dq_S D vwCl (dq_t g) ad w sz)) (va_Qi (fun r u => r = rr ∧ u = w1) (dq_B D vwCl (dq_t g) ad (dq_A ad w sz)) (dq_A ad w sz)) 0 0 (dq_A ad w sz)) (o200 : w1 200 = some (.inl (g 2, 1, .inr (.inl o9)))) : Met l yLw_through wsLw_through ({ frames := 9, cells := 0, slots := 0, locals := 180 } : Room) (va_Pc [.ref (ad 0), .int a0, .int a1, .ref (ad 200)] (dq_S D vwCl (dq_t g) ad w sz)) (va_Qi (fun r u => r = 0 ∧ u = dq_U w1 200 (.inl (g 2, 1, .inr (.inl (vp_updL o9 0 (if rr = 0 then 0 else 1)))))) (dq_B D vwCl (dq_t g) ad (dq_A ad w sz)) (dq_A ad w sz)) 0 0 (dq_A ad w sz) := by
  refine dx_ofiW (cc := cLw_through) (maxL := 5) (hh := [(0, 17, 20, 13)]) (by decide) rfl (Nat.le_of_ble_eq_true rfl) ?_
  intro p e s m below meth c A Q ls ⟨hx, hb, hml, hown, hts⟩ hnm hA hW hK hZ hl htab hret
  have hS : va_S A s.heap s.heap [] := va_S.rf
  have hl : lv_has ls 5 [(0, .ref (ad 0)), (1, .int a0), (2, .int a1), (3, .ref (ad 200))] := hl
  refine lv_aload_n hx hb dLw_through_0 rfl (lv_at hl 3 rfl) ?_
  refine lv_iconst (v := (nI 0)) hx hb dLw_through_1 (by decide) ?_
  refine lv_aload_n hx hb dLw_through_2 rfl (lv_at hl 0 rfl) ?_
  refine lv_iload_n hx hb dLw_through_3 rfl (lv_at hl 1 rfl) ?_
  refine lv_iload_n hx hb dLw_through_4 rfl (lv_at hl 2 rfl) ?_
  refine dq_calli (va_runV (As := [.int a0, .int a1]) (rest := [.int (nI 0), .ref (ad 200)]) ⟨hx, hb, hml, hown, hts⟩ (hC _) (cwV 2 hts (dq_giV tw3_19 tw3_20 tw3_21 tw1_1 tw3_22) rfl rfl rfl (by decide +kernel) ⟨Nat.le_of_ble_eq_true rfl, Nat.le_of_ble_eq_true rfl⟩) (dq_preV (ci := 7) hW hS hA hK hZ o0 rfl rfl) rfl rfl hl.1 rfl (lv_room (Nat.le_of_ble_eq_true rfl)) dLw_through_5 ⟨Nat.zero_le _, Nat.zero_le _⟩) hW hS hA (fun r1 u_9 H locs hp1 hW hS hz9 => ?_)
  obtain ⟨h_r1, hu9⟩ := hp1
  rw [hu9] at hW
  rw [h_r1]
  refine lv_if_eq (tgt := 15) hx hb dLw_through_8 (by decide) (fun c1 => ?_) (fun c1 => ?_)
  · refine lv_lconst (v := 0) hx hb dLw_through_15 (by decide) ?_
    refine dq_lastN hx hb hK hW hS 200 2 o200 rfl 0 (by omega) (by omega) dLw_through_16 (fun H locs hW hS => ?_)
    refine lv_goto (tgt := 24) hx hb dLw_through_17 (by decide) ?_
    refine lv_iconst (v := (0)) hx hb dLw_through_24 (by decide) ?_
    exact hret _ _ _ _ _ _ ⟨rfl, by rw [if_pos c1]⟩ hW hS dLw_through_25
  · refine lv_lconst (v := 1) hx hb dLw_through_11 (by decide) ?_
    refine lv_goto (tgt := 16) hx hb dLw_through_12 (by decide) ?_
    refine dq_lastN hx hb hK hW hS 200 2 o200 rfl 0 (by omega) (by omega) dLw_through_16 (fun H locs hW hS => ?_)
    refine lv_goto (tgt := 24) hx hb dLw_through_17 (by decide) ?_
    refine lv_iconst (v := (0)) hx hb dLw_through_24 (by decide) ?_
    exact hret _ _ _ _ _ _ ⟨rfl, by rw [if_neg c1]⟩ hW hS dLw_through_25

set_option maxHeartbeats 4000000 in
set_option maxRecDepth 100000 in
/-- the helper of through, thrown -/
theorem H_through_1 (l : Launch) (D : va_G) (g : Nat → ClassId) (ad : Nat → Nat) (w : Nat → Option va_E) (sz : Nat) {fs0 : List Value} (o0 : w 0 = some (.inr (7, fs0))) (a0 a1 : Int32) (hC : ∀ sz : Nat, dx_M l yDH_through wsDH_through ({ frames := 8, cells := 1, slots := 6, locals := 136 } : Room) (va_Pc [.ref (ad 0), .int a0, .int a1] (dq_S D vwCl (dq_t g) ad w sz)) (dx_X D vwCl (dq_t g) ad w (dq_A ad w sz) (fun E => E = "java/lang/IndexOutOfBoundsException")) (dq_A ad w sz) 1 6) : Met l yLw_through wsLw_through ({ frames := 9, cells := 1, slots := 6, locals := 180 } : Room) (va_Pc [.ref (ad 0), .int a0, .int a1, .ref (ad 200)] (dq_S D vwCl (dq_t g) ad w sz)) (va_Qi (fun r u => r = 1 ∧ u = w) (dq_B D vwCl (dq_t g) ad (dq_A ad w sz)) (dq_A ad w sz)) 1 6 (dq_A ad w sz) := by
  refine dx_ofiW (cc := cLw_through) (maxL := 5) (hh := [(0, 17, 20, 13)]) (by decide) rfl (Nat.le_of_ble_eq_true rfl) ?_
  intro p e s m below meth c A Q ls ⟨hx, hb, hml, hown, hts⟩ hnm hA hW hK hZ hl htab hret
  have hS : va_S A s.heap s.heap [] := va_S.rf
  have hl : lv_has ls 5 [(0, .ref (ad 0)), (1, .int a0), (2, .int a1), (3, .ref (ad 200))] := hl
  refine lv_aload_n hx hb dLw_through_0 rfl (lv_at hl 3 rfl) ?_
  refine lv_iconst (v := (nI 0)) hx hb dLw_through_1 (by decide) ?_
  refine lv_aload_n hx hb dLw_through_2 rfl (lv_at hl 0 rfl) ?_
  refine lv_iload_n hx hb dLw_through_3 rfl (lv_at hl 1 rfl) ?_
  refine lv_iload_n hx hb dLw_through_4 rfl (lv_at hl 2 rfl) ?_
  refine dx_callV (As := [.int a0, .int a1]) (rest := [.int (nI 0), .ref (ad 200)]) ⟨hx, hb, hml, hown, hts⟩ (hC _) (cwV 2 hts (dq_giV tw3_19 tw3_20 tw3_21 tw1_1 tw3_22) rfl rfl rfl (by decide +kernel) ⟨Nat.le_of_ble_eq_true rfl, Nat.le_of_ble_eq_true rfl⟩) (dq_preV (ci := 7) hW hS hA hK hZ o0 rfl rfl) rfl hl.1 rfl (lv_room (Nat.le_of_ble_eq_true rfl)) dLw_through_5 ⟨Nat.le_of_ble_eq_true rfl, Nat.le_of_ble_eq_true rfl⟩ hS (dq_A.sub hW hS hA) (fun q9 E9 ce9 t9 H locs ht9 hal9 hX9 hz9 hk9 hS9 hce9 hcv9 hcl9 => ?_)
  obtain ⟨hE9, hW9, hK9⟩ := hX9
  rw [ht9] at hW9
  rw [hE9] at hcl9
  refine dx_catch (E := "java/lang/IndexOutOfBoundsException") (pre := []) (x := (0, 17, 20, 13)) (post := []) hown htab (fun _ h => absurd h List.not_mem_nil) ⟨⟨Nat.le_of_ble_eq_true rfl, Nat.le_of_ble_eq_true rfl, by decide⟩, "java/lang/IndexOutOfBoundsException", (hts _ (List.mem_cons_of_mem _ tw2_122)), Cond.castable_spec (va_Nw.use (A := ([.ref (ad 0), .int a0, .int a1, .ref (ad 200)] : List Value).toArray) rfl hZ.c0)⟩ hce9 hcv9 hcl9 ?_
  have hW : dq_W D vwCl ad w A H := hW9.weaken (dq_A.sub hW hS hA)
  have hS := hS9
  refine lv_astore (lv' := [(4, .ref q9), (0, .ref (ad 0)), (1, .int a0), (2, .int a1), (3, .ref (ad 200))]) hx hb dLw_through_20 hl (by decide) rfl (fun ls hl => ?_)
  refine lv_iconst (v := (1)) hx hb dLw_through_22 (by decide) ?_
  exact hret _ _ _ _ _ _ ⟨rfl, rfl⟩ hW hS dLw_through_23

set_option maxHeartbeats 4000000 in
set_option maxRecDepth 100000 in
/-- the helper of clamp -/
theorem H_clamp (l : Launch) (D : va_G) (g : Nat → ClassId) (ad : Nat → Nat) (w : Nat → Option va_E) (sz : Nat) {fs0 : List Value} (o0 : w 0 = some (.inr (7, fs0))) (a0 a1 a2 a3 : Int32) {rr : Int32} {w1 : Nat → Option va_E} {o9 : Nat → Int64} (hC : ∀ sz : Nat, Met l yDH_clamp wsDH_clamp ({ frames := 8, cells := 0, slots := 0, locals := 136 } : Room) (va_Pc [.ref (ad 0), .int a0, .int a1, .int a2, .int a3] (dq_S D vwCl (dq_t g) ad w sz)) (va_Qi (fun r u => r = rr ∧ u = w1) (dq_B D vwCl (dq_t g) ad (dq_A ad w sz)) (dq_A ad w sz)) 0 0 (dq_A ad w sz)) (o200 : w1 200 = some (.inl (g 2, 1, .inr (.inl o9)))) : Met l yLw_clamp wsLw_clamp ({ frames := 9, cells := 0, slots := 0, locals := 180 } : Room) (va_Pc [.ref (ad 0), .int a0, .int a1, .int a2, .int a3, .ref (ad 200)] (dq_S D vwCl (dq_t g) ad w sz)) (va_Qi (fun r u => r = 0 ∧ u = dq_U w1 200 (.inl (g 2, 1, .inr (.inl (vp_updL o9 0 (if rr = 0 then 0 else 1)))))) (dq_B D vwCl (dq_t g) ad (dq_A ad w sz)) (dq_A ad w sz)) 0 0 (dq_A ad w sz) := by
  refine dx_ofiW (cc := cLw_clamp) (maxL := 7) (hh := [(0, 21, 24, 15)]) (by decide) rfl (Nat.le_of_ble_eq_true rfl) ?_
  intro p e s m below meth c A Q ls ⟨hx, hb, hml, hown, hts⟩ hnm hA hW hK hZ hl htab hret
  have hS : va_S A s.heap s.heap [] := va_S.rf
  have hl : lv_has ls 7 [(0, .ref (ad 0)), (1, .int a0), (2, .int a1), (3, .int a2), (4, .int a3), (5, .ref (ad 200))] := hl
  refine lv_aload hx hb dLw_clamp_0 (lv_at hl 5 rfl) ?_
  refine lv_iconst (v := (nI 0)) hx hb dLw_clamp_2 (by decide) ?_
  refine lv_aload_n hx hb dLw_clamp_3 rfl (lv_at hl 0 rfl) ?_
  refine lv_iload_n hx hb dLw_clamp_4 rfl (lv_at hl 1 rfl) ?_
  refine lv_iload_n hx hb dLw_clamp_5 rfl (lv_at hl 2 rfl) ?_
  refine lv_iload_n hx hb dLw_clamp_6 rfl (lv_at hl 3 rfl) ?_
  refine lv_iload hx hb dLw_clamp_7 (lv_at hl 4 rfl) ?_
  refine dq_calli (va_runV (As := [.int a0, .int a1, .int a2, .int a3]) (rest := [.int (nI 0), .ref (ad 200)]) ⟨hx, hb, hml, hown, hts⟩ (hC _) (cwV 4 hts (dq_giV tw3_31 tw3_32 tw3_33 tw1_1 tw3_34) rfl rfl rfl (by decide +kernel) ⟨Nat.le_of_ble_eq_true rfl, Nat.le_of_ble_eq_true rfl⟩) (dq_preV (ci := 7) hW hS hA hK hZ o0 rfl rfl) rfl rfl hl.1 rfl (lv_room (Nat.le_of_ble_eq_true rfl)) dLw_clamp_9 ⟨Nat.zero_le _, Nat.zero_le _⟩) hW hS hA (fun r1 u_9 H locs hp1 hW hS hz9 => ?_)
  obtain ⟨h_r1, hu9⟩ := hp1
  rw [hu9] at hW
  rw [h_r1]
  refine lv_if_eq (tgt := 19) hx hb dLw_clamp_12 (by decide) (fun c1 => ?_) (fun c1 => ?_)
  · refine lv_lconst (v := 0) hx hb dLw_clamp_19 (by decide) ?_
    refine dq_lastN hx hb hK hW hS 200 2 o200 rfl 0 (by omega) (by omega) dLw_clamp_20 (fun H locs hW hS => ?_)
    refine lv_goto (tgt := 28) hx hb dLw_clamp_21 (by decide) ?_
    refine lv_iconst (v := (0)) hx hb dLw_clamp_28 (by decide) ?_
    exact hret _ _ _ _ _ _ ⟨rfl, by rw [if_pos c1]⟩ hW hS dLw_clamp_29
  · refine lv_lconst (v := 1) hx hb dLw_clamp_15 (by decide) ?_
    refine lv_goto (tgt := 20) hx hb dLw_clamp_16 (by decide) ?_
    refine dq_lastN hx hb hK hW hS 200 2 o200 rfl 0 (by omega) (by omega) dLw_clamp_20 (fun H locs hW hS => ?_)
    refine lv_goto (tgt := 28) hx hb dLw_clamp_21 (by decide) ?_
    refine lv_iconst (v := (0)) hx hb dLw_clamp_28 (by decide) ?_
    exact hret _ _ _ _ _ _ ⟨rfl, by rw [if_neg c1]⟩ hW hS dLw_clamp_29

set_option maxHeartbeats 4000000 in
set_option maxRecDepth 100000 in
/-- the helper of clamp, thrown -/
theorem H_clamp_1 (l : Launch) (D : va_G) (g : Nat → ClassId) (ad : Nat → Nat) (w : Nat → Option va_E) (sz : Nat) {fs0 : List Value} (o0 : w 0 = some (.inr (7, fs0))) (a0 a1 a2 a3 : Int32) (hC : ∀ sz : Nat, dx_M l yDH_clamp wsDH_clamp ({ frames := 8, cells := 1, slots := 6, locals := 136 } : Room) (va_Pc [.ref (ad 0), .int a0, .int a1, .int a2, .int a3] (dq_S D vwCl (dq_t g) ad w sz)) (dx_X D vwCl (dq_t g) ad w (dq_A ad w sz) (fun E => E = "java/lang/IllegalArgumentException")) (dq_A ad w sz) 1 6) : Met l yLw_clamp wsLw_clamp ({ frames := 9, cells := 1, slots := 6, locals := 180 } : Room) (va_Pc [.ref (ad 0), .int a0, .int a1, .int a2, .int a3, .ref (ad 200)] (dq_S D vwCl (dq_t g) ad w sz)) (va_Qi (fun r u => r = 1 ∧ u = w) (dq_B D vwCl (dq_t g) ad (dq_A ad w sz)) (dq_A ad w sz)) 1 6 (dq_A ad w sz) := by
  refine dx_ofiW (cc := cLw_clamp) (maxL := 7) (hh := [(0, 21, 24, 15)]) (by decide) rfl (Nat.le_of_ble_eq_true rfl) ?_
  intro p e s m below meth c A Q ls ⟨hx, hb, hml, hown, hts⟩ hnm hA hW hK hZ hl htab hret
  have hS : va_S A s.heap s.heap [] := va_S.rf
  have hl : lv_has ls 7 [(0, .ref (ad 0)), (1, .int a0), (2, .int a1), (3, .int a2), (4, .int a3), (5, .ref (ad 200))] := hl
  refine lv_aload hx hb dLw_clamp_0 (lv_at hl 5 rfl) ?_
  refine lv_iconst (v := (nI 0)) hx hb dLw_clamp_2 (by decide) ?_
  refine lv_aload_n hx hb dLw_clamp_3 rfl (lv_at hl 0 rfl) ?_
  refine lv_iload_n hx hb dLw_clamp_4 rfl (lv_at hl 1 rfl) ?_
  refine lv_iload_n hx hb dLw_clamp_5 rfl (lv_at hl 2 rfl) ?_
  refine lv_iload_n hx hb dLw_clamp_6 rfl (lv_at hl 3 rfl) ?_
  refine lv_iload hx hb dLw_clamp_7 (lv_at hl 4 rfl) ?_
  refine dx_callV (As := [.int a0, .int a1, .int a2, .int a3]) (rest := [.int (nI 0), .ref (ad 200)]) ⟨hx, hb, hml, hown, hts⟩ (hC _) (cwV 4 hts (dq_giV tw3_31 tw3_32 tw3_33 tw1_1 tw3_34) rfl rfl rfl (by decide +kernel) ⟨Nat.le_of_ble_eq_true rfl, Nat.le_of_ble_eq_true rfl⟩) (dq_preV (ci := 7) hW hS hA hK hZ o0 rfl rfl) rfl hl.1 rfl (lv_room (Nat.le_of_ble_eq_true rfl)) dLw_clamp_9 ⟨Nat.le_of_ble_eq_true rfl, Nat.le_of_ble_eq_true rfl⟩ hS (dq_A.sub hW hS hA) (fun q9 E9 ce9 t9 H locs ht9 hal9 hX9 hz9 hk9 hS9 hce9 hcv9 hcl9 => ?_)
  obtain ⟨hE9, hW9, hK9⟩ := hX9
  rw [ht9] at hW9
  rw [hE9] at hcl9
  refine dx_catch (E := "java/lang/IllegalArgumentException") (pre := []) (x := (0, 21, 24, 15)) (post := []) hown htab (fun _ h => absurd h List.not_mem_nil) ⟨⟨Nat.le_of_ble_eq_true rfl, Nat.le_of_ble_eq_true rfl, by decide⟩, "java/lang/IllegalArgumentException", (hts _ (List.mem_cons_of_mem _ tw2_123)), Cond.castable_spec (va_Nw.use (A := ([.ref (ad 0), .int a0, .int a1, .int a2, .int a3, .ref (ad 200)] : List Value).toArray) rfl hZ.c1)⟩ hce9 hcv9 hcl9 ?_
  have hW : dq_W D vwCl ad w A H := hW9.weaken (dq_A.sub hW hS hA)
  have hS := hS9
  refine lv_astore (lv' := [(6, .ref q9), (0, .ref (ad 0)), (1, .int a0), (2, .int a1), (3, .int a2), (4, .int a3), (5, .ref (ad 200))]) hx hb dLw_clamp_24 hl (by decide) rfl (fun ls hl => ?_)
  refine lv_iconst (v := (1)) hx hb dLw_clamp_26 (by decide) ?_
  exact hret _ _ _ _ _ _ ⟨rfl, rfl⟩ hW hS dLw_clamp_27

set_option maxHeartbeats 4000000 in
set_option maxRecDepth 100000 in
/-- the helper of mirror -/
theorem H_mirror (l : Launch) (D : va_G) (g : Nat → ClassId) (ad : Nat → Nat) (w : Nat → Option va_E) (sz : Nat) {fs0 : List Value} (o0 : w 0 = some (.inr (7, fs0))) (a0 : Int32) {rr : Int32} {w1 : Nat → Option va_E} {o9 : Nat → Int64} (hC : ∀ sz : Nat, Met l yDH_mirror wsDH_mirror ({ frames := 8, cells := 0, slots := 0, locals := 136 } : Room) (va_Pc [.ref (ad 0), .int a0] (dq_S D vwCl (dq_t g) ad w sz)) (va_Qi (fun r u => r = rr ∧ u = w1) (dq_B D vwCl (dq_t g) ad (dq_A ad w sz)) (dq_A ad w sz)) 0 0 (dq_A ad w sz)) (o200 : w1 200 = some (.inl (g 2, 1, .inr (.inl o9)))) : Met l yLw_mirror wsLw_mirror ({ frames := 9, cells := 0, slots := 0, locals := 180 } : Room) (va_Pc [.ref (ad 0), .int a0, .ref (ad 200)] (dq_S D vwCl (dq_t g) ad w sz)) (va_Qi (fun r u => r = 0 ∧ u = dq_U w1 200 (.inl (g 2, 1, .inr (.inl (vp_updL o9 0 rr.toInt64))))) (dq_B D vwCl (dq_t g) ad (dq_A ad w sz)) (dq_A ad w sz)) 0 0 (dq_A ad w sz) := by
  refine dx_ofiW (cc := cLw_mirror) (maxL := 4) (hh := [(0, 9, 12, 15)]) (by decide) rfl (Nat.le_of_ble_eq_true rfl) ?_
  intro p e s m below meth c A Q ls ⟨hx, hb, hml, hown, hts⟩ hnm hA hW hK hZ hl htab hret
  have hS : va_S A s.heap s.heap [] := va_S.rf
  have hl : lv_has ls 4 [(0, .ref (ad 0)), (1, .int a0), (2, .ref (ad 200))] := hl
  refine lv_aload_n hx hb dLw_mirror_0 rfl (lv_at hl 2 rfl) ?_
  refine lv_iconst (v := (nI 0)) hx hb dLw_mirror_1 (by decide) ?_
  refine lv_aload_n hx hb dLw_mirror_2 rfl (lv_at hl 0 rfl) ?_
  refine lv_iload_n hx hb dLw_mirror_3 rfl (lv_at hl 1 rfl) ?_
  refine dq_calli (va_runV (As := [.int a0]) (rest := [.int (nI 0), .ref (ad 200)]) ⟨hx, hb, hml, hown, hts⟩ (hC _) (cwV 1 hts (dq_giV tw3_42 tw3_43 tw3_44 tw1_1 tw3_45) rfl rfl rfl (by decide +kernel) ⟨Nat.le_of_ble_eq_true rfl, Nat.le_of_ble_eq_true rfl⟩) (dq_preV (ci := 7) hW hS hA hK hZ o0 rfl rfl) rfl rfl hl.1 rfl (lv_room (Nat.le_of_ble_eq_true rfl)) dLw_mirror_4 ⟨Nat.zero_le _, Nat.zero_le _⟩) hW hS hA (fun r1 u_9 H locs hp1 hW hS hz9 => ?_)
  obtain ⟨h_r1, hu9⟩ := hp1
  rw [hu9] at hW
  rw [h_r1]
  refine lv_i2l hx hb dLw_mirror_7 rfl ?_
  refine dq_lastN hx hb hK hW hS 200 2 o200 rfl 0 (by omega) (by omega) dLw_mirror_8 (fun H locs hW hS => ?_)
  refine lv_goto (tgt := 15) hx hb dLw_mirror_9 (by decide) ?_
  refine lv_iconst (v := (0)) hx hb dLw_mirror_15 (by decide) ?_
  exact hret _ _ _ _ _ _ ⟨rfl, rfl⟩ hW hS dLw_mirror_16

set_option maxHeartbeats 4000000 in
set_option maxRecDepth 100000 in
/-- the helper of mirror, thrown -/
theorem H_mirror_1 (l : Launch) (D : va_G) (g : Nat → ClassId) (ad : Nat → Nat) (w : Nat → Option va_E) (sz : Nat) {fs0 : List Value} (o0 : w 0 = some (.inr (7, fs0))) (a0 : Int32) (hC : ∀ sz : Nat, dx_M l yDH_mirror wsDH_mirror ({ frames := 8, cells := 1, slots := 6, locals := 136 } : Room) (va_Pc [.ref (ad 0), .int a0] (dq_S D vwCl (dq_t g) ad w sz)) (dx_X D vwCl (dq_t g) ad w (dq_A ad w sz) (fun E => E = "java/lang/IllegalArgumentException")) (dq_A ad w sz) 1 6) : Met l yLw_mirror wsLw_mirror ({ frames := 9, cells := 1, slots := 6, locals := 180 } : Room) (va_Pc [.ref (ad 0), .int a0, .ref (ad 200)] (dq_S D vwCl (dq_t g) ad w sz)) (va_Qi (fun r u => r = 1 ∧ u = w) (dq_B D vwCl (dq_t g) ad (dq_A ad w sz)) (dq_A ad w sz)) 1 6 (dq_A ad w sz) := by
  refine dx_ofiW (cc := cLw_mirror) (maxL := 4) (hh := [(0, 9, 12, 15)]) (by decide) rfl (Nat.le_of_ble_eq_true rfl) ?_
  intro p e s m below meth c A Q ls ⟨hx, hb, hml, hown, hts⟩ hnm hA hW hK hZ hl htab hret
  have hS : va_S A s.heap s.heap [] := va_S.rf
  have hl : lv_has ls 4 [(0, .ref (ad 0)), (1, .int a0), (2, .ref (ad 200))] := hl
  refine lv_aload_n hx hb dLw_mirror_0 rfl (lv_at hl 2 rfl) ?_
  refine lv_iconst (v := (nI 0)) hx hb dLw_mirror_1 (by decide) ?_
  refine lv_aload_n hx hb dLw_mirror_2 rfl (lv_at hl 0 rfl) ?_
  refine lv_iload_n hx hb dLw_mirror_3 rfl (lv_at hl 1 rfl) ?_
  refine dx_callV (As := [.int a0]) (rest := [.int (nI 0), .ref (ad 200)]) ⟨hx, hb, hml, hown, hts⟩ (hC _) (cwV 1 hts (dq_giV tw3_42 tw3_43 tw3_44 tw1_1 tw3_45) rfl rfl rfl (by decide +kernel) ⟨Nat.le_of_ble_eq_true rfl, Nat.le_of_ble_eq_true rfl⟩) (dq_preV (ci := 7) hW hS hA hK hZ o0 rfl rfl) rfl hl.1 rfl (lv_room (Nat.le_of_ble_eq_true rfl)) dLw_mirror_4 ⟨Nat.le_of_ble_eq_true rfl, Nat.le_of_ble_eq_true rfl⟩ hS (dq_A.sub hW hS hA) (fun q9 E9 ce9 t9 H locs ht9 hal9 hX9 hz9 hk9 hS9 hce9 hcv9 hcl9 => ?_)
  obtain ⟨hE9, hW9, hK9⟩ := hX9
  rw [ht9] at hW9
  rw [hE9] at hcl9
  refine dx_catch (E := "java/lang/IllegalArgumentException") (pre := []) (x := (0, 9, 12, 15)) (post := []) hown htab (fun _ h => absurd h List.not_mem_nil) ⟨⟨Nat.le_of_ble_eq_true rfl, Nat.le_of_ble_eq_true rfl, by decide⟩, "java/lang/IllegalArgumentException", (hts _ (List.mem_cons_of_mem _ tw2_123)), Cond.castable_spec (va_Nw.use (A := ([.ref (ad 0), .int a0, .ref (ad 200)] : List Value).toArray) rfl hZ.c1)⟩ hce9 hcv9 hcl9 ?_
  have hW : dq_W D vwCl ad w A H := hW9.weaken (dq_A.sub hW hS hA)
  have hS := hS9
  refine lv_astore_n (lv' := [(3, .ref q9), (0, .ref (ad 0)), (1, .int a0), (2, .ref (ad 200))]) hx hb dLw_mirror_12 rfl hl (by decide) rfl (fun ls hl => ?_)
  refine lv_iconst (v := (1)) hx hb dLw_mirror_13 (by decide) ?_
  exact hret _ _ _ _ _ _ ⟨rfl, rfl⟩ hW hS dLw_mirror_14

set_option maxHeartbeats 4000000 in
set_option maxRecDepth 100000 in
/-- the helper of hit -/
theorem H_hit (l : Launch) (D : va_G) (g : Nat → ClassId) (ad : Nat → Nat) (w : Nat → Option va_E) (sz : Nat) {fs0 : List Value} (o0 : w 0 = some (.inr (7, fs0))) (a0 a1 : Int32) {rr : Int32} {w1 : Nat → Option va_E} {o9 : Nat → Int64} (hC : ∀ sz : Nat, Met l yDH_hit wsDH_hit ({ frames := 8, cells := 0, slots := 0, locals := 136 } : Room) (va_Pc [.ref (ad 0), .int a0, .int a1] (dq_S D vwCl (dq_t g) ad w sz)) (va_Qi (fun r u => r = rr ∧ u = w1) (dq_B D vwCl (dq_t g) ad (dq_A ad w sz)) (dq_A ad w sz)) 0 0 (dq_A ad w sz)) (o200 : w1 200 = some (.inl (g 2, 1, .inr (.inl o9)))) : Met l yLw_hit wsLw_hit ({ frames := 9, cells := 0, slots := 0, locals := 180 } : Room) (va_Pc [.ref (ad 0), .int a0, .int a1, .ref (ad 200)] (dq_S D vwCl (dq_t g) ad w sz)) (va_Qi (fun r u => r = 0 ∧ u = dq_U w1 200 (.inl (g 2, 1, .inr (.inl (vp_updL o9 0 rr.toInt64))))) (dq_B D vwCl (dq_t g) ad (dq_A ad w sz)) (dq_A ad w sz)) 0 0 (dq_A ad w sz) := by
  refine dx_ofiW (cc := cLw_hit) (maxL := 5) (hh := [(0, 10, 13, 21), (0, 10, 17, 13), (0, 10, 21, 15)]) (by decide) rfl (Nat.le_of_ble_eq_true rfl) ?_
  intro p e s m below meth c A Q ls ⟨hx, hb, hml, hown, hts⟩ hnm hA hW hK hZ hl htab hret
  have hS : va_S A s.heap s.heap [] := va_S.rf
  have hl : lv_has ls 5 [(0, .ref (ad 0)), (1, .int a0), (2, .int a1), (3, .ref (ad 200))] := hl
  refine lv_aload_n hx hb dLw_hit_0 rfl (lv_at hl 3 rfl) ?_
  refine lv_iconst (v := (nI 0)) hx hb dLw_hit_1 (by decide) ?_
  refine lv_aload_n hx hb dLw_hit_2 rfl (lv_at hl 0 rfl) ?_
  refine lv_iload_n hx hb dLw_hit_3 rfl (lv_at hl 1 rfl) ?_
  refine lv_iload_n hx hb dLw_hit_4 rfl (lv_at hl 2 rfl) ?_
  refine dq_calli (va_runV (As := [.int a0, .int a1]) (rest := [.int (nI 0), .ref (ad 200)]) ⟨hx, hb, hml, hown, hts⟩ (hC _) (cwV 2 hts (dq_giV tw3_52 tw3_53 tw3_54 tw1_1 tw3_55) rfl rfl rfl (by decide +kernel) ⟨Nat.le_of_ble_eq_true rfl, Nat.le_of_ble_eq_true rfl⟩) (dq_preV (ci := 7) hW hS hA hK hZ o0 rfl rfl) rfl rfl hl.1 rfl (lv_room (Nat.le_of_ble_eq_true rfl)) dLw_hit_5 ⟨Nat.zero_le _, Nat.zero_le _⟩) hW hS hA (fun r1 u_9 H locs hp1 hW hS hz9 => ?_)
  obtain ⟨h_r1, hu9⟩ := hp1
  rw [hu9] at hW
  rw [h_r1]
  refine lv_i2l hx hb dLw_hit_8 rfl ?_
  refine dq_lastN hx hb hK hW hS 200 2 o200 rfl 0 (by omega) (by omega) dLw_hit_9 (fun H locs hW hS => ?_)
  refine lv_goto (tgt := 25) hx hb dLw_hit_10 (by decide) ?_
  refine lv_iconst (v := (0)) hx hb dLw_hit_25 (by decide) ?_
  exact hret _ _ _ _ _ _ ⟨rfl, rfl⟩ hW hS dLw_hit_26

set_option maxHeartbeats 4000000 in
set_option maxRecDepth 100000 in
/-- the helper of hit, thrown -/
theorem H_hit_1 (l : Launch) (D : va_G) (g : Nat → ClassId) (ad : Nat → Nat) (w : Nat → Option va_E) (sz : Nat) {fs0 : List Value} (o0 : w 0 = some (.inr (7, fs0))) (a0 a1 : Int32) (hC : ∀ sz : Nat, dx_M l yDH_hit wsDH_hit ({ frames := 8, cells := 1, slots := 6, locals := 136 } : Room) (va_Pc [.ref (ad 0), .int a0, .int a1] (dq_S D vwCl (dq_t g) ad w sz)) (dx_X D vwCl (dq_t g) ad w (dq_A ad w sz) (fun E => E = "java/lang/IllegalStateException")) (dq_A ad w sz) 1 6) : Met l yLw_hit wsLw_hit ({ frames := 9, cells := 1, slots := 6, locals := 180 } : Room) (va_Pc [.ref (ad 0), .int a0, .int a1, .ref (ad 200)] (dq_S D vwCl (dq_t g) ad w sz)) (va_Qi (fun r u => r = 1 ∧ u = w) (dq_B D vwCl (dq_t g) ad (dq_A ad w sz)) (dq_A ad w sz)) 1 6 (dq_A ad w sz) := by
  refine dx_ofiW (cc := cLw_hit) (maxL := 5) (hh := [(0, 10, 13, 21), (0, 10, 17, 13), (0, 10, 21, 15)]) (by decide) rfl (Nat.le_of_ble_eq_true rfl) ?_
  intro p e s m below meth c A Q ls ⟨hx, hb, hml, hown, hts⟩ hnm hA hW hK hZ hl htab hret
  have hS : va_S A s.heap s.heap [] := va_S.rf
  have hl : lv_has ls 5 [(0, .ref (ad 0)), (1, .int a0), (2, .int a1), (3, .ref (ad 200))] := hl
  refine lv_aload_n hx hb dLw_hit_0 rfl (lv_at hl 3 rfl) ?_
  refine lv_iconst (v := (nI 0)) hx hb dLw_hit_1 (by decide) ?_
  refine lv_aload_n hx hb dLw_hit_2 rfl (lv_at hl 0 rfl) ?_
  refine lv_iload_n hx hb dLw_hit_3 rfl (lv_at hl 1 rfl) ?_
  refine lv_iload_n hx hb dLw_hit_4 rfl (lv_at hl 2 rfl) ?_
  refine dx_callV (As := [.int a0, .int a1]) (rest := [.int (nI 0), .ref (ad 200)]) ⟨hx, hb, hml, hown, hts⟩ (hC _) (cwV 2 hts (dq_giV tw3_52 tw3_53 tw3_54 tw1_1 tw3_55) rfl rfl rfl (by decide +kernel) ⟨Nat.le_of_ble_eq_true rfl, Nat.le_of_ble_eq_true rfl⟩) (dq_preV (ci := 7) hW hS hA hK hZ o0 rfl rfl) rfl hl.1 rfl (lv_room (Nat.le_of_ble_eq_true rfl)) dLw_hit_5 ⟨Nat.le_of_ble_eq_true rfl, Nat.le_of_ble_eq_true rfl⟩ hS (dq_A.sub hW hS hA) (fun q9 E9 ce9 t9 H locs ht9 hal9 hX9 hz9 hk9 hS9 hce9 hcv9 hcl9 => ?_)
  obtain ⟨hE9, hW9, hK9⟩ := hX9
  rw [ht9] at hW9
  rw [hE9] at hcl9
  refine dx_catch (E := "java/lang/IllegalStateException") (pre := []) (x := (0, 10, 13, 21)) (post := [(0, 10, 17, 13), (0, 10, 21, 15)]) hown htab (fun _ h => absurd h List.not_mem_nil) ⟨⟨Nat.le_of_ble_eq_true rfl, Nat.le_of_ble_eq_true rfl, by decide⟩, "java/lang/IllegalStateException", (hts _ (List.mem_cons_of_mem _ tw2_231)), Cond.castable_spec (va_Nw.use (A := ([.ref (ad 0), .int a0, .int a1, .ref (ad 200)] : List Value).toArray) rfl hZ.c2)⟩ hce9 hcv9 hcl9 ?_
  have hW : dq_W D vwCl ad w A H := hW9.weaken (dq_A.sub hW hS hA)
  have hS := hS9
  refine lv_astore (lv' := [(4, .ref q9), (0, .ref (ad 0)), (1, .int a0), (2, .int a1), (3, .ref (ad 200))]) hx hb dLw_hit_13 hl (by decide) rfl (fun ls hl => ?_)
  refine lv_iconst (v := (1)) hx hb dLw_hit_15 (by decide) ?_
  exact hret _ _ _ _ _ _ ⟨rfl, rfl⟩ hW hS dLw_hit_16

set_option maxHeartbeats 4000000 in
set_option maxRecDepth 100000 in
/-- the helper of hit, thrown -/
theorem H_hit_2 (l : Launch) (D : va_G) (g : Nat → ClassId) (ad : Nat → Nat) (w : Nat → Option va_E) (sz : Nat) {fs0 : List Value} (o0 : w 0 = some (.inr (7, fs0))) (a0 a1 : Int32) (hC : ∀ sz : Nat, dx_M l yDH_hit wsDH_hit ({ frames := 8, cells := 1, slots := 6, locals := 136 } : Room) (va_Pc [.ref (ad 0), .int a0, .int a1] (dq_S D vwCl (dq_t g) ad w sz)) (dx_X D vwCl (dq_t g) ad w (dq_A ad w sz) (fun E => E = "java/lang/IndexOutOfBoundsException")) (dq_A ad w sz) 1 6) : Met l yLw_hit wsLw_hit ({ frames := 9, cells := 1, slots := 6, locals := 180 } : Room) (va_Pc [.ref (ad 0), .int a0, .int a1, .ref (ad 200)] (dq_S D vwCl (dq_t g) ad w sz)) (va_Qi (fun r u => r = 2 ∧ u = w) (dq_B D vwCl (dq_t g) ad (dq_A ad w sz)) (dq_A ad w sz)) 1 6 (dq_A ad w sz) := by
  refine dx_ofiW (cc := cLw_hit) (maxL := 5) (hh := [(0, 10, 13, 21), (0, 10, 17, 13), (0, 10, 21, 15)]) (by decide) rfl (Nat.le_of_ble_eq_true rfl) ?_
  intro p e s m below meth c A Q ls ⟨hx, hb, hml, hown, hts⟩ hnm hA hW hK hZ hl htab hret
  have hS : va_S A s.heap s.heap [] := va_S.rf
  have hl : lv_has ls 5 [(0, .ref (ad 0)), (1, .int a0), (2, .int a1), (3, .ref (ad 200))] := hl
  refine lv_aload_n hx hb dLw_hit_0 rfl (lv_at hl 3 rfl) ?_
  refine lv_iconst (v := (nI 0)) hx hb dLw_hit_1 (by decide) ?_
  refine lv_aload_n hx hb dLw_hit_2 rfl (lv_at hl 0 rfl) ?_
  refine lv_iload_n hx hb dLw_hit_3 rfl (lv_at hl 1 rfl) ?_
  refine lv_iload_n hx hb dLw_hit_4 rfl (lv_at hl 2 rfl) ?_
  refine dx_callV (As := [.int a0, .int a1]) (rest := [.int (nI 0), .ref (ad 200)]) ⟨hx, hb, hml, hown, hts⟩ (hC _) (cwV 2 hts (dq_giV tw3_52 tw3_53 tw3_54 tw1_1 tw3_55) rfl rfl rfl (by decide +kernel) ⟨Nat.le_of_ble_eq_true rfl, Nat.le_of_ble_eq_true rfl⟩) (dq_preV (ci := 7) hW hS hA hK hZ o0 rfl rfl) rfl hl.1 rfl (lv_room (Nat.le_of_ble_eq_true rfl)) dLw_hit_5 ⟨Nat.le_of_ble_eq_true rfl, Nat.le_of_ble_eq_true rfl⟩ hS (dq_A.sub hW hS hA) (fun q9 E9 ce9 t9 H locs ht9 hal9 hX9 hz9 hk9 hS9 hce9 hcv9 hcl9 => ?_)
  obtain ⟨hE9, hW9, hK9⟩ := hX9
  rw [ht9] at hW9
  rw [hE9] at hcl9
  refine dx_catch (E := "java/lang/IndexOutOfBoundsException") (pre := [(0, 10, 13, 21)]) (x := (0, 10, 17, 13)) (post := [(0, 10, 21, 15)]) hown htab (List.forall_mem_cons.mpr ⟨⟨⟨Nat.le_of_ble_eq_true rfl, Nat.le_of_ble_eq_true rfl, by decide⟩, "java/lang/IllegalStateException", (hts _ (List.mem_cons_of_mem _ tw2_231)), hZ.x2⟩, (fun _ h => absurd h List.not_mem_nil)⟩) ⟨⟨Nat.le_of_ble_eq_true rfl, Nat.le_of_ble_eq_true rfl, by decide⟩, "java/lang/IndexOutOfBoundsException", (hts _ (List.mem_cons_of_mem _ tw2_122)), Cond.castable_spec (va_Nw.use (A := ([.ref (ad 0), .int a0, .int a1, .ref (ad 200)] : List Value).toArray) rfl hZ.c0)⟩ hce9 hcv9 hcl9 ?_
  have hW : dq_W D vwCl ad w A H := hW9.weaken (dq_A.sub hW hS hA)
  have hS := hS9
  refine lv_astore (lv' := [(4, .ref q9), (0, .ref (ad 0)), (1, .int a0), (2, .int a1), (3, .ref (ad 200))]) hx hb dLw_hit_17 hl (by decide) rfl (fun ls hl => ?_)
  refine lv_iconst (v := (2)) hx hb dLw_hit_19 (by decide) ?_
  exact hret _ _ _ _ _ _ ⟨rfl, rfl⟩ hW hS dLw_hit_20

set_option maxHeartbeats 4000000 in
set_option maxRecDepth 100000 in
/-- the helper of hit, thrown -/
theorem H_hit_3 (l : Launch) (D : va_G) (g : Nat → ClassId) (ad : Nat → Nat) (w : Nat → Option va_E) (sz : Nat) {fs0 : List Value} (o0 : w 0 = some (.inr (7, fs0))) (a0 a1 : Int32) (hC : ∀ sz : Nat, dx_M l yDH_hit wsDH_hit ({ frames := 8, cells := 1, slots := 6, locals := 136 } : Room) (va_Pc [.ref (ad 0), .int a0, .int a1] (dq_S D vwCl (dq_t g) ad w sz)) (dx_X D vwCl (dq_t g) ad w (dq_A ad w sz) (fun E => E = "java/lang/IllegalArgumentException")) (dq_A ad w sz) 1 6) : Met l yLw_hit wsLw_hit ({ frames := 9, cells := 1, slots := 6, locals := 180 } : Room) (va_Pc [.ref (ad 0), .int a0, .int a1, .ref (ad 200)] (dq_S D vwCl (dq_t g) ad w sz)) (va_Qi (fun r u => r = 3 ∧ u = w) (dq_B D vwCl (dq_t g) ad (dq_A ad w sz)) (dq_A ad w sz)) 1 6 (dq_A ad w sz) := by
  refine dx_ofiW (cc := cLw_hit) (maxL := 5) (hh := [(0, 10, 13, 21), (0, 10, 17, 13), (0, 10, 21, 15)]) (by decide) rfl (Nat.le_of_ble_eq_true rfl) ?_
  intro p e s m below meth c A Q ls ⟨hx, hb, hml, hown, hts⟩ hnm hA hW hK hZ hl htab hret
  have hS : va_S A s.heap s.heap [] := va_S.rf
  have hl : lv_has ls 5 [(0, .ref (ad 0)), (1, .int a0), (2, .int a1), (3, .ref (ad 200))] := hl
  refine lv_aload_n hx hb dLw_hit_0 rfl (lv_at hl 3 rfl) ?_
  refine lv_iconst (v := (nI 0)) hx hb dLw_hit_1 (by decide) ?_
  refine lv_aload_n hx hb dLw_hit_2 rfl (lv_at hl 0 rfl) ?_
  refine lv_iload_n hx hb dLw_hit_3 rfl (lv_at hl 1 rfl) ?_
  refine lv_iload_n hx hb dLw_hit_4 rfl (lv_at hl 2 rfl) ?_
  refine dx_callV (As := [.int a0, .int a1]) (rest := [.int (nI 0), .ref (ad 200)]) ⟨hx, hb, hml, hown, hts⟩ (hC _) (cwV 2 hts (dq_giV tw3_52 tw3_53 tw3_54 tw1_1 tw3_55) rfl rfl rfl (by decide +kernel) ⟨Nat.le_of_ble_eq_true rfl, Nat.le_of_ble_eq_true rfl⟩) (dq_preV (ci := 7) hW hS hA hK hZ o0 rfl rfl) rfl hl.1 rfl (lv_room (Nat.le_of_ble_eq_true rfl)) dLw_hit_5 ⟨Nat.le_of_ble_eq_true rfl, Nat.le_of_ble_eq_true rfl⟩ hS (dq_A.sub hW hS hA) (fun q9 E9 ce9 t9 H locs ht9 hal9 hX9 hz9 hk9 hS9 hce9 hcv9 hcl9 => ?_)
  obtain ⟨hE9, hW9, hK9⟩ := hX9
  rw [ht9] at hW9
  rw [hE9] at hcl9
  refine dx_catch (E := "java/lang/IllegalArgumentException") (pre := [(0, 10, 13, 21), (0, 10, 17, 13)]) (x := (0, 10, 21, 15)) (post := []) hown htab (List.forall_mem_cons.mpr ⟨⟨⟨Nat.le_of_ble_eq_true rfl, Nat.le_of_ble_eq_true rfl, by decide⟩, "java/lang/IllegalStateException", (hts _ (List.mem_cons_of_mem _ tw2_231)), hZ.x1⟩, (List.forall_mem_cons.mpr ⟨⟨⟨Nat.le_of_ble_eq_true rfl, Nat.le_of_ble_eq_true rfl, by decide⟩, "java/lang/IndexOutOfBoundsException", (hts _ (List.mem_cons_of_mem _ tw2_122)), hZ.x0⟩, (fun _ h => absurd h List.not_mem_nil)⟩)⟩) ⟨⟨Nat.le_of_ble_eq_true rfl, Nat.le_of_ble_eq_true rfl, by decide⟩, "java/lang/IllegalArgumentException", (hts _ (List.mem_cons_of_mem _ tw2_123)), Cond.castable_spec (va_Nw.use (A := ([.ref (ad 0), .int a0, .int a1, .ref (ad 200)] : List Value).toArray) rfl hZ.c1)⟩ hce9 hcv9 hcl9 ?_
  have hW : dq_W D vwCl ad w A H := hW9.weaken (dq_A.sub hW hS hA)
  have hS := hS9
  refine lv_astore (lv' := [(4, .ref q9), (0, .ref (ad 0)), (1, .int a0), (2, .int a1), (3, .ref (ad 200))]) hx hb dLw_hit_21 hl (by decide) rfl (fun ls hl => ?_)
  refine lv_iconst (v := (3)) hx hb dLw_hit_23 (by decide) ?_
  exact hret _ _ _ _ _ _ ⟨rfl, rfl⟩ hW hS dLw_hit_24

set_option maxHeartbeats 4000000 in
set_option maxRecDepth 100000 in
/-- the helper of drills -/
theorem H_drills (l : Launch) (D : va_G) (g : Nat → ClassId) (ad : Nat → Nat) (w : Nat → Option va_E) (sz : Nat) {fs0 : List Value} (o0 : w 0 = some (.inr (7, fs0))) (a0 a1 : Int32) {rr : Int32} {w1 : Nat → Option va_E} {o9 : Nat → Int64} (hC : ∀ sz : Nat, Met l yDH_drills wsDH_drills ({ frames := 8, cells := 0, slots := 0, locals := 136 } : Room) (va_Pc [.ref (ad 0), .int a0, .int a1] (dq_S D vwCl (dq_t g) ad w sz)) (va_Qi (fun r u => r = rr ∧ u = w1) (dq_B D vwCl (dq_t g) ad (dq_A ad w sz)) (dq_A ad w sz)) 0 0 (dq_A ad w sz)) (o200 : w1 200 = some (.inl (g 2, 1, .inr (.inl o9)))) : Met l yLw_drills wsLw_drills ({ frames := 9, cells := 0, slots := 0, locals := 180 } : Room) (va_Pc [.ref (ad 0), .int a0, .int a1, .ref (ad 200)] (dq_S D vwCl (dq_t g) ad w sz)) (va_Qi (fun r u => r = 0 ∧ u = dq_U w1 200 (.inl (g 2, 1, .inr (.inl (vp_updL o9 0 (if rr = 0 then 0 else 1)))))) (dq_B D vwCl (dq_t g) ad (dq_A ad w sz)) (dq_A ad w sz)) 0 0 (dq_A ad w sz) := by
  refine dx_ofiW (cc := cLw_drills) (maxL := 5) (hh := [(0, 17, 20, 21), (0, 17, 24, 13)]) (by decide) rfl (Nat.le_of_ble_eq_true rfl) ?_
  intro p e s m below meth c A Q ls ⟨hx, hb, hml, hown, hts⟩ hnm hA hW hK hZ hl htab hret
  have hS : va_S A s.heap s.heap [] := va_S.rf
  have hl : lv_has ls 5 [(0, .ref (ad 0)), (1, .int a0), (2, .int a1), (3, .ref (ad 200))] := hl
  refine lv_aload_n hx hb dLw_drills_0 rfl (lv_at hl 3 rfl) ?_
  refine lv_iconst (v := (nI 0)) hx hb dLw_drills_1 (by decide) ?_
  refine lv_aload_n hx hb dLw_drills_2 rfl (lv_at hl 0 rfl) ?_
  refine lv_iload_n hx hb dLw_drills_3 rfl (lv_at hl 1 rfl) ?_
  refine lv_iload_n hx hb dLw_drills_4 rfl (lv_at hl 2 rfl) ?_
  refine dq_calli (va_runV (As := [.int a0, .int a1]) (rest := [.int (nI 0), .ref (ad 200)]) ⟨hx, hb, hml, hown, hts⟩ (hC _) (cwV 2 hts (dq_giV tw3_70 tw3_71 tw3_72 tw1_1 tw3_73) rfl rfl rfl (by decide +kernel) ⟨Nat.le_of_ble_eq_true rfl, Nat.le_of_ble_eq_true rfl⟩) (dq_preV (ci := 7) hW hS hA hK hZ o0 rfl rfl) rfl rfl hl.1 rfl (lv_room (Nat.le_of_ble_eq_true rfl)) dLw_drills_5 ⟨Nat.zero_le _, Nat.zero_le _⟩) hW hS hA (fun r1 u_9 H locs hp1 hW hS hz9 => ?_)
  obtain ⟨h_r1, hu9⟩ := hp1
  rw [hu9] at hW
  rw [h_r1]
  refine lv_if_eq (tgt := 15) hx hb dLw_drills_8 (by decide) (fun c1 => ?_) (fun c1 => ?_)
  · refine lv_lconst (v := 0) hx hb dLw_drills_15 (by decide) ?_
    refine dq_lastN hx hb hK hW hS 200 2 o200 rfl 0 (by omega) (by omega) dLw_drills_16 (fun H locs hW hS => ?_)
    refine lv_goto (tgt := 28) hx hb dLw_drills_17 (by decide) ?_
    refine lv_iconst (v := (0)) hx hb dLw_drills_28 (by decide) ?_
    exact hret _ _ _ _ _ _ ⟨rfl, by rw [if_pos c1]⟩ hW hS dLw_drills_29
  · refine lv_lconst (v := 1) hx hb dLw_drills_11 (by decide) ?_
    refine lv_goto (tgt := 16) hx hb dLw_drills_12 (by decide) ?_
    refine dq_lastN hx hb hK hW hS 200 2 o200 rfl 0 (by omega) (by omega) dLw_drills_16 (fun H locs hW hS => ?_)
    refine lv_goto (tgt := 28) hx hb dLw_drills_17 (by decide) ?_
    refine lv_iconst (v := (0)) hx hb dLw_drills_28 (by decide) ?_
    exact hret _ _ _ _ _ _ ⟨rfl, by rw [if_neg c1]⟩ hW hS dLw_drills_29

set_option maxHeartbeats 4000000 in
set_option maxRecDepth 100000 in
/-- the helper of drills, thrown -/
theorem H_drills_1 (l : Launch) (D : va_G) (g : Nat → ClassId) (ad : Nat → Nat) (w : Nat → Option va_E) (sz : Nat) {fs0 : List Value} (o0 : w 0 = some (.inr (7, fs0))) (a0 a1 : Int32) (hC : ∀ sz : Nat, dx_M l yDH_drills wsDH_drills ({ frames := 8, cells := 1, slots := 6, locals := 136 } : Room) (va_Pc [.ref (ad 0), .int a0, .int a1] (dq_S D vwCl (dq_t g) ad w sz)) (dx_X D vwCl (dq_t g) ad w (dq_A ad w sz) (fun E => E = "java/lang/IllegalStateException")) (dq_A ad w sz) 1 6) : Met l yLw_drills wsLw_drills ({ frames := 9, cells := 1, slots := 6, locals := 180 } : Room) (va_Pc [.ref (ad 0), .int a0, .int a1, .ref (ad 200)] (dq_S D vwCl (dq_t g) ad w sz)) (va_Qi (fun r u => r = 1 ∧ u = w) (dq_B D vwCl (dq_t g) ad (dq_A ad w sz)) (dq_A ad w sz)) 1 6 (dq_A ad w sz) := by
  refine dx_ofiW (cc := cLw_drills) (maxL := 5) (hh := [(0, 17, 20, 21), (0, 17, 24, 13)]) (by decide) rfl (Nat.le_of_ble_eq_true rfl) ?_
  intro p e s m below meth c A Q ls ⟨hx, hb, hml, hown, hts⟩ hnm hA hW hK hZ hl htab hret
  have hS : va_S A s.heap s.heap [] := va_S.rf
  have hl : lv_has ls 5 [(0, .ref (ad 0)), (1, .int a0), (2, .int a1), (3, .ref (ad 200))] := hl
  refine lv_aload_n hx hb dLw_drills_0 rfl (lv_at hl 3 rfl) ?_
  refine lv_iconst (v := (nI 0)) hx hb dLw_drills_1 (by decide) ?_
  refine lv_aload_n hx hb dLw_drills_2 rfl (lv_at hl 0 rfl) ?_
  refine lv_iload_n hx hb dLw_drills_3 rfl (lv_at hl 1 rfl) ?_
  refine lv_iload_n hx hb dLw_drills_4 rfl (lv_at hl 2 rfl) ?_
  refine dx_callV (As := [.int a0, .int a1]) (rest := [.int (nI 0), .ref (ad 200)]) ⟨hx, hb, hml, hown, hts⟩ (hC _) (cwV 2 hts (dq_giV tw3_70 tw3_71 tw3_72 tw1_1 tw3_73) rfl rfl rfl (by decide +kernel) ⟨Nat.le_of_ble_eq_true rfl, Nat.le_of_ble_eq_true rfl⟩) (dq_preV (ci := 7) hW hS hA hK hZ o0 rfl rfl) rfl hl.1 rfl (lv_room (Nat.le_of_ble_eq_true rfl)) dLw_drills_5 ⟨Nat.le_of_ble_eq_true rfl, Nat.le_of_ble_eq_true rfl⟩ hS (dq_A.sub hW hS hA) (fun q9 E9 ce9 t9 H locs ht9 hal9 hX9 hz9 hk9 hS9 hce9 hcv9 hcl9 => ?_)
  obtain ⟨hE9, hW9, hK9⟩ := hX9
  rw [ht9] at hW9
  rw [hE9] at hcl9
  refine dx_catch (E := "java/lang/IllegalStateException") (pre := []) (x := (0, 17, 20, 21)) (post := [(0, 17, 24, 13)]) hown htab (fun _ h => absurd h List.not_mem_nil) ⟨⟨Nat.le_of_ble_eq_true rfl, Nat.le_of_ble_eq_true rfl, by decide⟩, "java/lang/IllegalStateException", (hts _ (List.mem_cons_of_mem _ tw2_231)), Cond.castable_spec (va_Nw.use (A := ([.ref (ad 0), .int a0, .int a1, .ref (ad 200)] : List Value).toArray) rfl hZ.c2)⟩ hce9 hcv9 hcl9 ?_
  have hW : dq_W D vwCl ad w A H := hW9.weaken (dq_A.sub hW hS hA)
  have hS := hS9
  refine lv_astore (lv' := [(4, .ref q9), (0, .ref (ad 0)), (1, .int a0), (2, .int a1), (3, .ref (ad 200))]) hx hb dLw_drills_20 hl (by decide) rfl (fun ls hl => ?_)
  refine lv_iconst (v := (1)) hx hb dLw_drills_22 (by decide) ?_
  exact hret _ _ _ _ _ _ ⟨rfl, rfl⟩ hW hS dLw_drills_23

set_option maxHeartbeats 4000000 in
set_option maxRecDepth 100000 in
/-- the helper of drills, thrown -/
theorem H_drills_2 (l : Launch) (D : va_G) (g : Nat → ClassId) (ad : Nat → Nat) (w : Nat → Option va_E) (sz : Nat) {fs0 : List Value} (o0 : w 0 = some (.inr (7, fs0))) (a0 a1 : Int32) (hC : ∀ sz : Nat, dx_M l yDH_drills wsDH_drills ({ frames := 8, cells := 1, slots := 6, locals := 136 } : Room) (va_Pc [.ref (ad 0), .int a0, .int a1] (dq_S D vwCl (dq_t g) ad w sz)) (dx_X D vwCl (dq_t g) ad w (dq_A ad w sz) (fun E => E = "java/lang/IndexOutOfBoundsException")) (dq_A ad w sz) 1 6) : Met l yLw_drills wsLw_drills ({ frames := 9, cells := 1, slots := 6, locals := 180 } : Room) (va_Pc [.ref (ad 0), .int a0, .int a1, .ref (ad 200)] (dq_S D vwCl (dq_t g) ad w sz)) (va_Qi (fun r u => r = 2 ∧ u = w) (dq_B D vwCl (dq_t g) ad (dq_A ad w sz)) (dq_A ad w sz)) 1 6 (dq_A ad w sz) := by
  refine dx_ofiW (cc := cLw_drills) (maxL := 5) (hh := [(0, 17, 20, 21), (0, 17, 24, 13)]) (by decide) rfl (Nat.le_of_ble_eq_true rfl) ?_
  intro p e s m below meth c A Q ls ⟨hx, hb, hml, hown, hts⟩ hnm hA hW hK hZ hl htab hret
  have hS : va_S A s.heap s.heap [] := va_S.rf
  have hl : lv_has ls 5 [(0, .ref (ad 0)), (1, .int a0), (2, .int a1), (3, .ref (ad 200))] := hl
  refine lv_aload_n hx hb dLw_drills_0 rfl (lv_at hl 3 rfl) ?_
  refine lv_iconst (v := (nI 0)) hx hb dLw_drills_1 (by decide) ?_
  refine lv_aload_n hx hb dLw_drills_2 rfl (lv_at hl 0 rfl) ?_
  refine lv_iload_n hx hb dLw_drills_3 rfl (lv_at hl 1 rfl) ?_
  refine lv_iload_n hx hb dLw_drills_4 rfl (lv_at hl 2 rfl) ?_
  refine dx_callV (As := [.int a0, .int a1]) (rest := [.int (nI 0), .ref (ad 200)]) ⟨hx, hb, hml, hown, hts⟩ (hC _) (cwV 2 hts (dq_giV tw3_70 tw3_71 tw3_72 tw1_1 tw3_73) rfl rfl rfl (by decide +kernel) ⟨Nat.le_of_ble_eq_true rfl, Nat.le_of_ble_eq_true rfl⟩) (dq_preV (ci := 7) hW hS hA hK hZ o0 rfl rfl) rfl hl.1 rfl (lv_room (Nat.le_of_ble_eq_true rfl)) dLw_drills_5 ⟨Nat.le_of_ble_eq_true rfl, Nat.le_of_ble_eq_true rfl⟩ hS (dq_A.sub hW hS hA) (fun q9 E9 ce9 t9 H locs ht9 hal9 hX9 hz9 hk9 hS9 hce9 hcv9 hcl9 => ?_)
  obtain ⟨hE9, hW9, hK9⟩ := hX9
  rw [ht9] at hW9
  rw [hE9] at hcl9
  refine dx_catch (E := "java/lang/IndexOutOfBoundsException") (pre := [(0, 17, 20, 21)]) (x := (0, 17, 24, 13)) (post := []) hown htab (List.forall_mem_cons.mpr ⟨⟨⟨Nat.le_of_ble_eq_true rfl, Nat.le_of_ble_eq_true rfl, by decide⟩, "java/lang/IllegalStateException", (hts _ (List.mem_cons_of_mem _ tw2_231)), hZ.x2⟩, (fun _ h => absurd h List.not_mem_nil)⟩) ⟨⟨Nat.le_of_ble_eq_true rfl, Nat.le_of_ble_eq_true rfl, by decide⟩, "java/lang/IndexOutOfBoundsException", (hts _ (List.mem_cons_of_mem _ tw2_122)), Cond.castable_spec (va_Nw.use (A := ([.ref (ad 0), .int a0, .int a1, .ref (ad 200)] : List Value).toArray) rfl hZ.c0)⟩ hce9 hcv9 hcl9 ?_
  have hW : dq_W D vwCl ad w A H := hW9.weaken (dq_A.sub hW hS hA)
  have hS := hS9
  refine lv_astore (lv' := [(4, .ref q9), (0, .ref (ad 0)), (1, .int a0), (2, .int a1), (3, .ref (ad 200))]) hx hb dLw_drills_24 hl (by decide) rfl (fun ls hl => ?_)
  refine lv_iconst (v := (2)) hx hb dLw_drills_26 (by decide) ?_
  exact hret _ _ _ _ _ _ ⟨rfl, rfl⟩ hW hS dLw_drills_27

set_option maxHeartbeats 4000000 in
set_option maxRecDepth 100000 in
/-- the helper of by -/
theorem H_by (l : Launch) (D : va_G) (g : Nat → ClassId) (ad : Nat → Nat) (w : Nat → Option va_E) (sz : Nat) {fs0 : List Value} (o0 : w 0 = some (.inr (7, fs0))) (a0 : Int32) {rr : Int32} {w1 : Nat → Option va_E} {o9 : Nat → Int64} (hC : ∀ sz : Nat, Met l yDH_by wsDH_by ({ frames := 8, cells := 0, slots := 0, locals := 136 } : Room) (va_Pc [.ref (ad 0), .int a0] (dq_S D vwCl (dq_t g) ad w sz)) (va_Qi (fun r u => r = rr ∧ u = w1) (dq_B D vwCl (dq_t g) ad (dq_A ad w sz)) (dq_A ad w sz)) 0 0 (dq_A ad w sz)) (o200 : w1 200 = some (.inl (g 2, 1, .inr (.inl o9)))) : Met l yLw_by wsLw_by ({ frames := 9, cells := 0, slots := 0, locals := 180 } : Room) (va_Pc [.ref (ad 0), .int a0, .ref (ad 200)] (dq_S D vwCl (dq_t g) ad w sz)) (va_Qi (fun r u => r = 0 ∧ u = dq_U w1 200 (.inl (g 2, 1, .inr (.inl (vp_updL o9 0 rr.toInt64))))) (dq_B D vwCl (dq_t g) ad (dq_A ad w sz)) (dq_A ad w sz)) 0 0 (dq_A ad w sz) := by
  refine dx_ofiW (cc := cLw_by) (maxL := 4) (hh := [(0, 9, 12, 21), (0, 9, 15, 13)]) (by decide) rfl (Nat.le_of_ble_eq_true rfl) ?_
  intro p e s m below meth c A Q ls ⟨hx, hb, hml, hown, hts⟩ hnm hA hW hK hZ hl htab hret
  have hS : va_S A s.heap s.heap [] := va_S.rf
  have hl : lv_has ls 4 [(0, .ref (ad 0)), (1, .int a0), (2, .ref (ad 200))] := hl
  refine lv_aload_n hx hb dLw_by_0 rfl (lv_at hl 2 rfl) ?_
  refine lv_iconst (v := (nI 0)) hx hb dLw_by_1 (by decide) ?_
  refine lv_aload_n hx hb dLw_by_2 rfl (lv_at hl 0 rfl) ?_
  refine lv_iload_n hx hb dLw_by_3 rfl (lv_at hl 1 rfl) ?_
  refine dq_calli (va_runV (As := [.int a0]) (rest := [.int (nI 0), .ref (ad 200)]) ⟨hx, hb, hml, hown, hts⟩ (hC _) (cwV 1 hts (dq_giV tw3_78 tw3_79 tw3_80 tw1_1 tw3_81) rfl rfl rfl (by decide +kernel) ⟨Nat.le_of_ble_eq_true rfl, Nat.le_of_ble_eq_true rfl⟩) (dq_preV (ci := 7) hW hS hA hK hZ o0 rfl rfl) rfl rfl hl.1 rfl (lv_room (Nat.le_of_ble_eq_true rfl)) dLw_by_4 ⟨Nat.zero_le _, Nat.zero_le _⟩) hW hS hA (fun r1 u_9 H locs hp1 hW hS hz9 => ?_)
  obtain ⟨h_r1, hu9⟩ := hp1
  rw [hu9] at hW
  rw [h_r1]
  refine lv_i2l hx hb dLw_by_7 rfl ?_
  refine dq_lastN hx hb hK hW hS 200 2 o200 rfl 0 (by omega) (by omega) dLw_by_8 (fun H locs hW hS => ?_)
  refine lv_goto (tgt := 18) hx hb dLw_by_9 (by decide) ?_
  refine lv_iconst (v := (0)) hx hb dLw_by_18 (by decide) ?_
  exact hret _ _ _ _ _ _ ⟨rfl, rfl⟩ hW hS dLw_by_19

set_option maxHeartbeats 4000000 in
set_option maxRecDepth 100000 in
/-- the helper of by, thrown -/
theorem H_by_1 (l : Launch) (D : va_G) (g : Nat → ClassId) (ad : Nat → Nat) (w : Nat → Option va_E) (sz : Nat) {fs0 : List Value} (o0 : w 0 = some (.inr (7, fs0))) (a0 : Int32) (hC : ∀ sz : Nat, dx_M l yDH_by wsDH_by ({ frames := 8, cells := 1, slots := 6, locals := 136 } : Room) (va_Pc [.ref (ad 0), .int a0] (dq_S D vwCl (dq_t g) ad w sz)) (dx_X D vwCl (dq_t g) ad w (dq_A ad w sz) (fun E => E = "java/lang/IllegalStateException")) (dq_A ad w sz) 1 6) : Met l yLw_by wsLw_by ({ frames := 9, cells := 1, slots := 6, locals := 180 } : Room) (va_Pc [.ref (ad 0), .int a0, .ref (ad 200)] (dq_S D vwCl (dq_t g) ad w sz)) (va_Qi (fun r u => r = 1 ∧ u = w) (dq_B D vwCl (dq_t g) ad (dq_A ad w sz)) (dq_A ad w sz)) 1 6 (dq_A ad w sz) := by
  refine dx_ofiW (cc := cLw_by) (maxL := 4) (hh := [(0, 9, 12, 21), (0, 9, 15, 13)]) (by decide) rfl (Nat.le_of_ble_eq_true rfl) ?_
  intro p e s m below meth c A Q ls ⟨hx, hb, hml, hown, hts⟩ hnm hA hW hK hZ hl htab hret
  have hS : va_S A s.heap s.heap [] := va_S.rf
  have hl : lv_has ls 4 [(0, .ref (ad 0)), (1, .int a0), (2, .ref (ad 200))] := hl
  refine lv_aload_n hx hb dLw_by_0 rfl (lv_at hl 2 rfl) ?_
  refine lv_iconst (v := (nI 0)) hx hb dLw_by_1 (by decide) ?_
  refine lv_aload_n hx hb dLw_by_2 rfl (lv_at hl 0 rfl) ?_
  refine lv_iload_n hx hb dLw_by_3 rfl (lv_at hl 1 rfl) ?_
  refine dx_callV (As := [.int a0]) (rest := [.int (nI 0), .ref (ad 200)]) ⟨hx, hb, hml, hown, hts⟩ (hC _) (cwV 1 hts (dq_giV tw3_78 tw3_79 tw3_80 tw1_1 tw3_81) rfl rfl rfl (by decide +kernel) ⟨Nat.le_of_ble_eq_true rfl, Nat.le_of_ble_eq_true rfl⟩) (dq_preV (ci := 7) hW hS hA hK hZ o0 rfl rfl) rfl hl.1 rfl (lv_room (Nat.le_of_ble_eq_true rfl)) dLw_by_4 ⟨Nat.le_of_ble_eq_true rfl, Nat.le_of_ble_eq_true rfl⟩ hS (dq_A.sub hW hS hA) (fun q9 E9 ce9 t9 H locs ht9 hal9 hX9 hz9 hk9 hS9 hce9 hcv9 hcl9 => ?_)
  obtain ⟨hE9, hW9, hK9⟩ := hX9
  rw [ht9] at hW9
  rw [hE9] at hcl9
  refine dx_catch (E := "java/lang/IllegalStateException") (pre := []) (x := (0, 9, 12, 21)) (post := [(0, 9, 15, 13)]) hown htab (fun _ h => absurd h List.not_mem_nil) ⟨⟨Nat.le_of_ble_eq_true rfl, Nat.le_of_ble_eq_true rfl, by decide⟩, "java/lang/IllegalStateException", (hts _ (List.mem_cons_of_mem _ tw2_231)), Cond.castable_spec (va_Nw.use (A := ([.ref (ad 0), .int a0, .ref (ad 200)] : List Value).toArray) rfl hZ.c2)⟩ hce9 hcv9 hcl9 ?_
  have hW : dq_W D vwCl ad w A H := hW9.weaken (dq_A.sub hW hS hA)
  have hS := hS9
  refine lv_astore_n (lv' := [(3, .ref q9), (0, .ref (ad 0)), (1, .int a0), (2, .ref (ad 200))]) hx hb dLw_by_12 rfl hl (by decide) rfl (fun ls hl => ?_)
  refine lv_iconst (v := (1)) hx hb dLw_by_13 (by decide) ?_
  exact hret _ _ _ _ _ _ ⟨rfl, rfl⟩ hW hS dLw_by_14

set_option maxHeartbeats 4000000 in
set_option maxRecDepth 100000 in
/-- the helper of by, thrown -/
theorem H_by_2 (l : Launch) (D : va_G) (g : Nat → ClassId) (ad : Nat → Nat) (w : Nat → Option va_E) (sz : Nat) {fs0 : List Value} (o0 : w 0 = some (.inr (7, fs0))) (a0 : Int32) (hC : ∀ sz : Nat, dx_M l yDH_by wsDH_by ({ frames := 8, cells := 1, slots := 6, locals := 136 } : Room) (va_Pc [.ref (ad 0), .int a0] (dq_S D vwCl (dq_t g) ad w sz)) (dx_X D vwCl (dq_t g) ad w (dq_A ad w sz) (fun E => E = "java/lang/IndexOutOfBoundsException")) (dq_A ad w sz) 1 6) : Met l yLw_by wsLw_by ({ frames := 9, cells := 1, slots := 6, locals := 180 } : Room) (va_Pc [.ref (ad 0), .int a0, .ref (ad 200)] (dq_S D vwCl (dq_t g) ad w sz)) (va_Qi (fun r u => r = 2 ∧ u = w) (dq_B D vwCl (dq_t g) ad (dq_A ad w sz)) (dq_A ad w sz)) 1 6 (dq_A ad w sz) := by
  refine dx_ofiW (cc := cLw_by) (maxL := 4) (hh := [(0, 9, 12, 21), (0, 9, 15, 13)]) (by decide) rfl (Nat.le_of_ble_eq_true rfl) ?_
  intro p e s m below meth c A Q ls ⟨hx, hb, hml, hown, hts⟩ hnm hA hW hK hZ hl htab hret
  have hS : va_S A s.heap s.heap [] := va_S.rf
  have hl : lv_has ls 4 [(0, .ref (ad 0)), (1, .int a0), (2, .ref (ad 200))] := hl
  refine lv_aload_n hx hb dLw_by_0 rfl (lv_at hl 2 rfl) ?_
  refine lv_iconst (v := (nI 0)) hx hb dLw_by_1 (by decide) ?_
  refine lv_aload_n hx hb dLw_by_2 rfl (lv_at hl 0 rfl) ?_
  refine lv_iload_n hx hb dLw_by_3 rfl (lv_at hl 1 rfl) ?_
  refine dx_callV (As := [.int a0]) (rest := [.int (nI 0), .ref (ad 200)]) ⟨hx, hb, hml, hown, hts⟩ (hC _) (cwV 1 hts (dq_giV tw3_78 tw3_79 tw3_80 tw1_1 tw3_81) rfl rfl rfl (by decide +kernel) ⟨Nat.le_of_ble_eq_true rfl, Nat.le_of_ble_eq_true rfl⟩) (dq_preV (ci := 7) hW hS hA hK hZ o0 rfl rfl) rfl hl.1 rfl (lv_room (Nat.le_of_ble_eq_true rfl)) dLw_by_4 ⟨Nat.le_of_ble_eq_true rfl, Nat.le_of_ble_eq_true rfl⟩ hS (dq_A.sub hW hS hA) (fun q9 E9 ce9 t9 H locs ht9 hal9 hX9 hz9 hk9 hS9 hce9 hcv9 hcl9 => ?_)
  obtain ⟨hE9, hW9, hK9⟩ := hX9
  rw [ht9] at hW9
  rw [hE9] at hcl9
  refine dx_catch (E := "java/lang/IndexOutOfBoundsException") (pre := [(0, 9, 12, 21)]) (x := (0, 9, 15, 13)) (post := []) hown htab (List.forall_mem_cons.mpr ⟨⟨⟨Nat.le_of_ble_eq_true rfl, Nat.le_of_ble_eq_true rfl, by decide⟩, "java/lang/IllegalStateException", (hts _ (List.mem_cons_of_mem _ tw2_231)), hZ.x2⟩, (fun _ h => absurd h List.not_mem_nil)⟩) ⟨⟨Nat.le_of_ble_eq_true rfl, Nat.le_of_ble_eq_true rfl, by decide⟩, "java/lang/IndexOutOfBoundsException", (hts _ (List.mem_cons_of_mem _ tw2_122)), Cond.castable_spec (va_Nw.use (A := ([.ref (ad 0), .int a0, .ref (ad 200)] : List Value).toArray) rfl hZ.c0)⟩ hce9 hcv9 hcl9 ?_
  have hW : dq_W D vwCl ad w A H := hW9.weaken (dq_A.sub hW hS hA)
  have hS := hS9
  refine lv_astore_n (lv' := [(3, .ref q9), (0, .ref (ad 0)), (1, .int a0), (2, .ref (ad 200))]) hx hb dLw_by_15 rfl hl (by decide) rfl (fun ls hl => ?_)
  refine lv_iconst (v := (2)) hx hb dLw_by_16 (by decide) ?_
  exact hret _ _ _ _ _ _ ⟨rfl, rfl⟩ hW hS dLw_by_17

set_option maxHeartbeats 4000000 in
set_option maxRecDepth 100000 in
/-- the helper of single -/
theorem H_single (l : Launch) (D : va_G) (g : Nat → ClassId) (ad : Nat → Nat) (w : Nat → Option va_E) (sz : Nat) {fs0 : List Value} (o0 : w 0 = some (.inr (7, fs0))) (a0 : Int32) {rr : Int32} {w1 : Nat → Option va_E} {o9 : Nat → Int64} (hC : ∀ sz : Nat, Met l yDH_single wsDH_single ({ frames := 8, cells := 0, slots := 0, locals := 136 } : Room) (va_Pc [.ref (ad 0), .int a0] (dq_S D vwCl (dq_t g) ad w sz)) (va_Qi (fun r u => r = rr ∧ u = w1) (dq_B D vwCl (dq_t g) ad (dq_A ad w sz)) (dq_A ad w sz)) 0 0 (dq_A ad w sz)) (o200 : w1 200 = some (.inl (g 2, 1, .inr (.inl o9)))) : Met l yLw_single wsLw_single ({ frames := 9, cells := 0, slots := 0, locals := 180 } : Room) (va_Pc [.ref (ad 0), .int a0, .ref (ad 200)] (dq_S D vwCl (dq_t g) ad w sz)) (va_Qi (fun r u => r = 0 ∧ u = dq_U w1 200 (.inl (g 2, 1, .inr (.inl (vp_updL o9 0 (if rr = 0 then 0 else 1)))))) (dq_B D vwCl (dq_t g) ad (dq_A ad w sz)) (dq_A ad w sz)) 0 0 (dq_A ad w sz) := by
  refine dx_ofiW (cc := cLw_single) (maxL := 4) (hh := [(0, 16, 19, 21), (0, 16, 22, 13)]) (by decide) rfl (Nat.le_of_ble_eq_true rfl) ?_
  intro p e s m below meth c A Q ls ⟨hx, hb, hml, hown, hts⟩ hnm hA hW hK hZ hl htab hret
  have hS : va_S A s.heap s.heap [] := va_S.rf
  have hl : lv_has ls 4 [(0, .ref (ad 0)), (1, .int a0), (2, .ref (ad 200))] := hl
  refine lv_aload_n hx hb dLw_single_0 rfl (lv_at hl 2 rfl) ?_
  refine lv_iconst (v := (nI 0)) hx hb dLw_single_1 (by decide) ?_
  refine lv_aload_n hx hb dLw_single_2 rfl (lv_at hl 0 rfl) ?_
  refine lv_iload_n hx hb dLw_single_3 rfl (lv_at hl 1 rfl) ?_
  refine dq_calli (va_runV (As := [.int a0]) (rest := [.int (nI 0), .ref (ad 200)]) ⟨hx, hb, hml, hown, hts⟩ (hC _) (cwV 1 hts (dq_giV tw3_91 tw3_92 tw3_93 tw1_1 tw3_94) rfl rfl rfl (by decide +kernel) ⟨Nat.le_of_ble_eq_true rfl, Nat.le_of_ble_eq_true rfl⟩) (dq_preV (ci := 7) hW hS hA hK hZ o0 rfl rfl) rfl rfl hl.1 rfl (lv_room (Nat.le_of_ble_eq_true rfl)) dLw_single_4 ⟨Nat.zero_le _, Nat.zero_le _⟩) hW hS hA (fun r1 u_9 H locs hp1 hW hS hz9 => ?_)
  obtain ⟨h_r1, hu9⟩ := hp1
  rw [hu9] at hW
  rw [h_r1]
  refine lv_if_eq (tgt := 14) hx hb dLw_single_7 (by decide) (fun c1 => ?_) (fun c1 => ?_)
  · refine lv_lconst (v := 0) hx hb dLw_single_14 (by decide) ?_
    refine dq_lastN hx hb hK hW hS 200 2 o200 rfl 0 (by omega) (by omega) dLw_single_15 (fun H locs hW hS => ?_)
    refine lv_goto (tgt := 25) hx hb dLw_single_16 (by decide) ?_
    refine lv_iconst (v := (0)) hx hb dLw_single_25 (by decide) ?_
    exact hret _ _ _ _ _ _ ⟨rfl, by rw [if_pos c1]⟩ hW hS dLw_single_26
  · refine lv_lconst (v := 1) hx hb dLw_single_10 (by decide) ?_
    refine lv_goto (tgt := 15) hx hb dLw_single_11 (by decide) ?_
    refine dq_lastN hx hb hK hW hS 200 2 o200 rfl 0 (by omega) (by omega) dLw_single_15 (fun H locs hW hS => ?_)
    refine lv_goto (tgt := 25) hx hb dLw_single_16 (by decide) ?_
    refine lv_iconst (v := (0)) hx hb dLw_single_25 (by decide) ?_
    exact hret _ _ _ _ _ _ ⟨rfl, by rw [if_neg c1]⟩ hW hS dLw_single_26

set_option maxHeartbeats 4000000 in
set_option maxRecDepth 100000 in
/-- the helper of single, thrown -/
theorem H_single_1 (l : Launch) (D : va_G) (g : Nat → ClassId) (ad : Nat → Nat) (w : Nat → Option va_E) (sz : Nat) {fs0 : List Value} (o0 : w 0 = some (.inr (7, fs0))) (a0 : Int32) (hC : ∀ sz : Nat, dx_M l yDH_single wsDH_single ({ frames := 8, cells := 1, slots := 6, locals := 136 } : Room) (va_Pc [.ref (ad 0), .int a0] (dq_S D vwCl (dq_t g) ad w sz)) (dx_X D vwCl (dq_t g) ad w (dq_A ad w sz) (fun E => E = "java/lang/IllegalStateException")) (dq_A ad w sz) 1 6) : Met l yLw_single wsLw_single ({ frames := 9, cells := 1, slots := 6, locals := 180 } : Room) (va_Pc [.ref (ad 0), .int a0, .ref (ad 200)] (dq_S D vwCl (dq_t g) ad w sz)) (va_Qi (fun r u => r = 1 ∧ u = w) (dq_B D vwCl (dq_t g) ad (dq_A ad w sz)) (dq_A ad w sz)) 1 6 (dq_A ad w sz) := by
  refine dx_ofiW (cc := cLw_single) (maxL := 4) (hh := [(0, 16, 19, 21), (0, 16, 22, 13)]) (by decide) rfl (Nat.le_of_ble_eq_true rfl) ?_
  intro p e s m below meth c A Q ls ⟨hx, hb, hml, hown, hts⟩ hnm hA hW hK hZ hl htab hret
  have hS : va_S A s.heap s.heap [] := va_S.rf
  have hl : lv_has ls 4 [(0, .ref (ad 0)), (1, .int a0), (2, .ref (ad 200))] := hl
  refine lv_aload_n hx hb dLw_single_0 rfl (lv_at hl 2 rfl) ?_
  refine lv_iconst (v := (nI 0)) hx hb dLw_single_1 (by decide) ?_
  refine lv_aload_n hx hb dLw_single_2 rfl (lv_at hl 0 rfl) ?_
  refine lv_iload_n hx hb dLw_single_3 rfl (lv_at hl 1 rfl) ?_
  refine dx_callV (As := [.int a0]) (rest := [.int (nI 0), .ref (ad 200)]) ⟨hx, hb, hml, hown, hts⟩ (hC _) (cwV 1 hts (dq_giV tw3_91 tw3_92 tw3_93 tw1_1 tw3_94) rfl rfl rfl (by decide +kernel) ⟨Nat.le_of_ble_eq_true rfl, Nat.le_of_ble_eq_true rfl⟩) (dq_preV (ci := 7) hW hS hA hK hZ o0 rfl rfl) rfl hl.1 rfl (lv_room (Nat.le_of_ble_eq_true rfl)) dLw_single_4 ⟨Nat.le_of_ble_eq_true rfl, Nat.le_of_ble_eq_true rfl⟩ hS (dq_A.sub hW hS hA) (fun q9 E9 ce9 t9 H locs ht9 hal9 hX9 hz9 hk9 hS9 hce9 hcv9 hcl9 => ?_)
  obtain ⟨hE9, hW9, hK9⟩ := hX9
  rw [ht9] at hW9
  rw [hE9] at hcl9
  refine dx_catch (E := "java/lang/IllegalStateException") (pre := []) (x := (0, 16, 19, 21)) (post := [(0, 16, 22, 13)]) hown htab (fun _ h => absurd h List.not_mem_nil) ⟨⟨Nat.le_of_ble_eq_true rfl, Nat.le_of_ble_eq_true rfl, by decide⟩, "java/lang/IllegalStateException", (hts _ (List.mem_cons_of_mem _ tw2_231)), Cond.castable_spec (va_Nw.use (A := ([.ref (ad 0), .int a0, .ref (ad 200)] : List Value).toArray) rfl hZ.c2)⟩ hce9 hcv9 hcl9 ?_
  have hW : dq_W D vwCl ad w A H := hW9.weaken (dq_A.sub hW hS hA)
  have hS := hS9
  refine lv_astore_n (lv' := [(3, .ref q9), (0, .ref (ad 0)), (1, .int a0), (2, .ref (ad 200))]) hx hb dLw_single_19 rfl hl (by decide) rfl (fun ls hl => ?_)
  refine lv_iconst (v := (1)) hx hb dLw_single_20 (by decide) ?_
  exact hret _ _ _ _ _ _ ⟨rfl, rfl⟩ hW hS dLw_single_21

set_option maxHeartbeats 4000000 in
set_option maxRecDepth 100000 in
/-- the helper of single, thrown -/
theorem H_single_2 (l : Launch) (D : va_G) (g : Nat → ClassId) (ad : Nat → Nat) (w : Nat → Option va_E) (sz : Nat) {fs0 : List Value} (o0 : w 0 = some (.inr (7, fs0))) (a0 : Int32) (hC : ∀ sz : Nat, dx_M l yDH_single wsDH_single ({ frames := 8, cells := 1, slots := 6, locals := 136 } : Room) (va_Pc [.ref (ad 0), .int a0] (dq_S D vwCl (dq_t g) ad w sz)) (dx_X D vwCl (dq_t g) ad w (dq_A ad w sz) (fun E => E = "java/lang/IndexOutOfBoundsException")) (dq_A ad w sz) 1 6) : Met l yLw_single wsLw_single ({ frames := 9, cells := 1, slots := 6, locals := 180 } : Room) (va_Pc [.ref (ad 0), .int a0, .ref (ad 200)] (dq_S D vwCl (dq_t g) ad w sz)) (va_Qi (fun r u => r = 2 ∧ u = w) (dq_B D vwCl (dq_t g) ad (dq_A ad w sz)) (dq_A ad w sz)) 1 6 (dq_A ad w sz) := by
  refine dx_ofiW (cc := cLw_single) (maxL := 4) (hh := [(0, 16, 19, 21), (0, 16, 22, 13)]) (by decide) rfl (Nat.le_of_ble_eq_true rfl) ?_
  intro p e s m below meth c A Q ls ⟨hx, hb, hml, hown, hts⟩ hnm hA hW hK hZ hl htab hret
  have hS : va_S A s.heap s.heap [] := va_S.rf
  have hl : lv_has ls 4 [(0, .ref (ad 0)), (1, .int a0), (2, .ref (ad 200))] := hl
  refine lv_aload_n hx hb dLw_single_0 rfl (lv_at hl 2 rfl) ?_
  refine lv_iconst (v := (nI 0)) hx hb dLw_single_1 (by decide) ?_
  refine lv_aload_n hx hb dLw_single_2 rfl (lv_at hl 0 rfl) ?_
  refine lv_iload_n hx hb dLw_single_3 rfl (lv_at hl 1 rfl) ?_
  refine dx_callV (As := [.int a0]) (rest := [.int (nI 0), .ref (ad 200)]) ⟨hx, hb, hml, hown, hts⟩ (hC _) (cwV 1 hts (dq_giV tw3_91 tw3_92 tw3_93 tw1_1 tw3_94) rfl rfl rfl (by decide +kernel) ⟨Nat.le_of_ble_eq_true rfl, Nat.le_of_ble_eq_true rfl⟩) (dq_preV (ci := 7) hW hS hA hK hZ o0 rfl rfl) rfl hl.1 rfl (lv_room (Nat.le_of_ble_eq_true rfl)) dLw_single_4 ⟨Nat.le_of_ble_eq_true rfl, Nat.le_of_ble_eq_true rfl⟩ hS (dq_A.sub hW hS hA) (fun q9 E9 ce9 t9 H locs ht9 hal9 hX9 hz9 hk9 hS9 hce9 hcv9 hcl9 => ?_)
  obtain ⟨hE9, hW9, hK9⟩ := hX9
  rw [ht9] at hW9
  rw [hE9] at hcl9
  refine dx_catch (E := "java/lang/IndexOutOfBoundsException") (pre := [(0, 16, 19, 21)]) (x := (0, 16, 22, 13)) (post := []) hown htab (List.forall_mem_cons.mpr ⟨⟨⟨Nat.le_of_ble_eq_true rfl, Nat.le_of_ble_eq_true rfl, by decide⟩, "java/lang/IllegalStateException", (hts _ (List.mem_cons_of_mem _ tw2_231)), hZ.x2⟩, (fun _ h => absurd h List.not_mem_nil)⟩) ⟨⟨Nat.le_of_ble_eq_true rfl, Nat.le_of_ble_eq_true rfl, by decide⟩, "java/lang/IndexOutOfBoundsException", (hts _ (List.mem_cons_of_mem _ tw2_122)), Cond.castable_spec (va_Nw.use (A := ([.ref (ad 0), .int a0, .ref (ad 200)] : List Value).toArray) rfl hZ.c0)⟩ hce9 hcv9 hcl9 ?_
  have hW : dq_W D vwCl ad w A H := hW9.weaken (dq_A.sub hW hS hA)
  have hS := hS9
  refine lv_astore_n (lv' := [(3, .ref q9), (0, .ref (ad 0)), (1, .int a0), (2, .ref (ad 200))]) hx hb dLw_single_22 rfl hl (by decide) rfl (fun ls hl => ?_)
  refine lv_iconst (v := (2)) hx hb dLw_single_23 (by decide) ?_
  exact hret _ _ _ _ _ _ ⟨rfl, rfl⟩ hW hS dLw_single_24

set_option maxHeartbeats 4000000 in
set_option maxRecDepth 100000 in
/-- the helper of order -/
theorem H_order (l : Launch) (D : va_G) (g : Nat → ClassId) (ad : Nat → Nat) (w : Nat → Option va_E) (sz : Nat) {fs0 : List Value} (o0 : w 0 = some (.inr (7, fs0))) (a0 : Int32) {rr : Int32} {w1 : Nat → Option va_E} {o9 : Nat → Int64} (hC : ∀ sz : Nat, Met l yDH_order wsDH_order ({ frames := 8, cells := 0, slots := 0, locals := 136 } : Room) (va_Pc [.ref (ad 0), .int a0] (dq_S D vwCl (dq_t g) ad w sz)) (va_Qi (fun r u => r = rr ∧ u = w1) (dq_B D vwCl (dq_t g) ad (dq_A ad w sz)) (dq_A ad w sz)) 0 0 (dq_A ad w sz)) (o200 : w1 200 = some (.inl (g 2, 1, .inr (.inl o9)))) : Met l yLw_order wsLw_order ({ frames := 9, cells := 0, slots := 0, locals := 180 } : Room) (va_Pc [.ref (ad 0), .int a0, .ref (ad 200)] (dq_S D vwCl (dq_t g) ad w sz)) (va_Qi (fun r u => r = 0 ∧ u = dq_U w1 200 (.inl (g 2, 1, .inr (.inl (vp_updL o9 0 rr.toInt64))))) (dq_B D vwCl (dq_t g) ad (dq_A ad w sz)) (dq_A ad w sz)) 0 0 (dq_A ad w sz) := by
  refine dx_ofiW (cc := cLw_order) (maxL := 4) (hh := [(0, 9, 12, 21), (0, 9, 15, 13)]) (by decide) rfl (Nat.le_of_ble_eq_true rfl) ?_
  intro p e s m below meth c A Q ls ⟨hx, hb, hml, hown, hts⟩ hnm hA hW hK hZ hl htab hret
  have hS : va_S A s.heap s.heap [] := va_S.rf
  have hl : lv_has ls 4 [(0, .ref (ad 0)), (1, .int a0), (2, .ref (ad 200))] := hl
  refine lv_aload_n hx hb dLw_order_0 rfl (lv_at hl 2 rfl) ?_
  refine lv_iconst (v := (nI 0)) hx hb dLw_order_1 (by decide) ?_
  refine lv_aload_n hx hb dLw_order_2 rfl (lv_at hl 0 rfl) ?_
  refine lv_iload_n hx hb dLw_order_3 rfl (lv_at hl 1 rfl) ?_
  refine dq_calli (va_runV (As := [.int a0]) (rest := [.int (nI 0), .ref (ad 200)]) ⟨hx, hb, hml, hown, hts⟩ (hC _) (cwV 1 hts (dq_giV tw3_98 tw3_99 tw3_100 tw1_1 tw3_101) rfl rfl rfl (by decide +kernel) ⟨Nat.le_of_ble_eq_true rfl, Nat.le_of_ble_eq_true rfl⟩) (dq_preV (ci := 7) hW hS hA hK hZ o0 rfl rfl) rfl rfl hl.1 rfl (lv_room (Nat.le_of_ble_eq_true rfl)) dLw_order_4 ⟨Nat.zero_le _, Nat.zero_le _⟩) hW hS hA (fun r1 u_9 H locs hp1 hW hS hz9 => ?_)
  obtain ⟨h_r1, hu9⟩ := hp1
  rw [hu9] at hW
  rw [h_r1]
  refine lv_i2l hx hb dLw_order_7 rfl ?_
  refine dq_lastN hx hb hK hW hS 200 2 o200 rfl 0 (by omega) (by omega) dLw_order_8 (fun H locs hW hS => ?_)
  refine lv_goto (tgt := 18) hx hb dLw_order_9 (by decide) ?_
  refine lv_iconst (v := (0)) hx hb dLw_order_18 (by decide) ?_
  exact hret _ _ _ _ _ _ ⟨rfl, rfl⟩ hW hS dLw_order_19

set_option maxHeartbeats 4000000 in
set_option maxRecDepth 100000 in
/-- the helper of order, thrown -/
theorem H_order_1 (l : Launch) (D : va_G) (g : Nat → ClassId) (ad : Nat → Nat) (w : Nat → Option va_E) (sz : Nat) {fs0 : List Value} (o0 : w 0 = some (.inr (7, fs0))) (a0 : Int32) (hC : ∀ sz : Nat, dx_M l yDH_order wsDH_order ({ frames := 8, cells := 1, slots := 6, locals := 136 } : Room) (va_Pc [.ref (ad 0), .int a0] (dq_S D vwCl (dq_t g) ad w sz)) (dx_X D vwCl (dq_t g) ad w (dq_A ad w sz) (fun E => E = "java/lang/IllegalStateException")) (dq_A ad w sz) 1 6) : Met l yLw_order wsLw_order ({ frames := 9, cells := 1, slots := 6, locals := 180 } : Room) (va_Pc [.ref (ad 0), .int a0, .ref (ad 200)] (dq_S D vwCl (dq_t g) ad w sz)) (va_Qi (fun r u => r = 1 ∧ u = w) (dq_B D vwCl (dq_t g) ad (dq_A ad w sz)) (dq_A ad w sz)) 1 6 (dq_A ad w sz) := by
  refine dx_ofiW (cc := cLw_order) (maxL := 4) (hh := [(0, 9, 12, 21), (0, 9, 15, 13)]) (by decide) rfl (Nat.le_of_ble_eq_true rfl) ?_
  intro p e s m below meth c A Q ls ⟨hx, hb, hml, hown, hts⟩ hnm hA hW hK hZ hl htab hret
  have hS : va_S A s.heap s.heap [] := va_S.rf
  have hl : lv_has ls 4 [(0, .ref (ad 0)), (1, .int a0), (2, .ref (ad 200))] := hl
  refine lv_aload_n hx hb dLw_order_0 rfl (lv_at hl 2 rfl) ?_
  refine lv_iconst (v := (nI 0)) hx hb dLw_order_1 (by decide) ?_
  refine lv_aload_n hx hb dLw_order_2 rfl (lv_at hl 0 rfl) ?_
  refine lv_iload_n hx hb dLw_order_3 rfl (lv_at hl 1 rfl) ?_
  refine dx_callV (As := [.int a0]) (rest := [.int (nI 0), .ref (ad 200)]) ⟨hx, hb, hml, hown, hts⟩ (hC _) (cwV 1 hts (dq_giV tw3_98 tw3_99 tw3_100 tw1_1 tw3_101) rfl rfl rfl (by decide +kernel) ⟨Nat.le_of_ble_eq_true rfl, Nat.le_of_ble_eq_true rfl⟩) (dq_preV (ci := 7) hW hS hA hK hZ o0 rfl rfl) rfl hl.1 rfl (lv_room (Nat.le_of_ble_eq_true rfl)) dLw_order_4 ⟨Nat.le_of_ble_eq_true rfl, Nat.le_of_ble_eq_true rfl⟩ hS (dq_A.sub hW hS hA) (fun q9 E9 ce9 t9 H locs ht9 hal9 hX9 hz9 hk9 hS9 hce9 hcv9 hcl9 => ?_)
  obtain ⟨hE9, hW9, hK9⟩ := hX9
  rw [ht9] at hW9
  rw [hE9] at hcl9
  refine dx_catch (E := "java/lang/IllegalStateException") (pre := []) (x := (0, 9, 12, 21)) (post := [(0, 9, 15, 13)]) hown htab (fun _ h => absurd h List.not_mem_nil) ⟨⟨Nat.le_of_ble_eq_true rfl, Nat.le_of_ble_eq_true rfl, by decide⟩, "java/lang/IllegalStateException", (hts _ (List.mem_cons_of_mem _ tw2_231)), Cond.castable_spec (va_Nw.use (A := ([.ref (ad 0), .int a0, .ref (ad 200)] : List Value).toArray) rfl hZ.c2)⟩ hce9 hcv9 hcl9 ?_
  have hW : dq_W D vwCl ad w A H := hW9.weaken (dq_A.sub hW hS hA)
  have hS := hS9
  refine lv_astore_n (lv' := [(3, .ref q9), (0, .ref (ad 0)), (1, .int a0), (2, .ref (ad 200))]) hx hb dLw_order_12 rfl hl (by decide) rfl (fun ls hl => ?_)
  refine lv_iconst (v := (1)) hx hb dLw_order_13 (by decide) ?_
  exact hret _ _ _ _ _ _ ⟨rfl, rfl⟩ hW hS dLw_order_14

set_option maxHeartbeats 4000000 in
set_option maxRecDepth 100000 in
/-- the helper of order, thrown -/
theorem H_order_2 (l : Launch) (D : va_G) (g : Nat → ClassId) (ad : Nat → Nat) (w : Nat → Option va_E) (sz : Nat) {fs0 : List Value} (o0 : w 0 = some (.inr (7, fs0))) (a0 : Int32) (hC : ∀ sz : Nat, dx_M l yDH_order wsDH_order ({ frames := 8, cells := 1, slots := 6, locals := 136 } : Room) (va_Pc [.ref (ad 0), .int a0] (dq_S D vwCl (dq_t g) ad w sz)) (dx_X D vwCl (dq_t g) ad w (dq_A ad w sz) (fun E => E = "java/lang/IndexOutOfBoundsException")) (dq_A ad w sz) 1 6) : Met l yLw_order wsLw_order ({ frames := 9, cells := 1, slots := 6, locals := 180 } : Room) (va_Pc [.ref (ad 0), .int a0, .ref (ad 200)] (dq_S D vwCl (dq_t g) ad w sz)) (va_Qi (fun r u => r = 2 ∧ u = w) (dq_B D vwCl (dq_t g) ad (dq_A ad w sz)) (dq_A ad w sz)) 1 6 (dq_A ad w sz) := by
  refine dx_ofiW (cc := cLw_order) (maxL := 4) (hh := [(0, 9, 12, 21), (0, 9, 15, 13)]) (by decide) rfl (Nat.le_of_ble_eq_true rfl) ?_
  intro p e s m below meth c A Q ls ⟨hx, hb, hml, hown, hts⟩ hnm hA hW hK hZ hl htab hret
  have hS : va_S A s.heap s.heap [] := va_S.rf
  have hl : lv_has ls 4 [(0, .ref (ad 0)), (1, .int a0), (2, .ref (ad 200))] := hl
  refine lv_aload_n hx hb dLw_order_0 rfl (lv_at hl 2 rfl) ?_
  refine lv_iconst (v := (nI 0)) hx hb dLw_order_1 (by decide) ?_
  refine lv_aload_n hx hb dLw_order_2 rfl (lv_at hl 0 rfl) ?_
  refine lv_iload_n hx hb dLw_order_3 rfl (lv_at hl 1 rfl) ?_
  refine dx_callV (As := [.int a0]) (rest := [.int (nI 0), .ref (ad 200)]) ⟨hx, hb, hml, hown, hts⟩ (hC _) (cwV 1 hts (dq_giV tw3_98 tw3_99 tw3_100 tw1_1 tw3_101) rfl rfl rfl (by decide +kernel) ⟨Nat.le_of_ble_eq_true rfl, Nat.le_of_ble_eq_true rfl⟩) (dq_preV (ci := 7) hW hS hA hK hZ o0 rfl rfl) rfl hl.1 rfl (lv_room (Nat.le_of_ble_eq_true rfl)) dLw_order_4 ⟨Nat.le_of_ble_eq_true rfl, Nat.le_of_ble_eq_true rfl⟩ hS (dq_A.sub hW hS hA) (fun q9 E9 ce9 t9 H locs ht9 hal9 hX9 hz9 hk9 hS9 hce9 hcv9 hcl9 => ?_)
  obtain ⟨hE9, hW9, hK9⟩ := hX9
  rw [ht9] at hW9
  rw [hE9] at hcl9
  refine dx_catch (E := "java/lang/IndexOutOfBoundsException") (pre := [(0, 9, 12, 21)]) (x := (0, 9, 15, 13)) (post := []) hown htab (List.forall_mem_cons.mpr ⟨⟨⟨Nat.le_of_ble_eq_true rfl, Nat.le_of_ble_eq_true rfl, by decide⟩, "java/lang/IllegalStateException", (hts _ (List.mem_cons_of_mem _ tw2_231)), hZ.x2⟩, (fun _ h => absurd h List.not_mem_nil)⟩) ⟨⟨Nat.le_of_ble_eq_true rfl, Nat.le_of_ble_eq_true rfl, by decide⟩, "java/lang/IndexOutOfBoundsException", (hts _ (List.mem_cons_of_mem _ tw2_122)), Cond.castable_spec (va_Nw.use (A := ([.ref (ad 0), .int a0, .ref (ad 200)] : List Value).toArray) rfl hZ.c0)⟩ hce9 hcv9 hcl9 ?_
  have hW : dq_W D vwCl ad w A H := hW9.weaken (dq_A.sub hW hS hA)
  have hS := hS9
  refine lv_astore_n (lv' := [(3, .ref q9), (0, .ref (ad 0)), (1, .int a0), (2, .ref (ad 200))]) hx hb dLw_order_15 rfl hl (by decide) rfl (fun ls hl => ?_)
  refine lv_iconst (v := (2)) hx hb dLw_order_16 (by decide) ?_
  exact hret _ _ _ _ _ _ ⟨rfl, rfl⟩ hW hS dLw_order_17

set_option maxHeartbeats 4000000 in
set_option maxRecDepth 100000 in
/-- the helper of travel -/
theorem H_travel (l : Launch) (D : va_G) (g : Nat → ClassId) (ad : Nat → Nat) (w : Nat → Option va_E) (sz : Nat) {fs0 : List Value} (o0 : w 0 = some (.inr (7, fs0))) {rr : Int64} {w1 : Nat → Option va_E} {o9 : Nat → Int64} (hC : ∀ sz : Nat, Met l yDH_travel wsDH_travel ({ frames := 8, cells := 0, slots := 0, locals := 136 } : Room) (va_Pc [.ref (ad 0)] (dq_S D vwCl (dq_t g) ad w sz)) (va_Ql (fun r u => r = rr ∧ u = w1) (dq_B D vwCl (dq_t g) ad (dq_A ad w sz)) (dq_A ad w sz)) 0 0 (dq_A ad w sz)) (o200 : w1 200 = some (.inl (g 2, 1, .inr (.inl o9)))) : Met l yLw_travel wsLw_travel ({ frames := 9, cells := 0, slots := 0, locals := 180 } : Room) (va_Pc [.ref (ad 0), .ref (ad 200)] (dq_S D vwCl (dq_t g) ad w sz)) (va_Qi (fun r u => r = 0 ∧ u = dq_U w1 200 (.inl (g 2, 1, .inr (.inl (vp_updL o9 0 rr))))) (dq_B D vwCl (dq_t g) ad (dq_A ad w sz)) (dq_A ad w sz)) 0 0 (dq_A ad w sz) := by
  refine dx_ofiW (cc := cLw_travel) (maxL := 3) (hh := [(0, 7, 10, 21)]) (by decide) rfl (Nat.le_of_ble_eq_true rfl) ?_
  intro p e s m below meth c A Q ls ⟨hx, hb, hml, hown, hts⟩ hnm hA hW hK hZ hl htab hret
  have hS : va_S A s.heap s.heap [] := va_S.rf
  have hl : lv_has ls 3 [(0, .ref (ad 0)), (1, .ref (ad 200))] := hl
  refine lv_aload_n hx hb dLw_travel_0 rfl (lv_at hl 1 rfl) ?_
  refine lv_iconst (v := (nI 0)) hx hb dLw_travel_1 (by decide) ?_
  refine lv_aload_n hx hb dLw_travel_2 rfl (lv_at hl 0 rfl) ?_
  refine dq_calll (va_runV (As := []) (rest := [.int (nI 0), .ref (ad 200)]) ⟨hx, hb, hml, hown, hts⟩ (hC _) (cwV 0 hts (dq_giV tw3_105 tw3_106 tw3_107 tw1_1 tw3_108) rfl rfl rfl (by decide +kernel) ⟨Nat.le_of_ble_eq_true rfl, Nat.le_of_ble_eq_true rfl⟩) (dq_preV (ci := 7) hW hS hA hK hZ o0 rfl rfl) rfl rfl hl.1 rfl (lv_room (Nat.le_of_ble_eq_true rfl)) dLw_travel_3 ⟨Nat.zero_le _, Nat.zero_le _⟩) hW hS hA (fun r1 u_9 H locs hp1 hW hS hz9 => ?_)
  obtain ⟨h_r1, hu9⟩ := hp1
  rw [hu9] at hW
  rw [h_r1]
  refine dq_lastN hx hb hK hW hS 200 2 o200 rfl 0 (by omega) (by omega) dLw_travel_6 (fun H locs hW hS => ?_)
  refine lv_goto (tgt := 13) hx hb dLw_travel_7 (by decide) ?_
  refine lv_iconst (v := (0)) hx hb dLw_travel_13 (by decide) ?_
  exact hret _ _ _ _ _ _ ⟨rfl, rfl⟩ hW hS dLw_travel_14

set_option maxHeartbeats 4000000 in
set_option maxRecDepth 100000 in
/-- the helper of travel, thrown -/
theorem H_travel_1 (l : Launch) (D : va_G) (g : Nat → ClassId) (ad : Nat → Nat) (w : Nat → Option va_E) (sz : Nat) {fs0 : List Value} (o0 : w 0 = some (.inr (7, fs0))) (hC : ∀ sz : Nat, dx_M l yDH_travel wsDH_travel ({ frames := 8, cells := 1, slots := 6, locals := 136 } : Room) (va_Pc [.ref (ad 0)] (dq_S D vwCl (dq_t g) ad w sz)) (dx_X D vwCl (dq_t g) ad w (dq_A ad w sz) (fun E => E = "java/lang/IllegalStateException")) (dq_A ad w sz) 1 6) : Met l yLw_travel wsLw_travel ({ frames := 9, cells := 1, slots := 6, locals := 180 } : Room) (va_Pc [.ref (ad 0), .ref (ad 200)] (dq_S D vwCl (dq_t g) ad w sz)) (va_Qi (fun r u => r = 1 ∧ u = w) (dq_B D vwCl (dq_t g) ad (dq_A ad w sz)) (dq_A ad w sz)) 1 6 (dq_A ad w sz) := by
  refine dx_ofiW (cc := cLw_travel) (maxL := 3) (hh := [(0, 7, 10, 21)]) (by decide) rfl (Nat.le_of_ble_eq_true rfl) ?_
  intro p e s m below meth c A Q ls ⟨hx, hb, hml, hown, hts⟩ hnm hA hW hK hZ hl htab hret
  have hS : va_S A s.heap s.heap [] := va_S.rf
  have hl : lv_has ls 3 [(0, .ref (ad 0)), (1, .ref (ad 200))] := hl
  refine lv_aload_n hx hb dLw_travel_0 rfl (lv_at hl 1 rfl) ?_
  refine lv_iconst (v := (nI 0)) hx hb dLw_travel_1 (by decide) ?_
  refine lv_aload_n hx hb dLw_travel_2 rfl (lv_at hl 0 rfl) ?_
  refine dx_callV (As := []) (rest := [.int (nI 0), .ref (ad 200)]) ⟨hx, hb, hml, hown, hts⟩ (hC _) (cwV 0 hts (dq_giV tw3_105 tw3_106 tw3_107 tw1_1 tw3_108) rfl rfl rfl (by decide +kernel) ⟨Nat.le_of_ble_eq_true rfl, Nat.le_of_ble_eq_true rfl⟩) (dq_preV (ci := 7) hW hS hA hK hZ o0 rfl rfl) rfl hl.1 rfl (lv_room (Nat.le_of_ble_eq_true rfl)) dLw_travel_3 ⟨Nat.le_of_ble_eq_true rfl, Nat.le_of_ble_eq_true rfl⟩ hS (dq_A.sub hW hS hA) (fun q9 E9 ce9 t9 H locs ht9 hal9 hX9 hz9 hk9 hS9 hce9 hcv9 hcl9 => ?_)
  obtain ⟨hE9, hW9, hK9⟩ := hX9
  rw [ht9] at hW9
  rw [hE9] at hcl9
  refine dx_catch (E := "java/lang/IllegalStateException") (pre := []) (x := (0, 7, 10, 21)) (post := []) hown htab (fun _ h => absurd h List.not_mem_nil) ⟨⟨Nat.le_of_ble_eq_true rfl, Nat.le_of_ble_eq_true rfl, by decide⟩, "java/lang/IllegalStateException", (hts _ (List.mem_cons_of_mem _ tw2_231)), Cond.castable_spec (va_Nw.use (A := ([.ref (ad 0), .ref (ad 200)] : List Value).toArray) rfl hZ.c2)⟩ hce9 hcv9 hcl9 ?_
  have hW : dq_W D vwCl ad w A H := hW9.weaken (dq_A.sub hW hS hA)
  have hS := hS9
  refine lv_astore_n (lv' := [(2, .ref q9), (0, .ref (ad 0)), (1, .ref (ad 200))]) hx hb dLw_travel_10 rfl hl (by decide) rfl (fun ls hl => ?_)
  refine lv_iconst (v := (1)) hx hb dLw_travel_11 (by decide) ?_
  exact hret _ _ _ _ _ _ ⟨rfl, rfl⟩ hW hS dLw_travel_12

set_option maxHeartbeats 4000000 in
set_option maxRecDepth 100000 in
/-- the helper of least -/
theorem H_least (l : Launch) (D : va_G) (g : Nat → ClassId) (ad : Nat → Nat) (w : Nat → Option va_E) (sz : Nat) {fs0 : List Value} (o0 : w 0 = some (.inr (7, fs0))) {rr : Int32} {w1 : Nat → Option va_E} {o9 : Nat → Int64} (hC : ∀ sz : Nat, Met l yDH_least wsDH_least ({ frames := 8, cells := 0, slots := 0, locals := 136 } : Room) (va_Pc [.ref (ad 0)] (dq_S D vwCl (dq_t g) ad w sz)) (va_Qi (fun r u => r = rr ∧ u = w1) (dq_B D vwCl (dq_t g) ad (dq_A ad w sz)) (dq_A ad w sz)) 0 0 (dq_A ad w sz)) (o200 : w1 200 = some (.inl (g 2, 1, .inr (.inl o9)))) : Met l yLw_least wsLw_least ({ frames := 9, cells := 0, slots := 0, locals := 180 } : Room) (va_Pc [.ref (ad 0), .ref (ad 200)] (dq_S D vwCl (dq_t g) ad w sz)) (va_Qi (fun r u => r = 0 ∧ u = dq_U w1 200 (.inl (g 2, 1, .inr (.inl (vp_updL o9 0 (if rr = 0 then 0 else 1)))))) (dq_B D vwCl (dq_t g) ad (dq_A ad w sz)) (dq_A ad w sz)) 0 0 (dq_A ad w sz) := by
  refine dx_ofiW (cc := cLw_least) (maxL := 3) (hh := [(0, 15, 18, 21)]) (by decide) rfl (Nat.le_of_ble_eq_true rfl) ?_
  intro p e s m below meth c A Q ls ⟨hx, hb, hml, hown, hts⟩ hnm hA hW hK hZ hl htab hret
  have hS : va_S A s.heap s.heap [] := va_S.rf
  have hl : lv_has ls 3 [(0, .ref (ad 0)), (1, .ref (ad 200))] := hl
  refine lv_aload_n hx hb dLw_least_0 rfl (lv_at hl 1 rfl) ?_
  refine lv_iconst (v := (nI 0)) hx hb dLw_least_1 (by decide) ?_
  refine lv_aload_n hx hb dLw_least_2 rfl (lv_at hl 0 rfl) ?_
  refine dq_calli (va_runV (As := []) (rest := [.int (nI 0), .ref (ad 200)]) ⟨hx, hb, hml, hown, hts⟩ (hC _) (cwV 0 hts (dq_giV tw3_112 tw3_113 tw3_114 tw1_1 tw3_115) rfl rfl rfl (by decide +kernel) ⟨Nat.le_of_ble_eq_true rfl, Nat.le_of_ble_eq_true rfl⟩) (dq_preV (ci := 7) hW hS hA hK hZ o0 rfl rfl) rfl rfl hl.1 rfl (lv_room (Nat.le_of_ble_eq_true rfl)) dLw_least_3 ⟨Nat.zero_le _, Nat.zero_le _⟩) hW hS hA (fun r1 u_9 H locs hp1 hW hS hz9 => ?_)
  obtain ⟨h_r1, hu9⟩ := hp1
  rw [hu9] at hW
  rw [h_r1]
  refine lv_if_eq (tgt := 13) hx hb dLw_least_6 (by decide) (fun c1 => ?_) (fun c1 => ?_)
  · refine lv_lconst (v := 0) hx hb dLw_least_13 (by decide) ?_
    refine dq_lastN hx hb hK hW hS 200 2 o200 rfl 0 (by omega) (by omega) dLw_least_14 (fun H locs hW hS => ?_)
    refine lv_goto (tgt := 21) hx hb dLw_least_15 (by decide) ?_
    refine lv_iconst (v := (0)) hx hb dLw_least_21 (by decide) ?_
    exact hret _ _ _ _ _ _ ⟨rfl, by rw [if_pos c1]⟩ hW hS dLw_least_22
  · refine lv_lconst (v := 1) hx hb dLw_least_9 (by decide) ?_
    refine lv_goto (tgt := 14) hx hb dLw_least_10 (by decide) ?_
    refine dq_lastN hx hb hK hW hS 200 2 o200 rfl 0 (by omega) (by omega) dLw_least_14 (fun H locs hW hS => ?_)
    refine lv_goto (tgt := 21) hx hb dLw_least_15 (by decide) ?_
    refine lv_iconst (v := (0)) hx hb dLw_least_21 (by decide) ?_
    exact hret _ _ _ _ _ _ ⟨rfl, by rw [if_neg c1]⟩ hW hS dLw_least_22

set_option maxHeartbeats 4000000 in
set_option maxRecDepth 100000 in
/-- the helper of least, thrown -/
theorem H_least_1 (l : Launch) (D : va_G) (g : Nat → ClassId) (ad : Nat → Nat) (w : Nat → Option va_E) (sz : Nat) {fs0 : List Value} (o0 : w 0 = some (.inr (7, fs0))) (hC : ∀ sz : Nat, dx_M l yDH_least wsDH_least ({ frames := 8, cells := 1, slots := 6, locals := 136 } : Room) (va_Pc [.ref (ad 0)] (dq_S D vwCl (dq_t g) ad w sz)) (dx_X D vwCl (dq_t g) ad w (dq_A ad w sz) (fun E => E = "java/lang/IllegalStateException")) (dq_A ad w sz) 1 6) : Met l yLw_least wsLw_least ({ frames := 9, cells := 1, slots := 6, locals := 180 } : Room) (va_Pc [.ref (ad 0), .ref (ad 200)] (dq_S D vwCl (dq_t g) ad w sz)) (va_Qi (fun r u => r = 1 ∧ u = w) (dq_B D vwCl (dq_t g) ad (dq_A ad w sz)) (dq_A ad w sz)) 1 6 (dq_A ad w sz) := by
  refine dx_ofiW (cc := cLw_least) (maxL := 3) (hh := [(0, 15, 18, 21)]) (by decide) rfl (Nat.le_of_ble_eq_true rfl) ?_
  intro p e s m below meth c A Q ls ⟨hx, hb, hml, hown, hts⟩ hnm hA hW hK hZ hl htab hret
  have hS : va_S A s.heap s.heap [] := va_S.rf
  have hl : lv_has ls 3 [(0, .ref (ad 0)), (1, .ref (ad 200))] := hl
  refine lv_aload_n hx hb dLw_least_0 rfl (lv_at hl 1 rfl) ?_
  refine lv_iconst (v := (nI 0)) hx hb dLw_least_1 (by decide) ?_
  refine lv_aload_n hx hb dLw_least_2 rfl (lv_at hl 0 rfl) ?_
  refine dx_callV (As := []) (rest := [.int (nI 0), .ref (ad 200)]) ⟨hx, hb, hml, hown, hts⟩ (hC _) (cwV 0 hts (dq_giV tw3_112 tw3_113 tw3_114 tw1_1 tw3_115) rfl rfl rfl (by decide +kernel) ⟨Nat.le_of_ble_eq_true rfl, Nat.le_of_ble_eq_true rfl⟩) (dq_preV (ci := 7) hW hS hA hK hZ o0 rfl rfl) rfl hl.1 rfl (lv_room (Nat.le_of_ble_eq_true rfl)) dLw_least_3 ⟨Nat.le_of_ble_eq_true rfl, Nat.le_of_ble_eq_true rfl⟩ hS (dq_A.sub hW hS hA) (fun q9 E9 ce9 t9 H locs ht9 hal9 hX9 hz9 hk9 hS9 hce9 hcv9 hcl9 => ?_)
  obtain ⟨hE9, hW9, hK9⟩ := hX9
  rw [ht9] at hW9
  rw [hE9] at hcl9
  refine dx_catch (E := "java/lang/IllegalStateException") (pre := []) (x := (0, 15, 18, 21)) (post := []) hown htab (fun _ h => absurd h List.not_mem_nil) ⟨⟨Nat.le_of_ble_eq_true rfl, Nat.le_of_ble_eq_true rfl, by decide⟩, "java/lang/IllegalStateException", (hts _ (List.mem_cons_of_mem _ tw2_231)), Cond.castable_spec (va_Nw.use (A := ([.ref (ad 0), .ref (ad 200)] : List Value).toArray) rfl hZ.c2)⟩ hce9 hcv9 hcl9 ?_
  have hW : dq_W D vwCl ad w A H := hW9.weaken (dq_A.sub hW hS hA)
  have hS := hS9
  refine lv_astore_n (lv' := [(2, .ref q9), (0, .ref (ad 0)), (1, .ref (ad 200))]) hx hb dLw_least_18 rfl hl (by decide) rfl (fun ls hl => ?_)
  refine lv_iconst (v := (1)) hx hb dLw_least_19 (by decide) ?_
  exact hret _ _ _ _ _ _ ⟨rfl, rfl⟩ hW hS dLw_least_20

set_option maxHeartbeats 4000000 in
set_option maxRecDepth 100000 in
/-- the helper of bound -/
theorem H_bound (l : Launch) (D : va_G) (g : Nat → ClassId) (ad : Nat → Nat) (w : Nat → Option va_E) (sz : Nat) {fs0 : List Value} (o0 : w 0 = some (.inr (7, fs0))) {rr : Int32} {w1 : Nat → Option va_E} {o9 : Nat → Int64} (hC : ∀ sz : Nat, Met l yDH_bound wsDH_bound ({ frames := 8, cells := 0, slots := 0, locals := 136 } : Room) (va_Pc [.ref (ad 0)] (dq_S D vwCl (dq_t g) ad w sz)) (va_Qi (fun r u => r = rr ∧ u = w1) (dq_B D vwCl (dq_t g) ad (dq_A ad w sz)) (dq_A ad w sz)) 0 0 (dq_A ad w sz)) (o200 : w1 200 = some (.inl (g 2, 1, .inr (.inl o9)))) : Met l yLw_bound wsLw_bound ({ frames := 9, cells := 0, slots := 0, locals := 180 } : Room) (va_Pc [.ref (ad 0), .ref (ad 200)] (dq_S D vwCl (dq_t g) ad w sz)) (va_Qi (fun r u => r = 0 ∧ u = dq_U w1 200 (.inl (g 2, 1, .inr (.inl (vp_updL o9 0 rr.toInt64))))) (dq_B D vwCl (dq_t g) ad (dq_A ad w sz)) (dq_A ad w sz)) 0 0 (dq_A ad w sz) := by
  refine dx_ofiW (cc := cLw_bound) (maxL := 3) (hh := [(0, 8, 11, 21)]) (by decide) rfl (Nat.le_of_ble_eq_true rfl) ?_
  intro p e s m below meth c A Q ls ⟨hx, hb, hml, hown, hts⟩ hnm hA hW hK hZ hl htab hret
  have hS : va_S A s.heap s.heap [] := va_S.rf
  have hl : lv_has ls 3 [(0, .ref (ad 0)), (1, .ref (ad 200))] := hl
  refine lv_aload_n hx hb dLw_bound_0 rfl (lv_at hl 1 rfl) ?_
  refine lv_iconst (v := (nI 0)) hx hb dLw_bound_1 (by decide) ?_
  refine lv_aload_n hx hb dLw_bound_2 rfl (lv_at hl 0 rfl) ?_
  refine dq_calli (va_runV (As := []) (rest := [.int (nI 0), .ref (ad 200)]) ⟨hx, hb, hml, hown, hts⟩ (hC _) (cwV 0 hts (dq_giV tw3_119 tw3_120 tw3_121 tw1_1 tw3_122) rfl rfl rfl (by decide +kernel) ⟨Nat.le_of_ble_eq_true rfl, Nat.le_of_ble_eq_true rfl⟩) (dq_preV (ci := 7) hW hS hA hK hZ o0 rfl rfl) rfl rfl hl.1 rfl (lv_room (Nat.le_of_ble_eq_true rfl)) dLw_bound_3 ⟨Nat.zero_le _, Nat.zero_le _⟩) hW hS hA (fun r1 u_9 H locs hp1 hW hS hz9 => ?_)
  obtain ⟨h_r1, hu9⟩ := hp1
  rw [hu9] at hW
  rw [h_r1]
  refine lv_i2l hx hb dLw_bound_6 rfl ?_
  refine dq_lastN hx hb hK hW hS 200 2 o200 rfl 0 (by omega) (by omega) dLw_bound_7 (fun H locs hW hS => ?_)
  refine lv_goto (tgt := 14) hx hb dLw_bound_8 (by decide) ?_
  refine lv_iconst (v := (0)) hx hb dLw_bound_14 (by decide) ?_
  exact hret _ _ _ _ _ _ ⟨rfl, rfl⟩ hW hS dLw_bound_15

set_option maxHeartbeats 4000000 in
set_option maxRecDepth 100000 in
/-- the helper of bound, thrown -/
theorem H_bound_1 (l : Launch) (D : va_G) (g : Nat → ClassId) (ad : Nat → Nat) (w : Nat → Option va_E) (sz : Nat) {fs0 : List Value} (o0 : w 0 = some (.inr (7, fs0))) (hC : ∀ sz : Nat, dx_M l yDH_bound wsDH_bound ({ frames := 8, cells := 1, slots := 6, locals := 136 } : Room) (va_Pc [.ref (ad 0)] (dq_S D vwCl (dq_t g) ad w sz)) (dx_X D vwCl (dq_t g) ad w (dq_A ad w sz) (fun E => E = "java/lang/IllegalStateException")) (dq_A ad w sz) 1 6) : Met l yLw_bound wsLw_bound ({ frames := 9, cells := 1, slots := 6, locals := 180 } : Room) (va_Pc [.ref (ad 0), .ref (ad 200)] (dq_S D vwCl (dq_t g) ad w sz)) (va_Qi (fun r u => r = 1 ∧ u = w) (dq_B D vwCl (dq_t g) ad (dq_A ad w sz)) (dq_A ad w sz)) 1 6 (dq_A ad w sz) := by
  refine dx_ofiW (cc := cLw_bound) (maxL := 3) (hh := [(0, 8, 11, 21)]) (by decide) rfl (Nat.le_of_ble_eq_true rfl) ?_
  intro p e s m below meth c A Q ls ⟨hx, hb, hml, hown, hts⟩ hnm hA hW hK hZ hl htab hret
  have hS : va_S A s.heap s.heap [] := va_S.rf
  have hl : lv_has ls 3 [(0, .ref (ad 0)), (1, .ref (ad 200))] := hl
  refine lv_aload_n hx hb dLw_bound_0 rfl (lv_at hl 1 rfl) ?_
  refine lv_iconst (v := (nI 0)) hx hb dLw_bound_1 (by decide) ?_
  refine lv_aload_n hx hb dLw_bound_2 rfl (lv_at hl 0 rfl) ?_
  refine dx_callV (As := []) (rest := [.int (nI 0), .ref (ad 200)]) ⟨hx, hb, hml, hown, hts⟩ (hC _) (cwV 0 hts (dq_giV tw3_119 tw3_120 tw3_121 tw1_1 tw3_122) rfl rfl rfl (by decide +kernel) ⟨Nat.le_of_ble_eq_true rfl, Nat.le_of_ble_eq_true rfl⟩) (dq_preV (ci := 7) hW hS hA hK hZ o0 rfl rfl) rfl hl.1 rfl (lv_room (Nat.le_of_ble_eq_true rfl)) dLw_bound_3 ⟨Nat.le_of_ble_eq_true rfl, Nat.le_of_ble_eq_true rfl⟩ hS (dq_A.sub hW hS hA) (fun q9 E9 ce9 t9 H locs ht9 hal9 hX9 hz9 hk9 hS9 hce9 hcv9 hcl9 => ?_)
  obtain ⟨hE9, hW9, hK9⟩ := hX9
  rw [ht9] at hW9
  rw [hE9] at hcl9
  refine dx_catch (E := "java/lang/IllegalStateException") (pre := []) (x := (0, 8, 11, 21)) (post := []) hown htab (fun _ h => absurd h List.not_mem_nil) ⟨⟨Nat.le_of_ble_eq_true rfl, Nat.le_of_ble_eq_true rfl, by decide⟩, "java/lang/IllegalStateException", (hts _ (List.mem_cons_of_mem _ tw2_231)), Cond.castable_spec (va_Nw.use (A := ([.ref (ad 0), .ref (ad 200)] : List Value).toArray) rfl hZ.c2)⟩ hce9 hcv9 hcl9 ?_
  have hW : dq_W D vwCl ad w A H := hW9.weaken (dq_A.sub hW hS hA)
  have hS := hS9
  refine lv_astore_n (lv' := [(2, .ref q9), (0, .ref (ad 0)), (1, .ref (ad 200))]) hx hb dLw_bound_11 rfl hl (by decide) rfl (fun ls hl => ?_)
  refine lv_iconst (v := (1)) hx hb dLw_bound_12 (by decide) ?_
  exact hret _ _ _ _ _ _ ⟨rfl, rfl⟩ hW hS dLw_bound_13

set_option maxHeartbeats 4000000 in
set_option maxRecDepth 100000 in
/-- the helper of places -/
theorem H_places (l : Launch) (D : va_G) (g : Nat → ClassId) (ad : Nat → Nat) (w : Nat → Option va_E) (sz : Nat) {fs0 : List Value} (o0 : w 0 = some (.inr (7, fs0))) (a0 : Int32) {rr : Int32} {w1 : Nat → Option va_E} {o9 : Nat → Int64} (hC : ∀ sz : Nat, Met l yDH_places wsDH_places ({ frames := 8, cells := 0, slots := 0, locals := 136 } : Room) (va_Pc [.ref (ad 0), .int a0] (dq_S D vwCl (dq_t g) ad w sz)) (va_Qi (fun r u => r = rr ∧ u = w1) (dq_B D vwCl (dq_t g) ad (dq_A ad w sz)) (dq_A ad w sz)) 0 0 (dq_A ad w sz)) (o200 : w1 200 = some (.inl (g 2, 1, .inr (.inl o9)))) : Met l yLw_places wsLw_places ({ frames := 9, cells := 0, slots := 0, locals := 180 } : Room) (va_Pc [.ref (ad 0), .int a0, .ref (ad 200)] (dq_S D vwCl (dq_t g) ad w sz)) (va_Qi (fun r u => r = 0 ∧ u = dq_U w1 200 (.inl (g 2, 1, .inr (.inl (vp_updL o9 0 rr.toInt64))))) (dq_B D vwCl (dq_t g) ad (dq_A ad w sz)) (dq_A ad w sz)) 0 0 (dq_A ad w sz) := by
  refine dx_ofiW (cc := cLw_places) (maxL := 4) (hh := [(0, 9, 12, 13)]) (by decide) rfl (Nat.le_of_ble_eq_true rfl) ?_
  intro p e s m below meth c A Q ls ⟨hx, hb, hml, hown, hts⟩ hnm hA hW hK hZ hl htab hret
  have hS : va_S A s.heap s.heap [] := va_S.rf
  have hl : lv_has ls 4 [(0, .ref (ad 0)), (1, .int a0), (2, .ref (ad 200))] := hl
  refine lv_aload_n hx hb dLw_places_0 rfl (lv_at hl 2 rfl) ?_
  refine lv_iconst (v := (nI 0)) hx hb dLw_places_1 (by decide) ?_
  refine lv_aload_n hx hb dLw_places_2 rfl (lv_at hl 0 rfl) ?_
  refine lv_iload_n hx hb dLw_places_3 rfl (lv_at hl 1 rfl) ?_
  refine dq_calli (va_runV (As := [.int a0]) (rest := [.int (nI 0), .ref (ad 200)]) ⟨hx, hb, hml, hown, hts⟩ (hC _) (cwV 1 hts (dq_giV tw3_136 tw3_137 tw3_138 tw1_1 tw3_139) rfl rfl rfl (by decide +kernel) ⟨Nat.le_of_ble_eq_true rfl, Nat.le_of_ble_eq_true rfl⟩) (dq_preV (ci := 7) hW hS hA hK hZ o0 rfl rfl) rfl rfl hl.1 rfl (lv_room (Nat.le_of_ble_eq_true rfl)) dLw_places_4 ⟨Nat.zero_le _, Nat.zero_le _⟩) hW hS hA (fun r1 u_9 H locs hp1 hW hS hz9 => ?_)
  obtain ⟨h_r1, hu9⟩ := hp1
  rw [hu9] at hW
  rw [h_r1]
  refine lv_i2l hx hb dLw_places_7 rfl ?_
  refine dq_lastN hx hb hK hW hS 200 2 o200 rfl 0 (by omega) (by omega) dLw_places_8 (fun H locs hW hS => ?_)
  refine lv_goto (tgt := 15) hx hb dLw_places_9 (by decide) ?_
  refine lv_iconst (v := (0)) hx hb dLw_places_15 (by decide) ?_
  exact hret _ _ _ _ _ _ ⟨rfl, rfl⟩ hW hS dLw_places_16

set_option maxHeartbeats 4000000 in
set_option maxRecDepth 100000 in
/-- the helper of places, thrown -/
theorem H_places_1 (l : Launch) (D : va_G) (g : Nat → ClassId) (ad : Nat → Nat) (w : Nat → Option va_E) (sz : Nat) {fs0 : List Value} (o0 : w 0 = some (.inr (7, fs0))) (a0 : Int32) (hC : ∀ sz : Nat, dx_M l yDH_places wsDH_places ({ frames := 8, cells := 1, slots := 6, locals := 136 } : Room) (va_Pc [.ref (ad 0), .int a0] (dq_S D vwCl (dq_t g) ad w sz)) (dx_X D vwCl (dq_t g) ad w (dq_A ad w sz) (fun E => E = "java/lang/IndexOutOfBoundsException")) (dq_A ad w sz) 1 6) : Met l yLw_places wsLw_places ({ frames := 9, cells := 1, slots := 6, locals := 180 } : Room) (va_Pc [.ref (ad 0), .int a0, .ref (ad 200)] (dq_S D vwCl (dq_t g) ad w sz)) (va_Qi (fun r u => r = 1 ∧ u = w) (dq_B D vwCl (dq_t g) ad (dq_A ad w sz)) (dq_A ad w sz)) 1 6 (dq_A ad w sz) := by
  refine dx_ofiW (cc := cLw_places) (maxL := 4) (hh := [(0, 9, 12, 13)]) (by decide) rfl (Nat.le_of_ble_eq_true rfl) ?_
  intro p e s m below meth c A Q ls ⟨hx, hb, hml, hown, hts⟩ hnm hA hW hK hZ hl htab hret
  have hS : va_S A s.heap s.heap [] := va_S.rf
  have hl : lv_has ls 4 [(0, .ref (ad 0)), (1, .int a0), (2, .ref (ad 200))] := hl
  refine lv_aload_n hx hb dLw_places_0 rfl (lv_at hl 2 rfl) ?_
  refine lv_iconst (v := (nI 0)) hx hb dLw_places_1 (by decide) ?_
  refine lv_aload_n hx hb dLw_places_2 rfl (lv_at hl 0 rfl) ?_
  refine lv_iload_n hx hb dLw_places_3 rfl (lv_at hl 1 rfl) ?_
  refine dx_callV (As := [.int a0]) (rest := [.int (nI 0), .ref (ad 200)]) ⟨hx, hb, hml, hown, hts⟩ (hC _) (cwV 1 hts (dq_giV tw3_136 tw3_137 tw3_138 tw1_1 tw3_139) rfl rfl rfl (by decide +kernel) ⟨Nat.le_of_ble_eq_true rfl, Nat.le_of_ble_eq_true rfl⟩) (dq_preV (ci := 7) hW hS hA hK hZ o0 rfl rfl) rfl hl.1 rfl (lv_room (Nat.le_of_ble_eq_true rfl)) dLw_places_4 ⟨Nat.le_of_ble_eq_true rfl, Nat.le_of_ble_eq_true rfl⟩ hS (dq_A.sub hW hS hA) (fun q9 E9 ce9 t9 H locs ht9 hal9 hX9 hz9 hk9 hS9 hce9 hcv9 hcl9 => ?_)
  obtain ⟨hE9, hW9, hK9⟩ := hX9
  rw [ht9] at hW9
  rw [hE9] at hcl9
  refine dx_catch (E := "java/lang/IndexOutOfBoundsException") (pre := []) (x := (0, 9, 12, 13)) (post := []) hown htab (fun _ h => absurd h List.not_mem_nil) ⟨⟨Nat.le_of_ble_eq_true rfl, Nat.le_of_ble_eq_true rfl, by decide⟩, "java/lang/IndexOutOfBoundsException", (hts _ (List.mem_cons_of_mem _ tw2_122)), Cond.castable_spec (va_Nw.use (A := ([.ref (ad 0), .int a0, .ref (ad 200)] : List Value).toArray) rfl hZ.c0)⟩ hce9 hcv9 hcl9 ?_
  have hW : dq_W D vwCl ad w A H := hW9.weaken (dq_A.sub hW hS hA)
  have hS := hS9
  refine lv_astore_n (lv' := [(3, .ref q9), (0, .ref (ad 0)), (1, .int a0), (2, .ref (ad 200))]) hx hb dLw_places_12 rfl hl (by decide) rfl (fun ls hl => ?_)
  refine lv_iconst (v := (1)) hx hb dLw_places_13 (by decide) ?_
  exact hret _ _ _ _ _ _ ⟨rfl, rfl⟩ hW hS dLw_places_14

set_option maxHeartbeats 4000000 in
set_option maxRecDepth 100000 in
/-- the helper of seconds -/
theorem H_seconds (l : Launch) (D : va_G) (g : Nat → ClassId) (ad : Nat → Nat) (w : Nat → Option va_E) (sz : Nat) {fs0 : List Value} (o0 : w 0 = some (.inr (7, fs0))) {rr : Int64} {w1 : Nat → Option va_E} {o9 : Nat → Int64} (hC : ∀ sz : Nat, Met l yDH_seconds wsDH_seconds ({ frames := 8, cells := 0, slots := 0, locals := 136 } : Room) (va_Pc [.ref (ad 0)] (dq_S D vwCl (dq_t g) ad w sz)) (va_Ql (fun r u => r = rr ∧ u = w1) (dq_B D vwCl (dq_t g) ad (dq_A ad w sz)) (dq_A ad w sz)) 0 0 (dq_A ad w sz)) (o200 : w1 200 = some (.inl (g 2, 1, .inr (.inl o9)))) : Met l yLw_seconds wsLw_seconds ({ frames := 9, cells := 0, slots := 0, locals := 180 } : Room) (va_Pc [.ref (ad 0), .ref (ad 200)] (dq_S D vwCl (dq_t g) ad w sz)) (va_Qi (fun r u => r = 0 ∧ u = dq_U w1 200 (.inl (g 2, 1, .inr (.inl (vp_updL o9 0 rr))))) (dq_B D vwCl (dq_t g) ad (dq_A ad w sz)) (dq_A ad w sz)) 0 0 (dq_A ad w sz) := by
  refine dx_ofiW (cc := cLw_seconds) (maxL := 3) (hh := [(0, 7, 10, 21)]) (by decide) rfl (Nat.le_of_ble_eq_true rfl) ?_
  intro p e s m below meth c A Q ls ⟨hx, hb, hml, hown, hts⟩ hnm hA hW hK hZ hl htab hret
  have hS : va_S A s.heap s.heap [] := va_S.rf
  have hl : lv_has ls 3 [(0, .ref (ad 0)), (1, .ref (ad 200))] := hl
  refine lv_aload_n hx hb dLw_seconds_0 rfl (lv_at hl 1 rfl) ?_
  refine lv_iconst (v := (nI 0)) hx hb dLw_seconds_1 (by decide) ?_
  refine lv_aload_n hx hb dLw_seconds_2 rfl (lv_at hl 0 rfl) ?_
  refine dq_calll (va_runV (As := []) (rest := [.int (nI 0), .ref (ad 200)]) ⟨hx, hb, hml, hown, hts⟩ (hC _) (cwV 0 hts (dq_giV tw3_143 tw3_144 tw3_145 tw1_1 tw3_146) rfl rfl rfl (by decide +kernel) ⟨Nat.le_of_ble_eq_true rfl, Nat.le_of_ble_eq_true rfl⟩) (dq_preV (ci := 7) hW hS hA hK hZ o0 rfl rfl) rfl rfl hl.1 rfl (lv_room (Nat.le_of_ble_eq_true rfl)) dLw_seconds_3 ⟨Nat.zero_le _, Nat.zero_le _⟩) hW hS hA (fun r1 u_9 H locs hp1 hW hS hz9 => ?_)
  obtain ⟨h_r1, hu9⟩ := hp1
  rw [hu9] at hW
  rw [h_r1]
  refine dq_lastN hx hb hK hW hS 200 2 o200 rfl 0 (by omega) (by omega) dLw_seconds_6 (fun H locs hW hS => ?_)
  refine lv_goto (tgt := 13) hx hb dLw_seconds_7 (by decide) ?_
  refine lv_iconst (v := (0)) hx hb dLw_seconds_13 (by decide) ?_
  exact hret _ _ _ _ _ _ ⟨rfl, rfl⟩ hW hS dLw_seconds_14

set_option maxHeartbeats 4000000 in
set_option maxRecDepth 100000 in
/-- the helper of seconds, thrown -/
theorem H_seconds_1 (l : Launch) (D : va_G) (g : Nat → ClassId) (ad : Nat → Nat) (w : Nat → Option va_E) (sz : Nat) {fs0 : List Value} (o0 : w 0 = some (.inr (7, fs0))) (hC : ∀ sz : Nat, dx_M l yDH_seconds wsDH_seconds ({ frames := 8, cells := 1, slots := 6, locals := 136 } : Room) (va_Pc [.ref (ad 0)] (dq_S D vwCl (dq_t g) ad w sz)) (dx_X D vwCl (dq_t g) ad w (dq_A ad w sz) (fun E => E = "java/lang/IllegalStateException")) (dq_A ad w sz) 1 6) : Met l yLw_seconds wsLw_seconds ({ frames := 9, cells := 1, slots := 6, locals := 180 } : Room) (va_Pc [.ref (ad 0), .ref (ad 200)] (dq_S D vwCl (dq_t g) ad w sz)) (va_Qi (fun r u => r = 1 ∧ u = w) (dq_B D vwCl (dq_t g) ad (dq_A ad w sz)) (dq_A ad w sz)) 1 6 (dq_A ad w sz) := by
  refine dx_ofiW (cc := cLw_seconds) (maxL := 3) (hh := [(0, 7, 10, 21)]) (by decide) rfl (Nat.le_of_ble_eq_true rfl) ?_
  intro p e s m below meth c A Q ls ⟨hx, hb, hml, hown, hts⟩ hnm hA hW hK hZ hl htab hret
  have hS : va_S A s.heap s.heap [] := va_S.rf
  have hl : lv_has ls 3 [(0, .ref (ad 0)), (1, .ref (ad 200))] := hl
  refine lv_aload_n hx hb dLw_seconds_0 rfl (lv_at hl 1 rfl) ?_
  refine lv_iconst (v := (nI 0)) hx hb dLw_seconds_1 (by decide) ?_
  refine lv_aload_n hx hb dLw_seconds_2 rfl (lv_at hl 0 rfl) ?_
  refine dx_callV (As := []) (rest := [.int (nI 0), .ref (ad 200)]) ⟨hx, hb, hml, hown, hts⟩ (hC _) (cwV 0 hts (dq_giV tw3_143 tw3_144 tw3_145 tw1_1 tw3_146) rfl rfl rfl (by decide +kernel) ⟨Nat.le_of_ble_eq_true rfl, Nat.le_of_ble_eq_true rfl⟩) (dq_preV (ci := 7) hW hS hA hK hZ o0 rfl rfl) rfl hl.1 rfl (lv_room (Nat.le_of_ble_eq_true rfl)) dLw_seconds_3 ⟨Nat.le_of_ble_eq_true rfl, Nat.le_of_ble_eq_true rfl⟩ hS (dq_A.sub hW hS hA) (fun q9 E9 ce9 t9 H locs ht9 hal9 hX9 hz9 hk9 hS9 hce9 hcv9 hcl9 => ?_)
  obtain ⟨hE9, hW9, hK9⟩ := hX9
  rw [ht9] at hW9
  rw [hE9] at hcl9
  refine dx_catch (E := "java/lang/IllegalStateException") (pre := []) (x := (0, 7, 10, 21)) (post := []) hown htab (fun _ h => absurd h List.not_mem_nil) ⟨⟨Nat.le_of_ble_eq_true rfl, Nat.le_of_ble_eq_true rfl, by decide⟩, "java/lang/IllegalStateException", (hts _ (List.mem_cons_of_mem _ tw2_231)), Cond.castable_spec (va_Nw.use (A := ([.ref (ad 0), .ref (ad 200)] : List Value).toArray) rfl hZ.c2)⟩ hce9 hcv9 hcl9 ?_
  have hW : dq_W D vwCl ad w A H := hW9.weaken (dq_A.sub hW hS hA)
  have hS := hS9
  refine lv_astore_n (lv' := [(2, .ref q9), (0, .ref (ad 0)), (1, .ref (ad 200))]) hx hb dLw_seconds_10 rfl hl (by decide) rfl (fun ls hl => ?_)
  refine lv_iconst (v := (1)) hx hb dLw_seconds_11 (by decide) ?_
  exact hret _ _ _ _ _ _ ⟨rfl, rfl⟩ hW hS dLw_seconds_12
