set_option maxHeartbeats 4000000 in
set_option maxRecDepth 100000 in
/-- hit, not planned -/
theorem t_hit1 (l : Launch) (htr : l.stackTraces = false) (D : va_G) (g : Nat → ClassId) (ad : Nat → Nat) (w : Nat → Option va_E) (sz : Nat) (sg pl : Int32) (a0 a1 : Int32) (o0 : w 0 = some (.inr (7, [.ref (ad 1), .ref (ad 5), .ref (ad 12), .ref (ad 17), .ref (ad 18), .ref (ad 23), .ref (ad 25), .int sg, .int pl]))) (hpl : pl = 0) : dx_M l yDH_hit wsDH_hit ({ frames := 8, cells := 1, slots := 6, locals := 136 } : Room) (va_Pc [.ref (ad 0), .int a0, .int a1] (dq_S D vwCl (dq_t g) ad w sz)) (dx_X D vwCl (dq_t g) ad w (dq_A ad w sz) (fun E => E = "java/lang/IllegalStateException")) (dq_A ad w sz) 1 6 := by
  refine dx_of (cc := cDH_hit) (maxL := 3) (by decide) rfl (Nat.le_of_ble_eq_true rfl) ?_
  intro p e s m below meth c A ls ⟨hx, hb, hml, hown, hts⟩ hnm hA hW hK hZ hl hout hlocks
  have hS : va_S A s.heap s.heap [] := va_S.rf
  have hl : lv_has ls 3 [(0, .ref (ad 0)), (1, .int a0), (2, .int a1)] := hl
  have hf51 := hts _ (List.mem_cons_of_mem _ tw1_218)
  have hf147 := hts _ (List.mem_cons_of_mem _ tw1_164)
  have hf148 := hts _ (List.mem_cons_of_mem _ tw1_167)
  have hf149 := hts _ (List.mem_cons_of_mem _ tw1_169)
  have hf152 := hts _ (List.mem_cons_of_mem _ tw1_171)
  have hinDH : ∀ w ∈ u_ws RDH TDH 9, w ∈ wsDH_hit := fun w h => List.mem_cons_of_mem _ (inDH w h)
  have hinHt : ∀ w ∈ u_ws RHt THt 5, w ∈ wsDH_hit := fun w h => List.mem_cons_of_mem _ (inHt w h)
  refine lv_aload_n hx hb dDH_hit_0 rfl (lv_at hl 0 rfl) ?_
  refine dx_callV (As := []) (rest := []) ⟨hx, hb, hml, hown, hts⟩ (t_planned l htr D g ad (w) _ sg pl o0 hpl) (cwV 0 hts (dq_giV tw3_56 tw3_58 twp_14 tw1_1 tw3_59) rfl rfl rfl (by decide +kernel) ⟨Nat.le_of_ble_eq_true rfl, Nat.le_of_ble_eq_true rfl⟩) (dq_preV (ci := 7) hW hS hA hK hZ o0 rfl rfl) rfl hl.1 rfl (lv_room (Nat.le_of_ble_eq_true rfl)) dDH_hit_1 ⟨Nat.le_of_ble_eq_true rfl, Nat.le_of_ble_eq_true rfl⟩ hS (dq_A.sub hW hS hA) (fun q9 E9 ce9 t9 H locs ht9 hal9 hX9 hz9 hk9 hS9 hce9 hcv9 hcl9 => ?_)
  obtain ⟨hE9, hW9, hK9⟩ := hX9
  rw [ht9] at hW9
  exact dx_out hout hlocks hce9 hcv9 hcl9 (fun t h1 h2 => ⟨hE9, by rw [h1]; exact hW9.weaken (dq_A.sub hW hS hA), va_K.moved h2 hK⟩) hS9 (Nat.le_of_ble_eq_true rfl) (Nat.le_of_ble_eq_true rfl)

set_option maxHeartbeats 4000000 in
set_option maxRecDepth 100000 in
/-- hit, no such hit -/
theorem t_hit2 (l : Launch) (htr : l.stackTraces = false) (D : va_G) (g : Nat → ClassId) (ad : Nat → Nat) (w : Nat → Option va_E) (sz : Nat) (sg pl : Int32) (hc : Nat) (a0 a1 : Int32) (o0 : w 0 = some (.inr (7, [.ref (ad 1), .ref (ad 5), .ref (ad 12), .ref (ad 17), .ref (ad 18), .ref (ad 23), .ref (ad 25), .int sg, .int pl]))) (t18 : w 18 = some (.inr (2, [.ref (ad 19), .ref (ad 20), .ref (ad 21), .ref (ad 22), .int (nI hc)]))) (hpl : ¬ pl = 0) (h0 : a0 < 0 ∨ ¬ a0 < nI hc) : dx_M l yDH_hit wsDH_hit ({ frames := 8, cells := 1, slots := 6, locals := 136 } : Room) (va_Pc [.ref (ad 0), .int a0, .int a1] (dq_S D vwCl (dq_t g) ad w sz)) (dx_X D vwCl (dq_t g) ad w (dq_A ad w sz) (fun E => E = "java/lang/IndexOutOfBoundsException")) (dq_A ad w sz) 1 6 := by
  refine dx_of (cc := cDH_hit) (maxL := 3) (by decide) rfl (Nat.le_of_ble_eq_true rfl) ?_
  intro p e s m below meth c A ls ⟨hx, hb, hml, hown, hts⟩ hnm hA hW hK hZ hl hout hlocks
  have hS : va_S A s.heap s.heap [] := va_S.rf
  have hl : lv_has ls 3 [(0, .ref (ad 0)), (1, .int a0), (2, .int a1)] := hl
  have hf51 := hts _ (List.mem_cons_of_mem _ tw1_218)
  have hf147 := hts _ (List.mem_cons_of_mem _ tw1_164)
  have hf148 := hts _ (List.mem_cons_of_mem _ tw1_167)
  have hf149 := hts _ (List.mem_cons_of_mem _ tw1_169)
  have hf152 := hts _ (List.mem_cons_of_mem _ tw1_171)
  have hinDH : ∀ w ∈ u_ws RDH TDH 9, w ∈ wsDH_hit := fun w h => List.mem_cons_of_mem _ (inDH w h)
  have hinHt : ∀ w ∈ u_ws RHt THt 5, w ∈ wsDH_hit := fun w h => List.mem_cons_of_mem _ (inHt w h)
  refine lv_aload_n hx hb dDH_hit_0 rfl (lv_at hl 0 rfl) ?_
  refine va_csv (W.runV (As := []) (rest := []) ⟨hx, hb, hml, hown, hts⟩ (c_planned l D g ad (w) _ sg pl o0 hpl) (cwV 0 hts (dq_giV tw3_56 tw3_58 twp_14 tw1_1 tw3_59) rfl rfl rfl (by decide +kernel) ⟨Nat.le_of_ble_eq_true rfl, Nat.le_of_ble_eq_true rfl⟩) (dq_preV (ci := 7) hW hS hA hK hZ o0 rfl rfl) rfl rfl hl.1 rfl (lv_room (Nat.le_of_ble_eq_true rfl)) dDH_hit_1 ⟨Nat.zero_le _, Nat.zero_le _⟩) (fun _ => ?_)
  refine lv_aload_n hx hb dDH_hit_4 rfl (lv_at hl 0 rfl) ?_
  refine lv_iload_n hx hb dDH_hit_5 rfl (lv_at hl 1 rfl) ?_
  refine dx_callV (As := [.int a0]) (rest := []) ⟨hx, hb, hml, hown, hts⟩ (t_qhit l htr D g ad (w) _ sg pl hc a0 o0 t18 h0) (cwV 1 hts (dq_giV tw3_61 tw3_63 twp_15 tw1_1 tw3_64) rfl rfl rfl (by decide +kernel) ⟨Nat.le_of_ble_eq_true rfl, Nat.le_of_ble_eq_true rfl⟩) (dq_preV (ci := 7) hW hS hA hK hZ o0 rfl rfl) rfl hl.1 rfl (lv_room (Nat.le_of_ble_eq_true rfl)) dDH_hit_6 ⟨Nat.le_of_ble_eq_true rfl, Nat.le_of_ble_eq_true rfl⟩ hS (dq_A.sub hW hS hA) (fun q9 E9 ce9 t9 H locs ht9 hal9 hX9 hz9 hk9 hS9 hce9 hcv9 hcl9 => ?_)
  obtain ⟨hE9, hW9, hK9⟩ := hX9
  rw [ht9] at hW9
  exact dx_out hout hlocks hce9 hcv9 hcl9 (fun t h1 h2 => ⟨hE9, by rw [h1]; exact hW9.weaken (dq_A.sub hW hS hA), va_K.moved h2 hK⟩) hS9 (Nat.le_of_ble_eq_true rfl) (Nat.le_of_ble_eq_true rfl)

set_option maxHeartbeats 4000000 in
set_option maxRecDepth 100000 in
/-- hit, nothing of that number -/
theorem t_hit3 (l : Launch) (htr : l.stackTraces = false) (D : va_G) (g : Nat → ClassId) (ad : Nat → Nat) (w : Nat → Option va_E) (sz : Nat) (sg pl : Int32) (hc : Nat) (k : Nat) (a1 : Int32) (o0 : w 0 = some (.inr (7, [.ref (ad 1), .ref (ad 5), .ref (ad 12), .ref (ad 17), .ref (ad 18), .ref (ad 23), .ref (ad 25), .int sg, .int pl]))) (t18 : w 18 = some (.inr (2, [.ref (ad 19), .ref (ad 20), .ref (ad 21), .ref (ad 22), .int (nI hc)]))) (hpl : ¬ pl = 0) (hk : k < hc) (hc14 : hc ≤ 14) (h0 : a1.toInt < 0 ∨ 3 < a1.toInt) : dx_M l yDH_hit wsDH_hit ({ frames := 8, cells := 1, slots := 6, locals := 136 } : Room) (va_Pc [.ref (ad 0), .int (nI k), .int a1] (dq_S D vwCl (dq_t g) ad w sz)) (dx_X D vwCl (dq_t g) ad w (dq_A ad w sz) (fun E => E = "java/lang/IllegalArgumentException")) (dq_A ad w sz) 1 6 := by
  refine dx_of (cc := cDH_hit) (maxL := 3) (by decide) rfl (Nat.le_of_ble_eq_true rfl) ?_
  intro p e s m below meth c A ls ⟨hx, hb, hml, hown, hts⟩ hnm hA hW hK hZ hl hout hlocks
  have hS : va_S A s.heap s.heap [] := va_S.rf
  have hl : lv_has ls 3 [(0, .ref (ad 0)), (1, .int (nI k)), (2, .int a1)] := hl
  have hf51 := hts _ (List.mem_cons_of_mem _ tw1_218)
  have hf147 := hts _ (List.mem_cons_of_mem _ tw1_164)
  have hf148 := hts _ (List.mem_cons_of_mem _ tw1_167)
  have hf149 := hts _ (List.mem_cons_of_mem _ tw1_169)
  have hf152 := hts _ (List.mem_cons_of_mem _ tw1_171)
  have hinDH : ∀ w ∈ u_ws RDH TDH 9, w ∈ wsDH_hit := fun w h => List.mem_cons_of_mem _ (inDH w h)
  have hinHt : ∀ w ∈ u_ws RHt THt 5, w ∈ wsDH_hit := fun w h => List.mem_cons_of_mem _ (inHt w h)
  refine lv_aload_n hx hb dDH_hit_0 rfl (lv_at hl 0 rfl) ?_
  refine va_csv (W.runV (As := []) (rest := []) ⟨hx, hb, hml, hown, hts⟩ (c_planned l D g ad (w) _ sg pl o0 hpl) (cwV 0 hts (dq_giV tw3_56 tw3_58 twp_14 tw1_1 tw3_59) rfl rfl rfl (by decide +kernel) ⟨Nat.le_of_ble_eq_true rfl, Nat.le_of_ble_eq_true rfl⟩) (dq_preV (ci := 7) hW hS hA hK hZ o0 rfl rfl) rfl rfl hl.1 rfl (lv_room (Nat.le_of_ble_eq_true rfl)) dDH_hit_1 ⟨Nat.zero_le _, Nat.zero_le _⟩) (fun _ => ?_)
  refine lv_aload_n hx hb dDH_hit_4 rfl (lv_at hl 0 rfl) ?_
  refine lv_iload_n hx hb dDH_hit_5 rfl (lv_at hl 1 rfl) ?_
  refine va_csv (W.runV (As := [.int (nI k)]) (rest := []) ⟨hx, hb, hml, hown, hts⟩ (c_qhit l D g ad (w) _ sg pl hc (nI k) o0 t18 (nI_pos (show k < 2 ^ 31 by omega)) (nI_lt hk (by omega))) (cwV 1 hts (dq_giV tw3_61 tw3_63 twp_15 tw1_1 tw3_64) rfl rfl rfl (by decide +kernel) ⟨Nat.le_of_ble_eq_true rfl, Nat.le_of_ble_eq_true rfl⟩) (dq_preV (ci := 7) hW hS hA hK hZ o0 rfl rfl) rfl rfl hl.1 rfl (lv_room (Nat.le_of_ble_eq_true rfl)) dDH_hit_6 ⟨Nat.zero_le _, Nat.zero_le _⟩) (fun _ => ?_)
  refine lv_iload_n hx hb dDH_hit_9 rfl (lv_at hl 2 rfl) ?_
  refine lv_tableOut (x := a1) (tgt := 80) hx hb dDH_hit_10 h0 (by decide) ?_
  exact dx_throw htr hx hb hml hown (hts _ (List.mem_cons_of_mem _ (dq_in2 202 rfl rfl))) (hts _ (List.mem_cons_of_mem _ (dq_in2 203 rfl rfl))) (hts _ (List.mem_cons_of_mem _ (dq_in1 15 rfl rfl))) hZ.s157 (dx_ia hts hZ) (by decide +kernel) (by decide +kernel) hl.1 dDH_hit_80 dDH_hit_83 dDH_hit_84 dDH_hit_86 dDH_hit_89 hout hlocks ⟨Nat.le_of_ble_eq_true rfl, Nat.le_of_ble_eq_true rfl, Nat.le_refl _, Nat.le_refl _⟩ ⟨Nat.le_refl _, Nat.le_refl _⟩ (fun t9 hk9 hal9 => ⟨rfl, hW.kept hk9, va_K.moved hal9 hK⟩)

set_option maxHeartbeats 4000000 in
set_option maxRecDepth 100000 in
/-- hit(k, 0) -/
theorem c_hit_0 (l : Launch) (D : va_G) (g : Nat → ClassId) (ad : Nat → Nat) (w : Nat → Option va_E) (sz : Nat) (sg pl : Int32) (hX hY hF hs : Nat → Int32) (hc : Nat) (k : Nat) (o0 : w 0 = some (.inr (7, [.ref (ad 1), .ref (ad 5), .ref (ad 12), .ref (ad 17), .ref (ad 18), .ref (ad 23), .ref (ad 25), .int sg, .int pl]))) (t18 : w 18 = some (.inr (2, [.ref (ad 19), .ref (ad 20), .ref (ad 21), .ref (ad 22), .int (nI hc)]))) (t19 : w 19 = some (.inl (g 0, 14, .inl hX))) (t20 : w 20 = some (.inl (g 0, 14, .inl hY))) (t21 : w 21 = some (.inl (g 0, 14, .inl hF))) (t22 : w 22 = some (.inl (g 0, 14, .inl hs))) (hpl : ¬ pl = 0) (hk : k < hc) (hc14 : hc ≤ 14) : Met l yDH_hit wsDH_hit ({ frames := 8, cells := 0, slots := 0, locals := 136 } : Room) (va_Pc [.ref (ad 0), .int (nI k), .int 0] (dq_S D vwCl (dq_t g) ad w sz)) (va_Qi (fun r u => r = hX k ∧ u = w) (dq_B D vwCl (dq_t g) ad (dq_A ad w sz)) (dq_A ad w sz)) 0 0 (dq_A ad w sz) := by
  refine dq_ofi (cc := cDH_hit) (maxL := 3) (by decide) rfl (Nat.le_of_ble_eq_true rfl) ?_
  intro p e s m below meth c A Q ls ⟨hx, hb, hml, hown, hts⟩ hnm hA hW hK hZ hl hret
  have hS : va_S A s.heap s.heap [] := va_S.rf
  have hl : lv_has ls 3 [(0, .ref (ad 0)), (1, .int (nI k)), (2, .int 0)] := hl
  have hf51 := hts _ (List.mem_cons_of_mem _ tw1_218)
  have hf147 := hts _ (List.mem_cons_of_mem _ tw1_164)
  have hf148 := hts _ (List.mem_cons_of_mem _ tw1_167)
  have hf149 := hts _ (List.mem_cons_of_mem _ tw1_169)
  have hf152 := hts _ (List.mem_cons_of_mem _ tw1_171)
  have hinDH : ∀ w ∈ u_ws RDH TDH 9, w ∈ wsDH_hit := fun w h => List.mem_cons_of_mem _ (inDH w h)
  have hinHt : ∀ w ∈ u_ws RHt THt 5, w ∈ wsDH_hit := fun w h => List.mem_cons_of_mem _ (inHt w h)
  refine lv_aload_n hx hb dDH_hit_0 rfl (lv_at hl 0 rfl) ?_
  refine va_csv (W.runV (As := []) (rest := []) ⟨hx, hb, hml, hown, hts⟩ (c_planned l D g ad (w) _ sg pl o0 hpl) (cwV 0 hts (dq_giV tw3_56 tw3_58 twp_14 tw1_1 tw3_59) rfl rfl rfl (by decide +kernel) ⟨Nat.le_of_ble_eq_true rfl, Nat.le_of_ble_eq_true rfl⟩) (dq_preV (ci := 7) hW hS hA hK hZ o0 rfl rfl) rfl rfl hl.1 rfl (lv_room (Nat.le_of_ble_eq_true rfl)) dDH_hit_1 ⟨Nat.zero_le _, Nat.zero_le _⟩) (fun _ => ?_)
  refine lv_aload_n hx hb dDH_hit_4 rfl (lv_at hl 0 rfl) ?_
  refine lv_iload_n hx hb dDH_hit_5 rfl (lv_at hl 1 rfl) ?_
  refine va_csv (W.runV (As := [.int (nI k)]) (rest := []) ⟨hx, hb, hml, hown, hts⟩ (c_qhit l D g ad (w) _ sg pl hc (nI k) o0 t18 (nI_pos (show k < 2 ^ 31 by omega)) (nI_lt hk (by omega))) (cwV 1 hts (dq_giV tw3_61 tw3_63 twp_15 tw1_1 tw3_64) rfl rfl rfl (by decide +kernel) ⟨Nat.le_of_ble_eq_true rfl, Nat.le_of_ble_eq_true rfl⟩) (dq_preV (ci := 7) hW hS hA hK hZ o0 rfl rfl) rfl rfl hl.1 rfl (lv_room (Nat.le_of_ble_eq_true rfl)) dDH_hit_6 ⟨Nat.zero_le _, Nat.zero_le _⟩) (fun _ => ?_)
  refine lv_iload_n hx hb dDH_hit_9 rfl (lv_at hl 2 rfl) ?_
  refine lv_tableIn (x := 0) (off := 30) (tgt := 40) hx hb dDH_hit_10 (by decide) (by decide) (by decide) (by decide) ?_
  refine lv_aload_n hx hb dDH_hit_40 rfl (lv_at hl 0 rfl) ?_
  refine dq_get (D := D) (ci := 7) (v := .ref (ad 18)) (C := RDH) (T := TDH) (N := 9) hx hb hts hinDH hown hK hW 0 o0 rfl 4 (by decide) hf51 (fun _ h9 => h9) rfl dDH_hit_41 ?_
  refine dq_get (D := D) (ci := 2) (v := .ref (ad 19)) (C := RHt) (T := THt) (N := 5) hx hb hts hinHt hown hK hW 18 t18 rfl 0 (by decide) hf147 (fun _ h9 => h9) rfl dDH_hit_44 ?_
  refine lv_iload_n hx hb dDH_hit_47 rfl (lv_at hl 1 rfl) ?_
  refine dq_ialdN hx hb hK hW 19 0 t19 rfl k (by omega) (by omega) dDH_hit_48 ?_
  exact hret _ _ _ _ _ _ ⟨rfl, rfl⟩ hW hS dDH_hit_49

set_option maxHeartbeats 4000000 in
set_option maxRecDepth 100000 in
/-- hit(k, 1) -/
theorem c_hit_1 (l : Launch) (D : va_G) (g : Nat → ClassId) (ad : Nat → Nat) (w : Nat → Option va_E) (sz : Nat) (sg pl : Int32) (hX hY hF hs : Nat → Int32) (hc : Nat) (k : Nat) (o0 : w 0 = some (.inr (7, [.ref (ad 1), .ref (ad 5), .ref (ad 12), .ref (ad 17), .ref (ad 18), .ref (ad 23), .ref (ad 25), .int sg, .int pl]))) (t18 : w 18 = some (.inr (2, [.ref (ad 19), .ref (ad 20), .ref (ad 21), .ref (ad 22), .int (nI hc)]))) (t19 : w 19 = some (.inl (g 0, 14, .inl hX))) (t20 : w 20 = some (.inl (g 0, 14, .inl hY))) (t21 : w 21 = some (.inl (g 0, 14, .inl hF))) (t22 : w 22 = some (.inl (g 0, 14, .inl hs))) (hpl : ¬ pl = 0) (hk : k < hc) (hc14 : hc ≤ 14) : Met l yDH_hit wsDH_hit ({ frames := 8, cells := 0, slots := 0, locals := 136 } : Room) (va_Pc [.ref (ad 0), .int (nI k), .int 1] (dq_S D vwCl (dq_t g) ad w sz)) (va_Qi (fun r u => r = hY k ∧ u = w) (dq_B D vwCl (dq_t g) ad (dq_A ad w sz)) (dq_A ad w sz)) 0 0 (dq_A ad w sz) := by
  refine dq_ofi (cc := cDH_hit) (maxL := 3) (by decide) rfl (Nat.le_of_ble_eq_true rfl) ?_
  intro p e s m below meth c A Q ls ⟨hx, hb, hml, hown, hts⟩ hnm hA hW hK hZ hl hret
  have hS : va_S A s.heap s.heap [] := va_S.rf
  have hl : lv_has ls 3 [(0, .ref (ad 0)), (1, .int (nI k)), (2, .int 1)] := hl
  have hf51 := hts _ (List.mem_cons_of_mem _ tw1_218)
  have hf147 := hts _ (List.mem_cons_of_mem _ tw1_164)
  have hf148 := hts _ (List.mem_cons_of_mem _ tw1_167)
  have hf149 := hts _ (List.mem_cons_of_mem _ tw1_169)
  have hf152 := hts _ (List.mem_cons_of_mem _ tw1_171)
  have hinDH : ∀ w ∈ u_ws RDH TDH 9, w ∈ wsDH_hit := fun w h => List.mem_cons_of_mem _ (inDH w h)
  have hinHt : ∀ w ∈ u_ws RHt THt 5, w ∈ wsDH_hit := fun w h => List.mem_cons_of_mem _ (inHt w h)
  refine lv_aload_n hx hb dDH_hit_0 rfl (lv_at hl 0 rfl) ?_
  refine va_csv (W.runV (As := []) (rest := []) ⟨hx, hb, hml, hown, hts⟩ (c_planned l D g ad (w) _ sg pl o0 hpl) (cwV 0 hts (dq_giV tw3_56 tw3_58 twp_14 tw1_1 tw3_59) rfl rfl rfl (by decide +kernel) ⟨Nat.le_of_ble_eq_true rfl, Nat.le_of_ble_eq_true rfl⟩) (dq_preV (ci := 7) hW hS hA hK hZ o0 rfl rfl) rfl rfl hl.1 rfl (lv_room (Nat.le_of_ble_eq_true rfl)) dDH_hit_1 ⟨Nat.zero_le _, Nat.zero_le _⟩) (fun _ => ?_)
  refine lv_aload_n hx hb dDH_hit_4 rfl (lv_at hl 0 rfl) ?_
  refine lv_iload_n hx hb dDH_hit_5 rfl (lv_at hl 1 rfl) ?_
  refine va_csv (W.runV (As := [.int (nI k)]) (rest := []) ⟨hx, hb, hml, hown, hts⟩ (c_qhit l D g ad (w) _ sg pl hc (nI k) o0 t18 (nI_pos (show k < 2 ^ 31 by omega)) (nI_lt hk (by omega))) (cwV 1 hts (dq_giV tw3_61 tw3_63 twp_15 tw1_1 tw3_64) rfl rfl rfl (by decide +kernel) ⟨Nat.le_of_ble_eq_true rfl, Nat.le_of_ble_eq_true rfl⟩) (dq_preV (ci := 7) hW hS hA hK hZ o0 rfl rfl) rfl rfl hl.1 rfl (lv_room (Nat.le_of_ble_eq_true rfl)) dDH_hit_6 ⟨Nat.zero_le _, Nat.zero_le _⟩) (fun _ => ?_)
  refine lv_iload_n hx hb dDH_hit_9 rfl (lv_at hl 2 rfl) ?_
  refine lv_tableIn (x := 1) (off := 40) (tgt := 50) hx hb dDH_hit_10 (by decide) (by decide) (by decide) (by decide) ?_
  refine lv_aload_n hx hb dDH_hit_50 rfl (lv_at hl 0 rfl) ?_
  refine dq_get (D := D) (ci := 7) (v := .ref (ad 18)) (C := RDH) (T := TDH) (N := 9) hx hb hts hinDH hown hK hW 0 o0 rfl 4 (by decide) hf51 (fun _ h9 => h9) rfl dDH_hit_51 ?_
  refine dq_get (D := D) (ci := 2) (v := .ref (ad 20)) (C := RHt) (T := THt) (N := 5) hx hb hts hinHt hown hK hW 18 t18 rfl 1 (by decide) hf148 (fun _ h9 => h9) rfl dDH_hit_54 ?_
  refine lv_iload_n hx hb dDH_hit_57 rfl (lv_at hl 1 rfl) ?_
  refine dq_ialdN hx hb hK hW 20 0 t20 rfl k (by omega) (by omega) dDH_hit_58 ?_
  exact hret _ _ _ _ _ _ ⟨rfl, rfl⟩ hW hS dDH_hit_59

set_option maxHeartbeats 4000000 in
set_option maxRecDepth 100000 in
/-- hit(k, 2) -/
theorem c_hit_2 (l : Launch) (D : va_G) (g : Nat → ClassId) (ad : Nat → Nat) (w : Nat → Option va_E) (sz : Nat) (sg pl : Int32) (hX hY hF hs : Nat → Int32) (hc : Nat) (k : Nat) (o0 : w 0 = some (.inr (7, [.ref (ad 1), .ref (ad 5), .ref (ad 12), .ref (ad 17), .ref (ad 18), .ref (ad 23), .ref (ad 25), .int sg, .int pl]))) (t18 : w 18 = some (.inr (2, [.ref (ad 19), .ref (ad 20), .ref (ad 21), .ref (ad 22), .int (nI hc)]))) (t19 : w 19 = some (.inl (g 0, 14, .inl hX))) (t20 : w 20 = some (.inl (g 0, 14, .inl hY))) (t21 : w 21 = some (.inl (g 0, 14, .inl hF))) (t22 : w 22 = some (.inl (g 0, 14, .inl hs))) (hpl : ¬ pl = 0) (hk : k < hc) (hc14 : hc ≤ 14) : Met l yDH_hit wsDH_hit ({ frames := 8, cells := 0, slots := 0, locals := 136 } : Room) (va_Pc [.ref (ad 0), .int (nI k), .int 2] (dq_S D vwCl (dq_t g) ad w sz)) (va_Qi (fun r u => r = hF k ∧ u = w) (dq_B D vwCl (dq_t g) ad (dq_A ad w sz)) (dq_A ad w sz)) 0 0 (dq_A ad w sz) := by
  refine dq_ofi (cc := cDH_hit) (maxL := 3) (by decide) rfl (Nat.le_of_ble_eq_true rfl) ?_
  intro p e s m below meth c A Q ls ⟨hx, hb, hml, hown, hts⟩ hnm hA hW hK hZ hl hret
  have hS : va_S A s.heap s.heap [] := va_S.rf
  have hl : lv_has ls 3 [(0, .ref (ad 0)), (1, .int (nI k)), (2, .int 2)] := hl
  have hf51 := hts _ (List.mem_cons_of_mem _ tw1_218)
  have hf147 := hts _ (List.mem_cons_of_mem _ tw1_164)
  have hf148 := hts _ (List.mem_cons_of_mem _ tw1_167)
  have hf149 := hts _ (List.mem_cons_of_mem _ tw1_169)
  have hf152 := hts _ (List.mem_cons_of_mem _ tw1_171)
  have hinDH : ∀ w ∈ u_ws RDH TDH 9, w ∈ wsDH_hit := fun w h => List.mem_cons_of_mem _ (inDH w h)
  have hinHt : ∀ w ∈ u_ws RHt THt 5, w ∈ wsDH_hit := fun w h => List.mem_cons_of_mem _ (inHt w h)
  refine lv_aload_n hx hb dDH_hit_0 rfl (lv_at hl 0 rfl) ?_
  refine va_csv (W.runV (As := []) (rest := []) ⟨hx, hb, hml, hown, hts⟩ (c_planned l D g ad (w) _ sg pl o0 hpl) (cwV 0 hts (dq_giV tw3_56 tw3_58 twp_14 tw1_1 tw3_59) rfl rfl rfl (by decide +kernel) ⟨Nat.le_of_ble_eq_true rfl, Nat.le_of_ble_eq_true rfl⟩) (dq_preV (ci := 7) hW hS hA hK hZ o0 rfl rfl) rfl rfl hl.1 rfl (lv_room (Nat.le_of_ble_eq_true rfl)) dDH_hit_1 ⟨Nat.zero_le _, Nat.zero_le _⟩) (fun _ => ?_)
  refine lv_aload_n hx hb dDH_hit_4 rfl (lv_at hl 0 rfl) ?_
  refine lv_iload_n hx hb dDH_hit_5 rfl (lv_at hl 1 rfl) ?_
  refine va_csv (W.runV (As := [.int (nI k)]) (rest := []) ⟨hx, hb, hml, hown, hts⟩ (c_qhit l D g ad (w) _ sg pl hc (nI k) o0 t18 (nI_pos (show k < 2 ^ 31 by omega)) (nI_lt hk (by omega))) (cwV 1 hts (dq_giV tw3_61 tw3_63 twp_15 tw1_1 tw3_64) rfl rfl rfl (by decide +kernel) ⟨Nat.le_of_ble_eq_true rfl, Nat.le_of_ble_eq_true rfl⟩) (dq_preV (ci := 7) hW hS hA hK hZ o0 rfl rfl) rfl rfl hl.1 rfl (lv_room (Nat.le_of_ble_eq_true rfl)) dDH_hit_6 ⟨Nat.zero_le _, Nat.zero_le _⟩) (fun _ => ?_)
  refine lv_iload_n hx hb dDH_hit_9 rfl (lv_at hl 2 rfl) ?_
  refine lv_tableIn (x := 2) (off := 50) (tgt := 60) hx hb dDH_hit_10 (by decide) (by decide) (by decide) (by decide) ?_
  refine lv_aload_n hx hb dDH_hit_60 rfl (lv_at hl 0 rfl) ?_
  refine dq_get (D := D) (ci := 7) (v := .ref (ad 18)) (C := RDH) (T := TDH) (N := 9) hx hb hts hinDH hown hK hW 0 o0 rfl 4 (by decide) hf51 (fun _ h9 => h9) rfl dDH_hit_61 ?_
  refine dq_get (D := D) (ci := 2) (v := .ref (ad 21)) (C := RHt) (T := THt) (N := 5) hx hb hts hinHt hown hK hW 18 t18 rfl 2 (by decide) hf149 (fun _ h9 => h9) rfl dDH_hit_64 ?_
  refine lv_iload_n hx hb dDH_hit_67 rfl (lv_at hl 1 rfl) ?_
  refine dq_ialdN hx hb hK hW 21 0 t21 rfl k (by omega) (by omega) dDH_hit_68 ?_
  exact hret _ _ _ _ _ _ ⟨rfl, rfl⟩ hW hS dDH_hit_69

set_option maxHeartbeats 4000000 in
set_option maxRecDepth 100000 in
/-- hit(k, 3) -/
theorem c_hit_3 (l : Launch) (D : va_G) (g : Nat → ClassId) (ad : Nat → Nat) (w : Nat → Option va_E) (sz : Nat) (sg pl : Int32) (hX hY hF hs : Nat → Int32) (hc : Nat) (k : Nat) (o0 : w 0 = some (.inr (7, [.ref (ad 1), .ref (ad 5), .ref (ad 12), .ref (ad 17), .ref (ad 18), .ref (ad 23), .ref (ad 25), .int sg, .int pl]))) (t18 : w 18 = some (.inr (2, [.ref (ad 19), .ref (ad 20), .ref (ad 21), .ref (ad 22), .int (nI hc)]))) (t19 : w 19 = some (.inl (g 0, 14, .inl hX))) (t20 : w 20 = some (.inl (g 0, 14, .inl hY))) (t21 : w 21 = some (.inl (g 0, 14, .inl hF))) (t22 : w 22 = some (.inl (g 0, 14, .inl hs))) (hpl : ¬ pl = 0) (hk : k < hc) (hc14 : hc ≤ 14) : Met l yDH_hit wsDH_hit ({ frames := 8, cells := 0, slots := 0, locals := 136 } : Room) (va_Pc [.ref (ad 0), .int (nI k), .int 3] (dq_S D vwCl (dq_t g) ad w sz)) (va_Qi (fun r u => r = hs k ∧ u = w) (dq_B D vwCl (dq_t g) ad (dq_A ad w sz)) (dq_A ad w sz)) 0 0 (dq_A ad w sz) := by
  refine dq_ofi (cc := cDH_hit) (maxL := 3) (by decide) rfl (Nat.le_of_ble_eq_true rfl) ?_
  intro p e s m below meth c A Q ls ⟨hx, hb, hml, hown, hts⟩ hnm hA hW hK hZ hl hret
  have hS : va_S A s.heap s.heap [] := va_S.rf
  have hl : lv_has ls 3 [(0, .ref (ad 0)), (1, .int (nI k)), (2, .int 3)] := hl
  have hf51 := hts _ (List.mem_cons_of_mem _ tw1_218)
  have hf147 := hts _ (List.mem_cons_of_mem _ tw1_164)
  have hf148 := hts _ (List.mem_cons_of_mem _ tw1_167)
  have hf149 := hts _ (List.mem_cons_of_mem _ tw1_169)
  have hf152 := hts _ (List.mem_cons_of_mem _ tw1_171)
  have hinDH : ∀ w ∈ u_ws RDH TDH 9, w ∈ wsDH_hit := fun w h => List.mem_cons_of_mem _ (inDH w h)
  have hinHt : ∀ w ∈ u_ws RHt THt 5, w ∈ wsDH_hit := fun w h => List.mem_cons_of_mem _ (inHt w h)
  refine lv_aload_n hx hb dDH_hit_0 rfl (lv_at hl 0 rfl) ?_
  refine va_csv (W.runV (As := []) (rest := []) ⟨hx, hb, hml, hown, hts⟩ (c_planned l D g ad (w) _ sg pl o0 hpl) (cwV 0 hts (dq_giV tw3_56 tw3_58 twp_14 tw1_1 tw3_59) rfl rfl rfl (by decide +kernel) ⟨Nat.le_of_ble_eq_true rfl, Nat.le_of_ble_eq_true rfl⟩) (dq_preV (ci := 7) hW hS hA hK hZ o0 rfl rfl) rfl rfl hl.1 rfl (lv_room (Nat.le_of_ble_eq_true rfl)) dDH_hit_1 ⟨Nat.zero_le _, Nat.zero_le _⟩) (fun _ => ?_)
  refine lv_aload_n hx hb dDH_hit_4 rfl (lv_at hl 0 rfl) ?_
  refine lv_iload_n hx hb dDH_hit_5 rfl (lv_at hl 1 rfl) ?_
  refine va_csv (W.runV (As := [.int (nI k)]) (rest := []) ⟨hx, hb, hml, hown, hts⟩ (c_qhit l D g ad (w) _ sg pl hc (nI k) o0 t18 (nI_pos (show k < 2 ^ 31 by omega)) (nI_lt hk (by omega))) (cwV 1 hts (dq_giV tw3_61 tw3_63 twp_15 tw1_1 tw3_64) rfl rfl rfl (by decide +kernel) ⟨Nat.le_of_ble_eq_true rfl, Nat.le_of_ble_eq_true rfl⟩) (dq_preV (ci := 7) hW hS hA hK hZ o0 rfl rfl) rfl rfl hl.1 rfl (lv_room (Nat.le_of_ble_eq_true rfl)) dDH_hit_6 ⟨Nat.zero_le _, Nat.zero_le _⟩) (fun _ => ?_)
  refine lv_iload_n hx hb dDH_hit_9 rfl (lv_at hl 2 rfl) ?_
  refine lv_tableIn (x := 3) (off := 60) (tgt := 70) hx hb dDH_hit_10 (by decide) (by decide) (by decide) (by decide) ?_
  refine lv_aload_n hx hb dDH_hit_70 rfl (lv_at hl 0 rfl) ?_
  refine dq_get (D := D) (ci := 7) (v := .ref (ad 18)) (C := RDH) (T := TDH) (N := 9) hx hb hts hinDH hown hK hW 0 o0 rfl 4 (by decide) hf51 (fun _ h9 => h9) rfl dDH_hit_71 ?_
  refine dq_get (D := D) (ci := 2) (v := .ref (ad 22)) (C := RHt) (T := THt) (N := 5) hx hb hts hinHt hown hK hW 18 t18 rfl 3 (by decide) hf152 (fun _ h9 => h9) rfl dDH_hit_74 ?_
  refine lv_iload_n hx hb dDH_hit_77 rfl (lv_at hl 1 rfl) ?_
  refine dq_ialdN hx hb hK hW 22 0 t22 rfl k (by omega) (by omega) dDH_hit_78 ?_
  exact hret _ _ _ _ _ _ ⟨rfl, rfl⟩ hW hS dDH_hit_79
set_option maxHeartbeats 4000000 in
set_option maxRecDepth 100000 in
/-- drills, not planned -/
theorem t_drills1 (l : Launch) (htr : l.stackTraces = false) (D : va_G) (g : Nat → ClassId) (ad : Nat → Nat) (w : Nat → Option va_E) (sz : Nat) (sg pl : Int32) (a0 a1 : Int32) (o0 : w 0 = some (.inr (7, [.ref (ad 1), .ref (ad 5), .ref (ad 12), .ref (ad 17), .ref (ad 18), .ref (ad 23), .ref (ad 25), .int sg, .int pl]))) (hpl : pl = 0) : dx_M l yDH_drills wsDH_drills ({ frames := 8, cells := 1, slots := 6, locals := 136 } : Room) (va_Pc [.ref (ad 0), .int a0, .int a1] (dq_S D vwCl (dq_t g) ad w sz)) (dx_X D vwCl (dq_t g) ad w (dq_A ad w sz) (fun E => E = "java/lang/IllegalStateException")) (dq_A ad w sz) 1 6 := by
  refine dx_of (cc := cDH_drills) (maxL := 3) (by decide) rfl (Nat.le_of_ble_eq_true rfl) ?_
  intro p e s m below meth c A ls ⟨hx, hb, hml, hown, hts⟩ hnm hA hW hK hZ hl hout hlocks
  have hS : va_S A s.heap s.heap [] := va_S.rf
  have hl : lv_has ls 3 [(0, .ref (ad 0)), (1, .int a0), (2, .int a1)] := hl
  have hf51 := hts _ (List.mem_cons_of_mem _ tw1_218)
  have hf152 := hts _ (List.mem_cons_of_mem _ tw1_171)
  have hinDH : ∀ w ∈ u_ws RDH TDH 9, w ∈ wsDH_drills := fun w h => List.mem_cons_of_mem _ (inDH w h)
  have hinHt : ∀ w ∈ u_ws RHt THt 5, w ∈ wsDH_drills := fun w h => List.mem_cons_of_mem _ (inHt w h)
  refine lv_aload_n hx hb dDH_drills_0 rfl (lv_at hl 0 rfl) ?_
  refine dx_callV (As := []) (rest := []) ⟨hx, hb, hml, hown, hts⟩ (t_planned l htr D g ad (w) _ sg pl o0 hpl) (cwV 0 hts (dq_giV tw3_56 tw3_58 twp_14 tw1_1 tw3_59) rfl rfl rfl (by decide +kernel) ⟨Nat.le_of_ble_eq_true rfl, Nat.le_of_ble_eq_true rfl⟩) (dq_preV (ci := 7) hW hS hA hK hZ o0 rfl rfl) rfl hl.1 rfl (lv_room (Nat.le_of_ble_eq_true rfl)) dDH_drills_1 ⟨Nat.le_of_ble_eq_true rfl, Nat.le_of_ble_eq_true rfl⟩ hS (dq_A.sub hW hS hA) (fun q9 E9 ce9 t9 H locs ht9 hal9 hX9 hz9 hk9 hS9 hce9 hcv9 hcl9 => ?_)
  obtain ⟨hE9, hW9, hK9⟩ := hX9
  rw [ht9] at hW9
  exact dx_out hout hlocks hce9 hcv9 hcl9 (fun t h1 h2 => ⟨hE9, by rw [h1]; exact hW9.weaken (dq_A.sub hW hS hA), va_K.moved h2 hK⟩) hS9 (Nat.le_of_ble_eq_true rfl) (Nat.le_of_ble_eq_true rfl)

set_option maxHeartbeats 4000000 in
set_option maxRecDepth 100000 in
/-- drills, no such hit -/
theorem t_drills2 (l : Launch) (htr : l.stackTraces = false) (D : va_G) (g : Nat → ClassId) (ad : Nat → Nat) (w : Nat → Option va_E) (sz : Nat) (sg pl : Int32) (hc : Nat) (a0 a1 : Int32) (o0 : w 0 = some (.inr (7, [.ref (ad 1), .ref (ad 5), .ref (ad 12), .ref (ad 17), .ref (ad 18), .ref (ad 23), .ref (ad 25), .int sg, .int pl]))) (t18 : w 18 = some (.inr (2, [.ref (ad 19), .ref (ad 20), .ref (ad 21), .ref (ad 22), .int (nI hc)]))) (hpl : ¬ pl = 0) (h0 : a0 < 0 ∨ ¬ a0 < nI hc) : dx_M l yDH_drills wsDH_drills ({ frames := 8, cells := 1, slots := 6, locals := 136 } : Room) (va_Pc [.ref (ad 0), .int a0, .int a1] (dq_S D vwCl (dq_t g) ad w sz)) (dx_X D vwCl (dq_t g) ad w (dq_A ad w sz) (fun E => E = "java/lang/IndexOutOfBoundsException")) (dq_A ad w sz) 1 6 := by
  refine dx_of (cc := cDH_drills) (maxL := 3) (by decide) rfl (Nat.le_of_ble_eq_true rfl) ?_
  intro p e s m below meth c A ls ⟨hx, hb, hml, hown, hts⟩ hnm hA hW hK hZ hl hout hlocks
  have hS : va_S A s.heap s.heap [] := va_S.rf
  have hl : lv_has ls 3 [(0, .ref (ad 0)), (1, .int a0), (2, .int a1)] := hl
  have hf51 := hts _ (List.mem_cons_of_mem _ tw1_218)
  have hf152 := hts _ (List.mem_cons_of_mem _ tw1_171)
  have hinDH : ∀ w ∈ u_ws RDH TDH 9, w ∈ wsDH_drills := fun w h => List.mem_cons_of_mem _ (inDH w h)
  have hinHt : ∀ w ∈ u_ws RHt THt 5, w ∈ wsDH_drills := fun w h => List.mem_cons_of_mem _ (inHt w h)
  refine lv_aload_n hx hb dDH_drills_0 rfl (lv_at hl 0 rfl) ?_
  refine va_csv (W.runV (As := []) (rest := []) ⟨hx, hb, hml, hown, hts⟩ (c_planned l D g ad (w) _ sg pl o0 hpl) (cwV 0 hts (dq_giV tw3_56 tw3_58 twp_14 tw1_1 tw3_59) rfl rfl rfl (by decide +kernel) ⟨Nat.le_of_ble_eq_true rfl, Nat.le_of_ble_eq_true rfl⟩) (dq_preV (ci := 7) hW hS hA hK hZ o0 rfl rfl) rfl rfl hl.1 rfl (lv_room (Nat.le_of_ble_eq_true rfl)) dDH_drills_1 ⟨Nat.zero_le _, Nat.zero_le _⟩) (fun _ => ?_)
  refine lv_aload_n hx hb dDH_drills_4 rfl (lv_at hl 0 rfl) ?_
  refine lv_iload_n hx hb dDH_drills_5 rfl (lv_at hl 1 rfl) ?_
  refine dx_callV (As := [.int a0]) (rest := []) ⟨hx, hb, hml, hown, hts⟩ (t_qhit l htr D g ad (w) _ sg pl hc a0 o0 t18 h0) (cwV 1 hts (dq_giV tw3_61 tw3_63 twp_15 tw1_1 tw3_64) rfl rfl rfl (by decide +kernel) ⟨Nat.le_of_ble_eq_true rfl, Nat.le_of_ble_eq_true rfl⟩) (dq_preV (ci := 7) hW hS hA hK hZ o0 rfl rfl) rfl hl.1 rfl (lv_room (Nat.le_of_ble_eq_true rfl)) dDH_drills_6 ⟨Nat.le_of_ble_eq_true rfl, Nat.le_of_ble_eq_true rfl⟩ hS (dq_A.sub hW hS hA) (fun q9 E9 ce9 t9 H locs ht9 hal9 hX9 hz9 hk9 hS9 hce9 hcv9 hcl9 => ?_)
  obtain ⟨hE9, hW9, hK9⟩ := hX9
  rw [ht9] at hW9
  exact dx_out hout hlocks hce9 hcv9 hcl9 (fun t h1 h2 => ⟨hE9, by rw [h1]; exact hW9.weaken (dq_A.sub hW hS hA), va_K.moved h2 hK⟩) hS9 (Nat.le_of_ble_eq_true rfl) (Nat.le_of_ble_eq_true rfl)

set_option maxHeartbeats 4000000 in
set_option maxRecDepth 100000 in
/-- drills, no such hole -/
theorem t_drills3 (l : Launch) (htr : l.stackTraces = false) (D : va_G) (g : Nat → ClassId) (ad : Nat → Nat) (w : Nat → Option va_E) (sz : Nat) (sg pl : Int32) (hc pc_ : Nat) (k : Nat) (a1 : Int32) (o0 : w 0 = some (.inr (7, [.ref (ad 1), .ref (ad 5), .ref (ad 12), .ref (ad 17), .ref (ad 18), .ref (ad 23), .ref (ad 25), .int sg, .int pl]))) (t18 : w 18 = some (.inr (2, [.ref (ad 19), .ref (ad 20), .ref (ad 21), .ref (ad 22), .int (nI hc)]))) (p5 : w 5 = some (.inr (3, [.ref (ad 6), .ref (ad 7), .ref (ad 8), .ref (ad 9), .ref (ad 10), .ref (ad 11), .int (nI pc_)]))) (hpl : ¬ pl = 0) (hk : k < hc) (hc14 : hc ≤ 14) (h0 : a1 < 0 ∨ ¬ a1 < nI pc_) : dx_M l yDH_drills wsDH_drills ({ frames := 8, cells := 1, slots := 6, locals := 136 } : Room) (va_Pc [.ref (ad 0), .int (nI k), .int a1] (dq_S D vwCl (dq_t g) ad w sz)) (dx_X D vwCl (dq_t g) ad w (dq_A ad w sz) (fun E => E = "java/lang/IndexOutOfBoundsException")) (dq_A ad w sz) 1 6 := by
  refine dx_of (cc := cDH_drills) (maxL := 3) (by decide) rfl (Nat.le_of_ble_eq_true rfl) ?_
  intro p e s m below meth c A ls ⟨hx, hb, hml, hown, hts⟩ hnm hA hW hK hZ hl hout hlocks
  have hS : va_S A s.heap s.heap [] := va_S.rf
  have hl : lv_has ls 3 [(0, .ref (ad 0)), (1, .int (nI k)), (2, .int a1)] := hl
  have hf51 := hts _ (List.mem_cons_of_mem _ tw1_218)
  have hf152 := hts _ (List.mem_cons_of_mem _ tw1_171)
  have hinDH : ∀ w ∈ u_ws RDH TDH 9, w ∈ wsDH_drills := fun w h => List.mem_cons_of_mem _ (inDH w h)
  have hinHt : ∀ w ∈ u_ws RHt THt 5, w ∈ wsDH_drills := fun w h => List.mem_cons_of_mem _ (inHt w h)
  refine lv_aload_n hx hb dDH_drills_0 rfl (lv_at hl 0 rfl) ?_
  refine va_csv (W.runV (As := []) (rest := []) ⟨hx, hb, hml, hown, hts⟩ (c_planned l D g ad (w) _ sg pl o0 hpl) (cwV 0 hts (dq_giV tw3_56 tw3_58 twp_14 tw1_1 tw3_59) rfl rfl rfl (by decide +kernel) ⟨Nat.le_of_ble_eq_true rfl, Nat.le_of_ble_eq_true rfl⟩) (dq_preV (ci := 7) hW hS hA hK hZ o0 rfl rfl) rfl rfl hl.1 rfl (lv_room (Nat.le_of_ble_eq_true rfl)) dDH_drills_1 ⟨Nat.zero_le _, Nat.zero_le _⟩) (fun _ => ?_)
  refine lv_aload_n hx hb dDH_drills_4 rfl (lv_at hl 0 rfl) ?_
  refine lv_iload_n hx hb dDH_drills_5 rfl (lv_at hl 1 rfl) ?_
  refine va_csv (W.runV (As := [.int (nI k)]) (rest := []) ⟨hx, hb, hml, hown, hts⟩ (c_qhit l D g ad (w) _ sg pl hc (nI k) o0 t18 (nI_pos (show k < 2 ^ 31 by omega)) (nI_lt hk (by omega))) (cwV 1 hts (dq_giV tw3_61 tw3_63 twp_15 tw1_1 tw3_64) rfl rfl rfl (by decide +kernel) ⟨Nat.le_of_ble_eq_true rfl, Nat.le_of_ble_eq_true rfl⟩) (dq_preV (ci := 7) hW hS hA hK hZ o0 rfl rfl) rfl rfl hl.1 rfl (lv_room (Nat.le_of_ble_eq_true rfl)) dDH_drills_6 ⟨Nat.zero_le _, Nat.zero_le _⟩) (fun _ => ?_)
  refine lv_aload_n hx hb dDH_drills_9 rfl (lv_at hl 0 rfl) ?_
  refine lv_iload_n hx hb dDH_drills_10 rfl (lv_at hl 2 rfl) ?_
  refine dx_callV (As := [.int a1]) (rest := []) ⟨hx, hb, hml, hown, hts⟩ (t_qhole l htr D g ad (w) _ sg pl pc_ a1 o0 p5 h0) (cwV 1 hts (dq_giV tw3_23 tw3_25 twp_13 tw1_1 tw3_26) rfl rfl rfl (by decide +kernel) ⟨Nat.le_of_ble_eq_true rfl, Nat.le_of_ble_eq_true rfl⟩) (dq_preV (ci := 7) hW hS hA hK hZ o0 rfl rfl) rfl hl.1 rfl (lv_room (Nat.le_of_ble_eq_true rfl)) dDH_drills_11 ⟨Nat.le_of_ble_eq_true rfl, Nat.le_of_ble_eq_true rfl⟩ hS (dq_A.sub hW hS hA) (fun q9 E9 ce9 t9 H locs ht9 hal9 hX9 hz9 hk9 hS9 hce9 hcv9 hcl9 => ?_)
  obtain ⟨hE9, hW9, hK9⟩ := hX9
  rw [ht9] at hW9
  exact dx_out hout hlocks hce9 hcv9 hcl9 (fun t h1 h2 => ⟨hE9, by rw [h1]; exact hW9.weaken (dq_A.sub hW hS hA), va_K.moved h2 hK⟩) hS9 (Nat.le_of_ble_eq_true rfl) (Nat.le_of_ble_eq_true rfl)

set_option maxHeartbeats 4000000 in
set_option maxRecDepth 100000 in
/-- drills(hit, hole) -/
theorem c_drills (l : Launch) (D : va_G) (g : Nat → ClassId) (ad : Nat → Nat) (w : Nat → Option va_E) (sz : Nat) (sg pl : Int32) (hX hY hF hs : Nat → Int32) (hc : Nat) (pc_ : Nat) (k h S : Nat) (o0 : w 0 = some (.inr (7, [.ref (ad 1), .ref (ad 5), .ref (ad 12), .ref (ad 17), .ref (ad 18), .ref (ad 23), .ref (ad 25), .int sg, .int pl]))) (t18 : w 18 = some (.inr (2, [.ref (ad 19), .ref (ad 20), .ref (ad 21), .ref (ad 22), .int (nI hc)]))) (t19 : w 19 = some (.inl (g 0, 14, .inl hX))) (t20 : w 20 = some (.inl (g 0, 14, .inl hY))) (t21 : w 21 = some (.inl (g 0, 14, .inl hF))) (t22 : w 22 = some (.inl (g 0, 14, .inl hs))) (p5 : w 5 = some (.inr (3, [.ref (ad 6), .ref (ad 7), .ref (ad 8), .ref (ad 9), .ref (ad 10), .ref (ad 11), .int (nI pc_)]))) (hpl : ¬ pl = 0) (hk : k < hc) (hc14 : hc ≤ 14) (hh : h < pc_) (hpc : pc_ ≤ 14) (hS9 : hs k = nI S) (hS8 : S < 2 ^ 31) : Met l yDH_drills wsDH_drills ({ frames := 8, cells := 0, slots := 0, locals := 136 } : Room) (va_Pc [.ref (ad 0), .int (nI k), .int (nI h)] (dq_S D vwCl (dq_t g) ad w sz)) (va_Qi (fun r u => r = dq_b (S.testBit h) ∧ u = w) (dq_B D vwCl (dq_t g) ad (dq_A ad w sz)) (dq_A ad w sz)) 0 0 (dq_A ad w sz) := by
  refine dq_ofz (cc := cDH_drills) (maxL := 3) (by decide) rfl (Nat.le_of_ble_eq_true rfl) ?_
  intro p e s m below meth c A Q ls ⟨hx, hb, hml, hown, hts⟩ hnm hA hW hK hZ hl hret
  have hS : va_S A s.heap s.heap [] := va_S.rf
  have hl : lv_has ls 3 [(0, .ref (ad 0)), (1, .int (nI k)), (2, .int (nI h))] := hl
  have hf51 := hts _ (List.mem_cons_of_mem _ tw1_218)
  have hf152 := hts _ (List.mem_cons_of_mem _ tw1_171)
  have hinDH : ∀ w ∈ u_ws RDH TDH 9, w ∈ wsDH_drills := fun w h => List.mem_cons_of_mem _ (inDH w h)
  have hinHt : ∀ w ∈ u_ws RHt THt 5, w ∈ wsDH_drills := fun w h => List.mem_cons_of_mem _ (inHt w h)
  refine lv_aload_n hx hb dDH_drills_0 rfl (lv_at hl 0 rfl) ?_
  refine va_csv (W.runV (As := []) (rest := []) ⟨hx, hb, hml, hown, hts⟩ (c_planned l D g ad (w) _ sg pl o0 hpl) (cwV 0 hts (dq_giV tw3_56 tw3_58 twp_14 tw1_1 tw3_59) rfl rfl rfl (by decide +kernel) ⟨Nat.le_of_ble_eq_true rfl, Nat.le_of_ble_eq_true rfl⟩) (dq_preV (ci := 7) hW hS hA hK hZ o0 rfl rfl) rfl rfl hl.1 rfl (lv_room (Nat.le_of_ble_eq_true rfl)) dDH_drills_1 ⟨Nat.zero_le _, Nat.zero_le _⟩) (fun _ => ?_)
  refine lv_aload_n hx hb dDH_drills_4 rfl (lv_at hl 0 rfl) ?_
  refine lv_iload_n hx hb dDH_drills_5 rfl (lv_at hl 1 rfl) ?_
  refine va_csv (W.runV (As := [.int (nI k)]) (rest := []) ⟨hx, hb, hml, hown, hts⟩ (c_qhit l D g ad (w) _ sg pl hc (nI k) o0 t18 (nI_pos (show k < 2 ^ 31 by omega)) (nI_lt hk (by omega))) (cwV 1 hts (dq_giV tw3_61 tw3_63 twp_15 tw1_1 tw3_64) rfl rfl rfl (by decide +kernel) ⟨Nat.le_of_ble_eq_true rfl, Nat.le_of_ble_eq_true rfl⟩) (dq_preV (ci := 7) hW hS hA hK hZ o0 rfl rfl) rfl rfl hl.1 rfl (lv_room (Nat.le_of_ble_eq_true rfl)) dDH_drills_6 ⟨Nat.zero_le _, Nat.zero_le _⟩) (fun _ => ?_)
  refine lv_aload_n hx hb dDH_drills_9 rfl (lv_at hl 0 rfl) ?_
  refine lv_iload_n hx hb dDH_drills_10 rfl (lv_at hl 2 rfl) ?_
  refine va_csv (W.runV (As := [.int (nI h)]) (rest := []) ⟨hx, hb, hml, hown, hts⟩ (c_qhole l D g ad (w) _ sg pl pc_ (nI h) o0 p5 (nI_pos (show h < 2 ^ 31 by omega)) (nI_lt hh (by omega))) (cwV 1 hts (dq_giV tw3_23 tw3_25 twp_13 tw1_1 tw3_26) rfl rfl rfl (by decide +kernel) ⟨Nat.le_of_ble_eq_true rfl, Nat.le_of_ble_eq_true rfl⟩) (dq_preV (ci := 7) hW hS hA hK hZ o0 rfl rfl) rfl rfl hl.1 rfl (lv_room (Nat.le_of_ble_eq_true rfl)) dDH_drills_11 ⟨Nat.zero_le _, Nat.zero_le _⟩) (fun _ => ?_)
  refine lv_aload_n hx hb dDH_drills_14 rfl (lv_at hl 0 rfl) ?_
  refine dq_get (D := D) (ci := 7) (v := .ref (ad 18)) (C := RDH) (T := TDH) (N := 9) hx hb hts hinDH hown hK hW 0 o0 rfl 4 (by decide) hf51 (fun _ h9 => h9) rfl dDH_drills_15 ?_
  refine dq_get (D := D) (ci := 2) (v := .ref (ad 22)) (C := RHt) (T := THt) (N := 5) hx hb hts hinHt hown hK hW 18 t18 rfl 3 (by decide) hf152 (fun _ h9 => h9) rfl dDH_drills_18 ?_
  refine lv_iload_n hx hb dDH_drills_21 rfl (lv_at hl 1 rfl) ?_
  refine dq_ialdN hx hb hK hW 22 0 t22 rfl k (by omega) (by omega) dDH_drills_22 ?_
  refine dq_top (y := nI S) hS9 ?_
  refine lv_iload_n hx hb dDH_drills_23 rfl (lv_at hl 2 rfl) ?_
  refine dq_calli (va_runS (As := [.int (nI S), .int (nI h)]) (rest := []) ⟨hx, hb, hml, hown, hts⟩ (c_holds l D g ad (w) _ S h  hS8 (by omega)) (cwS 2 hts (dq_giS2 tw3_74 tw2_85 tw1_1 tw2_86) rfl rfl rfl (by decide +kernel) ⟨Nat.le_of_ble_eq_true rfl, Nat.le_of_ble_eq_true rfl⟩) (dq_preS hW hS hA hK hZ) rfl rfl hl.1 rfl (lv_room (Nat.le_of_ble_eq_true rfl)) dDH_drills_24 ⟨Nat.zero_le _, Nat.zero_le _⟩) hW hS hA (fun r1 u_9 H locs hp1 hW hS hz9 => ?_)
  obtain ⟨hr1, hu9⟩ := hp1
  rw [hu9] at hW
  exact hret _ _ _ _ _ _ ⟨hr1, rfl⟩ (by rw [hr1]; exact dq_b_nar _) hW hS dDH_drills_27
set_option maxHeartbeats 4000000 in
set_option maxRecDepth 100000 in
/-- by, not planned -/
theorem t_by1 (l : Launch) (htr : l.stackTraces = false) (D : va_G) (g : Nat → ClassId) (ad : Nat → Nat) (w : Nat → Option va_E) (sz : Nat) (sg pl : Int32) (a0 : Int32) (o0 : w 0 = some (.inr (7, [.ref (ad 1), .ref (ad 5), .ref (ad 12), .ref (ad 17), .ref (ad 18), .ref (ad 23), .ref (ad 25), .int sg, .int pl]))) (hpl : pl = 0) : dx_M l yDH_by wsDH_by ({ frames := 8, cells := 1, slots := 6, locals := 136 } : Room) (va_Pc [.ref (ad 0), .int a0] (dq_S D vwCl (dq_t g) ad w sz)) (dx_X D vwCl (dq_t g) ad w (dq_A ad w sz) (fun E => E = "java/lang/IllegalStateException")) (dq_A ad w sz) 1 6 := by
  refine dx_of (cc := cDH_by) (maxL := 3) (by decide) rfl (Nat.le_of_ble_eq_true rfl) ?_
  intro p e s m below meth c A ls ⟨hx, hb, hml, hown, hts⟩ hnm hA hW hK hZ hl hout hlocks
  have hS : va_S A s.heap s.heap [] := va_S.rf
  have hl : lv_has ls 3 [(0, .ref (ad 0)), (1, .int a0)] := hl
  have hf23 := hts _ (List.mem_cons_of_mem _ tw1_214)
  have hf30 := hts _ (List.mem_cons_of_mem _ tw1_215)
  have hf51 := hts _ (List.mem_cons_of_mem _ tw1_218)
  have hf147 := hts _ (List.mem_cons_of_mem _ tw1_164)
  have hf148 := hts _ (List.mem_cons_of_mem _ tw1_167)
  have hinDH : ∀ w ∈ u_ws RDH TDH 9, w ∈ wsDH_by := fun w h => List.mem_cons_of_mem _ (inDH w h)
  have hinHt : ∀ w ∈ u_ws RHt THt 5, w ∈ wsDH_by := fun w h => List.mem_cons_of_mem _ (inHt w h)
  refine lv_aload_n hx hb dDH_by_0 rfl (lv_at hl 0 rfl) ?_
  refine dx_callV (As := []) (rest := []) ⟨hx, hb, hml, hown, hts⟩ (t_planned l htr D g ad (w) _ sg pl o0 hpl) (cwV 0 hts (dq_giV tw3_56 tw3_58 twp_14 tw1_1 tw3_59) rfl rfl rfl (by decide +kernel) ⟨Nat.le_of_ble_eq_true rfl, Nat.le_of_ble_eq_true rfl⟩) (dq_preV (ci := 7) hW hS hA hK hZ o0 rfl rfl) rfl hl.1 rfl (lv_room (Nat.le_of_ble_eq_true rfl)) dDH_by_1 ⟨Nat.le_of_ble_eq_true rfl, Nat.le_of_ble_eq_true rfl⟩ hS (dq_A.sub hW hS hA) (fun q9 E9 ce9 t9 H locs ht9 hal9 hX9 hz9 hk9 hS9 hce9 hcv9 hcl9 => ?_)
  obtain ⟨hE9, hW9, hK9⟩ := hX9
  rw [ht9] at hW9
  exact dx_out hout hlocks hce9 hcv9 hcl9 (fun t h1 h2 => ⟨hE9, by rw [h1]; exact hW9.weaken (dq_A.sub hW hS hA), va_K.moved h2 hK⟩) hS9 (Nat.le_of_ble_eq_true rfl) (Nat.le_of_ble_eq_true rfl)

set_option maxHeartbeats 4000000 in
set_option maxRecDepth 100000 in
/-- by, no such hole -/
theorem t_by2 (l : Launch) (htr : l.stackTraces = false) (D : va_G) (g : Nat → ClassId) (ad : Nat → Nat) (w : Nat → Option va_E) (sz : Nat) (sg pl : Int32) (pc_ : Nat) (a0 : Int32) (o0 : w 0 = some (.inr (7, [.ref (ad 1), .ref (ad 5), .ref (ad 12), .ref (ad 17), .ref (ad 18), .ref (ad 23), .ref (ad 25), .int sg, .int pl]))) (p5 : w 5 = some (.inr (3, [.ref (ad 6), .ref (ad 7), .ref (ad 8), .ref (ad 9), .ref (ad 10), .ref (ad 11), .int (nI pc_)]))) (hpl : ¬ pl = 0) (h0 : a0 < 0 ∨ ¬ a0 < nI pc_) : dx_M l yDH_by wsDH_by ({ frames := 8, cells := 1, slots := 6, locals := 136 } : Room) (va_Pc [.ref (ad 0), .int a0] (dq_S D vwCl (dq_t g) ad w sz)) (dx_X D vwCl (dq_t g) ad w (dq_A ad w sz) (fun E => E = "java/lang/IndexOutOfBoundsException")) (dq_A ad w sz) 1 6 := by
  refine dx_of (cc := cDH_by) (maxL := 3) (by decide) rfl (Nat.le_of_ble_eq_true rfl) ?_
  intro p e s m below meth c A ls ⟨hx, hb, hml, hown, hts⟩ hnm hA hW hK hZ hl hout hlocks
  have hS : va_S A s.heap s.heap [] := va_S.rf
  have hl : lv_has ls 3 [(0, .ref (ad 0)), (1, .int a0)] := hl
  have hf23 := hts _ (List.mem_cons_of_mem _ tw1_214)
  have hf30 := hts _ (List.mem_cons_of_mem _ tw1_215)
  have hf51 := hts _ (List.mem_cons_of_mem _ tw1_218)
  have hf147 := hts _ (List.mem_cons_of_mem _ tw1_164)
  have hf148 := hts _ (List.mem_cons_of_mem _ tw1_167)
  have hinDH : ∀ w ∈ u_ws RDH TDH 9, w ∈ wsDH_by := fun w h => List.mem_cons_of_mem _ (inDH w h)
  have hinHt : ∀ w ∈ u_ws RHt THt 5, w ∈ wsDH_by := fun w h => List.mem_cons_of_mem _ (inHt w h)
  refine lv_aload_n hx hb dDH_by_0 rfl (lv_at hl 0 rfl) ?_
  refine va_csv (W.runV (As := []) (rest := []) ⟨hx, hb, hml, hown, hts⟩ (c_planned l D g ad (w) _ sg pl o0 hpl) (cwV 0 hts (dq_giV tw3_56 tw3_58 twp_14 tw1_1 tw3_59) rfl rfl rfl (by decide +kernel) ⟨Nat.le_of_ble_eq_true rfl, Nat.le_of_ble_eq_true rfl⟩) (dq_preV (ci := 7) hW hS hA hK hZ o0 rfl rfl) rfl rfl hl.1 rfl (lv_room (Nat.le_of_ble_eq_true rfl)) dDH_by_1 ⟨Nat.zero_le _, Nat.zero_le _⟩) (fun _ => ?_)
  refine lv_aload_n hx hb dDH_by_4 rfl (lv_at hl 0 rfl) ?_
  refine lv_iload_n hx hb dDH_by_5 rfl (lv_at hl 1 rfl) ?_
  refine dx_callV (As := [.int a0]) (rest := []) ⟨hx, hb, hml, hown, hts⟩ (t_qhole l htr D g ad (w) _ sg pl pc_ a0 o0 p5 h0) (cwV 1 hts (dq_giV tw3_23 tw3_25 twp_13 tw1_1 tw3_26) rfl rfl rfl (by decide +kernel) ⟨Nat.le_of_ble_eq_true rfl, Nat.le_of_ble_eq_true rfl⟩) (dq_preV (ci := 7) hW hS hA hK hZ o0 rfl rfl) rfl hl.1 rfl (lv_room (Nat.le_of_ble_eq_true rfl)) dDH_by_6 ⟨Nat.le_of_ble_eq_true rfl, Nat.le_of_ble_eq_true rfl⟩ hS (dq_A.sub hW hS hA) (fun q9 E9 ce9 t9 H locs ht9 hal9 hX9 hz9 hk9 hS9 hce9 hcv9 hcl9 => ?_)
  obtain ⟨hE9, hW9, hK9⟩ := hX9
  rw [ht9] at hW9
  exact dx_out hout hlocks hce9 hcv9 hcl9 (fun t h1 h2 => ⟨hE9, by rw [h1]; exact hW9.weaken (dq_A.sub hW hS hA), va_K.moved h2 hK⟩) hS9 (Nat.le_of_ble_eq_true rfl) (Nat.le_of_ble_eq_true rfl)

set_option maxHeartbeats 4000000 in
set_option maxRecDepth 100000 in
/-- by(hole), in no hit -/
theorem c_by_no (l : Launch) (D : va_G) (g : Nat → ClassId) (ad : Nat → Nat) (w : Nat → Option va_E) (sz : Nat) (sg pl : Int32) (hX hY hF hs : Nat → Int32) (hB : Nat → Nat) (hc : Nat) (n : Nat) (hx_ hy_ hw_ : Nat → Int32) (f0 f1 f2 f3 : Int32) (px py pw pd pf pt : Nat → Int32) (pc_ : Nat) (h : Nat) (o0 : w 0 = some (.inr (7, [.ref (ad 1), .ref (ad 5), .ref (ad 12), .ref (ad 17), .ref (ad 18), .ref (ad 23), .ref (ad 25), .int sg, .int pl]))) (t18 : w 18 = some (.inr (2, [.ref (ad 19), .ref (ad 20), .ref (ad 21), .ref (ad 22), .int (nI hc)]))) (t19 : w 19 = some (.inl (g 0, 14, .inl hX))) (t20 : w 20 = some (.inl (g 0, 14, .inl hY))) (t21 : w 21 = some (.inl (g 0, 14, .inl hF))) (t22 : w 22 = some (.inl (g 0, 14, .inl hs))) (h1 : w 1 = some (.inr (1, [.ref (ad 2), .ref (ad 3), .ref (ad 4), .int f0, .int f1, .int f2, .int f3]))) (h2 : w 2 = some (.inl (g 0, n, .inl hx_))) (h3 : w 3 = some (.inl (g 0, n, .inl hy_))) (h4 : w 4 = some (.inl (g 0, n, .inl hw_))) (p5 : w 5 = some (.inr (3, [.ref (ad 6), .ref (ad 7), .ref (ad 8), .ref (ad 9), .ref (ad 10), .ref (ad 11), .int (nI pc_)]))) (p6 : w 6 = some (.inl (g 0, 14, .inl px))) (p7 : w 7 = some (.inl (g 0, 14, .inl py))) (p8 : w 8 = some (.inl (g 0, 14, .inl pw))) (hpl : ¬ pl = 0) (hc14 : hc ≤ 14) (hh : h < pc_) (hpc : pc_ ≤ 14) (hn : n ≤ 16) (hSl : ∀ k, k < hc → hs k = nI (hB k) ∧ hB k < 2 ^ 31) (hno : ∀ k, k < hc → (hB k).testBit h = false) : Met l yDH_by wsDH_by ({ frames := 8, cells := 0, slots := 0, locals := 136 } : Room) (va_Pc [.ref (ad 0), .int (nI h)] (dq_S D vwCl (dq_t g) ad w sz)) (va_Qi (fun r u => r = -1 ∧ u = w) (dq_B D vwCl (dq_t g) ad (dq_A ad w sz)) (dq_A ad w sz)) 0 0 (dq_A ad w sz) := by
  refine dq_ofi (cc := cDH_by) (maxL := 3) (by decide) rfl (Nat.le_of_ble_eq_true rfl) ?_
  intro p e s m below meth c A Q ls ⟨hx, hb, hml, hown, hts⟩ hnm hA hW hK hZ hl hret
  have hS : va_S A s.heap s.heap [] := va_S.rf
  have hl : lv_has ls 3 [(0, .ref (ad 0)), (1, .int (nI h))] := hl
  have hf23 := hts _ (List.mem_cons_of_mem _ tw1_214)
  have hf30 := hts _ (List.mem_cons_of_mem _ tw1_215)
  have hf51 := hts _ (List.mem_cons_of_mem _ tw1_218)
  have hf147 := hts _ (List.mem_cons_of_mem _ tw1_164)
  have hf148 := hts _ (List.mem_cons_of_mem _ tw1_167)
  have hinDH : ∀ w ∈ u_ws RDH TDH 9, w ∈ wsDH_by := fun w h => List.mem_cons_of_mem _ (inDH w h)
  have hinHt : ∀ w ∈ u_ws RHt THt 5, w ∈ wsDH_by := fun w h => List.mem_cons_of_mem _ (inHt w h)
  refine lv_aload_n hx hb dDH_by_0 rfl (lv_at hl 0 rfl) ?_
  refine va_csv (W.runV (As := []) (rest := []) ⟨hx, hb, hml, hown, hts⟩ (c_planned l D g ad (w) _ sg pl o0 hpl) (cwV 0 hts (dq_giV tw3_56 tw3_58 twp_14 tw1_1 tw3_59) rfl rfl rfl (by decide +kernel) ⟨Nat.le_of_ble_eq_true rfl, Nat.le_of_ble_eq_true rfl⟩) (dq_preV (ci := 7) hW hS hA hK hZ o0 rfl rfl) rfl rfl hl.1 rfl (lv_room (Nat.le_of_ble_eq_true rfl)) dDH_by_1 ⟨Nat.zero_le _, Nat.zero_le _⟩) (fun _ => ?_)
  refine lv_aload_n hx hb dDH_by_4 rfl (lv_at hl 0 rfl) ?_
  refine lv_iload_n hx hb dDH_by_5 rfl (lv_at hl 1 rfl) ?_
  refine va_csv (W.runV (As := [.int (nI h)]) (rest := []) ⟨hx, hb, hml, hown, hts⟩ (c_qhole l D g ad (w) _ sg pl pc_ (nI h) o0 p5 (nI_pos (show h < 2 ^ 31 by omega)) (nI_lt hh (by omega))) (cwV 1 hts (dq_giV tw3_23 tw3_25 twp_13 tw1_1 tw3_26) rfl rfl rfl (by decide +kernel) ⟨Nat.le_of_ble_eq_true rfl, Nat.le_of_ble_eq_true rfl⟩) (dq_preV (ci := 7) hW hS hA hK hZ o0 rfl rfl) rfl rfl hl.1 rfl (lv_room (Nat.le_of_ble_eq_true rfl)) dDH_by_6 ⟨Nat.zero_le _, Nat.zero_le _⟩) (fun _ => ?_)
  refine lv_aload_n hx hb dDH_by_9 rfl (lv_at hl 0 rfl) ?_
  refine dq_get (D := D) (ci := 7) (v := .ref (ad 18)) (C := RDH) (T := TDH) (N := 9) hx hb hts hinDH hown hK hW 0 o0 rfl 4 (by decide) hf51 (fun _ h9 => h9) rfl dDH_by_10 ?_
  refine lv_iload_n hx hb dDH_by_13 rfl (lv_at hl 1 rfl) ?_
  refine dq_calli (va_runV (As := [.int (nI h)]) (rest := []) ⟨hx, hb, hml, hown, hts⟩ (c_Hits_drilling l D g ad (w) _ hX hY hF hs hB hc h t18 t22 hc14 (by omega) hSl) (cwV 1 hts (dq_giV tw3_82 tw3_83 tw3_84 tw1_7 tw3_85) rfl rfl rfl (by decide +kernel) ⟨Nat.le_of_ble_eq_true rfl, Nat.le_of_ble_eq_true rfl⟩) (dq_preV (ci := 2) hW hS hA hK hZ t18 rfl rfl) rfl rfl hl.1 rfl (lv_room (Nat.le_of_ble_eq_true rfl)) dDH_by_14 ⟨Nat.zero_le _, Nat.zero_le _⟩) hW hS hA (fun r1 u_9 H locs hp1 hW hS hz9 => ?_)
  obtain ⟨hr1, hu9⟩ := hp1
  rw [hu9] at hW
  have hr2 : r1 = -1 := by rw [hr1]; exact dq_fst_none hno
  subst hr2
  refine lv_istore_n (lv' := [(2, .int (-1)), (0, .ref (ad 0)), (1, .int (nI h))]) hx hb dDH_by_17 rfl hl (by decide) rfl (fun ls hl => ?_)
  refine lv_iload_n hx hb dDH_by_18 rfl (lv_at hl 0 rfl) ?_
  refine lv_iconst (v := (-1)) hx hb dDH_by_19 (by decide) ?_
  refine lv_icmp_ne (tgt := 25) hx hb dDH_by_20 (by decide) (fun c1 => ?_) (fun c1 => ?_)
  · exact absurd rfl c1
  · refine lv_iconst (v := (-1)) hx hb dDH_by_23 (by decide) ?_
    exact hret _ _ _ _ _ _ ⟨rfl, rfl⟩ hW hS dDH_by_24

set_option maxHeartbeats 4000000 in
set_option maxRecDepth 100000 in
/-- by(hole), in hit k -/
theorem c_by_yes (l : Launch) (D : va_G) (g : Nat → ClassId) (ad : Nat → Nat) (w : Nat → Option va_E) (sz : Nat) (sg pl : Int32) (hX hY hF hs : Nat → Int32) (hB : Nat → Nat) (hc : Nat) (n : Nat) (hx_ hy_ hw_ : Nat → Int32) (f0 f1 f2 f3 : Int32) (px py pw pd pf pt : Nat → Int32) (pc_ : Nat) (h : Nat) (k : Nat) (o0 : w 0 = some (.inr (7, [.ref (ad 1), .ref (ad 5), .ref (ad 12), .ref (ad 17), .ref (ad 18), .ref (ad 23), .ref (ad 25), .int sg, .int pl]))) (t18 : w 18 = some (.inr (2, [.ref (ad 19), .ref (ad 20), .ref (ad 21), .ref (ad 22), .int (nI hc)]))) (t19 : w 19 = some (.inl (g 0, 14, .inl hX))) (t20 : w 20 = some (.inl (g 0, 14, .inl hY))) (t21 : w 21 = some (.inl (g 0, 14, .inl hF))) (t22 : w 22 = some (.inl (g 0, 14, .inl hs))) (h1 : w 1 = some (.inr (1, [.ref (ad 2), .ref (ad 3), .ref (ad 4), .int f0, .int f1, .int f2, .int f3]))) (h2 : w 2 = some (.inl (g 0, n, .inl hx_))) (h3 : w 3 = some (.inl (g 0, n, .inl hy_))) (h4 : w 4 = some (.inl (g 0, n, .inl hw_))) (p5 : w 5 = some (.inr (3, [.ref (ad 6), .ref (ad 7), .ref (ad 8), .ref (ad 9), .ref (ad 10), .ref (ad 11), .int (nI pc_)]))) (p6 : w 6 = some (.inl (g 0, 14, .inl px))) (p7 : w 7 = some (.inl (g 0, 14, .inl py))) (p8 : w 8 = some (.inl (g 0, 14, .inl pw))) (hpl : ¬ pl = 0) (hc14 : hc ≤ 14) (hh : h < pc_) (hpc : pc_ ≤ 14) (hn : n ≤ 16) (hSl : ∀ k, k < hc → hs k = nI (hB k) ∧ hB k < 2 ^ 31) (hk : k < hc) (hyes : (hB k).testBit h = true) (hno : ∀ i, i < k → (hB i).testBit h = false) : Met l yDH_by wsDH_by ({ frames := 8, cells := 0, slots := 0, locals := 136 } : Room) (va_Pc [.ref (ad 0), .int (nI h)] (dq_S D vwCl (dq_t g) ad w sz)) (va_Qi (fun r u => r = dq_fst (fun k9 => decide (hx_ k9 = px h - hX k) && decide (hy_ k9 = py h - hY k) && decide (hw_ k9 = pw h)) n ∧ u = w) (dq_B D vwCl (dq_t g) ad (dq_A ad w sz)) (dq_A ad w sz)) 0 0 (dq_A ad w sz) := by
  refine dq_ofi (cc := cDH_by) (maxL := 3) (by decide) rfl (Nat.le_of_ble_eq_true rfl) ?_
  intro p e s m below meth c A Q ls ⟨hx, hb, hml, hown, hts⟩ hnm hA hW hK hZ hl hret
  have hS : va_S A s.heap s.heap [] := va_S.rf
  have hl : lv_has ls 3 [(0, .ref (ad 0)), (1, .int (nI h))] := hl
  have hf23 := hts _ (List.mem_cons_of_mem _ tw1_214)
  have hf30 := hts _ (List.mem_cons_of_mem _ tw1_215)
  have hf51 := hts _ (List.mem_cons_of_mem _ tw1_218)
  have hf147 := hts _ (List.mem_cons_of_mem _ tw1_164)
  have hf148 := hts _ (List.mem_cons_of_mem _ tw1_167)
  have hinDH : ∀ w ∈ u_ws RDH TDH 9, w ∈ wsDH_by := fun w h => List.mem_cons_of_mem _ (inDH w h)
  have hinHt : ∀ w ∈ u_ws RHt THt 5, w ∈ wsDH_by := fun w h => List.mem_cons_of_mem _ (inHt w h)
  refine lv_aload_n hx hb dDH_by_0 rfl (lv_at hl 0 rfl) ?_
  refine va_csv (W.runV (As := []) (rest := []) ⟨hx, hb, hml, hown, hts⟩ (c_planned l D g ad (w) _ sg pl o0 hpl) (cwV 0 hts (dq_giV tw3_56 tw3_58 twp_14 tw1_1 tw3_59) rfl rfl rfl (by decide +kernel) ⟨Nat.le_of_ble_eq_true rfl, Nat.le_of_ble_eq_true rfl⟩) (dq_preV (ci := 7) hW hS hA hK hZ o0 rfl rfl) rfl rfl hl.1 rfl (lv_room (Nat.le_of_ble_eq_true rfl)) dDH_by_1 ⟨Nat.zero_le _, Nat.zero_le _⟩) (fun _ => ?_)
  refine lv_aload_n hx hb dDH_by_4 rfl (lv_at hl 0 rfl) ?_
  refine lv_iload_n hx hb dDH_by_5 rfl (lv_at hl 1 rfl) ?_
  refine va_csv (W.runV (As := [.int (nI h)]) (rest := []) ⟨hx, hb, hml, hown, hts⟩ (c_qhole l D g ad (w) _ sg pl pc_ (nI h) o0 p5 (nI_pos (show h < 2 ^ 31 by omega)) (nI_lt hh (by omega))) (cwV 1 hts (dq_giV tw3_23 tw3_25 twp_13 tw1_1 tw3_26) rfl rfl rfl (by decide +kernel) ⟨Nat.le_of_ble_eq_true rfl, Nat.le_of_ble_eq_true rfl⟩) (dq_preV (ci := 7) hW hS hA hK hZ o0 rfl rfl) rfl rfl hl.1 rfl (lv_room (Nat.le_of_ble_eq_true rfl)) dDH_by_6 ⟨Nat.zero_le _, Nat.zero_le _⟩) (fun _ => ?_)
  refine lv_aload_n hx hb dDH_by_9 rfl (lv_at hl 0 rfl) ?_
  refine dq_get (D := D) (ci := 7) (v := .ref (ad 18)) (C := RDH) (T := TDH) (N := 9) hx hb hts hinDH hown hK hW 0 o0 rfl 4 (by decide) hf51 (fun _ h9 => h9) rfl dDH_by_10 ?_
  refine lv_iload_n hx hb dDH_by_13 rfl (lv_at hl 1 rfl) ?_
  refine dq_calli (va_runV (As := [.int (nI h)]) (rest := []) ⟨hx, hb, hml, hown, hts⟩ (c_Hits_drilling l D g ad (w) _ hX hY hF hs hB hc h t18 t22 hc14 (by omega) hSl) (cwV 1 hts (dq_giV tw3_82 tw3_83 tw3_84 tw1_7 tw3_85) rfl rfl rfl (by decide +kernel) ⟨Nat.le_of_ble_eq_true rfl, Nat.le_of_ble_eq_true rfl⟩) (dq_preV (ci := 2) hW hS hA hK hZ t18 rfl rfl) rfl rfl hl.1 rfl (lv_room (Nat.le_of_ble_eq_true rfl)) dDH_by_14 ⟨Nat.zero_le _, Nat.zero_le _⟩) hW hS hA (fun r1 u_9 H locs hp1 hW hS hz9 => ?_)
  obtain ⟨hr1, hu9⟩ := hp1
  rw [hu9] at hW
  have hr2 : r1 = nI k := by rw [hr1]; exact dq_fst_at (P := fun k => (hB k).testBit h) hk hyes hno
  subst hr2
  refine lv_istore_n (lv' := [(2, .int (nI k)), (0, .ref (ad 0)), (1, .int (nI h))]) hx hb dDH_by_17 rfl hl (by decide) rfl (fun ls hl => ?_)
  refine lv_iload_n hx hb dDH_by_18 rfl (lv_at hl 0 rfl) ?_
  refine lv_iconst (v := (-1)) hx hb dDH_by_19 (by decide) ?_
  refine lv_icmp_ne (tgt := 25) hx hb dDH_by_20 (by decide) (fun c1 => ?_) (fun c1 => ?_)
  · refine lv_aload_n hx hb dDH_by_25 rfl (lv_at hl 1 rfl) ?_
    refine dq_get (D := D) (ci := 7) (v := .ref (ad 5)) (C := RDH) (T := TDH) (N := 9) hx hb hts hinDH hown hK hW 0 o0 rfl 1 (by decide) hf30 (fun _ h9 => h9) rfl dDH_by_26 ?_
    refine lv_iload_n hx hb dDH_by_29 rfl (lv_at hl 2 rfl) ?_
    refine lv_aload_n hx hb dDH_by_30 rfl (lv_at hl 1 rfl) ?_
    refine dq_get (D := D) (ci := 7) (v := .ref (ad 1)) (C := RDH) (T := TDH) (N := 9) hx hb hts hinDH hown hK hW 0 o0 rfl 0 (by decide) hf23 (fun _ h9 => h9) rfl dDH_by_31 ?_
    refine lv_aload_n hx hb dDH_by_34 rfl (lv_at hl 1 rfl) ?_
    refine dq_get (D := D) (ci := 7) (v := .ref (ad 18)) (C := RDH) (T := TDH) (N := 9) hx hb hts hinDH hown hK hW 0 o0 rfl 4 (by decide) hf51 (fun _ h9 => h9) rfl dDH_by_35 ?_
    refine dq_get (D := D) (ci := 2) (v := .ref (ad 19)) (C := RHt) (T := THt) (N := 5) hx hb hts hinHt hown hK hW 18 t18 rfl 0 (by decide) hf147 (fun _ h9 => h9) rfl dDH_by_38 ?_
    refine lv_iload_n hx hb dDH_by_41 rfl (lv_at hl 0 rfl) ?_
    refine dq_ialdN hx hb hK hW 19 0 t19 rfl k (by omega) (by omega) dDH_by_42 ?_
    refine lv_aload_n hx hb dDH_by_43 rfl (lv_at hl 1 rfl) ?_
    refine dq_get (D := D) (ci := 7) (v := .ref (ad 18)) (C := RDH) (T := TDH) (N := 9) hx hb hts hinDH hown hK hW 0 o0 rfl 4 (by decide) hf51 (fun _ h9 => h9) rfl dDH_by_44 ?_
    refine dq_get (D := D) (ci := 2) (v := .ref (ad 20)) (C := RHt) (T := THt) (N := 5) hx hb hts hinHt hown hK hW 18 t18 rfl 1 (by decide) hf148 (fun _ h9 => h9) rfl dDH_by_47 ?_
    refine lv_iload_n hx hb dDH_by_50 rfl (lv_at hl 0 rfl) ?_
    refine dq_ialdN hx hb hK hW 20 0 t20 rfl k (by omega) (by omega) dDH_by_51 ?_
    refine dq_calli (va_runV (As := [.int (nI h), .ref (ad 1), .int (hX k), .int (hY k)]) (rest := []) ⟨hx, hb, hml, hown, hts⟩ (c_Part_spindleFor l D g ad (w) _ n hx_ hy_ hw_ f0 f1 f2 f3 px py pw pd pf pt pc_ h (hX k) (hY k) h1 h2 h3 h4 p5 p6 p7 p8 hn (by omega)) (cwV 4 hts (dq_giV tw3_87 tw2_36 tw2_37 tw1_4 tw2_38) rfl rfl rfl (by decide +kernel) ⟨Nat.le_of_ble_eq_true rfl, Nat.le_of_ble_eq_true rfl⟩) (dq_preV (ci := 3) hW hS hA hK hZ p5 rfl rfl) rfl rfl hl.1 rfl (lv_room (Nat.le_of_ble_eq_true rfl)) dDH_by_52 ⟨Nat.zero_le _, Nat.zero_le _⟩) hW hS hA (fun r2 u_9 H locs hp2 hW hS hz9 => ?_)
    obtain ⟨hr2, hu9⟩ := hp2
    rw [hu9] at hW
    exact hret _ _ _ _ _ _ ⟨hr2, rfl⟩ hW hS dDH_by_55
  · exact absurd c1 (dq_nm1 (by omega))

set_option maxHeartbeats 4000000 in
set_option maxRecDepth 100000 in
/-- single, not planned -/
theorem t_single1 (l : Launch) (htr : l.stackTraces = false) (D : va_G) (g : Nat → ClassId) (ad : Nat → Nat) (w : Nat → Option va_E) (sz : Nat) (sg pl : Int32) (a0 : Int32) (o0 : w 0 = some (.inr (7, [.ref (ad 1), .ref (ad 5), .ref (ad 12), .ref (ad 17), .ref (ad 18), .ref (ad 23), .ref (ad 25), .int sg, .int pl]))) (hpl : pl = 0) : dx_M l yDH_single wsDH_single ({ frames := 8, cells := 1, slots := 6, locals := 136 } : Room) (va_Pc [.ref (ad 0), .int a0] (dq_S D vwCl (dq_t g) ad w sz)) (dx_X D vwCl (dq_t g) ad w (dq_A ad w sz) (fun E => E = "java/lang/IllegalStateException")) (dq_A ad w sz) 1 6 := by
  refine dx_of (cc := cDH_single) (maxL := 2) (by decide) rfl (Nat.le_of_ble_eq_true rfl) ?_
  intro p e s m below meth c A ls ⟨hx, hb, hml, hown, hts⟩ hnm hA hW hK hZ hl hout hlocks
  have hS : va_S A s.heap s.heap [] := va_S.rf
  have hl : lv_has ls 2 [(0, .ref (ad 0)), (1, .int a0)] := hl
  have hf172 := hts _ (List.mem_cons_of_mem _ tw1_221)
  have hinDH : ∀ w ∈ u_ws RDH TDH 9, w ∈ wsDH_single := fun w h => List.mem_cons_of_mem _ (inDH w h)
  refine lv_aload_n hx hb dDH_single_0 rfl (lv_at hl 0 rfl) ?_
  refine dx_callV (As := []) (rest := []) ⟨hx, hb, hml, hown, hts⟩ (t_planned l htr D g ad (w) _ sg pl o0 hpl) (cwV 0 hts (dq_giV tw3_56 tw3_58 twp_14 tw1_1 tw3_59) rfl rfl rfl (by decide +kernel) ⟨Nat.le_of_ble_eq_true rfl, Nat.le_of_ble_eq_true rfl⟩) (dq_preV (ci := 7) hW hS hA hK hZ o0 rfl rfl) rfl hl.1 rfl (lv_room (Nat.le_of_ble_eq_true rfl)) dDH_single_1 ⟨Nat.le_of_ble_eq_true rfl, Nat.le_of_ble_eq_true rfl⟩ hS (dq_A.sub hW hS hA) (fun q9 E9 ce9 t9 H locs ht9 hal9 hX9 hz9 hk9 hS9 hce9 hcv9 hcl9 => ?_)
  obtain ⟨hE9, hW9, hK9⟩ := hX9
  rw [ht9] at hW9
  exact dx_out hout hlocks hce9 hcv9 hcl9 (fun t h1 h2 => ⟨hE9, by rw [h1]; exact hW9.weaken (dq_A.sub hW hS hA), va_K.moved h2 hK⟩) hS9 (Nat.le_of_ble_eq_true rfl) (Nat.le_of_ble_eq_true rfl)

set_option maxHeartbeats 4000000 in
set_option maxRecDepth 100000 in
/-- single, no such hole -/
theorem t_single2 (l : Launch) (htr : l.stackTraces = false) (D : va_G) (g : Nat → ClassId) (ad : Nat → Nat) (w : Nat → Option va_E) (sz : Nat) (sg pl : Int32) (pc_ : Nat) (a0 : Int32) (o0 : w 0 = some (.inr (7, [.ref (ad 1), .ref (ad 5), .ref (ad 12), .ref (ad 17), .ref (ad 18), .ref (ad 23), .ref (ad 25), .int sg, .int pl]))) (p5 : w 5 = some (.inr (3, [.ref (ad 6), .ref (ad 7), .ref (ad 8), .ref (ad 9), .ref (ad 10), .ref (ad 11), .int (nI pc_)]))) (hpl : ¬ pl = 0) (h0 : a0 < 0 ∨ ¬ a0 < nI pc_) : dx_M l yDH_single wsDH_single ({ frames := 8, cells := 1, slots := 6, locals := 136 } : Room) (va_Pc [.ref (ad 0), .int a0] (dq_S D vwCl (dq_t g) ad w sz)) (dx_X D vwCl (dq_t g) ad w (dq_A ad w sz) (fun E => E = "java/lang/IndexOutOfBoundsException")) (dq_A ad w sz) 1 6 := by
  refine dx_of (cc := cDH_single) (maxL := 2) (by decide) rfl (Nat.le_of_ble_eq_true rfl) ?_
  intro p e s m below meth c A ls ⟨hx, hb, hml, hown, hts⟩ hnm hA hW hK hZ hl hout hlocks
  have hS : va_S A s.heap s.heap [] := va_S.rf
  have hl : lv_has ls 2 [(0, .ref (ad 0)), (1, .int a0)] := hl
  have hf172 := hts _ (List.mem_cons_of_mem _ tw1_221)
  have hinDH : ∀ w ∈ u_ws RDH TDH 9, w ∈ wsDH_single := fun w h => List.mem_cons_of_mem _ (inDH w h)
  refine lv_aload_n hx hb dDH_single_0 rfl (lv_at hl 0 rfl) ?_
  refine va_csv (W.runV (As := []) (rest := []) ⟨hx, hb, hml, hown, hts⟩ (c_planned l D g ad (w) _ sg pl o0 hpl) (cwV 0 hts (dq_giV tw3_56 tw3_58 twp_14 tw1_1 tw3_59) rfl rfl rfl (by decide +kernel) ⟨Nat.le_of_ble_eq_true rfl, Nat.le_of_ble_eq_true rfl⟩) (dq_preV (ci := 7) hW hS hA hK hZ o0 rfl rfl) rfl rfl hl.1 rfl (lv_room (Nat.le_of_ble_eq_true rfl)) dDH_single_1 ⟨Nat.zero_le _, Nat.zero_le _⟩) (fun _ => ?_)
  refine lv_aload_n hx hb dDH_single_4 rfl (lv_at hl 0 rfl) ?_
  refine lv_iload_n hx hb dDH_single_5 rfl (lv_at hl 1 rfl) ?_
  refine dx_callV (As := [.int a0]) (rest := []) ⟨hx, hb, hml, hown, hts⟩ (t_qhole l htr D g ad (w) _ sg pl pc_ a0 o0 p5 h0) (cwV 1 hts (dq_giV tw3_23 tw3_25 twp_13 tw1_1 tw3_26) rfl rfl rfl (by decide +kernel) ⟨Nat.le_of_ble_eq_true rfl, Nat.le_of_ble_eq_true rfl⟩) (dq_preV (ci := 7) hW hS hA hK hZ o0 rfl rfl) rfl hl.1 rfl (lv_room (Nat.le_of_ble_eq_true rfl)) dDH_single_6 ⟨Nat.le_of_ble_eq_true rfl, Nat.le_of_ble_eq_true rfl⟩ hS (dq_A.sub hW hS hA) (fun q9 E9 ce9 t9 H locs ht9 hal9 hX9 hz9 hk9 hS9 hce9 hcv9 hcl9 => ?_)
  obtain ⟨hE9, hW9, hK9⟩ := hX9
  rw [ht9] at hW9
  exact dx_out hout hlocks hce9 hcv9 hcl9 (fun t h1 h2 => ⟨hE9, by rw [h1]; exact hW9.weaken (dq_A.sub hW hS hA), va_K.moved h2 hK⟩) hS9 (Nat.le_of_ble_eq_true rfl) (Nat.le_of_ble_eq_true rfl)

set_option maxHeartbeats 4000000 in
set_option maxRecDepth 100000 in
/-- single(hole) -/
theorem c_single (l : Launch) (D : va_G) (g : Nat → ClassId) (ad : Nat → Nat) (w : Nat → Option va_E) (sz : Nat) (sgN : Nat) (pl : Int32) (pc_ h : Nat) (o0 : w 0 = some (.inr (7, [.ref (ad 1), .ref (ad 5), .ref (ad 12), .ref (ad 17), .ref (ad 18), .ref (ad 23), .ref (ad 25), .int (nI sgN), .int pl]))) (p5 : w 5 = some (.inr (3, [.ref (ad 6), .ref (ad 7), .ref (ad 8), .ref (ad 9), .ref (ad 10), .ref (ad 11), .int (nI pc_)]))) (hpl : ¬ pl = 0) (hh : h < pc_) (hpc : pc_ ≤ 14) (hS8 : sgN < 2 ^ 31) : Met l yDH_single wsDH_single ({ frames := 8, cells := 0, slots := 0, locals := 136 } : Room) (va_Pc [.ref (ad 0), .int (nI h)] (dq_S D vwCl (dq_t g) ad w sz)) (va_Qi (fun r u => r = dq_b (sgN.testBit h) ∧ u = w) (dq_B D vwCl (dq_t g) ad (dq_A ad w sz)) (dq_A ad w sz)) 0 0 (dq_A ad w sz) := by
  refine dq_ofz (cc := cDH_single) (maxL := 2) (by decide) rfl (Nat.le_of_ble_eq_true rfl) ?_
  intro p e s m below meth c A Q ls ⟨hx, hb, hml, hown, hts⟩ hnm hA hW hK hZ hl hret
  have hS : va_S A s.heap s.heap [] := va_S.rf
  have hl : lv_has ls 2 [(0, .ref (ad 0)), (1, .int (nI h))] := hl
  have hf172 := hts _ (List.mem_cons_of_mem _ tw1_221)
  have hinDH : ∀ w ∈ u_ws RDH TDH 9, w ∈ wsDH_single := fun w h => List.mem_cons_of_mem _ (inDH w h)
  refine lv_aload_n hx hb dDH_single_0 rfl (lv_at hl 0 rfl) ?_
  refine va_csv (W.runV (As := []) (rest := []) ⟨hx, hb, hml, hown, hts⟩ (c_planned l D g ad (w) _ (nI sgN) pl o0 hpl) (cwV 0 hts (dq_giV tw3_56 tw3_58 twp_14 tw1_1 tw3_59) rfl rfl rfl (by decide +kernel) ⟨Nat.le_of_ble_eq_true rfl, Nat.le_of_ble_eq_true rfl⟩) (dq_preV (ci := 7) hW hS hA hK hZ o0 rfl rfl) rfl rfl hl.1 rfl (lv_room (Nat.le_of_ble_eq_true rfl)) dDH_single_1 ⟨Nat.zero_le _, Nat.zero_le _⟩) (fun _ => ?_)
  refine lv_aload_n hx hb dDH_single_4 rfl (lv_at hl 0 rfl) ?_
  refine lv_iload_n hx hb dDH_single_5 rfl (lv_at hl 1 rfl) ?_
  refine va_csv (W.runV (As := [.int (nI h)]) (rest := []) ⟨hx, hb, hml, hown, hts⟩ (c_qhole l D g ad (w) _ (nI sgN) pl pc_ (nI h) o0 p5 (nI_pos (show h < 2 ^ 31 by omega)) (nI_lt hh (by omega))) (cwV 1 hts (dq_giV tw3_23 tw3_25 twp_13 tw1_1 tw3_26) rfl rfl rfl (by decide +kernel) ⟨Nat.le_of_ble_eq_true rfl, Nat.le_of_ble_eq_true rfl⟩) (dq_preV (ci := 7) hW hS hA hK hZ o0 rfl rfl) rfl rfl hl.1 rfl (lv_room (Nat.le_of_ble_eq_true rfl)) dDH_single_6 ⟨Nat.zero_le _, Nat.zero_le _⟩) (fun _ => ?_)
  refine lv_aload_n hx hb dDH_single_9 rfl (lv_at hl 0 rfl) ?_
  refine dq_get (D := D) (ci := 7) (v := .int (nI sgN)) (C := RDH) (T := TDH) (N := 9) hx hb hts hinDH hown hK hW 0 o0 rfl 7 (by decide) hf172 (fun _ h9 => h9) rfl dDH_single_10 ?_
  refine lv_iload_n hx hb dDH_single_13 rfl (lv_at hl 1 rfl) ?_
  refine dq_calli (va_runS (As := [.int (nI sgN), .int (nI h)]) (rest := []) ⟨hx, hb, hml, hown, hts⟩ (c_holds l D g ad (w) _ sgN h  hS8 (by omega)) (cwS 2 hts (dq_giS2 tw3_74 tw2_85 tw1_1 tw2_86) rfl rfl rfl (by decide +kernel) ⟨Nat.le_of_ble_eq_true rfl, Nat.le_of_ble_eq_true rfl⟩) (dq_preS hW hS hA hK hZ) rfl rfl hl.1 rfl (lv_room (Nat.le_of_ble_eq_true rfl)) dDH_single_14 ⟨Nat.zero_le _, Nat.zero_le _⟩) hW hS hA (fun r1 u_9 H locs hp1 hW hS hz9 => ?_)
  obtain ⟨hr1, hu9⟩ := hp1
  rw [hu9] at hW
  exact hret _ _ _ _ _ _ ⟨hr1, rfl⟩ (by rw [hr1]; exact dq_b_nar _) hW hS dDH_single_17

set_option maxHeartbeats 4000000 in
set_option maxRecDepth 100000 in
/-- order, not planned -/
theorem t_order1 (l : Launch) (htr : l.stackTraces = false) (D : va_G) (g : Nat → ClassId) (ad : Nat → Nat) (w : Nat → Option va_E) (sz : Nat) (sg pl : Int32) (a0 : Int32) (o0 : w 0 = some (.inr (7, [.ref (ad 1), .ref (ad 5), .ref (ad 12), .ref (ad 17), .ref (ad 18), .ref (ad 23), .ref (ad 25), .int sg, .int pl]))) (hpl : pl = 0) : dx_M l yDH_order wsDH_order ({ frames := 8, cells := 1, slots := 6, locals := 136 } : Room) (va_Pc [.ref (ad 0), .int a0] (dq_S D vwCl (dq_t g) ad w sz)) (dx_X D vwCl (dq_t g) ad w (dq_A ad w sz) (fun E => E = "java/lang/IllegalStateException")) (dq_A ad w sz) 1 6 := by
  refine dx_of (cc := cDH_order) (maxL := 2) (by decide) rfl (Nat.le_of_ble_eq_true rfl) ?_
  intro p e s m below meth c A ls ⟨hx, hb, hml, hown, hts⟩ hnm hA hW hK hZ hl hout hlocks
  have hS : va_S A s.heap s.heap [] := va_S.rf
  have hl : lv_has ls 2 [(0, .ref (ad 0)), (1, .int a0)] := hl
  have hf65 := hts _ (List.mem_cons_of_mem _ tw1_220)
  have hf175 := hts _ (List.mem_cons_of_mem _ tw1_203)
  have hinDH : ∀ w ∈ u_ws RDH TDH 9, w ∈ wsDH_order := fun w h => List.mem_cons_of_mem _ (inDH w h)
  have hinWy : ∀ w ∈ u_ws RWy TWy 3, w ∈ wsDH_order := fun w h => List.mem_cons_of_mem _ (inWy w h)
  refine lv_aload_n hx hb dDH_order_0 rfl (lv_at hl 0 rfl) ?_
  refine dx_callV (As := []) (rest := []) ⟨hx, hb, hml, hown, hts⟩ (t_planned l htr D g ad (w) _ sg pl o0 hpl) (cwV 0 hts (dq_giV tw3_56 tw3_58 twp_14 tw1_1 tw3_59) rfl rfl rfl (by decide +kernel) ⟨Nat.le_of_ble_eq_true rfl, Nat.le_of_ble_eq_true rfl⟩) (dq_preV (ci := 7) hW hS hA hK hZ o0 rfl rfl) rfl hl.1 rfl (lv_room (Nat.le_of_ble_eq_true rfl)) dDH_order_1 ⟨Nat.le_of_ble_eq_true rfl, Nat.le_of_ble_eq_true rfl⟩ hS (dq_A.sub hW hS hA) (fun q9 E9 ce9 t9 H locs ht9 hal9 hX9 hz9 hk9 hS9 hce9 hcv9 hcl9 => ?_)
  obtain ⟨hE9, hW9, hK9⟩ := hX9
  rw [ht9] at hW9
  exact dx_out hout hlocks hce9 hcv9 hcl9 (fun t h1 h2 => ⟨hE9, by rw [h1]; exact hW9.weaken (dq_A.sub hW hS hA), va_K.moved h2 hK⟩) hS9 (Nat.le_of_ble_eq_true rfl) (Nat.le_of_ble_eq_true rfl)

set_option maxHeartbeats 4000000 in
set_option maxRecDepth 100000 in
/-- order, no such hit -/
theorem t_order2 (l : Launch) (htr : l.stackTraces = false) (D : va_G) (g : Nat → ClassId) (ad : Nat → Nat) (w : Nat → Option va_E) (sz : Nat) (sg pl : Int32) (hc : Nat) (a0 : Int32) (o0 : w 0 = some (.inr (7, [.ref (ad 1), .ref (ad 5), .ref (ad 12), .ref (ad 17), .ref (ad 18), .ref (ad 23), .ref (ad 25), .int sg, .int pl]))) (t18 : w 18 = some (.inr (2, [.ref (ad 19), .ref (ad 20), .ref (ad 21), .ref (ad 22), .int (nI hc)]))) (hpl : ¬ pl = 0) (h0 : a0 < 0 ∨ ¬ a0 < nI hc) : dx_M l yDH_order wsDH_order ({ frames := 8, cells := 1, slots := 6, locals := 136 } : Room) (va_Pc [.ref (ad 0), .int a0] (dq_S D vwCl (dq_t g) ad w sz)) (dx_X D vwCl (dq_t g) ad w (dq_A ad w sz) (fun E => E = "java/lang/IndexOutOfBoundsException")) (dq_A ad w sz) 1 6 := by
  refine dx_of (cc := cDH_order) (maxL := 2) (by decide) rfl (Nat.le_of_ble_eq_true rfl) ?_
  intro p e s m below meth c A ls ⟨hx, hb, hml, hown, hts⟩ hnm hA hW hK hZ hl hout hlocks
  have hS : va_S A s.heap s.heap [] := va_S.rf
  have hl : lv_has ls 2 [(0, .ref (ad 0)), (1, .int a0)] := hl
  have hf65 := hts _ (List.mem_cons_of_mem _ tw1_220)
  have hf175 := hts _ (List.mem_cons_of_mem _ tw1_203)
  have hinDH : ∀ w ∈ u_ws RDH TDH 9, w ∈ wsDH_order := fun w h => List.mem_cons_of_mem _ (inDH w h)
  have hinWy : ∀ w ∈ u_ws RWy TWy 3, w ∈ wsDH_order := fun w h => List.mem_cons_of_mem _ (inWy w h)
  refine lv_aload_n hx hb dDH_order_0 rfl (lv_at hl 0 rfl) ?_
  refine va_csv (W.runV (As := []) (rest := []) ⟨hx, hb, hml, hown, hts⟩ (c_planned l D g ad (w) _ sg pl o0 hpl) (cwV 0 hts (dq_giV tw3_56 tw3_58 twp_14 tw1_1 tw3_59) rfl rfl rfl (by decide +kernel) ⟨Nat.le_of_ble_eq_true rfl, Nat.le_of_ble_eq_true rfl⟩) (dq_preV (ci := 7) hW hS hA hK hZ o0 rfl rfl) rfl rfl hl.1 rfl (lv_room (Nat.le_of_ble_eq_true rfl)) dDH_order_1 ⟨Nat.zero_le _, Nat.zero_le _⟩) (fun _ => ?_)
  refine lv_aload_n hx hb dDH_order_4 rfl (lv_at hl 0 rfl) ?_
  refine lv_iload_n hx hb dDH_order_5 rfl (lv_at hl 1 rfl) ?_
  refine dx_callV (As := [.int a0]) (rest := []) ⟨hx, hb, hml, hown, hts⟩ (t_qhit l htr D g ad (w) _ sg pl hc a0 o0 t18 h0) (cwV 1 hts (dq_giV tw3_61 tw3_63 twp_15 tw1_1 tw3_64) rfl rfl rfl (by decide +kernel) ⟨Nat.le_of_ble_eq_true rfl, Nat.le_of_ble_eq_true rfl⟩) (dq_preV (ci := 7) hW hS hA hK hZ o0 rfl rfl) rfl hl.1 rfl (lv_room (Nat.le_of_ble_eq_true rfl)) dDH_order_6 ⟨Nat.le_of_ble_eq_true rfl, Nat.le_of_ble_eq_true rfl⟩ hS (dq_A.sub hW hS hA) (fun q9 E9 ce9 t9 H locs ht9 hal9 hX9 hz9 hk9 hS9 hce9 hcv9 hcl9 => ?_)
  obtain ⟨hE9, hW9, hK9⟩ := hX9
  rw [ht9] at hW9
  exact dx_out hout hlocks hce9 hcv9 hcl9 (fun t h1 h2 => ⟨hE9, by rw [h1]; exact hW9.weaken (dq_A.sub hW hS hA), va_K.moved h2 hK⟩) hS9 (Nat.le_of_ble_eq_true rfl) (Nat.le_of_ble_eq_true rfl)

set_option maxHeartbeats 4000000 in
set_option maxRecDepth 100000 in
/-- order(k) -/
theorem c_order (l : Launch) (D : va_G) (g : Nat → ClassId) (ad : Nat → Nat) (w : Nat → Option va_E) (sz : Nat) (sg pl : Int32) (hc k : Nat) (wl : Int64) (sq sh : Nat → Int32) (sl : Nat) (o0 : w 0 = some (.inr (7, [.ref (ad 1), .ref (ad 5), .ref (ad 12), .ref (ad 17), .ref (ad 18), .ref (ad 23), .ref (ad 25), .int sg, .int pl]))) (t18 : w 18 = some (.inr (2, [.ref (ad 19), .ref (ad 20), .ref (ad 21), .ref (ad 22), .int (nI hc)]))) (y25 : w 25 = some (.inr (6, [.ref (ad 26), .long wl, .ref (ad 27)]))) (y26 : w 26 = some (.inl (g 0, 14, .inl sq))) (hpl : ¬ pl = 0) (hk : k < hc) (hc14 : hc ≤ 14) : Met l yDH_order wsDH_order ({ frames := 8, cells := 0, slots := 0, locals := 136 } : Room) (va_Pc [.ref (ad 0), .int (nI k)] (dq_S D vwCl (dq_t g) ad w sz)) (va_Qi (fun r u => r = sq k ∧ u = w) (dq_B D vwCl (dq_t g) ad (dq_A ad w sz)) (dq_A ad w sz)) 0 0 (dq_A ad w sz) := by
  refine dq_ofi (cc := cDH_order) (maxL := 2) (by decide) rfl (Nat.le_of_ble_eq_true rfl) ?_
  intro p e s m below meth c A Q ls ⟨hx, hb, hml, hown, hts⟩ hnm hA hW hK hZ hl hret
  have hS : va_S A s.heap s.heap [] := va_S.rf
  have hl : lv_has ls 2 [(0, .ref (ad 0)), (1, .int (nI k))] := hl
  have hf65 := hts _ (List.mem_cons_of_mem _ tw1_220)
  have hf175 := hts _ (List.mem_cons_of_mem _ tw1_203)
  have hinDH : ∀ w ∈ u_ws RDH TDH 9, w ∈ wsDH_order := fun w h => List.mem_cons_of_mem _ (inDH w h)
  have hinWy : ∀ w ∈ u_ws RWy TWy 3, w ∈ wsDH_order := fun w h => List.mem_cons_of_mem _ (inWy w h)
  refine lv_aload_n hx hb dDH_order_0 rfl (lv_at hl 0 rfl) ?_
  refine va_csv (W.runV (As := []) (rest := []) ⟨hx, hb, hml, hown, hts⟩ (c_planned l D g ad (w) _ sg pl o0 hpl) (cwV 0 hts (dq_giV tw3_56 tw3_58 twp_14 tw1_1 tw3_59) rfl rfl rfl (by decide +kernel) ⟨Nat.le_of_ble_eq_true rfl, Nat.le_of_ble_eq_true rfl⟩) (dq_preV (ci := 7) hW hS hA hK hZ o0 rfl rfl) rfl rfl hl.1 rfl (lv_room (Nat.le_of_ble_eq_true rfl)) dDH_order_1 ⟨Nat.zero_le _, Nat.zero_le _⟩) (fun _ => ?_)
  refine lv_aload_n hx hb dDH_order_4 rfl (lv_at hl 0 rfl) ?_
  refine lv_iload_n hx hb dDH_order_5 rfl (lv_at hl 1 rfl) ?_
  refine va_csv (W.runV (As := [.int (nI k)]) (rest := []) ⟨hx, hb, hml, hown, hts⟩ (c_qhit l D g ad (w) _ sg pl hc (nI k) o0 t18 (nI_pos (show k < 2 ^ 31 by omega)) (nI_lt hk (by omega))) (cwV 1 hts (dq_giV tw3_61 tw3_63 twp_15 tw1_1 tw3_64) rfl rfl rfl (by decide +kernel) ⟨Nat.le_of_ble_eq_true rfl, Nat.le_of_ble_eq_true rfl⟩) (dq_preV (ci := 7) hW hS hA hK hZ o0 rfl rfl) rfl rfl hl.1 rfl (lv_room (Nat.le_of_ble_eq_true rfl)) dDH_order_6 ⟨Nat.zero_le _, Nat.zero_le _⟩) (fun _ => ?_)
  refine lv_aload_n hx hb dDH_order_9 rfl (lv_at hl 0 rfl) ?_
  refine dq_get (D := D) (ci := 7) (v := .ref (ad 25)) (C := RDH) (T := TDH) (N := 9) hx hb hts hinDH hown hK hW 0 o0 rfl 6 (by decide) hf65 (fun _ h9 => h9) rfl dDH_order_10 ?_
  refine dq_get (D := D) (ci := 6) (v := .ref (ad 26)) (C := RWy) (T := TWy) (N := 3) hx hb hts hinWy hown hK hW 25 y25 rfl 0 (by decide) hf175 (fun _ h9 => h9) rfl dDH_order_13 ?_
  refine lv_iload_n hx hb dDH_order_16 rfl (lv_at hl 1 rfl) ?_
  refine dq_ialdN hx hb hK hW 26 0 y26 rfl k (by omega) (by omega) dDH_order_17 ?_
  exact hret _ _ _ _ _ _ ⟨rfl, rfl⟩ hW hS dDH_order_18

set_option maxHeartbeats 4000000 in
set_option maxRecDepth 100000 in
/-- travel, not planned -/
theorem t_travel1 (l : Launch) (htr : l.stackTraces = false) (D : va_G) (g : Nat → ClassId) (ad : Nat → Nat) (w : Nat → Option va_E) (sz : Nat) (sg pl : Int32) (o0 : w 0 = some (.inr (7, [.ref (ad 1), .ref (ad 5), .ref (ad 12), .ref (ad 17), .ref (ad 18), .ref (ad 23), .ref (ad 25), .int sg, .int pl]))) (hpl : pl = 0) : dx_M l yDH_travel wsDH_travel ({ frames := 8, cells := 1, slots := 6, locals := 136 } : Room) (va_Pc [.ref (ad 0)] (dq_S D vwCl (dq_t g) ad w sz)) (dx_X D vwCl (dq_t g) ad w (dq_A ad w sz) (fun E => E = "java/lang/IllegalStateException")) (dq_A ad w sz) 1 6 := by
  refine dx_of (cc := cDH_travel) (maxL := 1) (by decide) rfl (Nat.le_of_ble_eq_true rfl) ?_
  intro p e s m below meth c A ls ⟨hx, hb, hml, hown, hts⟩ hnm hA hW hK hZ hl hout hlocks
  have hS : va_S A s.heap s.heap [] := va_S.rf
  have hl : lv_has ls 1 [(0, .ref (ad 0))] := hl
  have hf65 := hts _ (List.mem_cons_of_mem _ tw1_220)
  have hf178 := hts _ (List.mem_cons_of_mem _ tw1_205)
  have hinDH : ∀ w ∈ u_ws RDH TDH 9, w ∈ wsDH_travel := fun w h => List.mem_cons_of_mem _ (inDH w h)
  have hinWy : ∀ w ∈ u_ws RWy TWy 3, w ∈ wsDH_travel := fun w h => List.mem_cons_of_mem _ (inWy w h)
  refine lv_aload_n hx hb dDH_travel_0 rfl (lv_at hl 0 rfl) ?_
  refine dx_callV (As := []) (rest := []) ⟨hx, hb, hml, hown, hts⟩ (t_planned l htr D g ad (w) _ sg pl o0 hpl) (cwV 0 hts (dq_giV tw3_56 tw3_58 twp_14 tw1_1 tw3_59) rfl rfl rfl (by decide +kernel) ⟨Nat.le_of_ble_eq_true rfl, Nat.le_of_ble_eq_true rfl⟩) (dq_preV (ci := 7) hW hS hA hK hZ o0 rfl rfl) rfl hl.1 rfl (lv_room (Nat.le_of_ble_eq_true rfl)) dDH_travel_1 ⟨Nat.le_of_ble_eq_true rfl, Nat.le_of_ble_eq_true rfl⟩ hS (dq_A.sub hW hS hA) (fun q9 E9 ce9 t9 H locs ht9 hal9 hX9 hz9 hk9 hS9 hce9 hcv9 hcl9 => ?_)
  obtain ⟨hE9, hW9, hK9⟩ := hX9
  rw [ht9] at hW9
  exact dx_out hout hlocks hce9 hcv9 hcl9 (fun t h1 h2 => ⟨hE9, by rw [h1]; exact hW9.weaken (dq_A.sub hW hS hA), va_K.moved h2 hK⟩) hS9 (Nat.le_of_ble_eq_true rfl) (Nat.le_of_ble_eq_true rfl)

set_option maxHeartbeats 4000000 in
set_option maxRecDepth 100000 in
/-- travel() -/
theorem c_travel (l : Launch) (D : va_G) (g : Nat → ClassId) (ad : Nat → Nat) (w : Nat → Option va_E) (sz : Nat) (sg pl : Int32) (wl : Int64) (sq sh : Nat → Int32) (sl : Nat) (o0 : w 0 = some (.inr (7, [.ref (ad 1), .ref (ad 5), .ref (ad 12), .ref (ad 17), .ref (ad 18), .ref (ad 23), .ref (ad 25), .int sg, .int pl]))) (y25 : w 25 = some (.inr (6, [.ref (ad 26), .long wl, .ref (ad 27)]))) (hpl : ¬ pl = 0) : Met l yDH_travel wsDH_travel ({ frames := 8, cells := 0, slots := 0, locals := 136 } : Room) (va_Pc [.ref (ad 0)] (dq_S D vwCl (dq_t g) ad w sz)) (va_Ql (fun r u => r = wl ∧ u = w) (dq_B D vwCl (dq_t g) ad (dq_A ad w sz)) (dq_A ad w sz)) 0 0 (dq_A ad w sz) := by
  refine dq_ofl (cc := cDH_travel) (maxL := 1) (by decide) rfl (Nat.le_of_ble_eq_true rfl) ?_
  intro p e s m below meth c A Q ls ⟨hx, hb, hml, hown, hts⟩ hnm hA hW hK hZ hl hret
  have hS : va_S A s.heap s.heap [] := va_S.rf
  have hl : lv_has ls 1 [(0, .ref (ad 0))] := hl
  have hf65 := hts _ (List.mem_cons_of_mem _ tw1_220)
  have hf178 := hts _ (List.mem_cons_of_mem _ tw1_205)
  have hinDH : ∀ w ∈ u_ws RDH TDH 9, w ∈ wsDH_travel := fun w h => List.mem_cons_of_mem _ (inDH w h)
  have hinWy : ∀ w ∈ u_ws RWy TWy 3, w ∈ wsDH_travel := fun w h => List.mem_cons_of_mem _ (inWy w h)
  refine lv_aload_n hx hb dDH_travel_0 rfl (lv_at hl 0 rfl) ?_
  refine va_csv (W.runV (As := []) (rest := []) ⟨hx, hb, hml, hown, hts⟩ (c_planned l D g ad (w) _ sg pl o0 hpl) (cwV 0 hts (dq_giV tw3_56 tw3_58 twp_14 tw1_1 tw3_59) rfl rfl rfl (by decide +kernel) ⟨Nat.le_of_ble_eq_true rfl, Nat.le_of_ble_eq_true rfl⟩) (dq_preV (ci := 7) hW hS hA hK hZ o0 rfl rfl) rfl rfl hl.1 rfl (lv_room (Nat.le_of_ble_eq_true rfl)) dDH_travel_1 ⟨Nat.zero_le _, Nat.zero_le _⟩) (fun _ => ?_)
  refine lv_aload_n hx hb dDH_travel_4 rfl (lv_at hl 0 rfl) ?_
  refine dq_get (D := D) (ci := 7) (v := .ref (ad 25)) (C := RDH) (T := TDH) (N := 9) hx hb hts hinDH hown hK hW 0 o0 rfl 6 (by decide) hf65 (fun _ h9 => h9) rfl dDH_travel_5 ?_
  refine dq_get (D := D) (ci := 6) (v := .long wl) (C := RWy) (T := TWy) (N := 3) hx hb hts hinWy hown hK hW 25 y25 rfl 1 (by decide) hf178 (fun _ h9 => h9) rfl dDH_travel_8 ?_
  exact hret _ _ _ _ _ _ ⟨rfl, rfl⟩ hW hS dDH_travel_11

set_option maxHeartbeats 4000000 in
set_option maxRecDepth 100000 in
/-- least, not planned -/
theorem t_least1 (l : Launch) (htr : l.stackTraces = false) (D : va_G) (g : Nat → ClassId) (ad : Nat → Nat) (w : Nat → Option va_E) (sz : Nat) (sg pl : Int32) (o0 : w 0 = some (.inr (7, [.ref (ad 1), .ref (ad 5), .ref (ad 12), .ref (ad 17), .ref (ad 18), .ref (ad 23), .ref (ad 25), .int sg, .int pl]))) (hpl : pl = 0) : dx_M l yDH_least wsDH_least ({ frames := 8, cells := 1, slots := 6, locals := 136 } : Room) (va_Pc [.ref (ad 0)] (dq_S D vwCl (dq_t g) ad w sz)) (dx_X D vwCl (dq_t g) ad w (dq_A ad w sz) (fun E => E = "java/lang/IllegalStateException")) (dq_A ad w sz) 1 6 := by
  refine dx_of (cc := cDH_least) (maxL := 1) (by decide) rfl (Nat.le_of_ble_eq_true rfl) ?_
  intro p e s m below meth c A ls ⟨hx, hb, hml, hown, hts⟩ hnm hA hW hK hZ hl hout hlocks
  have hS : va_S A s.heap s.heap [] := va_S.rf
  have hl : lv_has ls 1 [(0, .ref (ad 0))] := hl
  have hf51 := hts _ (List.mem_cons_of_mem _ tw1_218)
  have hf140 := hts _ (List.mem_cons_of_mem _ tw1_174)
  have hinDH : ∀ w ∈ u_ws RDH TDH 9, w ∈ wsDH_least := fun w h => List.mem_cons_of_mem _ (inDH w h)
  have hinHt : ∀ w ∈ u_ws RHt THt 5, w ∈ wsDH_least := fun w h => List.mem_cons_of_mem _ (inHt w h)
  refine lv_aload_n hx hb dDH_least_0 rfl (lv_at hl 0 rfl) ?_
  refine dx_callV (As := []) (rest := []) ⟨hx, hb, hml, hown, hts⟩ (t_planned l htr D g ad (w) _ sg pl o0 hpl) (cwV 0 hts (dq_giV tw3_56 tw3_58 twp_14 tw1_1 tw3_59) rfl rfl rfl (by decide +kernel) ⟨Nat.le_of_ble_eq_true rfl, Nat.le_of_ble_eq_true rfl⟩) (dq_preV (ci := 7) hW hS hA hK hZ o0 rfl rfl) rfl hl.1 rfl (lv_room (Nat.le_of_ble_eq_true rfl)) dDH_least_1 ⟨Nat.le_of_ble_eq_true rfl, Nat.le_of_ble_eq_true rfl⟩ hS (dq_A.sub hW hS hA) (fun q9 E9 ce9 t9 H locs ht9 hal9 hX9 hz9 hk9 hS9 hce9 hcv9 hcl9 => ?_)
  obtain ⟨hE9, hW9, hK9⟩ := hX9
  rw [ht9] at hW9
  exact dx_out hout hlocks hce9 hcv9 hcl9 (fun t h1 h2 => ⟨hE9, by rw [h1]; exact hW9.weaken (dq_A.sub hW hS hA), va_K.moved h2 hK⟩) hS9 (Nat.le_of_ble_eq_true rfl) (Nat.le_of_ble_eq_true rfl)

set_option maxHeartbeats 4000000 in
set_option maxRecDepth 100000 in
/-- least() -/
theorem c_least_y (l : Launch) (D : va_G) (g : Nat → ClassId) (ad : Nat → Nat) (w : Nat → Option va_E) (sz : Nat) (sg pl : Int32) (hc : Nat) (o0 : w 0 = some (.inr (7, [.ref (ad 1), .ref (ad 5), .ref (ad 12), .ref (ad 17), .ref (ad 18), .ref (ad 23), .ref (ad 25), .int sg, .int pl]))) (t18 : w 18 = some (.inr (2, [.ref (ad 19), .ref (ad 20), .ref (ad 21), .ref (ad 22), .int (nI hc)]))) (hpl : ¬ pl = 0) (hc14 : hc ≤ 14) (h0 : hc ≤ 10) : Met l yDH_least wsDH_least ({ frames := 8, cells := 0, slots := 0, locals := 136 } : Room) (va_Pc [.ref (ad 0)] (dq_S D vwCl (dq_t g) ad w sz)) (va_Qi (fun r u => r = 1 ∧ u = w) (dq_B D vwCl (dq_t g) ad (dq_A ad w sz)) (dq_A ad w sz)) 0 0 (dq_A ad w sz) := by
  refine dq_ofz (cc := cDH_least) (maxL := 1) (by decide) rfl (Nat.le_of_ble_eq_true rfl) ?_
  intro p e s m below meth c A Q ls ⟨hx, hb, hml, hown, hts⟩ hnm hA hW hK hZ hl hret
  have hS : va_S A s.heap s.heap [] := va_S.rf
  have hl : lv_has ls 1 [(0, .ref (ad 0))] := hl
  have hf51 := hts _ (List.mem_cons_of_mem _ tw1_218)
  have hf140 := hts _ (List.mem_cons_of_mem _ tw1_174)
  have hinDH : ∀ w ∈ u_ws RDH TDH 9, w ∈ wsDH_least := fun w h => List.mem_cons_of_mem _ (inDH w h)
  have hinHt : ∀ w ∈ u_ws RHt THt 5, w ∈ wsDH_least := fun w h => List.mem_cons_of_mem _ (inHt w h)
  refine lv_aload_n hx hb dDH_least_0 rfl (lv_at hl 0 rfl) ?_
  refine va_csv (W.runV (As := []) (rest := []) ⟨hx, hb, hml, hown, hts⟩ (c_planned l D g ad (w) _ sg pl o0 hpl) (cwV 0 hts (dq_giV tw3_56 tw3_58 twp_14 tw1_1 tw3_59) rfl rfl rfl (by decide +kernel) ⟨Nat.le_of_ble_eq_true rfl, Nat.le_of_ble_eq_true rfl⟩) (dq_preV (ci := 7) hW hS hA hK hZ o0 rfl rfl) rfl rfl hl.1 rfl (lv_room (Nat.le_of_ble_eq_true rfl)) dDH_least_1 ⟨Nat.zero_le _, Nat.zero_le _⟩) (fun _ => ?_)
  refine lv_aload_n hx hb dDH_least_4 rfl (lv_at hl 0 rfl) ?_
  refine dq_get (D := D) (ci := 7) (v := .ref (ad 18)) (C := RDH) (T := TDH) (N := 9) hx hb hts hinDH hown hK hW 0 o0 rfl 4 (by decide) hf51 (fun _ h9 => h9) rfl dDH_least_5 ?_
  refine dq_get (D := D) (ci := 2) (v := .int (nI hc)) (C := RHt) (T := THt) (N := 5) hx hb hts hinHt hown hK hW 18 t18 rfl 4 (by decide) hf140 (fun _ h9 => h9) rfl dDH_least_8 ?_
  refine lv_bipush (v := (nI 10)) hx hb dDH_least_11 (by decide) ?_
  refine lv_icmp_gt (tgt := 20) hx hb dDH_least_13 (by decide) (fun c1 => ?_) (fun c1 => ?_)
  · exact absurd ((nI_ltI (by omega) (by omega)).mp c1) (by omega)
  · refine lv_iconst (v := (1)) hx hb dDH_least_16 (by decide) ?_
    refine lv_goto (tgt := 21) hx hb dDH_least_17 (by decide) ?_
    exact hret _ _ _ _ _ _ ⟨rfl, rfl⟩ (by decide) hW hS dDH_least_21

set_option maxHeartbeats 4000000 in
set_option maxRecDepth 100000 in
/-- least() -/
theorem c_least_n (l : Launch) (D : va_G) (g : Nat → ClassId) (ad : Nat → Nat) (w : Nat → Option va_E) (sz : Nat) (sg pl : Int32) (hc : Nat) (o0 : w 0 = some (.inr (7, [.ref (ad 1), .ref (ad 5), .ref (ad 12), .ref (ad 17), .ref (ad 18), .ref (ad 23), .ref (ad 25), .int sg, .int pl]))) (t18 : w 18 = some (.inr (2, [.ref (ad 19), .ref (ad 20), .ref (ad 21), .ref (ad 22), .int (nI hc)]))) (hpl : ¬ pl = 0) (hc14 : hc ≤ 14) (h0 : 10 < hc) : Met l yDH_least wsDH_least ({ frames := 8, cells := 0, slots := 0, locals := 136 } : Room) (va_Pc [.ref (ad 0)] (dq_S D vwCl (dq_t g) ad w sz)) (va_Qi (fun r u => r = 0 ∧ u = w) (dq_B D vwCl (dq_t g) ad (dq_A ad w sz)) (dq_A ad w sz)) 0 0 (dq_A ad w sz) := by
  refine dq_ofz (cc := cDH_least) (maxL := 1) (by decide) rfl (Nat.le_of_ble_eq_true rfl) ?_
  intro p e s m below meth c A Q ls ⟨hx, hb, hml, hown, hts⟩ hnm hA hW hK hZ hl hret
  have hS : va_S A s.heap s.heap [] := va_S.rf
  have hl : lv_has ls 1 [(0, .ref (ad 0))] := hl
  have hf51 := hts _ (List.mem_cons_of_mem _ tw1_218)
  have hf140 := hts _ (List.mem_cons_of_mem _ tw1_174)
  have hinDH : ∀ w ∈ u_ws RDH TDH 9, w ∈ wsDH_least := fun w h => List.mem_cons_of_mem _ (inDH w h)
  have hinHt : ∀ w ∈ u_ws RHt THt 5, w ∈ wsDH_least := fun w h => List.mem_cons_of_mem _ (inHt w h)
  refine lv_aload_n hx hb dDH_least_0 rfl (lv_at hl 0 rfl) ?_
  refine va_csv (W.runV (As := []) (rest := []) ⟨hx, hb, hml, hown, hts⟩ (c_planned l D g ad (w) _ sg pl o0 hpl) (cwV 0 hts (dq_giV tw3_56 tw3_58 twp_14 tw1_1 tw3_59) rfl rfl rfl (by decide +kernel) ⟨Nat.le_of_ble_eq_true rfl, Nat.le_of_ble_eq_true rfl⟩) (dq_preV (ci := 7) hW hS hA hK hZ o0 rfl rfl) rfl rfl hl.1 rfl (lv_room (Nat.le_of_ble_eq_true rfl)) dDH_least_1 ⟨Nat.zero_le _, Nat.zero_le _⟩) (fun _ => ?_)
  refine lv_aload_n hx hb dDH_least_4 rfl (lv_at hl 0 rfl) ?_
  refine dq_get (D := D) (ci := 7) (v := .ref (ad 18)) (C := RDH) (T := TDH) (N := 9) hx hb hts hinDH hown hK hW 0 o0 rfl 4 (by decide) hf51 (fun _ h9 => h9) rfl dDH_least_5 ?_
  refine dq_get (D := D) (ci := 2) (v := .int (nI hc)) (C := RHt) (T := THt) (N := 5) hx hb hts hinHt hown hK hW 18 t18 rfl 4 (by decide) hf140 (fun _ h9 => h9) rfl dDH_least_8 ?_
  refine lv_bipush (v := (nI 10)) hx hb dDH_least_11 (by decide) ?_
  refine lv_icmp_gt (tgt := 20) hx hb dDH_least_13 (by decide) (fun c1 => ?_) (fun c1 => ?_)
  · refine lv_iconst (v := (0)) hx hb dDH_least_20 (by decide) ?_
    exact hret _ _ _ _ _ _ ⟨rfl, rfl⟩ (by decide) hW hS dDH_least_21
  · exact absurd (nI_lt h0 (by omega)) c1
