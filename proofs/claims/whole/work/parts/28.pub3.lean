set_option maxHeartbeats 4000000 in
set_option maxRecDepth 100000 in
/-- bound, not planned -/
theorem t_bound1 (l : Launch) (htr : l.stackTraces = false) (D : va_G) (g : Nat → ClassId) (ad : Nat → Nat) (w : Nat → Option va_E) (sz : Nat) (sg pl : Int32) (o0 : w 0 = some (.inr (7, [.ref (ad 1), .ref (ad 5), .ref (ad 12), .ref (ad 17), .ref (ad 18), .ref (ad 23), .ref (ad 25), .int sg, .int pl]))) (hpl : pl = 0) : dx_M l yDH_bound wsDH_bound ({ frames := 8, cells := 1, slots := 6, locals := 136 } : Room) (va_Pc [.ref (ad 0)] (dq_S D vwCl (dq_t g) ad w sz)) (dx_X D vwCl (dq_t g) ad w (dq_A ad w sz) (fun E => E = "java/lang/IllegalStateException")) (dq_A ad w sz) 1 6 := by
  refine dx_of (cc := cDH_bound) (maxL := 3) (by decide) rfl (Nat.le_of_ble_eq_true rfl) ?_
  intro p e s m below meth c A ls ⟨hx, hb, hml, hown, hts⟩ hnm hA hW hK hZ hl hout hlocks
  have hS : va_S A s.heap s.heap [] := va_S.rf
  have hl : lv_has ls 3 [(0, .ref (ad 0))] := hl
  have hf23 := hts _ (List.mem_cons_of_mem _ tw1_214)
  have hf30 := hts _ (List.mem_cons_of_mem _ tw1_215)
  have hf96 := hts _ (List.mem_cons_of_mem _ tw1_89)
  have hf172 := hts _ (List.mem_cons_of_mem _ tw1_221)
  have hinDH : ∀ w ∈ u_ws RDH TDH 9, w ∈ wsDH_bound := fun w h => List.mem_cons_of_mem _ (inDH w h)
  have hinPt : ∀ w ∈ u_ws RPt TPt 7, w ∈ wsDH_bound := fun w h => List.mem_cons_of_mem _ (inPt w h)
  refine lv_aload_n hx hb dDH_bound_0 rfl (lv_at hl 0 rfl) ?_
  refine dx_callV (As := []) (rest := []) ⟨hx, hb, hml, hown, hts⟩ (t_planned l htr D g ad (w) _ sg pl o0 hpl) (cwV 0 hts (dq_giV tw3_56 tw3_58 twp_14 tw1_1 tw3_59) rfl rfl rfl (by decide +kernel) ⟨Nat.le_of_ble_eq_true rfl, Nat.le_of_ble_eq_true rfl⟩) (dq_preV (ci := 7) hW hS hA hK hZ o0 rfl rfl) rfl hl.1 rfl (lv_room (Nat.le_of_ble_eq_true rfl)) dDH_bound_1 ⟨Nat.le_of_ble_eq_true rfl, Nat.le_of_ble_eq_true rfl⟩ hS (dq_A.sub hW hS hA) (fun q9 E9 ce9 t9 H locs ht9 hal9 hX9 hz9 hk9 hS9 hce9 hcv9 hcl9 => ?_)
  obtain ⟨hE9, hW9, hK9⟩ := hX9
  rw [ht9] at hW9
  exact dx_out hout hlocks hce9 hcv9 hcl9 (fun t h1 h2 => ⟨hE9, by rw [h1]; exact hW9.weaken (dq_A.sub hW hS hA), va_K.moved h2 hK⟩) hS9 (Nat.le_of_ble_eq_true rfl) (Nat.le_of_ble_eq_true rfl)

set_option maxHeartbeats 4000000 in
set_option maxRecDepth 100000 in
/-- bound() -/
theorem c_bound_z (l : Launch) (D : va_G) (g : Nat → ClassId) (ad : Nat → Nat) (w : Nat → Option va_E) (sz : Nat) (sgN : Nat) (pl : Int32) (n : Nat) (hx_ hy_ hw_ : Nat → Int32) (f0 f1 f2 f3 : Int32) (pc_ : Nat) (o0 : w 0 = some (.inr (7, [.ref (ad 1), .ref (ad 5), .ref (ad 12), .ref (ad 17), .ref (ad 18), .ref (ad 23), .ref (ad 25), .int (nI sgN), .int pl]))) (h1 : w 1 = some (.inr (1, [.ref (ad 2), .ref (ad 3), .ref (ad 4), .int f0, .int f1, .int f2, .int f3]))) (h2 : w 2 = some (.inl (g 0, n, .inl hx_))) (h3 : w 3 = some (.inl (g 0, n, .inl hy_))) (h4 : w 4 = some (.inl (g 0, n, .inl hw_))) (p5 : w 5 = some (.inr (3, [.ref (ad 6), .ref (ad 7), .ref (ad 8), .ref (ad 9), .ref (ad 10), .ref (ad 11), .int (nI pc_)]))) (hpl : ¬ pl = 0) (hn : n ≤ 16) (hsg : sgN < 16384) (h0 : mh_cnt hw_ n = 0) : Met l yDH_bound wsDH_bound ({ frames := 8, cells := 0, slots := 0, locals := 136 } : Room) (va_Pc [.ref (ad 0)] (dq_S D vwCl (dq_t g) ad w sz)) (va_Qi (fun r u => r = 0 ∧ u = w) (dq_B D vwCl (dq_t g) ad (dq_A ad w sz)) (dq_A ad w sz)) 0 0 (dq_A ad w sz) := by
  refine dq_ofi (cc := cDH_bound) (maxL := 3) (by decide) rfl (Nat.le_of_ble_eq_true rfl) ?_
  intro p e s m below meth c A Q ls ⟨hx, hb, hml, hown, hts⟩ hnm hA hW hK hZ hl hret
  have hS : va_S A s.heap s.heap [] := va_S.rf
  have hl : lv_has ls 3 [(0, .ref (ad 0))] := hl
  have hf23 := hts _ (List.mem_cons_of_mem _ tw1_214)
  have hf30 := hts _ (List.mem_cons_of_mem _ tw1_215)
  have hf96 := hts _ (List.mem_cons_of_mem _ tw1_89)
  have hf172 := hts _ (List.mem_cons_of_mem _ tw1_221)
  have hinDH : ∀ w ∈ u_ws RDH TDH 9, w ∈ wsDH_bound := fun w h => List.mem_cons_of_mem _ (inDH w h)
  have hinPt : ∀ w ∈ u_ws RPt TPt 7, w ∈ wsDH_bound := fun w h => List.mem_cons_of_mem _ (inPt w h)
  have hcl : mh_cnt hw_ n ≤ n := mh_cnt_le hw_ n
  refine lv_aload_n hx hb dDH_bound_0 rfl (lv_at hl 0 rfl) ?_
  refine va_csv (W.runV (As := []) (rest := []) ⟨hx, hb, hml, hown, hts⟩ (c_planned l D g ad (w) _ (nI sgN) pl o0 hpl) (cwV 0 hts (dq_giV tw3_56 tw3_58 twp_14 tw1_1 tw3_59) rfl rfl rfl (by decide +kernel) ⟨Nat.le_of_ble_eq_true rfl, Nat.le_of_ble_eq_true rfl⟩) (dq_preV (ci := 7) hW hS hA hK hZ o0 rfl rfl) rfl rfl hl.1 rfl (lv_room (Nat.le_of_ble_eq_true rfl)) dDH_bound_1 ⟨Nat.zero_le _, Nat.zero_le _⟩) (fun _ => ?_)
  refine lv_aload_n hx hb dDH_bound_4 rfl (lv_at hl 0 rfl) ?_
  refine dq_get (D := D) (ci := 7) (v := .ref (ad 1)) (C := RDH) (T := TDH) (N := 9) hx hb hts hinDH hown hK hW 0 o0 rfl 0 (by decide) hf23 (fun _ h9 => h9) rfl dDH_bound_5 ?_
  refine dq_calli (va_runV (As := []) (rest := []) ⟨hx, hb, hml, hown, hts⟩ (c_Head_countThere l D g ad (w) _ n hx_ hy_ hw_ f0 f1 f2 f3 h1 h2 h3 h4 hn) (cwV 0 hts (dq_giV tw3_123 tw3_124 tw3_125 tw1_2 tw3_126) rfl rfl rfl (by decide +kernel) ⟨Nat.le_of_ble_eq_true rfl, Nat.le_of_ble_eq_true rfl⟩) (dq_preV (ci := 1) hW hS hA hK hZ h1 rfl rfl) rfl rfl hl.1 rfl (lv_room (Nat.le_of_ble_eq_true rfl)) dDH_bound_8 ⟨Nat.zero_le _, Nat.zero_le _⟩) hW hS hA (fun r1 u_9 H locs hp1 hW hS hz9 => ?_)
  obtain ⟨hr1, hu9⟩ := hp1
  rw [hu9] at hW
  subst hr1
  refine lv_istore_n (lv' := [(1, .int (nI (mh_cnt hw_ n))), (0, .ref (ad 0))]) hx hb dDH_bound_11 rfl hl (by decide) rfl (fun ls hl => ?_)
  refine lv_iload_n hx hb dDH_bound_12 rfl (lv_at hl 0 rfl) ?_
  refine lv_if_ne (tgt := 18) hx hb dDH_bound_13 (by decide) (fun c1 => ?_) (fun c1 => ?_)
  · exact absurd (by rw [h0]; rfl) c1
  · refine lv_iconst (v := (0)) hx hb dDH_bound_16 (by decide) ?_
    exact hret _ _ _ _ _ _ ⟨rfl, rfl⟩ hW hS dDH_bound_17

set_option maxHeartbeats 4000000 in
set_option maxRecDepth 100000 in
/-- bound() -/
theorem c_bound_p (l : Launch) (D : va_G) (g : Nat → ClassId) (ad : Nat → Nat) (w : Nat → Option va_E) (sz : Nat) (sgN : Nat) (pl : Int32) (n : Nat) (hx_ hy_ hw_ : Nat → Int32) (f0 f1 f2 f3 : Int32) (pc_ : Nat) (o0 : w 0 = some (.inr (7, [.ref (ad 1), .ref (ad 5), .ref (ad 12), .ref (ad 17), .ref (ad 18), .ref (ad 23), .ref (ad 25), .int (nI sgN), .int pl]))) (h1 : w 1 = some (.inr (1, [.ref (ad 2), .ref (ad 3), .ref (ad 4), .int f0, .int f1, .int f2, .int f3]))) (h2 : w 2 = some (.inl (g 0, n, .inl hx_))) (h3 : w 3 = some (.inl (g 0, n, .inl hy_))) (h4 : w 4 = some (.inl (g 0, n, .inl hw_))) (p5 : w 5 = some (.inr (3, [.ref (ad 6), .ref (ad 7), .ref (ad 8), .ref (ad 9), .ref (ad 10), .ref (ad 11), .int (nI pc_)]))) (hpl : ¬ pl = 0) (hn : n ≤ 16) (hsg : sgN < 16384) (h0 : ¬ mh_cnt hw_ n = 0) : Met l yDH_bound wsDH_bound ({ frames := 8, cells := 0, slots := 0, locals := 136 } : Room) (va_Pc [.ref (ad 0)] (dq_S D vwCl (dq_t g) ad w sz)) (va_Qi (fun r u => r = (nI pc_ - nI (dq_pc sgN 14) + nI (mh_cnt hw_ n) - 1) / nI (mh_cnt hw_ n) ∧ u = w) (dq_B D vwCl (dq_t g) ad (dq_A ad w sz)) (dq_A ad w sz)) 0 0 (dq_A ad w sz) := by
  refine dq_ofi (cc := cDH_bound) (maxL := 3) (by decide) rfl (Nat.le_of_ble_eq_true rfl) ?_
  intro p e s m below meth c A Q ls ⟨hx, hb, hml, hown, hts⟩ hnm hA hW hK hZ hl hret
  have hS : va_S A s.heap s.heap [] := va_S.rf
  have hl : lv_has ls 3 [(0, .ref (ad 0))] := hl
  have hf23 := hts _ (List.mem_cons_of_mem _ tw1_214)
  have hf30 := hts _ (List.mem_cons_of_mem _ tw1_215)
  have hf96 := hts _ (List.mem_cons_of_mem _ tw1_89)
  have hf172 := hts _ (List.mem_cons_of_mem _ tw1_221)
  have hinDH : ∀ w ∈ u_ws RDH TDH 9, w ∈ wsDH_bound := fun w h => List.mem_cons_of_mem _ (inDH w h)
  have hinPt : ∀ w ∈ u_ws RPt TPt 7, w ∈ wsDH_bound := fun w h => List.mem_cons_of_mem _ (inPt w h)
  have hcl : mh_cnt hw_ n ≤ n := mh_cnt_le hw_ n
  refine lv_aload_n hx hb dDH_bound_0 rfl (lv_at hl 0 rfl) ?_
  refine va_csv (W.runV (As := []) (rest := []) ⟨hx, hb, hml, hown, hts⟩ (c_planned l D g ad (w) _ (nI sgN) pl o0 hpl) (cwV 0 hts (dq_giV tw3_56 tw3_58 twp_14 tw1_1 tw3_59) rfl rfl rfl (by decide +kernel) ⟨Nat.le_of_ble_eq_true rfl, Nat.le_of_ble_eq_true rfl⟩) (dq_preV (ci := 7) hW hS hA hK hZ o0 rfl rfl) rfl rfl hl.1 rfl (lv_room (Nat.le_of_ble_eq_true rfl)) dDH_bound_1 ⟨Nat.zero_le _, Nat.zero_le _⟩) (fun _ => ?_)
  refine lv_aload_n hx hb dDH_bound_4 rfl (lv_at hl 0 rfl) ?_
  refine dq_get (D := D) (ci := 7) (v := .ref (ad 1)) (C := RDH) (T := TDH) (N := 9) hx hb hts hinDH hown hK hW 0 o0 rfl 0 (by decide) hf23 (fun _ h9 => h9) rfl dDH_bound_5 ?_
  refine dq_calli (va_runV (As := []) (rest := []) ⟨hx, hb, hml, hown, hts⟩ (c_Head_countThere l D g ad (w) _ n hx_ hy_ hw_ f0 f1 f2 f3 h1 h2 h3 h4 hn) (cwV 0 hts (dq_giV tw3_123 tw3_124 tw3_125 tw1_2 tw3_126) rfl rfl rfl (by decide +kernel) ⟨Nat.le_of_ble_eq_true rfl, Nat.le_of_ble_eq_true rfl⟩) (dq_preV (ci := 1) hW hS hA hK hZ h1 rfl rfl) rfl rfl hl.1 rfl (lv_room (Nat.le_of_ble_eq_true rfl)) dDH_bound_8 ⟨Nat.zero_le _, Nat.zero_le _⟩) hW hS hA (fun r1 u_9 H locs hp1 hW hS hz9 => ?_)
  obtain ⟨hr1, hu9⟩ := hp1
  rw [hu9] at hW
  subst hr1
  refine lv_istore_n (lv' := [(1, .int (nI (mh_cnt hw_ n))), (0, .ref (ad 0))]) hx hb dDH_bound_11 rfl hl (by decide) rfl (fun ls hl => ?_)
  refine lv_iload_n hx hb dDH_bound_12 rfl (lv_at hl 0 rfl) ?_
  refine lv_if_ne (tgt := 18) hx hb dDH_bound_13 (by decide) (fun c1 => ?_) (fun c1 => ?_)
  · refine lv_aload_n hx hb dDH_bound_18 rfl (lv_at hl 1 rfl) ?_
    refine dq_get (D := D) (ci := 7) (v := .ref (ad 5)) (C := RDH) (T := TDH) (N := 9) hx hb hts hinDH hown hK hW 0 o0 rfl 1 (by decide) hf30 (fun _ h9 => h9) rfl dDH_bound_19 ?_
    refine dq_get (D := D) (ci := 3) (v := .int (nI pc_)) (C := RPt) (T := TPt) (N := 7) hx hb hts hinPt hown hK hW 5 p5 rfl 6 (by decide) hf96 (fun _ h9 => h9) rfl dDH_bound_22 ?_
    refine lv_aload_n hx hb dDH_bound_25 rfl (lv_at hl 1 rfl) ?_
    refine dq_get (D := D) (ci := 7) (v := .int (nI sgN)) (C := RDH) (T := TDH) (N := 9) hx hb hts hinDH hown hK hW 0 o0 rfl 7 (by decide) hf172 (fun _ h9 => h9) rfl dDH_bound_26 ?_
    refine dq_calli (va_runS (As := [.int (nI sgN)]) (rest := [.int (nI pc_)]) ⟨hx, hb, hml, hown, hts⟩ (c_bitCount l D g ad (w) _ sgN  hsg) (va_cwS 1 hts (dq_giS3 tw3_127 tw3_128 tw1_17 tw3_129) rfl rfl rfl (by decide +kernel) ⟨Nat.le_of_ble_eq_true rfl, Nat.le_of_ble_eq_true rfl⟩) (dq_preS hW hS hA hK hZ) rfl rfl hl.1 rfl (lv_room (Nat.le_of_ble_eq_true rfl)) dDH_bound_29 ⟨Nat.zero_le _, Nat.zero_le _⟩) hW hS hA (fun r2 u_9 H locs hp2 hW hS hz9 => ?_)
    obtain ⟨hr2, hu9⟩ := hp2
    rw [hu9] at hW
    subst hr2
    refine lv_isub hx hb dDH_bound_32 ?_
    refine lv_istore_n (lv' := [(2, .int ((nI pc_) - (nI (dq_pc sgN 14)))), (1, .int (nI (mh_cnt hw_ n))), (0, .ref (ad 0))]) hx hb dDH_bound_33 rfl hl (by decide) rfl (fun ls hl => ?_)
    refine lv_iload_n hx hb dDH_bound_34 rfl (lv_at hl 0 rfl) ?_
    refine lv_iload_n hx hb dDH_bound_35 rfl (lv_at hl 1 rfl) ?_
    refine lv_iadd hx hb dDH_bound_36 ?_
    refine lv_iconst (v := (1)) hx hb dDH_bound_37 (by decide) ?_
    refine lv_isub hx hb dDH_bound_38 ?_
    refine lv_iload_n hx hb dDH_bound_39 rfl (lv_at hl 1 rfl) ?_
    refine lv_idiv hx hb dDH_bound_40 (fun h9 => c1 h9) ?_
    exact hret _ _ _ _ _ _ ⟨rfl, rfl⟩ hW hS dDH_bound_41
  · exact absurd ((nI_eq (b := 0) (by omega) (by omega)).mp c1) h0

set_option maxHeartbeats 4000000 in
set_option maxRecDepth 100000 in
/-- seconds, not planned -/
theorem t_seconds1 (l : Launch) (htr : l.stackTraces = false) (D : va_G) (g : Nat → ClassId) (ad : Nat → Nat) (w : Nat → Option va_E) (sz : Nat) (sg pl : Int32) (o0 : w 0 = some (.inr (7, [.ref (ad 1), .ref (ad 5), .ref (ad 12), .ref (ad 17), .ref (ad 18), .ref (ad 23), .ref (ad 25), .int sg, .int pl]))) (hpl : pl = 0) : dx_M l yDH_seconds wsDH_seconds ({ frames := 8, cells := 1, slots := 6, locals := 136 } : Room) (va_Pc [.ref (ad 0)] (dq_S D vwCl (dq_t g) ad w sz)) (dx_X D vwCl (dq_t g) ad w (dq_A ad w sz) (fun E => E = "java/lang/IllegalStateException")) (dq_A ad w sz) 1 6 := by
  refine dx_of (cc := cDH_seconds) (maxL := 2) (by decide) rfl (Nat.le_of_ble_eq_true rfl) ?_
  intro p e s m below meth c A ls ⟨hx, hb, hml, hown, hts⟩ hnm hA hW hK hZ hl hout hlocks
  have hS : va_S A s.heap s.heap [] := va_S.rf
  have hl : lv_has ls 2 [(0, .ref (ad 0))] := hl
  have hf51 := hts _ (List.mem_cons_of_mem _ tw1_218)
  have hf65 := hts _ (List.mem_cons_of_mem _ tw1_220)
  have hf140 := hts _ (List.mem_cons_of_mem _ tw1_174)
  have hf172 := hts _ (List.mem_cons_of_mem _ tw1_221)
  have hf178 := hts _ (List.mem_cons_of_mem _ tw1_205)
  have hinDH : ∀ w ∈ u_ws RDH TDH 9, w ∈ wsDH_seconds := fun w h => List.mem_cons_of_mem _ (inDH w h)
  have hinHt : ∀ w ∈ u_ws RHt THt 5, w ∈ wsDH_seconds := fun w h => List.mem_cons_of_mem _ (inHt w h)
  have hinWy : ∀ w ∈ u_ws RWy TWy 3, w ∈ wsDH_seconds := fun w h => List.mem_cons_of_mem _ (inWy w h)
  refine lv_aload_n hx hb dDH_seconds_0 rfl (lv_at hl 0 rfl) ?_
  refine dx_callV (As := []) (rest := []) ⟨hx, hb, hml, hown, hts⟩ (t_planned l htr D g ad (w) _ sg pl o0 hpl) (cwV 0 hts (dq_giV tw3_56 tw3_58 twp_14 tw1_1 tw3_59) rfl rfl rfl (by decide +kernel) ⟨Nat.le_of_ble_eq_true rfl, Nat.le_of_ble_eq_true rfl⟩) (dq_preV (ci := 7) hW hS hA hK hZ o0 rfl rfl) rfl hl.1 rfl (lv_room (Nat.le_of_ble_eq_true rfl)) dDH_seconds_1 ⟨Nat.le_of_ble_eq_true rfl, Nat.le_of_ble_eq_true rfl⟩ hS (dq_A.sub hW hS hA) (fun q9 E9 ce9 t9 H locs ht9 hal9 hX9 hz9 hk9 hS9 hce9 hcv9 hcl9 => ?_)
  obtain ⟨hE9, hW9, hK9⟩ := hX9
  rw [ht9] at hW9
  exact dx_out hout hlocks hce9 hcv9 hcl9 (fun t h1 h2 => ⟨hE9, by rw [h1]; exact hW9.weaken (dq_A.sub hW hS hA), va_K.moved h2 hK⟩) hS9 (Nat.le_of_ble_eq_true rfl) (Nat.le_of_ble_eq_true rfl)

set_option maxHeartbeats 4000000 in
set_option maxRecDepth 100000 in
/-- seconds() -/
theorem c_seconds (l : Launch) (D : va_G) (g : Nat → ClassId) (ad : Nat → Nat) (w : Nat → Option va_E) (sz : Nat) (sgN : Nat) (pl : Int32) (hc : Nat) (wl : Int64) (sq sh : Nat → Int32) (sl : Nat) (o0 : w 0 = some (.inr (7, [.ref (ad 1), .ref (ad 5), .ref (ad 12), .ref (ad 17), .ref (ad 18), .ref (ad 23), .ref (ad 25), .int (nI sgN), .int pl]))) (t18 : w 18 = some (.inr (2, [.ref (ad 19), .ref (ad 20), .ref (ad 21), .ref (ad 22), .int (nI hc)]))) (y25 : w 25 = some (.inr (6, [.ref (ad 26), .long wl, .ref (ad 27)]))) (hpl : ¬ pl = 0) (hsg : sgN < 16384) : Met l yDH_seconds wsDH_seconds ({ frames := 8, cells := 0, slots := 0, locals := 136 } : Room) (va_Pc [.ref (ad 0)] (dq_S D vwCl (dq_t g) ad w sz)) (va_Ql (fun r u => r = (4 * nI hc + 12 * nI (dq_pc sgN 14)).toInt64 + wl / 500 ∧ u = w) (dq_B D vwCl (dq_t g) ad (dq_A ad w sz)) (dq_A ad w sz)) 0 0 (dq_A ad w sz) := by
  refine dq_ofl (cc := cDH_seconds) (maxL := 2) (by decide) rfl (Nat.le_of_ble_eq_true rfl) ?_
  intro p e s m below meth c A Q ls ⟨hx, hb, hml, hown, hts⟩ hnm hA hW hK hZ hl hret
  have hS : va_S A s.heap s.heap [] := va_S.rf
  have hl : lv_has ls 2 [(0, .ref (ad 0))] := hl
  have hf51 := hts _ (List.mem_cons_of_mem _ tw1_218)
  have hf65 := hts _ (List.mem_cons_of_mem _ tw1_220)
  have hf140 := hts _ (List.mem_cons_of_mem _ tw1_174)
  have hf172 := hts _ (List.mem_cons_of_mem _ tw1_221)
  have hf178 := hts _ (List.mem_cons_of_mem _ tw1_205)
  have hinDH : ∀ w ∈ u_ws RDH TDH 9, w ∈ wsDH_seconds := fun w h => List.mem_cons_of_mem _ (inDH w h)
  have hinHt : ∀ w ∈ u_ws RHt THt 5, w ∈ wsDH_seconds := fun w h => List.mem_cons_of_mem _ (inHt w h)
  have hinWy : ∀ w ∈ u_ws RWy TWy 3, w ∈ wsDH_seconds := fun w h => List.mem_cons_of_mem _ (inWy w h)
  refine lv_aload_n hx hb dDH_seconds_0 rfl (lv_at hl 0 rfl) ?_
  refine va_csv (W.runV (As := []) (rest := []) ⟨hx, hb, hml, hown, hts⟩ (c_planned l D g ad (w) _ (nI sgN) pl o0 hpl) (cwV 0 hts (dq_giV tw3_56 tw3_58 twp_14 tw1_1 tw3_59) rfl rfl rfl (by decide +kernel) ⟨Nat.le_of_ble_eq_true rfl, Nat.le_of_ble_eq_true rfl⟩) (dq_preV (ci := 7) hW hS hA hK hZ o0 rfl rfl) rfl rfl hl.1 rfl (lv_room (Nat.le_of_ble_eq_true rfl)) dDH_seconds_1 ⟨Nat.zero_le _, Nat.zero_le _⟩) (fun _ => ?_)
  refine lv_aload_n hx hb dDH_seconds_4 rfl (lv_at hl 0 rfl) ?_
  refine dq_get (D := D) (ci := 7) (v := .int (nI sgN)) (C := RDH) (T := TDH) (N := 9) hx hb hts hinDH hown hK hW 0 o0 rfl 7 (by decide) hf172 (fun _ h9 => h9) rfl dDH_seconds_5 ?_
  refine dq_calli (va_runS (As := [.int (nI sgN)]) (rest := []) ⟨hx, hb, hml, hown, hts⟩ (c_bitCount l D g ad (w) _ sgN  hsg) (va_cwS 1 hts (dq_giS3 tw3_127 tw3_128 tw1_17 tw3_129) rfl rfl rfl (by decide +kernel) ⟨Nat.le_of_ble_eq_true rfl, Nat.le_of_ble_eq_true rfl⟩) (dq_preS hW hS hA hK hZ) rfl rfl hl.1 rfl (lv_room (Nat.le_of_ble_eq_true rfl)) dDH_seconds_8 ⟨Nat.zero_le _, Nat.zero_le _⟩) hW hS hA (fun r2 u_9 H locs hp2 hW hS hz9 => ?_)
  obtain ⟨hr2, hu9⟩ := hp2
  rw [hu9] at hW
  subst hr2
  refine lv_istore_n (lv' := [(1, .int (nI (dq_pc sgN 14))), (0, .ref (ad 0))]) hx hb dDH_seconds_11 rfl hl (by decide) rfl (fun ls hl => ?_)
  refine lv_iconst (v := (4)) hx hb dDH_seconds_12 (by decide) ?_
  refine lv_aload_n hx hb dDH_seconds_13 rfl (lv_at hl 1 rfl) ?_
  refine dq_get (D := D) (ci := 7) (v := .ref (ad 18)) (C := RDH) (T := TDH) (N := 9) hx hb hts hinDH hown hK hW 0 o0 rfl 4 (by decide) hf51 (fun _ h9 => h9) rfl dDH_seconds_14 ?_
  refine dq_get (D := D) (ci := 2) (v := .int (nI hc)) (C := RHt) (T := THt) (N := 5) hx hb hts hinHt hown hK hW 18 t18 rfl 4 (by decide) hf140 (fun _ h9 => h9) rfl dDH_seconds_17 ?_
  refine lv_imul hx hb dDH_seconds_20 ?_
  refine lv_bipush (v := (12)) hx hb dDH_seconds_21 (by decide) ?_
  refine lv_iload_n hx hb dDH_seconds_23 rfl (lv_at hl 0 rfl) ?_
  refine lv_imul hx hb dDH_seconds_24 ?_
  refine lv_iadd hx hb dDH_seconds_25 ?_
  refine lv_i2l hx hb dDH_seconds_26 rfl ?_
  refine lv_aload_n hx hb dDH_seconds_27 rfl (lv_at hl 1 rfl) ?_
  refine dq_get (D := D) (ci := 7) (v := .ref (ad 25)) (C := RDH) (T := TDH) (N := 9) hx hb hts hinDH hown hK hW 0 o0 rfl 6 (by decide) hf65 (fun _ h9 => h9) rfl dDH_seconds_28 ?_
  refine dq_get (D := D) (ci := 6) (v := .long wl) (C := RWy) (T := TWy) (N := 3) hx hb hts hinWy hown hK hW 25 y25 rfl 1 (by decide) hf178 (fun _ h9 => h9) rfl dDH_seconds_31 ?_
  refine lv_ldc2 hx hb hown (hts _ (List.mem_cons_of_mem _ tw3_147)) dDH_seconds_34 ?_
  refine lv_ldiv hx hb dDH_seconds_37 (by decide) ?_
  refine lv_ladd hx hb dDH_seconds_38 ?_
  exact hret _ _ _ _ _ _ ⟨rfl, rfl⟩ hW hS dDH_seconds_39

set_option maxHeartbeats 4000000 in
set_option maxRecDepth 100000 in
/-- places, no such hole -/
theorem t_places (l : Launch) (htr : l.stackTraces = false) (D : va_G) (g : Nat → ClassId) (ad : Nat → Nat) (w : Nat → Option va_E) (sz : Nat) (sg pl : Int32) (pc_ : Nat) (a0 : Int32) (o0 : w 0 = some (.inr (7, [.ref (ad 1), .ref (ad 5), .ref (ad 12), .ref (ad 17), .ref (ad 18), .ref (ad 23), .ref (ad 25), .int sg, .int pl]))) (p5 : w 5 = some (.inr (3, [.ref (ad 6), .ref (ad 7), .ref (ad 8), .ref (ad 9), .ref (ad 10), .ref (ad 11), .int (nI pc_)]))) (h0 : a0 < 0 ∨ ¬ a0 < nI pc_) : dx_M l yDH_places wsDH_places ({ frames := 8, cells := 1, slots := 6, locals := 136 } : Room) (va_Pc [.ref (ad 0), .int a0] (dq_S D vwCl (dq_t g) ad w sz)) (dx_X D vwCl (dq_t g) ad w (dq_A ad w sz) (fun E => E = "java/lang/IndexOutOfBoundsException")) (dq_A ad w sz) 1 6 := by
  refine dx_of (cc := cDH_places) (maxL := 2) (by decide) rfl (Nat.le_of_ble_eq_true rfl) ?_
  intro p e s m below meth c A ls ⟨hx, hb, hml, hown, hts⟩ hnm hA hW hK hZ hl hout hlocks
  have hS : va_S A s.heap s.heap [] := va_S.rf
  have hl : lv_has ls 2 [(0, .ref (ad 0)), (1, .int a0)] := hl
  have hf23 := hts _ (List.mem_cons_of_mem _ tw1_214)
  have hf30 := hts _ (List.mem_cons_of_mem _ tw1_215)
  have hf37 := hts _ (List.mem_cons_of_mem _ tw1_216)
  have hf43 := hts _ (List.mem_cons_of_mem _ tw1_217)
  have hf194 := hts _ (List.mem_cons_of_mem _ tw1_146)
  have hinDH : ∀ w ∈ u_ws RDH TDH 9, w ∈ wsDH_places := fun w h => List.mem_cons_of_mem _ (inDH w h)
  have hinPl : ∀ w ∈ u_ws RPl TPl 4, w ∈ wsDH_places := fun w h => List.mem_cons_of_mem _ (inPl w h)
  refine lv_aload_n hx hb dDH_places_0 rfl (lv_at hl 0 rfl) ?_
  refine lv_iload_n hx hb dDH_places_1 rfl (lv_at hl 1 rfl) ?_
  refine dx_callV (As := [.int a0]) (rest := []) ⟨hx, hb, hml, hown, hts⟩ (t_qhole l htr D g ad (w) _ sg pl pc_ a0 o0 p5 h0) (cwV 1 hts (dq_giV tw3_23 tw3_25 twp_13 tw1_1 tw3_26) rfl rfl rfl (by decide +kernel) ⟨Nat.le_of_ble_eq_true rfl, Nat.le_of_ble_eq_true rfl⟩) (dq_preV (ci := 7) hW hS hA hK hZ o0 rfl rfl) rfl hl.1 rfl (lv_room (Nat.le_of_ble_eq_true rfl)) dDH_places_2 ⟨Nat.le_of_ble_eq_true rfl, Nat.le_of_ble_eq_true rfl⟩ hS (dq_A.sub hW hS hA) (fun q9 E9 ce9 t9 H locs ht9 hal9 hX9 hz9 hk9 hS9 hce9 hcv9 hcl9 => ?_)
  obtain ⟨hE9, hW9, hK9⟩ := hX9
  rw [ht9] at hW9
  exact dx_out hout hlocks hce9 hcv9 hcl9 (fun t h1 h2 => ⟨hE9, by rw [h1]; exact hW9.weaken (dq_A.sub hW hS hA), va_K.moved h2 hK⟩) hS9 (Nat.le_of_ble_eq_true rfl) (Nat.le_of_ble_eq_true rfl)

set_option maxHeartbeats 4000000 in
set_option maxRecDepth 100000 in
/-- places(hole) -/
theorem c_places (l : Launch) (D : va_G) (g : Nat → ClassId) (ad : Nat → Nat) (w : Nat → Option va_E) (sz : Nat) (sg pl : Int32) (n : Nat) (hx_ hy_ hw_ : Nat → Int32) (f0 f1 f2 f3 : Int32) (px py pw pd pf pt : Nat → Int32) (pc_ : Nat) (cx0 cy0 cx1 cy1 : Nat → Int32) (cc_ : Nat) (h q : Nat) (X Y Dr : Nat → Int32) (o0 : w 0 = some (.inr (7, [.ref (ad 1), .ref (ad 5), .ref (ad 12), .ref (ad 17), .ref (ad 18), .ref (ad 23), .ref (ad 25), .int sg, .int pl]))) (h1 : w 1 = some (.inr (1, [.ref (ad 2), .ref (ad 3), .ref (ad 4), .int f0, .int f1, .int f2, .int f3]))) (h2 : w 2 = some (.inl (g 0, n, .inl hx_))) (h3 : w 3 = some (.inl (g 0, n, .inl hy_))) (h4 : w 4 = some (.inl (g 0, n, .inl hw_))) (p5 : w 5 = some (.inr (3, [.ref (ad 6), .ref (ad 7), .ref (ad 8), .ref (ad 9), .ref (ad 10), .ref (ad 11), .int (nI pc_)]))) (p6 : w 6 = some (.inl (g 0, 14, .inl px))) (p7 : w 7 = some (.inl (g 0, 14, .inl py))) (p8 : w 8 = some (.inl (g 0, 14, .inl pw))) (k12 : w 12 = some (.inr (0, [.ref (ad 13), .ref (ad 14), .ref (ad 15), .ref (ad 16), .int (nI cc_)]))) (k13 : w 13 = some (.inl (g 0, 6, .inl cx0))) (k14 : w 14 = some (.inl (g 0, 6, .inl cy0))) (k15 : w 15 = some (.inl (g 0, 6, .inl cx1))) (k16 : w 16 = some (.inl (g 0, 6, .inl cy1))) (a17 : w 17 = some (.inl (g 3, 14, .inr (.inr (.inr (.inr (fun h => some (ad (30 + 4 * h))))))))) (l0 : w (30 + 4 * h) = some (.inr (4, [.ref (ad (31 + 4 * h)), .ref (ad (32 + 4 * h)), .ref (ad (33 + 4 * h)), .int (nI q)]))) (l1 : w (31 + 4 * h) = some (.inl (g 0, 16, .inl X))) (l2 : w (32 + 4 * h) = some (.inl (g 0, 16, .inl Y))) (hn : n ≤ 16) (hc : cc_ ≤ 6) (hh : h < pc_) (hpc : pc_ ≤ 14) : Met l yDH_places wsDH_places ({ frames := 8, cells := 0, slots := 0, locals := 136 } : Room) (va_Pc [.ref (ad 0), .int (nI h)] (dq_S D vwCl (dq_t g) ad w sz)) (va_Qi (fun r u => r = nI (mp_find hx_ hy_ hw_ (px h) (py h) (pw h) (mc_bar cx0 cy0 cx1 cy1 cc_ f0 f1 f2 f3) X Y n).1 ∧ u = dq_U (dq_U (dq_U w (31 + 4 * h) (.inl (g 0, 16, .inl ((mp_find hx_ hy_ hw_ (px h) (py h) (pw h) (mc_bar cx0 cy0 cx1 cy1 cc_ f0 f1 f2 f3) X Y n).2.1)))) (32 + 4 * h) (.inl (g 0, 16, .inl ((mp_find hx_ hy_ hw_ (px h) (py h) (pw h) (mc_bar cx0 cy0 cx1 cy1 cc_ f0 f1 f2 f3) X Y n).2.2)))) (30 + 4 * h) (.inr (4, [.ref (ad (31 + 4 * h)), .ref (ad (32 + 4 * h)), .ref (ad (33 + 4 * h)), .int (nI (mp_find hx_ hy_ hw_ (px h) (py h) (pw h) (mc_bar cx0 cy0 cx1 cy1 cc_ f0 f1 f2 f3) X Y n).1)]))) (dq_B D vwCl (dq_t g) ad (dq_A ad w sz)) (dq_A ad w sz)) 0 0 (dq_A ad w sz) := by
  refine dq_ofi (cc := cDH_places) (maxL := 2) (by decide) rfl (Nat.le_of_ble_eq_true rfl) ?_
  intro p e s m below meth c A Q ls ⟨hx, hb, hml, hown, hts⟩ hnm hA hW hK hZ hl hret
  have hS : va_S A s.heap s.heap [] := va_S.rf
  have hl : lv_has ls 2 [(0, .ref (ad 0)), (1, .int (nI h))] := hl
  have hf23 := hts _ (List.mem_cons_of_mem _ tw1_214)
  have hf30 := hts _ (List.mem_cons_of_mem _ tw1_215)
  have hf37 := hts _ (List.mem_cons_of_mem _ tw1_216)
  have hf43 := hts _ (List.mem_cons_of_mem _ tw1_217)
  have hf194 := hts _ (List.mem_cons_of_mem _ tw1_146)
  have hinDH : ∀ w ∈ u_ws RDH TDH 9, w ∈ wsDH_places := fun w h => List.mem_cons_of_mem _ (inDH w h)
  have hinPl : ∀ w ∈ u_ws RPl TPl 4, w ∈ wsDH_places := fun w h => List.mem_cons_of_mem _ (inPl w h)
  refine lv_aload_n hx hb dDH_places_0 rfl (lv_at hl 0 rfl) ?_
  refine lv_iload_n hx hb dDH_places_1 rfl (lv_at hl 1 rfl) ?_
  refine va_csv (W.runV (As := [.int (nI h)]) (rest := []) ⟨hx, hb, hml, hown, hts⟩ (c_qhole l D g ad (w) _ sg pl pc_ (nI h) o0 p5 (nI_pos (show h < 2 ^ 31 by omega)) (nI_lt hh (by omega))) (cwV 1 hts (dq_giV tw3_23 tw3_25 twp_13 tw1_1 tw3_26) rfl rfl rfl (by decide +kernel) ⟨Nat.le_of_ble_eq_true rfl, Nat.le_of_ble_eq_true rfl⟩) (dq_preV (ci := 7) hW hS hA hK hZ o0 rfl rfl) rfl rfl hl.1 rfl (lv_room (Nat.le_of_ble_eq_true rfl)) dDH_places_2 ⟨Nat.zero_le _, Nat.zero_le _⟩) (fun _ => ?_)
  refine lv_aload_n hx hb dDH_places_5 rfl (lv_at hl 0 rfl) ?_
  refine dq_get (D := D) (ci := 7) (v := .ref (ad 17)) (C := RDH) (T := TDH) (N := 9) hx hb hts hinDH hown hK hW 0 o0 rfl 3 (by decide) hf43 (fun _ h9 => h9) rfl dDH_places_6 ?_
  refine lv_iload_n hx hb dDH_places_9 rfl (lv_at hl 1 rfl) ?_
  refine dq_aaldN hx hb hK hW 17 3 a17 rfl h (by omega) (by omega) (a := (ad (30 + 4 * h))) rfl dDH_places_10 ?_
  refine lv_iload_n hx hb dDH_places_11 rfl (lv_at hl 1 rfl) ?_
  refine lv_aload_n hx hb dDH_places_12 rfl (lv_at hl 0 rfl) ?_
  refine dq_get (D := D) (ci := 7) (v := .ref (ad 5)) (C := RDH) (T := TDH) (N := 9) hx hb hts hinDH hown hK hW 0 o0 rfl 1 (by decide) hf30 (fun _ h9 => h9) rfl dDH_places_13 ?_
  refine lv_aload_n hx hb dDH_places_16 rfl (lv_at hl 0 rfl) ?_
  refine dq_get (D := D) (ci := 7) (v := .ref (ad 1)) (C := RDH) (T := TDH) (N := 9) hx hb hts hinDH hown hK hW 0 o0 rfl 0 (by decide) hf23 (fun _ h9 => h9) rfl dDH_places_17 ?_
  refine lv_aload_n hx hb dDH_places_20 rfl (lv_at hl 0 rfl) ?_
  refine dq_get (D := D) (ci := 7) (v := .ref (ad 12)) (C := RDH) (T := TDH) (N := 9) hx hb hts hinDH hown hK hW 0 o0 rfl 2 (by decide) hf37 (fun _ h9 => h9) rfl dDH_places_21 ?_
  refine dq_callv (va_runV (As := [.int (nI h), .ref (ad 5), .ref (ad 1), .ref (ad 12)]) (rest := []) ⟨hx, hb, hml, hown, hts⟩ (c_Places_find l D g ad (w) _ n hx_ hy_ hw_ f0 f1 f2 f3 px py pw pd pf pt pc_ cx0 cy0 cx1 cy1 cc_ h q X Y Dr h h1 h2 h3 h4 p5 p6 p7 p8 k12 k13 k14 k15 k16 l0 l1 l2 hn hc (by omega)) (cwV 4 hts (dq_giV tw2_10 tw2_11 tw2_12 tw1_6 tw2_13) rfl rfl rfl (by decide +kernel) ⟨Nat.le_of_ble_eq_true rfl, Nat.le_of_ble_eq_true rfl⟩) (dq_preV (ci := 4) hW hS hA hK hZ l0 rfl rfl) rfl rfl hl.1 rfl (lv_room (Nat.le_of_ble_eq_true rfl)) dDH_places_24 ⟨Nat.zero_le _, Nat.zero_le _⟩) hW hS hA (fun u_9 H locs hp1 hW hS hz9 => ?_)
  rw [hp1] at hW
  refine lv_aload_n hx hb dDH_places_27 rfl (lv_at hl 0 rfl) ?_
  refine dq_get (D := D) (ci := 7) (v := .ref (ad 17)) (C := RDH) (T := TDH) (N := 9) hx hb hts hinDH hown hK hW 0 ((dq_Un (by omega)).trans ((dq_Un (by omega)).trans ((dq_Un (by omega)).trans o0))) rfl 3 (by decide) hf43 (fun _ h9 => h9) rfl dDH_places_28 ?_
  refine lv_iload_n hx hb dDH_places_31 rfl (lv_at hl 1 rfl) ?_
  refine dq_aaldN hx hb hK hW 17 3 ((dq_Un (by omega)).trans ((dq_Un (by omega)).trans ((dq_Un (by omega)).trans a17))) rfl h (by omega) (by omega) (a := (ad (30 + 4 * h))) rfl dDH_places_32 ?_
  refine dq_get (D := D) (ci := 4) (v := .int (nI (mp_find hx_ hy_ hw_ (px h) (py h) (pw h) (mc_bar cx0 cy0 cx1 cy1 cc_ f0 f1 f2 f3) X Y n).1)) (C := RPl) (T := TPl) (N := 4) hx hb hts hinPl hown hK hW (30 + 4 * h) dq_Us rfl 3 (by decide) hf194 (fun _ h9 => h9) rfl dDH_places_33 ?_
  exact hret _ _ _ _ _ _ ⟨rfl, rfl⟩ hW hS dDH_places_36
