set_option maxHeartbeats 4000000 in
set_option maxRecDepth 100000 in
/-- requireWithin, it is -/
theorem c_within (l : Launch) (D : va_G) (g : Nat → ClassId) (ad : Nat → Nat) (w : Nat → Option va_E) (sz : Nat) (a0 a1 a2 : Int32)  (hin : mr_in a0 a1 a2 = true) : Met l yDH_requireWithin wsDH_requireWithin ({ frames := 0, cells := 0, slots := 0, locals := 0 } : Room) (va_Pc [.int a0, .int a1, .int a2] (dq_S D vwCl (dq_t g) ad w sz)) (va_Sv (fun _ => True)) 0 0 (fun _ => False) := by
  refine dx_ofR (cc := cDH_requireWithin) (maxL := 3) (by decide) rfl (Nat.le_of_ble_eq_true rfl) ?_
  intro p e s m below meth c A Q ls ⟨hx, hb, hml, hown, hts⟩ hnm hA hW hK hZ hl hret
  have hS : va_S A s.heap s.heap [] := va_S.rf
  have hl : lv_has ls 3 [(0, .int a0), (1, .int a1), (2, .int a2)] := hl
  refine lv_iload_n hx hb dDH_requireWithin_0 rfl (lv_at hl 0 rfl) ?_
  refine lv_iload_n hx hb dDH_requireWithin_1 rfl (lv_at hl 1 rfl) ?_
  refine lv_icmp_lt (tgt := 10) hx hb dDH_requireWithin_2 (by decide) (fun c1 => ?_) (fun c1 => ?_)
  · exact absurd hin (by rw [mr_in_a c1]; decide)
  · refine lv_iload_n hx hb dDH_requireWithin_5 rfl (lv_at hl 0 rfl) ?_
    refine lv_iload_n hx hb dDH_requireWithin_6 rfl (lv_at hl 2 rfl) ?_
    refine lv_icmp_le (tgt := 20) hx hb dDH_requireWithin_7 (by decide) (fun c2 => ?_) (fun c2 => ?_)
    · exact hret _ _ dDH_requireWithin_20
    · exact absurd hin (by rw [mr_in_b c2]; decide)

set_option maxHeartbeats 4000000 in
set_option maxRecDepth 100000 in
/-- requireWithin, it is not -/
theorem t_within (l : Launch) (htr : l.stackTraces = false) (D : va_G) (g : Nat → ClassId) (ad : Nat → Nat) (w : Nat → Option va_E) (sz : Nat) (a0 a1 a2 : Int32)  (hin : mr_in a0 a1 a2 = false) : dx_M l yDH_requireWithin wsDH_requireWithin ({ frames := 6, cells := 1, slots := 6, locals := 82 } : Room) (va_Pc [.int a0, .int a1, .int a2] (dq_S D vwCl (dq_t g) ad w sz)) (dx_X D vwCl (dq_t g) ad w (dq_A ad w sz) (fun E => E = "java/lang/IllegalArgumentException")) (dq_A ad w sz) 1 6 := by
  refine dx_of (cc := cDH_requireWithin) (maxL := 3) (by decide) rfl (Nat.le_of_ble_eq_true rfl) ?_
  intro p e s m below meth c A ls ⟨hx, hb, hml, hown, hts⟩ hnm hA hW hK hZ hl hout hlocks
  have hS : va_S A s.heap s.heap [] := va_S.rf
  have hl : lv_has ls 3 [(0, .int a0), (1, .int a1), (2, .int a2)] := hl
  refine lv_iload_n hx hb dDH_requireWithin_0 rfl (lv_at hl 0 rfl) ?_
  refine lv_iload_n hx hb dDH_requireWithin_1 rfl (lv_at hl 1 rfl) ?_
  refine lv_icmp_lt (tgt := 10) hx hb dDH_requireWithin_2 (by decide) (fun c1 => ?_) (fun c1 => ?_)
  · exact dx_throw htr hx hb hml hown (hts _ (List.mem_cons_of_mem _ (dq_in2 202 rfl rfl))) (hts _ (List.mem_cons_of_mem _ (dq_in2 203 rfl rfl))) (hts _ (List.mem_cons_of_mem _ (dq_in1 15 rfl rfl))) hZ.s225 (dx_ia hts hZ) (by decide +kernel) (by decide +kernel) hl.1 dDH_requireWithin_10 dDH_requireWithin_13 dDH_requireWithin_14 dDH_requireWithin_16 dDH_requireWithin_19 hout hlocks ⟨Nat.le_of_ble_eq_true rfl, Nat.le_of_ble_eq_true rfl, Nat.le_refl _, Nat.le_refl _⟩ ⟨Nat.le_refl _, Nat.le_refl _⟩ (fun t9 hk9 hal9 => ⟨rfl, hW.kept hk9, va_K.moved hal9 hK⟩)
  · refine lv_iload_n hx hb dDH_requireWithin_5 rfl (lv_at hl 0 rfl) ?_
    refine lv_iload_n hx hb dDH_requireWithin_6 rfl (lv_at hl 2 rfl) ?_
    refine lv_icmp_le (tgt := 20) hx hb dDH_requireWithin_7 (by decide) (fun c2 => ?_) (fun c2 => ?_)
    · exact absurd hin (by rw [mr_in_t c1 c2]; decide)
    · exact dx_throw htr hx hb hml hown (hts _ (List.mem_cons_of_mem _ (dq_in2 202 rfl rfl))) (hts _ (List.mem_cons_of_mem _ (dq_in2 203 rfl rfl))) (hts _ (List.mem_cons_of_mem _ (dq_in1 15 rfl rfl))) hZ.s225 (dx_ia hts hZ) (by decide +kernel) (by decide +kernel) hl.1 dDH_requireWithin_10 dDH_requireWithin_13 dDH_requireWithin_14 dDH_requireWithin_16 dDH_requireWithin_19 hout hlocks ⟨Nat.le_of_ble_eq_true rfl, Nat.le_of_ble_eq_true rfl, Nat.le_refl _, Nat.le_refl _⟩ ⟨Nat.le_refl _, Nat.le_refl _⟩ (fun t9 hk9 hal9 => ⟨rfl, hW.kept hk9, va_K.moved hal9 hK⟩)

set_option maxHeartbeats 4000000 in
set_option maxRecDepth 100000 in
/-- requirePlace, it is -/
theorem c_place (l : Launch) (D : va_G) (g : Nat → ClassId) (ad : Nat → Nat) (w : Nat → Option va_E) (sz : Nat) (a0 a1 : Int32)  (h0 : mr_in a0 (-10000) 10000 = true) (h1 : mr_in a1 (-10000) 10000 = true) : Met l yDH_requirePlace wsDH_requirePlace ({ frames := 1, cells := 0, slots := 0, locals := 24 } : Room) (va_Pc [.int a0, .int a1] (dq_S D vwCl (dq_t g) ad w sz)) (va_Sv (fun _ => True)) 0 0 (fun _ => False) := by
  refine dx_ofR (cc := cDH_requirePlace) (maxL := 2) (by decide) rfl (Nat.le_of_ble_eq_true rfl) ?_
  intro p e s m below meth c A Q ls ⟨hx, hb, hml, hown, hts⟩ hnm hA hW hK hZ hl hret
  have hS : va_S A s.heap s.heap [] := va_S.rf
  have hl : lv_has ls 2 [(0, .int a0), (1, .int a1)] := hl
  refine lv_iload_n hx hb dDH_requirePlace_0 rfl (lv_at hl 0 rfl) ?_
  refine lv_sipush (v := (-10000)) hx hb dDH_requirePlace_1 (by decide) ?_
  refine lv_sipush (v := (10000)) hx hb dDH_requirePlace_4 (by decide) ?_
  refine va_csv (W.runS (As := [.int a0, .int (-10000), .int (10000)]) (rest := []) ⟨hx, hb, hml, hown, hts⟩ (c_within l D g ad (w) _ a0 (-10000) 10000  h0) (cwS 3 hts (dq_giS2 tw2_199 tw2_200 tw1_1 tw2_201) rfl rfl rfl (by decide +kernel) ⟨Nat.le_of_ble_eq_true rfl, Nat.le_of_ble_eq_true rfl⟩) (dq_preS hW hS hA hK hZ) rfl rfl hl.1 rfl (lv_room (Nat.le_of_ble_eq_true rfl)) dDH_requirePlace_7 ⟨Nat.zero_le _, Nat.zero_le _⟩) (fun _ => ?_)
  refine lv_iload_n hx hb dDH_requirePlace_10 rfl (lv_at hl 1 rfl) ?_
  refine lv_sipush (v := (-10000)) hx hb dDH_requirePlace_11 (by decide) ?_
  refine lv_sipush (v := (10000)) hx hb dDH_requirePlace_14 (by decide) ?_
  refine va_csv (W.runS (As := [.int a1, .int (-10000), .int (10000)]) (rest := []) ⟨hx, hb, hml, hown, hts⟩ (c_within l D g ad (w) _ a1 (-10000) 10000  h1) (cwS 3 hts (dq_giS2 tw2_199 tw2_200 tw1_1 tw2_201) rfl rfl rfl (by decide +kernel) ⟨Nat.le_of_ble_eq_true rfl, Nat.le_of_ble_eq_true rfl⟩) (dq_preS hW hS hA hK hZ) rfl rfl hl.1 rfl (lv_room (Nat.le_of_ble_eq_true rfl)) dDH_requirePlace_17 ⟨Nat.zero_le _, Nat.zero_le _⟩) (fun _ => ?_)
  exact hret _ _ dDH_requirePlace_20

set_option maxHeartbeats 4000000 in
set_option maxRecDepth 100000 in
/-- requirePlace, it is not -/
theorem t_place (l : Launch) (htr : l.stackTraces = false) (D : va_G) (g : Nat → ClassId) (ad : Nat → Nat) (w : Nat → Option va_E) (sz : Nat) (a0 a1 : Int32)  (h0 : (mr_in a0 (-10000) 10000 && mr_in a1 (-10000) 10000) = false) : dx_M l yDH_requirePlace wsDH_requirePlace ({ frames := 7, cells := 1, slots := 6, locals := 104 } : Room) (va_Pc [.int a0, .int a1] (dq_S D vwCl (dq_t g) ad w sz)) (dx_X D vwCl (dq_t g) ad w (dq_A ad w sz) (fun E => E = "java/lang/IllegalArgumentException")) (dq_A ad w sz) 1 6 := by
  refine dx_of (cc := cDH_requirePlace) (maxL := 2) (by decide) rfl (Nat.le_of_ble_eq_true rfl) ?_
  intro p e s m below meth c A ls ⟨hx, hb, hml, hown, hts⟩ hnm hA hW hK hZ hl hout hlocks
  have hS : va_S A s.heap s.heap [] := va_S.rf
  have hl : lv_has ls 2 [(0, .int a0), (1, .int a1)] := hl
  refine lv_iload_n hx hb dDH_requirePlace_0 rfl (lv_at hl 0 rfl) ?_
  refine lv_sipush (v := (-10000)) hx hb dDH_requirePlace_1 (by decide) ?_
  refine lv_sipush (v := (10000)) hx hb dDH_requirePlace_4 (by decide) ?_
  cases hq : mr_in a0 (-10000) 10000 with
  | false =>
    refine dx_callS (As := [.int a0, .int (-10000), .int (10000)]) (rest := []) ⟨hx, hb, hml, hown, hts⟩ (t_within l htr D g ad (w) _ a0 (-10000) 10000  hq) (cwS 3 hts (dq_giS2 tw2_199 tw2_200 tw1_1 tw2_201) rfl rfl rfl (by decide +kernel) ⟨Nat.le_of_ble_eq_true rfl, Nat.le_of_ble_eq_true rfl⟩) (dq_preS hW hS hA hK hZ) rfl hl.1 rfl (lv_room (Nat.le_of_ble_eq_true rfl)) dDH_requirePlace_7 ⟨Nat.le_of_ble_eq_true rfl, Nat.le_of_ble_eq_true rfl⟩ hS (dq_A.sub hW hS hA) (fun q9 E9 ce9 t9 H locs ht9 hal9 hX9 hz9 hk9 hS9 hce9 hcv9 hcl9 => ?_)
    obtain ⟨hE9, hW9, hK9⟩ := hX9
    rw [ht9] at hW9
    exact dx_out hout hlocks hce9 hcv9 hcl9 (fun t h1 h2 => ⟨hE9, by rw [h1]; exact hW9.weaken (dq_A.sub hW hS hA), va_K.moved h2 hK⟩) hS9 (Nat.le_of_ble_eq_true rfl) (Nat.le_of_ble_eq_true rfl)
  | true =>
    rw [hq, Bool.true_and] at h0
    refine va_csv (W.runS (As := [.int a0, .int (-10000), .int (10000)]) (rest := []) ⟨hx, hb, hml, hown, hts⟩ (c_within l D g ad (w) _ a0 (-10000) 10000  hq) (cwS 3 hts (dq_giS2 tw2_199 tw2_200 tw1_1 tw2_201) rfl rfl rfl (by decide +kernel) ⟨Nat.le_of_ble_eq_true rfl, Nat.le_of_ble_eq_true rfl⟩) (dq_preS hW hS hA hK hZ) rfl rfl hl.1 rfl (lv_room (Nat.le_of_ble_eq_true rfl)) dDH_requirePlace_7 ⟨Nat.zero_le _, Nat.zero_le _⟩) (fun _ => ?_)
    refine lv_iload_n hx hb dDH_requirePlace_10 rfl (lv_at hl 1 rfl) ?_
    refine lv_sipush (v := (-10000)) hx hb dDH_requirePlace_11 (by decide) ?_
    refine lv_sipush (v := (10000)) hx hb dDH_requirePlace_14 (by decide) ?_
    refine dx_callS (As := [.int a1, .int (-10000), .int (10000)]) (rest := []) ⟨hx, hb, hml, hown, hts⟩ (t_within l htr D g ad (w) _ a1 (-10000) 10000  h0) (cwS 3 hts (dq_giS2 tw2_199 tw2_200 tw1_1 tw2_201) rfl rfl rfl (by decide +kernel) ⟨Nat.le_of_ble_eq_true rfl, Nat.le_of_ble_eq_true rfl⟩) (dq_preS hW hS hA hK hZ) rfl hl.1 rfl (lv_room (Nat.le_of_ble_eq_true rfl)) dDH_requirePlace_17 ⟨Nat.le_of_ble_eq_true rfl, Nat.le_of_ble_eq_true rfl⟩ hS (dq_A.sub hW hS hA) (fun q9 E9 ce9 t9 H locs ht9 hal9 hX9 hz9 hk9 hS9 hce9 hcv9 hcl9 => ?_)
    obtain ⟨hE9, hW9, hK9⟩ := hX9
    rw [ht9] at hW9
    exact dx_out hout hlocks hce9 hcv9 hcl9 (fun t h1 h2 => ⟨hE9, by rw [h1]; exact hW9.weaken (dq_A.sub hW hS hA), va_K.moved h2 hK⟩) hS9 (Nat.le_of_ble_eq_true rfl) (Nat.le_of_ble_eq_true rfl)

set_option maxHeartbeats 4000000 in
set_option maxRecDepth 100000 in
/-- requirePlanned, it is -/
theorem c_planned (l : Launch) (D : va_G) (g : Nat → ClassId) (ad : Nat → Nat) (w : Nat → Option va_E) (sz : Nat) (sg pl : Int32) (o0 : w 0 = some (.inr (7, [.ref (ad 1), .ref (ad 5), .ref (ad 12), .ref (ad 17), .ref (ad 18), .ref (ad 23), .ref (ad 25), .int sg, .int pl]))) (hpl : ¬ pl = 0) : Met l yDH_requirePlanned wsDH_requirePlanned ({ frames := 0, cells := 0, slots := 0, locals := 0 } : Room) (va_Pc [.ref (ad 0)] (dq_S D vwCl (dq_t g) ad w sz)) (va_Sv (fun _ => True)) 0 0 (fun _ => False) := by
  refine dx_ofR (cc := cDH_requirePlanned) (maxL := 1) (by decide) rfl (Nat.le_of_ble_eq_true rfl) ?_
  intro p e s m below meth c A Q ls ⟨hx, hb, hml, hown, hts⟩ hnm hA hW hK hZ hl hret
  have hS : va_S A s.heap s.heap [] := va_S.rf
  have hl : lv_has ls 1 [(0, .ref (ad 0))] := hl
  have hf92 := hts _ (List.mem_cons_of_mem _ tw1_222)
  have hinDH : ∀ w ∈ u_ws RDH TDH 9, w ∈ wsDH_requirePlanned := fun w h => List.mem_cons_of_mem _ (inDH w h)
  refine lv_aload_n hx hb dDH_requirePlanned_0 rfl (lv_at hl 0 rfl) ?_
  refine dq_get (D := D) (ci := 7) (v := .int pl) (C := RDH) (T := TDH) (N := 9) hx hb hts hinDH hown hK hW 0 o0 rfl 8 (by decide) hf92 (fun _ h9 => h9) rfl dDH_requirePlanned_1 ?_
  refine lv_if_ne (tgt := 17) hx hb dDH_requirePlanned_4 (by decide) (fun c1 => ?_) (fun c1 => ?_)
  · exact hret _ _ dDH_requirePlanned_17
  · exact absurd c1 hpl

set_option maxHeartbeats 4000000 in
set_option maxRecDepth 100000 in
/-- requirePlanned, it is not -/
theorem t_planned (l : Launch) (htr : l.stackTraces = false) (D : va_G) (g : Nat → ClassId) (ad : Nat → Nat) (w : Nat → Option va_E) (sz : Nat) (sg pl : Int32) (o0 : w 0 = some (.inr (7, [.ref (ad 1), .ref (ad 5), .ref (ad 12), .ref (ad 17), .ref (ad 18), .ref (ad 23), .ref (ad 25), .int sg, .int pl]))) (hpl : pl = 0) : dx_M l yDH_requirePlanned wsDH_requirePlanned ({ frames := 6, cells := 1, slots := 6, locals := 82 } : Room) (va_Pc [.ref (ad 0)] (dq_S D vwCl (dq_t g) ad w sz)) (dx_X D vwCl (dq_t g) ad w (dq_A ad w sz) (fun E => E = "java/lang/IllegalStateException")) (dq_A ad w sz) 1 6 := by
  refine dx_of (cc := cDH_requirePlanned) (maxL := 1) (by decide) rfl (Nat.le_of_ble_eq_true rfl) ?_
  intro p e s m below meth c A ls ⟨hx, hb, hml, hown, hts⟩ hnm hA hW hK hZ hl hout hlocks
  have hS : va_S A s.heap s.heap [] := va_S.rf
  have hl : lv_has ls 1 [(0, .ref (ad 0))] := hl
  have hf92 := hts _ (List.mem_cons_of_mem _ tw1_222)
  have hinDH : ∀ w ∈ u_ws RDH TDH 9, w ∈ wsDH_requirePlanned := fun w h => List.mem_cons_of_mem _ (inDH w h)
  refine lv_aload_n hx hb dDH_requirePlanned_0 rfl (lv_at hl 0 rfl) ?_
  refine dq_get (D := D) (ci := 7) (v := .int pl) (C := RDH) (T := TDH) (N := 9) hx hb hts hinDH hown hK hW 0 o0 rfl 8 (by decide) hf92 (fun _ h9 => h9) rfl dDH_requirePlanned_1 ?_
  refine lv_if_ne (tgt := 17) hx hb dDH_requirePlanned_4 (by decide) (fun c1 => ?_) (fun c1 => ?_)
  · exact absurd hpl c1
  · exact dx_throw htr hx hb hml hown (hts _ (List.mem_cons_of_mem _ (dq_in2 236 rfl rfl))) (hts _ (List.mem_cons_of_mem _ (dq_in2 237 rfl rfl))) (hts _ (List.mem_cons_of_mem _ (dq_in1 16 rfl rfl))) hZ.s219 (dx_is hts hZ) (by decide +kernel) (by decide +kernel) hl.1 dDH_requirePlanned_7 dDH_requirePlanned_10 dDH_requirePlanned_11 dDH_requirePlanned_13 dDH_requirePlanned_16 hout hlocks ⟨Nat.le_of_ble_eq_true rfl, Nat.le_of_ble_eq_true rfl, Nat.le_refl _, Nat.le_refl _⟩ ⟨Nat.le_refl _, Nat.le_refl _⟩ (fun t9 hk9 hal9 => ⟨rfl, hW.kept hk9, va_K.moved hal9 hK⟩)

set_option maxHeartbeats 4000000 in
set_option maxRecDepth 100000 in
/-- DH_requireHole, it is -/
theorem c_qhole (l : Launch) (D : va_G) (g : Nat → ClassId) (ad : Nat → Nat) (w : Nat → Option va_E) (sz : Nat) (sg pl : Int32) (pc_ : Nat) (a0 : Int32) (o0 : w 0 = some (.inr (7, [.ref (ad 1), .ref (ad 5), .ref (ad 12), .ref (ad 17), .ref (ad 18), .ref (ad 23), .ref (ad 25), .int sg, .int pl]))) (p5 : w 5 = some (.inr (3, [.ref (ad 6), .ref (ad 7), .ref (ad 8), .ref (ad 9), .ref (ad 10), .ref (ad 11), .int (nI pc_)]))) (h0 : ¬ a0 < 0) (h1 : a0 < nI pc_) : Met l yDH_requireHole wsDH_requireHole ({ frames := 0, cells := 0, slots := 0, locals := 0 } : Room) (va_Pc [.ref (ad 0), .int a0] (dq_S D vwCl (dq_t g) ad w sz)) (va_Sv (fun _ => True)) 0 0 (fun _ => False) := by
  refine dx_ofR (cc := cDH_requireHole) (maxL := 2) (by decide) rfl (Nat.le_of_ble_eq_true rfl) ?_
  intro p e s m below meth c A Q ls ⟨hx, hb, hml, hown, hts⟩ hnm hA hW hK hZ hl hret
  have hS : va_S A s.heap s.heap [] := va_S.rf
  have hl : lv_has ls 2 [(0, .ref (ad 0)), (1, .int a0)] := hl
  have hf30 := hts _ (List.mem_cons_of_mem _ tw1_215)
  have hf96 := hts _ (List.mem_cons_of_mem _ tw1_89)
  have hinDH : ∀ w ∈ u_ws RDH TDH 9, w ∈ wsDH_requireHole := fun w h => List.mem_cons_of_mem _ (inDH w h)
  have hinPt : ∀ w ∈ u_ws RPt TPt 7, w ∈ wsDH_requireHole := fun w h => List.mem_cons_of_mem _ (inPt w h)
  refine lv_iload_n hx hb dDH_requireHole_0 rfl (lv_at hl 1 rfl) ?_
  refine lv_if_lt (tgt := 15) hx hb dDH_requireHole_1 (by decide) (fun c1 => ?_) (fun c1 => ?_)
  · exact absurd c1 h0
  · refine lv_iload_n hx hb dDH_requireHole_4 rfl (lv_at hl 1 rfl) ?_
    refine lv_aload_n hx hb dDH_requireHole_5 rfl (lv_at hl 0 rfl) ?_
    refine dq_get (D := D) (ci := 7) (v := .ref (ad 5)) (C := RDH) (T := TDH) (N := 9) hx hb hts hinDH hown hK hW 0 o0 rfl 1 (by decide) hf30 (fun _ h9 => h9) rfl dDH_requireHole_6 ?_
    refine dq_get (D := D) (ci := 3) (v := .int (nI pc_)) (C := RPt) (T := TPt) (N := 7) hx hb hts hinPt hown hK hW 5 p5 rfl 6 (by decide) hf96 (fun _ h9 => h9) rfl dDH_requireHole_9 ?_
    refine lv_icmp_lt (tgt := 25) hx hb dDH_requireHole_12 (by decide) (fun c2 => ?_) (fun c2 => ?_)
    · exact hret _ _ dDH_requireHole_25
    · exact absurd h1 c2

set_option maxHeartbeats 4000000 in
set_option maxRecDepth 100000 in
/-- DH_requireHole, it is not -/
theorem t_qhole (l : Launch) (htr : l.stackTraces = false) (D : va_G) (g : Nat → ClassId) (ad : Nat → Nat) (w : Nat → Option va_E) (sz : Nat) (sg pl : Int32) (pc_ : Nat) (a0 : Int32) (o0 : w 0 = some (.inr (7, [.ref (ad 1), .ref (ad 5), .ref (ad 12), .ref (ad 17), .ref (ad 18), .ref (ad 23), .ref (ad 25), .int sg, .int pl]))) (p5 : w 5 = some (.inr (3, [.ref (ad 6), .ref (ad 7), .ref (ad 8), .ref (ad 9), .ref (ad 10), .ref (ad 11), .int (nI pc_)]))) (h0 : a0 < 0 ∨ ¬ a0 < nI pc_) : dx_M l yDH_requireHole wsDH_requireHole ({ frames := 6, cells := 1, slots := 6, locals := 82 } : Room) (va_Pc [.ref (ad 0), .int a0] (dq_S D vwCl (dq_t g) ad w sz)) (dx_X D vwCl (dq_t g) ad w (dq_A ad w sz) (fun E => E = "java/lang/IndexOutOfBoundsException")) (dq_A ad w sz) 1 6 := by
  refine dx_of (cc := cDH_requireHole) (maxL := 2) (by decide) rfl (Nat.le_of_ble_eq_true rfl) ?_
  intro p e s m below meth c A ls ⟨hx, hb, hml, hown, hts⟩ hnm hA hW hK hZ hl hout hlocks
  have hS : va_S A s.heap s.heap [] := va_S.rf
  have hl : lv_has ls 2 [(0, .ref (ad 0)), (1, .int a0)] := hl
  have hf30 := hts _ (List.mem_cons_of_mem _ tw1_215)
  have hf96 := hts _ (List.mem_cons_of_mem _ tw1_89)
  have hinDH : ∀ w ∈ u_ws RDH TDH 9, w ∈ wsDH_requireHole := fun w h => List.mem_cons_of_mem _ (inDH w h)
  have hinPt : ∀ w ∈ u_ws RPt TPt 7, w ∈ wsDH_requireHole := fun w h => List.mem_cons_of_mem _ (inPt w h)
  refine lv_iload_n hx hb dDH_requireHole_0 rfl (lv_at hl 1 rfl) ?_
  refine lv_if_lt (tgt := 15) hx hb dDH_requireHole_1 (by decide) (fun c1 => ?_) (fun c1 => ?_)
  · exact dx_throw htr hx hb hml hown (hts _ (List.mem_cons_of_mem _ (dq_in2 128 rfl rfl))) (hts _ (List.mem_cons_of_mem _ (dq_in2 129 rfl rfl))) (hts _ (List.mem_cons_of_mem _ (dq_in1 14 rfl rfl))) hZ.s221 (dx_io hts hZ) (by decide +kernel) (by decide +kernel) hl.1 dDH_requireHole_15 dDH_requireHole_18 dDH_requireHole_19 dDH_requireHole_21 dDH_requireHole_24 hout hlocks ⟨Nat.le_of_ble_eq_true rfl, Nat.le_of_ble_eq_true rfl, Nat.le_refl _, Nat.le_refl _⟩ ⟨Nat.le_refl _, Nat.le_refl _⟩ (fun t9 hk9 hal9 => ⟨rfl, hW.kept hk9, va_K.moved hal9 hK⟩)
  · refine lv_iload_n hx hb dDH_requireHole_4 rfl (lv_at hl 1 rfl) ?_
    refine lv_aload_n hx hb dDH_requireHole_5 rfl (lv_at hl 0 rfl) ?_
    refine dq_get (D := D) (ci := 7) (v := .ref (ad 5)) (C := RDH) (T := TDH) (N := 9) hx hb hts hinDH hown hK hW 0 o0 rfl 1 (by decide) hf30 (fun _ h9 => h9) rfl dDH_requireHole_6 ?_
    refine dq_get (D := D) (ci := 3) (v := .int (nI pc_)) (C := RPt) (T := TPt) (N := 7) hx hb hts hinPt hown hK hW 5 p5 rfl 6 (by decide) hf96 (fun _ h9 => h9) rfl dDH_requireHole_9 ?_
    refine lv_icmp_lt (tgt := 25) hx hb dDH_requireHole_12 (by decide) (fun c2 => ?_) (fun c2 => ?_)
    · exact (h0.elim c1 (fun h => absurd c2 h)).elim
    · exact dx_throw htr hx hb hml hown (hts _ (List.mem_cons_of_mem _ (dq_in2 128 rfl rfl))) (hts _ (List.mem_cons_of_mem _ (dq_in2 129 rfl rfl))) (hts _ (List.mem_cons_of_mem _ (dq_in1 14 rfl rfl))) hZ.s221 (dx_io hts hZ) (by decide +kernel) (by decide +kernel) hl.1 dDH_requireHole_15 dDH_requireHole_18 dDH_requireHole_19 dDH_requireHole_21 dDH_requireHole_24 hout hlocks ⟨Nat.le_of_ble_eq_true rfl, Nat.le_of_ble_eq_true rfl, Nat.le_refl _, Nat.le_refl _⟩ ⟨Nat.le_refl _, Nat.le_refl _⟩ (fun t9 hk9 hal9 => ⟨rfl, hW.kept hk9, va_K.moved hal9 hK⟩)

set_option maxHeartbeats 4000000 in
set_option maxRecDepth 100000 in
/-- DH_requireHit, it is -/
theorem c_qhit (l : Launch) (D : va_G) (g : Nat → ClassId) (ad : Nat → Nat) (w : Nat → Option va_E) (sz : Nat) (sg pl : Int32) (hc : Nat) (a0 : Int32) (o0 : w 0 = some (.inr (7, [.ref (ad 1), .ref (ad 5), .ref (ad 12), .ref (ad 17), .ref (ad 18), .ref (ad 23), .ref (ad 25), .int sg, .int pl]))) (t18 : w 18 = some (.inr (2, [.ref (ad 19), .ref (ad 20), .ref (ad 21), .ref (ad 22), .int (nI hc)]))) (h0 : ¬ a0 < 0) (h1 : a0 < nI hc) : Met l yDH_requireHit wsDH_requireHit ({ frames := 0, cells := 0, slots := 0, locals := 0 } : Room) (va_Pc [.ref (ad 0), .int a0] (dq_S D vwCl (dq_t g) ad w sz)) (va_Sv (fun _ => True)) 0 0 (fun _ => False) := by
  refine dx_ofR (cc := cDH_requireHit) (maxL := 2) (by decide) rfl (Nat.le_of_ble_eq_true rfl) ?_
  intro p e s m below meth c A Q ls ⟨hx, hb, hml, hown, hts⟩ hnm hA hW hK hZ hl hret
  have hS : va_S A s.heap s.heap [] := va_S.rf
  have hl : lv_has ls 2 [(0, .ref (ad 0)), (1, .int a0)] := hl
  have hf51 := hts _ (List.mem_cons_of_mem _ tw1_218)
  have hf140 := hts _ (List.mem_cons_of_mem _ tw1_174)
  have hinDH : ∀ w ∈ u_ws RDH TDH 9, w ∈ wsDH_requireHit := fun w h => List.mem_cons_of_mem _ (inDH w h)
  have hinHt : ∀ w ∈ u_ws RHt THt 5, w ∈ wsDH_requireHit := fun w h => List.mem_cons_of_mem _ (inHt w h)
  refine lv_iload_n hx hb dDH_requireHit_0 rfl (lv_at hl 1 rfl) ?_
  refine lv_if_lt (tgt := 15) hx hb dDH_requireHit_1 (by decide) (fun c1 => ?_) (fun c1 => ?_)
  · exact absurd c1 h0
  · refine lv_iload_n hx hb dDH_requireHit_4 rfl (lv_at hl 1 rfl) ?_
    refine lv_aload_n hx hb dDH_requireHit_5 rfl (lv_at hl 0 rfl) ?_
    refine dq_get (D := D) (ci := 7) (v := .ref (ad 18)) (C := RDH) (T := TDH) (N := 9) hx hb hts hinDH hown hK hW 0 o0 rfl 4 (by decide) hf51 (fun _ h9 => h9) rfl dDH_requireHit_6 ?_
    refine dq_get (D := D) (ci := 2) (v := .int (nI hc)) (C := RHt) (T := THt) (N := 5) hx hb hts hinHt hown hK hW 18 t18 rfl 4 (by decide) hf140 (fun _ h9 => h9) rfl dDH_requireHit_9 ?_
    refine lv_icmp_lt (tgt := 25) hx hb dDH_requireHit_12 (by decide) (fun c2 => ?_) (fun c2 => ?_)
    · exact hret _ _ dDH_requireHit_25
    · exact absurd h1 c2

set_option maxHeartbeats 4000000 in
set_option maxRecDepth 100000 in
/-- DH_requireHit, it is not -/
theorem t_qhit (l : Launch) (htr : l.stackTraces = false) (D : va_G) (g : Nat → ClassId) (ad : Nat → Nat) (w : Nat → Option va_E) (sz : Nat) (sg pl : Int32) (hc : Nat) (a0 : Int32) (o0 : w 0 = some (.inr (7, [.ref (ad 1), .ref (ad 5), .ref (ad 12), .ref (ad 17), .ref (ad 18), .ref (ad 23), .ref (ad 25), .int sg, .int pl]))) (t18 : w 18 = some (.inr (2, [.ref (ad 19), .ref (ad 20), .ref (ad 21), .ref (ad 22), .int (nI hc)]))) (h0 : a0 < 0 ∨ ¬ a0 < nI hc) : dx_M l yDH_requireHit wsDH_requireHit ({ frames := 6, cells := 1, slots := 6, locals := 82 } : Room) (va_Pc [.ref (ad 0), .int a0] (dq_S D vwCl (dq_t g) ad w sz)) (dx_X D vwCl (dq_t g) ad w (dq_A ad w sz) (fun E => E = "java/lang/IndexOutOfBoundsException")) (dq_A ad w sz) 1 6 := by
  refine dx_of (cc := cDH_requireHit) (maxL := 2) (by decide) rfl (Nat.le_of_ble_eq_true rfl) ?_
  intro p e s m below meth c A ls ⟨hx, hb, hml, hown, hts⟩ hnm hA hW hK hZ hl hout hlocks
  have hS : va_S A s.heap s.heap [] := va_S.rf
  have hl : lv_has ls 2 [(0, .ref (ad 0)), (1, .int a0)] := hl
  have hf51 := hts _ (List.mem_cons_of_mem _ tw1_218)
  have hf140 := hts _ (List.mem_cons_of_mem _ tw1_174)
  have hinDH : ∀ w ∈ u_ws RDH TDH 9, w ∈ wsDH_requireHit := fun w h => List.mem_cons_of_mem _ (inDH w h)
  have hinHt : ∀ w ∈ u_ws RHt THt 5, w ∈ wsDH_requireHit := fun w h => List.mem_cons_of_mem _ (inHt w h)
  refine lv_iload_n hx hb dDH_requireHit_0 rfl (lv_at hl 1 rfl) ?_
  refine lv_if_lt (tgt := 15) hx hb dDH_requireHit_1 (by decide) (fun c1 => ?_) (fun c1 => ?_)
  · exact dx_throw htr hx hb hml hown (hts _ (List.mem_cons_of_mem _ (dq_in2 128 rfl rfl))) (hts _ (List.mem_cons_of_mem _ (dq_in2 129 rfl rfl))) (hts _ (List.mem_cons_of_mem _ (dq_in1 14 rfl rfl))) hZ.s223 (dx_io hts hZ) (by decide +kernel) (by decide +kernel) hl.1 dDH_requireHit_15 dDH_requireHit_18 dDH_requireHit_19 dDH_requireHit_21 dDH_requireHit_24 hout hlocks ⟨Nat.le_of_ble_eq_true rfl, Nat.le_of_ble_eq_true rfl, Nat.le_refl _, Nat.le_refl _⟩ ⟨Nat.le_refl _, Nat.le_refl _⟩ (fun t9 hk9 hal9 => ⟨rfl, hW.kept hk9, va_K.moved hal9 hK⟩)
  · refine lv_iload_n hx hb dDH_requireHit_4 rfl (lv_at hl 1 rfl) ?_
    refine lv_aload_n hx hb dDH_requireHit_5 rfl (lv_at hl 0 rfl) ?_
    refine dq_get (D := D) (ci := 7) (v := .ref (ad 18)) (C := RDH) (T := TDH) (N := 9) hx hb hts hinDH hown hK hW 0 o0 rfl 4 (by decide) hf51 (fun _ h9 => h9) rfl dDH_requireHit_6 ?_
    refine dq_get (D := D) (ci := 2) (v := .int (nI hc)) (C := RHt) (T := THt) (N := 5) hx hb hts hinHt hown hK hW 18 t18 rfl 4 (by decide) hf140 (fun _ h9 => h9) rfl dDH_requireHit_9 ?_
    refine lv_icmp_lt (tgt := 25) hx hb dDH_requireHit_12 (by decide) (fun c2 => ?_) (fun c2 => ?_)
    · exact (h0.elim c1 (fun h => absurd c2 h)).elim
    · exact dx_throw htr hx hb hml hown (hts _ (List.mem_cons_of_mem _ (dq_in2 128 rfl rfl))) (hts _ (List.mem_cons_of_mem _ (dq_in2 129 rfl rfl))) (hts _ (List.mem_cons_of_mem _ (dq_in1 14 rfl rfl))) hZ.s223 (dx_io hts hZ) (by decide +kernel) (by decide +kernel) hl.1 dDH_requireHit_15 dDH_requireHit_18 dDH_requireHit_19 dDH_requireHit_21 dDH_requireHit_24 hout hlocks ⟨Nat.le_of_ble_eq_true rfl, Nat.le_of_ble_eq_true rfl, Nat.le_refl _, Nat.le_refl _⟩ ⟨Nat.le_refl _, Nat.le_refl _⟩ (fun t9 hk9 hal9 => ⟨rfl, hW.kept hk9, va_K.moved hal9 hK⟩)
