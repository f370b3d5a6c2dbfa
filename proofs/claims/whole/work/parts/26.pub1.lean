set_option maxHeartbeats 4000000 in
set_option maxRecDepth 100000 in
/-- spindle, no such spindle -/
theorem t_spindle1 (l : Launch) (htr : l.stackTraces = false) (D : va_G) (g : Nat → ClassId) (ad : Nat → Nat) (w : Nat → Option va_E) (sz : Nat) (sg pl : Int32) (n : Nat) (hx_ hy_ hw_ : Nat → Int32) (f0 f1 f2 f3 : Int32) (a0 a1 a2 a3 : Int32) (o0 : w 0 = some (.inr (7, [.ref (ad 1), .ref (ad 5), .ref (ad 12), .ref (ad 17), .ref (ad 18), .ref (ad 23), .ref (ad 25), .int sg, .int pl]))) (h1 : w 1 = some (.inr (1, [.ref (ad 2), .ref (ad 3), .ref (ad 4), .int f0, .int f1, .int f2, .int f3]))) (h2 : w 2 = some (.inl (g 0, n, .inl hx_))) (h3 : w 3 = some (.inl (g 0, n, .inl hy_))) (h4 : w 4 = some (.inl (g 0, n, .inl hw_))) (h0 : a0 < 0 ∨ ¬ a0 < nI n) : dx_M l yDH_spindle wsDH_spindle ({ frames := 8, cells := 1, slots := 6, locals := 136 } : Room) (va_Pc [.ref (ad 0), .int a0, .int a1, .int a2, .int a3] (dq_S D vwCl (dq_t g) ad w sz)) (dx_X D vwCl (dq_t g) ad w (dq_A ad w sz) (fun E => E = "java/lang/IndexOutOfBoundsException")) (dq_A ad w sz) 1 6 := by
  refine dx_of (cc := cDH_spindle) (maxL := 6) (by decide) rfl (Nat.le_of_ble_eq_true rfl) ?_
  intro p e s m below meth c A ls ⟨hx, hb, hml, hown, hts⟩ hnm hA hW hK hZ hl hout hlocks
  have hS : va_S A s.heap s.heap [] := va_S.rf
  have hl : lv_has ls 6 [(0, .ref (ad 0)), (1, .int a0), (2, .int a1), (3, .int a2), (4, .int a3)] := hl
  have hf23 := hts _ (List.mem_cons_of_mem _ tw1_214)
  have hf69 := hts _ (List.mem_cons_of_mem _ tw1_43)
  have hf92 := hts _ (List.mem_cons_of_mem _ tw1_222)
  have hinDH : ∀ w ∈ u_ws RDH TDH 9, w ∈ wsDH_spindle := fun w h => List.mem_cons_of_mem _ (inDH w h)
  have hinHd : ∀ w ∈ u_ws RHd THd 7, w ∈ wsDH_spindle := fun w h => List.mem_cons_of_mem _ (inHd w h)
  refine lv_iload_n hx hb dDH_spindle_0 rfl (lv_at hl 1 rfl) ?_
  refine lv_if_lt (tgt := 16) hx hb dDH_spindle_1 (by decide) (fun c1 => ?_) (fun c1 => ?_)
  · exact dx_throw htr hx hb hml hown (hts _ (List.mem_cons_of_mem _ (dq_in2 128 rfl rfl))) (hts _ (List.mem_cons_of_mem _ (dq_in2 129 rfl rfl))) (hts _ (List.mem_cons_of_mem _ (dq_in1 14 rfl rfl))) hZ.s75 (dx_io hts hZ) (by decide +kernel) (by decide +kernel) hl.1 dDH_spindle_16 dDH_spindle_19 dDH_spindle_20 dDH_spindle_22 dDH_spindle_25 hout hlocks ⟨Nat.le_of_ble_eq_true rfl, Nat.le_of_ble_eq_true rfl, Nat.le_refl _, Nat.le_refl _⟩ ⟨Nat.le_refl _, Nat.le_refl _⟩ (fun t9 hk9 hal9 => ⟨rfl, hW.kept hk9, va_K.moved hal9 hK⟩)
  · refine lv_iload_n hx hb dDH_spindle_4 rfl (lv_at hl 1 rfl) ?_
    refine lv_aload_n hx hb dDH_spindle_5 rfl (lv_at hl 0 rfl) ?_
    refine dq_get (D := D) (ci := 7) (v := .ref (ad 1)) (C := RDH) (T := TDH) (N := 9) hx hb hts hinDH hown hK hW 0 o0 rfl 0 (by decide) hf23 (fun _ h9 => h9) rfl dDH_spindle_6 ?_
    refine dq_get (D := D) (ci := 1) (v := .ref (ad 4)) (C := RHd) (T := THd) (N := 7) hx hb hts hinHd hown hK hW 1 h1 rfl 2 (by decide) hf69 (fun _ h9 => h9) rfl dDH_spindle_9 ?_
    refine dq_alen hx hb hK hW 4 0 h4 rfl (v := nI n) rfl dDH_spindle_12 ?_
    refine lv_icmp_lt (tgt := 26) hx hb dDH_spindle_13 (by decide) (fun c2 => ?_) (fun c2 => ?_)
    · exact (h0.elim c1 (fun h => absurd c2 h)).elim
    · exact dx_throw htr hx hb hml hown (hts _ (List.mem_cons_of_mem _ (dq_in2 128 rfl rfl))) (hts _ (List.mem_cons_of_mem _ (dq_in2 129 rfl rfl))) (hts _ (List.mem_cons_of_mem _ (dq_in1 14 rfl rfl))) hZ.s75 (dx_io hts hZ) (by decide +kernel) (by decide +kernel) hl.1 dDH_spindle_16 dDH_spindle_19 dDH_spindle_20 dDH_spindle_22 dDH_spindle_25 hout hlocks ⟨Nat.le_of_ble_eq_true rfl, Nat.le_of_ble_eq_true rfl, Nat.le_refl _, Nat.le_refl _⟩ ⟨Nat.le_refl _, Nat.le_refl _⟩ (fun t9 hk9 hal9 => ⟨rfl, hW.kept hk9, va_K.moved hal9 hK⟩)

set_option maxHeartbeats 4000000 in
set_option maxRecDepth 100000 in
/-- spindle, out of range -/
theorem t_spindle2 (l : Launch) (htr : l.stackTraces = false) (D : va_G) (g : Nat → ClassId) (ad : Nat → Nat) (w : Nat → Option va_E) (sz : Nat) (sg pl : Int32) (n : Nat) (hx_ hy_ hw_ : Nat → Int32) (f0 f1 f2 f3 : Int32) (k : Nat) (a1 a2 a3 : Int32) (o0 : w 0 = some (.inr (7, [.ref (ad 1), .ref (ad 5), .ref (ad 12), .ref (ad 17), .ref (ad 18), .ref (ad 23), .ref (ad 25), .int sg, .int pl]))) (h1 : w 1 = some (.inr (1, [.ref (ad 2), .ref (ad 3), .ref (ad 4), .int f0, .int f1, .int f2, .int f3]))) (h2 : w 2 = some (.inl (g 0, n, .inl hx_))) (h3 : w 3 = some (.inl (g 0, n, .inl hy_))) (h4 : w 4 = some (.inl (g 0, n, .inl hw_))) (hk : k < n) (hn : n ≤ 16) (h0 : ((mr_in a1 (-10000) 10000 && mr_in a2 (-10000) 10000) && mr_in a3 0 100) = false) : dx_M l yDH_spindle wsDH_spindle ({ frames := 8, cells := 1, slots := 6, locals := 136 } : Room) (va_Pc [.ref (ad 0), .int (nI k), .int a1, .int a2, .int a3] (dq_S D vwCl (dq_t g) ad w sz)) (dx_X D vwCl (dq_t g) ad w (dq_A ad w sz) (fun E => E = "java/lang/IllegalArgumentException")) (dq_A ad w sz) 1 6 := by
  refine dx_of (cc := cDH_spindle) (maxL := 6) (by decide) rfl (Nat.le_of_ble_eq_true rfl) ?_
  intro p e s m below meth c A ls ⟨hx, hb, hml, hown, hts⟩ hnm hA hW hK hZ hl hout hlocks
  have hS : va_S A s.heap s.heap [] := va_S.rf
  have hl : lv_has ls 6 [(0, .ref (ad 0)), (1, .int (nI k)), (2, .int a1), (3, .int a2), (4, .int a3)] := hl
  have hf23 := hts _ (List.mem_cons_of_mem _ tw1_214)
  have hf69 := hts _ (List.mem_cons_of_mem _ tw1_43)
  have hf92 := hts _ (List.mem_cons_of_mem _ tw1_222)
  have hinDH : ∀ w ∈ u_ws RDH TDH 9, w ∈ wsDH_spindle := fun w h => List.mem_cons_of_mem _ (inDH w h)
  have hinHd : ∀ w ∈ u_ws RHd THd 7, w ∈ wsDH_spindle := fun w h => List.mem_cons_of_mem _ (inHd w h)
  have hk16 : k < 2 ^ 31 := by omega
  refine lv_iload_n hx hb dDH_spindle_0 rfl (lv_at hl 1 rfl) ?_
  refine lv_if_lt (tgt := 16) hx hb dDH_spindle_1 (by decide) (fun c1 => ?_) (fun c1 => ?_)
  · exact absurd c1 (nI_pos hk16)
  · refine lv_iload_n hx hb dDH_spindle_4 rfl (lv_at hl 1 rfl) ?_
    refine lv_aload_n hx hb dDH_spindle_5 rfl (lv_at hl 0 rfl) ?_
    refine dq_get (D := D) (ci := 7) (v := .ref (ad 1)) (C := RDH) (T := TDH) (N := 9) hx hb hts hinDH hown hK hW 0 o0 rfl 0 (by decide) hf23 (fun _ h9 => h9) rfl dDH_spindle_6 ?_
    refine dq_get (D := D) (ci := 1) (v := .ref (ad 4)) (C := RHd) (T := THd) (N := 7) hx hb hts hinHd hown hK hW 1 h1 rfl 2 (by decide) hf69 (fun _ h9 => h9) rfl dDH_spindle_9 ?_
    refine dq_alen hx hb hK hW 4 0 h4 rfl (v := nI n) rfl dDH_spindle_12 ?_
    refine lv_icmp_lt (tgt := 26) hx hb dDH_spindle_13 (by decide) (fun c2 => ?_) (fun c2 => ?_)
    · refine lv_iload_n hx hb dDH_spindle_26 rfl (lv_at hl 2 rfl) ?_
      refine lv_iload_n hx hb dDH_spindle_27 rfl (lv_at hl 3 rfl) ?_
      cases hq : (mr_in a1 (-10000) 10000 && mr_in a2 (-10000) 10000) with
      | false =>
        refine dx_callS (As := [.int a1, .int a2]) (rest := []) ⟨hx, hb, hml, hown, hts⟩ (t_place l htr D g ad (w) _ a1 a2  hq) (cwS 2 hts (dq_giS2 tw2_196 tw2_197 tw1_1 tw2_198) rfl rfl rfl (by decide +kernel) ⟨Nat.le_of_ble_eq_true rfl, Nat.le_of_ble_eq_true rfl⟩) (dq_preS hW hS hA hK hZ) rfl hl.1 rfl (lv_room (Nat.le_of_ble_eq_true rfl)) dDH_spindle_28 ⟨Nat.le_of_ble_eq_true rfl, Nat.le_of_ble_eq_true rfl⟩ hS (dq_A.sub hW hS hA) (fun q9 E9 ce9 t9 H locs ht9 hal9 hX9 hz9 hk9 hS9 hce9 hcv9 hcl9 => ?_)
        obtain ⟨hE9, hW9, hK9⟩ := hX9
        rw [ht9] at hW9
        exact dx_out hout hlocks hce9 hcv9 hcl9 (fun t h1 h2 => ⟨hE9, by rw [h1]; exact hW9.weaken (dq_A.sub hW hS hA), va_K.moved h2 hK⟩) hS9 (Nat.le_of_ble_eq_true rfl) (Nat.le_of_ble_eq_true rfl)
      | true =>
        rw [hq, Bool.true_and] at h0
        refine va_csv (W.runS (As := [.int a1, .int a2]) (rest := []) ⟨hx, hb, hml, hown, hts⟩ (c_place l D g ad (w) _ a1 a2  (Bool.and_eq_true_iff.mp hq).1 (Bool.and_eq_true_iff.mp hq).2) (cwS 2 hts (dq_giS2 tw2_196 tw2_197 tw1_1 tw2_198) rfl rfl rfl (by decide +kernel) ⟨Nat.le_of_ble_eq_true rfl, Nat.le_of_ble_eq_true rfl⟩) (dq_preS hW hS hA hK hZ) rfl rfl hl.1 rfl (lv_room (Nat.le_of_ble_eq_true rfl)) dDH_spindle_28 ⟨Nat.zero_le _, Nat.zero_le _⟩) (fun _ => ?_)
        refine lv_iload hx hb dDH_spindle_31 (lv_at hl 4 rfl) ?_
        refine lv_iconst (v := (0)) hx hb dDH_spindle_33 (by decide) ?_
        refine lv_bipush (v := (100)) hx hb dDH_spindle_34 (by decide) ?_
        refine dx_callS (As := [.int a3, .int (0), .int (100)]) (rest := []) ⟨hx, hb, hml, hown, hts⟩ (t_within l htr D g ad (w) _ a3 0 100  h0) (cwS 3 hts (dq_giS2 tw2_199 tw2_200 tw1_1 tw2_201) rfl rfl rfl (by decide +kernel) ⟨Nat.le_of_ble_eq_true rfl, Nat.le_of_ble_eq_true rfl⟩) (dq_preS hW hS hA hK hZ) rfl hl.1 rfl (lv_room (Nat.le_of_ble_eq_true rfl)) dDH_spindle_36 ⟨Nat.le_of_ble_eq_true rfl, Nat.le_of_ble_eq_true rfl⟩ hS (dq_A.sub hW hS hA) (fun q9 E9 ce9 t9 H locs ht9 hal9 hX9 hz9 hk9 hS9 hce9 hcv9 hcl9 => ?_)
        obtain ⟨hE9, hW9, hK9⟩ := hX9
        rw [ht9] at hW9
        exact dx_out hout hlocks hce9 hcv9 hcl9 (fun t h1 h2 => ⟨hE9, by rw [h1]; exact hW9.weaken (dq_A.sub hW hS hA), va_K.moved h2 hK⟩) hS9 (Nat.le_of_ble_eq_true rfl) (Nat.le_of_ble_eq_true rfl)
    · exact absurd (nI_lt hk (by omega)) c2

set_option maxHeartbeats 4000000 in
set_option maxRecDepth 100000 in
/-- spindle, as it was -/
theorem c_spindle_no (l : Launch) (D : va_G) (g : Nat → ClassId) (ad : Nat → Nat) (w : Nat → Option va_E) (sz : Nat) (sg pl : Int32) (n : Nat) (hx_ hy_ hw_ : Nat → Int32) (f0 f1 f2 f3 : Int32) (k : Nat) (a1 a2 a3 : Int32) (o0 : w 0 = some (.inr (7, [.ref (ad 1), .ref (ad 5), .ref (ad 12), .ref (ad 17), .ref (ad 18), .ref (ad 23), .ref (ad 25), .int sg, .int pl]))) (h1 : w 1 = some (.inr (1, [.ref (ad 2), .ref (ad 3), .ref (ad 4), .int f0, .int f1, .int f2, .int f3]))) (h2 : w 2 = some (.inl (g 0, n, .inl hx_))) (h3 : w 3 = some (.inl (g 0, n, .inl hy_))) (h4 : w 4 = some (.inl (g 0, n, .inl hw_))) (hk : k < n) (hn : n ≤ 16) (h0 : ((mr_in a1 (-10000) 10000 && mr_in a2 (-10000) 10000) && mr_in a3 0 100) = true) (e1 : hx_ k = a1) (e2 : hy_ k = a2) (e3 : hw_ k = a3) : Met l yDH_spindle wsDH_spindle ({ frames := 8, cells := 0, slots := 0, locals := 136 } : Room) (va_Pc [.ref (ad 0), .int (nI k), .int a1, .int a2, .int a3] (dq_S D vwCl (dq_t g) ad w sz)) (va_Qi (fun r u => r = 0 ∧ u = w) (dq_B D vwCl (dq_t g) ad (dq_A ad w sz)) (dq_A ad w sz)) 0 0 (dq_A ad w sz) := by
  refine dq_ofz (cc := cDH_spindle) (maxL := 6) (by decide) rfl (Nat.le_of_ble_eq_true rfl) ?_
  intro p e s m below meth c A Q ls ⟨hx, hb, hml, hown, hts⟩ hnm hA hW hK hZ hl hret
  have hS : va_S A s.heap s.heap [] := va_S.rf
  have hl : lv_has ls 6 [(0, .ref (ad 0)), (1, .int (nI k)), (2, .int a1), (3, .int a2), (4, .int a3)] := hl
  have hf23 := hts _ (List.mem_cons_of_mem _ tw1_214)
  have hf69 := hts _ (List.mem_cons_of_mem _ tw1_43)
  have hf92 := hts _ (List.mem_cons_of_mem _ tw1_222)
  have hinDH : ∀ w ∈ u_ws RDH TDH 9, w ∈ wsDH_spindle := fun w h => List.mem_cons_of_mem _ (inDH w h)
  have hinHd : ∀ w ∈ u_ws RHd THd 7, w ∈ wsDH_spindle := fun w h => List.mem_cons_of_mem _ (inHd w h)
  have hk16 : k < 2 ^ 31 := by omega
  refine lv_iload_n hx hb dDH_spindle_0 rfl (lv_at hl 1 rfl) ?_
  refine lv_if_lt (tgt := 16) hx hb dDH_spindle_1 (by decide) (fun c1 => ?_) (fun c1 => ?_)
  · exact absurd c1 (nI_pos hk16)
  · refine lv_iload_n hx hb dDH_spindle_4 rfl (lv_at hl 1 rfl) ?_
    refine lv_aload_n hx hb dDH_spindle_5 rfl (lv_at hl 0 rfl) ?_
    refine dq_get (D := D) (ci := 7) (v := .ref (ad 1)) (C := RDH) (T := TDH) (N := 9) hx hb hts hinDH hown hK hW 0 o0 rfl 0 (by decide) hf23 (fun _ h9 => h9) rfl dDH_spindle_6 ?_
    refine dq_get (D := D) (ci := 1) (v := .ref (ad 4)) (C := RHd) (T := THd) (N := 7) hx hb hts hinHd hown hK hW 1 h1 rfl 2 (by decide) hf69 (fun _ h9 => h9) rfl dDH_spindle_9 ?_
    refine dq_alen hx hb hK hW 4 0 h4 rfl (v := nI n) rfl dDH_spindle_12 ?_
    refine lv_icmp_lt (tgt := 26) hx hb dDH_spindle_13 (by decide) (fun c2 => ?_) (fun c2 => ?_)
    · refine lv_iload_n hx hb dDH_spindle_26 rfl (lv_at hl 2 rfl) ?_
      refine lv_iload_n hx hb dDH_spindle_27 rfl (lv_at hl 3 rfl) ?_
      obtain ⟨g01, g3⟩ := Bool.and_eq_true_iff.mp h0
      obtain ⟨g1, g2⟩ := Bool.and_eq_true_iff.mp g01
      refine va_csv (W.runS (As := [.int a1, .int a2]) (rest := []) ⟨hx, hb, hml, hown, hts⟩ (c_place l D g ad (w) _ a1 a2  g1 g2) (cwS 2 hts (dq_giS2 tw2_196 tw2_197 tw1_1 tw2_198) rfl rfl rfl (by decide +kernel) ⟨Nat.le_of_ble_eq_true rfl, Nat.le_of_ble_eq_true rfl⟩) (dq_preS hW hS hA hK hZ) rfl rfl hl.1 rfl (lv_room (Nat.le_of_ble_eq_true rfl)) dDH_spindle_28 ⟨Nat.zero_le _, Nat.zero_le _⟩) (fun _ => ?_)
      refine lv_iload hx hb dDH_spindle_31 (lv_at hl 4 rfl) ?_
      refine lv_iconst (v := (0)) hx hb dDH_spindle_33 (by decide) ?_
      refine lv_bipush (v := (100)) hx hb dDH_spindle_34 (by decide) ?_
      refine va_csv (W.runS (As := [.int a3, .int (0), .int (100)]) (rest := []) ⟨hx, hb, hml, hown, hts⟩ (c_within l D g ad (w) _ a3 0 100  g3) (cwS 3 hts (dq_giS2 tw2_199 tw2_200 tw1_1 tw2_201) rfl rfl rfl (by decide +kernel) ⟨Nat.le_of_ble_eq_true rfl, Nat.le_of_ble_eq_true rfl⟩) (dq_preS hW hS hA hK hZ) rfl rfl hl.1 rfl (lv_room (Nat.le_of_ble_eq_true rfl)) dDH_spindle_36 ⟨Nat.zero_le _, Nat.zero_le _⟩) (fun _ => ?_)
      refine lv_aload_n hx hb dDH_spindle_39 rfl (lv_at hl 0 rfl) ?_
      refine dq_get (D := D) (ci := 7) (v := .ref (ad 1)) (C := RDH) (T := TDH) (N := 9) hx hb hts hinDH hown hK hW 0 o0 rfl 0 (by decide) hf23 (fun _ h9 => h9) rfl dDH_spindle_40 ?_
      refine lv_iload_n hx hb dDH_spindle_43 rfl (lv_at hl 1 rfl) ?_
      refine lv_iload_n hx hb dDH_spindle_44 rfl (lv_at hl 2 rfl) ?_
      refine lv_iload_n hx hb dDH_spindle_45 rfl (lv_at hl 3 rfl) ?_
      refine lv_iload hx hb dDH_spindle_46 (lv_at hl 4 rfl) ?_
      refine dq_calli (va_runV (As := [.int (nI k), .int a1, .int a2, .int a3]) (rest := []) ⟨hx, hb, hml, hown, hts⟩ (c_change_no l D g ad (w) _ n hx_ hy_ hw_ f0 f1 f2 f3 k a1 a2 a3 h1 h2 h3 h4 hk hn e1 e2 e3) (cwV 4 hts (dq_giV tw2_218 tw2_219 tw2_220 tw1_2 tw2_221) rfl rfl rfl (by decide +kernel) ⟨Nat.le_of_ble_eq_true rfl, Nat.le_of_ble_eq_true rfl⟩) (dq_preV (ci := 1) hW hS hA hK hZ h1 rfl rfl) rfl rfl hl.1 rfl (lv_room (Nat.le_of_ble_eq_true rfl)) dDH_spindle_48 ⟨Nat.zero_le _, Nat.zero_le _⟩) hW hS hA (fun r1 u_9 H locs hp1 hW hS hz9 => ?_)
      obtain ⟨hr1, hu9⟩ := hp1
      rw [hu9] at hW
      subst hr1
      refine lv_istore (lv' := [(5, .int 0), (0, .ref (ad 0)), (1, .int (nI k)), (2, .int a1), (3, .int a2), (4, .int a3)]) hx hb dDH_spindle_51 hl (by decide) rfl (fun ls hl => ?_)
      refine lv_iload hx hb dDH_spindle_53 (lv_at hl 0 rfl) ?_
      refine lv_if_eq (tgt := 63) hx hb dDH_spindle_55 (by decide) (fun c3 => ?_) (fun c3 => ?_)
      · refine lv_iload hx hb dDH_spindle_63 (lv_at hl 0 rfl) ?_
        exact hret _ _ _ _ _ _ ⟨rfl, rfl⟩ (by decide) hW hS dDH_spindle_65
      · exact absurd rfl c3
    · exact absurd (nI_lt hk (by omega)) c2

set_option maxHeartbeats 4000000 in
set_option maxRecDepth 100000 in
/-- spindle, changed -/
theorem c_spindle_yes (l : Launch) (D : va_G) (g : Nat → ClassId) (ad : Nat → Nat) (w : Nat → Option va_E) (sz : Nat) (sg pl : Int32) (n : Nat) (hx_ hy_ hw_ : Nat → Int32) (f0 f1 f2 f3 : Int32) (k : Nat) (a1 a2 a3 : Int32) (o0 : w 0 = some (.inr (7, [.ref (ad 1), .ref (ad 5), .ref (ad 12), .ref (ad 17), .ref (ad 18), .ref (ad 23), .ref (ad 25), .int sg, .int pl]))) (h1 : w 1 = some (.inr (1, [.ref (ad 2), .ref (ad 3), .ref (ad 4), .int f0, .int f1, .int f2, .int f3]))) (h2 : w 2 = some (.inl (g 0, n, .inl hx_))) (h3 : w 3 = some (.inl (g 0, n, .inl hy_))) (h4 : w 4 = some (.inl (g 0, n, .inl hw_))) (hk : k < n) (hn : n ≤ 16) (h0 : ((mr_in a1 (-10000) 10000 && mr_in a2 (-10000) 10000) && mr_in a3 0 100) = true) (he : ¬ (hx_ k = a1 ∧ hy_ k = a2 ∧ hw_ k = a3)) : Met l yDH_spindle wsDH_spindle ({ frames := 8, cells := 0, slots := 0, locals := 136 } : Room) (va_Pc [.ref (ad 0), .int (nI k), .int a1, .int a2, .int a3] (dq_S D vwCl (dq_t g) ad w sz)) (va_Qi (fun r u => r = 1 ∧ u = dq_U (dq_U (dq_U (dq_U (dq_U w 2 (.inl (g 0, n, .inl (upd hx_ k a1)))) 3 (.inl (g 0, n, .inl (upd hy_ k a2)))) 4 (.inl (g 0, n, .inl (upd hw_ k a3)))) 1 (.inr (1, [.ref (ad 2), .ref (ad 3), .ref (ad 4), .int (mh_lo (upd hw_ k a3) (upd hx_ k a1) n - 1), .int (mh_lo (upd hw_ k a3) (upd hy_ k a2) n - 1), .int (mh_hi (upd hw_ k a3) (upd hx_ k a1) n + 1), .int (mh_hi (upd hw_ k a3) (upd hy_ k a2) n + 1)]))) 0 (.inr (7, [.ref (ad 1), .ref (ad 5), .ref (ad 12), .ref (ad 17), .ref (ad 18), .ref (ad 23), .ref (ad 25), .int sg, .int 0]))) (dq_B D vwCl (dq_t g) ad (dq_A ad w sz)) (dq_A ad w sz)) 0 0 (dq_A ad w sz) := by
  refine dq_ofz (cc := cDH_spindle) (maxL := 6) (by decide) rfl (Nat.le_of_ble_eq_true rfl) ?_
  intro p e s m below meth c A Q ls ⟨hx, hb, hml, hown, hts⟩ hnm hA hW hK hZ hl hret
  have hS : va_S A s.heap s.heap [] := va_S.rf
  have hl : lv_has ls 6 [(0, .ref (ad 0)), (1, .int (nI k)), (2, .int a1), (3, .int a2), (4, .int a3)] := hl
  have hf23 := hts _ (List.mem_cons_of_mem _ tw1_214)
  have hf69 := hts _ (List.mem_cons_of_mem _ tw1_43)
  have hf92 := hts _ (List.mem_cons_of_mem _ tw1_222)
  have hinDH : ∀ w ∈ u_ws RDH TDH 9, w ∈ wsDH_spindle := fun w h => List.mem_cons_of_mem _ (inDH w h)
  have hinHd : ∀ w ∈ u_ws RHd THd 7, w ∈ wsDH_spindle := fun w h => List.mem_cons_of_mem _ (inHd w h)
  have hk16 : k < 2 ^ 31 := by omega
  refine lv_iload_n hx hb dDH_spindle_0 rfl (lv_at hl 1 rfl) ?_
  refine lv_if_lt (tgt := 16) hx hb dDH_spindle_1 (by decide) (fun c1 => ?_) (fun c1 => ?_)
  · exact absurd c1 (nI_pos hk16)
  · refine lv_iload_n hx hb dDH_spindle_4 rfl (lv_at hl 1 rfl) ?_
    refine lv_aload_n hx hb dDH_spindle_5 rfl (lv_at hl 0 rfl) ?_
    refine dq_get (D := D) (ci := 7) (v := .ref (ad 1)) (C := RDH) (T := TDH) (N := 9) hx hb hts hinDH hown hK hW 0 o0 rfl 0 (by decide) hf23 (fun _ h9 => h9) rfl dDH_spindle_6 ?_
    refine dq_get (D := D) (ci := 1) (v := .ref (ad 4)) (C := RHd) (T := THd) (N := 7) hx hb hts hinHd hown hK hW 1 h1 rfl 2 (by decide) hf69 (fun _ h9 => h9) rfl dDH_spindle_9 ?_
    refine dq_alen hx hb hK hW 4 0 h4 rfl (v := nI n) rfl dDH_spindle_12 ?_
    refine lv_icmp_lt (tgt := 26) hx hb dDH_spindle_13 (by decide) (fun c2 => ?_) (fun c2 => ?_)
    · refine lv_iload_n hx hb dDH_spindle_26 rfl (lv_at hl 2 rfl) ?_
      refine lv_iload_n hx hb dDH_spindle_27 rfl (lv_at hl 3 rfl) ?_
      obtain ⟨g01, g3⟩ := Bool.and_eq_true_iff.mp h0
      obtain ⟨g1, g2⟩ := Bool.and_eq_true_iff.mp g01
      refine va_csv (W.runS (As := [.int a1, .int a2]) (rest := []) ⟨hx, hb, hml, hown, hts⟩ (c_place l D g ad (w) _ a1 a2  g1 g2) (cwS 2 hts (dq_giS2 tw2_196 tw2_197 tw1_1 tw2_198) rfl rfl rfl (by decide +kernel) ⟨Nat.le_of_ble_eq_true rfl, Nat.le_of_ble_eq_true rfl⟩) (dq_preS hW hS hA hK hZ) rfl rfl hl.1 rfl (lv_room (Nat.le_of_ble_eq_true rfl)) dDH_spindle_28 ⟨Nat.zero_le _, Nat.zero_le _⟩) (fun _ => ?_)
      refine lv_iload hx hb dDH_spindle_31 (lv_at hl 4 rfl) ?_
      refine lv_iconst (v := (0)) hx hb dDH_spindle_33 (by decide) ?_
      refine lv_bipush (v := (100)) hx hb dDH_spindle_34 (by decide) ?_
      refine va_csv (W.runS (As := [.int a3, .int (0), .int (100)]) (rest := []) ⟨hx, hb, hml, hown, hts⟩ (c_within l D g ad (w) _ a3 0 100  g3) (cwS 3 hts (dq_giS2 tw2_199 tw2_200 tw1_1 tw2_201) rfl rfl rfl (by decide +kernel) ⟨Nat.le_of_ble_eq_true rfl, Nat.le_of_ble_eq_true rfl⟩) (dq_preS hW hS hA hK hZ) rfl rfl hl.1 rfl (lv_room (Nat.le_of_ble_eq_true rfl)) dDH_spindle_36 ⟨Nat.zero_le _, Nat.zero_le _⟩) (fun _ => ?_)
      refine lv_aload_n hx hb dDH_spindle_39 rfl (lv_at hl 0 rfl) ?_
      refine dq_get (D := D) (ci := 7) (v := .ref (ad 1)) (C := RDH) (T := TDH) (N := 9) hx hb hts hinDH hown hK hW 0 o0 rfl 0 (by decide) hf23 (fun _ h9 => h9) rfl dDH_spindle_40 ?_
      refine lv_iload_n hx hb dDH_spindle_43 rfl (lv_at hl 1 rfl) ?_
      refine lv_iload_n hx hb dDH_spindle_44 rfl (lv_at hl 2 rfl) ?_
      refine lv_iload_n hx hb dDH_spindle_45 rfl (lv_at hl 3 rfl) ?_
      refine lv_iload hx hb dDH_spindle_46 (lv_at hl 4 rfl) ?_
      refine dq_calli (va_runV (As := [.int (nI k), .int a1, .int a2, .int a3]) (rest := []) ⟨hx, hb, hml, hown, hts⟩ (c_change_yes l D g ad (w) _ n hx_ hy_ hw_ f0 f1 f2 f3 k a1 a2 a3 h1 h2 h3 h4 hk hn he) (cwV 4 hts (dq_giV tw2_218 tw2_219 tw2_220 tw1_2 tw2_221) rfl rfl rfl (by decide +kernel) ⟨Nat.le_of_ble_eq_true rfl, Nat.le_of_ble_eq_true rfl⟩) (dq_preV (ci := 1) hW hS hA hK hZ h1 rfl rfl) rfl rfl hl.1 rfl (lv_room (Nat.le_of_ble_eq_true rfl)) dDH_spindle_48 ⟨Nat.zero_le _, Nat.zero_le _⟩) hW hS hA (fun r1 u_9 H locs hp1 hW hS hz9 => ?_)
      obtain ⟨hr1, hu9⟩ := hp1
      rw [hu9] at hW
      subst hr1
      refine lv_istore (lv' := [(5, .int 1), (0, .ref (ad 0)), (1, .int (nI k)), (2, .int a1), (3, .int a2), (4, .int a3)]) hx hb dDH_spindle_51 hl (by decide) rfl (fun ls hl => ?_)
      refine lv_iload hx hb dDH_spindle_53 (lv_at hl 0 rfl) ?_
      refine lv_if_eq (tgt := 63) hx hb dDH_spindle_55 (by decide) (fun c3 => ?_) (fun c3 => ?_)
      · exact absurd c3 (by decide)
      · refine lv_aload_n hx hb dDH_spindle_58 rfl (lv_at hl 1 rfl) ?_
        refine lv_iconst (v := (0)) hx hb dDH_spindle_59 (by decide) ?_
        refine dq_put (D := D) (ci := 7) (v := .int (0)) (ty := .boolean) (C := RDH) (T := TDH) (N := 9) hx hb hts hinDH tyDH tyDH_ok nmDH hown hK hW hS 0 ((dq_Un (by decide)).trans ((dq_Un (by decide)).trans ((dq_Un (by decide)).trans ((dq_Un (by decide)).trans o0)))) rfl 8 (by decide) hf92 (fun _ h9 => h9) rfl (by decide +kernel) rfl rfl (Nat.le_of_ble_eq_true rfl) dDH_spindle_60 (fun H locs hW hS => ?_)
        refine lv_iload hx hb dDH_spindle_63 (lv_at hl 0 rfl) ?_
        exact hret _ _ _ _ _ _ ⟨rfl, rfl⟩ (by decide) hW hS dDH_spindle_65
    · exact absurd (nI_lt hk (by omega)) c2
set_option maxHeartbeats 4000000 in
set_option maxRecDepth 100000 in
/-- hole, no room -/
theorem t_hole1 (l : Launch) (htr : l.stackTraces = false) (D : va_G) (g : Nat → ClassId) (ad : Nat → Nat) (w : Nat → Option va_E) (sz : Nat) (sg pl : Int32) (px py pw pd pf pt : Nat → Int32) (pc_ : Nat) (a1 a2 a3 a4 a5 : Int32) (o0 : w 0 = some (.inr (7, [.ref (ad 1), .ref (ad 5), .ref (ad 12), .ref (ad 17), .ref (ad 18), .ref (ad 23), .ref (ad 25), .int sg, .int pl]))) (p5 : w 5 = some (.inr (3, [.ref (ad 6), .ref (ad 7), .ref (ad 8), .ref (ad 9), .ref (ad 10), .ref (ad 11), .int (nI pc_)]))) (p6 : w 6 = some (.inl (g 0, 14, .inl px))) (p7 : w 7 = some (.inl (g 0, 14, .inl py))) (p8 : w 8 = some (.inl (g 0, 14, .inl pw))) (p9 : w 9 = some (.inl (g 0, 14, .inl pd))) (p10 : w 10 = some (.inl (g 0, 14, .inl pf))) (p11 : w 11 = some (.inl (g 1, 14, .inl pt))) (h0 : pc_ = 14) : dx_M l yDH_hole wsDH_hole ({ frames := 8, cells := 1, slots := 6, locals := 136 } : Room) (va_Pc [.ref (ad 0), .int a1, .int a2, .int a3, .int a4, .int a5] (dq_S D vwCl (dq_t g) ad w sz)) (dx_X D vwCl (dq_t g) ad w (dq_A ad w sz) (fun E => E = "java/lang/IllegalStateException")) (dq_A ad w sz) 1 6 := by
  refine dx_of (cc := cDH_hole) (maxL := 6) (by decide) rfl (Nat.le_of_ble_eq_true rfl) ?_
  intro p e s m below meth c A ls ⟨hx, hb, hml, hown, hts⟩ hnm hA hW hK hZ hl hout hlocks
  have hS : va_S A s.heap s.heap [] := va_S.rf
  have hl : lv_has ls 6 [(0, .ref (ad 0)), (1, .int a1), (2, .int a2), (3, .int a3), (4, .int a4), (5, .int a5)] := hl
  have hf30 := hts _ (List.mem_cons_of_mem _ tw1_215)
  have hf92 := hts _ (List.mem_cons_of_mem _ tw1_222)
  have hf96 := hts _ (List.mem_cons_of_mem _ tw1_89)
  have hinDH : ∀ w ∈ u_ws RDH TDH 9, w ∈ wsDH_hole := fun w h => List.mem_cons_of_mem _ (inDH w h)
  have hinPt : ∀ w ∈ u_ws RPt TPt 7, w ∈ wsDH_hole := fun w h => List.mem_cons_of_mem _ (inPt w h)
  refine lv_aload_n hx hb dDH_hole_0 rfl (lv_at hl 0 rfl) ?_
  refine dq_get (D := D) (ci := 7) (v := .ref (ad 5)) (C := RDH) (T := TDH) (N := 9) hx hb hts hinDH hown hK hW 0 o0 rfl 1 (by decide) hf30 (fun _ h9 => h9) rfl dDH_hole_1 ?_
  refine dq_get (D := D) (ci := 3) (v := .int (nI pc_)) (C := RPt) (T := TPt) (N := 7) hx hb hts hinPt hown hK hW 5 p5 rfl 6 (by decide) hf96 (fun _ h9 => h9) rfl dDH_hole_4 ?_
  refine lv_bipush (v := (nI 14)) hx hb dDH_hole_7 (by decide) ?_
  refine lv_icmp_lt (tgt := 22) hx hb dDH_hole_9 (by decide) (fun c1 => ?_) (fun c1 => ?_)
  · exact absurd ((nI_ltI (by omega) (by omega)).mp c1) (by omega)
  · exact dx_throw htr hx hb hml hown (hts _ (List.mem_cons_of_mem _ (dq_in2 236 rfl rfl))) (hts _ (List.mem_cons_of_mem _ (dq_in2 237 rfl rfl))) (hts _ (List.mem_cons_of_mem _ (dq_in1 16 rfl rfl))) hZ.s102 (dx_is hts hZ) (by decide +kernel) (by decide +kernel) hl.1 dDH_hole_12 dDH_hole_15 dDH_hole_16 dDH_hole_18 dDH_hole_21 hout hlocks ⟨Nat.le_of_ble_eq_true rfl, Nat.le_of_ble_eq_true rfl, Nat.le_refl _, Nat.le_refl _⟩ ⟨Nat.le_refl _, Nat.le_refl _⟩ (fun t9 hk9 hal9 => ⟨rfl, hW.kept hk9, va_K.moved hal9 hK⟩)

set_option maxHeartbeats 4000000 in
set_option maxRecDepth 100000 in
/-- hole, out of range -/
theorem t_hole2 (l : Launch) (htr : l.stackTraces = false) (D : va_G) (g : Nat → ClassId) (ad : Nat → Nat) (w : Nat → Option va_E) (sz : Nat) (sg pl : Int32) (px py pw pd pf pt : Nat → Int32) (pc_ : Nat) (a1 a2 a3 a4 a5 : Int32) (o0 : w 0 = some (.inr (7, [.ref (ad 1), .ref (ad 5), .ref (ad 12), .ref (ad 17), .ref (ad 18), .ref (ad 23), .ref (ad 25), .int sg, .int pl]))) (p5 : w 5 = some (.inr (3, [.ref (ad 6), .ref (ad 7), .ref (ad 8), .ref (ad 9), .ref (ad 10), .ref (ad 11), .int (nI pc_)]))) (p6 : w 6 = some (.inl (g 0, 14, .inl px))) (p7 : w 7 = some (.inl (g 0, 14, .inl py))) (p8 : w 8 = some (.inl (g 0, 14, .inl pw))) (p9 : w 9 = some (.inl (g 0, 14, .inl pd))) (p10 : w 10 = some (.inl (g 0, 14, .inl pf))) (p11 : w 11 = some (.inl (g 1, 14, .inl pt))) (hpc : pc_ < 14) (h0 : ((((mr_in a1 (-10000) 10000 && mr_in a2 (-10000) 10000) && mr_in a3 1 100) && mr_in a4 1 1000) && mr_in a5 0 4) = false) : dx_M l yDH_hole wsDH_hole ({ frames := 8, cells := 1, slots := 6, locals := 136 } : Room) (va_Pc [.ref (ad 0), .int a1, .int a2, .int a3, .int a4, .int a5] (dq_S D vwCl (dq_t g) ad w sz)) (dx_X D vwCl (dq_t g) ad w (dq_A ad w sz) (fun E => E = "java/lang/IllegalArgumentException")) (dq_A ad w sz) 1 6 := by
  refine dx_of (cc := cDH_hole) (maxL := 6) (by decide) rfl (Nat.le_of_ble_eq_true rfl) ?_
  intro p e s m below meth c A ls ⟨hx, hb, hml, hown, hts⟩ hnm hA hW hK hZ hl hout hlocks
  have hS : va_S A s.heap s.heap [] := va_S.rf
  have hl : lv_has ls 6 [(0, .ref (ad 0)), (1, .int a1), (2, .int a2), (3, .int a3), (4, .int a4), (5, .int a5)] := hl
  have hf30 := hts _ (List.mem_cons_of_mem _ tw1_215)
  have hf92 := hts _ (List.mem_cons_of_mem _ tw1_222)
  have hf96 := hts _ (List.mem_cons_of_mem _ tw1_89)
  have hinDH : ∀ w ∈ u_ws RDH TDH 9, w ∈ wsDH_hole := fun w h => List.mem_cons_of_mem _ (inDH w h)
  have hinPt : ∀ w ∈ u_ws RPt TPt 7, w ∈ wsDH_hole := fun w h => List.mem_cons_of_mem _ (inPt w h)
  refine lv_aload_n hx hb dDH_hole_0 rfl (lv_at hl 0 rfl) ?_
  refine dq_get (D := D) (ci := 7) (v := .ref (ad 5)) (C := RDH) (T := TDH) (N := 9) hx hb hts hinDH hown hK hW 0 o0 rfl 1 (by decide) hf30 (fun _ h9 => h9) rfl dDH_hole_1 ?_
  refine dq_get (D := D) (ci := 3) (v := .int (nI pc_)) (C := RPt) (T := TPt) (N := 7) hx hb hts hinPt hown hK hW 5 p5 rfl 6 (by decide) hf96 (fun _ h9 => h9) rfl dDH_hole_4 ?_
  refine lv_bipush (v := (nI 14)) hx hb dDH_hole_7 (by decide) ?_
  refine lv_icmp_lt (tgt := 22) hx hb dDH_hole_9 (by decide) (fun c1 => ?_) (fun c1 => ?_)
  · refine lv_iload_n hx hb dDH_hole_22 rfl (lv_at hl 1 rfl) ?_
    refine lv_iload_n hx hb dDH_hole_23 rfl (lv_at hl 2 rfl) ?_
    cases hq : (mr_in a1 (-10000) 10000 && mr_in a2 (-10000) 10000) with
    | false =>
      refine dx_callS (As := [.int a1, .int a2]) (rest := []) ⟨hx, hb, hml, hown, hts⟩ (t_place l htr D g ad (w) _ a1 a2  hq) (cwS 2 hts (dq_giS2 tw2_196 tw2_197 tw1_1 tw2_198) rfl rfl rfl (by decide +kernel) ⟨Nat.le_of_ble_eq_true rfl, Nat.le_of_ble_eq_true rfl⟩) (dq_preS hW hS hA hK hZ) rfl hl.1 rfl (lv_room (Nat.le_of_ble_eq_true rfl)) dDH_hole_24 ⟨Nat.le_of_ble_eq_true rfl, Nat.le_of_ble_eq_true rfl⟩ hS (dq_A.sub hW hS hA) (fun q9 E9 ce9 t9 H locs ht9 hal9 hX9 hz9 hk9 hS9 hce9 hcv9 hcl9 => ?_)
      obtain ⟨hE9, hW9, hK9⟩ := hX9
      rw [ht9] at hW9
      exact dx_out hout hlocks hce9 hcv9 hcl9 (fun t h1 h2 => ⟨hE9, by rw [h1]; exact hW9.weaken (dq_A.sub hW hS hA), va_K.moved h2 hK⟩) hS9 (Nat.le_of_ble_eq_true rfl) (Nat.le_of_ble_eq_true rfl)
    | true =>
      rw [hq, Bool.true_and] at h0
      refine va_csv (W.runS (As := [.int a1, .int a2]) (rest := []) ⟨hx, hb, hml, hown, hts⟩ (c_place l D g ad (w) _ a1 a2  (Bool.and_eq_true_iff.mp hq).1 (Bool.and_eq_true_iff.mp hq).2) (cwS 2 hts (dq_giS2 tw2_196 tw2_197 tw1_1 tw2_198) rfl rfl rfl (by decide +kernel) ⟨Nat.le_of_ble_eq_true rfl, Nat.le_of_ble_eq_true rfl⟩) (dq_preS hW hS hA hK hZ) rfl rfl hl.1 rfl (lv_room (Nat.le_of_ble_eq_true rfl)) dDH_hole_24 ⟨Nat.zero_le _, Nat.zero_le _⟩) (fun _ => ?_)
      refine lv_iload_n hx hb dDH_hole_27 rfl (lv_at hl 3 rfl) ?_
      refine lv_iconst (v := (1)) hx hb dDH_hole_28 (by decide) ?_
      refine lv_bipush (v := (100)) hx hb dDH_hole_29 (by decide) ?_
      cases hq2 : mr_in a3 1 100 with
      | false =>
        refine dx_callS (As := [.int a3, .int (1), .int (100)]) (rest := []) ⟨hx, hb, hml, hown, hts⟩ (t_within l htr D g ad (w) _ a3 1 100  hq2) (cwS 3 hts (dq_giS2 tw2_199 tw2_200 tw1_1 tw2_201) rfl rfl rfl (by decide +kernel) ⟨Nat.le_of_ble_eq_true rfl, Nat.le_of_ble_eq_true rfl⟩) (dq_preS hW hS hA hK hZ) rfl hl.1 rfl (lv_room (Nat.le_of_ble_eq_true rfl)) dDH_hole_31 ⟨Nat.le_of_ble_eq_true rfl, Nat.le_of_ble_eq_true rfl⟩ hS (dq_A.sub hW hS hA) (fun q9 E9 ce9 t9 H locs ht9 hal9 hX9 hz9 hk9 hS9 hce9 hcv9 hcl9 => ?_)
        obtain ⟨hE9, hW9, hK9⟩ := hX9
        rw [ht9] at hW9
        exact dx_out hout hlocks hce9 hcv9 hcl9 (fun t h1 h2 => ⟨hE9, by rw [h1]; exact hW9.weaken (dq_A.sub hW hS hA), va_K.moved h2 hK⟩) hS9 (Nat.le_of_ble_eq_true rfl) (Nat.le_of_ble_eq_true rfl)
      | true =>
        rw [hq2, Bool.true_and] at h0
        refine va_csv (W.runS (As := [.int a3, .int (1), .int (100)]) (rest := []) ⟨hx, hb, hml, hown, hts⟩ (c_within l D g ad (w) _ a3 1 100  hq2) (cwS 3 hts (dq_giS2 tw2_199 tw2_200 tw1_1 tw2_201) rfl rfl rfl (by decide +kernel) ⟨Nat.le_of_ble_eq_true rfl, Nat.le_of_ble_eq_true rfl⟩) (dq_preS hW hS hA hK hZ) rfl rfl hl.1 rfl (lv_room (Nat.le_of_ble_eq_true rfl)) dDH_hole_31 ⟨Nat.zero_le _, Nat.zero_le _⟩) (fun _ => ?_)
        refine lv_iload hx hb dDH_hole_34 (lv_at hl 4 rfl) ?_
        refine lv_iconst (v := (1)) hx hb dDH_hole_36 (by decide) ?_
        refine lv_sipush (v := (1000)) hx hb dDH_hole_37 (by decide) ?_
        cases hq3 : mr_in a4 1 1000 with
        | false =>
          refine dx_callS (As := [.int a4, .int (1), .int (1000)]) (rest := []) ⟨hx, hb, hml, hown, hts⟩ (t_within l htr D g ad (w) _ a4 1 1000  hq3) (cwS 3 hts (dq_giS2 tw2_199 tw2_200 tw1_1 tw2_201) rfl rfl rfl (by decide +kernel) ⟨Nat.le_of_ble_eq_true rfl, Nat.le_of_ble_eq_true rfl⟩) (dq_preS hW hS hA hK hZ) rfl hl.1 rfl (lv_room (Nat.le_of_ble_eq_true rfl)) dDH_hole_40 ⟨Nat.le_of_ble_eq_true rfl, Nat.le_of_ble_eq_true rfl⟩ hS (dq_A.sub hW hS hA) (fun q9 E9 ce9 t9 H locs ht9 hal9 hX9 hz9 hk9 hS9 hce9 hcv9 hcl9 => ?_)
          obtain ⟨hE9, hW9, hK9⟩ := hX9
          rw [ht9] at hW9
          exact dx_out hout hlocks hce9 hcv9 hcl9 (fun t h1 h2 => ⟨hE9, by rw [h1]; exact hW9.weaken (dq_A.sub hW hS hA), va_K.moved h2 hK⟩) hS9 (Nat.le_of_ble_eq_true rfl) (Nat.le_of_ble_eq_true rfl)
        | true =>
          rw [hq3, Bool.true_and] at h0
          refine va_csv (W.runS (As := [.int a4, .int (1), .int (1000)]) (rest := []) ⟨hx, hb, hml, hown, hts⟩ (c_within l D g ad (w) _ a4 1 1000  hq3) (cwS 3 hts (dq_giS2 tw2_199 tw2_200 tw1_1 tw2_201) rfl rfl rfl (by decide +kernel) ⟨Nat.le_of_ble_eq_true rfl, Nat.le_of_ble_eq_true rfl⟩) (dq_preS hW hS hA hK hZ) rfl rfl hl.1 rfl (lv_room (Nat.le_of_ble_eq_true rfl)) dDH_hole_40 ⟨Nat.zero_le _, Nat.zero_le _⟩) (fun _ => ?_)
          refine lv_iload hx hb dDH_hole_43 (lv_at hl 5 rfl) ?_
          refine lv_iconst (v := (0)) hx hb dDH_hole_45 (by decide) ?_
          refine lv_iconst (v := (4)) hx hb dDH_hole_46 (by decide) ?_
          refine dx_callS (As := [.int a5, .int (0), .int (4)]) (rest := []) ⟨hx, hb, hml, hown, hts⟩ (t_within l htr D g ad (w) _ a5 0 4  h0) (cwS 3 hts (dq_giS2 tw2_199 tw2_200 tw1_1 tw2_201) rfl rfl rfl (by decide +kernel) ⟨Nat.le_of_ble_eq_true rfl, Nat.le_of_ble_eq_true rfl⟩) (dq_preS hW hS hA hK hZ) rfl hl.1 rfl (lv_room (Nat.le_of_ble_eq_true rfl)) dDH_hole_47 ⟨Nat.le_of_ble_eq_true rfl, Nat.le_of_ble_eq_true rfl⟩ hS (dq_A.sub hW hS hA) (fun q9 E9 ce9 t9 H locs ht9 hal9 hX9 hz9 hk9 hS9 hce9 hcv9 hcl9 => ?_)
          obtain ⟨hE9, hW9, hK9⟩ := hX9
          rw [ht9] at hW9
          exact dx_out hout hlocks hce9 hcv9 hcl9 (fun t h1 h2 => ⟨hE9, by rw [h1]; exact hW9.weaken (dq_A.sub hW hS hA), va_K.moved h2 hK⟩) hS9 (Nat.le_of_ble_eq_true rfl) (Nat.le_of_ble_eq_true rfl)
  · exact absurd (nI_lt hpc (by omega)) c1

set_option maxHeartbeats 4000000 in
set_option maxRecDepth 100000 in
/-- hole -/
theorem c_hole (l : Launch) (D : va_G) (g : Nat → ClassId) (ad : Nat → Nat) (w : Nat → Option va_E) (sz : Nat) (sg pl : Int32) (px py pw pd pf pt : Nat → Int32) (pc_ : Nat) (a1 a2 a3 a4 a5 : Int32) (o0 : w 0 = some (.inr (7, [.ref (ad 1), .ref (ad 5), .ref (ad 12), .ref (ad 17), .ref (ad 18), .ref (ad 23), .ref (ad 25), .int sg, .int pl]))) (p5 : w 5 = some (.inr (3, [.ref (ad 6), .ref (ad 7), .ref (ad 8), .ref (ad 9), .ref (ad 10), .ref (ad 11), .int (nI pc_)]))) (p6 : w 6 = some (.inl (g 0, 14, .inl px))) (p7 : w 7 = some (.inl (g 0, 14, .inl py))) (p8 : w 8 = some (.inl (g 0, 14, .inl pw))) (p9 : w 9 = some (.inl (g 0, 14, .inl pd))) (p10 : w 10 = some (.inl (g 0, 14, .inl pf))) (p11 : w 11 = some (.inl (g 1, 14, .inl pt))) (hpc : pc_ < 14) (h0 : ((((mr_in a1 (-10000) 10000 && mr_in a2 (-10000) 10000) && mr_in a3 1 100) && mr_in a4 1 1000) && mr_in a5 0 4) = true) : Met l yDH_hole wsDH_hole ({ frames := 8, cells := 0, slots := 0, locals := 136 } : Room) (va_Pc [.ref (ad 0), .int a1, .int a2, .int a3, .int a4, .int a5] (dq_S D vwCl (dq_t g) ad w sz)) (va_Qi (fun r u => r = nI pc_ ∧ u = dq_U (dq_U (dq_U (dq_U (dq_U (dq_U (dq_U w 0 (.inr (7, [.ref (ad 1), .ref (ad 5), .ref (ad 12), .ref (ad 17), .ref (ad 18), .ref (ad 23), .ref (ad 25), .int sg, .int 0]))) 6 (.inl (g 0, 14, .inl (upd px pc_ a1)))) 7 (.inl (g 0, 14, .inl (upd py pc_ a2)))) 8 (.inl (g 0, 14, .inl (upd pw pc_ a3)))) 9 (.inl (g 0, 14, .inl (upd pd pc_ a4)))) 10 (.inl (g 0, 14, .inl (upd pf pc_ a5)))) 5 (.inr (3, [.ref (ad 6), .ref (ad 7), .ref (ad 8), .ref (ad 9), .ref (ad 10), .ref (ad 11), .int (nI (pc_ + 1))]))) (dq_B D vwCl (dq_t g) ad (dq_A ad w sz)) (dq_A ad w sz)) 0 0 (dq_A ad w sz) := by
  refine dq_ofi (cc := cDH_hole) (maxL := 6) (by decide) rfl (Nat.le_of_ble_eq_true rfl) ?_
  intro p e s m below meth c A Q ls ⟨hx, hb, hml, hown, hts⟩ hnm hA hW hK hZ hl hret
  have hS : va_S A s.heap s.heap [] := va_S.rf
  have hl : lv_has ls 6 [(0, .ref (ad 0)), (1, .int a1), (2, .int a2), (3, .int a3), (4, .int a4), (5, .int a5)] := hl
  have hf30 := hts _ (List.mem_cons_of_mem _ tw1_215)
  have hf92 := hts _ (List.mem_cons_of_mem _ tw1_222)
  have hf96 := hts _ (List.mem_cons_of_mem _ tw1_89)
  have hinDH : ∀ w ∈ u_ws RDH TDH 9, w ∈ wsDH_hole := fun w h => List.mem_cons_of_mem _ (inDH w h)
  have hinPt : ∀ w ∈ u_ws RPt TPt 7, w ∈ wsDH_hole := fun w h => List.mem_cons_of_mem _ (inPt w h)
  refine lv_aload_n hx hb dDH_hole_0 rfl (lv_at hl 0 rfl) ?_
  refine dq_get (D := D) (ci := 7) (v := .ref (ad 5)) (C := RDH) (T := TDH) (N := 9) hx hb hts hinDH hown hK hW 0 o0 rfl 1 (by decide) hf30 (fun _ h9 => h9) rfl dDH_hole_1 ?_
  refine dq_get (D := D) (ci := 3) (v := .int (nI pc_)) (C := RPt) (T := TPt) (N := 7) hx hb hts hinPt hown hK hW 5 p5 rfl 6 (by decide) hf96 (fun _ h9 => h9) rfl dDH_hole_4 ?_
  refine lv_bipush (v := (nI 14)) hx hb dDH_hole_7 (by decide) ?_
  refine lv_icmp_lt (tgt := 22) hx hb dDH_hole_9 (by decide) (fun c1 => ?_) (fun c1 => ?_)
  · obtain ⟨h04, h5⟩ := Bool.and_eq_true_iff.mp h0
    obtain ⟨h03, h4⟩ := Bool.and_eq_true_iff.mp h04
    obtain ⟨h02, h3⟩ := Bool.and_eq_true_iff.mp h03
    obtain ⟨h1, h2⟩ := Bool.and_eq_true_iff.mp h02
    refine lv_iload_n hx hb dDH_hole_22 rfl (lv_at hl 1 rfl) ?_
    refine lv_iload_n hx hb dDH_hole_23 rfl (lv_at hl 2 rfl) ?_
    refine va_csv (W.runS (As := [.int a1, .int a2]) (rest := []) ⟨hx, hb, hml, hown, hts⟩ (c_place l D g ad (w) _ a1 a2  h1 h2) (cwS 2 hts (dq_giS2 tw2_196 tw2_197 tw1_1 tw2_198) rfl rfl rfl (by decide +kernel) ⟨Nat.le_of_ble_eq_true rfl, Nat.le_of_ble_eq_true rfl⟩) (dq_preS hW hS hA hK hZ) rfl rfl hl.1 rfl (lv_room (Nat.le_of_ble_eq_true rfl)) dDH_hole_24 ⟨Nat.zero_le _, Nat.zero_le _⟩) (fun _ => ?_)
    refine lv_iload_n hx hb dDH_hole_27 rfl (lv_at hl 3 rfl) ?_
    refine lv_iconst (v := (1)) hx hb dDH_hole_28 (by decide) ?_
    refine lv_bipush (v := (100)) hx hb dDH_hole_29 (by decide) ?_
    refine va_csv (W.runS (As := [.int a3, .int (1), .int (100)]) (rest := []) ⟨hx, hb, hml, hown, hts⟩ (c_within l D g ad (w) _ a3 1 100  h3) (cwS 3 hts (dq_giS2 tw2_199 tw2_200 tw1_1 tw2_201) rfl rfl rfl (by decide +kernel) ⟨Nat.le_of_ble_eq_true rfl, Nat.le_of_ble_eq_true rfl⟩) (dq_preS hW hS hA hK hZ) rfl rfl hl.1 rfl (lv_room (Nat.le_of_ble_eq_true rfl)) dDH_hole_31 ⟨Nat.zero_le _, Nat.zero_le _⟩) (fun _ => ?_)
    refine lv_iload hx hb dDH_hole_34 (lv_at hl 4 rfl) ?_
    refine lv_iconst (v := (1)) hx hb dDH_hole_36 (by decide) ?_
    refine lv_sipush (v := (1000)) hx hb dDH_hole_37 (by decide) ?_
    refine va_csv (W.runS (As := [.int a4, .int (1), .int (1000)]) (rest := []) ⟨hx, hb, hml, hown, hts⟩ (c_within l D g ad (w) _ a4 1 1000  h4) (cwS 3 hts (dq_giS2 tw2_199 tw2_200 tw1_1 tw2_201) rfl rfl rfl (by decide +kernel) ⟨Nat.le_of_ble_eq_true rfl, Nat.le_of_ble_eq_true rfl⟩) (dq_preS hW hS hA hK hZ) rfl rfl hl.1 rfl (lv_room (Nat.le_of_ble_eq_true rfl)) dDH_hole_40 ⟨Nat.zero_le _, Nat.zero_le _⟩) (fun _ => ?_)
    refine lv_iload hx hb dDH_hole_43 (lv_at hl 5 rfl) ?_
    refine lv_iconst (v := (0)) hx hb dDH_hole_45 (by decide) ?_
    refine lv_iconst (v := (4)) hx hb dDH_hole_46 (by decide) ?_
    refine va_csv (W.runS (As := [.int a5, .int (0), .int (4)]) (rest := []) ⟨hx, hb, hml, hown, hts⟩ (c_within l D g ad (w) _ a5 0 4  h5) (cwS 3 hts (dq_giS2 tw2_199 tw2_200 tw1_1 tw2_201) rfl rfl rfl (by decide +kernel) ⟨Nat.le_of_ble_eq_true rfl, Nat.le_of_ble_eq_true rfl⟩) (dq_preS hW hS hA hK hZ) rfl rfl hl.1 rfl (lv_room (Nat.le_of_ble_eq_true rfl)) dDH_hole_47 ⟨Nat.zero_le _, Nat.zero_le _⟩) (fun _ => ?_)
    refine lv_aload_n hx hb dDH_hole_50 rfl (lv_at hl 0 rfl) ?_
    refine lv_iconst (v := (0)) hx hb dDH_hole_51 (by decide) ?_
    refine dq_put (D := D) (ci := 7) (v := .int (0)) (ty := .boolean) (C := RDH) (T := TDH) (N := 9) hx hb hts hinDH tyDH tyDH_ok nmDH hown hK hW hS 0 o0 rfl 8 (by decide) hf92 (fun _ h9 => h9) rfl (by decide +kernel) rfl rfl (Nat.le_of_ble_eq_true rfl) dDH_hole_52 (fun H locs hW hS => ?_)
    refine lv_aload_n hx hb dDH_hole_55 rfl (lv_at hl 0 rfl) ?_
    refine dq_get (D := D) (ci := 7) (v := .ref (ad 5)) (C := RDH) (T := TDH) (N := 9) hx hb hts hinDH hown hK hW 0 dq_Us rfl 1 (by decide) hf30 (fun _ h9 => h9) rfl dDH_hole_56 ?_
    refine lv_iload_n hx hb dDH_hole_59 rfl (lv_at hl 1 rfl) ?_
    refine lv_iload_n hx hb dDH_hole_60 rfl (lv_at hl 2 rfl) ?_
    refine lv_iload_n hx hb dDH_hole_61 rfl (lv_at hl 3 rfl) ?_
    refine lv_iload hx hb dDH_hole_62 (lv_at hl 4 rfl) ?_
    refine lv_iload hx hb dDH_hole_64 (lv_at hl 5 rfl) ?_
    refine dq_calli (va_runV (As := [.int a1, .int a2, .int a3, .int a4, .int a5]) (rest := []) ⟨hx, hb, hml, hown, hts⟩ (c_Part_add l D g ad (dq_U w 0 (.inr (7, [.ref (ad 1), .ref (ad 5), .ref (ad 12), .ref (ad 17), .ref (ad 18), .ref (ad 23), .ref (ad 25), .int sg, .int (0)]))) _ px py pw pd pf pt pc_ a1 a2 a3 a4 a5 ((dq_Un (by decide)).trans p5) ((dq_Un (by decide)).trans p6) ((dq_Un (by decide)).trans p7) ((dq_Un (by decide)).trans p8) ((dq_Un (by decide)).trans p9) ((dq_Un (by decide)).trans p10) ((dq_Un (by decide)).trans p11) hpc) (cwV 5 hts (dq_giV tw3_12 tw3_13 tw3_14 tw1_4 tw3_15) rfl rfl rfl (by decide +kernel) ⟨Nat.le_of_ble_eq_true rfl, Nat.le_of_ble_eq_true rfl⟩) (dq_preV (ci := 3) hW hS hA hK hZ ((dq_Un (by decide)).trans p5) rfl rfl) rfl rfl hl.1 rfl (lv_room (Nat.le_of_ble_eq_true rfl)) dDH_hole_66 ⟨Nat.zero_le _, Nat.zero_le _⟩) hW hS hA (fun r1 u_9 H locs hp1 hW hS hz9 => ?_)
    obtain ⟨hr1, hu9⟩ := hp1
    rw [hu9] at hW
    subst hr1
    exact hret _ _ _ _ _ _ ⟨rfl, rfl⟩ hW hS dDH_hole_69
  · exact absurd (nI_lt hpc (by omega)) c1
set_option maxHeartbeats 4000000 in
set_option maxRecDepth 100000 in
/-- through, no such hole -/
theorem t_through (l : Launch) (htr : l.stackTraces = false) (D : va_G) (g : Nat → ClassId) (ad : Nat → Nat) (w : Nat → Option va_E) (sz : Nat) (sg pl : Int32) (pc_ : Nat) (a0 a1 : Int32) (o0 : w 0 = some (.inr (7, [.ref (ad 1), .ref (ad 5), .ref (ad 12), .ref (ad 17), .ref (ad 18), .ref (ad 23), .ref (ad 25), .int sg, .int pl]))) (p5 : w 5 = some (.inr (3, [.ref (ad 6), .ref (ad 7), .ref (ad 8), .ref (ad 9), .ref (ad 10), .ref (ad 11), .int (nI pc_)]))) (h0 : a0 < 0 ∨ ¬ a0 < nI pc_) : dx_M l yDH_through wsDH_through ({ frames := 8, cells := 1, slots := 6, locals := 136 } : Room) (va_Pc [.ref (ad 0), .int a0, .int a1] (dq_S D vwCl (dq_t g) ad w sz)) (dx_X D vwCl (dq_t g) ad w (dq_A ad w sz) (fun E => E = "java/lang/IndexOutOfBoundsException")) (dq_A ad w sz) 1 6 := by
  refine dx_of (cc := cDH_through) (maxL := 3) (by decide) rfl (Nat.le_of_ble_eq_true rfl) ?_
  intro p e s m below meth c A ls ⟨hx, hb, hml, hown, hts⟩ hnm hA hW hK hZ hl hout hlocks
  have hS : va_S A s.heap s.heap [] := va_S.rf
  have hl : lv_has ls 3 [(0, .ref (ad 0)), (1, .int a0), (2, .int a1)] := hl
  have hf30 := hts _ (List.mem_cons_of_mem _ tw1_215)
  have hf92 := hts _ (List.mem_cons_of_mem _ tw1_222)
  have hf112 := hts _ (List.mem_cons_of_mem _ tw1_87)
  have hinDH : ∀ w ∈ u_ws RDH TDH 9, w ∈ wsDH_through := fun w h => List.mem_cons_of_mem _ (inDH w h)
  have hinPt : ∀ w ∈ u_ws RPt TPt 7, w ∈ wsDH_through := fun w h => List.mem_cons_of_mem _ (inPt w h)
  refine lv_aload_n hx hb dDH_through_0 rfl (lv_at hl 0 rfl) ?_
  refine lv_iload_n hx hb dDH_through_1 rfl (lv_at hl 1 rfl) ?_
  refine dx_callV (As := [.int a0]) (rest := []) ⟨hx, hb, hml, hown, hts⟩ (t_qhole l htr D g ad (w) _ sg pl pc_ a0 o0 p5 h0) (cwV 1 hts (dq_giV tw3_23 tw3_25 twp_13 tw1_1 tw3_26) rfl rfl rfl (by decide +kernel) ⟨Nat.le_of_ble_eq_true rfl, Nat.le_of_ble_eq_true rfl⟩) (dq_preV (ci := 7) hW hS hA hK hZ o0 rfl rfl) rfl hl.1 rfl (lv_room (Nat.le_of_ble_eq_true rfl)) dDH_through_2 ⟨Nat.le_of_ble_eq_true rfl, Nat.le_of_ble_eq_true rfl⟩ hS (dq_A.sub hW hS hA) (fun q9 E9 ce9 t9 H locs ht9 hal9 hX9 hz9 hk9 hS9 hce9 hcv9 hcl9 => ?_)
  obtain ⟨hE9, hW9, hK9⟩ := hX9
  rw [ht9] at hW9
  exact dx_out hout hlocks hce9 hcv9 hcl9 (fun t h1 h2 => ⟨hE9, by rw [h1]; exact hW9.weaken (dq_A.sub hW hS hA), va_K.moved h2 hK⟩) hS9 (Nat.le_of_ble_eq_true rfl) (Nat.le_of_ble_eq_true rfl)

set_option maxHeartbeats 4000000 in
set_option maxRecDepth 100000 in
/-- through, as it was -/
theorem c_through_no (l : Launch) (D : va_G) (g : Nat → ClassId) (ad : Nat → Nat) (w : Nat → Option va_E) (sz : Nat) (sg pl : Int32) (px py pw pd pf pt : Nat → Int32) (pc_ : Nat) (h : Nat) (a1 : Int32) (o0 : w 0 = some (.inr (7, [.ref (ad 1), .ref (ad 5), .ref (ad 12), .ref (ad 17), .ref (ad 18), .ref (ad 23), .ref (ad 25), .int sg, .int pl]))) (p5 : w 5 = some (.inr (3, [.ref (ad 6), .ref (ad 7), .ref (ad 8), .ref (ad 9), .ref (ad 10), .ref (ad 11), .int (nI pc_)]))) (p11 : w 11 = some (.inl (g 1, 14, .inl pt))) (hh : h < pc_) (hpc : pc_ ≤ 14) (e1 : pt h = a1) : Met l yDH_through wsDH_through ({ frames := 8, cells := 0, slots := 0, locals := 136 } : Room) (va_Pc [.ref (ad 0), .int (nI h), .int a1] (dq_S D vwCl (dq_t g) ad w sz)) (va_Qi (fun r u => r = 0 ∧ u = w) (dq_B D vwCl (dq_t g) ad (dq_A ad w sz)) (dq_A ad w sz)) 0 0 (dq_A ad w sz) := by
  refine dq_ofz (cc := cDH_through) (maxL := 3) (by decide) rfl (Nat.le_of_ble_eq_true rfl) ?_
  intro p e s m below meth c A Q ls ⟨hx, hb, hml, hown, hts⟩ hnm hA hW hK hZ hl hret
  have hS : va_S A s.heap s.heap [] := va_S.rf
  have hl : lv_has ls 3 [(0, .ref (ad 0)), (1, .int (nI h)), (2, .int a1)] := hl
  have hf30 := hts _ (List.mem_cons_of_mem _ tw1_215)
  have hf92 := hts _ (List.mem_cons_of_mem _ tw1_222)
  have hf112 := hts _ (List.mem_cons_of_mem _ tw1_87)
  have hinDH : ∀ w ∈ u_ws RDH TDH 9, w ∈ wsDH_through := fun w h => List.mem_cons_of_mem _ (inDH w h)
  have hinPt : ∀ w ∈ u_ws RPt TPt 7, w ∈ wsDH_through := fun w h => List.mem_cons_of_mem _ (inPt w h)
  refine lv_aload_n hx hb dDH_through_0 rfl (lv_at hl 0 rfl) ?_
  refine lv_iload_n hx hb dDH_through_1 rfl (lv_at hl 1 rfl) ?_
  refine va_csv (W.runV (As := [.int (nI h)]) (rest := []) ⟨hx, hb, hml, hown, hts⟩ (c_qhole l D g ad (w) _ sg pl pc_ (nI h) o0 p5 (nI_pos (show h < 2 ^ 31 by omega)) (nI_lt hh (by omega))) (cwV 1 hts (dq_giV tw3_23 tw3_25 twp_13 tw1_1 tw3_26) rfl rfl rfl (by decide +kernel) ⟨Nat.le_of_ble_eq_true rfl, Nat.le_of_ble_eq_true rfl⟩) (dq_preV (ci := 7) hW hS hA hK hZ o0 rfl rfl) rfl rfl hl.1 rfl (lv_room (Nat.le_of_ble_eq_true rfl)) dDH_through_2 ⟨Nat.zero_le _, Nat.zero_le _⟩) (fun _ => ?_)
  refine lv_aload_n hx hb dDH_through_5 rfl (lv_at hl 0 rfl) ?_
  refine dq_get (D := D) (ci := 7) (v := .ref (ad 5)) (C := RDH) (T := TDH) (N := 9) hx hb hts hinDH hown hK hW 0 o0 rfl 1 (by decide) hf30 (fun _ h9 => h9) rfl dDH_through_6 ?_
  refine dq_get (D := D) (ci := 3) (v := .ref (ad 11)) (C := RPt) (T := TPt) (N := 7) hx hb hts hinPt hown hK hW 5 p5 rfl 5 (by decide) hf112 (fun _ h9 => h9) rfl dDH_through_9 ?_
  refine lv_iload_n hx hb dDH_through_12 rfl (lv_at hl 1 rfl) ?_
  refine dq_zaldN hx hb hK hW 11 1 p11 rfl h (by omega) (by omega) dDH_through_13 ?_
  refine lv_iload_n hx hb dDH_through_14 rfl (lv_at hl 2 rfl) ?_
  refine lv_icmp_ne (tgt := 20) hx hb dDH_through_15 (by decide) (fun c1 => ?_) (fun c1 => ?_)
  · exact absurd e1 c1
  · refine lv_iconst (v := (0)) hx hb dDH_through_18 (by decide) ?_
    exact hret _ _ _ _ _ _ ⟨rfl, rfl⟩ (by decide) hW hS dDH_through_19

set_option maxHeartbeats 4000000 in
set_option maxRecDepth 100000 in
/-- through, changed -/
theorem c_through_yes (l : Launch) (D : va_G) (g : Nat → ClassId) (ad : Nat → Nat) (w : Nat → Option va_E) (sz : Nat) (sg pl : Int32) (px py pw pd pf pt : Nat → Int32) (pc_ : Nat) (h : Nat) (a1 : Int32) (o0 : w 0 = some (.inr (7, [.ref (ad 1), .ref (ad 5), .ref (ad 12), .ref (ad 17), .ref (ad 18), .ref (ad 23), .ref (ad 25), .int sg, .int pl]))) (p5 : w 5 = some (.inr (3, [.ref (ad 6), .ref (ad 7), .ref (ad 8), .ref (ad 9), .ref (ad 10), .ref (ad 11), .int (nI pc_)]))) (p11 : w 11 = some (.inl (g 1, 14, .inl pt))) (hh : h < pc_) (hpc : pc_ ≤ 14) (e1 : ¬ pt h = a1) : Met l yDH_through wsDH_through ({ frames := 8, cells := 0, slots := 0, locals := 136 } : Room) (va_Pc [.ref (ad 0), .int (nI h), .int a1] (dq_S D vwCl (dq_t g) ad w sz)) (va_Qi (fun r u => r = 1 ∧ u = dq_U (dq_U w 11 (.inl (g 1, 14, .inl (upd pt h (vp_nar .boolean a1))))) 0 (.inr (7, [.ref (ad 1), .ref (ad 5), .ref (ad 12), .ref (ad 17), .ref (ad 18), .ref (ad 23), .ref (ad 25), .int sg, .int 0]))) (dq_B D vwCl (dq_t g) ad (dq_A ad w sz)) (dq_A ad w sz)) 0 0 (dq_A ad w sz) := by
  refine dq_ofz (cc := cDH_through) (maxL := 3) (by decide) rfl (Nat.le_of_ble_eq_true rfl) ?_
  intro p e s m below meth c A Q ls ⟨hx, hb, hml, hown, hts⟩ hnm hA hW hK hZ hl hret
  have hS : va_S A s.heap s.heap [] := va_S.rf
  have hl : lv_has ls 3 [(0, .ref (ad 0)), (1, .int (nI h)), (2, .int a1)] := hl
  have hf30 := hts _ (List.mem_cons_of_mem _ tw1_215)
  have hf92 := hts _ (List.mem_cons_of_mem _ tw1_222)
  have hf112 := hts _ (List.mem_cons_of_mem _ tw1_87)
  have hinDH : ∀ w ∈ u_ws RDH TDH 9, w ∈ wsDH_through := fun w h => List.mem_cons_of_mem _ (inDH w h)
  have hinPt : ∀ w ∈ u_ws RPt TPt 7, w ∈ wsDH_through := fun w h => List.mem_cons_of_mem _ (inPt w h)
  refine lv_aload_n hx hb dDH_through_0 rfl (lv_at hl 0 rfl) ?_
  refine lv_iload_n hx hb dDH_through_1 rfl (lv_at hl 1 rfl) ?_
  refine va_csv (W.runV (As := [.int (nI h)]) (rest := []) ⟨hx, hb, hml, hown, hts⟩ (c_qhole l D g ad (w) _ sg pl pc_ (nI h) o0 p5 (nI_pos (show h < 2 ^ 31 by omega)) (nI_lt hh (by omega))) (cwV 1 hts (dq_giV tw3_23 tw3_25 twp_13 tw1_1 tw3_26) rfl rfl rfl (by decide +kernel) ⟨Nat.le_of_ble_eq_true rfl, Nat.le_of_ble_eq_true rfl⟩) (dq_preV (ci := 7) hW hS hA hK hZ o0 rfl rfl) rfl rfl hl.1 rfl (lv_room (Nat.le_of_ble_eq_true rfl)) dDH_through_2 ⟨Nat.zero_le _, Nat.zero_le _⟩) (fun _ => ?_)
  refine lv_aload_n hx hb dDH_through_5 rfl (lv_at hl 0 rfl) ?_
  refine dq_get (D := D) (ci := 7) (v := .ref (ad 5)) (C := RDH) (T := TDH) (N := 9) hx hb hts hinDH hown hK hW 0 o0 rfl 1 (by decide) hf30 (fun _ h9 => h9) rfl dDH_through_6 ?_
  refine dq_get (D := D) (ci := 3) (v := .ref (ad 11)) (C := RPt) (T := TPt) (N := 7) hx hb hts hinPt hown hK hW 5 p5 rfl 5 (by decide) hf112 (fun _ h9 => h9) rfl dDH_through_9 ?_
  refine lv_iload_n hx hb dDH_through_12 rfl (lv_at hl 1 rfl) ?_
  refine dq_zaldN hx hb hK hW 11 1 p11 rfl h (by omega) (by omega) dDH_through_13 ?_
  refine lv_iload_n hx hb dDH_through_14 rfl (lv_at hl 2 rfl) ?_
  refine lv_icmp_ne (tgt := 20) hx hb dDH_through_15 (by decide) (fun c1 => ?_) (fun c1 => ?_)
  · refine lv_aload_n hx hb dDH_through_20 rfl (lv_at hl 0 rfl) ?_
    refine dq_get (D := D) (ci := 7) (v := .ref (ad 5)) (C := RDH) (T := TDH) (N := 9) hx hb hts hinDH hown hK hW 0 o0 rfl 1 (by decide) hf30 (fun _ h9 => h9) rfl dDH_through_21 ?_
    refine dq_get (D := D) (ci := 3) (v := .ref (ad 11)) (C := RPt) (T := TPt) (N := 7) hx hb hts hinPt hown hK hW 5 p5 rfl 5 (by decide) hf112 (fun _ h9 => h9) rfl dDH_through_24 ?_
    refine lv_iload_n hx hb dDH_through_27 rfl (lv_at hl 1 rfl) ?_
    refine lv_iload_n hx hb dDH_through_28 rfl (lv_at hl 2 rfl) ?_
    refine dq_zastN hx hb hK hW hS 11 1 p11 rfl h (by omega) (by omega) dDH_through_29 (fun H locs hW hS => ?_)
    refine lv_aload_n hx hb dDH_through_30 rfl (lv_at hl 0 rfl) ?_
    refine lv_iconst (v := (0)) hx hb dDH_through_31 (by decide) ?_
    refine dq_put (D := D) (ci := 7) (v := .int (0)) (ty := .boolean) (C := RDH) (T := TDH) (N := 9) hx hb hts hinDH tyDH tyDH_ok nmDH hown hK hW hS 0 ((dq_Un (by decide)).trans o0) rfl 8 (by decide) hf92 (fun _ h9 => h9) rfl (by decide +kernel) rfl rfl (Nat.le_of_ble_eq_true rfl) dDH_through_32 (fun H locs hW hS => ?_)
    refine lv_iconst (v := (1)) hx hb dDH_through_35 (by decide) ?_
    exact hret _ _ _ _ _ _ ⟨rfl, rfl⟩ (by decide) hW hS dDH_through_36
  · exact absurd c1 e1
set_option maxHeartbeats 4000000 in
set_option maxRecDepth 100000 in
/-- clamp, out of range -/
theorem t_clamp (l : Launch) (htr : l.stackTraces = false) (D : va_G) (g : Nat → ClassId) (ad : Nat → Nat) (w : Nat → Option va_E) (sz : Nat) (sg pl : Int32) (cx0 cy0 cx1 cy1 : Nat → Int32) (cc_ : Nat) (a1 a2 a3 a4 : Int32) (o0 : w 0 = some (.inr (7, [.ref (ad 1), .ref (ad 5), .ref (ad 12), .ref (ad 17), .ref (ad 18), .ref (ad 23), .ref (ad 25), .int sg, .int pl]))) (k12 : w 12 = some (.inr (0, [.ref (ad 13), .ref (ad 14), .ref (ad 15), .ref (ad 16), .int (nI cc_)]))) (k13 : w 13 = some (.inl (g 0, 6, .inl cx0))) (k14 : w 14 = some (.inl (g 0, 6, .inl cy0))) (k15 : w 15 = some (.inl (g 0, 6, .inl cx1))) (k16 : w 16 = some (.inl (g 0, 6, .inl cy1))) (h0 : (((mr_in a1 (-20000) 20000 && mr_in a2 (-20000) 20000) && mr_in a3 a1 20000) && mr_in a4 a2 20000) = false) : dx_M l yDH_clamp wsDH_clamp ({ frames := 8, cells := 1, slots := 6, locals := 136 } : Room) (va_Pc [.ref (ad 0), .int a1, .int a2, .int a3, .int a4] (dq_S D vwCl (dq_t g) ad w sz)) (dx_X D vwCl (dq_t g) ad w (dq_A ad w sz) (fun E => E = "java/lang/IllegalArgumentException")) (dq_A ad w sz) 1 6 := by
  refine dx_of (cc := cDH_clamp) (maxL := 5) (by decide) rfl (Nat.le_of_ble_eq_true rfl) ?_
  intro p e s m below meth c A ls ⟨hx, hb, hml, hown, hts⟩ hnm hA hW hK hZ hl hout hlocks
  have hS : va_S A s.heap s.heap [] := va_S.rf
  have hl : lv_has ls 5 [(0, .ref (ad 0)), (1, .int a1), (2, .int a2), (3, .int a3), (4, .int a4)] := hl
  have hf37 := hts _ (List.mem_cons_of_mem _ tw1_216)
  have hf92 := hts _ (List.mem_cons_of_mem _ tw1_222)
  have hf116 := hts _ (List.mem_cons_of_mem _ tw1_118)
  have hinDH : ∀ w ∈ u_ws RDH TDH 9, w ∈ wsDH_clamp := fun w h => List.mem_cons_of_mem _ (inDH w h)
  have hinCl : ∀ w ∈ u_ws RCl TCl 5, w ∈ wsDH_clamp := fun w h => List.mem_cons_of_mem _ (inCl w h)
  refine lv_iload_n hx hb dDH_clamp_0 rfl (lv_at hl 1 rfl) ?_
  refine lv_sipush (v := (-20000)) hx hb dDH_clamp_1 (by decide) ?_
  refine lv_sipush (v := (20000)) hx hb dDH_clamp_4 (by decide) ?_
  cases q0 : mr_in a1 (-20000) 20000 with
  | false =>
    refine dx_callS (As := [.int a1, .int (-20000), .int (20000)]) (rest := []) ⟨hx, hb, hml, hown, hts⟩ (t_within l htr D g ad (w) _ a1 (-20000) 20000  q0) (cwS 3 hts (dq_giS2 tw2_199 tw2_200 tw1_1 tw2_201) rfl rfl rfl (by decide +kernel) ⟨Nat.le_of_ble_eq_true rfl, Nat.le_of_ble_eq_true rfl⟩) (dq_preS hW hS hA hK hZ) rfl hl.1 rfl (lv_room (Nat.le_of_ble_eq_true rfl)) dDH_clamp_7 ⟨Nat.le_of_ble_eq_true rfl, Nat.le_of_ble_eq_true rfl⟩ hS (dq_A.sub hW hS hA) (fun q9 E9 ce9 t9 H locs ht9 hal9 hX9 hz9 hk9 hS9 hce9 hcv9 hcl9 => ?_)
    obtain ⟨hE9, hW9, hK9⟩ := hX9
    rw [ht9] at hW9
    exact dx_out hout hlocks hce9 hcv9 hcl9 (fun t h1 h2 => ⟨hE9, by rw [h1]; exact hW9.weaken (dq_A.sub hW hS hA), va_K.moved h2 hK⟩) hS9 (Nat.le_of_ble_eq_true rfl) (Nat.le_of_ble_eq_true rfl)
  | true =>
    rw [q0, Bool.true_and] at h0
    refine va_csv (W.runS (As := [.int a1, .int (-20000), .int (20000)]) (rest := []) ⟨hx, hb, hml, hown, hts⟩ (c_within l D g ad (w) _ a1 (-20000) 20000  q0) (cwS 3 hts (dq_giS2 tw2_199 tw2_200 tw1_1 tw2_201) rfl rfl rfl (by decide +kernel) ⟨Nat.le_of_ble_eq_true rfl, Nat.le_of_ble_eq_true rfl⟩) (dq_preS hW hS hA hK hZ) rfl rfl hl.1 rfl (lv_room (Nat.le_of_ble_eq_true rfl)) dDH_clamp_7 ⟨Nat.zero_le _, Nat.zero_le _⟩) (fun _ => ?_)
    refine lv_iload_n hx hb dDH_clamp_10 rfl (lv_at hl 2 rfl) ?_
    refine lv_sipush (v := (-20000)) hx hb dDH_clamp_11 (by decide) ?_
    refine lv_sipush (v := (20000)) hx hb dDH_clamp_14 (by decide) ?_
    cases q1 : mr_in a2 (-20000) 20000 with
    | false =>
      refine dx_callS (As := [.int a2, .int (-20000), .int (20000)]) (rest := []) ⟨hx, hb, hml, hown, hts⟩ (t_within l htr D g ad (w) _ a2 (-20000) 20000  q1) (cwS 3 hts (dq_giS2 tw2_199 tw2_200 tw1_1 tw2_201) rfl rfl rfl (by decide +kernel) ⟨Nat.le_of_ble_eq_true rfl, Nat.le_of_ble_eq_true rfl⟩) (dq_preS hW hS hA hK hZ) rfl hl.1 rfl (lv_room (Nat.le_of_ble_eq_true rfl)) dDH_clamp_17 ⟨Nat.le_of_ble_eq_true rfl, Nat.le_of_ble_eq_true rfl⟩ hS (dq_A.sub hW hS hA) (fun q9 E9 ce9 t9 H locs ht9 hal9 hX9 hz9 hk9 hS9 hce9 hcv9 hcl9 => ?_)
      obtain ⟨hE9, hW9, hK9⟩ := hX9
      rw [ht9] at hW9
      exact dx_out hout hlocks hce9 hcv9 hcl9 (fun t h1 h2 => ⟨hE9, by rw [h1]; exact hW9.weaken (dq_A.sub hW hS hA), va_K.moved h2 hK⟩) hS9 (Nat.le_of_ble_eq_true rfl) (Nat.le_of_ble_eq_true rfl)
    | true =>
      rw [q1, Bool.true_and] at h0
      refine va_csv (W.runS (As := [.int a2, .int (-20000), .int (20000)]) (rest := []) ⟨hx, hb, hml, hown, hts⟩ (c_within l D g ad (w) _ a2 (-20000) 20000  q1) (cwS 3 hts (dq_giS2 tw2_199 tw2_200 tw1_1 tw2_201) rfl rfl rfl (by decide +kernel) ⟨Nat.le_of_ble_eq_true rfl, Nat.le_of_ble_eq_true rfl⟩) (dq_preS hW hS hA hK hZ) rfl rfl hl.1 rfl (lv_room (Nat.le_of_ble_eq_true rfl)) dDH_clamp_17 ⟨Nat.zero_le _, Nat.zero_le _⟩) (fun _ => ?_)
      refine lv_iload_n hx hb dDH_clamp_20 rfl (lv_at hl 3 rfl) ?_
      refine lv_iload_n hx hb dDH_clamp_21 rfl (lv_at hl 1 rfl) ?_
      refine lv_sipush (v := (20000)) hx hb dDH_clamp_22 (by decide) ?_
      cases q2 : mr_in a3 a1 20000 with
      | false =>
        refine dx_callS (As := [.int a3, .int a1, .int (20000)]) (rest := []) ⟨hx, hb, hml, hown, hts⟩ (t_within l htr D g ad (w) _ a3 a1 20000  q2) (cwS 3 hts (dq_giS2 tw2_199 tw2_200 tw1_1 tw2_201) rfl rfl rfl (by decide +kernel) ⟨Nat.le_of_ble_eq_true rfl, Nat.le_of_ble_eq_true rfl⟩) (dq_preS hW hS hA hK hZ) rfl hl.1 rfl (lv_room (Nat.le_of_ble_eq_true rfl)) dDH_clamp_25 ⟨Nat.le_of_ble_eq_true rfl, Nat.le_of_ble_eq_true rfl⟩ hS (dq_A.sub hW hS hA) (fun q9 E9 ce9 t9 H locs ht9 hal9 hX9 hz9 hk9 hS9 hce9 hcv9 hcl9 => ?_)
        obtain ⟨hE9, hW9, hK9⟩ := hX9
        rw [ht9] at hW9
        exact dx_out hout hlocks hce9 hcv9 hcl9 (fun t h1 h2 => ⟨hE9, by rw [h1]; exact hW9.weaken (dq_A.sub hW hS hA), va_K.moved h2 hK⟩) hS9 (Nat.le_of_ble_eq_true rfl) (Nat.le_of_ble_eq_true rfl)
      | true =>
        rw [q2, Bool.true_and] at h0
        refine va_csv (W.runS (As := [.int a3, .int a1, .int (20000)]) (rest := []) ⟨hx, hb, hml, hown, hts⟩ (c_within l D g ad (w) _ a3 a1 20000  q2) (cwS 3 hts (dq_giS2 tw2_199 tw2_200 tw1_1 tw2_201) rfl rfl rfl (by decide +kernel) ⟨Nat.le_of_ble_eq_true rfl, Nat.le_of_ble_eq_true rfl⟩) (dq_preS hW hS hA hK hZ) rfl rfl hl.1 rfl (lv_room (Nat.le_of_ble_eq_true rfl)) dDH_clamp_25 ⟨Nat.zero_le _, Nat.zero_le _⟩) (fun _ => ?_)
        refine lv_iload hx hb dDH_clamp_28 (lv_at hl 4 rfl) ?_
        refine lv_iload_n hx hb dDH_clamp_30 rfl (lv_at hl 2 rfl) ?_
        refine lv_sipush (v := (20000)) hx hb dDH_clamp_31 (by decide) ?_
        refine dx_callS (As := [.int a4, .int a2, .int (20000)]) (rest := []) ⟨hx, hb, hml, hown, hts⟩ (t_within l htr D g ad (w) _ a4 a2 20000  h0) (cwS 3 hts (dq_giS2 tw2_199 tw2_200 tw1_1 tw2_201) rfl rfl rfl (by decide +kernel) ⟨Nat.le_of_ble_eq_true rfl, Nat.le_of_ble_eq_true rfl⟩) (dq_preS hW hS hA hK hZ) rfl hl.1 rfl (lv_room (Nat.le_of_ble_eq_true rfl)) dDH_clamp_34 ⟨Nat.le_of_ble_eq_true rfl, Nat.le_of_ble_eq_true rfl⟩ hS (dq_A.sub hW hS hA) (fun q9 E9 ce9 t9 H locs ht9 hal9 hX9 hz9 hk9 hS9 hce9 hcv9 hcl9 => ?_)
        obtain ⟨hE9, hW9, hK9⟩ := hX9
        rw [ht9] at hW9
        exact dx_out hout hlocks hce9 hcv9 hcl9 (fun t h1 h2 => ⟨hE9, by rw [h1]; exact hW9.weaken (dq_A.sub hW hS hA), va_K.moved h2 hK⟩) hS9 (Nat.le_of_ble_eq_true rfl) (Nat.le_of_ble_eq_true rfl)

set_option maxHeartbeats 4000000 in
set_option maxRecDepth 100000 in
/-- clamp, no room -/
theorem c_clamp_no (l : Launch) (D : va_G) (g : Nat → ClassId) (ad : Nat → Nat) (w : Nat → Option va_E) (sz : Nat) (sg pl : Int32) (cx0 cy0 cx1 cy1 : Nat → Int32) (cc_ : Nat) (a1 a2 a3 a4 : Int32) (o0 : w 0 = some (.inr (7, [.ref (ad 1), .ref (ad 5), .ref (ad 12), .ref (ad 17), .ref (ad 18), .ref (ad 23), .ref (ad 25), .int sg, .int pl]))) (k12 : w 12 = some (.inr (0, [.ref (ad 13), .ref (ad 14), .ref (ad 15), .ref (ad 16), .int (nI cc_)]))) (k13 : w 13 = some (.inl (g 0, 6, .inl cx0))) (k14 : w 14 = some (.inl (g 0, 6, .inl cy0))) (k15 : w 15 = some (.inl (g 0, 6, .inl cx1))) (k16 : w 16 = some (.inl (g 0, 6, .inl cy1))) (hcc : cc_ = 6) (h0 : (((mr_in a1 (-20000) 20000 && mr_in a2 (-20000) 20000) && mr_in a3 a1 20000) && mr_in a4 a2 20000) = true) : Met l yDH_clamp wsDH_clamp ({ frames := 8, cells := 0, slots := 0, locals := 136 } : Room) (va_Pc [.ref (ad 0), .int a1, .int a2, .int a3, .int a4] (dq_S D vwCl (dq_t g) ad w sz)) (va_Qi (fun r u => r = 0 ∧ u = w) (dq_B D vwCl (dq_t g) ad (dq_A ad w sz)) (dq_A ad w sz)) 0 0 (dq_A ad w sz) := by
  refine dq_ofz (cc := cDH_clamp) (maxL := 5) (by decide) rfl (Nat.le_of_ble_eq_true rfl) ?_
  intro p e s m below meth c A Q ls ⟨hx, hb, hml, hown, hts⟩ hnm hA hW hK hZ hl hret
  have hS : va_S A s.heap s.heap [] := va_S.rf
  have hl : lv_has ls 5 [(0, .ref (ad 0)), (1, .int a1), (2, .int a2), (3, .int a3), (4, .int a4)] := hl
  have hf37 := hts _ (List.mem_cons_of_mem _ tw1_216)
  have hf92 := hts _ (List.mem_cons_of_mem _ tw1_222)
  have hf116 := hts _ (List.mem_cons_of_mem _ tw1_118)
  have hinDH : ∀ w ∈ u_ws RDH TDH 9, w ∈ wsDH_clamp := fun w h => List.mem_cons_of_mem _ (inDH w h)
  have hinCl : ∀ w ∈ u_ws RCl TCl 5, w ∈ wsDH_clamp := fun w h => List.mem_cons_of_mem _ (inCl w h)
  obtain ⟨h04, h4⟩ := Bool.and_eq_true_iff.mp h0
  obtain ⟨h03, h3⟩ := Bool.and_eq_true_iff.mp h04
  obtain ⟨h1, h2⟩ := Bool.and_eq_true_iff.mp h03
  refine lv_iload_n hx hb dDH_clamp_0 rfl (lv_at hl 1 rfl) ?_
  refine lv_sipush (v := (-20000)) hx hb dDH_clamp_1 (by decide) ?_
  refine lv_sipush (v := (20000)) hx hb dDH_clamp_4 (by decide) ?_
  refine va_csv (W.runS (As := [.int a1, .int (-20000), .int (20000)]) (rest := []) ⟨hx, hb, hml, hown, hts⟩ (c_within l D g ad (w) _ a1 (-20000) 20000  h1) (cwS 3 hts (dq_giS2 tw2_199 tw2_200 tw1_1 tw2_201) rfl rfl rfl (by decide +kernel) ⟨Nat.le_of_ble_eq_true rfl, Nat.le_of_ble_eq_true rfl⟩) (dq_preS hW hS hA hK hZ) rfl rfl hl.1 rfl (lv_room (Nat.le_of_ble_eq_true rfl)) dDH_clamp_7 ⟨Nat.zero_le _, Nat.zero_le _⟩) (fun _ => ?_)
  refine lv_iload_n hx hb dDH_clamp_10 rfl (lv_at hl 2 rfl) ?_
  refine lv_sipush (v := (-20000)) hx hb dDH_clamp_11 (by decide) ?_
  refine lv_sipush (v := (20000)) hx hb dDH_clamp_14 (by decide) ?_
  refine va_csv (W.runS (As := [.int a2, .int (-20000), .int (20000)]) (rest := []) ⟨hx, hb, hml, hown, hts⟩ (c_within l D g ad (w) _ a2 (-20000) 20000  h2) (cwS 3 hts (dq_giS2 tw2_199 tw2_200 tw1_1 tw2_201) rfl rfl rfl (by decide +kernel) ⟨Nat.le_of_ble_eq_true rfl, Nat.le_of_ble_eq_true rfl⟩) (dq_preS hW hS hA hK hZ) rfl rfl hl.1 rfl (lv_room (Nat.le_of_ble_eq_true rfl)) dDH_clamp_17 ⟨Nat.zero_le _, Nat.zero_le _⟩) (fun _ => ?_)
  refine lv_iload_n hx hb dDH_clamp_20 rfl (lv_at hl 3 rfl) ?_
  refine lv_iload_n hx hb dDH_clamp_21 rfl (lv_at hl 1 rfl) ?_
  refine lv_sipush (v := (20000)) hx hb dDH_clamp_22 (by decide) ?_
  refine va_csv (W.runS (As := [.int a3, .int a1, .int (20000)]) (rest := []) ⟨hx, hb, hml, hown, hts⟩ (c_within l D g ad (w) _ a3 a1 20000  h3) (cwS 3 hts (dq_giS2 tw2_199 tw2_200 tw1_1 tw2_201) rfl rfl rfl (by decide +kernel) ⟨Nat.le_of_ble_eq_true rfl, Nat.le_of_ble_eq_true rfl⟩) (dq_preS hW hS hA hK hZ) rfl rfl hl.1 rfl (lv_room (Nat.le_of_ble_eq_true rfl)) dDH_clamp_25 ⟨Nat.zero_le _, Nat.zero_le _⟩) (fun _ => ?_)
  refine lv_iload hx hb dDH_clamp_28 (lv_at hl 4 rfl) ?_
  refine lv_iload_n hx hb dDH_clamp_30 rfl (lv_at hl 2 rfl) ?_
  refine lv_sipush (v := (20000)) hx hb dDH_clamp_31 (by decide) ?_
  refine va_csv (W.runS (As := [.int a4, .int a2, .int (20000)]) (rest := []) ⟨hx, hb, hml, hown, hts⟩ (c_within l D g ad (w) _ a4 a2 20000  h4) (cwS 3 hts (dq_giS2 tw2_199 tw2_200 tw1_1 tw2_201) rfl rfl rfl (by decide +kernel) ⟨Nat.le_of_ble_eq_true rfl, Nat.le_of_ble_eq_true rfl⟩) (dq_preS hW hS hA hK hZ) rfl rfl hl.1 rfl (lv_room (Nat.le_of_ble_eq_true rfl)) dDH_clamp_34 ⟨Nat.zero_le _, Nat.zero_le _⟩) (fun _ => ?_)
  refine lv_aload_n hx hb dDH_clamp_37 rfl (lv_at hl 0 rfl) ?_
  refine dq_get (D := D) (ci := 7) (v := .ref (ad 12)) (C := RDH) (T := TDH) (N := 9) hx hb hts hinDH hown hK hW 0 o0 rfl 2 (by decide) hf37 (fun _ h9 => h9) rfl dDH_clamp_38 ?_
  refine dq_get (D := D) (ci := 0) (v := .int (nI cc_)) (C := RCl) (T := TCl) (N := 5) hx hb hts hinCl hown hK hW 12 k12 rfl 4 (by decide) hf116 (fun _ h9 => h9) rfl dDH_clamp_41 ?_
  refine lv_bipush (v := (nI 6)) hx hb dDH_clamp_44 (by decide) ?_
  refine lv_icmp_lt (tgt := 51) hx hb dDH_clamp_46 (by decide) (fun c1 => ?_) (fun c1 => ?_)
  · exact absurd ((nI_ltI (by omega) (by omega)).mp c1) (by omega)
  · refine lv_iconst (v := (0)) hx hb dDH_clamp_49 (by decide) ?_
    exact hret _ _ _ _ _ _ ⟨rfl, rfl⟩ (by decide) hW hS dDH_clamp_50

set_option maxHeartbeats 4000000 in
set_option maxRecDepth 100000 in
/-- clamp -/
theorem c_clamp_yes (l : Launch) (D : va_G) (g : Nat → ClassId) (ad : Nat → Nat) (w : Nat → Option va_E) (sz : Nat) (sg pl : Int32) (cx0 cy0 cx1 cy1 : Nat → Int32) (cc_ : Nat) (a1 a2 a3 a4 : Int32) (o0 : w 0 = some (.inr (7, [.ref (ad 1), .ref (ad 5), .ref (ad 12), .ref (ad 17), .ref (ad 18), .ref (ad 23), .ref (ad 25), .int sg, .int pl]))) (k12 : w 12 = some (.inr (0, [.ref (ad 13), .ref (ad 14), .ref (ad 15), .ref (ad 16), .int (nI cc_)]))) (k13 : w 13 = some (.inl (g 0, 6, .inl cx0))) (k14 : w 14 = some (.inl (g 0, 6, .inl cy0))) (k15 : w 15 = some (.inl (g 0, 6, .inl cx1))) (k16 : w 16 = some (.inl (g 0, 6, .inl cy1))) (hcc : cc_ < 6) (h0 : (((mr_in a1 (-20000) 20000 && mr_in a2 (-20000) 20000) && mr_in a3 a1 20000) && mr_in a4 a2 20000) = true) : Met l yDH_clamp wsDH_clamp ({ frames := 8, cells := 0, slots := 0, locals := 136 } : Room) (va_Pc [.ref (ad 0), .int a1, .int a2, .int a3, .int a4] (dq_S D vwCl (dq_t g) ad w sz)) (va_Qi (fun r u => r = 1 ∧ u = dq_U (dq_U (dq_U (dq_U (dq_U (dq_U w 13 (.inl (g 0, 6, .inl (upd cx0 cc_ a1)))) 14 (.inl (g 0, 6, .inl (upd cy0 cc_ a2)))) 15 (.inl (g 0, 6, .inl (upd cx1 cc_ a3)))) 16 (.inl (g 0, 6, .inl (upd cy1 cc_ a4)))) 12 (.inr (0, [.ref (ad 13), .ref (ad 14), .ref (ad 15), .ref (ad 16), .int (nI (cc_ + 1))]))) 0 (.inr (7, [.ref (ad 1), .ref (ad 5), .ref (ad 12), .ref (ad 17), .ref (ad 18), .ref (ad 23), .ref (ad 25), .int sg, .int 0]))) (dq_B D vwCl (dq_t g) ad (dq_A ad w sz)) (dq_A ad w sz)) 0 0 (dq_A ad w sz) := by
  refine dq_ofz (cc := cDH_clamp) (maxL := 5) (by decide) rfl (Nat.le_of_ble_eq_true rfl) ?_
  intro p e s m below meth c A Q ls ⟨hx, hb, hml, hown, hts⟩ hnm hA hW hK hZ hl hret
  have hS : va_S A s.heap s.heap [] := va_S.rf
  have hl : lv_has ls 5 [(0, .ref (ad 0)), (1, .int a1), (2, .int a2), (3, .int a3), (4, .int a4)] := hl
  have hf37 := hts _ (List.mem_cons_of_mem _ tw1_216)
  have hf92 := hts _ (List.mem_cons_of_mem _ tw1_222)
  have hf116 := hts _ (List.mem_cons_of_mem _ tw1_118)
  have hinDH : ∀ w ∈ u_ws RDH TDH 9, w ∈ wsDH_clamp := fun w h => List.mem_cons_of_mem _ (inDH w h)
  have hinCl : ∀ w ∈ u_ws RCl TCl 5, w ∈ wsDH_clamp := fun w h => List.mem_cons_of_mem _ (inCl w h)
  obtain ⟨h04, h4⟩ := Bool.and_eq_true_iff.mp h0
  obtain ⟨h03, h3⟩ := Bool.and_eq_true_iff.mp h04
  obtain ⟨h1, h2⟩ := Bool.and_eq_true_iff.mp h03
  refine lv_iload_n hx hb dDH_clamp_0 rfl (lv_at hl 1 rfl) ?_
  refine lv_sipush (v := (-20000)) hx hb dDH_clamp_1 (by decide) ?_
  refine lv_sipush (v := (20000)) hx hb dDH_clamp_4 (by decide) ?_
  refine va_csv (W.runS (As := [.int a1, .int (-20000), .int (20000)]) (rest := []) ⟨hx, hb, hml, hown, hts⟩ (c_within l D g ad (w) _ a1 (-20000) 20000  h1) (cwS 3 hts (dq_giS2 tw2_199 tw2_200 tw1_1 tw2_201) rfl rfl rfl (by decide +kernel) ⟨Nat.le_of_ble_eq_true rfl, Nat.le_of_ble_eq_true rfl⟩) (dq_preS hW hS hA hK hZ) rfl rfl hl.1 rfl (lv_room (Nat.le_of_ble_eq_true rfl)) dDH_clamp_7 ⟨Nat.zero_le _, Nat.zero_le _⟩) (fun _ => ?_)
  refine lv_iload_n hx hb dDH_clamp_10 rfl (lv_at hl 2 rfl) ?_
  refine lv_sipush (v := (-20000)) hx hb dDH_clamp_11 (by decide) ?_
  refine lv_sipush (v := (20000)) hx hb dDH_clamp_14 (by decide) ?_
  refine va_csv (W.runS (As := [.int a2, .int (-20000), .int (20000)]) (rest := []) ⟨hx, hb, hml, hown, hts⟩ (c_within l D g ad (w) _ a2 (-20000) 20000  h2) (cwS 3 hts (dq_giS2 tw2_199 tw2_200 tw1_1 tw2_201) rfl rfl rfl (by decide +kernel) ⟨Nat.le_of_ble_eq_true rfl, Nat.le_of_ble_eq_true rfl⟩) (dq_preS hW hS hA hK hZ) rfl rfl hl.1 rfl (lv_room (Nat.le_of_ble_eq_true rfl)) dDH_clamp_17 ⟨Nat.zero_le _, Nat.zero_le _⟩) (fun _ => ?_)
  refine lv_iload_n hx hb dDH_clamp_20 rfl (lv_at hl 3 rfl) ?_
  refine lv_iload_n hx hb dDH_clamp_21 rfl (lv_at hl 1 rfl) ?_
  refine lv_sipush (v := (20000)) hx hb dDH_clamp_22 (by decide) ?_
  refine va_csv (W.runS (As := [.int a3, .int a1, .int (20000)]) (rest := []) ⟨hx, hb, hml, hown, hts⟩ (c_within l D g ad (w) _ a3 a1 20000  h3) (cwS 3 hts (dq_giS2 tw2_199 tw2_200 tw1_1 tw2_201) rfl rfl rfl (by decide +kernel) ⟨Nat.le_of_ble_eq_true rfl, Nat.le_of_ble_eq_true rfl⟩) (dq_preS hW hS hA hK hZ) rfl rfl hl.1 rfl (lv_room (Nat.le_of_ble_eq_true rfl)) dDH_clamp_25 ⟨Nat.zero_le _, Nat.zero_le _⟩) (fun _ => ?_)
  refine lv_iload hx hb dDH_clamp_28 (lv_at hl 4 rfl) ?_
  refine lv_iload_n hx hb dDH_clamp_30 rfl (lv_at hl 2 rfl) ?_
  refine lv_sipush (v := (20000)) hx hb dDH_clamp_31 (by decide) ?_
  refine va_csv (W.runS (As := [.int a4, .int a2, .int (20000)]) (rest := []) ⟨hx, hb, hml, hown, hts⟩ (c_within l D g ad (w) _ a4 a2 20000  h4) (cwS 3 hts (dq_giS2 tw2_199 tw2_200 tw1_1 tw2_201) rfl rfl rfl (by decide +kernel) ⟨Nat.le_of_ble_eq_true rfl, Nat.le_of_ble_eq_true rfl⟩) (dq_preS hW hS hA hK hZ) rfl rfl hl.1 rfl (lv_room (Nat.le_of_ble_eq_true rfl)) dDH_clamp_34 ⟨Nat.zero_le _, Nat.zero_le _⟩) (fun _ => ?_)
  refine lv_aload_n hx hb dDH_clamp_37 rfl (lv_at hl 0 rfl) ?_
  refine dq_get (D := D) (ci := 7) (v := .ref (ad 12)) (C := RDH) (T := TDH) (N := 9) hx hb hts hinDH hown hK hW 0 o0 rfl 2 (by decide) hf37 (fun _ h9 => h9) rfl dDH_clamp_38 ?_
  refine dq_get (D := D) (ci := 0) (v := .int (nI cc_)) (C := RCl) (T := TCl) (N := 5) hx hb hts hinCl hown hK hW 12 k12 rfl 4 (by decide) hf116 (fun _ h9 => h9) rfl dDH_clamp_41 ?_
  refine lv_bipush (v := (nI 6)) hx hb dDH_clamp_44 (by decide) ?_
  refine lv_icmp_lt (tgt := 51) hx hb dDH_clamp_46 (by decide) (fun c1 => ?_) (fun c1 => ?_)
  · refine lv_aload_n hx hb dDH_clamp_51 rfl (lv_at hl 0 rfl) ?_
    refine dq_get (D := D) (ci := 7) (v := .ref (ad 12)) (C := RDH) (T := TDH) (N := 9) hx hb hts hinDH hown hK hW 0 o0 rfl 2 (by decide) hf37 (fun _ h9 => h9) rfl dDH_clamp_52 ?_
    refine lv_iload_n hx hb dDH_clamp_55 rfl (lv_at hl 1 rfl) ?_
    refine lv_iload_n hx hb dDH_clamp_56 rfl (lv_at hl 2 rfl) ?_
    refine lv_iload_n hx hb dDH_clamp_57 rfl (lv_at hl 3 rfl) ?_
    refine lv_iload hx hb dDH_clamp_58 (lv_at hl 4 rfl) ?_
    refine dq_callv (va_runV (As := [.int a1, .int a2, .int a3, .int a4]) (rest := []) ⟨hx, hb, hml, hown, hts⟩ (c_Clamps_add l D g ad (w) _ cx0 cy0 cx1 cy1 cc_ a1 a2 a3 a4 k12 k13 k14 k15 k16 hcc) (cwV 4 hts (dq_giV tw3_35 tw3_36 tw3_37 tw1_5 tw3_38) rfl rfl rfl (by decide +kernel) ⟨Nat.le_of_ble_eq_true rfl, Nat.le_of_ble_eq_true rfl⟩) (dq_preV (ci := 0) hW hS hA hK hZ k12 rfl rfl) rfl rfl hl.1 rfl (lv_room (Nat.le_of_ble_eq_true rfl)) dDH_clamp_60 ⟨Nat.zero_le _, Nat.zero_le _⟩) hW hS hA (fun u_9 H locs hp1 hW hS hz9 => ?_)
    rw [hp1] at hW
    refine lv_aload_n hx hb dDH_clamp_63 rfl (lv_at hl 0 rfl) ?_
    refine lv_iconst (v := (0)) hx hb dDH_clamp_64 (by decide) ?_
    refine dq_put (D := D) (ci := 7) (v := .int (0)) (ty := .boolean) (C := RDH) (T := TDH) (N := 9) hx hb hts hinDH tyDH tyDH_ok nmDH hown hK hW hS 0 ((dq_Un (by decide)).trans ((dq_Un (by decide)).trans ((dq_Un (by decide)).trans ((dq_Un (by decide)).trans ((dq_Un (by decide)).trans o0))))) rfl 8 (by decide) hf92 (fun _ h9 => h9) rfl (by decide +kernel) rfl rfl (Nat.le_of_ble_eq_true rfl) dDH_clamp_65 (fun H locs hW hS => ?_)
    refine lv_iconst (v := (1)) hx hb dDH_clamp_68 (by decide) ?_
    exact hret _ _ _ _ _ _ ⟨rfl, rfl⟩ (by decide) hW hS dDH_clamp_69
  · exact absurd (nI_lt hcc (by omega)) c1
set_option maxHeartbeats 4000000 in
set_option maxRecDepth 100000 in
/-- mirror, no such axis -/
theorem t_mirror (l : Launch) (htr : l.stackTraces = false) (D : va_G) (g : Nat → ClassId) (ad : Nat → Nat) (w : Nat → Option va_E) (sz : Nat) (sg pl : Int32) (a0 : Int32) (o0 : w 0 = some (.inr (7, [.ref (ad 1), .ref (ad 5), .ref (ad 12), .ref (ad 17), .ref (ad 18), .ref (ad 23), .ref (ad 25), .int sg, .int pl]))) (h0 : mr_in a0 0 1 = false) : dx_M l yDH_mirror wsDH_mirror ({ frames := 8, cells := 1, slots := 6, locals := 136 } : Room) (va_Pc [.ref (ad 0), .int a0] (dq_S D vwCl (dq_t g) ad w sz)) (dx_X D vwCl (dq_t g) ad w (dq_A ad w sz) (fun E => E = "java/lang/IllegalArgumentException")) (dq_A ad w sz) 1 6 := by
  refine dx_of (cc := cDH_mirror) (maxL := 2) (by decide) rfl (Nat.le_of_ble_eq_true rfl) ?_
  intro p e s m below meth c A ls ⟨hx, hb, hml, hown, hts⟩ hnm hA hW hK hZ hl hout hlocks
  have hS : va_S A s.heap s.heap [] := va_S.rf
  have hl : lv_has ls 2 [(0, .ref (ad 0)), (1, .int a0)] := hl
  have hf30 := hts _ (List.mem_cons_of_mem _ tw1_215)
  have hf92 := hts _ (List.mem_cons_of_mem _ tw1_222)
  have hf96 := hts _ (List.mem_cons_of_mem _ tw1_89)
  have hf120 := hts _ (List.mem_cons_of_mem _ tw1_77)
  have hf123 := hts _ (List.mem_cons_of_mem _ tw1_80)
  have hinDH : ∀ w ∈ u_ws RDH TDH 9, w ∈ wsDH_mirror := fun w h => List.mem_cons_of_mem _ (inDH w h)
  have hinPt : ∀ w ∈ u_ws RPt TPt 7, w ∈ wsDH_mirror := fun w h => List.mem_cons_of_mem _ (inPt w h)
  refine lv_iload_n hx hb dDH_mirror_0 rfl (lv_at hl 1 rfl) ?_
  refine lv_iconst (v := (0)) hx hb dDH_mirror_1 (by decide) ?_
  refine lv_iconst (v := (1)) hx hb dDH_mirror_2 (by decide) ?_
  refine dx_callS (As := [.int a0, .int (0), .int (1)]) (rest := []) ⟨hx, hb, hml, hown, hts⟩ (t_within l htr D g ad (w) _ a0 0 1  h0) (cwS 3 hts (dq_giS2 tw2_199 tw2_200 tw1_1 tw2_201) rfl rfl rfl (by decide +kernel) ⟨Nat.le_of_ble_eq_true rfl, Nat.le_of_ble_eq_true rfl⟩) (dq_preS hW hS hA hK hZ) rfl hl.1 rfl (lv_room (Nat.le_of_ble_eq_true rfl)) dDH_mirror_3 ⟨Nat.le_of_ble_eq_true rfl, Nat.le_of_ble_eq_true rfl⟩ hS (dq_A.sub hW hS hA) (fun q9 E9 ce9 t9 H locs ht9 hal9 hX9 hz9 hk9 hS9 hce9 hcv9 hcl9 => ?_)
  obtain ⟨hE9, hW9, hK9⟩ := hX9
  rw [ht9] at hW9
  exact dx_out hout hlocks hce9 hcv9 hcl9 (fun t h1 h2 => ⟨hE9, by rw [h1]; exact hW9.weaken (dq_A.sub hW hS hA), va_K.moved h2 hK⟩) hS9 (Nat.le_of_ble_eq_true rfl) (Nat.le_of_ble_eq_true rfl)

set_option maxHeartbeats 4000000 in
set_option maxRecDepth 100000 in
/-- mirror(0) -/
theorem c_mirror_0z (l : Launch) (D : va_G) (g : Nat → ClassId) (ad : Nat → Nat) (w : Nat → Option va_E) (sz : Nat) (sg pl : Int32) (px py pw pd pf pt : Nat → Int32) (pc_ : Nat) (o0 : w 0 = some (.inr (7, [.ref (ad 1), .ref (ad 5), .ref (ad 12), .ref (ad 17), .ref (ad 18), .ref (ad 23), .ref (ad 25), .int sg, .int pl]))) (p5 : w 5 = some (.inr (3, [.ref (ad 6), .ref (ad 7), .ref (ad 8), .ref (ad 9), .ref (ad 10), .ref (ad 11), .int (nI pc_)]))) (p6 : w 6 = some (.inl (g 0, 14, .inl px))) (p7 : w 7 = some (.inl (g 0, 14, .inl py))) (hpc : pc_ ≤ 14) (hz : pc_ = 0) : Met l yDH_mirror wsDH_mirror ({ frames := 8, cells := 0, slots := 0, locals := 136 } : Room) (va_Pc [.ref (ad 0), .int 0] (dq_S D vwCl (dq_t g) ad w sz)) (va_Qi (fun r u => r = nI pc_ ∧ u = dq_U w 6 (.inl (g 0, 14, .inl (mn_neg px pc_)))) (dq_B D vwCl (dq_t g) ad (dq_A ad w sz)) (dq_A ad w sz)) 0 0 (dq_A ad w sz) := by
  refine dq_ofi (cc := cDH_mirror) (maxL := 2) (by decide) rfl (Nat.le_of_ble_eq_true rfl) ?_
  intro p e s m below meth c A Q ls ⟨hx, hb, hml, hown, hts⟩ hnm hA hW hK hZ hl hret
  have hS : va_S A s.heap s.heap [] := va_S.rf
  have hl : lv_has ls 2 [(0, .ref (ad 0)), (1, .int 0)] := hl
  have hf30 := hts _ (List.mem_cons_of_mem _ tw1_215)
  have hf92 := hts _ (List.mem_cons_of_mem _ tw1_222)
  have hf96 := hts _ (List.mem_cons_of_mem _ tw1_89)
  have hf120 := hts _ (List.mem_cons_of_mem _ tw1_77)
  have hf123 := hts _ (List.mem_cons_of_mem _ tw1_80)
  have hinDH : ∀ w ∈ u_ws RDH TDH 9, w ∈ wsDH_mirror := fun w h => List.mem_cons_of_mem _ (inDH w h)
  have hinPt : ∀ w ∈ u_ws RPt TPt 7, w ∈ wsDH_mirror := fun w h => List.mem_cons_of_mem _ (inPt w h)
  refine lv_iload_n hx hb dDH_mirror_0 rfl (lv_at hl 1 rfl) ?_
  refine lv_iconst (v := (0)) hx hb dDH_mirror_1 (by decide) ?_
  refine lv_iconst (v := (1)) hx hb dDH_mirror_2 (by decide) ?_
  refine va_csv (W.runS (As := [.int 0, .int (0), .int (1)]) (rest := []) ⟨hx, hb, hml, hown, hts⟩ (c_within l D g ad (w) _ 0 0 1  (by decide)) (cwS 3 hts (dq_giS2 tw2_199 tw2_200 tw1_1 tw2_201) rfl rfl rfl (by decide +kernel) ⟨Nat.le_of_ble_eq_true rfl, Nat.le_of_ble_eq_true rfl⟩) (dq_preS hW hS hA hK hZ) rfl rfl hl.1 rfl (lv_room (Nat.le_of_ble_eq_true rfl)) dDH_mirror_3 ⟨Nat.zero_le _, Nat.zero_le _⟩) (fun _ => ?_)
  refine lv_iload_n hx hb dDH_mirror_6 rfl (lv_at hl 1 rfl) ?_
  refine lv_if_ne (tgt := 20) hx hb dDH_mirror_7 (by decide) (fun c1 => ?_) (fun c1 => ?_)
  · exact absurd rfl c1
  · refine lv_aload_n hx hb dDH_mirror_10 rfl (lv_at hl 0 rfl) ?_
    refine dq_get (D := D) (ci := 7) (v := .ref (ad 5)) (C := RDH) (T := TDH) (N := 9) hx hb hts hinDH hown hK hW 0 o0 rfl 1 (by decide) hf30 (fun _ h9 => h9) rfl dDH_mirror_11 ?_
    refine dq_get (D := D) (ci := 3) (v := .ref (ad 6)) (C := RPt) (T := TPt) (N := 7) hx hb hts hinPt hown hK hW 5 p5 rfl 0 (by decide) hf120 (fun _ h9 => h9) rfl dDH_mirror_14 ?_
    refine lv_goto (tgt := 27) hx hb dDH_mirror_17 (by decide) ?_
    refine lv_aload_n hx hb dDH_mirror_27 rfl (lv_at hl 0 rfl) ?_
    refine dq_get (D := D) (ci := 7) (v := .ref (ad 5)) (C := RDH) (T := TDH) (N := 9) hx hb hts hinDH hown hK hW 0 o0 rfl 1 (by decide) hf30 (fun _ h9 => h9) rfl dDH_mirror_28 ?_
    refine dq_get (D := D) (ci := 3) (v := .int (nI pc_)) (C := RPt) (T := TPt) (N := 7) hx hb hts hinPt hown hK hW 5 p5 rfl 6 (by decide) hf96 (fun _ h9 => h9) rfl dDH_mirror_31 ?_
    refine dq_callv (va_runS (As := [.ref (ad 6), .int (nI pc_)]) (rest := []) ⟨hx, hb, hml, hown, hts⟩ (c_negate l D g ad (w) _ 6 pc_ px p6 hpc) (cwS 2 hts (dq_giS2 tw3_46 tw3_47 tw1_1 tw3_48) rfl rfl rfl (by decide +kernel) ⟨Nat.le_of_ble_eq_true rfl, Nat.le_of_ble_eq_true rfl⟩) (dq_preS hW hS hA hK hZ) rfl rfl hl.1 rfl (lv_room (Nat.le_of_ble_eq_true rfl)) dDH_mirror_34 ⟨Nat.zero_le _, Nat.zero_le _⟩) hW hS hA (fun u_9 H locs hp1 hW hS hz9 => ?_)
    rw [hp1] at hW
    refine lv_aload_n hx hb dDH_mirror_37 rfl (lv_at hl 0 rfl) ?_
    refine dq_get (D := D) (ci := 7) (v := .ref (ad 5)) (C := RDH) (T := TDH) (N := 9) hx hb hts hinDH hown hK hW 0 ((dq_Un (by decide)).trans o0) rfl 1 (by decide) hf30 (fun _ h9 => h9) rfl dDH_mirror_38 ?_
    refine dq_get (D := D) (ci := 3) (v := .int (nI pc_)) (C := RPt) (T := TPt) (N := 7) hx hb hts hinPt hown hK hW 5 ((dq_Un (by decide)).trans p5) rfl 6 (by decide) hf96 (fun _ h9 => h9) rfl dDH_mirror_41 ?_
    refine lv_if_le (tgt := 52) hx hb dDH_mirror_44 (by decide) (fun c2 => ?_) (fun c2 => ?_)
    · refine lv_aload_n hx hb dDH_mirror_52 rfl (lv_at hl 0 rfl) ?_
      refine dq_get (D := D) (ci := 7) (v := .ref (ad 5)) (C := RDH) (T := TDH) (N := 9) hx hb hts hinDH hown hK hW 0 ((dq_Un (by decide)).trans o0) rfl 1 (by decide) hf30 (fun _ h9 => h9) rfl dDH_mirror_53 ?_
      refine dq_get (D := D) (ci := 3) (v := .int (nI pc_)) (C := RPt) (T := TPt) (N := 7) hx hb hts hinPt hown hK hW 5 ((dq_Un (by decide)).trans p5) rfl 6 (by decide) hf96 (fun _ h9 => h9) rfl dDH_mirror_56 ?_
      exact hret _ _ _ _ _ _ ⟨rfl, rfl⟩ hW hS dDH_mirror_59
    · exact absurd (by rw [hz]; decide) c2

set_option maxHeartbeats 4000000 in
set_option maxRecDepth 100000 in
/-- mirror(0) -/
theorem c_mirror_0p (l : Launch) (D : va_G) (g : Nat → ClassId) (ad : Nat → Nat) (w : Nat → Option va_E) (sz : Nat) (sg pl : Int32) (px py pw pd pf pt : Nat → Int32) (pc_ : Nat) (o0 : w 0 = some (.inr (7, [.ref (ad 1), .ref (ad 5), .ref (ad 12), .ref (ad 17), .ref (ad 18), .ref (ad 23), .ref (ad 25), .int sg, .int pl]))) (p5 : w 5 = some (.inr (3, [.ref (ad 6), .ref (ad 7), .ref (ad 8), .ref (ad 9), .ref (ad 10), .ref (ad 11), .int (nI pc_)]))) (p6 : w 6 = some (.inl (g 0, 14, .inl px))) (p7 : w 7 = some (.inl (g 0, 14, .inl py))) (hpc : pc_ ≤ 14) (hz : 0 < pc_) : Met l yDH_mirror wsDH_mirror ({ frames := 8, cells := 0, slots := 0, locals := 136 } : Room) (va_Pc [.ref (ad 0), .int 0] (dq_S D vwCl (dq_t g) ad w sz)) (va_Qi (fun r u => r = nI pc_ ∧ u = dq_U (dq_U w 6 (.inl (g 0, 14, .inl (mn_neg px pc_)))) 0 (.inr (7, [.ref (ad 1), .ref (ad 5), .ref (ad 12), .ref (ad 17), .ref (ad 18), .ref (ad 23), .ref (ad 25), .int sg, .int 0]))) (dq_B D vwCl (dq_t g) ad (dq_A ad w sz)) (dq_A ad w sz)) 0 0 (dq_A ad w sz) := by
  refine dq_ofi (cc := cDH_mirror) (maxL := 2) (by decide) rfl (Nat.le_of_ble_eq_true rfl) ?_
  intro p e s m below meth c A Q ls ⟨hx, hb, hml, hown, hts⟩ hnm hA hW hK hZ hl hret
  have hS : va_S A s.heap s.heap [] := va_S.rf
  have hl : lv_has ls 2 [(0, .ref (ad 0)), (1, .int 0)] := hl
  have hf30 := hts _ (List.mem_cons_of_mem _ tw1_215)
  have hf92 := hts _ (List.mem_cons_of_mem _ tw1_222)
  have hf96 := hts _ (List.mem_cons_of_mem _ tw1_89)
  have hf120 := hts _ (List.mem_cons_of_mem _ tw1_77)
  have hf123 := hts _ (List.mem_cons_of_mem _ tw1_80)
  have hinDH : ∀ w ∈ u_ws RDH TDH 9, w ∈ wsDH_mirror := fun w h => List.mem_cons_of_mem _ (inDH w h)
  have hinPt : ∀ w ∈ u_ws RPt TPt 7, w ∈ wsDH_mirror := fun w h => List.mem_cons_of_mem _ (inPt w h)
  refine lv_iload_n hx hb dDH_mirror_0 rfl (lv_at hl 1 rfl) ?_
  refine lv_iconst (v := (0)) hx hb dDH_mirror_1 (by decide) ?_
  refine lv_iconst (v := (1)) hx hb dDH_mirror_2 (by decide) ?_
  refine va_csv (W.runS (As := [.int 0, .int (0), .int (1)]) (rest := []) ⟨hx, hb, hml, hown, hts⟩ (c_within l D g ad (w) _ 0 0 1  (by decide)) (cwS 3 hts (dq_giS2 tw2_199 tw2_200 tw1_1 tw2_201) rfl rfl rfl (by decide +kernel) ⟨Nat.le_of_ble_eq_true rfl, Nat.le_of_ble_eq_true rfl⟩) (dq_preS hW hS hA hK hZ) rfl rfl hl.1 rfl (lv_room (Nat.le_of_ble_eq_true rfl)) dDH_mirror_3 ⟨Nat.zero_le _, Nat.zero_le _⟩) (fun _ => ?_)
  refine lv_iload_n hx hb dDH_mirror_6 rfl (lv_at hl 1 rfl) ?_
  refine lv_if_ne (tgt := 20) hx hb dDH_mirror_7 (by decide) (fun c1 => ?_) (fun c1 => ?_)
  · exact absurd rfl c1
  · refine lv_aload_n hx hb dDH_mirror_10 rfl (lv_at hl 0 rfl) ?_
    refine dq_get (D := D) (ci := 7) (v := .ref (ad 5)) (C := RDH) (T := TDH) (N := 9) hx hb hts hinDH hown hK hW 0 o0 rfl 1 (by decide) hf30 (fun _ h9 => h9) rfl dDH_mirror_11 ?_
    refine dq_get (D := D) (ci := 3) (v := .ref (ad 6)) (C := RPt) (T := TPt) (N := 7) hx hb hts hinPt hown hK hW 5 p5 rfl 0 (by decide) hf120 (fun _ h9 => h9) rfl dDH_mirror_14 ?_
    refine lv_goto (tgt := 27) hx hb dDH_mirror_17 (by decide) ?_
    refine lv_aload_n hx hb dDH_mirror_27 rfl (lv_at hl 0 rfl) ?_
    refine dq_get (D := D) (ci := 7) (v := .ref (ad 5)) (C := RDH) (T := TDH) (N := 9) hx hb hts hinDH hown hK hW 0 o0 rfl 1 (by decide) hf30 (fun _ h9 => h9) rfl dDH_mirror_28 ?_
    refine dq_get (D := D) (ci := 3) (v := .int (nI pc_)) (C := RPt) (T := TPt) (N := 7) hx hb hts hinPt hown hK hW 5 p5 rfl 6 (by decide) hf96 (fun _ h9 => h9) rfl dDH_mirror_31 ?_
    refine dq_callv (va_runS (As := [.ref (ad 6), .int (nI pc_)]) (rest := []) ⟨hx, hb, hml, hown, hts⟩ (c_negate l D g ad (w) _ 6 pc_ px p6 hpc) (cwS 2 hts (dq_giS2 tw3_46 tw3_47 tw1_1 tw3_48) rfl rfl rfl (by decide +kernel) ⟨Nat.le_of_ble_eq_true rfl, Nat.le_of_ble_eq_true rfl⟩) (dq_preS hW hS hA hK hZ) rfl rfl hl.1 rfl (lv_room (Nat.le_of_ble_eq_true rfl)) dDH_mirror_34 ⟨Nat.zero_le _, Nat.zero_le _⟩) hW hS hA (fun u_9 H locs hp1 hW hS hz9 => ?_)
    rw [hp1] at hW
    refine lv_aload_n hx hb dDH_mirror_37 rfl (lv_at hl 0 rfl) ?_
    refine dq_get (D := D) (ci := 7) (v := .ref (ad 5)) (C := RDH) (T := TDH) (N := 9) hx hb hts hinDH hown hK hW 0 ((dq_Un (by decide)).trans o0) rfl 1 (by decide) hf30 (fun _ h9 => h9) rfl dDH_mirror_38 ?_
    refine dq_get (D := D) (ci := 3) (v := .int (nI pc_)) (C := RPt) (T := TPt) (N := 7) hx hb hts hinPt hown hK hW 5 ((dq_Un (by decide)).trans p5) rfl 6 (by decide) hf96 (fun _ h9 => h9) rfl dDH_mirror_41 ?_
    refine lv_if_le (tgt := 52) hx hb dDH_mirror_44 (by decide) (fun c2 => ?_) (fun c2 => ?_)
    · exact absurd ((nI_leI (b := 0) (by omega) (by omega)).mp c2) (by omega)
    · refine lv_aload_n hx hb dDH_mirror_47 rfl (lv_at hl 0 rfl) ?_
      refine lv_iconst (v := (0)) hx hb dDH_mirror_48 (by decide) ?_
      refine dq_put (D := D) (ci := 7) (v := .int (0)) (ty := .boolean) (C := RDH) (T := TDH) (N := 9) hx hb hts hinDH tyDH tyDH_ok nmDH hown hK hW hS 0 ((dq_Un (by decide)).trans o0) rfl 8 (by decide) hf92 (fun _ h9 => h9) rfl (by decide +kernel) rfl rfl (Nat.le_of_ble_eq_true rfl) dDH_mirror_49 (fun H locs hW hS => ?_)
      refine lv_aload_n hx hb dDH_mirror_52 rfl (lv_at hl 0 rfl) ?_
      refine dq_get (D := D) (ci := 7) (v := .ref (ad 5)) (C := RDH) (T := TDH) (N := 9) hx hb hts hinDH hown hK hW 0 dq_Us rfl 1 (by decide) hf30 (fun _ h9 => h9) rfl dDH_mirror_53 ?_
      refine dq_get (D := D) (ci := 3) (v := .int (nI pc_)) (C := RPt) (T := TPt) (N := 7) hx hb hts hinPt hown hK hW 5 ((dq_Un (by decide)).trans ((dq_Un (by decide)).trans p5)) rfl 6 (by decide) hf96 (fun _ h9 => h9) rfl dDH_mirror_56 ?_
      exact hret _ _ _ _ _ _ ⟨rfl, rfl⟩ hW hS dDH_mirror_59

set_option maxHeartbeats 4000000 in
set_option maxRecDepth 100000 in
/-- mirror(1) -/
theorem c_mirror_1z (l : Launch) (D : va_G) (g : Nat → ClassId) (ad : Nat → Nat) (w : Nat → Option va_E) (sz : Nat) (sg pl : Int32) (px py pw pd pf pt : Nat → Int32) (pc_ : Nat) (o0 : w 0 = some (.inr (7, [.ref (ad 1), .ref (ad 5), .ref (ad 12), .ref (ad 17), .ref (ad 18), .ref (ad 23), .ref (ad 25), .int sg, .int pl]))) (p5 : w 5 = some (.inr (3, [.ref (ad 6), .ref (ad 7), .ref (ad 8), .ref (ad 9), .ref (ad 10), .ref (ad 11), .int (nI pc_)]))) (p6 : w 6 = some (.inl (g 0, 14, .inl px))) (p7 : w 7 = some (.inl (g 0, 14, .inl py))) (hpc : pc_ ≤ 14) (hz : pc_ = 0) : Met l yDH_mirror wsDH_mirror ({ frames := 8, cells := 0, slots := 0, locals := 136 } : Room) (va_Pc [.ref (ad 0), .int 1] (dq_S D vwCl (dq_t g) ad w sz)) (va_Qi (fun r u => r = nI pc_ ∧ u = dq_U w 7 (.inl (g 0, 14, .inl (mn_neg py pc_)))) (dq_B D vwCl (dq_t g) ad (dq_A ad w sz)) (dq_A ad w sz)) 0 0 (dq_A ad w sz) := by
  refine dq_ofi (cc := cDH_mirror) (maxL := 2) (by decide) rfl (Nat.le_of_ble_eq_true rfl) ?_
  intro p e s m below meth c A Q ls ⟨hx, hb, hml, hown, hts⟩ hnm hA hW hK hZ hl hret
  have hS : va_S A s.heap s.heap [] := va_S.rf
  have hl : lv_has ls 2 [(0, .ref (ad 0)), (1, .int 1)] := hl
  have hf30 := hts _ (List.mem_cons_of_mem _ tw1_215)
  have hf92 := hts _ (List.mem_cons_of_mem _ tw1_222)
  have hf96 := hts _ (List.mem_cons_of_mem _ tw1_89)
  have hf120 := hts _ (List.mem_cons_of_mem _ tw1_77)
  have hf123 := hts _ (List.mem_cons_of_mem _ tw1_80)
  have hinDH : ∀ w ∈ u_ws RDH TDH 9, w ∈ wsDH_mirror := fun w h => List.mem_cons_of_mem _ (inDH w h)
  have hinPt : ∀ w ∈ u_ws RPt TPt 7, w ∈ wsDH_mirror := fun w h => List.mem_cons_of_mem _ (inPt w h)
  refine lv_iload_n hx hb dDH_mirror_0 rfl (lv_at hl 1 rfl) ?_
  refine lv_iconst (v := (0)) hx hb dDH_mirror_1 (by decide) ?_
  refine lv_iconst (v := (1)) hx hb dDH_mirror_2 (by decide) ?_
  refine va_csv (W.runS (As := [.int 1, .int (0), .int (1)]) (rest := []) ⟨hx, hb, hml, hown, hts⟩ (c_within l D g ad (w) _ 1 0 1  (by decide)) (cwS 3 hts (dq_giS2 tw2_199 tw2_200 tw1_1 tw2_201) rfl rfl rfl (by decide +kernel) ⟨Nat.le_of_ble_eq_true rfl, Nat.le_of_ble_eq_true rfl⟩) (dq_preS hW hS hA hK hZ) rfl rfl hl.1 rfl (lv_room (Nat.le_of_ble_eq_true rfl)) dDH_mirror_3 ⟨Nat.zero_le _, Nat.zero_le _⟩) (fun _ => ?_)
  refine lv_iload_n hx hb dDH_mirror_6 rfl (lv_at hl 1 rfl) ?_
  refine lv_if_ne (tgt := 20) hx hb dDH_mirror_7 (by decide) (fun c1 => ?_) (fun c1 => ?_)
  · refine lv_aload_n hx hb dDH_mirror_20 rfl (lv_at hl 0 rfl) ?_
    refine dq_get (D := D) (ci := 7) (v := .ref (ad 5)) (C := RDH) (T := TDH) (N := 9) hx hb hts hinDH hown hK hW 0 o0 rfl 1 (by decide) hf30 (fun _ h9 => h9) rfl dDH_mirror_21 ?_
    refine dq_get (D := D) (ci := 3) (v := .ref (ad 7)) (C := RPt) (T := TPt) (N := 7) hx hb hts hinPt hown hK hW 5 p5 rfl 1 (by decide) hf123 (fun _ h9 => h9) rfl dDH_mirror_24 ?_
    refine lv_aload_n hx hb dDH_mirror_27 rfl (lv_at hl 0 rfl) ?_
    refine dq_get (D := D) (ci := 7) (v := .ref (ad 5)) (C := RDH) (T := TDH) (N := 9) hx hb hts hinDH hown hK hW 0 o0 rfl 1 (by decide) hf30 (fun _ h9 => h9) rfl dDH_mirror_28 ?_
    refine dq_get (D := D) (ci := 3) (v := .int (nI pc_)) (C := RPt) (T := TPt) (N := 7) hx hb hts hinPt hown hK hW 5 p5 rfl 6 (by decide) hf96 (fun _ h9 => h9) rfl dDH_mirror_31 ?_
    refine dq_callv (va_runS (As := [.ref (ad 7), .int (nI pc_)]) (rest := []) ⟨hx, hb, hml, hown, hts⟩ (c_negate l D g ad (w) _ 7 pc_ py p7 hpc) (cwS 2 hts (dq_giS2 tw3_46 tw3_47 tw1_1 tw3_48) rfl rfl rfl (by decide +kernel) ⟨Nat.le_of_ble_eq_true rfl, Nat.le_of_ble_eq_true rfl⟩) (dq_preS hW hS hA hK hZ) rfl rfl hl.1 rfl (lv_room (Nat.le_of_ble_eq_true rfl)) dDH_mirror_34 ⟨Nat.zero_le _, Nat.zero_le _⟩) hW hS hA (fun u_9 H locs hp1 hW hS hz9 => ?_)
    rw [hp1] at hW
    refine lv_aload_n hx hb dDH_mirror_37 rfl (lv_at hl 0 rfl) ?_
    refine dq_get (D := D) (ci := 7) (v := .ref (ad 5)) (C := RDH) (T := TDH) (N := 9) hx hb hts hinDH hown hK hW 0 ((dq_Un (by decide)).trans o0) rfl 1 (by decide) hf30 (fun _ h9 => h9) rfl dDH_mirror_38 ?_
    refine dq_get (D := D) (ci := 3) (v := .int (nI pc_)) (C := RPt) (T := TPt) (N := 7) hx hb hts hinPt hown hK hW 5 ((dq_Un (by decide)).trans p5) rfl 6 (by decide) hf96 (fun _ h9 => h9) rfl dDH_mirror_41 ?_
    refine lv_if_le (tgt := 52) hx hb dDH_mirror_44 (by decide) (fun c2 => ?_) (fun c2 => ?_)
    · refine lv_aload_n hx hb dDH_mirror_52 rfl (lv_at hl 0 rfl) ?_
      refine dq_get (D := D) (ci := 7) (v := .ref (ad 5)) (C := RDH) (T := TDH) (N := 9) hx hb hts hinDH hown hK hW 0 ((dq_Un (by decide)).trans o0) rfl 1 (by decide) hf30 (fun _ h9 => h9) rfl dDH_mirror_53 ?_
      refine dq_get (D := D) (ci := 3) (v := .int (nI pc_)) (C := RPt) (T := TPt) (N := 7) hx hb hts hinPt hown hK hW 5 ((dq_Un (by decide)).trans p5) rfl 6 (by decide) hf96 (fun _ h9 => h9) rfl dDH_mirror_56 ?_
      exact hret _ _ _ _ _ _ ⟨rfl, rfl⟩ hW hS dDH_mirror_59
    · exact absurd (by rw [hz]; decide) c2
  · exact absurd c1 (by decide)

set_option maxHeartbeats 4000000 in
set_option maxRecDepth 100000 in
/-- mirror(1) -/
theorem c_mirror_1p (l : Launch) (D : va_G) (g : Nat → ClassId) (ad : Nat → Nat) (w : Nat → Option va_E) (sz : Nat) (sg pl : Int32) (px py pw pd pf pt : Nat → Int32) (pc_ : Nat) (o0 : w 0 = some (.inr (7, [.ref (ad 1), .ref (ad 5), .ref (ad 12), .ref (ad 17), .ref (ad 18), .ref (ad 23), .ref (ad 25), .int sg, .int pl]))) (p5 : w 5 = some (.inr (3, [.ref (ad 6), .ref (ad 7), .ref (ad 8), .ref (ad 9), .ref (ad 10), .ref (ad 11), .int (nI pc_)]))) (p6 : w 6 = some (.inl (g 0, 14, .inl px))) (p7 : w 7 = some (.inl (g 0, 14, .inl py))) (hpc : pc_ ≤ 14) (hz : 0 < pc_) : Met l yDH_mirror wsDH_mirror ({ frames := 8, cells := 0, slots := 0, locals := 136 } : Room) (va_Pc [.ref (ad 0), .int 1] (dq_S D vwCl (dq_t g) ad w sz)) (va_Qi (fun r u => r = nI pc_ ∧ u = dq_U (dq_U w 7 (.inl (g 0, 14, .inl (mn_neg py pc_)))) 0 (.inr (7, [.ref (ad 1), .ref (ad 5), .ref (ad 12), .ref (ad 17), .ref (ad 18), .ref (ad 23), .ref (ad 25), .int sg, .int 0]))) (dq_B D vwCl (dq_t g) ad (dq_A ad w sz)) (dq_A ad w sz)) 0 0 (dq_A ad w sz) := by
  refine dq_ofi (cc := cDH_mirror) (maxL := 2) (by decide) rfl (Nat.le_of_ble_eq_true rfl) ?_
  intro p e s m below meth c A Q ls ⟨hx, hb, hml, hown, hts⟩ hnm hA hW hK hZ hl hret
  have hS : va_S A s.heap s.heap [] := va_S.rf
  have hl : lv_has ls 2 [(0, .ref (ad 0)), (1, .int 1)] := hl
  have hf30 := hts _ (List.mem_cons_of_mem _ tw1_215)
  have hf92 := hts _ (List.mem_cons_of_mem _ tw1_222)
  have hf96 := hts _ (List.mem_cons_of_mem _ tw1_89)
  have hf120 := hts _ (List.mem_cons_of_mem _ tw1_77)
  have hf123 := hts _ (List.mem_cons_of_mem _ tw1_80)
  have hinDH : ∀ w ∈ u_ws RDH TDH 9, w ∈ wsDH_mirror := fun w h => List.mem_cons_of_mem _ (inDH w h)
  have hinPt : ∀ w ∈ u_ws RPt TPt 7, w ∈ wsDH_mirror := fun w h => List.mem_cons_of_mem _ (inPt w h)
  refine lv_iload_n hx hb dDH_mirror_0 rfl (lv_at hl 1 rfl) ?_
  refine lv_iconst (v := (0)) hx hb dDH_mirror_1 (by decide) ?_
  refine lv_iconst (v := (1)) hx hb dDH_mirror_2 (by decide) ?_
  refine va_csv (W.runS (As := [.int 1, .int (0), .int (1)]) (rest := []) ⟨hx, hb, hml, hown, hts⟩ (c_within l D g ad (w) _ 1 0 1  (by decide)) (cwS 3 hts (dq_giS2 tw2_199 tw2_200 tw1_1 tw2_201) rfl rfl rfl (by decide +kernel) ⟨Nat.le_of_ble_eq_true rfl, Nat.le_of_ble_eq_true rfl⟩) (dq_preS hW hS hA hK hZ) rfl rfl hl.1 rfl (lv_room (Nat.le_of_ble_eq_true rfl)) dDH_mirror_3 ⟨Nat.zero_le _, Nat.zero_le _⟩) (fun _ => ?_)
  refine lv_iload_n hx hb dDH_mirror_6 rfl (lv_at hl 1 rfl) ?_
  refine lv_if_ne (tgt := 20) hx hb dDH_mirror_7 (by decide) (fun c1 => ?_) (fun c1 => ?_)
  · refine lv_aload_n hx hb dDH_mirror_20 rfl (lv_at hl 0 rfl) ?_
    refine dq_get (D := D) (ci := 7) (v := .ref (ad 5)) (C := RDH) (T := TDH) (N := 9) hx hb hts hinDH hown hK hW 0 o0 rfl 1 (by decide) hf30 (fun _ h9 => h9) rfl dDH_mirror_21 ?_
    refine dq_get (D := D) (ci := 3) (v := .ref (ad 7)) (C := RPt) (T := TPt) (N := 7) hx hb hts hinPt hown hK hW 5 p5 rfl 1 (by decide) hf123 (fun _ h9 => h9) rfl dDH_mirror_24 ?_
    refine lv_aload_n hx hb dDH_mirror_27 rfl (lv_at hl 0 rfl) ?_
    refine dq_get (D := D) (ci := 7) (v := .ref (ad 5)) (C := RDH) (T := TDH) (N := 9) hx hb hts hinDH hown hK hW 0 o0 rfl 1 (by decide) hf30 (fun _ h9 => h9) rfl dDH_mirror_28 ?_
    refine dq_get (D := D) (ci := 3) (v := .int (nI pc_)) (C := RPt) (T := TPt) (N := 7) hx hb hts hinPt hown hK hW 5 p5 rfl 6 (by decide) hf96 (fun _ h9 => h9) rfl dDH_mirror_31 ?_
    refine dq_callv (va_runS (As := [.ref (ad 7), .int (nI pc_)]) (rest := []) ⟨hx, hb, hml, hown, hts⟩ (c_negate l D g ad (w) _ 7 pc_ py p7 hpc) (cwS 2 hts (dq_giS2 tw3_46 tw3_47 tw1_1 tw3_48) rfl rfl rfl (by decide +kernel) ⟨Nat.le_of_ble_eq_true rfl, Nat.le_of_ble_eq_true rfl⟩) (dq_preS hW hS hA hK hZ) rfl rfl hl.1 rfl (lv_room (Nat.le_of_ble_eq_true rfl)) dDH_mirror_34 ⟨Nat.zero_le _, Nat.zero_le _⟩) hW hS hA (fun u_9 H locs hp1 hW hS hz9 => ?_)
    rw [hp1] at hW
    refine lv_aload_n hx hb dDH_mirror_37 rfl (lv_at hl 0 rfl) ?_
    refine dq_get (D := D) (ci := 7) (v := .ref (ad 5)) (C := RDH) (T := TDH) (N := 9) hx hb hts hinDH hown hK hW 0 ((dq_Un (by decide)).trans o0) rfl 1 (by decide) hf30 (fun _ h9 => h9) rfl dDH_mirror_38 ?_
    refine dq_get (D := D) (ci := 3) (v := .int (nI pc_)) (C := RPt) (T := TPt) (N := 7) hx hb hts hinPt hown hK hW 5 ((dq_Un (by decide)).trans p5) rfl 6 (by decide) hf96 (fun _ h9 => h9) rfl dDH_mirror_41 ?_
    refine lv_if_le (tgt := 52) hx hb dDH_mirror_44 (by decide) (fun c2 => ?_) (fun c2 => ?_)
    · exact absurd ((nI_leI (b := 0) (by omega) (by omega)).mp c2) (by omega)
    · refine lv_aload_n hx hb dDH_mirror_47 rfl (lv_at hl 0 rfl) ?_
      refine lv_iconst (v := (0)) hx hb dDH_mirror_48 (by decide) ?_
      refine dq_put (D := D) (ci := 7) (v := .int (0)) (ty := .boolean) (C := RDH) (T := TDH) (N := 9) hx hb hts hinDH tyDH tyDH_ok nmDH hown hK hW hS 0 ((dq_Un (by decide)).trans o0) rfl 8 (by decide) hf92 (fun _ h9 => h9) rfl (by decide +kernel) rfl rfl (Nat.le_of_ble_eq_true rfl) dDH_mirror_49 (fun H locs hW hS => ?_)
      refine lv_aload_n hx hb dDH_mirror_52 rfl (lv_at hl 0 rfl) ?_
      refine dq_get (D := D) (ci := 7) (v := .ref (ad 5)) (C := RDH) (T := TDH) (N := 9) hx hb hts hinDH hown hK hW 0 dq_Us rfl 1 (by decide) hf30 (fun _ h9 => h9) rfl dDH_mirror_53 ?_
      refine dq_get (D := D) (ci := 3) (v := .int (nI pc_)) (C := RPt) (T := TPt) (N := 7) hx hb hts hinPt hown hK hW 5 ((dq_Un (by decide)).trans ((dq_Un (by decide)).trans p5)) rfl 6 (by decide) hf96 (fun _ h9 => h9) rfl dDH_mirror_56 ?_
      exact hret _ _ _ _ _ _ ⟨rfl, rfl⟩ hW hS dDH_mirror_59
  · exact absurd c1 (by decide)
