theorem dq_Umv {w : Nat → Option va_E} {a b : Nat} {x y z : va_E} (h : a ≠ b) : dq_U (dq_U (dq_U w a x) b y) a z = dq_U (dq_U w b y) a z := by
  funext j
  by_cases h1 : j = a
  · simp [dq_U, h1]
  · by_cases h2 : j = b
    · subst h2; simp [dq_U, h1]
    · simp [dq_U, h1, h2]
set_option maxHeartbeats 4000000 in
set_option maxRecDepth 100000 in
/-- Hd_init -/
theorem k_Head (l : Launch) (D : va_G) (g : Nat → ClassId) (ad : Nat → Nat) (w : Nat → Option va_E) (sz : Nat) (n : Nat) (o9 : w 1 = some (.inr (1, [.null, .null, .null, .int 0, .int 0, .int 0, .int 0]))) (hn : n ≤ 16) : Met l yHd_init wsHd_init ({ frames := 1, cells := 3, slots := 48, locals := 24 } : Room) (va_Pc [.ref (ad 1), .int (nI n)] (dq_S D vwCl (dq_t g) ad w sz)) (va_Qv (fun u => (∀ j, (j < 2 ∨ 4 < j) → u.1 j = ad j) ∧ (∀ j, (j < 1 ∨ 4 < j) → u.2 j = w j) ∧ u.2 1 = some (.inr (1, [.ref (u.1 2), .ref (u.1 3), .ref (u.1 4), .int 0, .int 0, .int 0, .int 0])) ∧ u.2 2 = some (.inl (g 0, n, .inl (fun _ => 0))) ∧ u.2 3 = some (.inl (g 0, n, .inl (fun _ => 0))) ∧ u.2 4 = some (.inl (g 0, n, .inl (fun _ => 0)))) (dq_B2 D vwCl (dq_t g) (dq_A ad w sz)) (dq_A ad w sz)) 3 48 (dq_A ad w sz) := by
  refine dq_ofv2 (cc := cHd_init) (maxL := 2) (by decide) rfl (Nat.le_of_ble_eq_true rfl) ?_
  intro p e s m below meth c A Q ls ⟨hx, hb, hml, hown, hts⟩ hnm hA hW hK hZ hl hret
  have hS : va_S A s.heap s.heap [] := va_S.rf
  have hl : lv_has ls 2 [(0, .ref (ad 1)), (1, .int (nI n))] := hl
  have hf9 := hts _ (List.mem_cons_of_mem _ tw1_38)
  have hf15 := hts _ (List.mem_cons_of_mem _ tw1_40)
  have hf18 := hts _ (List.mem_cons_of_mem _ tw1_42)
  have hinHd : ∀ w ∈ u_ws RHd THd 7, w ∈ wsHd_init := fun w h => List.mem_cons_of_mem _ (inHd w h)
  refine lv_aload_n hx hb dHd_init_0 rfl (lv_at hl 0 rfl) ?_
  refine W.objInit hx hb hown (hts _ (List.mem_cons_of_mem _ tw1_37)) (hts _ (List.mem_cons_of_mem _ tw1_24)) (hts _ (List.mem_cons_of_mem _ tw1_25)) (g := F0 m 1 ls (.ref _ :: [])) rfl (hl.1.trans hml.symm) rfl dHd_init_1 (Nat.le_of_ble_eq_true rfl) (Nat.le_of_ble_eq_true rfl) ?_
  refine lv_aload_n hx hb dHd_init_4 rfl (lv_at hl 0 rfl) ?_
  refine lv_iload_n hx hb dHd_init_5 rfl (lv_at hl 1 rfl) ?_
  refine dq_newi (N := n) hx hb (hts _ (List.mem_cons_of_mem _ tw1_68)) hK hW hS hA 2 0 rfl (nI_pos (by omega)) (nI_clamp (by omega)) (by omega) (by simp only []; omega) (by simp only []; omega) dHd_init_6 (fun q2 H hW hS => ?_)
  refine dq_putF (D := D) (ci := 1) (v := .ref q2) (ty := (.array .int)) (C := RHd) (T := THd) (N := 7) hx hb hts hinHd tyHd tyHd_ok nmHd hown hK hW hS 1 ((dq_Un (by decide)).trans o9) rfl 0 (by decide) hf9 (fun _ h9 => h9) rfl hnm rfl (by decide +kernel) rfl rfl (Nat.le_of_ble_eq_true rfl) dHd_init_8 (fun H locs hW hS => ?_)
  refine lv_aload_n hx hb dHd_init_11 rfl (lv_at hl 0 rfl) ?_
  refine lv_iload_n hx hb dHd_init_12 rfl (lv_at hl 1 rfl) ?_
  refine dq_newi (N := n) hx hb (hts _ (List.mem_cons_of_mem _ tw1_68)) hK hW hS hA 3 0 rfl (nI_pos (by omega)) (nI_clamp (by omega)) (by omega) (by simp only []; omega) (by simp only []; omega) dHd_init_13 (fun q3 H hW hS => ?_)
  refine dq_putF (D := D) (ci := 1) (v := .ref q3) (ty := (.array .int)) (C := RHd) (T := THd) (N := 7) hx hb hts hinHd tyHd tyHd_ok nmHd hown hK hW hS 1 ((dq_Un (by decide)).trans dq_Us) rfl 1 (by decide) hf15 (fun _ h9 => h9) rfl hnm rfl (by decide +kernel) rfl rfl (Nat.le_of_ble_eq_true rfl) dHd_init_15 (fun H locs hW hS => ?_)
  rw [dq_Umv (by decide)] at hW
  refine lv_aload_n hx hb dHd_init_18 rfl (lv_at hl 0 rfl) ?_
  refine lv_iload_n hx hb dHd_init_19 rfl (lv_at hl 1 rfl) ?_
  refine dq_newi (N := n) hx hb (hts _ (List.mem_cons_of_mem _ tw1_68)) hK hW hS hA 4 0 rfl (nI_pos (by omega)) (nI_clamp (by omega)) (by omega) (by simp only []; omega) (by simp only []; omega) dHd_init_20 (fun q4 H hW hS => ?_)
  refine dq_putF (D := D) (ci := 1) (v := .ref q4) (ty := (.array .int)) (C := RHd) (T := THd) (N := 7) hx hb hts hinHd tyHd tyHd_ok nmHd hown hK hW hS 1 ((dq_Un (by decide)).trans dq_Us) rfl 2 (by decide) hf18 (fun _ h9 => h9) rfl hnm rfl (by decide +kernel) rfl rfl (Nat.le_of_ble_eq_true rfl) dHd_init_22 (fun H locs hW hS => ?_)
  rw [dq_Umv (by decide)] at hW
  refine W.widen (k := 3) (n := 48) (by omega) (by omega) ?_
  exact hret ((va_up (va_up (va_up ad 2 q2) 3 q3) 4 q4), dq_U (dq_U (dq_U (dq_U w 2 (.inl (g 0, n, .inl (fun _ => 0)))) 3 (.inl (g 0, n, .inl (fun _ => 0)))) 4 (.inl (g 0, n, .inl (fun _ => 0)))) 1 (.inr (1, [.ref q2, .ref q3, .ref q4, .int 0, .int 0, .int 0, .int 0]))) _ _ _ _ ⟨fun j hj => by show (va_up (va_up (va_up ad 2 q2) 3 q3) 4 q4) j = _; rw [va_up_ne _ _ (by omega), va_up_ne _ _ (by omega), va_up_ne _ _ (by omega)], fun j hj => by show (dq_U (dq_U (dq_U (dq_U w 2 (.inl (g 0, n, .inl (fun _ => 0)))) 3 (.inl (g 0, n, .inl (fun _ => 0)))) 4 (.inl (g 0, n, .inl (fun _ => 0)))) 1 (.inr (1, [.ref q2, .ref q3, .ref q4, .int 0, .int 0, .int 0, .int 0]))) j = _; rw [dq_Un (by omega), dq_Un (by omega), dq_Un (by omega), dq_Un (by omega)], by show (dq_U (dq_U (dq_U (dq_U w 2 (.inl (g 0, n, .inl (fun _ => 0)))) 3 (.inl (g 0, n, .inl (fun _ => 0)))) 4 (.inl (g 0, n, .inl (fun _ => 0)))) 1 (.inr (1, [.ref q2, .ref q3, .ref q4, .int 0, .int 0, .int 0, .int 0]))) 1 = _; exact dq_Us, by show (dq_U (dq_U (dq_U (dq_U w 2 (.inl (g 0, n, .inl (fun _ => 0)))) 3 (.inl (g 0, n, .inl (fun _ => 0)))) 4 (.inl (g 0, n, .inl (fun _ => 0)))) 1 (.inr (1, [.ref q2, .ref q3, .ref q4, .int 0, .int 0, .int 0, .int 0]))) 2 = _; exact ((dq_Un (by decide)).trans ((dq_Un (by decide)).trans ((dq_Un (by decide)).trans dq_Us))), by show (dq_U (dq_U (dq_U (dq_U w 2 (.inl (g 0, n, .inl (fun _ => 0)))) 3 (.inl (g 0, n, .inl (fun _ => 0)))) 4 (.inl (g 0, n, .inl (fun _ => 0)))) 1 (.inr (1, [.ref q2, .ref q3, .ref q4, .int 0, .int 0, .int 0, .int 0]))) 3 = _; exact ((dq_Un (by decide)).trans ((dq_Un (by decide)).trans dq_Us)), by show (dq_U (dq_U (dq_U (dq_U w 2 (.inl (g 0, n, .inl (fun _ => 0)))) 3 (.inl (g 0, n, .inl (fun _ => 0)))) 4 (.inl (g 0, n, .inl (fun _ => 0)))) 1 (.inr (1, [.ref q2, .ref q3, .ref q4, .int 0, .int 0, .int 0, .int 0]))) 4 = _; exact ((dq_Un (by decide)).trans dq_Us)⟩ hW hS dHd_init_25

set_option maxHeartbeats 4000000 in
set_option maxRecDepth 100000 in
/-- Pt_init -/
theorem k_Part (l : Launch) (D : va_G) (g : Nat → ClassId) (ad : Nat → Nat) (w : Nat → Option va_E) (sz : Nat)  (o9 : w 5 = some (.inr (3, [.null, .null, .null, .null, .null, .null, .int 0])))  : Met l yPt_init wsPt_init ({ frames := 1, cells := 6, slots := 84, locals := 24 } : Room) (va_Pc [.ref (ad 5)] (dq_S D vwCl (dq_t g) ad w sz)) (va_Qv (fun u => (∀ j, (j < 6 ∨ 11 < j) → u.1 j = ad j) ∧ (∀ j, (j < 5 ∨ 11 < j) → u.2 j = w j) ∧ u.2 5 = some (.inr (3, [.ref (u.1 6), .ref (u.1 7), .ref (u.1 8), .ref (u.1 9), .ref (u.1 10), .ref (u.1 11), .int 0])) ∧ u.2 6 = some (.inl (g 0, 14, .inl (fun _ => 0))) ∧ u.2 7 = some (.inl (g 0, 14, .inl (fun _ => 0))) ∧ u.2 8 = some (.inl (g 0, 14, .inl (fun _ => 0))) ∧ u.2 9 = some (.inl (g 0, 14, .inl (fun _ => 0))) ∧ u.2 10 = some (.inl (g 0, 14, .inl (fun _ => 0))) ∧ u.2 11 = some (.inl (g 1, 14, .inl (fun _ => 0)))) (dq_B2 D vwCl (dq_t g) (dq_A ad w sz)) (dq_A ad w sz)) 6 84 (dq_A ad w sz) := by
  refine dq_ofv2 (cc := cPt_init) (maxL := 1) (by decide) rfl (Nat.le_of_ble_eq_true rfl) ?_
  intro p e s m below meth c A Q ls ⟨hx, hb, hml, hown, hts⟩ hnm hA hW hK hZ hl hret
  have hS : va_S A s.heap s.heap [] := va_S.rf
  have hl : lv_has ls 1 [(0, .ref (ad 5))] := hl
  have hf9 := hts _ (List.mem_cons_of_mem _ tw1_75)
  have hf15 := hts _ (List.mem_cons_of_mem _ tw1_78)
  have hf18 := hts _ (List.mem_cons_of_mem _ tw1_81)
  have hf21 := hts _ (List.mem_cons_of_mem _ tw1_83)
  have hf24 := hts _ (List.mem_cons_of_mem _ tw1_84)
  have hf27 := hts _ (List.mem_cons_of_mem _ tw1_86)
  have hinPt : ∀ w ∈ u_ws RPt TPt 7, w ∈ wsPt_init := fun w h => List.mem_cons_of_mem _ (inPt w h)
  refine lv_aload_n hx hb dPt_init_0 rfl (lv_at hl 0 rfl) ?_
  refine W.objInit hx hb hown (hts _ (List.mem_cons_of_mem _ tw1_74)) (hts _ (List.mem_cons_of_mem _ tw1_24)) (hts _ (List.mem_cons_of_mem _ tw1_25)) (g := F0 m 1 ls (.ref _ :: [])) rfl (hl.1.trans hml.symm) rfl dPt_init_1 (Nat.le_of_ble_eq_true rfl) (Nat.le_of_ble_eq_true rfl) ?_
  refine lv_aload_n hx hb dPt_init_4 rfl (lv_at hl 0 rfl) ?_
  refine lv_bipush (v := (14)) hx hb dPt_init_5 (by decide) ?_
  refine dq_newi (N := 14) hx hb (hts _ (List.mem_cons_of_mem _ tw1_68)) hK hW hS hA 6 0 rfl (by decide) (by decide) (by decide) (by simp only []; omega) (by simp only []; omega) dPt_init_7 (fun q6 H hW hS => ?_)
  refine dq_putF (D := D) (ci := 3) (v := .ref q6) (ty := (.array .int)) (C := RPt) (T := TPt) (N := 7) hx hb hts hinPt tyPt tyPt_ok nmPt hown hK hW hS 5 ((dq_Un (by decide)).trans o9) rfl 0 (by decide) hf9 (fun _ h9 => h9) rfl hnm rfl (by decide +kernel) rfl rfl (Nat.le_of_ble_eq_true rfl) dPt_init_9 (fun H locs hW hS => ?_)
  refine lv_aload_n hx hb dPt_init_12 rfl (lv_at hl 0 rfl) ?_
  refine lv_bipush (v := (14)) hx hb dPt_init_13 (by decide) ?_
  refine dq_newi (N := 14) hx hb (hts _ (List.mem_cons_of_mem _ tw1_68)) hK hW hS hA 7 0 rfl (by decide) (by decide) (by decide) (by simp only []; omega) (by simp only []; omega) dPt_init_15 (fun q7 H hW hS => ?_)
  refine dq_putF (D := D) (ci := 3) (v := .ref q7) (ty := (.array .int)) (C := RPt) (T := TPt) (N := 7) hx hb hts hinPt tyPt tyPt_ok nmPt hown hK hW hS 5 ((dq_Un (by decide)).trans dq_Us) rfl 1 (by decide) hf15 (fun _ h9 => h9) rfl hnm rfl (by decide +kernel) rfl rfl (Nat.le_of_ble_eq_true rfl) dPt_init_17 (fun H locs hW hS => ?_)
  rw [dq_Umv (by decide)] at hW
  refine lv_aload_n hx hb dPt_init_20 rfl (lv_at hl 0 rfl) ?_
  refine lv_bipush (v := (14)) hx hb dPt_init_21 (by decide) ?_
  refine dq_newi (N := 14) hx hb (hts _ (List.mem_cons_of_mem _ tw1_68)) hK hW hS hA 8 0 rfl (by decide) (by decide) (by decide) (by simp only []; omega) (by simp only []; omega) dPt_init_23 (fun q8 H hW hS => ?_)
  refine dq_putF (D := D) (ci := 3) (v := .ref q8) (ty := (.array .int)) (C := RPt) (T := TPt) (N := 7) hx hb hts hinPt tyPt tyPt_ok nmPt hown hK hW hS 5 ((dq_Un (by decide)).trans dq_Us) rfl 2 (by decide) hf18 (fun _ h9 => h9) rfl hnm rfl (by decide +kernel) rfl rfl (Nat.le_of_ble_eq_true rfl) dPt_init_25 (fun H locs hW hS => ?_)
  rw [dq_Umv (by decide)] at hW
  refine lv_aload_n hx hb dPt_init_28 rfl (lv_at hl 0 rfl) ?_
  refine lv_bipush (v := (14)) hx hb dPt_init_29 (by decide) ?_
  refine dq_newi (N := 14) hx hb (hts _ (List.mem_cons_of_mem _ tw1_68)) hK hW hS hA 9 0 rfl (by decide) (by decide) (by decide) (by simp only []; omega) (by simp only []; omega) dPt_init_31 (fun q9 H hW hS => ?_)
  refine dq_putF (D := D) (ci := 3) (v := .ref q9) (ty := (.array .int)) (C := RPt) (T := TPt) (N := 7) hx hb hts hinPt tyPt tyPt_ok nmPt hown hK hW hS 5 ((dq_Un (by decide)).trans dq_Us) rfl 3 (by decide) hf21 (fun _ h9 => h9) rfl hnm rfl (by decide +kernel) rfl rfl (Nat.le_of_ble_eq_true rfl) dPt_init_33 (fun H locs hW hS => ?_)
  rw [dq_Umv (by decide)] at hW
  refine lv_aload_n hx hb dPt_init_36 rfl (lv_at hl 0 rfl) ?_
  refine lv_bipush (v := (14)) hx hb dPt_init_37 (by decide) ?_
  refine dq_newi (N := 14) hx hb (hts _ (List.mem_cons_of_mem _ tw1_68)) hK hW hS hA 10 0 rfl (by decide) (by decide) (by decide) (by simp only []; omega) (by simp only []; omega) dPt_init_39 (fun q10 H hW hS => ?_)
  refine dq_putF (D := D) (ci := 3) (v := .ref q10) (ty := (.array .int)) (C := RPt) (T := TPt) (N := 7) hx hb hts hinPt tyPt tyPt_ok nmPt hown hK hW hS 5 ((dq_Un (by decide)).trans dq_Us) rfl 4 (by decide) hf24 (fun _ h9 => h9) rfl hnm rfl (by decide +kernel) rfl rfl (Nat.le_of_ble_eq_true rfl) dPt_init_41 (fun H locs hW hS => ?_)
  rw [dq_Umv (by decide)] at hW
  refine lv_aload_n hx hb dPt_init_44 rfl (lv_at hl 0 rfl) ?_
  refine lv_bipush (v := (14)) hx hb dPt_init_45 (by decide) ?_
  refine dq_newz (N := 14) hx hb (hts _ (List.mem_cons_of_mem _ tw1_106)) hK hW hS hA 11 1 rfl (by decide) (by decide) (by decide) (by simp only []; omega) (by simp only []; omega) dPt_init_47 (fun q11 H hW hS => ?_)
  refine dq_putF (D := D) (ci := 3) (v := .ref q11) (ty := (.array .boolean)) (C := RPt) (T := TPt) (N := 7) hx hb hts hinPt tyPt tyPt_ok nmPt hown hK hW hS 5 ((dq_Un (by decide)).trans dq_Us) rfl 5 (by decide) hf27 (fun _ h9 => h9) rfl hnm rfl (by decide +kernel) rfl rfl (Nat.le_of_ble_eq_true rfl) dPt_init_49 (fun H locs hW hS => ?_)
  rw [dq_Umv (by decide)] at hW
  refine W.widen (k := 6) (n := 84) (by omega) (by omega) ?_
  exact hret ((va_up (va_up (va_up (va_up (va_up (va_up ad 6 q6) 7 q7) 8 q8) 9 q9) 10 q10) 11 q11), dq_U (dq_U (dq_U (dq_U (dq_U (dq_U (dq_U w 6 (.inl (g 0, 14, .inl (fun _ => 0)))) 7 (.inl (g 0, 14, .inl (fun _ => 0)))) 8 (.inl (g 0, 14, .inl (fun _ => 0)))) 9 (.inl (g 0, 14, .inl (fun _ => 0)))) 10 (.inl (g 0, 14, .inl (fun _ => 0)))) 11 (.inl (g 1, 14, .inl (fun _ => 0)))) 5 (.inr (3, [.ref q6, .ref q7, .ref q8, .ref q9, .ref q10, .ref q11, .int 0]))) _ _ _ _ ⟨fun j hj => by show (va_up (va_up (va_up (va_up (va_up (va_up ad 6 q6) 7 q7) 8 q8) 9 q9) 10 q10) 11 q11) j = _; rw [va_up_ne _ _ (by omega), va_up_ne _ _ (by omega), va_up_ne _ _ (by omega), va_up_ne _ _ (by omega), va_up_ne _ _ (by omega), va_up_ne _ _ (by omega)], fun j hj => by show (dq_U (dq_U (dq_U (dq_U (dq_U (dq_U (dq_U w 6 (.inl (g 0, 14, .inl (fun _ => 0)))) 7 (.inl (g 0, 14, .inl (fun _ => 0)))) 8 (.inl (g 0, 14, .inl (fun _ => 0)))) 9 (.inl (g 0, 14, .inl (fun _ => 0)))) 10 (.inl (g 0, 14, .inl (fun _ => 0)))) 11 (.inl (g 1, 14, .inl (fun _ => 0)))) 5 (.inr (3, [.ref q6, .ref q7, .ref q8, .ref q9, .ref q10, .ref q11, .int 0]))) j = _; rw [dq_Un (by omega), dq_Un (by omega), dq_Un (by omega), dq_Un (by omega), dq_Un (by omega), dq_Un (by omega), dq_Un (by omega)], by show (dq_U (dq_U (dq_U (dq_U (dq_U (dq_U (dq_U w 6 (.inl (g 0, 14, .inl (fun _ => 0)))) 7 (.inl (g 0, 14, .inl (fun _ => 0)))) 8 (.inl (g 0, 14, .inl (fun _ => 0)))) 9 (.inl (g 0, 14, .inl (fun _ => 0)))) 10 (.inl (g 0, 14, .inl (fun _ => 0)))) 11 (.inl (g 1, 14, .inl (fun _ => 0)))) 5 (.inr (3, [.ref q6, .ref q7, .ref q8, .ref q9, .ref q10, .ref q11, .int 0]))) 5 = _; exact dq_Us, by show (dq_U (dq_U (dq_U (dq_U (dq_U (dq_U (dq_U w 6 (.inl (g 0, 14, .inl (fun _ => 0)))) 7 (.inl (g 0, 14, .inl (fun _ => 0)))) 8 (.inl (g 0, 14, .inl (fun _ => 0)))) 9 (.inl (g 0, 14, .inl (fun _ => 0)))) 10 (.inl (g 0, 14, .inl (fun _ => 0)))) 11 (.inl (g 1, 14, .inl (fun _ => 0)))) 5 (.inr (3, [.ref q6, .ref q7, .ref q8, .ref q9, .ref q10, .ref q11, .int 0]))) 6 = _; exact ((dq_Un (by decide)).trans ((dq_Un (by decide)).trans ((dq_Un (by decide)).trans ((dq_Un (by decide)).trans ((dq_Un (by decide)).trans ((dq_Un (by decide)).trans dq_Us)))))), by show (dq_U (dq_U (dq_U (dq_U (dq_U (dq_U (dq_U w 6 (.inl (g 0, 14, .inl (fun _ => 0)))) 7 (.inl (g 0, 14, .inl (fun _ => 0)))) 8 (.inl (g 0, 14, .inl (fun _ => 0)))) 9 (.inl (g 0, 14, .inl (fun _ => 0)))) 10 (.inl (g 0, 14, .inl (fun _ => 0)))) 11 (.inl (g 1, 14, .inl (fun _ => 0)))) 5 (.inr (3, [.ref q6, .ref q7, .ref q8, .ref q9, .ref q10, .ref q11, .int 0]))) 7 = _; exact ((dq_Un (by decide)).trans ((dq_Un (by decide)).trans ((dq_Un (by decide)).trans ((dq_Un (by decide)).trans ((dq_Un (by decide)).trans dq_Us))))), by show (dq_U (dq_U (dq_U (dq_U (dq_U (dq_U (dq_U w 6 (.inl (g 0, 14, .inl (fun _ => 0)))) 7 (.inl (g 0, 14, .inl (fun _ => 0)))) 8 (.inl (g 0, 14, .inl (fun _ => 0)))) 9 (.inl (g 0, 14, .inl (fun _ => 0)))) 10 (.inl (g 0, 14, .inl (fun _ => 0)))) 11 (.inl (g 1, 14, .inl (fun _ => 0)))) 5 (.inr (3, [.ref q6, .ref q7, .ref q8, .ref q9, .ref q10, .ref q11, .int 0]))) 8 = _; exact ((dq_Un (by decide)).trans ((dq_Un (by decide)).trans ((dq_Un (by decide)).trans ((dq_Un (by decide)).trans dq_Us)))), by show (dq_U (dq_U (dq_U (dq_U (dq_U (dq_U (dq_U w 6 (.inl (g 0, 14, .inl (fun _ => 0)))) 7 (.inl (g 0, 14, .inl (fun _ => 0)))) 8 (.inl (g 0, 14, .inl (fun _ => 0)))) 9 (.inl (g 0, 14, .inl (fun _ => 0)))) 10 (.inl (g 0, 14, .inl (fun _ => 0)))) 11 (.inl (g 1, 14, .inl (fun _ => 0)))) 5 (.inr (3, [.ref q6, .ref q7, .ref q8, .ref q9, .ref q10, .ref q11, .int 0]))) 9 = _; exact ((dq_Un (by decide)).trans ((dq_Un (by decide)).trans ((dq_Un (by decide)).trans dq_Us))), by show (dq_U (dq_U (dq_U (dq_U (dq_U (dq_U (dq_U w 6 (.inl (g 0, 14, .inl (fun _ => 0)))) 7 (.inl (g 0, 14, .inl (fun _ => 0)))) 8 (.inl (g 0, 14, .inl (fun _ => 0)))) 9 (.inl (g 0, 14, .inl (fun _ => 0)))) 10 (.inl (g 0, 14, .inl (fun _ => 0)))) 11 (.inl (g 1, 14, .inl (fun _ => 0)))) 5 (.inr (3, [.ref q6, .ref q7, .ref q8, .ref q9, .ref q10, .ref q11, .int 0]))) 10 = _; exact ((dq_Un (by decide)).trans ((dq_Un (by decide)).trans dq_Us)), by show (dq_U (dq_U (dq_U (dq_U (dq_U (dq_U (dq_U w 6 (.inl (g 0, 14, .inl (fun _ => 0)))) 7 (.inl (g 0, 14, .inl (fun _ => 0)))) 8 (.inl (g 0, 14, .inl (fun _ => 0)))) 9 (.inl (g 0, 14, .inl (fun _ => 0)))) 10 (.inl (g 0, 14, .inl (fun _ => 0)))) 11 (.inl (g 1, 14, .inl (fun _ => 0)))) 5 (.inr (3, [.ref q6, .ref q7, .ref q8, .ref q9, .ref q10, .ref q11, .int 0]))) 11 = _; exact ((dq_Un (by decide)).trans dq_Us)⟩ hW hS dPt_init_52

set_option maxHeartbeats 4000000 in
set_option maxRecDepth 100000 in
/-- Cl_init -/
theorem k_Clamps (l : Launch) (D : va_G) (g : Nat → ClassId) (ad : Nat → Nat) (w : Nat → Option va_E) (sz : Nat)  (o9 : w 12 = some (.inr (0, [.null, .null, .null, .null, .int 0])))  : Met l yCl_init wsCl_init ({ frames := 1, cells := 4, slots := 24, locals := 24 } : Room) (va_Pc [.ref (ad 12)] (dq_S D vwCl (dq_t g) ad w sz)) (va_Qv (fun u => (∀ j, (j < 13 ∨ 16 < j) → u.1 j = ad j) ∧ (∀ j, (j < 12 ∨ 16 < j) → u.2 j = w j) ∧ u.2 12 = some (.inr (0, [.ref (u.1 13), .ref (u.1 14), .ref (u.1 15), .ref (u.1 16), .int 0])) ∧ u.2 13 = some (.inl (g 0, 6, .inl (fun _ => 0))) ∧ u.2 14 = some (.inl (g 0, 6, .inl (fun _ => 0))) ∧ u.2 15 = some (.inl (g 0, 6, .inl (fun _ => 0))) ∧ u.2 16 = some (.inl (g 0, 6, .inl (fun _ => 0)))) (dq_B2 D vwCl (dq_t g) (dq_A ad w sz)) (dq_A ad w sz)) 4 24 (dq_A ad w sz) := by
  refine dq_ofv2 (cc := cCl_init) (maxL := 1) (by decide) rfl (Nat.le_of_ble_eq_true rfl) ?_
  intro p e s m below meth c A Q ls ⟨hx, hb, hml, hown, hts⟩ hnm hA hW hK hZ hl hret
  have hS : va_S A s.heap s.heap [] := va_S.rf
  have hl : lv_has ls 1 [(0, .ref (ad 12))] := hl
  have hf9 := hts _ (List.mem_cons_of_mem _ tw1_113)
  have hf15 := hts _ (List.mem_cons_of_mem _ tw1_114)
  have hf18 := hts _ (List.mem_cons_of_mem _ tw1_115)
  have hf21 := hts _ (List.mem_cons_of_mem _ tw1_116)
  have hinCl : ∀ w ∈ u_ws RCl TCl 5, w ∈ wsCl_init := fun w h => List.mem_cons_of_mem _ (inCl w h)
  refine lv_aload_n hx hb dCl_init_0 rfl (lv_at hl 0 rfl) ?_
  refine W.objInit hx hb hown (hts _ (List.mem_cons_of_mem _ tw1_112)) (hts _ (List.mem_cons_of_mem _ tw1_24)) (hts _ (List.mem_cons_of_mem _ tw1_25)) (g := F0 m 1 ls (.ref _ :: [])) rfl (hl.1.trans hml.symm) rfl dCl_init_1 (Nat.le_of_ble_eq_true rfl) (Nat.le_of_ble_eq_true rfl) ?_
  refine lv_aload_n hx hb dCl_init_4 rfl (lv_at hl 0 rfl) ?_
  refine lv_bipush (v := (6)) hx hb dCl_init_5 (by decide) ?_
  refine dq_newi (N := 6) hx hb (hts _ (List.mem_cons_of_mem _ tw1_68)) hK hW hS hA 13 0 rfl (by decide) (by decide) (by decide) (by simp only []; omega) (by simp only []; omega) dCl_init_7 (fun q13 H hW hS => ?_)
  refine dq_putF (D := D) (ci := 0) (v := .ref q13) (ty := (.array .int)) (C := RCl) (T := TCl) (N := 5) hx hb hts hinCl tyCl tyCl_ok nmCl hown hK hW hS 12 ((dq_Un (by decide)).trans o9) rfl 0 (by decide) hf9 (fun _ h9 => h9) rfl hnm rfl (by decide +kernel) rfl rfl (Nat.le_of_ble_eq_true rfl) dCl_init_9 (fun H locs hW hS => ?_)
  refine lv_aload_n hx hb dCl_init_12 rfl (lv_at hl 0 rfl) ?_
  refine lv_bipush (v := (6)) hx hb dCl_init_13 (by decide) ?_
  refine dq_newi (N := 6) hx hb (hts _ (List.mem_cons_of_mem _ tw1_68)) hK hW hS hA 14 0 rfl (by decide) (by decide) (by decide) (by simp only []; omega) (by simp only []; omega) dCl_init_15 (fun q14 H hW hS => ?_)
  refine dq_putF (D := D) (ci := 0) (v := .ref q14) (ty := (.array .int)) (C := RCl) (T := TCl) (N := 5) hx hb hts hinCl tyCl tyCl_ok nmCl hown hK hW hS 12 ((dq_Un (by decide)).trans dq_Us) rfl 1 (by decide) hf15 (fun _ h9 => h9) rfl hnm rfl (by decide +kernel) rfl rfl (Nat.le_of_ble_eq_true rfl) dCl_init_17 (fun H locs hW hS => ?_)
  rw [dq_Umv (by decide)] at hW
  refine lv_aload_n hx hb dCl_init_20 rfl (lv_at hl 0 rfl) ?_
  refine lv_bipush (v := (6)) hx hb dCl_init_21 (by decide) ?_
  refine dq_newi (N := 6) hx hb (hts _ (List.mem_cons_of_mem _ tw1_68)) hK hW hS hA 15 0 rfl (by decide) (by decide) (by decide) (by simp only []; omega) (by simp only []; omega) dCl_init_23 (fun q15 H hW hS => ?_)
  refine dq_putF (D := D) (ci := 0) (v := .ref q15) (ty := (.array .int)) (C := RCl) (T := TCl) (N := 5) hx hb hts hinCl tyCl tyCl_ok nmCl hown hK hW hS 12 ((dq_Un (by decide)).trans dq_Us) rfl 2 (by decide) hf18 (fun _ h9 => h9) rfl hnm rfl (by decide +kernel) rfl rfl (Nat.le_of_ble_eq_true rfl) dCl_init_25 (fun H locs hW hS => ?_)
  rw [dq_Umv (by decide)] at hW
  refine lv_aload_n hx hb dCl_init_28 rfl (lv_at hl 0 rfl) ?_
  refine lv_bipush (v := (6)) hx hb dCl_init_29 (by decide) ?_
  refine dq_newi (N := 6) hx hb (hts _ (List.mem_cons_of_mem _ tw1_68)) hK hW hS hA 16 0 rfl (by decide) (by decide) (by decide) (by simp only []; omega) (by simp only []; omega) dCl_init_31 (fun q16 H hW hS => ?_)
  refine dq_putF (D := D) (ci := 0) (v := .ref q16) (ty := (.array .int)) (C := RCl) (T := TCl) (N := 5) hx hb hts hinCl tyCl tyCl_ok nmCl hown hK hW hS 12 ((dq_Un (by decide)).trans dq_Us) rfl 3 (by decide) hf21 (fun _ h9 => h9) rfl hnm rfl (by decide +kernel) rfl rfl (Nat.le_of_ble_eq_true rfl) dCl_init_33 (fun H locs hW hS => ?_)
  rw [dq_Umv (by decide)] at hW
  refine W.widen (k := 4) (n := 24) (by omega) (by omega) ?_
  exact hret ((va_up (va_up (va_up (va_up ad 13 q13) 14 q14) 15 q15) 16 q16), dq_U (dq_U (dq_U (dq_U (dq_U w 13 (.inl (g 0, 6, .inl (fun _ => 0)))) 14 (.inl (g 0, 6, .inl (fun _ => 0)))) 15 (.inl (g 0, 6, .inl (fun _ => 0)))) 16 (.inl (g 0, 6, .inl (fun _ => 0)))) 12 (.inr (0, [.ref q13, .ref q14, .ref q15, .ref q16, .int 0]))) _ _ _ _ ⟨fun j hj => by show (va_up (va_up (va_up (va_up ad 13 q13) 14 q14) 15 q15) 16 q16) j = _; rw [va_up_ne _ _ (by omega), va_up_ne _ _ (by omega), va_up_ne _ _ (by omega), va_up_ne _ _ (by omega)], fun j hj => by show (dq_U (dq_U (dq_U (dq_U (dq_U w 13 (.inl (g 0, 6, .inl (fun _ => 0)))) 14 (.inl (g 0, 6, .inl (fun _ => 0)))) 15 (.inl (g 0, 6, .inl (fun _ => 0)))) 16 (.inl (g 0, 6, .inl (fun _ => 0)))) 12 (.inr (0, [.ref q13, .ref q14, .ref q15, .ref q16, .int 0]))) j = _; rw [dq_Un (by omega), dq_Un (by omega), dq_Un (by omega), dq_Un (by omega), dq_Un (by omega)], by show (dq_U (dq_U (dq_U (dq_U (dq_U w 13 (.inl (g 0, 6, .inl (fun _ => 0)))) 14 (.inl (g 0, 6, .inl (fun _ => 0)))) 15 (.inl (g 0, 6, .inl (fun _ => 0)))) 16 (.inl (g 0, 6, .inl (fun _ => 0)))) 12 (.inr (0, [.ref q13, .ref q14, .ref q15, .ref q16, .int 0]))) 12 = _; exact dq_Us, by show (dq_U (dq_U (dq_U (dq_U (dq_U w 13 (.inl (g 0, 6, .inl (fun _ => 0)))) 14 (.inl (g 0, 6, .inl (fun _ => 0)))) 15 (.inl (g 0, 6, .inl (fun _ => 0)))) 16 (.inl (g 0, 6, .inl (fun _ => 0)))) 12 (.inr (0, [.ref q13, .ref q14, .ref q15, .ref q16, .int 0]))) 13 = _; exact ((dq_Un (by decide)).trans ((dq_Un (by decide)).trans ((dq_Un (by decide)).trans ((dq_Un (by decide)).trans dq_Us)))), by show (dq_U (dq_U (dq_U (dq_U (dq_U w 13 (.inl (g 0, 6, .inl (fun _ => 0)))) 14 (.inl (g 0, 6, .inl (fun _ => 0)))) 15 (.inl (g 0, 6, .inl (fun _ => 0)))) 16 (.inl (g 0, 6, .inl (fun _ => 0)))) 12 (.inr (0, [.ref q13, .ref q14, .ref q15, .ref q16, .int 0]))) 14 = _; exact ((dq_Un (by decide)).trans ((dq_Un (by decide)).trans ((dq_Un (by decide)).trans dq_Us))), by show (dq_U (dq_U (dq_U (dq_U (dq_U w 13 (.inl (g 0, 6, .inl (fun _ => 0)))) 14 (.inl (g 0, 6, .inl (fun _ => 0)))) 15 (.inl (g 0, 6, .inl (fun _ => 0)))) 16 (.inl (g 0, 6, .inl (fun _ => 0)))) 12 (.inr (0, [.ref q13, .ref q14, .ref q15, .ref q16, .int 0]))) 15 = _; exact ((dq_Un (by decide)).trans ((dq_Un (by decide)).trans dq_Us)), by show (dq_U (dq_U (dq_U (dq_U (dq_U w 13 (.inl (g 0, 6, .inl (fun _ => 0)))) 14 (.inl (g 0, 6, .inl (fun _ => 0)))) 15 (.inl (g 0, 6, .inl (fun _ => 0)))) 16 (.inl (g 0, 6, .inl (fun _ => 0)))) 12 (.inr (0, [.ref q13, .ref q14, .ref q15, .ref q16, .int 0]))) 16 = _; exact ((dq_Un (by decide)).trans dq_Us)⟩ hW hS dCl_init_36

set_option maxHeartbeats 4000000 in
set_option maxRecDepth 100000 in
/-- Ht_init -/
theorem k_Hits (l : Launch) (D : va_G) (g : Nat → ClassId) (ad : Nat → Nat) (w : Nat → Option va_E) (sz : Nat)  (o9 : w 18 = some (.inr (2, [.null, .null, .null, .null, .int 0])))  : Met l yHt_init wsHt_init ({ frames := 1, cells := 4, slots := 56, locals := 24 } : Room) (va_Pc [.ref (ad 18)] (dq_S D vwCl (dq_t g) ad w sz)) (va_Qv (fun u => (∀ j, (j < 19 ∨ 22 < j) → u.1 j = ad j) ∧ (∀ j, (j < 18 ∨ 22 < j) → u.2 j = w j) ∧ u.2 18 = some (.inr (2, [.ref (u.1 19), .ref (u.1 20), .ref (u.1 21), .ref (u.1 22), .int 0])) ∧ u.2 19 = some (.inl (g 0, 14, .inl (fun _ => 0))) ∧ u.2 20 = some (.inl (g 0, 14, .inl (fun _ => 0))) ∧ u.2 21 = some (.inl (g 0, 14, .inl (fun _ => 0))) ∧ u.2 22 = some (.inl (g 0, 14, .inl (fun _ => 0)))) (dq_B2 D vwCl (dq_t g) (dq_A ad w sz)) (dq_A ad w sz)) 4 56 (dq_A ad w sz) := by
  refine dq_ofv2 (cc := cHt_init) (maxL := 1) (by decide) rfl (Nat.le_of_ble_eq_true rfl) ?_
  intro p e s m below meth c A Q ls ⟨hx, hb, hml, hown, hts⟩ hnm hA hW hK hZ hl hret
  have hS : va_S A s.heap s.heap [] := va_S.rf
  have hl : lv_has ls 1 [(0, .ref (ad 18))] := hl
  have hf9 := hts _ (List.mem_cons_of_mem _ tw1_162)
  have hf15 := hts _ (List.mem_cons_of_mem _ tw1_165)
  have hf18 := hts _ (List.mem_cons_of_mem _ tw1_168)
  have hf21 := hts _ (List.mem_cons_of_mem _ tw1_170)
  have hinHt : ∀ w ∈ u_ws RHt THt 5, w ∈ wsHt_init := fun w h => List.mem_cons_of_mem _ (inHt w h)
  refine lv_aload_n hx hb dHt_init_0 rfl (lv_at hl 0 rfl) ?_
  refine W.objInit hx hb hown (hts _ (List.mem_cons_of_mem _ tw1_161)) (hts _ (List.mem_cons_of_mem _ tw1_24)) (hts _ (List.mem_cons_of_mem _ tw1_25)) (g := F0 m 1 ls (.ref _ :: [])) rfl (hl.1.trans hml.symm) rfl dHt_init_1 (Nat.le_of_ble_eq_true rfl) (Nat.le_of_ble_eq_true rfl) ?_
  refine lv_aload_n hx hb dHt_init_4 rfl (lv_at hl 0 rfl) ?_
  refine lv_bipush (v := (14)) hx hb dHt_init_5 (by decide) ?_
  refine dq_newi (N := 14) hx hb (hts _ (List.mem_cons_of_mem _ tw1_68)) hK hW hS hA 19 0 rfl (by decide) (by decide) (by decide) (by simp only []; omega) (by simp only []; omega) dHt_init_7 (fun q19 H hW hS => ?_)
  refine dq_putF (D := D) (ci := 2) (v := .ref q19) (ty := (.array .int)) (C := RHt) (T := THt) (N := 5) hx hb hts hinHt tyHt tyHt_ok nmHt hown hK hW hS 18 ((dq_Un (by decide)).trans o9) rfl 0 (by decide) hf9 (fun _ h9 => h9) rfl hnm rfl (by decide +kernel) rfl rfl (Nat.le_of_ble_eq_true rfl) dHt_init_9 (fun H locs hW hS => ?_)
  refine lv_aload_n hx hb dHt_init_12 rfl (lv_at hl 0 rfl) ?_
  refine lv_bipush (v := (14)) hx hb dHt_init_13 (by decide) ?_
  refine dq_newi (N := 14) hx hb (hts _ (List.mem_cons_of_mem _ tw1_68)) hK hW hS hA 20 0 rfl (by decide) (by decide) (by decide) (by simp only []; omega) (by simp only []; omega) dHt_init_15 (fun q20 H hW hS => ?_)
  refine dq_putF (D := D) (ci := 2) (v := .ref q20) (ty := (.array .int)) (C := RHt) (T := THt) (N := 5) hx hb hts hinHt tyHt tyHt_ok nmHt hown hK hW hS 18 ((dq_Un (by decide)).trans dq_Us) rfl 1 (by decide) hf15 (fun _ h9 => h9) rfl hnm rfl (by decide +kernel) rfl rfl (Nat.le_of_ble_eq_true rfl) dHt_init_17 (fun H locs hW hS => ?_)
  rw [dq_Umv (by decide)] at hW
  refine lv_aload_n hx hb dHt_init_20 rfl (lv_at hl 0 rfl) ?_
  refine lv_bipush (v := (14)) hx hb dHt_init_21 (by decide) ?_
  refine dq_newi (N := 14) hx hb (hts _ (List.mem_cons_of_mem _ tw1_68)) hK hW hS hA 21 0 rfl (by decide) (by decide) (by decide) (by simp only []; omega) (by simp only []; omega) dHt_init_23 (fun q21 H hW hS => ?_)
  refine dq_putF (D := D) (ci := 2) (v := .ref q21) (ty := (.array .int)) (C := RHt) (T := THt) (N := 5) hx hb hts hinHt tyHt tyHt_ok nmHt hown hK hW hS 18 ((dq_Un (by decide)).trans dq_Us) rfl 2 (by decide) hf18 (fun _ h9 => h9) rfl hnm rfl (by decide +kernel) rfl rfl (Nat.le_of_ble_eq_true rfl) dHt_init_25 (fun H locs hW hS => ?_)
  rw [dq_Umv (by decide)] at hW
  refine lv_aload_n hx hb dHt_init_28 rfl (lv_at hl 0 rfl) ?_
  refine lv_bipush (v := (14)) hx hb dHt_init_29 (by decide) ?_
  refine dq_newi (N := 14) hx hb (hts _ (List.mem_cons_of_mem _ tw1_68)) hK hW hS hA 22 0 rfl (by decide) (by decide) (by decide) (by simp only []; omega) (by simp only []; omega) dHt_init_31 (fun q22 H hW hS => ?_)
  refine dq_putF (D := D) (ci := 2) (v := .ref q22) (ty := (.array .int)) (C := RHt) (T := THt) (N := 5) hx hb hts hinHt tyHt tyHt_ok nmHt hown hK hW hS 18 ((dq_Un (by decide)).trans dq_Us) rfl 3 (by decide) hf21 (fun _ h9 => h9) rfl hnm rfl (by decide +kernel) rfl rfl (Nat.le_of_ble_eq_true rfl) dHt_init_33 (fun H locs hW hS => ?_)
  rw [dq_Umv (by decide)] at hW
  refine W.widen (k := 4) (n := 56) (by omega) (by omega) ?_
  exact hret ((va_up (va_up (va_up (va_up ad 19 q19) 20 q20) 21 q21) 22 q22), dq_U (dq_U (dq_U (dq_U (dq_U w 19 (.inl (g 0, 14, .inl (fun _ => 0)))) 20 (.inl (g 0, 14, .inl (fun _ => 0)))) 21 (.inl (g 0, 14, .inl (fun _ => 0)))) 22 (.inl (g 0, 14, .inl (fun _ => 0)))) 18 (.inr (2, [.ref q19, .ref q20, .ref q21, .ref q22, .int 0]))) _ _ _ _ ⟨fun j hj => by show (va_up (va_up (va_up (va_up ad 19 q19) 20 q20) 21 q21) 22 q22) j = _; rw [va_up_ne _ _ (by omega), va_up_ne _ _ (by omega), va_up_ne _ _ (by omega), va_up_ne _ _ (by omega)], fun j hj => by show (dq_U (dq_U (dq_U (dq_U (dq_U w 19 (.inl (g 0, 14, .inl (fun _ => 0)))) 20 (.inl (g 0, 14, .inl (fun _ => 0)))) 21 (.inl (g 0, 14, .inl (fun _ => 0)))) 22 (.inl (g 0, 14, .inl (fun _ => 0)))) 18 (.inr (2, [.ref q19, .ref q20, .ref q21, .ref q22, .int 0]))) j = _; rw [dq_Un (by omega), dq_Un (by omega), dq_Un (by omega), dq_Un (by omega), dq_Un (by omega)], by show (dq_U (dq_U (dq_U (dq_U (dq_U w 19 (.inl (g 0, 14, .inl (fun _ => 0)))) 20 (.inl (g 0, 14, .inl (fun _ => 0)))) 21 (.inl (g 0, 14, .inl (fun _ => 0)))) 22 (.inl (g 0, 14, .inl (fun _ => 0)))) 18 (.inr (2, [.ref q19, .ref q20, .ref q21, .ref q22, .int 0]))) 18 = _; exact dq_Us, by show (dq_U (dq_U (dq_U (dq_U (dq_U w 19 (.inl (g 0, 14, .inl (fun _ => 0)))) 20 (.inl (g 0, 14, .inl (fun _ => 0)))) 21 (.inl (g 0, 14, .inl (fun _ => 0)))) 22 (.inl (g 0, 14, .inl (fun _ => 0)))) 18 (.inr (2, [.ref q19, .ref q20, .ref q21, .ref q22, .int 0]))) 19 = _; exact ((dq_Un (by decide)).trans ((dq_Un (by decide)).trans ((dq_Un (by decide)).trans ((dq_Un (by decide)).trans dq_Us)))), by show (dq_U (dq_U (dq_U (dq_U (dq_U w 19 (.inl (g 0, 14, .inl (fun _ => 0)))) 20 (.inl (g 0, 14, .inl (fun _ => 0)))) 21 (.inl (g 0, 14, .inl (fun _ => 0)))) 22 (.inl (g 0, 14, .inl (fun _ => 0)))) 18 (.inr (2, [.ref q19, .ref q20, .ref q21, .ref q22, .int 0]))) 20 = _; exact ((dq_Un (by decide)).trans ((dq_Un (by decide)).trans ((dq_Un (by decide)).trans dq_Us))), by show (dq_U (dq_U (dq_U (dq_U (dq_U w 19 (.inl (g 0, 14, .inl (fun _ => 0)))) 20 (.inl (g 0, 14, .inl (fun _ => 0)))) 21 (.inl (g 0, 14, .inl (fun _ => 0)))) 22 (.inl (g 0, 14, .inl (fun _ => 0)))) 18 (.inr (2, [.ref q19, .ref q20, .ref q21, .ref q22, .int 0]))) 21 = _; exact ((dq_Un (by decide)).trans ((dq_Un (by decide)).trans dq_Us)), by show (dq_U (dq_U (dq_U (dq_U (dq_U w 19 (.inl (g 0, 14, .inl (fun _ => 0)))) 20 (.inl (g 0, 14, .inl (fun _ => 0)))) 21 (.inl (g 0, 14, .inl (fun _ => 0)))) 22 (.inl (g 0, 14, .inl (fun _ => 0)))) 18 (.inr (2, [.ref q19, .ref q20, .ref q21, .ref q22, .int 0]))) 22 = _; exact ((dq_Un (by decide)).trans dq_Us)⟩ hW hS dHt_init_36

set_option maxHeartbeats 4000000 in
set_option maxRecDepth 100000 in
/-- Tb_init -/
theorem k_Table (l : Launch) (D : va_G) (g : Nat → ClassId) (ad : Nat → Nat) (w : Nat → Option va_E) (sz : Nat)  (o9 : w 23 = some (.inr (5, [.null])))  : Met l yTb_init wsTb_init ({ frames := 1, cells := 1, slots := 1, locals := 24 } : Room) (va_Pc [.ref (ad 23)] (dq_S D vwCl (dq_t g) ad w sz)) (va_Qv (fun u => (∀ j, (j < 24 ∨ 24 < j) → u.1 j = ad j) ∧ (∀ j, (j < 23 ∨ 24 < j) → u.2 j = w j) ∧ u.2 23 = some (.inr (5, [.ref (u.1 24)])) ∧ u.2 24 = some (.inl (g 0, 1, .inl (fun _ => 0)))) (dq_B2 D vwCl (dq_t g) (dq_A ad w sz)) (dq_A ad w sz)) 1 1 (dq_A ad w sz) := by
  refine dq_ofv2 (cc := cTb_init) (maxL := 1) (by decide) rfl (Nat.le_of_ble_eq_true rfl) ?_
  intro p e s m below meth c A Q ls ⟨hx, hb, hml, hown, hts⟩ hnm hA hW hK hZ hl hret
  have hS : va_S A s.heap s.heap [] := va_S.rf
  have hl : lv_has ls 1 [(0, .ref (ad 23))] := hl
  have hf9 := hts _ (List.mem_cons_of_mem _ tw1_192)
  have hinTb : ∀ w ∈ u_ws RTb TTb 1, w ∈ wsTb_init := fun w h => List.mem_cons_of_mem _ (inTb w h)
  refine lv_aload_n hx hb dTb_init_0 rfl (lv_at hl 0 rfl) ?_
  refine W.objInit hx hb hown (hts _ (List.mem_cons_of_mem _ tw1_191)) (hts _ (List.mem_cons_of_mem _ tw1_24)) (hts _ (List.mem_cons_of_mem _ tw1_25)) (g := F0 m 1 ls (.ref _ :: [])) rfl (hl.1.trans hml.symm) rfl dTb_init_1 (Nat.le_of_ble_eq_true rfl) (Nat.le_of_ble_eq_true rfl) ?_
  refine lv_aload_n hx hb dTb_init_4 rfl (lv_at hl 0 rfl) ?_
  refine lv_iconst (v := (1)) hx hb dTb_init_5 (by decide) ?_
  refine dq_newi (N := 1) hx hb (hts _ (List.mem_cons_of_mem _ tw1_68)) hK hW hS hA 24 0 rfl (by decide) (by decide) (by decide) (by simp only []; omega) (by simp only []; omega) dTb_init_6 (fun q24 H hW hS => ?_)
  refine dq_put (D := D) (ci := 5) (v := .ref q24) (ty := (.array .int)) (C := RTb) (T := TTb) (N := 1) hx hb hts hinTb tyTb tyTb_ok nmTb hown hK hW hS 23 ((dq_Un (by decide)).trans o9) rfl 0 (by decide) hf9 (fun _ h9 => h9) rfl (by decide +kernel) rfl rfl (Nat.le_of_ble_eq_true rfl) dTb_init_8 (fun H locs hW hS => ?_)
  refine W.widen (k := 1) (n := 1) (by omega) (by omega) ?_
  exact hret ((va_up ad 24 q24), dq_U (dq_U w 24 (.inl (g 0, 1, .inl (fun _ => 0)))) 23 (.inr (5, [.ref q24]))) _ _ _ _ ⟨fun j hj => by show (va_up ad 24 q24) j = _; rw [va_up_ne _ _ (by omega)], fun j hj => by show (dq_U (dq_U w 24 (.inl (g 0, 1, .inl (fun _ => 0)))) 23 (.inr (5, [.ref q24]))) j = _; rw [dq_Un (by omega), dq_Un (by omega)], by show (dq_U (dq_U w 24 (.inl (g 0, 1, .inl (fun _ => 0)))) 23 (.inr (5, [.ref q24]))) 23 = _; exact dq_Us, by show (dq_U (dq_U w 24 (.inl (g 0, 1, .inl (fun _ => 0)))) 23 (.inr (5, [.ref q24]))) 24 = _; exact ((dq_Un (by decide)).trans dq_Us)⟩ hW hS dTb_init_11

set_option maxHeartbeats 4000000 in
set_option maxRecDepth 100000 in
/-- Wy_init -/
theorem k_Way (l : Launch) (D : va_G) (g : Nat → ClassId) (ad : Nat → Nat) (w : Nat → Option va_E) (sz : Nat)  (o9 : w 25 = some (.inr (6, [.null, .long 0, .null])))  : Met l yWy_init wsWy_init ({ frames := 1, cells := 2, slots := 14, locals := 24 } : Room) (va_Pc [.ref (ad 25)] (dq_S D vwCl (dq_t g) ad w sz)) (va_Qv (fun u => (∀ j, (j < 26 ∨ 27 < j) → u.1 j = ad j) ∧ (∀ j, (j < 25 ∨ 27 < j) → u.2 j = w j) ∧ u.2 25 = some (.inr (6, [.ref (u.1 26), .long 0, .ref (u.1 27)])) ∧ u.2 26 = some (.inl (g 0, 14, .inl (fun _ => 0))) ∧ u.2 27 = some (.inl (g 0, 0, .inl (fun _ => 0)))) (dq_B2 D vwCl (dq_t g) (dq_A ad w sz)) (dq_A ad w sz)) 2 14 (dq_A ad w sz) := by
  refine dq_ofv2 (cc := cWy_init) (maxL := 1) (by decide) rfl (Nat.le_of_ble_eq_true rfl) ?_
  intro p e s m below meth c A Q ls ⟨hx, hb, hml, hown, hts⟩ hnm hA hW hK hZ hl hret
  have hS : va_S A s.heap s.heap [] := va_S.rf
  have hl : lv_has ls 1 [(0, .ref (ad 25))] := hl
  have hf9 := hts _ (List.mem_cons_of_mem _ tw1_202)
  have hf15 := hts _ (List.mem_cons_of_mem _ tw1_206)
  have hinWy : ∀ w ∈ u_ws RWy TWy 3, w ∈ wsWy_init := fun w h => List.mem_cons_of_mem _ (inWy w h)
  refine lv_aload_n hx hb dWy_init_0 rfl (lv_at hl 0 rfl) ?_
  refine W.objInit hx hb hown (hts _ (List.mem_cons_of_mem _ tw1_201)) (hts _ (List.mem_cons_of_mem _ tw1_24)) (hts _ (List.mem_cons_of_mem _ tw1_25)) (g := F0 m 1 ls (.ref _ :: [])) rfl (hl.1.trans hml.symm) rfl dWy_init_1 (Nat.le_of_ble_eq_true rfl) (Nat.le_of_ble_eq_true rfl) ?_
  refine lv_aload_n hx hb dWy_init_4 rfl (lv_at hl 0 rfl) ?_
  refine lv_bipush (v := (14)) hx hb dWy_init_5 (by decide) ?_
  refine dq_newi (N := 14) hx hb (hts _ (List.mem_cons_of_mem _ tw1_68)) hK hW hS hA 26 0 rfl (by decide) (by decide) (by decide) (by simp only []; omega) (by simp only []; omega) dWy_init_7 (fun q26 H hW hS => ?_)
  refine dq_putF (D := D) (ci := 6) (v := .ref q26) (ty := (.array .int)) (C := RWy) (T := TWy) (N := 3) hx hb hts hinWy tyWy tyWy_ok nmWy hown hK hW hS 25 ((dq_Un (by decide)).trans o9) rfl 0 (by decide) hf9 (fun _ h9 => h9) rfl hnm rfl (by decide +kernel) rfl rfl (Nat.le_of_ble_eq_true rfl) dWy_init_9 (fun H locs hW hS => ?_)
  refine lv_aload_n hx hb dWy_init_12 rfl (lv_at hl 0 rfl) ?_
  refine lv_iconst (v := (0)) hx hb dWy_init_13 (by decide) ?_
  refine dq_newi (N := 0) hx hb (hts _ (List.mem_cons_of_mem _ tw1_68)) hK hW hS hA 27 0 rfl (by decide) (by decide) (by decide) (by simp only []; omega) (by simp only []; omega) dWy_init_14 (fun q27 H hW hS => ?_)
  refine dq_put (D := D) (ci := 6) (v := .ref q27) (ty := (.array .int)) (C := RWy) (T := TWy) (N := 3) hx hb hts hinWy tyWy tyWy_ok nmWy hown hK hW hS 25 ((dq_Un (by decide)).trans dq_Us) rfl 2 (by decide) hf15 (fun _ h9 => h9) rfl (by decide +kernel) rfl rfl (Nat.le_of_ble_eq_true rfl) dWy_init_16 (fun H locs hW hS => ?_)
  rw [dq_Umv (by decide)] at hW
  refine W.widen (k := 2) (n := 14) (by omega) (by omega) ?_
  exact hret ((va_up (va_up ad 26 q26) 27 q27), dq_U (dq_U (dq_U w 26 (.inl (g 0, 14, .inl (fun _ => 0)))) 27 (.inl (g 0, 0, .inl (fun _ => 0)))) 25 (.inr (6, [.ref q26, .long 0, .ref q27]))) _ _ _ _ ⟨fun j hj => by show (va_up (va_up ad 26 q26) 27 q27) j = _; rw [va_up_ne _ _ (by omega), va_up_ne _ _ (by omega)], fun j hj => by show (dq_U (dq_U (dq_U w 26 (.inl (g 0, 14, .inl (fun _ => 0)))) 27 (.inl (g 0, 0, .inl (fun _ => 0)))) 25 (.inr (6, [.ref q26, .long 0, .ref q27]))) j = _; rw [dq_Un (by omega), dq_Un (by omega), dq_Un (by omega)], by show (dq_U (dq_U (dq_U w 26 (.inl (g 0, 14, .inl (fun _ => 0)))) 27 (.inl (g 0, 0, .inl (fun _ => 0)))) 25 (.inr (6, [.ref q26, .long 0, .ref q27]))) 25 = _; exact dq_Us, by show (dq_U (dq_U (dq_U w 26 (.inl (g 0, 14, .inl (fun _ => 0)))) 27 (.inl (g 0, 0, .inl (fun _ => 0)))) 25 (.inr (6, [.ref q26, .long 0, .ref q27]))) 26 = _; exact ((dq_Un (by decide)).trans ((dq_Un (by decide)).trans dq_Us)), by show (dq_U (dq_U (dq_U w 26 (.inl (g 0, 14, .inl (fun _ => 0)))) 27 (.inl (g 0, 0, .inl (fun _ => 0)))) 25 (.inr (6, [.ref q26, .long 0, .ref q27]))) 27 = _; exact ((dq_Un (by decide)).trans dq_Us)⟩ hW hS dWy_init_19
