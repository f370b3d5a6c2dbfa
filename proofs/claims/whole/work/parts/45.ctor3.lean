set_option maxHeartbeats 4000000 in
set_option maxRecDepth 100000 in
/-- Mo_init -/
theorem k_Model (l : Launch) (D : va_G) (g : Nat → ClassId) (ad : Nat → Nat) (w : Nat → Option va_E) (sz : Nat) (a0 : Int32) (o9 : w 100 = some (.inr (8, [.int 0, .int 0, .null, .null, .null, .int 0, .null, .null, .null, .null, .null, .null, .int 0, .null, .int 0, .int 0, .null, .null, .null, .null, .int 0, .null, .long 0, .null, .null, .null, .null, .null, .null])))  : Met l yMo_init wsMo_init ({ frames := 1, cells := 21, slots := 27536, locals := 24 } : Room) (va_Pc [.ref (ad 100), .int a0] (dq_S D vwCl (dq_t g) ad w sz)) (va_Qv (fun u => (∀ j, (j < 101 ∨ 128 < j) → u.1 j = ad j) ∧ (∀ j, (j < 100 ∨ 128 < j) → u.2 j = w j) ∧ u.2 100 = some (.inr (8, [.int 0, .int (nI (mo_n a0)), .ref (u.1 102), .ref (u.1 103), .ref (u.1 104), .int 0, .ref (u.1 106), .ref (u.1 107), .ref (u.1 108), .ref (u.1 109), .ref (u.1 110), .ref (u.1 111), .int 0, .ref (u.1 113), .int 0, .int 0, .ref (u.1 116), .ref (u.1 117), .ref (u.1 118), .ref (u.1 119), .int 0, .ref (u.1 121), .long 0, .ref (u.1 123), .ref (u.1 124), .ref (u.1 125), .ref (u.1 126), .ref (u.1 127), .ref (u.1 128)])) ∧ u.2 102 = some (.inl (g 0, 16, .inl (fun _ => 0))) ∧ u.2 103 = some (.inl (g 0, 16, .inl (fun _ => 0))) ∧ u.2 104 = some (.inl (g 0, 16, .inl (fun _ => 0))) ∧ u.2 106 = some (.inl (g 0, 14, .inl (fun _ => 0))) ∧ u.2 107 = some (.inl (g 0, 14, .inl (fun _ => 0))) ∧ u.2 108 = some (.inl (g 0, 14, .inl (fun _ => 0))) ∧ u.2 109 = some (.inl (g 0, 14, .inl (fun _ => 0))) ∧ u.2 110 = some (.inl (g 0, 14, .inl (fun _ => 0))) ∧ u.2 111 = some (.inl (g 1, 14, .inl (fun _ => 0))) ∧ u.2 113 = some (.inl (g 0, 24, .inl (fun _ => 0))) ∧ u.2 116 = some (.inl (g 0, 14, .inl (fun _ => 0))) ∧ u.2 117 = some (.inl (g 0, 14, .inl (fun _ => 0))) ∧ u.2 118 = some (.inl (g 0, 14, .inl (fun _ => 0))) ∧ u.2 119 = some (.inl (g 0, 14, .inl (fun _ => 0))) ∧ u.2 121 = some (.inl (g 0, 14, .inl (fun _ => 0))) ∧ u.2 123 = some (.inl (g 0, 16384, .inl (fun _ => 0))) ∧ u.2 124 = some (.inl (g 0, 224, .inl (fun _ => 0))) ∧ u.2 125 = some (.inl (g 0, 224, .inl (fun _ => 0))) ∧ u.2 126 = some (.inl (g 0, 224, .inl (fun _ => 0))) ∧ u.2 127 = some (.inl (g 0, 14, .inl (fun _ => 0))) ∧ u.2 128 = some (.inl (g 2, 10240, .inr (.inl (fun _ => 0))))) (dq_B2 D vwCl (dq_t g) (dq_A ad w sz)) (dq_A ad w sz)) 21 27536 (dq_A ad w sz) := by
  refine dq_ofv2 (cc := cMo_init) (maxL := 2) (by decide) rfl (Nat.le_of_ble_eq_true rfl) ?_
  intro p e s m below meth c A Q ls ⟨hx, hb, hml, hown, hts⟩ hnm hA hW hK hZ hl hret
  have hS : va_S A s.heap s.heap [] := va_S.rf
  have hl : lv_has ls 2 [(0, .ref (ad 100)), (1, .int a0)] := hl
  have hf7 := hts _ (List.mem_cons_of_mem _ tw3_156)
  have hf13 := hts _ (List.mem_cons_of_mem _ tw3_157)
  have hf16 := hts _ (List.mem_cons_of_mem _ tw3_158)
  have hf19 := hts _ (List.mem_cons_of_mem _ tw3_160)
  have hf22 := hts _ (List.mem_cons_of_mem _ tw3_161)
  have hf25 := hts _ (List.mem_cons_of_mem _ tw3_162)
  have hf28 := hts _ (List.mem_cons_of_mem _ tw3_163)
  have hf31 := hts _ (List.mem_cons_of_mem _ tw3_164)
  have hf34 := hts _ (List.mem_cons_of_mem _ tw3_165)
  have hf38 := hts _ (List.mem_cons_of_mem _ tw3_167)
  have hf41 := hts _ (List.mem_cons_of_mem _ tw3_170)
  have hf44 := hts _ (List.mem_cons_of_mem _ tw3_171)
  have hf47 := hts _ (List.mem_cons_of_mem _ tw3_172)
  have hf50 := hts _ (List.mem_cons_of_mem _ tw3_173)
  have hf53 := hts _ (List.mem_cons_of_mem _ tw3_175)
  have hf56 := hts _ (List.mem_cons_of_mem _ tw3_177)
  have hf59 := hts _ (List.mem_cons_of_mem _ tw3_178)
  have hf62 := hts _ (List.mem_cons_of_mem _ tw3_179)
  have hf65 := hts _ (List.mem_cons_of_mem _ tw3_180)
  have hf68 := hts _ (List.mem_cons_of_mem _ tw3_181)
  have hf71 := hts _ (List.mem_cons_of_mem _ tw3_182)
  have hf75 := hts _ (List.mem_cons_of_mem _ tw3_155)
  have hinMo : ∀ w ∈ u_ws RMo TMo 29, w ∈ wsMo_init := fun w h => List.mem_cons_of_mem _ (inMo w h)
  refine lv_aload_n hx hb dMo_init_0 rfl (lv_at hl 0 rfl) ?_
  refine W.objInit hx hb hown (hts _ (List.mem_cons_of_mem _ tw3_153)) (hts _ (List.mem_cons_of_mem _ tw1_24)) (hts _ (List.mem_cons_of_mem _ tw1_25)) (g := F0 m 1 ls (.ref _ :: [])) rfl (hl.1.trans hml.symm) rfl dMo_init_1 (Nat.le_of_ble_eq_true rfl) (Nat.le_of_ble_eq_true rfl) ?_
  refine lv_aload_n hx hb dMo_init_4 rfl (lv_at hl 0 rfl) ?_
  refine lv_bipush (v := (16)) hx hb dMo_init_5 (by decide) ?_
  refine dq_newi (N := 16) hx hb (hts _ (List.mem_cons_of_mem _ tw1_68)) hK hW hS hA 102 0 rfl (by decide) (by decide) (by decide) (by simp only []; omega) (by simp only []; omega) dMo_init_7 (fun q9 H hW hS => ?_)
  have had1 : ∀ j, j ≠ 102 → va_up ad 102 q9 j = ad j := fun j h => va_up_ne _ _ h
  have hq9 : va_up ad 102 q9 102 = q9 := va_up_self _ _ _
  generalize va_up ad 102 q9 = ad1 at hW had1 hq9
  subst hq9
  refine W.widen (k := 1) (n := 16) (by omega) (by omega) ?_
  refine W.eq (g2 := F0 m 9 ls [.ref (ad1 102), .ref (ad1 100)]) (by rw [had1 100 (by decide)]) ?_
  have hl : lv_has ls 2 [(0, .ref (ad1 100)), (1, .int a0)] := by rw [had1 100 (by decide)]; exact hl
  have a102 : dq_U w 102 (.inl (g 0, 16, .inl (fun _ => 0))) 100 = some (.inr (8, [.int 0, .int 0, .null, .null, .null, .int 0, .null, .null, .null, .null, .null, .null, .int 0, .null, .int 0, .int 0, .null, .null, .null, .null, .int 0, .null, .long 0, .null, .null, .null, .null, .null, .null])) := (dq_Un (by decide)).trans o9
  refine dq_putF (D := D) (ci := 8) (v := .ref (ad1 102)) (ty := (.array .int)) (C := RMo) (T := TMo) (N := 29) hx hb hts hinMo tyMo tyMo_ok nmMo hown hK hW hS 100 a102 rfl 2 (by decide) hf7 (fun _ h9 => h9) rfl hnm rfl (by decide +kernel) rfl rfl (Nat.le_of_ble_eq_true rfl) dMo_init_9 (fun H locs hW hS => ?_)
  obtain ⟨w1, hw1⟩ : ∃ wz, wz = dq_U (dq_U w 102 (.inl (g 0, 16, .inl (fun _ => 0)))) 100 (.inr (8, [.int 0, .int 0, .ref (ad1 102), .null, .null, .int 0, .null, .null, .null, .null, .null, .null, .int 0, .null, .int 0, .int 0, .null, .null, .null, .null, .int 0, .null, .long 0, .null, .null, .null, .null, .null, .null])) := ⟨_, rfl⟩
  have hW : dq_W D vwCl ad1 w1 A H := by rw [hw1]; exact hW
  have o9 : w1 100 = some (.inr (8, [.int 0, .int 0, .ref (ad1 102), .null, .null, .int 0, .null, .null, .null, .null, .null, .null, .int 0, .null, .int 0, .int 0, .null, .null, .null, .null, .int 0, .null, .long 0, .null, .null, .null, .null, .null, .null])) := by rw [hw1]; exact dq_Us
  have b102 : w1 102 = some (.inl (g 0, 16, .inl (fun _ => 0))) := by rw [hw1]; exact (dq_Un (by decide)).trans dq_Us
  have fr1 : ∀ j, j ≠ 100 → j ≠ 102 → w1 j = w j := fun j h1 h2 => by rw [hw1, dq_Un h1, dq_Un h2]
  clear hw1 a102
  refine lv_aload_n hx hb dMo_init_12 rfl (lv_at hl 0 rfl) ?_
  refine lv_bipush (v := (16)) hx hb dMo_init_13 (by decide) ?_
  refine dq_newi (N := 16) hx hb (hts _ (List.mem_cons_of_mem _ tw1_68)) hK hW hS hA 103 0 rfl (by decide) (by decide) (by decide) (by simp only []; omega) (by simp only []; omega) dMo_init_15 (fun q9 H hW hS => ?_)
  have had2 : ∀ j, j ≠ 103 → va_up ad1 103 q9 j = ad1 j := fun j h => va_up_ne _ _ h
  have hq9 : va_up ad1 103 q9 103 = q9 := va_up_self _ _ _
  generalize va_up ad1 103 q9 = ad2 at hW had2 hq9
  subst hq9
  refine W.widen (k := 2) (n := 32) (by omega) (by omega) ?_
  refine W.eq (g2 := F0 m 17 ls [.ref (ad2 103), .ref (ad2 100)]) (by rw [had2 100 (by decide)]) ?_
  have hl : lv_has ls 2 [(0, .ref (ad2 100)), (1, .int a0)] := by rw [had2 100 (by decide)]; exact hl
  have a103 : dq_U w1 103 (.inl (g 0, 16, .inl (fun _ => 0))) 100 = some (.inr (8, [.int 0, .int 0, .ref (ad1 102), .null, .null, .int 0, .null, .null, .null, .null, .null, .null, .int 0, .null, .int 0, .int 0, .null, .null, .null, .null, .int 0, .null, .long 0, .null, .null, .null, .null, .null, .null])) := (dq_Un (by decide)).trans o9
  refine dq_putF (D := D) (ci := 8) (v := .ref (ad2 103)) (ty := (.array .int)) (C := RMo) (T := TMo) (N := 29) hx hb hts hinMo tyMo tyMo_ok nmMo hown hK hW hS 100 a103 rfl 3 (by decide) hf13 (fun _ h9 => h9) rfl hnm rfl (by decide +kernel) rfl rfl (Nat.le_of_ble_eq_true rfl) dMo_init_17 (fun H locs hW hS => ?_)
  obtain ⟨w2, hw2⟩ : ∃ wz, wz = dq_U (dq_U w1 103 (.inl (g 0, 16, .inl (fun _ => 0)))) 100 (.inr (8, [.int 0, .int 0, .ref (ad1 102), .ref (ad2 103), .null, .int 0, .null, .null, .null, .null, .null, .null, .int 0, .null, .int 0, .int 0, .null, .null, .null, .null, .int 0, .null, .long 0, .null, .null, .null, .null, .null, .null])) := ⟨_, rfl⟩
  have hW : dq_W D vwCl ad2 w2 A H := by rw [hw2]; exact hW
  have o9 : w2 100 = some (.inr (8, [.int 0, .int 0, .ref (ad1 102), .ref (ad2 103), .null, .int 0, .null, .null, .null, .null, .null, .null, .int 0, .null, .int 0, .int 0, .null, .null, .null, .null, .int 0, .null, .long 0, .null, .null, .null, .null, .null, .null])) := by rw [hw2]; exact dq_Us
  have b103 : w2 103 = some (.inl (g 0, 16, .inl (fun _ => 0))) := by rw [hw2]; exact (dq_Un (by decide)).trans dq_Us
  have fr2 : ∀ j, j ≠ 100 → j ≠ 103 → w2 j = w1 j := fun j h1 h2 => by rw [hw2, dq_Un h1, dq_Un h2]
  clear hw2 a103
  refine lv_aload_n hx hb dMo_init_20 rfl (lv_at hl 0 rfl) ?_
  refine lv_bipush (v := (16)) hx hb dMo_init_21 (by decide) ?_
  refine dq_newi (N := 16) hx hb (hts _ (List.mem_cons_of_mem _ tw1_68)) hK hW hS hA 104 0 rfl (by decide) (by decide) (by decide) (by simp only []; omega) (by simp only []; omega) dMo_init_23 (fun q9 H hW hS => ?_)
  have had3 : ∀ j, j ≠ 104 → va_up ad2 104 q9 j = ad2 j := fun j h => va_up_ne _ _ h
  have hq9 : va_up ad2 104 q9 104 = q9 := va_up_self _ _ _
  generalize va_up ad2 104 q9 = ad3 at hW had3 hq9
  subst hq9
  refine W.widen (k := 3) (n := 48) (by omega) (by omega) ?_
  refine W.eq (g2 := F0 m 25 ls [.ref (ad3 104), .ref (ad3 100)]) (by rw [had3 100 (by decide)]) ?_
  have hl : lv_has ls 2 [(0, .ref (ad3 100)), (1, .int a0)] := by rw [had3 100 (by decide)]; exact hl
  have a104 : dq_U w2 104 (.inl (g 0, 16, .inl (fun _ => 0))) 100 = some (.inr (8, [.int 0, .int 0, .ref (ad1 102), .ref (ad2 103), .null, .int 0, .null, .null, .null, .null, .null, .null, .int 0, .null, .int 0, .int 0, .null, .null, .null, .null, .int 0, .null, .long 0, .null, .null, .null, .null, .null, .null])) := (dq_Un (by decide)).trans o9
  refine dq_putF (D := D) (ci := 8) (v := .ref (ad3 104)) (ty := (.array .int)) (C := RMo) (T := TMo) (N := 29) hx hb hts hinMo tyMo tyMo_ok nmMo hown hK hW hS 100 a104 rfl 4 (by decide) hf16 (fun _ h9 => h9) rfl hnm rfl (by decide +kernel) rfl rfl (Nat.le_of_ble_eq_true rfl) dMo_init_25 (fun H locs hW hS => ?_)
  obtain ⟨w3, hw3⟩ : ∃ wz, wz = dq_U (dq_U w2 104 (.inl (g 0, 16, .inl (fun _ => 0)))) 100 (.inr (8, [.int 0, .int 0, .ref (ad1 102), .ref (ad2 103), .ref (ad3 104), .int 0, .null, .null, .null, .null, .null, .null, .int 0, .null, .int 0, .int 0, .null, .null, .null, .null, .int 0, .null, .long 0, .null, .null, .null, .null, .null, .null])) := ⟨_, rfl⟩
  have hW : dq_W D vwCl ad3 w3 A H := by rw [hw3]; exact hW
  have o9 : w3 100 = some (.inr (8, [.int 0, .int 0, .ref (ad1 102), .ref (ad2 103), .ref (ad3 104), .int 0, .null, .null, .null, .null, .null, .null, .int 0, .null, .int 0, .int 0, .null, .null, .null, .null, .int 0, .null, .long 0, .null, .null, .null, .null, .null, .null])) := by rw [hw3]; exact dq_Us
  have b104 : w3 104 = some (.inl (g 0, 16, .inl (fun _ => 0))) := by rw [hw3]; exact (dq_Un (by decide)).trans dq_Us
  have fr3 : ∀ j, j ≠ 100 → j ≠ 104 → w3 j = w2 j := fun j h1 h2 => by rw [hw3, dq_Un h1, dq_Un h2]
  clear hw3 a104
  refine lv_aload_n hx hb dMo_init_28 rfl (lv_at hl 0 rfl) ?_
  refine lv_bipush (v := (14)) hx hb dMo_init_29 (by decide) ?_
  refine dq_newi (N := 14) hx hb (hts _ (List.mem_cons_of_mem _ tw1_68)) hK hW hS hA 106 0 rfl (by decide) (by decide) (by decide) (by simp only []; omega) (by simp only []; omega) dMo_init_31 (fun q9 H hW hS => ?_)
  have had4 : ∀ j, j ≠ 106 → va_up ad3 106 q9 j = ad3 j := fun j h => va_up_ne _ _ h
  have hq9 : va_up ad3 106 q9 106 = q9 := va_up_self _ _ _
  generalize va_up ad3 106 q9 = ad4 at hW had4 hq9
  subst hq9
  refine W.widen (k := 4) (n := 62) (by omega) (by omega) ?_
  refine W.eq (g2 := F0 m 33 ls [.ref (ad4 106), .ref (ad4 100)]) (by rw [had4 100 (by decide)]) ?_
  have hl : lv_has ls 2 [(0, .ref (ad4 100)), (1, .int a0)] := by rw [had4 100 (by decide)]; exact hl
  have a106 : dq_U w3 106 (.inl (g 0, 14, .inl (fun _ => 0))) 100 = some (.inr (8, [.int 0, .int 0, .ref (ad1 102), .ref (ad2 103), .ref (ad3 104), .int 0, .null, .null, .null, .null, .null, .null, .int 0, .null, .int 0, .int 0, .null, .null, .null, .null, .int 0, .null, .long 0, .null, .null, .null, .null, .null, .null])) := (dq_Un (by decide)).trans o9
  refine dq_putF (D := D) (ci := 8) (v := .ref (ad4 106)) (ty := (.array .int)) (C := RMo) (T := TMo) (N := 29) hx hb hts hinMo tyMo tyMo_ok nmMo hown hK hW hS 100 a106 rfl 6 (by decide) hf19 (fun _ h9 => h9) rfl hnm rfl (by decide +kernel) rfl rfl (Nat.le_of_ble_eq_true rfl) dMo_init_33 (fun H locs hW hS => ?_)
  obtain ⟨w4, hw4⟩ : ∃ wz, wz = dq_U (dq_U w3 106 (.inl (g 0, 14, .inl (fun _ => 0)))) 100 (.inr (8, [.int 0, .int 0, .ref (ad1 102), .ref (ad2 103), .ref (ad3 104), .int 0, .ref (ad4 106), .null, .null, .null, .null, .null, .int 0, .null, .int 0, .int 0, .null, .null, .null, .null, .int 0, .null, .long 0, .null, .null, .null, .null, .null, .null])) := ⟨_, rfl⟩
  have hW : dq_W D vwCl ad4 w4 A H := by rw [hw4]; exact hW
  have o9 : w4 100 = some (.inr (8, [.int 0, .int 0, .ref (ad1 102), .ref (ad2 103), .ref (ad3 104), .int 0, .ref (ad4 106), .null, .null, .null, .null, .null, .int 0, .null, .int 0, .int 0, .null, .null, .null, .null, .int 0, .null, .long 0, .null, .null, .null, .null, .null, .null])) := by rw [hw4]; exact dq_Us
  have b106 : w4 106 = some (.inl (g 0, 14, .inl (fun _ => 0))) := by rw [hw4]; exact (dq_Un (by decide)).trans dq_Us
  have fr4 : ∀ j, j ≠ 100 → j ≠ 106 → w4 j = w3 j := fun j h1 h2 => by rw [hw4, dq_Un h1, dq_Un h2]
  clear hw4 a106
  refine lv_aload_n hx hb dMo_init_36 rfl (lv_at hl 0 rfl) ?_
  refine lv_bipush (v := (14)) hx hb dMo_init_37 (by decide) ?_
  refine dq_newi (N := 14) hx hb (hts _ (List.mem_cons_of_mem _ tw1_68)) hK hW hS hA 107 0 rfl (by decide) (by decide) (by decide) (by simp only []; omega) (by simp only []; omega) dMo_init_39 (fun q9 H hW hS => ?_)
  have had5 : ∀ j, j ≠ 107 → va_up ad4 107 q9 j = ad4 j := fun j h => va_up_ne _ _ h
  have hq9 : va_up ad4 107 q9 107 = q9 := va_up_self _ _ _
  generalize va_up ad4 107 q9 = ad5 at hW had5 hq9
  subst hq9
  refine W.widen (k := 5) (n := 76) (by omega) (by omega) ?_
  refine W.eq (g2 := F0 m 41 ls [.ref (ad5 107), .ref (ad5 100)]) (by rw [had5 100 (by decide)]) ?_
  have hl : lv_has ls 2 [(0, .ref (ad5 100)), (1, .int a0)] := by rw [had5 100 (by decide)]; exact hl
  have a107 : dq_U w4 107 (.inl (g 0, 14, .inl (fun _ => 0))) 100 = some (.inr (8, [.int 0, .int 0, .ref (ad1 102), .ref (ad2 103), .ref (ad3 104), .int 0, .ref (ad4 106), .null, .null, .null, .null, .null, .int 0, .null, .int 0, .int 0, .null, .null, .null, .null, .int 0, .null, .long 0, .null, .null, .null, .null, .null, .null])) := (dq_Un (by decide)).trans o9
  refine dq_putF (D := D) (ci := 8) (v := .ref (ad5 107)) (ty := (.array .int)) (C := RMo) (T := TMo) (N := 29) hx hb hts hinMo tyMo tyMo_ok nmMo hown hK hW hS 100 a107 rfl 7 (by decide) hf22 (fun _ h9 => h9) rfl hnm rfl (by decide +kernel) rfl rfl (Nat.le_of_ble_eq_true rfl) dMo_init_41 (fun H locs hW hS => ?_)
  obtain ⟨w5, hw5⟩ : ∃ wz, wz = dq_U (dq_U w4 107 (.inl (g 0, 14, .inl (fun _ => 0)))) 100 (.inr (8, [.int 0, .int 0, .ref (ad1 102), .ref (ad2 103), .ref (ad3 104), .int 0, .ref (ad4 106), .ref (ad5 107), .null, .null, .null, .null, .int 0, .null, .int 0, .int 0, .null, .null, .null, .null, .int 0, .null, .long 0, .null, .null, .null, .null, .null, .null])) := ⟨_, rfl⟩
  have hW : dq_W D vwCl ad5 w5 A H := by rw [hw5]; exact hW
  have o9 : w5 100 = some (.inr (8, [.int 0, .int 0, .ref (ad1 102), .ref (ad2 103), .ref (ad3 104), .int 0, .ref (ad4 106), .ref (ad5 107), .null, .null, .null, .null, .int 0, .null, .int 0, .int 0, .null, .null, .null, .null, .int 0, .null, .long 0, .null, .null, .null, .null, .null, .null])) := by rw [hw5]; exact dq_Us
  have b107 : w5 107 = some (.inl (g 0, 14, .inl (fun _ => 0))) := by rw [hw5]; exact (dq_Un (by decide)).trans dq_Us
  have fr5 : ∀ j, j ≠ 100 → j ≠ 107 → w5 j = w4 j := fun j h1 h2 => by rw [hw5, dq_Un h1, dq_Un h2]
  clear hw5 a107
  refine lv_aload_n hx hb dMo_init_44 rfl (lv_at hl 0 rfl) ?_
  refine lv_bipush (v := (14)) hx hb dMo_init_45 (by decide) ?_
  refine dq_newi (N := 14) hx hb (hts _ (List.mem_cons_of_mem _ tw1_68)) hK hW hS hA 108 0 rfl (by decide) (by decide) (by decide) (by simp only []; omega) (by simp only []; omega) dMo_init_47 (fun q9 H hW hS => ?_)
  have had6 : ∀ j, j ≠ 108 → va_up ad5 108 q9 j = ad5 j := fun j h => va_up_ne _ _ h
  have hq9 : va_up ad5 108 q9 108 = q9 := va_up_self _ _ _
  generalize va_up ad5 108 q9 = ad6 at hW had6 hq9
  subst hq9
  refine W.widen (k := 6) (n := 90) (by omega) (by omega) ?_
  refine W.eq (g2 := F0 m 49 ls [.ref (ad6 108), .ref (ad6 100)]) (by rw [had6 100 (by decide)]) ?_
  have hl : lv_has ls 2 [(0, .ref (ad6 100)), (1, .int a0)] := by rw [had6 100 (by decide)]; exact hl
  have a108 : dq_U w5 108 (.inl (g 0, 14, .inl (fun _ => 0))) 100 = some (.inr (8, [.int 0, .int 0, .ref (ad1 102), .ref (ad2 103), .ref (ad3 104), .int 0, .ref (ad4 106), .ref (ad5 107), .null, .null, .null, .null, .int 0, .null, .int 0, .int 0, .null, .null, .null, .null, .int 0, .null, .long 0, .null, .null, .null, .null, .null, .null])) := (dq_Un (by decide)).trans o9
  refine dq_putF (D := D) (ci := 8) (v := .ref (ad6 108)) (ty := (.array .int)) (C := RMo) (T := TMo) (N := 29) hx hb hts hinMo tyMo tyMo_ok nmMo hown hK hW hS 100 a108 rfl 8 (by decide) hf25 (fun _ h9 => h9) rfl hnm rfl (by decide +kernel) rfl rfl (Nat.le_of_ble_eq_true rfl) dMo_init_49 (fun H locs hW hS => ?_)
  obtain ⟨w6, hw6⟩ : ∃ wz, wz = dq_U (dq_U w5 108 (.inl (g 0, 14, .inl (fun _ => 0)))) 100 (.inr (8, [.int 0, .int 0, .ref (ad1 102), .ref (ad2 103), .ref (ad3 104), .int 0, .ref (ad4 106), .ref (ad5 107), .ref (ad6 108), .null, .null, .null, .int 0, .null, .int 0, .int 0, .null, .null, .null, .null, .int 0, .null, .long 0, .null, .null, .null, .null, .null, .null])) := ⟨_, rfl⟩
  have hW : dq_W D vwCl ad6 w6 A H := by rw [hw6]; exact hW
  have o9 : w6 100 = some (.inr (8, [.int 0, .int 0, .ref (ad1 102), .ref (ad2 103), .ref (ad3 104), .int 0, .ref (ad4 106), .ref (ad5 107), .ref (ad6 108), .null, .null, .null, .int 0, .null, .int 0, .int 0, .null, .null, .null, .null, .int 0, .null, .long 0, .null, .null, .null, .null, .null, .null])) := by rw [hw6]; exact dq_Us
  have b108 : w6 108 = some (.inl (g 0, 14, .inl (fun _ => 0))) := by rw [hw6]; exact (dq_Un (by decide)).trans dq_Us
  have fr6 : ∀ j, j ≠ 100 → j ≠ 108 → w6 j = w5 j := fun j h1 h2 => by rw [hw6, dq_Un h1, dq_Un h2]
  clear hw6 a108
  refine lv_aload_n hx hb dMo_init_52 rfl (lv_at hl 0 rfl) ?_
  refine lv_bipush (v := (14)) hx hb dMo_init_53 (by decide) ?_
  refine dq_newi (N := 14) hx hb (hts _ (List.mem_cons_of_mem _ tw1_68)) hK hW hS hA 109 0 rfl (by decide) (by decide) (by decide) (by simp only []; omega) (by simp only []; omega) dMo_init_55 (fun q9 H hW hS => ?_)
  have had7 : ∀ j, j ≠ 109 → va_up ad6 109 q9 j = ad6 j := fun j h => va_up_ne _ _ h
  have hq9 : va_up ad6 109 q9 109 = q9 := va_up_self _ _ _
  generalize va_up ad6 109 q9 = ad7 at hW had7 hq9
  subst hq9
  refine W.widen (k := 7) (n := 104) (by omega) (by omega) ?_
  refine W.eq (g2 := F0 m 57 ls [.ref (ad7 109), .ref (ad7 100)]) (by rw [had7 100 (by decide)]) ?_
  have hl : lv_has ls 2 [(0, .ref (ad7 100)), (1, .int a0)] := by rw [had7 100 (by decide)]; exact hl
  have a109 : dq_U w6 109 (.inl (g 0, 14, .inl (fun _ => 0))) 100 = some (.inr (8, [.int 0, .int 0, .ref (ad1 102), .ref (ad2 103), .ref (ad3 104), .int 0, .ref (ad4 106), .ref (ad5 107), .ref (ad6 108), .null, .null, .null, .int 0, .null, .int 0, .int 0, .null, .null, .null, .null, .int 0, .null, .long 0, .null, .null, .null, .null, .null, .null])) := (dq_Un (by decide)).trans o9
  refine dq_putF (D := D) (ci := 8) (v := .ref (ad7 109)) (ty := (.array .int)) (C := RMo) (T := TMo) (N := 29) hx hb hts hinMo tyMo tyMo_ok nmMo hown hK hW hS 100 a109 rfl 9 (by decide) hf28 (fun _ h9 => h9) rfl hnm rfl (by decide +kernel) rfl rfl (Nat.le_of_ble_eq_true rfl) dMo_init_57 (fun H locs hW hS => ?_)
  obtain ⟨w7, hw7⟩ : ∃ wz, wz = dq_U (dq_U w6 109 (.inl (g 0, 14, .inl (fun _ => 0)))) 100 (.inr (8, [.int 0, .int 0, .ref (ad1 102), .ref (ad2 103), .ref (ad3 104), .int 0, .ref (ad4 106), .ref (ad5 107), .ref (ad6 108), .ref (ad7 109), .null, .null, .int 0, .null, .int 0, .int 0, .null, .null, .null, .null, .int 0, .null, .long 0, .null, .null, .null, .null, .null, .null])) := ⟨_, rfl⟩
  have hW : dq_W D vwCl ad7 w7 A H := by rw [hw7]; exact hW
  have o9 : w7 100 = some (.inr (8, [.int 0, .int 0, .ref (ad1 102), .ref (ad2 103), .ref (ad3 104), .int 0, .ref (ad4 106), .ref (ad5 107), .ref (ad6 108), .ref (ad7 109), .null, .null, .int 0, .null, .int 0, .int 0, .null, .null, .null, .null, .int 0, .null, .long 0, .null, .null, .null, .null, .null, .null])) := by rw [hw7]; exact dq_Us
  have b109 : w7 109 = some (.inl (g 0, 14, .inl (fun _ => 0))) := by rw [hw7]; exact (dq_Un (by decide)).trans dq_Us
  have fr7 : ∀ j, j ≠ 100 → j ≠ 109 → w7 j = w6 j := fun j h1 h2 => by rw [hw7, dq_Un h1, dq_Un h2]
  clear hw7 a109
  refine lv_aload_n hx hb dMo_init_60 rfl (lv_at hl 0 rfl) ?_
  refine lv_bipush (v := (14)) hx hb dMo_init_61 (by decide) ?_
  refine dq_newi (N := 14) hx hb (hts _ (List.mem_cons_of_mem _ tw1_68)) hK hW hS hA 110 0 rfl (by decide) (by decide) (by decide) (by simp only []; omega) (by simp only []; omega) dMo_init_63 (fun q9 H hW hS => ?_)
  have had8 : ∀ j, j ≠ 110 → va_up ad7 110 q9 j = ad7 j := fun j h => va_up_ne _ _ h
  have hq9 : va_up ad7 110 q9 110 = q9 := va_up_self _ _ _
  generalize va_up ad7 110 q9 = ad8 at hW had8 hq9
  subst hq9
  refine W.widen (k := 8) (n := 118) (by omega) (by omega) ?_
  refine W.eq (g2 := F0 m 65 ls [.ref (ad8 110), .ref (ad8 100)]) (by rw [had8 100 (by decide)]) ?_
  have hl : lv_has ls 2 [(0, .ref (ad8 100)), (1, .int a0)] := by rw [had8 100 (by decide)]; exact hl
  have a110 : dq_U w7 110 (.inl (g 0, 14, .inl (fun _ => 0))) 100 = some (.inr (8, [.int 0, .int 0, .ref (ad1 102), .ref (ad2 103), .ref (ad3 104), .int 0, .ref (ad4 106), .ref (ad5 107), .ref (ad6 108), .ref (ad7 109), .null, .null, .int 0, .null, .int 0, .int 0, .null, .null, .null, .null, .int 0, .null, .long 0, .null, .null, .null, .null, .null, .null])) := (dq_Un (by decide)).trans o9
  refine dq_putF (D := D) (ci := 8) (v := .ref (ad8 110)) (ty := (.array .int)) (C := RMo) (T := TMo) (N := 29) hx hb hts hinMo tyMo tyMo_ok nmMo hown hK hW hS 100 a110 rfl 10 (by decide) hf31 (fun _ h9 => h9) rfl hnm rfl (by decide +kernel) rfl rfl (Nat.le_of_ble_eq_true rfl) dMo_init_65 (fun H locs hW hS => ?_)
  obtain ⟨w8, hw8⟩ : ∃ wz, wz = dq_U (dq_U w7 110 (.inl (g 0, 14, .inl (fun _ => 0)))) 100 (.inr (8, [.int 0, .int 0, .ref (ad1 102), .ref (ad2 103), .ref (ad3 104), .int 0, .ref (ad4 106), .ref (ad5 107), .ref (ad6 108), .ref (ad7 109), .ref (ad8 110), .null, .int 0, .null, .int 0, .int 0, .null, .null, .null, .null, .int 0, .null, .long 0, .null, .null, .null, .null, .null, .null])) := ⟨_, rfl⟩
  have hW : dq_W D vwCl ad8 w8 A H := by rw [hw8]; exact hW
  have o9 : w8 100 = some (.inr (8, [.int 0, .int 0, .ref (ad1 102), .ref (ad2 103), .ref (ad3 104), .int 0, .ref (ad4 106), .ref (ad5 107), .ref (ad6 108), .ref (ad7 109), .ref (ad8 110), .null, .int 0, .null, .int 0, .int 0, .null, .null, .null, .null, .int 0, .null, .long 0, .null, .null, .null, .null, .null, .null])) := by rw [hw8]; exact dq_Us
  have b110 : w8 110 = some (.inl (g 0, 14, .inl (fun _ => 0))) := by rw [hw8]; exact (dq_Un (by decide)).trans dq_Us
  have fr8 : ∀ j, j ≠ 100 → j ≠ 110 → w8 j = w7 j := fun j h1 h2 => by rw [hw8, dq_Un h1, dq_Un h2]
  clear hw8 a110
  refine lv_aload_n hx hb dMo_init_68 rfl (lv_at hl 0 rfl) ?_
  refine lv_bipush (v := (14)) hx hb dMo_init_69 (by decide) ?_
  refine dq_newz (N := 14) hx hb (hts _ (List.mem_cons_of_mem _ tw1_106)) hK hW hS hA 111 1 rfl (by decide) (by decide) (by decide) (by simp only []; omega) (by simp only []; omega) dMo_init_71 (fun q9 H hW hS => ?_)
  have had9 : ∀ j, j ≠ 111 → va_up ad8 111 q9 j = ad8 j := fun j h => va_up_ne _ _ h
  have hq9 : va_up ad8 111 q9 111 = q9 := va_up_self _ _ _
  generalize va_up ad8 111 q9 = ad9 at hW had9 hq9
  subst hq9
  refine W.widen (k := 9) (n := 132) (by omega) (by omega) ?_
  refine W.eq (g2 := F0 m 73 ls [.ref (ad9 111), .ref (ad9 100)]) (by rw [had9 100 (by decide)]) ?_
  have hl : lv_has ls 2 [(0, .ref (ad9 100)), (1, .int a0)] := by rw [had9 100 (by decide)]; exact hl
  have a111 : dq_U w8 111 (.inl (g 1, 14, .inl (fun _ => 0))) 100 = some (.inr (8, [.int 0, .int 0, .ref (ad1 102), .ref (ad2 103), .ref (ad3 104), .int 0, .ref (ad4 106), .ref (ad5 107), .ref (ad6 108), .ref (ad7 109), .ref (ad8 110), .null, .int 0, .null, .int 0, .int 0, .null, .null, .null, .null, .int 0, .null, .long 0, .null, .null, .null, .null, .null, .null])) := (dq_Un (by decide)).trans o9
  refine dq_putF (D := D) (ci := 8) (v := .ref (ad9 111)) (ty := (.array .boolean)) (C := RMo) (T := TMo) (N := 29) hx hb hts hinMo tyMo tyMo_ok nmMo hown hK hW hS 100 a111 rfl 11 (by decide) hf34 (fun _ h9 => h9) rfl hnm rfl (by decide +kernel) rfl rfl (Nat.le_of_ble_eq_true rfl) dMo_init_73 (fun H locs hW hS => ?_)
  obtain ⟨w9, hw9⟩ : ∃ wz, wz = dq_U (dq_U w8 111 (.inl (g 1, 14, .inl (fun _ => 0)))) 100 (.inr (8, [.int 0, .int 0, .ref (ad1 102), .ref (ad2 103), .ref (ad3 104), .int 0, .ref (ad4 106), .ref (ad5 107), .ref (ad6 108), .ref (ad7 109), .ref (ad8 110), .ref (ad9 111), .int 0, .null, .int 0, .int 0, .null, .null, .null, .null, .int 0, .null, .long 0, .null, .null, .null, .null, .null, .null])) := ⟨_, rfl⟩
  have hW : dq_W D vwCl ad9 w9 A H := by rw [hw9]; exact hW
  have o9 : w9 100 = some (.inr (8, [.int 0, .int 0, .ref (ad1 102), .ref (ad2 103), .ref (ad3 104), .int 0, .ref (ad4 106), .ref (ad5 107), .ref (ad6 108), .ref (ad7 109), .ref (ad8 110), .ref (ad9 111), .int 0, .null, .int 0, .int 0, .null, .null, .null, .null, .int 0, .null, .long 0, .null, .null, .null, .null, .null, .null])) := by rw [hw9]; exact dq_Us
  have b111 : w9 111 = some (.inl (g 1, 14, .inl (fun _ => 0))) := by rw [hw9]; exact (dq_Un (by decide)).trans dq_Us
  have fr9 : ∀ j, j ≠ 100 → j ≠ 111 → w9 j = w8 j := fun j h1 h2 => by rw [hw9, dq_Un h1, dq_Un h2]
  clear hw9 a111
  refine lv_aload_n hx hb dMo_init_76 rfl (lv_at hl 0 rfl) ?_
  refine lv_bipush (v := (24)) hx hb dMo_init_77 (by decide) ?_
  refine dq_newi (N := 24) hx hb (hts _ (List.mem_cons_of_mem _ tw1_68)) hK hW hS hA 113 0 rfl (by decide) (by decide) (by decide) (by simp only []; omega) (by simp only []; omega) dMo_init_79 (fun q9 H hW hS => ?_)
  have had10 : ∀ j, j ≠ 113 → va_up ad9 113 q9 j = ad9 j := fun j h => va_up_ne _ _ h
  have hq9 : va_up ad9 113 q9 113 = q9 := va_up_self _ _ _
  generalize va_up ad9 113 q9 = ad10 at hW had10 hq9
  subst hq9
  refine W.widen (k := 10) (n := 156) (by omega) (by omega) ?_
  refine W.eq (g2 := F0 m 81 ls [.ref (ad10 113), .ref (ad10 100)]) (by rw [had10 100 (by decide)]) ?_
  have hl : lv_has ls 2 [(0, .ref (ad10 100)), (1, .int a0)] := by rw [had10 100 (by decide)]; exact hl
  have a113 : dq_U w9 113 (.inl (g 0, 24, .inl (fun _ => 0))) 100 = some (.inr (8, [.int 0, .int 0, .ref (ad1 102), .ref (ad2 103), .ref (ad3 104), .int 0, .ref (ad4 106), .ref (ad5 107), .ref (ad6 108), .ref (ad7 109), .ref (ad8 110), .ref (ad9 111), .int 0, .null, .int 0, .int 0, .null, .null, .null, .null, .int 0, .null, .long 0, .null, .null, .null, .null, .null, .null])) := (dq_Un (by decide)).trans o9
  refine dq_putF (D := D) (ci := 8) (v := .ref (ad10 113)) (ty := (.array .int)) (C := RMo) (T := TMo) (N := 29) hx hb hts hinMo tyMo tyMo_ok nmMo hown hK hW hS 100 a113 rfl 13 (by decide) hf38 (fun _ h9 => h9) rfl hnm rfl (by decide +kernel) rfl rfl (Nat.le_of_ble_eq_true rfl) dMo_init_81 (fun H locs hW hS => ?_)
  obtain ⟨w10, hw10⟩ : ∃ wz, wz = dq_U (dq_U w9 113 (.inl (g 0, 24, .inl (fun _ => 0)))) 100 (.inr (8, [.int 0, .int 0, .ref (ad1 102), .ref (ad2 103), .ref (ad3 104), .int 0, .ref (ad4 106), .ref (ad5 107), .ref (ad6 108), .ref (ad7 109), .ref (ad8 110), .ref (ad9 111), .int 0, .ref (ad10 113), .int 0, .int 0, .null, .null, .null, .null, .int 0, .null, .long 0, .null, .null, .null, .null, .null, .null])) := ⟨_, rfl⟩
  have hW : dq_W D vwCl ad10 w10 A H := by rw [hw10]; exact hW
  have o9 : w10 100 = some (.inr (8, [.int 0, .int 0, .ref (ad1 102), .ref (ad2 103), .ref (ad3 104), .int 0, .ref (ad4 106), .ref (ad5 107), .ref (ad6 108), .ref (ad7 109), .ref (ad8 110), .ref (ad9 111), .int 0, .ref (ad10 113), .int 0, .int 0, .null, .null, .null, .null, .int 0, .null, .long 0, .null, .null, .null, .null, .null, .null])) := by rw [hw10]; exact dq_Us
  have b113 : w10 113 = some (.inl (g 0, 24, .inl (fun _ => 0))) := by rw [hw10]; exact (dq_Un (by decide)).trans dq_Us
  have fr10 : ∀ j, j ≠ 100 → j ≠ 113 → w10 j = w9 j := fun j h1 h2 => by rw [hw10, dq_Un h1, dq_Un h2]
  clear hw10 a113
  refine lv_aload_n hx hb dMo_init_84 rfl (lv_at hl 0 rfl) ?_
  refine lv_bipush (v := (14)) hx hb dMo_init_85 (by decide) ?_
  refine dq_newi (N := 14) hx hb (hts _ (List.mem_cons_of_mem _ tw1_68)) hK hW hS hA 116 0 rfl (by decide) (by decide) (by decide) (by simp only []; omega) (by simp only []; omega) dMo_init_87 (fun q9 H hW hS => ?_)
  have had11 : ∀ j, j ≠ 116 → va_up ad10 116 q9 j = ad10 j := fun j h => va_up_ne _ _ h
  have hq9 : va_up ad10 116 q9 116 = q9 := va_up_self _ _ _
  generalize va_up ad10 116 q9 = ad11 at hW had11 hq9
  subst hq9
  refine W.widen (k := 11) (n := 170) (by omega) (by omega) ?_
  refine W.eq (g2 := F0 m 89 ls [.ref (ad11 116), .ref (ad11 100)]) (by rw [had11 100 (by decide)]) ?_
  have hl : lv_has ls 2 [(0, .ref (ad11 100)), (1, .int a0)] := by rw [had11 100 (by decide)]; exact hl
  have a116 : dq_U w10 116 (.inl (g 0, 14, .inl (fun _ => 0))) 100 = some (.inr (8, [.int 0, .int 0, .ref (ad1 102), .ref (ad2 103), .ref (ad3 104), .int 0, .ref (ad4 106), .ref (ad5 107), .ref (ad6 108), .ref (ad7 109), .ref (ad8 110), .ref (ad9 111), .int 0, .ref (ad10 113), .int 0, .int 0, .null, .null, .null, .null, .int 0, .null, .long 0, .null, .null, .null, .null, .null, .null])) := (dq_Un (by decide)).trans o9
  refine dq_putF (D := D) (ci := 8) (v := .ref (ad11 116)) (ty := (.array .int)) (C := RMo) (T := TMo) (N := 29) hx hb hts hinMo tyMo tyMo_ok nmMo hown hK hW hS 100 a116 rfl 16 (by decide) hf41 (fun _ h9 => h9) rfl hnm rfl (by decide +kernel) rfl rfl (Nat.le_of_ble_eq_true rfl) dMo_init_89 (fun H locs hW hS => ?_)
  obtain ⟨w11, hw11⟩ : ∃ wz, wz = dq_U (dq_U w10 116 (.inl (g 0, 14, .inl (fun _ => 0)))) 100 (.inr (8, [.int 0, .int 0, .ref (ad1 102), .ref (ad2 103), .ref (ad3 104), .int 0, .ref (ad4 106), .ref (ad5 107), .ref (ad6 108), .ref (ad7 109), .ref (ad8 110), .ref (ad9 111), .int 0, .ref (ad10 113), .int 0, .int 0, .ref (ad11 116), .null, .null, .null, .int 0, .null, .long 0, .null, .null, .null, .null, .null, .null])) := ⟨_, rfl⟩
  have hW : dq_W D vwCl ad11 w11 A H := by rw [hw11]; exact hW
  have o9 : w11 100 = some (.inr (8, [.int 0, .int 0, .ref (ad1 102), .ref (ad2 103), .ref (ad3 104), .int 0, .ref (ad4 106), .ref (ad5 107), .ref (ad6 108), .ref (ad7 109), .ref (ad8 110), .ref (ad9 111), .int 0, .ref (ad10 113), .int 0, .int 0, .ref (ad11 116), .null, .null, .null, .int 0, .null, .long 0, .null, .null, .null, .null, .null, .null])) := by rw [hw11]; exact dq_Us
  have b116 : w11 116 = some (.inl (g 0, 14, .inl (fun _ => 0))) := by rw [hw11]; exact (dq_Un (by decide)).trans dq_Us
  have fr11 : ∀ j, j ≠ 100 → j ≠ 116 → w11 j = w10 j := fun j h1 h2 => by rw [hw11, dq_Un h1, dq_Un h2]
  clear hw11 a116
  refine lv_aload_n hx hb dMo_init_92 rfl (lv_at hl 0 rfl) ?_
  refine lv_bipush (v := (14)) hx hb dMo_init_93 (by decide) ?_
  refine dq_newi (N := 14) hx hb (hts _ (List.mem_cons_of_mem _ tw1_68)) hK hW hS hA 117 0 rfl (by decide) (by decide) (by decide) (by simp only []; omega) (by simp only []; omega) dMo_init_95 (fun q9 H hW hS => ?_)
  have had12 : ∀ j, j ≠ 117 → va_up ad11 117 q9 j = ad11 j := fun j h => va_up_ne _ _ h
  have hq9 : va_up ad11 117 q9 117 = q9 := va_up_self _ _ _
  generalize va_up ad11 117 q9 = ad12 at hW had12 hq9
  subst hq9
  refine W.widen (k := 12) (n := 184) (by omega) (by omega) ?_
  refine W.eq (g2 := F0 m 97 ls [.ref (ad12 117), .ref (ad12 100)]) (by rw [had12 100 (by decide)]) ?_
  have hl : lv_has ls 2 [(0, .ref (ad12 100)), (1, .int a0)] := by rw [had12 100 (by decide)]; exact hl
  have a117 : dq_U w11 117 (.inl (g 0, 14, .inl (fun _ => 0))) 100 = some (.inr (8, [.int 0, .int 0, .ref (ad1 102), .ref (ad2 103), .ref (ad3 104), .int 0, .ref (ad4 106), .ref (ad5 107), .ref (ad6 108), .ref (ad7 109), .ref (ad8 110), .ref (ad9 111), .int 0, .ref (ad10 113), .int 0, .int 0, .ref (ad11 116), .null, .null, .null, .int 0, .null, .long 0, .null, .null, .null, .null, .null, .null])) := (dq_Un (by decide)).trans o9
  refine dq_putF (D := D) (ci := 8) (v := .ref (ad12 117)) (ty := (.array .int)) (C := RMo) (T := TMo) (N := 29) hx hb hts hinMo tyMo tyMo_ok nmMo hown hK hW hS 100 a117 rfl 17 (by decide) hf44 (fun _ h9 => h9) rfl hnm rfl (by decide +kernel) rfl rfl (Nat.le_of_ble_eq_true rfl) dMo_init_97 (fun H locs hW hS => ?_)
  obtain ⟨w12, hw12⟩ : ∃ wz, wz = dq_U (dq_U w11 117 (.inl (g 0, 14, .inl (fun _ => 0)))) 100 (.inr (8, [.int 0, .int 0, .ref (ad1 102), .ref (ad2 103), .ref (ad3 104), .int 0, .ref (ad4 106), .ref (ad5 107), .ref (ad6 108), .ref (ad7 109), .ref (ad8 110), .ref (ad9 111), .int 0, .ref (ad10 113), .int 0, .int 0, .ref (ad11 116), .ref (ad12 117), .null, .null, .int 0, .null, .long 0, .null, .null, .null, .null, .null, .null])) := ⟨_, rfl⟩
  have hW : dq_W D vwCl ad12 w12 A H := by rw [hw12]; exact hW
  have o9 : w12 100 = some (.inr (8, [.int 0, .int 0, .ref (ad1 102), .ref (ad2 103), .ref (ad3 104), .int 0, .ref (ad4 106), .ref (ad5 107), .ref (ad6 108), .ref (ad7 109), .ref (ad8 110), .ref (ad9 111), .int 0, .ref (ad10 113), .int 0, .int 0, .ref (ad11 116), .ref (ad12 117), .null, .null, .int 0, .null, .long 0, .null, .null, .null, .null, .null, .null])) := by rw [hw12]; exact dq_Us
  have b117 : w12 117 = some (.inl (g 0, 14, .inl (fun _ => 0))) := by rw [hw12]; exact (dq_Un (by decide)).trans dq_Us
  have fr12 : ∀ j, j ≠ 100 → j ≠ 117 → w12 j = w11 j := fun j h1 h2 => by rw [hw12, dq_Un h1, dq_Un h2]
  clear hw12 a117
  refine lv_aload_n hx hb dMo_init_100 rfl (lv_at hl 0 rfl) ?_
  refine lv_bipush (v := (14)) hx hb dMo_init_101 (by decide) ?_
  refine dq_newi (N := 14) hx hb (hts _ (List.mem_cons_of_mem _ tw1_68)) hK hW hS hA 118 0 rfl (by decide) (by decide) (by decide) (by simp only []; omega) (by simp only []; omega) dMo_init_103 (fun q9 H hW hS => ?_)
  have had13 : ∀ j, j ≠ 118 → va_up ad12 118 q9 j = ad12 j := fun j h => va_up_ne _ _ h
  have hq9 : va_up ad12 118 q9 118 = q9 := va_up_self _ _ _
  generalize va_up ad12 118 q9 = ad13 at hW had13 hq9
  subst hq9
  refine W.widen (k := 13) (n := 198) (by omega) (by omega) ?_
  refine W.eq (g2 := F0 m 105 ls [.ref (ad13 118), .ref (ad13 100)]) (by rw [had13 100 (by decide)]) ?_
  have hl : lv_has ls 2 [(0, .ref (ad13 100)), (1, .int a0)] := by rw [had13 100 (by decide)]; exact hl
  have a118 : dq_U w12 118 (.inl (g 0, 14, .inl (fun _ => 0))) 100 = some (.inr (8, [.int 0, .int 0, .ref (ad1 102), .ref (ad2 103), .ref (ad3 104), .int 0, .ref (ad4 106), .ref (ad5 107), .ref (ad6 108), .ref (ad7 109), .ref (ad8 110), .ref (ad9 111), .int 0, .ref (ad10 113), .int 0, .int 0, .ref (ad11 116), .ref (ad12 117), .null, .null, .int 0, .null, .long 0, .null, .null, .null, .null, .null, .null])) := (dq_Un (by decide)).trans o9
  refine dq_putF (D := D) (ci := 8) (v := .ref (ad13 118)) (ty := (.array .int)) (C := RMo) (T := TMo) (N := 29) hx hb hts hinMo tyMo tyMo_ok nmMo hown hK hW hS 100 a118 rfl 18 (by decide) hf47 (fun _ h9 => h9) rfl hnm rfl (by decide +kernel) rfl rfl (Nat.le_of_ble_eq_true rfl) dMo_init_105 (fun H locs hW hS => ?_)
  obtain ⟨w13, hw13⟩ : ∃ wz, wz = dq_U (dq_U w12 118 (.inl (g 0, 14, .inl (fun _ => 0)))) 100 (.inr (8, [.int 0, .int 0, .ref (ad1 102), .ref (ad2 103), .ref (ad3 104), .int 0, .ref (ad4 106), .ref (ad5 107), .ref (ad6 108), .ref (ad7 109), .ref (ad8 110), .ref (ad9 111), .int 0, .ref (ad10 113), .int 0, .int 0, .ref (ad11 116), .ref (ad12 117), .ref (ad13 118), .null, .int 0, .null, .long 0, .null, .null, .null, .null, .null, .null])) := ⟨_, rfl⟩
  have hW : dq_W D vwCl ad13 w13 A H := by rw [hw13]; exact hW
  have o9 : w13 100 = some (.inr (8, [.int 0, .int 0, .ref (ad1 102), .ref (ad2 103), .ref (ad3 104), .int 0, .ref (ad4 106), .ref (ad5 107), .ref (ad6 108), .ref (ad7 109), .ref (ad8 110), .ref (ad9 111), .int 0, .ref (ad10 113), .int 0, .int 0, .ref (ad11 116), .ref (ad12 117), .ref (ad13 118), .null, .int 0, .null, .long 0, .null, .null, .null, .null, .null, .null])) := by rw [hw13]; exact dq_Us
  have b118 : w13 118 = some (.inl (g 0, 14, .inl (fun _ => 0))) := by rw [hw13]; exact (dq_Un (by decide)).trans dq_Us
  have fr13 : ∀ j, j ≠ 100 → j ≠ 118 → w13 j = w12 j := fun j h1 h2 => by rw [hw13, dq_Un h1, dq_Un h2]
  clear hw13 a118
  refine lv_aload_n hx hb dMo_init_108 rfl (lv_at hl 0 rfl) ?_
  refine lv_bipush (v := (14)) hx hb dMo_init_109 (by decide) ?_
  refine dq_newi (N := 14) hx hb (hts _ (List.mem_cons_of_mem _ tw1_68)) hK hW hS hA 119 0 rfl (by decide) (by decide) (by decide) (by simp only []; omega) (by simp only []; omega) dMo_init_111 (fun q9 H hW hS => ?_)
  have had14 : ∀ j, j ≠ 119 → va_up ad13 119 q9 j = ad13 j := fun j h => va_up_ne _ _ h
  have hq9 : va_up ad13 119 q9 119 = q9 := va_up_self _ _ _
  generalize va_up ad13 119 q9 = ad14 at hW had14 hq9
  subst hq9
  refine W.widen (k := 14) (n := 212) (by omega) (by omega) ?_
  refine W.eq (g2 := F0 m 113 ls [.ref (ad14 119), .ref (ad14 100)]) (by rw [had14 100 (by decide)]) ?_
  have hl : lv_has ls 2 [(0, .ref (ad14 100)), (1, .int a0)] := by rw [had14 100 (by decide)]; exact hl
  have a119 : dq_U w13 119 (.inl (g 0, 14, .inl (fun _ => 0))) 100 = some (.inr (8, [.int 0, .int 0, .ref (ad1 102), .ref (ad2 103), .ref (ad3 104), .int 0, .ref (ad4 106), .ref (ad5 107), .ref (ad6 108), .ref (ad7 109), .ref (ad8 110), .ref (ad9 111), .int 0, .ref (ad10 113), .int 0, .int 0, .ref (ad11 116), .ref (ad12 117), .ref (ad13 118), .null, .int 0, .null, .long 0, .null, .null, .null, .null, .null, .null])) := (dq_Un (by decide)).trans o9
  refine dq_putF (D := D) (ci := 8) (v := .ref (ad14 119)) (ty := (.array .int)) (C := RMo) (T := TMo) (N := 29) hx hb hts hinMo tyMo tyMo_ok nmMo hown hK hW hS 100 a119 rfl 19 (by decide) hf50 (fun _ h9 => h9) rfl hnm rfl (by decide +kernel) rfl rfl (Nat.le_of_ble_eq_true rfl) dMo_init_113 (fun H locs hW hS => ?_)
  obtain ⟨w14, hw14⟩ : ∃ wz, wz = dq_U (dq_U w13 119 (.inl (g 0, 14, .inl (fun _ => 0)))) 100 (.inr (8, [.int 0, .int 0, .ref (ad1 102), .ref (ad2 103), .ref (ad3 104), .int 0, .ref (ad4 106), .ref (ad5 107), .ref (ad6 108), .ref (ad7 109), .ref (ad8 110), .ref (ad9 111), .int 0, .ref (ad10 113), .int 0, .int 0, .ref (ad11 116), .ref (ad12 117), .ref (ad13 118), .ref (ad14 119), .int 0, .null, .long 0, .null, .null, .null, .null, .null, .null])) := ⟨_, rfl⟩
  have hW : dq_W D vwCl ad14 w14 A H := by rw [hw14]; exact hW
  have o9 : w14 100 = some (.inr (8, [.int 0, .int 0, .ref (ad1 102), .ref (ad2 103), .ref (ad3 104), .int 0, .ref (ad4 106), .ref (ad5 107), .ref (ad6 108), .ref (ad7 109), .ref (ad8 110), .ref (ad9 111), .int 0, .ref (ad10 113), .int 0, .int 0, .ref (ad11 116), .ref (ad12 117), .ref (ad13 118), .ref (ad14 119), .int 0, .null, .long 0, .null, .null, .null, .null, .null, .null])) := by rw [hw14]; exact dq_Us
  have b119 : w14 119 = some (.inl (g 0, 14, .inl (fun _ => 0))) := by rw [hw14]; exact (dq_Un (by decide)).trans dq_Us
  have fr14 : ∀ j, j ≠ 100 → j ≠ 119 → w14 j = w13 j := fun j h1 h2 => by rw [hw14, dq_Un h1, dq_Un h2]
  clear hw14 a119
  refine lv_aload_n hx hb dMo_init_116 rfl (lv_at hl 0 rfl) ?_
  refine lv_bipush (v := (14)) hx hb dMo_init_117 (by decide) ?_
  refine dq_newi (N := 14) hx hb (hts _ (List.mem_cons_of_mem _ tw1_68)) hK hW hS hA 121 0 rfl (by decide) (by decide) (by decide) (by simp only []; omega) (by simp only []; omega) dMo_init_119 (fun q9 H hW hS => ?_)
  have had15 : ∀ j, j ≠ 121 → va_up ad14 121 q9 j = ad14 j := fun j h => va_up_ne _ _ h
  have hq9 : va_up ad14 121 q9 121 = q9 := va_up_self _ _ _
  generalize va_up ad14 121 q9 = ad15 at hW had15 hq9
  subst hq9
  refine W.widen (k := 15) (n := 226) (by omega) (by omega) ?_
  refine W.eq (g2 := F0 m 121 ls [.ref (ad15 121), .ref (ad15 100)]) (by rw [had15 100 (by decide)]) ?_
  have hl : lv_has ls 2 [(0, .ref (ad15 100)), (1, .int a0)] := by rw [had15 100 (by decide)]; exact hl
  have a121 : dq_U w14 121 (.inl (g 0, 14, .inl (fun _ => 0))) 100 = some (.inr (8, [.int 0, .int 0, .ref (ad1 102), .ref (ad2 103), .ref (ad3 104), .int 0, .ref (ad4 106), .ref (ad5 107), .ref (ad6 108), .ref (ad7 109), .ref (ad8 110), .ref (ad9 111), .int 0, .ref (ad10 113), .int 0, .int 0, .ref (ad11 116), .ref (ad12 117), .ref (ad13 118), .ref (ad14 119), .int 0, .null, .long 0, .null, .null, .null, .null, .null, .null])) := (dq_Un (by decide)).trans o9
  refine dq_putF (D := D) (ci := 8) (v := .ref (ad15 121)) (ty := (.array .int)) (C := RMo) (T := TMo) (N := 29) hx hb hts hinMo tyMo tyMo_ok nmMo hown hK hW hS 100 a121 rfl 21 (by decide) hf53 (fun _ h9 => h9) rfl hnm rfl (by decide +kernel) rfl rfl (Nat.le_of_ble_eq_true rfl) dMo_init_121 (fun H locs hW hS => ?_)
  obtain ⟨w15, hw15⟩ : ∃ wz, wz = dq_U (dq_U w14 121 (.inl (g 0, 14, .inl (fun _ => 0)))) 100 (.inr (8, [.int 0, .int 0, .ref (ad1 102), .ref (ad2 103), .ref (ad3 104), .int 0, .ref (ad4 106), .ref (ad5 107), .ref (ad6 108), .ref (ad7 109), .ref (ad8 110), .ref (ad9 111), .int 0, .ref (ad10 113), .int 0, .int 0, .ref (ad11 116), .ref (ad12 117), .ref (ad13 118), .ref (ad14 119), .int 0, .ref (ad15 121), .long 0, .null, .null, .null, .null, .null, .null])) := ⟨_, rfl⟩
  have hW : dq_W D vwCl ad15 w15 A H := by rw [hw15]; exact hW
  have o9 : w15 100 = some (.inr (8, [.int 0, .int 0, .ref (ad1 102), .ref (ad2 103), .ref (ad3 104), .int 0, .ref (ad4 106), .ref (ad5 107), .ref (ad6 108), .ref (ad7 109), .ref (ad8 110), .ref (ad9 111), .int 0, .ref (ad10 113), .int 0, .int 0, .ref (ad11 116), .ref (ad12 117), .ref (ad13 118), .ref (ad14 119), .int 0, .ref (ad15 121), .long 0, .null, .null, .null, .null, .null, .null])) := by rw [hw15]; exact dq_Us
  have b121 : w15 121 = some (.inl (g 0, 14, .inl (fun _ => 0))) := by rw [hw15]; exact (dq_Un (by decide)).trans dq_Us
  have fr15 : ∀ j, j ≠ 100 → j ≠ 121 → w15 j = w14 j := fun j h1 h2 => by rw [hw15, dq_Un h1, dq_Un h2]
  clear hw15 a121
  refine lv_aload_n hx hb dMo_init_124 rfl (lv_at hl 0 rfl) ?_
  refine lv_sipush (v := (16384)) hx hb dMo_init_125 (by decide) ?_
  refine dq_newi (N := 16384) hx hb (hts _ (List.mem_cons_of_mem _ tw1_68)) hK hW hS hA 123 0 rfl (by decide) (by decide) (by decide) (by simp only []; omega) (by simp only []; omega) dMo_init_128 (fun q9 H hW hS => ?_)
  have had16 : ∀ j, j ≠ 123 → va_up ad15 123 q9 j = ad15 j := fun j h => va_up_ne _ _ h
  have hq9 : va_up ad15 123 q9 123 = q9 := va_up_self _ _ _
  generalize va_up ad15 123 q9 = ad16 at hW had16 hq9
  subst hq9
  refine W.widen (k := 16) (n := 16610) (by omega) (by omega) ?_
  refine W.eq (g2 := F0 m 130 ls [.ref (ad16 123), .ref (ad16 100)]) (by rw [had16 100 (by decide)]) ?_
  have hl : lv_has ls 2 [(0, .ref (ad16 100)), (1, .int a0)] := by rw [had16 100 (by decide)]; exact hl
  have a123 : dq_U w15 123 (.inl (g 0, 16384, .inl (fun _ => 0))) 100 = some (.inr (8, [.int 0, .int 0, .ref (ad1 102), .ref (ad2 103), .ref (ad3 104), .int 0, .ref (ad4 106), .ref (ad5 107), .ref (ad6 108), .ref (ad7 109), .ref (ad8 110), .ref (ad9 111), .int 0, .ref (ad10 113), .int 0, .int 0, .ref (ad11 116), .ref (ad12 117), .ref (ad13 118), .ref (ad14 119), .int 0, .ref (ad15 121), .long 0, .null, .null, .null, .null, .null, .null])) := (dq_Un (by decide)).trans o9
  refine dq_putF (D := D) (ci := 8) (v := .ref (ad16 123)) (ty := (.array .int)) (C := RMo) (T := TMo) (N := 29) hx hb hts hinMo tyMo tyMo_ok nmMo hown hK hW hS 100 a123 rfl 23 (by decide) hf56 (fun _ h9 => h9) rfl hnm rfl (by decide +kernel) rfl rfl (Nat.le_of_ble_eq_true rfl) dMo_init_130 (fun H locs hW hS => ?_)
  obtain ⟨w16, hw16⟩ : ∃ wz, wz = dq_U (dq_U w15 123 (.inl (g 0, 16384, .inl (fun _ => 0)))) 100 (.inr (8, [.int 0, .int 0, .ref (ad1 102), .ref (ad2 103), .ref (ad3 104), .int 0, .ref (ad4 106), .ref (ad5 107), .ref (ad6 108), .ref (ad7 109), .ref (ad8 110), .ref (ad9 111), .int 0, .ref (ad10 113), .int 0, .int 0, .ref (ad11 116), .ref (ad12 117), .ref (ad13 118), .ref (ad14 119), .int 0, .ref (ad15 121), .long 0, .ref (ad16 123), .null, .null, .null, .null, .null])) := ⟨_, rfl⟩
  have hW : dq_W D vwCl ad16 w16 A H := by rw [hw16]; exact hW
  have o9 : w16 100 = some (.inr (8, [.int 0, .int 0, .ref (ad1 102), .ref (ad2 103), .ref (ad3 104), .int 0, .ref (ad4 106), .ref (ad5 107), .ref (ad6 108), .ref (ad7 109), .ref (ad8 110), .ref (ad9 111), .int 0, .ref (ad10 113), .int 0, .int 0, .ref (ad11 116), .ref (ad12 117), .ref (ad13 118), .ref (ad14 119), .int 0, .ref (ad15 121), .long 0, .ref (ad16 123), .null, .null, .null, .null, .null])) := by rw [hw16]; exact dq_Us
  have b123 : w16 123 = some (.inl (g 0, 16384, .inl (fun _ => 0))) := by rw [hw16]; exact (dq_Un (by decide)).trans dq_Us
  have fr16 : ∀ j, j ≠ 100 → j ≠ 123 → w16 j = w15 j := fun j h1 h2 => by rw [hw16, dq_Un h1, dq_Un h2]
  clear hw16 a123
  refine lv_aload_n hx hb dMo_init_133 rfl (lv_at hl 0 rfl) ?_
  refine lv_sipush (v := (224)) hx hb dMo_init_134 (by decide) ?_
  refine dq_newi (N := 224) hx hb (hts _ (List.mem_cons_of_mem _ tw1_68)) hK hW hS hA 124 0 rfl (by decide) (by decide) (by decide) (by simp only []; omega) (by simp only []; omega) dMo_init_137 (fun q9 H hW hS => ?_)
  have had17 : ∀ j, j ≠ 124 → va_up ad16 124 q9 j = ad16 j := fun j h => va_up_ne _ _ h
  have hq9 : va_up ad16 124 q9 124 = q9 := va_up_self _ _ _
  generalize va_up ad16 124 q9 = ad17 at hW had17 hq9
  subst hq9
  refine W.widen (k := 17) (n := 16834) (by omega) (by omega) ?_
  refine W.eq (g2 := F0 m 139 ls [.ref (ad17 124), .ref (ad17 100)]) (by rw [had17 100 (by decide)]) ?_
  have hl : lv_has ls 2 [(0, .ref (ad17 100)), (1, .int a0)] := by rw [had17 100 (by decide)]; exact hl
  have a124 : dq_U w16 124 (.inl (g 0, 224, .inl (fun _ => 0))) 100 = some (.inr (8, [.int 0, .int 0, .ref (ad1 102), .ref (ad2 103), .ref (ad3 104), .int 0, .ref (ad4 106), .ref (ad5 107), .ref (ad6 108), .ref (ad7 109), .ref (ad8 110), .ref (ad9 111), .int 0, .ref (ad10 113), .int 0, .int 0, .ref (ad11 116), .ref (ad12 117), .ref (ad13 118), .ref (ad14 119), .int 0, .ref (ad15 121), .long 0, .ref (ad16 123), .null, .null, .null, .null, .null])) := (dq_Un (by decide)).trans o9
  refine dq_putF (D := D) (ci := 8) (v := .ref (ad17 124)) (ty := (.array .int)) (C := RMo) (T := TMo) (N := 29) hx hb hts hinMo tyMo tyMo_ok nmMo hown hK hW hS 100 a124 rfl 24 (by decide) hf59 (fun _ h9 => h9) rfl hnm rfl (by decide +kernel) rfl rfl (Nat.le_of_ble_eq_true rfl) dMo_init_139 (fun H locs hW hS => ?_)
  obtain ⟨w17, hw17⟩ : ∃ wz, wz = dq_U (dq_U w16 124 (.inl (g 0, 224, .inl (fun _ => 0)))) 100 (.inr (8, [.int 0, .int 0, .ref (ad1 102), .ref (ad2 103), .ref (ad3 104), .int 0, .ref (ad4 106), .ref (ad5 107), .ref (ad6 108), .ref (ad7 109), .ref (ad8 110), .ref (ad9 111), .int 0, .ref (ad10 113), .int 0, .int 0, .ref (ad11 116), .ref (ad12 117), .ref (ad13 118), .ref (ad14 119), .int 0, .ref (ad15 121), .long 0, .ref (ad16 123), .ref (ad17 124), .null, .null, .null, .null])) := ⟨_, rfl⟩
  have hW : dq_W D vwCl ad17 w17 A H := by rw [hw17]; exact hW
  have o9 : w17 100 = some (.inr (8, [.int 0, .int 0, .ref (ad1 102), .ref (ad2 103), .ref (ad3 104), .int 0, .ref (ad4 106), .ref (ad5 107), .ref (ad6 108), .ref (ad7 109), .ref (ad8 110), .ref (ad9 111), .int 0, .ref (ad10 113), .int 0, .int 0, .ref (ad11 116), .ref (ad12 117), .ref (ad13 118), .ref (ad14 119), .int 0, .ref (ad15 121), .long 0, .ref (ad16 123), .ref (ad17 124), .null, .null, .null, .null])) := by rw [hw17]; exact dq_Us
  have b124 : w17 124 = some (.inl (g 0, 224, .inl (fun _ => 0))) := by rw [hw17]; exact (dq_Un (by decide)).trans dq_Us
  have fr17 : ∀ j, j ≠ 100 → j ≠ 124 → w17 j = w16 j := fun j h1 h2 => by rw [hw17, dq_Un h1, dq_Un h2]
  clear hw17 a124
  refine lv_aload_n hx hb dMo_init_142 rfl (lv_at hl 0 rfl) ?_
  refine lv_sipush (v := (224)) hx hb dMo_init_143 (by decide) ?_
  refine dq_newi (N := 224) hx hb (hts _ (List.mem_cons_of_mem _ tw1_68)) hK hW hS hA 125 0 rfl (by decide) (by decide) (by decide) (by simp only []; omega) (by simp only []; omega) dMo_init_146 (fun q9 H hW hS => ?_)
  have had18 : ∀ j, j ≠ 125 → va_up ad17 125 q9 j = ad17 j := fun j h => va_up_ne _ _ h
  have hq9 : va_up ad17 125 q9 125 = q9 := va_up_self _ _ _
  generalize va_up ad17 125 q9 = ad18 at hW had18 hq9
  subst hq9
  refine W.widen (k := 18) (n := 17058) (by omega) (by omega) ?_
  refine W.eq (g2 := F0 m 148 ls [.ref (ad18 125), .ref (ad18 100)]) (by rw [had18 100 (by decide)]) ?_
  have hl : lv_has ls 2 [(0, .ref (ad18 100)), (1, .int a0)] := by rw [had18 100 (by decide)]; exact hl
  have a125 : dq_U w17 125 (.inl (g 0, 224, .inl (fun _ => 0))) 100 = some (.inr (8, [.int 0, .int 0, .ref (ad1 102), .ref (ad2 103), .ref (ad3 104), .int 0, .ref (ad4 106), .ref (ad5 107), .ref (ad6 108), .ref (ad7 109), .ref (ad8 110), .ref (ad9 111), .int 0, .ref (ad10 113), .int 0, .int 0, .ref (ad11 116), .ref (ad12 117), .ref (ad13 118), .ref (ad14 119), .int 0, .ref (ad15 121), .long 0, .ref (ad16 123), .ref (ad17 124), .null, .null, .null, .null])) := (dq_Un (by decide)).trans o9
  refine dq_putF (D := D) (ci := 8) (v := .ref (ad18 125)) (ty := (.array .int)) (C := RMo) (T := TMo) (N := 29) hx hb hts hinMo tyMo tyMo_ok nmMo hown hK hW hS 100 a125 rfl 25 (by decide) hf62 (fun _ h9 => h9) rfl hnm rfl (by decide +kernel) rfl rfl (Nat.le_of_ble_eq_true rfl) dMo_init_148 (fun H locs hW hS => ?_)
  obtain ⟨w18, hw18⟩ : ∃ wz, wz = dq_U (dq_U w17 125 (.inl (g 0, 224, .inl (fun _ => 0)))) 100 (.inr (8, [.int 0, .int 0, .ref (ad1 102), .ref (ad2 103), .ref (ad3 104), .int 0, .ref (ad4 106), .ref (ad5 107), .ref (ad6 108), .ref (ad7 109), .ref (ad8 110), .ref (ad9 111), .int 0, .ref (ad10 113), .int 0, .int 0, .ref (ad11 116), .ref (ad12 117), .ref (ad13 118), .ref (ad14 119), .int 0, .ref (ad15 121), .long 0, .ref (ad16 123), .ref (ad17 124), .ref (ad18 125), .null, .null, .null])) := ⟨_, rfl⟩
  have hW : dq_W D vwCl ad18 w18 A H := by rw [hw18]; exact hW
  have o9 : w18 100 = some (.inr (8, [.int 0, .int 0, .ref (ad1 102), .ref (ad2 103), .ref (ad3 104), .int 0, .ref (ad4 106), .ref (ad5 107), .ref (ad6 108), .ref (ad7 109), .ref (ad8 110), .ref (ad9 111), .int 0, .ref (ad10 113), .int 0, .int 0, .ref (ad11 116), .ref (ad12 117), .ref (ad13 118), .ref (ad14 119), .int 0, .ref (ad15 121), .long 0, .ref (ad16 123), .ref (ad17 124), .ref (ad18 125), .null, .null, .null])) := by rw [hw18]; exact dq_Us
  have b125 : w18 125 = some (.inl (g 0, 224, .inl (fun _ => 0))) := by rw [hw18]; exact (dq_Un (by decide)).trans dq_Us
  have fr18 : ∀ j, j ≠ 100 → j ≠ 125 → w18 j = w17 j := fun j h1 h2 => by rw [hw18, dq_Un h1, dq_Un h2]
  clear hw18 a125
  refine lv_aload_n hx hb dMo_init_151 rfl (lv_at hl 0 rfl) ?_
  refine lv_sipush (v := (224)) hx hb dMo_init_152 (by decide) ?_
  refine dq_newi (N := 224) hx hb (hts _ (List.mem_cons_of_mem _ tw1_68)) hK hW hS hA 126 0 rfl (by decide) (by decide) (by decide) (by simp only []; omega) (by simp only []; omega) dMo_init_155 (fun q9 H hW hS => ?_)
  have had19 : ∀ j, j ≠ 126 → va_up ad18 126 q9 j = ad18 j := fun j h => va_up_ne _ _ h
  have hq9 : va_up ad18 126 q9 126 = q9 := va_up_self _ _ _
  generalize va_up ad18 126 q9 = ad19 at hW had19 hq9
  subst hq9
  refine W.widen (k := 19) (n := 17282) (by omega) (by omega) ?_
  refine W.eq (g2 := F0 m 157 ls [.ref (ad19 126), .ref (ad19 100)]) (by rw [had19 100 (by decide)]) ?_
  have hl : lv_has ls 2 [(0, .ref (ad19 100)), (1, .int a0)] := by rw [had19 100 (by decide)]; exact hl
  have a126 : dq_U w18 126 (.inl (g 0, 224, .inl (fun _ => 0))) 100 = some (.inr (8, [.int 0, .int 0, .ref (ad1 102), .ref (ad2 103), .ref (ad3 104), .int 0, .ref (ad4 106), .ref (ad5 107), .ref (ad6 108), .ref (ad7 109), .ref (ad8 110), .ref (ad9 111), .int 0, .ref (ad10 113), .int 0, .int 0, .ref (ad11 116), .ref (ad12 117), .ref (ad13 118), .ref (ad14 119), .int 0, .ref (ad15 121), .long 0, .ref (ad16 123), .ref (ad17 124), .ref (ad18 125), .null, .null, .null])) := (dq_Un (by decide)).trans o9
  refine dq_putF (D := D) (ci := 8) (v := .ref (ad19 126)) (ty := (.array .int)) (C := RMo) (T := TMo) (N := 29) hx hb hts hinMo tyMo tyMo_ok nmMo hown hK hW hS 100 a126 rfl 26 (by decide) hf65 (fun _ h9 => h9) rfl hnm rfl (by decide +kernel) rfl rfl (Nat.le_of_ble_eq_true rfl) dMo_init_157 (fun H locs hW hS => ?_)
  obtain ⟨w19, hw19⟩ : ∃ wz, wz = dq_U (dq_U w18 126 (.inl (g 0, 224, .inl (fun _ => 0)))) 100 (.inr (8, [.int 0, .int 0, .ref (ad1 102), .ref (ad2 103), .ref (ad3 104), .int 0, .ref (ad4 106), .ref (ad5 107), .ref (ad6 108), .ref (ad7 109), .ref (ad8 110), .ref (ad9 111), .int 0, .ref (ad10 113), .int 0, .int 0, .ref (ad11 116), .ref (ad12 117), .ref (ad13 118), .ref (ad14 119), .int 0, .ref (ad15 121), .long 0, .ref (ad16 123), .ref (ad17 124), .ref (ad18 125), .ref (ad19 126), .null, .null])) := ⟨_, rfl⟩
  have hW : dq_W D vwCl ad19 w19 A H := by rw [hw19]; exact hW
  have o9 : w19 100 = some (.inr (8, [.int 0, .int 0, .ref (ad1 102), .ref (ad2 103), .ref (ad3 104), .int 0, .ref (ad4 106), .ref (ad5 107), .ref (ad6 108), .ref (ad7 109), .ref (ad8 110), .ref (ad9 111), .int 0, .ref (ad10 113), .int 0, .int 0, .ref (ad11 116), .ref (ad12 117), .ref (ad13 118), .ref (ad14 119), .int 0, .ref (ad15 121), .long 0, .ref (ad16 123), .ref (ad17 124), .ref (ad18 125), .ref (ad19 126), .null, .null])) := by rw [hw19]; exact dq_Us
  have b126 : w19 126 = some (.inl (g 0, 224, .inl (fun _ => 0))) := by rw [hw19]; exact (dq_Un (by decide)).trans dq_Us
  have fr19 : ∀ j, j ≠ 100 → j ≠ 126 → w19 j = w18 j := fun j h1 h2 => by rw [hw19, dq_Un h1, dq_Un h2]
  clear hw19 a126
  refine lv_aload_n hx hb dMo_init_160 rfl (lv_at hl 0 rfl) ?_
  refine lv_bipush (v := (14)) hx hb dMo_init_161 (by decide) ?_
  refine dq_newi (N := 14) hx hb (hts _ (List.mem_cons_of_mem _ tw1_68)) hK hW hS hA 127 0 rfl (by decide) (by decide) (by decide) (by simp only []; omega) (by simp only []; omega) dMo_init_163 (fun q9 H hW hS => ?_)
  have had20 : ∀ j, j ≠ 127 → va_up ad19 127 q9 j = ad19 j := fun j h => va_up_ne _ _ h
  have hq9 : va_up ad19 127 q9 127 = q9 := va_up_self _ _ _
  generalize va_up ad19 127 q9 = ad20 at hW had20 hq9
  subst hq9
  refine W.widen (k := 20) (n := 17296) (by omega) (by omega) ?_
  refine W.eq (g2 := F0 m 165 ls [.ref (ad20 127), .ref (ad20 100)]) (by rw [had20 100 (by decide)]) ?_
  have hl : lv_has ls 2 [(0, .ref (ad20 100)), (1, .int a0)] := by rw [had20 100 (by decide)]; exact hl
  have a127 : dq_U w19 127 (.inl (g 0, 14, .inl (fun _ => 0))) 100 = some (.inr (8, [.int 0, .int 0, .ref (ad1 102), .ref (ad2 103), .ref (ad3 104), .int 0, .ref (ad4 106), .ref (ad5 107), .ref (ad6 108), .ref (ad7 109), .ref (ad8 110), .ref (ad9 111), .int 0, .ref (ad10 113), .int 0, .int 0, .ref (ad11 116), .ref (ad12 117), .ref (ad13 118), .ref (ad14 119), .int 0, .ref (ad15 121), .long 0, .ref (ad16 123), .ref (ad17 124), .ref (ad18 125), .ref (ad19 126), .null, .null])) := (dq_Un (by decide)).trans o9
  refine dq_putF (D := D) (ci := 8) (v := .ref (ad20 127)) (ty := (.array .int)) (C := RMo) (T := TMo) (N := 29) hx hb hts hinMo tyMo tyMo_ok nmMo hown hK hW hS 100 a127 rfl 27 (by decide) hf68 (fun _ h9 => h9) rfl hnm rfl (by decide +kernel) rfl rfl (Nat.le_of_ble_eq_true rfl) dMo_init_165 (fun H locs hW hS => ?_)
  obtain ⟨w20, hw20⟩ : ∃ wz, wz = dq_U (dq_U w19 127 (.inl (g 0, 14, .inl (fun _ => 0)))) 100 (.inr (8, [.int 0, .int 0, .ref (ad1 102), .ref (ad2 103), .ref (ad3 104), .int 0, .ref (ad4 106), .ref (ad5 107), .ref (ad6 108), .ref (ad7 109), .ref (ad8 110), .ref (ad9 111), .int 0, .ref (ad10 113), .int 0, .int 0, .ref (ad11 116), .ref (ad12 117), .ref (ad13 118), .ref (ad14 119), .int 0, .ref (ad15 121), .long 0, .ref (ad16 123), .ref (ad17 124), .ref (ad18 125), .ref (ad19 126), .ref (ad20 127), .null])) := ⟨_, rfl⟩
  have hW : dq_W D vwCl ad20 w20 A H := by rw [hw20]; exact hW
  have o9 : w20 100 = some (.inr (8, [.int 0, .int 0, .ref (ad1 102), .ref (ad2 103), .ref (ad3 104), .int 0, .ref (ad4 106), .ref (ad5 107), .ref (ad6 108), .ref (ad7 109), .ref (ad8 110), .ref (ad9 111), .int 0, .ref (ad10 113), .int 0, .int 0, .ref (ad11 116), .ref (ad12 117), .ref (ad13 118), .ref (ad14 119), .int 0, .ref (ad15 121), .long 0, .ref (ad16 123), .ref (ad17 124), .ref (ad18 125), .ref (ad19 126), .ref (ad20 127), .null])) := by rw [hw20]; exact dq_Us
  have b127 : w20 127 = some (.inl (g 0, 14, .inl (fun _ => 0))) := by rw [hw20]; exact (dq_Un (by decide)).trans dq_Us
  have fr20 : ∀ j, j ≠ 100 → j ≠ 127 → w20 j = w19 j := fun j h1 h2 => by rw [hw20, dq_Un h1, dq_Un h2]
  clear hw20 a127
  refine lv_aload_n hx hb dMo_init_168 rfl (lv_at hl 0 rfl) ?_
  refine lv_sipush (v := (10240)) hx hb dMo_init_169 (by decide) ?_
  refine dq_newl (N := 10240) hx hb (hts _ (List.mem_cons_of_mem _ tw4_2)) hK hW hS hA 128 2 rfl (by decide) (by decide) (by decide) (by simp only []; omega) (by simp only []; omega) dMo_init_172 (fun q9 H hW hS => ?_)
  have had21 : ∀ j, j ≠ 128 → va_up ad20 128 q9 j = ad20 j := fun j h => va_up_ne _ _ h
  have hq9 : va_up ad20 128 q9 128 = q9 := va_up_self _ _ _
  generalize va_up ad20 128 q9 = ad21 at hW had21 hq9
  subst hq9
  refine W.widen (k := 21) (n := 27536) (by omega) (by omega) ?_
  refine W.eq (g2 := F0 m 174 ls [.ref (ad21 128), .ref (ad21 100)]) (by rw [had21 100 (by decide)]) ?_
  have hl : lv_has ls 2 [(0, .ref (ad21 100)), (1, .int a0)] := by rw [had21 100 (by decide)]; exact hl
  have a128 : dq_U w20 128 (.inl (g 2, 10240, .inr (.inl (fun _ => 0)))) 100 = some (.inr (8, [.int 0, .int 0, .ref (ad1 102), .ref (ad2 103), .ref (ad3 104), .int 0, .ref (ad4 106), .ref (ad5 107), .ref (ad6 108), .ref (ad7 109), .ref (ad8 110), .ref (ad9 111), .int 0, .ref (ad10 113), .int 0, .int 0, .ref (ad11 116), .ref (ad12 117), .ref (ad13 118), .ref (ad14 119), .int 0, .ref (ad15 121), .long 0, .ref (ad16 123), .ref (ad17 124), .ref (ad18 125), .ref (ad19 126), .ref (ad20 127), .null])) := (dq_Un (by decide)).trans o9
  refine dq_putF (D := D) (ci := 8) (v := .ref (ad21 128)) (ty := (.array .long)) (C := RMo) (T := TMo) (N := 29) hx hb hts hinMo tyMo tyMo_ok nmMo hown hK hW hS 100 a128 rfl 28 (by decide) hf71 (fun _ h9 => h9) rfl hnm rfl (by decide +kernel) rfl rfl (Nat.le_of_ble_eq_true rfl) dMo_init_174 (fun H locs hW hS => ?_)
  obtain ⟨w21, hw21⟩ : ∃ wz, wz = dq_U (dq_U w20 128 (.inl (g 2, 10240, .inr (.inl (fun _ => 0))))) 100 (.inr (8, [.int 0, .int 0, .ref (ad1 102), .ref (ad2 103), .ref (ad3 104), .int 0, .ref (ad4 106), .ref (ad5 107), .ref (ad6 108), .ref (ad7 109), .ref (ad8 110), .ref (ad9 111), .int 0, .ref (ad10 113), .int 0, .int 0, .ref (ad11 116), .ref (ad12 117), .ref (ad13 118), .ref (ad14 119), .int 0, .ref (ad15 121), .long 0, .ref (ad16 123), .ref (ad17 124), .ref (ad18 125), .ref (ad19 126), .ref (ad20 127), .ref (ad21 128)])) := ⟨_, rfl⟩
  have hW : dq_W D vwCl ad21 w21 A H := by rw [hw21]; exact hW
  have o9 : w21 100 = some (.inr (8, [.int 0, .int 0, .ref (ad1 102), .ref (ad2 103), .ref (ad3 104), .int 0, .ref (ad4 106), .ref (ad5 107), .ref (ad6 108), .ref (ad7 109), .ref (ad8 110), .ref (ad9 111), .int 0, .ref (ad10 113), .int 0, .int 0, .ref (ad11 116), .ref (ad12 117), .ref (ad13 118), .ref (ad14 119), .int 0, .ref (ad15 121), .long 0, .ref (ad16 123), .ref (ad17 124), .ref (ad18 125), .ref (ad19 126), .ref (ad20 127), .ref (ad21 128)])) := by rw [hw21]; exact dq_Us
  have b128 : w21 128 = some (.inl (g 2, 10240, .inr (.inl (fun _ => 0)))) := by rw [hw21]; exact (dq_Un (by decide)).trans dq_Us
  have fr21 : ∀ j, j ≠ 100 → j ≠ 128 → w21 j = w20 j := fun j h1 h2 => by rw [hw21, dq_Un h1, dq_Un h2]
  clear hw21 a128
  refine lv_aload_n hx hb dMo_init_177 rfl (lv_at hl 0 rfl) ?_
  refine lv_iload_n hx hb dMo_init_178 rfl (lv_at hl 1 rfl) ?_
  refine lv_iconst (v := (1)) hx hb dMo_init_179 (by decide) ?_
  have J : ∀ (ls : Array Slot), lv_has ls 2 [(0, .ref (ad21 100)), (1, .int a0)] → W p l e ({ frames := 1, cells := 21, slots := 27536, locals := 24 } : Room) s m ([.ref (ad 100), .int a0] : List Value).toArray below meth c H locs 21 27536 Q (F0 m 199 ls [.int (nI (mo_n a0)), .ref (ad21 100)]) := by
    intro  ls   hl
    refine dq_putF (D := D) (ci := 8) (v := .int (nI (mo_n a0))) (ty := .int) (C := RMo) (T := TMo) (N := 29) hx hb hts hinMo tyMo tyMo_ok nmMo hown hK hW hS 100 o9 rfl 1 (by decide) hf75 (fun _ h9 => h9) rfl hnm rfl (by decide +kernel) rfl rfl (Nat.le_of_ble_eq_true rfl) dMo_init_199 (fun H locs hW hS => ?_)
    obtain ⟨wF, hwF⟩ : ∃ wz, wz = dq_U w21 100 (.inr (8, [.int 0, .int (nI (mo_n a0)), .ref (ad1 102), .ref (ad2 103), .ref (ad3 104), .int 0, .ref (ad4 106), .ref (ad5 107), .ref (ad6 108), .ref (ad7 109), .ref (ad8 110), .ref (ad9 111), .int 0, .ref (ad10 113), .int 0, .int 0, .ref (ad11 116), .ref (ad12 117), .ref (ad13 118), .ref (ad14 119), .int 0, .ref (ad15 121), .long 0, .ref (ad16 123), .ref (ad17 124), .ref (ad18 125), .ref (ad19 126), .ref (ad20 127), .ref (ad21 128)])) := ⟨_, rfl⟩
    have hW : dq_W D vwCl ad21 wF A H := by rw [hwF]; exact hW
    have o9 : wF 100 = some (.inr (8, [.int 0, .int (nI (mo_n a0)), .ref (ad1 102), .ref (ad2 103), .ref (ad3 104), .int 0, .ref (ad4 106), .ref (ad5 107), .ref (ad6 108), .ref (ad7 109), .ref (ad8 110), .ref (ad9 111), .int 0, .ref (ad10 113), .int 0, .int 0, .ref (ad11 116), .ref (ad12 117), .ref (ad13 118), .ref (ad14 119), .int 0, .ref (ad15 121), .long 0, .ref (ad16 123), .ref (ad17 124), .ref (ad18 125), .ref (ad19 126), .ref (ad20 127), .ref (ad21 128)])) := by rw [hwF]; exact dq_Us
    have frF : ∀ j, j ≠ 100 → wF j = w21 j := fun j h1 => by rw [hwF, dq_Un h1]
    have x102 : ad21 102 = ad1 102 := by rw [had21 102 (by decide), had20 102 (by decide), had19 102 (by decide), had18 102 (by decide), had17 102 (by decide), had16 102 (by decide), had15 102 (by decide), had14 102 (by decide), had13 102 (by decide), had12 102 (by decide), had11 102 (by decide), had10 102 (by decide), had9 102 (by decide), had8 102 (by decide), had7 102 (by decide), had6 102 (by decide), had5 102 (by decide), had4 102 (by decide), had3 102 (by decide), had2 102 (by decide)]
    have y102 : wF 102 = some (.inl (g 0, 16, .inl (fun _ => 0))) := by rw [frF 102 (by decide), fr21 102 (by decide) (by decide), fr20 102 (by decide) (by decide), fr19 102 (by decide) (by decide), fr18 102 (by decide) (by decide), fr17 102 (by decide) (by decide), fr16 102 (by decide) (by decide), fr15 102 (by decide) (by decide), fr14 102 (by decide) (by decide), fr13 102 (by decide) (by decide), fr12 102 (by decide) (by decide), fr11 102 (by decide) (by decide), fr10 102 (by decide) (by decide), fr9 102 (by decide) (by decide), fr8 102 (by decide) (by decide), fr7 102 (by decide) (by decide), fr6 102 (by decide) (by decide), fr5 102 (by decide) (by decide), fr4 102 (by decide) (by decide), fr3 102 (by decide) (by decide), fr2 102 (by decide) (by decide)]; exact b102
    have x103 : ad21 103 = ad2 103 := by rw [had21 103 (by decide), had20 103 (by decide), had19 103 (by decide), had18 103 (by decide), had17 103 (by decide), had16 103 (by decide), had15 103 (by decide), had14 103 (by decide), had13 103 (by decide), had12 103 (by decide), had11 103 (by decide), had10 103 (by decide), had9 103 (by decide), had8 103 (by decide), had7 103 (by decide), had6 103 (by decide), had5 103 (by decide), had4 103 (by decide), had3 103 (by decide)]
    have y103 : wF 103 = some (.inl (g 0, 16, .inl (fun _ => 0))) := by rw [frF 103 (by decide), fr21 103 (by decide) (by decide), fr20 103 (by decide) (by decide), fr19 103 (by decide) (by decide), fr18 103 (by decide) (by decide), fr17 103 (by decide) (by decide), fr16 103 (by decide) (by decide), fr15 103 (by decide) (by decide), fr14 103 (by decide) (by decide), fr13 103 (by decide) (by decide), fr12 103 (by decide) (by decide), fr11 103 (by decide) (by decide), fr10 103 (by decide) (by decide), fr9 103 (by decide) (by decide), fr8 103 (by decide) (by decide), fr7 103 (by decide) (by decide), fr6 103 (by decide) (by decide), fr5 103 (by decide) (by decide), fr4 103 (by decide) (by decide), fr3 103 (by decide) (by decide)]; exact b103
    have x104 : ad21 104 = ad3 104 := by rw [had21 104 (by decide), had20 104 (by decide), had19 104 (by decide), had18 104 (by decide), had17 104 (by decide), had16 104 (by decide), had15 104 (by decide), had14 104 (by decide), had13 104 (by decide), had12 104 (by decide), had11 104 (by decide), had10 104 (by decide), had9 104 (by decide), had8 104 (by decide), had7 104 (by decide), had6 104 (by decide), had5 104 (by decide), had4 104 (by decide)]
    have y104 : wF 104 = some (.inl (g 0, 16, .inl (fun _ => 0))) := by rw [frF 104 (by decide), fr21 104 (by decide) (by decide), fr20 104 (by decide) (by decide), fr19 104 (by decide) (by decide), fr18 104 (by decide) (by decide), fr17 104 (by decide) (by decide), fr16 104 (by decide) (by decide), fr15 104 (by decide) (by decide), fr14 104 (by decide) (by decide), fr13 104 (by decide) (by decide), fr12 104 (by decide) (by decide), fr11 104 (by decide) (by decide), fr10 104 (by decide) (by decide), fr9 104 (by decide) (by decide), fr8 104 (by decide) (by decide), fr7 104 (by decide) (by decide), fr6 104 (by decide) (by decide), fr5 104 (by decide) (by decide), fr4 104 (by decide) (by decide)]; exact b104
    have x106 : ad21 106 = ad4 106 := by rw [had21 106 (by decide), had20 106 (by decide), had19 106 (by decide), had18 106 (by decide), had17 106 (by decide), had16 106 (by decide), had15 106 (by decide), had14 106 (by decide), had13 106 (by decide), had12 106 (by decide), had11 106 (by decide), had10 106 (by decide), had9 106 (by decide), had8 106 (by decide), had7 106 (by decide), had6 106 (by decide), had5 106 (by decide)]
    have y106 : wF 106 = some (.inl (g 0, 14, .inl (fun _ => 0))) := by rw [frF 106 (by decide), fr21 106 (by decide) (by decide), fr20 106 (by decide) (by decide), fr19 106 (by decide) (by decide), fr18 106 (by decide) (by decide), fr17 106 (by decide) (by decide), fr16 106 (by decide) (by decide), fr15 106 (by decide) (by decide), fr14 106 (by decide) (by decide), fr13 106 (by decide) (by decide), fr12 106 (by decide) (by decide), fr11 106 (by decide) (by decide), fr10 106 (by decide) (by decide), fr9 106 (by decide) (by decide), fr8 106 (by decide) (by decide), fr7 106 (by decide) (by decide), fr6 106 (by decide) (by decide), fr5 106 (by decide) (by decide)]; exact b106
    have x107 : ad21 107 = ad5 107 := by rw [had21 107 (by decide), had20 107 (by decide), had19 107 (by decide), had18 107 (by decide), had17 107 (by decide), had16 107 (by decide), had15 107 (by decide), had14 107 (by decide), had13 107 (by decide), had12 107 (by decide), had11 107 (by decide), had10 107 (by decide), had9 107 (by decide), had8 107 (by decide), had7 107 (by decide), had6 107 (by decide)]
    have y107 : wF 107 = some (.inl (g 0, 14, .inl (fun _ => 0))) := by rw [frF 107 (by decide), fr21 107 (by decide) (by decide), fr20 107 (by decide) (by decide), fr19 107 (by decide) (by decide), fr18 107 (by decide) (by decide), fr17 107 (by decide) (by decide), fr16 107 (by decide) (by decide), fr15 107 (by decide) (by decide), fr14 107 (by decide) (by decide), fr13 107 (by decide) (by decide), fr12 107 (by decide) (by decide), fr11 107 (by decide) (by decide), fr10 107 (by decide) (by decide), fr9 107 (by decide) (by decide), fr8 107 (by decide) (by decide), fr7 107 (by decide) (by decide), fr6 107 (by decide) (by decide)]; exact b107
    have x108 : ad21 108 = ad6 108 := by rw [had21 108 (by decide), had20 108 (by decide), had19 108 (by decide), had18 108 (by decide), had17 108 (by decide), had16 108 (by decide), had15 108 (by decide), had14 108 (by decide), had13 108 (by decide), had12 108 (by decide), had11 108 (by decide), had10 108 (by decide), had9 108 (by decide), had8 108 (by decide), had7 108 (by decide)]
    have y108 : wF 108 = some (.inl (g 0, 14, .inl (fun _ => 0))) := by rw [frF 108 (by decide), fr21 108 (by decide) (by decide), fr20 108 (by decide) (by decide), fr19 108 (by decide) (by decide), fr18 108 (by decide) (by decide), fr17 108 (by decide) (by decide), fr16 108 (by decide) (by decide), fr15 108 (by decide) (by decide), fr14 108 (by decide) (by decide), fr13 108 (by decide) (by decide), fr12 108 (by decide) (by decide), fr11 108 (by decide) (by decide), fr10 108 (by decide) (by decide), fr9 108 (by decide) (by decide), fr8 108 (by decide) (by decide), fr7 108 (by decide) (by decide)]; exact b108
    have x109 : ad21 109 = ad7 109 := by rw [had21 109 (by decide), had20 109 (by decide), had19 109 (by decide), had18 109 (by decide), had17 109 (by decide), had16 109 (by decide), had15 109 (by decide), had14 109 (by decide), had13 109 (by decide), had12 109 (by decide), had11 109 (by decide), had10 109 (by decide), had9 109 (by decide), had8 109 (by decide)]
    have y109 : wF 109 = some (.inl (g 0, 14, .inl (fun _ => 0))) := by rw [frF 109 (by decide), fr21 109 (by decide) (by decide), fr20 109 (by decide) (by decide), fr19 109 (by decide) (by decide), fr18 109 (by decide) (by decide), fr17 109 (by decide) (by decide), fr16 109 (by decide) (by decide), fr15 109 (by decide) (by decide), fr14 109 (by decide) (by decide), fr13 109 (by decide) (by decide), fr12 109 (by decide) (by decide), fr11 109 (by decide) (by decide), fr10 109 (by decide) (by decide), fr9 109 (by decide) (by decide), fr8 109 (by decide) (by decide)]; exact b109
    have x110 : ad21 110 = ad8 110 := by rw [had21 110 (by decide), had20 110 (by decide), had19 110 (by decide), had18 110 (by decide), had17 110 (by decide), had16 110 (by decide), had15 110 (by decide), had14 110 (by decide), had13 110 (by decide), had12 110 (by decide), had11 110 (by decide), had10 110 (by decide), had9 110 (by decide)]
    have y110 : wF 110 = some (.inl (g 0, 14, .inl (fun _ => 0))) := by rw [frF 110 (by decide), fr21 110 (by decide) (by decide), fr20 110 (by decide) (by decide), fr19 110 (by decide) (by decide), fr18 110 (by decide) (by decide), fr17 110 (by decide) (by decide), fr16 110 (by decide) (by decide), fr15 110 (by decide) (by decide), fr14 110 (by decide) (by decide), fr13 110 (by decide) (by decide), fr12 110 (by decide) (by decide), fr11 110 (by decide) (by decide), fr10 110 (by decide) (by decide), fr9 110 (by decide) (by decide)]; exact b110
    have x111 : ad21 111 = ad9 111 := by rw [had21 111 (by decide), had20 111 (by decide), had19 111 (by decide), had18 111 (by decide), had17 111 (by decide), had16 111 (by decide), had15 111 (by decide), had14 111 (by decide), had13 111 (by decide), had12 111 (by decide), had11 111 (by decide), had10 111 (by decide)]
    have y111 : wF 111 = some (.inl (g 1, 14, .inl (fun _ => 0))) := by rw [frF 111 (by decide), fr21 111 (by decide) (by decide), fr20 111 (by decide) (by decide), fr19 111 (by decide) (by decide), fr18 111 (by decide) (by decide), fr17 111 (by decide) (by decide), fr16 111 (by decide) (by decide), fr15 111 (by decide) (by decide), fr14 111 (by decide) (by decide), fr13 111 (by decide) (by decide), fr12 111 (by decide) (by decide), fr11 111 (by decide) (by decide), fr10 111 (by decide) (by decide)]; exact b111
    have x113 : ad21 113 = ad10 113 := by rw [had21 113 (by decide), had20 113 (by decide), had19 113 (by decide), had18 113 (by decide), had17 113 (by decide), had16 113 (by decide), had15 113 (by decide), had14 113 (by decide), had13 113 (by decide), had12 113 (by decide), had11 113 (by decide)]
    have y113 : wF 113 = some (.inl (g 0, 24, .inl (fun _ => 0))) := by rw [frF 113 (by decide), fr21 113 (by decide) (by decide), fr20 113 (by decide) (by decide), fr19 113 (by decide) (by decide), fr18 113 (by decide) (by decide), fr17 113 (by decide) (by decide), fr16 113 (by decide) (by decide), fr15 113 (by decide) (by decide), fr14 113 (by decide) (by decide), fr13 113 (by decide) (by decide), fr12 113 (by decide) (by decide), fr11 113 (by decide) (by decide)]; exact b113
    have x116 : ad21 116 = ad11 116 := by rw [had21 116 (by decide), had20 116 (by decide), had19 116 (by decide), had18 116 (by decide), had17 116 (by decide), had16 116 (by decide), had15 116 (by decide), had14 116 (by decide), had13 116 (by decide), had12 116 (by decide)]
    have y116 : wF 116 = some (.inl (g 0, 14, .inl (fun _ => 0))) := by rw [frF 116 (by decide), fr21 116 (by decide) (by decide), fr20 116 (by decide) (by decide), fr19 116 (by decide) (by decide), fr18 116 (by decide) (by decide), fr17 116 (by decide) (by decide), fr16 116 (by decide) (by decide), fr15 116 (by decide) (by decide), fr14 116 (by decide) (by decide), fr13 116 (by decide) (by decide), fr12 116 (by decide) (by decide)]; exact b116
    have x117 : ad21 117 = ad12 117 := by rw [had21 117 (by decide), had20 117 (by decide), had19 117 (by decide), had18 117 (by decide), had17 117 (by decide), had16 117 (by decide), had15 117 (by decide), had14 117 (by decide), had13 117 (by decide)]
    have y117 : wF 117 = some (.inl (g 0, 14, .inl (fun _ => 0))) := by rw [frF 117 (by decide), fr21 117 (by decide) (by decide), fr20 117 (by decide) (by decide), fr19 117 (by decide) (by decide), fr18 117 (by decide) (by decide), fr17 117 (by decide) (by decide), fr16 117 (by decide) (by decide), fr15 117 (by decide) (by decide), fr14 117 (by decide) (by decide), fr13 117 (by decide) (by decide)]; exact b117
    have x118 : ad21 118 = ad13 118 := by rw [had21 118 (by decide), had20 118 (by decide), had19 118 (by decide), had18 118 (by decide), had17 118 (by decide), had16 118 (by decide), had15 118 (by decide), had14 118 (by decide)]
    have y118 : wF 118 = some (.inl (g 0, 14, .inl (fun _ => 0))) := by rw [frF 118 (by decide), fr21 118 (by decide) (by decide), fr20 118 (by decide) (by decide), fr19 118 (by decide) (by decide), fr18 118 (by decide) (by decide), fr17 118 (by decide) (by decide), fr16 118 (by decide) (by decide), fr15 118 (by decide) (by decide), fr14 118 (by decide) (by decide)]; exact b118
    have x119 : ad21 119 = ad14 119 := by rw [had21 119 (by decide), had20 119 (by decide), had19 119 (by decide), had18 119 (by decide), had17 119 (by decide), had16 119 (by decide), had15 119 (by decide)]
    have y119 : wF 119 = some (.inl (g 0, 14, .inl (fun _ => 0))) := by rw [frF 119 (by decide), fr21 119 (by decide) (by decide), fr20 119 (by decide) (by decide), fr19 119 (by decide) (by decide), fr18 119 (by decide) (by decide), fr17 119 (by decide) (by decide), fr16 119 (by decide) (by decide), fr15 119 (by decide) (by decide)]; exact b119
    have x121 : ad21 121 = ad15 121 := by rw [had21 121 (by decide), had20 121 (by decide), had19 121 (by decide), had18 121 (by decide), had17 121 (by decide), had16 121 (by decide)]
    have y121 : wF 121 = some (.inl (g 0, 14, .inl (fun _ => 0))) := by rw [frF 121 (by decide), fr21 121 (by decide) (by decide), fr20 121 (by decide) (by decide), fr19 121 (by decide) (by decide), fr18 121 (by decide) (by decide), fr17 121 (by decide) (by decide), fr16 121 (by decide) (by decide)]; exact b121
    have x123 : ad21 123 = ad16 123 := by rw [had21 123 (by decide), had20 123 (by decide), had19 123 (by decide), had18 123 (by decide), had17 123 (by decide)]
    have y123 : wF 123 = some (.inl (g 0, 16384, .inl (fun _ => 0))) := by rw [frF 123 (by decide), fr21 123 (by decide) (by decide), fr20 123 (by decide) (by decide), fr19 123 (by decide) (by decide), fr18 123 (by decide) (by decide), fr17 123 (by decide) (by decide)]; exact b123
    have x124 : ad21 124 = ad17 124 := by rw [had21 124 (by decide), had20 124 (by decide), had19 124 (by decide), had18 124 (by decide)]
    have y124 : wF 124 = some (.inl (g 0, 224, .inl (fun _ => 0))) := by rw [frF 124 (by decide), fr21 124 (by decide) (by decide), fr20 124 (by decide) (by decide), fr19 124 (by decide) (by decide), fr18 124 (by decide) (by decide)]; exact b124
    have x125 : ad21 125 = ad18 125 := by rw [had21 125 (by decide), had20 125 (by decide), had19 125 (by decide)]
    have y125 : wF 125 = some (.inl (g 0, 224, .inl (fun _ => 0))) := by rw [frF 125 (by decide), fr21 125 (by decide) (by decide), fr20 125 (by decide) (by decide), fr19 125 (by decide) (by decide)]; exact b125
    have x126 : ad21 126 = ad19 126 := by rw [had21 126 (by decide), had20 126 (by decide)]
    have y126 : wF 126 = some (.inl (g 0, 224, .inl (fun _ => 0))) := by rw [frF 126 (by decide), fr21 126 (by decide) (by decide), fr20 126 (by decide) (by decide)]; exact b126
    have x127 : ad21 127 = ad20 127 := by rw [had21 127 (by decide)]
    have y127 : wF 127 = some (.inl (g 0, 14, .inl (fun _ => 0))) := by rw [frF 127 (by decide), fr21 127 (by decide) (by decide)]; exact b127
    have y128 : wF 128 = some (.inl (g 2, 10240, .inr (.inl (fun _ => 0)))) := by rw [frF 128 (by decide)]; exact b128
    have y100 : wF 100 = some (.inr (8, [.int 0, .int (nI (mo_n a0)), .ref (ad21 102), .ref (ad21 103), .ref (ad21 104), .int 0, .ref (ad21 106), .ref (ad21 107), .ref (ad21 108), .ref (ad21 109), .ref (ad21 110), .ref (ad21 111), .int 0, .ref (ad21 113), .int 0, .int 0, .ref (ad21 116), .ref (ad21 117), .ref (ad21 118), .ref (ad21 119), .int 0, .ref (ad21 121), .long 0, .ref (ad21 123), .ref (ad21 124), .ref (ad21 125), .ref (ad21 126), .ref (ad21 127), .ref (ad21 128)])) := by rw [x102, x103, x104, x106, x107, x108, x109, x110, x111, x113, x116, x117, x118, x119, x121, x123, x124, x125, x126, x127]; exact o9
    refine W.widen (k := 21) (n := 27536) (by omega) (by omega) ?_
    exact hret (ad21, wF) _ _ _ _ ⟨fun j hj => by show ad21 j = _; rw [had21 j (by omega), had20 j (by omega), had19 j (by omega), had18 j (by omega), had17 j (by omega), had16 j (by omega), had15 j (by omega), had14 j (by omega), had13 j (by omega), had12 j (by omega), had11 j (by omega), had10 j (by omega), had9 j (by omega), had8 j (by omega), had7 j (by omega), had6 j (by omega), had5 j (by omega), had4 j (by omega), had3 j (by omega), had2 j (by omega), had1 j (by omega)], fun j hj => by show wF j = _; rw [frF j (by omega), fr21 j (by omega) (by omega), fr20 j (by omega) (by omega), fr19 j (by omega) (by omega), fr18 j (by omega) (by omega), fr17 j (by omega) (by omega), fr16 j (by omega) (by omega), fr15 j (by omega) (by omega), fr14 j (by omega) (by omega), fr13 j (by omega) (by omega), fr12 j (by omega) (by omega), fr11 j (by omega) (by omega), fr10 j (by omega) (by omega), fr9 j (by omega) (by omega), fr8 j (by omega) (by omega), fr7 j (by omega) (by omega), fr6 j (by omega) (by omega), fr5 j (by omega) (by omega), fr4 j (by omega) (by omega), fr3 j (by omega) (by omega), fr2 j (by omega) (by omega), fr1 j (by omega) (by omega)], y100, y102, y103, y104, y106, y107, y108, y109, y110, y111, y113, y116, y117, y118, y119, y121, y123, y124, y125, y126, y127, y128⟩ hW hS dMo_init_202
  refine lv_icmp_ge (tgt := 187) hx hb dMo_init_180 (by decide) (fun c1 => ?_) (fun c1 => ?_)
  · refine lv_iload_n hx hb dMo_init_187 rfl (lv_at hl 1 rfl) ?_
    refine lv_bipush (v := (16)) hx hb dMo_init_188 (by decide) ?_
    refine lv_icmp_le (tgt := 198) hx hb dMo_init_190 (by decide) (fun c2 => ?_) (fun c2 => ?_)
    · have e9 : nI (mo_n a0) = a0 := mo_n_3 c1 c2
      rw [e9] at J
      refine lv_iload_n hx hb dMo_init_198 rfl (lv_at hl 1 rfl) ?_
      exact J  _   (lv_sub hl [0, 1] rfl)
    · have e9 : nI (mo_n a0) = 16 := mo_n_2 (Int32.not_le.mp c2)
      rw [e9] at J
      refine lv_bipush (v := (16)) hx hb dMo_init_193 (by decide) ?_
      refine lv_goto (tgt := 199) hx hb dMo_init_195 (by decide) ?_
      exact J  _   (lv_sub hl [0, 1] rfl)
  · have e9 : nI (mo_n a0) = 1 := mo_n_1 (Int32.not_le.mp c1)
    rw [e9] at J
    refine lv_iconst (v := (1)) hx hb dMo_init_183 (by decide) ?_
    refine lv_goto (tgt := 199) hx hb dMo_init_184 (by decide) ?_
    exact J  _   (lv_sub hl [0, 1] rfl)
