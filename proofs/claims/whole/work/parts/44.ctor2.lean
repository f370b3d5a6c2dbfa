/-- how many spindles a number asks for -/
def mo_n (a : Int32) : Nat := if a < 1 then 1 else if 16 < a then 16 else a.toNatClampNeg
theorem mo_n_1 {a : Int32} (h : a < 1) : nI (mo_n a) = 1 := by unfold mo_n; rw [if_pos h]; rfl
theorem mo_n_2 {a : Int32} (h : 16 < a) : nI (mo_n a) = 16 := by
  unfold mo_n
  rw [if_neg (fun h2 => absurd (Int32.lt_trans h h2) (by decide)), if_pos h]
  rfl
theorem mo_n_3 {a : Int32} (h : 1 ≤ a) (h2 : a ≤ 16) : nI (mo_n a) = a := by
  unfold mo_n
  rw [if_neg (Int32.not_lt.mpr h), if_neg (Int32.not_lt.mpr h2)]
  have h3 : (1 : Int32).toInt ≤ a.toInt := Int32.le_iff_toInt_le.mp h
  have h4 : a.toInt ≤ (16 : Int32).toInt := Int32.le_iff_toInt_le.mp h2
  have e1 : (1 : Int32).toInt = 1 := by decide
  have e2 : (16 : Int32).toInt = 16 := by decide
  rw [e1] at h3
  rw [e2] at h4
  have h5 : a.toNatClampNeg = a.toInt.toNat := rfl
  apply Int32.toInt_inj.mp
  rw [nI_toInt (by omega), h5]
  omega
theorem mo_n_le (a : Int32) : 1 ≤ mo_n a ∧ mo_n a ≤ 16 := by
  unfold mo_n
  split
  · omega
  · rename_i h
    split
    · omega
    · rename_i h2
      have h3 := Int32.le_iff_toInt_le.mp (Int32.not_lt.mp h)
      have h4 := Int32.le_iff_toInt_le.mp (Int32.not_lt.mp h2)
      have e1 : (1 : Int32).toInt = 1 := by decide
      have e2 : (16 : Int32).toInt = 16 := by decide
      rw [e1] at h3
      rw [e2] at h4
      have h5 : a.toNatClampNeg = a.toInt.toNat := rfl
      rw [h5]
      omega
set_option maxHeartbeats 4000000 in
set_option maxRecDepth 100000 in
/-- Pl_init -/
theorem k_Places (l : Launch) (D : va_G) (g : Nat → ClassId) (ad : Nat → Nat) (w : Nat → Option va_E) (sz : Nat) (h : Nat) (o9 : w (30 + 4 * h) = some (.inr (4, [.null, .null, .null, .int 0])))  : Met l yPl_init wsPl_init ({ frames := 1, cells := 3, slots := 48, locals := 24 } : Room) (va_Pc [.ref (ad (30 + 4 * h))] (dq_S D vwCl (dq_t g) ad w sz)) (va_Qv (fun u => (∀ j, (j < 31 + 4 * h ∨ 33 + 4 * h < j) → u.1 j = ad j) ∧ (∀ j, (j < 30 + 4 * h ∨ 33 + 4 * h < j) → u.2 j = w j) ∧ u.2 (30 + 4 * h) = some (.inr (4, [.ref (u.1 (31 + 4 * h)), .ref (u.1 (32 + 4 * h)), .ref (u.1 (33 + 4 * h)), .int 0])) ∧ u.2 (31 + 4 * h) = some (.inl (g 0, 16, .inl (fun _ => 0))) ∧ u.2 (32 + 4 * h) = some (.inl (g 0, 16, .inl (fun _ => 0))) ∧ u.2 (33 + 4 * h) = some (.inl (g 0, 16, .inl (fun _ => 0)))) (dq_B2 D vwCl (dq_t g) (dq_A ad w sz)) (dq_A ad w sz)) 3 48 (dq_A ad w sz) := by
  refine dq_ofv2 (cc := cPl_init) (maxL := 1) (by decide) rfl (Nat.le_of_ble_eq_true rfl) ?_
  intro p e s m below meth c A Q ls ⟨hx, hb, hml, hown, hts⟩ hnm hA hW hK hZ hl hret
  have hS : va_S A s.heap s.heap [] := va_S.rf
  have hl : lv_has ls 1 [(0, .ref (ad (30 + 4 * h)))] := hl
  have hf9 := hts _ (List.mem_cons_of_mem _ tw1_137)
  have hf15 := hts _ (List.mem_cons_of_mem _ tw1_139)
  have hf18 := hts _ (List.mem_cons_of_mem _ tw1_141)
  have hinPl : ∀ w ∈ u_ws RPl TPl 4, w ∈ wsPl_init := fun w h => List.mem_cons_of_mem _ (inPl w h)
  refine lv_aload_n hx hb dPl_init_0 rfl (lv_at hl 0 rfl) ?_
  refine W.objInit hx hb hown (hts _ (List.mem_cons_of_mem _ tw1_136)) (hts _ (List.mem_cons_of_mem _ tw1_24)) (hts _ (List.mem_cons_of_mem _ tw1_25)) (g := F0 m 1 ls (.ref _ :: [])) rfl (hl.1.trans hml.symm) rfl dPl_init_1 (Nat.le_of_ble_eq_true rfl) (Nat.le_of_ble_eq_true rfl) ?_
  refine lv_aload_n hx hb dPl_init_4 rfl (lv_at hl 0 rfl) ?_
  refine lv_bipush (v := (16)) hx hb dPl_init_5 (by decide) ?_
  refine dq_newi (N := 16) hx hb (hts _ (List.mem_cons_of_mem _ tw1_68)) hK hW hS hA (31 + 4 * h) 0 rfl (by decide) (by decide) (by decide) (by simp only []; omega) (by simp only []; omega) dPl_init_7 (fun q9 H hW hS => ?_)
  have had1 : ∀ j, j ≠ 31 + 4 * h → va_up ad (31 + 4 * h) q9 j = ad j := fun j h => va_up_ne _ _ h
  have hq9 : va_up ad (31 + 4 * h) q9 (31 + 4 * h) = q9 := va_up_self _ _ _
  generalize va_up ad (31 + 4 * h) q9 = ad1 at hW had1 hq9
  subst hq9
  refine W.eq (g2 := F0 m 9 ls [.ref (ad1 (31 + 4 * h)), .ref (ad1 (30 + 4 * h))]) (by rw [had1 _ (show 30 + 4 * h ≠ 31 + 4 * h by omega)]) ?_
  have hl : lv_has ls 1 [(0, .ref (ad1 (30 + 4 * h)))] := by rw [had1 _ (show 30 + 4 * h ≠ 31 + 4 * h by omega)]; exact hl
  refine dq_putF (D := D) (ci := 4) (v := .ref (ad1 (31 + 4 * h))) (ty := (.array .int)) (C := RPl) (T := TPl) (N := 4) hx hb hts hinPl tyPl tyPl_ok nmPl hown hK hW hS (30 + 4 * h) ((dq_Un (by omega)).trans o9) rfl 0 (by decide) hf9 (fun _ h9 => h9) rfl hnm rfl (by decide +kernel) rfl rfl (Nat.le_of_ble_eq_true rfl) dPl_init_9 (fun H locs hW hS => ?_)
  refine lv_aload_n hx hb dPl_init_12 rfl (lv_at hl 0 rfl) ?_
  refine lv_bipush (v := (16)) hx hb dPl_init_13 (by decide) ?_
  refine dq_newi (N := 16) hx hb (hts _ (List.mem_cons_of_mem _ tw1_68)) hK hW hS hA (32 + 4 * h) 0 rfl (by decide) (by decide) (by decide) (by simp only []; omega) (by simp only []; omega) dPl_init_15 (fun q9 H hW hS => ?_)
  have had2 : ∀ j, j ≠ 32 + 4 * h → va_up ad1 (32 + 4 * h) q9 j = ad1 j := fun j h => va_up_ne _ _ h
  have hq9 : va_up ad1 (32 + 4 * h) q9 (32 + 4 * h) = q9 := va_up_self _ _ _
  generalize va_up ad1 (32 + 4 * h) q9 = ad2 at hW had2 hq9
  subst hq9
  refine W.eq (g2 := F0 m 17 ls [.ref (ad2 (32 + 4 * h)), .ref (ad2 (30 + 4 * h))]) (by rw [had2 _ (show 30 + 4 * h ≠ 32 + 4 * h by omega)]) ?_
  have hl : lv_has ls 1 [(0, .ref (ad2 (30 + 4 * h)))] := by rw [had2 _ (show 30 + 4 * h ≠ 32 + 4 * h by omega)]; exact hl
  refine dq_putF (D := D) (ci := 4) (v := .ref (ad2 (32 + 4 * h))) (ty := (.array .int)) (C := RPl) (T := TPl) (N := 4) hx hb hts hinPl tyPl tyPl_ok nmPl hown hK hW hS (30 + 4 * h) ((dq_Un (by omega)).trans dq_Us) rfl 1 (by decide) hf15 (fun _ h9 => h9) rfl hnm rfl (by decide +kernel) rfl rfl (Nat.le_of_ble_eq_true rfl) dPl_init_17 (fun H locs hW hS => ?_)
  rw [dq_Umv (by omega)] at hW
  refine lv_aload_n hx hb dPl_init_20 rfl (lv_at hl 0 rfl) ?_
  refine lv_bipush (v := (16)) hx hb dPl_init_21 (by decide) ?_
  refine dq_newi (N := 16) hx hb (hts _ (List.mem_cons_of_mem _ tw1_68)) hK hW hS hA (33 + 4 * h) 0 rfl (by decide) (by decide) (by decide) (by simp only []; omega) (by simp only []; omega) dPl_init_23 (fun q9 H hW hS => ?_)
  have had3 : ∀ j, j ≠ 33 + 4 * h → va_up ad2 (33 + 4 * h) q9 j = ad2 j := fun j h => va_up_ne _ _ h
  have hq9 : va_up ad2 (33 + 4 * h) q9 (33 + 4 * h) = q9 := va_up_self _ _ _
  generalize va_up ad2 (33 + 4 * h) q9 = ad3 at hW had3 hq9
  subst hq9
  refine W.eq (g2 := F0 m 25 ls [.ref (ad3 (33 + 4 * h)), .ref (ad3 (30 + 4 * h))]) (by rw [had3 _ (show 30 + 4 * h ≠ 33 + 4 * h by omega)]) ?_
  have hl : lv_has ls 1 [(0, .ref (ad3 (30 + 4 * h)))] := by rw [had3 _ (show 30 + 4 * h ≠ 33 + 4 * h by omega)]; exact hl
  refine dq_putF (D := D) (ci := 4) (v := .ref (ad3 (33 + 4 * h))) (ty := (.array .int)) (C := RPl) (T := TPl) (N := 4) hx hb hts hinPl tyPl tyPl_ok nmPl hown hK hW hS (30 + 4 * h) ((dq_Un (by omega)).trans dq_Us) rfl 2 (by decide) hf18 (fun _ h9 => h9) rfl hnm rfl (by decide +kernel) rfl rfl (Nat.le_of_ble_eq_true rfl) dPl_init_25 (fun H locs hW hS => ?_)
  rw [dq_Umv (by omega)] at hW
  refine W.widen (k := 3) (n := 48) (by omega) (by omega) ?_
  have e1 : ad3 (31 + 4 * h) = ad1 (31 + 4 * h) := (had3 _ (by omega)).trans (had2 _ (by omega))
  have e2 : ad3 (32 + 4 * h) = ad2 (32 + 4 * h) := had3 _ (by omega)
  exact hret (ad3, dq_U (dq_U (dq_U (dq_U w (31 + 4 * h) (.inl (g 0, 16, .inl (fun _ => 0)))) (32 + 4 * h) (.inl (g 0, 16, .inl (fun _ => 0)))) (33 + 4 * h) (.inl (g 0, 16, .inl (fun _ => 0)))) (30 + 4 * h) (.inr (4, [.ref (ad1 (31 + 4 * h)), .ref (ad2 (32 + 4 * h)), .ref (ad3 (33 + 4 * h)), .int 0]))) _ _ _ _ ⟨fun j hj => (had3 j (by omega)).trans ((had2 j (by omega)).trans (had1 j (by omega))), fun j hj => by show (dq_U (dq_U (dq_U (dq_U w (31 + 4 * h) (.inl (g 0, 16, .inl (fun _ => 0)))) (32 + 4 * h) (.inl (g 0, 16, .inl (fun _ => 0)))) (33 + 4 * h) (.inl (g 0, 16, .inl (fun _ => 0)))) (30 + 4 * h) (.inr (4, [.ref (ad1 (31 + 4 * h)), .ref (ad2 (32 + 4 * h)), .ref (ad3 (33 + 4 * h)), .int 0]))) j = _; rw [dq_Un (by omega), dq_Un (by omega), dq_Un (by omega), dq_Un (by omega)], by show (dq_U (dq_U (dq_U (dq_U w (31 + 4 * h) (.inl (g 0, 16, .inl (fun _ => 0)))) (32 + 4 * h) (.inl (g 0, 16, .inl (fun _ => 0)))) (33 + 4 * h) (.inl (g 0, 16, .inl (fun _ => 0)))) (30 + 4 * h) (.inr (4, [.ref (ad1 (31 + 4 * h)), .ref (ad2 (32 + 4 * h)), .ref (ad3 (33 + 4 * h)), .int 0]))) (30 + 4 * h) = some (.inr (4, [.ref (ad3 (31 + 4 * h)), .ref (ad3 (32 + 4 * h)), .ref (ad3 (33 + 4 * h)), .int 0])); rw [e1, e2]; exact dq_Us, by show (dq_U (dq_U (dq_U (dq_U w (31 + 4 * h) (.inl (g 0, 16, .inl (fun _ => 0)))) (32 + 4 * h) (.inl (g 0, 16, .inl (fun _ => 0)))) (33 + 4 * h) (.inl (g 0, 16, .inl (fun _ => 0)))) (30 + 4 * h) (.inr (4, [.ref (ad1 (31 + 4 * h)), .ref (ad2 (32 + 4 * h)), .ref (ad3 (33 + 4 * h)), .int 0]))) (31 + 4 * h) = _; exact ((dq_Un (by omega)).trans ((dq_Un (by omega)).trans ((dq_Un (by omega)).trans dq_Us))), by show (dq_U (dq_U (dq_U (dq_U w (31 + 4 * h) (.inl (g 0, 16, .inl (fun _ => 0)))) (32 + 4 * h) (.inl (g 0, 16, .inl (fun _ => 0)))) (33 + 4 * h) (.inl (g 0, 16, .inl (fun _ => 0)))) (30 + 4 * h) (.inr (4, [.ref (ad1 (31 + 4 * h)), .ref (ad2 (32 + 4 * h)), .ref (ad3 (33 + 4 * h)), .int 0]))) (32 + 4 * h) = _; exact ((dq_Un (by omega)).trans ((dq_Un (by omega)).trans dq_Us)), by show (dq_U (dq_U (dq_U (dq_U w (31 + 4 * h) (.inl (g 0, 16, .inl (fun _ => 0)))) (32 + 4 * h) (.inl (g 0, 16, .inl (fun _ => 0)))) (33 + 4 * h) (.inl (g 0, 16, .inl (fun _ => 0)))) (30 + 4 * h) (.inr (4, [.ref (ad1 (31 + 4 * h)), .ref (ad2 (32 + 4 * h)), .ref (ad3 (33 + 4 * h)), .int 0]))) (33 + 4 * h) = _; exact ((dq_Un (by omega)).trans dq_Us)⟩ hW hS dPl_init_28
