theorem dq_cellq {cA : ClassId} {n : Nat} {f f' : Nat → Option Nat} (h : ∀ j, j < n → f j = f' j) : vp_cell cA (n, .inr (.inr (.inr (.inr f)))) = vp_cell cA (n, .inr (.inr (.inr (.inr f')))) := by
  rw [vp_cell_q, vp_cell_q]
  unfold arrV
  have e : (Array.ofFn (n := n) fun j => va_rf (f j.val)) = (Array.ofFn (n := n) fun j => va_rf (f' j.val)) := by
    congr 1
    funext j
    rw [h j.val j.isLt]
  rw [e]
theorem dq_reQ {D : va_G} {cl : List vw_C} {ad : Nat → Nat} {w : Nat → Option va_E} {A : Nat → Prop} {H : Heap} (hP : dq_W D cl ad w A H) {r : Nat} {cA : ClassId} {n : Nat} {f f' : Nat → Option Nat} (hr : w r = some (.inl (cA, n, .inr (.inr (.inr (.inr f)))))) (h : ∀ j, j < n → f j = f' j) : dq_W D cl ad (dq_U w r (.inl (cA, n, .inr (.inr (.inr (.inr f')))))) A H :=
  hP.set hr (by
    have h1 := (hP.1 r _ hr).1
    show H[ad r]? = some (vp_cell _ _)
    rw [← dq_cellq h]
    exact h1) (fun _ _ => rfl)
theorem mo_n_mm (a : Int32) : (if 1 < (if a < 16 then a else 16) then (if a < 16 then a else 16) else 1) = nI (mo_n a) := by
  by_cases h1 : a < 1
  · rw [mo_n_1 h1, if_pos (Int32.lt_trans h1 (by decide)), if_neg (Int32.not_lt.mpr (Int32.le_of_lt h1))]
  · by_cases h2 : a < 16
    · rw [mo_n_3 (Int32.not_lt.mp h1) (Int32.le_of_lt h2), if_pos h2]
      by_cases h3 : 1 < a
      · rw [if_pos h3]
      · rw [if_neg h3]
        exact Int32.le_antisymm (Int32.not_lt.mp h1) (Int32.not_lt.mp h3)
    · rw [if_neg h2]
      by_cases h3 : 16 < a
      · rw [mo_n_2 h3]
        decide
      · have e : a = 16 := Int32.le_antisymm (Int32.not_lt.mp h3) (Int32.not_lt.mp h2)
        subst e
        rw [mo_n_3 (by decide) (by decide)]
        decide
set_option maxHeartbeats 4000000 in
set_option maxRecDepth 100000 in
/-- DrillHeads(spindles) -/
theorem k_DrillHeads (l : Launch) (D : va_G) (g : Nat → ClassId) (ad : Nat → Nat) (w : Nat → Option va_E) (sz : Nat) (a0 : Int32) (o9 : w 0 = some (.inr (7, [.null, .null, .null, .null, .null, .null, .null, .int 0, .int 0])))  : Met l yDH_init wsDH_init ({ frames := 2, cells := 83, slots := 1000, locals := 50 } : Room) (va_Pc [.ref (ad 0), .int a0] (dq_S D vwCl (dq_t g) ad w sz)) (va_Qv (fun u => (∀ j, (j < 1 ∨ 85 < j) → u.1 j = ad j) ∧ (∀ j, 85 < j → u.2 j = w j) ∧ u.2 0 = some (.inr (7, [.ref (u.1 1), .ref (u.1 5), .ref (u.1 12), .ref (u.1 17), .ref (u.1 18), .ref (u.1 23), .ref (u.1 25), .int 0, .int 0])) ∧ u.2 1 = some (.inr (1, [.ref (u.1 2), .ref (u.1 3), .ref (u.1 4), .int 0, .int 0, .int 0, .int 0])) ∧ u.2 2 = some (.inl (g 0, (mo_n a0), .inl (fun _ => 0))) ∧ u.2 3 = some (.inl (g 0, (mo_n a0), .inl (fun _ => 0))) ∧ u.2 4 = some (.inl (g 0, (mo_n a0), .inl (fun _ => 0))) ∧ u.2 5 = some (.inr (3, [.ref (u.1 6), .ref (u.1 7), .ref (u.1 8), .ref (u.1 9), .ref (u.1 10), .ref (u.1 11), .int 0])) ∧ u.2 6 = some (.inl (g 0, 14, .inl (fun _ => 0))) ∧ u.2 7 = some (.inl (g 0, 14, .inl (fun _ => 0))) ∧ u.2 8 = some (.inl (g 0, 14, .inl (fun _ => 0))) ∧ u.2 9 = some (.inl (g 0, 14, .inl (fun _ => 0))) ∧ u.2 10 = some (.inl (g 0, 14, .inl (fun _ => 0))) ∧ u.2 11 = some (.inl (g 1, 14, .inl (fun _ => 0))) ∧ u.2 12 = some (.inr (0, [.ref (u.1 13), .ref (u.1 14), .ref (u.1 15), .ref (u.1 16), .int 0])) ∧ u.2 13 = some (.inl (g 0, 6, .inl (fun _ => 0))) ∧ u.2 14 = some (.inl (g 0, 6, .inl (fun _ => 0))) ∧ u.2 15 = some (.inl (g 0, 6, .inl (fun _ => 0))) ∧ u.2 16 = some (.inl (g 0, 6, .inl (fun _ => 0))) ∧ u.2 17 = some (.inl (g 3, 14, .inr (.inr (.inr (.inr (fun h => some (u.1 (30 + 4 * h)))))))) ∧ u.2 18 = some (.inr (2, [.ref (u.1 19), .ref (u.1 20), .ref (u.1 21), .ref (u.1 22), .int 0])) ∧ u.2 19 = some (.inl (g 0, 14, .inl (fun _ => 0))) ∧ u.2 20 = some (.inl (g 0, 14, .inl (fun _ => 0))) ∧ u.2 21 = some (.inl (g 0, 14, .inl (fun _ => 0))) ∧ u.2 22 = some (.inl (g 0, 14, .inl (fun _ => 0))) ∧ u.2 23 = some (.inr (5, [.ref (u.1 24)])) ∧ u.2 24 = some (.inl (g 0, 1, .inl (fun _ => 0))) ∧ u.2 25 = some (.inr (6, [.ref (u.1 26), .long 0, .ref (u.1 27)])) ∧ u.2 26 = some (.inl (g 0, 14, .inl (fun _ => 0))) ∧ u.2 27 = some (.inl (g 0, 0, .inl (fun _ => 0))) ∧ (∀ h, h < 14 → u.2 (30 + 4 * h) = some (.inr (4, [.ref (u.1 (31 + 4 * h)), .ref (u.1 (32 + 4 * h)), .ref (u.1 (33 + 4 * h)), .int 0]))) ∧ (∀ h, h < 14 → u.2 (31 + 4 * h) = some (.inl (g 0, 16, .inl (fun _ => 0)))) ∧ (∀ h, h < 14 → u.2 (32 + 4 * h) = some (.inl (g 0, 16, .inl (fun _ => 0)))) ∧ (∀ h, h < 14 → u.2 (33 + 4 * h) = some (.inl (g 0, 16, .inl (fun _ => 0))))) (dq_B2 D vwCl (dq_t g) (dq_A ad w sz)) (dq_A ad w sz)) 83 1000 (dq_A ad w sz) := by
  refine dq_ofv2 (cc := cDH_init) (maxL := 3) (by decide) rfl (Nat.le_of_ble_eq_true rfl) ?_
  intro p e s m below meth c A Q ls ⟨hx, hb, hml, hown, hts⟩ hnm hA hW hK hZ hl hret
  have hS : va_S A s.heap s.heap [] := va_S.rf
  have hl : lv_has ls 3 [(0, .ref (ad 0)), (1, .int a0)] := hl
  have hf23 := hts _ (List.mem_cons_of_mem _ tw1_214)
  have hf30 := hts _ (List.mem_cons_of_mem _ tw1_215)
  have hf37 := hts _ (List.mem_cons_of_mem _ tw1_216)
  have hf43 := hts _ (List.mem_cons_of_mem _ tw1_217)
  have hf51 := hts _ (List.mem_cons_of_mem _ tw1_218)
  have hf58 := hts _ (List.mem_cons_of_mem _ tw1_219)
  have hf65 := hts _ (List.mem_cons_of_mem _ tw1_220)
  have hinDH : ∀ w ∈ u_ws RDH TDH 9, w ∈ wsDH_init := fun w h => List.mem_cons_of_mem _ (inDH w h)
  have hn1 := mo_n_le a0
  refine lv_aload_n hx hb dDH_init_0 rfl (lv_at hl 0 rfl) ?_
  refine W.objInit hx hb hown (hts _ (List.mem_cons_of_mem _ tw1_23)) (hts _ (List.mem_cons_of_mem _ tw1_24)) (hts _ (List.mem_cons_of_mem _ tw1_25)) (g := F0 m 1 ls (.ref _ :: [])) rfl (hl.1.trans hml.symm) rfl dDH_init_1 (Nat.le_of_ble_eq_true rfl) (Nat.le_of_ble_eq_true rfl) ?_
  refine lv_aload_n hx hb dDH_init_4 rfl (lv_at hl 0 rfl) ?_
  refine dq_new (D := D) (ci := 1) (C := RHd) (T := THd) (N := 7) (fs := [.null, .null, .null, .int 0, .int 0, .int 0, .int 0]) hx hb hts (fun w h => List.mem_cons_of_mem _ (inHd w h)) tyHd tyHd_ok hown (hts _ (List.mem_cons_of_mem _ tw1_26)) (hts _ (List.mem_cons_of_mem _ tw1_27)) (hts _ (List.mem_cons_of_mem _ tw1_2)) hK hW hS hA (1) rfl (by decide) (by simp only []; omega) (by simp only []; omega) dDH_init_5 (fun q9 H hW hS => ?_)
  have had1 : ∀ j, j ≠ 1 → va_up ad (1) q9 j = ad j := fun j h => va_up_ne _ _ h
  have hq9 : va_up ad (1) q9 (1) = q9 := va_up_self _ _ _
  generalize va_up ad (1) q9 = ad1 at hW had1 hq9
  subst hq9
  obtain ⟨w1, hw1⟩ : ∃ wz, wz = dq_U w (1) (.inr (1, [.null, .null, .null, .int 0, .int 0, .int 0, .int 0])) := ⟨_, rfl⟩
  have hW : dq_W D vwCl ad1 w1 A H := by rw [hw1]; exact hW
  have o1 : w1 (1) = some (.inr (1, [.null, .null, .null, .int 0, .int 0, .int 0, .int 0])) := by rw [hw1]; exact dq_Us
  have fr1 : ∀ j, j ≠ 1 → w1 j = w j := fun j h1 => by rw [hw1, dq_Un h1]
  clear hw1
  refine W.eq (g2 := F0 m 8 ls [.ref (ad1 (1)), .ref (ad1 0)]) (by rw [had1 0 (by omega)]) ?_
  have hl : lv_has ls 3 [(0, .ref (ad1 0)), (1, .int a0)] := by rw [had1 0 (by omega)]; exact (lv_sub hl [0, 1] rfl)
  refine W.widen (k := 1) (n := 7) (by omega) (by omega) ?_
  refine lv_dup hx hb dDH_init_8 rfl ?_
  refine lv_iconst (v := (1)) hx hb dDH_init_9 (by decide) ?_
  refine lv_bipush (v := (16)) hx hb dDH_init_10 (by decide) ?_
  refine lv_iload_n hx hb dDH_init_12 rfl (lv_at hl 1 rfl) ?_
  refine va_mmin hx hb (by rw [hml]; exact hl.1.symm) hown (hts _ (List.mem_cons_of_mem _ tw1_28)) (hts _ (List.mem_cons_of_mem _ tw1_29)) (hts _ (List.mem_cons_of_mem _ tw1_3)) (hts _ (List.mem_cons_of_mem _ tw1_30)) (Nat.le_of_ble_eq_true rfl) (Nat.le_of_ble_eq_true rfl) (by simp only []; omega) (by simp only []; omega) dDH_init_13 ?_
  refine va_mmax hx hb (by rw [hml]; exact hl.1.symm) hown (hts _ (List.mem_cons_of_mem _ tw1_31)) (hts _ (List.mem_cons_of_mem _ tw1_32)) (hts _ (List.mem_cons_of_mem _ tw1_3)) (hts _ (List.mem_cons_of_mem _ tw1_33)) (Nat.le_of_ble_eq_true rfl) (Nat.le_of_ble_eq_true rfl) (by simp only []; omega) (by simp only []; omega) dDH_init_16 ?_
  refine dq_top (y := nI (mo_n a0)) (mo_n_mm a0) ?_
  refine dq_callv2 (va_runI (As := [.int (nI (mo_n a0))]) (rest := [.ref (ad1 (1)), .ref (ad1 0)]) ⟨hx, hb, hml, hown, hts⟩ (k_Head l D g ad1 w1 _ (mo_n a0) o1 hn1.2) (cwI 1 hts (dq_gi tw1_36) rfl rfl rfl (hts _ (List.mem_cons_of_mem _ tw1_2)) (hts _ (List.mem_cons_of_mem _ tw1_34)) (hts _ (List.mem_cons_of_mem _ tw1_35)) rfl (by decide +kernel) ⟨Nat.le_of_ble_eq_true rfl, Nat.le_of_ble_eq_true rfl⟩) (dq_preS hW hS hA hK hZ) rfl rfl hl.1 rfl (lv_room (Nat.le_of_ble_eq_true rfl)) dDH_init_19 ⟨(by simp only []; omega), (by simp only []; omega)⟩) hW hS hA (fun u9 H locs hp9 hW hS hz9 => ?_)
  obtain ⟨ad2, w2⟩ := u9
  dsimp only at hW
  obtain ⟨hada, hfra, e1, e2, e3, e4⟩ := hp9
  dsimp only at hada hfra e1 e2 e3 e4
  have FA : ∀ j, (j < 1 ∨ 4 < j) → ad2 j = ad j := fun j hj => (hada j (by omega)).trans (had1 j (by omega))
  have FW : ∀ j, (j < 1 ∨ 4 < j) → w2 j = w j := fun j hj => (hfra j (by omega)).trans (fr1 j (by omega))
  refine W.eq (g2 := F0 m 22 ls [.ref (ad2 1), .ref (ad2 0)]) (by rw [hada 1 (by omega), hada 0 (by omega)]) ?_
  have hl : lv_has ls 3 [(0, .ref (ad2 0))] := by rw [hada 0 (by omega)]; exact lv_sub hl [0] rfl
  refine W.widen (k := 4) (n := 55) (by omega) (by omega) ?_
  have o9 : w2 0 = some (.inr (7, [.null, .null, .null, .null, .null, .null, .null, .int 0, .int 0])) := by rw [FW 0 (by omega)]; exact o9
  refine dq_putF (D := D) (ci := 7) (v := .ref (ad2 1)) (ty := (.object "DrillHeads$Head")) (C := RDH) (T := TDH) (N := 9) hx hb hts hinDH tyDH tyDH_ok nmDH hown hK hW hS 0 o9 rfl 0 (by decide) hf23 (fun _ h9 => h9) rfl hnm rfl (by decide +kernel) rfl rfl (Nat.le_of_ble_eq_true rfl) dDH_init_22 (fun H locs hW hS => ?_)
  obtain ⟨w3, hw3⟩ : ∃ wz, wz = dq_U w2 0 (.inr (7, [.ref (ad2 1), .null, .null, .null, .null, .null, .null, .int 0, .int 0])) := ⟨_, rfl⟩
  have hW : dq_W D vwCl ad2 w3 A H := by rw [hw3]; exact hW
  have o9 : w3 0 = some (.inr (7, [.ref (ad2 1), .null, .null, .null, .null, .null, .null, .int 0, .int 0])) := by rw [hw3]; exact dq_Us
  have fr3 : ∀ j, j ≠ 0 → w3 j = w2 j := fun j h1 => by rw [hw3, dq_Un h1]
  clear hw3
  have e1 : w3 1 = some (.inr (1, [.ref (ad2 2), .ref (ad2 3), .ref (ad2 4), .int 0, .int 0, .int 0, .int 0])) := by rw [fr3 1 (by decide)]; exact e1
  have e2 : w3 2 = some (.inl (g 0, (mo_n a0), .inl (fun _ => 0))) := by rw [fr3 2 (by decide)]; exact e2
  have e3 : w3 3 = some (.inl (g 0, (mo_n a0), .inl (fun _ => 0))) := by rw [fr3 3 (by decide)]; exact e3
  have e4 : w3 4 = some (.inl (g 0, (mo_n a0), .inl (fun _ => 0))) := by rw [fr3 4 (by decide)]; exact e4
  have FA0 : ∀ j, 85 < j → ad2 j = ad j := fun j hj => (FA j (by omega)).trans (rfl)
  have FW0 : ∀ j, 85 < j → w3 j = w j := fun j hj => (fr3 j (by omega)).trans ((FW j (by omega)).trans (rfl))
  have FA1 : ad2 0 = ad 0 := (FA 0 (by omega)).trans (rfl)
  refine lv_aload_n hx hb dDH_init_25 rfl (lv_at hl 0 rfl) ?_
  refine dq_new (D := D) (ci := 3) (C := RPt) (T := TPt) (N := 7) (fs := [.null, .null, .null, .null, .null, .null, .int 0]) hx hb hts (fun w h => List.mem_cons_of_mem _ (inPt w h)) tyPt tyPt_ok hown (hts _ (List.mem_cons_of_mem _ tw1_69)) (hts _ (List.mem_cons_of_mem _ tw1_70)) (hts _ (List.mem_cons_of_mem _ tw1_4)) hK hW hS hA (5) rfl (by decide) (by simp only []; omega) (by simp only []; omega) dDH_init_26 (fun q9 H hW hS => ?_)
  have had4 : ∀ j, j ≠ 5 → va_up ad2 (5) q9 j = ad2 j := fun j h => va_up_ne _ _ h
  have hq9 : va_up ad2 (5) q9 (5) = q9 := va_up_self _ _ _
  generalize va_up ad2 (5) q9 = ad4 at hW had4 hq9
  subst hq9
  obtain ⟨w4, hw4⟩ : ∃ wz, wz = dq_U w3 (5) (.inr (3, [.null, .null, .null, .null, .null, .null, .int 0])) := ⟨_, rfl⟩
  have hW : dq_W D vwCl ad4 w4 A H := by rw [hw4]; exact hW
  have o4 : w4 (5) = some (.inr (3, [.null, .null, .null, .null, .null, .null, .int 0])) := by rw [hw4]; exact dq_Us
  have fr4 : ∀ j, j ≠ 5 → w4 j = w3 j := fun j h1 => by rw [hw4, dq_Un h1]
  clear hw4
  refine W.eq (g2 := F0 m 29 ls [.ref (ad4 (5)), .ref (ad4 0)]) (by rw [had4 0 (by omega)]) ?_
  have hl : lv_has ls 3 [(0, .ref (ad4 0))] := by rw [had4 0 (by omega)]; exact (lv_sub hl [0] rfl)
  refine W.widen (k := 5) (n := 62) (by omega) (by omega) ?_
  refine lv_dup hx hb dDH_init_29 rfl ?_
  refine dq_callv2 (va_runIN (As := []) (rest := [.ref (ad4 (5)), .ref (ad4 0)]) ⟨hx, hb, hml, hown, hts⟩ (k_Part l D g ad4 w4 _  o4 ) ⟨va_cnB 0 hts (dq_gi tw1_73) rfl rfl rfl hZ.n0 (hts _ (List.mem_cons_of_mem _ tw1_4)) (by decide +kernel) ⟨Nat.le_of_ble_eq_true rfl, Nat.le_of_ble_eq_true rfl⟩, rfl, (hts _ (List.mem_cons_of_mem _ tw1_72))⟩ (dq_preS hW hS hA hK hZ) rfl rfl hl.1 rfl (lv_room (Nat.le_of_ble_eq_true rfl)) dDH_init_30 ⟨(by simp only []; omega), (by simp only []; omega)⟩) hW hS hA (fun u9 H locs hp9 hW hS hz9 => ?_)
  obtain ⟨ad5, w5⟩ := u9
  dsimp only at hW
  obtain ⟨hada, hfra, e5, e6, e7, e8, e9, e10, e11⟩ := hp9
  dsimp only at hada hfra e5 e6 e7 e8 e9 e10 e11
  have FA : ∀ j, (j < 5 ∨ 11 < j) → ad5 j = ad2 j := fun j hj => (hada j (by omega)).trans (had4 j (by omega))
  have FW : ∀ j, (j < 5 ∨ 11 < j) → w5 j = w3 j := fun j hj => (hfra j (by omega)).trans (fr4 j (by omega))
  refine W.eq (g2 := F0 m 33 ls [.ref (ad5 5), .ref (ad5 0)]) (by rw [hada 5 (by omega), hada 0 (by omega)]) ?_
  have hl : lv_has ls 3 [(0, .ref (ad5 0))] := by rw [hada 0 (by omega)]; exact lv_sub hl [0] rfl
  refine W.widen (k := 11) (n := 146) (by omega) (by omega) ?_
  have o9 : w5 0 = some (.inr (7, [.ref (ad5 1), .null, .null, .null, .null, .null, .null, .int 0, .int 0])) := by rw [FA 1 (by omega), FW 0 (by omega)]; exact o9
  refine dq_putF (D := D) (ci := 7) (v := .ref (ad5 5)) (ty := (.object "DrillHeads$Part")) (C := RDH) (T := TDH) (N := 9) hx hb hts hinDH tyDH tyDH_ok nmDH hown hK hW hS 0 o9 rfl 1 (by decide) hf30 (fun _ h9 => h9) rfl hnm rfl (by decide +kernel) rfl rfl (Nat.le_of_ble_eq_true rfl) dDH_init_33 (fun H locs hW hS => ?_)
  obtain ⟨w6, hw6⟩ : ∃ wz, wz = dq_U w5 0 (.inr (7, [.ref (ad5 1), .ref (ad5 5), .null, .null, .null, .null, .null, .int 0, .int 0])) := ⟨_, rfl⟩
  have hW : dq_W D vwCl ad5 w6 A H := by rw [hw6]; exact hW
  have o9 : w6 0 = some (.inr (7, [.ref (ad5 1), .ref (ad5 5), .null, .null, .null, .null, .null, .int 0, .int 0])) := by rw [hw6]; exact dq_Us
  have fr6 : ∀ j, j ≠ 0 → w6 j = w5 j := fun j h1 => by rw [hw6, dq_Un h1]
  clear hw6
  have e1 : w6 1 = some (.inr (1, [.ref (ad5 2), .ref (ad5 3), .ref (ad5 4), .int 0, .int 0, .int 0, .int 0])) := by rw [FA 2 (by omega), FA 3 (by omega), FA 4 (by omega), fr6 1 (by decide), FW 1 (by omega)]; exact e1
  have e2 : w6 2 = some (.inl (g 0, (mo_n a0), .inl (fun _ => 0))) := by rw [fr6 2 (by decide), FW 2 (by omega)]; exact e2
  have e3 : w6 3 = some (.inl (g 0, (mo_n a0), .inl (fun _ => 0))) := by rw [fr6 3 (by decide), FW 3 (by omega)]; exact e3
  have e4 : w6 4 = some (.inl (g 0, (mo_n a0), .inl (fun _ => 0))) := by rw [fr6 4 (by decide), FW 4 (by omega)]; exact e4
  have e5 : w6 5 = some (.inr (3, [.ref (ad5 6), .ref (ad5 7), .ref (ad5 8), .ref (ad5 9), .ref (ad5 10), .ref (ad5 11), .int 0])) := by rw [fr6 5 (by decide)]; exact e5
  have e6 : w6 6 = some (.inl (g 0, 14, .inl (fun _ => 0))) := by rw [fr6 6 (by decide)]; exact e6
  have e7 : w6 7 = some (.inl (g 0, 14, .inl (fun _ => 0))) := by rw [fr6 7 (by decide)]; exact e7
  have e8 : w6 8 = some (.inl (g 0, 14, .inl (fun _ => 0))) := by rw [fr6 8 (by decide)]; exact e8
  have e9 : w6 9 = some (.inl (g 0, 14, .inl (fun _ => 0))) := by rw [fr6 9 (by decide)]; exact e9
  have e10 : w6 10 = some (.inl (g 0, 14, .inl (fun _ => 0))) := by rw [fr6 10 (by decide)]; exact e10
  have e11 : w6 11 = some (.inl (g 1, 14, .inl (fun _ => 0))) := by rw [fr6 11 (by decide)]; exact e11
  have FA0 : ∀ j, 85 < j → ad5 j = ad j := fun j hj => (FA j (by omega)).trans (FA0 j hj)
  have FW0 : ∀ j, 85 < j → w6 j = w j := fun j hj => (fr6 j (by omega)).trans ((FW j (by omega)).trans (FW0 j hj))
  have FA1 : ad5 0 = ad 0 := (FA 0 (by omega)).trans (FA1)
  refine lv_aload_n hx hb dDH_init_36 rfl (lv_at hl 0 rfl) ?_
  refine dq_new (D := D) (ci := 0) (C := RCl) (T := TCl) (N := 5) (fs := [.null, .null, .null, .null, .int 0]) hx hb hts (fun w h => List.mem_cons_of_mem _ (inCl w h)) tyCl tyCl_ok hown (hts _ (List.mem_cons_of_mem _ tw1_107)) (hts _ (List.mem_cons_of_mem _ tw1_108)) (hts _ (List.mem_cons_of_mem _ tw1_5)) hK hW hS hA (12) rfl (by decide) (by simp only []; omega) (by simp only []; omega) dDH_init_37 (fun q9 H hW hS => ?_)
  have had7 : ∀ j, j ≠ 12 → va_up ad5 (12) q9 j = ad5 j := fun j h => va_up_ne _ _ h
  have hq9 : va_up ad5 (12) q9 (12) = q9 := va_up_self _ _ _
  generalize va_up ad5 (12) q9 = ad7 at hW had7 hq9
  subst hq9
  obtain ⟨w7, hw7⟩ : ∃ wz, wz = dq_U w6 (12) (.inr (0, [.null, .null, .null, .null, .int 0])) := ⟨_, rfl⟩
  have hW : dq_W D vwCl ad7 w7 A H := by rw [hw7]; exact hW
  have o7 : w7 (12) = some (.inr (0, [.null, .null, .null, .null, .int 0])) := by rw [hw7]; exact dq_Us
  have fr7 : ∀ j, j ≠ 12 → w7 j = w6 j := fun j h1 => by rw [hw7, dq_Un h1]
  clear hw7
  refine W.eq (g2 := F0 m 40 ls [.ref (ad7 (12)), .ref (ad7 0)]) (by rw [had7 0 (by omega)]) ?_
  have hl : lv_has ls 3 [(0, .ref (ad7 0))] := by rw [had7 0 (by omega)]; exact (lv_sub hl [0] rfl)
  refine W.widen (k := 12) (n := 151) (by omega) (by omega) ?_
  refine lv_dup hx hb dDH_init_40 rfl ?_
  refine dq_callv2 (va_runIN (As := []) (rest := [.ref (ad7 (12)), .ref (ad7 0)]) ⟨hx, hb, hml, hown, hts⟩ (k_Clamps l D g ad7 w7 _  o7 ) ⟨va_cnB 0 hts (dq_gi tw1_111) rfl rfl rfl hZ.n1 (hts _ (List.mem_cons_of_mem _ tw1_5)) (by decide +kernel) ⟨Nat.le_of_ble_eq_true rfl, Nat.le_of_ble_eq_true rfl⟩, rfl, (hts _ (List.mem_cons_of_mem _ tw1_110))⟩ (dq_preS hW hS hA hK hZ) rfl rfl hl.1 rfl (lv_room (Nat.le_of_ble_eq_true rfl)) dDH_init_41 ⟨(by simp only []; omega), (by simp only []; omega)⟩) hW hS hA (fun u9 H locs hp9 hW hS hz9 => ?_)
  obtain ⟨ad8, w8⟩ := u9
  dsimp only at hW
  obtain ⟨hada, hfra, e12, e13, e14, e15, e16⟩ := hp9
  dsimp only at hada hfra e12 e13 e14 e15 e16
  have FA : ∀ j, (j < 12 ∨ 16 < j) → ad8 j = ad5 j := fun j hj => (hada j (by omega)).trans (had7 j (by omega))
  have FW : ∀ j, (j < 12 ∨ 16 < j) → w8 j = w6 j := fun j hj => (hfra j (by omega)).trans (fr7 j (by omega))
  refine W.eq (g2 := F0 m 44 ls [.ref (ad8 12), .ref (ad8 0)]) (by rw [hada 12 (by omega), hada 0 (by omega)]) ?_
  have hl : lv_has ls 3 [(0, .ref (ad8 0))] := by rw [hada 0 (by omega)]; exact lv_sub hl [0] rfl
  refine W.widen (k := 16) (n := 175) (by omega) (by omega) ?_
  have o9 : w8 0 = some (.inr (7, [.ref (ad8 1), .ref (ad8 5), .null, .null, .null, .null, .null, .int 0, .int 0])) := by rw [FA 1 (by omega), FA 5 (by omega), FW 0 (by omega)]; exact o9
  refine dq_putF (D := D) (ci := 7) (v := .ref (ad8 12)) (ty := (.object "DrillHeads$Clamps")) (C := RDH) (T := TDH) (N := 9) hx hb hts hinDH tyDH tyDH_ok nmDH hown hK hW hS 0 o9 rfl 2 (by decide) hf37 (fun _ h9 => h9) rfl hnm rfl (by decide +kernel) rfl rfl (Nat.le_of_ble_eq_true rfl) dDH_init_44 (fun H locs hW hS => ?_)
  obtain ⟨w9, hw9⟩ : ∃ wz, wz = dq_U w8 0 (.inr (7, [.ref (ad8 1), .ref (ad8 5), .ref (ad8 12), .null, .null, .null, .null, .int 0, .int 0])) := ⟨_, rfl⟩
  have hW : dq_W D vwCl ad8 w9 A H := by rw [hw9]; exact hW
  have o9 : w9 0 = some (.inr (7, [.ref (ad8 1), .ref (ad8 5), .ref (ad8 12), .null, .null, .null, .null, .int 0, .int 0])) := by rw [hw9]; exact dq_Us
  have fr9 : ∀ j, j ≠ 0 → w9 j = w8 j := fun j h1 => by rw [hw9, dq_Un h1]
  clear hw9
  have e1 : w9 1 = some (.inr (1, [.ref (ad8 2), .ref (ad8 3), .ref (ad8 4), .int 0, .int 0, .int 0, .int 0])) := by rw [FA 2 (by omega), FA 3 (by omega), FA 4 (by omega), fr9 1 (by decide), FW 1 (by omega)]; exact e1
  have e2 : w9 2 = some (.inl (g 0, (mo_n a0), .inl (fun _ => 0))) := by rw [fr9 2 (by decide), FW 2 (by omega)]; exact e2
  have e3 : w9 3 = some (.inl (g 0, (mo_n a0), .inl (fun _ => 0))) := by rw [fr9 3 (by decide), FW 3 (by omega)]; exact e3
  have e4 : w9 4 = some (.inl (g 0, (mo_n a0), .inl (fun _ => 0))) := by rw [fr9 4 (by decide), FW 4 (by omega)]; exact e4
  have e5 : w9 5 = some (.inr (3, [.ref (ad8 6), .ref (ad8 7), .ref (ad8 8), .ref (ad8 9), .ref (ad8 10), .ref (ad8 11), .int 0])) := by rw [FA 6 (by omega), FA 7 (by omega), FA 8 (by omega), FA 9 (by omega), FA 10 (by omega), FA 11 (by omega), fr9 5 (by decide), FW 5 (by omega)]; exact e5
  have e6 : w9 6 = some (.inl (g 0, 14, .inl (fun _ => 0))) := by rw [fr9 6 (by decide), FW 6 (by omega)]; exact e6
  have e7 : w9 7 = some (.inl (g 0, 14, .inl (fun _ => 0))) := by rw [fr9 7 (by decide), FW 7 (by omega)]; exact e7
  have e8 : w9 8 = some (.inl (g 0, 14, .inl (fun _ => 0))) := by rw [fr9 8 (by decide), FW 8 (by omega)]; exact e8
  have e9 : w9 9 = some (.inl (g 0, 14, .inl (fun _ => 0))) := by rw [fr9 9 (by decide), FW 9 (by omega)]; exact e9
  have e10 : w9 10 = some (.inl (g 0, 14, .inl (fun _ => 0))) := by rw [fr9 10 (by decide), FW 10 (by omega)]; exact e10
  have e11 : w9 11 = some (.inl (g 1, 14, .inl (fun _ => 0))) := by rw [fr9 11 (by decide), FW 11 (by omega)]; exact e11
  have e12 : w9 12 = some (.inr (0, [.ref (ad8 13), .ref (ad8 14), .ref (ad8 15), .ref (ad8 16), .int 0])) := by rw [fr9 12 (by decide)]; exact e12
  have e13 : w9 13 = some (.inl (g 0, 6, .inl (fun _ => 0))) := by rw [fr9 13 (by decide)]; exact e13
  have e14 : w9 14 = some (.inl (g 0, 6, .inl (fun _ => 0))) := by rw [fr9 14 (by decide)]; exact e14
  have e15 : w9 15 = some (.inl (g 0, 6, .inl (fun _ => 0))) := by rw [fr9 15 (by decide)]; exact e15
  have e16 : w9 16 = some (.inl (g 0, 6, .inl (fun _ => 0))) := by rw [fr9 16 (by decide)]; exact e16
  have FA0 : ∀ j, 85 < j → ad8 j = ad j := fun j hj => (FA j (by omega)).trans (FA0 j hj)
  have FW0 : ∀ j, 85 < j → w9 j = w j := fun j hj => (fr9 j (by omega)).trans ((FW j (by omega)).trans (FW0 j hj))
  have FA1 : ad8 0 = ad 0 := (FA 0 (by omega)).trans (FA1)
  refine lv_aload_n hx hb dDH_init_47 rfl (lv_at hl 0 rfl) ?_
  refine lv_bipush (v := (14)) hx hb dDH_init_48 (by decide) ?_
  refine dq_newq (N := 14) hx hb hown (hts _ (List.mem_cons_of_mem _ tw1_130)) hZ.ao hK hW hS hA 17 3 rfl (by decide) (by decide) (by decide) (by simp only []; omega) (by simp only []; omega) dDH_init_50 (fun q9 H hW hS => ?_)
  have FA : ∀ j, j ≠ 17 → va_up ad8 17 q9 j = ad8 j := fun j h => va_up_ne _ _ h
  have hq9 : va_up ad8 17 q9 17 = q9 := va_up_self _ _ _
  generalize va_up ad8 17 q9 = ad10 at hW FA hq9
  subst hq9
  obtain ⟨w10, hw10⟩ : ∃ wz, wz = dq_U w9 17 (.inl (g 3, 14, .inr (.inr (.inr (.inr (fun _ => none)))))) := ⟨_, rfl⟩
  have hW : dq_W D vwCl ad10 w10 A H := by rw [hw10]; exact hW
  have e17 : w10 17 = some (.inl (g 3, 14, .inr (.inr (.inr (.inr (fun _ => none)))))) := by rw [hw10]; exact dq_Us
  have FW : ∀ j, j ≠ 17 → w10 j = w9 j := fun j h1 => by rw [hw10, dq_Un h1]
  clear hw10
  refine W.eq (g2 := F0 m 53 ls [.ref (ad10 17), .ref (ad10 0)]) (by rw [FA 0 (by decide)]) ?_
  have hl : lv_has ls 3 [(0, .ref (ad10 0))] := by rw [FA 0 (by decide)]; exact hl
  refine W.widen (k := 17) (n := 189) (by omega) (by omega) ?_
  have o9 : w10 0 = some (.inr (7, [.ref (ad10 1), .ref (ad10 5), .ref (ad10 12), .null, .null, .null, .null, .int 0, .int 0])) := by rw [FA 1 (by decide), FA 5 (by decide), FA 12 (by decide), FW 0 (by decide)]; exact o9
  refine dq_putF (D := D) (ci := 7) (v := .ref (ad10 17)) (ty := (.array (.object "DrillHeads$Places"))) (C := RDH) (T := TDH) (N := 9) hx hb hts hinDH tyDH tyDH_ok nmDH hown hK hW hS 0 o9 rfl 3 (by decide) hf43 (fun _ h9 => h9) rfl hnm rfl (by decide +kernel) rfl rfl (Nat.le_of_ble_eq_true rfl) dDH_init_53 (fun H locs hW hS => ?_)
  obtain ⟨w11, hw11⟩ : ∃ wz, wz = dq_U w10 0 (.inr (7, [.ref (ad10 1), .ref (ad10 5), .ref (ad10 12), .ref (ad10 17), .null, .null, .null, .int 0, .int 0])) := ⟨_, rfl⟩
  have hW : dq_W D vwCl ad10 w11 A H := by rw [hw11]; exact hW
  have o9 : w11 0 = some (.inr (7, [.ref (ad10 1), .ref (ad10 5), .ref (ad10 12), .ref (ad10 17), .null, .null, .null, .int 0, .int 0])) := by rw [hw11]; exact dq_Us
  have fr11 : ∀ j, j ≠ 0 → w11 j = w10 j := fun j h1 => by rw [hw11, dq_Un h1]
  clear hw11
  have e1 : w11 1 = some (.inr (1, [.ref (ad10 2), .ref (ad10 3), .ref (ad10 4), .int 0, .int 0, .int 0, .int 0])) := by rw [FA 2 (by decide), FA 3 (by decide), FA 4 (by decide), fr11 1 (by decide), FW 1 (by decide)]; exact e1
  have e2 : w11 2 = some (.inl (g 0, (mo_n a0), .inl (fun _ => 0))) := by rw [fr11 2 (by decide), FW 2 (by decide)]; exact e2
  have e3 : w11 3 = some (.inl (g 0, (mo_n a0), .inl (fun _ => 0))) := by rw [fr11 3 (by decide), FW 3 (by decide)]; exact e3
  have e4 : w11 4 = some (.inl (g 0, (mo_n a0), .inl (fun _ => 0))) := by rw [fr11 4 (by decide), FW 4 (by decide)]; exact e4
  have e5 : w11 5 = some (.inr (3, [.ref (ad10 6), .ref (ad10 7), .ref (ad10 8), .ref (ad10 9), .ref (ad10 10), .ref (ad10 11), .int 0])) := by rw [FA 6 (by decide), FA 7 (by decide), FA 8 (by decide), FA 9 (by decide), FA 10 (by decide), FA 11 (by decide), fr11 5 (by decide), FW 5 (by decide)]; exact e5
  have e6 : w11 6 = some (.inl (g 0, 14, .inl (fun _ => 0))) := by rw [fr11 6 (by decide), FW 6 (by decide)]; exact e6
  have e7 : w11 7 = some (.inl (g 0, 14, .inl (fun _ => 0))) := by rw [fr11 7 (by decide), FW 7 (by decide)]; exact e7
  have e8 : w11 8 = some (.inl (g 0, 14, .inl (fun _ => 0))) := by rw [fr11 8 (by decide), FW 8 (by decide)]; exact e8
  have e9 : w11 9 = some (.inl (g 0, 14, .inl (fun _ => 0))) := by rw [fr11 9 (by decide), FW 9 (by decide)]; exact e9
  have e10 : w11 10 = some (.inl (g 0, 14, .inl (fun _ => 0))) := by rw [fr11 10 (by decide), FW 10 (by decide)]; exact e10
  have e11 : w11 11 = some (.inl (g 1, 14, .inl (fun _ => 0))) := by rw [fr11 11 (by decide), FW 11 (by decide)]; exact e11
  have e12 : w11 12 = some (.inr (0, [.ref (ad10 13), .ref (ad10 14), .ref (ad10 15), .ref (ad10 16), .int 0])) := by rw [FA 13 (by decide), FA 14 (by decide), FA 15 (by decide), FA 16 (by decide), fr11 12 (by decide), FW 12 (by decide)]; exact e12
  have e13 : w11 13 = some (.inl (g 0, 6, .inl (fun _ => 0))) := by rw [fr11 13 (by decide), FW 13 (by decide)]; exact e13
  have e14 : w11 14 = some (.inl (g 0, 6, .inl (fun _ => 0))) := by rw [fr11 14 (by decide), FW 14 (by decide)]; exact e14
  have e15 : w11 15 = some (.inl (g 0, 6, .inl (fun _ => 0))) := by rw [fr11 15 (by decide), FW 15 (by decide)]; exact e15
  have e16 : w11 16 = some (.inl (g 0, 6, .inl (fun _ => 0))) := by rw [fr11 16 (by decide), FW 16 (by decide)]; exact e16
  have e17 : w11 17 = some (.inl (g 3, 14, .inr (.inr (.inr (.inr (fun _ => none)))))) := by rw [fr11 17 (by decide)]; exact e17
  have FA0 : ∀ j, 85 < j → ad10 j = ad j := fun j hj => (FA j (by omega)).trans (FA0 j hj)
  have FW0 : ∀ j, 85 < j → w11 j = w j := fun j hj => (fr11 j (by omega)).trans ((FW j (by omega)).trans (FW0 j hj))
  have FA1 : ad10 0 = ad 0 := (FA 0 (by decide)).trans FA1
  refine lv_iconst (v := (nI 0)) hx hb dDH_init_56 (by decide) ?_
  refine lv_istore_n (lv' := [(2, .int (nI 0)), (0, .ref (ad10 0))]) hx hb dDH_init_57 rfl hl (by decide) rfl (fun ls hl => ?_)
  have loop : ∀ (j k : Nat) (adk : Nat → Nat) (wk : Nat → Option va_E) (H : Heap) (locs : List Loc) (ls : Array Slot), 14 < k + j → k ≤ 14 → (∀ j, (j < 30 ∨ 29 + 4 * k < j) → adk j = ad10 j) → (∀ j, j ≠ 17 → (j < 30 ∨ 29 + 4 * k < j) → wk j = w11 j) → wk 17 = some (.inl (g 3, 14, .inr (.inr (.inr (.inr (fun h => if h < k then some (adk (30 + 4 * h)) else none)))))) → (∀ h, h < k → wk (30 + 4 * h) = some (.inr (4, [.ref (adk (31 + 4 * h)), .ref (adk (32 + 4 * h)), .ref (adk (33 + 4 * h)), .int 0]))) → (∀ h, h < k → wk (31 + 4 * h) = some (.inl (g 0, 16, .inl (fun _ => 0)))) → (∀ h, h < k → wk (32 + 4 * h) = some (.inl (g 0, 16, .inl (fun _ => 0)))) → (∀ h, h < k → wk (33 + 4 * h) = some (.inl (g 0, 16, .inl (fun _ => 0)))) → dq_W D vwCl adk wk A H → va_S A s.heap H locs → lv_has ls 3 [(0, .ref (adk 0)), (2, .int (nI k))] → W p l e ({ frames := 2, cells := 83, slots := 1000, locals := 50 } : Room) s m ([.ref (ad 0), .int a0] : List Value).toArray below meth c H locs (17 + 4 * k) (189 + 52 * k) Q (F0 m 58 ls []) := by
    intro j
    induction j with
    | zero => intro k adk wk H locs ls hj hk hA9 hW9 k17 lp0 lp1 lp2 lp3 hW hS hl; exact absurd hj (by omega)
    | succ j ih =>
      intro k adk wk H locs ls hj hk hA9 hW9 k17 lp0 lp1 lp2 lp3 hW hS hl
      refine lv_iload_n hx hb dDH_init_58 rfl (lv_at hl 1 rfl) ?_
      refine lv_bipush (v := (nI 14)) hx hb dDH_init_59 (by decide) ?_
      refine lv_icmp_ge (tgt := 83) hx hb dDH_init_61 (by decide) (fun c1 => ?_) (fun c1 => ?_)
      · have hkn : 14 = k := by have q9 := (nI_leI (by omega) (by omega)).mp c1; omega
        subst hkn
        refine W.widen (k := 73) (n := 917) (by omega) (by omega) ?_
        have hl : lv_has ls 3 [(0, .ref (adk 0))] := lv_sub hl [0] rfl
        have o9 : wk 0 = some (.inr (7, [.ref (adk 1), .ref (adk 5), .ref (adk 12), .ref (adk 17), .null, .null, .null, .int 0, .int 0])) := by rw [hA9 1 (by omega), hA9 5 (by omega), hA9 12 (by omega), hA9 17 (by omega), hW9 0 (by decide) (by omega)]; exact o9
        have e1 : wk 1 = some (.inr (1, [.ref (adk 2), .ref (adk 3), .ref (adk 4), .int 0, .int 0, .int 0, .int 0])) := by rw [hA9 2 (by omega), hA9 3 (by omega), hA9 4 (by omega), hW9 1 (by decide) (by omega)]; exact e1
        have e2 : wk 2 = some (.inl (g 0, (mo_n a0), .inl (fun _ => 0))) := by rw [hW9 2 (by decide) (by omega)]; exact e2
        have e3 : wk 3 = some (.inl (g 0, (mo_n a0), .inl (fun _ => 0))) := by rw [hW9 3 (by decide) (by omega)]; exact e3
        have e4 : wk 4 = some (.inl (g 0, (mo_n a0), .inl (fun _ => 0))) := by rw [hW9 4 (by decide) (by omega)]; exact e4
        have e5 : wk 5 = some (.inr (3, [.ref (adk 6), .ref (adk 7), .ref (adk 8), .ref (adk 9), .ref (adk 10), .ref (adk 11), .int 0])) := by rw [hA9 6 (by omega), hA9 7 (by omega), hA9 8 (by omega), hA9 9 (by omega), hA9 10 (by omega), hA9 11 (by omega), hW9 5 (by decide) (by omega)]; exact e5
        have e6 : wk 6 = some (.inl (g 0, 14, .inl (fun _ => 0))) := by rw [hW9 6 (by decide) (by omega)]; exact e6
        have e7 : wk 7 = some (.inl (g 0, 14, .inl (fun _ => 0))) := by rw [hW9 7 (by decide) (by omega)]; exact e7
        have e8 : wk 8 = some (.inl (g 0, 14, .inl (fun _ => 0))) := by rw [hW9 8 (by decide) (by omega)]; exact e8
        have e9 : wk 9 = some (.inl (g 0, 14, .inl (fun _ => 0))) := by rw [hW9 9 (by decide) (by omega)]; exact e9
        have e10 : wk 10 = some (.inl (g 0, 14, .inl (fun _ => 0))) := by rw [hW9 10 (by decide) (by omega)]; exact e10
        have e11 : wk 11 = some (.inl (g 1, 14, .inl (fun _ => 0))) := by rw [hW9 11 (by decide) (by omega)]; exact e11
        have e12 : wk 12 = some (.inr (0, [.ref (adk 13), .ref (adk 14), .ref (adk 15), .ref (adk 16), .int 0])) := by rw [hA9 13 (by omega), hA9 14 (by omega), hA9 15 (by omega), hA9 16 (by omega), hW9 12 (by decide) (by omega)]; exact e12
        have e13 : wk 13 = some (.inl (g 0, 6, .inl (fun _ => 0))) := by rw [hW9 13 (by decide) (by omega)]; exact e13
        have e14 : wk 14 = some (.inl (g 0, 6, .inl (fun _ => 0))) := by rw [hW9 14 (by decide) (by omega)]; exact e14
        have e15 : wk 15 = some (.inl (g 0, 6, .inl (fun _ => 0))) := by rw [hW9 15 (by decide) (by omega)]; exact e15
        have e16 : wk 16 = some (.inl (g 0, 6, .inl (fun _ => 0))) := by rw [hW9 16 (by decide) (by omega)]; exact e16
        have FA0 : ∀ j, 85 < j → adk j = ad j := fun j hj => (hA9 j (by omega)).trans (FA0 j hj)
        have FW0 : ∀ j, 85 < j → wk j = w j := fun j hj => (hW9 j (by omega) (by omega)).trans (FW0 j hj)
        have FA1 : adk 0 = ad 0 := (hA9 0 (by omega)).trans FA1
        have lq : (∀ j, 29 < j → j < 86 → adk j = adk j) ∧ (∀ j, 29 < j → j < 86 → wk j = wk j) := ⟨fun _ _ _ => rfl, fun _ _ _ => rfl⟩
        obtain ⟨adP, hadP⟩ : ∃ z, z = adk := ⟨_, rfl⟩
        obtain ⟨wP, hwP⟩ : ∃ z, z = wk := ⟨_, rfl⟩
        rw [← hadP] at lp0
        rw [← hwP] at lp0 lp1 lp2 lp3
        have QA : ∀ j, 16 < j → (j = 17 ∨ 29 < j) → j < 86 → adk j = adP j := fun j _ _ _ => by rw [hadP]
        have QW : ∀ j, 16 < j → (j = 17 ∨ 29 < j) → j < 86 → wk j = wP j := fun j _ _ _ => by rw [hwP]
        have k17 : wP 17 = some (.inl (g 3, 14, .inr (.inr (.inr (.inr (fun h => if h < 14 then some (adP (30 + 4 * h)) else none)))))) := by rw [hwP, hadP]; exact k17
        clear hadP hwP lq
        refine lv_aload_n hx hb dDH_init_83 rfl (lv_at hl 0 rfl) ?_
        refine dq_new (D := D) (ci := 2) (C := RHt) (T := THt) (N := 5) (fs := [.null, .null, .null, .null, .int 0]) hx hb hts (fun w h => List.mem_cons_of_mem _ (inHt w h)) tyHt tyHt_ok hown (hts _ (List.mem_cons_of_mem _ tw1_156)) (hts _ (List.mem_cons_of_mem _ tw1_157)) (hts _ (List.mem_cons_of_mem _ tw1_7)) hK hW hS hA (18) rfl (by decide) (by simp only []; omega) (by simp only []; omega) dDH_init_84 (fun q9 H hW hS => ?_)
        have had12 : ∀ j, j ≠ 18 → va_up adk (18) q9 j = adk j := fun j h => va_up_ne _ _ h
        have hq9 : va_up adk (18) q9 (18) = q9 := va_up_self _ _ _
        generalize va_up adk (18) q9 = ad12 at hW had12 hq9
        subst hq9
        obtain ⟨w12, hw12⟩ : ∃ wz, wz = dq_U wk (18) (.inr (2, [.null, .null, .null, .null, .int 0])) := ⟨_, rfl⟩
        have hW : dq_W D vwCl ad12 w12 A H := by rw [hw12]; exact hW
        have o12 : w12 (18) = some (.inr (2, [.null, .null, .null, .null, .int 0])) := by rw [hw12]; exact dq_Us
        have fr12 : ∀ j, j ≠ 18 → w12 j = wk j := fun j h1 => by rw [hw12, dq_Un h1]
        clear hw12
        refine W.eq (g2 := F0 m 87 ls [.ref (ad12 (18)), .ref (ad12 0)]) (by rw [had12 0 (by omega)]) ?_
        have hl : lv_has ls 3 [(0, .ref (ad12 0))] := by rw [had12 0 (by omega)]; exact (lv_sub hl [0] rfl)
        refine W.widen (k := 74) (n := 922) (by omega) (by omega) ?_
        refine lv_dup hx hb dDH_init_87 rfl ?_
        refine dq_callv2 (va_runIN (As := []) (rest := [.ref (ad12 (18)), .ref (ad12 0)]) ⟨hx, hb, hml, hown, hts⟩ (k_Hits l D g ad12 w12 _  o12 ) ⟨va_cnB 0 hts (dq_gi tw1_160) rfl rfl rfl hZ.n3 (hts _ (List.mem_cons_of_mem _ tw1_7)) (by decide +kernel) ⟨Nat.le_of_ble_eq_true rfl, Nat.le_of_ble_eq_true rfl⟩, rfl, (hts _ (List.mem_cons_of_mem _ tw1_159))⟩ (dq_preS hW hS hA hK hZ) rfl rfl hl.1 rfl (lv_room (Nat.le_of_ble_eq_true rfl)) dDH_init_88 ⟨(by simp only []; omega), (by simp only []; omega)⟩) hW hS hA (fun u9 H locs hp9 hW hS hz9 => ?_)
        obtain ⟨ad13, w13⟩ := u9
        dsimp only at hW
        obtain ⟨hada, hfra, e18, e19, e20, e21, e22⟩ := hp9
        dsimp only at hada hfra e18 e19 e20 e21 e22
        have FA : ∀ j, (j < 18 ∨ 22 < j) → ad13 j = adk j := fun j hj => (hada j (by omega)).trans (had12 j (by omega))
        have FW : ∀ j, (j < 18 ∨ 22 < j) → w13 j = wk j := fun j hj => (hfra j (by omega)).trans (fr12 j (by omega))
        refine W.eq (g2 := F0 m 91 ls [.ref (ad13 18), .ref (ad13 0)]) (by rw [hada 18 (by omega), hada 0 (by omega)]) ?_
        have hl : lv_has ls 3 [(0, .ref (ad13 0))] := by rw [hada 0 (by omega)]; exact lv_sub hl [0] rfl
        refine W.widen (k := 78) (n := 978) (by omega) (by omega) ?_
        have o9 : w13 0 = some (.inr (7, [.ref (ad13 1), .ref (ad13 5), .ref (ad13 12), .ref (ad13 17), .null, .null, .null, .int 0, .int 0])) := by rw [FA 1 (by omega), FA 5 (by omega), FA 12 (by omega), FA 17 (by omega), FW 0 (by omega)]; exact o9
        refine dq_putF (D := D) (ci := 7) (v := .ref (ad13 18)) (ty := (.object "DrillHeads$Hits")) (C := RDH) (T := TDH) (N := 9) hx hb hts hinDH tyDH tyDH_ok nmDH hown hK hW hS 0 o9 rfl 4 (by decide) hf51 (fun _ h9 => h9) rfl hnm rfl (by decide +kernel) rfl rfl (Nat.le_of_ble_eq_true rfl) dDH_init_91 (fun H locs hW hS => ?_)
        obtain ⟨w14, hw14⟩ : ∃ wz, wz = dq_U w13 0 (.inr (7, [.ref (ad13 1), .ref (ad13 5), .ref (ad13 12), .ref (ad13 17), .ref (ad13 18), .null, .null, .int 0, .int 0])) := ⟨_, rfl⟩
        have hW : dq_W D vwCl ad13 w14 A H := by rw [hw14]; exact hW
        have o9 : w14 0 = some (.inr (7, [.ref (ad13 1), .ref (ad13 5), .ref (ad13 12), .ref (ad13 17), .ref (ad13 18), .null, .null, .int 0, .int 0])) := by rw [hw14]; exact dq_Us
        have fr14 : ∀ j, j ≠ 0 → w14 j = w13 j := fun j h1 => by rw [hw14, dq_Un h1]
        clear hw14
        have e1 : w14 1 = some (.inr (1, [.ref (ad13 2), .ref (ad13 3), .ref (ad13 4), .int 0, .int 0, .int 0, .int 0])) := by rw [FA 2 (by omega), FA 3 (by omega), FA 4 (by omega), fr14 1 (by decide), FW 1 (by omega)]; exact e1
        have e2 : w14 2 = some (.inl (g 0, (mo_n a0), .inl (fun _ => 0))) := by rw [fr14 2 (by decide), FW 2 (by omega)]; exact e2
        have e3 : w14 3 = some (.inl (g 0, (mo_n a0), .inl (fun _ => 0))) := by rw [fr14 3 (by decide), FW 3 (by omega)]; exact e3
        have e4 : w14 4 = some (.inl (g 0, (mo_n a0), .inl (fun _ => 0))) := by rw [fr14 4 (by decide), FW 4 (by omega)]; exact e4
        have e5 : w14 5 = some (.inr (3, [.ref (ad13 6), .ref (ad13 7), .ref (ad13 8), .ref (ad13 9), .ref (ad13 10), .ref (ad13 11), .int 0])) := by rw [FA 6 (by omega), FA 7 (by omega), FA 8 (by omega), FA 9 (by omega), FA 10 (by omega), FA 11 (by omega), fr14 5 (by decide), FW 5 (by omega)]; exact e5
        have e6 : w14 6 = some (.inl (g 0, 14, .inl (fun _ => 0))) := by rw [fr14 6 (by decide), FW 6 (by omega)]; exact e6
        have e7 : w14 7 = some (.inl (g 0, 14, .inl (fun _ => 0))) := by rw [fr14 7 (by decide), FW 7 (by omega)]; exact e7
        have e8 : w14 8 = some (.inl (g 0, 14, .inl (fun _ => 0))) := by rw [fr14 8 (by decide), FW 8 (by omega)]; exact e8
        have e9 : w14 9 = some (.inl (g 0, 14, .inl (fun _ => 0))) := by rw [fr14 9 (by decide), FW 9 (by omega)]; exact e9
        have e10 : w14 10 = some (.inl (g 0, 14, .inl (fun _ => 0))) := by rw [fr14 10 (by decide), FW 10 (by omega)]; exact e10
        have e11 : w14 11 = some (.inl (g 1, 14, .inl (fun _ => 0))) := by rw [fr14 11 (by decide), FW 11 (by omega)]; exact e11
        have e12 : w14 12 = some (.inr (0, [.ref (ad13 13), .ref (ad13 14), .ref (ad13 15), .ref (ad13 16), .int 0])) := by rw [FA 13 (by omega), FA 14 (by omega), FA 15 (by omega), FA 16 (by omega), fr14 12 (by decide), FW 12 (by omega)]; exact e12
        have e13 : w14 13 = some (.inl (g 0, 6, .inl (fun _ => 0))) := by rw [fr14 13 (by decide), FW 13 (by omega)]; exact e13
        have e14 : w14 14 = some (.inl (g 0, 6, .inl (fun _ => 0))) := by rw [fr14 14 (by decide), FW 14 (by omega)]; exact e14
        have e15 : w14 15 = some (.inl (g 0, 6, .inl (fun _ => 0))) := by rw [fr14 15 (by decide), FW 15 (by omega)]; exact e15
        have e16 : w14 16 = some (.inl (g 0, 6, .inl (fun _ => 0))) := by rw [fr14 16 (by decide), FW 16 (by omega)]; exact e16
        have e18 : w14 18 = some (.inr (2, [.ref (ad13 19), .ref (ad13 20), .ref (ad13 21), .ref (ad13 22), .int 0])) := by rw [fr14 18 (by decide)]; exact e18
        have e19 : w14 19 = some (.inl (g 0, 14, .inl (fun _ => 0))) := by rw [fr14 19 (by decide)]; exact e19
        have e20 : w14 20 = some (.inl (g 0, 14, .inl (fun _ => 0))) := by rw [fr14 20 (by decide)]; exact e20
        have e21 : w14 21 = some (.inl (g 0, 14, .inl (fun _ => 0))) := by rw [fr14 21 (by decide)]; exact e21
        have e22 : w14 22 = some (.inl (g 0, 14, .inl (fun _ => 0))) := by rw [fr14 22 (by decide)]; exact e22
        have FA0 : ∀ j, 85 < j → ad13 j = ad j := fun j hj => (FA j (by omega)).trans (FA0 j hj)
        have FW0 : ∀ j, 85 < j → w14 j = w j := fun j hj => (fr14 j (by omega)).trans ((FW j (by omega)).trans (FW0 j hj))
        have FA1 : ad13 0 = ad 0 := (FA 0 (by omega)).trans (FA1)
        have QA : ∀ j, 16 < j → (j = 17 ∨ 29 < j) → j < 86 → ad13 j = adP j := fun j h1 h2 h3 => (FA j (by omega)).trans (QA j h1 h2 h3)
        have QW : ∀ j, 16 < j → (j = 17 ∨ 29 < j) → j < 86 → w14 j = wP j := fun j h1 h2 h3 => (fr14 j (by omega)).trans ((FW j (by omega)).trans (QW j h1 h2 h3))
        refine lv_aload_n hx hb dDH_init_94 rfl (lv_at hl 0 rfl) ?_
        refine dq_new (D := D) (ci := 5) (C := RTb) (T := TTb) (N := 1) (fs := [.null]) hx hb hts (fun w h => List.mem_cons_of_mem _ (inTb w h)) tyTb tyTb_ok hown (hts _ (List.mem_cons_of_mem _ tw1_186)) (hts _ (List.mem_cons_of_mem _ tw1_187)) (hts _ (List.mem_cons_of_mem _ tw1_8)) hK hW hS hA (23) rfl (by decide) (by simp only []; omega) (by simp only []; omega) dDH_init_95 (fun q9 H hW hS => ?_)
        have had15 : ∀ j, j ≠ 23 → va_up ad13 (23) q9 j = ad13 j := fun j h => va_up_ne _ _ h
        have hq9 : va_up ad13 (23) q9 (23) = q9 := va_up_self _ _ _
        generalize va_up ad13 (23) q9 = ad15 at hW had15 hq9
        subst hq9
        obtain ⟨w15, hw15⟩ : ∃ wz, wz = dq_U w14 (23) (.inr (5, [.null])) := ⟨_, rfl⟩
        have hW : dq_W D vwCl ad15 w15 A H := by rw [hw15]; exact hW
        have o15 : w15 (23) = some (.inr (5, [.null])) := by rw [hw15]; exact dq_Us
        have fr15 : ∀ j, j ≠ 23 → w15 j = w14 j := fun j h1 => by rw [hw15, dq_Un h1]
        clear hw15
        refine W.eq (g2 := F0 m 98 ls [.ref (ad15 (23)), .ref (ad15 0)]) (by rw [had15 0 (by omega)]) ?_
        have hl : lv_has ls 3 [(0, .ref (ad15 0))] := by rw [had15 0 (by omega)]; exact (lv_sub hl [0] rfl)
        refine W.widen (k := 79) (n := 979) (by omega) (by omega) ?_
        refine lv_dup hx hb dDH_init_98 rfl ?_
        refine dq_callv2 (va_runIN (As := []) (rest := [.ref (ad15 (23)), .ref (ad15 0)]) ⟨hx, hb, hml, hown, hts⟩ (k_Table l D g ad15 w15 _  o15 ) ⟨va_cnB 0 hts (dq_gi tw1_190) rfl rfl rfl hZ.n4 (hts _ (List.mem_cons_of_mem _ tw1_8)) (by decide +kernel) ⟨Nat.le_of_ble_eq_true rfl, Nat.le_of_ble_eq_true rfl⟩, rfl, (hts _ (List.mem_cons_of_mem _ tw1_189))⟩ (dq_preS hW hS hA hK hZ) rfl rfl hl.1 rfl (lv_room (Nat.le_of_ble_eq_true rfl)) dDH_init_99 ⟨(by simp only []; omega), (by simp only []; omega)⟩) hW hS hA (fun u9 H locs hp9 hW hS hz9 => ?_)
        obtain ⟨ad16, w16⟩ := u9
        dsimp only at hW
        obtain ⟨hada, hfra, e23, e24⟩ := hp9
        dsimp only at hada hfra e23 e24
        have FA : ∀ j, (j < 23 ∨ 24 < j) → ad16 j = ad13 j := fun j hj => (hada j (by omega)).trans (had15 j (by omega))
        have FW : ∀ j, (j < 23 ∨ 24 < j) → w16 j = w14 j := fun j hj => (hfra j (by omega)).trans (fr15 j (by omega))
        refine W.eq (g2 := F0 m 102 ls [.ref (ad16 23), .ref (ad16 0)]) (by rw [hada 23 (by omega), hada 0 (by omega)]) ?_
        have hl : lv_has ls 3 [(0, .ref (ad16 0))] := by rw [hada 0 (by omega)]; exact lv_sub hl [0] rfl
        refine W.widen (k := 80) (n := 980) (by omega) (by omega) ?_
        have o9 : w16 0 = some (.inr (7, [.ref (ad16 1), .ref (ad16 5), .ref (ad16 12), .ref (ad16 17), .ref (ad16 18), .null, .null, .int 0, .int 0])) := by rw [FA 1 (by omega), FA 5 (by omega), FA 12 (by omega), FA 17 (by omega), FA 18 (by omega), FW 0 (by omega)]; exact o9
        refine dq_putF (D := D) (ci := 7) (v := .ref (ad16 23)) (ty := (.object "DrillHeads$Table")) (C := RDH) (T := TDH) (N := 9) hx hb hts hinDH tyDH tyDH_ok nmDH hown hK hW hS 0 o9 rfl 5 (by decide) hf58 (fun _ h9 => h9) rfl hnm rfl (by decide +kernel) rfl rfl (Nat.le_of_ble_eq_true rfl) dDH_init_102 (fun H locs hW hS => ?_)
        obtain ⟨w17, hw17⟩ : ∃ wz, wz = dq_U w16 0 (.inr (7, [.ref (ad16 1), .ref (ad16 5), .ref (ad16 12), .ref (ad16 17), .ref (ad16 18), .ref (ad16 23), .null, .int 0, .int 0])) := ⟨_, rfl⟩
        have hW : dq_W D vwCl ad16 w17 A H := by rw [hw17]; exact hW
        have o9 : w17 0 = some (.inr (7, [.ref (ad16 1), .ref (ad16 5), .ref (ad16 12), .ref (ad16 17), .ref (ad16 18), .ref (ad16 23), .null, .int 0, .int 0])) := by rw [hw17]; exact dq_Us
        have fr17 : ∀ j, j ≠ 0 → w17 j = w16 j := fun j h1 => by rw [hw17, dq_Un h1]
        clear hw17
        have e1 : w17 1 = some (.inr (1, [.ref (ad16 2), .ref (ad16 3), .ref (ad16 4), .int 0, .int 0, .int 0, .int 0])) := by rw [FA 2 (by omega), FA 3 (by omega), FA 4 (by omega), fr17 1 (by decide), FW 1 (by omega)]; exact e1
        have e2 : w17 2 = some (.inl (g 0, (mo_n a0), .inl (fun _ => 0))) := by rw [fr17 2 (by decide), FW 2 (by omega)]; exact e2
        have e3 : w17 3 = some (.inl (g 0, (mo_n a0), .inl (fun _ => 0))) := by rw [fr17 3 (by decide), FW 3 (by omega)]; exact e3
        have e4 : w17 4 = some (.inl (g 0, (mo_n a0), .inl (fun _ => 0))) := by rw [fr17 4 (by decide), FW 4 (by omega)]; exact e4
        have e5 : w17 5 = some (.inr (3, [.ref (ad16 6), .ref (ad16 7), .ref (ad16 8), .ref (ad16 9), .ref (ad16 10), .ref (ad16 11), .int 0])) := by rw [FA 6 (by omega), FA 7 (by omega), FA 8 (by omega), FA 9 (by omega), FA 10 (by omega), FA 11 (by omega), fr17 5 (by decide), FW 5 (by omega)]; exact e5
        have e6 : w17 6 = some (.inl (g 0, 14, .inl (fun _ => 0))) := by rw [fr17 6 (by decide), FW 6 (by omega)]; exact e6
        have e7 : w17 7 = some (.inl (g 0, 14, .inl (fun _ => 0))) := by rw [fr17 7 (by decide), FW 7 (by omega)]; exact e7
        have e8 : w17 8 = some (.inl (g 0, 14, .inl (fun _ => 0))) := by rw [fr17 8 (by decide), FW 8 (by omega)]; exact e8
        have e9 : w17 9 = some (.inl (g 0, 14, .inl (fun _ => 0))) := by rw [fr17 9 (by decide), FW 9 (by omega)]; exact e9
        have e10 : w17 10 = some (.inl (g 0, 14, .inl (fun _ => 0))) := by rw [fr17 10 (by decide), FW 10 (by omega)]; exact e10
        have e11 : w17 11 = some (.inl (g 1, 14, .inl (fun _ => 0))) := by rw [fr17 11 (by decide), FW 11 (by omega)]; exact e11
        have e12 : w17 12 = some (.inr (0, [.ref (ad16 13), .ref (ad16 14), .ref (ad16 15), .ref (ad16 16), .int 0])) := by rw [FA 13 (by omega), FA 14 (by omega), FA 15 (by omega), FA 16 (by omega), fr17 12 (by decide), FW 12 (by omega)]; exact e12
        have e13 : w17 13 = some (.inl (g 0, 6, .inl (fun _ => 0))) := by rw [fr17 13 (by decide), FW 13 (by omega)]; exact e13
        have e14 : w17 14 = some (.inl (g 0, 6, .inl (fun _ => 0))) := by rw [fr17 14 (by decide), FW 14 (by omega)]; exact e14
        have e15 : w17 15 = some (.inl (g 0, 6, .inl (fun _ => 0))) := by rw [fr17 15 (by decide), FW 15 (by omega)]; exact e15
        have e16 : w17 16 = some (.inl (g 0, 6, .inl (fun _ => 0))) := by rw [fr17 16 (by decide), FW 16 (by omega)]; exact e16
        have e18 : w17 18 = some (.inr (2, [.ref (ad16 19), .ref (ad16 20), .ref (ad16 21), .ref (ad16 22), .int 0])) := by rw [FA 19 (by omega), FA 20 (by omega), FA 21 (by omega), FA 22 (by omega), fr17 18 (by decide), FW 18 (by omega)]; exact e18
        have e19 : w17 19 = some (.inl (g 0, 14, .inl (fun _ => 0))) := by rw [fr17 19 (by decide), FW 19 (by omega)]; exact e19
        have e20 : w17 20 = some (.inl (g 0, 14, .inl (fun _ => 0))) := by rw [fr17 20 (by decide), FW 20 (by omega)]; exact e20
        have e21 : w17 21 = some (.inl (g 0, 14, .inl (fun _ => 0))) := by rw [fr17 21 (by decide), FW 21 (by omega)]; exact e21
        have e22 : w17 22 = some (.inl (g 0, 14, .inl (fun _ => 0))) := by rw [fr17 22 (by decide), FW 22 (by omega)]; exact e22
        have e23 : w17 23 = some (.inr (5, [.ref (ad16 24)])) := by rw [fr17 23 (by decide)]; exact e23
        have e24 : w17 24 = some (.inl (g 0, 1, .inl (fun _ => 0))) := by rw [fr17 24 (by decide)]; exact e24
        have FA0 : ∀ j, 85 < j → ad16 j = ad j := fun j hj => (FA j (by omega)).trans (FA0 j hj)
        have FW0 : ∀ j, 85 < j → w17 j = w j := fun j hj => (fr17 j (by omega)).trans ((FW j (by omega)).trans (FW0 j hj))
        have FA1 : ad16 0 = ad 0 := (FA 0 (by omega)).trans (FA1)
        have QA : ∀ j, 16 < j → (j = 17 ∨ 29 < j) → j < 86 → ad16 j = adP j := fun j h1 h2 h3 => (FA j (by omega)).trans (QA j h1 h2 h3)
        have QW : ∀ j, 16 < j → (j = 17 ∨ 29 < j) → j < 86 → w17 j = wP j := fun j h1 h2 h3 => (fr17 j (by omega)).trans ((FW j (by omega)).trans (QW j h1 h2 h3))
        refine lv_aload_n hx hb dDH_init_105 rfl (lv_at hl 0 rfl) ?_
        refine dq_new (D := D) (ci := 6) (C := RWy) (T := TWy) (N := 3) (fs := [.null, .long 0, .null]) hx hb hts (fun w h => List.mem_cons_of_mem _ (inWy w h)) tyWy tyWy_ok hown (hts _ (List.mem_cons_of_mem _ tw1_196)) (hts _ (List.mem_cons_of_mem _ tw1_197)) (hts _ (List.mem_cons_of_mem _ tw1_9)) hK hW hS hA (25) rfl (by decide) (by simp only []; omega) (by simp only []; omega) dDH_init_106 (fun q9 H hW hS => ?_)
        have had18 : ∀ j, j ≠ 25 → va_up ad16 (25) q9 j = ad16 j := fun j h => va_up_ne _ _ h
        have hq9 : va_up ad16 (25) q9 (25) = q9 := va_up_self _ _ _
        generalize va_up ad16 (25) q9 = ad18 at hW had18 hq9
        subst hq9
        obtain ⟨w18, hw18⟩ : ∃ wz, wz = dq_U w17 (25) (.inr (6, [.null, .long 0, .null])) := ⟨_, rfl⟩
        have hW : dq_W D vwCl ad18 w18 A H := by rw [hw18]; exact hW
        have o18 : w18 (25) = some (.inr (6, [.null, .long 0, .null])) := by rw [hw18]; exact dq_Us
        have fr18 : ∀ j, j ≠ 25 → w18 j = w17 j := fun j h1 => by rw [hw18, dq_Un h1]
        clear hw18
        refine W.eq (g2 := F0 m 109 ls [.ref (ad18 (25)), .ref (ad18 0)]) (by rw [had18 0 (by omega)]) ?_
        have hl : lv_has ls 3 [(0, .ref (ad18 0))] := by rw [had18 0 (by omega)]; exact (lv_sub hl [0] rfl)
        refine W.widen (k := 81) (n := 983) (by omega) (by omega) ?_
        refine lv_dup hx hb dDH_init_109 rfl ?_
        refine dq_callv2 (va_runIN (As := []) (rest := [.ref (ad18 (25)), .ref (ad18 0)]) ⟨hx, hb, hml, hown, hts⟩ (k_Way l D g ad18 w18 _  o18 ) ⟨va_cnB 0 hts (dq_gi tw1_200) rfl rfl rfl hZ.n5 (hts _ (List.mem_cons_of_mem _ tw1_9)) (by decide +kernel) ⟨Nat.le_of_ble_eq_true rfl, Nat.le_of_ble_eq_true rfl⟩, rfl, (hts _ (List.mem_cons_of_mem _ tw1_199))⟩ (dq_preS hW hS hA hK hZ) rfl rfl hl.1 rfl (lv_room (Nat.le_of_ble_eq_true rfl)) dDH_init_110 ⟨(by simp only []; omega), (by simp only []; omega)⟩) hW hS hA (fun u9 H locs hp9 hW hS hz9 => ?_)
        obtain ⟨ad19, w19⟩ := u9
        dsimp only at hW
        obtain ⟨hada, hfra, e25, e26, e27⟩ := hp9
        dsimp only at hada hfra e25 e26 e27
        have FA : ∀ j, (j < 25 ∨ 27 < j) → ad19 j = ad16 j := fun j hj => (hada j (by omega)).trans (had18 j (by omega))
        have FW : ∀ j, (j < 25 ∨ 27 < j) → w19 j = w17 j := fun j hj => (hfra j (by omega)).trans (fr18 j (by omega))
        refine W.eq (g2 := F0 m 113 ls [.ref (ad19 25), .ref (ad19 0)]) (by rw [hada 25 (by omega), hada 0 (by omega)]) ?_
        have hl : lv_has ls 3 [(0, .ref (ad19 0))] := by rw [hada 0 (by omega)]; exact lv_sub hl [0] rfl
        refine W.widen (k := 83) (n := 997) (by omega) (by omega) ?_
        have o9 : w19 0 = some (.inr (7, [.ref (ad19 1), .ref (ad19 5), .ref (ad19 12), .ref (ad19 17), .ref (ad19 18), .ref (ad19 23), .null, .int 0, .int 0])) := by rw [FA 1 (by omega), FA 5 (by omega), FA 12 (by omega), FA 17 (by omega), FA 18 (by omega), FA 23 (by omega), FW 0 (by omega)]; exact o9
        refine dq_putF (D := D) (ci := 7) (v := .ref (ad19 25)) (ty := (.object "DrillHeads$Way")) (C := RDH) (T := TDH) (N := 9) hx hb hts hinDH tyDH tyDH_ok nmDH hown hK hW hS 0 o9 rfl 6 (by decide) hf65 (fun _ h9 => h9) rfl hnm rfl (by decide +kernel) rfl rfl (Nat.le_of_ble_eq_true rfl) dDH_init_113 (fun H locs hW hS => ?_)
        obtain ⟨w20, hw20⟩ : ∃ wz, wz = dq_U w19 0 (.inr (7, [.ref (ad19 1), .ref (ad19 5), .ref (ad19 12), .ref (ad19 17), .ref (ad19 18), .ref (ad19 23), .ref (ad19 25), .int 0, .int 0])) := ⟨_, rfl⟩
        have hW : dq_W D vwCl ad19 w20 A H := by rw [hw20]; exact hW
        have o9 : w20 0 = some (.inr (7, [.ref (ad19 1), .ref (ad19 5), .ref (ad19 12), .ref (ad19 17), .ref (ad19 18), .ref (ad19 23), .ref (ad19 25), .int 0, .int 0])) := by rw [hw20]; exact dq_Us
        have fr20 : ∀ j, j ≠ 0 → w20 j = w19 j := fun j h1 => by rw [hw20, dq_Un h1]
        clear hw20
        have e1 : w20 1 = some (.inr (1, [.ref (ad19 2), .ref (ad19 3), .ref (ad19 4), .int 0, .int 0, .int 0, .int 0])) := by rw [FA 2 (by omega), FA 3 (by omega), FA 4 (by omega), fr20 1 (by decide), FW 1 (by omega)]; exact e1
        have e2 : w20 2 = some (.inl (g 0, (mo_n a0), .inl (fun _ => 0))) := by rw [fr20 2 (by decide), FW 2 (by omega)]; exact e2
        have e3 : w20 3 = some (.inl (g 0, (mo_n a0), .inl (fun _ => 0))) := by rw [fr20 3 (by decide), FW 3 (by omega)]; exact e3
        have e4 : w20 4 = some (.inl (g 0, (mo_n a0), .inl (fun _ => 0))) := by rw [fr20 4 (by decide), FW 4 (by omega)]; exact e4
        have e5 : w20 5 = some (.inr (3, [.ref (ad19 6), .ref (ad19 7), .ref (ad19 8), .ref (ad19 9), .ref (ad19 10), .ref (ad19 11), .int 0])) := by rw [FA 6 (by omega), FA 7 (by omega), FA 8 (by omega), FA 9 (by omega), FA 10 (by omega), FA 11 (by omega), fr20 5 (by decide), FW 5 (by omega)]; exact e5
        have e6 : w20 6 = some (.inl (g 0, 14, .inl (fun _ => 0))) := by rw [fr20 6 (by decide), FW 6 (by omega)]; exact e6
        have e7 : w20 7 = some (.inl (g 0, 14, .inl (fun _ => 0))) := by rw [fr20 7 (by decide), FW 7 (by omega)]; exact e7
        have e8 : w20 8 = some (.inl (g 0, 14, .inl (fun _ => 0))) := by rw [fr20 8 (by decide), FW 8 (by omega)]; exact e8
        have e9 : w20 9 = some (.inl (g 0, 14, .inl (fun _ => 0))) := by rw [fr20 9 (by decide), FW 9 (by omega)]; exact e9
        have e10 : w20 10 = some (.inl (g 0, 14, .inl (fun _ => 0))) := by rw [fr20 10 (by decide), FW 10 (by omega)]; exact e10
        have e11 : w20 11 = some (.inl (g 1, 14, .inl (fun _ => 0))) := by rw [fr20 11 (by decide), FW 11 (by omega)]; exact e11
        have e12 : w20 12 = some (.inr (0, [.ref (ad19 13), .ref (ad19 14), .ref (ad19 15), .ref (ad19 16), .int 0])) := by rw [FA 13 (by omega), FA 14 (by omega), FA 15 (by omega), FA 16 (by omega), fr20 12 (by decide), FW 12 (by omega)]; exact e12
        have e13 : w20 13 = some (.inl (g 0, 6, .inl (fun _ => 0))) := by rw [fr20 13 (by decide), FW 13 (by omega)]; exact e13
        have e14 : w20 14 = some (.inl (g 0, 6, .inl (fun _ => 0))) := by rw [fr20 14 (by decide), FW 14 (by omega)]; exact e14
        have e15 : w20 15 = some (.inl (g 0, 6, .inl (fun _ => 0))) := by rw [fr20 15 (by decide), FW 15 (by omega)]; exact e15
        have e16 : w20 16 = some (.inl (g 0, 6, .inl (fun _ => 0))) := by rw [fr20 16 (by decide), FW 16 (by omega)]; exact e16
        have e18 : w20 18 = some (.inr (2, [.ref (ad19 19), .ref (ad19 20), .ref (ad19 21), .ref (ad19 22), .int 0])) := by rw [FA 19 (by omega), FA 20 (by omega), FA 21 (by omega), FA 22 (by omega), fr20 18 (by decide), FW 18 (by omega)]; exact e18
        have e19 : w20 19 = some (.inl (g 0, 14, .inl (fun _ => 0))) := by rw [fr20 19 (by decide), FW 19 (by omega)]; exact e19
        have e20 : w20 20 = some (.inl (g 0, 14, .inl (fun _ => 0))) := by rw [fr20 20 (by decide), FW 20 (by omega)]; exact e20
        have e21 : w20 21 = some (.inl (g 0, 14, .inl (fun _ => 0))) := by rw [fr20 21 (by decide), FW 21 (by omega)]; exact e21
        have e22 : w20 22 = some (.inl (g 0, 14, .inl (fun _ => 0))) := by rw [fr20 22 (by decide), FW 22 (by omega)]; exact e22
        have e23 : w20 23 = some (.inr (5, [.ref (ad19 24)])) := by rw [FA 24 (by omega), fr20 23 (by decide), FW 23 (by omega)]; exact e23
        have e24 : w20 24 = some (.inl (g 0, 1, .inl (fun _ => 0))) := by rw [fr20 24 (by decide), FW 24 (by omega)]; exact e24
        have e25 : w20 25 = some (.inr (6, [.ref (ad19 26), .long 0, .ref (ad19 27)])) := by rw [fr20 25 (by decide)]; exact e25
        have e26 : w20 26 = some (.inl (g 0, 14, .inl (fun _ => 0))) := by rw [fr20 26 (by decide)]; exact e26
        have e27 : w20 27 = some (.inl (g 0, 0, .inl (fun _ => 0))) := by rw [fr20 27 (by decide)]; exact e27
        have FA0 : ∀ j, 85 < j → ad19 j = ad j := fun j hj => (FA j (by omega)).trans (FA0 j hj)
        have FW0 : ∀ j, 85 < j → w20 j = w j := fun j hj => (fr20 j (by omega)).trans ((FW j (by omega)).trans (FW0 j hj))
        have FA1 : ad19 0 = ad 0 := (FA 0 (by omega)).trans (FA1)
        have QA : ∀ j, 16 < j → (j = 17 ∨ 29 < j) → j < 86 → ad19 j = adP j := fun j h1 h2 h3 => (FA j (by omega)).trans (QA j h1 h2 h3)
        have QW : ∀ j, 16 < j → (j = 17 ∨ 29 < j) → j < 86 → w20 j = wP j := fun j h1 h2 h3 => (fr20 j (by omega)).trans ((FW j (by omega)).trans (QW j h1 h2 h3))
        refine W.widen (k := 83) (n := 1000) (by omega) (by omega) ?_
        have lp0 : ∀ h, h < 14 → w20 (30 + 4 * h) = some (.inr (4, [.ref (ad19 (31 + 4 * h)), .ref (ad19 (32 + 4 * h)), .ref (ad19 (33 + 4 * h)), .int 0])) := fun h hh => by rw [QW _ (by omega) (by omega) (by omega), QA _ (by omega) (by omega) (by omega), QA _ (by omega) (by omega) (by omega), QA _ (by omega) (by omega) (by omega)]; exact lp0 h hh
        have lp1 : ∀ h, h < 14 → w20 (31 + 4 * h) = some (.inl (g 0, 16, .inl (fun _ => 0))) := fun h hh => by rw [QW _ (by omega) (by omega) (by omega)]; exact lp1 h hh
        have lp2 : ∀ h, h < 14 → w20 (32 + 4 * h) = some (.inl (g 0, 16, .inl (fun _ => 0))) := fun h hh => by rw [QW _ (by omega) (by omega) (by omega)]; exact lp2 h hh
        have lp3 : ∀ h, h < 14 → w20 (33 + 4 * h) = some (.inl (g 0, 16, .inl (fun _ => 0))) := fun h hh => by rw [QW _ (by omega) (by omega) (by omega)]; exact lp3 h hh
        have z17 : w20 17 = some (.inl (g 3, 14, .inr (.inr (.inr (.inr (fun h => if h < 14 then some (adP (30 + 4 * h)) else none)))))) := by rw [QW 17 (by decide) (Or.inl rfl) (by decide)]; exact k17
        have FAj : ∀ j, (j < 1 ∨ 85 < j) → ad19 j = ad j := fun j hj => by rcases hj with hj | hj; (rw [show j = 0 by omega]; exact FA1); exact FA0 j hj
        have hW := dq_reQ hW z17 (f' := fun h => some (ad19 (30 + 4 * h))) (fun j hj => by rw [if_pos hj, QA _ (by omega) (by omega) (by omega)])
        obtain ⟨wX, hwX⟩ : ∃ wz, wz = dq_U w20 17 (.inl (g 3, 14, .inr (.inr (.inr (.inr (fun h => some (ad19 (30 + 4 * h)))))))) := ⟨_, rfl⟩
        have hW : dq_W D vwCl ad19 wX A H := by rw [hwX]; exact hW
        have x17 : wX 17 = some (.inl (g 3, 14, .inr (.inr (.inr (.inr (fun h => some (ad19 (30 + 4 * h)))))))) := by rw [hwX]; exact dq_Us
        have fX : ∀ j, j ≠ 17 → wX j = w20 j := fun j h1 => by rw [hwX, dq_Un h1]
        exact hret (ad19, wX) _ _ _ _ ⟨FAj, fun j hj => (fX j (by omega)).trans (FW0 j hj), (fX 0 (by decide)).trans o9, (fX 1 (by decide)).trans e1, (fX 2 (by decide)).trans e2, (fX 3 (by decide)).trans e3, (fX 4 (by decide)).trans e4, (fX 5 (by decide)).trans e5, (fX 6 (by decide)).trans e6, (fX 7 (by decide)).trans e7, (fX 8 (by decide)).trans e8, (fX 9 (by decide)).trans e9, (fX 10 (by decide)).trans e10, (fX 11 (by decide)).trans e11, (fX 12 (by decide)).trans e12, (fX 13 (by decide)).trans e13, (fX 14 (by decide)).trans e14, (fX 15 (by decide)).trans e15, (fX 16 (by decide)).trans e16, x17, (fX 18 (by decide)).trans e18, (fX 19 (by decide)).trans e19, (fX 20 (by decide)).trans e20, (fX 21 (by decide)).trans e21, (fX 22 (by decide)).trans e22, (fX 23 (by decide)).trans e23, (fX 24 (by decide)).trans e24, (fX 25 (by decide)).trans e25, (fX 26 (by decide)).trans e26, (fX 27 (by decide)).trans e27, fun h hh => (fX _ (by omega)).trans (lp0 h hh), fun h hh => (fX _ (by omega)).trans (lp1 h hh), fun h hh => (fX _ (by omega)).trans (lp2 h hh), fun h hh => (fX _ (by omega)).trans (lp3 h hh)⟩ hW hS dDH_init_116
      · have hkn : k < 14 := by rcases Nat.lt_or_ge k 14 with q | q; exact q; exact absurd (nI_le q (by omega)) c1
        have o9k : wk 0 = some (.inr (7, [.ref (ad10 1), .ref (ad10 5), .ref (ad10 12), .ref (adk 17), .null, .null, .null, .int 0, .int 0])) := by rw [hA9 17 (by omega), hW9 0 (by decide) (by omega)]; exact o9
        refine lv_aload_n hx hb dDH_init_64 rfl (lv_at hl 0 rfl) ?_
        refine dq_get (D := D) (ci := 7) (v := .ref (adk 17)) (C := RDH) (T := TDH) (N := 9) hx hb hts hinDH hown hK hW 0 o9k rfl 3 (by decide) hf43 (fun _ h9 => h9) rfl dDH_init_65 ?_
        refine lv_iload_n hx hb dDH_init_68 rfl (lv_at hl 1 rfl) ?_
        refine dq_new (D := D) (ci := 4) (C := RPl) (T := TPl) (N := 4) (fs := [.null, .null, .null, .int 0]) hx hb hts (fun w h => List.mem_cons_of_mem _ (inPl w h)) tyPl tyPl_ok hown (hts _ (List.mem_cons_of_mem _ tw1_130)) (hts _ (List.mem_cons_of_mem _ tw1_132)) (hts _ (List.mem_cons_of_mem _ tw1_6)) hK hW hS hA (30 + 4 * k) rfl (by decide) (by simp only []; omega) (by simp only []; omega) dDH_init_69 (fun q9 H hW hS => ?_)
        have had61 : ∀ j, j ≠ 30 + 4 * k → va_up adk (30 + 4 * k) q9 j = adk j := fun j h => va_up_ne _ _ h
        have hq9 : va_up adk (30 + 4 * k) q9 (30 + 4 * k) = q9 := va_up_self _ _ _
        generalize va_up adk (30 + 4 * k) q9 = ad61 at hW had61 hq9
        subst hq9
        obtain ⟨w61, hw61⟩ : ∃ wz, wz = dq_U wk (30 + 4 * k) (.inr (4, [.null, .null, .null, .int 0])) := ⟨_, rfl⟩
        have hW : dq_W D vwCl ad61 w61 A H := by rw [hw61]; exact hW
        have o61 : w61 (30 + 4 * k) = some (.inr (4, [.null, .null, .null, .int 0])) := by rw [hw61]; exact dq_Us
        have fr61 : ∀ j, j ≠ 30 + 4 * k → w61 j = wk j := fun j h1 => by rw [hw61, dq_Un h1]
        clear hw61
        refine W.eq (g2 := F0 m 72 ls [.ref (ad61 (30 + 4 * k)), .int (nI k), .ref (ad61 17)]) (by rw [had61 17 (by omega)]) ?_
        have hl : lv_has ls 3 [(0, .ref (ad61 0)), (2, .int (nI k))] := by rw [had61 0 (by omega)]; exact (lv_sub hl [0, 1] rfl)
        refine lv_dup hx hb dDH_init_72 rfl ?_
        refine dq_callv2 (va_runIN (As := []) (rest := [.ref (ad61 (30 + 4 * k)), .int (nI k), .ref (ad61 17)]) ⟨hx, hb, hml, hown, hts⟩ (k_Places l D g ad61 w61 _ k o61 ) ⟨va_cnB 0 hts (dq_gi tw1_135) rfl rfl rfl hZ.n2 (hts _ (List.mem_cons_of_mem _ tw1_6)) (by decide +kernel) ⟨Nat.le_of_ble_eq_true rfl, Nat.le_of_ble_eq_true rfl⟩, rfl, (hts _ (List.mem_cons_of_mem _ tw1_134))⟩ (dq_preS hW hS hA hK hZ) rfl rfl hl.1 rfl (lv_room (Nat.le_of_ble_eq_true rfl)) dDH_init_73 ⟨(by simp only []; omega), (by simp only []; omega)⟩) hW hS hA (fun u9 H locs hp9 hW hS hz9 => ?_)
        obtain ⟨ad62, w62⟩ := u9
        dsimp only at hW
        obtain ⟨hada, hfra, z0, z1, z2, z3⟩ := hp9
        dsimp only at hada hfra z0 z1 z2 z3
        have FA : ∀ j, (j < 30 + 4 * k ∨ 33 + 4 * k < j) → ad62 j = adk j := fun j hj => (hada j (by omega)).trans (had61 j (by omega))
        have FW : ∀ j, (j < 30 + 4 * k ∨ 33 + 4 * k < j) → w62 j = wk j := fun j hj => (hfra j (by omega)).trans (fr61 j (by omega))
        refine W.eq (g2 := F0 m 76 ls [.ref (ad62 (30 + 4 * k)), .int (nI k), .ref (ad62 17)]) (by rw [hada (30 + 4 * k) (by omega), hada 17 (by omega)]) ?_
        have hl : lv_has ls 3 [(0, .ref (ad62 0)), (2, .int (nI k))] := by rw [hada 0 (by omega)]; exact hl
        have z17 : w62 17 = some (.inl (g 3, 14, .inr (.inr (.inr (.inr (fun h => if h < k then some (adk (30 + 4 * h)) else none)))))) := by rw [FW 17 (by omega)]; exact k17
        refine dq_aastN (ci := 4) hx hb hK hW hS 17 3 (30 + 4 * k) z17 rfl z0 rfl rfl k hkn (by omega) dDH_init_76 (fun H locs hW hS => ?_)
        have hup : va_up (fun h => if h < k then some (adk (30 + 4 * h)) else none) k (some (ad62 (30 + 4 * k))) = (fun h => if h < k + 1 then some (ad62 (30 + 4 * h)) else none) := by
          funext h
          by_cases q1 : h = k
          · subst q1; rw [va_up_self, if_pos (by omega)]
          · rw [va_up_ne _ _ q1]; by_cases q2 : h < k; (rw [if_pos q2, if_pos (by omega), FA _ (by omega)]); (rw [if_neg q2, if_neg (by omega)])
        rw [hup] at hW
        obtain ⟨wn, hwn⟩ : ∃ wz, wz = dq_U w62 17 (.inl (g 3, 14, .inr (.inr (.inr (.inr (fun h => if h < (k + 1) then some (ad62 (30 + 4 * h)) else none)))))) := ⟨_, rfl⟩
        have hW : dq_W D vwCl ad62 wn A H := by rw [hwn]; exact hW
        have hw17 : wn 17 = some (.inl (g 3, 14, .inr (.inr (.inr (.inr (fun h => if h < (k + 1) then some (ad62 (30 + 4 * h)) else none)))))) := by rw [hwn]; exact dq_Us
        have fwn : ∀ j, j ≠ 17 → wn j = w62 j := fun j h1 => by rw [hwn, dq_Un h1]
        refine lv_iinc (v := (nI (k + 1))) (lv' := [(2, .int (nI (k + 1))), (0, .ref (ad62 0))]) hx hb dDH_init_77 hl (k := 1) rfl (by show nI k + 1 = _; exact nI_1 _) (by decide) rfl (fun ls hl => ?_)
        refine lv_goto (tgt := 58) hx hb dDH_init_80 (by decide) ?_
        refine W.widen (k := 17 + 4 * (k + 1)) (n := 189 + 52 * (k + 1)) (by omega) (by omega) ?_
        exact ih (k + 1) ad62 wn _ _ _ (by omega) (by omega) (fun j hj => (FA j (by omega)).trans (hA9 j (by omega))) (fun j h1 hj => (fwn j h1).trans ((FW j (by omega)).trans (hW9 j h1 (by omega)))) hw17 (fun h hh => by by_cases q1 : h = k; (subst q1; exact (fwn _ (by omega)).trans z0); exact (by rw [fwn _ (by omega), FW _ (by omega), FA _ (by omega), FA _ (by omega), FA _ (by omega)]; exact lp0 h (by omega))) (fun h hh => by by_cases q1 : h = k; (subst q1; exact (fwn _ (by omega)).trans z1); exact (by rw [fwn _ (by omega), FW _ (by omega)]; exact lp1 h (by omega))) (fun h hh => by by_cases q1 : h = k; (subst q1; exact (fwn _ (by omega)).trans z2); exact (by rw [fwn _ (by omega), FW _ (by omega)]; exact lp2 h (by omega))) (fun h hh => by by_cases q1 : h = k; (subst q1; exact (fwn _ (by omega)).trans z3); exact (by rw [fwn _ (by omega), FW _ (by omega)]; exact lp3 h (by omega))) hW hS (lv_sub hl [1, 0] rfl)
  refine loop 15 0 ad10 w11 _ _ _ (by omega) (by omega) (fun _ _ => rfl) (fun _ _ _ => rfl) e17 (fun h hh => absurd hh (Nat.not_lt_zero h)) (fun h hh => absurd hh (Nat.not_lt_zero h)) (fun h hh => absurd hh (Nat.not_lt_zero h)) (fun h hh => absurd hh (Nat.not_lt_zero h)) hW hS (lv_sub hl [1, 0] rfl)
