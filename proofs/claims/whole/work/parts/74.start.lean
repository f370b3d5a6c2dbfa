theorem c_cell2 (l : Launch) (b L : Nat) (xs : Nat → Int32) (hL : L < 2 ^ 31) {a0 : Int32} (h : (if 0 < L then xs 0 else 0) = a0) : Met l yLw_cell wsLw_cell ({ frames := 0, cells := 0, slots := 0, locals := 0 } : Room) (va_Pc [.ref b, .int 0] (fun U => va_X b L xs U U.heap)) (va_Sr (fun _ => True) (fun _ => .int a0)) 0 0 (fun _ => False) := by
  subst h
  exact c_cell l b L xs hL
set_option maxHeartbeats 4000000 in
set_option maxRecDepth 100000 in
/-- from the entry, for every script of at most 3073 ints, the law comes to its end with true -/
theorem whole_start {p : Program} {e : Env} {s : State} {m : MethodId} {below : List Frame} {meth : Method} {c : Code} (l : Launch) (htr : l.stackTraces = false) {b L : Nat} {xs : Nat → Int32} (hL3 : L ≤ 3073) (C0 : lw_At p s m meth c b L xs) : W p l e room_1 s m #[Value.ref b] below meth c s.heap [] 0 0 (lw_Z below #[Value.ref b] s) (entryFrame m ([Value.ref b] : List Value).toArray 8) := by
  obtain ⟨hx, hb, hr, hml, hown, hts0, hX9, hbl, hlocks, hgv⟩ := C0
  have hb : c.code = cLw_law := hb
  have hown : s.vm.findClass RLw = some m.cls := hown
  have hL : L < 2 ^ 31 := by omega
  obtain ⟨A, hAe⟩ : ∃ A : Nat → Prop, A = (fun q : Nat => s.heap.size ≤ q) := ⟨_, rfl⟩
  have hA : ∀ q : Nat, s.heap.size ≤ q → A q := fun q h => by rw [hAe]; exact h
  have hAz : ∀ q : Nat, A q → s.heap.size ≤ q := fun q h => by rw [hAe] at h; exact h
  have hbA : ¬ A b := fun h => absurd (hAz b h) (Nat.not_le.mpr hbl)
  have hZ : dq_Z A s s.heap := by rw [hAe]; exact st_Z hts0 hgv
  clear hAe
  obtain ⟨D, g, hK⟩ := st_K hts0
  have hts : ∀ w ∈ Cond.tt :: dq_G, w.before ([.ref b] : List Value).toArray s = true := fun w hw => by
    rcases List.mem_cons.mp hw with h | h
    · subst h; rfl
    · exact hts0 w (lw_dqG w h)
  have hS : va_S A s.heap s.heap [] := va_S.rf
  have hW : dq_W D vwCl (fun _ => 0) (fun _ => none) A s.heap := ⟨fun r e h => (by cases h), fun r r' e e' h => (by cases h)⟩
  obtain ⟨a0, ha0⟩ : ∃ a0 : Int32, (if 0 < L then xs 0 else 0) = a0 := ⟨_, rfl⟩
  have hl := lv_entry ([.ref b]) (n := 8) (Nat.le_of_ble_eq_true rfl)
  rw [lg_entry_eq]
  generalize (lg_sl ([.ref b]) ++ List.replicate (8 - (lg_sl ([.ref b])).length) Slot.unset).toArray = ls at hl ⊢
  have hl : lv_has ls 8 [(0, .ref b)] := hl
  refine dq_new (D := D) (ci := 7) (C := RDH) (T := TDH) (N := 9) (fs := [.null, .null, .null, .null, .null, .null, .null, .int 0, .int 0]) hx hb hts (fun w h => List.mem_cons_of_mem _ (inDH w h)) tyDH tyDH_ok hown (hts _ (List.mem_cons_of_mem _ tw1_18)) (hts _ (List.mem_cons_of_mem _ tw1_19)) (hts _ (List.mem_cons_of_mem _ tw1_1)) hK hW hS hA 0 rfl (by decide) (Nat.le_of_ble_eq_true rfl) (Nat.le_of_ble_eq_true rfl) dLw_law_0 (fun q9 H hW hS => ?_)
  have had1 : ∀ j, j ≠ 0 → va_up (fun _ => 0) 0 q9 j = (fun _ => 0) j := fun j h => va_up_ne _ _ h
  have hq9 : va_up (fun _ => 0) 0 q9 0 = q9 := va_up_self _ _ _
  generalize va_up (fun _ => 0) 0 q9 = ad1 at hW had1 hq9
  subst hq9
  obtain ⟨w1, hw1⟩ : ∃ wz, wz = dq_U (fun _ => none) 0 (.inr (7, [.null, .null, .null, .null, .null, .null, .null, .int 0, .int 0])) := ⟨_, rfl⟩
  have hW : dq_W D vwCl ad1 w1 A H := by rw [hw1]; exact hW
  have o1 : w1 0 = some (.inr (7, [.null, .null, .null, .null, .null, .null, .null, .int 0, .int 0])) := by rw [hw1]; exact dq_Us
  have fr1 : ∀ j, j ≠ 0 → w1 j = (fun _ => none) j := fun j h1 => by rw [hw1, dq_Un h1]
  clear hw1
  refine W.widen (k := 1) (n := 9) (by omega) (by omega) ?_
  refine lv_dup hx hb dLw_law_3 rfl ?_
  refine lv_aload_n hx hb dLw_law_4 rfl (lv_at hl 0 rfl) ?_
  refine lv_iconst (v := (0)) hx hb dLw_law_5 (by decide) ?_
  refine va_csr (W.runS (As := [.ref b, .int 0]) (rest := [.ref (ad1 0), .ref (ad1 0)]) ⟨hx, hb, hml, hown, hts⟩ (c_cell2 l b L xs hL ha0) (cwS 2 hts (dq_giS2 tw2_116 tw2_117 tw1_0 tw2_118) rfl rfl rfl (by decide +kernel) ⟨Nat.le_of_ble_eq_true rfl, Nat.le_of_ble_eq_true rfl⟩) ⟨cl_blind, fun U hU hw => ⟨rfl, va_X.moved hw.alike (hX9.kept (by rw [hU]; exact hS.2.1 b hbl hbA))⟩⟩ rfl rfl hl.1 rfl (lv_room (Nat.le_of_ble_eq_true rfl)) dLw_law_6 ⟨Nat.le_of_ble_eq_true rfl, Nat.le_of_ble_eq_true rfl⟩) (fun _ _ => ?_)
  show W p l e room_1 s m ([.ref b] : List Value).toArray below meth c H [] 1 9 _ (F0 m 9 ls [.int a0, .ref (ad1 0), .ref (ad1 0)])
  refine dq_callv2 (va_runI (As := [.int a0]) (rest := [.ref (ad1 0)]) ⟨hx, hb, hml, hown, hts⟩ (k_DrillHeads l D g ad1 w1 _ a0 o1) (cwI 1 hts (dq_gi tw1_22) rfl rfl rfl (hts _ (List.mem_cons_of_mem _ tw1_1)) (hts _ (List.mem_cons_of_mem _ tw1_20)) (hts _ (List.mem_cons_of_mem _ tw1_21)) rfl (by decide +kernel) ⟨Nat.le_of_ble_eq_true rfl, Nat.le_of_ble_eq_true rfl⟩) (dq_preS hW hS hA hK hZ) rfl rfl hl.1 rfl (lv_room (Nat.le_of_ble_eq_true rfl)) dLw_law_9 ⟨Nat.le_of_ble_eq_true rfl, Nat.le_of_ble_eq_true rfl⟩) hW hS hA (fun u9 H locs hp9 hW hS hz9 => ?_)
  obtain ⟨ad2, w2⟩ := u9
  dsimp only at hW
  obtain ⟨hada2, hfra2, e0, e1, e2, e3, e4, e5, e6, e7, e8, e9, e10, e11, e12, e13, e14, e15, e16, e17, e18, e19, e20, e21, e22, e23, e24, e25, e26, e27, l30, l31, l32, l33⟩ := hp9
  dsimp only at hada2 hfra2 e0 e1 e2 e3 e4 e5 e6 e7 e8 e9 e10 e11 e12 e13 e14 e15 e16 e17 e18 e19 e20 e21 e22 e23 e24 e25 e26 e27 l30 l31 l32 l33
  refine W.widen (k := 84) (n := 1009) (by omega) (by omega) ?_
  refine W.eq (g2 := F0 m 12 ls [.ref (ad2 0)]) (by rw [hada2 0 (by omega)]) ?_
  refine lv_astore_n (lv' := [(1, .ref (ad2 0)), (0, .ref b)]) hx hb dLw_law_12 rfl hl (by decide) rfl (fun ls hl => ?_)
  refine dq_new (D := D) (ci := 8) (C := RMo) (T := TMo) (N := 29) (fs := [.int 0, .int 0, .null, .null, .null, .int 0, .null, .null, .null, .null, .null, .null, .int 0, .null, .int 0, .int 0, .null, .null, .null, .null, .int 0, .null, .long 0, .null, .null, .null, .null, .null, .null]) hx hb hts (fun w h => List.mem_cons_of_mem _ (inMo w h)) tyMo tyMo_ok hown (hts _ (List.mem_cons_of_mem _ tw3_148)) (hts _ (List.mem_cons_of_mem _ tw3_149)) (hts _ (List.mem_cons_of_mem _ tw1_10)) hK hW hS hA 100 rfl (by decide) (Nat.le_of_ble_eq_true rfl) (Nat.le_of_ble_eq_true rfl) dLw_law_13 (fun q9 H hW hS => ?_)
  have had3 : ∀ j, j ≠ 100 → va_up ad2 100 q9 j = ad2 j := fun j h => va_up_ne _ _ h
  have hq9 : va_up ad2 100 q9 100 = q9 := va_up_self _ _ _
  generalize va_up ad2 100 q9 = ad3 at hW had3 hq9
  subst hq9
  obtain ⟨w3, hw3⟩ : ∃ wz, wz = dq_U w2 100 (.inr (8, [.int 0, .int 0, .null, .null, .null, .int 0, .null, .null, .null, .null, .null, .null, .int 0, .null, .int 0, .int 0, .null, .null, .null, .null, .int 0, .null, .long 0, .null, .null, .null, .null, .null, .null])) := ⟨_, rfl⟩
  have hW : dq_W D vwCl ad3 w3 A H := by rw [hw3]; exact hW
  have o3 : w3 100 = some (.inr (8, [.int 0, .int 0, .null, .null, .null, .int 0, .null, .null, .null, .null, .null, .null, .int 0, .null, .int 0, .int 0, .null, .null, .null, .null, .int 0, .null, .long 0, .null, .null, .null, .null, .null, .null])) := by rw [hw3]; exact dq_Us
  have fr3 : ∀ j, j ≠ 100 → w3 j = w2 j := fun j h1 => by rw [hw3, dq_Un h1]
  clear hw3
  have hl : lv_has ls 8 [(1, .ref (ad3 0)), (0, .ref b)] := by rw [had3 0 (by omega)]; exact hl
  refine W.widen (k := 85) (n := 1038) (by omega) (by omega) ?_
  refine lv_dup hx hb dLw_law_16 rfl ?_
  refine lv_aload_n hx hb dLw_law_17 rfl (lv_at hl 1 rfl) ?_
  refine lv_iconst (v := (0)) hx hb dLw_law_18 (by decide) ?_
  refine va_csr (W.runS (As := [.ref b, .int 0]) (rest := [.ref (ad3 100), .ref (ad3 100)]) ⟨hx, hb, hml, hown, hts⟩ (c_cell2 l b L xs hL ha0) (cwS 2 hts (dq_giS2 tw2_116 tw2_117 tw1_0 tw2_118) rfl rfl rfl (by decide +kernel) ⟨Nat.le_of_ble_eq_true rfl, Nat.le_of_ble_eq_true rfl⟩) ⟨cl_blind, fun U hU hw => ⟨rfl, va_X.moved hw.alike (hX9.kept (by rw [hU]; exact hS.2.1 b hbl hbA))⟩⟩ rfl rfl hl.1 rfl (lv_room (Nat.le_of_ble_eq_true rfl)) dLw_law_19 ⟨Nat.le_of_ble_eq_true rfl, Nat.le_of_ble_eq_true rfl⟩) (fun _ _ => ?_)
  show W p l e room_1 s m ([.ref b] : List Value).toArray below meth c H locs 85 1038 _ (F0 m 22 ls [.int a0, .ref (ad3 100), .ref (ad3 100)])
  refine dq_callv2 (va_runI (As := [.int a0]) (rest := [.ref (ad3 100)]) ⟨hx, hb, hml, hown, hts⟩ (k_Model l D g ad3 w3 _ a0 o3) (cwI 1 hts (dq_gi tw3_152) rfl rfl rfl (hts _ (List.mem_cons_of_mem _ tw1_10)) (hts _ (List.mem_cons_of_mem _ tw3_150)) (hts _ (List.mem_cons_of_mem _ tw3_151)) rfl (by decide +kernel) ⟨Nat.le_of_ble_eq_true rfl, Nat.le_of_ble_eq_true rfl⟩) (dq_preS hW hS hA hK hZ) rfl rfl hl.1 rfl (lv_room (Nat.le_of_ble_eq_true rfl)) dLw_law_22 ⟨Nat.le_of_ble_eq_true rfl, Nat.le_of_ble_eq_true rfl⟩) hW hS hA (fun u9 H locs hp9 hW hS hz9 => ?_)
  obtain ⟨ad4, w4⟩ := u9
  dsimp only at hW
  obtain ⟨hada4, hfra4, e100, e102, e103, e104, e106, e107, e108, e109, e110, e111, e113, e116, e117, e118, e119, e121, e123, e124, e125, e126, e127, e128⟩ := hp9
  dsimp only at hada4 hfra4 e100 e102 e103 e104 e106 e107 e108 e109 e110 e111 e113 e116 e117 e118 e119 e121 e123 e124 e125 e126 e127 e128
  refine W.widen (k := 106) (n := 28574) (by omega) (by omega) ?_
  refine W.eq (g2 := F0 m 25 ls [.ref (ad4 100)]) (by rw [hada4 100 (by omega)]) ?_
  have hl : lv_has ls 8 [(1, .ref (ad4 0)), (0, .ref b)] := by rw [hada4 0 (by omega)]; exact hl
  refine lv_astore_n (lv' := [(2, .ref (ad4 100)), (1, .ref (ad4 0)), (0, .ref b)]) hx hb dLw_law_25 rfl hl (by decide) rfl (fun ls hl => ?_)
  refine lv_iconst (v := (nI 1)) hx hb dLw_law_26 (by decide) ?_
  refine dq_newl hx hb (hts _ (List.mem_cons_of_mem _ tw4_2)) hK hW hS hA 200 2 (cA := g 2) rfl (n := nI 1) (N := 1) (nI_pos (by decide)) (nI_clamp (by decide)) (by decide) (Nat.le_of_ble_eq_true rfl) (Nat.le_of_ble_eq_true rfl) dLw_law_27 (fun q9 H hW hS => ?_)
  have had5 : ∀ j, j ≠ 200 → va_up ad4 200 q9 j = ad4 j := fun j h => va_up_ne _ _ h
  have hq9 : va_up ad4 200 q9 200 = q9 := va_up_self _ _ _
  generalize va_up ad4 200 q9 = ad5 at hW had5 hq9
  subst hq9
  obtain ⟨w5, hw5⟩ : ∃ wz, wz = dq_U w4 200 (.inl (g 2, 1, .inr (.inl (fun _ => 0)))) := ⟨_, rfl⟩
  have hW : dq_W D vwCl ad5 w5 A H := by rw [hw5]; exact hW
  have e200 : w5 200 = some (.inl (g 2, 1, .inr (.inl (fun _ => 0)))) := by rw [hw5]; exact dq_Us
  have fr5 : ∀ j, j ≠ 200 → w5 j = w4 j := fun j h1 => by rw [hw5, dq_Un h1]
  clear hw5
  have hl : lv_has ls 8 [(2, .ref (ad5 100)), (1, .ref (ad5 0)), (0, .ref b)] := by rw [had5 0 (by omega), had5 100 (by omega)]; exact hl
  refine W.widen (k := 107) (n := 28575) (by omega) (by omega) ?_
  refine lv_astore_n (lv' := [(3, .ref (ad5 200)), (2, .ref (ad5 100)), (1, .ref (ad5 0)), (0, .ref b)]) hx hb dLw_law_29 rfl hl (by decide) rfl (fun ls hl => ?_)
  refine lv_iconst (v := (nI 1)) hx hb dLw_law_30 (by decide) ?_
  refine lv_istore (lv' := [(4, .int (nI 1)), (3, .ref (ad5 200)), (2, .ref (ad5 100)), (1, .ref (ad5 0)), (0, .ref b)]) hx hb dLw_law_31 hl (by decide) rfl (fun ls hl => ?_)
  have FA : ∀ j, j < 100 → ad5 j = ad2 j := fun j hj => (had5 j (by omega)).trans ((hada4 j (by omega)).trans (had3 j (by omega)))
  have FW : ∀ j, j < 100 → w5 j = w2 j := fun j hj => (fr5 j (by omega)).trans ((hfra4 j (by omega)).trans (fr3 j (by omega)))
  have hW := dq_reQ (f' := fun h => some (ad5 (30 + 4 * h))) hW ((FW 17 (by decide)).trans e17) (fun j hj => by rw [FA _ (by omega)])
  obtain ⟨w6, hw6⟩ : ∃ wz, wz = dq_U w5 17 (.inl (g 3, 14, .inr (.inr (.inr (.inr (fun h => some (ad5 (30 + 4 * h)))))))) := ⟨_, rfl⟩
  have hW : dq_W D vwCl ad5 w6 A H := by rw [hw6]; exact hW
  have z17 : w6 17 = some (.inl (g 3, 14, .inr (.inr (.inr (.inr (fun h => some (ad5 (30 + 4 * h)))))))) := by rw [hw6]; exact dq_Us
  have fr6 : ∀ j, j ≠ 17 → w6 j = w5 j := fun j h1 => by rw [hw6, dq_Un h1]
  clear hw6
  have EW : ∀ j, j < 100 → j ≠ 17 → w6 j = w2 j := fun j hj h => (fr6 j h).trans (FW j hj)
  have GA : ∀ j, j < 200 → ad5 j = ad4 j := fun j hj => had5 j (by omega)
  have GW : ∀ j, j < 200 → j ≠ 17 → w6 j = w4 j := fun j hj h => (fr6 j h).trans (fr5 j (by omega))
  have z0 : w6 0 = some (.inr (7, [.ref (ad5 1), .ref (ad5 5), .ref (ad5 12), .ref (ad5 17), .ref (ad5 18), .ref (ad5 23), .ref (ad5 25), .int (nI 0), .int 0])) := by
    rw [nI_0, FA 1 (by decide), FA 5 (by decide), FA 12 (by decide), FA 17 (by decide), FA 18 (by decide), FA 23 (by decide), FA 25 (by decide), EW 0 (by decide) (by decide)]
    exact e0
  have z1 : w6 1 = some (.inr (1, [.ref (ad5 2), .ref (ad5 3), .ref (ad5 4), .int 0, .int 0, .int 0, .int 0])) := by
    rw [FA 2 (by decide), FA 3 (by decide), FA 4 (by decide), EW 1 (by decide) (by decide)]
    exact e1
  have z2 : w6 2 = some (.inl (g 0, (mo_n a0), .inl (fun _ => 0))) := by
    rw [EW 2 (by decide) (by decide)]
    exact e2
  have z3 : w6 3 = some (.inl (g 0, (mo_n a0), .inl (fun _ => 0))) := by
    rw [EW 3 (by decide) (by decide)]
    exact e3
  have z4 : w6 4 = some (.inl (g 0, (mo_n a0), .inl (fun _ => 0))) := by
    rw [EW 4 (by decide) (by decide)]
    exact e4
  have z5 : w6 5 = some (.inr (3, [.ref (ad5 6), .ref (ad5 7), .ref (ad5 8), .ref (ad5 9), .ref (ad5 10), .ref (ad5 11), .int (nI 0)])) := by
    rw [nI_0, FA 6 (by decide), FA 7 (by decide), FA 8 (by decide), FA 9 (by decide), FA 10 (by decide), FA 11 (by decide), EW 5 (by decide) (by decide)]
    exact e5
  have z6 : w6 6 = some (.inl (g 0, 14, .inl (fun _ => 0))) := by
    rw [EW 6 (by decide) (by decide)]
    exact e6
  have z7 : w6 7 = some (.inl (g 0, 14, .inl (fun _ => 0))) := by
    rw [EW 7 (by decide) (by decide)]
    exact e7
  have z8 : w6 8 = some (.inl (g 0, 14, .inl (fun _ => 0))) := by
    rw [EW 8 (by decide) (by decide)]
    exact e8
  have z9 : w6 9 = some (.inl (g 0, 14, .inl (fun _ => 0))) := by
    rw [EW 9 (by decide) (by decide)]
    exact e9
  have z10 : w6 10 = some (.inl (g 0, 14, .inl (fun _ => 0))) := by
    rw [EW 10 (by decide) (by decide)]
    exact e10
  have z11 : w6 11 = some (.inl (g 1, 14, .inl (fun _ => 0))) := by
    rw [EW 11 (by decide) (by decide)]
    exact e11
  have z12 : w6 12 = some (.inr (0, [.ref (ad5 13), .ref (ad5 14), .ref (ad5 15), .ref (ad5 16), .int (nI 0)])) := by
    rw [nI_0, FA 13 (by decide), FA 14 (by decide), FA 15 (by decide), FA 16 (by decide), EW 12 (by decide) (by decide)]
    exact e12
  have z13 : w6 13 = some (.inl (g 0, 6, .inl (fun _ => 0))) := by
    rw [EW 13 (by decide) (by decide)]
    exact e13
  have z14 : w6 14 = some (.inl (g 0, 6, .inl (fun _ => 0))) := by
    rw [EW 14 (by decide) (by decide)]
    exact e14
  have z15 : w6 15 = some (.inl (g 0, 6, .inl (fun _ => 0))) := by
    rw [EW 15 (by decide) (by decide)]
    exact e15
  have z16 : w6 16 = some (.inl (g 0, 6, .inl (fun _ => 0))) := by
    rw [EW 16 (by decide) (by decide)]
    exact e16
  have z18 : w6 18 = some (.inr (2, [.ref (ad5 19), .ref (ad5 20), .ref (ad5 21), .ref (ad5 22), .int (nI 0)])) := by
    rw [nI_0, FA 19 (by decide), FA 20 (by decide), FA 21 (by decide), FA 22 (by decide), EW 18 (by decide) (by decide)]
    exact e18
  have z19 : w6 19 = some (.inl (g 0, 14, .inl (fun _ => 0))) := by
    rw [EW 19 (by decide) (by decide)]
    exact e19
  have z20 : w6 20 = some (.inl (g 0, 14, .inl (fun _ => 0))) := by
    rw [EW 20 (by decide) (by decide)]
    exact e20
  have z21 : w6 21 = some (.inl (g 0, 14, .inl (fun _ => 0))) := by
    rw [EW 21 (by decide) (by decide)]
    exact e21
  have z22 : w6 22 = some (.inl (g 0, 14, .inl (fun _ => 0))) := by
    rw [EW 22 (by decide) (by decide)]
    exact e22
  have z23 : w6 23 = some (.inr (5, [.ref (ad5 24)])) := by
    rw [FA 24 (by decide), EW 23 (by decide) (by decide)]
    exact e23
  have z24 : w6 24 = some (.inl (g 0, 1, .inl (fun _ => 0))) := by
    rw [EW 24 (by decide) (by decide)]
    exact e24
  have z25 : w6 25 = some (.inr (6, [.ref (ad5 26), .long 0, .ref (ad5 27)])) := by
    rw [FA 26 (by decide), FA 27 (by decide), EW 25 (by decide) (by decide)]
    exact e25
  have z26 : w6 26 = some (.inl (g 0, 14, .inl (fun _ => 0))) := by
    rw [EW 26 (by decide) (by decide)]
    exact e26
  have z27 : w6 27 = some (.inl (g 0, 0, .inl (fun _ => 0))) := by
    rw [EW 27 (by decide) (by decide)]
    exact e27
  have z100 : w6 100 = some (.inr (8, [.int 0, .int (nI (mo_n a0)), .ref (ad5 102), .ref (ad5 103), .ref (ad5 104), .int (nI 0), .ref (ad5 106), .ref (ad5 107), .ref (ad5 108), .ref (ad5 109), .ref (ad5 110), .ref (ad5 111), .int (nI 0), .ref (ad5 113), .int 0, .int (nI 0), .ref (ad5 116), .ref (ad5 117), .ref (ad5 118), .ref (ad5 119), .int (nI 0), .ref (ad5 121), .long 0, .ref (ad5 123), .ref (ad5 124), .ref (ad5 125), .ref (ad5 126), .ref (ad5 127), .ref (ad5 128)])) := by
    rw [nI_0, GA 102 (by decide), GA 103 (by decide), GA 104 (by decide), GA 106 (by decide), GA 107 (by decide), GA 108 (by decide), GA 109 (by decide), GA 110 (by decide), GA 111 (by decide), GA 113 (by decide), GA 116 (by decide), GA 117 (by decide), GA 118 (by decide), GA 119 (by decide), GA 121 (by decide), GA 123 (by decide), GA 124 (by decide), GA 125 (by decide), GA 126 (by decide), GA 127 (by decide), GA 128 (by decide), GW 100 (by decide) (by decide)]
    exact e100
  have z102 : w6 102 = some (.inl (g 0, 16, .inl (fun _ => 0))) := by
    rw [GW 102 (by decide) (by decide)]
    exact e102
  have z103 : w6 103 = some (.inl (g 0, 16, .inl (fun _ => 0))) := by
    rw [GW 103 (by decide) (by decide)]
    exact e103
  have z104 : w6 104 = some (.inl (g 0, 16, .inl (fun _ => 0))) := by
    rw [GW 104 (by decide) (by decide)]
    exact e104
  have z106 : w6 106 = some (.inl (g 0, 14, .inl (fun _ => 0))) := by
    rw [GW 106 (by decide) (by decide)]
    exact e106
  have z107 : w6 107 = some (.inl (g 0, 14, .inl (fun _ => 0))) := by
    rw [GW 107 (by decide) (by decide)]
    exact e107
  have z108 : w6 108 = some (.inl (g 0, 14, .inl (fun _ => 0))) := by
    rw [GW 108 (by decide) (by decide)]
    exact e108
  have z109 : w6 109 = some (.inl (g 0, 14, .inl (fun _ => 0))) := by
    rw [GW 109 (by decide) (by decide)]
    exact e109
  have z110 : w6 110 = some (.inl (g 0, 14, .inl (fun _ => 0))) := by
    rw [GW 110 (by decide) (by decide)]
    exact e110
  have z111 : w6 111 = some (.inl (g 1, 14, .inl (fun _ => 0))) := by
    rw [GW 111 (by decide) (by decide)]
    exact e111
  have z113 : w6 113 = some (.inl (g 0, 24, .inl (fun _ => 0))) := by
    rw [GW 113 (by decide) (by decide)]
    exact e113
  have z116 : w6 116 = some (.inl (g 0, 14, .inl (fun _ => 0))) := by
    rw [GW 116 (by decide) (by decide)]
    exact e116
  have z117 : w6 117 = some (.inl (g 0, 14, .inl (fun _ => 0))) := by
    rw [GW 117 (by decide) (by decide)]
    exact e117
  have z118 : w6 118 = some (.inl (g 0, 14, .inl (fun _ => 0))) := by
    rw [GW 118 (by decide) (by decide)]
    exact e118
  have z119 : w6 119 = some (.inl (g 0, 14, .inl (fun _ => 0))) := by
    rw [GW 119 (by decide) (by decide)]
    exact e119
  have z121 : w6 121 = some (.inl (g 0, 14, .inl (fun _ => 0))) := by
    rw [GW 121 (by decide) (by decide)]
    exact e121
  have z123 : w6 123 = some (.inl (g 0, 16384, .inl (fun _ => 0))) := by
    rw [GW 123 (by decide) (by decide)]
    exact e123
  have z124 : w6 124 = some (.inl (g 0, 224, .inl (fun _ => 0))) := by
    rw [GW 124 (by decide) (by decide)]
    exact e124
  have z125 : w6 125 = some (.inl (g 0, 224, .inl (fun _ => 0))) := by
    rw [GW 125 (by decide) (by decide)]
    exact e125
  have z126 : w6 126 = some (.inl (g 0, 224, .inl (fun _ => 0))) := by
    rw [GW 126 (by decide) (by decide)]
    exact e126
  have z127 : w6 127 = some (.inl (g 0, 14, .inl (fun _ => 0))) := by
    rw [GW 127 (by decide) (by decide)]
    exact e127
  have z128 : w6 128 = some (.inl (g 2, 10240, .inr (.inl (fun _ => 0)))) := by
    rw [GW 128 (by decide) (by decide)]
    exact e128
  have y30 : ∀ h, h < 14 → w6 (30 + 4 * h) = some (.inr (4, [.ref (ad5 (31 + 4 * h)), .ref (ad5 (32 + 4 * h)), .ref (ad5 (33 + 4 * h)), .int (nI 0)])) := fun h h14 => by
    rw [nI_0, FA (31 + 4 * h) (by omega), FA (32 + 4 * h) (by omega), FA (33 + 4 * h) (by omega), EW _ (by omega) (by omega)]
    exact l30 h h14
  have y31 : ∀ h, h < 14 → w6 (31 + 4 * h) = some (.inl (g 0, 16, .inl (fun _ => 0))) := fun h h14 => by
    rw [EW _ (by omega) (by omega)]
    exact l31 h h14
  have y32 : ∀ h, h < 14 → w6 (32 + 4 * h) = some (.inl (g 0, 16, .inl (fun _ => 0))) := fun h h14 => by
    rw [EW _ (by omega) (by omega)]
    exact l32 h h14
  have y33 : ∀ h, h < 14 → w6 (33 + 4 * h) = some (.inl (g 0, 16, .inl (fun _ => 0))) := fun h h14 => by
    rw [EW _ (by omega) (by omega)]
    exact l33 h h14
  have hR : lrel g ad5 w6 1 0 := lrel_mk (mo_n a0) 0 0 0 0 (fun _ => 0) (fun _ => 0) (fun _ => 0) (fun _ => 0) (fun _ => 0) (fun _ => 0) (fun _ => 0) (fun _ => 0) (fun _ => 0) (fun _ => 0) (fun _ => 0) (fun _ => 0) (fun _ => 0) (fun _ => 0) 0 0 0 0 0 0 0 (fun _ => 0) (fun _ _ => 0) (fun _ _ => 0) (fun _ _ => 0) (fun _ => 0) (fun _ => 0) (fun _ => 0) (fun _ => 0) (fun _ => 0) (fun _ => 0) (fun _ => 0) (fun _ => 0) (fun _ => 0) (fun _ => 0) (fun _ => 0) (fun _ => 0) (fun _ => 0) (fun _ => 0) (fun _ => 0) (fun _ => 0) (fun _ => 0) (fun _ => 0) (fun _ => 0) z0 z1 z2 z3 z4 z5 z6 z7 z8 z9 z10 z11 z12 z13 z14 z15 z16 z17 z18 z19 z20 z21 z22 z23 z24 z25 z26 z27 z100 z102 z103 z104 z106 z107 z108 z109 z110 z111 z113 z116 z117 z118 z119 z121 z123 z124 z125 z126 z127 z128 ((fr6 200 (by decide)).trans e200) y30 y31 y32 y33 (mo_n_le a0).2 (Nat.zero_le _) (Nat.zero_le _) (Nat.zero_le _) (by decide) ⟨fun k hk => ⟨(show sp_in 0 10000 from ⟨by decide, by decide⟩), (show sp_in 0 10000 from ⟨by decide, by decide⟩)⟩, fun h hh => absurd hh (Nat.not_lt_zero h)⟩ (Or.inr fun k hk => Int32.le_refl _) (fun c hc => absurd hc (Nat.not_lt_zero c)) (fun _ _ => Nat.zero_le _) ⟨0, by decide, rfl⟩ ⟨0, by decide, rfl⟩ (Or.inl rfl)
  exact lw_loop l hx hb hml hown hts hA hK hZ hX9 hbl hbA hL htr hr hlocks hL3 hAz 600 1 ad5 w6 1 0 _ _ _ 107 28575 (by omega) (by omega) hR hW hS (lv_sub hl [4, 3, 2, 1, 0] rfl) (by omega) (by omega)
