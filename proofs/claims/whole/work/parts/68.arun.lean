set_option maxHeartbeats 4000000 in
set_option maxRecDepth 100000 in
/-- the arm of run, planned -/
theorem A_run_no (l : Launch) {p : Program} {e : Env} {s : State} {m : MethodId} {below : List Frame} {meth : Method} {c : Code} {A : Nat → Prop} {Q : State → Prop} {b : Nat} {c0 : Cond} {D : va_G} {g : Nat → ClassId} (hx : p.tables.exec = Jvm.exec) (hb : c.code = cLw_law) (hml : c.maxLocals = 8) (hown : s.vm.findClass RLw = some m.cls) (hts : ∀ w ∈ c0 :: dq_G, w.before ([.ref b] : List Value).toArray s = true) (hA : ∀ q, s.heap.size ≤ q → A q) (hK : va_K D vwCl (dq_t g) s) (hZ : dq_Z A s s.heap) {L : Nat} {xs : Nat → Int32} (hX9 : va_X b L xs s s.heap) (hbl : b < s.heap.size) (hbA : ¬ A b) (hL : L < 2 ^ 31) {I : Nat} (hI : I + 5 < L) (ad : Nat → Nat) (w : Nat → Option va_E) {rr : Int32} {fs0 fs1 : List Value} {K2 : (Nat → Option va_E) → Prop} (o0 : w 0 = some (.inr (7, fs0))) (f100 : w 100 = some (.inr (8, fs1))) (hC : ∀ sz : Nat, Met l yDH_run wsDH_run ({ frames := 7, cells := 0, slots := 0, locals := 200 } : Room) (va_Pc [.ref (ad 0)] (dq_S D vwCl (dq_t g) ad w sz)) (va_Qi (fun r u => r = rr ∧ u = w) (dq_B D vwCl (dq_t g) ad (dq_A ad w sz)) (dq_A ad w sz)) 0 0 (dq_A ad w sz)) {P2 : Int32 → (Nat → Option va_E) → Prop} (hM : ∀ sz : Nat, Met l yMo_run wsMo_run ({ frames := 4, cells := 0, slots := 0, locals := 108 } : Room) (va_Pc [.ref (ad 100)] (dq_S D vwCl (dq_t g) ad w sz)) (va_Qi (P2) (dq_B D vwCl (dq_t g) ad (dq_A ad w sz)) (dq_A ad w sz)) 0 0 (dq_A ad w sz)) (hE : ∀ r u, P2 r u → r = rr ∧ K2 u) {H : Heap} {locs : List Loc} {ls : Array Slot} {cells slots : Nat} (hW : dq_W D vwCl ad w A H) (hS : va_S A s.heap H locs) (hl : lv_has ls 8 [(0, .ref b), (1, .ref (ad 0)), (2, .ref (ad 100)), (3, .ref (ad 200)), (4, .int (nI I))]) (hc : cells ≤ room_1.cells ∧ slots ≤ room_1.slots) (kK : ∀ u2, K2 u2 → ∀ (H : Heap) (locs : List Loc) (ls : Array Slot), dq_W D vwCl ad u2 A H → va_S A s.heap H locs → lv_has ls 8 [(0, .ref b), (1, .ref (ad 0)), (2, .ref (ad 100)), (3, .ref (ad 200)), (4, .int (nI I))] → W p l e room_1 s m ([.ref b] : List Value).toArray below meth c H locs (cells) (slots) Q (F0 m 1145 ls [])) : W p l e room_1 s m ([.ref b] : List Value).toArray below meth c H locs cells slots Q (F0 m 577 ls []) := by
  refine lv_aload_n hx hb dLw_law_577 rfl (lv_at hl 1 rfl) ?_
  refine dq_calli (va_runV (As := []) (rest := []) ⟨hx, hb, hml, hown, hts⟩ (hC _) (cwV 0 hts (dq_giV tw2_2 tw2_3 tw2_4 tw1_1 tw2_5) rfl rfl rfl (by decide +kernel) ⟨Nat.le_of_ble_eq_true rfl, Nat.le_of_ble_eq_true rfl⟩) (dq_preV (ci := 7) hW hS hA hK hZ o0 rfl rfl) rfl rfl hl.1 rfl (lv_room (Nat.le_of_ble_eq_true rfl)) dLw_law_578 ⟨hc.1, hc.2⟩) hW hS hA (fun r1 u_9 H locs hp1 hW hS hz9 => ?_)
  obtain ⟨h_r1, hu9⟩ := hp1
  rw [hu9] at hW
  rw [h_r1]
  refine lv_aload_n hx hb dLw_law_581 rfl (lv_at hl 2 rfl) ?_
  refine dq_calli (va_runV (As := []) (rest := [.int rr]) ⟨hx, hb, hml, hown, hts⟩ (hM _) (cwV 0 hts (dq_giV tw4_60 tw4_61 tw4_62 tw1_10 tw4_63) rfl rfl rfl (by decide +kernel) ⟨Nat.le_of_ble_eq_true rfl, Nat.le_of_ble_eq_true rfl⟩) (dq_preV (ci := 8) hW hS hA hK hZ f100 rfl rfl) rfl rfl hl.1 rfl (lv_room (Nat.le_of_ble_eq_true rfl)) dLw_law_582 ⟨hc.1, hc.2⟩) hW hS hA (fun r2 u_9 H locs hp2 hW hS hz9 => ?_)
  obtain ⟨he, hk2⟩ := hE _ _ hp2
  refine lv_icmp_eq (tgt := 1145) hx hb dLw_law_585 (by decide) (fun c1 => ?_) (fun c1 => ?_)
  · exact kK _ hk2 _ _ _ hW hS (lv_sub hl [0, 1, 2, 3, 4] rfl)
  · exact absurd he.symm c1

set_option maxHeartbeats 4000000 in
set_option maxRecDepth 100000 in
/-- the arm of run -/
theorem A_run (l : Launch) {p : Program} {e : Env} {s : State} {m : MethodId} {below : List Frame} {meth : Method} {c : Code} {A : Nat → Prop} {Q : State → Prop} {b : Nat} {c0 : Cond} {D : va_G} {g : Nat → ClassId} (hx : p.tables.exec = Jvm.exec) (hb : c.code = cLw_law) (hml : c.maxLocals = 8) (hown : s.vm.findClass RLw = some m.cls) (hts : ∀ w ∈ c0 :: dq_G, w.before ([.ref b] : List Value).toArray s = true) (hA : ∀ q, s.heap.size ≤ q → A q) (hK : va_K D vwCl (dq_t g) s) (hZ : dq_Z A s s.heap) {L : Nat} {xs : Nat → Int32} (hX9 : va_X b L xs s s.heap) (hbl : b < s.heap.size) (hbA : ¬ A b) (hL : L < 2 ^ 31) {I : Nat} (hI : I + 5 < L) (ad : Nat → Nat) (w : Nat → Option va_E) {mc ms : Nat} {fs0 : List Value} {P1 : Int32 → (Nat → Nat) × (Nat → Option va_E) → Prop} {K2 : (Nat → Nat) → (Nat → Option va_E) → Prop} (o0 : w 0 = some (.inr (7, fs0))) (hC : ∀ sz : Nat, Met l yDH_run wsDH_run ({ frames := 7, cells := mc, slots := ms, locals := 200 } : Room) (va_Pc [.ref (ad 0)] (dq_S D vwCl (dq_t g) ad w sz)) (va_Qi P1 (dq_B2 D vwCl (dq_t g) (dq_A ad w sz)) (dq_A ad w sz)) mc ms (dq_A ad w sz)) (h0 : ∀ r u, P1 r u → u.1 0 = ad 0 ∧ u.1 100 = ad 100 ∧ u.1 200 = ad 200 ∧ ∃ fs, u.2 100 = some (.inr (8, fs))) (hM : ∀ r u, P1 r u → ∃ P2 : Int32 → (Nat → Option va_E) → Prop, (∀ sz : Nat, Met l yMo_run wsMo_run ({ frames := 4, cells := 0, slots := 0, locals := 108 } : Room) (va_Pc [.ref (u.1 100)] (dq_S D vwCl (dq_t g) u.1 u.2 sz)) (va_Qi (P2) (dq_B D vwCl (dq_t g) u.1 (dq_A u.1 u.2 sz)) (dq_A u.1 u.2 sz)) 0 0 (dq_A u.1 u.2 sz)) ∧ ∀ r2 u2, P2 r2 u2 → r2 = r ∧ K2 u.1 u2) {H : Heap} {locs : List Loc} {ls : Array Slot} {cells slots : Nat} (hW : dq_W D vwCl ad w A H) (hS : va_S A s.heap H locs) (hl : lv_has ls 8 [(0, .ref b), (1, .ref (ad 0)), (2, .ref (ad 100)), (3, .ref (ad 200)), (4, .int (nI I))]) (hc : cells + mc ≤ room_1.cells ∧ slots + ms ≤ room_1.slots) (kK : ∀ (ad1 : Nat → Nat) (u2 : Nat → Option va_E), K2 ad1 u2 → ∀ (H : Heap) (locs : List Loc) (ls : Array Slot), dq_W D vwCl ad1 u2 A H → va_S A s.heap H locs → lv_has ls 8 [(0, .ref b), (1, .ref (ad1 0)), (2, .ref (ad1 100)), (3, .ref (ad1 200)), (4, .int (nI I))] → W p l e room_1 s m ([.ref b] : List Value).toArray below meth c H locs (cells + mc) (slots + ms) Q (F0 m 1145 ls [])) : W p l e room_1 s m ([.ref b] : List Value).toArray below meth c H locs cells slots Q (F0 m 577 ls []) := by
  refine lv_aload_n hx hb dLw_law_577 rfl (lv_at hl 1 rfl) ?_
  refine dq_calli2 (va_runV (As := []) (rest := []) ⟨hx, hb, hml, hown, hts⟩ (hC _) (cwV 0 hts (dq_giV tw2_2 tw2_3 tw2_4 tw1_1 tw2_5) rfl rfl rfl (by decide +kernel) ⟨Nat.le_of_ble_eq_true rfl, Nat.le_of_ble_eq_true rfl⟩) (dq_preV (ci := 7) hW hS hA hK hZ o0 rfl rfl) rfl rfl hl.1 rfl (lv_room (Nat.le_of_ble_eq_true rfl)) dLw_law_578 ⟨hc.1, hc.2⟩) hW hS hA (fun r1 u1 H locs hp1 hW hS hz9 => ?_)
  obtain ⟨a0, a1, a2, fs, f100⟩ := h0 r1 u1 hp1
  obtain ⟨P2, hM2, hE⟩ := hM r1 u1 hp1
  obtain ⟨ad1, w1⟩ := u1
  have hW : dq_W D vwCl ad1 w1 A H := hW
  have a0 : ad1 0 = ad 0 := a0
  have a1 : ad1 100 = ad 100 := a1
  have a2 : ad1 200 = ad 200 := a2
  have f100 : w1 100 = some (.inr (8, fs)) := f100
  rw [← a0, ← a1, ← a2] at hl
  refine lv_aload_n hx hb dLw_law_581 rfl (lv_at hl 2 rfl) ?_
  refine dq_calli (va_runV (As := []) (rest := [.int r1]) ⟨hx, hb, hml, hown, hts⟩ (hM2 _) (cwV 0 hts (dq_giV tw4_60 tw4_61 tw4_62 tw1_10 tw4_63) rfl rfl rfl (by decide +kernel) ⟨Nat.le_of_ble_eq_true rfl, Nat.le_of_ble_eq_true rfl⟩) (dq_preV (ci := 8) hW hS hA hK hZ f100 rfl rfl) rfl rfl hl.1 rfl (lv_room (Nat.le_of_ble_eq_true rfl)) dLw_law_582 ⟨hc.1, hc.2⟩) hW hS hA (fun r2 u_9 H locs hp2 hW hS hz9 => ?_)
  obtain ⟨he, hk2⟩ := hE _ _ hp2
  refine lv_icmp_eq (tgt := 1145) hx hb dLw_law_585 (by decide) (fun c1 => ?_) (fun c1 => ?_)
  · exact kK _ _ hk2 _ _ _ hW hS (lv_sub hl [0, 1, 2, 3, 4] rfl)
  · exact absurd he.symm c1
