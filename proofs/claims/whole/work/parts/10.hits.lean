set_option maxHeartbeats 4000000 in
set_option maxRecDepth 100000 in
/-- holds(set, number) -/
theorem c_holds (l : Launch) (D : va_G) (g : Nat → ClassId) (ad : Nat → Nat) (w : Nat → Option va_E) (sz : Nat) (S k : Nat)  (hS9 : S < 2 ^ 31) (hk9 : k < 31) : Met l yDH_holds wsDH_holds ({ frames := 0, cells := 0, slots := 0, locals := 0 } : Room) (va_Pc [.int (nI S), .int (nI k)] (dq_S D vwCl (dq_t g) ad w sz)) (va_Qi (fun r u => r = dq_b (S.testBit k) ∧ u = w) (dq_B D vwCl (dq_t g) ad (dq_A ad w sz)) (dq_A ad w sz)) 0 0 (dq_A ad w sz) := by
  refine dq_ofz (cc := cDH_holds) (maxL := 2) (by decide) rfl (Nat.le_of_ble_eq_true rfl) ?_
  intro p e s m below meth c A Q ls ⟨hx, hb, hml, hown, hts⟩ hnm hA hW hK hZ hl hret
  have hS : va_S A s.heap s.heap [] := va_S.rf
  have hl : lv_has ls 2 [(0, .int (nI S)), (1, .int (nI k))] := hl
  refine lv_iload_n hx hb dDH_holds_0 rfl (lv_at hl 0 rfl) ?_
  refine lv_iload_n hx hb dDH_holds_1 rfl (lv_at hl 1 rfl) ?_
  refine lv_ishr hx hb dDH_holds_2 ?_
  refine lv_iconst (v := (1)) hx hb dDH_holds_3 (by decide) ?_
  refine lv_iand hx hb dDH_holds_4 ?_
  refine dq_top (y := dq_b (S.testBit k)) (dq_bit hS9 hk9) ?_
  refine lv_if_eq (tgt := 12) hx hb dDH_holds_5 (by decide) (fun c1 => ?_) (fun c1 => ?_)
  · have e1 : S.testBit k = false := dq_b_f c1
    refine lv_iconst (v := (0)) hx hb dDH_holds_12 (by decide) ?_
    exact hret _ _ _ _ _ _ ⟨by rw [e1]; rfl, rfl⟩ (by decide) hW hS dDH_holds_13
  · have e1 : S.testBit k = true := dq_b_t c1
    refine lv_iconst (v := (1)) hx hb dDH_holds_8 (by decide) ?_
    refine lv_goto (tgt := 13) hx hb dDH_holds_9 (by decide) ?_
    exact hret _ _ _ _ _ _ ⟨by rw [e1]; rfl, rfl⟩ (by decide) hW hS dDH_holds_13
set_option maxHeartbeats 4000000 in
set_option maxRecDepth 100000 in
/-- without(set, number) -/
theorem c_without (l : Launch) (D : va_G) (g : Nat → ClassId) (ad : Nat → Nat) (w : Nat → Option va_E) (sz : Nat) (S k : Nat)  (hk9 : k < 31) : Met l yDH_without wsDH_without ({ frames := 0, cells := 0, slots := 0, locals := 0 } : Room) (va_Pc [.int (nI S), .int (nI k)] (dq_S D vwCl (dq_t g) ad w sz)) (va_Qi (fun r u => r = nI (dq_df S (2 ^ k)) ∧ u = w) (dq_B D vwCl (dq_t g) ad (dq_A ad w sz)) (dq_A ad w sz)) 0 0 (dq_A ad w sz) := by
  refine dq_ofi (cc := cDH_without) (maxL := 2) (by decide) rfl (Nat.le_of_ble_eq_true rfl) ?_
  intro p e s m below meth c A Q ls ⟨hx, hb, hml, hown, hts⟩ hnm hA hW hK hZ hl hret
  have hS : va_S A s.heap s.heap [] := va_S.rf
  have hl : lv_has ls 2 [(0, .int (nI S)), (1, .int (nI k))] := hl
  refine lv_iload_n hx hb dDH_without_0 rfl (lv_at hl 0 rfl) ?_
  refine lv_iconst (v := (1)) hx hb dDH_without_1 (by decide) ?_
  refine lv_iload_n hx hb dDH_without_2 rfl (lv_at hl 1 rfl) ?_
  refine lv_ishl hx hb dDH_without_3 ?_
  refine dq_top (y := nI (2 ^ k)) (dq_sh1 k hk9) ?_
  refine lv_iconst (v := (-1)) hx hb dDH_without_4 (by decide) ?_
  refine lv_ixor hx hb dDH_without_5 ?_
  refine lv_iand hx hb dDH_without_6 ?_
  refine dq_top (y := nI (dq_df S (2 ^ k))) (dq_dfI _ _) ?_
  exact hret _ _ _ _ _ _ ⟨rfl, rfl⟩ hW hS dDH_without_7
set_option maxHeartbeats 4000000 in
set_option maxRecDepth 100000 in
/-- Hits.add -/
theorem c_Hits_add (l : Launch) (D : va_G) (g : Nat → ClassId) (ad : Nat → Nat) (w : Nat → Option va_E) (sz : Nat) (hX hY hF hs : Nat → Int32) (hB : Nat → Nat) (hc : Nat) (a0 a1 a2 a3 : Int32) (t18 : w 18 = some (.inr (2, [.ref (ad 19), .ref (ad 20), .ref (ad 21), .ref (ad 22), .int (nI hc)]))) (t19 : w 19 = some (.inl (g 0, 14, .inl hX))) (t20 : w 20 = some (.inl (g 0, 14, .inl hY))) (t21 : w 21 = some (.inl (g 0, 14, .inl hF))) (t22 : w 22 = some (.inl (g 0, 14, .inl hs))) (hc14 : hc < 14) : Met l yHt_add wsHt_add ({ frames := 0, cells := 0, slots := 0, locals := 0 } : Room) (va_Pc [.ref (ad 18), .int a0, .int a1, .int a2, .int a3] (dq_S D vwCl (dq_t g) ad w sz)) (va_Qv (fun u => u = dq_U (dq_U (dq_U (dq_U (dq_U w 19 (.inl (g 0, 14, .inl (upd hX hc a0)))) 20 (.inl (g 0, 14, .inl (upd hY hc a1)))) 21 (.inl (g 0, 14, .inl (upd hF hc a2)))) 22 (.inl (g 0, 14, .inl (upd hs hc a3)))) 18 (.inr (2, [.ref (ad 19), .ref (ad 20), .ref (ad 21), .ref (ad 22), .int (nI (hc + 1))]))) (dq_B D vwCl (dq_t g) ad (dq_A ad w sz)) (dq_A ad w sz)) 0 0 (dq_A ad w sz) := by
  refine dq_ofv (cc := cHt_add) (maxL := 5) (by decide) rfl (Nat.le_of_ble_eq_true rfl) ?_
  intro p e s m below meth c A Q ls ⟨hx, hb, hml, hown, hts⟩ hnm hA hW hK hZ hl hret
  have hS : va_S A s.heap s.heap [] := va_S.rf
  have hl : lv_has ls 5 [(0, .ref (ad 18)), (1, .int a0), (2, .int a1), (3, .int a2), (4, .int a3)] := hl
  have hf9 := hts _ (List.mem_cons_of_mem _ tw1_162)
  have hf15 := hts _ (List.mem_cons_of_mem _ tw1_165)
  have hf18 := hts _ (List.mem_cons_of_mem _ tw1_168)
  have hf21 := hts _ (List.mem_cons_of_mem _ tw1_170)
  have hf24 := hts _ (List.mem_cons_of_mem _ tw1_172)
  have hinHt : ∀ w ∈ u_ws RHt THt 5, w ∈ wsHt_add := fun w h => List.mem_cons_of_mem _ (inHt w h)
  refine lv_aload_n hx hb dHt_add_0 rfl (lv_at hl 0 rfl) ?_
  refine dq_get (D := D) (ci := 2) (v := .int (nI hc)) (C := RHt) (T := THt) (N := 5) hx hb hts hinHt hown hK hW 18 t18 rfl 4 (by decide) hf24 (fun _ h9 => h9) rfl dHt_add_1 ?_
  refine lv_bipush (v := (nI 14)) hx hb dHt_add_4 (by decide) ?_
  refine lv_icmp_lt (tgt := 10) hx hb dHt_add_6 (by decide) (fun c1 => ?_) (fun c1 => ?_)
  · refine lv_aload_n hx hb dHt_add_10 rfl (lv_at hl 0 rfl) ?_
    refine dq_get (D := D) (ci := 2) (v := .ref (ad 19)) (C := RHt) (T := THt) (N := 5) hx hb hts hinHt hown hK hW 18 t18 rfl 0 (by decide) hf9 (fun _ h9 => h9) rfl dHt_add_11 ?_
    refine lv_aload_n hx hb dHt_add_14 rfl (lv_at hl 0 rfl) ?_
    refine dq_get (D := D) (ci := 2) (v := .int (nI hc)) (C := RHt) (T := THt) (N := 5) hx hb hts hinHt hown hK hW 18 t18 rfl 4 (by decide) hf24 (fun _ h9 => h9) rfl dHt_add_15 ?_
    refine lv_iload_n hx hb dHt_add_18 rfl (lv_at hl 1 rfl) ?_
    refine dq_iastN hx hb hK hW hS 19 0 t19 rfl hc (by omega) (by omega) dHt_add_19 (fun H locs hW hS => ?_)
    refine lv_aload_n hx hb dHt_add_20 rfl (lv_at hl 0 rfl) ?_
    refine dq_get (D := D) (ci := 2) (v := .ref (ad 20)) (C := RHt) (T := THt) (N := 5) hx hb hts hinHt hown hK hW 18 ((dq_Un (by decide)).trans t18) rfl 1 (by decide) hf15 (fun _ h9 => h9) rfl dHt_add_21 ?_
    refine lv_aload_n hx hb dHt_add_24 rfl (lv_at hl 0 rfl) ?_
    refine dq_get (D := D) (ci := 2) (v := .int (nI hc)) (C := RHt) (T := THt) (N := 5) hx hb hts hinHt hown hK hW 18 ((dq_Un (by decide)).trans t18) rfl 4 (by decide) hf24 (fun _ h9 => h9) rfl dHt_add_25 ?_
    refine lv_iload_n hx hb dHt_add_28 rfl (lv_at hl 2 rfl) ?_
    refine dq_iastN hx hb hK hW hS 20 0 ((dq_Un (by decide)).trans t20) rfl hc (by omega) (by omega) dHt_add_29 (fun H locs hW hS => ?_)
    refine lv_aload_n hx hb dHt_add_30 rfl (lv_at hl 0 rfl) ?_
    refine dq_get (D := D) (ci := 2) (v := .ref (ad 21)) (C := RHt) (T := THt) (N := 5) hx hb hts hinHt hown hK hW 18 ((dq_Un (by decide)).trans ((dq_Un (by decide)).trans t18)) rfl 2 (by decide) hf18 (fun _ h9 => h9) rfl dHt_add_31 ?_
    refine lv_aload_n hx hb dHt_add_34 rfl (lv_at hl 0 rfl) ?_
    refine dq_get (D := D) (ci := 2) (v := .int (nI hc)) (C := RHt) (T := THt) (N := 5) hx hb hts hinHt hown hK hW 18 ((dq_Un (by decide)).trans ((dq_Un (by decide)).trans t18)) rfl 4 (by decide) hf24 (fun _ h9 => h9) rfl dHt_add_35 ?_
    refine lv_iload_n hx hb dHt_add_38 rfl (lv_at hl 3 rfl) ?_
    refine dq_iastN hx hb hK hW hS 21 0 ((dq_Un (by decide)).trans ((dq_Un (by decide)).trans t21)) rfl hc (by omega) (by omega) dHt_add_39 (fun H locs hW hS => ?_)
    refine lv_aload_n hx hb dHt_add_40 rfl (lv_at hl 0 rfl) ?_
    refine dq_get (D := D) (ci := 2) (v := .ref (ad 22)) (C := RHt) (T := THt) (N := 5) hx hb hts hinHt hown hK hW 18 ((dq_Un (by decide)).trans ((dq_Un (by decide)).trans ((dq_Un (by decide)).trans t18))) rfl 3 (by decide) hf21 (fun _ h9 => h9) rfl dHt_add_41 ?_
    refine lv_aload_n hx hb dHt_add_44 rfl (lv_at hl 0 rfl) ?_
    refine dq_get (D := D) (ci := 2) (v := .int (nI hc)) (C := RHt) (T := THt) (N := 5) hx hb hts hinHt hown hK hW 18 ((dq_Un (by decide)).trans ((dq_Un (by decide)).trans ((dq_Un (by decide)).trans t18))) rfl 4 (by decide) hf24 (fun _ h9 => h9) rfl dHt_add_45 ?_
    refine lv_iload hx hb dHt_add_48 (lv_at hl 4 rfl) ?_
    refine dq_iastN hx hb hK hW hS 22 0 ((dq_Un (by decide)).trans ((dq_Un (by decide)).trans ((dq_Un (by decide)).trans t22))) rfl hc (by omega) (by omega) dHt_add_50 (fun H locs hW hS => ?_)
    refine lv_aload_n hx hb dHt_add_51 rfl (lv_at hl 0 rfl) ?_
    refine lv_dup hx hb dHt_add_52 rfl ?_
    refine dq_get (D := D) (ci := 2) (v := .int (nI hc)) (C := RHt) (T := THt) (N := 5) hx hb hts hinHt hown hK hW 18 ((dq_Un (by decide)).trans ((dq_Un (by decide)).trans ((dq_Un (by decide)).trans ((dq_Un (by decide)).trans t18)))) rfl 4 (by decide) hf24 (fun _ h9 => h9) rfl dHt_add_53 ?_
    refine lv_iconst (v := (1)) hx hb dHt_add_56 (by decide) ?_
    refine lv_iadd hx hb dHt_add_57 ?_
    refine dq_top (y := nI (hc + 1)) (nI_1 hc) ?_
    refine dq_put (D := D) (ci := 2) (v := .int (nI (hc + 1))) (ty := .int) (C := RHt) (T := THt) (N := 5) hx hb hts hinHt tyHt tyHt_ok nmHt hown hK hW hS 18 ((dq_Un (by decide)).trans ((dq_Un (by decide)).trans ((dq_Un (by decide)).trans ((dq_Un (by decide)).trans t18)))) rfl 4 (by decide) hf24 (fun _ h9 => h9) rfl (by decide +kernel) rfl rfl (Nat.le_of_ble_eq_true rfl) dHt_add_58 (fun H locs hW hS => ?_)
    exact hret _ _ _ _ _ rfl hW hS dHt_add_61
  · exact absurd (nI_lt hc14 (by omega)) c1
set_option maxHeartbeats 4000000 in
set_option maxRecDepth 100000 in
/-- Hits.drilling(hole) -/
theorem c_Hits_drilling (l : Launch) (D : va_G) (g : Nat → ClassId) (ad : Nat → Nat) (w : Nat → Option va_E) (sz : Nat) (hX hY hF hs : Nat → Int32) (hB : Nat → Nat) (hc : Nat) (i : Nat) (t18 : w 18 = some (.inr (2, [.ref (ad 19), .ref (ad 20), .ref (ad 21), .ref (ad 22), .int (nI hc)]))) (t22 : w 22 = some (.inl (g 0, 14, .inl hs))) (hc14 : hc ≤ 14) (hi : i < 14) (hSl : ∀ k, k < hc → hs k = nI (hB k) ∧ hB k < 2 ^ 31) : Met l yHt_drilling wsHt_drilling ({ frames := 1, cells := 0, slots := 0, locals := 24 } : Room) (va_Pc [.ref (ad 18), .int (nI i)] (dq_S D vwCl (dq_t g) ad w sz)) (va_Qi (fun r u => r = dq_fst (fun k => (hB k).testBit i) hc ∧ u = w) (dq_B D vwCl (dq_t g) ad (dq_A ad w sz)) (dq_A ad w sz)) 0 0 (dq_A ad w sz) := by
  refine dq_ofi (cc := cHt_drilling) (maxL := 3) (by decide) rfl (Nat.le_of_ble_eq_true rfl) ?_
  intro p e s m below meth c A Q ls ⟨hx, hb, hml, hown, hts⟩ hnm hA hW hK hZ hl hret
  have hS : va_S A s.heap s.heap [] := va_S.rf
  have hl : lv_has ls 3 [(0, .ref (ad 18)), (1, .int (nI i))] := hl
  have hf21 := hts _ (List.mem_cons_of_mem _ tw1_170)
  have hf24 := hts _ (List.mem_cons_of_mem _ tw1_172)
  have hinHt : ∀ w ∈ u_ws RHt THt 5, w ∈ wsHt_drilling := fun w h => List.mem_cons_of_mem _ (inHt w h)
  refine lv_iconst (v := (nI 0)) hx hb dHt_drilling_0 (by decide) ?_
  refine lv_istore_n (lv' := [(2, .int (nI 0)), (0, .ref (ad 18)), (1, .int (nI i))]) hx hb dHt_drilling_1 rfl hl (by decide) rfl (fun ls hl => ?_)
  have loop : ∀ (j : Nat) (k : Nat) (H : Heap) (locs : List Loc) (ls : Array Slot), hc < k + j → k ≤ hc → (∀ i9, i9 < k → (fun k => (hB k).testBit i) i9 = false) → dq_W D vwCl ad (w) A H → va_S A s.heap H locs → lv_has ls 3 [(0, .ref (ad 18)), (1, .int (nI i)), (2, .int (nI k))] → W p l e ({ frames := 1, cells := 0, slots := 0, locals := 24 } : Room) s m ([.ref (ad 18), .int (nI i)] : List Value).toArray below meth c H locs 0 0 Q (F0 m 2 ls []) := by
    intro j
    induction j with
    | zero => intro k H locs ls hj hk hb9 hW hS hl; exact absurd hj (by omega)
    | succ j ih =>
      intro k H locs ls hj hk hb9 hW hS hl
      refine lv_iload_n hx hb dHt_drilling_2 rfl (lv_at hl 2 rfl) ?_
      refine lv_aload_n hx hb dHt_drilling_3 rfl (lv_at hl 0 rfl) ?_
      refine dq_get (D := D) (ci := 2) (v := .int (nI hc)) (C := RHt) (T := THt) (N := 5) hx hb hts hinHt hown hK hW 18 t18 rfl 4 (by decide) hf24 (fun _ h9 => h9) rfl dHt_drilling_4 ?_
      refine lv_icmp_ge (tgt := 31) hx hb dHt_drilling_7 (by decide) (fun c1 => ?_) (fun c1 => ?_)
      · have hkn : k = hc := by have q := (nI_leI (by omega) (by omega)).mp c1; omega
        refine lv_iconst (v := (-1)) hx hb dHt_drilling_31 (by decide) ?_
        exact hret _ _ _ _ _ _ ⟨(dq_fst_none (by rw [← hkn]; exact hb9)).symm, rfl⟩ hW hS dHt_drilling_32
      · have hkn : k < hc := by rcases Nat.lt_or_ge k hc with q | q; exact q; exact absurd (nI_le q (by omega)) c1
        refine lv_aload_n hx hb dHt_drilling_10 rfl (lv_at hl 0 rfl) ?_
        refine dq_get (D := D) (ci := 2) (v := .ref (ad 22)) (C := RHt) (T := THt) (N := 5) hx hb hts hinHt hown hK hW 18 t18 rfl 3 (by decide) hf21 (fun _ h9 => h9) rfl dHt_drilling_11 ?_
        refine lv_iload_n hx hb dHt_drilling_14 rfl (lv_at hl 2 rfl) ?_
        refine dq_ialdN hx hb hK hW 22 0 t22 rfl k (by omega) (by omega) dHt_drilling_15 ?_
        refine dq_top (y := nI (hB k)) (hSl k hkn).1 ?_
        refine lv_iload_n hx hb dHt_drilling_16 rfl (lv_at hl 1 rfl) ?_
        refine dq_calli (va_runSN (As := [.int (nI (hB k)), .int (nI i)]) (rest := []) ⟨hx, hb, hml, hown, hts⟩ (c_holds l D g ad (w) _ (hB k) i  (hSl k hkn).2 (by omega)) ⟨va_cnB 2 hts (dq_gi tw2_86) rfl rfl rfl (hZ.n9) (hts _ (List.mem_cons_of_mem _ tw1_1)) (by decide +kernel) ⟨Nat.le_of_ble_eq_true rfl, Nat.le_of_ble_eq_true rfl⟩, (hts _ (List.mem_cons_of_mem _ tw2_85)), trivial⟩ (dq_preS hW hS hA hK hZ) rfl rfl hl.1 rfl (lv_room (Nat.le_of_ble_eq_true rfl)) dHt_drilling_17 ⟨Nat.zero_le _, Nat.zero_le _⟩) hW hS hA (fun r1 u_9 H locs hp1 hW hS hz9 => ?_)
        obtain ⟨hr1, hu9⟩ := hp1
        rw [hu9] at hW
        refine lv_if_eq (tgt := 25) hx hb dHt_drilling_20 (by decide) (fun c2 => ?_) (fun c2 => ?_)
        · have e1 : (fun k => (hB k).testBit i) k = false := dq_b_f (by rw [← hr1]; exact c2)
          refine lv_iinc (v := (nI (k + 1))) (lv' := [(2, .int (nI (k + 1))), (0, .ref (ad 18)), (1, .int (nI i))]) hx hb dHt_drilling_25 hl (k := 2) rfl (by show nI k + 1 = _; exact nI_1 _) (by decide) rfl (fun ls hl => ?_)
          refine lv_goto (tgt := 2) hx hb dHt_drilling_28 (by decide) ?_
          exact ih (k + 1) _ _ _ (by omega) (by omega) (lt_s hb9 e1) hW hS (lv_sub hl [1, 2, 0] rfl)
        · have e1 : (fun k => (hB k).testBit i) k = true := dq_b_t (by rw [← hr1]; exact c2)
          refine lv_iload_n hx hb dHt_drilling_23 rfl (lv_at hl 2 rfl) ?_
          exact hret _ _ _ _ _ _ ⟨(dq_fst_at hkn e1 hb9).symm, rfl⟩ hW hS dHt_drilling_24
  exact loop (hc + 1) 0 _ _ _ (by omega) (Nat.zero_le _) lt_0 hW hS (lv_sub hl [1, 2, 0] rfl)
set_option maxHeartbeats 4000000 in
set_option maxRecDepth 100000 in
/-- Places.findDrilled(hole, part, head) -/
theorem c_Places_findDrilled (l : Launch) (D : va_G) (g : Nat → ClassId) (ad : Nat → Nat) (w : Nat → Option va_E) (sz : Nat) (n : Nat) (hx_ hy_ hw_ : Nat → Int32) (f0 f1 f2 f3 : Int32) (px py pw pd pf pt : Nat → Int32) (pc_ : Nat) (h q : Nat) (X Y Dr : Nat → Int32) (i : Nat) (h1 : w 1 = some (.inr (1, [.ref (ad 2), .ref (ad 3), .ref (ad 4), .int f0, .int f1, .int f2, .int f3]))) (h2 : w 2 = some (.inl (g 0, n, .inl hx_))) (h3 : w 3 = some (.inl (g 0, n, .inl hy_))) (h4 : w 4 = some (.inl (g 0, n, .inl hw_))) (p5 : w 5 = some (.inr (3, [.ref (ad 6), .ref (ad 7), .ref (ad 8), .ref (ad 9), .ref (ad 10), .ref (ad 11), .int (nI pc_)]))) (p6 : w 6 = some (.inl (g 0, 14, .inl px))) (p7 : w 7 = some (.inl (g 0, 14, .inl py))) (p8 : w 8 = some (.inl (g 0, 14, .inl pw))) (p9 : w 9 = some (.inl (g 0, 14, .inl pd))) (p10 : w 10 = some (.inl (g 0, 14, .inl pf))) (p11 : w 11 = some (.inl (g 1, 14, .inl pt))) (l0 : w (30 + 4 * h) = some (.inr (4, [.ref (ad (31 + 4 * h)), .ref (ad (32 + 4 * h)), .ref (ad (33 + 4 * h)), .int (nI q)]))) (l1 : w (31 + 4 * h) = some (.inl (g 0, 16, .inl X))) (l2 : w (32 + 4 * h) = some (.inl (g 0, 16, .inl Y))) (l3 : w (33 + 4 * h) = some (.inl (g 0, 16, .inl Dr))) (hn : n ≤ 16) (hq : q ≤ 16) (hi : i < pc_) (hpc : pc_ ≤ 14) : Met l yPl_findDrilled wsPl_findDrilled ({ frames := 3, cells := 0, slots := 0, locals := 80 } : Room) (va_Pc [.ref (ad (30 + 4 * h)), .int (nI i), .ref (ad 5), .ref (ad 1)] (dq_S D vwCl (dq_t g) ad w sz)) (va_Qv (fun u => u = dq_U w (33 + 4 * h) (.inl (g 0, 16, .inl (mp_D (fun p => mp_bits (mp_F hx_ hy_ hw_ px py pw pd pf pt n i (X p) (Y p)) i (pc_ - i)) Dr q)))) (dq_B D vwCl (dq_t g) ad (dq_A ad w sz)) (dq_A ad w sz)) 0 0 (dq_A ad w sz) := by
  refine dq_ofv (cc := cPl_findDrilled) (maxL := 6) (by decide) rfl (Nat.le_of_ble_eq_true rfl) ?_
  intro p e s m below meth c A Q ls ⟨hx, hb, hml, hown, hts⟩ hnm hA hW hK hZ hl hret
  have hS : va_S A s.heap s.heap [] := va_S.rf
  have hl : lv_has ls 6 [(0, .ref (ad (30 + 4 * h))), (1, .int (nI i)), (2, .ref (ad 5)), (3, .ref (ad 1))] := hl
  have hf9 := hts _ (List.mem_cons_of_mem _ tw1_137)
  have hf15 := hts _ (List.mem_cons_of_mem _ tw1_139)
  have hf18 := hts _ (List.mem_cons_of_mem _ tw1_141)
  have hf21 := hts _ (List.mem_cons_of_mem _ tw1_144)
  have hf47 := hts _ (List.mem_cons_of_mem _ tw1_90)
  have hinPt : ∀ w ∈ u_ws RPt TPt 7, w ∈ wsPl_findDrilled := fun w h => List.mem_cons_of_mem _ (inPt w h)
  have hinPl : ∀ w ∈ u_ws RPl TPl 4, w ∈ wsPl_findDrilled := fun w h => List.mem_cons_of_mem _ (inPl w h)
  refine lv_iconst (v := (nI 0)) hx hb dPl_findDrilled_0 (by decide) ?_
  refine lv_istore (lv' := [(4, .int (nI 0)), (0, .ref (ad (30 + 4 * h))), (1, .int (nI i)), (2, .ref (ad 5)), (3, .ref (ad 1))]) hx hb dPl_findDrilled_1 hl (by decide) rfl (fun ls hl => ?_)
  have hW : dq_W D vwCl ad (dq_U w (33 + 4 * h) (.inl (g 0, 16, .inl (mp_D (fun p => mp_bits (mp_F hx_ hy_ hw_ px py pw pd pf pt n i (X p) (Y p)) i (pc_ - i)) Dr 0)))) A s.heap := dq_Wc (by rw [mp_D_0, dq_Uid l3]) hW
  have loop : ∀ (j : Nat) (k : Nat) (H : Heap) (locs : List Loc) (ls : Array Slot), q < k + j → k ≤ q → dq_W D vwCl ad (dq_U w (33 + 4 * h) (.inl (g 0, 16, .inl (mp_D (fun p => mp_bits (mp_F hx_ hy_ hw_ px py pw pd pf pt n i (X p) (Y p)) i (pc_ - i)) Dr k)))) A H → va_S A s.heap H locs → lv_has ls 6 [(0, .ref (ad (30 + 4 * h))), (1, .int (nI i)), (2, .ref (ad 5)), (3, .ref (ad 1)), (4, .int (nI k))] → W p l e ({ frames := 3, cells := 0, slots := 0, locals := 80 } : Room) s m ([.ref (ad (30 + 4 * h)), .int (nI i), .ref (ad 5), .ref (ad 1)] : List Value).toArray below meth c H locs 0 0 Q (F0 m 3 ls []) := by
    intro j
    induction j with
    | zero => intro k H locs ls hj hk hW hS hl; exact absurd hj (by omega)
    | succ j ih =>
      intro k H locs ls hj hk hW hS hl
      refine lv_iload hx hb dPl_findDrilled_3 (lv_at hl 4 rfl) ?_
      refine lv_aload_n hx hb dPl_findDrilled_5 rfl (lv_at hl 0 rfl) ?_
      refine dq_get (D := D) (ci := 4) (v := .int (nI q)) (C := RPl) (T := TPl) (N := 4) hx hb hts hinPl hown hK hW (30 + 4 * h) ((dq_Un (by omega)).trans l0) rfl 3 (by decide) hf21 (fun _ h9 => h9) rfl dPl_findDrilled_6 ?_
      refine lv_icmp_ge (tgt := 93) hx hb dPl_findDrilled_9 (by decide) (fun c1 => ?_) (fun c1 => ?_)
      · have hkn : q = k := by have q9 := (nI_leI (by omega) (by omega)).mp c1; omega
        subst hkn
        exact hret _ _ _ _ _ rfl hW hS dPl_findDrilled_93
      · have hkn : k < q := by rcases Nat.lt_or_ge k q with q | q; exact q; exact absurd (nI_le q (by omega)) c1
        refine lv_aload_n hx hb dPl_findDrilled_12 rfl (lv_at hl 0 rfl) ?_
        refine dq_get (D := D) (ci := 4) (v := .ref (ad (33 + 4 * h))) (C := RPl) (T := TPl) (N := 4) hx hb hts hinPl hown hK hW (30 + 4 * h) ((dq_Un (by omega)).trans l0) rfl 2 (by decide) hf18 (fun _ h9 => h9) rfl dPl_findDrilled_13 ?_
        refine lv_iload hx hb dPl_findDrilled_16 (lv_at hl 4 rfl) ?_
        refine lv_iconst (v := (0)) hx hb dPl_findDrilled_18 (by decide) ?_
        refine dq_iastN hx hb hK hW hS (33 + 4 * h) 0 dq_Us rfl k (by omega) (by omega) dPl_findDrilled_19 (fun H locs hW hS => ?_)
        rw [dq_UU] at hW
        refine lv_iload_n hx hb dPl_findDrilled_20 rfl (lv_at hl 1 rfl) ?_
        refine lv_istore (lv' := [(5, .int (nI i)), (0, .ref (ad (30 + 4 * h))), (1, .int (nI i)), (2, .ref (ad 5)), (3, .ref (ad 1)), (4, .int (nI k))]) hx hb dPl_findDrilled_21 hl (by decide) rfl (fun ls hl => ?_)
        have hW : dq_W D vwCl ad (dq_U w (33 + 4 * h) (.inl (g 0, 16, .inl (upd (mp_D (fun p => mp_bits (mp_F hx_ hy_ hw_ px py pw pd pf pt n i (X p) (Y p)) i (pc_ - i)) Dr k) k (nI (mp_bits (mp_F hx_ hy_ hw_ px py pw pd pf pt n i (X k) (Y k)) i 0)))))) A H := hW
        have loop2 : ∀ (j2 : Nat) (d : Nat) (H : Heap) (locs : List Loc) (ls : Array Slot), pc_ < i + d + j2 → i + d ≤ pc_ → dq_W D vwCl ad (dq_U w (33 + 4 * h) (.inl (g 0, 16, .inl (upd (mp_D (fun p => mp_bits (mp_F hx_ hy_ hw_ px py pw pd pf pt n i (X p) (Y p)) i (pc_ - i)) Dr k) k (nI (mp_bits (mp_F hx_ hy_ hw_ px py pw pd pf pt n i (X k) (Y k)) i d)))))) A H → va_S A s.heap H locs → lv_has ls 6 [(0, .ref (ad (30 + 4 * h))), (1, .int (nI i)), (2, .ref (ad 5)), (3, .ref (ad 1)), (4, .int (nI k)), (5, .int (nI (i + d)))] → W p l e ({ frames := 3, cells := 0, slots := 0, locals := 80 } : Room) s m ([.ref (ad (30 + 4 * h)), .int (nI i), .ref (ad 5), .ref (ad 1)] : List Value).toArray below meth c H locs 0 0 Q (F0 m 23 ls []) := by
          intro j2
          induction j2 with
          | zero => intro d H locs ls hj2 hd hW hS hl; exact absurd hj2 (by omega)
          | succ j2 ih2 =>
            intro d H locs ls hj2 hd hW hS hl
            refine lv_iload hx hb dPl_findDrilled_23 (lv_at hl 5 rfl) ?_
            refine lv_aload_n hx hb dPl_findDrilled_25 rfl (lv_at hl 2 rfl) ?_
            refine dq_get (D := D) (ci := 3) (v := .int (nI pc_)) (C := RPt) (T := TPt) (N := 7) hx hb hts hinPt hown hK hW 5 ((dq_Un (by omega)).trans p5) rfl 6 (by decide) hf47 (fun _ h9 => h9) rfl dPl_findDrilled_26 ?_
            refine lv_icmp_ge (tgt := 87) hx hb dPl_findDrilled_29 (by decide) (fun c2 => ?_) (fun c2 => ?_)
            · have hdn : d = pc_ - i := by have q9 := (nI_leI (by omega) (by omega)).mp c2; omega
              refine lv_iinc (v := (nI (k + 1))) (lv' := [(4, .int (nI (k + 1))), (0, .ref (ad (30 + 4 * h))), (1, .int (nI i)), (2, .ref (ad 5)), (3, .ref (ad 1)), (5, .int (nI (i + d)))]) hx hb dPl_findDrilled_87 hl (k := 4) rfl (by show nI k + 1 = _; exact nI_1 _) (by decide) rfl (fun ls hl => ?_)
              refine lv_goto (tgt := 3) hx hb dPl_findDrilled_90 (by decide) ?_
              rw [hdn] at hW
              have hW : dq_W D vwCl ad (dq_U w (33 + 4 * h) (.inl (g 0, 16, .inl (mp_D (fun p => mp_bits (mp_F hx_ hy_ hw_ px py pw pd pf pt n i (X p) (Y p)) i (pc_ - i)) Dr (k + 1))))) A H := dq_Wc (by rw [← mp_D_s]) hW
              exact ih (k + 1) _ _ _ (by omega) (by omega) hW hS (lv_sub hl [1, 2, 3, 4, 0] rfl)
            · have hdn : i + d < pc_ := by rcases Nat.lt_or_ge (i + d) pc_ with q9 | q9; exact q9; exact absurd (nI_le q9 (by omega)) c2
              refine lv_aload_n hx hb dPl_findDrilled_32 rfl (lv_at hl 2 rfl) ?_
              refine lv_iload_n hx hb dPl_findDrilled_33 rfl (lv_at hl 1 rfl) ?_
              refine lv_iload hx hb dPl_findDrilled_34 (lv_at hl 5 rfl) ?_
              refine dq_calli (va_runV (As := [.int (nI i), .int (nI (i + d))]) (rest := []) ⟨hx, hb, hml, hown, hts⟩ (c_Part_alike l D g ad (dq_U w (33 + 4 * h) (.inl (g 0, 16, .inl (upd (mp_D (fun p => mp_bits (mp_F hx_ hy_ hw_ px py pw pd pf pt n i (X p) (Y p)) i (pc_ - i)) Dr k) k (nI (mp_bits (mp_F hx_ hy_ hw_ px py pw pd pf pt n i (X k) (Y k)) i d)))))) _ px py pw pd pf pt pc_ i (i + d) ((dq_Un (by omega)).trans p5) ((dq_Un (by omega)).trans p6) ((dq_Un (by omega)).trans p7) ((dq_Un (by omega)).trans p8) ((dq_Un (by omega)).trans p9) ((dq_Un (by omega)).trans p10) ((dq_Un (by omega)).trans p11) (by omega) (by omega)) (cwV 2 hts (dq_giV tw2_31 tw2_32 tw2_33 tw1_4 tw2_34) rfl rfl rfl (by decide +kernel) ⟨Nat.le_of_ble_eq_true rfl, Nat.le_of_ble_eq_true rfl⟩) (dq_preV (ci := 3) hW hS hA hK hZ ((dq_Un (by omega)).trans p5) rfl rfl) rfl rfl hl.1 rfl (lv_room (Nat.le_of_ble_eq_true rfl)) dPl_findDrilled_36 ⟨Nat.zero_le _, Nat.zero_le _⟩) hW hS hA (fun r1 u_9 H locs hp1 hW hS hz9 => ?_)
              obtain ⟨hr1, hu9⟩ := hp1
              rw [hu9] at hW
              refine lv_if_eq (tgt := 81) hx hb dPl_findDrilled_39 (by decide) (fun c3 => ?_) (fun c3 => ?_)
              · have e5 : (mp_F hx_ hy_ hw_ px py pw pd pf pt n i (X k) (Y k)) (i + d) = false := by unfold mp_F; rw [dq_b_f (b := ml_alike pd pf pt i (i + d)) (by rw [← hr1]; exact c3)]; rfl
                have e6 : mp_bits (mp_F hx_ hy_ hw_ px py pw pd pf pt n i (X k) (Y k)) i (d + 1) = mp_bits (mp_F hx_ hy_ hw_ px py pw pd pf pt n i (X k) (Y k)) i d := if_neg (by rw [e5]; decide)
                refine lv_iinc (v := (nI (i + (d + 1)))) (lv' := [(5, .int (nI (i + (d + 1)))), (0, .ref (ad (30 + 4 * h))), (1, .int (nI i)), (2, .ref (ad 5)), (3, .ref (ad 1)), (4, .int (nI k))]) hx hb dPl_findDrilled_81 hl (k := 5) rfl (nI_1 (i + d)) (by decide) rfl (fun ls hl => ?_)
                refine lv_goto (tgt := 23) hx hb dPl_findDrilled_84 (by decide) ?_
                exact ih2 (d + 1) _ _ _ (by omega) (by omega) (by rw [e6]; exact hW) hS (lv_sub hl [1, 2, 3, 4, 5, 0] rfl)
              · refine lv_aload_n hx hb dPl_findDrilled_42 rfl (lv_at hl 2 rfl) ?_
                refine lv_iload hx hb dPl_findDrilled_43 (lv_at hl 5 rfl) ?_
                refine lv_aload_n hx hb dPl_findDrilled_45 rfl (lv_at hl 3 rfl) ?_
                refine lv_aload_n hx hb dPl_findDrilled_46 rfl (lv_at hl 0 rfl) ?_
                refine dq_get (D := D) (ci := 4) (v := .ref (ad (31 + 4 * h))) (C := RPl) (T := TPl) (N := 4) hx hb hts hinPl hown hK hW (30 + 4 * h) ((dq_Un (by omega)).trans l0) rfl 0 (by decide) hf9 (fun _ h9 => h9) rfl dPl_findDrilled_47 ?_
                refine lv_iload hx hb dPl_findDrilled_50 (lv_at hl 4 rfl) ?_
                refine dq_ialdN hx hb hK hW (31 + 4 * h) 0 ((dq_Un (by omega)).trans l1) rfl k (by omega) (by omega) dPl_findDrilled_52 ?_
                refine lv_aload_n hx hb dPl_findDrilled_53 rfl (lv_at hl 0 rfl) ?_
                refine dq_get (D := D) (ci := 4) (v := .ref (ad (32 + 4 * h))) (C := RPl) (T := TPl) (N := 4) hx hb hts hinPl hown hK hW (30 + 4 * h) ((dq_Un (by omega)).trans l0) rfl 1 (by decide) hf15 (fun _ h9 => h9) rfl dPl_findDrilled_54 ?_
                refine lv_iload hx hb dPl_findDrilled_57 (lv_at hl 4 rfl) ?_
                refine dq_ialdN hx hb hK hW (32 + 4 * h) 0 ((dq_Un (by omega)).trans l2) rfl k (by omega) (by omega) dPl_findDrilled_59 ?_
                refine dq_calli (va_runV (As := [.int (nI (i + d)), .ref (ad 1), .int (X k), .int (Y k)]) (rest := []) ⟨hx, hb, hml, hown, hts⟩ (c_Part_spindleFor l D g ad (dq_U w (33 + 4 * h) (.inl (g 0, 16, .inl (upd (mp_D (fun p => mp_bits (mp_F hx_ hy_ hw_ px py pw pd pf pt n i (X p) (Y p)) i (pc_ - i)) Dr k) k (nI (mp_bits (mp_F hx_ hy_ hw_ px py pw pd pf pt n i (X k) (Y k)) i d)))))) _ n hx_ hy_ hw_ f0 f1 f2 f3 px py pw pd pf pt pc_ (i + d) (X k) (Y k) ((dq_Un (by omega)).trans h1) ((dq_Un (by omega)).trans h2) ((dq_Un (by omega)).trans h3) ((dq_Un (by omega)).trans h4) ((dq_Un (by omega)).trans p5) ((dq_Un (by omega)).trans p6) ((dq_Un (by omega)).trans p7) ((dq_Un (by omega)).trans p8) hn (by omega)) (cwV 4 hts (dq_giV tw2_35 tw2_36 tw2_37 tw1_4 tw2_38) rfl rfl rfl (by decide +kernel) ⟨Nat.le_of_ble_eq_true rfl, Nat.le_of_ble_eq_true rfl⟩) (dq_preV (ci := 3) hW hS hA hK hZ ((dq_Un (by omega)).trans p5) rfl rfl) rfl rfl hl.1 rfl (lv_room (Nat.le_of_ble_eq_true rfl)) dPl_findDrilled_60 ⟨Nat.zero_le _, Nat.zero_le _⟩) hW hS hA (fun r2 u_9 H locs hp2 hW hS hz9 => ?_)
                obtain ⟨hr2, hu9⟩ := hp2
                rw [hu9] at hW
                refine lv_iconst (v := (-1)) hx hb dPl_findDrilled_63 (by decide) ?_
                refine lv_icmp_eq (tgt := 81) hx hb dPl_findDrilled_64 (by decide) (fun c4 => ?_) (fun c4 => ?_)
                · have e5 : (mp_F hx_ hy_ hw_ px py pw pd pf pt n i (X k) (Y k)) (i + d) = false := by unfold mp_F; rw [← hr2]; simp [c4]
                  have e6 : mp_bits (mp_F hx_ hy_ hw_ px py pw pd pf pt n i (X k) (Y k)) i (d + 1) = mp_bits (mp_F hx_ hy_ hw_ px py pw pd pf pt n i (X k) (Y k)) i d := if_neg (by rw [e5]; decide)
                  refine lv_iinc (v := (nI (i + (d + 1)))) (lv' := [(5, .int (nI (i + (d + 1)))), (0, .ref (ad (30 + 4 * h))), (1, .int (nI i)), (2, .ref (ad 5)), (3, .ref (ad 1)), (4, .int (nI k))]) hx hb dPl_findDrilled_81 hl (k := 5) rfl (nI_1 (i + d)) (by decide) rfl (fun ls hl => ?_)
                  refine lv_goto (tgt := 23) hx hb dPl_findDrilled_84 (by decide) ?_
                  exact ih2 (d + 1) _ _ _ (by omega) (by omega) (by rw [e6]; exact hW) hS (lv_sub hl [1, 2, 3, 4, 5, 0] rfl)
                · have e5 : (mp_F hx_ hy_ hw_ px py pw pd pf pt n i (X k) (Y k)) (i + d) = true := by unfold mp_F; rw [Bool.and_eq_true]; refine ⟨dq_b_t (by rw [← hr1]; exact c3), ?_⟩; rw [← hr2]; simp [c4]
                  have e6 : mp_bits (mp_F hx_ hy_ hw_ px py pw pd pf pt n i (X k) (Y k)) i (d + 1) = mp_bits (mp_F hx_ hy_ hw_ px py pw pd pf pt n i (X k) (Y k)) i d ||| 2 ^ (i + d) := if_pos e5
                  refine lv_aload_n hx hb dPl_findDrilled_67 rfl (lv_at hl 0 rfl) ?_
                  refine dq_get (D := D) (ci := 4) (v := .ref (ad (33 + 4 * h))) (C := RPl) (T := TPl) (N := 4) hx hb hts hinPl hown hK hW (30 + 4 * h) ((dq_Un (by omega)).trans l0) rfl 2 (by decide) hf18 (fun _ h9 => h9) rfl dPl_findDrilled_68 ?_
                  refine lv_iload hx hb dPl_findDrilled_71 (lv_at hl 4 rfl) ?_
                  refine lv_dup2_11 hx hb dPl_findDrilled_73 rfl rfl ?_
                  refine dq_ialdN hx hb hK hW (33 + 4 * h) 0 dq_Us rfl k (by omega) (by omega) dPl_findDrilled_74 ?_
                  refine dq_top (y := nI (mp_bits (mp_F hx_ hy_ hw_ px py pw pd pf pt n i (X k) (Y k)) i d)) pk_us ?_
                  refine lv_iconst (v := (1)) hx hb dPl_findDrilled_75 (by decide) ?_
                  refine lv_iload hx hb dPl_findDrilled_76 (lv_at hl 5 rfl) ?_
                  refine lv_ishl hx hb dPl_findDrilled_78 ?_
                  refine dq_top (y := nI (2 ^ (i + d))) (dq_sh1 _ (by omega)) ?_
                  refine lv_ior hx hb dPl_findDrilled_79 ?_
                  refine dq_top (y := nI (mp_bits (mp_F hx_ hy_ hw_ px py pw pd pf pt n i (X k) (Y k)) i (d + 1))) (by rw [e6]; exact nx_or _ _) ?_
                  refine dq_iastN hx hb hK hW hS (33 + 4 * h) 0 dq_Us rfl k (by omega) (by omega) dPl_findDrilled_80 (fun H locs hW hS => ?_)
                  rw [dq_UU] at hW
                  refine lv_iinc (v := (nI (i + (d + 1)))) (lv' := [(5, .int (nI (i + (d + 1)))), (0, .ref (ad (30 + 4 * h))), (1, .int (nI i)), (2, .ref (ad 5)), (3, .ref (ad 1)), (4, .int (nI k))]) hx hb dPl_findDrilled_81 hl (k := 5) rfl (nI_1 (i + d)) (by decide) rfl (fun ls hl => ?_)
                  refine lv_goto (tgt := 23) hx hb dPl_findDrilled_84 (by decide) ?_
                  rw [dq_uu] at hW
                  exact ih2 (d + 1) _ _ _ (by omega) (by omega) hW hS (lv_sub hl [1, 2, 3, 4, 5, 0] rfl)
        exact loop2 (pc_ + 1) 0 _ _ _ (by omega) (by omega) hW hS (lv_sub hl [1, 2, 3, 4, 5, 0] rfl)
  exact loop (q + 1) 0 _ _ _ (by omega) (Nat.zero_le _) hW hS (lv_sub hl [1, 2, 3, 4, 0] rfl)
