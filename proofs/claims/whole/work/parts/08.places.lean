set_option maxHeartbeats 4000000 in
set_option maxRecDepth 100000 in
/-- Clamps.overlap -/
theorem c_Clamps_overlap (l : Launch) (D : va_G) (g : Nat → ClassId) (ad : Nat → Nat) (w : Nat → Option va_E) (sz : Nat) (a0 a1 a2 a3 : Int32)   : Met l yCl_overlap wsCl_overlap ({ frames := 1, cells := 0, slots := 0, locals := 24 } : Room) (va_Pc [.int a0, .int a1, .int a2, .int a3] (dq_S D vwCl (dq_t g) ad w sz)) (va_Qi (fun r u => r = dq_b (mc_ov a0 a1 a2 a3) ∧ u = w) (dq_B D vwCl (dq_t g) ad (dq_A ad w sz)) (dq_A ad w sz)) 0 0 (dq_A ad w sz) := by
  refine dq_ofz (cc := cCl_overlap) (maxL := 4) (by decide) rfl (Nat.le_of_ble_eq_true rfl) ?_
  intro p e s m below meth c A Q ls ⟨hx, hb, hml, hown, hts⟩ hnm hA hW hK hZ hl hret
  have hS : va_S A s.heap s.heap [] := va_S.rf
  have hl : lv_has ls 4 [(0, .int a0), (1, .int a1), (2, .int a2), (3, .int a3)] := hl
  refine lv_iload_n hx hb dCl_overlap_0 rfl (lv_at hl 0 rfl) ?_
  refine lv_iload_n hx hb dCl_overlap_1 rfl (lv_at hl 2 rfl) ?_
  refine va_mmax hx hb (by rw [hml]; exact hl.1.symm) hown (hts _ (List.mem_cons_of_mem _ tw2_21)) (hts _ (List.mem_cons_of_mem _ tw1_32)) (hts _ (List.mem_cons_of_mem _ tw1_3)) (hts _ (List.mem_cons_of_mem _ tw1_33)) (Nat.le_of_ble_eq_true rfl) (Nat.le_of_ble_eq_true rfl) (Nat.zero_le _) (Nat.zero_le _) dCl_overlap_2 ?_
  refine lv_iload_n hx hb dCl_overlap_5 rfl (lv_at hl 1 rfl) ?_
  refine lv_iload_n hx hb dCl_overlap_6 rfl (lv_at hl 3 rfl) ?_
  refine va_mmin hx hb (by rw [hml]; exact hl.1.symm) hown (hts _ (List.mem_cons_of_mem _ tw2_22)) (hts _ (List.mem_cons_of_mem _ tw1_29)) (hts _ (List.mem_cons_of_mem _ tw1_3)) (hts _ (List.mem_cons_of_mem _ tw1_30)) (Nat.le_of_ble_eq_true rfl) (Nat.le_of_ble_eq_true rfl) (Nat.zero_le _) (Nat.zero_le _) dCl_overlap_7 ?_
  refine lv_icmp_ge (tgt := 17) hx hb dCl_overlap_10 (by decide) (fun c1 => ?_) (fun c1 => ?_)
  · have e1 : mc_ov a0 a1 a2 a3 = false := decide_eq_false (fun h9 => absurd c1 (Int32.not_le.mpr h9))
    refine lv_iconst (v := (0)) hx hb dCl_overlap_17 (by decide) ?_
    exact hret _ _ _ _ _ _ ⟨by rw [e1]; rfl, rfl⟩ (by decide) hW hS dCl_overlap_18
  · have e1 : mc_ov a0 a1 a2 a3 = true := decide_eq_true (Int32.not_le.mp c1)
    refine lv_iconst (v := (1)) hx hb dCl_overlap_13 (by decide) ?_
    refine lv_goto (tgt := 18) hx hb dCl_overlap_14 (by decide) ?_
    exact hret _ _ _ _ _ _ ⟨by rw [e1]; rfl, rfl⟩ (by decide) hW hS dCl_overlap_18
set_option maxHeartbeats 4000000 in
set_option maxRecDepth 100000 in
/-- Clamps.bar(head, x, y) -/
theorem c_Clamps_bar (l : Launch) (D : va_G) (g : Nat → ClassId) (ad : Nat → Nat) (w : Nat → Option va_E) (sz : Nat) (n : Nat) (hx_ hy_ hw_ : Nat → Int32) (f0 f1 f2 f3 : Int32) (cx0 cy0 cx1 cy1 : Nat → Int32) (cc_ : Nat) (a0 a1 : Int32) (h1 : w 1 = some (.inr (1, [.ref (ad 2), .ref (ad 3), .ref (ad 4), .int f0, .int f1, .int f2, .int f3]))) (k12 : w 12 = some (.inr (0, [.ref (ad 13), .ref (ad 14), .ref (ad 15), .ref (ad 16), .int (nI cc_)]))) (k13 : w 13 = some (.inl (g 0, 6, .inl cx0))) (k14 : w 14 = some (.inl (g 0, 6, .inl cy0))) (k15 : w 15 = some (.inl (g 0, 6, .inl cx1))) (k16 : w 16 = some (.inl (g 0, 6, .inl cy1))) (hc : cc_ ≤ 6) : Met l yCl_bar wsCl_bar ({ frames := 2, cells := 0, slots := 0, locals := 50 } : Room) (va_Pc [.ref (ad 12), .ref (ad 1), .int a0, .int a1] (dq_S D vwCl (dq_t g) ad w sz)) (va_Qi (fun r u => r = dq_b (mc_bar cx0 cy0 cx1 cy1 cc_ f0 f1 f2 f3 a0 a1) ∧ u = w) (dq_B D vwCl (dq_t g) ad (dq_A ad w sz)) (dq_A ad w sz)) 0 0 (dq_A ad w sz) := by
  refine dq_ofz (cc := cCl_bar) (maxL := 5) (by decide) rfl (Nat.le_of_ble_eq_true rfl) ?_
  intro p e s m below meth c A Q ls ⟨hx, hb, hml, hown, hts⟩ hnm hA hW hK hZ hl hret
  have hS : va_S A s.heap s.heap [] := va_S.rf
  have hl : lv_has ls 5 [(0, .ref (ad 12)), (1, .ref (ad 1)), (2, .int a0), (3, .int a1)] := hl
  have hf9 := hts _ (List.mem_cons_of_mem _ tw1_113)
  have hf15 := hts _ (List.mem_cons_of_mem _ tw1_114)
  have hf18 := hts _ (List.mem_cons_of_mem _ tw1_115)
  have hf21 := hts _ (List.mem_cons_of_mem _ tw1_116)
  have hf24 := hts _ (List.mem_cons_of_mem _ tw1_117)
  have hf28 := hts _ (List.mem_cons_of_mem _ tw1_45)
  have hf33 := hts _ (List.mem_cons_of_mem _ tw1_49)
  have hf40 := hts _ (List.mem_cons_of_mem _ tw1_47)
  have hf43 := hts _ (List.mem_cons_of_mem _ tw1_51)
  have hinCl : ∀ w ∈ u_ws RCl TCl 5, w ∈ wsCl_bar := fun w h => List.mem_cons_of_mem _ (inCl w h)
  have hinHd : ∀ w ∈ u_ws RHd THd 7, w ∈ wsCl_bar := fun w h => List.mem_cons_of_mem _ (inHd w h)
  refine lv_iconst (v := (nI 0)) hx hb dCl_bar_0 (by decide) ?_
  refine lv_istore (lv' := [(4, .int (nI 0)), (0, .ref (ad 12)), (1, .ref (ad 1)), (2, .int a0), (3, .int a1)]) hx hb dCl_bar_1 hl (by decide) rfl (fun ls hl => ?_)
  have loop : ∀ (j : Nat) (k : Nat) (H : Heap) (locs : List Loc) (ls : Array Slot), cc_ < k + j → k ≤ cc_ → (∀ i, i < k → (fun i => mc_ov (cx0 i) (cx1 i) (a0 + f0) (a0 + f2) && mc_ov (cy0 i) (cy1 i) (a1 + f1) (a1 + f3)) i = false) → dq_W D vwCl ad (w) A H → va_S A s.heap H locs → lv_has ls 5 [(0, .ref (ad 12)), (1, .ref (ad 1)), (2, .int a0), (3, .int a1), (4, .int (nI k))] → W p l e ({ frames := 2, cells := 0, slots := 0, locals := 50 } : Room) s m ([.ref (ad 12), .ref (ad 1), .int a0, .int a1] : List Value).toArray below meth c H locs 0 0 Q (F0 m 3 ls []) := by
    intro j
    induction j with
    | zero => intro k H locs ls hj hk hb9 hW hS hl; exact absurd hj (by omega)
    | succ j ih =>
      intro k H locs ls hj hk hb9 hW hS hl
      refine lv_iload hx hb dCl_bar_3 (lv_at hl 4 rfl) ?_
      refine lv_aload_n hx hb dCl_bar_5 rfl (lv_at hl 0 rfl) ?_
      refine dq_get (D := D) (ci := 0) (v := .int (nI cc_)) (C := RCl) (T := TCl) (N := 5) hx hb hts hinCl hown hK hW 12 k12 rfl 4 (by decide) hf24 (fun _ h9 => h9) rfl dCl_bar_6 ?_
      refine lv_icmp_ge (tgt := 84) hx hb dCl_bar_9 (by decide) (fun c1 => ?_) (fun c1 => ?_)
      · have hkn : k = cc_ := by have q := (nI_leI (by omega) (by omega)).mp c1; omega
        refine lv_iconst (v := (0)) hx hb dCl_bar_84 (by decide) ?_
        have e9 : mc_bar cx0 cy0 cx1 cy1 cc_ f0 f1 f2 f3 a0 a1 = false := dq_any_f (by rw [← hkn]; exact hb9)
        exact hret _ _ _ _ _ _ ⟨by rw [e9]; rfl, rfl⟩ (by decide) hW hS dCl_bar_85
      · have hkn : k < cc_ := by rcases Nat.lt_or_ge k cc_ with q | q; exact q; exact absurd (nI_le q (by omega)) c1
        refine lv_aload_n hx hb dCl_bar_12 rfl (lv_at hl 0 rfl) ?_
        refine dq_get (D := D) (ci := 0) (v := .ref (ad 13)) (C := RCl) (T := TCl) (N := 5) hx hb hts hinCl hown hK hW 12 k12 rfl 0 (by decide) hf9 (fun _ h9 => h9) rfl dCl_bar_13 ?_
        refine lv_iload hx hb dCl_bar_16 (lv_at hl 4 rfl) ?_
        refine dq_ialdN hx hb hK hW 13 0 k13 rfl k (by omega) (by omega) dCl_bar_18 ?_
        refine lv_aload_n hx hb dCl_bar_19 rfl (lv_at hl 0 rfl) ?_
        refine dq_get (D := D) (ci := 0) (v := .ref (ad 15)) (C := RCl) (T := TCl) (N := 5) hx hb hts hinCl hown hK hW 12 k12 rfl 2 (by decide) hf18 (fun _ h9 => h9) rfl dCl_bar_20 ?_
        refine lv_iload hx hb dCl_bar_23 (lv_at hl 4 rfl) ?_
        refine dq_ialdN hx hb hK hW 15 0 k15 rfl k (by omega) (by omega) dCl_bar_25 ?_
        refine lv_iload_n hx hb dCl_bar_26 rfl (lv_at hl 2 rfl) ?_
        refine lv_aload_n hx hb dCl_bar_27 rfl (lv_at hl 1 rfl) ?_
        refine dq_get (D := D) (ci := 1) (v := .int f0) (C := RHd) (T := THd) (N := 7) hx hb hts hinHd hown hK hW 1 h1 rfl 3 (by decide) hf28 (fun _ h9 => h9) rfl dCl_bar_28 ?_
        refine lv_iadd hx hb dCl_bar_31 ?_
        refine lv_iload_n hx hb dCl_bar_32 rfl (lv_at hl 2 rfl) ?_
        refine lv_aload_n hx hb dCl_bar_33 rfl (lv_at hl 1 rfl) ?_
        refine dq_get (D := D) (ci := 1) (v := .int f2) (C := RHd) (T := THd) (N := 7) hx hb hts hinHd hown hK hW 1 h1 rfl 5 (by decide) hf33 (fun _ h9 => h9) rfl dCl_bar_34 ?_
        refine lv_iadd hx hb dCl_bar_37 ?_
        refine dq_calli (va_runS (As := [.int (cx0 k), .int (cx1 k), .int (a0 + f0), .int (a0 + f2)]) (rest := []) ⟨hx, hb, hml, hown, hts⟩ (c_Clamps_overlap l D g ad (w) _ (cx0 k) (cx1 k) (a0 + f0) (a0 + f2)  ) (cwS 4 hts (dq_giS2 tw2_18 tw2_19 tw1_5 tw2_20) rfl rfl rfl (by decide +kernel) ⟨Nat.le_of_ble_eq_true rfl, Nat.le_of_ble_eq_true rfl⟩) (dq_preS hW hS hA hK hZ) rfl rfl hl.1 rfl (lv_room (Nat.le_of_ble_eq_true rfl)) dCl_bar_38 ⟨Nat.zero_le _, Nat.zero_le _⟩) hW hS hA (fun r1 u_9 H locs hp1 hW hS hz9 => ?_)
        obtain ⟨hr1, hu9⟩ := hp1
        rw [hu9] at hW
        refine lv_if_eq (tgt := 78) hx hb dCl_bar_41 (by decide) (fun c2 => ?_) (fun c2 => ?_)
        · have e1 : (fun i => mc_ov (cx0 i) (cx1 i) (a0 + f0) (a0 + f2) && mc_ov (cy0 i) (cy1 i) (a1 + f1) (a1 + f3)) k = false := by rw [Bool.and_eq_false_iff]; exact Or.inl (dq_b_f (by rw [← hr1]; exact c2))
          refine lv_iinc (v := (nI (k + 1))) (lv' := [(4, .int (nI (k + 1))), (0, .ref (ad 12)), (1, .ref (ad 1)), (2, .int a0), (3, .int a1)]) hx hb dCl_bar_78 hl (k := 4) rfl (by show nI k + 1 = _; exact nI_1 _) (by decide) rfl (fun ls hl => ?_)
          refine lv_goto (tgt := 3) hx hb dCl_bar_81 (by decide) ?_
          exact ih (k + 1) _ _ _ (by omega) (by omega) (lt_s hb9 e1) hW hS (lv_sub hl [1, 2, 3, 4, 0] rfl)
        · refine lv_aload_n hx hb dCl_bar_44 rfl (lv_at hl 0 rfl) ?_
          refine dq_get (D := D) (ci := 0) (v := .ref (ad 14)) (C := RCl) (T := TCl) (N := 5) hx hb hts hinCl hown hK hW 12 k12 rfl 1 (by decide) hf15 (fun _ h9 => h9) rfl dCl_bar_45 ?_
          refine lv_iload hx hb dCl_bar_48 (lv_at hl 4 rfl) ?_
          refine dq_ialdN hx hb hK hW 14 0 k14 rfl k (by omega) (by omega) dCl_bar_50 ?_
          refine lv_aload_n hx hb dCl_bar_51 rfl (lv_at hl 0 rfl) ?_
          refine dq_get (D := D) (ci := 0) (v := .ref (ad 16)) (C := RCl) (T := TCl) (N := 5) hx hb hts hinCl hown hK hW 12 k12 rfl 3 (by decide) hf21 (fun _ h9 => h9) rfl dCl_bar_52 ?_
          refine lv_iload hx hb dCl_bar_55 (lv_at hl 4 rfl) ?_
          refine dq_ialdN hx hb hK hW 16 0 k16 rfl k (by omega) (by omega) dCl_bar_57 ?_
          refine lv_iload_n hx hb dCl_bar_58 rfl (lv_at hl 3 rfl) ?_
          refine lv_aload_n hx hb dCl_bar_59 rfl (lv_at hl 1 rfl) ?_
          refine dq_get (D := D) (ci := 1) (v := .int f1) (C := RHd) (T := THd) (N := 7) hx hb hts hinHd hown hK hW 1 h1 rfl 4 (by decide) hf40 (fun _ h9 => h9) rfl dCl_bar_60 ?_
          refine lv_iadd hx hb dCl_bar_63 ?_
          refine lv_iload_n hx hb dCl_bar_64 rfl (lv_at hl 3 rfl) ?_
          refine lv_aload_n hx hb dCl_bar_65 rfl (lv_at hl 1 rfl) ?_
          refine dq_get (D := D) (ci := 1) (v := .int f3) (C := RHd) (T := THd) (N := 7) hx hb hts hinHd hown hK hW 1 h1 rfl 6 (by decide) hf43 (fun _ h9 => h9) rfl dCl_bar_66 ?_
          refine lv_iadd hx hb dCl_bar_69 ?_
          refine dq_calli (va_runS (As := [.int (cy0 k), .int (cy1 k), .int (a1 + f1), .int (a1 + f3)]) (rest := []) ⟨hx, hb, hml, hown, hts⟩ (c_Clamps_overlap l D g ad (w) _ (cy0 k) (cy1 k) (a1 + f1) (a1 + f3)  ) (cwS 4 hts (dq_giS2 tw2_18 tw2_19 tw1_5 tw2_20) rfl rfl rfl (by decide +kernel) ⟨Nat.le_of_ble_eq_true rfl, Nat.le_of_ble_eq_true rfl⟩) (dq_preS hW hS hA hK hZ) rfl rfl hl.1 rfl (lv_room (Nat.le_of_ble_eq_true rfl)) dCl_bar_70 ⟨Nat.zero_le _, Nat.zero_le _⟩) hW hS hA (fun r2 u_9 H locs hp2 hW hS hz9 => ?_)
          obtain ⟨hr2, hu9⟩ := hp2
          rw [hu9] at hW
          refine lv_if_eq (tgt := 78) hx hb dCl_bar_73 (by decide) (fun c3 => ?_) (fun c3 => ?_)
          · have e1 : (fun i => mc_ov (cx0 i) (cx1 i) (a0 + f0) (a0 + f2) && mc_ov (cy0 i) (cy1 i) (a1 + f1) (a1 + f3)) k = false := by rw [Bool.and_eq_false_iff]; exact Or.inr (dq_b_f (by rw [← hr2]; exact c3))
            refine lv_iinc (v := (nI (k + 1))) (lv' := [(4, .int (nI (k + 1))), (0, .ref (ad 12)), (1, .ref (ad 1)), (2, .int a0), (3, .int a1)]) hx hb dCl_bar_78 hl (k := 4) rfl (by show nI k + 1 = _; exact nI_1 _) (by decide) rfl (fun ls hl => ?_)
            refine lv_goto (tgt := 3) hx hb dCl_bar_81 (by decide) ?_
            exact ih (k + 1) _ _ _ (by omega) (by omega) (lt_s hb9 e1) hW hS (lv_sub hl [1, 2, 3, 4, 0] rfl)
          · refine lv_iconst (v := (1)) hx hb dCl_bar_76 (by decide) ?_
            have e1 : (fun i => mc_ov (cx0 i) (cx1 i) (a0 + f0) (a0 + f2) && mc_ov (cy0 i) (cy1 i) (a1 + f1) (a1 + f3)) k = true := by rw [Bool.and_eq_true]; exact ⟨dq_b_t (by rw [← hr1]; exact c2), dq_b_t (by rw [← hr2]; exact c3)⟩
            have e9 : mc_bar cx0 cy0 cx1 cy1 cc_ f0 f1 f2 f3 a0 a1 = true := dq_any_t hkn e1
            exact hret _ _ _ _ _ _ ⟨by rw [e9]; rfl, rfl⟩ (by decide) hW hS dCl_bar_77
  exact loop (cc_ + 1) 0 _ _ _ (by omega) (Nat.zero_le _) lt_0 hW hS (lv_sub hl [1, 2, 3, 4, 0] rfl)
set_option maxHeartbeats 4000000 in
set_option maxRecDepth 100000 in
/-- Part.alike(a, b) -/
theorem c_Part_alike (l : Launch) (D : va_G) (g : Nat → ClassId) (ad : Nat → Nat) (w : Nat → Option va_E) (sz : Nat) (px py pw pd pf pt : Nat → Int32) (pc_ : Nat) (i j_ : Nat) (p5 : w 5 = some (.inr (3, [.ref (ad 6), .ref (ad 7), .ref (ad 8), .ref (ad 9), .ref (ad 10), .ref (ad 11), .int (nI pc_)]))) (p6 : w 6 = some (.inl (g 0, 14, .inl px))) (p7 : w 7 = some (.inl (g 0, 14, .inl py))) (p8 : w 8 = some (.inl (g 0, 14, .inl pw))) (p9 : w 9 = some (.inl (g 0, 14, .inl pd))) (p10 : w 10 = some (.inl (g 0, 14, .inl pf))) (p11 : w 11 = some (.inl (g 1, 14, .inl pt))) (hi : i < 14) (hj : j_ < 14) : Met l yPt_alike wsPt_alike ({ frames := 0, cells := 0, slots := 0, locals := 0 } : Room) (va_Pc [.ref (ad 5), .int (nI i), .int (nI j_)] (dq_S D vwCl (dq_t g) ad w sz)) (va_Qi (fun r u => r = dq_b (ml_alike pd pf pt i j_) ∧ u = w) (dq_B D vwCl (dq_t g) ad (dq_A ad w sz)) (dq_A ad w sz)) 0 0 (dq_A ad w sz) := by
  refine dq_ofz (cc := cPt_alike) (maxL := 3) (by decide) rfl (Nat.le_of_ble_eq_true rfl) ?_
  intro p e s m below meth c A Q ls ⟨hx, hb, hml, hown, hts⟩ hnm hA hW hK hZ hl hret
  have hS : va_S A s.heap s.heap [] := va_S.rf
  have hl : lv_has ls 3 [(0, .ref (ad 5)), (1, .int (nI i)), (2, .int (nI j_))] := hl
  have hf21 := hts _ (List.mem_cons_of_mem _ tw1_83)
  have hf24 := hts _ (List.mem_cons_of_mem _ tw1_84)
  have hf27 := hts _ (List.mem_cons_of_mem _ tw1_86)
  have hinPt : ∀ w ∈ u_ws RPt TPt 7, w ∈ wsPt_alike := fun w h => List.mem_cons_of_mem _ (inPt w h)
  refine lv_aload_n hx hb dPt_alike_0 rfl (lv_at hl 0 rfl) ?_
  refine dq_get (D := D) (ci := 3) (v := .ref (ad 10)) (C := RPt) (T := TPt) (N := 7) hx hb hts hinPt hown hK hW 5 p5 rfl 4 (by decide) hf24 (fun _ h9 => h9) rfl dPt_alike_1 ?_
  refine lv_iload_n hx hb dPt_alike_4 rfl (lv_at hl 1 rfl) ?_
  refine dq_ialdN hx hb hK hW 10 0 p10 rfl i (by omega) (by omega) dPt_alike_5 ?_
  refine lv_aload_n hx hb dPt_alike_6 rfl (lv_at hl 0 rfl) ?_
  refine dq_get (D := D) (ci := 3) (v := .ref (ad 10)) (C := RPt) (T := TPt) (N := 7) hx hb hts hinPt hown hK hW 5 p5 rfl 4 (by decide) hf24 (fun _ h9 => h9) rfl dPt_alike_7 ?_
  refine lv_iload_n hx hb dPt_alike_10 rfl (lv_at hl 2 rfl) ?_
  refine dq_ialdN hx hb hK hW 10 0 p10 rfl j_ (by omega) (by omega) dPt_alike_11 ?_
  refine lv_icmp_ne (tgt := 30) hx hb dPt_alike_12 (by decide) (fun c1 => ?_) (fun c1 => ?_)
  · have e1 : ml_alike pd pf pt i j_ = false := by unfold ml_alike; simp [c1]
    refine lv_iconst (v := (0)) hx hb dPt_alike_30 (by decide) ?_
    exact hret _ _ _ _ _ _ ⟨by rw [e1]; rfl, rfl⟩ (by decide) hW hS dPt_alike_31
  · refine lv_aload_n hx hb dPt_alike_15 rfl (lv_at hl 0 rfl) ?_
    refine dq_get (D := D) (ci := 3) (v := .ref (ad 11)) (C := RPt) (T := TPt) (N := 7) hx hb hts hinPt hown hK hW 5 p5 rfl 5 (by decide) hf27 (fun _ h9 => h9) rfl dPt_alike_16 ?_
    refine lv_iload_n hx hb dPt_alike_19 rfl (lv_at hl 1 rfl) ?_
    refine dq_zaldN hx hb hK hW 11 1 p11 rfl i (by omega) (by omega) dPt_alike_20 ?_
    refine lv_aload_n hx hb dPt_alike_21 rfl (lv_at hl 0 rfl) ?_
    refine dq_get (D := D) (ci := 3) (v := .ref (ad 11)) (C := RPt) (T := TPt) (N := 7) hx hb hts hinPt hown hK hW 5 p5 rfl 5 (by decide) hf27 (fun _ h9 => h9) rfl dPt_alike_22 ?_
    refine lv_iload_n hx hb dPt_alike_25 rfl (lv_at hl 2 rfl) ?_
    refine dq_zaldN hx hb hK hW 11 1 p11 rfl j_ (by omega) (by omega) dPt_alike_26 ?_
    refine lv_icmp_eq (tgt := 32) hx hb dPt_alike_27 (by decide) (fun c2 => ?_) (fun c2 => ?_)
    · refine lv_aload_n hx hb dPt_alike_32 rfl (lv_at hl 0 rfl) ?_
      refine dq_get (D := D) (ci := 3) (v := .ref (ad 11)) (C := RPt) (T := TPt) (N := 7) hx hb hts hinPt hown hK hW 5 p5 rfl 5 (by decide) hf27 (fun _ h9 => h9) rfl dPt_alike_33 ?_
      refine lv_iload_n hx hb dPt_alike_36 rfl (lv_at hl 1 rfl) ?_
      refine dq_zaldN hx hb hK hW 11 1 p11 rfl i (by omega) (by omega) dPt_alike_37 ?_
      refine lv_if_ne (tgt := 56) hx hb dPt_alike_38 (by decide) (fun c3 => ?_) (fun c3 => ?_)
      · have e1 : ml_alike pd pf pt i j_ = true := by unfold ml_alike; simp [c1, ← c2, c3]
        refine lv_iconst (v := (1)) hx hb dPt_alike_56 (by decide) ?_
        refine lv_goto (tgt := 61) hx hb dPt_alike_57 (by decide) ?_
        exact hret _ _ _ _ _ _ ⟨by rw [e1]; rfl, rfl⟩ (by decide) hW hS dPt_alike_61
      · refine lv_aload_n hx hb dPt_alike_41 rfl (lv_at hl 0 rfl) ?_
        refine dq_get (D := D) (ci := 3) (v := .ref (ad 9)) (C := RPt) (T := TPt) (N := 7) hx hb hts hinPt hown hK hW 5 p5 rfl 3 (by decide) hf21 (fun _ h9 => h9) rfl dPt_alike_42 ?_
        refine lv_iload_n hx hb dPt_alike_45 rfl (lv_at hl 1 rfl) ?_
        refine dq_ialdN hx hb hK hW 9 0 p9 rfl i (by omega) (by omega) dPt_alike_46 ?_
        refine lv_aload_n hx hb dPt_alike_47 rfl (lv_at hl 0 rfl) ?_
        refine dq_get (D := D) (ci := 3) (v := .ref (ad 9)) (C := RPt) (T := TPt) (N := 7) hx hb hts hinPt hown hK hW 5 p5 rfl 3 (by decide) hf21 (fun _ h9 => h9) rfl dPt_alike_48 ?_
        refine lv_iload_n hx hb dPt_alike_51 rfl (lv_at hl 2 rfl) ?_
        refine dq_ialdN hx hb hK hW 9 0 p9 rfl j_ (by omega) (by omega) dPt_alike_52 ?_
        refine lv_icmp_ne (tgt := 60) hx hb dPt_alike_53 (by decide) (fun c4 => ?_) (fun c4 => ?_)
        · have e1 : ml_alike pd pf pt i j_ = false := by unfold ml_alike; simp [c3, c4]
          refine lv_iconst (v := (0)) hx hb dPt_alike_60 (by decide) ?_
          exact hret _ _ _ _ _ _ ⟨by rw [e1]; rfl, rfl⟩ (by decide) hW hS dPt_alike_61
        · have e1 : ml_alike pd pf pt i j_ = true := by unfold ml_alike; simp [c1, ← c2, c4]
          refine lv_iconst (v := (1)) hx hb dPt_alike_56 (by decide) ?_
          refine lv_goto (tgt := 61) hx hb dPt_alike_57 (by decide) ?_
          exact hret _ _ _ _ _ _ ⟨by rw [e1]; rfl, rfl⟩ (by decide) hW hS dPt_alike_61
    · have e1 : ml_alike pd pf pt i j_ = false := by unfold ml_alike; simp [c2]
      refine lv_iconst (v := (0)) hx hb dPt_alike_30 (by decide) ?_
      exact hret _ _ _ _ _ _ ⟨by rw [e1]; rfl, rfl⟩ (by decide) hW hS dPt_alike_31
set_option maxHeartbeats 4000000 in
set_option maxRecDepth 100000 in
/-- Part.spindleFor(h, head, x, y) -/
theorem c_Part_spindleFor (l : Launch) (D : va_G) (g : Nat → ClassId) (ad : Nat → Nat) (w : Nat → Option va_E) (sz : Nat) (n : Nat) (hx_ hy_ hw_ : Nat → Int32) (f0 f1 f2 f3 : Int32) (px py pw pd pf pt : Nat → Int32) (pc_ : Nat) (i : Nat) (a0 a1 : Int32) (h1 : w 1 = some (.inr (1, [.ref (ad 2), .ref (ad 3), .ref (ad 4), .int f0, .int f1, .int f2, .int f3]))) (h2 : w 2 = some (.inl (g 0, n, .inl hx_))) (h3 : w 3 = some (.inl (g 0, n, .inl hy_))) (h4 : w 4 = some (.inl (g 0, n, .inl hw_))) (p5 : w 5 = some (.inr (3, [.ref (ad 6), .ref (ad 7), .ref (ad 8), .ref (ad 9), .ref (ad 10), .ref (ad 11), .int (nI pc_)]))) (p6 : w 6 = some (.inl (g 0, 14, .inl px))) (p7 : w 7 = some (.inl (g 0, 14, .inl py))) (p8 : w 8 = some (.inl (g 0, 14, .inl pw))) (hn : n ≤ 16) (hi : i < 14) : Met l yPt_spindleFor wsPt_spindleFor ({ frames := 1, cells := 0, slots := 0, locals := 24 } : Room) (va_Pc [.ref (ad 5), .int (nI i), .ref (ad 1), .int a0, .int a1] (dq_S D vwCl (dq_t g) ad w sz)) (va_Qi (fun r u => r = dq_fst (fun k => decide (hx_ k = px i - a0) && decide (hy_ k = py i - a1) && decide (hw_ k = pw i)) n ∧ u = w) (dq_B D vwCl (dq_t g) ad (dq_A ad w sz)) (dq_A ad w sz)) 0 0 (dq_A ad w sz) := by
  refine dq_ofi (cc := cPt_spindleFor) (maxL := 5) (by decide) rfl (Nat.le_of_ble_eq_true rfl) ?_
  intro p e s m below meth c A Q ls ⟨hx, hb, hml, hown, hts⟩ hnm hA hW hK hZ hl hret
  have hS : va_S A s.heap s.heap [] := va_S.rf
  have hl : lv_has ls 5 [(0, .ref (ad 5)), (1, .int (nI i)), (2, .ref (ad 1)), (3, .int a0), (4, .int a1)] := hl
  have hf9 := hts _ (List.mem_cons_of_mem _ tw1_75)
  have hf15 := hts _ (List.mem_cons_of_mem _ tw1_78)
  have hf18 := hts _ (List.mem_cons_of_mem _ tw1_81)
  have hinPt : ∀ w ∈ u_ws RPt TPt 7, w ∈ wsPt_spindleFor := fun w h => List.mem_cons_of_mem _ (inPt w h)
  refine lv_aload_n hx hb dPt_spindleFor_0 rfl (lv_at hl 2 rfl) ?_
  refine lv_aload_n hx hb dPt_spindleFor_1 rfl (lv_at hl 0 rfl) ?_
  refine dq_get (D := D) (ci := 3) (v := .ref (ad 6)) (C := RPt) (T := TPt) (N := 7) hx hb hts hinPt hown hK hW 5 p5 rfl 0 (by decide) hf9 (fun _ h9 => h9) rfl dPt_spindleFor_2 ?_
  refine lv_iload_n hx hb dPt_spindleFor_5 rfl (lv_at hl 1 rfl) ?_
  refine dq_ialdN hx hb hK hW 6 0 p6 rfl i (by omega) (by omega) dPt_spindleFor_6 ?_
  refine lv_iload_n hx hb dPt_spindleFor_7 rfl (lv_at hl 3 rfl) ?_
  refine lv_isub hx hb dPt_spindleFor_8 ?_
  refine lv_aload_n hx hb dPt_spindleFor_9 rfl (lv_at hl 0 rfl) ?_
  refine dq_get (D := D) (ci := 3) (v := .ref (ad 7)) (C := RPt) (T := TPt) (N := 7) hx hb hts hinPt hown hK hW 5 p5 rfl 1 (by decide) hf15 (fun _ h9 => h9) rfl dPt_spindleFor_10 ?_
  refine lv_iload_n hx hb dPt_spindleFor_13 rfl (lv_at hl 1 rfl) ?_
  refine dq_ialdN hx hb hK hW 7 0 p7 rfl i (by omega) (by omega) dPt_spindleFor_14 ?_
  refine lv_iload hx hb dPt_spindleFor_15 (lv_at hl 4 rfl) ?_
  refine lv_isub hx hb dPt_spindleFor_17 ?_
  refine lv_aload_n hx hb dPt_spindleFor_18 rfl (lv_at hl 0 rfl) ?_
  refine dq_get (D := D) (ci := 3) (v := .ref (ad 8)) (C := RPt) (T := TPt) (N := 7) hx hb hts hinPt hown hK hW 5 p5 rfl 2 (by decide) hf18 (fun _ h9 => h9) rfl dPt_spindleFor_19 ?_
  refine lv_iload_n hx hb dPt_spindleFor_22 rfl (lv_at hl 1 rfl) ?_
  refine dq_ialdN hx hb hK hW 8 0 p8 rfl i (by omega) (by omega) dPt_spindleFor_23 ?_
  refine dq_calli (va_runV (As := [.int ((px i) - a0), .int ((py i) - a1), .int (pw i)]) (rest := []) ⟨hx, hb, hml, hown, hts⟩ (c_Head_spindleAt l D g ad (w) _ n hx_ hy_ hw_ f0 f1 f2 f3 (px i - a0) (py i - a1) (pw i) h1 h2 h3 h4 hn) (cwV 3 hts (dq_giV tw2_39 tw2_40 tw2_41 tw1_2 tw2_42) rfl rfl rfl (by decide +kernel) ⟨Nat.le_of_ble_eq_true rfl, Nat.le_of_ble_eq_true rfl⟩) (dq_preV (ci := 1) hW hS hA hK hZ h1 rfl rfl) rfl rfl hl.1 rfl (lv_room (Nat.le_of_ble_eq_true rfl)) dPt_spindleFor_24 ⟨Nat.zero_le _, Nat.zero_le _⟩) hW hS hA (fun r1 u_9 H locs hp1 hW hS hz9 => ?_)
  obtain ⟨hr1, hu9⟩ := hp1
  rw [hu9] at hW
  exact hret _ _ _ _ _ _ ⟨hr1, rfl⟩ hW hS dPt_spindleFor_27
set_option maxHeartbeats 4000000 in
set_option maxRecDepth 100000 in
/-- Places.insert(x, y) -/
theorem c_Places_insert (l : Launch) (D : va_G) (g : Nat → ClassId) (ad : Nat → Nat) (w : Nat → Option va_E) (sz : Nat) (h q : Nat) (X Y Dr : Nat → Int32) (a0 a1 : Int32) (l0 : w (30 + 4 * h) = some (.inr (4, [.ref (ad (31 + 4 * h)), .ref (ad (32 + 4 * h)), .ref (ad (33 + 4 * h)), .int (nI q)]))) (l1 : w (31 + 4 * h) = some (.inl (g 0, 16, .inl X))) (l2 : w (32 + 4 * h) = some (.inl (g 0, 16, .inl Y))) (hq : q ≤ 16) : Met l yPl_insert wsPl_insert ({ frames := 0, cells := 0, slots := 0, locals := 0 } : Room) (va_Pc [.ref (ad (30 + 4 * h)), .int a0, .int a1] (dq_S D vwCl (dq_t g) ad w sz)) (va_Qv (fun u => u = dq_U (dq_U (dq_U w (31 + 4 * h) (.inl (g 0, 16, .inl ((mp_ins (q, X, Y) a0 a1).2.1)))) (32 + 4 * h) (.inl (g 0, 16, .inl ((mp_ins (q, X, Y) a0 a1).2.2)))) (30 + 4 * h) (.inr (4, [.ref (ad (31 + 4 * h)), .ref (ad (32 + 4 * h)), .ref (ad (33 + 4 * h)), .int (nI (mp_ins (q, X, Y) a0 a1).1)]))) (dq_B D vwCl (dq_t g) ad (dq_A ad w sz)) (dq_A ad w sz)) 0 0 (dq_A ad w sz) := by
  refine dq_ofv (cc := cPl_insert) (maxL := 6) (by decide) rfl (Nat.le_of_ble_eq_true rfl) ?_
  intro p e s m below meth c A Q ls ⟨hx, hb, hml, hown, hts⟩ hnm hA hW hK hZ hl hret
  have hS : va_S A s.heap s.heap [] := va_S.rf
  have hl : lv_has ls 6 [(0, .ref (ad (30 + 4 * h))), (1, .int a0), (2, .int a1)] := hl
  have hf9 := hts _ (List.mem_cons_of_mem _ tw1_137)
  have hf15 := hts _ (List.mem_cons_of_mem _ tw1_139)
  have hf21 := hts _ (List.mem_cons_of_mem _ tw1_144)
  have hinPl : ∀ w ∈ u_ws RPl TPl 4, w ∈ wsPl_insert := fun w h => List.mem_cons_of_mem _ (inPl w h)
  have hid : w = dq_U (dq_U (dq_U w (31 + 4 * h) (.inl (g 0, 16, .inl X))) (32 + 4 * h) (.inl (g 0, 16, .inl Y))) (30 + 4 * h) (.inr (4, [.ref (ad (31 + 4 * h)), .ref (ad (32 + 4 * h)), .ref (ad (33 + 4 * h)), .int (nI q)])) := by rw [dq_Uid l1, dq_Uid l2, dq_Uid l0]
  have j96 : ∀ (t : Nat) (v : Int32) (ls : Array Slot), mp_at q X Y a0 a1 = t → t ≤ q → ¬ ((t < q ∧ X t = a0 ∧ Y t = a1) ∨ 16 ≤ q) → q < 16 → lv_has ls 6 [(0, .ref (ad (30 + 4 * h))), (1, .int a0), (2, .int a1), (3, .int (nI t)), (4, .int v)] → W p l e ({ frames := 0, cells := 0, slots := 0, locals := 0 } : Room) s m ([.ref (ad (30 + 4 * h)), .int a0, .int a1] : List Value).toArray below meth c s.heap [] 0 0 Q (F0 m 96 ls []) := by
    intro t v ls ht htq hno hq2  hl
    have hl : lv_has ls 6 [(0, .ref (ad (30 + 4 * h))), (1, .int a0), (2, .int a1), (3, .int (nI t))] := (lv_sub hl [0, 1, 2, 3] rfl)
    refine lv_aload_n hx hb dPl_insert_96 rfl (lv_at hl 0 rfl) ?_
    refine dq_get (D := D) (ci := 4) (v := .int (nI q)) (C := RPl) (T := TPl) (N := 4) hx hb hts hinPl hown hK hW (30 + 4 * h) l0 rfl 3 (by decide) hf21 (fun _ h9 => h9) rfl dPl_insert_97 ?_
    refine lv_istore (lv' := [(5, .int (nI q)), (0, .ref (ad (30 + 4 * h))), (1, .int a0), (2, .int a1), (3, .int (nI t))]) hx hb dPl_insert_100 hl (by decide) rfl (fun ls hl => ?_)
    have hW : dq_W D vwCl ad (dq_U (dq_U w (31 + 4 * h) (.inl (g 0, 16, .inl (mp_s X q q)))) (32 + 4 * h) (.inl (g 0, 16, .inl (mp_s Y q q)))) A s.heap := dq_Wc (by rw [mp_s_0, mp_s_0, dq_Uid l1, dq_Uid l2]) hW
    have loop2 : ∀ (j : Nat) (b : Nat) (H : Heap) (locs : List Loc) (ls : Array Slot), b < t + j → t ≤ b → b ≤ q → dq_W D vwCl ad (dq_U (dq_U w (31 + 4 * h) (.inl (g 0, 16, .inl (mp_s X b q)))) (32 + 4 * h) (.inl (g 0, 16, .inl (mp_s Y b q)))) A H → va_S A s.heap H locs → lv_has ls 6 [(0, .ref (ad (30 + 4 * h))), (1, .int a0), (2, .int a1), (3, .int (nI t)), (5, .int (nI b))] → W p l e ({ frames := 0, cells := 0, slots := 0, locals := 0 } : Room) s m ([.ref (ad (30 + 4 * h)), .int a0, .int a1] : List Value).toArray below meth c H locs 0 0 Q (F0 m 102 ls []) := by
      intro j
      induction j with
      | zero => intro b H locs ls hj hb1 hb2 hW hS hl; exact absurd hj (by omega)
      | succ j ih =>
        intro b H locs ls hj hb1 hb2 hW hS hl
        refine lv_iload hx hb dPl_insert_102 (lv_at hl 4 rfl) ?_
        refine lv_iload_n hx hb dPl_insert_104 rfl (lv_at hl 3 rfl) ?_
        refine lv_icmp_le (tgt := 146) hx hb dPl_insert_105 (by decide) (fun c7 => ?_) (fun c7 => ?_)
        · have hbt : t = b := by have q9 := (nI_leI (by omega) (by omega)).mp c7; omega
          subst hbt
          refine lv_aload_n hx hb dPl_insert_146 rfl (lv_at hl 0 rfl) ?_
          refine dq_get (D := D) (ci := 4) (v := .ref (ad (31 + 4 * h))) (C := RPl) (T := TPl) (N := 4) hx hb hts hinPl hown hK hW (30 + 4 * h) ((dq_Un (by omega)).trans ((dq_Un (by omega)).trans l0)) rfl 0 (by decide) hf9 (fun _ h9 => h9) rfl dPl_insert_147 ?_
          refine lv_iload_n hx hb dPl_insert_150 rfl (lv_at hl 3 rfl) ?_
          refine lv_iload_n hx hb dPl_insert_151 rfl (lv_at hl 1 rfl) ?_
          refine dq_iastN hx hb hK hW hS (31 + 4 * h) 0 ((dq_Un (by omega)).trans dq_Us) rfl t (by omega) (by omega) dPl_insert_152 (fun H locs hW hS => ?_)
          have hW : dq_W D vwCl ad (dq_U (dq_U w (31 + 4 * h) (.inl (g 0, 16, .inl (upd (mp_s X t q) t a0)))) (32 + 4 * h) (.inl (g 0, 16, .inl (mp_s Y t q)))) A H := dq_Wc (by funext j; unfold dq_U; (repeat' split) <;> first | rfl | omega) hW
          refine lv_aload_n hx hb dPl_insert_153 rfl (lv_at hl 0 rfl) ?_
          refine dq_get (D := D) (ci := 4) (v := .ref (ad (32 + 4 * h))) (C := RPl) (T := TPl) (N := 4) hx hb hts hinPl hown hK hW (30 + 4 * h) ((dq_Un (by omega)).trans ((dq_Un (by omega)).trans l0)) rfl 1 (by decide) hf15 (fun _ h9 => h9) rfl dPl_insert_154 ?_
          refine lv_iload_n hx hb dPl_insert_157 rfl (lv_at hl 3 rfl) ?_
          refine lv_iload_n hx hb dPl_insert_158 rfl (lv_at hl 2 rfl) ?_
          refine dq_iastN hx hb hK hW hS (32 + 4 * h) 0 dq_Us rfl t (by omega) (by omega) dPl_insert_159 (fun H locs hW hS => ?_)
          rw [dq_UU] at hW
          refine lv_aload_n hx hb dPl_insert_160 rfl (lv_at hl 0 rfl) ?_
          refine lv_dup hx hb dPl_insert_161 rfl ?_
          refine dq_get (D := D) (ci := 4) (v := .int (nI q)) (C := RPl) (T := TPl) (N := 4) hx hb hts hinPl hown hK hW (30 + 4 * h) ((dq_Un (by omega)).trans ((dq_Un (by omega)).trans l0)) rfl 3 (by decide) hf21 (fun _ h9 => h9) rfl dPl_insert_162 ?_
          refine lv_iconst (v := (1)) hx hb dPl_insert_165 (by decide) ?_
          refine lv_iadd hx hb dPl_insert_166 ?_
          refine dq_top (y := nI (q + 1)) (nI_1 q) ?_
          refine dq_put (D := D) (ci := 4) (v := .int (nI (q + 1))) (ty := .int) (C := RPl) (T := TPl) (N := 4) hx hb hts hinPl tyPl tyPl_ok nmPl hown hK hW hS (30 + 4 * h) ((dq_Un (by omega)).trans ((dq_Un (by omega)).trans l0)) rfl 3 (by decide) hf21 (fun _ h9 => h9) rfl (by decide +kernel) rfl rfl (Nat.le_of_ble_eq_true rfl) dPl_insert_167 (fun H locs hW hS => ?_)
          have e7 : mp_ins (q, X, Y) a0 a1 = (q + 1, upd (mp_s X t q) t a0, upd (mp_s Y t q) t a1) := by rw [mp_sh_s, mp_sh_s]; unfold mp_ins; rw [ht]; exact if_neg hno
          exact hret _ _ _ _ _ (by rw [e7]; rfl) hW hS dPl_insert_170
        · have hbt : t < b := by rcases Nat.lt_or_ge t b with q9 | q9; exact q9; exact absurd (nI_le q9 (by omega)) c7
          obtain ⟨b, rfl⟩ : ∃ b9, b = b9 + 1 := ⟨b - 1, by omega⟩
          refine lv_aload_n hx hb dPl_insert_108 rfl (lv_at hl 0 rfl) ?_
          refine dq_get (D := D) (ci := 4) (v := .ref (ad (31 + 4 * h))) (C := RPl) (T := TPl) (N := 4) hx hb hts hinPl hown hK hW (30 + 4 * h) ((dq_Un (by omega)).trans ((dq_Un (by omega)).trans l0)) rfl 0 (by decide) hf9 (fun _ h9 => h9) rfl dPl_insert_109 ?_
          refine lv_iload hx hb dPl_insert_112 (lv_at hl 4 rfl) ?_
          refine lv_aload_n hx hb dPl_insert_114 rfl (lv_at hl 0 rfl) ?_
          refine dq_get (D := D) (ci := 4) (v := .ref (ad (31 + 4 * h))) (C := RPl) (T := TPl) (N := 4) hx hb hts hinPl hown hK hW (30 + 4 * h) ((dq_Un (by omega)).trans ((dq_Un (by omega)).trans l0)) rfl 0 (by decide) hf9 (fun _ h9 => h9) rfl dPl_insert_115 ?_
          refine lv_iload hx hb dPl_insert_118 (lv_at hl 4 rfl) ?_
          refine lv_iconst (v := (1)) hx hb dPl_insert_120 (by decide) ?_
          refine lv_isub hx hb dPl_insert_121 ?_
          refine dq_top (y := nI b) (nI_pred b) ?_
          refine dq_ialdN hx hb hK hW (31 + 4 * h) 0 ((dq_Un (by omega)).trans dq_Us) rfl b (by omega) (by omega) dPl_insert_122 ?_
          refine dq_iastN hx hb hK hW hS (31 + 4 * h) 0 ((dq_Un (by omega)).trans dq_Us) rfl (b + 1) (by omega) (by omega) dPl_insert_123 (fun H locs hW hS => ?_)
          have hW : dq_W D vwCl ad (dq_U (dq_U w (31 + 4 * h) (.inl (g 0, 16, .inl (upd (mp_s X (b + 1) q) (b + 1) ((mp_s X (b + 1) q) b))))) (32 + 4 * h) (.inl (g 0, 16, .inl (mp_s Y (b + 1) q)))) A H := dq_Wc (by funext j; unfold dq_U; (repeat' split) <;> first | rfl | omega) hW
          refine lv_aload_n hx hb dPl_insert_124 rfl (lv_at hl 0 rfl) ?_
          refine dq_get (D := D) (ci := 4) (v := .ref (ad (32 + 4 * h))) (C := RPl) (T := TPl) (N := 4) hx hb hts hinPl hown hK hW (30 + 4 * h) ((dq_Un (by omega)).trans ((dq_Un (by omega)).trans l0)) rfl 1 (by decide) hf15 (fun _ h9 => h9) rfl dPl_insert_125 ?_
          refine lv_iload hx hb dPl_insert_128 (lv_at hl 4 rfl) ?_
          refine lv_aload_n hx hb dPl_insert_130 rfl (lv_at hl 0 rfl) ?_
          refine dq_get (D := D) (ci := 4) (v := .ref (ad (32 + 4 * h))) (C := RPl) (T := TPl) (N := 4) hx hb hts hinPl hown hK hW (30 + 4 * h) ((dq_Un (by omega)).trans ((dq_Un (by omega)).trans l0)) rfl 1 (by decide) hf15 (fun _ h9 => h9) rfl dPl_insert_131 ?_
          refine lv_iload hx hb dPl_insert_134 (lv_at hl 4 rfl) ?_
          refine lv_iconst (v := (1)) hx hb dPl_insert_136 (by decide) ?_
          refine lv_isub hx hb dPl_insert_137 ?_
          refine dq_top (y := nI b) (nI_pred b) ?_
          refine dq_ialdN hx hb hK hW (32 + 4 * h) 0 dq_Us rfl b (by omega) (by omega) dPl_insert_138 ?_
          refine dq_iastN hx hb hK hW hS (32 + 4 * h) 0 dq_Us rfl (b + 1) (by omega) (by omega) dPl_insert_139 (fun H locs hW hS => ?_)
          rw [dq_UU] at hW
          refine lv_iinc (v := (nI b)) (lv' := [(5, .int (nI b)), (0, .ref (ad (30 + 4 * h))), (1, .int a0), (2, .int a1), (3, .int (nI t))]) hx hb dPl_insert_140 hl (k := 4) rfl (by show nI (b + 1) + (-1) = _; exact pk_m1 b) (by decide) rfl (fun ls hl => ?_)
          refine lv_goto (tgt := 102) hx hb dPl_insert_143 (by decide) ?_
          have e8 : ∀ Z : Nat → Int32, upd (mp_s Z (b + 1) q) (b + 1) (mp_s Z (b + 1) q b) = mp_s Z b q := fun Z => mp_s_step Z (by omega)
          rw [e8, e8] at hW
          exact ih b _ _ _ (by omega) (by omega) (by omega) hW hS (lv_sub hl [1, 2, 3, 4, 0] rfl)
    exact loop2 (q + 1) q _ _ _ (by omega) (by omega) (Nat.le_refl q) hW hS (lv_sub hl [1, 2, 3, 4, 0] rfl)
  have j95 : ∀ (t : Nat) (ls : Array Slot), mp_at q X Y a0 a1 = t → ((t < q ∧ X t = a0 ∧ Y t = a1) ∨ 16 ≤ q) → lv_has ls 6 [(0, .ref (ad (30 + 4 * h))), (1, .int a0), (2, .int a1), (3, .int (nI t))] → W p l e ({ frames := 0, cells := 0, slots := 0, locals := 0 } : Room) s m ([.ref (ad (30 + 4 * h)), .int a0, .int a1] : List Value).toArray below meth c s.heap [] 0 0 Q (F0 m 95 ls []) := by
    intro t ls ht hye  hl
    have e7 : mp_ins (q, X, Y) a0 a1 = (q, X, Y) := by unfold mp_ins; rw [ht]; exact if_pos hye
    exact hret _ _ _ _ _ (by rw [e7]; exact hid) hW hS dPl_insert_95
  have j81 : ∀ (t : Nat) (v : Int32) (ls : Array Slot), mp_at q X Y a0 a1 = t → t ≤ q → (v = 1 ∧ (t < q ∧ X t = a0 ∧ Y t = a1) ∨ v = 0 ∧ ¬ (t < q ∧ X t = a0 ∧ Y t = a1)) → lv_has ls 6 [(0, .ref (ad (30 + 4 * h))), (1, .int a0), (2, .int a1), (3, .int (nI t)), (4, .int v)] → W p l e ({ frames := 0, cells := 0, slots := 0, locals := 0 } : Room) s m ([.ref (ad (30 + 4 * h)), .int a0, .int a1] : List Value).toArray below meth c s.heap [] 0 0 Q (F0 m 81 ls []) := by
    intro t v ls ht htq hv  hl
    refine lv_iload hx hb dPl_insert_81 (lv_at hl 4 rfl) ?_
    refine lv_if_ne (tgt := 95) hx hb dPl_insert_83 (by decide) (fun c5 => ?_) (fun c5 => ?_)
    · exact j95 t _ ht (Or.inl (hv.resolve_right (fun h9 => c5 h9.1)).2)  (lv_sub hl [0, 1, 2, 3] rfl)
    · have hk9 : ¬ (t < q ∧ X t = a0 ∧ Y t = a1) := (hv.resolve_left (fun h9 => absurd (h9.1.symm.trans c5) (by decide))).2
      refine lv_aload_n hx hb dPl_insert_86 rfl (lv_at hl 0 rfl) ?_
      refine dq_get (D := D) (ci := 4) (v := .int (nI q)) (C := RPl) (T := TPl) (N := 4) hx hb hts hinPl hown hK hW (30 + 4 * h) l0 rfl 3 (by decide) hf21 (fun _ h9 => h9) rfl dPl_insert_87 ?_
      refine lv_bipush (v := (nI 16)) hx hb dPl_insert_90 (by decide) ?_
      refine lv_icmp_lt (tgt := 96) hx hb dPl_insert_92 (by decide) (fun c6 => ?_) (fun c6 => ?_)
      · have hq2 : q < 16 := (nI_ltI (by omega) (by omega)).mp c6
        exact j96 t v _ ht htq (fun h9 => h9.elim hk9 (by omega)) hq2  (lv_sub hl [0, 1, 2, 3, 4] rfl)
      · have hq2 : 16 ≤ q := by rcases Nat.lt_or_ge q 16 with q9 | q9; exact absurd (nI_lt q9 (by omega)) c6; exact q9
        exact j95 t _ ht (Or.inr hq2)  (lv_sub hl [0, 1, 2, 3] rfl)
  have j46 : ∀ (t : Nat) (ls : Array Slot), mp_at q X Y a0 a1 = t → t ≤ q → lv_has ls 6 [(0, .ref (ad (30 + 4 * h))), (1, .int a0), (2, .int a1), (3, .int (nI t))] → W p l e ({ frames := 0, cells := 0, slots := 0, locals := 0 } : Room) s m ([.ref (ad (30 + 4 * h)), .int a0, .int a1] : List Value).toArray below meth c s.heap [] 0 0 Q (F0 m 46 ls []) := by
    intro t ls ht htq  hl
    refine lv_iload_n hx hb dPl_insert_46 rfl (lv_at hl 3 rfl) ?_
    refine lv_aload_n hx hb dPl_insert_47 rfl (lv_at hl 0 rfl) ?_
    refine dq_get (D := D) (ci := 4) (v := .int (nI q)) (C := RPl) (T := TPl) (N := 4) hx hb hts hinPl hown hK hW (30 + 4 * h) l0 rfl 3 (by decide) hf21 (fun _ h9 => h9) rfl dPl_insert_48 ?_
    refine lv_icmp_ge (tgt := 78) hx hb dPl_insert_51 (by decide) (fun c1 => ?_) (fun c1 => ?_)
    · have htl : q ≤ t := (nI_leI (by omega) (by omega)).mp c1
      refine lv_iconst (v := (0)) hx hb dPl_insert_78 (by decide) ?_
      refine lv_istore (lv' := [(4, .int (0)), (0, .ref (ad (30 + 4 * h))), (1, .int a0), (2, .int a1), (3, .int (nI t))]) hx hb dPl_insert_79 hl (by decide) rfl (fun ls hl => ?_)
      exact j81 t 0 _ ht htq (Or.inr ⟨rfl, fun h9 => absurd h9.1 (by omega)⟩)  (lv_sub hl [1, 2, 3, 4, 0] rfl)
    · have htl : t < q := by rcases Nat.lt_or_ge t q with q9 | q9; exact q9; exact absurd (nI_le q9 (by omega)) c1
      refine lv_aload_n hx hb dPl_insert_54 rfl (lv_at hl 0 rfl) ?_
      refine dq_get (D := D) (ci := 4) (v := .ref (ad (31 + 4 * h))) (C := RPl) (T := TPl) (N := 4) hx hb hts hinPl hown hK hW (30 + 4 * h) l0 rfl 0 (by decide) hf9 (fun _ h9 => h9) rfl dPl_insert_55 ?_
      refine lv_iload_n hx hb dPl_insert_58 rfl (lv_at hl 3 rfl) ?_
      refine dq_ialdN hx hb hK hW (31 + 4 * h) 0 l1 rfl t (by omega) (by omega) dPl_insert_59 ?_
      refine lv_iload_n hx hb dPl_insert_60 rfl (lv_at hl 1 rfl) ?_
      refine lv_icmp_ne (tgt := 78) hx hb dPl_insert_61 (by decide) (fun c2 => ?_) (fun c2 => ?_)
      · refine lv_iconst (v := (0)) hx hb dPl_insert_78 (by decide) ?_
        refine lv_istore (lv' := [(4, .int (0)), (0, .ref (ad (30 + 4 * h))), (1, .int a0), (2, .int a1), (3, .int (nI t))]) hx hb dPl_insert_79 hl (by decide) rfl (fun ls hl => ?_)
        exact j81 t 0 _ ht htq (Or.inr ⟨rfl, fun h9 => c2 h9.2.1⟩)  (lv_sub hl [1, 2, 3, 4, 0] rfl)
      · refine lv_aload_n hx hb dPl_insert_64 rfl (lv_at hl 0 rfl) ?_
        refine dq_get (D := D) (ci := 4) (v := .ref (ad (32 + 4 * h))) (C := RPl) (T := TPl) (N := 4) hx hb hts hinPl hown hK hW (30 + 4 * h) l0 rfl 1 (by decide) hf15 (fun _ h9 => h9) rfl dPl_insert_65 ?_
        refine lv_iload_n hx hb dPl_insert_68 rfl (lv_at hl 3 rfl) ?_
        refine dq_ialdN hx hb hK hW (32 + 4 * h) 0 l2 rfl t (by omega) (by omega) dPl_insert_69 ?_
        refine lv_iload_n hx hb dPl_insert_70 rfl (lv_at hl 2 rfl) ?_
        refine lv_icmp_ne (tgt := 78) hx hb dPl_insert_71 (by decide) (fun c3 => ?_) (fun c3 => ?_)
        · refine lv_iconst (v := (0)) hx hb dPl_insert_78 (by decide) ?_
          refine lv_istore (lv' := [(4, .int (0)), (0, .ref (ad (30 + 4 * h))), (1, .int a0), (2, .int a1), (3, .int (nI t))]) hx hb dPl_insert_79 hl (by decide) rfl (fun ls hl => ?_)
          exact j81 t 0 _ ht htq (Or.inr ⟨rfl, fun h9 => c3 h9.2.2⟩)  (lv_sub hl [1, 2, 3, 4, 0] rfl)
        · refine lv_iconst (v := (1)) hx hb dPl_insert_74 (by decide) ?_
          refine lv_goto (tgt := 79) hx hb dPl_insert_75 (by decide) ?_
          refine lv_istore (lv' := [(4, .int (1)), (0, .ref (ad (30 + 4 * h))), (1, .int a0), (2, .int a1), (3, .int (nI t))]) hx hb dPl_insert_79 hl (by decide) rfl (fun ls hl => ?_)
          exact j81 t 1 _ ht htq (Or.inl ⟨rfl, htl, c2, c3⟩)  (lv_sub hl [1, 2, 3, 4, 0] rfl)
  refine lv_iconst (v := (nI 0)) hx hb dPl_insert_0 (by decide) ?_
  refine lv_istore_n (lv' := [(3, .int (nI 0)), (0, .ref (ad (30 + 4 * h))), (1, .int a0), (2, .int a1)]) hx hb dPl_insert_1 rfl hl (by decide) rfl (fun ls hl => ?_)
  have loop : ∀ (j : Nat) (k : Nat) (ls : Array Slot), q < k + j → k ≤ q → (∀ i, i < k → (!(mp_lt X Y a0 a1 i)) = false) → lv_has ls 6 [(0, .ref (ad (30 + 4 * h))), (1, .int a0), (2, .int a1), (3, .int (nI k))] → W p l e ({ frames := 0, cells := 0, slots := 0, locals := 0 } : Room) s m ([.ref (ad (30 + 4 * h)), .int a0, .int a1] : List Value).toArray below meth c s.heap [] 0 0 Q (F0 m 2 ls []) := by
    intro j
    induction j with
    | zero => intro k ls hj hk hb9  hl; exact absurd hj (by omega)
    | succ j ih =>
      intro k ls hj hk hb9  hl
      refine lv_iload_n hx hb dPl_insert_2 rfl (lv_at hl 3 rfl) ?_
      refine lv_aload_n hx hb dPl_insert_3 rfl (lv_at hl 0 rfl) ?_
      refine dq_get (D := D) (ci := 4) (v := .int (nI q)) (C := RPl) (T := TPl) (N := 4) hx hb hts hinPl hown hK hW (30 + 4 * h) l0 rfl 3 (by decide) hf21 (fun _ h9 => h9) rfl dPl_insert_4 ?_
      refine lv_icmp_ge (tgt := 46) hx hb dPl_insert_7 (by decide) (fun c1 => ?_) (fun c1 => ?_)
      · have hkn : k = q := by have q := (nI_leI (by omega) (by omega)).mp c1; omega
        exact j46 k _ (dq_fn_eq hk hb9 (fun h9 => absurd h9 (by omega))) hk  (lv_sub hl [0, 1, 2, 3] rfl)
      · have hkn : k < q := by rcases Nat.lt_or_ge k q with q | q; exact q; exact absurd (nI_le q (by omega)) c1
        refine lv_aload_n hx hb dPl_insert_10 rfl (lv_at hl 0 rfl) ?_
        refine dq_get (D := D) (ci := 4) (v := .ref (ad (31 + 4 * h))) (C := RPl) (T := TPl) (N := 4) hx hb hts hinPl hown hK hW (30 + 4 * h) l0 rfl 0 (by decide) hf9 (fun _ h9 => h9) rfl dPl_insert_11 ?_
        refine lv_iload_n hx hb dPl_insert_14 rfl (lv_at hl 3 rfl) ?_
        refine dq_ialdN hx hb hK hW (31 + 4 * h) 0 l1 rfl k (by omega) (by omega) dPl_insert_15 ?_
        refine lv_iload_n hx hb dPl_insert_16 rfl (lv_at hl 1 rfl) ?_
        refine lv_icmp_lt (tgt := 40) hx hb dPl_insert_17 (by decide) (fun c2 => ?_) (fun c2 => ?_)
        · have e1 : (!(mp_lt X Y a0 a1 k)) = false := by unfold mp_lt; simp [c2]
          refine lv_iinc (v := (nI (k + 1))) (lv' := [(3, .int (nI (k + 1))), (0, .ref (ad (30 + 4 * h))), (1, .int a0), (2, .int a1)]) hx hb dPl_insert_40 hl (k := 3) rfl (by show nI k + 1 = _; exact nI_1 _) (by decide) rfl (fun ls hl => ?_)
          refine lv_goto (tgt := 2) hx hb dPl_insert_43 (by decide) ?_
          exact ih (k + 1) _ (by omega) (by omega) (lt_s hb9 e1)  (lv_sub hl [1, 2, 3, 0] rfl)
        · refine lv_aload_n hx hb dPl_insert_20 rfl (lv_at hl 0 rfl) ?_
          refine dq_get (D := D) (ci := 4) (v := .ref (ad (31 + 4 * h))) (C := RPl) (T := TPl) (N := 4) hx hb hts hinPl hown hK hW (30 + 4 * h) l0 rfl 0 (by decide) hf9 (fun _ h9 => h9) rfl dPl_insert_21 ?_
          refine lv_iload_n hx hb dPl_insert_24 rfl (lv_at hl 3 rfl) ?_
          refine dq_ialdN hx hb hK hW (31 + 4 * h) 0 l1 rfl k (by omega) (by omega) dPl_insert_25 ?_
          refine lv_iload_n hx hb dPl_insert_26 rfl (lv_at hl 1 rfl) ?_
          refine lv_icmp_ne (tgt := 46) hx hb dPl_insert_27 (by decide) (fun c3 => ?_) (fun c3 => ?_)
          · have e1 : (!(mp_lt X Y a0 a1 k)) = true := by unfold mp_lt; simp [c2, c3]
            exact j46 k _ (dq_fn_eq hk hb9 (fun _ => e1)) hk  (lv_sub hl [0, 1, 2, 3] rfl)
          · refine lv_aload_n hx hb dPl_insert_30 rfl (lv_at hl 0 rfl) ?_
            refine dq_get (D := D) (ci := 4) (v := .ref (ad (32 + 4 * h))) (C := RPl) (T := TPl) (N := 4) hx hb hts hinPl hown hK hW (30 + 4 * h) l0 rfl 1 (by decide) hf15 (fun _ h9 => h9) rfl dPl_insert_31 ?_
            refine lv_iload_n hx hb dPl_insert_34 rfl (lv_at hl 3 rfl) ?_
            refine dq_ialdN hx hb hK hW (32 + 4 * h) 0 l2 rfl k (by omega) (by omega) dPl_insert_35 ?_
            refine lv_iload_n hx hb dPl_insert_36 rfl (lv_at hl 2 rfl) ?_
            refine lv_icmp_ge (tgt := 46) hx hb dPl_insert_37 (by decide) (fun c4 => ?_) (fun c4 => ?_)
            · have e1 : (!(mp_lt X Y a0 a1 k)) = true := by unfold mp_lt; simp [c2, c3, Int32.not_lt.mpr c4]
              exact j46 k _ (dq_fn_eq hk hb9 (fun _ => e1)) hk  (lv_sub hl [0, 1, 2, 3] rfl)
            · have e1 : (!(mp_lt X Y a0 a1 k)) = false := by unfold mp_lt; simp [c3, Int32.not_le.mp c4]
              refine lv_iinc (v := (nI (k + 1))) (lv' := [(3, .int (nI (k + 1))), (0, .ref (ad (30 + 4 * h))), (1, .int a0), (2, .int a1)]) hx hb dPl_insert_40 hl (k := 3) rfl (by show nI k + 1 = _; exact nI_1 _) (by decide) rfl (fun ls hl => ?_)
              refine lv_goto (tgt := 2) hx hb dPl_insert_43 (by decide) ?_
              exact ih (k + 1) _ (by omega) (by omega) (lt_s hb9 e1)  (lv_sub hl [1, 2, 3, 0] rfl)
  exact loop (q + 1) 0 _ (by omega) (Nat.zero_le _) lt_0  (lv_sub hl [1, 2, 3, 0] rfl)
set_option maxHeartbeats 4000000 in
set_option maxRecDepth 100000 in
/-- Places.find(hole, part, head, clamps) -/
theorem c_Places_find (l : Launch) (D : va_G) (g : Nat → ClassId) (ad : Nat → Nat) (w : Nat → Option va_E) (sz : Nat) (n : Nat) (hx_ hy_ hw_ : Nat → Int32) (f0 f1 f2 f3 : Int32) (px py pw pd pf pt : Nat → Int32) (pc_ : Nat) (cx0 cy0 cx1 cy1 : Nat → Int32) (cc_ : Nat) (h q : Nat) (X Y Dr : Nat → Int32) (i : Nat) (h1 : w 1 = some (.inr (1, [.ref (ad 2), .ref (ad 3), .ref (ad 4), .int f0, .int f1, .int f2, .int f3]))) (h2 : w 2 = some (.inl (g 0, n, .inl hx_))) (h3 : w 3 = some (.inl (g 0, n, .inl hy_))) (h4 : w 4 = some (.inl (g 0, n, .inl hw_))) (p5 : w 5 = some (.inr (3, [.ref (ad 6), .ref (ad 7), .ref (ad 8), .ref (ad 9), .ref (ad 10), .ref (ad 11), .int (nI pc_)]))) (p6 : w 6 = some (.inl (g 0, 14, .inl px))) (p7 : w 7 = some (.inl (g 0, 14, .inl py))) (p8 : w 8 = some (.inl (g 0, 14, .inl pw))) (k12 : w 12 = some (.inr (0, [.ref (ad 13), .ref (ad 14), .ref (ad 15), .ref (ad 16), .int (nI cc_)]))) (k13 : w 13 = some (.inl (g 0, 6, .inl cx0))) (k14 : w 14 = some (.inl (g 0, 6, .inl cy0))) (k15 : w 15 = some (.inl (g 0, 6, .inl cx1))) (k16 : w 16 = some (.inl (g 0, 6, .inl cy1))) (l0 : w (30 + 4 * h) = some (.inr (4, [.ref (ad (31 + 4 * h)), .ref (ad (32 + 4 * h)), .ref (ad (33 + 4 * h)), .int (nI q)]))) (l1 : w (31 + 4 * h) = some (.inl (g 0, 16, .inl X))) (l2 : w (32 + 4 * h) = some (.inl (g 0, 16, .inl Y))) (hn : n ≤ 16) (hc : cc_ ≤ 6) (hi : i < 14) : Met l yPl_find wsPl_find ({ frames := 3, cells := 0, slots := 0, locals := 80 } : Room) (va_Pc [.ref (ad (30 + 4 * h)), .int (nI i), .ref (ad 5), .ref (ad 1), .ref (ad 12)] (dq_S D vwCl (dq_t g) ad w sz)) (va_Qv (fun u => u = dq_U (dq_U (dq_U w (31 + 4 * h) (.inl (g 0, 16, .inl ((mp_find hx_ hy_ hw_ (px i) (py i) (pw i) (mc_bar cx0 cy0 cx1 cy1 cc_ f0 f1 f2 f3) X Y n).2.1)))) (32 + 4 * h) (.inl (g 0, 16, .inl ((mp_find hx_ hy_ hw_ (px i) (py i) (pw i) (mc_bar cx0 cy0 cx1 cy1 cc_ f0 f1 f2 f3) X Y n).2.2)))) (30 + 4 * h) (.inr (4, [.ref (ad (31 + 4 * h)), .ref (ad (32 + 4 * h)), .ref (ad (33 + 4 * h)), .int (nI (mp_find hx_ hy_ hw_ (px i) (py i) (pw i) (mc_bar cx0 cy0 cx1 cy1 cc_ f0 f1 f2 f3) X Y n).1)]))) (dq_B D vwCl (dq_t g) ad (dq_A ad w sz)) (dq_A ad w sz)) 0 0 (dq_A ad w sz) := by
  refine dq_ofv (cc := cPl_find) (maxL := 8) (by decide) rfl (Nat.le_of_ble_eq_true rfl) ?_
  intro p e s m below meth c A Q ls ⟨hx, hb, hml, hown, hts⟩ hnm hA hW hK hZ hl hret
  have hS : va_S A s.heap s.heap [] := va_S.rf
  have hl : lv_has ls 8 [(0, .ref (ad (30 + 4 * h))), (1, .int (nI i)), (2, .ref (ad 5)), (3, .ref (ad 1)), (4, .ref (ad 12))] := hl
  have hf21 := hts _ (List.mem_cons_of_mem _ tw1_144)
  have hf25 := hts _ (List.mem_cons_of_mem _ tw1_44)
  have hf30 := hts _ (List.mem_cons_of_mem _ tw1_82)
  have hf33 := hts _ (List.mem_cons_of_mem _ tw1_76)
  have hf34 := hts _ (List.mem_cons_of_mem _ tw1_39)
  have hf35 := hts _ (List.mem_cons_of_mem _ tw1_79)
  have hf36 := hts _ (List.mem_cons_of_mem _ tw1_41)
  have hinHd : ∀ w ∈ u_ws RHd THd 7, w ∈ wsPl_find := fun w h => List.mem_cons_of_mem _ (inHd w h)
  have hinPt : ∀ w ∈ u_ws RPt TPt 7, w ∈ wsPl_find := fun w h => List.mem_cons_of_mem _ (inPt w h)
  have hinPl : ∀ w ∈ u_ws RPl TPl 4, w ∈ wsPl_find := fun w h => List.mem_cons_of_mem _ (inPl w h)
  refine lv_aload_n hx hb dPl_find_0 rfl (lv_at hl 0 rfl) ?_
  refine lv_iconst (v := (nI 0)) hx hb dPl_find_1 (by decide) ?_
  refine dq_put (D := D) (ci := 4) (v := .int (nI 0)) (ty := .int) (C := RPl) (T := TPl) (N := 4) hx hb hts hinPl tyPl tyPl_ok nmPl hown hK hW hS (30 + 4 * h) l0 rfl 3 (by decide) hf21 (fun _ h9 => h9) rfl (by decide +kernel) rfl rfl (Nat.le_of_ble_eq_true rfl) dPl_find_2 (fun H locs hW hS => ?_)
  refine lv_iconst (v := (nI 0)) hx hb dPl_find_5 (by decide) ?_
  refine lv_istore (lv' := [(5, .int (nI 0)), (0, .ref (ad (30 + 4 * h))), (1, .int (nI i)), (2, .ref (ad 5)), (3, .ref (ad 1)), (4, .ref (ad 12))]) hx hb dPl_find_6 hl (by decide) rfl (fun ls hl => ?_)
  have hW : dq_W D vwCl ad (dq_U (dq_U (dq_U w (31 + 4 * h) (.inl (g 0, 16, .inl ((mp_find hx_ hy_ hw_ (px i) (py i) (pw i) (mc_bar cx0 cy0 cx1 cy1 cc_ f0 f1 f2 f3) X Y 0).2.1)))) (32 + 4 * h) (.inl (g 0, 16, .inl ((mp_find hx_ hy_ hw_ (px i) (py i) (pw i) (mc_bar cx0 cy0 cx1 cy1 cc_ f0 f1 f2 f3) X Y 0).2.2)))) (30 + 4 * h) (.inr (4, [.ref (ad (31 + 4 * h)), .ref (ad (32 + 4 * h)), .ref (ad (33 + 4 * h)), .int (nI (mp_find hx_ hy_ hw_ (px i) (py i) (pw i) (mc_bar cx0 cy0 cx1 cy1 cc_ f0 f1 f2 f3) X Y 0).1)]))) A H := dq_Wc (by show _ = dq_U (dq_U (dq_U w (31 + 4 * h) (.inl (g 0, 16, .inl X))) (32 + 4 * h) (.inl (g 0, 16, .inl Y))) (30 + 4 * h) _; rw [dq_Uid l1, dq_Uid l2]; rfl) hW
  have loop : ∀ (j : Nat) (k : Nat) (H : Heap) (locs : List Loc) (ls : Array Slot), n < k + j → k ≤ n → dq_W D vwCl ad (dq_U (dq_U (dq_U w (31 + 4 * h) (.inl (g 0, 16, .inl ((mp_find hx_ hy_ hw_ (px i) (py i) (pw i) (mc_bar cx0 cy0 cx1 cy1 cc_ f0 f1 f2 f3) X Y k).2.1)))) (32 + 4 * h) (.inl (g 0, 16, .inl ((mp_find hx_ hy_ hw_ (px i) (py i) (pw i) (mc_bar cx0 cy0 cx1 cy1 cc_ f0 f1 f2 f3) X Y k).2.2)))) (30 + 4 * h) (.inr (4, [.ref (ad (31 + 4 * h)), .ref (ad (32 + 4 * h)), .ref (ad (33 + 4 * h)), .int (nI (mp_find hx_ hy_ hw_ (px i) (py i) (pw i) (mc_bar cx0 cy0 cx1 cy1 cc_ f0 f1 f2 f3) X Y k).1)]))) A H → va_S A s.heap H locs → lv_has ls 8 [(0, .ref (ad (30 + 4 * h))), (1, .int (nI i)), (2, .ref (ad 5)), (3, .ref (ad 1)), (4, .ref (ad 12)), (5, .int (nI k))] → W p l e ({ frames := 3, cells := 0, slots := 0, locals := 80 } : Room) s m ([.ref (ad (30 + 4 * h)), .int (nI i), .ref (ad 5), .ref (ad 1), .ref (ad 12)] : List Value).toArray below meth c H locs 0 0 Q (F0 m 8 ls []) := by
    intro j
    induction j with
    | zero => intro k H locs ls hj hk hW hS hl; exact absurd hj (by omega)
    | succ j ih =>
      intro k H locs ls hj hk hW hS hl
      refine lv_iload hx hb dPl_find_8 (lv_at hl 5 rfl) ?_
      refine lv_aload_n hx hb dPl_find_10 rfl (lv_at hl 3 rfl) ?_
      refine dq_get (D := D) (ci := 1) (v := .ref (ad 4)) (C := RHd) (T := THd) (N := 7) hx hb hts hinHd hown hK hW 1 ((dq_Un (by omega)).trans ((dq_Un (by omega)).trans ((dq_Un (by omega)).trans h1))) rfl 2 (by decide) hf25 (fun _ h9 => h9) rfl dPl_find_11 ?_
      refine dq_alen hx hb hK hW 4 0 ((dq_Un (by omega)).trans ((dq_Un (by omega)).trans ((dq_Un (by omega)).trans h4))) rfl (v := nI n) rfl dPl_find_14 ?_
      refine lv_icmp_ge (tgt := 93) hx hb dPl_find_15 (by decide) (fun c1 => ?_) (fun c1 => ?_)
      · have hkn : n = k := by have q9 := (nI_leI (by omega) (by omega)).mp c1; omega
        subst hkn
        exact hret _ _ _ _ _ rfl hW hS dPl_find_93
      · have hkn : k < n := by rcases Nat.lt_or_ge k n with q | q; exact q; exact absurd (nI_le q (by omega)) c1
        refine lv_aload_n hx hb dPl_find_18 rfl (lv_at hl 3 rfl) ?_
        refine dq_get (D := D) (ci := 1) (v := .ref (ad 4)) (C := RHd) (T := THd) (N := 7) hx hb hts hinHd hown hK hW 1 ((dq_Un (by omega)).trans ((dq_Un (by omega)).trans ((dq_Un (by omega)).trans h1))) rfl 2 (by decide) hf25 (fun _ h9 => h9) rfl dPl_find_19 ?_
        refine lv_iload hx hb dPl_find_22 (lv_at hl 5 rfl) ?_
        refine dq_ialdN hx hb hK hW 4 0 ((dq_Un (by omega)).trans ((dq_Un (by omega)).trans ((dq_Un (by omega)).trans h4))) rfl k (by omega) (by omega) dPl_find_24 ?_
        refine lv_aload_n hx hb dPl_find_25 rfl (lv_at hl 2 rfl) ?_
        refine dq_get (D := D) (ci := 3) (v := .ref (ad 8)) (C := RPt) (T := TPt) (N := 7) hx hb hts hinPt hown hK hW 5 ((dq_Un (by omega)).trans ((dq_Un (by omega)).trans ((dq_Un (by omega)).trans p5))) rfl 2 (by decide) hf30 (fun _ h9 => h9) rfl dPl_find_26 ?_
        refine lv_iload_n hx hb dPl_find_29 rfl (lv_at hl 1 rfl) ?_
        refine dq_ialdN hx hb hK hW 8 0 ((dq_Un (by omega)).trans ((dq_Un (by omega)).trans ((dq_Un (by omega)).trans p8))) rfl i (by omega) (by omega) dPl_find_30 ?_
        refine lv_icmp_ne (tgt := 87) hx hb dPl_find_31 (by decide) (fun c2 => ?_) (fun c2 => ?_)
        · have e5 : (mp_find hx_ hy_ hw_ (px i) (py i) (pw i) (mc_bar cx0 cy0 cx1 cy1 cc_ f0 f1 f2 f3) X Y (k + 1)) = (mp_find hx_ hy_ hw_ (px i) (py i) (pw i) (mc_bar cx0 cy0 cx1 cy1 cc_ f0 f1 f2 f3) X Y k) := if_neg c2
          refine lv_iinc (v := (nI (k + 1))) (lv' := [(5, .int (nI (k + 1))), (0, .ref (ad (30 + 4 * h))), (1, .int (nI i)), (2, .ref (ad 5)), (3, .ref (ad 1)), (4, .ref (ad 12))]) hx hb dPl_find_87 hl (k := 5) rfl (by show nI k + 1 = _; exact nI_1 _) (by decide) rfl (fun ls hl => ?_)
          refine lv_goto (tgt := 8) hx hb dPl_find_90 (by decide) ?_
          exact ih (k + 1) _ _ _ (by omega) (by omega) (by rw [e5]; exact hW) hS (lv_sub hl [1, 2, 3, 4, 5, 0] rfl)
        · refine lv_aload_n hx hb dPl_find_34 rfl (lv_at hl 2 rfl) ?_
          refine dq_get (D := D) (ci := 3) (v := .ref (ad 6)) (C := RPt) (T := TPt) (N := 7) hx hb hts hinPt hown hK hW 5 ((dq_Un (by omega)).trans ((dq_Un (by omega)).trans ((dq_Un (by omega)).trans p5))) rfl 0 (by decide) hf33 (fun _ h9 => h9) rfl dPl_find_35 ?_
          refine lv_iload_n hx hb dPl_find_38 rfl (lv_at hl 1 rfl) ?_
          refine dq_ialdN hx hb hK hW 6 0 ((dq_Un (by omega)).trans ((dq_Un (by omega)).trans ((dq_Un (by omega)).trans p6))) rfl i (by omega) (by omega) dPl_find_39 ?_
          refine lv_aload_n hx hb dPl_find_40 rfl (lv_at hl 3 rfl) ?_
          refine dq_get (D := D) (ci := 1) (v := .ref (ad 2)) (C := RHd) (T := THd) (N := 7) hx hb hts hinHd hown hK hW 1 ((dq_Un (by omega)).trans ((dq_Un (by omega)).trans ((dq_Un (by omega)).trans h1))) rfl 0 (by decide) hf34 (fun _ h9 => h9) rfl dPl_find_41 ?_
          refine lv_iload hx hb dPl_find_44 (lv_at hl 5 rfl) ?_
          refine dq_ialdN hx hb hK hW 2 0 ((dq_Un (by omega)).trans ((dq_Un (by omega)).trans ((dq_Un (by omega)).trans h2))) rfl k (by omega) (by omega) dPl_find_46 ?_
          refine lv_isub hx hb dPl_find_47 ?_
          refine lv_istore (lv' := [(6, .int ((px i) - (hx_ k))), (0, .ref (ad (30 + 4 * h))), (1, .int (nI i)), (2, .ref (ad 5)), (3, .ref (ad 1)), (4, .ref (ad 12)), (5, .int (nI k))]) hx hb dPl_find_48 hl (by decide) rfl (fun ls hl => ?_)
          refine lv_aload_n hx hb dPl_find_50 rfl (lv_at hl 3 rfl) ?_
          refine dq_get (D := D) (ci := 3) (v := .ref (ad 7)) (C := RPt) (T := TPt) (N := 7) hx hb hts hinPt hown hK hW 5 ((dq_Un (by omega)).trans ((dq_Un (by omega)).trans ((dq_Un (by omega)).trans p5))) rfl 1 (by decide) hf35 (fun _ h9 => h9) rfl dPl_find_51 ?_
          refine lv_iload_n hx hb dPl_find_54 rfl (lv_at hl 2 rfl) ?_
          refine dq_ialdN hx hb hK hW 7 0 ((dq_Un (by omega)).trans ((dq_Un (by omega)).trans ((dq_Un (by omega)).trans p7))) rfl i (by omega) (by omega) dPl_find_55 ?_
          refine lv_aload_n hx hb dPl_find_56 rfl (lv_at hl 4 rfl) ?_
          refine dq_get (D := D) (ci := 1) (v := .ref (ad 3)) (C := RHd) (T := THd) (N := 7) hx hb hts hinHd hown hK hW 1 ((dq_Un (by omega)).trans ((dq_Un (by omega)).trans ((dq_Un (by omega)).trans h1))) rfl 1 (by decide) hf36 (fun _ h9 => h9) rfl dPl_find_57 ?_
          refine lv_iload hx hb dPl_find_60 (lv_at hl 6 rfl) ?_
          refine dq_ialdN hx hb hK hW 3 0 ((dq_Un (by omega)).trans ((dq_Un (by omega)).trans ((dq_Un (by omega)).trans h3))) rfl k (by omega) (by omega) dPl_find_62 ?_
          refine lv_isub hx hb dPl_find_63 ?_
          refine lv_istore (lv' := [(7, .int ((py i) - (hy_ k))), (6, .int ((px i) - (hx_ k))), (0, .ref (ad (30 + 4 * h))), (1, .int (nI i)), (2, .ref (ad 5)), (3, .ref (ad 1)), (4, .ref (ad 12)), (5, .int (nI k))]) hx hb dPl_find_64 hl (by decide) rfl (fun ls hl => ?_)
          refine lv_aload hx hb dPl_find_66 (lv_at hl 6 rfl) ?_
          refine lv_aload_n hx hb dPl_find_68 rfl (lv_at hl 5 rfl) ?_
          refine lv_iload hx hb dPl_find_69 (lv_at hl 1 rfl) ?_
          refine lv_iload hx hb dPl_find_71 (lv_at hl 0 rfl) ?_
          refine dq_calli (va_runV (As := [.ref (ad 1), .int ((px i) - (hx_ k)), .int ((py i) - (hy_ k))]) (rest := []) ⟨hx, hb, hml, hown, hts⟩ (c_Clamps_bar l D g ad (dq_U (dq_U (dq_U w (31 + 4 * h) (.inl (g 0, 16, .inl ((mp_find hx_ hy_ hw_ (px i) (py i) (pw i) (mc_bar cx0 cy0 cx1 cy1 cc_ f0 f1 f2 f3) X Y k).2.1)))) (32 + 4 * h) (.inl (g 0, 16, .inl ((mp_find hx_ hy_ hw_ (px i) (py i) (pw i) (mc_bar cx0 cy0 cx1 cy1 cc_ f0 f1 f2 f3) X Y k).2.2)))) (30 + 4 * h) (.inr (4, [.ref (ad (31 + 4 * h)), .ref (ad (32 + 4 * h)), .ref (ad (33 + 4 * h)), .int (nI (mp_find hx_ hy_ hw_ (px i) (py i) (pw i) (mc_bar cx0 cy0 cx1 cy1 cc_ f0 f1 f2 f3) X Y k).1)]))) _ n hx_ hy_ hw_ f0 f1 f2 f3 cx0 cy0 cx1 cy1 cc_ (px i - hx_ k) (py i - hy_ k) ((dq_Un (by omega)).trans ((dq_Un (by omega)).trans ((dq_Un (by omega)).trans h1))) ((dq_Un (by omega)).trans ((dq_Un (by omega)).trans ((dq_Un (by omega)).trans k12))) ((dq_Un (by omega)).trans ((dq_Un (by omega)).trans ((dq_Un (by omega)).trans k13))) ((dq_Un (by omega)).trans ((dq_Un (by omega)).trans ((dq_Un (by omega)).trans k14))) ((dq_Un (by omega)).trans ((dq_Un (by omega)).trans ((dq_Un (by omega)).trans k15))) ((dq_Un (by omega)).trans ((dq_Un (by omega)).trans ((dq_Un (by omega)).trans k16))) hc) (cwV 3 hts (dq_giV tw2_14 tw2_15 tw2_16 tw1_5 tw2_17) rfl rfl rfl (by decide +kernel) ⟨Nat.le_of_ble_eq_true rfl, Nat.le_of_ble_eq_true rfl⟩) (dq_preV (ci := 0) hW hS hA hK hZ ((dq_Un (by omega)).trans ((dq_Un (by omega)).trans ((dq_Un (by omega)).trans k12))) rfl rfl) rfl rfl hl.1 rfl (lv_room (Nat.le_of_ble_eq_true rfl)) dPl_find_73 ⟨Nat.zero_le _, Nat.zero_le _⟩) hW hS hA (fun r1 u_9 H locs hp1 hW hS hz9 => ?_)
          obtain ⟨hr1, hu9⟩ := hp1
          rw [hu9] at hW
          refine lv_if_ne (tgt := 87) hx hb dPl_find_76 (by decide) (fun c3 => ?_) (fun c3 => ?_)
          · have e5 : (mp_find hx_ hy_ hw_ (px i) (py i) (pw i) (mc_bar cx0 cy0 cx1 cy1 cc_ f0 f1 f2 f3) X Y (k + 1)) = (mp_find hx_ hy_ hw_ (px i) (py i) (pw i) (mc_bar cx0 cy0 cx1 cy1 cc_ f0 f1 f2 f3) X Y k) := by show (if hw_ k = pw i then _ else _) = _; rw [if_pos c2]; exact if_pos (dq_b_t (by rw [← hr1]; exact c3))
            refine lv_iinc (v := (nI (k + 1))) (lv' := [(5, .int (nI (k + 1))), (7, .int ((py i) - (hy_ k))), (6, .int ((px i) - (hx_ k))), (0, .ref (ad (30 + 4 * h))), (1, .int (nI i)), (2, .ref (ad 5)), (3, .ref (ad 1)), (4, .ref (ad 12))]) hx hb dPl_find_87 hl (k := 7) rfl (by show nI k + 1 = _; exact nI_1 _) (by decide) rfl (fun ls hl => ?_)
            refine lv_goto (tgt := 8) hx hb dPl_find_90 (by decide) ?_
            exact ih (k + 1) _ _ _ (by omega) (by omega) (by rw [e5]; exact hW) hS (lv_sub hl [3, 4, 5, 6, 7, 0] rfl)
          · have e5 : (mp_find hx_ hy_ hw_ (px i) (py i) (pw i) (mc_bar cx0 cy0 cx1 cy1 cc_ f0 f1 f2 f3) X Y (k + 1)) = mp_ins (mp_find hx_ hy_ hw_ (px i) (py i) (pw i) (mc_bar cx0 cy0 cx1 cy1 cc_ f0 f1 f2 f3) X Y k) (px i - hx_ k) (py i - hy_ k) := by show (if hw_ k = pw i then _ else _) = _; rw [if_pos c2]; exact if_neg (fun h9 => absurd ((dq_b_f (by rw [← hr1]; exact c3)).symm.trans h9) (by decide))
            have hle : (mp_find hx_ hy_ hw_ (px i) (py i) (pw i) (mc_bar cx0 cy0 cx1 cy1 cc_ f0 f1 f2 f3) X Y k).1 ≤ 16 := mp_find_le _ _ _ _ _ _ _ _ _ _
            refine lv_aload_n hx hb dPl_find_79 rfl (lv_at hl 2 rfl) ?_
            refine lv_iload hx hb dPl_find_80 (lv_at hl 1 rfl) ?_
            refine lv_iload hx hb dPl_find_82 (lv_at hl 0 rfl) ?_
            refine dq_callv (va_runV (As := [.int ((px i) - (hx_ k)), .int ((py i) - (hy_ k))]) (rest := []) ⟨hx, hb, hml, hown, hts⟩ (c_Places_insert l D g ad (dq_U (dq_U (dq_U w (31 + 4 * h) (.inl (g 0, 16, .inl ((mp_find hx_ hy_ hw_ (px i) (py i) (pw i) (mc_bar cx0 cy0 cx1 cy1 cc_ f0 f1 f2 f3) X Y k).2.1)))) (32 + 4 * h) (.inl (g 0, 16, .inl ((mp_find hx_ hy_ hw_ (px i) (py i) (pw i) (mc_bar cx0 cy0 cx1 cy1 cc_ f0 f1 f2 f3) X Y k).2.2)))) (30 + 4 * h) (.inr (4, [.ref (ad (31 + 4 * h)), .ref (ad (32 + 4 * h)), .ref (ad (33 + 4 * h)), .int (nI (mp_find hx_ hy_ hw_ (px i) (py i) (pw i) (mc_bar cx0 cy0 cx1 cy1 cc_ f0 f1 f2 f3) X Y k).1)]))) _ h ((mp_find hx_ hy_ hw_ (px i) (py i) (pw i) (mc_bar cx0 cy0 cx1 cy1 cc_ f0 f1 f2 f3) X Y k).1) ((mp_find hx_ hy_ hw_ (px i) (py i) (pw i) (mc_bar cx0 cy0 cx1 cy1 cc_ f0 f1 f2 f3) X Y k).2.1) ((mp_find hx_ hy_ hw_ (px i) (py i) (pw i) (mc_bar cx0 cy0 cx1 cy1 cc_ f0 f1 f2 f3) X Y k).2.2) Dr (px i - hx_ k) (py i - hy_ k) dq_Us ((dq_Un (by omega)).trans ((dq_Un (by omega)).trans dq_Us)) ((dq_Un (by omega)).trans dq_Us) hle) (cwV 2 hts (dq_giV tw2_23 tw2_25 twp_1 tw1_6 tw2_26) rfl rfl rfl (by decide +kernel) ⟨Nat.le_of_ble_eq_true rfl, Nat.le_of_ble_eq_true rfl⟩) (dq_preV (ci := 4) hW hS hA hK hZ dq_Us rfl rfl) rfl rfl hl.1 rfl (lv_room (Nat.le_of_ble_eq_true rfl)) dPl_find_84 ⟨Nat.zero_le _, Nat.zero_le _⟩) hW hS hA (fun u_9 H locs hp2 hW hS hz9 => ?_)
            rw [hp2, dq_U3] at hW
            refine lv_iinc (v := (nI (k + 1))) (lv' := [(5, .int (nI (k + 1))), (7, .int ((py i) - (hy_ k))), (6, .int ((px i) - (hx_ k))), (0, .ref (ad (30 + 4 * h))), (1, .int (nI i)), (2, .ref (ad 5)), (3, .ref (ad 1)), (4, .ref (ad 12))]) hx hb dPl_find_87 hl (k := 7) rfl (by show nI k + 1 = _; exact nI_1 _) (by decide) rfl (fun ls hl => ?_)
            refine lv_goto (tgt := 8) hx hb dPl_find_90 (by decide) ?_
            exact ih (k + 1) _ _ _ (by omega) (by omega) (by rw [e5]; exact hW) hS (lv_sub hl [3, 4, 5, 6, 7, 0] rfl)
  exact loop (n + 1) 0 _ _ _ (by omega) (Nat.zero_le _) hW hS (lv_sub hl [1, 2, 3, 4, 5, 0] rfl)
