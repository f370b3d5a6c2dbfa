theorem dq_b_nar (b : Bool) : narrow .boolean (.int (dq_b b)) = .int (dq_b b) := by cases b <;> rfl
theorem dq_nm1 {k : Nat} (h : k < 2 ^ 31) : ¬ nI k = -1 := fun h9 => by
  have h8 := congrArg Int32.toInt h9
  rw [nI_toInt h] at h8
  have h7 : (-1 : Int32).toInt = -1 := by decide
  rw [h7] at h8
  omega
/-- the first k numbers negated -/
def mn_neg (f : Nat → Int32) (k : Nat) : Nat → Int32 := fun j => if j < k then -(f j) else f j
theorem mn_neg_0 (f : Nat → Int32) : mn_neg f 0 = f := by funext j; simp [mn_neg]
theorem mn_neg_s (f : Nat → Int32) (k : Nat) : upd (mn_neg f k) k (-(mn_neg f k k)) = mn_neg f (k + 1) := by
  funext j
  by_cases h : j = k
  · subst h; simp [upd, mn_neg]
  · by_cases h2 : j < k
    · simp [upd, mn_neg, h, h2, Nat.lt_succ_of_lt h2]
    · have h3 : ¬ j < k + 1 := by omega
      simp [upd, mn_neg, h, h2, h3]
set_option maxHeartbeats 4000000 in
set_option maxRecDepth 100000 in
/-- Head.change, the same -/
theorem c_change_no (l : Launch) (D : va_G) (g : Nat → ClassId) (ad : Nat → Nat) (w : Nat → Option va_E) (sz : Nat) (n : Nat) (hx_ hy_ hw_ : Nat → Int32) (f0 f1 f2 f3 : Int32) (k : Nat) (a1 a2 a3 : Int32) (h1 : w 1 = some (.inr (1, [.ref (ad 2), .ref (ad 3), .ref (ad 4), .int f0, .int f1, .int f2, .int f3]))) (h2 : w 2 = some (.inl (g 0, n, .inl hx_))) (h3 : w 3 = some (.inl (g 0, n, .inl hy_))) (h4 : w 4 = some (.inl (g 0, n, .inl hw_))) (hk : k < n) (hn : n ≤ 16) (e1 : hx_ k = a1) (e2 : hy_ k = a2) (e3 : hw_ k = a3) : Met l yHd_change wsHd_change ({ frames := 2, cells := 0, slots := 0, locals := 50 } : Room) (va_Pc [.ref (ad 1), .int (nI k), .int a1, .int a2, .int a3] (dq_S D vwCl (dq_t g) ad w sz)) (va_Qi (fun r u => r = 0 ∧ u = w) (dq_B D vwCl (dq_t g) ad (dq_A ad w sz)) (dq_A ad w sz)) 0 0 (dq_A ad w sz) := by
  refine dq_ofz (cc := cHd_change) (maxL := 5) (by decide) rfl (Nat.le_of_ble_eq_true rfl) ?_
  intro p e s m below meth c A Q ls ⟨hx, hb, hml, hown, hts⟩ hnm hA hW hK hZ hl hret
  have hS : va_S A s.heap s.heap [] := va_S.rf
  have hl : lv_has ls 5 [(0, .ref (ad 1)), (1, .int (nI k)), (2, .int a1), (3, .int a2), (4, .int a3)] := hl
  have hf9 := hts _ (List.mem_cons_of_mem _ tw1_38)
  have hf15 := hts _ (List.mem_cons_of_mem _ tw1_40)
  have hf18 := hts _ (List.mem_cons_of_mem _ tw1_42)
  have hinHd : ∀ w ∈ u_ws RHd THd 7, w ∈ wsHd_change := fun w h => List.mem_cons_of_mem _ (inHd w h)
  refine lv_aload_n hx hb dHd_change_0 rfl (lv_at hl 0 rfl) ?_
  refine dq_get (D := D) (ci := 1) (v := .ref (ad 2)) (C := RHd) (T := THd) (N := 7) hx hb hts hinHd hown hK hW 1 h1 rfl 0 (by decide) hf9 (fun _ h9 => h9) rfl dHd_change_1 ?_
  refine lv_iload_n hx hb dHd_change_4 rfl (lv_at hl 1 rfl) ?_
  refine dq_ialdN hx hb hK hW 2 0 h2 rfl k (by omega) (by omega) dHd_change_5 ?_
  refine lv_iload_n hx hb dHd_change_6 rfl (lv_at hl 2 rfl) ?_
  refine lv_icmp_ne (tgt := 33) hx hb dHd_change_7 (by decide) (fun c1 => ?_) (fun c1 => ?_)
  · exact absurd e1 c1
  · refine lv_aload_n hx hb dHd_change_10 rfl (lv_at hl 0 rfl) ?_
    refine dq_get (D := D) (ci := 1) (v := .ref (ad 3)) (C := RHd) (T := THd) (N := 7) hx hb hts hinHd hown hK hW 1 h1 rfl 1 (by decide) hf15 (fun _ h9 => h9) rfl dHd_change_11 ?_
    refine lv_iload_n hx hb dHd_change_14 rfl (lv_at hl 1 rfl) ?_
    refine dq_ialdN hx hb hK hW 3 0 h3 rfl k (by omega) (by omega) dHd_change_15 ?_
    refine lv_iload_n hx hb dHd_change_16 rfl (lv_at hl 3 rfl) ?_
    refine lv_icmp_ne (tgt := 33) hx hb dHd_change_17 (by decide) (fun c2 => ?_) (fun c2 => ?_)
    · exact absurd e2 c2
    · refine lv_aload_n hx hb dHd_change_20 rfl (lv_at hl 0 rfl) ?_
      refine dq_get (D := D) (ci := 1) (v := .ref (ad 4)) (C := RHd) (T := THd) (N := 7) hx hb hts hinHd hown hK hW 1 h1 rfl 2 (by decide) hf18 (fun _ h9 => h9) rfl dHd_change_21 ?_
      refine lv_iload_n hx hb dHd_change_24 rfl (lv_at hl 1 rfl) ?_
      refine dq_ialdN hx hb hK hW 4 0 h4 rfl k (by omega) (by omega) dHd_change_25 ?_
      refine lv_iload hx hb dHd_change_26 (lv_at hl 4 rfl) ?_
      refine lv_icmp_ne (tgt := 33) hx hb dHd_change_28 (by decide) (fun c3 => ?_) (fun c3 => ?_)
      · exact absurd e3 c3
      · refine lv_iconst (v := (0)) hx hb dHd_change_31 (by decide) ?_
        exact hret _ _ _ _ _ _ ⟨rfl, rfl⟩ (by decide) hW hS dHd_change_32

set_option maxHeartbeats 4000000 in
set_option maxRecDepth 100000 in
/-- Head.change -/
theorem c_change_yes (l : Launch) (D : va_G) (g : Nat → ClassId) (ad : Nat → Nat) (w : Nat → Option va_E) (sz : Nat) (n : Nat) (hx_ hy_ hw_ : Nat → Int32) (f0 f1 f2 f3 : Int32) (k : Nat) (a1 a2 a3 : Int32) (h1 : w 1 = some (.inr (1, [.ref (ad 2), .ref (ad 3), .ref (ad 4), .int f0, .int f1, .int f2, .int f3]))) (h2 : w 2 = some (.inl (g 0, n, .inl hx_))) (h3 : w 3 = some (.inl (g 0, n, .inl hy_))) (h4 : w 4 = some (.inl (g 0, n, .inl hw_))) (hk : k < n) (hn : n ≤ 16) (he : ¬ (hx_ k = a1 ∧ hy_ k = a2 ∧ hw_ k = a3)) : Met l yHd_change wsHd_change ({ frames := 2, cells := 0, slots := 0, locals := 50 } : Room) (va_Pc [.ref (ad 1), .int (nI k), .int a1, .int a2, .int a3] (dq_S D vwCl (dq_t g) ad w sz)) (va_Qi (fun r u => r = 1 ∧ u = dq_U (dq_U (dq_U (dq_U w 2 (.inl (g 0, n, .inl (upd hx_ k a1)))) 3 (.inl (g 0, n, .inl (upd hy_ k a2)))) 4 (.inl (g 0, n, .inl (upd hw_ k a3)))) 1 (.inr (1, [.ref (ad 2), .ref (ad 3), .ref (ad 4), .int (mh_lo (upd hw_ k a3) (upd hx_ k a1) n - 1), .int (mh_lo (upd hw_ k a3) (upd hy_ k a2) n - 1), .int (mh_hi (upd hw_ k a3) (upd hx_ k a1) n + 1), .int (mh_hi (upd hw_ k a3) (upd hy_ k a2) n + 1)]))) (dq_B D vwCl (dq_t g) ad (dq_A ad w sz)) (dq_A ad w sz)) 0 0 (dq_A ad w sz) := by
  refine dq_ofz (cc := cHd_change) (maxL := 5) (by decide) rfl (Nat.le_of_ble_eq_true rfl) ?_
  intro p e s m below meth c A Q ls ⟨hx, hb, hml, hown, hts⟩ hnm hA hW hK hZ hl hret
  have hS : va_S A s.heap s.heap [] := va_S.rf
  have hl : lv_has ls 5 [(0, .ref (ad 1)), (1, .int (nI k)), (2, .int a1), (3, .int a2), (4, .int a3)] := hl
  have hf9 := hts _ (List.mem_cons_of_mem _ tw1_38)
  have hf15 := hts _ (List.mem_cons_of_mem _ tw1_40)
  have hf18 := hts _ (List.mem_cons_of_mem _ tw1_42)
  have hinHd : ∀ w ∈ u_ws RHd THd 7, w ∈ wsHd_change := fun w h => List.mem_cons_of_mem _ (inHd w h)
  refine lv_aload_n hx hb dHd_change_0 rfl (lv_at hl 0 rfl) ?_
  refine dq_get (D := D) (ci := 1) (v := .ref (ad 2)) (C := RHd) (T := THd) (N := 7) hx hb hts hinHd hown hK hW 1 h1 rfl 0 (by decide) hf9 (fun _ h9 => h9) rfl dHd_change_1 ?_
  refine lv_iload_n hx hb dHd_change_4 rfl (lv_at hl 1 rfl) ?_
  refine dq_ialdN hx hb hK hW 2 0 h2 rfl k (by omega) (by omega) dHd_change_5 ?_
  refine lv_iload_n hx hb dHd_change_6 rfl (lv_at hl 2 rfl) ?_
  have J : ∀ (hq9 : True) (ls : Array Slot), lv_has ls 5 [(0, .ref (ad 1)), (1, .int (nI k)), (2, .int a1), (3, .int a2), (4, .int a3)] → W p l e ({ frames := 2, cells := 0, slots := 0, locals := 50 } : Room) s m ([.ref (ad 1), .int (nI k), .int a1, .int a2, .int a3] : List Value).toArray below meth c s.heap [] 0 0 Q (F0 m 33 ls []) := by
    intro hq9 ls   hl
    refine lv_aload_n hx hb dHd_change_33 rfl (lv_at hl 0 rfl) ?_
    refine dq_get (D := D) (ci := 1) (v := .ref (ad 2)) (C := RHd) (T := THd) (N := 7) hx hb hts hinHd hown hK hW 1 h1 rfl 0 (by decide) hf9 (fun _ h9 => h9) rfl dHd_change_34 ?_
    refine lv_iload_n hx hb dHd_change_37 rfl (lv_at hl 1 rfl) ?_
    refine lv_iload_n hx hb dHd_change_38 rfl (lv_at hl 2 rfl) ?_
    refine dq_iastN hx hb hK hW hS 2 0 h2 rfl k (by omega) (by omega) dHd_change_39 (fun H locs hW hS => ?_)
    refine lv_aload_n hx hb dHd_change_40 rfl (lv_at hl 0 rfl) ?_
    refine dq_get (D := D) (ci := 1) (v := .ref (ad 3)) (C := RHd) (T := THd) (N := 7) hx hb hts hinHd hown hK hW 1 ((dq_Un (by decide)).trans h1) rfl 1 (by decide) hf15 (fun _ h9 => h9) rfl dHd_change_41 ?_
    refine lv_iload_n hx hb dHd_change_44 rfl (lv_at hl 1 rfl) ?_
    refine lv_iload_n hx hb dHd_change_45 rfl (lv_at hl 3 rfl) ?_
    refine dq_iastN hx hb hK hW hS 3 0 ((dq_Un (by decide)).trans h3) rfl k (by omega) (by omega) dHd_change_46 (fun H locs hW hS => ?_)
    refine lv_aload_n hx hb dHd_change_47 rfl (lv_at hl 0 rfl) ?_
    refine dq_get (D := D) (ci := 1) (v := .ref (ad 4)) (C := RHd) (T := THd) (N := 7) hx hb hts hinHd hown hK hW 1 ((dq_Un (by decide)).trans ((dq_Un (by decide)).trans h1)) rfl 2 (by decide) hf18 (fun _ h9 => h9) rfl dHd_change_48 ?_
    refine lv_iload_n hx hb dHd_change_51 rfl (lv_at hl 1 rfl) ?_
    refine lv_iload hx hb dHd_change_52 (lv_at hl 4 rfl) ?_
    refine dq_iastN hx hb hK hW hS 4 0 ((dq_Un (by decide)).trans ((dq_Un (by decide)).trans h4)) rfl k (by omega) (by omega) dHd_change_54 (fun H locs hW hS => ?_)
    refine lv_aload_n hx hb dHd_change_55 rfl (lv_at hl 0 rfl) ?_
    refine dq_callv (va_runV (As := []) (rest := []) ⟨hx, hb, hml, hown, hts⟩ (c_Head_measureFrame l D g ad (dq_U (dq_U (dq_U w 2 (.inl (g 0, n, .inl (upd hx_ k a1)))) 3 (.inl (g 0, n, .inl (upd hy_ k a2)))) 4 (.inl (g 0, n, .inl (upd hw_ k a3)))) _ n (upd hx_ k a1) (upd hy_ k a2) (upd hw_ k a3) f0 f1 f2 f3 ((dq_Un (by decide)).trans ((dq_Un (by decide)).trans ((dq_Un (by decide)).trans h1))) ((dq_Un (by decide)).trans ((dq_Un (by decide)).trans dq_Us)) ((dq_Un (by decide)).trans dq_Us) dq_Us hn) (cwV 0 hts (dq_giV tw2_222 tw2_224 twp_12 tw1_2 tw2_225) rfl rfl rfl (by decide +kernel) ⟨Nat.le_of_ble_eq_true rfl, Nat.le_of_ble_eq_true rfl⟩) (dq_preV (ci := 1) hW hS hA hK hZ ((dq_Un (by decide)).trans ((dq_Un (by decide)).trans ((dq_Un (by decide)).trans h1))) rfl rfl) rfl rfl hl.1 rfl (lv_room (Nat.le_of_ble_eq_true rfl)) dHd_change_56 ⟨Nat.zero_le _, Nat.zero_le _⟩) hW hS hA (fun u_9 H locs hp1 hW hS hz9 => ?_)
    rw [hp1] at hW
    refine lv_iconst (v := (1)) hx hb dHd_change_59 (by decide) ?_
    exact hret _ _ _ _ _ _ ⟨rfl, rfl⟩ (by decide) hW hS dHd_change_60
  refine lv_icmp_ne (tgt := 33) hx hb dHd_change_7 (by decide) (fun c1 => ?_) (fun c1 => ?_)
  · exact J trivial _ (lv_sub hl [0, 1, 2, 3, 4] rfl)
  · refine lv_aload_n hx hb dHd_change_10 rfl (lv_at hl 0 rfl) ?_
    refine dq_get (D := D) (ci := 1) (v := .ref (ad 3)) (C := RHd) (T := THd) (N := 7) hx hb hts hinHd hown hK hW 1 h1 rfl 1 (by decide) hf15 (fun _ h9 => h9) rfl dHd_change_11 ?_
    refine lv_iload_n hx hb dHd_change_14 rfl (lv_at hl 1 rfl) ?_
    refine dq_ialdN hx hb hK hW 3 0 h3 rfl k (by omega) (by omega) dHd_change_15 ?_
    refine lv_iload_n hx hb dHd_change_16 rfl (lv_at hl 3 rfl) ?_
    refine lv_icmp_ne (tgt := 33) hx hb dHd_change_17 (by decide) (fun c2 => ?_) (fun c2 => ?_)
    · exact J trivial _ (lv_sub hl [0, 1, 2, 3, 4] rfl)
    · refine lv_aload_n hx hb dHd_change_20 rfl (lv_at hl 0 rfl) ?_
      refine dq_get (D := D) (ci := 1) (v := .ref (ad 4)) (C := RHd) (T := THd) (N := 7) hx hb hts hinHd hown hK hW 1 h1 rfl 2 (by decide) hf18 (fun _ h9 => h9) rfl dHd_change_21 ?_
      refine lv_iload_n hx hb dHd_change_24 rfl (lv_at hl 1 rfl) ?_
      refine dq_ialdN hx hb hK hW 4 0 h4 rfl k (by omega) (by omega) dHd_change_25 ?_
      refine lv_iload hx hb dHd_change_26 (lv_at hl 4 rfl) ?_
      refine lv_icmp_ne (tgt := 33) hx hb dHd_change_28 (by decide) (fun c3 => ?_) (fun c3 => ?_)
      · exact J trivial _ (lv_sub hl [0, 1, 2, 3, 4] rfl)
      · exact absurd ⟨c1, c2, c3⟩ he

set_option maxHeartbeats 4000000 in
set_option maxRecDepth 100000 in
/-- Part.add -/
theorem c_Part_add (l : Launch) (D : va_G) (g : Nat → ClassId) (ad : Nat → Nat) (w : Nat → Option va_E) (sz : Nat) (px py pw pd pf pt : Nat → Int32) (pc_ : Nat) (a1 a2 a3 a4 a5 : Int32) (p5 : w 5 = some (.inr (3, [.ref (ad 6), .ref (ad 7), .ref (ad 8), .ref (ad 9), .ref (ad 10), .ref (ad 11), .int (nI pc_)]))) (p6 : w 6 = some (.inl (g 0, 14, .inl px))) (p7 : w 7 = some (.inl (g 0, 14, .inl py))) (p8 : w 8 = some (.inl (g 0, 14, .inl pw))) (p9 : w 9 = some (.inl (g 0, 14, .inl pd))) (p10 : w 10 = some (.inl (g 0, 14, .inl pf))) (p11 : w 11 = some (.inl (g 1, 14, .inl pt))) (hpc : pc_ < 14) : Met l yPt_add wsPt_add ({ frames := 0, cells := 0, slots := 0, locals := 0 } : Room) (va_Pc [.ref (ad 5), .int a1, .int a2, .int a3, .int a4, .int a5] (dq_S D vwCl (dq_t g) ad w sz)) (va_Qi (fun r u => r = nI pc_ ∧ u = dq_U (dq_U (dq_U (dq_U (dq_U (dq_U w 6 (.inl (g 0, 14, .inl (upd px pc_ a1)))) 7 (.inl (g 0, 14, .inl (upd py pc_ a2)))) 8 (.inl (g 0, 14, .inl (upd pw pc_ a3)))) 9 (.inl (g 0, 14, .inl (upd pd pc_ a4)))) 10 (.inl (g 0, 14, .inl (upd pf pc_ a5)))) 5 (.inr (3, [.ref (ad 6), .ref (ad 7), .ref (ad 8), .ref (ad 9), .ref (ad 10), .ref (ad 11), .int (nI (pc_ + 1))]))) (dq_B D vwCl (dq_t g) ad (dq_A ad w sz)) (dq_A ad w sz)) 0 0 (dq_A ad w sz) := by
  refine dq_ofi (cc := cPt_add) (maxL := 7) (by decide) rfl (Nat.le_of_ble_eq_true rfl) ?_
  intro p e s m below meth c A Q ls ⟨hx, hb, hml, hown, hts⟩ hnm hA hW hK hZ hl hret
  have hS : va_S A s.heap s.heap [] := va_S.rf
  have hl : lv_has ls 7 [(0, .ref (ad 5)), (1, .int a1), (2, .int a2), (3, .int a3), (4, .int a4), (5, .int a5)] := hl
  have hf9 := hts _ (List.mem_cons_of_mem _ tw1_75)
  have hf15 := hts _ (List.mem_cons_of_mem _ tw1_78)
  have hf18 := hts _ (List.mem_cons_of_mem _ tw1_81)
  have hf21 := hts _ (List.mem_cons_of_mem _ tw1_83)
  have hf24 := hts _ (List.mem_cons_of_mem _ tw1_84)
  have hf31 := hts _ (List.mem_cons_of_mem _ tw1_88)
  have hinPt : ∀ w ∈ u_ws RPt TPt 7, w ∈ wsPt_add := fun w h => List.mem_cons_of_mem _ (inPt w h)
  refine lv_aload_n hx hb dPt_add_0 rfl (lv_at hl 0 rfl) ?_
  refine dq_get (D := D) (ci := 3) (v := .int (nI pc_)) (C := RPt) (T := TPt) (N := 7) hx hb hts hinPt hown hK hW 5 p5 rfl 6 (by decide) hf31 (fun _ h9 => h9) rfl dPt_add_1 ?_
  refine lv_istore (lv' := [(6, .int (nI pc_)), (0, .ref (ad 5)), (1, .int a1), (2, .int a2), (3, .int a3), (4, .int a4), (5, .int a5)]) hx hb dPt_add_4 hl (by decide) rfl (fun ls hl => ?_)
  refine lv_aload_n hx hb dPt_add_6 rfl (lv_at hl 1 rfl) ?_
  refine dq_get (D := D) (ci := 3) (v := .ref (ad 6)) (C := RPt) (T := TPt) (N := 7) hx hb hts hinPt hown hK hW 5 p5 rfl 0 (by decide) hf9 (fun _ h9 => h9) rfl dPt_add_7 ?_
  refine lv_iload hx hb dPt_add_10 (lv_at hl 0 rfl) ?_
  refine lv_iload_n hx hb dPt_add_12 rfl (lv_at hl 2 rfl) ?_
  refine dq_iastN hx hb hK hW hS 6 0 p6 rfl pc_ (by omega) (by omega) dPt_add_13 (fun H locs hW hS => ?_)
  refine lv_aload_n hx hb dPt_add_14 rfl (lv_at hl 1 rfl) ?_
  refine dq_get (D := D) (ci := 3) (v := .ref (ad 7)) (C := RPt) (T := TPt) (N := 7) hx hb hts hinPt hown hK hW 5 ((dq_Un (by decide)).trans p5) rfl 1 (by decide) hf15 (fun _ h9 => h9) rfl dPt_add_15 ?_
  refine lv_iload hx hb dPt_add_18 (lv_at hl 0 rfl) ?_
  refine lv_iload_n hx hb dPt_add_20 rfl (lv_at hl 3 rfl) ?_
  refine dq_iastN hx hb hK hW hS 7 0 ((dq_Un (by decide)).trans p7) rfl pc_ (by omega) (by omega) dPt_add_21 (fun H locs hW hS => ?_)
  refine lv_aload_n hx hb dPt_add_22 rfl (lv_at hl 1 rfl) ?_
  refine dq_get (D := D) (ci := 3) (v := .ref (ad 8)) (C := RPt) (T := TPt) (N := 7) hx hb hts hinPt hown hK hW 5 ((dq_Un (by decide)).trans ((dq_Un (by decide)).trans p5)) rfl 2 (by decide) hf18 (fun _ h9 => h9) rfl dPt_add_23 ?_
  refine lv_iload hx hb dPt_add_26 (lv_at hl 0 rfl) ?_
  refine lv_iload_n hx hb dPt_add_28 rfl (lv_at hl 4 rfl) ?_
  refine dq_iastN hx hb hK hW hS 8 0 ((dq_Un (by decide)).trans ((dq_Un (by decide)).trans p8)) rfl pc_ (by omega) (by omega) dPt_add_29 (fun H locs hW hS => ?_)
  refine lv_aload_n hx hb dPt_add_30 rfl (lv_at hl 1 rfl) ?_
  refine dq_get (D := D) (ci := 3) (v := .ref (ad 9)) (C := RPt) (T := TPt) (N := 7) hx hb hts hinPt hown hK hW 5 ((dq_Un (by decide)).trans ((dq_Un (by decide)).trans ((dq_Un (by decide)).trans p5))) rfl 3 (by decide) hf21 (fun _ h9 => h9) rfl dPt_add_31 ?_
  refine lv_iload hx hb dPt_add_34 (lv_at hl 0 rfl) ?_
  refine lv_iload hx hb dPt_add_36 (lv_at hl 5 rfl) ?_
  refine dq_iastN hx hb hK hW hS 9 0 ((dq_Un (by decide)).trans ((dq_Un (by decide)).trans ((dq_Un (by decide)).trans p9))) rfl pc_ (by omega) (by omega) dPt_add_38 (fun H locs hW hS => ?_)
  refine lv_aload_n hx hb dPt_add_39 rfl (lv_at hl 1 rfl) ?_
  refine dq_get (D := D) (ci := 3) (v := .ref (ad 10)) (C := RPt) (T := TPt) (N := 7) hx hb hts hinPt hown hK hW 5 ((dq_Un (by decide)).trans ((dq_Un (by decide)).trans ((dq_Un (by decide)).trans ((dq_Un (by decide)).trans p5)))) rfl 4 (by decide) hf24 (fun _ h9 => h9) rfl dPt_add_40 ?_
  refine lv_iload hx hb dPt_add_43 (lv_at hl 0 rfl) ?_
  refine lv_iload hx hb dPt_add_45 (lv_at hl 6 rfl) ?_
  refine dq_iastN hx hb hK hW hS 10 0 ((dq_Un (by decide)).trans ((dq_Un (by decide)).trans ((dq_Un (by decide)).trans ((dq_Un (by decide)).trans p10)))) rfl pc_ (by omega) (by omega) dPt_add_47 (fun H locs hW hS => ?_)
  refine lv_aload_n hx hb dPt_add_48 rfl (lv_at hl 1 rfl) ?_
  refine lv_dup hx hb dPt_add_49 rfl ?_
  refine dq_get (D := D) (ci := 3) (v := .int (nI pc_)) (C := RPt) (T := TPt) (N := 7) hx hb hts hinPt hown hK hW 5 ((dq_Un (by decide)).trans ((dq_Un (by decide)).trans ((dq_Un (by decide)).trans ((dq_Un (by decide)).trans ((dq_Un (by decide)).trans p5))))) rfl 6 (by decide) hf31 (fun _ h9 => h9) rfl dPt_add_50 ?_
  refine lv_iconst (v := (1)) hx hb dPt_add_53 (by decide) ?_
  refine lv_iadd hx hb dPt_add_54 ?_
  refine dq_top (y := nI (pc_ + 1)) (nI_1 pc_) ?_
  refine dq_put (D := D) (ci := 3) (v := .int (nI (pc_ + 1))) (ty := .int) (C := RPt) (T := TPt) (N := 7) hx hb hts hinPt tyPt tyPt_ok nmPt hown hK hW hS 5 ((dq_Un (by decide)).trans ((dq_Un (by decide)).trans ((dq_Un (by decide)).trans ((dq_Un (by decide)).trans ((dq_Un (by decide)).trans p5))))) rfl 6 (by decide) hf31 (fun _ h9 => h9) rfl (by decide +kernel) rfl rfl (Nat.le_of_ble_eq_true rfl) dPt_add_55 (fun H locs hW hS => ?_)
  refine lv_iload hx hb dPt_add_58 (lv_at hl 0 rfl) ?_
  exact hret _ _ _ _ _ _ ⟨rfl, rfl⟩ hW hS dPt_add_60

set_option maxHeartbeats 4000000 in
set_option maxRecDepth 100000 in
/-- Clamps.add -/
theorem c_Clamps_add (l : Launch) (D : va_G) (g : Nat → ClassId) (ad : Nat → Nat) (w : Nat → Option va_E) (sz : Nat) (cx0 cy0 cx1 cy1 : Nat → Int32) (cc_ : Nat) (a1 a2 a3 a4 : Int32) (k12 : w 12 = some (.inr (0, [.ref (ad 13), .ref (ad 14), .ref (ad 15), .ref (ad 16), .int (nI cc_)]))) (k13 : w 13 = some (.inl (g 0, 6, .inl cx0))) (k14 : w 14 = some (.inl (g 0, 6, .inl cy0))) (k15 : w 15 = some (.inl (g 0, 6, .inl cx1))) (k16 : w 16 = some (.inl (g 0, 6, .inl cy1))) (hcc : cc_ < 6) : Met l yCl_add wsCl_add ({ frames := 0, cells := 0, slots := 0, locals := 0 } : Room) (va_Pc [.ref (ad 12), .int a1, .int a2, .int a3, .int a4] (dq_S D vwCl (dq_t g) ad w sz)) (va_Qv (fun u => u = dq_U (dq_U (dq_U (dq_U (dq_U w 13 (.inl (g 0, 6, .inl (upd cx0 cc_ a1)))) 14 (.inl (g 0, 6, .inl (upd cy0 cc_ a2)))) 15 (.inl (g 0, 6, .inl (upd cx1 cc_ a3)))) 16 (.inl (g 0, 6, .inl (upd cy1 cc_ a4)))) 12 (.inr (0, [.ref (ad 13), .ref (ad 14), .ref (ad 15), .ref (ad 16), .int (nI (cc_ + 1))]))) (dq_B D vwCl (dq_t g) ad (dq_A ad w sz)) (dq_A ad w sz)) 0 0 (dq_A ad w sz) := by
  refine dq_ofv (cc := cCl_add) (maxL := 5) (by decide) rfl (Nat.le_of_ble_eq_true rfl) ?_
  intro p e s m below meth c A Q ls ⟨hx, hb, hml, hown, hts⟩ hnm hA hW hK hZ hl hret
  have hS : va_S A s.heap s.heap [] := va_S.rf
  have hl : lv_has ls 5 [(0, .ref (ad 12)), (1, .int a1), (2, .int a2), (3, .int a3), (4, .int a4)] := hl
  have hf9 := hts _ (List.mem_cons_of_mem _ tw1_113)
  have hf15 := hts _ (List.mem_cons_of_mem _ tw1_114)
  have hf18 := hts _ (List.mem_cons_of_mem _ tw1_115)
  have hf21 := hts _ (List.mem_cons_of_mem _ tw1_116)
  have hf24 := hts _ (List.mem_cons_of_mem _ tw1_117)
  have hinCl : ∀ w ∈ u_ws RCl TCl 5, w ∈ wsCl_add := fun w h => List.mem_cons_of_mem _ (inCl w h)
  refine lv_aload_n hx hb dCl_add_0 rfl (lv_at hl 0 rfl) ?_
  refine dq_get (D := D) (ci := 0) (v := .ref (ad 13)) (C := RCl) (T := TCl) (N := 5) hx hb hts hinCl hown hK hW 12 k12 rfl 0 (by decide) hf9 (fun _ h9 => h9) rfl dCl_add_1 ?_
  refine lv_aload_n hx hb dCl_add_4 rfl (lv_at hl 0 rfl) ?_
  refine dq_get (D := D) (ci := 0) (v := .int (nI cc_)) (C := RCl) (T := TCl) (N := 5) hx hb hts hinCl hown hK hW 12 k12 rfl 4 (by decide) hf24 (fun _ h9 => h9) rfl dCl_add_5 ?_
  refine lv_iload_n hx hb dCl_add_8 rfl (lv_at hl 1 rfl) ?_
  refine dq_iastN hx hb hK hW hS 13 0 k13 rfl cc_ (by omega) (by omega) dCl_add_9 (fun H locs hW hS => ?_)
  refine lv_aload_n hx hb dCl_add_10 rfl (lv_at hl 0 rfl) ?_
  refine dq_get (D := D) (ci := 0) (v := .ref (ad 14)) (C := RCl) (T := TCl) (N := 5) hx hb hts hinCl hown hK hW 12 ((dq_Un (by decide)).trans k12) rfl 1 (by decide) hf15 (fun _ h9 => h9) rfl dCl_add_11 ?_
  refine lv_aload_n hx hb dCl_add_14 rfl (lv_at hl 0 rfl) ?_
  refine dq_get (D := D) (ci := 0) (v := .int (nI cc_)) (C := RCl) (T := TCl) (N := 5) hx hb hts hinCl hown hK hW 12 ((dq_Un (by decide)).trans k12) rfl 4 (by decide) hf24 (fun _ h9 => h9) rfl dCl_add_15 ?_
  refine lv_iload_n hx hb dCl_add_18 rfl (lv_at hl 2 rfl) ?_
  refine dq_iastN hx hb hK hW hS 14 0 ((dq_Un (by decide)).trans k14) rfl cc_ (by omega) (by omega) dCl_add_19 (fun H locs hW hS => ?_)
  refine lv_aload_n hx hb dCl_add_20 rfl (lv_at hl 0 rfl) ?_
  refine dq_get (D := D) (ci := 0) (v := .ref (ad 15)) (C := RCl) (T := TCl) (N := 5) hx hb hts hinCl hown hK hW 12 ((dq_Un (by decide)).trans ((dq_Un (by decide)).trans k12)) rfl 2 (by decide) hf18 (fun _ h9 => h9) rfl dCl_add_21 ?_
  refine lv_aload_n hx hb dCl_add_24 rfl (lv_at hl 0 rfl) ?_
  refine dq_get (D := D) (ci := 0) (v := .int (nI cc_)) (C := RCl) (T := TCl) (N := 5) hx hb hts hinCl hown hK hW 12 ((dq_Un (by decide)).trans ((dq_Un (by decide)).trans k12)) rfl 4 (by decide) hf24 (fun _ h9 => h9) rfl dCl_add_25 ?_
  refine lv_iload_n hx hb dCl_add_28 rfl (lv_at hl 3 rfl) ?_
  refine dq_iastN hx hb hK hW hS 15 0 ((dq_Un (by decide)).trans ((dq_Un (by decide)).trans k15)) rfl cc_ (by omega) (by omega) dCl_add_29 (fun H locs hW hS => ?_)
  refine lv_aload_n hx hb dCl_add_30 rfl (lv_at hl 0 rfl) ?_
  refine dq_get (D := D) (ci := 0) (v := .ref (ad 16)) (C := RCl) (T := TCl) (N := 5) hx hb hts hinCl hown hK hW 12 ((dq_Un (by decide)).trans ((dq_Un (by decide)).trans ((dq_Un (by decide)).trans k12))) rfl 3 (by decide) hf21 (fun _ h9 => h9) rfl dCl_add_31 ?_
  refine lv_aload_n hx hb dCl_add_34 rfl (lv_at hl 0 rfl) ?_
  refine dq_get (D := D) (ci := 0) (v := .int (nI cc_)) (C := RCl) (T := TCl) (N := 5) hx hb hts hinCl hown hK hW 12 ((dq_Un (by decide)).trans ((dq_Un (by decide)).trans ((dq_Un (by decide)).trans k12))) rfl 4 (by decide) hf24 (fun _ h9 => h9) rfl dCl_add_35 ?_
  refine lv_iload hx hb dCl_add_38 (lv_at hl 4 rfl) ?_
  refine dq_iastN hx hb hK hW hS 16 0 ((dq_Un (by decide)).trans ((dq_Un (by decide)).trans ((dq_Un (by decide)).trans k16))) rfl cc_ (by omega) (by omega) dCl_add_40 (fun H locs hW hS => ?_)
  refine lv_aload_n hx hb dCl_add_41 rfl (lv_at hl 0 rfl) ?_
  refine lv_dup hx hb dCl_add_42 rfl ?_
  refine dq_get (D := D) (ci := 0) (v := .int (nI cc_)) (C := RCl) (T := TCl) (N := 5) hx hb hts hinCl hown hK hW 12 ((dq_Un (by decide)).trans ((dq_Un (by decide)).trans ((dq_Un (by decide)).trans ((dq_Un (by decide)).trans k12)))) rfl 4 (by decide) hf24 (fun _ h9 => h9) rfl dCl_add_43 ?_
  refine lv_iconst (v := (1)) hx hb dCl_add_46 (by decide) ?_
  refine lv_iadd hx hb dCl_add_47 ?_
  refine dq_top (y := nI (cc_ + 1)) (nI_1 cc_) ?_
  refine dq_put (D := D) (ci := 0) (v := .int (nI (cc_ + 1))) (ty := .int) (C := RCl) (T := TCl) (N := 5) hx hb hts hinCl tyCl tyCl_ok nmCl hown hK hW hS 12 ((dq_Un (by decide)).trans ((dq_Un (by decide)).trans ((dq_Un (by decide)).trans ((dq_Un (by decide)).trans k12)))) rfl 4 (by decide) hf24 (fun _ h9 => h9) rfl (by decide +kernel) rfl rfl (Nat.le_of_ble_eq_true rfl) dCl_add_48 (fun H locs hW hS => ?_)
  exact hret _ _ _ _ _ rfl hW hS dCl_add_51

set_option maxHeartbeats 4000000 in
set_option maxRecDepth 100000 in
/-- negate(numbers, count) -/
theorem c_negate (l : Launch) (D : va_G) (g : Nat → ClassId) (ad : Nat → Nat) (w : Nat → Option va_E) (sz : Nat) (a q : Nat) (f : Nat → Int32) (a9 : w a = some (.inl (g 0, 14, .inl f))) (hq : q ≤ 14) : Met l yDH_negate wsDH_negate ({ frames := 0, cells := 0, slots := 0, locals := 0 } : Room) (va_Pc [.ref (ad a), .int (nI q)] (dq_S D vwCl (dq_t g) ad w sz)) (va_Qv (fun u => u = dq_U w a (.inl (g 0, 14, .inl (mn_neg f q)))) (dq_B D vwCl (dq_t g) ad (dq_A ad w sz)) (dq_A ad w sz)) 0 0 (dq_A ad w sz) := by
  refine dq_ofv (cc := cDH_negate) (maxL := 3) (by decide) rfl (Nat.le_of_ble_eq_true rfl) ?_
  intro p e s m below meth c A Q ls ⟨hx, hb, hml, hown, hts⟩ hnm hA hW hK hZ hl hret
  have hS : va_S A s.heap s.heap [] := va_S.rf
  have hl : lv_has ls 3 [(0, .ref (ad a)), (1, .int (nI q))] := hl
  refine lv_iconst (v := (nI 0)) hx hb dDH_negate_0 (by decide) ?_
  refine lv_istore_n (lv' := [(2, .int (nI 0)), (0, .ref (ad a)), (1, .int (nI q))]) hx hb dDH_negate_1 rfl hl (by decide) rfl (fun ls hl => ?_)
  have hW : dq_W D vwCl ad (dq_U w a (.inl (g 0, 14, .inl (mn_neg f 0)))) A s.heap := dq_Wc (dq_Uid a9).symm hW
  have loop : ∀ (j : Nat) (k : Nat) (H : Heap) (locs : List Loc) (ls : Array Slot), q < k + j → k ≤ q → dq_W D vwCl ad (dq_U w a (.inl (g 0, 14, .inl (mn_neg f k)))) A H → va_S A s.heap H locs → lv_has ls 3 [(0, .ref (ad a)), (1, .int (nI q)), (2, .int (nI k))] → W p l e ({ frames := 0, cells := 0, slots := 0, locals := 0 } : Room) s m ([.ref (ad a), .int (nI q)] : List Value).toArray below meth c H locs 0 0 Q (F0 m 2 ls []) := by
    intro j
    induction j with
    | zero => intro k H locs ls hj hk hW hS hl; exact absurd hj (by omega)
    | succ j ih =>
      intro k H locs ls hj hk hW hS hl
      refine lv_iload_n hx hb dDH_negate_2 rfl (lv_at hl 2 rfl) ?_
      refine lv_iload_n hx hb dDH_negate_3 rfl (lv_at hl 1 rfl) ?_
      refine lv_icmp_ge (tgt := 26) hx hb dDH_negate_4 (by decide) (fun c1 => ?_) (fun c1 => ?_)
      · have hkn : q = k := by have q9 := (nI_leI (by omega) (by omega)).mp c1; omega
        subst hkn
        exact hret _ _ _ _ _ rfl hW hS dDH_negate_26
      · have hkn : k < q := by rcases Nat.lt_or_ge k q with q | q; exact q; exact absurd (nI_le q (by omega)) c1
        refine lv_iload_n hx hb dDH_negate_7 rfl (lv_at hl 2 rfl) ?_
        refine lv_aload_n hx hb dDH_negate_8 rfl (lv_at hl 0 rfl) ?_
        refine dq_alen hx hb hK hW a 0 dq_Us rfl (v := nI 14) rfl dDH_negate_9 ?_
        refine lv_icmp_ge (tgt := 26) hx hb dDH_negate_10 (by decide) (fun c2 => ?_) (fun c2 => ?_)
        · exact absurd ((nI_leI (by omega) (by omega)).mp c2) (by omega)
        · refine lv_aload_n hx hb dDH_negate_13 rfl (lv_at hl 0 rfl) ?_
          refine lv_iload_n hx hb dDH_negate_14 rfl (lv_at hl 2 rfl) ?_
          refine lv_aload_n hx hb dDH_negate_15 rfl (lv_at hl 0 rfl) ?_
          refine lv_iload_n hx hb dDH_negate_16 rfl (lv_at hl 2 rfl) ?_
          refine dq_ialdN hx hb hK hW a 0 dq_Us rfl k (by omega) (by omega) dDH_negate_17 ?_
          refine lv_ineg hx hb dDH_negate_18 ?_
          refine dq_iastN hx hb hK hW hS a 0 dq_Us rfl k (by omega) (by omega) dDH_negate_19 (fun H locs hW hS => ?_)
          rw [dq_UU] at hW
          refine lv_iinc (v := (nI (k + 1))) (lv' := [(2, .int (nI (k + 1))), (0, .ref (ad a)), (1, .int (nI q))]) hx hb dDH_negate_20 hl (k := 2) rfl (by show nI k + 1 = _; exact nI_1 _) (by decide) rfl (fun ls hl => ?_)
          refine lv_goto (tgt := 2) hx hb dDH_negate_23 (by decide) ?_
          exact ih (k + 1) _ _ _ (by omega) (by omega) (dq_Wc (by rw [mn_neg_s]) hW) hS (lv_sub hl [1, 2, 0] rfl)
  exact loop (q + 1) 0 _ _ _ (by omega) (Nat.zero_le _) hW hS (lv_sub hl [1, 2, 0] rfl)
