set_option maxHeartbeats 4000000 in
set_option maxRecDepth 100000 in
/-- Head.countThere() -/
theorem c_Head_countThere (l : Launch) (D : va_G) (g : Nat → ClassId) (ad : Nat → Nat) (w : Nat → Option va_E) (sz : Nat) (n : Nat) (hx_ hy_ hw_ : Nat → Int32) (f0 f1 f2 f3 : Int32) (h1 : w 1 = some (.inr (1, [.ref (ad 2), .ref (ad 3), .ref (ad 4), .int f0, .int f1, .int f2, .int f3]))) (h2 : w 2 = some (.inl (g 0, n, .inl hx_))) (h3 : w 3 = some (.inl (g 0, n, .inl hy_))) (h4 : w 4 = some (.inl (g 0, n, .inl hw_))) (hn : n ≤ 16) : Met l yHd_countThere wsHd_countThere ({ frames := 0, cells := 0, slots := 0, locals := 0 } : Room) (va_Pc [.ref (ad 1)] (dq_S D vwCl (dq_t g) ad w sz)) (va_Qi (fun r u => r = nI (mh_cnt hw_ n) ∧ u = w) (dq_B D vwCl (dq_t g) ad (dq_A ad w sz)) (dq_A ad w sz)) 0 0 (dq_A ad w sz) := by
  refine dq_ofi (cc := cHd_countThere) (maxL := 3) (by decide) rfl (Nat.le_of_ble_eq_true rfl) ?_
  intro p e s m below meth c A Q ls ⟨hx, hb, hml, hown, hts⟩ hnm hA hW hK hZ hl hret
  have hS : va_S A s.heap s.heap [] := va_S.rf
  have hl : lv_has ls 3 [(0, .ref (ad 1))] := hl
  have hf18 := hts _ (List.mem_cons_of_mem _ tw1_42)
  have hinHd : ∀ w ∈ u_ws RHd THd 7, w ∈ wsHd_countThere := fun w h => List.mem_cons_of_mem _ (inHd w h)
  refine lv_iconst (v := (nI 0)) hx hb dHd_countThere_0 (by decide) ?_
  refine lv_istore_n (lv' := [(1, .int (nI 0)), (0, .ref (ad 1))]) hx hb dHd_countThere_1 rfl hl (by decide) rfl (fun ls hl => ?_)
  refine lv_iconst (v := (nI 0)) hx hb dHd_countThere_2 (by decide) ?_
  refine lv_istore_n (lv' := [(2, .int (nI 0)), (1, .int (nI 0)), (0, .ref (ad 1))]) hx hb dHd_countThere_3 rfl hl (by decide) rfl (fun ls hl => ?_)
  have loop : ∀ (j : Nat) (k : Nat) (ls : Array Slot), n < k + j → k ≤ n → lv_has ls 3 [(0, .ref (ad 1)), (1, .int (nI (mh_cnt hw_ k))), (2, .int (nI k))] → W p l e ({ frames := 0, cells := 0, slots := 0, locals := 0 } : Room) s m ([.ref (ad 1)] : List Value).toArray below meth c s.heap [] 0 0 Q (F0 m 4 ls []) := by
    intro j
    induction j with
    | zero => intro k ls hj hk  hl; exact absurd hj (by omega)
    | succ j ih =>
      intro k ls hj hk  hl
      refine lv_iload_n hx hb dHd_countThere_4 rfl (lv_at hl 2 rfl) ?_
      refine lv_aload_n hx hb dHd_countThere_5 rfl (lv_at hl 0 rfl) ?_
      refine dq_get (D := D) (ci := 1) (v := .ref (ad 4)) (C := RHd) (T := THd) (N := 7) hx hb hts hinHd hown hK hW 1 h1 rfl 2 (by decide) hf18 (fun _ h9 => h9) rfl dHd_countThere_6 ?_
      refine dq_alen hx hb hK hW 4 0 h4 rfl (v := nI n) rfl dHd_countThere_9 ?_
      refine lv_icmp_ge (tgt := 31) hx hb dHd_countThere_10 (by decide) (fun c1 => ?_) (fun c1 => ?_)
      · have hkn : k = n := by have q := (nI_leI (by omega) (by omega)).mp c1; omega
        refine lv_iload_n hx hb dHd_countThere_31 rfl (lv_at hl 1 rfl) ?_
        exact hret _ _ _ _ _ _ ⟨by rw [hkn], rfl⟩ hW hS dHd_countThere_32
      · have hkn : k < n := by rcases Nat.lt_or_ge k n with q | q; exact q; exact absurd (nI_le q (by omega)) c1
        refine lv_aload_n hx hb dHd_countThere_13 rfl (lv_at hl 0 rfl) ?_
        refine dq_get (D := D) (ci := 1) (v := .ref (ad 4)) (C := RHd) (T := THd) (N := 7) hx hb hts hinHd hown hK hW 1 h1 rfl 2 (by decide) hf18 (fun _ h9 => h9) rfl dHd_countThere_14 ?_
        refine lv_iload_n hx hb dHd_countThere_17 rfl (lv_at hl 2 rfl) ?_
        refine dq_ialdN hx hb hK hW 4 0 h4 rfl k (by omega) (by omega) dHd_countThere_18 ?_
        refine lv_if_le (tgt := 25) hx hb dHd_countThere_19 (by decide) (fun c2 => ?_) (fun c2 => ?_)
        · have e1 : mh_cnt hw_ (k + 1) = mh_cnt hw_ k := if_pos c2
          refine lv_iinc (v := (nI (k + 1))) (lv' := [(2, .int (nI (k + 1))), (0, .ref (ad 1)), (1, .int (nI (mh_cnt hw_ k)))]) hx hb dHd_countThere_25 hl (k := 2) rfl (by show nI k + 1 = _; exact nI_1 _) (by decide) rfl (fun ls hl => ?_)
          refine lv_goto (tgt := 4) hx hb dHd_countThere_28 (by decide) ?_
          exact ih (k + 1) _ (by omega) (by omega)  (by rw [e1]; exact (lv_sub hl [1, 2, 0] rfl))
        · have e1 : mh_cnt hw_ (k + 1) = mh_cnt hw_ k + 1 := if_neg c2
          refine lv_iinc (v := (nI ((mh_cnt hw_ k) + 1))) (lv' := [(1, .int (nI ((mh_cnt hw_ k) + 1))), (0, .ref (ad 1)), (2, .int (nI k))]) hx hb dHd_countThere_22 hl (k := 1) rfl (by show nI (mh_cnt hw_ k) + 1 = _; exact nI_1 _) (by decide) rfl (fun ls hl => ?_)
          refine lv_iinc (v := (nI (k + 1))) (lv' := [(2, .int (nI (k + 1))), (1, .int (nI ((mh_cnt hw_ k) + 1))), (0, .ref (ad 1))]) hx hb dHd_countThere_25 hl (k := 2) rfl (by show nI k + 1 = _; exact nI_1 _) (by decide) rfl (fun ls hl => ?_)
          refine lv_goto (tgt := 4) hx hb dHd_countThere_28 (by decide) ?_
          exact ih (k + 1) _ (by omega) (by omega)  (by rw [e1]; exact (lv_sub hl [2, 1, 0] rfl))
  exact loop (n + 1) 0 _ (by omega) (Nat.zero_le _)  (lv_sub hl [2, 1, 0] rfl)
set_option maxHeartbeats 4000000 in
set_option maxRecDepth 100000 in
/-- Head.spindleAt(x, y, width) -/
theorem c_Head_spindleAt (l : Launch) (D : va_G) (g : Nat → ClassId) (ad : Nat → Nat) (w : Nat → Option va_E) (sz : Nat) (n : Nat) (hx_ hy_ hw_ : Nat → Int32) (f0 f1 f2 f3 : Int32) (a0 a1 a2 : Int32) (h1 : w 1 = some (.inr (1, [.ref (ad 2), .ref (ad 3), .ref (ad 4), .int f0, .int f1, .int f2, .int f3]))) (h2 : w 2 = some (.inl (g 0, n, .inl hx_))) (h3 : w 3 = some (.inl (g 0, n, .inl hy_))) (h4 : w 4 = some (.inl (g 0, n, .inl hw_))) (hn : n ≤ 16) : Met l yHd_spindleAt wsHd_spindleAt ({ frames := 0, cells := 0, slots := 0, locals := 0 } : Room) (va_Pc [.ref (ad 1), .int a0, .int a1, .int a2] (dq_S D vwCl (dq_t g) ad w sz)) (va_Qi (fun r u => r = dq_fst (fun k => decide (hx_ k = a0) && decide (hy_ k = a1) && decide (hw_ k = a2)) n ∧ u = w) (dq_B D vwCl (dq_t g) ad (dq_A ad w sz)) (dq_A ad w sz)) 0 0 (dq_A ad w sz) := by
  refine dq_ofi (cc := cHd_spindleAt) (maxL := 5) (by decide) rfl (Nat.le_of_ble_eq_true rfl) ?_
  intro p e s m below meth c A Q ls ⟨hx, hb, hml, hown, hts⟩ hnm hA hW hK hZ hl hret
  have hS : va_S A s.heap s.heap [] := va_S.rf
  have hl : lv_has ls 5 [(0, .ref (ad 1)), (1, .int a0), (2, .int a1), (3, .int a2)] := hl
  have hf9 := hts _ (List.mem_cons_of_mem _ tw1_38)
  have hf15 := hts _ (List.mem_cons_of_mem _ tw1_40)
  have hf18 := hts _ (List.mem_cons_of_mem _ tw1_42)
  have hinHd : ∀ w ∈ u_ws RHd THd 7, w ∈ wsHd_spindleAt := fun w h => List.mem_cons_of_mem _ (inHd w h)
  refine lv_iconst (v := (nI 0)) hx hb dHd_spindleAt_0 (by decide) ?_
  refine lv_istore (lv' := [(4, .int (nI 0)), (0, .ref (ad 1)), (1, .int a0), (2, .int a1), (3, .int a2)]) hx hb dHd_spindleAt_1 hl (by decide) rfl (fun ls hl => ?_)
  have loop : ∀ (j : Nat) (k : Nat) (ls : Array Slot), n < k + j → k ≤ n → (∀ i, i < k → (fun k => decide (hx_ k = a0) && decide (hy_ k = a1) && decide (hw_ k = a2)) i = false) → lv_has ls 5 [(0, .ref (ad 1)), (1, .int a0), (2, .int a1), (3, .int a2), (4, .int (nI k))] → W p l e ({ frames := 0, cells := 0, slots := 0, locals := 0 } : Room) s m ([.ref (ad 1), .int a0, .int a1, .int a2] : List Value).toArray below meth c s.heap [] 0 0 Q (F0 m 3 ls []) := by
    intro j
    induction j with
    | zero => intro k ls hj hk hb9  hl; exact absurd hj (by omega)
    | succ j ih =>
      intro k ls hj hk hb9  hl
      refine lv_iload hx hb dHd_spindleAt_3 (lv_at hl 4 rfl) ?_
      refine lv_aload_n hx hb dHd_spindleAt_5 rfl (lv_at hl 0 rfl) ?_
      refine dq_get (D := D) (ci := 1) (v := .ref (ad 4)) (C := RHd) (T := THd) (N := 7) hx hb hts hinHd hown hK hW 1 h1 rfl 2 (by decide) hf18 (fun _ h9 => h9) rfl dHd_spindleAt_6 ?_
      refine dq_alen hx hb hK hW 4 0 h4 rfl (v := nI n) rfl dHd_spindleAt_9 ?_
      refine lv_icmp_ge (tgt := 55) hx hb dHd_spindleAt_10 (by decide) (fun c1 => ?_) (fun c1 => ?_)
      · have hkn : k = n := by have q := (nI_leI (by omega) (by omega)).mp c1; omega
        refine lv_iconst (v := (-1)) hx hb dHd_spindleAt_55 (by decide) ?_
        exact hret _ _ _ _ _ _ ⟨(dq_fst_none (by rw [← hkn]; exact hb9)).symm, rfl⟩ hW hS dHd_spindleAt_56
      · have hkn : k < n := by rcases Nat.lt_or_ge k n with q | q; exact q; exact absurd (nI_le q (by omega)) c1
        refine lv_aload_n hx hb dHd_spindleAt_13 rfl (lv_at hl 0 rfl) ?_
        refine dq_get (D := D) (ci := 1) (v := .ref (ad 2)) (C := RHd) (T := THd) (N := 7) hx hb hts hinHd hown hK hW 1 h1 rfl 0 (by decide) hf9 (fun _ h9 => h9) rfl dHd_spindleAt_14 ?_
        refine lv_iload hx hb dHd_spindleAt_17 (lv_at hl 4 rfl) ?_
        refine dq_ialdN hx hb hK hW 2 0 h2 rfl k (by omega) (by omega) dHd_spindleAt_19 ?_
        refine lv_iload_n hx hb dHd_spindleAt_20 rfl (lv_at hl 1 rfl) ?_
        refine lv_icmp_ne (tgt := 49) hx hb dHd_spindleAt_21 (by decide) (fun c2 => ?_) (fun c2 => ?_)
        · have e1 : (fun k => decide (hx_ k = a0) && decide (hy_ k = a1) && decide (hw_ k = a2)) k = false := by simp [c2]
          refine lv_iinc (v := (nI (k + 1))) (lv' := [(4, .int (nI (k + 1))), (0, .ref (ad 1)), (1, .int a0), (2, .int a1), (3, .int a2)]) hx hb dHd_spindleAt_49 hl (k := 4) rfl (by show nI k + 1 = _; exact nI_1 _) (by decide) rfl (fun ls hl => ?_)
          refine lv_goto (tgt := 3) hx hb dHd_spindleAt_52 (by decide) ?_
          exact ih (k + 1) _ (by omega) (by omega) (lt_s hb9 e1)  (lv_sub hl [1, 2, 3, 4, 0] rfl)
        · refine lv_aload_n hx hb dHd_spindleAt_24 rfl (lv_at hl 0 rfl) ?_
          refine dq_get (D := D) (ci := 1) (v := .ref (ad 3)) (C := RHd) (T := THd) (N := 7) hx hb hts hinHd hown hK hW 1 h1 rfl 1 (by decide) hf15 (fun _ h9 => h9) rfl dHd_spindleAt_25 ?_
          refine lv_iload hx hb dHd_spindleAt_28 (lv_at hl 4 rfl) ?_
          refine dq_ialdN hx hb hK hW 3 0 h3 rfl k (by omega) (by omega) dHd_spindleAt_30 ?_
          refine lv_iload_n hx hb dHd_spindleAt_31 rfl (lv_at hl 2 rfl) ?_
          refine lv_icmp_ne (tgt := 49) hx hb dHd_spindleAt_32 (by decide) (fun c3 => ?_) (fun c3 => ?_)
          · have e1 : (fun k => decide (hx_ k = a0) && decide (hy_ k = a1) && decide (hw_ k = a2)) k = false := by simp [c3]
            refine lv_iinc (v := (nI (k + 1))) (lv' := [(4, .int (nI (k + 1))), (0, .ref (ad 1)), (1, .int a0), (2, .int a1), (3, .int a2)]) hx hb dHd_spindleAt_49 hl (k := 4) rfl (by show nI k + 1 = _; exact nI_1 _) (by decide) rfl (fun ls hl => ?_)
            refine lv_goto (tgt := 3) hx hb dHd_spindleAt_52 (by decide) ?_
            exact ih (k + 1) _ (by omega) (by omega) (lt_s hb9 e1)  (lv_sub hl [1, 2, 3, 4, 0] rfl)
          · refine lv_aload_n hx hb dHd_spindleAt_35 rfl (lv_at hl 0 rfl) ?_
            refine dq_get (D := D) (ci := 1) (v := .ref (ad 4)) (C := RHd) (T := THd) (N := 7) hx hb hts hinHd hown hK hW 1 h1 rfl 2 (by decide) hf18 (fun _ h9 => h9) rfl dHd_spindleAt_36 ?_
            refine lv_iload hx hb dHd_spindleAt_39 (lv_at hl 4 rfl) ?_
            refine dq_ialdN hx hb hK hW 4 0 h4 rfl k (by omega) (by omega) dHd_spindleAt_41 ?_
            refine lv_iload_n hx hb dHd_spindleAt_42 rfl (lv_at hl 3 rfl) ?_
            refine lv_icmp_ne (tgt := 49) hx hb dHd_spindleAt_43 (by decide) (fun c4 => ?_) (fun c4 => ?_)
            · have e1 : (fun k => decide (hx_ k = a0) && decide (hy_ k = a1) && decide (hw_ k = a2)) k = false := by simp [c4]
              refine lv_iinc (v := (nI (k + 1))) (lv' := [(4, .int (nI (k + 1))), (0, .ref (ad 1)), (1, .int a0), (2, .int a1), (3, .int a2)]) hx hb dHd_spindleAt_49 hl (k := 4) rfl (by show nI k + 1 = _; exact nI_1 _) (by decide) rfl (fun ls hl => ?_)
              refine lv_goto (tgt := 3) hx hb dHd_spindleAt_52 (by decide) ?_
              exact ih (k + 1) _ (by omega) (by omega) (lt_s hb9 e1)  (lv_sub hl [1, 2, 3, 4, 0] rfl)
            · have e1 : (fun k => decide (hx_ k = a0) && decide (hy_ k = a1) && decide (hw_ k = a2)) k = true := by simp [c2, c3, c4]
              refine lv_iload hx hb dHd_spindleAt_46 (lv_at hl 4 rfl) ?_
              exact hret _ _ _ _ _ _ ⟨(dq_fst_at hkn e1 hb9).symm, rfl⟩ hW hS dHd_spindleAt_48
  exact loop (n + 1) 0 _ (by omega) (Nat.zero_le _) lt_0  (lv_sub hl [1, 2, 3, 4, 0] rfl)
set_option maxHeartbeats 4000000 in
set_option maxRecDepth 100000 in
/-- Head.measureFrame() -/
theorem c_Head_measureFrame (l : Launch) (D : va_G) (g : Nat → ClassId) (ad : Nat → Nat) (w : Nat → Option va_E) (sz : Nat) (n : Nat) (hx_ hy_ hw_ : Nat → Int32) (f0 f1 f2 f3 : Int32) (h1 : w 1 = some (.inr (1, [.ref (ad 2), .ref (ad 3), .ref (ad 4), .int f0, .int f1, .int f2, .int f3]))) (h2 : w 2 = some (.inl (g 0, n, .inl hx_))) (h3 : w 3 = some (.inl (g 0, n, .inl hy_))) (h4 : w 4 = some (.inl (g 0, n, .inl hw_))) (hn : n ≤ 16) : Met l yHd_measureFrame wsHd_measureFrame ({ frames := 1, cells := 0, slots := 0, locals := 24 } : Room) (va_Pc [.ref (ad 1)] (dq_S D vwCl (dq_t g) ad w sz)) (va_Qv (fun u => u = dq_U w 1 (.inr (1, [.ref (ad 2), .ref (ad 3), .ref (ad 4), .int (mh_lo hw_ hx_ n - 1), .int (mh_lo hw_ hy_ n - 1), .int (mh_hi hw_ hx_ n + 1), .int (mh_hi hw_ hy_ n + 1)]))) (dq_B D vwCl (dq_t g) ad (dq_A ad w sz)) (dq_A ad w sz)) 0 0 (dq_A ad w sz) := by
  refine dq_ofv (cc := cHd_measureFrame) (maxL := 6) (by decide) rfl (Nat.le_of_ble_eq_true rfl) ?_
  intro p e s m below meth c A Q ls ⟨hx, hb, hml, hown, hts⟩ hnm hA hW hK hZ hl hret
  have hS : va_S A s.heap s.heap [] := va_S.rf
  have hl : lv_has ls 6 [(0, .ref (ad 1))] := hl
  have hf9 := hts _ (List.mem_cons_of_mem _ tw1_38)
  have hf15 := hts _ (List.mem_cons_of_mem _ tw1_40)
  have hf18 := hts _ (List.mem_cons_of_mem _ tw1_42)
  have hf33 := hts _ (List.mem_cons_of_mem _ tw1_46)
  have hf37 := hts _ (List.mem_cons_of_mem _ tw1_48)
  have hf40 := hts _ (List.mem_cons_of_mem _ tw1_50)
  have hf43 := hts _ (List.mem_cons_of_mem _ tw1_52)
  have hinHd : ∀ w ∈ u_ws RHd THd 7, w ∈ wsHd_measureFrame := fun w h => List.mem_cons_of_mem _ (inHd w h)
  refine lv_sipush (v := (10000)) hx hb dHd_measureFrame_0 (by decide) ?_
  refine lv_istore_n (lv' := [(1, .int (10000)), (0, .ref (ad 1))]) hx hb dHd_measureFrame_3 rfl hl (by decide) rfl (fun ls hl => ?_)
  refine lv_sipush (v := (10000)) hx hb dHd_measureFrame_4 (by decide) ?_
  refine lv_istore_n (lv' := [(2, .int (10000)), (1, .int (10000)), (0, .ref (ad 1))]) hx hb dHd_measureFrame_7 rfl hl (by decide) rfl (fun ls hl => ?_)
  refine lv_sipush (v := (-10000)) hx hb dHd_measureFrame_8 (by decide) ?_
  refine lv_istore_n (lv' := [(3, .int (-10000)), (2, .int (10000)), (1, .int (10000)), (0, .ref (ad 1))]) hx hb dHd_measureFrame_11 rfl hl (by decide) rfl (fun ls hl => ?_)
  refine lv_sipush (v := (-10000)) hx hb dHd_measureFrame_12 (by decide) ?_
  refine lv_istore (lv' := [(4, .int (-10000)), (3, .int (-10000)), (2, .int (10000)), (1, .int (10000)), (0, .ref (ad 1))]) hx hb dHd_measureFrame_15 hl (by decide) rfl (fun ls hl => ?_)
  refine lv_iconst (v := (nI 0)) hx hb dHd_measureFrame_17 (by decide) ?_
  refine lv_istore (lv' := [(5, .int (nI 0)), (4, .int (-10000)), (3, .int (-10000)), (2, .int (10000)), (1, .int (10000)), (0, .ref (ad 1))]) hx hb dHd_measureFrame_18 hl (by decide) rfl (fun ls hl => ?_)
  have loop : ∀ (j : Nat) (k : Nat) (ls : Array Slot), n < k + j → k ≤ n → lv_has ls 6 [(0, .ref (ad 1)), (1, .int (mh_lo hw_ hx_ k)), (2, .int (mh_lo hw_ hy_ k)), (3, .int (mh_hi hw_ hx_ k)), (4, .int (mh_hi hw_ hy_ k)), (5, .int (nI k))] → W p l e ({ frames := 1, cells := 0, slots := 0, locals := 24 } : Room) s m ([.ref (ad 1)] : List Value).toArray below meth c s.heap [] 0 0 Q (F0 m 20 ls []) := by
    intro j
    induction j with
    | zero => intro k ls hj hk  hl; exact absurd hj (by omega)
    | succ j ih =>
      intro k ls hj hk  hl
      refine lv_iload hx hb dHd_measureFrame_20 (lv_at hl 5 rfl) ?_
      refine lv_aload_n hx hb dHd_measureFrame_22 rfl (lv_at hl 0 rfl) ?_
      refine dq_get (D := D) (ci := 1) (v := .ref (ad 4)) (C := RHd) (T := THd) (N := 7) hx hb hts hinHd hown hK hW 1 h1 rfl 2 (by decide) hf18 (fun _ h9 => h9) rfl dHd_measureFrame_23 ?_
      refine dq_alen hx hb hK hW 4 0 h4 rfl (v := nI n) rfl dHd_measureFrame_26 ?_
      refine lv_icmp_ge (tgt := 96) hx hb dHd_measureFrame_27 (by decide) (fun c1 => ?_) (fun c1 => ?_)
      · have hkn : n = k := by have q := (nI_leI (by omega) (by omega)).mp c1; omega
        subst hkn
        refine lv_aload_n hx hb dHd_measureFrame_96 rfl (lv_at hl 0 rfl) ?_
        refine lv_iload_n hx hb dHd_measureFrame_97 rfl (lv_at hl 1 rfl) ?_
        refine lv_iconst (v := (1)) hx hb dHd_measureFrame_98 (by decide) ?_
        refine lv_isub hx hb dHd_measureFrame_99 ?_
        refine dq_put (D := D) (ci := 1) (v := .int ((mh_lo hw_ hx_ n) - (1))) (ty := .int) (C := RHd) (T := THd) (N := 7) hx hb hts hinHd tyHd tyHd_ok nmHd hown hK hW hS 1 h1 rfl 3 (by decide) hf33 (fun _ h9 => h9) rfl (by decide +kernel) rfl rfl (Nat.le_of_ble_eq_true rfl) dHd_measureFrame_100 (fun H locs hW hS => ?_)
        refine lv_aload_n hx hb dHd_measureFrame_103 rfl (lv_at hl 0 rfl) ?_
        refine lv_iload_n hx hb dHd_measureFrame_104 rfl (lv_at hl 2 rfl) ?_
        refine lv_iconst (v := (1)) hx hb dHd_measureFrame_105 (by decide) ?_
        refine lv_isub hx hb dHd_measureFrame_106 ?_
        refine dq_put (D := D) (ci := 1) (v := .int ((mh_lo hw_ hy_ n) - (1))) (ty := .int) (C := RHd) (T := THd) (N := 7) hx hb hts hinHd tyHd tyHd_ok nmHd hown hK hW hS 1 dq_Us rfl 4 (by decide) hf37 (fun _ h9 => h9) rfl (by decide +kernel) rfl rfl (Nat.le_of_ble_eq_true rfl) dHd_measureFrame_107 (fun H locs hW hS => ?_)
        rw [dq_UU] at hW
        refine lv_aload_n hx hb dHd_measureFrame_110 rfl (lv_at hl 0 rfl) ?_
        refine lv_iload_n hx hb dHd_measureFrame_111 rfl (lv_at hl 3 rfl) ?_
        refine lv_iconst (v := (1)) hx hb dHd_measureFrame_112 (by decide) ?_
        refine lv_iadd hx hb dHd_measureFrame_113 ?_
        refine dq_put (D := D) (ci := 1) (v := .int ((mh_hi hw_ hx_ n) + (1))) (ty := .int) (C := RHd) (T := THd) (N := 7) hx hb hts hinHd tyHd tyHd_ok nmHd hown hK hW hS 1 dq_Us rfl 5 (by decide) hf40 (fun _ h9 => h9) rfl (by decide +kernel) rfl rfl (Nat.le_of_ble_eq_true rfl) dHd_measureFrame_114 (fun H locs hW hS => ?_)
        rw [dq_UU] at hW
        refine lv_aload_n hx hb dHd_measureFrame_117 rfl (lv_at hl 0 rfl) ?_
        refine lv_iload hx hb dHd_measureFrame_118 (lv_at hl 4 rfl) ?_
        refine lv_iconst (v := (1)) hx hb dHd_measureFrame_120 (by decide) ?_
        refine lv_iadd hx hb dHd_measureFrame_121 ?_
        refine dq_put (D := D) (ci := 1) (v := .int ((mh_hi hw_ hy_ n) + (1))) (ty := .int) (C := RHd) (T := THd) (N := 7) hx hb hts hinHd tyHd tyHd_ok nmHd hown hK hW hS 1 dq_Us rfl 6 (by decide) hf43 (fun _ h9 => h9) rfl (by decide +kernel) rfl rfl (Nat.le_of_ble_eq_true rfl) dHd_measureFrame_122 (fun H locs hW hS => ?_)
        rw [dq_UU] at hW
        exact hret _ _ _ _ _ rfl hW hS dHd_measureFrame_125
      · have hkn : k < n := by rcases Nat.lt_or_ge k n with q | q; exact q; exact absurd (nI_le q (by omega)) c1
        refine lv_aload_n hx hb dHd_measureFrame_30 rfl (lv_at hl 0 rfl) ?_
        refine dq_get (D := D) (ci := 1) (v := .ref (ad 4)) (C := RHd) (T := THd) (N := 7) hx hb hts hinHd hown hK hW 1 h1 rfl 2 (by decide) hf18 (fun _ h9 => h9) rfl dHd_measureFrame_31 ?_
        refine lv_iload hx hb dHd_measureFrame_34 (lv_at hl 5 rfl) ?_
        refine dq_ialdN hx hb hK hW 4 0 h4 rfl k (by omega) (by omega) dHd_measureFrame_36 ?_
        refine lv_if_le (tgt := 90) hx hb dHd_measureFrame_37 (by decide) (fun c2 => ?_) (fun c2 => ?_)
        · have e0 : mh_lo hw_ hx_ (k + 1) = mh_lo hw_ hx_ k := if_pos c2
          have e1 : mh_lo hw_ hy_ (k + 1) = mh_lo hw_ hy_ k := if_pos c2
          have e2 : mh_hi hw_ hx_ (k + 1) = mh_hi hw_ hx_ k := if_pos c2
          have e3 : mh_hi hw_ hy_ (k + 1) = mh_hi hw_ hy_ k := if_pos c2
          refine lv_iinc (v := (nI (k + 1))) (lv' := [(5, .int (nI (k + 1))), (0, .ref (ad 1)), (1, .int (mh_lo hw_ hx_ k)), (2, .int (mh_lo hw_ hy_ k)), (3, .int (mh_hi hw_ hx_ k)), (4, .int (mh_hi hw_ hy_ k))]) hx hb dHd_measureFrame_90 hl (k := 5) rfl (by show nI k + 1 = _; exact nI_1 _) (by decide) rfl (fun ls hl => ?_)
          refine lv_goto (tgt := 20) hx hb dHd_measureFrame_93 (by decide) ?_
          exact ih (k + 1) _ (by omega) (by omega)  (by rw [e0, e1, e2, e3]; exact (lv_sub hl [1, 2, 3, 4, 5, 0] rfl))
        · have e0 : mh_lo hw_ hx_ (k + 1) = (if hx_ k < mh_lo hw_ hx_ k then hx_ k else mh_lo hw_ hx_ k) := if_neg c2
          have e1 : mh_lo hw_ hy_ (k + 1) = (if hy_ k < mh_lo hw_ hy_ k then hy_ k else mh_lo hw_ hy_ k) := if_neg c2
          have e2 : mh_hi hw_ hx_ (k + 1) = (if mh_hi hw_ hx_ k < hx_ k then hx_ k else mh_hi hw_ hx_ k) := if_neg c2
          have e3 : mh_hi hw_ hy_ (k + 1) = (if mh_hi hw_ hy_ k < hy_ k then hy_ k else mh_hi hw_ hy_ k) := if_neg c2
          refine lv_iload_n hx hb dHd_measureFrame_40 rfl (lv_at hl 1 rfl) ?_
          refine lv_aload_n hx hb dHd_measureFrame_41 rfl (lv_at hl 0 rfl) ?_
          refine dq_get (D := D) (ci := 1) (v := .ref (ad 2)) (C := RHd) (T := THd) (N := 7) hx hb hts hinHd hown hK hW 1 h1 rfl 0 (by decide) hf9 (fun _ h9 => h9) rfl dHd_measureFrame_42 ?_
          refine lv_iload hx hb dHd_measureFrame_45 (lv_at hl 5 rfl) ?_
          refine dq_ialdN hx hb hK hW 2 0 h2 rfl k (by omega) (by omega) dHd_measureFrame_47 ?_
          refine va_mmin hx hb (by rw [hml]; exact hl.1.symm) hown (hts _ (List.mem_cons_of_mem _ tw2_226)) (hts _ (List.mem_cons_of_mem _ tw1_29)) (hts _ (List.mem_cons_of_mem _ tw1_3)) (hts _ (List.mem_cons_of_mem _ tw1_30)) (Nat.le_of_ble_eq_true rfl) (Nat.le_of_ble_eq_true rfl) (Nat.zero_le _) (Nat.zero_le _) dHd_measureFrame_48 ?_
          refine lv_istore_n (lv' := [(1, .int (if (hx_ k) < (mh_lo hw_ hx_ k) then (hx_ k) else (mh_lo hw_ hx_ k))), (0, .ref (ad 1)), (2, .int (mh_lo hw_ hy_ k)), (3, .int (mh_hi hw_ hx_ k)), (4, .int (mh_hi hw_ hy_ k)), (5, .int (nI k))]) hx hb dHd_measureFrame_51 rfl hl (by decide) rfl (fun ls hl => ?_)
          refine lv_iload_n hx hb dHd_measureFrame_52 rfl (lv_at hl 2 rfl) ?_
          refine lv_aload_n hx hb dHd_measureFrame_53 rfl (lv_at hl 1 rfl) ?_
          refine dq_get (D := D) (ci := 1) (v := .ref (ad 3)) (C := RHd) (T := THd) (N := 7) hx hb hts hinHd hown hK hW 1 h1 rfl 1 (by decide) hf15 (fun _ h9 => h9) rfl dHd_measureFrame_54 ?_
          refine lv_iload hx hb dHd_measureFrame_57 (lv_at hl 5 rfl) ?_
          refine dq_ialdN hx hb hK hW 3 0 h3 rfl k (by omega) (by omega) dHd_measureFrame_59 ?_
          refine va_mmin hx hb (by rw [hml]; exact hl.1.symm) hown (hts _ (List.mem_cons_of_mem _ tw2_226)) (hts _ (List.mem_cons_of_mem _ tw1_29)) (hts _ (List.mem_cons_of_mem _ tw1_3)) (hts _ (List.mem_cons_of_mem _ tw1_30)) (Nat.le_of_ble_eq_true rfl) (Nat.le_of_ble_eq_true rfl) (Nat.zero_le _) (Nat.zero_le _) dHd_measureFrame_60 ?_
          refine lv_istore_n (lv' := [(2, .int (if (hy_ k) < (mh_lo hw_ hy_ k) then (hy_ k) else (mh_lo hw_ hy_ k))), (1, .int (if (hx_ k) < (mh_lo hw_ hx_ k) then (hx_ k) else (mh_lo hw_ hx_ k))), (0, .ref (ad 1)), (3, .int (mh_hi hw_ hx_ k)), (4, .int (mh_hi hw_ hy_ k)), (5, .int (nI k))]) hx hb dHd_measureFrame_63 rfl hl (by decide) rfl (fun ls hl => ?_)
          refine lv_iload_n hx hb dHd_measureFrame_64 rfl (lv_at hl 3 rfl) ?_
          refine lv_aload_n hx hb dHd_measureFrame_65 rfl (lv_at hl 2 rfl) ?_
          refine dq_get (D := D) (ci := 1) (v := .ref (ad 2)) (C := RHd) (T := THd) (N := 7) hx hb hts hinHd hown hK hW 1 h1 rfl 0 (by decide) hf9 (fun _ h9 => h9) rfl dHd_measureFrame_66 ?_
          refine lv_iload hx hb dHd_measureFrame_69 (lv_at hl 5 rfl) ?_
          refine dq_ialdN hx hb hK hW 2 0 h2 rfl k (by omega) (by omega) dHd_measureFrame_71 ?_
          refine va_mmax hx hb (by rw [hml]; exact hl.1.symm) hown (hts _ (List.mem_cons_of_mem _ tw2_227)) (hts _ (List.mem_cons_of_mem _ tw1_32)) (hts _ (List.mem_cons_of_mem _ tw1_3)) (hts _ (List.mem_cons_of_mem _ tw1_33)) (Nat.le_of_ble_eq_true rfl) (Nat.le_of_ble_eq_true rfl) (Nat.zero_le _) (Nat.zero_le _) dHd_measureFrame_72 ?_
          refine lv_istore_n (lv' := [(3, .int (if (mh_hi hw_ hx_ k) < (hx_ k) then (hx_ k) else (mh_hi hw_ hx_ k))), (2, .int (if (hy_ k) < (mh_lo hw_ hy_ k) then (hy_ k) else (mh_lo hw_ hy_ k))), (1, .int (if (hx_ k) < (mh_lo hw_ hx_ k) then (hx_ k) else (mh_lo hw_ hx_ k))), (0, .ref (ad 1)), (4, .int (mh_hi hw_ hy_ k)), (5, .int (nI k))]) hx hb dHd_measureFrame_75 rfl hl (by decide) rfl (fun ls hl => ?_)
          refine lv_iload hx hb dHd_measureFrame_76 (lv_at hl 4 rfl) ?_
          refine lv_aload_n hx hb dHd_measureFrame_78 rfl (lv_at hl 3 rfl) ?_
          refine dq_get (D := D) (ci := 1) (v := .ref (ad 3)) (C := RHd) (T := THd) (N := 7) hx hb hts hinHd hown hK hW 1 h1 rfl 1 (by decide) hf15 (fun _ h9 => h9) rfl dHd_measureFrame_79 ?_
          refine lv_iload hx hb dHd_measureFrame_82 (lv_at hl 5 rfl) ?_
          refine dq_ialdN hx hb hK hW 3 0 h3 rfl k (by omega) (by omega) dHd_measureFrame_84 ?_
          refine va_mmax hx hb (by rw [hml]; exact hl.1.symm) hown (hts _ (List.mem_cons_of_mem _ tw2_227)) (hts _ (List.mem_cons_of_mem _ tw1_32)) (hts _ (List.mem_cons_of_mem _ tw1_3)) (hts _ (List.mem_cons_of_mem _ tw1_33)) (Nat.le_of_ble_eq_true rfl) (Nat.le_of_ble_eq_true rfl) (Nat.zero_le _) (Nat.zero_le _) dHd_measureFrame_85 ?_
          refine lv_istore (lv' := [(4, .int (if (mh_hi hw_ hy_ k) < (hy_ k) then (hy_ k) else (mh_hi hw_ hy_ k))), (3, .int (if (mh_hi hw_ hx_ k) < (hx_ k) then (hx_ k) else (mh_hi hw_ hx_ k))), (2, .int (if (hy_ k) < (mh_lo hw_ hy_ k) then (hy_ k) else (mh_lo hw_ hy_ k))), (1, .int (if (hx_ k) < (mh_lo hw_ hx_ k) then (hx_ k) else (mh_lo hw_ hx_ k))), (0, .ref (ad 1)), (5, .int (nI k))]) hx hb dHd_measureFrame_88 hl (by decide) rfl (fun ls hl => ?_)
          refine lv_iinc (v := (nI (k + 1))) (lv' := [(5, .int (nI (k + 1))), (4, .int (if (mh_hi hw_ hy_ k) < (hy_ k) then (hy_ k) else (mh_hi hw_ hy_ k))), (3, .int (if (mh_hi hw_ hx_ k) < (hx_ k) then (hx_ k) else (mh_hi hw_ hx_ k))), (2, .int (if (hy_ k) < (mh_lo hw_ hy_ k) then (hy_ k) else (mh_lo hw_ hy_ k))), (1, .int (if (hx_ k) < (mh_lo hw_ hx_ k) then (hx_ k) else (mh_lo hw_ hx_ k))), (0, .ref (ad 1))]) hx hb dHd_measureFrame_90 hl (k := 5) rfl (by show nI k + 1 = _; exact nI_1 _) (by decide) rfl (fun ls hl => ?_)
          refine lv_goto (tgt := 20) hx hb dHd_measureFrame_93 (by decide) ?_
          exact ih (k + 1) _ (by omega) (by omega)  (by rw [e0, e1, e2, e3]; exact (lv_sub hl [5, 4, 3, 2, 1, 0] rfl))
  exact loop (n + 1) 0 _ (by omega) (Nat.zero_le _)  (lv_sub hl [5, 4, 3, 2, 1, 0] rfl)
