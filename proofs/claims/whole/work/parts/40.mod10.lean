set_option maxHeartbeats 4000000 in
set_option maxRecDepth 100000 in
/-- findOrder() -/
theorem m_findOrder (l : Launch) (D : va_G) (g : Nat → ClassId) (ad : Nat → Nat) (w : Nat → Option va_E) (sz : Nat) (cd : Int32) (n hn cn : Nat) (pl : Int32) (tn : Nat) (sg : Int32) (wy : Int64) (tX tY tF tS : Nat → Int32) (od : Nat → Int32) (rs : Nat → Int64) (G : Nat → Nat → Int64) (oN VS : Nat → Nat) (m100 : w 100 = some (.inr (8, [.int cd, .int (nI n), .ref (ad 102), .ref (ad 103), .ref (ad 104), .int (nI hn), .ref (ad 106), .ref (ad 107), .ref (ad 108), .ref (ad 109), .ref (ad 110), .ref (ad 111), .int (nI cn), .ref (ad 113), .int pl, .int (nI tn), .ref (ad 116), .ref (ad 117), .ref (ad 118), .ref (ad 119), .int sg, .ref (ad 121), .long wy, .ref (ad 123), .ref (ad 124), .ref (ad 125), .ref (ad 126), .ref (ad 127), .ref (ad 128)]))) (m116 : w 116 = some (.inl (g 0, 14, .inl tX))) (m117 : w 117 = some (.inl (g 0, 14, .inl tY))) (m121 : w 121 = some (.inl (g 0, 14, .inl od))) (m128 : w 128 = some (.inl (g 2, 10240, .inr (.inl rs)))) (ht14 : tn ≤ 14) (hG : tn ≤ 10 → ∀ S, 0 < S → S < 2 ^ tn → ∀ t, t < tn → G S t = mo_b tX tY G tn S t tn) (hO : tn ≤ 10 → mo_O tX tY G oN VS tn) (hown9 : 10 < tn → ∀ i, i < tn → oN i = i) : Met l yMo_findOrder wsMo_findOrder ({ frames := 3, cells := 0, slots := 0, locals := 80 } : Room) (va_Pc [.ref (ad 100)] (dq_S D vwCl (dq_t g) ad w sz)) (va_Qv (fun u => ∃ rs2 : Nat → Int64, u = dq_U (dq_U (dq_U w 121 (.inl (g 0, 14, .inl (sp_w od (fun i => nI (oN i)) 0 tn)))) 128 (.inl (g 2, 10240, .inr (.inl rs2)))) 100 (.inr (8, [.int cd, .int (nI n), .ref (ad 102), .ref (ad 103), .ref (ad 104), .int (nI hn), .ref (ad 106), .ref (ad 107), .ref (ad 108), .ref (ad 109), .ref (ad 110), .ref (ad 111), .int (nI cn), .ref (ad 113), .int pl, .int (nI tn), .ref (ad 116), .ref (ad 117), .ref (ad 118), .ref (ad 119), .int sg, .ref (ad 121), .long (mo_way tX tY oN tn), .ref (ad 123), .ref (ad 124), .ref (ad 125), .ref (ad 126), .ref (ad 127), .ref (ad 128)]))) (dq_B D vwCl (dq_t g) ad (dq_A ad w sz)) (dq_A ad w sz)) 0 0 (dq_A ad w sz) := by
  refine dq_ofv (cc := cMo_findOrder) (maxL := 8) (by decide) rfl (Nat.le_of_ble_eq_true rfl) ?_
  intro p e s m below meth c A Q ls ⟨hx, hb, hml, hown, hts⟩ hnm hA hW hK hZ hl hret
  have hS : va_S A s.heap s.heap [] := va_S.rf
  have hl : lv_has ls 8 [(0, .ref (ad 100))] := hl
  have hf41 := hts _ (List.mem_cons_of_mem _ tw3_170)
  have hf44 := hts _ (List.mem_cons_of_mem _ tw3_171)
  have hf53 := hts _ (List.mem_cons_of_mem _ tw3_175)
  have hf71 := hts _ (List.mem_cons_of_mem _ tw3_182)
  have hf127 := hts _ (List.mem_cons_of_mem _ tw3_169)
  have hf146 := hts _ (List.mem_cons_of_mem _ tw3_176)
  have hinMo : ∀ w ∈ u_ws RMo TMo 29, w ∈ wsMo_findOrder := fun w h => List.mem_cons_of_mem _ (inMo w h)
  have hoN : ∀ i, i < tn → oN i < tn := fun i hi => by rcases Nat.lt_or_ge 10 tn with q9 | q9; (rw [hown9 q9 i hi]; exact hi); exact ((hO q9).2 i hi).1
  have JW : ∀ (rs2 : Nat → Int64) (H : Heap) (locs : List Loc) (ls : Array Slot), dq_W D vwCl ad (dq_U (dq_U w 121 (.inl (g 0, 14, .inl (sp_w od (fun i => nI (oN i)) 0 tn)))) 128 (.inl (g 2, 10240, .inr (.inl rs2)))) A H → va_S A s.heap H locs → lv_has ls 8 [(0, .ref (ad 100))] → W p l e ({ frames := 3, cells := 0, slots := 0, locals := 80 } : Room) s m ([.ref (ad 100)] : List Value).toArray below meth c H locs 0 0 Q (F0 m 174 ls []) := by
    intro rs2 H locs ls  hW hS hl
    refine lv_aload_n hx hb dMo_findOrder_174 rfl (lv_at hl 0 rfl) ?_
    refine lv_lconst (v := 0) hx hb dMo_findOrder_175 (by decide) ?_
    refine dq_put (D := D) (ci := 8) (v := .long 0) (ty := .long) (C := RMo) (T := TMo) (N := 29) hx hb hts hinMo tyMo tyMo_ok nmMo hown hK hW hS 100 ((dq_Un (by decide)).trans ((dq_Un (by decide)).trans m100)) rfl 22 (by decide) hf146 (fun _ h9 => h9) rfl (by decide +kernel) rfl rfl (Nat.le_of_ble_eq_true rfl) dMo_findOrder_176 (fun H locs hW hS => ?_)
    refine lv_iconst (v := (nI 0)) hx hb dMo_findOrder_179 (by decide) ?_
    refine lv_istore_n (lv' := [(1, .int (nI 0)), (0, .ref (ad 100))]) hx hb dMo_findOrder_180 rfl hl (by decide) rfl (fun ls hl => ?_)
    have loop : ∀ (j : Nat) (k : Nat) (H : Heap) (locs : List Loc) (ls : Array Slot), tn < k + j → k ≤ tn → dq_W D vwCl ad (dq_U (dq_U (dq_U w 121 (.inl (g 0, 14, .inl (sp_w od (fun i => nI (oN i)) 0 tn)))) 128 (.inl (g 2, 10240, .inr (.inl rs2)))) 100 (.inr (8, [.int cd, .int (nI n), .ref (ad 102), .ref (ad 103), .ref (ad 104), .int (nI hn), .ref (ad 106), .ref (ad 107), .ref (ad 108), .ref (ad 109), .ref (ad 110), .ref (ad 111), .int (nI cn), .ref (ad 113), .int pl, .int (nI tn), .ref (ad 116), .ref (ad 117), .ref (ad 118), .ref (ad 119), .int sg, .ref (ad 121), .long (mo_way tX tY oN k), .ref (ad 123), .ref (ad 124), .ref (ad 125), .ref (ad 126), .ref (ad 127), .ref (ad 128)]))) A H → va_S A s.heap H locs → lv_has ls 8 [(0, .ref (ad 100)), (1, .int (nI k))] → W p l e ({ frames := 3, cells := 0, slots := 0, locals := 80 } : Room) s m ([.ref (ad 100)] : List Value).toArray below meth c H locs 0 0 Q (F0 m 181 ls []) := by
      intro j
      induction j with
      | zero => intro k H locs ls hj hk hW hS hl; exact absurd hj (by omega)
      | succ j ih =>
        intro k H locs ls hj hk hW hS hl
        refine lv_iload_n hx hb dMo_findOrder_181 rfl (lv_at hl 1 rfl) ?_
        refine lv_aload_n hx hb dMo_findOrder_182 rfl (lv_at hl 0 rfl) ?_
        refine dq_get (D := D) (ci := 8) (v := .int (nI tn)) (C := RMo) (T := TMo) (N := 29) hx hb hts hinMo hown hK hW 100 dq_Us rfl 15 (by decide) hf127 (fun _ h9 => h9) rfl dMo_findOrder_183 ?_
        refine lv_icmp_ge (tgt := 258) hx hb dMo_findOrder_186 (by decide) (fun c1 => ?_) (fun c1 => ?_)
        · have hkn : tn = k := by have q9 := (nI_leI (by omega) (by omega)).mp c1; omega
          subst hkn
          exact hret _ _ _ _ _ ⟨rs2, rfl⟩ hW hS dMo_findOrder_258
        · have hkt : k < tn := by rcases Nat.lt_or_ge k tn with q9 | q9; exact q9; exact absurd (nI_le q9 (by omega)) c1
          have hok := hoN k hkt
          have J : ∀ (H : Heap) (locs : List Loc) (ls : Array Slot), dq_W D vwCl ad (dq_U (dq_U (dq_U w 121 (.inl (g 0, 14, .inl (sp_w od (fun i => nI (oN i)) 0 tn)))) 128 (.inl (g 2, 10240, .inr (.inl rs2)))) 100 (.inr (8, [.int cd, .int (nI n), .ref (ad 102), .ref (ad 103), .ref (ad 104), .int (nI hn), .ref (ad 106), .ref (ad 107), .ref (ad 108), .ref (ad 109), .ref (ad 110), .ref (ad 111), .int (nI cn), .ref (ad 113), .int pl, .int (nI tn), .ref (ad 116), .ref (ad 117), .ref (ad 118), .ref (ad 119), .int sg, .ref (ad 121), .long (mo_way tX tY oN k), .ref (ad 123), .ref (ad 124), .ref (ad 125), .ref (ad 126), .ref (ad 127), .ref (ad 128)]))) A H → va_S A s.heap H locs → lv_has ls 8 [(0, .ref (ad 100)), (1, .int (nI k))] → W p l e ({ frames := 3, cells := 0, slots := 0, locals := 80 } : Room) s m ([.ref (ad 100)] : List Value).toArray below meth c H locs 0 0 Q (F0 m 248 ls [.long (mo_step tX tY oN k (oN k)), .long (mo_way tX tY oN k), .ref (ad 100)]) := by
            intro  H locs ls  hW hS hl
            refine lv_ladd hx hb dMo_findOrder_248 ?_
            refine dq_put (D := D) (ci := 8) (v := .long ((mo_way tX tY oN k) + (mo_step tX tY oN k (oN k)))) (ty := .long) (C := RMo) (T := TMo) (N := 29) hx hb hts hinMo tyMo tyMo_ok nmMo hown hK hW hS 100 dq_Us rfl 22 (by decide) hf146 (fun _ h9 => h9) rfl (by decide +kernel) rfl rfl (Nat.le_of_ble_eq_true rfl) dMo_findOrder_249 (fun H locs hW hS => ?_)
            rw [dq_UU] at hW
            refine lv_iinc (v := (nI (k + 1))) (lv' := [(1, .int (nI (k + 1))), (0, .ref (ad 100))]) hx hb dMo_findOrder_252 hl (k := 1) rfl (by show nI k + 1 = _; exact nI_1 _) (by decide) rfl (fun ls hl => ?_)
            refine lv_goto (tgt := 181) hx hb dMo_findOrder_255 (by decide) ?_
            exact ih (k + 1) _ _ _ (by omega) (by omega) hW hS (lv_sub hl [1, 0] rfl)
          refine lv_aload_n hx hb dMo_findOrder_189 rfl (lv_at hl 0 rfl) ?_
          refine lv_dup hx hb dMo_findOrder_190 rfl ?_
          refine dq_get (D := D) (ci := 8) (v := .long (mo_way tX tY oN k)) (C := RMo) (T := TMo) (N := 29) hx hb hts hinMo hown hK hW 100 dq_Us rfl 22 (by decide) hf146 (fun _ h9 => h9) rfl dMo_findOrder_191 ?_
          refine lv_iload_n hx hb dMo_findOrder_194 rfl (lv_at hl 1 rfl) ?_
          refine lv_if_ne (tgt := 230) hx hb dMo_findOrder_195 (by decide) (fun d6 => ?_) (fun d6 => ?_)
          · have hi0 : ¬ k = 0 := fun h9 => d6 (by rw [h9]; rfl)
            have hop := hoN (k - 1) (by omega)
            refine lv_aload_n hx hb dMo_findOrder_230 rfl (lv_at hl 0 rfl) ?_
            refine lv_aload_n hx hb dMo_findOrder_231 rfl (lv_at hl 0 rfl) ?_
            refine dq_get (D := D) (ci := 8) (v := .ref (ad 121)) (C := RMo) (T := TMo) (N := 29) hx hb hts hinMo hown hK hW 100 dq_Us rfl 21 (by decide) hf53 (fun _ h9 => h9) rfl dMo_findOrder_232 ?_
            refine lv_iload_n hx hb dMo_findOrder_235 rfl (lv_at hl 1 rfl) ?_
            refine lv_iconst (v := (1)) hx hb dMo_findOrder_236 (by decide) ?_
            refine lv_isub hx hb dMo_findOrder_237 ?_
            refine dq_top (y := nI (k - 1)) (pk_sub (b := 1) (by omega)) ?_
            refine dq_ialdN hx hb hK hW 121 0 ((dq_Un (by decide)).trans ((dq_Un (by decide)).trans dq_Us)) rfl (k - 1) (by omega) (by omega) dMo_findOrder_238 ?_
            refine dq_top (y := nI (oN (k - 1))) (by unfold sp_w; rw [if_pos (by omega)]; try rfl) ?_
            refine lv_aload_n hx hb dMo_findOrder_239 rfl (lv_at hl 0 rfl) ?_
            refine dq_get (D := D) (ci := 8) (v := .ref (ad 121)) (C := RMo) (T := TMo) (N := 29) hx hb hts hinMo hown hK hW 100 dq_Us rfl 21 (by decide) hf53 (fun _ h9 => h9) rfl dMo_findOrder_240 ?_
            refine lv_iload_n hx hb dMo_findOrder_243 rfl (lv_at hl 1 rfl) ?_
            refine dq_ialdN hx hb hK hW 121 0 ((dq_Un (by decide)).trans ((dq_Un (by decide)).trans dq_Us)) rfl k (by omega) (by omega) dMo_findOrder_244 ?_
            refine dq_top (y := nI (oN k)) (by unfold sp_w; rw [if_pos (by omega)]; try rfl) ?_
            refine dq_calll (va_runV (As := [.int (nI (oN (k - 1))), .int (nI (oN k))]) (rest := [.long (mo_way tX tY oN k), .ref (ad 100)]) ⟨hx, hb, hml, hown, hts⟩ (m_between l D g ad (dq_U (dq_U (dq_U w 121 (.inl (g 0, 14, .inl (sp_w od (fun i => nI (oN i)) 0 tn)))) 128 (.inl (g 2, 10240, .inr (.inl rs2)))) 100 (.inr (8, [.int cd, .int (nI n), .ref (ad 102), .ref (ad 103), .ref (ad 104), .int (nI hn), .ref (ad 106), .ref (ad 107), .ref (ad 108), .ref (ad 109), .ref (ad 110), .ref (ad 111), .int (nI cn), .ref (ad 113), .int pl, .int (nI tn), .ref (ad 116), .ref (ad 117), .ref (ad 118), .ref (ad 119), .int sg, .ref (ad 121), .long (mo_way tX tY oN k), .ref (ad 123), .ref (ad 124), .ref (ad 125), .ref (ad 126), .ref (ad 127), .ref (ad 128)]))) _ cd n hn cn pl tn sg (mo_way tX tY oN k) tX tY tF tS (oN (k - 1)) (oN k) dq_Us ((dq_Un (by decide)).trans ((dq_Un (by decide)).trans ((dq_Un (by decide)).trans m116))) ((dq_Un (by decide)).trans ((dq_Un (by decide)).trans ((dq_Un (by decide)).trans m117))) (by omega) (by omega)) (cwV 2 hts (dq_giV tw4_72 tw4_74 twp_23 tw1_10 tw4_75) rfl rfl rfl (by decide +kernel) ⟨Nat.le_of_ble_eq_true rfl, Nat.le_of_ble_eq_true rfl⟩) (dq_preV (ci := 8) hW hS hA hK hZ dq_Us rfl rfl) rfl rfl hl.1 rfl (lv_room (Nat.le_of_ble_eq_true rfl)) dMo_findOrder_245 ⟨Nat.zero_le _, Nat.zero_le _⟩) hW hS hA (fun r2 u_9 H locs hp2 hW hS hz9 => ?_)
            obtain ⟨hr2, hu9⟩ := hp2
            rw [hu9] at hW
            subst hr2
            have e8 : mo_step tX tY oN k (oN k) = ms_bt tX tY (oN (k - 1)) (oN k) := if_neg hi0
            rw [e8] at J
            exact J  _ _ _  hW hS (lv_sub hl [0, 1] rfl)
          · have hi0 : k = 0 := (nI_eq (b := 0) (by omega) (by omega)).mp d6
            have ho0 : oN 0 < 14 := by have := hoN 0 (by omega); omega
            refine lv_aload_n hx hb dMo_findOrder_198 rfl (lv_at hl 0 rfl) ?_
            refine dq_get (D := D) (ci := 8) (v := .ref (ad 116)) (C := RMo) (T := TMo) (N := 29) hx hb hts hinMo hown hK hW 100 dq_Us rfl 16 (by decide) hf41 (fun _ h9 => h9) rfl dMo_findOrder_199 ?_
            refine lv_aload_n hx hb dMo_findOrder_202 rfl (lv_at hl 0 rfl) ?_
            refine dq_get (D := D) (ci := 8) (v := .ref (ad 121)) (C := RMo) (T := TMo) (N := 29) hx hb hts hinMo hown hK hW 100 dq_Us rfl 21 (by decide) hf53 (fun _ h9 => h9) rfl dMo_findOrder_203 ?_
            refine lv_iconst (v := (nI 0)) hx hb dMo_findOrder_206 (by decide) ?_
            refine dq_ialdN hx hb hK hW 121 0 ((dq_Un (by decide)).trans ((dq_Un (by decide)).trans dq_Us)) rfl 0 (by omega) (by omega) dMo_findOrder_207 ?_
            refine dq_top (y := nI (oN 0)) (by unfold sp_w; rw [if_pos (by omega)]; try rfl) ?_
            refine dq_ialdN hx hb hK hW 116 0 ((dq_Un (by decide)).trans ((dq_Un (by decide)).trans ((dq_Un (by decide)).trans m116))) rfl (oN 0) (by omega) (by omega) dMo_findOrder_208 ?_
            refine dq_calll (va_runS (As := [.int (tX (oN 0))]) (rest := [.long (mo_way tX tY oN k), .ref (ad 100)]) ⟨hx, hb, hml, hown, hts⟩ (m_size l D g ad (dq_U (dq_U (dq_U w 121 (.inl (g 0, 14, .inl (sp_w od (fun i => nI (oN i)) 0 tn)))) 128 (.inl (g 2, 10240, .inr (.inl rs2)))) 100 (.inr (8, [.int cd, .int (nI n), .ref (ad 102), .ref (ad 103), .ref (ad 104), .int (nI hn), .ref (ad 106), .ref (ad 107), .ref (ad 108), .ref (ad 109), .ref (ad 110), .ref (ad 111), .int (nI cn), .ref (ad 113), .int pl, .int (nI tn), .ref (ad 116), .ref (ad 117), .ref (ad 118), .ref (ad 119), .int sg, .ref (ad 121), .long (mo_way tX tY oN k), .ref (ad 123), .ref (ad 124), .ref (ad 125), .ref (ad 126), .ref (ad 127), .ref (ad 128)]))) _ (tX (oN 0))  ) (cwS 1 hts (dq_giS2 tw4_76 tw4_77 tw1_10 tw4_78) rfl rfl rfl (by decide +kernel) ⟨Nat.le_of_ble_eq_true rfl, Nat.le_of_ble_eq_true rfl⟩) (dq_preS hW hS hA hK hZ) rfl rfl hl.1 rfl (lv_room (Nat.le_of_ble_eq_true rfl)) dMo_findOrder_209 ⟨Nat.zero_le _, Nat.zero_le _⟩) hW hS hA (fun r1 u_9 H locs hp1 hW hS hz9 => ?_)
            obtain ⟨hr1, hu9⟩ := hp1
            rw [hu9] at hW
            subst hr1
            refine lv_aload_n hx hb dMo_findOrder_212 rfl (lv_at hl 0 rfl) ?_
            refine dq_get (D := D) (ci := 8) (v := .ref (ad 117)) (C := RMo) (T := TMo) (N := 29) hx hb hts hinMo hown hK hW 100 dq_Us rfl 17 (by decide) hf44 (fun _ h9 => h9) rfl dMo_findOrder_213 ?_
            refine lv_aload_n hx hb dMo_findOrder_216 rfl (lv_at hl 0 rfl) ?_
            refine dq_get (D := D) (ci := 8) (v := .ref (ad 121)) (C := RMo) (T := TMo) (N := 29) hx hb hts hinMo hown hK hW 100 dq_Us rfl 21 (by decide) hf53 (fun _ h9 => h9) rfl dMo_findOrder_217 ?_
            refine lv_iconst (v := (nI 0)) hx hb dMo_findOrder_220 (by decide) ?_
            refine dq_ialdN hx hb hK hW 121 0 ((dq_Un (by decide)).trans ((dq_Un (by decide)).trans dq_Us)) rfl 0 (by omega) (by omega) dMo_findOrder_221 ?_
            refine dq_top (y := nI (oN 0)) (by unfold sp_w; rw [if_pos (by omega)]; try rfl) ?_
            refine dq_ialdN hx hb hK hW 117 0 ((dq_Un (by decide)).trans ((dq_Un (by decide)).trans ((dq_Un (by decide)).trans m117))) rfl (oN 0) (by omega) (by omega) dMo_findOrder_222 ?_
            refine dq_calll (va_runS (As := [.int (tY (oN 0))]) (rest := [.long (ms_sz (tX (oN 0))), .long (mo_way tX tY oN k), .ref (ad 100)]) ⟨hx, hb, hml, hown, hts⟩ (m_size l D g ad (dq_U (dq_U (dq_U w 121 (.inl (g 0, 14, .inl (sp_w od (fun i => nI (oN i)) 0 tn)))) 128 (.inl (g 2, 10240, .inr (.inl rs2)))) 100 (.inr (8, [.int cd, .int (nI n), .ref (ad 102), .ref (ad 103), .ref (ad 104), .int (nI hn), .ref (ad 106), .ref (ad 107), .ref (ad 108), .ref (ad 109), .ref (ad 110), .ref (ad 111), .int (nI cn), .ref (ad 113), .int pl, .int (nI tn), .ref (ad 116), .ref (ad 117), .ref (ad 118), .ref (ad 119), .int sg, .ref (ad 121), .long (mo_way tX tY oN k), .ref (ad 123), .ref (ad 124), .ref (ad 125), .ref (ad 126), .ref (ad 127), .ref (ad 128)]))) _ (tY (oN 0))  ) (cwS 1 hts (dq_giS2 tw4_76 tw4_77 tw1_10 tw4_78) rfl rfl rfl (by decide +kernel) ⟨Nat.le_of_ble_eq_true rfl, Nat.le_of_ble_eq_true rfl⟩) (dq_preS hW hS hA hK hZ) rfl rfl hl.1 rfl (lv_room (Nat.le_of_ble_eq_true rfl)) dMo_findOrder_223 ⟨Nat.zero_le _, Nat.zero_le _⟩) hW hS hA (fun r2 u_9 H locs hp2 hW hS hz9 => ?_)
            obtain ⟨hr2, hu9⟩ := hp2
            rw [hu9] at hW
            subst hr2
            refine lv_ladd hx hb dMo_findOrder_226 ?_
            refine lv_goto (tgt := 248) hx hb dMo_findOrder_227 (by decide) ?_
            have e8 : mo_step tX tY oN k (oN k) = ms_sz (tX (oN 0)) + ms_sz (tY (oN 0)) := by rw [hi0]; exact if_pos rfl
            rw [e8] at J
            exact J  _ _ _  hW hS (lv_sub hl [0, 1] rfl)
    exact loop (tn + 1) 0 _ _ _ (by omega) (Nat.zero_le _) hW hS (lv_sub hl [1, 0] rfl)
  refine lv_aload_n hx hb dMo_findOrder_0 rfl (lv_at hl 0 rfl) ?_
  refine dq_get (D := D) (ci := 8) (v := .int (nI tn)) (C := RMo) (T := TMo) (N := 29) hx hb hts hinMo hown hK hW 100 m100 rfl 15 (by decide) hf127 (fun _ h9 => h9) rfl dMo_findOrder_1 ?_
  refine lv_bipush (v := (nI 10)) hx hb dMo_findOrder_4 (by decide) ?_
  refine lv_icmp_le (tgt := 35) hx hb dMo_findOrder_6 (by decide) (fun c0 => ?_) (fun c0 => ?_)
  · have ht10 : tn ≤ 10 := (nI_leI (by omega) (by omega)).mp c0
    have h1024 : 2 ^ tn ≤ 1024 := Nat.le_trans (Nat.pow_le_pow_right (by omega) ht10) (Nat.le_refl 1024)
    have h1 : 0 < 2 ^ tn := Nat.two_pow_pos tn
    refine lv_iconst (v := (1)) hx hb dMo_findOrder_35 (by decide) ?_
    refine lv_aload_n hx hb dMo_findOrder_36 rfl (lv_at hl 0 rfl) ?_
    refine dq_get (D := D) (ci := 8) (v := .int (nI tn)) (C := RMo) (T := TMo) (N := 29) hx hb hts hinMo hown hK hW 100 m100 rfl 15 (by decide) hf127 (fun _ h9 => h9) rfl dMo_findOrder_37 ?_
    refine lv_ishl hx hb dMo_findOrder_40 ?_
    refine dq_top (y := nI (2 ^ tn)) (dq_sh1 _ (by omega)) ?_
    refine lv_iconst (v := (1)) hx hb dMo_findOrder_41 (by decide) ?_
    refine lv_isub hx hb dMo_findOrder_42 ?_
    refine dq_top (y := nI (2 ^ tn - 1)) (pk_sub (b := 1) Nat.one_le_two_pow) ?_
    refine lv_istore_n (lv' := [(1, .int (nI (2 ^ tn - 1))), (0, .ref (ad 100))]) hx hb dMo_findOrder_43 rfl hl (by decide) rfl (fun ls hl => ?_)
    have hW : dq_W D vwCl ad (dq_U w 128 (.inl (g 2, 10240, .inr (.inl rs)))) A s.heap := dq_Wc (dq_Uid m128).symm hW
    have loop : ∀ (j : Nat) (S : Nat) (rs : Nat → Int64) (H : Heap) (locs : List Loc) (ls : Array Slot), S < j → S < 2 ^ tn → (∀ S2, S < S2 → S2 < 2 ^ tn → ∀ t, t < tn → rs (10 * S2 + t) = G S2 t) → dq_W D vwCl ad (dq_U w 128 (.inl (g 2, 10240, .inr (.inl rs)))) A H → va_S A s.heap H locs → lv_has ls 8 [(0, .ref (ad 100)), (1, .int (nI S))] → W p l e ({ frames := 3, cells := 0, slots := 0, locals := 80 } : Room) s m ([.ref (ad 100)] : List Value).toArray below meth c H locs 0 0 Q (F0 m 44 ls []) := by
      intro j
      induction j with
      | zero => intro S rs H locs ls hj hSl hR hW hS hl; exact absurd hj (by omega)
      | succ j ih =>
        intro S rs H locs ls hj hSl hR hW hS hl
        refine lv_iload_n hx hb dMo_findOrder_44 rfl (lv_at hl 1 rfl) ?_
        refine lv_if_le (tgt := 170) hx hb dMo_findOrder_45 (by decide) (fun c1 => ?_) (fun c1 => ?_)
        · have hS0 : S = 0 := by have q9 := (nI_leI (b := 0) (by omega) (by omega)).mp c1; omega
          subst hS0
          refine lv_aload_n hx hb dMo_findOrder_170 rfl (lv_at hl 0 rfl) ?_
          refine dq_callv (va_runV (As := []) (rest := []) ⟨hx, hb, hml, hown, hts⟩ (m_walkOrder l D g ad (dq_U w 128 (.inl (g 2, 10240, .inr (.inl rs)))) _ cd n hn cn pl tn sg wy tX tY tF tS od rs G oN VS ((dq_Un (by decide)).trans m100) ((dq_Un (by decide)).trans m116) ((dq_Un (by decide)).trans m117) ((dq_Un (by decide)).trans m121) dq_Us ht10 (fun S2 h9 => hR S2 h9) (hO ht10)) (cwV 0 hts (dq_giV tw4_79 tw4_81 twp_24 tw1_10 tw4_82) rfl rfl rfl (by decide +kernel) ⟨Nat.le_of_ble_eq_true rfl, Nat.le_of_ble_eq_true rfl⟩) (dq_preV (ci := 8) hW hS hA hK hZ ((dq_Un (by decide)).trans m100) rfl rfl) rfl rfl hl.1 rfl (lv_room (Nat.le_of_ble_eq_true rfl)) dMo_findOrder_171 ⟨Nat.zero_le _, Nat.zero_le _⟩) hW hS hA (fun u_9 H locs hp9 hW hS hz9 => ?_)
          rw [hp9] at hW
          have hW : dq_W D vwCl ad (dq_U (dq_U w 121 (.inl (g 0, 14, .inl (sp_w od (fun i => nI (oN i)) 0 tn)))) 128 (.inl (g 2, 10240, .inr (.inl rs)))) A H := dq_Wc (by funext j9; unfold dq_U; (repeat' split) <;> first | rfl | omega) hW
          exact JW rs _ _ _ hW hS (lv_sub hl [0] rfl)
        · have hSp : 0 < S := by rcases Nat.eq_zero_or_pos S with q9 | q9; exact absurd (by rw [q9]; decide) c1; exact q9
          refine lv_iconst (v := (nI 0)) hx hb dMo_findOrder_48 (by decide) ?_
          refine lv_istore_n (lv' := [(2, .int (nI 0)), (0, .ref (ad 100)), (1, .int (nI S))]) hx hb dMo_findOrder_49 rfl hl (by decide) rfl (fun ls hl => ?_)
          have loop2 : ∀ (j2 : Nat) (t : Nat) (rs : Nat → Int64) (H : Heap) (locs : List Loc) (ls : Array Slot), tn < t + j2 → t ≤ tn → (∀ S2, S < S2 → S2 < 2 ^ tn → ∀ t, t < tn → rs (10 * S2 + t) = G S2 t) → (∀ t2, t2 < t → rs (10 * S + t2) = G S t2) → dq_W D vwCl ad (dq_U w 128 (.inl (g 2, 10240, .inr (.inl rs)))) A H → va_S A s.heap H locs → lv_has ls 8 [(0, .ref (ad 100)), (1, .int (nI S)), (2, .int (nI t))] → W p l e ({ frames := 3, cells := 0, slots := 0, locals := 80 } : Room) s m ([.ref (ad 100)] : List Value).toArray below meth c H locs 0 0 Q (F0 m 50 ls []) := by
            intro j2
            induction j2 with
            | zero => intro t rs H locs ls hj2 hk2 hR hT hW hS hl; exact absurd hj2 (by omega)
            | succ j2 ih2 =>
              intro t rs H locs ls hj2 hk2 hR hT hW hS hl
              refine lv_iload_n hx hb dMo_findOrder_50 rfl (lv_at hl 2 rfl) ?_
              refine lv_aload_n hx hb dMo_findOrder_51 rfl (lv_at hl 0 rfl) ?_
              refine dq_get (D := D) (ci := 8) (v := .int (nI tn)) (C := RMo) (T := TMo) (N := 29) hx hb hts hinMo hown hK hW 100 ((dq_Un (by decide)).trans m100) rfl 15 (by decide) hf127 (fun _ h9 => h9) rfl dMo_findOrder_52 ?_
              refine lv_icmp_ge (tgt := 164) hx hb dMo_findOrder_55 (by decide) (fun d1 => ?_) (fun d1 => ?_)
              · have hkn : tn = t := by have q9 := (nI_leI (by omega) (by omega)).mp d1; omega
                subst hkn
                refine lv_iinc (v := (nI (S - 1))) (lv' := [(1, .int (nI (S - 1))), (0, .ref (ad 100)), (2, .int (nI tn))]) hx hb dMo_findOrder_164 hl (k := 1) rfl (by rw [show nI S = nI ((S - 1) + 1) by rw [Nat.sub_add_cancel (by omega)]]; exact pk_m1 _) (by decide) rfl (fun ls hl => ?_)
                refine lv_goto (tgt := 44) hx hb dMo_findOrder_167 (by decide) ?_
                exact ih (S - 1) rs _ _ _ (by omega) (by omega) (fun S2 h8 h9 t2 ht2 => by rcases Nat.lt_or_ge S S2 with q9 | q9; exact hR S2 q9 h9 t2 ht2; (rw [show S2 = S by omega]; exact hT t2 ht2)) hW hS (lv_sub hl [1, 0] rfl)
              · have htt : t < tn := by rcases Nat.lt_or_ge t tn with q9 | q9; exact q9; exact absurd (nI_le q9 (by omega)) d1
                have J7 : ∀ (H : Heap) (locs : List Loc) (ls : Array Slot), dq_W D vwCl ad (dq_U w 128 (.inl (g 2, 10240, .inr (.inl rs)))) A H → va_S A s.heap H locs → lv_has ls 8 [(0, .ref (ad 100)), (1, .int (nI S)), (2, .int (nI t))] → W p l e ({ frames := 3, cells := 0, slots := 0, locals := 80 } : Room) s m ([.ref (ad 100)] : List Value).toArray below meth c H locs 0 0 Q (F0 m 77 ls [.long (mo_b tX tY G tn S t 0)]) := by
                  intro  H locs ls  hW hS hl
                  refine lv_lstore_n (lv' := [(3, .long (mo_b tX tY G tn S t 0)), (0, .ref (ad 100)), (1, .int (nI S)), (2, .int (nI t))]) hx hb dMo_findOrder_77 rfl hl (by decide) rfl (fun ls hl => ?_)
                  refine lv_iconst (v := (nI 0)) hx hb dMo_findOrder_78 (by decide) ?_
                  refine lv_istore (lv' := [(5, .int (nI 0)), (3, .long (mo_b tX tY G tn S t 0)), (0, .ref (ad 100)), (1, .int (nI S)), (2, .int (nI t))]) hx hb dMo_findOrder_79 hl (by decide) rfl (fun ls hl => ?_)
                  have loop3 : ∀ (j3 : Nat) (k : Nat) (H : Heap) (locs : List Loc) (ls : Array Slot), tn < k + j3 → k ≤ tn → dq_W D vwCl ad (dq_U w 128 (.inl (g 2, 10240, .inr (.inl rs)))) A H → va_S A s.heap H locs → lv_has ls 8 [(0, .ref (ad 100)), (1, .int (nI S)), (2, .int (nI t)), (3, .long (mo_b tX tY G tn S t k)), (5, .int (nI k))] → W p l e ({ frames := 3, cells := 0, slots := 0, locals := 80 } : Room) s m ([.ref (ad 100)] : List Value).toArray below meth c H locs 0 0 Q (F0 m 81 ls []) := by
                    intro j3
                    induction j3 with
                    | zero => intro k H locs ls hj3 hk3 hW hS hl; exact absurd hj3 (by omega)
                    | succ j3 ih3 =>
                      intro k H locs ls hj3 hk3 hW hS hl
                      refine lv_iload hx hb dMo_findOrder_81 (lv_at hl 4 rfl) ?_
                      refine lv_aload_n hx hb dMo_findOrder_83 rfl (lv_at hl 0 rfl) ?_
                      refine dq_get (D := D) (ci := 8) (v := .int (nI tn)) (C := RMo) (T := TMo) (N := 29) hx hb hts hinMo hown hK hW 100 ((dq_Un (by decide)).trans m100) rfl 15 (by decide) hf127 (fun _ h9 => h9) rfl dMo_findOrder_84 ?_
                      refine lv_icmp_ge (tgt := 146) hx hb dMo_findOrder_87 (by decide) (fun d2 => ?_) (fun d2 => ?_)
                      · have hkn : tn = k := by have q9 := (nI_leI (by omega) (by omega)).mp d2; omega
                        subst hkn
                        rw [← hG ht10 S hSp hSl t htt] at hl
                        refine lv_aload_n hx hb dMo_findOrder_146 rfl (lv_at hl 0 rfl) ?_
                        refine dq_get (D := D) (ci := 8) (v := .ref (ad 128)) (C := RMo) (T := TMo) (N := 29) hx hb hts hinMo hown hK hW 100 ((dq_Un (by decide)).trans m100) rfl 28 (by decide) hf71 (fun _ h9 => h9) rfl dMo_findOrder_147 ?_
                        refine lv_bipush (v := (nI 10)) hx hb dMo_findOrder_150 (by decide) ?_
                        refine lv_iload_n hx hb dMo_findOrder_152 rfl (lv_at hl 1 rfl) ?_
                        refine lv_imul hx hb dMo_findOrder_153 ?_
                        refine dq_top (y := nI (10 * S)) (va_mulN 10 _) ?_
                        refine lv_iload_n hx hb dMo_findOrder_154 rfl (lv_at hl 2 rfl) ?_
                        refine lv_iadd hx hb dMo_findOrder_155 ?_
                        refine dq_top (y := nI (10 * S + t)) (nI_add _ _) ?_
                        refine lv_lload_n hx hb dMo_findOrder_156 rfl (lv_at hl 3 rfl) ?_
                        refine dq_lastN hx hb hK hW hS 128 2 dq_Us rfl (10 * S + t) (by omega) (by omega) dMo_findOrder_157 (fun H locs hW hS => ?_)
                        rw [dq_UU] at hW
                        refine lv_iinc (v := (nI (t + 1))) (lv' := [(2, .int (nI (t + 1))), (0, .ref (ad 100)), (1, .int (nI S)), (3, .long (G S t)), (5, .int (nI tn))]) hx hb dMo_findOrder_158 hl (k := 2) rfl (by show nI t + 1 = _; exact nI_1 _) (by decide) rfl (fun ls hl => ?_)
                        refine lv_goto (tgt := 50) hx hb dMo_findOrder_161 (by decide) ?_
                        exact ih2 (t + 1) (vp_updL rs (10 * S + t) (G S t)) _ _ _ (by omega) (by omega) (fun S2 h8 h9 t2 ht2 => by show (if _ then _ else _) = _; rw [if_neg (by omega)]; exact hR S2 h8 h9 t2 ht2) (fun t2 ht2 => by show (if _ then _ else _) = _; by_cases q9 : t2 = t; (rw [if_pos (by omega), q9]); (rw [if_neg (by omega)]; exact hT t2 (by omega))) hW hS (lv_sub hl [1, 2, 0] rfl)
                      · have hkt : k < tn := by rcases Nat.lt_or_ge k tn with q9 | q9; exact q9; exact absurd (nI_le q9 (by omega)) d2
                        have hor : S ||| 2 ^ k < 2 ^ tn := dq_or_lt hSl hkt
                        refine lv_iload_n hx hb dMo_findOrder_90 rfl (lv_at hl 1 rfl) ?_
                        refine lv_iload hx hb dMo_findOrder_91 (lv_at hl 4 rfl) ?_
                        refine lv_ishr hx hb dMo_findOrder_93 ?_
                        refine lv_iconst (v := (1)) hx hb dMo_findOrder_94 (by decide) ?_
                        refine lv_iand hx hb dMo_findOrder_95 ?_
                        refine dq_top (y := dq_b (S.testBit k)) (dq_bit (by omega) (by omega)) ?_
                        refine lv_if_ne (tgt := 140) hx hb dMo_findOrder_96 (by decide) (fun d3 => ?_) (fun d3 => ?_)
                        · have e5 : (mo_b tX tY G tn S t (k + 1)) = (mo_b tX tY G tn S t k) := if_pos (dq_b_t d3)
                          refine lv_iinc (v := (nI (k + 1))) (lv' := [(5, .int (nI (k + 1))), (0, .ref (ad 100)), (1, .int (nI S)), (2, .int (nI t)), (3, .long (mo_b tX tY G tn S t k))]) hx hb dMo_findOrder_140 hl (k := 4) rfl (by show nI k + 1 = _; exact nI_1 _) (by decide) rfl (fun ls hl => ?_)
                          refine lv_goto (tgt := 81) hx hb dMo_findOrder_143 (by decide) ?_
                          exact ih3 (k + 1) _ _ _ (by omega) (by omega) hW hS (by rw [e5]; exact (lv_sub hl [1, 2, 3, 4, 0] rfl))
                        · have hcl := dq_b_f d3
                          have hgt : S < S ||| 2 ^ k := dq_or_gt hcl
                          have e6 : (mo_b tX tY G tn S t (k + 1)) = if (ms_bt tX tY t k + G (S ||| 2 ^ k) k) < (mo_b tX tY G tn S t k) then (ms_bt tX tY t k + G (S ||| 2 ^ k) k) else (mo_b tX tY G tn S t k) := if_neg (by rw [hcl]; decide)
                          refine lv_aload_n hx hb dMo_findOrder_99 rfl (lv_at hl 0 rfl) ?_
                          refine lv_iload_n hx hb dMo_findOrder_100 rfl (lv_at hl 2 rfl) ?_
                          refine lv_iload hx hb dMo_findOrder_101 (lv_at hl 4 rfl) ?_
                          refine dq_calll (va_runV (As := [.int (nI t), .int (nI k)]) (rest := []) ⟨hx, hb, hml, hown, hts⟩ (m_between l D g ad (dq_U w 128 (.inl (g 2, 10240, .inr (.inl rs)))) _ cd n hn cn pl tn sg wy tX tY tF tS t k ((dq_Un (by decide)).trans m100) ((dq_Un (by decide)).trans m116) ((dq_Un (by decide)).trans m117) (by omega) (by omega)) (cwV 2 hts (dq_giV tw4_72 tw4_74 twp_23 tw1_10 tw4_75) rfl rfl rfl (by decide +kernel) ⟨Nat.le_of_ble_eq_true rfl, Nat.le_of_ble_eq_true rfl⟩) (dq_preV (ci := 8) hW hS hA hK hZ ((dq_Un (by decide)).trans m100) rfl rfl) rfl rfl hl.1 rfl (lv_room (Nat.le_of_ble_eq_true rfl)) dMo_findOrder_103 ⟨Nat.zero_le _, Nat.zero_le _⟩) hW hS hA (fun r2 u_9 H locs hp2 hW hS hz9 => ?_)
                          obtain ⟨hr2, hu9⟩ := hp2
                          rw [hu9] at hW
                          subst hr2
                          refine lv_aload_n hx hb dMo_findOrder_106 rfl (lv_at hl 0 rfl) ?_
                          refine dq_get (D := D) (ci := 8) (v := .ref (ad 128)) (C := RMo) (T := TMo) (N := 29) hx hb hts hinMo hown hK hW 100 ((dq_Un (by decide)).trans m100) rfl 28 (by decide) hf71 (fun _ h9 => h9) rfl dMo_findOrder_107 ?_
                          refine lv_bipush (v := (nI 10)) hx hb dMo_findOrder_110 (by decide) ?_
                          refine lv_iload_n hx hb dMo_findOrder_112 rfl (lv_at hl 1 rfl) ?_
                          refine lv_iconst (v := (1)) hx hb dMo_findOrder_113 (by decide) ?_
                          refine lv_iload hx hb dMo_findOrder_114 (lv_at hl 4 rfl) ?_
                          refine lv_ishl hx hb dMo_findOrder_116 ?_
                          refine dq_top (y := nI (2 ^ k)) (dq_sh1 _ (by omega)) ?_
                          refine lv_ior hx hb dMo_findOrder_117 ?_
                          refine dq_top (y := nI (S ||| 2 ^ k)) (nx_or _ _) ?_
                          refine lv_imul hx hb dMo_findOrder_118 ?_
                          refine dq_top (y := nI (10 * (S ||| 2 ^ k))) (va_mulN 10 _) ?_
                          refine lv_iload hx hb dMo_findOrder_119 (lv_at hl 4 rfl) ?_
                          refine lv_iadd hx hb dMo_findOrder_121 ?_
                          refine dq_top (y := nI (10 * (S ||| 2 ^ k) + k)) (nI_add _ _) ?_
                          refine dq_laldN hx hb hK hW 128 2 dq_Us rfl (10 * (S ||| 2 ^ k) + k) (by omega) (by omega) dMo_findOrder_122 ?_
                          refine dq_topl (y := G (S ||| 2 ^ k) k) (hR _ hgt hor k hkt) ?_
                          refine lv_ladd hx hb dMo_findOrder_123 ?_
                          refine lv_lstore (lv' := [(6, .long ((ms_bt tX tY t k) + (G (S ||| 2 ^ k) k))), (0, .ref (ad 100)), (1, .int (nI S)), (2, .int (nI t)), (3, .long (mo_b tX tY G tn S t k)), (5, .int (nI k))]) hx hb dMo_findOrder_124 hl (by decide) rfl (fun ls hl => ?_)
                          refine lv_lload hx hb dMo_findOrder_126 (lv_at hl 0 rfl) ?_
                          refine lv_lload_n hx hb dMo_findOrder_128 rfl (lv_at hl 4 rfl) ?_
                          refine W.lcmp hx hb dMo_findOrder_129 ?_
                          refine lv_if_ge (tgt := 138) hx hb dMo_findOrder_130 (by decide) (fun d4 => ?_) (fun d4 => ?_)
                          · have e5 : (mo_b tX tY G tn S t (k + 1)) = (mo_b tX tY G tn S t k) := e6.trans (if_neg (Int64.not_lt.mpr ((lg_cmp_ge _ _).mp d4)))
                            refine lv_lload_n hx hb dMo_findOrder_138 rfl (lv_at hl 4 rfl) ?_
                            refine lv_lstore_n (lv' := [(3, .long (mo_b tX tY G tn S t k)), (6, .long ((ms_bt tX tY t k) + (G (S ||| 2 ^ k) k))), (0, .ref (ad 100)), (1, .int (nI S)), (2, .int (nI t)), (5, .int (nI k))]) hx hb dMo_findOrder_139 rfl hl (by decide) rfl (fun ls hl => ?_)
                            refine lv_iinc (v := (nI (k + 1))) (lv' := [(5, .int (nI (k + 1))), (3, .long (mo_b tX tY G tn S t k)), (6, .long ((ms_bt tX tY t k) + (G (S ||| 2 ^ k) k))), (0, .ref (ad 100)), (1, .int (nI S)), (2, .int (nI t))]) hx hb dMo_findOrder_140 hl (k := 5) rfl (by show nI k + 1 = _; exact nI_1 _) (by decide) rfl (fun ls hl => ?_)
                            refine lv_goto (tgt := 81) hx hb dMo_findOrder_143 (by decide) ?_
                            exact ih3 (k + 1) _ _ _ (by omega) (by omega) hW hS (by rw [e5]; exact (lv_sub hl [3, 4, 5, 1, 0] rfl))
                          · have e5 : (mo_b tX tY G tn S t (k + 1)) = (ms_bt tX tY t k + G (S ||| 2 ^ k) k) := e6.trans (if_pos (Int64.not_le.mp (fun h9 => d4 ((lg_cmp_ge _ _).mpr h9))))
                            refine lv_lload hx hb dMo_findOrder_133 (lv_at hl 0 rfl) ?_
                            refine lv_goto (tgt := 139) hx hb dMo_findOrder_135 (by decide) ?_
                            refine lv_lstore_n (lv' := [(3, .long ((ms_bt tX tY t k) + (G (S ||| 2 ^ k) k))), (6, .long ((ms_bt tX tY t k) + (G (S ||| 2 ^ k) k))), (0, .ref (ad 100)), (1, .int (nI S)), (2, .int (nI t)), (5, .int (nI k))]) hx hb dMo_findOrder_139 rfl hl (by decide) rfl (fun ls hl => ?_)
                            refine lv_iinc (v := (nI (k + 1))) (lv' := [(5, .int (nI (k + 1))), (3, .long ((ms_bt tX tY t k) + (G (S ||| 2 ^ k) k))), (6, .long ((ms_bt tX tY t k) + (G (S ||| 2 ^ k) k))), (0, .ref (ad 100)), (1, .int (nI S)), (2, .int (nI t))]) hx hb dMo_findOrder_140 hl (k := 5) rfl (by show nI k + 1 = _; exact nI_1 _) (by decide) rfl (fun ls hl => ?_)
                            refine lv_goto (tgt := 81) hx hb dMo_findOrder_143 (by decide) ?_
                            exact ih3 (k + 1) _ _ _ (by omega) (by omega) hW hS (by rw [e5]; exact (lv_sub hl [3, 4, 5, 1, 0] rfl))
                  exact loop3 (tn + 1) 0 _ _ _ (by omega) (Nat.zero_le _) hW hS (lv_sub hl [2, 3, 4, 1, 0] rfl)
                refine lv_iload_n hx hb dMo_findOrder_58 rfl (lv_at hl 1 rfl) ?_
                refine lv_iconst (v := (1)) hx hb dMo_findOrder_59 (by decide) ?_
                refine lv_aload_n hx hb dMo_findOrder_60 rfl (lv_at hl 0 rfl) ?_
                refine dq_get (D := D) (ci := 8) (v := .int (nI tn)) (C := RMo) (T := TMo) (N := 29) hx hb hts hinMo hown hK hW 100 ((dq_Un (by decide)).trans m100) rfl 15 (by decide) hf127 (fun _ h9 => h9) rfl dMo_findOrder_61 ?_
                refine lv_ishl hx hb dMo_findOrder_64 ?_
                refine dq_top (y := nI (2 ^ tn)) (dq_sh1 _ (by omega)) ?_
                refine lv_iconst (v := (1)) hx hb dMo_findOrder_65 (by decide) ?_
                refine lv_isub hx hb dMo_findOrder_66 ?_
                refine dq_top (y := nI (2 ^ tn - 1)) (pk_sub (b := 1) Nat.one_le_two_pow) ?_
                refine lv_icmp_ne (tgt := 74) hx hb dMo_findOrder_67 (by decide) (fun d5 => ?_) (fun d5 => ?_)
                · have e8 : (mo_b tX tY G tn S t 0) = 1152921504606846976 := if_neg (fun h9 => d5 (by rw [h9]))
                  rw [e8] at J7
                  refine lv_ldc2 hx hb hown (hts _ (List.mem_cons_of_mem _ tw4_71)) dMo_findOrder_74 ?_
                  exact J7  _ _ _  hW hS (lv_sub hl [0, 1, 2] rfl)
                · have e8 : (mo_b tX tY G tn S t 0) = 0 := if_pos ((nI_eq (by omega) (by omega)).mp d5)
                  rw [e8] at J7
                  refine lv_lconst (v := 0) hx hb dMo_findOrder_70 (by decide) ?_
                  refine lv_goto (tgt := 77) hx hb dMo_findOrder_71 (by decide) ?_
                  exact J7  _ _ _  hW hS (lv_sub hl [0, 1, 2] rfl)
          exact loop2 (tn + 1) 0 rs _ _ _ (by omega) (Nat.zero_le _) hR (fun t2 h9 => absurd h9 (Nat.not_lt_zero t2)) hW hS (lv_sub hl [1, 2, 0] rfl)
    exact loop (2 ^ tn) (2 ^ tn - 1) rs _ _ _ (by omega) (by omega) (fun S2 h8 h9 => absurd h9 (by omega)) hW hS (lv_sub hl [1, 0] rfl)
  · have h10 : 10 < tn := by rcases Nat.lt_or_ge 10 tn with q9 | q9; exact q9; exact absurd (nI_le q9 (by omega)) c0
    refine lv_iconst (v := (nI 0)) hx hb dMo_findOrder_9 (by decide) ?_
    refine lv_istore_n (lv' := [(1, .int (nI 0)), (0, .ref (ad 100))]) hx hb dMo_findOrder_10 rfl hl (by decide) rfl (fun ls hl => ?_)
    have hW : dq_W D vwCl ad (dq_U w 121 (.inl (g 0, 14, .inl (sp_w od (fun i => nI (oN i)) 0 0)))) A s.heap := dq_Wc (by rw [sp_w_0]; exact (dq_Uid m121).symm) hW
    have loop : ∀ (j : Nat) (k : Nat) (H : Heap) (locs : List Loc) (ls : Array Slot), tn < k + j → k ≤ tn → dq_W D vwCl ad (dq_U w 121 (.inl (g 0, 14, .inl (sp_w od (fun i => nI (oN i)) 0 k)))) A H → va_S A s.heap H locs → lv_has ls 8 [(0, .ref (ad 100)), (1, .int (nI k))] → W p l e ({ frames := 3, cells := 0, slots := 0, locals := 80 } : Room) s m ([.ref (ad 100)] : List Value).toArray below meth c H locs 0 0 Q (F0 m 11 ls []) := by
      intro j
      induction j with
      | zero => intro k H locs ls hj hk hW hS hl; exact absurd hj (by omega)
      | succ j ih =>
        intro k H locs ls hj hk hW hS hl
        refine lv_iload_n hx hb dMo_findOrder_11 rfl (lv_at hl 1 rfl) ?_
        refine lv_aload_n hx hb dMo_findOrder_12 rfl (lv_at hl 0 rfl) ?_
        refine dq_get (D := D) (ci := 8) (v := .int (nI tn)) (C := RMo) (T := TMo) (N := 29) hx hb hts hinMo hown hK hW 100 ((dq_Un (by decide)).trans m100) rfl 15 (by decide) hf127 (fun _ h9 => h9) rfl dMo_findOrder_13 ?_
        refine lv_icmp_ge (tgt := 32) hx hb dMo_findOrder_16 (by decide) (fun c1 => ?_) (fun c1 => ?_)
        · have hkn : tn = k := by have q9 := (nI_leI (by omega) (by omega)).mp c1; omega
          subst hkn
          refine lv_goto (tgt := 174) hx hb dMo_findOrder_32 (by decide) ?_
          have hW : dq_W D vwCl ad (dq_U (dq_U w 121 (.inl (g 0, 14, .inl (sp_w od (fun i => nI (oN i)) 0 tn)))) 128 (.inl (g 2, 10240, .inr (.inl rs)))) A H := dq_Wc (dq_Uid ((dq_Un (by decide)).trans m128)).symm hW
          exact JW rs _ _ _ hW hS (lv_sub hl [0] rfl)
        · have hkt : k < tn := by rcases Nat.lt_or_ge k tn with q9 | q9; exact q9; exact absurd (nI_le q9 (by omega)) c1
          refine lv_aload_n hx hb dMo_findOrder_19 rfl (lv_at hl 0 rfl) ?_
          refine dq_get (D := D) (ci := 8) (v := .ref (ad 121)) (C := RMo) (T := TMo) (N := 29) hx hb hts hinMo hown hK hW 100 ((dq_Un (by decide)).trans m100) rfl 21 (by decide) hf53 (fun _ h9 => h9) rfl dMo_findOrder_20 ?_
          refine lv_iload_n hx hb dMo_findOrder_23 rfl (lv_at hl 1 rfl) ?_
          refine lv_iload_n hx hb dMo_findOrder_24 rfl (lv_at hl 1 rfl) ?_
          refine dq_iastN hx hb hK hW hS 121 0 dq_Us rfl k (by omega) (by omega) dMo_findOrder_25 (fun H locs hW hS => ?_)
          rw [dq_UU] at hW
          refine lv_iinc (v := (nI (k + 1))) (lv' := [(1, .int (nI (k + 1))), (0, .ref (ad 100))]) hx hb dMo_findOrder_26 hl (k := 1) rfl (by show nI k + 1 = _; exact nI_1 _) (by decide) rfl (fun ls hl => ?_)
          refine lv_goto (tgt := 11) hx hb dMo_findOrder_29 (by decide) ?_
          have hW : dq_W D vwCl ad (dq_U w 121 (.inl (g 0, 14, .inl (sp_w od (fun i => nI (oN i)) 0 (k + 1))))) A H := dq_Wc (by rw [← sp_w_s, Nat.zero_add, hown9 h10 k hkt]) hW
          exact ih (k + 1) _ _ _ (by omega) (by omega) hW hS (lv_sub hl [1, 0] rfl)
    exact loop (tn + 1) 0 _ _ _ (by omega) (Nat.zero_le _) hW hS (lv_sub hl [1, 0] rfl)
