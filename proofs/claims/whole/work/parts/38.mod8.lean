set_option maxHeartbeats 4000000 in
set_option maxRecDepth 100000 in
/-- fillPlaces(h) -/
theorem m_fillPlaces (l : Launch) (D : va_G) (g : Nat → ClassId) (ad : Nat → Nat) (w : Nat → Option va_E) (sz : Nat) (cd : Int32) (n hn cn : Nat) (pl : Int32) (tn : Nat) (sg : Int32) (wy : Int64) (sx sy sw : Nat → Int32) (px py pw pd pf pt : Nat → Int32) (bx : Nat → Int32) (qX qY qS qc : Nat → Int32) (h q : Nat) (X Y SD : Nat → Int32) (m100 : w 100 = some (.inr (8, [.int cd, .int (nI n), .ref (ad 102), .ref (ad 103), .ref (ad 104), .int (nI hn), .ref (ad 106), .ref (ad 107), .ref (ad 108), .ref (ad 109), .ref (ad 110), .ref (ad 111), .int (nI cn), .ref (ad 113), .int pl, .int (nI tn), .ref (ad 116), .ref (ad 117), .ref (ad 118), .ref (ad 119), .int sg, .ref (ad 121), .long wy, .ref (ad 123), .ref (ad 124), .ref (ad 125), .ref (ad 126), .ref (ad 127), .ref (ad 128)]))) (m102 : w 102 = some (.inl (g 0, 16, .inl sx))) (m103 : w 103 = some (.inl (g 0, 16, .inl sy))) (m104 : w 104 = some (.inl (g 0, 16, .inl sw))) (m106 : w 106 = some (.inl (g 0, 14, .inl px))) (m107 : w 107 = some (.inl (g 0, 14, .inl py))) (m108 : w 108 = some (.inl (g 0, 14, .inl pw))) (m109 : w 109 = some (.inl (g 0, 14, .inl pd))) (m110 : w 110 = some (.inl (g 0, 14, .inl pf))) (m111 : w 111 = some (.inl (g 1, 14, .inl pt))) (m113 : w 113 = some (.inl (g 0, 24, .inl bx))) (m124 : w 124 = some (.inl (g 0, 224, .inl qX))) (m125 : w 125 = some (.inl (g 0, 224, .inl qY))) (m126 : w 126 = some (.inl (g 0, 224, .inl qS))) (m127 : w 127 = some (.inl (g 0, 14, .inl qc))) (hn16 : n ≤ 16) (hcn : cn ≤ 6) (hh : h < hn) (hpc : hn ≤ 14) (hq16 : q ≤ 16) (hP : sp_P sx sy sw n (px h) (py h) (pw h) (mb_bar sx sy sw n bx cn) q X Y) (hbd : sp_bd sx sy sw n (px h) (py h) (pw h)) (hSD : ∀ p, p < q → SD p = nI (mp_bits (mp_F sx sy sw px py pw pd pf pt n h (X p) (Y p)) 0 hn)) : Met l yMo_fillPlaces wsMo_fillPlaces ({ frames := 2, cells := 0, slots := 0, locals := 50 } : Room) (va_Pc [.ref (ad 100), .int (nI h)] (dq_S D vwCl (dq_t g) ad w sz)) (va_Qv (fun u => u = dq_U (dq_U (dq_U (dq_U w 127 (.inl (g 0, 14, .inl (upd qc h (nI q))))) 124 (.inl (g 0, 224, .inl (sp_w qX X (16 * h) q)))) 125 (.inl (g 0, 224, .inl (sp_w qY Y (16 * h) q)))) 126 (.inl (g 0, 224, .inl (sp_w qS SD (16 * h) q)))) (dq_B D vwCl (dq_t g) ad (dq_A ad w sz)) (dq_A ad w sz)) 0 0 (dq_A ad w sz) := by
  refine dq_ofv (cc := cMo_fillPlaces) (maxL := 12) (by decide) rfl (Nat.le_of_ble_eq_true rfl) ?_
  intro p e s m below meth c A Q ls ⟨hx, hb, hml, hown, hts⟩ hnm hA hW hK hZ hl hret
  have hS : va_S A s.heap s.heap [] := va_S.rf
  have hl : lv_has ls 12 [(0, .ref (ad 100)), (1, .int (nI h))] := hl
  have hf7 := hts _ (List.mem_cons_of_mem _ tw3_156)
  have hf13 := hts _ (List.mem_cons_of_mem _ tw3_157)
  have hf16 := hts _ (List.mem_cons_of_mem _ tw3_158)
  have hf19 := hts _ (List.mem_cons_of_mem _ tw3_160)
  have hf22 := hts _ (List.mem_cons_of_mem _ tw3_161)
  have hf25 := hts _ (List.mem_cons_of_mem _ tw3_162)
  have hf59 := hts _ (List.mem_cons_of_mem _ tw3_178)
  have hf62 := hts _ (List.mem_cons_of_mem _ tw3_179)
  have hf65 := hts _ (List.mem_cons_of_mem _ tw3_180)
  have hf68 := hts _ (List.mem_cons_of_mem _ tw3_181)
  have hf75 := hts _ (List.mem_cons_of_mem _ tw3_155)
  have hinMo : ∀ w ∈ u_ws RMo TMo 29, w ∈ wsMo_fillPlaces := fun w h => List.mem_cons_of_mem _ (inMo w h)
  refine lv_aload_n hx hb dMo_fillPlaces_0 rfl (lv_at hl 0 rfl) ?_
  refine dq_get (D := D) (ci := 8) (v := .ref (ad 127)) (C := RMo) (T := TMo) (N := 29) hx hb hts hinMo hown hK hW 100 m100 rfl 27 (by decide) hf68 (fun _ h9 => h9) rfl dMo_fillPlaces_1 ?_
  refine lv_iload_n hx hb dMo_fillPlaces_4 rfl (lv_at hl 1 rfl) ?_
  refine lv_iconst (v := (nI 0)) hx hb dMo_fillPlaces_5 (by decide) ?_
  refine dq_iastN hx hb hK hW hS 127 0 m127 rfl h (by omega) (by omega) dMo_fillPlaces_6 (fun H locs hW hS => ?_)
  refine lv_ldc hx hb hown (hts _ (List.mem_cons_of_mem _ tw4_42)) dMo_fillPlaces_7 ?_
  refine lv_istore_n (lv' := [(2, .int (-1000000000)), (0, .ref (ad 100)), (1, .int (nI h))]) hx hb dMo_fillPlaces_9 rfl hl (by decide) rfl (fun ls hl => ?_)
  refine lv_ldc hx hb hown (hts _ (List.mem_cons_of_mem _ tw4_42)) dMo_fillPlaces_10 ?_
  refine lv_istore_n (lv' := [(3, .int (-1000000000)), (2, .int (-1000000000)), (0, .ref (ad 100)), (1, .int (nI h))]) hx hb dMo_fillPlaces_12 rfl hl (by decide) rfl (fun ls hl => ?_)
  refine lv_iconst (v := (1)) hx hb dMo_fillPlaces_13 (by decide) ?_
  refine lv_istore (lv' := [(4, .int (1)), (3, .int (-1000000000)), (2, .int (-1000000000)), (0, .ref (ad 100)), (1, .int (nI h))]) hx hb dMo_fillPlaces_14 hl (by decide) rfl (fun ls hl => ?_)
  have hW : dq_W D vwCl ad (dq_U (dq_U (dq_U (dq_U w 127 (.inl (g 0, 14, .inl (upd qc h (nI 0))))) 124 (.inl (g 0, 224, .inl qX))) 125 (.inl (g 0, 224, .inl qY))) 126 (.inl (g 0, 224, .inl qS))) A H := dq_Wc (by rw [dq_Uid (r := 124) ((dq_Un (by decide)).trans m124), dq_Uid (r := 125) ((dq_Un (by decide)).trans m125), dq_Uid (r := 126) ((dq_Un (by decide)).trans m126)]; try rfl) hW
  have hW : dq_W D vwCl ad (dq_U (dq_U (dq_U (dq_U w 127 (.inl (g 0, 14, .inl (upd qc h (nI 0))))) 124 (.inl (g 0, 224, .inl (sp_w qX X (16 * h) 0)))) 125 (.inl (g 0, 224, .inl (sp_w qY Y (16 * h) 0)))) 126 (.inl (g 0, 224, .inl (sp_w qS SD (16 * h) 0)))) A H := dq_Wc (by rw [sp_w_0, sp_w_0, sp_w_0]; try rfl) hW
  have loop : ∀ (j : Nat) (j9 : Nat) (lx ly : Int32) (H : Heap) (locs : List Loc) (ls : Array Slot), sp_mu sx sy sw n (px h) (py h) (pw h) lx ly < j → sp_I q X Y lx ly j9 → dq_W D vwCl ad (dq_U (dq_U (dq_U (dq_U w 127 (.inl (g 0, 14, .inl (upd qc h (nI j9))))) 124 (.inl (g 0, 224, .inl (sp_w qX X (16 * h) j9)))) 125 (.inl (g 0, 224, .inl (sp_w qY Y (16 * h) j9)))) 126 (.inl (g 0, 224, .inl (sp_w qS SD (16 * h) j9)))) A H → va_S A s.heap H locs → lv_has ls 12 [(0, .ref (ad 100)), (1, .int (nI h)), (2, .int lx), (3, .int ly), (4, .int 1)] → W p l e ({ frames := 2, cells := 0, slots := 0, locals := 50 } : Room) s m ([.ref (ad 100), .int (nI h)] : List Value).toArray below meth c H locs 0 0 Q (F0 m 16 ls []) := by
    intro j
    induction j with
    | zero => intro j9 lx ly H locs ls hj hI hW hS hl; exact absurd hj (by omega)
    | succ j ih =>
      intro j9 lx ly H locs ls hj hI hW hS hl
      refine lv_iload hx hb dMo_fillPlaces_16 (lv_at hl 4 rfl) ?_
      refine lv_if_eq (tgt := 262) hx hb dMo_fillPlaces_18 (by decide) (fun c1 => ?_) (fun c1 => ?_)
      · exact absurd c1 (by decide)
      · refine lv_ldc hx hb hown (hts _ (List.mem_cons_of_mem _ tw4_43)) dMo_fillPlaces_21 ?_
        refine lv_istore (lv' := [(5, .int (1000000000)), (0, .ref (ad 100)), (1, .int (nI h)), (2, .int lx), (3, .int ly), (4, .int 1)]) hx hb dMo_fillPlaces_23 hl (by decide) rfl (fun ls hl => ?_)
        refine lv_ldc hx hb hown (hts _ (List.mem_cons_of_mem _ tw4_43)) dMo_fillPlaces_25 ?_
        refine lv_istore (lv' := [(6, .int (1000000000)), (5, .int (1000000000)), (0, .ref (ad 100)), (1, .int (nI h)), (2, .int lx), (3, .int ly), (4, .int 1)]) hx hb dMo_fillPlaces_27 hl (by decide) rfl (fun ls hl => ?_)
        refine lv_iconst (v := (nI 0)) hx hb dMo_fillPlaces_29 (by decide) ?_
        refine lv_istore (lv' := [(7, .int (nI 0)), (6, .int (1000000000)), (5, .int (1000000000)), (0, .ref (ad 100)), (1, .int (nI h)), (2, .int lx), (3, .int ly), (4, .int 1)]) hx hb dMo_fillPlaces_30 hl (by decide) rfl (fun ls hl => ?_)
        have loop2 : ∀ (j2 : Nat) (k : Nat) (ls : Array Slot), n < k + j2 → k ≤ n → lv_has ls 12 [(0, .ref (ad 100)), (1, .int (nI h)), (2, .int lx), (3, .int ly), (4, .int 1), (5, .int (sp_mm sx sy sw (px h) (py h) (pw h) lx ly k).1), (6, .int (sp_mm sx sy sw (px h) (py h) (pw h) lx ly k).2), (7, .int (nI k))] → W p l e ({ frames := 2, cells := 0, slots := 0, locals := 50 } : Room) s m ([.ref (ad 100), .int (nI h)] : List Value).toArray below meth c H locs 0 0 Q (F0 m 32 ls []) := by
          intro j2
          induction j2 with
          | zero => intro k ls hj2 hk  hl; exact absurd hj2 (by omega)
          | succ j2 ih2 =>
            intro k ls hj2 hk  hl
            refine lv_iload hx hb dMo_fillPlaces_32 (lv_at hl 7 rfl) ?_
            refine lv_aload_n hx hb dMo_fillPlaces_34 rfl (lv_at hl 0 rfl) ?_
            refine dq_get (D := D) (ci := 8) (v := .int (nI n)) (C := RMo) (T := TMo) (N := 29) hx hb hts hinMo hown hK hW 100 ((dq_Un (by decide)).trans ((dq_Un (by decide)).trans ((dq_Un (by decide)).trans ((dq_Un (by decide)).trans m100)))) rfl 1 (by decide) hf75 (fun _ h9 => h9) rfl dMo_fillPlaces_35 ?_
            refine lv_icmp_ge (tgt := 166) hx hb dMo_fillPlaces_38 (by decide) (fun d1 => ?_) (fun d1 => ?_)
            · have hkn : n = k := by have q9 := (nI_leI (by omega) (by omega)).mp d1; omega
              subst hkn
              obtain ⟨mx, hmx⟩ : ∃ mx, mx = (sp_mm sx sy sw (px h) (py h) (pw h) lx ly n).1 := ⟨_, rfl⟩
              obtain ⟨my, hmy⟩ : ∃ my, my = (sp_mm sx sy sw (px h) (py h) (pw h) lx ly n).2 := ⟨_, rfl⟩
              have hl : lv_has ls 12 [(0, .ref (ad 100)), (1, .int (nI h)), (2, .int lx), (3, .int ly), (4, .int 1), (5, .int mx), (6, .int my)] := by rw [hmx, hmy]; exact (lv_sub hl [0, 1, 2, 3, 4, 5, 6] rfl)
              refine lv_iload hx hb dMo_fillPlaces_166 (lv_at hl 5 rfl) ?_
              refine lv_ldc hx hb hown (hts _ (List.mem_cons_of_mem _ tw4_43)) dMo_fillPlaces_168 ?_
              refine lv_icmp_ge (tgt := 177) hx hb dMo_fillPlaces_170 (by decide) (fun d2 => ?_) (fun d2 => ?_)
              · have hjq : j9 = q := sp_end hP hbd hI (by rw [← hmx]; exact Int32.not_lt.mpr d2)
                refine lv_iconst (v := (0)) hx hb dMo_fillPlaces_177 (by decide) ?_
                refine lv_istore (lv' := [(4, .int (0)), (0, .ref (ad 100)), (1, .int (nI h)), (2, .int lx), (3, .int ly), (5, .int mx), (6, .int my)]) hx hb dMo_fillPlaces_178 hl (by decide) rfl (fun ls hl => ?_)
                refine lv_iload hx hb dMo_fillPlaces_180 (lv_at hl 0 rfl) ?_
                refine lv_if_eq (tgt := 253) hx hb dMo_fillPlaces_182 (by decide) (fun d3 => ?_) (fun d3 => ?_)
                · refine lv_iload hx hb dMo_fillPlaces_253 (lv_at hl 5 rfl) ?_
                  refine lv_istore_n (lv' := [(2, .int mx), (4, .int (0)), (0, .ref (ad 100)), (1, .int (nI h)), (3, .int ly), (5, .int mx), (6, .int my)]) hx hb dMo_fillPlaces_255 rfl hl (by decide) rfl (fun ls hl => ?_)
                  refine lv_iload hx hb dMo_fillPlaces_256 (lv_at hl 6 rfl) ?_
                  refine lv_istore_n (lv' := [(3, .int my), (2, .int mx), (4, .int (0)), (0, .ref (ad 100)), (1, .int (nI h)), (5, .int mx), (6, .int my)]) hx hb dMo_fillPlaces_258 rfl hl (by decide) rfl (fun ls hl => ?_)
                  refine lv_goto (tgt := 16) hx hb dMo_fillPlaces_259 (by decide) ?_
                  refine lv_iload hx hb dMo_fillPlaces_16 (lv_at hl 2 rfl) ?_
                  refine lv_if_eq (tgt := 262) hx hb dMo_fillPlaces_18 (by decide) (fun d4 => ?_) (fun d4 => ?_)
                  · subst hjq
                    exact hret _ _ _ _ _ rfl hW hS dMo_fillPlaces_262
                  · exact absurd rfl d4
                · exact absurd rfl d3
              · have hlt : (sp_mm sx sy sw (px h) (py h) (pw h) lx ly n).1 < 1000000000 := by rw [← hmx]; exact Int32.not_le.mp d2
                have hmu := sp_mu_lt hlt
                rw [← hmx, ← hmy] at hmu
                refine lv_iconst (v := (1)) hx hb dMo_fillPlaces_173 (by decide) ?_
                refine lv_goto (tgt := 178) hx hb dMo_fillPlaces_174 (by decide) ?_
                refine lv_istore (lv' := [(4, .int (1)), (0, .ref (ad 100)), (1, .int (nI h)), (2, .int lx), (3, .int ly), (5, .int mx), (6, .int my)]) hx hb dMo_fillPlaces_178 hl (by decide) rfl (fun ls hl => ?_)
                refine lv_iload hx hb dMo_fillPlaces_180 (lv_at hl 0 rfl) ?_
                refine lv_if_eq (tgt := 253) hx hb dMo_fillPlaces_182 (by decide) (fun d3 => ?_) (fun d3 => ?_)
                · exact absurd d3 (by decide)
                · refine lv_aload_n hx hb dMo_fillPlaces_185 rfl (lv_at hl 1 rfl) ?_
                  refine lv_iload hx hb dMo_fillPlaces_186 (lv_at hl 5 rfl) ?_
                  refine lv_iload hx hb dMo_fillPlaces_188 (lv_at hl 6 rfl) ?_
                  refine dq_calli (va_runV (As := [.int mx, .int my]) (rest := []) ⟨hx, hb, hml, hown, hts⟩ (m_isBarred l D g ad (dq_U (dq_U (dq_U (dq_U w 127 (.inl (g 0, 14, .inl (upd qc h (nI j9))))) 124 (.inl (g 0, 224, .inl (sp_w qX X (16 * h) j9)))) 125 (.inl (g 0, 224, .inl (sp_w qY Y (16 * h) j9)))) 126 (.inl (g 0, 224, .inl (sp_w qS SD (16 * h) j9)))) _ cd n hn cn pl tn sg wy sx sy sw bx mx my ((dq_Un (by decide)).trans ((dq_Un (by decide)).trans ((dq_Un (by decide)).trans ((dq_Un (by decide)).trans m100)))) ((dq_Un (by decide)).trans ((dq_Un (by decide)).trans ((dq_Un (by decide)).trans ((dq_Un (by decide)).trans m102)))) ((dq_Un (by decide)).trans ((dq_Un (by decide)).trans ((dq_Un (by decide)).trans ((dq_Un (by decide)).trans m103)))) ((dq_Un (by decide)).trans ((dq_Un (by decide)).trans ((dq_Un (by decide)).trans ((dq_Un (by decide)).trans m104)))) ((dq_Un (by decide)).trans ((dq_Un (by decide)).trans ((dq_Un (by decide)).trans ((dq_Un (by decide)).trans m113)))) hn16 hcn) (cwV 2 hts (dq_giV tw4_44 tw4_46 twp_18 tw1_10 tw4_47) rfl rfl rfl (by decide +kernel) ⟨Nat.le_of_ble_eq_true rfl, Nat.le_of_ble_eq_true rfl⟩) (dq_preV (ci := 8) hW hS hA hK hZ ((dq_Un (by decide)).trans ((dq_Un (by decide)).trans ((dq_Un (by decide)).trans ((dq_Un (by decide)).trans m100)))) rfl rfl) rfl rfl hl.1 rfl (lv_room (Nat.le_of_ble_eq_true rfl)) dMo_fillPlaces_190 ⟨Nat.zero_le _, Nat.zero_le _⟩) hW hS hA (fun r1 u_9 H locs hp1 hW hS hz9 => ?_)
                  obtain ⟨hr1, hu9⟩ := hp1
                  rw [hu9] at hW
                  subst hr1
                  refine lv_if_ne (tgt := 253) hx hb dMo_fillPlaces_193 (by decide) (fun d4 => ?_) (fun d4 => ?_)
                  · have hI2 := sp_bar hP hI hlt (by rw [← hmx, ← hmy]; exact dq_b_t d4)
                    rw [← hmx, ← hmy] at hI2
                    refine lv_iload hx hb dMo_fillPlaces_253 (lv_at hl 5 rfl) ?_
                    refine lv_istore_n (lv' := [(2, .int mx), (4, .int (1)), (0, .ref (ad 100)), (1, .int (nI h)), (3, .int ly), (5, .int mx), (6, .int my)]) hx hb dMo_fillPlaces_255 rfl hl (by decide) rfl (fun ls hl => ?_)
                    refine lv_iload hx hb dMo_fillPlaces_256 (lv_at hl 6 rfl) ?_
                    refine lv_istore_n (lv' := [(3, .int my), (2, .int mx), (4, .int (1)), (0, .ref (ad 100)), (1, .int (nI h)), (5, .int mx), (6, .int my)]) hx hb dMo_fillPlaces_258 rfl hl (by decide) rfl (fun ls hl => ?_)
                    refine lv_goto (tgt := 16) hx hb dMo_fillPlaces_259 (by decide) ?_
                    exact ih j9 mx my _ _ _ (by omega) hI2 hW hS (lv_sub hl [3, 4, 1, 0, 2] rfl)
                  · obtain ⟨hjq, eX, eY, hI2⟩ := sp_free hP hI hlt (by rw [← hmx, ← hmy]; exact dq_b_f d4)
                    rw [← hmx, ← hmy] at hI2
                    rw [← hmx] at eX
                    rw [← hmy] at eY
                    refine lv_bipush (v := (nI 16)) hx hb dMo_fillPlaces_196 (by decide) ?_
                    refine lv_iload_n hx hb dMo_fillPlaces_198 rfl (lv_at hl 2 rfl) ?_
                    refine lv_imul hx hb dMo_fillPlaces_199 ?_
                    refine dq_top (y := nI (16 * h)) (va_mulN 16 h) ?_
                    refine lv_aload_n hx hb dMo_fillPlaces_200 rfl (lv_at hl 1 rfl) ?_
                    refine dq_get (D := D) (ci := 8) (v := .ref (ad 127)) (C := RMo) (T := TMo) (N := 29) hx hb hts hinMo hown hK hW 100 ((dq_Un (by decide)).trans ((dq_Un (by decide)).trans ((dq_Un (by decide)).trans ((dq_Un (by decide)).trans m100)))) rfl 27 (by decide) hf68 (fun _ h9 => h9) rfl dMo_fillPlaces_201 ?_
                    refine lv_iload_n hx hb dMo_fillPlaces_204 rfl (lv_at hl 2 rfl) ?_
                    refine dq_ialdN hx hb hK hW 127 0 ((dq_Un (by decide)).trans ((dq_Un (by decide)).trans ((dq_Un (by decide)).trans dq_Us))) rfl h (by omega) (by omega) dMo_fillPlaces_205 ?_
                    refine dq_top (y := nI j9) (by rw [pk_us]) ?_
                    refine lv_iadd hx hb dMo_fillPlaces_206 ?_
                    refine dq_top (y := nI (16 * h + j9)) (nI_add _ _) ?_
                    refine lv_istore (lv' := [(7, .int (nI (16 * h + j9))), (4, .int (1)), (0, .ref (ad 100)), (1, .int (nI h)), (2, .int lx), (3, .int ly), (5, .int mx), (6, .int my)]) hx hb dMo_fillPlaces_207 hl (by decide) rfl (fun ls hl => ?_)
                    refine lv_aload_n hx hb dMo_fillPlaces_209 rfl (lv_at hl 2 rfl) ?_
                    refine dq_get (D := D) (ci := 8) (v := .ref (ad 124)) (C := RMo) (T := TMo) (N := 29) hx hb hts hinMo hown hK hW 100 ((dq_Un (by decide)).trans ((dq_Un (by decide)).trans ((dq_Un (by decide)).trans ((dq_Un (by decide)).trans m100)))) rfl 24 (by decide) hf59 (fun _ h9 => h9) rfl dMo_fillPlaces_210 ?_
                    refine lv_iload hx hb dMo_fillPlaces_213 (lv_at hl 0 rfl) ?_
                    refine lv_iload hx hb dMo_fillPlaces_215 (lv_at hl 6 rfl) ?_
                    refine dq_iastN hx hb hK hW hS 124 0 ((dq_Un (by decide)).trans ((dq_Un (by decide)).trans dq_Us)) rfl (16 * h + j9) (by omega) (by omega) dMo_fillPlaces_217 (fun H locs hW hS => ?_)
                    have hW : dq_W D vwCl ad (dq_U (dq_U (dq_U (dq_U w 127 (.inl (g 0, 14, .inl (upd qc h (nI j9))))) 124 (.inl (g 0, 224, .inl (upd (sp_w qX X (16 * h) j9) (16 * h + j9) mx)))) 125 (.inl (g 0, 224, .inl (sp_w qY Y (16 * h) j9)))) 126 (.inl (g 0, 224, .inl (sp_w qS SD (16 * h) j9)))) A H := dq_Wc (by funext j; unfold dq_U; (repeat' split) <;> first | rfl | omega) hW
                    refine lv_aload_n hx hb dMo_fillPlaces_218 rfl (lv_at hl 2 rfl) ?_
                    refine dq_get (D := D) (ci := 8) (v := .ref (ad 125)) (C := RMo) (T := TMo) (N := 29) hx hb hts hinMo hown hK hW 100 ((dq_Un (by decide)).trans ((dq_Un (by decide)).trans ((dq_Un (by decide)).trans ((dq_Un (by decide)).trans m100)))) rfl 25 (by decide) hf62 (fun _ h9 => h9) rfl dMo_fillPlaces_219 ?_
                    refine lv_iload hx hb dMo_fillPlaces_222 (lv_at hl 0 rfl) ?_
                    refine lv_iload hx hb dMo_fillPlaces_224 (lv_at hl 7 rfl) ?_
                    refine dq_iastN hx hb hK hW hS 125 0 ((dq_Un (by decide)).trans dq_Us) rfl (16 * h + j9) (by omega) (by omega) dMo_fillPlaces_226 (fun H locs hW hS => ?_)
                    have hW : dq_W D vwCl ad (dq_U (dq_U (dq_U (dq_U w 127 (.inl (g 0, 14, .inl (upd qc h (nI j9))))) 124 (.inl (g 0, 224, .inl (upd (sp_w qX X (16 * h) j9) (16 * h + j9) mx)))) 125 (.inl (g 0, 224, .inl (upd (sp_w qY Y (16 * h) j9) (16 * h + j9) my)))) 126 (.inl (g 0, 224, .inl (sp_w qS SD (16 * h) j9)))) A H := dq_Wc (by funext j; unfold dq_U; (repeat' split) <;> first | rfl | omega) hW
                    refine lv_aload_n hx hb dMo_fillPlaces_227 rfl (lv_at hl 2 rfl) ?_
                    refine dq_get (D := D) (ci := 8) (v := .ref (ad 126)) (C := RMo) (T := TMo) (N := 29) hx hb hts hinMo hown hK hW 100 ((dq_Un (by decide)).trans ((dq_Un (by decide)).trans ((dq_Un (by decide)).trans ((dq_Un (by decide)).trans m100)))) rfl 26 (by decide) hf65 (fun _ h9 => h9) rfl dMo_fillPlaces_228 ?_
                    refine lv_iload hx hb dMo_fillPlaces_231 (lv_at hl 0 rfl) ?_
                    refine lv_aload_n hx hb dMo_fillPlaces_233 rfl (lv_at hl 2 rfl) ?_
                    refine lv_iload_n hx hb dMo_fillPlaces_234 rfl (lv_at hl 3 rfl) ?_
                    refine lv_iload hx hb dMo_fillPlaces_235 (lv_at hl 6 rfl) ?_
                    refine lv_iload hx hb dMo_fillPlaces_237 (lv_at hl 7 rfl) ?_
                    refine dq_calli (va_runV (As := [.int (nI h), .int mx, .int my]) (rest := [.int (nI (16 * h + j9)), .ref (ad 126)]) ⟨hx, hb, hml, hown, hts⟩ (m_drilledAt l D g ad (dq_U (dq_U (dq_U (dq_U w 127 (.inl (g 0, 14, .inl (upd qc h (nI j9))))) 124 (.inl (g 0, 224, .inl (upd (sp_w qX X (16 * h) j9) (16 * h + j9) mx)))) 125 (.inl (g 0, 224, .inl (upd (sp_w qY Y (16 * h) j9) (16 * h + j9) my)))) 126 (.inl (g 0, 224, .inl (sp_w qS SD (16 * h) j9)))) _ cd n hn cn pl tn sg wy sx sy sw px py pw pd pf pt h mx my ((dq_Un (by decide)).trans ((dq_Un (by decide)).trans ((dq_Un (by decide)).trans ((dq_Un (by decide)).trans m100)))) ((dq_Un (by decide)).trans ((dq_Un (by decide)).trans ((dq_Un (by decide)).trans ((dq_Un (by decide)).trans m102)))) ((dq_Un (by decide)).trans ((dq_Un (by decide)).trans ((dq_Un (by decide)).trans ((dq_Un (by decide)).trans m103)))) ((dq_Un (by decide)).trans ((dq_Un (by decide)).trans ((dq_Un (by decide)).trans ((dq_Un (by decide)).trans m104)))) ((dq_Un (by decide)).trans ((dq_Un (by decide)).trans ((dq_Un (by decide)).trans ((dq_Un (by decide)).trans m106)))) ((dq_Un (by decide)).trans ((dq_Un (by decide)).trans ((dq_Un (by decide)).trans ((dq_Un (by decide)).trans m107)))) ((dq_Un (by decide)).trans ((dq_Un (by decide)).trans ((dq_Un (by decide)).trans ((dq_Un (by decide)).trans m108)))) ((dq_Un (by decide)).trans ((dq_Un (by decide)).trans ((dq_Un (by decide)).trans ((dq_Un (by decide)).trans m109)))) ((dq_Un (by decide)).trans ((dq_Un (by decide)).trans ((dq_Un (by decide)).trans ((dq_Un (by decide)).trans m110)))) ((dq_Un (by decide)).trans ((dq_Un (by decide)).trans ((dq_Un (by decide)).trans ((dq_Un (by decide)).trans m111)))) hn16 (by omega) hpc) (cwV 3 hts (dq_giV tw4_48 tw4_50 twp_19 tw1_10 tw4_51) rfl rfl rfl (by decide +kernel) ⟨Nat.le_of_ble_eq_true rfl, Nat.le_of_ble_eq_true rfl⟩) (dq_preV (ci := 8) hW hS hA hK hZ ((dq_Un (by decide)).trans ((dq_Un (by decide)).trans ((dq_Un (by decide)).trans ((dq_Un (by decide)).trans m100)))) rfl rfl) rfl rfl hl.1 rfl (lv_room (Nat.le_of_ble_eq_true rfl)) dMo_fillPlaces_239 ⟨Nat.zero_le _, Nat.zero_le _⟩) hW hS hA (fun r2 u_9 H locs hp2 hW hS hz9 => ?_)
                    obtain ⟨hr2, hu9⟩ := hp2
                    rw [hu9] at hW
                    subst hr2
                    refine dq_iastN hx hb hK hW hS 126 0 dq_Us rfl (16 * h + j9) (by omega) (by omega) dMo_fillPlaces_242 (fun H locs hW hS => ?_)
                    rw [dq_UU] at hW
                    refine lv_aload_n hx hb dMo_fillPlaces_243 rfl (lv_at hl 2 rfl) ?_
                    refine dq_get (D := D) (ci := 8) (v := .ref (ad 127)) (C := RMo) (T := TMo) (N := 29) hx hb hts hinMo hown hK hW 100 ((dq_Un (by decide)).trans ((dq_Un (by decide)).trans ((dq_Un (by decide)).trans ((dq_Un (by decide)).trans m100)))) rfl 27 (by decide) hf68 (fun _ h9 => h9) rfl dMo_fillPlaces_244 ?_
                    refine lv_iload_n hx hb dMo_fillPlaces_247 rfl (lv_at hl 3 rfl) ?_
                    refine lv_dup2_11 hx hb dMo_fillPlaces_248 rfl rfl ?_
                    refine dq_ialdN hx hb hK hW 127 0 ((dq_Un (by decide)).trans ((dq_Un (by decide)).trans ((dq_Un (by decide)).trans dq_Us))) rfl h (by omega) (by omega) dMo_fillPlaces_249 ?_
                    refine dq_top (y := nI j9) (by rw [pk_us]) ?_
                    refine lv_iconst (v := (1)) hx hb dMo_fillPlaces_250 (by decide) ?_
                    refine lv_iadd hx hb dMo_fillPlaces_251 ?_
                    refine dq_top (y := nI (j9 + 1)) (nI_1 _) ?_
                    refine dq_iastN hx hb hK hW hS 127 0 ((dq_Un (by decide)).trans ((dq_Un (by decide)).trans ((dq_Un (by decide)).trans dq_Us))) rfl h (by omega) (by omega) dMo_fillPlaces_252 (fun H locs hW hS => ?_)
                    have hW : dq_W D vwCl ad (dq_U (dq_U (dq_U (dq_U w 127 (.inl (g 0, 14, .inl (upd (upd qc h (nI j9)) h (nI (j9 + 1)))))) 124 (.inl (g 0, 224, .inl (upd (sp_w qX X (16 * h) j9) (16 * h + j9) mx)))) 125 (.inl (g 0, 224, .inl (upd (sp_w qY Y (16 * h) j9) (16 * h + j9) my)))) 126 (.inl (g 0, 224, .inl (upd (sp_w qS SD (16 * h) j9) (16 * h + j9) (nI (mp_bits (mp_F sx sy sw px py pw pd pf pt n h mx my) 0 hn)))))) A H := dq_Wc (by funext j; unfold dq_U; (repeat' split) <;> first | rfl | omega) hW
                    refine lv_iload hx hb dMo_fillPlaces_253 (lv_at hl 6 rfl) ?_
                    refine lv_istore_n (lv' := [(2, .int mx), (7, .int (nI (16 * h + j9))), (4, .int (1)), (0, .ref (ad 100)), (1, .int (nI h)), (3, .int ly), (5, .int mx), (6, .int my)]) hx hb dMo_fillPlaces_255 rfl hl (by decide) rfl (fun ls hl => ?_)
                    refine lv_iload hx hb dMo_fillPlaces_256 (lv_at hl 7 rfl) ?_
                    refine lv_istore_n (lv' := [(3, .int my), (2, .int mx), (7, .int (nI (16 * h + j9))), (4, .int (1)), (0, .ref (ad 100)), (1, .int (nI h)), (5, .int mx), (6, .int my)]) hx hb dMo_fillPlaces_258 rfl hl (by decide) rfl (fun ls hl => ?_)
                    refine lv_goto (tgt := 16) hx hb dMo_fillPlaces_259 (by decide) ?_
                    have hW : dq_W D vwCl ad (dq_U (dq_U (dq_U (dq_U w 127 (.inl (g 0, 14, .inl (upd qc h (nI (j9 + 1)))))) 124 (.inl (g 0, 224, .inl (sp_w qX X (16 * h) (j9 + 1))))) 125 (.inl (g 0, 224, .inl (sp_w qY Y (16 * h) (j9 + 1))))) 126 (.inl (g 0, 224, .inl (sp_w qS SD (16 * h) (j9 + 1))))) A H := dq_Wc (by rw [eX, eY, ← hSD j9 hjq, sp_w_s, sp_w_s, sp_w_s, dq_uu]; try rfl) hW
                    exact ih (j9 + 1) mx my _ _ _ (by omega) hI2 hW hS (lv_sub hl [4, 5, 1, 0, 3] rfl)
            · have hkn : k < n := by rcases Nat.lt_or_ge k n with q9 | q9; exact q9; exact absurd (nI_le q9 (by omega)) d1
              refine lv_aload_n hx hb dMo_fillPlaces_41 rfl (lv_at hl 0 rfl) ?_
              refine dq_get (D := D) (ci := 8) (v := .ref (ad 106)) (C := RMo) (T := TMo) (N := 29) hx hb hts hinMo hown hK hW 100 ((dq_Un (by decide)).trans ((dq_Un (by decide)).trans ((dq_Un (by decide)).trans ((dq_Un (by decide)).trans m100)))) rfl 6 (by decide) hf19 (fun _ h9 => h9) rfl dMo_fillPlaces_42 ?_
              refine lv_iload_n hx hb dMo_fillPlaces_45 rfl (lv_at hl 1 rfl) ?_
              refine dq_ialdN hx hb hK hW 106 0 ((dq_Un (by decide)).trans ((dq_Un (by decide)).trans ((dq_Un (by decide)).trans ((dq_Un (by decide)).trans m106)))) rfl h (by omega) (by omega) dMo_fillPlaces_46 ?_
              refine lv_aload_n hx hb dMo_fillPlaces_47 rfl (lv_at hl 0 rfl) ?_
              refine dq_get (D := D) (ci := 8) (v := .ref (ad 102)) (C := RMo) (T := TMo) (N := 29) hx hb hts hinMo hown hK hW 100 ((dq_Un (by decide)).trans ((dq_Un (by decide)).trans ((dq_Un (by decide)).trans ((dq_Un (by decide)).trans m100)))) rfl 2 (by decide) hf7 (fun _ h9 => h9) rfl dMo_fillPlaces_48 ?_
              refine lv_iload hx hb dMo_fillPlaces_51 (lv_at hl 7 rfl) ?_
              refine dq_ialdN hx hb hK hW 102 0 ((dq_Un (by decide)).trans ((dq_Un (by decide)).trans ((dq_Un (by decide)).trans ((dq_Un (by decide)).trans m102)))) rfl k (by omega) (by omega) dMo_fillPlaces_53 ?_
              refine lv_isub hx hb dMo_fillPlaces_54 ?_
              refine lv_istore (lv' := [(8, .int ((px h) - (sx k))), (0, .ref (ad 100)), (1, .int (nI h)), (2, .int lx), (3, .int ly), (4, .int 1), (5, .int (sp_mm sx sy sw (px h) (py h) (pw h) lx ly k).1), (6, .int (sp_mm sx sy sw (px h) (py h) (pw h) lx ly k).2), (7, .int (nI k))]) hx hb dMo_fillPlaces_55 hl (by decide) rfl (fun ls hl => ?_)
              refine lv_aload_n hx hb dMo_fillPlaces_57 rfl (lv_at hl 1 rfl) ?_
              refine dq_get (D := D) (ci := 8) (v := .ref (ad 107)) (C := RMo) (T := TMo) (N := 29) hx hb hts hinMo hown hK hW 100 ((dq_Un (by decide)).trans ((dq_Un (by decide)).trans ((dq_Un (by decide)).trans ((dq_Un (by decide)).trans m100)))) rfl 7 (by decide) hf22 (fun _ h9 => h9) rfl dMo_fillPlaces_58 ?_
              refine lv_iload_n hx hb dMo_fillPlaces_61 rfl (lv_at hl 2 rfl) ?_
              refine dq_ialdN hx hb hK hW 107 0 ((dq_Un (by decide)).trans ((dq_Un (by decide)).trans ((dq_Un (by decide)).trans ((dq_Un (by decide)).trans m107)))) rfl h (by omega) (by omega) dMo_fillPlaces_62 ?_
              refine lv_aload_n hx hb dMo_fillPlaces_63 rfl (lv_at hl 1 rfl) ?_
              refine dq_get (D := D) (ci := 8) (v := .ref (ad 103)) (C := RMo) (T := TMo) (N := 29) hx hb hts hinMo hown hK hW 100 ((dq_Un (by decide)).trans ((dq_Un (by decide)).trans ((dq_Un (by decide)).trans ((dq_Un (by decide)).trans m100)))) rfl 3 (by decide) hf13 (fun _ h9 => h9) rfl dMo_fillPlaces_64 ?_
              refine lv_iload hx hb dMo_fillPlaces_67 (lv_at hl 8 rfl) ?_
              refine dq_ialdN hx hb hK hW 103 0 ((dq_Un (by decide)).trans ((dq_Un (by decide)).trans ((dq_Un (by decide)).trans ((dq_Un (by decide)).trans m103)))) rfl k (by omega) (by omega) dMo_fillPlaces_69 ?_
              refine lv_isub hx hb dMo_fillPlaces_70 ?_
              refine lv_istore (lv' := [(9, .int ((py h) - (sy k))), (8, .int ((px h) - (sx k))), (0, .ref (ad 100)), (1, .int (nI h)), (2, .int lx), (3, .int ly), (4, .int 1), (5, .int (sp_mm sx sy sw (px h) (py h) (pw h) lx ly k).1), (6, .int (sp_mm sx sy sw (px h) (py h) (pw h) lx ly k).2), (7, .int (nI k))]) hx hb dMo_fillPlaces_71 hl (by decide) rfl (fun ls hl => ?_)
              refine lv_iload hx hb dMo_fillPlaces_73 (lv_at hl 1 rfl) ?_
              refine lv_iload_n hx hb dMo_fillPlaces_75 rfl (lv_at hl 4 rfl) ?_
              have J1 : ∀ (ls : Array Slot), lv_has ls 12 [(0, .ref (ad 100)), (1, .int (nI h)), (2, .int lx), (3, .int ly), (4, .int 1), (5, .int (sp_mm sx sy sw (px h) (py h) (pw h) lx ly k).1), (6, .int (sp_mm sx sy sw (px h) (py h) (pw h) lx ly k).2), (7, .int (nI k)), (8, .int (px h - sx k)), (9, .int (py h - sy k))] → W p l e ({ frames := 2, cells := 0, slots := 0, locals := 50 } : Room) s m ([.ref (ad 100), .int (nI h)] : List Value).toArray below meth c H locs 0 0 Q (F0 m 96 ls [.int (dq_b (sp_lt lx ly (px h - sx k) (py h - sy k)))]) := by
                intro  ls   hl
                refine lv_istore (lv' := [(10, .int (dq_b (sp_lt lx ly (px h - sx k) (py h - sy k)))), (0, .ref (ad 100)), (1, .int (nI h)), (2, .int lx), (3, .int ly), (4, .int 1), (5, .int (sp_mm sx sy sw (px h) (py h) (pw h) lx ly k).1), (6, .int (sp_mm sx sy sw (px h) (py h) (pw h) lx ly k).2), (7, .int (nI k)), (8, .int (px h - sx k)), (9, .int (py h - sy k))]) hx hb dMo_fillPlaces_96 hl (by decide) rfl (fun ls hl => ?_)
                have J2 : ∀ (ls : Array Slot), lv_has ls 12 [(0, .ref (ad 100)), (1, .int (nI h)), (2, .int lx), (3, .int ly), (4, .int 1), (5, .int (sp_mm sx sy sw (px h) (py h) (pw h) lx ly k).1), (6, .int (sp_mm sx sy sw (px h) (py h) (pw h) lx ly k).2), (7, .int (nI k)), (8, .int (px h - sx k)), (9, .int (py h - sy k)), (10, .int (dq_b (sp_lt lx ly (px h - sx k) (py h - sy k))))] → W p l e ({ frames := 2, cells := 0, slots := 0, locals := 50 } : Room) s m ([.ref (ad 100), .int (nI h)] : List Value).toArray below meth c H locs 0 0 Q (F0 m 124 ls [.int (dq_b (sp_lt (px h - sx k) (py h - sy k) (sp_mm sx sy sw (px h) (py h) (pw h) lx ly k).1 (sp_mm sx sy sw (px h) (py h) (pw h) lx ly k).2))]) := by
                  intro  ls   hl
                  refine lv_istore (lv' := [(11, .int (dq_b (sp_lt (px h - sx k) (py h - sy k) (sp_mm sx sy sw (px h) (py h) (pw h) lx ly k).1 (sp_mm sx sy sw (px h) (py h) (pw h) lx ly k).2))), (0, .ref (ad 100)), (1, .int (nI h)), (2, .int lx), (3, .int ly), (4, .int 1), (5, .int (sp_mm sx sy sw (px h) (py h) (pw h) lx ly k).1), (6, .int (sp_mm sx sy sw (px h) (py h) (pw h) lx ly k).2), (7, .int (nI k)), (8, .int (px h - sx k)), (9, .int (py h - sy k)), (10, .int (dq_b (sp_lt lx ly (px h - sx k) (py h - sy k))))]) hx hb dMo_fillPlaces_124 hl (by decide) rfl (fun ls hl => ?_)
                  refine lv_aload_n hx hb dMo_fillPlaces_126 rfl (lv_at hl 1 rfl) ?_
                  refine dq_get (D := D) (ci := 8) (v := .ref (ad 104)) (C := RMo) (T := TMo) (N := 29) hx hb hts hinMo hown hK hW 100 ((dq_Un (by decide)).trans ((dq_Un (by decide)).trans ((dq_Un (by decide)).trans ((dq_Un (by decide)).trans m100)))) rfl 4 (by decide) hf16 (fun _ h9 => h9) rfl dMo_fillPlaces_127 ?_
                  refine lv_iload hx hb dMo_fillPlaces_130 (lv_at hl 8 rfl) ?_
                  refine dq_ialdN hx hb hK hW 104 0 ((dq_Un (by decide)).trans ((dq_Un (by decide)).trans ((dq_Un (by decide)).trans ((dq_Un (by decide)).trans m104)))) rfl k (by omega) (by omega) dMo_fillPlaces_132 ?_
                  refine lv_aload_n hx hb dMo_fillPlaces_133 rfl (lv_at hl 1 rfl) ?_
                  refine dq_get (D := D) (ci := 8) (v := .ref (ad 108)) (C := RMo) (T := TMo) (N := 29) hx hb hts hinMo hown hK hW 100 ((dq_Un (by decide)).trans ((dq_Un (by decide)).trans ((dq_Un (by decide)).trans ((dq_Un (by decide)).trans m100)))) rfl 8 (by decide) hf25 (fun _ h9 => h9) rfl dMo_fillPlaces_134 ?_
                  refine lv_iload_n hx hb dMo_fillPlaces_137 rfl (lv_at hl 2 rfl) ?_
                  refine dq_ialdN hx hb hK hW 108 0 ((dq_Un (by decide)).trans ((dq_Un (by decide)).trans ((dq_Un (by decide)).trans ((dq_Un (by decide)).trans m108)))) rfl h (by omega) (by omega) dMo_fillPlaces_138 ?_
                  refine lv_icmp_ne (tgt := 160) hx hb dMo_fillPlaces_139 (by decide) (fun f1 => ?_) (fun f1 => ?_)
                  · have e5 : (sp_mm sx sy sw (px h) (py h) (pw h) lx ly (k + 1)) = (sp_mm sx sy sw (px h) (py h) (pw h) lx ly k) := if_neg (fun h9 => f1 h9.1)
                    refine lv_iinc (v := (nI (k + 1))) (lv' := [(7, .int (nI (k + 1))), (11, .int (dq_b (sp_lt (px h - sx k) (py h - sy k) (sp_mm sx sy sw (px h) (py h) (pw h) lx ly k).1 (sp_mm sx sy sw (px h) (py h) (pw h) lx ly k).2))), (0, .ref (ad 100)), (1, .int (nI h)), (2, .int lx), (3, .int ly), (4, .int 1), (5, .int (sp_mm sx sy sw (px h) (py h) (pw h) lx ly k).1), (6, .int (sp_mm sx sy sw (px h) (py h) (pw h) lx ly k).2), (8, .int (px h - sx k)), (9, .int (py h - sy k)), (10, .int (dq_b (sp_lt lx ly (px h - sx k) (py h - sy k))))]) hx hb dMo_fillPlaces_160 hl (k := 8) rfl (by show nI k + 1 = _; exact nI_1 _) (by decide) rfl (fun ls hl => ?_)
                    refine lv_goto (tgt := 32) hx hb dMo_fillPlaces_163 (by decide) ?_
                    exact ih2 (k + 1) _ (by omega) (by omega) (by rw [e5]; exact (lv_sub hl [2, 3, 4, 5, 6, 7, 8, 0] rfl))
                  · refine lv_iload hx hb dMo_fillPlaces_142 (lv_at hl 11 rfl) ?_
                    refine lv_if_eq (tgt := 160) hx hb dMo_fillPlaces_144 (by decide) (fun f2 => ?_) (fun f2 => ?_)
                    · have e5 : (sp_mm sx sy sw (px h) (py h) (pw h) lx ly (k + 1)) = (sp_mm sx sy sw (px h) (py h) (pw h) lx ly k) := if_neg (fun h9 => absurd ((dq_b_f f2).symm.trans h9.2.1) (by decide))
                      refine lv_iinc (v := (nI (k + 1))) (lv' := [(7, .int (nI (k + 1))), (11, .int (dq_b (sp_lt (px h - sx k) (py h - sy k) (sp_mm sx sy sw (px h) (py h) (pw h) lx ly k).1 (sp_mm sx sy sw (px h) (py h) (pw h) lx ly k).2))), (0, .ref (ad 100)), (1, .int (nI h)), (2, .int lx), (3, .int ly), (4, .int 1), (5, .int (sp_mm sx sy sw (px h) (py h) (pw h) lx ly k).1), (6, .int (sp_mm sx sy sw (px h) (py h) (pw h) lx ly k).2), (8, .int (px h - sx k)), (9, .int (py h - sy k)), (10, .int (dq_b (sp_lt lx ly (px h - sx k) (py h - sy k))))]) hx hb dMo_fillPlaces_160 hl (k := 8) rfl (by show nI k + 1 = _; exact nI_1 _) (by decide) rfl (fun ls hl => ?_)
                      refine lv_goto (tgt := 32) hx hb dMo_fillPlaces_163 (by decide) ?_
                      exact ih2 (k + 1) _ (by omega) (by omega) (by rw [e5]; exact (lv_sub hl [2, 3, 4, 5, 6, 7, 8, 0] rfl))
                    · refine lv_iload hx hb dMo_fillPlaces_147 (lv_at hl 0 rfl) ?_
                      refine lv_if_eq (tgt := 160) hx hb dMo_fillPlaces_149 (by decide) (fun f3 => ?_) (fun f3 => ?_)
                      · have e5 : (sp_mm sx sy sw (px h) (py h) (pw h) lx ly (k + 1)) = (sp_mm sx sy sw (px h) (py h) (pw h) lx ly k) := if_neg (fun h9 => absurd ((dq_b_f f3).symm.trans h9.2.2) (by decide))
                        refine lv_iinc (v := (nI (k + 1))) (lv' := [(7, .int (nI (k + 1))), (11, .int (dq_b (sp_lt (px h - sx k) (py h - sy k) (sp_mm sx sy sw (px h) (py h) (pw h) lx ly k).1 (sp_mm sx sy sw (px h) (py h) (pw h) lx ly k).2))), (0, .ref (ad 100)), (1, .int (nI h)), (2, .int lx), (3, .int ly), (4, .int 1), (5, .int (sp_mm sx sy sw (px h) (py h) (pw h) lx ly k).1), (6, .int (sp_mm sx sy sw (px h) (py h) (pw h) lx ly k).2), (8, .int (px h - sx k)), (9, .int (py h - sy k)), (10, .int (dq_b (sp_lt lx ly (px h - sx k) (py h - sy k))))]) hx hb dMo_fillPlaces_160 hl (k := 8) rfl (by show nI k + 1 = _; exact nI_1 _) (by decide) rfl (fun ls hl => ?_)
                        refine lv_goto (tgt := 32) hx hb dMo_fillPlaces_163 (by decide) ?_
                        exact ih2 (k + 1) _ (by omega) (by omega) (by rw [e5]; exact (lv_sub hl [2, 3, 4, 5, 6, 7, 8, 0] rfl))
                      · have e5 : (sp_mm sx sy sw (px h) (py h) (pw h) lx ly (k + 1)) = ((px h - sx k), (py h - sy k)) := if_pos ⟨f1, dq_b_t f2, dq_b_t f3⟩
                        refine lv_iload hx hb dMo_fillPlaces_152 (lv_at hl 9 rfl) ?_
                        refine lv_istore (lv' := [(5, .int (px h - sx k)), (11, .int (dq_b (sp_lt (px h - sx k) (py h - sy k) (sp_mm sx sy sw (px h) (py h) (pw h) lx ly k).1 (sp_mm sx sy sw (px h) (py h) (pw h) lx ly k).2))), (0, .ref (ad 100)), (1, .int (nI h)), (2, .int lx), (3, .int ly), (4, .int 1), (6, .int (sp_mm sx sy sw (px h) (py h) (pw h) lx ly k).2), (7, .int (nI k)), (8, .int (px h - sx k)), (9, .int (py h - sy k)), (10, .int (dq_b (sp_lt lx ly (px h - sx k) (py h - sy k))))]) hx hb dMo_fillPlaces_154 hl (by decide) rfl (fun ls hl => ?_)
                        refine lv_iload hx hb dMo_fillPlaces_156 (lv_at hl 10 rfl) ?_
                        refine lv_istore (lv' := [(6, .int (py h - sy k)), (5, .int (px h - sx k)), (11, .int (dq_b (sp_lt (px h - sx k) (py h - sy k) (sp_mm sx sy sw (px h) (py h) (pw h) lx ly k).1 (sp_mm sx sy sw (px h) (py h) (pw h) lx ly k).2))), (0, .ref (ad 100)), (1, .int (nI h)), (2, .int lx), (3, .int ly), (4, .int 1), (7, .int (nI k)), (8, .int (px h - sx k)), (9, .int (py h - sy k)), (10, .int (dq_b (sp_lt lx ly (px h - sx k) (py h - sy k))))]) hx hb dMo_fillPlaces_158 hl (by decide) rfl (fun ls hl => ?_)
                        refine lv_iinc (v := (nI (k + 1))) (lv' := [(7, .int (nI (k + 1))), (6, .int (py h - sy k)), (5, .int (px h - sx k)), (11, .int (dq_b (sp_lt (px h - sx k) (py h - sy k) (sp_mm sx sy sw (px h) (py h) (pw h) lx ly k).1 (sp_mm sx sy sw (px h) (py h) (pw h) lx ly k).2))), (0, .ref (ad 100)), (1, .int (nI h)), (2, .int lx), (3, .int ly), (4, .int 1), (8, .int (px h - sx k)), (9, .int (py h - sy k)), (10, .int (dq_b (sp_lt lx ly (px h - sx k) (py h - sy k))))]) hx hb dMo_fillPlaces_160 hl (k := 8) rfl (by show nI k + 1 = _; exact nI_1 _) (by decide) rfl (fun ls hl => ?_)
                        refine lv_goto (tgt := 32) hx hb dMo_fillPlaces_163 (by decide) ?_
                        exact ih2 (k + 1) _ (by omega) (by omega) (by rw [e5]; exact (lv_sub hl [4, 5, 6, 7, 8, 2, 1, 0] rfl))
                refine lv_iload hx hb dMo_fillPlaces_98 (lv_at hl 9 rfl) ?_
                refine lv_iload hx hb dMo_fillPlaces_100 (lv_at hl 6 rfl) ?_
                refine lv_icmp_lt (tgt := 119) hx hb dMo_fillPlaces_102 (by decide) (fun b1 => ?_) (fun b1 => ?_)
                · have e8 : (sp_lt (px h - sx k) (py h - sy k) (sp_mm sx sy sw (px h) (py h) (pw h) lx ly k).1 (sp_mm sx sy sw (px h) (py h) (pw h) lx ly k).2) = true := sp_lt_gt b1
                  have e7 : dq_b (sp_lt (px h - sx k) (py h - sy k) (sp_mm sx sy sw (px h) (py h) (pw h) lx ly k).1 (sp_mm sx sy sw (px h) (py h) (pw h) lx ly k).2) = 1 := by rw [e8]; rfl
                  rw [e7] at J2
                  refine lv_iconst (v := (1)) hx hb dMo_fillPlaces_119 (by decide) ?_
                  refine lv_goto (tgt := 124) hx hb dMo_fillPlaces_120 (by decide) ?_
                  exact J2  _   (lv_sub hl [1, 2, 3, 4, 5, 6, 7, 8, 9, 10, 0] rfl)
                · refine lv_iload hx hb dMo_fillPlaces_105 (lv_at hl 9 rfl) ?_
                  refine lv_iload hx hb dMo_fillPlaces_107 (lv_at hl 6 rfl) ?_
                  refine lv_icmp_ne (tgt := 123) hx hb dMo_fillPlaces_109 (by decide) (fun b2 => ?_) (fun b2 => ?_)
                  · have e8 : (sp_lt (px h - sx k) (py h - sy k) (sp_mm sx sy sw (px h) (py h) (pw h) lx ly k).1 (sp_mm sx sy sw (px h) (py h) (pw h) lx ly k).2) = false := sp_lt_f1 b1 b2
                    have e7 : dq_b (sp_lt (px h - sx k) (py h - sy k) (sp_mm sx sy sw (px h) (py h) (pw h) lx ly k).1 (sp_mm sx sy sw (px h) (py h) (pw h) lx ly k).2) = 0 := by rw [e8]; rfl
                    rw [e7] at J2
                    refine lv_iconst (v := (0)) hx hb dMo_fillPlaces_123 (by decide) ?_
                    exact J2  _   (lv_sub hl [1, 2, 3, 4, 5, 6, 7, 8, 9, 10, 0] rfl)
                  · refine lv_iload hx hb dMo_fillPlaces_112 (lv_at hl 10 rfl) ?_
                    refine lv_iload hx hb dMo_fillPlaces_114 (lv_at hl 7 rfl) ?_
                    refine lv_icmp_ge (tgt := 123) hx hb dMo_fillPlaces_116 (by decide) (fun b3 => ?_) (fun b3 => ?_)
                    · have e8 : (sp_lt (px h - sx k) (py h - sy k) (sp_mm sx sy sw (px h) (py h) (pw h) lx ly k).1 (sp_mm sx sy sw (px h) (py h) (pw h) lx ly k).2) = false := sp_lt_f2 b1 (Int32.not_lt.mpr b3)
                      have e7 : dq_b (sp_lt (px h - sx k) (py h - sy k) (sp_mm sx sy sw (px h) (py h) (pw h) lx ly k).1 (sp_mm sx sy sw (px h) (py h) (pw h) lx ly k).2) = 0 := by rw [e8]; rfl
                      rw [e7] at J2
                      refine lv_iconst (v := (0)) hx hb dMo_fillPlaces_123 (by decide) ?_
                      exact J2  _   (lv_sub hl [1, 2, 3, 4, 5, 6, 7, 8, 9, 10, 0] rfl)
                    · have e8 : (sp_lt (px h - sx k) (py h - sy k) (sp_mm sx sy sw (px h) (py h) (pw h) lx ly k).1 (sp_mm sx sy sw (px h) (py h) (pw h) lx ly k).2) = true := sp_lt_eq b2 (Int32.not_le.mp b3)
                      have e7 : dq_b (sp_lt (px h - sx k) (py h - sy k) (sp_mm sx sy sw (px h) (py h) (pw h) lx ly k).1 (sp_mm sx sy sw (px h) (py h) (pw h) lx ly k).2) = 1 := by rw [e8]; rfl
                      rw [e7] at J2
                      refine lv_iconst (v := (1)) hx hb dMo_fillPlaces_119 (by decide) ?_
                      refine lv_goto (tgt := 124) hx hb dMo_fillPlaces_120 (by decide) ?_
                      exact J2  _   (lv_sub hl [1, 2, 3, 4, 5, 6, 7, 8, 9, 10, 0] rfl)
              refine lv_icmp_gt (tgt := 91) hx hb dMo_fillPlaces_76 (by decide) (fun a1 => ?_) (fun a1 => ?_)
              · have e8 : (sp_lt lx ly (px h - sx k) (py h - sy k)) = true := sp_lt_gt a1
                have e7 : dq_b (sp_lt lx ly (px h - sx k) (py h - sy k)) = 1 := by rw [e8]; rfl
                rw [e7] at J1
                refine lv_iconst (v := (1)) hx hb dMo_fillPlaces_91 (by decide) ?_
                refine lv_goto (tgt := 96) hx hb dMo_fillPlaces_92 (by decide) ?_
                exact J1  _   (lv_sub hl [2, 3, 4, 5, 6, 7, 8, 9, 1, 0] rfl)
              · refine lv_iload hx hb dMo_fillPlaces_79 (lv_at hl 1 rfl) ?_
                refine lv_iload_n hx hb dMo_fillPlaces_81 rfl (lv_at hl 4 rfl) ?_
                refine lv_icmp_ne (tgt := 95) hx hb dMo_fillPlaces_82 (by decide) (fun a2 => ?_) (fun a2 => ?_)
                · have e8 : (sp_lt lx ly (px h - sx k) (py h - sy k)) = false := sp_lt_f1 a1 (fun h9 => a2 h9.symm)
                  have e7 : dq_b (sp_lt lx ly (px h - sx k) (py h - sy k)) = 0 := by rw [e8]; rfl
                  rw [e7] at J1
                  refine lv_iconst (v := (0)) hx hb dMo_fillPlaces_95 (by decide) ?_
                  exact J1  _   (lv_sub hl [2, 3, 4, 5, 6, 7, 8, 9, 1, 0] rfl)
                · refine lv_iload hx hb dMo_fillPlaces_85 (lv_at hl 0 rfl) ?_
                  refine lv_iload_n hx hb dMo_fillPlaces_87 rfl (lv_at hl 5 rfl) ?_
                  refine lv_icmp_le (tgt := 95) hx hb dMo_fillPlaces_88 (by decide) (fun a3 => ?_) (fun a3 => ?_)
                  · have e8 : (sp_lt lx ly (px h - sx k) (py h - sy k)) = false := sp_lt_f2 a1 (Int32.not_lt.mpr a3)
                    have e7 : dq_b (sp_lt lx ly (px h - sx k) (py h - sy k)) = 0 := by rw [e8]; rfl
                    rw [e7] at J1
                    refine lv_iconst (v := (0)) hx hb dMo_fillPlaces_95 (by decide) ?_
                    exact J1  _   (lv_sub hl [2, 3, 4, 5, 6, 7, 8, 9, 1, 0] rfl)
                  · have e8 : (sp_lt lx ly (px h - sx k) (py h - sy k)) = true := sp_lt_eq a2.symm (Int32.not_le.mp a3)
                    have e7 : dq_b (sp_lt lx ly (px h - sx k) (py h - sy k)) = 1 := by rw [e8]; rfl
                    rw [e7] at J1
                    refine lv_iconst (v := (1)) hx hb dMo_fillPlaces_91 (by decide) ?_
                    refine lv_goto (tgt := 96) hx hb dMo_fillPlaces_92 (by decide) ?_
                    exact J1  _   (lv_sub hl [2, 3, 4, 5, 6, 7, 8, 9, 1, 0] rfl)
        exact loop2 (n + 1) 0 _ (by omega) (Nat.zero_le _) (lv_sub hl [3, 4, 5, 6, 7, 2, 1, 0] rfl)
  exact loop (n + 1) 0 _ _ _ _ _ (Nat.lt_succ_of_le (dq_ct_n _ n)) (sp_start hP hbd) hW hS (lv_sub hl [3, 4, 2, 1, 0] rfl)

set_option maxHeartbeats 4000000 in
set_option maxRecDepth 100000 in
/-- places, no such hole -/
theorem m_places1 (l : Launch) (D : va_G) (g : Nat → ClassId) (ad : Nat → Nat) (w : Nat → Option va_E) (sz : Nat) (cd : Int32) (n hn cn : Nat) (pl : Int32) (tn : Nat) (sg : Int32) (wy : Int64) (a0 : Int32) (m100 : w 100 = some (.inr (8, [.int cd, .int (nI n), .ref (ad 102), .ref (ad 103), .ref (ad 104), .int (nI hn), .ref (ad 106), .ref (ad 107), .ref (ad 108), .ref (ad 109), .ref (ad 110), .ref (ad 111), .int (nI cn), .ref (ad 113), .int pl, .int (nI tn), .ref (ad 116), .ref (ad 117), .ref (ad 118), .ref (ad 119), .int sg, .ref (ad 121), .long wy, .ref (ad 123), .ref (ad 124), .ref (ad 125), .ref (ad 126), .ref (ad 127), .ref (ad 128)]))) (h0 : a0 < 0 ∨ ¬ a0 < nI hn) : Met l yMo_places wsMo_places ({ frames := 3, cells := 0, slots := 0, locals := 84 } : Room) (va_Pc [.ref (ad 100), .int a0] (dq_S D vwCl (dq_t g) ad w sz)) (va_Qi (fun r u => r = 0 ∧ u = dq_U w 100 (.inr (8, [.int 1, .int (nI n), .ref (ad 102), .ref (ad 103), .ref (ad 104), .int (nI hn), .ref (ad 106), .ref (ad 107), .ref (ad 108), .ref (ad 109), .ref (ad 110), .ref (ad 111), .int (nI cn), .ref (ad 113), .int pl, .int (nI tn), .ref (ad 116), .ref (ad 117), .ref (ad 118), .ref (ad 119), .int sg, .ref (ad 121), .long wy, .ref (ad 123), .ref (ad 124), .ref (ad 125), .ref (ad 126), .ref (ad 127), .ref (ad 128)]))) (dq_B D vwCl (dq_t g) ad (dq_A ad w sz)) (dq_A ad w sz)) 0 0 (dq_A ad w sz) := by
  refine dq_ofi (cc := cMo_places) (maxL := 2) (by decide) rfl (Nat.le_of_ble_eq_true rfl) ?_
  intro p e s m below meth c A Q ls ⟨hx, hb, hml, hown, hts⟩ hnm hA hW hK hZ hl hret
  have hS : va_S A s.heap s.heap [] := va_S.rf
  have hl : lv_has ls 2 [(0, .ref (ad 100)), (1, .int a0)] := hl
  have hf68 := hts _ (List.mem_cons_of_mem _ tw3_181)
  have hinMo : ∀ w ∈ u_ws RMo TMo 29, w ∈ wsMo_places := fun w h => List.mem_cons_of_mem _ (inMo w h)
  refine lv_aload_n hx hb dMo_places_0 rfl (lv_at hl 0 rfl) ?_
  refine lv_iload_n hx hb dMo_places_1 rfl (lv_at hl 1 rfl) ?_
  refine dq_calli (va_runV (As := [.int a0]) (rest := []) ⟨hx, hb, hml, hown, hts⟩ (m_noHole_y l D g ad (w) _ cd n hn cn pl tn sg wy a0 m100 h0) (cwV 1 hts (dq_giV tw4_22 tw4_24 twp_16 tw1_10 tw4_25) rfl rfl rfl (by decide +kernel) ⟨Nat.le_of_ble_eq_true rfl, Nat.le_of_ble_eq_true rfl⟩) (dq_preV (ci := 8) hW hS hA hK hZ m100 rfl rfl) rfl rfl hl.1 rfl (lv_room (Nat.le_of_ble_eq_true rfl)) dMo_places_2 ⟨Nat.zero_le _, Nat.zero_le _⟩) hW hS hA (fun r1 u_9 H locs hp1 hW hS hz9 => ?_)
  obtain ⟨hr1, hu9⟩ := hp1
  rw [hu9] at hW
  subst hr1
  refine lv_if_eq (tgt := 10) hx hb dMo_places_5 (by decide) (fun c1 => ?_) (fun c1 => ?_)
  · exact absurd c1 (by decide)
  · refine lv_iconst (v := (0)) hx hb dMo_places_8 (by decide) ?_
    exact hret _ _ _ _ _ _ ⟨rfl, rfl⟩ hW hS dMo_places_9

set_option maxHeartbeats 4000000 in
set_option maxRecDepth 100000 in
/-- places(h) -/
theorem m_places (l : Launch) (D : va_G) (g : Nat → ClassId) (ad : Nat → Nat) (w : Nat → Option va_E) (sz : Nat) (cd : Int32) (n hn cn : Nat) (pl : Int32) (tn : Nat) (sg : Int32) (wy : Int64) (sx sy sw : Nat → Int32) (px py pw pd pf pt : Nat → Int32) (bx : Nat → Int32) (qX qY qS qc : Nat → Int32) (h q : Nat) (X Y SD : Nat → Int32) (m100 : w 100 = some (.inr (8, [.int cd, .int (nI n), .ref (ad 102), .ref (ad 103), .ref (ad 104), .int (nI hn), .ref (ad 106), .ref (ad 107), .ref (ad 108), .ref (ad 109), .ref (ad 110), .ref (ad 111), .int (nI cn), .ref (ad 113), .int pl, .int (nI tn), .ref (ad 116), .ref (ad 117), .ref (ad 118), .ref (ad 119), .int sg, .ref (ad 121), .long wy, .ref (ad 123), .ref (ad 124), .ref (ad 125), .ref (ad 126), .ref (ad 127), .ref (ad 128)]))) (m102 : w 102 = some (.inl (g 0, 16, .inl sx))) (m103 : w 103 = some (.inl (g 0, 16, .inl sy))) (m104 : w 104 = some (.inl (g 0, 16, .inl sw))) (m106 : w 106 = some (.inl (g 0, 14, .inl px))) (m107 : w 107 = some (.inl (g 0, 14, .inl py))) (m108 : w 108 = some (.inl (g 0, 14, .inl pw))) (m109 : w 109 = some (.inl (g 0, 14, .inl pd))) (m110 : w 110 = some (.inl (g 0, 14, .inl pf))) (m111 : w 111 = some (.inl (g 1, 14, .inl pt))) (m113 : w 113 = some (.inl (g 0, 24, .inl bx))) (m124 : w 124 = some (.inl (g 0, 224, .inl qX))) (m125 : w 125 = some (.inl (g 0, 224, .inl qY))) (m126 : w 126 = some (.inl (g 0, 224, .inl qS))) (m127 : w 127 = some (.inl (g 0, 14, .inl qc))) (hn16 : n ≤ 16) (hcn : cn ≤ 6) (hh : h < hn) (hpc : hn ≤ 14) (hq16 : q ≤ 16) (hP : sp_P sx sy sw n (px h) (py h) (pw h) (mb_bar sx sy sw n bx cn) q X Y) (hbd : sp_bd sx sy sw n (px h) (py h) (pw h)) (hSD : ∀ p, p < q → SD p = nI (mp_bits (mp_F sx sy sw px py pw pd pf pt n h (X p) (Y p)) 0 hn)) : Met l yMo_places wsMo_places ({ frames := 3, cells := 0, slots := 0, locals := 84 } : Room) (va_Pc [.ref (ad 100), .int (nI h)] (dq_S D vwCl (dq_t g) ad w sz)) (va_Qi (fun r u => r = nI q ∧ u = dq_U (dq_U (dq_U (dq_U (dq_U w 100 (.inr (8, [.int 0, .int (nI n), .ref (ad 102), .ref (ad 103), .ref (ad 104), .int (nI hn), .ref (ad 106), .ref (ad 107), .ref (ad 108), .ref (ad 109), .ref (ad 110), .ref (ad 111), .int (nI cn), .ref (ad 113), .int pl, .int (nI tn), .ref (ad 116), .ref (ad 117), .ref (ad 118), .ref (ad 119), .int sg, .ref (ad 121), .long wy, .ref (ad 123), .ref (ad 124), .ref (ad 125), .ref (ad 126), .ref (ad 127), .ref (ad 128)]))) 127 (.inl (g 0, 14, .inl (upd qc h (nI q))))) 124 (.inl (g 0, 224, .inl (sp_w qX X (16 * h) q)))) 125 (.inl (g 0, 224, .inl (sp_w qY Y (16 * h) q)))) 126 (.inl (g 0, 224, .inl (sp_w qS SD (16 * h) q)))) (dq_B D vwCl (dq_t g) ad (dq_A ad w sz)) (dq_A ad w sz)) 0 0 (dq_A ad w sz) := by
  refine dq_ofi (cc := cMo_places) (maxL := 2) (by decide) rfl (Nat.le_of_ble_eq_true rfl) ?_
  intro p e s m below meth c A Q ls ⟨hx, hb, hml, hown, hts⟩ hnm hA hW hK hZ hl hret
  have hS : va_S A s.heap s.heap [] := va_S.rf
  have hl : lv_has ls 2 [(0, .ref (ad 100)), (1, .int (nI h))] := hl
  have hf68 := hts _ (List.mem_cons_of_mem _ tw3_181)
  have hinMo : ∀ w ∈ u_ws RMo TMo 29, w ∈ wsMo_places := fun w h => List.mem_cons_of_mem _ (inMo w h)
  refine lv_aload_n hx hb dMo_places_0 rfl (lv_at hl 0 rfl) ?_
  refine lv_iload_n hx hb dMo_places_1 rfl (lv_at hl 1 rfl) ?_
  refine dq_calli (va_runV (As := [.int (nI h)]) (rest := []) ⟨hx, hb, hml, hown, hts⟩ (m_noHole_n l D g ad (w) _ cd n hn cn pl tn sg wy (nI h) m100 (nI_pos (show h < 2 ^ 31 by omega)) (nI_lt hh (by omega))) (cwV 1 hts (dq_giV tw4_22 tw4_24 twp_16 tw1_10 tw4_25) rfl rfl rfl (by decide +kernel) ⟨Nat.le_of_ble_eq_true rfl, Nat.le_of_ble_eq_true rfl⟩) (dq_preV (ci := 8) hW hS hA hK hZ m100 rfl rfl) rfl rfl hl.1 rfl (lv_room (Nat.le_of_ble_eq_true rfl)) dMo_places_2 ⟨Nat.zero_le _, Nat.zero_le _⟩) hW hS hA (fun r1 u_9 H locs hp1 hW hS hz9 => ?_)
  obtain ⟨hr1, hu9⟩ := hp1
  rw [hu9] at hW
  subst hr1
  refine lv_if_eq (tgt := 10) hx hb dMo_places_5 (by decide) (fun c1 => ?_) (fun c1 => ?_)
  · refine lv_aload_n hx hb dMo_places_10 rfl (lv_at hl 0 rfl) ?_
    refine lv_iload_n hx hb dMo_places_11 rfl (lv_at hl 1 rfl) ?_
    refine dq_callv (va_runV (As := [.int (nI h)]) (rest := []) ⟨hx, hb, hml, hown, hts⟩ (m_fillPlaces l D g ad (dq_U w 100 (.inr (8, [.int 0, .int (nI n), .ref (ad 102), .ref (ad 103), .ref (ad 104), .int (nI hn), .ref (ad 106), .ref (ad 107), .ref (ad 108), .ref (ad 109), .ref (ad 110), .ref (ad 111), .int (nI cn), .ref (ad 113), .int pl, .int (nI tn), .ref (ad 116), .ref (ad 117), .ref (ad 118), .ref (ad 119), .int sg, .ref (ad 121), .long wy, .ref (ad 123), .ref (ad 124), .ref (ad 125), .ref (ad 126), .ref (ad 127), .ref (ad 128)]))) _ 0 n hn cn pl tn sg wy sx sy sw px py pw pd pf pt bx qX qY qS qc h q X Y SD dq_Us ((dq_Un (by decide)).trans m102) ((dq_Un (by decide)).trans m103) ((dq_Un (by decide)).trans m104) ((dq_Un (by decide)).trans m106) ((dq_Un (by decide)).trans m107) ((dq_Un (by decide)).trans m108) ((dq_Un (by decide)).trans m109) ((dq_Un (by decide)).trans m110) ((dq_Un (by decide)).trans m111) ((dq_Un (by decide)).trans m113) ((dq_Un (by decide)).trans m124) ((dq_Un (by decide)).trans m125) ((dq_Un (by decide)).trans m126) ((dq_Un (by decide)).trans m127) hn16 hcn hh hpc hq16 hP hbd hSD) (cwV 1 hts (dq_giV tw4_38 tw4_40 twp_17 tw1_10 tw4_41) rfl rfl rfl (by decide +kernel) ⟨Nat.le_of_ble_eq_true rfl, Nat.le_of_ble_eq_true rfl⟩) (dq_preV (ci := 8) hW hS hA hK hZ dq_Us rfl rfl) rfl rfl hl.1 rfl (lv_room (Nat.le_of_ble_eq_true rfl)) dMo_places_12 ⟨Nat.zero_le _, Nat.zero_le _⟩) hW hS hA (fun u_9 H locs hp2 hW hS hz9 => ?_)
    rw [hp2] at hW
    refine lv_aload_n hx hb dMo_places_15 rfl (lv_at hl 0 rfl) ?_
    refine dq_get (D := D) (ci := 8) (v := .ref (ad 127)) (C := RMo) (T := TMo) (N := 29) hx hb hts hinMo hown hK hW 100 ((dq_Un (by decide)).trans ((dq_Un (by decide)).trans ((dq_Un (by decide)).trans ((dq_Un (by decide)).trans dq_Us)))) rfl 27 (by decide) hf68 (fun _ h9 => h9) rfl dMo_places_16 ?_
    refine lv_iload_n hx hb dMo_places_19 rfl (lv_at hl 1 rfl) ?_
    refine dq_ialdN hx hb hK hW 127 0 ((dq_Un (by decide)).trans ((dq_Un (by decide)).trans ((dq_Un (by decide)).trans dq_Us))) rfl h (by omega) (by omega) dMo_places_20 ?_
    refine dq_top (y := nI q) (by rw [pk_us]) ?_
    exact hret _ _ _ _ _ _ ⟨rfl, rfl⟩ hW hS dMo_places_21
  · exact absurd rfl c1
