set_option maxHeartbeats 4000000 in
set_option maxRecDepth 100000 in
/-- run(), planned already -/
theorem c_run_no (l : Launch) (D : va_G) (g : Nat → ClassId) (ad : Nat → Nat) (w : Nat → Option va_E) (sz : Nat) (sg pl : Int32) (hX hY hF hs : Nat → Int32) (hc : Nat) (o0 : w 0 = some (.inr (7, [.ref (ad 1), .ref (ad 5), .ref (ad 12), .ref (ad 17), .ref (ad 18), .ref (ad 23), .ref (ad 25), .int sg, .int pl]))) (t18 : w 18 = some (.inr (2, [.ref (ad 19), .ref (ad 20), .ref (ad 21), .ref (ad 22), .int (nI hc)]))) (hpl : ¬ pl = 0) : Met l yDH_run wsDH_run ({ frames := 7, cells := 0, slots := 0, locals := 200 } : Room) (va_Pc [.ref (ad 0)] (dq_S D vwCl (dq_t g) ad w sz)) (va_Qi (fun r u => r = nI hc ∧ u = w) (dq_B D vwCl (dq_t g) ad (dq_A ad w sz)) (dq_A ad w sz)) 0 0 (dq_A ad w sz) := by
  refine dq_ofi (cc := cDH_run) (maxL := 1) (by decide) rfl (Nat.le_of_ble_eq_true rfl) ?_
  intro p e s m below meth c A Q ls ⟨hx, hb, hml, hown, hts⟩ hnm hA hW hK hZ hl hret
  have hS : va_S A s.heap s.heap [] := va_S.rf
  have hl : lv_has ls 1 [(0, .ref (ad 0))] := hl
  have hf51 := hts _ (List.mem_cons_of_mem _ tw1_218)
  have hf65 := hts _ (List.mem_cons_of_mem _ tw1_220)
  have hf92 := hts _ (List.mem_cons_of_mem _ tw1_222)
  have hf140 := hts _ (List.mem_cons_of_mem _ tw1_174)
  have hinDH : ∀ w ∈ u_ws RDH TDH 9, w ∈ wsDH_run := fun w h => List.mem_cons_of_mem _ (inDH w h)
  have hinHt : ∀ w ∈ u_ws RHt THt 5, w ∈ wsDH_run := fun w h => List.mem_cons_of_mem _ (inHt w h)
  refine lv_aload_n hx hb dDH_run_0 rfl (lv_at hl 0 rfl) ?_
  refine dq_get (D := D) (ci := 7) (v := .int pl) (C := RDH) (T := TDH) (N := 9) hx hb hts hinDH hown hK hW 0 o0 rfl 8 (by decide) hf92 (fun _ h9 => h9) rfl dDH_run_1 ?_
  refine lv_if_ne (tgt := 31) hx hb dDH_run_4 (by decide) (fun c1 => ?_) (fun c1 => ?_)
  · refine lv_aload_n hx hb dDH_run_31 rfl (lv_at hl 0 rfl) ?_
    refine dq_get (D := D) (ci := 7) (v := .ref (ad 18)) (C := RDH) (T := TDH) (N := 9) hx hb hts hinDH hown hK hW 0 o0 rfl 4 (by decide) hf51 (fun _ h9 => h9) rfl dDH_run_32 ?_
    refine dq_get (D := D) (ci := 2) (v := .int (nI hc)) (C := RHt) (T := THt) (N := 5) hx hb hts hinHt hown hK hW 18 t18 rfl 4 (by decide) hf140 (fun _ h9 => h9) rfl dDH_run_35 ?_
    exact hret _ _ _ _ _ _ ⟨rfl, rfl⟩ hW hS dDH_run_38
  · exact absurd c1 hpl
set_option maxHeartbeats 4000000 in
set_option maxRecDepth 100000 in
/-- run() -/
theorem c_run (l : Launch) (D : va_G) (g : Nat → ClassId) (ad : Nat → Nat) (w : Nat → Option va_E) (sz : Nat) (sg pl : Int32) (n : Nat) (hx_ hy_ hw_ : Nat → Int32) (f0 f1 f2 f3 : Int32) (px py pw pd pf pt : Nat → Int32) (pc_ : Nat) (cx0 cy0 cx1 cy1 : Nat → Int32) (cc_ : Nat) (qs : Nat → Nat) (XX YY DD : Nat → Nat → Int32) (hX hY hF hs : Nat → Int32) (hc : Nat) (len : Nat) (fw : Nat → Int32) (wl : Int64) (sq sh : Nat → Int32) (sl : Nat) (mq_ : Nat → Nat) (mX_ mY_ mD_ : Nat → Nat → Int32) (q2 : Nat → Nat) (X2 Y2 D2 : Nat → Nat → Int32) (FW : Nat → Int32) (nh : Nat) (zz : (Nat → Int32) × (Nat → Int32) × (Nat → Int32) × (Nat → Int32) × Nat) (o0 : w 0 = some (.inr (7, [.ref (ad 1), .ref (ad 5), .ref (ad 12), .ref (ad 17), .ref (ad 18), .ref (ad 23), .ref (ad 25), .int sg, .int pl]))) (h1 : w 1 = some (.inr (1, [.ref (ad 2), .ref (ad 3), .ref (ad 4), .int f0, .int f1, .int f2, .int f3]))) (h2 : w 2 = some (.inl (g 0, n, .inl hx_))) (h3 : w 3 = some (.inl (g 0, n, .inl hy_))) (h4 : w 4 = some (.inl (g 0, n, .inl hw_))) (p5 : w 5 = some (.inr (3, [.ref (ad 6), .ref (ad 7), .ref (ad 8), .ref (ad 9), .ref (ad 10), .ref (ad 11), .int (nI pc_)]))) (p6 : w 6 = some (.inl (g 0, 14, .inl px))) (p7 : w 7 = some (.inl (g 0, 14, .inl py))) (p8 : w 8 = some (.inl (g 0, 14, .inl pw))) (p9 : w 9 = some (.inl (g 0, 14, .inl pd))) (p10 : w 10 = some (.inl (g 0, 14, .inl pf))) (p11 : w 11 = some (.inl (g 1, 14, .inl pt))) (k12 : w 12 = some (.inr (0, [.ref (ad 13), .ref (ad 14), .ref (ad 15), .ref (ad 16), .int (nI cc_)]))) (k13 : w 13 = some (.inl (g 0, 6, .inl cx0))) (k14 : w 14 = some (.inl (g 0, 6, .inl cy0))) (k15 : w 15 = some (.inl (g 0, 6, .inl cx1))) (k16 : w 16 = some (.inl (g 0, 6, .inl cy1))) (a17 : w 17 = some (.inl (g 3, 14, .inr (.inr (.inr (.inr (fun h => some (ad (30 + 4 * h))))))))) (t18 : w 18 = some (.inr (2, [.ref (ad 19), .ref (ad 20), .ref (ad 21), .ref (ad 22), .int (nI hc)]))) (t19 : w 19 = some (.inl (g 0, 14, .inl hX))) (t20 : w 20 = some (.inl (g 0, 14, .inl hY))) (t21 : w 21 = some (.inl (g 0, 14, .inl hF))) (t22 : w 22 = some (.inl (g 0, 14, .inl hs))) (b23 : w 23 = some (.inr (5, [.ref (ad 24)]))) (b24 : w 24 = some (.inl (g 0, len, .inl fw))) (y25 : w 25 = some (.inr (6, [.ref (ad 26), .long wl, .ref (ad 27)]))) (y26 : w 26 = some (.inl (g 0, 14, .inl sq))) (y27 : w 27 = some (.inl (g 0, sl, .inl sh))) (hpl : pl = 0) (hn : n ≤ 16) (hc6 : cc_ ≤ 6) (hpc : pc_ ≤ 14) (hln : len ≤ 16384) (hsl2 : sl ≤ 10240) (hq16 : ∀ h, h < 14 → qs h ≤ 16) (lp0 : ∀ h, h < 14 → w (30 + 4 * h) = some (.inr (4, [.ref (ad (31 + 4 * h)), .ref (ad (32 + 4 * h)), .ref (ad (33 + 4 * h)), .int (nI (qs h))]))) (lp1 : ∀ h, h < 14 → w (31 + 4 * h) = some (.inl (g 0, 16, .inl (XX h)))) (lp2 : ∀ h, h < 14 → w (32 + 4 * h) = some (.inl (g 0, 16, .inl (YY h)))) (lp3 : ∀ h, h < 14 → w (33 + 4 * h) = some (.inl (g 0, 16, .inl (DD h)))) (hmq : mq_ = (fun h => ((fun h => mp_find hx_ hy_ hw_ (px h) (py h) (pw h) (mc_bar cx0 cy0 cx1 cy1 cc_ f0 f1 f2 f3) (XX h) (YY h) n) h).1)) (hmX : mX_ = (fun h => ((fun h => mp_find hx_ hy_ hw_ (px h) (py h) (pw h) (mc_bar cx0 cy0 cx1 cy1 cc_ f0 f1 f2 f3) (XX h) (YY h) n) h).2.1)) (hmY : mY_ = (fun h => ((fun h => mp_find hx_ hy_ hw_ (px h) (py h) (pw h) (mc_bar cx0 cy0 cx1 cy1 cc_ f0 f1 f2 f3) (XX h) (YY h) n) h).2.2)) (hmD : mD_ = (fun h => mp_D (fun p => mp_bits (mp_F hx_ hy_ hw_ px py pw pd pf pt n h (((fun h => mp_find hx_ hy_ hw_ (px h) (py h) (pw h) (mc_bar cx0 cy0 cx1 cy1 cc_ f0 f1 f2 f3) (XX h) (YY h) n) h).2.1 p) (((fun h => mp_find hx_ hy_ hw_ (px h) (py h) (pw h) (mc_bar cx0 cy0 cx1 cy1 cc_ f0 f1 f2 f3) (XX h) (YY h) n) h).2.2 p)) h (pc_ - h)) (DD h) ((fun h => mp_find hx_ hy_ hw_ (px h) (py h) (pw h) (mc_bar cx0 cy0 cx1 cy1 cc_ f0 f1 f2 f3) (XX h) (YY h) n) h).1)) (hq2 : q2 = dq_pw pc_ mq_ qs) (hX2 : X2 = dq_pw pc_ mX_ XX) (hY2 : Y2 = dq_pw pc_ mY_ YY) (hD2 : D2 = dq_pw pc_ mD_ DD) (hFW : FW = (mt_fill (if len < 2 ^ pc_ then (fun _ => 0) else fw) (dq_N D2) q2 (dq_df (2 ^ pc_ - 1) (mf_sg mq_ pc_)))) (hnh : nh = (mp_n FW (dq_N D2) q2 X2 Y2 pf (hX, hY, hF, hs, (dq_df (2 ^ pc_ - 1) (mf_sg mq_ pc_))))) (hzz : zz = (mp_pl FW (dq_N D2) q2 X2 Y2 pf (hX, hY, hF, hs, (dq_df (2 ^ pc_ - 1) (mf_sg mq_ pc_))) nh)) : Met l yDH_run wsDH_run ({ frames := 7, cells := ((if len < 2 ^ pc_ then 1 else 0) + (if (nh ≤ 10 ∧ sl < 2 ^ nh * nh) then 1 else 0)), slots := ((if len < 2 ^ pc_ then 2 ^ pc_ else 0) + (if (nh ≤ 10 ∧ sl < 2 ^ nh * nh) then 2 ^ nh * nh else 0)), locals := 200 } : Room) (va_Pc [.ref (ad 0)] (dq_S D vwCl (dq_t g) ad w sz)) (va_Qi (fun r u => r = nI nh ∧ (∀ j, j ≠ 24 → j ≠ 27 → u.1 j = ad j) ∧ (∀ j, j ≠ 0 → (j < 18 ∨ 86 ≤ j) → u.2 j = w j) ∧ u.2 0 = some (.inr (7, [.ref (u.1 1), .ref (u.1 5), .ref (u.1 12), .ref (u.1 17), .ref (u.1 18), .ref (u.1 23), .ref (u.1 25), .int (nI (mf_sg mq_ pc_)), .int 1])) ∧ (∀ h, h < 14 → u.2 (30 + 4 * h) = some (.inr (4, [.ref (u.1 (31 + 4 * h)), .ref (u.1 (32 + 4 * h)), .ref (u.1 (33 + 4 * h)), .int (nI (q2 h))]))) ∧ (∀ h, h < 14 → u.2 (31 + 4 * h) = some (.inl (g 0, 16, .inl (X2 h)))) ∧ (∀ h, h < 14 → u.2 (32 + 4 * h) = some (.inl (g 0, 16, .inl (Y2 h)))) ∧ (∀ h, h < 14 → u.2 (33 + 4 * h) = some (.inl (g 0, 16, .inl (D2 h)))) ∧ u.2 18 = some (.inr (2, [.ref (u.1 19), .ref (u.1 20), .ref (u.1 21), .ref (u.1 22), .int (nI nh)])) ∧ u.2 19 = some (.inl (g 0, 14, .inl zz.1)) ∧ u.2 20 = some (.inl (g 0, 14, .inl zz.2.1)) ∧ u.2 21 = some (.inl (g 0, 14, .inl zz.2.2.1)) ∧ u.2 22 = some (.inl (g 0, 14, .inl zz.2.2.2.1)) ∧ u.2 23 = some (.inr (5, [.ref (u.1 24)])) ∧ u.2 24 = some (.inl (g 0, (if len < 2 ^ pc_ then 2 ^ pc_ else len), .inl FW)) ∧ ∃ (SQ sh9 : Nat → Int32), ((nh ≤ 10 ∧ ∃ sh8 : Nat → Int32, SQ = (mw_tk (mw_fill sh8 zz.1 zz.2.1 nh (2 ^ nh)) zz.1 zz.2.1 nh sq nh).1) ∨ (10 < nh ∧ SQ = mw_own sq nh)) ∧ u.2 25 = some (.inr (6, [.ref (u.1 26), .long (mw_len zz.1 zz.2.1 (fun i => (SQ i).toNatClampNeg) nh).1, .ref (u.1 27)])) ∧ u.2 26 = some (.inl (g 0, 14, .inl SQ)) ∧ u.2 27 = some (.inl (g 0, (if (nh ≤ 10 ∧ sl < 2 ^ nh * nh) then 2 ^ nh * nh else sl), .inl sh9))) (dq_B2 D vwCl (dq_t g) (dq_A ad w sz)) (dq_A ad w sz)) ((if len < 2 ^ pc_ then 1 else 0) + (if (nh ≤ 10 ∧ sl < 2 ^ nh * nh) then 1 else 0)) ((if len < 2 ^ pc_ then 2 ^ pc_ else 0) + (if (nh ≤ 10 ∧ sl < 2 ^ nh * nh) then 2 ^ nh * nh else 0)) (dq_A ad w sz) := by
  refine dq_ofi2 (cc := cDH_run) (maxL := 1) (by decide) rfl (Nat.le_of_ble_eq_true rfl) ?_
  intro p e s m below meth c A Q ls ⟨hx, hb, hml, hown, hts⟩ hnm hA hW hK hZ hl hret
  have hS : va_S A s.heap s.heap [] := va_S.rf
  have hl : lv_has ls 1 [(0, .ref (ad 0))] := hl
  have hf51 := hts _ (List.mem_cons_of_mem _ tw1_218)
  have hf65 := hts _ (List.mem_cons_of_mem _ tw1_220)
  have hf92 := hts _ (List.mem_cons_of_mem _ tw1_222)
  have hf140 := hts _ (List.mem_cons_of_mem _ tw1_174)
  have hinDH : ∀ w ∈ u_ws RDH TDH 9, w ∈ wsDH_run := fun w h => List.mem_cons_of_mem _ (inDH w h)
  have hinHt : ∀ w ∈ u_ws RHt THt 5, w ∈ wsDH_run := fun w h => List.mem_cons_of_mem _ (inHt w h)
  refine lv_aload_n hx hb dDH_run_0 rfl (lv_at hl 0 rfl) ?_
  refine dq_get (D := D) (ci := 7) (v := .int pl) (C := RDH) (T := TDH) (N := 9) hx hb hts hinDH hown hK hW 0 o0 rfl 8 (by decide) hf92 (fun _ h9 => h9) rfl dDH_run_1 ?_
  refine lv_if_ne (tgt := 31) hx hb dDH_run_4 (by decide) (fun c1 => ?_) (fun c1 => ?_)
  · exact absurd hpl c1
  · refine lv_aload_n hx hb dDH_run_7 rfl (lv_at hl 0 rfl) ?_
    refine dq_callv (va_runV (As := []) (rest := []) ⟨hx, hb, hml, hown, hts⟩ (c_findPlaces l D g ad (w) _ sg pl n hx_ hy_ hw_ f0 f1 f2 f3 px py pw pd pf pt pc_ cx0 cy0 cx1 cy1 cc_ qs XX YY DD mq_ mX_ mY_ mD_ o0 h1 h2 h3 h4 p5 p6 p7 p8 p9 p10 p11 k12 k13 k14 k15 k16 a17 hn hc6 hpc hq16 lp0 lp1 lp2 lp3 hmq hmX hmY hmD) (cwV 0 hts (dq_giV tw2_6 tw2_8 twp_0 tw1_1 tw2_9) rfl rfl rfl (by decide +kernel) ⟨Nat.le_of_ble_eq_true rfl, Nat.le_of_ble_eq_true rfl⟩) (dq_preV (ci := 7) hW hS hA hK hZ o0 rfl rfl) rfl rfl hl.1 rfl (lv_room (Nat.le_of_ble_eq_true rfl)) dDH_run_8 ⟨Nat.zero_le _, Nat.zero_le _⟩) hW hS hA (fun u_9 H locs hp1 hW hS hz9 => ?_)
    obtain ⟨w1, hw1⟩ : ∃ w1, w1 = u_9 := ⟨_, rfl⟩
    rw [← hw1] at hp1 hW
    obtain ⟨hfr1, b0, m0, m1, m2, m3⟩ := hp1
    have m0 : ∀ h, h < 14 → w1 (30 + 4 * h) = some (.inr (4, [.ref (ad (31 + 4 * h)), .ref (ad (32 + 4 * h)), .ref (ad (33 + 4 * h)), .int (nI (q2 h))])) := by rw [hq2]; exact m0
    have m1 : ∀ h, h < 14 → w1 (31 + 4 * h) = some (.inl (g 0, 16, .inl (X2 h))) := by rw [hX2]; exact m1
    have m2 : ∀ h, h < 14 → w1 (32 + 4 * h) = some (.inl (g 0, 16, .inl (Y2 h))) := by rw [hY2]; exact m2
    have m3 : ∀ h, h < 14 → w1 (33 + 4 * h) = some (.inl (g 0, 16, .inl (D2 h))) := by rw [hD2]; exact m3
    have hq16b : ∀ h, h < 14 → q2 h ≤ 16 := by intro h hh; rw [hq2]; unfold dq_pw; split; (rw [hmq]; exact mp_find_le _ _ _ _ _ _ _ _ _ _); exact hq16 h hh
    have hnh9 : nh ≤ 14 := by rw [hnh]; exact dq_fn_le _ _
    refine lv_aload_n hx hb dDH_run_11 rfl (lv_at hl 0 rfl) ?_
    refine dq_callv2 (va_runV (As := []) (rest := []) ⟨hx, hb, hml, hown, hts⟩ (c_planHits l D g ad (w1) _ (mf_sg mq_ pc_) pl px py pw pd pf pt pc_ q2 X2 Y2 D2 len fw hX hY hF hs hc b0 ((hfr1 5 (by decide) (Or.inl (by decide))).trans p5) ((hfr1 10 (by decide) (Or.inl (by decide))).trans p10) ((hfr1 17 (by decide) (Or.inl (by decide))).trans a17) ((hfr1 23 (by decide) (Or.inl (by decide))).trans b23) ((hfr1 24 (by decide) (Or.inl (by decide))).trans b24) ((hfr1 18 (by decide) (Or.inl (by decide))).trans t18) ((hfr1 19 (by decide) (Or.inl (by decide))).trans t19) ((hfr1 20 (by decide) (Or.inl (by decide))).trans t20) ((hfr1 21 (by decide) (Or.inl (by decide))).trans t21) ((hfr1 22 (by decide) (Or.inl (by decide))).trans t22) hpc hln hq16b m0 m1 m2 m3) (cwV 0 hts (dq_giV tw2_43 tw2_45 twp_2 tw1_1 tw2_46) rfl rfl rfl (by decide +kernel) ⟨Nat.le_of_ble_eq_true rfl, Nat.le_of_ble_eq_true rfl⟩) (dq_preV (ci := 7) hW hS hA hK hZ b0 rfl rfl) rfl rfl hl.1 rfl (lv_room (Nat.le_of_ble_eq_true rfl)) dDH_run_12 ⟨by show 0 + 0 + _ ≤ _ + _; omega, by show 0 + 0 + _ ≤ _ + _; omega⟩) hW hS hA (fun u_9 H locs hp2 hW hS hz9 => ?_)
    obtain ⟨ad1, w2⟩ := u_9
    obtain ⟨hadj, hfr2, e23, e24, e18, e19, e20, e21, e22⟩ := hp2
    dsimp only at hadj hfr2 e23 e24 e18 e19 e20 e21 e22 hW
    rw [← hFW] at e24 e18 e19 e20 e21 e22
    rw [← hnh] at e18 e19 e20 e21 e22
    rw [← hzz] at e19 e20 e21 e22
    have hl : lv_has ls 1 [(0, .ref (ad1 0))] := by rw [hadj 0 (by decide)]; exact hl
    have e0 : w2 0 = some (.inr (7, [.ref (ad1 1), .ref (ad1 5), .ref (ad1 12), .ref (ad1 17), .ref (ad1 18), .ref (ad1 23), .ref (ad1 25), .int (nI (mf_sg mq_ pc_)), .int pl])) := by rw [hadj 1 (by decide), hadj 5 (by decide), hadj 12 (by decide), hadj 17 (by decide), hadj 18 (by decide), hadj 23 (by decide), hadj 25 (by decide), hfr2 0 (by decide)]; exact b0
    have e25 : w2 25 = some (.inr (6, [.ref (ad1 26), .long wl, .ref (ad1 27)])) := by rw [hadj 26 (by decide), hadj 27 (by decide), hfr2 25 (by decide)]; exact ((hfr1 25 (by decide) (Or.inl (by decide))).trans y25)
    have e26 : w2 26 = some (.inl (g 0, 14, .inl sq)) := by rw [hfr2 26 (by decide)]; exact ((hfr1 26 (by decide) (Or.inl (by decide))).trans y26)
    have e27 : w2 27 = some (.inl (g 0, sl, .inl sh)) := by rw [hfr2 27 (by decide)]; exact ((hfr1 27 (by decide) (Or.inl (by decide))).trans y27)
    refine lv_aload_n hx hb dDH_run_15 rfl (lv_at hl 0 rfl) ?_
    refine dq_get (D := D) (ci := 7) (v := .ref (ad1 25)) (C := RDH) (T := TDH) (N := 9) hx hb hts hinDH hown hK hW 0 e0 rfl 6 (by decide) hf65 (fun _ h9 => h9) rfl dDH_run_16 ?_
    refine lv_aload_n hx hb dDH_run_19 rfl (lv_at hl 0 rfl) ?_
    refine dq_get (D := D) (ci := 7) (v := .ref (ad1 18)) (C := RDH) (T := TDH) (N := 9) hx hb hts hinDH hown hK hW 0 e0 rfl 4 (by decide) hf51 (fun _ h9 => h9) rfl dDH_run_20 ?_
    refine dq_callv2 (va_runV (As := [.ref (ad1 18)]) (rest := []) ⟨hx, hb, hml, hown, hts⟩ (c_Way_find l D g ad1 (w2) _ zz.1 zz.2.1 nh wl sq sh sl e18 e19 e20 e25 e26 e27 hnh9 hsl2) (cwV 1 hts (dq_giV tw2_76 tw2_77 tw2_78 tw1_9 tw2_79) rfl rfl rfl (by decide +kernel) ⟨Nat.le_of_ble_eq_true rfl, Nat.le_of_ble_eq_true rfl⟩) (dq_preV (ci := 6) hW hS hA hK hZ e25 rfl rfl) rfl rfl hl.1 rfl (lv_room (Nat.le_of_ble_eq_true rfl)) dDH_run_23 ⟨by show 0 + 0 + _ + _ ≤ _ + _; omega, by show 0 + 0 + _ + _ ≤ _ + _; omega⟩) hW hS hA (fun u_9 H locs hp3 hW hS hz9 => ?_)
    obtain ⟨ad2, w3⟩ := u_9
    obtain ⟨hadk, hfr3, SQ, sh9, hSQ, k25, k26, k27⟩ := hp3
    dsimp only at hadk hfr3 k25 k26 k27 hW
    have hl : lv_has ls 1 [(0, .ref (ad2 0))] := by rw [hadk 0 (by decide)]; exact hl
    have k0 : w3 0 = some (.inr (7, [.ref (ad2 1), .ref (ad2 5), .ref (ad2 12), .ref (ad2 17), .ref (ad2 18), .ref (ad2 23), .ref (ad2 25), .int (nI (mf_sg mq_ pc_)), .int pl])) := by rw [hadk 1 (by decide), hadk 5 (by decide), hadk 12 (by decide), hadk 17 (by decide), hadk 18 (by decide), hadk 23 (by decide), hadk 25 (by decide), hfr3 0 (by decide) (by decide) (by decide)]; exact e0
    have k18 : w3 18 = some (.inr (2, [.ref (ad2 19), .ref (ad2 20), .ref (ad2 21), .ref (ad2 22), .int (nI nh)])) := by rw [hadk 19 (by decide), hadk 20 (by decide), hadk 21 (by decide), hadk 22 (by decide), hfr3 18 (by decide) (by decide) (by decide)]; exact e18
    refine lv_aload_n hx hb dDH_run_26 rfl (lv_at hl 0 rfl) ?_
    refine lv_iconst (v := (1)) hx hb dDH_run_27 (by decide) ?_
    refine dq_put (D := D) (ci := 7) (v := .int (1)) (ty := .boolean) (C := RDH) (T := TDH) (N := 9) hx hb hts hinDH tyDH tyDH_ok nmDH hown hK hW hS 0 k0 rfl 8 (by decide) hf92 (fun _ h9 => h9) rfl (by decide +kernel) rfl rfl (Nat.le_of_ble_eq_true rfl) dDH_run_28 (fun H locs hW hS => ?_)
    refine lv_aload_n hx hb dDH_run_31 rfl (lv_at hl 0 rfl) ?_
    refine dq_get (D := D) (ci := 7) (v := .ref (ad2 18)) (C := RDH) (T := TDH) (N := 9) hx hb hts hinDH hown hK hW 0 dq_Us rfl 4 (by decide) hf51 (fun _ h9 => h9) rfl dDH_run_32 ?_
    refine dq_get (D := D) (ci := 2) (v := .int (nI nh)) (C := RHt) (T := THt) (N := 5) hx hb hts hinHt hown hK hW 18 ((dq_Un (by decide)).trans k18) rfl 4 (by decide) hf140 (fun _ h9 => h9) rfl dDH_run_35 ?_
    refine W.widen (k := ((if len < 2 ^ pc_ then 1 else 0) + (if (nh ≤ 10 ∧ sl < 2 ^ nh * nh) then 1 else 0))) (n := ((if len < 2 ^ pc_ then 2 ^ pc_ else 0) + (if (nh ≤ 10 ∧ sl < 2 ^ nh * nh) then 2 ^ nh * nh else 0))) (by omega) (by omega) ?_
    obtain ⟨w4, hw4⟩ : ∃ w4, w4 = dq_U w3 0 (.inr (7, [.ref (ad2 1), .ref (ad2 5), .ref (ad2 12), .ref (ad2 17), .ref (ad2 18), .ref (ad2 23), .ref (ad2 25), .int (nI (mf_sg mq_ pc_)), .int (1)])) := ⟨_, rfl⟩
    have hW : dq_W D vwCl ad2 w4 A H := by rw [hw4]; exact hW
    have v9 : ∀ j, j ≠ 0 → w4 j = w3 j := fun j h1 => by rw [hw4, dq_Un h1]
    have a9 : ∀ j, j ≠ 24 → j ≠ 27 → ad2 j = ad j := fun j h1 h2 => (hadk j h2).trans (hadj j h1)
    have f9 : ∀ j, j ≠ 0 → j ≠ 25 → j ≠ 26 → j ≠ 27 → w4 j = w2 j := fun j h0 h1 h2 h3 => (v9 j h0).trans (hfr3 j h1 h2 h3)
    exact hret _ (ad2, w4) _ _ _ _ ⟨rfl,
      a9,
      fun j h0 h1 => by show w4 j = _; rw [f9 j h0 (by omega) (by omega) (by omega), hfr2 j (by omega)]; exact hfr1 j h0 (by omega),
      by show w4 0 = _; rw [hw4]; exact dq_Us,
      fun h hh => by show w4 _ = _; dsimp only; rw [f9 _ (by omega) (by omega) (by omega) (by omega), hfr2 _ (by omega), a9 _ (by omega) (by omega), a9 _ (by omega) (by omega), a9 _ (by omega) (by omega)]; exact m0 h hh,
      fun h hh => by show w4 _ = _; rw [f9 _ (by omega) (by omega) (by omega) (by omega), hfr2 _ (by omega)]; exact m1 h hh,
      fun h hh => by show w4 _ = _; rw [f9 _ (by omega) (by omega) (by omega) (by omega), hfr2 _ (by omega)]; exact m2 h hh,
      fun h hh => by show w4 _ = _; rw [f9 _ (by omega) (by omega) (by omega) (by omega), hfr2 _ (by omega)]; exact m3 h hh,
      by show w4 18 = _; rw [v9 18 (by decide)]; exact k18,
      by show w4 19 = _; rw [f9 19 (by decide) (by decide) (by decide) (by decide)]; exact e19,
      by show w4 20 = _; rw [f9 20 (by decide) (by decide) (by decide) (by decide)]; exact e20,
      by show w4 21 = _; rw [f9 21 (by decide) (by decide) (by decide) (by decide)]; exact e21,
      by show w4 22 = _; rw [f9 22 (by decide) (by decide) (by decide) (by decide)]; exact e22,
      by show w4 23 = _; dsimp only; rw [f9 23 (by decide) (by decide) (by decide) (by decide), hadk 24 (by decide)]; exact e23,
      by show w4 24 = _; rw [f9 24 (by decide) (by decide) (by decide) (by decide)]; exact e24,
      SQ,
      sh9,
      hSQ,
      by show w4 25 = _; rw [v9 25 (by decide)]; exact k25,
      by show w4 26 = _; rw [v9 26 (by decide)]; exact k26,
      by show w4 27 = _; rw [v9 27 (by decide)]; exact k27⟩ hW hS dDH_run_38
