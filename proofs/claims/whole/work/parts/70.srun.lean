set_option maxHeartbeats 4000000 in
set_option maxRecDepth 100000 in
theorem S_run (l : Launch) {p : Program} {e : Env} {s : State} {m : MethodId} {below : List Frame} {meth : Method} {c : Code} {A : Nat → Prop} {Q : State → Prop} {b : Nat} {c0 : Cond} {D : va_G} {g : Nat → ClassId} (hx : p.tables.exec = Jvm.exec) (hb : c.code = cLw_law) (hml : c.maxLocals = 8) (hown : s.vm.findClass RLw = some m.cls) (hts : ∀ w ∈ c0 :: dq_G, w.before ([.ref b] : List Value).toArray s = true) (hA : ∀ q, s.heap.size ≤ q → A q) (hK : va_K D vwCl (dq_t g) s) (hZ : dq_Z A s s.heap) {L : Nat} {xs : Nat → Int32} (hX9 : va_X b L xs s s.heap) (hbl : b < s.heap.size) (hbA : ¬ A b) (hL : L < 2 ^ 31) {I : Nat} (hI : I + 5 < L) (ad : Nat → Nat) (w : Nat → Option va_E) (len sl : Nat) (hR : lrel g ad w len sl) {H : Heap} {locs : List Loc} {ls : Array Slot} {cells slots : Nat} (hW : dq_W D vwCl ad w A H) (hS : va_S A s.heap H locs) (hl : lv_has ls 8 [(0, .ref b), (1, .ref (ad 0)), (2, .ref (ad 100)), (3, .ref (ad 200)), (4, .int (nI I))]) (hc : cells + 2 ≤ room_1.cells ∧ slots + 26624 ≤ room_1.slots) (kK : ∀ (ad2 : Nat → Nat) (w2 : Nat → Option va_E) (len2 sl2 d1 d2 : Nat) (H : Heap) (locs : List Loc) (ls : Array Slot), d1 ≤ 2 → d2 + 2 * len + 2 * sl ≤ 6 + 2 * len2 + 2 * sl2 → lrel g ad2 w2 len2 sl2 → dq_W D vwCl ad2 w2 A H → va_S A s.heap H locs → lv_has ls 8 [(0, .ref b), (1, .ref (ad2 0)), (2, .ref (ad2 100)), (3, .ref (ad2 200)), (4, .int (nI I))] → W p l e room_1 s m ([.ref b] : List Value).toArray below meth c H locs (cells + d1) (slots + d2) Q (F0 m 1145 ls [])) : W p l e room_1 s m ([.ref b] : List Value).toArray below meth c H locs cells slots Q (F0 m 577 ls []) := by
  refine hR _ ?_
  intro n hn cn tn sgN sx sy sw px py pw pd pf pt cx0 cy0 cx1 cy1 bx f0 f1 f2 f3 pl cd wy qs XX YY DD hX hY hF hs fw sq sh tX tY tF tS od fe qX qY qS qc rs o9 o0 h1 h2 h3 h4 p5 p6 p7 p8 p9 p10 p11 k12 k13 k14 k15 k16 a17 t18 t19 t20 t21 t22 b23 b24 y25 y26 y27 m100 m102 m103 m104 m106 m107 m108 m109 m110 m111 m113 m116 m117 m118 m119 m121 m123 m124 m125 m126 m127 m128 o200 lp0 lp1 lp2 lp3 hn16 hpc hcn htn hsg hbd hfr hbx hq16 hlen hsl hpl
  rcases hpl with hp0 | ⟨hp1, HX, HY, HF, HB, oN, hlk, hag⟩
  · have hlen0 := hlen
    have hsl0 := hsl
    obtain ⟨la, la1, la2⟩ := hlen
    obtain ⟨lb, lb1, lb2⟩ := hsl
    have hln : len ≤ 16384 := by rw [la2]; exact Nat.pow_le_pow_right (by omega) la1
    have hsl2 : sl ≤ 10240 := by
        rw [lb2]
        exact Nat.le_trans (Nat.mul_le_mul (Nat.pow_le_pow_right (by omega) lb1) lb1) (by decide)
    obtain ⟨mq_, hmq⟩ : ∃ z9, z9 = (fun h => ((fun h => mp_find sx sy sw (px h) (py h) (pw h) (mc_bar cx0 cy0 cx1 cy1 cn f0 f1 f2 f3) (XX h) (YY h) n) h).1) := ⟨_, rfl⟩
    obtain ⟨mX_, hmX⟩ : ∃ z9, z9 = (fun h => ((fun h => mp_find sx sy sw (px h) (py h) (pw h) (mc_bar cx0 cy0 cx1 cy1 cn f0 f1 f2 f3) (XX h) (YY h) n) h).2.1) := ⟨_, rfl⟩
    obtain ⟨mY_, hmY⟩ : ∃ z9, z9 = (fun h => ((fun h => mp_find sx sy sw (px h) (py h) (pw h) (mc_bar cx0 cy0 cx1 cy1 cn f0 f1 f2 f3) (XX h) (YY h) n) h).2.2) := ⟨_, rfl⟩
    obtain ⟨mD_, hmD⟩ : ∃ z9, z9 = (fun h => mp_D (fun p => mp_bits (mp_F sx sy sw px py pw pd pf pt n h (((fun h => mp_find sx sy sw (px h) (py h) (pw h) (mc_bar cx0 cy0 cx1 cy1 cn f0 f1 f2 f3) (XX h) (YY h) n) h).2.1 p) (((fun h => mp_find sx sy sw (px h) (py h) (pw h) (mc_bar cx0 cy0 cx1 cy1 cn f0 f1 f2 f3) (XX h) (YY h) n) h).2.2 p)) h (hn - h)) (DD h) ((fun h => mp_find sx sy sw (px h) (py h) (pw h) (mc_bar cx0 cy0 cx1 cy1 cn f0 f1 f2 f3) (XX h) (YY h) n) h).1) := ⟨_, rfl⟩
    obtain ⟨q2, hq2⟩ : ∃ z9, z9 = dq_pw hn mq_ qs := ⟨_, rfl⟩
    obtain ⟨X2, hX2⟩ : ∃ z9, z9 = dq_pw hn mX_ XX := ⟨_, rfl⟩
    obtain ⟨Y2, hY2⟩ : ∃ z9, z9 = dq_pw hn mY_ YY := ⟨_, rfl⟩
    obtain ⟨D2, hD2⟩ : ∃ z9, z9 = dq_pw hn mD_ DD := ⟨_, rfl⟩
    obtain ⟨FW, hFW⟩ : ∃ z9, z9 = (mt_fill (if len < 2 ^ hn then (fun _ => 0) else fw) (dq_N D2) q2 (dq_df (2 ^ hn - 1) (mf_sg mq_ hn))) := ⟨_, rfl⟩
    obtain ⟨nh, hnh⟩ : ∃ z9, z9 = (mp_n FW (dq_N D2) q2 X2 Y2 pf (hX, hY, hF, hs, (dq_df (2 ^ hn - 1) (mf_sg mq_ hn)))) := ⟨_, rfl⟩
    obtain ⟨zz, hzz⟩ : ∃ z9, z9 = (mp_pl FW (dq_N D2) q2 X2 Y2 pf (hX, hY, hF, hs, (dq_df (2 ^ hn - 1) (mf_sg mq_ hn))) nh) := ⟨_, rfl⟩
    have hC := fun sz => c_run l D g ad w sz (nI sgN) pl n sx sy sw f0 f1 f2 f3 px py pw pd pf pt hn cx0 cy0 cx1 cy1 cn qs XX YY DD hX hY hF hs tn len fw wy sq sh sl mq_ mX_ mY_ mD_ q2 X2 Y2 D2 FW nh zz o0 h1 h2 h3 h4 p5 p6 p7 p8 p9 p10 p11 k12 k13 k14 k15 k16 a17 t18 t19 t20 t21 t22 b23 b24 y25 y26 y27 hp0 hn16 hcn hpc hln hsl2 hq16 lp0 lp1 lp2 lp3 hmq hmX hmY hmD hq2 hX2 hY2 hD2 hFW hnh hzz
    have hnh14 : nh ≤ 14 := by rw [hnh]; exact dq_fn_le _ _
    generalize hcl : (if len < 2 ^ hn then 2 ^ hn else len) = len2 at hC
    generalize hcs : (if (nh ≤ 10 ∧ sl < 2 ^ nh * nh) then 2 ^ nh * nh else sl) = sl2 at hC
    have hlen2 : (∃ a, a ≤ 14 ∧ len2 = 2 ^ a) ∧ (if len < 2 ^ hn then 2 ^ hn else 0) + 2 * len ≤ 2 * len2 ∧ (if len < 2 ^ hn then 2 ^ hn else 0) ≤ 16384 := by
      rw [← hcl]
      by_cases q : len < 2 ^ hn
      · rw [if_pos q, if_pos q]
        have q2 : la < hn := by
          rw [la2] at q
          exact (Nat.pow_lt_pow_iff_right (by omega)).mp q
        have q3 : 2 ^ (la + 1) ≤ 2 ^ hn := Nat.pow_le_pow_right (by omega) q2
        rw [Nat.pow_succ] at q3
        refine ⟨⟨hn, hpc, rfl⟩, by omega, ?_⟩
        exact (show 2 ^ hn ≤ 2 ^ 14 from Nat.pow_le_pow_right (by omega) hpc)
      · rw [if_neg q, if_neg q]
        exact ⟨hlen0, by omega, by omega⟩
    have hsl3 : (∃ a, a ≤ 10 ∧ sl2 = 2 ^ a * a) ∧ (if (nh ≤ 10 ∧ sl < 2 ^ nh * nh) then 2 ^ nh * nh else 0) + 2 * sl ≤ 2 * sl2 ∧ (if (nh ≤ 10 ∧ sl < 2 ^ nh * nh) then 2 ^ nh * nh else 0) ≤ 10240 := by
      rw [← hcs]
      by_cases q : nh ≤ 10 ∧ sl < 2 ^ nh * nh
      · rw [if_pos q, if_pos q]
        have q2 : lb < nh := by
          rcases Nat.lt_or_ge lb nh with h | h
          · exact h
          · have h2 : 2 ^ nh * nh ≤ 2 ^ lb * lb := Nat.mul_le_mul (Nat.pow_le_pow_right (by omega) h) h
            have h3 := q.2
            omega
        have q3 : 2 ^ (lb + 1) * lb ≤ 2 ^ nh * nh := Nat.mul_le_mul (Nat.pow_le_pow_right (by omega) q2) (by omega)
        have q4 : 2 ^ (lb + 1) * lb = 2 * (2 ^ lb * lb) := by rw [Nat.pow_succ, Nat.mul_comm (2 ^ lb) 2, Nat.mul_assoc]
        refine ⟨⟨nh, q.1, rfl⟩, by omega, ?_⟩
        exact Nat.le_trans (Nat.mul_le_mul (show 2 ^ nh ≤ 2 ^ 10 from Nat.pow_le_pow_right (by omega) q.1) q.1) (by decide)
      · rw [if_neg q, if_neg q]
        exact ⟨hsl0, by omega, by omega⟩
    have hcc : (if len < 2 ^ hn then 1 else 0) + (if (nh ≤ 10 ∧ sl < 2 ^ nh * nh) then 1 else 0) ≤ 2 := by split <;> split <;> omega
    generalize (if len < 2 ^ hn then 1 else 0) + (if (nh ≤ 10 ∧ sl < 2 ^ nh * nh) then 1 else 0) = mc at hC hcc
    obtain ⟨hl1, hl2, hl3⟩ := hlen2
    obtain ⟨hs1, hs2, hs3⟩ := hsl3
    generalize (if len < 2 ^ hn then 2 ^ hn else 0) = d1 at hC hl2 hl3
    generalize (if (nh ≤ 10 ∧ sl < 2 ^ nh * nh) then 2 ^ nh * nh else 0) = d2 at hC hs2 hs3
    refine A_run l hx hb hml hown hts hA hK hZ hX9 hbl hbA hL hI ad w (K2 := fun ad1 u2 => lrel g ad1 u2 len2 sl2) o0 hC ?_ ?_ hW hS hl ⟨by omega, by omega⟩ (fun ad1 u2 hk H locs ls hW hS hl => kK ad1 u2 len2 sl2 mc (d1 + d2) H locs ls hcc (by omega) hk hW hS hl)
    · rintro r u ⟨-, hu1, hu2, -⟩
      exact ⟨hu1 0 (by decide) (by decide), hu1 100 (by decide) (by decide), hu1 200 (by decide) (by decide), _, (hu2 100 (by decide) (Or.inr (by decide))).trans m100⟩
    · rintro r ⟨ad1, w1⟩ ⟨hr, hu1, hu2, v0, v30, v31, v32, v33, v18, v19, v20, v21, v22, v23, v24, SQ, sh9, hSQ, v25, v26, v27⟩
      dsimp only at hu1 hu2 v0 v30 v31 v32 v33 v18 v19 v20 v21 v22 v23 v24 v25 v26 v27
      obtain ⟨HX, HY, HF, HB, oN, hlk, hnn, hag⟩ := ru_ok hn16 hpc hbd hfr hbx qs XX YY DD hX hY hF hs _ sq mq_ mX_ mY_ mD_ q2 X2 Y2 D2 FW nh zz hmq hmX hmY hmD hq2 hX2 hY2 hD2 hFW hnh hzz SQ hSQ
      have hsgl : mf_sg mq_ hn < 16384 := Nat.lt_of_lt_of_le (mf_sg_lt _ _) (show 2 ^ hn ≤ 2 ^ 14 from Nat.pow_le_pow_right (by omega) hpc)
      have hq2 : ∀ h, h < 14 → q2 h ≤ 16 := fun h h14 => by
        rw [hq2]
        unfold dq_pw
        split
        · rw [hmq]; exact mp_find_le _ _ _ _ _ _ _ _ _ _
        · exact hq16 h h14
      have ha : ∀ j, j ≠ 24 → j ≠ 27 → ad1 j = ad j := hu1
      have z1 : w1 1 = some (.inr (1, [.ref (ad1 2), .ref (ad1 3), .ref (ad1 4), .int f0, .int f1, .int f2, .int f3])) := by
        rw [ha 2 (by decide) (by decide), ha 3 (by decide) (by decide), ha 4 (by decide) (by decide)]
        exact (hu2 1 (by decide) (by decide)).trans h1
      have z5 : w1 5 = some (.inr (3, [.ref (ad1 6), .ref (ad1 7), .ref (ad1 8), .ref (ad1 9), .ref (ad1 10), .ref (ad1 11), .int (nI hn)])) := by
        rw [ha 6 (by decide) (by decide), ha 7 (by decide) (by decide), ha 8 (by decide) (by decide), ha 9 (by decide) (by decide), ha 10 (by decide) (by decide), ha 11 (by decide) (by decide)]
        exact (hu2 5 (by decide) (by decide)).trans p5
      have z12 : w1 12 = some (.inr (0, [.ref (ad1 13), .ref (ad1 14), .ref (ad1 15), .ref (ad1 16), .int (nI cn)])) := by
        rw [ha 13 (by decide) (by decide), ha 14 (by decide) (by decide), ha 15 (by decide) (by decide), ha 16 (by decide) (by decide)]
        exact (hu2 12 (by decide) (by decide)).trans k12
      have ea : (fun h => some (ad1 (30 + 4 * h))) = (fun h => some (ad (30 + 4 * h))) := funext fun h => by rw [ha _ (by omega) (by omega)]
      have z17 : w1 17 = some (.inl (g 3, 14, .inr (.inr (.inr (.inr (fun h => some (ad1 (30 + 4 * h)))))))) := by
        rw [ea]
        exact (hu2 17 (by decide) (by decide)).trans a17
      have z100 : w1 100 = some (.inr (8, [.int cd, .int (nI n), .ref (ad1 102), .ref (ad1 103), .ref (ad1 104), .int (nI hn), .ref (ad1 106), .ref (ad1 107), .ref (ad1 108), .ref (ad1 109), .ref (ad1 110), .ref (ad1 111), .int (nI cn), .ref (ad1 113), .int pl, .int (nI tn), .ref (ad1 116), .ref (ad1 117), .ref (ad1 118), .ref (ad1 119), .int (nI sgN), .ref (ad1 121), .long wy, .ref (ad1 123), .ref (ad1 124), .ref (ad1 125), .ref (ad1 126), .ref (ad1 127), .ref (ad1 128)])) := by
        rw [ha 102 (by decide) (by decide), ha 103 (by decide) (by decide), ha 104 (by decide) (by decide), ha 106 (by decide) (by decide), ha 107 (by decide) (by decide), ha 108 (by decide) (by decide), ha 109 (by decide) (by decide), ha 110 (by decide) (by decide), ha 111 (by decide) (by decide), ha 113 (by decide) (by decide), ha 116 (by decide) (by decide), ha 117 (by decide) (by decide), ha 118 (by decide) (by decide), ha 119 (by decide) (by decide), ha 121 (by decide) (by decide), ha 123 (by decide) (by decide), ha 124 (by decide) (by decide), ha 125 (by decide) (by decide), ha 126 (by decide) (by decide), ha 127 (by decide) (by decide), ha 128 (by decide) (by decide)]
        exact (hu2 100 (by decide) (by decide)).trans m100
      obtain ⟨P2, hM, hE⟩ := rn2 l D g ad1 w1 len2 sl2 n hn cn nh (mf_sg mq_ hn) sx sy sw px py pw pd pf pt cx0 cy0 cx1 cy1 bx ((mw_len zz.1 zz.2.1 (fun i => (SQ i).toNatClampNeg) nh).1) q2 X2 Y2 D2 zz.1 zz.2.1 zz.2.2.1 zz.2.2.2.1 FW SQ sh9 tX tY tF tS od fe qX qY qS qc rs o9 f0 f1 f2 f3 cd pl (nI sgN) tn wy v0 z1 ((hu2 2 (by decide) (by decide)).trans h2) ((hu2 3 (by decide) (by decide)).trans h3) ((hu2 4 (by decide) (by decide)).trans h4) z5 ((hu2 6 (by decide) (by decide)).trans p6) ((hu2 7 (by decide) (by decide)).trans p7) ((hu2 8 (by decide) (by decide)).trans p8) ((hu2 9 (by decide) (by decide)).trans p9) ((hu2 10 (by decide) (by decide)).trans p10) ((hu2 11 (by decide) (by decide)).trans p11) z12 ((hu2 13 (by decide) (by decide)).trans k13) ((hu2 14 (by decide) (by decide)).trans k14) ((hu2 15 (by decide) (by decide)).trans k15) ((hu2 16 (by decide) (by decide)).trans k16) z17 v18 v19 v20 v21 v22 v23 v24 v25 v26 v27 z100 ((hu2 102 (by decide) (by decide)).trans m102) ((hu2 103 (by decide) (by decide)).trans m103) ((hu2 104 (by decide) (by decide)).trans m104) ((hu2 106 (by decide) (by decide)).trans m106) ((hu2 107 (by decide) (by decide)).trans m107) ((hu2 108 (by decide) (by decide)).trans m108) ((hu2 109 (by decide) (by decide)).trans m109) ((hu2 110 (by decide) (by decide)).trans m110) ((hu2 111 (by decide) (by decide)).trans m111) ((hu2 113 (by decide) (by decide)).trans m113) ((hu2 116 (by decide) (by decide)).trans m116) ((hu2 117 (by decide) (by decide)).trans m117) ((hu2 118 (by decide) (by decide)).trans m118) ((hu2 119 (by decide) (by decide)).trans m119) ((hu2 121 (by decide) (by decide)).trans m121) ((hu2 123 (by decide) (by decide)).trans m123) ((hu2 124 (by decide) (by decide)).trans m124) ((hu2 125 (by decide) (by decide)).trans m125) ((hu2 126 (by decide) (by decide)).trans m126) ((hu2 127 (by decide) (by decide)).trans m127) ((hu2 128 (by decide) (by decide)).trans m128) ((hu2 200 (by decide) (by decide)).trans o200) v30 v31 v32 v33 hn16 hpc hcn hnn hsgl hbd hfr hbx hq2 hl1 hs1 HX HY HF HB oN hlk hag
      exact ⟨P2, hM, fun r2 u2 h2 => ⟨((hE r2 u2 h2).1).trans hr.symm, (hE r2 u2 h2).2⟩⟩
  · have hne : ¬ pl = 0 := by rw [hp1]; decide
    subst hp1
    obtain ⟨P2, hM, hE⟩ := rn2 l D g ad w len sl n hn cn tn sgN sx sy sw px py pw pd pf pt cx0 cy0 cx1 cy1 bx wy qs XX YY DD hX hY hF hs fw sq sh tX tY tF tS od fe qX qY qS qc rs o9 f0 f1 f2 f3 cd 1 (nI sgN) tn wy o0 h1 h2 h3 h4 p5 p6 p7 p8 p9 p10 p11 k12 k13 k14 k15 k16 a17 t18 t19 t20 t21 t22 b23 b24 y25 y26 y27 m100 m102 m103 m104 m106 m107 m108 m109 m110 m111 m113 m116 m117 m118 m119 m121 m123 m124 m125 m126 m127 m128 o200 lp0 lp1 lp2 lp3 hn16 hpc hcn htn hsg hbd hfr hbx hq16 hlen hsl HX HY HF HB oN hlk (fun i hi => ⟨(hag i hi).1.1, (hag i hi).1.2.1, (hag i hi).1.2.2.1, (hag i hi).1.2.2.2.1, (hag i hi).1.2.2.2.2, (hag i hi).2.2⟩)
    exact A_run_no l hx hb hml hown hts hA hK hZ hX9 hbl hbA hL hI ad w (K2 := fun u2 => lrel g ad u2 len sl) o0 m100 (fun sz => c_run_no l D g ad w sz (nI sgN) 1 hX hY hF hs tn o0 t18 hne) hM hE hW hS hl ⟨by omega, by omega⟩ (fun u2 hk H locs ls hW hS hl => kK ad u2 len sl 0 0 H locs ls (by decide) (by omega) hk hW hS hl)
