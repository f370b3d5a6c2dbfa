theorem lrel_b {g : Nat → ClassId} {ad : Nat → Nat} {w : Nat → Option va_E} {len sl : Nat} (hR : lrel g ad w len sl) : len ≤ 16384 ∧ sl ≤ 10240 := by
  refine hR _ ?_
  intro n hn cn tn sgN sx sy sw px py pw pd pf pt cx0 cy0 cx1 cy1 bx f0 f1 f2 f3 pl cd wy qs XX YY DD hX hY hF hs fw sq sh tX tY tF tS od fe qX qY qS qc rs o9 o0 h1 h2 h3 h4 p5 p6 p7 p8 p9 p10 p11 k12 k13 k14 k15 k16 a17 t18 t19 t20 t21 t22 b23 b24 y25 y26 y27 m100 m102 m103 m104 m106 m107 m108 m109 m110 m111 m113 m116 m117 m118 m119 m121 m123 m124 m125 m126 m127 m128 o200 lp0 lp1 lp2 lp3 hn16 hpc hcn htn hsg hbd hfr hbx hq16 hlen hsl hpl
  obtain ⟨la, la1, la2⟩ := hlen
  obtain ⟨lb, lb1, lb2⟩ := hsl
  refine ⟨?_, ?_⟩
  · rw [la2]; exact (show 2 ^ la ≤ 2 ^ 14 from Nat.pow_le_pow_right (by omega) la1)
  · rw [lb2]; exact Nat.le_trans (Nat.mul_le_mul (show 2 ^ lb ≤ 2 ^ 10 from Nat.pow_le_pow_right (by omega) lb1) lb1) (by decide)
theorem and15 (x : Int32) : ∃ k, k < 16 ∧ x &&& 15 = nI k := by
  refine ⟨x.toBitVec.toNat &&& 15, ?_, ?_⟩
  · have : x.toBitVec.toNat &&& 15 ≤ 15 := Nat.and_le_right
    omega
  · have e := nx_and x.toBitVec.toNat 15
    rw [← dq_tn x] at e
    exact e
theorem lp_le {L I : Nat} (hL : L < 2 ^ 31) (hI : I < 2 ^ 31) (h : ¬ (Int32.ofNat L - 6) < nI I) : I + 6 ≤ L := by
  have e6 : (6 : Int32).toInt = 6 := by decide
  have eL : (Int32.ofNat L).toInt = (L : Int) := nI_toInt hL
  rw [Int32.lt_iff_toInt_lt, nI_toInt hI, i32_sub (by rw [eL, e6]; omega) (by rw [eL, e6]; omega), eL, e6] at h
  omega
set_option maxHeartbeats 4000000 in
set_option maxRecDepth 100000 in
/-- the law's loop -/
theorem lw_loop (l : Launch) {p : Program} {e : Env} {s : State} {m : MethodId} {below : List Frame} {meth : Method} {c : Code} {A : Nat → Prop} {b : Nat} {c0 : Cond} {D : va_G} {g : Nat → ClassId} (hx : p.tables.exec = Jvm.exec) (hb : c.code = cLw_law) (hml : c.maxLocals = 8) (hown : s.vm.findClass RLw = some m.cls) (hts : ∀ w ∈ c0 :: dq_G, w.before ([.ref b] : List Value).toArray s = true) (hA : ∀ q, s.heap.size ≤ q → A q) (hK : va_K D vwCl (dq_t g) s) (hZ : dq_Z A s s.heap) {L : Nat} {xs : Nat → Int32} (hX9 : va_X b L xs s s.heap) (hbl : b < s.heap.size) (hbA : ¬ A b) (hL : L < 2 ^ 31) (htr : l.stackTraces = false) (hr : meth.sig.returnType = ret) (hlocks : meth.locks = false) (hL3 : L ≤ 3073) (hAz : ∀ q, A q → s.heap.size ≤ q) : ∀ (j I : Nat) (ad : Nat → Nat) (w : Nat → Option va_E) (len sl : Nat) (H : Heap) (locs : List Loc) (ls : Array Slot) (cells slots : Nat), L < I + 6 * j → I ≤ 3079 → lrel g ad w len sl → dq_W D vwCl ad w A H → va_S A s.heap H locs → lv_has ls 8 [(0, .ref b), (1, .ref (ad 0)), (2, .ref (ad 100)), (3, .ref (ad 200)), (4, .int (nI I))] → cells ≤ 200 + 2 * I → slots ≤ 30000 + 6 * I + 2 * len + 2 * sl → W p l e room_1 s m ([.ref b] : List Value).toArray below meth c H locs cells slots (lw_Z below #[Value.ref b] s) (F0 m 33 ls []) := by
  intro j
  induction j with
  | zero =>
    intro I ad w len sl H locs ls cells slots hj hI9 hR hW hS hl hc1 hc2
    obtain ⟨hb1, hb2⟩ := lrel_b hR
    refine lv_iload hx hb dLw_law_33 (lv_at hl 4 rfl) ?_
    refine lv_aload_n hx hb dLw_law_35 rfl (lv_at hl 0 rfl) ?_
    refine va_slen hx hb hX9 hbl hbA hS dLw_law_36 ?_
    refine lv_bipush (v := 6) hx hb dLw_law_37 (by decide) ?_
    refine lv_isub hx hb dLw_law_39 ?_
    refine lv_icmp_gt (tgt := 1151) hx hb dLw_law_40 (by decide) (fun c1 => ?_) (fun c1 => ?_)
    · refine lv_iconst (v := 1) hx hb dLw_law_1151 (by decide) ?_
      refine va_forget (fun q hq => hAz _ (hS.2.2 q hq)) ?_
      refine W.widen (k := 601024) (n := 7293000) (by omega) (by omega) ?_
      exact lw_ret hx hb hr hlocks dLw_law_1152
    · have hle : I + 6 ≤ L := lp_le hL (by omega) c1
      omega
  | succ j ih =>
    intro I ad w len sl H locs ls cells slots hj hI9 hR hW hS hl hc1 hc2
    obtain ⟨hb1, hb2⟩ := lrel_b hR
    refine lv_iload hx hb dLw_law_33 (lv_at hl 4 rfl) ?_
    refine lv_aload_n hx hb dLw_law_35 rfl (lv_at hl 0 rfl) ?_
    refine va_slen hx hb hX9 hbl hbA hS dLw_law_36 ?_
    refine lv_bipush (v := 6) hx hb dLw_law_37 (by decide) ?_
    refine lv_isub hx hb dLw_law_39 ?_
    refine lv_icmp_gt (tgt := 1151) hx hb dLw_law_40 (by decide) (fun c1 => ?_) (fun c1 => ?_)
    · refine lv_iconst (v := 1) hx hb dLw_law_1151 (by decide) ?_
      refine va_forget (fun q hq => hAz _ (hS.2.2 q hq)) ?_
      refine W.widen (k := 601024) (n := 7293000) (by omega) (by omega) ?_
      exact lw_ret hx hb hr hlocks dLw_law_1152
    · have hle : I + 6 ≤ L := lp_le hL (by omega) c1
      have hI : I + 5 < L := by omega
      refine lv_aload_n hx hb dLw_law_43 rfl (lv_at hl 0 rfl) ?_
      refine lv_iload hx hb dLw_law_44 (lv_at hl 4 rfl) ?_
      refine dq_sldN hx hb hX9 hbl hbA hS (k := I) (by omega) hL dLw_law_46 ?_
      refine lv_bipush (v := (15)) hx hb dLw_law_47 (by decide) ?_
      refine lv_iand hx hb dLw_law_49 ?_
      obtain ⟨k, hk, ek⟩ := and15 (xs I)
      have hc : cells + 2 ≤ room_1.cells ∧ slots + 6 ≤ room_1.slots := ⟨(show cells + 2 ≤ 601024 by omega), (show slots + 6 ≤ 7293000 by omega)⟩
      have J : ∀ (ad2 : Nat → Nat) (w2 : Nat → Option va_E) (len2 sl2 d1 d2 : Nat) (H : Heap) (locs : List Loc) (ls : Array Slot), d1 ≤ 2 → d2 + 2 * len + 2 * sl ≤ 6 + 2 * len2 + 2 * sl2 → lrel g ad2 w2 len2 sl2 → dq_W D vwCl ad2 w2 A H → va_S A s.heap H locs → lv_has ls 8 [(0, .ref b), (1, .ref (ad2 0)), (2, .ref (ad2 100)), (3, .ref (ad2 200)), (4, .int (nI I))] → W p l e room_1 s m ([.ref b] : List Value).toArray below meth c H locs (cells + d1) (slots + d2) (lw_Z below #[Value.ref b] s) (F0 m 1145 ls []) := by
        intro ad2 w2 len2 sl2 d1 d2 H locs ls h1 h2 hR hW hS hl
        refine lv_iinc (v := nI (I + 6)) (lv' := [(4, .int (nI (I + 6))), (0, .ref b), (1, .ref (ad2 0)), (2, .ref (ad2 100)), (3, .ref (ad2 200))]) hx hb dLw_law_1145 hl (k := 4) rfl (by show nI I + 6 = _; exact nI_add I 6) (by decide) rfl (fun ls hl => ?_)
        refine lv_goto (tgt := 33) hx hb dLw_law_1148 (by decide) ?_
        exact ih (I + 6) ad2 w2 len2 sl2 H locs ls _ _ (by omega) (by omega) hR hW hS (lv_sub hl [1, 2, 3, 4, 0] rfl) (by omega) (by omega)
      have J1 : ∀ (w2 : Nat → Option va_E) (d1 d2 : Nat) (H : Heap) (locs : List Loc) (ls : Array Slot), d1 ≤ 2 → d2 ≤ 6 → lrel g ad w2 len sl → dq_W D vwCl ad w2 A H → va_S A s.heap H locs → lv_has ls 8 [(0, .ref b), (1, .ref (ad 0)), (2, .ref (ad 100)), (3, .ref (ad 200)), (4, .int (nI I))] → W p l e room_1 s m ([.ref b] : List Value).toArray below meth c H locs (cells + d1) (slots + d2) (lw_Z below #[Value.ref b] s) (F0 m 1145 ls []) := fun w2 d1 d2 H locs ls h1 h2 hR hW hS hl => J ad w2 len sl d1 d2 H locs ls h1 (by omega) hR hW hS hl
      rcases (show k = 0 ∨ k = 1 ∨ k = 2 ∨ k = 3 ∨ k = 4 ∨ k = 5 ∨ k = 6 ∨ k = 7 ∨ k = 8 ∨ k = 9 ∨ k = 10 ∨ k = 11 ∨ k = 12 ∨ k = 13 ∨ k = 14 ∨ k = 15 by omega) with rfl | rfl | rfl | rfl | rfl | rfl | rfl | rfl | rfl | rfl | rfl | rfl | rfl | rfl | rfl | rfl
      · refine dq_top (y := 0) (ek.trans (by decide)) ?_
        refine lv_tableIn (x := 0) (off := 78) (tgt := 128) hx hb dLw_law_50 (by decide) (by decide) (by decide) (by decide) ?_
        exact S_spindle l hx hb hml hown hts hA hK hZ hX9 hbl hbA hL hI htr ad w len sl hR hW hS hl hc J1
      · refine dq_top (y := 1) (ek.trans (by decide)) ?_
        refine lv_tableIn (x := 1) (off := 177) (tgt := 227) hx hb dLw_law_50 (by decide) (by decide) (by decide) (by decide) ?_
        exact S_hole l hx hb hml hown hts hA hK hZ hX9 hbl hbA hL hI htr ad w len sl hR hW hS hl hc J1
      · refine dq_top (y := 2) (ek.trans (by decide)) ?_
        refine lv_tableIn (x := 2) (off := 281) (tgt := 331) hx hb dLw_law_50 (by decide) (by decide) (by decide) (by decide) ?_
        exact S_through l hx hb hml hown hts hA hK hZ hX9 hbl hbA hL hI htr ad w len sl hR hW hS hl hc J1
      · refine dq_top (y := 3) (ek.trans (by decide)) ?_
        refine lv_tableIn (x := 3) (off := 372) (tgt := 422) hx hb dLw_law_50 (by decide) (by decide) (by decide) (by decide) ?_
        exact S_clamp l hx hb hml hown hts hA hK hZ hX9 hbl hbA hL hI htr ad w len sl hR hW hS hl hc J1
      · refine dq_top (y := 4) (ek.trans (by decide)) ?_
        refine lv_tableIn (x := 4) (off := 471) (tgt := 521) hx hb dLw_law_50 (by decide) (by decide) (by decide) (by decide) ?_
        exact S_mirror l hx hb hml hown hts hA hK hZ hX9 hbl hbA hL hI htr ad w len sl hR hW hS hl hc J1
      · refine dq_top (y := 5) (ek.trans (by decide)) ?_
        refine lv_tableIn (x := 5) (off := 527) (tgt := 577) hx hb dLw_law_50 (by decide) (by decide) (by decide) (by decide) ?_
        exact S_run l hx hb hml hown hts hA hK hZ hX9 hbl hbA hL hI ad w len sl hR hW hS hl ⟨hc.1, (show slots + 26624 ≤ 7293000 by omega)⟩ J
      · refine dq_top (y := 6) (ek.trans (by decide)) ?_
        refine lv_tableIn (x := 6) (off := 540) (tgt := 590) hx hb dLw_law_50 (by decide) (by decide) (by decide) (by decide) ?_
        exact S_hit l hx hb hml hown hts hA hK hZ hX9 hbl hbA hL hI htr ad w len sl hR hW hS hl hc J1
      · refine dq_top (y := 7) (ek.trans (by decide)) ?_
        refine lv_tableIn (x := 7) (off := 608) (tgt := 658) hx hb dLw_law_50 (by decide) (by decide) (by decide) (by decide) ?_
        exact S_drills l hx hb hml hown hts hA hK hZ hX9 hbl hbA hL hI htr ad w len sl hR hW hS hl hc J1
      · refine dq_top (y := 8) (ek.trans (by decide)) ?_
        refine lv_tableIn (x := 8) (off := 683) (tgt := 733) hx hb dLw_law_50 (by decide) (by decide) (by decide) (by decide) ?_
        exact S_by l hx hb hml hown hts hA hK hZ hX9 hbl hbA hL hI htr ad w len sl hR hW hS hl hc J1
      · refine dq_top (y := 9) (ek.trans (by decide)) ?_
        refine lv_tableIn (x := 9) (off := 739) (tgt := 789) hx hb dLw_law_50 (by decide) (by decide) (by decide) (by decide) ?_
        exact S_single l hx hb hml hown hts hA hK hZ hX9 hbl hbA hL hI htr ad w len sl hR hW hS hl hc J1
      · refine dq_top (y := 10) (ek.trans (by decide)) ?_
        refine lv_tableIn (x := 10) (off := 802) (tgt := 852) hx hb dLw_law_50 (by decide) (by decide) (by decide) (by decide) ?_
        exact S_order l hx hb hml hown hts hA hK hZ hX9 hbl hbA hL hI htr ad w len sl hR hW hS hl hc J1
      · refine dq_top (y := 11) (ek.trans (by decide)) ?_
        refine lv_tableIn (x := 11) (off := 858) (tgt := 908) hx hb dLw_law_50 (by decide) (by decide) (by decide) (by decide) ?_
        exact S_travel l hx hb hml hown hts hA hK hZ hX9 hbl hbA hL hI htr ad w len sl hR hW hS hl hc J1
      · refine dq_top (y := 12) (ek.trans (by decide)) ?_
        refine lv_tableIn (x := 12) (off := 901) (tgt := 951) hx hb dLw_law_50 (by decide) (by decide) (by decide) (by decide) ?_
        exact S_least l hx hb hml hown hts hA hK hZ hX9 hbl hbA hL hI htr ad w len sl hR hW hS hl hc J1
      · refine dq_top (y := 13) (ek.trans (by decide)) ?_
        refine lv_tableIn (x := 13) (off := 952) (tgt := 1002) hx hb dLw_law_50 (by decide) (by decide) (by decide) (by decide) ?_
        exact S_bound l hx hb hml hown hts hA hK hZ hX9 hbl hbA hL hI htr ad w len sl hR hW hS hl hc J1
      · refine dq_top (y := 14) (ek.trans (by decide)) ?_
        refine lv_tableIn (x := 14) (off := 996) (tgt := 1046) hx hb dLw_law_50 (by decide) (by decide) (by decide) (by decide) ?_
        exact S_places l hx hb hml hown hts hA hK hZ hX9 hbl hbA hL hI htr ad w len sl hR hW hS hl hc J1
      · refine dq_top (y := 15) (ek.trans (by decide)) ?_
        refine lv_tableIn (x := 15) (off := 1052) (tgt := 1102) hx hb dLw_law_50 (by decide) (by decide) (by decide) (by decide) ?_
        exact S_seconds l hx hb hml hown hts hA hK hZ hX9 hbl hbA hL hI htr ad w len sl hR hW hS hl hc J1

