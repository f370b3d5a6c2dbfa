section DQS
variable {p : Program} {l : Launch} {e : Env} {R : Room} {s : State} {m : MethodId} {args : Array Value} {below : List Frame} {meth : Method} {c : Code} {H : Heap} {locs : List Loc} {cells slots : Nat} {Q : State → Prop}
variable {cc : ByteArray} {pc : Nat} {ls : Array Slot} {rest : List Value} {A : Nat → Prop} {H0 : Heap}
theorem dq_sldN (hexec : p.tables.exec = Jvm.exec) (hb : c.code = cc) {b L k : Nat} {xs : Nat → Int32} (hX : va_X b L xs s H0) (hbl : b < H0.size) (hbA : ¬ A b) (hS : va_S A H0 H locs) (hk : k < L) (hL : L < 2 ^ 31) (hdg : decode cc pc = .ok (.iaload, 1))
    (kk : W p l e R s m args below meth c H locs cells slots Q (F0 m (pc + 1) ls (.int (xs k) :: rest))) : W p l e R s m args below meth c H locs cells slots Q (F0 m pc ls (.int (nI k) :: .ref b :: rest)) :=
  va_sld hexec hb hX hbl hbA hS (vp_in_nI hk hL) hdg (by rw [nI_clamp (Nat.lt_trans hk hL)]; exact kk)
end DQS
theorem lg_cmp_s (x : Int64) : lg_cmp x x = 0 := by
  unfold lg_cmp
  simp
set_option maxHeartbeats 4000000 in
set_option maxRecDepth 100000 in
/-- the arm of spindle -/
theorem A_spindle (l : Launch) {p : Program} {e : Env} {s : State} {m : MethodId} {below : List Frame} {meth : Method} {c : Code} {A : Nat → Prop} {Q : State → Prop} {b : Nat} {c0 : Cond} {D : va_G} {g : Nat → ClassId} (hx : p.tables.exec = Jvm.exec) (hb : c.code = cLw_law) (hml : c.maxLocals = 8) (hown : s.vm.findClass RLw = some m.cls) (hts : ∀ w ∈ c0 :: dq_G, w.before ([.ref b] : List Value).toArray s = true) (hA : ∀ q, s.heap.size ≤ q → A q) (hK : va_K D vwCl (dq_t g) s) (hZ : dq_Z A s s.heap) {L : Nat} {xs : Nat → Int32} (hX9 : va_X b L xs s s.heap) (hbl : b < s.heap.size) (hbA : ¬ A b) (hL : L < 2 ^ 31) {I : Nat} (hI : I + 5 < L) (ad : Nat → Nat) (w : Nat → Option va_E) {kk : Int32} {mc ms : Nat} {bb : Int32} {w1 w2 : Nat → Option va_E} {fs1 : List Value} {n hn cn : Nat} {pl : Int32} {tn : Nat} {sg : Int32} {wy : Int64} {o9 : Nat → Int64} {a1 : Int32} (e1 : xs (I + 1) = a1) {a2 : Int32} (e2 : xs (I + 2) = a2) {a3 : Int32} (e3 : xs (I + 3) = a3) {a4 : Int32} (e4 : xs (I + 4) = a4) (hH : ∀ sz : Nat, Met l yLw_spindle wsLw_spindle ({ frames := 9, cells := mc, slots := ms, locals := 180 } : Room) (va_Pc [.ref (ad 0), .int a1, .int a2, .int a3, .int a4, .ref (ad 200)] (dq_S D vwCl (dq_t g) ad w sz)) (va_Qi (fun r u => r = kk ∧ u = w1) (dq_B D vwCl (dq_t g) ad (dq_A ad w sz)) (dq_A ad w sz)) mc ms (dq_A ad w sz)) (hM : ∀ sz : Nat, Met l yMo_spindle wsMo_spindle ({ frames := 1, cells := 0, slots := 0, locals := 24 } : Room) (va_Pc [.ref (ad 100), .int a1, .int a2, .int a3, .int a4] (dq_S D vwCl (dq_t g) ad w1 sz)) (va_Qi (fun r u => r = bb ∧ u = w2) (dq_B D vwCl (dq_t g) ad (dq_A ad w1 sz)) (dq_A ad w1 sz)) 0 0 (dq_A ad w1 sz)) (hm1 : w1 100 = some (.inr (8, fs1))) (m100 : w2 100 = some (.inr (8, [.int kk, .int (nI n), .ref (ad 102), .ref (ad 103), .ref (ad 104), .int (nI hn), .ref (ad 106), .ref (ad 107), .ref (ad 108), .ref (ad 109), .ref (ad 110), .ref (ad 111), .int (nI cn), .ref (ad 113), .int pl, .int (nI tn), .ref (ad 116), .ref (ad 117), .ref (ad 118), .ref (ad 119), .int sg, .ref (ad 121), .long wy, .ref (ad 123), .ref (ad 124), .ref (ad 125), .ref (ad 126), .ref (ad 127), .ref (ad 128)]))) (ho : kk = 0 → w2 200 = some (.inl (g 2, 1, .inr (.inl o9))) ∧ o9 0 = (if bb = 0 then 0 else 1)) {H : Heap} {locs : List Loc} {ls : Array Slot} {cells slots : Nat} (hW : dq_W D vwCl ad w A H) (hS : va_S A s.heap H locs) (hl : lv_has ls 8 [(0, .ref b), (1, .ref (ad 0)), (2, .ref (ad 100)), (3, .ref (ad 200)), (4, .int (nI I))]) (hc : cells + mc ≤ room_1.cells ∧ slots + ms ≤ room_1.slots) (kK : ∀ (H : Heap) (locs : List Loc) (ls : Array Slot), dq_W D vwCl ad w2 A H → va_S A s.heap H locs → lv_has ls 8 [(0, .ref b), (1, .ref (ad 0)), (2, .ref (ad 100)), (3, .ref (ad 200)), (4, .int (nI I))] → W p l e room_1 s m ([.ref b] : List Value).toArray below meth c H locs (cells + mc) (slots + ms) Q (F0 m 1145 ls [])) : W p l e room_1 s m ([.ref b] : List Value).toArray below meth c H locs cells slots Q (F0 m 128 ls []) := by
  refine lv_aload_n hx hb dLw_law_128 rfl (lv_at hl 1 rfl) ?_
  refine lv_aload_n hx hb dLw_law_129 rfl (lv_at hl 0 rfl) ?_
  refine lv_iload hx hb dLw_law_130 (lv_at hl 4 rfl) ?_
  refine lv_iconst (v := (nI 1)) hx hb dLw_law_132 (by decide) ?_
  refine lv_iadd hx hb dLw_law_133 ?_
  refine dq_top (y := nI (I + 1)) (nI_add I 1) ?_
  refine dq_sldN hx hb hX9 hbl hbA hS (k := (I + 1)) (by omega) hL dLw_law_134 ?_
  refine dq_top (y := a1) e1 ?_
  refine lv_aload_n hx hb dLw_law_135 rfl (lv_at hl 0 rfl) ?_
  refine lv_iload hx hb dLw_law_136 (lv_at hl 4 rfl) ?_
  refine lv_iconst (v := (nI 2)) hx hb dLw_law_138 (by decide) ?_
  refine lv_iadd hx hb dLw_law_139 ?_
  refine dq_top (y := nI (I + 2)) (nI_add I 2) ?_
  refine dq_sldN hx hb hX9 hbl hbA hS (k := (I + 2)) (by omega) hL dLw_law_140 ?_
  refine dq_top (y := a2) e2 ?_
  refine lv_aload_n hx hb dLw_law_141 rfl (lv_at hl 0 rfl) ?_
  refine lv_iload hx hb dLw_law_142 (lv_at hl 4 rfl) ?_
  refine lv_iconst (v := (nI 3)) hx hb dLw_law_144 (by decide) ?_
  refine lv_iadd hx hb dLw_law_145 ?_
  refine dq_top (y := nI (I + 3)) (nI_add I 3) ?_
  refine dq_sldN hx hb hX9 hbl hbA hS (k := (I + 3)) (by omega) hL dLw_law_146 ?_
  refine dq_top (y := a3) e3 ?_
  refine lv_aload_n hx hb dLw_law_147 rfl (lv_at hl 0 rfl) ?_
  refine lv_iload hx hb dLw_law_148 (lv_at hl 4 rfl) ?_
  refine lv_iconst (v := (nI 4)) hx hb dLw_law_150 (by decide) ?_
  refine lv_iadd hx hb dLw_law_151 ?_
  refine dq_top (y := nI (I + 4)) (nI_add I 4) ?_
  refine dq_sldN hx hb hX9 hbl hbA hS (k := (I + 4)) (by omega) hL dLw_law_152 ?_
  refine dq_top (y := a4) e4 ?_
  refine lv_aload_n hx hb dLw_law_153 rfl (lv_at hl 3 rfl) ?_
  refine dq_calli (dx_runSW (As := [.ref (ad 0), .int a1, .int a2, .int a3, .int a4, .ref (ad 200)]) (rest := []) ⟨hx, hb, hml, hown, hts⟩ (hH _) (dx_cwS 6 hts (dq_giS2 tw2_119 tw2_120 tw1_0 tw2_121) rfl rfl rfl (by decide +kernel) ⟨Nat.le_of_ble_eq_true rfl, Nat.le_of_ble_eq_true rfl⟩) (dq_preS hW hS hA hK hZ) rfl rfl hl.1 rfl (lv_room (Nat.le_of_ble_eq_true rfl)) dLw_law_154 ⟨hc.1, hc.2⟩) hW hS hA (fun r1 u_9 H locs hp1 hW hS hz9 => ?_)
  obtain ⟨h_r1, hu9⟩ := hp1
  rw [hu9] at hW
  rw [h_r1]
  refine lv_istore (lv' := [(5, .int kk), (0, .ref b), (1, .ref (ad 0)), (2, .ref (ad 100)), (3, .ref (ad 200)), (4, .int (nI I))]) hx hb dLw_law_157 hl (by decide) rfl (fun ls hl => ?_)
  refine lv_aload_n hx hb dLw_law_159 rfl (lv_at hl 3 rfl) ?_
  refine lv_aload_n hx hb dLw_law_160 rfl (lv_at hl 1 rfl) ?_
  refine lv_iload hx hb dLw_law_161 (lv_at hl 5 rfl) ?_
  refine lv_iconst (v := (nI 1)) hx hb dLw_law_163 (by decide) ?_
  refine lv_iadd hx hb dLw_law_164 ?_
  refine dq_top (y := nI (I + 1)) (nI_add I 1) ?_
  refine dq_sldN hx hb hX9 hbl hbA hS (k := (I + 1)) (by omega) hL dLw_law_165 ?_
  refine dq_top (y := a1) e1 ?_
  refine lv_aload_n hx hb dLw_law_166 rfl (lv_at hl 1 rfl) ?_
  refine lv_iload hx hb dLw_law_167 (lv_at hl 5 rfl) ?_
  refine lv_iconst (v := (nI 2)) hx hb dLw_law_169 (by decide) ?_
  refine lv_iadd hx hb dLw_law_170 ?_
  refine dq_top (y := nI (I + 2)) (nI_add I 2) ?_
  refine dq_sldN hx hb hX9 hbl hbA hS (k := (I + 2)) (by omega) hL dLw_law_171 ?_
  refine dq_top (y := a2) e2 ?_
  refine lv_aload_n hx hb dLw_law_172 rfl (lv_at hl 1 rfl) ?_
  refine lv_iload hx hb dLw_law_173 (lv_at hl 5 rfl) ?_
  refine lv_iconst (v := (nI 3)) hx hb dLw_law_175 (by decide) ?_
  refine lv_iadd hx hb dLw_law_176 ?_
  refine dq_top (y := nI (I + 3)) (nI_add I 3) ?_
  refine dq_sldN hx hb hX9 hbl hbA hS (k := (I + 3)) (by omega) hL dLw_law_177 ?_
  refine dq_top (y := a3) e3 ?_
  refine lv_aload_n hx hb dLw_law_178 rfl (lv_at hl 1 rfl) ?_
  refine lv_iload hx hb dLw_law_179 (lv_at hl 5 rfl) ?_
  refine lv_iconst (v := (nI 4)) hx hb dLw_law_181 (by decide) ?_
  refine lv_iadd hx hb dLw_law_182 ?_
  refine dq_top (y := nI (I + 4)) (nI_add I 4) ?_
  refine dq_sldN hx hb hX9 hbl hbA hS (k := (I + 4)) (by omega) hL dLw_law_183 ?_
  refine dq_top (y := a4) e4 ?_
  refine dq_calli (va_runV (As := [.int a1, .int a2, .int a3, .int a4]) (rest := []) ⟨hx, hb, hml, hown, hts⟩ (hM _) (cwV 4 hts (dq_giV tw4_7 tw4_8 tw4_9 tw1_10 tw4_10) rfl rfl rfl (by decide +kernel) ⟨Nat.le_of_ble_eq_true rfl, Nat.le_of_ble_eq_true rfl⟩) (dq_preV (ci := 8) hW hS hA hK hZ hm1 rfl rfl) rfl rfl hl.1 rfl (lv_room (Nat.le_of_ble_eq_true rfl)) dLw_law_184 ⟨hc.1, hc.2⟩) hW hS hA (fun r2 u_9 H locs hp2 hW hS hz9 => ?_)
  obtain ⟨h_r2, hu9⟩ := hp2
  rw [hu9] at hW
  rw [h_r2]
  refine lv_istore (lv' := [(6, .int bb), (5, .int kk), (0, .ref b), (1, .ref (ad 0)), (2, .ref (ad 100)), (3, .ref (ad 200)), (4, .int (nI I))]) hx hb dLw_law_187 hl (by decide) rfl (fun ls hl => ?_)
  refine lv_aload_n hx hb dLw_law_189 rfl (lv_at hl 4 rfl) ?_
  refine dq_calli (va_runV (As := []) (rest := []) ⟨hx, hb, hml, hown, hts⟩ (m_thrown l D g ad w2 _ kk n hn cn pl tn sg wy m100) (cwV 0 hts (dq_giV tw4_3 tw4_4 tw4_5 tw1_10 tw4_6) rfl rfl rfl (by decide +kernel) ⟨Nat.le_of_ble_eq_true rfl, Nat.le_of_ble_eq_true rfl⟩) (dq_preV (ci := 8) hW hS hA hK hZ m100 rfl rfl) rfl rfl hl.1 rfl (lv_room (Nat.le_of_ble_eq_true rfl)) dLw_law_190 ⟨hc.1, hc.2⟩) hW hS hA (fun r3 u_9 H locs hp3 hW hS hz9 => ?_)
  obtain ⟨h_r3, hu9⟩ := hp3
  rw [hu9] at hW
  rw [h_r3]
  refine lv_iload hx hb dLw_law_193 (lv_at hl 1 rfl) ?_
  refine lv_icmp_eq (tgt := 200) hx hb dLw_law_195 (by decide) (fun c1 => ?_) (fun c1 => ?_)
  · refine lv_iload hx hb dLw_law_200 (lv_at hl 1 rfl) ?_
    refine lv_if_ne (tgt := 224) hx hb dLw_law_202 (by decide) (fun c2 => ?_) (fun c2 => ?_)
    · refine lv_goto (tgt := 1145) hx hb dLw_law_224 (by decide) ?_
      exact kK _ _ _ hW hS (lv_sub hl [2, 3, 4, 5, 6] rfl)
    · obtain ⟨o200, ho2⟩ := ho c2
      refine lv_aload_n hx hb dLw_law_205 rfl (lv_at hl 5 rfl) ?_
      refine lv_iconst (v := (nI 0)) hx hb dLw_law_206 (by decide) ?_
      refine dq_laldN hx hb hK hW 200 2 o200 rfl 0 (by omega) (by omega) dLw_law_207 ?_
      refine lv_iload hx hb dLw_law_208 (lv_at hl 0 rfl) ?_
      refine lv_if_eq (tgt := 217) hx hb dLw_law_210 (by decide) (fun c3 => ?_) (fun c3 => ?_)
      · refine lv_lconst (v := 0) hx hb dLw_law_217 (by decide) ?_
        refine W.lcmp hx hb dLw_law_218 ?_
        refine lv_if_eq (tgt := 224) hx hb dLw_law_219 (by decide) (fun c4 => ?_) (fun c4 => ?_)
        · refine lv_goto (tgt := 1145) hx hb dLw_law_224 (by decide) ?_
          exact kK _ _ _ hW hS (lv_sub hl [2, 3, 4, 5, 6] rfl)
        · exact absurd (by rw [ho2, if_pos c3]; exact lg_cmp_s _) c4
      · refine lv_lconst (v := 1) hx hb dLw_law_213 (by decide) ?_
        refine lv_goto (tgt := 218) hx hb dLw_law_214 (by decide) ?_
        refine W.lcmp hx hb dLw_law_218 ?_
        refine lv_if_eq (tgt := 224) hx hb dLw_law_219 (by decide) (fun c4 => ?_) (fun c4 => ?_)
        · refine lv_goto (tgt := 1145) hx hb dLw_law_224 (by decide) ?_
          exact kK _ _ _ hW hS (lv_sub hl [2, 3, 4, 5, 6] rfl)
        · exact absurd (by rw [ho2, if_neg c3]; exact lg_cmp_s _) c4
  · exact absurd rfl c1

set_option maxHeartbeats 4000000 in
set_option maxRecDepth 100000 in
/-- the arm of hole -/
theorem A_hole (l : Launch) {p : Program} {e : Env} {s : State} {m : MethodId} {below : List Frame} {meth : Method} {c : Code} {A : Nat → Prop} {Q : State → Prop} {b : Nat} {c0 : Cond} {D : va_G} {g : Nat → ClassId} (hx : p.tables.exec = Jvm.exec) (hb : c.code = cLw_law) (hml : c.maxLocals = 8) (hown : s.vm.findClass RLw = some m.cls) (hts : ∀ w ∈ c0 :: dq_G, w.before ([.ref b] : List Value).toArray s = true) (hA : ∀ q, s.heap.size ≤ q → A q) (hK : va_K D vwCl (dq_t g) s) (hZ : dq_Z A s s.heap) {L : Nat} {xs : Nat → Int32} (hX9 : va_X b L xs s s.heap) (hbl : b < s.heap.size) (hbA : ¬ A b) (hL : L < 2 ^ 31) {I : Nat} (hI : I + 5 < L) (ad : Nat → Nat) (w : Nat → Option va_E) {kk : Int32} {mc ms : Nat} {bb : Int32} {w1 w2 : Nat → Option va_E} {fs1 : List Value} {n hn cn : Nat} {pl : Int32} {tn : Nat} {sg : Int32} {wy : Int64} {o9 : Nat → Int64} {a1 : Int32} (e1 : xs (I + 1) = a1) {a2 : Int32} (e2 : xs (I + 2) = a2) {a3 : Int32} (e3 : xs (I + 3) = a3) {a4 : Int32} (e4 : xs (I + 4) = a4) {a5 : Int32} (e5 : xs (I + 5) = a5) (hH : ∀ sz : Nat, Met l yLw_hole wsLw_hole ({ frames := 9, cells := mc, slots := ms, locals := 180 } : Room) (va_Pc [.ref (ad 0), .int a1, .int a2, .int a3, .int a4, .int a5, .ref (ad 200)] (dq_S D vwCl (dq_t g) ad w sz)) (va_Qi (fun r u => r = kk ∧ u = w1) (dq_B D vwCl (dq_t g) ad (dq_A ad w sz)) (dq_A ad w sz)) mc ms (dq_A ad w sz)) (hM : ∀ sz : Nat, Met l yMo_hole wsMo_hole ({ frames := 1, cells := 0, slots := 0, locals := 24 } : Room) (va_Pc [.ref (ad 100), .int a1, .int a2, .int a3, .int a4, .int a5] (dq_S D vwCl (dq_t g) ad w1 sz)) (va_Qi (fun r u => r = bb ∧ u = w2) (dq_B D vwCl (dq_t g) ad (dq_A ad w1 sz)) (dq_A ad w1 sz)) 0 0 (dq_A ad w1 sz)) (hm1 : w1 100 = some (.inr (8, fs1))) (m100 : w2 100 = some (.inr (8, [.int kk, .int (nI n), .ref (ad 102), .ref (ad 103), .ref (ad 104), .int (nI hn), .ref (ad 106), .ref (ad 107), .ref (ad 108), .ref (ad 109), .ref (ad 110), .ref (ad 111), .int (nI cn), .ref (ad 113), .int pl, .int (nI tn), .ref (ad 116), .ref (ad 117), .ref (ad 118), .ref (ad 119), .int sg, .ref (ad 121), .long wy, .ref (ad 123), .ref (ad 124), .ref (ad 125), .ref (ad 126), .ref (ad 127), .ref (ad 128)]))) (ho : kk = 0 → w2 200 = some (.inl (g 2, 1, .inr (.inl o9))) ∧ o9 0 = bb.toInt64) {H : Heap} {locs : List Loc} {ls : Array Slot} {cells slots : Nat} (hW : dq_W D vwCl ad w A H) (hS : va_S A s.heap H locs) (hl : lv_has ls 8 [(0, .ref b), (1, .ref (ad 0)), (2, .ref (ad 100)), (3, .ref (ad 200)), (4, .int (nI I))]) (hc : cells + mc ≤ room_1.cells ∧ slots + ms ≤ room_1.slots) (kK : ∀ (H : Heap) (locs : List Loc) (ls : Array Slot), dq_W D vwCl ad w2 A H → va_S A s.heap H locs → lv_has ls 8 [(0, .ref b), (1, .ref (ad 0)), (2, .ref (ad 100)), (3, .ref (ad 200)), (4, .int (nI I))] → W p l e room_1 s m ([.ref b] : List Value).toArray below meth c H locs (cells + mc) (slots + ms) Q (F0 m 1145 ls [])) : W p l e room_1 s m ([.ref b] : List Value).toArray below meth c H locs cells slots Q (F0 m 227 ls []) := by
  refine lv_aload_n hx hb dLw_law_227 rfl (lv_at hl 1 rfl) ?_
  refine lv_aload_n hx hb dLw_law_228 rfl (lv_at hl 0 rfl) ?_
  refine lv_iload hx hb dLw_law_229 (lv_at hl 4 rfl) ?_
  refine lv_iconst (v := (nI 1)) hx hb dLw_law_231 (by decide) ?_
  refine lv_iadd hx hb dLw_law_232 ?_
  refine dq_top (y := nI (I + 1)) (nI_add I 1) ?_
  refine dq_sldN hx hb hX9 hbl hbA hS (k := (I + 1)) (by omega) hL dLw_law_233 ?_
  refine dq_top (y := a1) e1 ?_
  refine lv_aload_n hx hb dLw_law_234 rfl (lv_at hl 0 rfl) ?_
  refine lv_iload hx hb dLw_law_235 (lv_at hl 4 rfl) ?_
  refine lv_iconst (v := (nI 2)) hx hb dLw_law_237 (by decide) ?_
  refine lv_iadd hx hb dLw_law_238 ?_
  refine dq_top (y := nI (I + 2)) (nI_add I 2) ?_
  refine dq_sldN hx hb hX9 hbl hbA hS (k := (I + 2)) (by omega) hL dLw_law_239 ?_
  refine dq_top (y := a2) e2 ?_
  refine lv_aload_n hx hb dLw_law_240 rfl (lv_at hl 0 rfl) ?_
  refine lv_iload hx hb dLw_law_241 (lv_at hl 4 rfl) ?_
  refine lv_iconst (v := (nI 3)) hx hb dLw_law_243 (by decide) ?_
  refine lv_iadd hx hb dLw_law_244 ?_
  refine dq_top (y := nI (I + 3)) (nI_add I 3) ?_
  refine dq_sldN hx hb hX9 hbl hbA hS (k := (I + 3)) (by omega) hL dLw_law_245 ?_
  refine dq_top (y := a3) e3 ?_
  refine lv_aload_n hx hb dLw_law_246 rfl (lv_at hl 0 rfl) ?_
  refine lv_iload hx hb dLw_law_247 (lv_at hl 4 rfl) ?_
  refine lv_iconst (v := (nI 4)) hx hb dLw_law_249 (by decide) ?_
  refine lv_iadd hx hb dLw_law_250 ?_
  refine dq_top (y := nI (I + 4)) (nI_add I 4) ?_
  refine dq_sldN hx hb hX9 hbl hbA hS (k := (I + 4)) (by omega) hL dLw_law_251 ?_
  refine dq_top (y := a4) e4 ?_
  refine lv_aload_n hx hb dLw_law_252 rfl (lv_at hl 0 rfl) ?_
  refine lv_iload hx hb dLw_law_253 (lv_at hl 4 rfl) ?_
  refine lv_iconst (v := (nI 5)) hx hb dLw_law_255 (by decide) ?_
  refine lv_iadd hx hb dLw_law_256 ?_
  refine dq_top (y := nI (I + 5)) (nI_add I 5) ?_
  refine dq_sldN hx hb hX9 hbl hbA hS (k := (I + 5)) (by omega) hL dLw_law_257 ?_
  refine dq_top (y := a5) e5 ?_
  refine lv_aload_n hx hb dLw_law_258 rfl (lv_at hl 3 rfl) ?_
  refine dq_calli (dx_runSW (As := [.ref (ad 0), .int a1, .int a2, .int a3, .int a4, .int a5, .ref (ad 200)]) (rest := []) ⟨hx, hb, hml, hown, hts⟩ (hH _) (dx_cwS 7 hts (dq_giS2 tw2_228 tw2_229 tw1_0 tw2_230) rfl rfl rfl (by decide +kernel) ⟨Nat.le_of_ble_eq_true rfl, Nat.le_of_ble_eq_true rfl⟩) (dq_preS hW hS hA hK hZ) rfl rfl hl.1 rfl (lv_room (Nat.le_of_ble_eq_true rfl)) dLw_law_259 ⟨hc.1, hc.2⟩) hW hS hA (fun r1 u_9 H locs hp1 hW hS hz9 => ?_)
  obtain ⟨h_r1, hu9⟩ := hp1
  rw [hu9] at hW
  rw [h_r1]
  refine lv_istore (lv' := [(5, .int kk), (0, .ref b), (1, .ref (ad 0)), (2, .ref (ad 100)), (3, .ref (ad 200)), (4, .int (nI I))]) hx hb dLw_law_262 hl (by decide) rfl (fun ls hl => ?_)
  refine lv_aload_n hx hb dLw_law_264 rfl (lv_at hl 3 rfl) ?_
  refine lv_aload_n hx hb dLw_law_265 rfl (lv_at hl 1 rfl) ?_
  refine lv_iload hx hb dLw_law_266 (lv_at hl 5 rfl) ?_
  refine lv_iconst (v := (nI 1)) hx hb dLw_law_268 (by decide) ?_
  refine lv_iadd hx hb dLw_law_269 ?_
  refine dq_top (y := nI (I + 1)) (nI_add I 1) ?_
  refine dq_sldN hx hb hX9 hbl hbA hS (k := (I + 1)) (by omega) hL dLw_law_270 ?_
  refine dq_top (y := a1) e1 ?_
  refine lv_aload_n hx hb dLw_law_271 rfl (lv_at hl 1 rfl) ?_
  refine lv_iload hx hb dLw_law_272 (lv_at hl 5 rfl) ?_
  refine lv_iconst (v := (nI 2)) hx hb dLw_law_274 (by decide) ?_
  refine lv_iadd hx hb dLw_law_275 ?_
  refine dq_top (y := nI (I + 2)) (nI_add I 2) ?_
  refine dq_sldN hx hb hX9 hbl hbA hS (k := (I + 2)) (by omega) hL dLw_law_276 ?_
  refine dq_top (y := a2) e2 ?_
  refine lv_aload_n hx hb dLw_law_277 rfl (lv_at hl 1 rfl) ?_
  refine lv_iload hx hb dLw_law_278 (lv_at hl 5 rfl) ?_
  refine lv_iconst (v := (nI 3)) hx hb dLw_law_280 (by decide) ?_
  refine lv_iadd hx hb dLw_law_281 ?_
  refine dq_top (y := nI (I + 3)) (nI_add I 3) ?_
  refine dq_sldN hx hb hX9 hbl hbA hS (k := (I + 3)) (by omega) hL dLw_law_282 ?_
  refine dq_top (y := a3) e3 ?_
  refine lv_aload_n hx hb dLw_law_283 rfl (lv_at hl 1 rfl) ?_
  refine lv_iload hx hb dLw_law_284 (lv_at hl 5 rfl) ?_
  refine lv_iconst (v := (nI 4)) hx hb dLw_law_286 (by decide) ?_
  refine lv_iadd hx hb dLw_law_287 ?_
  refine dq_top (y := nI (I + 4)) (nI_add I 4) ?_
  refine dq_sldN hx hb hX9 hbl hbA hS (k := (I + 4)) (by omega) hL dLw_law_288 ?_
  refine dq_top (y := a4) e4 ?_
  refine lv_aload_n hx hb dLw_law_289 rfl (lv_at hl 1 rfl) ?_
  refine lv_iload hx hb dLw_law_290 (lv_at hl 5 rfl) ?_
  refine lv_iconst (v := (nI 5)) hx hb dLw_law_292 (by decide) ?_
  refine lv_iadd hx hb dLw_law_293 ?_
  refine dq_top (y := nI (I + 5)) (nI_add I 5) ?_
  refine dq_sldN hx hb hX9 hbl hbA hS (k := (I + 5)) (by omega) hL dLw_law_294 ?_
  refine dq_top (y := a5) e5 ?_
  refine dq_calli (va_runV (As := [.int a1, .int a2, .int a3, .int a4, .int a5]) (rest := []) ⟨hx, hb, hml, hown, hts⟩ (hM _) (cwV 5 hts (dq_giV tw4_14 tw4_15 tw4_16 tw1_10 tw4_17) rfl rfl rfl (by decide +kernel) ⟨Nat.le_of_ble_eq_true rfl, Nat.le_of_ble_eq_true rfl⟩) (dq_preV (ci := 8) hW hS hA hK hZ hm1 rfl rfl) rfl rfl hl.1 rfl (lv_room (Nat.le_of_ble_eq_true rfl)) dLw_law_295 ⟨hc.1, hc.2⟩) hW hS hA (fun r2 u_9 H locs hp2 hW hS hz9 => ?_)
  obtain ⟨h_r2, hu9⟩ := hp2
  rw [hu9] at hW
  rw [h_r2]
  refine lv_istore (lv' := [(6, .int bb), (5, .int kk), (0, .ref b), (1, .ref (ad 0)), (2, .ref (ad 100)), (3, .ref (ad 200)), (4, .int (nI I))]) hx hb dLw_law_298 hl (by decide) rfl (fun ls hl => ?_)
  refine lv_aload_n hx hb dLw_law_300 rfl (lv_at hl 4 rfl) ?_
  refine dq_calli (va_runV (As := []) (rest := []) ⟨hx, hb, hml, hown, hts⟩ (m_thrown l D g ad w2 _ kk n hn cn pl tn sg wy m100) (cwV 0 hts (dq_giV tw4_3 tw4_4 tw4_5 tw1_10 tw4_6) rfl rfl rfl (by decide +kernel) ⟨Nat.le_of_ble_eq_true rfl, Nat.le_of_ble_eq_true rfl⟩) (dq_preV (ci := 8) hW hS hA hK hZ m100 rfl rfl) rfl rfl hl.1 rfl (lv_room (Nat.le_of_ble_eq_true rfl)) dLw_law_301 ⟨hc.1, hc.2⟩) hW hS hA (fun r3 u_9 H locs hp3 hW hS hz9 => ?_)
  obtain ⟨h_r3, hu9⟩ := hp3
  rw [hu9] at hW
  rw [h_r3]
  refine lv_iload hx hb dLw_law_304 (lv_at hl 1 rfl) ?_
  refine lv_icmp_eq (tgt := 311) hx hb dLw_law_306 (by decide) (fun c1 => ?_) (fun c1 => ?_)
  · refine lv_iload hx hb dLw_law_311 (lv_at hl 1 rfl) ?_
    refine lv_if_ne (tgt := 328) hx hb dLw_law_313 (by decide) (fun c2 => ?_) (fun c2 => ?_)
    · refine lv_goto (tgt := 1145) hx hb dLw_law_328 (by decide) ?_
      exact kK _ _ _ hW hS (lv_sub hl [2, 3, 4, 5, 6] rfl)
    · obtain ⟨o200, ho2⟩ := ho c2
      refine lv_aload_n hx hb dLw_law_316 rfl (lv_at hl 5 rfl) ?_
      refine lv_iconst (v := (nI 0)) hx hb dLw_law_317 (by decide) ?_
      refine dq_laldN hx hb hK hW 200 2 o200 rfl 0 (by omega) (by omega) dLw_law_318 ?_
      refine lv_iload hx hb dLw_law_319 (lv_at hl 0 rfl) ?_
      refine lv_i2l hx hb dLw_law_321 rfl ?_
      refine W.lcmp hx hb dLw_law_322 ?_
      refine lv_if_eq (tgt := 328) hx hb dLw_law_323 (by decide) (fun c4 => ?_) (fun c4 => ?_)
      · refine lv_goto (tgt := 1145) hx hb dLw_law_328 (by decide) ?_
        exact kK _ _ _ hW hS (lv_sub hl [2, 3, 4, 5, 6] rfl)
      · exact absurd (by rw [ho2]; exact lg_cmp_s _) c4
  · exact absurd rfl c1

set_option maxHeartbeats 4000000 in
set_option maxRecDepth 100000 in
/-- the arm of through -/
theorem A_through0 (l : Launch) {p : Program} {e : Env} {s : State} {m : MethodId} {below : List Frame} {meth : Method} {c : Code} {A : Nat → Prop} {Q : State → Prop} {b : Nat} {c0 : Cond} {D : va_G} {g : Nat → ClassId} (hx : p.tables.exec = Jvm.exec) (hb : c.code = cLw_law) (hml : c.maxLocals = 8) (hown : s.vm.findClass RLw = some m.cls) (hts : ∀ w ∈ c0 :: dq_G, w.before ([.ref b] : List Value).toArray s = true) (hA : ∀ q, s.heap.size ≤ q → A q) (hK : va_K D vwCl (dq_t g) s) (hZ : dq_Z A s s.heap) {L : Nat} {xs : Nat → Int32} (hX9 : va_X b L xs s s.heap) (hbl : b < s.heap.size) (hbA : ¬ A b) (hL : L < 2 ^ 31) {I : Nat} (hI : I + 5 < L) (ad : Nat → Nat) (w : Nat → Option va_E) {kk : Int32} {mc ms : Nat} {bb : Int32} {w1 w2 : Nat → Option va_E} {fs1 : List Value} {n hn cn : Nat} {pl : Int32} {tn : Nat} {sg : Int32} {wy : Int64} {o9 : Nat → Int64} {a1 : Int32} (e1 : xs (I + 1) = a1) (hq : xs (I + 2) = 0) (hH : ∀ sz : Nat, Met l yLw_through wsLw_through ({ frames := 9, cells := mc, slots := ms, locals := 180 } : Room) (va_Pc [.ref (ad 0), .int a1, .int 0, .ref (ad 200)] (dq_S D vwCl (dq_t g) ad w sz)) (va_Qi (fun r u => r = kk ∧ u = w1) (dq_B D vwCl (dq_t g) ad (dq_A ad w sz)) (dq_A ad w sz)) mc ms (dq_A ad w sz)) (hM : ∀ sz : Nat, Met l yMo_through wsMo_through ({ frames := 1, cells := 0, slots := 0, locals := 24 } : Room) (va_Pc [.ref (ad 100), .int a1, .int 0] (dq_S D vwCl (dq_t g) ad w1 sz)) (va_Qi (fun r u => r = bb ∧ u = w2) (dq_B D vwCl (dq_t g) ad (dq_A ad w1 sz)) (dq_A ad w1 sz)) 0 0 (dq_A ad w1 sz)) (hm1 : w1 100 = some (.inr (8, fs1))) (m100 : w2 100 = some (.inr (8, [.int kk, .int (nI n), .ref (ad 102), .ref (ad 103), .ref (ad 104), .int (nI hn), .ref (ad 106), .ref (ad 107), .ref (ad 108), .ref (ad 109), .ref (ad 110), .ref (ad 111), .int (nI cn), .ref (ad 113), .int pl, .int (nI tn), .ref (ad 116), .ref (ad 117), .ref (ad 118), .ref (ad 119), .int sg, .ref (ad 121), .long wy, .ref (ad 123), .ref (ad 124), .ref (ad 125), .ref (ad 126), .ref (ad 127), .ref (ad 128)]))) (ho : kk = 0 → w2 200 = some (.inl (g 2, 1, .inr (.inl o9))) ∧ o9 0 = (if bb = 0 then 0 else 1)) {H : Heap} {locs : List Loc} {ls : Array Slot} {cells slots : Nat} (hW : dq_W D vwCl ad w A H) (hS : va_S A s.heap H locs) (hl : lv_has ls 8 [(0, .ref b), (1, .ref (ad 0)), (2, .ref (ad 100)), (3, .ref (ad 200)), (4, .int (nI I))]) (hc : cells + mc ≤ room_1.cells ∧ slots + ms ≤ room_1.slots) (kK : ∀ (H : Heap) (locs : List Loc) (ls : Array Slot), dq_W D vwCl ad w2 A H → va_S A s.heap H locs → lv_has ls 8 [(0, .ref b), (1, .ref (ad 0)), (2, .ref (ad 100)), (3, .ref (ad 200)), (4, .int (nI I))] → W p l e room_1 s m ([.ref b] : List Value).toArray below meth c H locs (cells + mc) (slots + ms) Q (F0 m 1145 ls [])) : W p l e room_1 s m ([.ref b] : List Value).toArray below meth c H locs cells slots Q (F0 m 331 ls []) := by
  refine lv_aload_n hx hb dLw_law_331 rfl (lv_at hl 1 rfl) ?_
  refine lv_aload_n hx hb dLw_law_332 rfl (lv_at hl 0 rfl) ?_
  refine lv_iload hx hb dLw_law_333 (lv_at hl 4 rfl) ?_
  refine lv_iconst (v := (nI 1)) hx hb dLw_law_335 (by decide) ?_
  refine lv_iadd hx hb dLw_law_336 ?_
  refine dq_top (y := nI (I + 1)) (nI_add I 1) ?_
  refine dq_sldN hx hb hX9 hbl hbA hS (k := (I + 1)) (by omega) hL dLw_law_337 ?_
  refine dq_top (y := a1) e1 ?_
  refine lv_aload_n hx hb dLw_law_338 rfl (lv_at hl 0 rfl) ?_
  refine lv_iload hx hb dLw_law_339 (lv_at hl 4 rfl) ?_
  refine lv_iconst (v := (nI 2)) hx hb dLw_law_341 (by decide) ?_
  refine lv_iadd hx hb dLw_law_342 ?_
  refine dq_top (y := nI (I + 2)) (nI_add I 2) ?_
  refine dq_sldN hx hb hX9 hbl hbA hS (k := (I + 2)) (by omega) hL dLw_law_343 ?_
  refine lv_if_eq (tgt := 351) hx hb dLw_law_344 (by decide) (fun c9 => ?_) (fun c9 => ?_)
  · refine lv_iconst (v := (0)) hx hb dLw_law_351 (by decide) ?_
    refine lv_aload_n hx hb dLw_law_352 rfl (lv_at hl 3 rfl) ?_
    refine dq_calli (dx_runSW (As := [.ref (ad 0), .int a1, .int (0), .ref (ad 200)]) (rest := []) ⟨hx, hb, hml, hown, hts⟩ (hH _) (dx_cwS 4 hts (dq_giS2 tw3_16 tw3_17 tw1_0 tw3_18) rfl rfl rfl (by decide +kernel) ⟨Nat.le_of_ble_eq_true rfl, Nat.le_of_ble_eq_true rfl⟩) (dq_preS hW hS hA hK hZ) rfl rfl hl.1 rfl (lv_room (Nat.le_of_ble_eq_true rfl)) dLw_law_353 ⟨hc.1, hc.2⟩) hW hS hA (fun r1 u_9 H locs hp1 hW hS hz9 => ?_)
    obtain ⟨h_r1, hu9⟩ := hp1
    rw [hu9] at hW
    rw [h_r1]
    refine lv_istore (lv' := [(5, .int kk), (0, .ref b), (1, .ref (ad 0)), (2, .ref (ad 100)), (3, .ref (ad 200)), (4, .int (nI I))]) hx hb dLw_law_356 hl (by decide) rfl (fun ls hl => ?_)
    refine lv_aload_n hx hb dLw_law_358 rfl (lv_at hl 3 rfl) ?_
    refine lv_aload_n hx hb dLw_law_359 rfl (lv_at hl 1 rfl) ?_
    refine lv_iload hx hb dLw_law_360 (lv_at hl 5 rfl) ?_
    refine lv_iconst (v := (nI 1)) hx hb dLw_law_362 (by decide) ?_
    refine lv_iadd hx hb dLw_law_363 ?_
    refine dq_top (y := nI (I + 1)) (nI_add I 1) ?_
    refine dq_sldN hx hb hX9 hbl hbA hS (k := (I + 1)) (by omega) hL dLw_law_364 ?_
    refine dq_top (y := a1) e1 ?_
    refine lv_aload_n hx hb dLw_law_365 rfl (lv_at hl 1 rfl) ?_
    refine lv_iload hx hb dLw_law_366 (lv_at hl 5 rfl) ?_
    refine lv_iconst (v := (nI 2)) hx hb dLw_law_368 (by decide) ?_
    refine lv_iadd hx hb dLw_law_369 ?_
    refine dq_top (y := nI (I + 2)) (nI_add I 2) ?_
    refine dq_sldN hx hb hX9 hbl hbA hS (k := (I + 2)) (by omega) hL dLw_law_370 ?_
    refine lv_if_eq (tgt := 378) hx hb dLw_law_371 (by decide) (fun c9 => ?_) (fun c9 => ?_)
    · refine lv_iconst (v := (0)) hx hb dLw_law_378 (by decide) ?_
      refine dq_calli (va_runV (As := [.int a1, .int (0)]) (rest := []) ⟨hx, hb, hml, hown, hts⟩ (hM _) (cwV 2 hts (dq_giV tw4_18 tw4_19 tw4_20 tw1_10 tw4_21) rfl rfl rfl (by decide +kernel) ⟨Nat.le_of_ble_eq_true rfl, Nat.le_of_ble_eq_true rfl⟩) (dq_preV (ci := 8) hW hS hA hK hZ hm1 rfl rfl) rfl rfl hl.1 rfl (lv_room (Nat.le_of_ble_eq_true rfl)) dLw_law_379 ⟨hc.1, hc.2⟩) hW hS hA (fun r2 u_9 H locs hp2 hW hS hz9 => ?_)
      obtain ⟨h_r2, hu9⟩ := hp2
      rw [hu9] at hW
      rw [h_r2]
      refine lv_istore (lv' := [(6, .int bb), (5, .int kk), (0, .ref b), (1, .ref (ad 0)), (2, .ref (ad 100)), (3, .ref (ad 200)), (4, .int (nI I))]) hx hb dLw_law_382 hl (by decide) rfl (fun ls hl => ?_)
      refine lv_aload_n hx hb dLw_law_384 rfl (lv_at hl 4 rfl) ?_
      refine dq_calli (va_runV (As := []) (rest := []) ⟨hx, hb, hml, hown, hts⟩ (m_thrown l D g ad w2 _ kk n hn cn pl tn sg wy m100) (cwV 0 hts (dq_giV tw4_3 tw4_4 tw4_5 tw1_10 tw4_6) rfl rfl rfl (by decide +kernel) ⟨Nat.le_of_ble_eq_true rfl, Nat.le_of_ble_eq_true rfl⟩) (dq_preV (ci := 8) hW hS hA hK hZ m100 rfl rfl) rfl rfl hl.1 rfl (lv_room (Nat.le_of_ble_eq_true rfl)) dLw_law_385 ⟨hc.1, hc.2⟩) hW hS hA (fun r3 u_9 H locs hp3 hW hS hz9 => ?_)
      obtain ⟨h_r3, hu9⟩ := hp3
      rw [hu9] at hW
      rw [h_r3]
      refine lv_iload hx hb dLw_law_388 (lv_at hl 1 rfl) ?_
      refine lv_icmp_eq (tgt := 395) hx hb dLw_law_390 (by decide) (fun c1 => ?_) (fun c1 => ?_)
      · refine lv_iload hx hb dLw_law_395 (lv_at hl 1 rfl) ?_
        refine lv_if_ne (tgt := 419) hx hb dLw_law_397 (by decide) (fun c2 => ?_) (fun c2 => ?_)
        · refine lv_goto (tgt := 1145) hx hb dLw_law_419 (by decide) ?_
          exact kK _ _ _ hW hS (lv_sub hl [2, 3, 4, 5, 6] rfl)
        · obtain ⟨o200, ho2⟩ := ho c2
          refine lv_aload_n hx hb dLw_law_400 rfl (lv_at hl 5 rfl) ?_
          refine lv_iconst (v := (nI 0)) hx hb dLw_law_401 (by decide) ?_
          refine dq_laldN hx hb hK hW 200 2 o200 rfl 0 (by omega) (by omega) dLw_law_402 ?_
          refine lv_iload hx hb dLw_law_403 (lv_at hl 0 rfl) ?_
          refine lv_if_eq (tgt := 412) hx hb dLw_law_405 (by decide) (fun c3 => ?_) (fun c3 => ?_)
          · refine lv_lconst (v := 0) hx hb dLw_law_412 (by decide) ?_
            refine W.lcmp hx hb dLw_law_413 ?_
            refine lv_if_eq (tgt := 419) hx hb dLw_law_414 (by decide) (fun c4 => ?_) (fun c4 => ?_)
            · refine lv_goto (tgt := 1145) hx hb dLw_law_419 (by decide) ?_
              exact kK _ _ _ hW hS (lv_sub hl [2, 3, 4, 5, 6] rfl)
            · exact absurd (by rw [ho2, if_pos c3]; exact lg_cmp_s _) c4
          · refine lv_lconst (v := 1) hx hb dLw_law_408 (by decide) ?_
            refine lv_goto (tgt := 413) hx hb dLw_law_409 (by decide) ?_
            refine W.lcmp hx hb dLw_law_413 ?_
            refine lv_if_eq (tgt := 419) hx hb dLw_law_414 (by decide) (fun c4 => ?_) (fun c4 => ?_)
            · refine lv_goto (tgt := 1145) hx hb dLw_law_419 (by decide) ?_
              exact kK _ _ _ hW hS (lv_sub hl [2, 3, 4, 5, 6] rfl)
            · exact absurd (by rw [ho2, if_neg c3]; exact lg_cmp_s _) c4
      · exact absurd rfl c1
    · exact absurd hq c9
  · exact absurd hq c9

set_option maxHeartbeats 4000000 in
set_option maxRecDepth 100000 in
/-- the arm of through -/
theorem A_through1 (l : Launch) {p : Program} {e : Env} {s : State} {m : MethodId} {below : List Frame} {meth : Method} {c : Code} {A : Nat → Prop} {Q : State → Prop} {b : Nat} {c0 : Cond} {D : va_G} {g : Nat → ClassId} (hx : p.tables.exec = Jvm.exec) (hb : c.code = cLw_law) (hml : c.maxLocals = 8) (hown : s.vm.findClass RLw = some m.cls) (hts : ∀ w ∈ c0 :: dq_G, w.before ([.ref b] : List Value).toArray s = true) (hA : ∀ q, s.heap.size ≤ q → A q) (hK : va_K D vwCl (dq_t g) s) (hZ : dq_Z A s s.heap) {L : Nat} {xs : Nat → Int32} (hX9 : va_X b L xs s s.heap) (hbl : b < s.heap.size) (hbA : ¬ A b) (hL : L < 2 ^ 31) {I : Nat} (hI : I + 5 < L) (ad : Nat → Nat) (w : Nat → Option va_E) {kk : Int32} {mc ms : Nat} {bb : Int32} {w1 w2 : Nat → Option va_E} {fs1 : List Value} {n hn cn : Nat} {pl : Int32} {tn : Nat} {sg : Int32} {wy : Int64} {o9 : Nat → Int64} {a1 : Int32} (e1 : xs (I + 1) = a1) (hq : ¬ xs (I + 2) = 0) (hH : ∀ sz : Nat, Met l yLw_through wsLw_through ({ frames := 9, cells := mc, slots := ms, locals := 180 } : Room) (va_Pc [.ref (ad 0), .int a1, .int 1, .ref (ad 200)] (dq_S D vwCl (dq_t g) ad w sz)) (va_Qi (fun r u => r = kk ∧ u = w1) (dq_B D vwCl (dq_t g) ad (dq_A ad w sz)) (dq_A ad w sz)) mc ms (dq_A ad w sz)) (hM : ∀ sz : Nat, Met l yMo_through wsMo_through ({ frames := 1, cells := 0, slots := 0, locals := 24 } : Room) (va_Pc [.ref (ad 100), .int a1, .int 1] (dq_S D vwCl (dq_t g) ad w1 sz)) (va_Qi (fun r u => r = bb ∧ u = w2) (dq_B D vwCl (dq_t g) ad (dq_A ad w1 sz)) (dq_A ad w1 sz)) 0 0 (dq_A ad w1 sz)) (hm1 : w1 100 = some (.inr (8, fs1))) (m100 : w2 100 = some (.inr (8, [.int kk, .int (nI n), .ref (ad 102), .ref (ad 103), .ref (ad 104), .int (nI hn), .ref (ad 106), .ref (ad 107), .ref (ad 108), .ref (ad 109), .ref (ad 110), .ref (ad 111), .int (nI cn), .ref (ad 113), .int pl, .int (nI tn), .ref (ad 116), .ref (ad 117), .ref (ad 118), .ref (ad 119), .int sg, .ref (ad 121), .long wy, .ref (ad 123), .ref (ad 124), .ref (ad 125), .ref (ad 126), .ref (ad 127), .ref (ad 128)]))) (ho : kk = 0 → w2 200 = some (.inl (g 2, 1, .inr (.inl o9))) ∧ o9 0 = (if bb = 0 then 0 else 1)) {H : Heap} {locs : List Loc} {ls : Array Slot} {cells slots : Nat} (hW : dq_W D vwCl ad w A H) (hS : va_S A s.heap H locs) (hl : lv_has ls 8 [(0, .ref b), (1, .ref (ad 0)), (2, .ref (ad 100)), (3, .ref (ad 200)), (4, .int (nI I))]) (hc : cells + mc ≤ room_1.cells ∧ slots + ms ≤ room_1.slots) (kK : ∀ (H : Heap) (locs : List Loc) (ls : Array Slot), dq_W D vwCl ad w2 A H → va_S A s.heap H locs → lv_has ls 8 [(0, .ref b), (1, .ref (ad 0)), (2, .ref (ad 100)), (3, .ref (ad 200)), (4, .int (nI I))] → W p l e room_1 s m ([.ref b] : List Value).toArray below meth c H locs (cells + mc) (slots + ms) Q (F0 m 1145 ls [])) : W p l e room_1 s m ([.ref b] : List Value).toArray below meth c H locs cells slots Q (F0 m 331 ls []) := by
  refine lv_aload_n hx hb dLw_law_331 rfl (lv_at hl 1 rfl) ?_
  refine lv_aload_n hx hb dLw_law_332 rfl (lv_at hl 0 rfl) ?_
  refine lv_iload hx hb dLw_law_333 (lv_at hl 4 rfl) ?_
  refine lv_iconst (v := (nI 1)) hx hb dLw_law_335 (by decide) ?_
  refine lv_iadd hx hb dLw_law_336 ?_
  refine dq_top (y := nI (I + 1)) (nI_add I 1) ?_
  refine dq_sldN hx hb hX9 hbl hbA hS (k := (I + 1)) (by omega) hL dLw_law_337 ?_
  refine dq_top (y := a1) e1 ?_
  refine lv_aload_n hx hb dLw_law_338 rfl (lv_at hl 0 rfl) ?_
  refine lv_iload hx hb dLw_law_339 (lv_at hl 4 rfl) ?_
  refine lv_iconst (v := (nI 2)) hx hb dLw_law_341 (by decide) ?_
  refine lv_iadd hx hb dLw_law_342 ?_
  refine dq_top (y := nI (I + 2)) (nI_add I 2) ?_
  refine dq_sldN hx hb hX9 hbl hbA hS (k := (I + 2)) (by omega) hL dLw_law_343 ?_
  refine lv_if_eq (tgt := 351) hx hb dLw_law_344 (by decide) (fun c9 => ?_) (fun c9 => ?_)
  · exact absurd c9 hq
  · refine lv_iconst (v := (1)) hx hb dLw_law_347 (by decide) ?_
    refine lv_goto (tgt := 352) hx hb dLw_law_348 (by decide) ?_
    refine lv_aload_n hx hb dLw_law_352 rfl (lv_at hl 3 rfl) ?_
    refine dq_calli (dx_runSW (As := [.ref (ad 0), .int a1, .int (1), .ref (ad 200)]) (rest := []) ⟨hx, hb, hml, hown, hts⟩ (hH _) (dx_cwS 4 hts (dq_giS2 tw3_16 tw3_17 tw1_0 tw3_18) rfl rfl rfl (by decide +kernel) ⟨Nat.le_of_ble_eq_true rfl, Nat.le_of_ble_eq_true rfl⟩) (dq_preS hW hS hA hK hZ) rfl rfl hl.1 rfl (lv_room (Nat.le_of_ble_eq_true rfl)) dLw_law_353 ⟨hc.1, hc.2⟩) hW hS hA (fun r1 u_9 H locs hp1 hW hS hz9 => ?_)
    obtain ⟨h_r1, hu9⟩ := hp1
    rw [hu9] at hW
    rw [h_r1]
    refine lv_istore (lv' := [(5, .int kk), (0, .ref b), (1, .ref (ad 0)), (2, .ref (ad 100)), (3, .ref (ad 200)), (4, .int (nI I))]) hx hb dLw_law_356 hl (by decide) rfl (fun ls hl => ?_)
    refine lv_aload_n hx hb dLw_law_358 rfl (lv_at hl 3 rfl) ?_
    refine lv_aload_n hx hb dLw_law_359 rfl (lv_at hl 1 rfl) ?_
    refine lv_iload hx hb dLw_law_360 (lv_at hl 5 rfl) ?_
    refine lv_iconst (v := (nI 1)) hx hb dLw_law_362 (by decide) ?_
    refine lv_iadd hx hb dLw_law_363 ?_
    refine dq_top (y := nI (I + 1)) (nI_add I 1) ?_
    refine dq_sldN hx hb hX9 hbl hbA hS (k := (I + 1)) (by omega) hL dLw_law_364 ?_
    refine dq_top (y := a1) e1 ?_
    refine lv_aload_n hx hb dLw_law_365 rfl (lv_at hl 1 rfl) ?_
    refine lv_iload hx hb dLw_law_366 (lv_at hl 5 rfl) ?_
    refine lv_iconst (v := (nI 2)) hx hb dLw_law_368 (by decide) ?_
    refine lv_iadd hx hb dLw_law_369 ?_
    refine dq_top (y := nI (I + 2)) (nI_add I 2) ?_
    refine dq_sldN hx hb hX9 hbl hbA hS (k := (I + 2)) (by omega) hL dLw_law_370 ?_
    refine lv_if_eq (tgt := 378) hx hb dLw_law_371 (by decide) (fun c9 => ?_) (fun c9 => ?_)
    · exact absurd c9 hq
    · refine lv_iconst (v := (1)) hx hb dLw_law_374 (by decide) ?_
      refine lv_goto (tgt := 379) hx hb dLw_law_375 (by decide) ?_
      refine dq_calli (va_runV (As := [.int a1, .int (1)]) (rest := []) ⟨hx, hb, hml, hown, hts⟩ (hM _) (cwV 2 hts (dq_giV tw4_18 tw4_19 tw4_20 tw1_10 tw4_21) rfl rfl rfl (by decide +kernel) ⟨Nat.le_of_ble_eq_true rfl, Nat.le_of_ble_eq_true rfl⟩) (dq_preV (ci := 8) hW hS hA hK hZ hm1 rfl rfl) rfl rfl hl.1 rfl (lv_room (Nat.le_of_ble_eq_true rfl)) dLw_law_379 ⟨hc.1, hc.2⟩) hW hS hA (fun r2 u_9 H locs hp2 hW hS hz9 => ?_)
      obtain ⟨h_r2, hu9⟩ := hp2
      rw [hu9] at hW
      rw [h_r2]
      refine lv_istore (lv' := [(6, .int bb), (5, .int kk), (0, .ref b), (1, .ref (ad 0)), (2, .ref (ad 100)), (3, .ref (ad 200)), (4, .int (nI I))]) hx hb dLw_law_382 hl (by decide) rfl (fun ls hl => ?_)
      refine lv_aload_n hx hb dLw_law_384 rfl (lv_at hl 4 rfl) ?_
      refine dq_calli (va_runV (As := []) (rest := []) ⟨hx, hb, hml, hown, hts⟩ (m_thrown l D g ad w2 _ kk n hn cn pl tn sg wy m100) (cwV 0 hts (dq_giV tw4_3 tw4_4 tw4_5 tw1_10 tw4_6) rfl rfl rfl (by decide +kernel) ⟨Nat.le_of_ble_eq_true rfl, Nat.le_of_ble_eq_true rfl⟩) (dq_preV (ci := 8) hW hS hA hK hZ m100 rfl rfl) rfl rfl hl.1 rfl (lv_room (Nat.le_of_ble_eq_true rfl)) dLw_law_385 ⟨hc.1, hc.2⟩) hW hS hA (fun r3 u_9 H locs hp3 hW hS hz9 => ?_)
      obtain ⟨h_r3, hu9⟩ := hp3
      rw [hu9] at hW
      rw [h_r3]
      refine lv_iload hx hb dLw_law_388 (lv_at hl 1 rfl) ?_
      refine lv_icmp_eq (tgt := 395) hx hb dLw_law_390 (by decide) (fun c1 => ?_) (fun c1 => ?_)
      · refine lv_iload hx hb dLw_law_395 (lv_at hl 1 rfl) ?_
        refine lv_if_ne (tgt := 419) hx hb dLw_law_397 (by decide) (fun c2 => ?_) (fun c2 => ?_)
        · refine lv_goto (tgt := 1145) hx hb dLw_law_419 (by decide) ?_
          exact kK _ _ _ hW hS (lv_sub hl [2, 3, 4, 5, 6] rfl)
        · obtain ⟨o200, ho2⟩ := ho c2
          refine lv_aload_n hx hb dLw_law_400 rfl (lv_at hl 5 rfl) ?_
          refine lv_iconst (v := (nI 0)) hx hb dLw_law_401 (by decide) ?_
          refine dq_laldN hx hb hK hW 200 2 o200 rfl 0 (by omega) (by omega) dLw_law_402 ?_
          refine lv_iload hx hb dLw_law_403 (lv_at hl 0 rfl) ?_
          refine lv_if_eq (tgt := 412) hx hb dLw_law_405 (by decide) (fun c3 => ?_) (fun c3 => ?_)
          · refine lv_lconst (v := 0) hx hb dLw_law_412 (by decide) ?_
            refine W.lcmp hx hb dLw_law_413 ?_
            refine lv_if_eq (tgt := 419) hx hb dLw_law_414 (by decide) (fun c4 => ?_) (fun c4 => ?_)
            · refine lv_goto (tgt := 1145) hx hb dLw_law_419 (by decide) ?_
              exact kK _ _ _ hW hS (lv_sub hl [2, 3, 4, 5, 6] rfl)
            · exact absurd (by rw [ho2, if_pos c3]; exact lg_cmp_s _) c4
          · refine lv_lconst (v := 1) hx hb dLw_law_408 (by decide) ?_
            refine lv_goto (tgt := 413) hx hb dLw_law_409 (by decide) ?_
            refine W.lcmp hx hb dLw_law_413 ?_
            refine lv_if_eq (tgt := 419) hx hb dLw_law_414 (by decide) (fun c4 => ?_) (fun c4 => ?_)
            · refine lv_goto (tgt := 1145) hx hb dLw_law_419 (by decide) ?_
              exact kK _ _ _ hW hS (lv_sub hl [2, 3, 4, 5, 6] rfl)
            · exact absurd (by rw [ho2, if_neg c3]; exact lg_cmp_s _) c4
      · exact absurd rfl c1

set_option maxHeartbeats 4000000 in
set_option maxRecDepth 100000 in
/-- the arm of clamp -/
theorem A_clamp (l : Launch) {p : Program} {e : Env} {s : State} {m : MethodId} {below : List Frame} {meth : Method} {c : Code} {A : Nat → Prop} {Q : State → Prop} {b : Nat} {c0 : Cond} {D : va_G} {g : Nat → ClassId} (hx : p.tables.exec = Jvm.exec) (hb : c.code = cLw_law) (hml : c.maxLocals = 8) (hown : s.vm.findClass RLw = some m.cls) (hts : ∀ w ∈ c0 :: dq_G, w.before ([.ref b] : List Value).toArray s = true) (hA : ∀ q, s.heap.size ≤ q → A q) (hK : va_K D vwCl (dq_t g) s) (hZ : dq_Z A s s.heap) {L : Nat} {xs : Nat → Int32} (hX9 : va_X b L xs s s.heap) (hbl : b < s.heap.size) (hbA : ¬ A b) (hL : L < 2 ^ 31) {I : Nat} (hI : I + 5 < L) (ad : Nat → Nat) (w : Nat → Option va_E) {kk : Int32} {mc ms : Nat} {bb : Int32} {w1 w2 : Nat → Option va_E} {fs1 : List Value} {n hn cn : Nat} {pl : Int32} {tn : Nat} {sg : Int32} {wy : Int64} {o9 : Nat → Int64} {a1 : Int32} (e1 : xs (I + 1) = a1) {a2 : Int32} (e2 : xs (I + 2) = a2) {a3 : Int32} (e3 : xs (I + 3) = a3) {a4 : Int32} (e4 : xs (I + 4) = a4) (hH : ∀ sz : Nat, Met l yLw_clamp wsLw_clamp ({ frames := 9, cells := mc, slots := ms, locals := 180 } : Room) (va_Pc [.ref (ad 0), .int a1, .int a2, .int a3, .int a4, .ref (ad 200)] (dq_S D vwCl (dq_t g) ad w sz)) (va_Qi (fun r u => r = kk ∧ u = w1) (dq_B D vwCl (dq_t g) ad (dq_A ad w sz)) (dq_A ad w sz)) mc ms (dq_A ad w sz)) (hM : ∀ sz : Nat, Met l yMo_clamp wsMo_clamp ({ frames := 1, cells := 0, slots := 0, locals := 24 } : Room) (va_Pc [.ref (ad 100), .int a1, .int a2, .int a3, .int a4] (dq_S D vwCl (dq_t g) ad w1 sz)) (va_Qi (fun r u => r = bb ∧ u = w2) (dq_B D vwCl (dq_t g) ad (dq_A ad w1 sz)) (dq_A ad w1 sz)) 0 0 (dq_A ad w1 sz)) (hm1 : w1 100 = some (.inr (8, fs1))) (m100 : w2 100 = some (.inr (8, [.int kk, .int (nI n), .ref (ad 102), .ref (ad 103), .ref (ad 104), .int (nI hn), .ref (ad 106), .ref (ad 107), .ref (ad 108), .ref (ad 109), .ref (ad 110), .ref (ad 111), .int (nI cn), .ref (ad 113), .int pl, .int (nI tn), .ref (ad 116), .ref (ad 117), .ref (ad 118), .ref (ad 119), .int sg, .ref (ad 121), .long wy, .ref (ad 123), .ref (ad 124), .ref (ad 125), .ref (ad 126), .ref (ad 127), .ref (ad 128)]))) (ho : kk = 0 → w2 200 = some (.inl (g 2, 1, .inr (.inl o9))) ∧ o9 0 = (if bb = 0 then 0 else 1)) {H : Heap} {locs : List Loc} {ls : Array Slot} {cells slots : Nat} (hW : dq_W D vwCl ad w A H) (hS : va_S A s.heap H locs) (hl : lv_has ls 8 [(0, .ref b), (1, .ref (ad 0)), (2, .ref (ad 100)), (3, .ref (ad 200)), (4, .int (nI I))]) (hc : cells + mc ≤ room_1.cells ∧ slots + ms ≤ room_1.slots) (kK : ∀ (H : Heap) (locs : List Loc) (ls : Array Slot), dq_W D vwCl ad w2 A H → va_S A s.heap H locs → lv_has ls 8 [(0, .ref b), (1, .ref (ad 0)), (2, .ref (ad 100)), (3, .ref (ad 200)), (4, .int (nI I))] → W p l e room_1 s m ([.ref b] : List Value).toArray below meth c H locs (cells + mc) (slots + ms) Q (F0 m 1145 ls [])) : W p l e room_1 s m ([.ref b] : List Value).toArray below meth c H locs cells slots Q (F0 m 422 ls []) := by
  refine lv_aload_n hx hb dLw_law_422 rfl (lv_at hl 1 rfl) ?_
  refine lv_aload_n hx hb dLw_law_423 rfl (lv_at hl 0 rfl) ?_
  refine lv_iload hx hb dLw_law_424 (lv_at hl 4 rfl) ?_
  refine lv_iconst (v := (nI 1)) hx hb dLw_law_426 (by decide) ?_
  refine lv_iadd hx hb dLw_law_427 ?_
  refine dq_top (y := nI (I + 1)) (nI_add I 1) ?_
  refine dq_sldN hx hb hX9 hbl hbA hS (k := (I + 1)) (by omega) hL dLw_law_428 ?_
  refine dq_top (y := a1) e1 ?_
  refine lv_aload_n hx hb dLw_law_429 rfl (lv_at hl 0 rfl) ?_
  refine lv_iload hx hb dLw_law_430 (lv_at hl 4 rfl) ?_
  refine lv_iconst (v := (nI 2)) hx hb dLw_law_432 (by decide) ?_
  refine lv_iadd hx hb dLw_law_433 ?_
  refine dq_top (y := nI (I + 2)) (nI_add I 2) ?_
  refine dq_sldN hx hb hX9 hbl hbA hS (k := (I + 2)) (by omega) hL dLw_law_434 ?_
  refine dq_top (y := a2) e2 ?_
  refine lv_aload_n hx hb dLw_law_435 rfl (lv_at hl 0 rfl) ?_
  refine lv_iload hx hb dLw_law_436 (lv_at hl 4 rfl) ?_
  refine lv_iconst (v := (nI 3)) hx hb dLw_law_438 (by decide) ?_
  refine lv_iadd hx hb dLw_law_439 ?_
  refine dq_top (y := nI (I + 3)) (nI_add I 3) ?_
  refine dq_sldN hx hb hX9 hbl hbA hS (k := (I + 3)) (by omega) hL dLw_law_440 ?_
  refine dq_top (y := a3) e3 ?_
  refine lv_aload_n hx hb dLw_law_441 rfl (lv_at hl 0 rfl) ?_
  refine lv_iload hx hb dLw_law_442 (lv_at hl 4 rfl) ?_
  refine lv_iconst (v := (nI 4)) hx hb dLw_law_444 (by decide) ?_
  refine lv_iadd hx hb dLw_law_445 ?_
  refine dq_top (y := nI (I + 4)) (nI_add I 4) ?_
  refine dq_sldN hx hb hX9 hbl hbA hS (k := (I + 4)) (by omega) hL dLw_law_446 ?_
  refine dq_top (y := a4) e4 ?_
  refine lv_aload_n hx hb dLw_law_447 rfl (lv_at hl 3 rfl) ?_
  refine dq_calli (dx_runSW (As := [.ref (ad 0), .int a1, .int a2, .int a3, .int a4, .ref (ad 200)]) (rest := []) ⟨hx, hb, hml, hown, hts⟩ (hH _) (dx_cwS 6 hts (dq_giS2 tw3_28 tw3_29 tw1_0 tw3_30) rfl rfl rfl (by decide +kernel) ⟨Nat.le_of_ble_eq_true rfl, Nat.le_of_ble_eq_true rfl⟩) (dq_preS hW hS hA hK hZ) rfl rfl hl.1 rfl (lv_room (Nat.le_of_ble_eq_true rfl)) dLw_law_448 ⟨hc.1, hc.2⟩) hW hS hA (fun r1 u_9 H locs hp1 hW hS hz9 => ?_)
  obtain ⟨h_r1, hu9⟩ := hp1
  rw [hu9] at hW
  rw [h_r1]
  refine lv_istore (lv' := [(5, .int kk), (0, .ref b), (1, .ref (ad 0)), (2, .ref (ad 100)), (3, .ref (ad 200)), (4, .int (nI I))]) hx hb dLw_law_451 hl (by decide) rfl (fun ls hl => ?_)
  refine lv_aload_n hx hb dLw_law_453 rfl (lv_at hl 3 rfl) ?_
  refine lv_aload_n hx hb dLw_law_454 rfl (lv_at hl 1 rfl) ?_
  refine lv_iload hx hb dLw_law_455 (lv_at hl 5 rfl) ?_
  refine lv_iconst (v := (nI 1)) hx hb dLw_law_457 (by decide) ?_
  refine lv_iadd hx hb dLw_law_458 ?_
  refine dq_top (y := nI (I + 1)) (nI_add I 1) ?_
  refine dq_sldN hx hb hX9 hbl hbA hS (k := (I + 1)) (by omega) hL dLw_law_459 ?_
  refine dq_top (y := a1) e1 ?_
  refine lv_aload_n hx hb dLw_law_460 rfl (lv_at hl 1 rfl) ?_
  refine lv_iload hx hb dLw_law_461 (lv_at hl 5 rfl) ?_
  refine lv_iconst (v := (nI 2)) hx hb dLw_law_463 (by decide) ?_
  refine lv_iadd hx hb dLw_law_464 ?_
  refine dq_top (y := nI (I + 2)) (nI_add I 2) ?_
  refine dq_sldN hx hb hX9 hbl hbA hS (k := (I + 2)) (by omega) hL dLw_law_465 ?_
  refine dq_top (y := a2) e2 ?_
  refine lv_aload_n hx hb dLw_law_466 rfl (lv_at hl 1 rfl) ?_
  refine lv_iload hx hb dLw_law_467 (lv_at hl 5 rfl) ?_
  refine lv_iconst (v := (nI 3)) hx hb dLw_law_469 (by decide) ?_
  refine lv_iadd hx hb dLw_law_470 ?_
  refine dq_top (y := nI (I + 3)) (nI_add I 3) ?_
  refine dq_sldN hx hb hX9 hbl hbA hS (k := (I + 3)) (by omega) hL dLw_law_471 ?_
  refine dq_top (y := a3) e3 ?_
  refine lv_aload_n hx hb dLw_law_472 rfl (lv_at hl 1 rfl) ?_
  refine lv_iload hx hb dLw_law_473 (lv_at hl 5 rfl) ?_
  refine lv_iconst (v := (nI 4)) hx hb dLw_law_475 (by decide) ?_
  refine lv_iadd hx hb dLw_law_476 ?_
  refine dq_top (y := nI (I + 4)) (nI_add I 4) ?_
  refine dq_sldN hx hb hX9 hbl hbA hS (k := (I + 4)) (by omega) hL dLw_law_477 ?_
  refine dq_top (y := a4) e4 ?_
  refine dq_calli (va_runV (As := [.int a1, .int a2, .int a3, .int a4]) (rest := []) ⟨hx, hb, hml, hown, hts⟩ (hM _) (cwV 4 hts (dq_giV tw4_26 tw4_27 tw4_28 tw1_10 tw4_29) rfl rfl rfl (by decide +kernel) ⟨Nat.le_of_ble_eq_true rfl, Nat.le_of_ble_eq_true rfl⟩) (dq_preV (ci := 8) hW hS hA hK hZ hm1 rfl rfl) rfl rfl hl.1 rfl (lv_room (Nat.le_of_ble_eq_true rfl)) dLw_law_478 ⟨hc.1, hc.2⟩) hW hS hA (fun r2 u_9 H locs hp2 hW hS hz9 => ?_)
  obtain ⟨h_r2, hu9⟩ := hp2
  rw [hu9] at hW
  rw [h_r2]
  refine lv_istore (lv' := [(6, .int bb), (5, .int kk), (0, .ref b), (1, .ref (ad 0)), (2, .ref (ad 100)), (3, .ref (ad 200)), (4, .int (nI I))]) hx hb dLw_law_481 hl (by decide) rfl (fun ls hl => ?_)
  refine lv_aload_n hx hb dLw_law_483 rfl (lv_at hl 4 rfl) ?_
  refine dq_calli (va_runV (As := []) (rest := []) ⟨hx, hb, hml, hown, hts⟩ (m_thrown l D g ad w2 _ kk n hn cn pl tn sg wy m100) (cwV 0 hts (dq_giV tw4_3 tw4_4 tw4_5 tw1_10 tw4_6) rfl rfl rfl (by decide +kernel) ⟨Nat.le_of_ble_eq_true rfl, Nat.le_of_ble_eq_true rfl⟩) (dq_preV (ci := 8) hW hS hA hK hZ m100 rfl rfl) rfl rfl hl.1 rfl (lv_room (Nat.le_of_ble_eq_true rfl)) dLw_law_484 ⟨hc.1, hc.2⟩) hW hS hA (fun r3 u_9 H locs hp3 hW hS hz9 => ?_)
  obtain ⟨h_r3, hu9⟩ := hp3
  rw [hu9] at hW
  rw [h_r3]
  refine lv_iload hx hb dLw_law_487 (lv_at hl 1 rfl) ?_
  refine lv_icmp_eq (tgt := 494) hx hb dLw_law_489 (by decide) (fun c1 => ?_) (fun c1 => ?_)
  · refine lv_iload hx hb dLw_law_494 (lv_at hl 1 rfl) ?_
    refine lv_if_ne (tgt := 518) hx hb dLw_law_496 (by decide) (fun c2 => ?_) (fun c2 => ?_)
    · refine lv_goto (tgt := 1145) hx hb dLw_law_518 (by decide) ?_
      exact kK _ _ _ hW hS (lv_sub hl [2, 3, 4, 5, 6] rfl)
    · obtain ⟨o200, ho2⟩ := ho c2
      refine lv_aload_n hx hb dLw_law_499 rfl (lv_at hl 5 rfl) ?_
      refine lv_iconst (v := (nI 0)) hx hb dLw_law_500 (by decide) ?_
      refine dq_laldN hx hb hK hW 200 2 o200 rfl 0 (by omega) (by omega) dLw_law_501 ?_
      refine lv_iload hx hb dLw_law_502 (lv_at hl 0 rfl) ?_
      refine lv_if_eq (tgt := 511) hx hb dLw_law_504 (by decide) (fun c3 => ?_) (fun c3 => ?_)
      · refine lv_lconst (v := 0) hx hb dLw_law_511 (by decide) ?_
        refine W.lcmp hx hb dLw_law_512 ?_
        refine lv_if_eq (tgt := 518) hx hb dLw_law_513 (by decide) (fun c4 => ?_) (fun c4 => ?_)
        · refine lv_goto (tgt := 1145) hx hb dLw_law_518 (by decide) ?_
          exact kK _ _ _ hW hS (lv_sub hl [2, 3, 4, 5, 6] rfl)
        · exact absurd (by rw [ho2, if_pos c3]; exact lg_cmp_s _) c4
      · refine lv_lconst (v := 1) hx hb dLw_law_507 (by decide) ?_
        refine lv_goto (tgt := 512) hx hb dLw_law_508 (by decide) ?_
        refine W.lcmp hx hb dLw_law_512 ?_
        refine lv_if_eq (tgt := 518) hx hb dLw_law_513 (by decide) (fun c4 => ?_) (fun c4 => ?_)
        · refine lv_goto (tgt := 1145) hx hb dLw_law_518 (by decide) ?_
          exact kK _ _ _ hW hS (lv_sub hl [2, 3, 4, 5, 6] rfl)
        · exact absurd (by rw [ho2, if_neg c3]; exact lg_cmp_s _) c4
  · exact absurd rfl c1

set_option maxHeartbeats 4000000 in
set_option maxRecDepth 100000 in
/-- the arm of mirror -/
theorem A_mirror (l : Launch) {p : Program} {e : Env} {s : State} {m : MethodId} {below : List Frame} {meth : Method} {c : Code} {A : Nat → Prop} {Q : State → Prop} {b : Nat} {c0 : Cond} {D : va_G} {g : Nat → ClassId} (hx : p.tables.exec = Jvm.exec) (hb : c.code = cLw_law) (hml : c.maxLocals = 8) (hown : s.vm.findClass RLw = some m.cls) (hts : ∀ w ∈ c0 :: dq_G, w.before ([.ref b] : List Value).toArray s = true) (hA : ∀ q, s.heap.size ≤ q → A q) (hK : va_K D vwCl (dq_t g) s) (hZ : dq_Z A s s.heap) {L : Nat} {xs : Nat → Int32} (hX9 : va_X b L xs s s.heap) (hbl : b < s.heap.size) (hbA : ¬ A b) (hL : L < 2 ^ 31) {I : Nat} (hI : I + 5 < L) (ad : Nat → Nat) (w : Nat → Option va_E) {kk : Int32} {mc ms : Nat} {bb : Int32} {w1 w2 : Nat → Option va_E} {fs1 : List Value} {n hn cn : Nat} {pl : Int32} {tn : Nat} {sg : Int32} {wy : Int64} {o9 : Nat → Int64} {a1 : Int32} (e1 : xs (I + 1) = a1) (hH : ∀ sz : Nat, Met l yLw_mirror wsLw_mirror ({ frames := 9, cells := mc, slots := ms, locals := 180 } : Room) (va_Pc [.ref (ad 0), .int a1, .ref (ad 200)] (dq_S D vwCl (dq_t g) ad w sz)) (va_Qi (fun r u => r = kk ∧ u = w1) (dq_B D vwCl (dq_t g) ad (dq_A ad w sz)) (dq_A ad w sz)) mc ms (dq_A ad w sz)) (hM : ∀ sz : Nat, Met l yMo_mirror wsMo_mirror ({ frames := 1, cells := 0, slots := 0, locals := 24 } : Room) (va_Pc [.ref (ad 100), .int a1] (dq_S D vwCl (dq_t g) ad w1 sz)) (va_Qi (fun r u => r = bb ∧ u = w2) (dq_B D vwCl (dq_t g) ad (dq_A ad w1 sz)) (dq_A ad w1 sz)) 0 0 (dq_A ad w1 sz)) (hm1 : w1 100 = some (.inr (8, fs1))) (m100 : w2 100 = some (.inr (8, [.int kk, .int (nI n), .ref (ad 102), .ref (ad 103), .ref (ad 104), .int (nI hn), .ref (ad 106), .ref (ad 107), .ref (ad 108), .ref (ad 109), .ref (ad 110), .ref (ad 111), .int (nI cn), .ref (ad 113), .int pl, .int (nI tn), .ref (ad 116), .ref (ad 117), .ref (ad 118), .ref (ad 119), .int sg, .ref (ad 121), .long wy, .ref (ad 123), .ref (ad 124), .ref (ad 125), .ref (ad 126), .ref (ad 127), .ref (ad 128)]))) (ho : kk = 0 → w2 200 = some (.inl (g 2, 1, .inr (.inl o9))) ∧ o9 0 = bb.toInt64) {H : Heap} {locs : List Loc} {ls : Array Slot} {cells slots : Nat} (hW : dq_W D vwCl ad w A H) (hS : va_S A s.heap H locs) (hl : lv_has ls 8 [(0, .ref b), (1, .ref (ad 0)), (2, .ref (ad 100)), (3, .ref (ad 200)), (4, .int (nI I))]) (hc : cells + mc ≤ room_1.cells ∧ slots + ms ≤ room_1.slots) (kK : ∀ (H : Heap) (locs : List Loc) (ls : Array Slot), dq_W D vwCl ad w2 A H → va_S A s.heap H locs → lv_has ls 8 [(0, .ref b), (1, .ref (ad 0)), (2, .ref (ad 100)), (3, .ref (ad 200)), (4, .int (nI I))] → W p l e room_1 s m ([.ref b] : List Value).toArray below meth c H locs (cells + mc) (slots + ms) Q (F0 m 1145 ls [])) : W p l e room_1 s m ([.ref b] : List Value).toArray below meth c H locs cells slots Q (F0 m 521 ls []) := by
  refine lv_aload_n hx hb dLw_law_521 rfl (lv_at hl 1 rfl) ?_
  refine lv_aload_n hx hb dLw_law_522 rfl (lv_at hl 0 rfl) ?_
  refine lv_iload hx hb dLw_law_523 (lv_at hl 4 rfl) ?_
  refine lv_iconst (v := (nI 1)) hx hb dLw_law_525 (by decide) ?_
  refine lv_iadd hx hb dLw_law_526 ?_
  refine dq_top (y := nI (I + 1)) (nI_add I 1) ?_
  refine dq_sldN hx hb hX9 hbl hbA hS (k := (I + 1)) (by omega) hL dLw_law_527 ?_
  refine dq_top (y := a1) e1 ?_
  refine lv_aload_n hx hb dLw_law_528 rfl (lv_at hl 3 rfl) ?_
  refine dq_calli (dx_runSW (As := [.ref (ad 0), .int a1, .ref (ad 200)]) (rest := []) ⟨hx, hb, hml, hown, hts⟩ (hH _) (dx_cwS 3 hts (dq_giS2 tw3_39 tw3_40 tw1_0 tw3_41) rfl rfl rfl (by decide +kernel) ⟨Nat.le_of_ble_eq_true rfl, Nat.le_of_ble_eq_true rfl⟩) (dq_preS hW hS hA hK hZ) rfl rfl hl.1 rfl (lv_room (Nat.le_of_ble_eq_true rfl)) dLw_law_529 ⟨hc.1, hc.2⟩) hW hS hA (fun r1 u_9 H locs hp1 hW hS hz9 => ?_)
  obtain ⟨h_r1, hu9⟩ := hp1
  rw [hu9] at hW
  rw [h_r1]
  refine lv_istore (lv' := [(5, .int kk), (0, .ref b), (1, .ref (ad 0)), (2, .ref (ad 100)), (3, .ref (ad 200)), (4, .int (nI I))]) hx hb dLw_law_532 hl (by decide) rfl (fun ls hl => ?_)
  refine lv_aload_n hx hb dLw_law_534 rfl (lv_at hl 3 rfl) ?_
  refine lv_aload_n hx hb dLw_law_535 rfl (lv_at hl 1 rfl) ?_
  refine lv_iload hx hb dLw_law_536 (lv_at hl 5 rfl) ?_
  refine lv_iconst (v := (nI 1)) hx hb dLw_law_538 (by decide) ?_
  refine lv_iadd hx hb dLw_law_539 ?_
  refine dq_top (y := nI (I + 1)) (nI_add I 1) ?_
  refine dq_sldN hx hb hX9 hbl hbA hS (k := (I + 1)) (by omega) hL dLw_law_540 ?_
  refine dq_top (y := a1) e1 ?_
  refine dq_calli (va_runV (As := [.int a1]) (rest := []) ⟨hx, hb, hml, hown, hts⟩ (hM _) (cwV 1 hts (dq_giV tw4_30 tw4_31 tw4_32 tw1_10 tw4_33) rfl rfl rfl (by decide +kernel) ⟨Nat.le_of_ble_eq_true rfl, Nat.le_of_ble_eq_true rfl⟩) (dq_preV (ci := 8) hW hS hA hK hZ hm1 rfl rfl) rfl rfl hl.1 rfl (lv_room (Nat.le_of_ble_eq_true rfl)) dLw_law_541 ⟨hc.1, hc.2⟩) hW hS hA (fun r2 u_9 H locs hp2 hW hS hz9 => ?_)
  obtain ⟨h_r2, hu9⟩ := hp2
  rw [hu9] at hW
  rw [h_r2]
  refine lv_istore (lv' := [(6, .int bb), (5, .int kk), (0, .ref b), (1, .ref (ad 0)), (2, .ref (ad 100)), (3, .ref (ad 200)), (4, .int (nI I))]) hx hb dLw_law_544 hl (by decide) rfl (fun ls hl => ?_)
  refine lv_aload_n hx hb dLw_law_546 rfl (lv_at hl 4 rfl) ?_
  refine dq_calli (va_runV (As := []) (rest := []) ⟨hx, hb, hml, hown, hts⟩ (m_thrown l D g ad w2 _ kk n hn cn pl tn sg wy m100) (cwV 0 hts (dq_giV tw4_3 tw4_4 tw4_5 tw1_10 tw4_6) rfl rfl rfl (by decide +kernel) ⟨Nat.le_of_ble_eq_true rfl, Nat.le_of_ble_eq_true rfl⟩) (dq_preV (ci := 8) hW hS hA hK hZ m100 rfl rfl) rfl rfl hl.1 rfl (lv_room (Nat.le_of_ble_eq_true rfl)) dLw_law_547 ⟨hc.1, hc.2⟩) hW hS hA (fun r3 u_9 H locs hp3 hW hS hz9 => ?_)
  obtain ⟨h_r3, hu9⟩ := hp3
  rw [hu9] at hW
  rw [h_r3]
  refine lv_iload hx hb dLw_law_550 (lv_at hl 1 rfl) ?_
  refine lv_icmp_eq (tgt := 557) hx hb dLw_law_552 (by decide) (fun c1 => ?_) (fun c1 => ?_)
  · refine lv_iload hx hb dLw_law_557 (lv_at hl 1 rfl) ?_
    refine lv_if_ne (tgt := 574) hx hb dLw_law_559 (by decide) (fun c2 => ?_) (fun c2 => ?_)
    · refine lv_goto (tgt := 1145) hx hb dLw_law_574 (by decide) ?_
      exact kK _ _ _ hW hS (lv_sub hl [2, 3, 4, 5, 6] rfl)
    · obtain ⟨o200, ho2⟩ := ho c2
      refine lv_aload_n hx hb dLw_law_562 rfl (lv_at hl 5 rfl) ?_
      refine lv_iconst (v := (nI 0)) hx hb dLw_law_563 (by decide) ?_
      refine dq_laldN hx hb hK hW 200 2 o200 rfl 0 (by omega) (by omega) dLw_law_564 ?_
      refine lv_iload hx hb dLw_law_565 (lv_at hl 0 rfl) ?_
      refine lv_i2l hx hb dLw_law_567 rfl ?_
      refine W.lcmp hx hb dLw_law_568 ?_
      refine lv_if_eq (tgt := 574) hx hb dLw_law_569 (by decide) (fun c4 => ?_) (fun c4 => ?_)
      · refine lv_goto (tgt := 1145) hx hb dLw_law_574 (by decide) ?_
        exact kK _ _ _ hW hS (lv_sub hl [2, 3, 4, 5, 6] rfl)
      · exact absurd (by rw [ho2]; exact lg_cmp_s _) c4
  · exact absurd rfl c1

set_option maxHeartbeats 4000000 in
set_option maxRecDepth 100000 in
/-- the arm of hit -/
theorem A_hit (l : Launch) {p : Program} {e : Env} {s : State} {m : MethodId} {below : List Frame} {meth : Method} {c : Code} {A : Nat → Prop} {Q : State → Prop} {b : Nat} {c0 : Cond} {D : va_G} {g : Nat → ClassId} (hx : p.tables.exec = Jvm.exec) (hb : c.code = cLw_law) (hml : c.maxLocals = 8) (hown : s.vm.findClass RLw = some m.cls) (hts : ∀ w ∈ c0 :: dq_G, w.before ([.ref b] : List Value).toArray s = true) (hA : ∀ q, s.heap.size ≤ q → A q) (hK : va_K D vwCl (dq_t g) s) (hZ : dq_Z A s s.heap) {L : Nat} {xs : Nat → Int32} (hX9 : va_X b L xs s s.heap) (hbl : b < s.heap.size) (hbA : ¬ A b) (hL : L < 2 ^ 31) {I : Nat} (hI : I + 5 < L) (ad : Nat → Nat) (w : Nat → Option va_E) {kk : Int32} {mc ms : Nat} {bb : Int32} {w1 w2 : Nat → Option va_E} {fs1 : List Value} {n hn cn : Nat} {pl : Int32} {tn : Nat} {sg : Int32} {wy : Int64} {o9 : Nat → Int64} {a1 : Int32} (e1 : xs (I + 1) = a1) {a2 : Int32} (e2 : xs (I + 2) = a2) (hH : ∀ sz : Nat, Met l yLw_hit wsLw_hit ({ frames := 9, cells := mc, slots := ms, locals := 180 } : Room) (va_Pc [.ref (ad 0), .int a1, .int a2, .ref (ad 200)] (dq_S D vwCl (dq_t g) ad w sz)) (va_Qi (fun r u => r = kk ∧ u = w1) (dq_B D vwCl (dq_t g) ad (dq_A ad w sz)) (dq_A ad w sz)) mc ms (dq_A ad w sz)) (hM : ∀ sz : Nat, Met l yMo_hit wsMo_hit ({ frames := 2, cells := 0, slots := 0, locals := 50 } : Room) (va_Pc [.ref (ad 100), .int a1, .int a2] (dq_S D vwCl (dq_t g) ad w1 sz)) (va_Qi (fun r u => r = bb ∧ u = w2) (dq_B D vwCl (dq_t g) ad (dq_A ad w1 sz)) (dq_A ad w1 sz)) 0 0 (dq_A ad w1 sz)) (hm1 : w1 100 = some (.inr (8, fs1))) (m100 : w2 100 = some (.inr (8, [.int kk, .int (nI n), .ref (ad 102), .ref (ad 103), .ref (ad 104), .int (nI hn), .ref (ad 106), .ref (ad 107), .ref (ad 108), .ref (ad 109), .ref (ad 110), .ref (ad 111), .int (nI cn), .ref (ad 113), .int pl, .int (nI tn), .ref (ad 116), .ref (ad 117), .ref (ad 118), .ref (ad 119), .int sg, .ref (ad 121), .long wy, .ref (ad 123), .ref (ad 124), .ref (ad 125), .ref (ad 126), .ref (ad 127), .ref (ad 128)]))) (ho : kk = 0 → w2 200 = some (.inl (g 2, 1, .inr (.inl o9))) ∧ o9 0 = bb.toInt64) {H : Heap} {locs : List Loc} {ls : Array Slot} {cells slots : Nat} (hW : dq_W D vwCl ad w A H) (hS : va_S A s.heap H locs) (hl : lv_has ls 8 [(0, .ref b), (1, .ref (ad 0)), (2, .ref (ad 100)), (3, .ref (ad 200)), (4, .int (nI I))]) (hc : cells + mc ≤ room_1.cells ∧ slots + ms ≤ room_1.slots) (kK : ∀ (H : Heap) (locs : List Loc) (ls : Array Slot), dq_W D vwCl ad w2 A H → va_S A s.heap H locs → lv_has ls 8 [(0, .ref b), (1, .ref (ad 0)), (2, .ref (ad 100)), (3, .ref (ad 200)), (4, .int (nI I))] → W p l e room_1 s m ([.ref b] : List Value).toArray below meth c H locs (cells + mc) (slots + ms) Q (F0 m 1145 ls [])) : W p l e room_1 s m ([.ref b] : List Value).toArray below meth c H locs cells slots Q (F0 m 590 ls []) := by
  refine lv_aload_n hx hb dLw_law_590 rfl (lv_at hl 1 rfl) ?_
  refine lv_aload_n hx hb dLw_law_591 rfl (lv_at hl 0 rfl) ?_
  refine lv_iload hx hb dLw_law_592 (lv_at hl 4 rfl) ?_
  refine lv_iconst (v := (nI 1)) hx hb dLw_law_594 (by decide) ?_
  refine lv_iadd hx hb dLw_law_595 ?_
  refine dq_top (y := nI (I + 1)) (nI_add I 1) ?_
  refine dq_sldN hx hb hX9 hbl hbA hS (k := (I + 1)) (by omega) hL dLw_law_596 ?_
  refine dq_top (y := a1) e1 ?_
  refine lv_aload_n hx hb dLw_law_597 rfl (lv_at hl 0 rfl) ?_
  refine lv_iload hx hb dLw_law_598 (lv_at hl 4 rfl) ?_
  refine lv_iconst (v := (nI 2)) hx hb dLw_law_600 (by decide) ?_
  refine lv_iadd hx hb dLw_law_601 ?_
  refine dq_top (y := nI (I + 2)) (nI_add I 2) ?_
  refine dq_sldN hx hb hX9 hbl hbA hS (k := (I + 2)) (by omega) hL dLw_law_602 ?_
  refine dq_top (y := a2) e2 ?_
  refine lv_aload_n hx hb dLw_law_603 rfl (lv_at hl 3 rfl) ?_
  refine dq_calli (dx_runSW (As := [.ref (ad 0), .int a1, .int a2, .ref (ad 200)]) (rest := []) ⟨hx, hb, hml, hown, hts⟩ (hH _) (dx_cwS 4 hts (dq_giS2 tw3_49 tw3_50 tw1_0 tw3_51) rfl rfl rfl (by decide +kernel) ⟨Nat.le_of_ble_eq_true rfl, Nat.le_of_ble_eq_true rfl⟩) (dq_preS hW hS hA hK hZ) rfl rfl hl.1 rfl (lv_room (Nat.le_of_ble_eq_true rfl)) dLw_law_604 ⟨hc.1, hc.2⟩) hW hS hA (fun r1 u_9 H locs hp1 hW hS hz9 => ?_)
  obtain ⟨h_r1, hu9⟩ := hp1
  rw [hu9] at hW
  rw [h_r1]
  refine lv_istore (lv' := [(5, .int kk), (0, .ref b), (1, .ref (ad 0)), (2, .ref (ad 100)), (3, .ref (ad 200)), (4, .int (nI I))]) hx hb dLw_law_607 hl (by decide) rfl (fun ls hl => ?_)
  refine lv_aload_n hx hb dLw_law_609 rfl (lv_at hl 3 rfl) ?_
  refine lv_aload_n hx hb dLw_law_610 rfl (lv_at hl 1 rfl) ?_
  refine lv_iload hx hb dLw_law_611 (lv_at hl 5 rfl) ?_
  refine lv_iconst (v := (nI 1)) hx hb dLw_law_613 (by decide) ?_
  refine lv_iadd hx hb dLw_law_614 ?_
  refine dq_top (y := nI (I + 1)) (nI_add I 1) ?_
  refine dq_sldN hx hb hX9 hbl hbA hS (k := (I + 1)) (by omega) hL dLw_law_615 ?_
  refine dq_top (y := a1) e1 ?_
  refine lv_aload_n hx hb dLw_law_616 rfl (lv_at hl 1 rfl) ?_
  refine lv_iload hx hb dLw_law_617 (lv_at hl 5 rfl) ?_
  refine lv_iconst (v := (nI 2)) hx hb dLw_law_619 (by decide) ?_
  refine lv_iadd hx hb dLw_law_620 ?_
  refine dq_top (y := nI (I + 2)) (nI_add I 2) ?_
  refine dq_sldN hx hb hX9 hbl hbA hS (k := (I + 2)) (by omega) hL dLw_law_621 ?_
  refine dq_top (y := a2) e2 ?_
  refine dq_calli (va_runV (As := [.int a1, .int a2]) (rest := []) ⟨hx, hb, hml, hown, hts⟩ (hM _) (cwV 2 hts (dq_giV tw4_83 tw4_84 tw4_85 tw1_10 tw4_86) rfl rfl rfl (by decide +kernel) ⟨Nat.le_of_ble_eq_true rfl, Nat.le_of_ble_eq_true rfl⟩) (dq_preV (ci := 8) hW hS hA hK hZ hm1 rfl rfl) rfl rfl hl.1 rfl (lv_room (Nat.le_of_ble_eq_true rfl)) dLw_law_622 ⟨hc.1, hc.2⟩) hW hS hA (fun r2 u_9 H locs hp2 hW hS hz9 => ?_)
  obtain ⟨h_r2, hu9⟩ := hp2
  rw [hu9] at hW
  rw [h_r2]
  refine lv_istore (lv' := [(6, .int bb), (5, .int kk), (0, .ref b), (1, .ref (ad 0)), (2, .ref (ad 100)), (3, .ref (ad 200)), (4, .int (nI I))]) hx hb dLw_law_625 hl (by decide) rfl (fun ls hl => ?_)
  refine lv_aload_n hx hb dLw_law_627 rfl (lv_at hl 4 rfl) ?_
  refine dq_calli (va_runV (As := []) (rest := []) ⟨hx, hb, hml, hown, hts⟩ (m_thrown l D g ad w2 _ kk n hn cn pl tn sg wy m100) (cwV 0 hts (dq_giV tw4_3 tw4_4 tw4_5 tw1_10 tw4_6) rfl rfl rfl (by decide +kernel) ⟨Nat.le_of_ble_eq_true rfl, Nat.le_of_ble_eq_true rfl⟩) (dq_preV (ci := 8) hW hS hA hK hZ m100 rfl rfl) rfl rfl hl.1 rfl (lv_room (Nat.le_of_ble_eq_true rfl)) dLw_law_628 ⟨hc.1, hc.2⟩) hW hS hA (fun r3 u_9 H locs hp3 hW hS hz9 => ?_)
  obtain ⟨h_r3, hu9⟩ := hp3
  rw [hu9] at hW
  rw [h_r3]
  refine lv_iload hx hb dLw_law_631 (lv_at hl 1 rfl) ?_
  refine lv_icmp_eq (tgt := 638) hx hb dLw_law_633 (by decide) (fun c1 => ?_) (fun c1 => ?_)
  · refine lv_iload hx hb dLw_law_638 (lv_at hl 1 rfl) ?_
    refine lv_if_ne (tgt := 655) hx hb dLw_law_640 (by decide) (fun c2 => ?_) (fun c2 => ?_)
    · refine lv_goto (tgt := 1145) hx hb dLw_law_655 (by decide) ?_
      exact kK _ _ _ hW hS (lv_sub hl [2, 3, 4, 5, 6] rfl)
    · obtain ⟨o200, ho2⟩ := ho c2
      refine lv_aload_n hx hb dLw_law_643 rfl (lv_at hl 5 rfl) ?_
      refine lv_iconst (v := (nI 0)) hx hb dLw_law_644 (by decide) ?_
      refine dq_laldN hx hb hK hW 200 2 o200 rfl 0 (by omega) (by omega) dLw_law_645 ?_
      refine lv_iload hx hb dLw_law_646 (lv_at hl 0 rfl) ?_
      refine lv_i2l hx hb dLw_law_648 rfl ?_
      refine W.lcmp hx hb dLw_law_649 ?_
      refine lv_if_eq (tgt := 655) hx hb dLw_law_650 (by decide) (fun c4 => ?_) (fun c4 => ?_)
      · refine lv_goto (tgt := 1145) hx hb dLw_law_655 (by decide) ?_
        exact kK _ _ _ hW hS (lv_sub hl [2, 3, 4, 5, 6] rfl)
      · exact absurd (by rw [ho2]; exact lg_cmp_s _) c4
  · exact absurd rfl c1

set_option maxHeartbeats 4000000 in
set_option maxRecDepth 100000 in
/-- the arm of drills -/
theorem A_drills (l : Launch) {p : Program} {e : Env} {s : State} {m : MethodId} {below : List Frame} {meth : Method} {c : Code} {A : Nat → Prop} {Q : State → Prop} {b : Nat} {c0 : Cond} {D : va_G} {g : Nat → ClassId} (hx : p.tables.exec = Jvm.exec) (hb : c.code = cLw_law) (hml : c.maxLocals = 8) (hown : s.vm.findClass RLw = some m.cls) (hts : ∀ w ∈ c0 :: dq_G, w.before ([.ref b] : List Value).toArray s = true) (hA : ∀ q, s.heap.size ≤ q → A q) (hK : va_K D vwCl (dq_t g) s) (hZ : dq_Z A s s.heap) {L : Nat} {xs : Nat → Int32} (hX9 : va_X b L xs s s.heap) (hbl : b < s.heap.size) (hbA : ¬ A b) (hL : L < 2 ^ 31) {I : Nat} (hI : I + 5 < L) (ad : Nat → Nat) (w : Nat → Option va_E) {kk : Int32} {mc ms : Nat} {bb : Int32} {w1 w2 : Nat → Option va_E} {fs1 : List Value} {n hn cn : Nat} {pl : Int32} {tn : Nat} {sg : Int32} {wy : Int64} {o9 : Nat → Int64} {a1 : Int32} (e1 : xs (I + 1) = a1) {a2 : Int32} (e2 : xs (I + 2) = a2) (hH : ∀ sz : Nat, Met l yLw_drills wsLw_drills ({ frames := 9, cells := mc, slots := ms, locals := 180 } : Room) (va_Pc [.ref (ad 0), .int a1, .int a2, .ref (ad 200)] (dq_S D vwCl (dq_t g) ad w sz)) (va_Qi (fun r u => r = kk ∧ u = w1) (dq_B D vwCl (dq_t g) ad (dq_A ad w sz)) (dq_A ad w sz)) mc ms (dq_A ad w sz)) (hM : ∀ sz : Nat, Met l yMo_drills wsMo_drills ({ frames := 2, cells := 0, slots := 0, locals := 50 } : Room) (va_Pc [.ref (ad 100), .int a1, .int a2] (dq_S D vwCl (dq_t g) ad w1 sz)) (va_Qi (fun r u => r = bb ∧ u = w2) (dq_B D vwCl (dq_t g) ad (dq_A ad w1 sz)) (dq_A ad w1 sz)) 0 0 (dq_A ad w1 sz)) (hm1 : w1 100 = some (.inr (8, fs1))) (m100 : w2 100 = some (.inr (8, [.int kk, .int (nI n), .ref (ad 102), .ref (ad 103), .ref (ad 104), .int (nI hn), .ref (ad 106), .ref (ad 107), .ref (ad 108), .ref (ad 109), .ref (ad 110), .ref (ad 111), .int (nI cn), .ref (ad 113), .int pl, .int (nI tn), .ref (ad 116), .ref (ad 117), .ref (ad 118), .ref (ad 119), .int sg, .ref (ad 121), .long wy, .ref (ad 123), .ref (ad 124), .ref (ad 125), .ref (ad 126), .ref (ad 127), .ref (ad 128)]))) (ho : kk = 0 → w2 200 = some (.inl (g 2, 1, .inr (.inl o9))) ∧ o9 0 = (if bb = 0 then 0 else 1)) {H : Heap} {locs : List Loc} {ls : Array Slot} {cells slots : Nat} (hW : dq_W D vwCl ad w A H) (hS : va_S A s.heap H locs) (hl : lv_has ls 8 [(0, .ref b), (1, .ref (ad 0)), (2, .ref (ad 100)), (3, .ref (ad 200)), (4, .int (nI I))]) (hc : cells + mc ≤ room_1.cells ∧ slots + ms ≤ room_1.slots) (kK : ∀ (H : Heap) (locs : List Loc) (ls : Array Slot), dq_W D vwCl ad w2 A H → va_S A s.heap H locs → lv_has ls 8 [(0, .ref b), (1, .ref (ad 0)), (2, .ref (ad 100)), (3, .ref (ad 200)), (4, .int (nI I))] → W p l e room_1 s m ([.ref b] : List Value).toArray below meth c H locs (cells + mc) (slots + ms) Q (F0 m 1145 ls [])) : W p l e room_1 s m ([.ref b] : List Value).toArray below meth c H locs cells slots Q (F0 m 658 ls []) := by
  refine lv_aload_n hx hb dLw_law_658 rfl (lv_at hl 1 rfl) ?_
  refine lv_aload_n hx hb dLw_law_659 rfl (lv_at hl 0 rfl) ?_
  refine lv_iload hx hb dLw_law_660 (lv_at hl 4 rfl) ?_
  refine lv_iconst (v := (nI 1)) hx hb dLw_law_662 (by decide) ?_
  refine lv_iadd hx hb dLw_law_663 ?_
  refine dq_top (y := nI (I + 1)) (nI_add I 1) ?_
  refine dq_sldN hx hb hX9 hbl hbA hS (k := (I + 1)) (by omega) hL dLw_law_664 ?_
  refine dq_top (y := a1) e1 ?_
  refine lv_aload_n hx hb dLw_law_665 rfl (lv_at hl 0 rfl) ?_
  refine lv_iload hx hb dLw_law_666 (lv_at hl 4 rfl) ?_
  refine lv_iconst (v := (nI 2)) hx hb dLw_law_668 (by decide) ?_
  refine lv_iadd hx hb dLw_law_669 ?_
  refine dq_top (y := nI (I + 2)) (nI_add I 2) ?_
  refine dq_sldN hx hb hX9 hbl hbA hS (k := (I + 2)) (by omega) hL dLw_law_670 ?_
  refine dq_top (y := a2) e2 ?_
  refine lv_aload_n hx hb dLw_law_671 rfl (lv_at hl 3 rfl) ?_
  refine dq_calli (dx_runSW (As := [.ref (ad 0), .int a1, .int a2, .ref (ad 200)]) (rest := []) ⟨hx, hb, hml, hown, hts⟩ (hH _) (dx_cwS 4 hts (dq_giS2 tw3_67 tw3_68 tw1_0 tw3_69) rfl rfl rfl (by decide +kernel) ⟨Nat.le_of_ble_eq_true rfl, Nat.le_of_ble_eq_true rfl⟩) (dq_preS hW hS hA hK hZ) rfl rfl hl.1 rfl (lv_room (Nat.le_of_ble_eq_true rfl)) dLw_law_672 ⟨hc.1, hc.2⟩) hW hS hA (fun r1 u_9 H locs hp1 hW hS hz9 => ?_)
  obtain ⟨h_r1, hu9⟩ := hp1
  rw [hu9] at hW
  rw [h_r1]
  refine lv_istore (lv' := [(5, .int kk), (0, .ref b), (1, .ref (ad 0)), (2, .ref (ad 100)), (3, .ref (ad 200)), (4, .int (nI I))]) hx hb dLw_law_675 hl (by decide) rfl (fun ls hl => ?_)
  refine lv_aload_n hx hb dLw_law_677 rfl (lv_at hl 3 rfl) ?_
  refine lv_aload_n hx hb dLw_law_678 rfl (lv_at hl 1 rfl) ?_
  refine lv_iload hx hb dLw_law_679 (lv_at hl 5 rfl) ?_
  refine lv_iconst (v := (nI 1)) hx hb dLw_law_681 (by decide) ?_
  refine lv_iadd hx hb dLw_law_682 ?_
  refine dq_top (y := nI (I + 1)) (nI_add I 1) ?_
  refine dq_sldN hx hb hX9 hbl hbA hS (k := (I + 1)) (by omega) hL dLw_law_683 ?_
  refine dq_top (y := a1) e1 ?_
  refine lv_aload_n hx hb dLw_law_684 rfl (lv_at hl 1 rfl) ?_
  refine lv_iload hx hb dLw_law_685 (lv_at hl 5 rfl) ?_
  refine lv_iconst (v := (nI 2)) hx hb dLw_law_687 (by decide) ?_
  refine lv_iadd hx hb dLw_law_688 ?_
  refine dq_top (y := nI (I + 2)) (nI_add I 2) ?_
  refine dq_sldN hx hb hX9 hbl hbA hS (k := (I + 2)) (by omega) hL dLw_law_689 ?_
  refine dq_top (y := a2) e2 ?_
  refine dq_calli (va_runV (As := [.int a1, .int a2]) (rest := []) ⟨hx, hb, hml, hown, hts⟩ (hM _) (cwV 2 hts (dq_giV tw4_91 tw4_92 tw4_93 tw1_10 tw4_94) rfl rfl rfl (by decide +kernel) ⟨Nat.le_of_ble_eq_true rfl, Nat.le_of_ble_eq_true rfl⟩) (dq_preV (ci := 8) hW hS hA hK hZ hm1 rfl rfl) rfl rfl hl.1 rfl (lv_room (Nat.le_of_ble_eq_true rfl)) dLw_law_690 ⟨hc.1, hc.2⟩) hW hS hA (fun r2 u_9 H locs hp2 hW hS hz9 => ?_)
  obtain ⟨h_r2, hu9⟩ := hp2
  rw [hu9] at hW
  rw [h_r2]
  refine lv_istore (lv' := [(6, .int bb), (5, .int kk), (0, .ref b), (1, .ref (ad 0)), (2, .ref (ad 100)), (3, .ref (ad 200)), (4, .int (nI I))]) hx hb dLw_law_693 hl (by decide) rfl (fun ls hl => ?_)
  refine lv_aload_n hx hb dLw_law_695 rfl (lv_at hl 4 rfl) ?_
  refine dq_calli (va_runV (As := []) (rest := []) ⟨hx, hb, hml, hown, hts⟩ (m_thrown l D g ad w2 _ kk n hn cn pl tn sg wy m100) (cwV 0 hts (dq_giV tw4_3 tw4_4 tw4_5 tw1_10 tw4_6) rfl rfl rfl (by decide +kernel) ⟨Nat.le_of_ble_eq_true rfl, Nat.le_of_ble_eq_true rfl⟩) (dq_preV (ci := 8) hW hS hA hK hZ m100 rfl rfl) rfl rfl hl.1 rfl (lv_room (Nat.le_of_ble_eq_true rfl)) dLw_law_696 ⟨hc.1, hc.2⟩) hW hS hA (fun r3 u_9 H locs hp3 hW hS hz9 => ?_)
  obtain ⟨h_r3, hu9⟩ := hp3
  rw [hu9] at hW
  rw [h_r3]
  refine lv_iload hx hb dLw_law_699 (lv_at hl 1 rfl) ?_
  refine lv_icmp_eq (tgt := 706) hx hb dLw_law_701 (by decide) (fun c1 => ?_) (fun c1 => ?_)
  · refine lv_iload hx hb dLw_law_706 (lv_at hl 1 rfl) ?_
    refine lv_if_ne (tgt := 730) hx hb dLw_law_708 (by decide) (fun c2 => ?_) (fun c2 => ?_)
    · refine lv_goto (tgt := 1145) hx hb dLw_law_730 (by decide) ?_
      exact kK _ _ _ hW hS (lv_sub hl [2, 3, 4, 5, 6] rfl)
    · obtain ⟨o200, ho2⟩ := ho c2
      refine lv_aload_n hx hb dLw_law_711 rfl (lv_at hl 5 rfl) ?_
      refine lv_iconst (v := (nI 0)) hx hb dLw_law_712 (by decide) ?_
      refine dq_laldN hx hb hK hW 200 2 o200 rfl 0 (by omega) (by omega) dLw_law_713 ?_
      refine lv_iload hx hb dLw_law_714 (lv_at hl 0 rfl) ?_
      refine lv_if_eq (tgt := 723) hx hb dLw_law_716 (by decide) (fun c3 => ?_) (fun c3 => ?_)
      · refine lv_lconst (v := 0) hx hb dLw_law_723 (by decide) ?_
        refine W.lcmp hx hb dLw_law_724 ?_
        refine lv_if_eq (tgt := 730) hx hb dLw_law_725 (by decide) (fun c4 => ?_) (fun c4 => ?_)
        · refine lv_goto (tgt := 1145) hx hb dLw_law_730 (by decide) ?_
          exact kK _ _ _ hW hS (lv_sub hl [2, 3, 4, 5, 6] rfl)
        · exact absurd (by rw [ho2, if_pos c3]; exact lg_cmp_s _) c4
      · refine lv_lconst (v := 1) hx hb dLw_law_719 (by decide) ?_
        refine lv_goto (tgt := 724) hx hb dLw_law_720 (by decide) ?_
        refine W.lcmp hx hb dLw_law_724 ?_
        refine lv_if_eq (tgt := 730) hx hb dLw_law_725 (by decide) (fun c4 => ?_) (fun c4 => ?_)
        · refine lv_goto (tgt := 1145) hx hb dLw_law_730 (by decide) ?_
          exact kK _ _ _ hW hS (lv_sub hl [2, 3, 4, 5, 6] rfl)
        · exact absurd (by rw [ho2, if_neg c3]; exact lg_cmp_s _) c4
  · exact absurd rfl c1

set_option maxHeartbeats 4000000 in
set_option maxRecDepth 100000 in
/-- the arm of by -/
theorem A_by (l : Launch) {p : Program} {e : Env} {s : State} {m : MethodId} {below : List Frame} {meth : Method} {c : Code} {A : Nat → Prop} {Q : State → Prop} {b : Nat} {c0 : Cond} {D : va_G} {g : Nat → ClassId} (hx : p.tables.exec = Jvm.exec) (hb : c.code = cLw_law) (hml : c.maxLocals = 8) (hown : s.vm.findClass RLw = some m.cls) (hts : ∀ w ∈ c0 :: dq_G, w.before ([.ref b] : List Value).toArray s = true) (hA : ∀ q, s.heap.size ≤ q → A q) (hK : va_K D vwCl (dq_t g) s) (hZ : dq_Z A s s.heap) {L : Nat} {xs : Nat → Int32} (hX9 : va_X b L xs s s.heap) (hbl : b < s.heap.size) (hbA : ¬ A b) (hL : L < 2 ^ 31) {I : Nat} (hI : I + 5 < L) (ad : Nat → Nat) (w : Nat → Option va_E) {kk : Int32} {mc ms : Nat} {bb : Int32} {w1 w2 : Nat → Option va_E} {fs1 : List Value} {n hn cn : Nat} {pl : Int32} {tn : Nat} {sg : Int32} {wy : Int64} {o9 : Nat → Int64} {a1 : Int32} (e1 : xs (I + 1) = a1) (hH : ∀ sz : Nat, Met l yLw_by wsLw_by ({ frames := 9, cells := mc, slots := ms, locals := 180 } : Room) (va_Pc [.ref (ad 0), .int a1, .ref (ad 200)] (dq_S D vwCl (dq_t g) ad w sz)) (va_Qi (fun r u => r = kk ∧ u = w1) (dq_B D vwCl (dq_t g) ad (dq_A ad w sz)) (dq_A ad w sz)) mc ms (dq_A ad w sz)) (hM : ∀ sz : Nat, Met l yMo_by wsMo_by ({ frames := 2, cells := 0, slots := 0, locals := 50 } : Room) (va_Pc [.ref (ad 100), .int a1] (dq_S D vwCl (dq_t g) ad w1 sz)) (va_Qi (fun r u => r = bb ∧ u = w2) (dq_B D vwCl (dq_t g) ad (dq_A ad w1 sz)) (dq_A ad w1 sz)) 0 0 (dq_A ad w1 sz)) (hm1 : w1 100 = some (.inr (8, fs1))) (m100 : w2 100 = some (.inr (8, [.int kk, .int (nI n), .ref (ad 102), .ref (ad 103), .ref (ad 104), .int (nI hn), .ref (ad 106), .ref (ad 107), .ref (ad 108), .ref (ad 109), .ref (ad 110), .ref (ad 111), .int (nI cn), .ref (ad 113), .int pl, .int (nI tn), .ref (ad 116), .ref (ad 117), .ref (ad 118), .ref (ad 119), .int sg, .ref (ad 121), .long wy, .ref (ad 123), .ref (ad 124), .ref (ad 125), .ref (ad 126), .ref (ad 127), .ref (ad 128)]))) (ho : kk = 0 → w2 200 = some (.inl (g 2, 1, .inr (.inl o9))) ∧ o9 0 = bb.toInt64) {H : Heap} {locs : List Loc} {ls : Array Slot} {cells slots : Nat} (hW : dq_W D vwCl ad w A H) (hS : va_S A s.heap H locs) (hl : lv_has ls 8 [(0, .ref b), (1, .ref (ad 0)), (2, .ref (ad 100)), (3, .ref (ad 200)), (4, .int (nI I))]) (hc : cells + mc ≤ room_1.cells ∧ slots + ms ≤ room_1.slots) (kK : ∀ (H : Heap) (locs : List Loc) (ls : Array Slot), dq_W D vwCl ad w2 A H → va_S A s.heap H locs → lv_has ls 8 [(0, .ref b), (1, .ref (ad 0)), (2, .ref (ad 100)), (3, .ref (ad 200)), (4, .int (nI I))] → W p l e room_1 s m ([.ref b] : List Value).toArray below meth c H locs (cells + mc) (slots + ms) Q (F0 m 1145 ls [])) : W p l e room_1 s m ([.ref b] : List Value).toArray below meth c H locs cells slots Q (F0 m 733 ls []) := by
  refine lv_aload_n hx hb dLw_law_733 rfl (lv_at hl 1 rfl) ?_
  refine lv_aload_n hx hb dLw_law_734 rfl (lv_at hl 0 rfl) ?_
  refine lv_iload hx hb dLw_law_735 (lv_at hl 4 rfl) ?_
  refine lv_iconst (v := (nI 1)) hx hb dLw_law_737 (by decide) ?_
  refine lv_iadd hx hb dLw_law_738 ?_
  refine dq_top (y := nI (I + 1)) (nI_add I 1) ?_
  refine dq_sldN hx hb hX9 hbl hbA hS (k := (I + 1)) (by omega) hL dLw_law_739 ?_
  refine dq_top (y := a1) e1 ?_
  refine lv_aload_n hx hb dLw_law_740 rfl (lv_at hl 3 rfl) ?_
  refine dq_calli (dx_runSW (As := [.ref (ad 0), .int a1, .ref (ad 200)]) (rest := []) ⟨hx, hb, hml, hown, hts⟩ (hH _) (dx_cwS 3 hts (dq_giS2 tw3_75 tw3_76 tw1_0 tw3_77) rfl rfl rfl (by decide +kernel) ⟨Nat.le_of_ble_eq_true rfl, Nat.le_of_ble_eq_true rfl⟩) (dq_preS hW hS hA hK hZ) rfl rfl hl.1 rfl (lv_room (Nat.le_of_ble_eq_true rfl)) dLw_law_741 ⟨hc.1, hc.2⟩) hW hS hA (fun r1 u_9 H locs hp1 hW hS hz9 => ?_)
  obtain ⟨h_r1, hu9⟩ := hp1
  rw [hu9] at hW
  rw [h_r1]
  refine lv_istore (lv' := [(5, .int kk), (0, .ref b), (1, .ref (ad 0)), (2, .ref (ad 100)), (3, .ref (ad 200)), (4, .int (nI I))]) hx hb dLw_law_744 hl (by decide) rfl (fun ls hl => ?_)
  refine lv_aload_n hx hb dLw_law_746 rfl (lv_at hl 3 rfl) ?_
  refine lv_aload_n hx hb dLw_law_747 rfl (lv_at hl 1 rfl) ?_
  refine lv_iload hx hb dLw_law_748 (lv_at hl 5 rfl) ?_
  refine lv_iconst (v := (nI 1)) hx hb dLw_law_750 (by decide) ?_
  refine lv_iadd hx hb dLw_law_751 ?_
  refine dq_top (y := nI (I + 1)) (nI_add I 1) ?_
  refine dq_sldN hx hb hX9 hbl hbA hS (k := (I + 1)) (by omega) hL dLw_law_752 ?_
  refine dq_top (y := a1) e1 ?_
  refine dq_calli (va_runV (As := [.int a1]) (rest := []) ⟨hx, hb, hml, hown, hts⟩ (hM _) (cwV 1 hts (dq_giV tw4_95 tw4_96 tw4_97 tw1_10 tw4_98) rfl rfl rfl (by decide +kernel) ⟨Nat.le_of_ble_eq_true rfl, Nat.le_of_ble_eq_true rfl⟩) (dq_preV (ci := 8) hW hS hA hK hZ hm1 rfl rfl) rfl rfl hl.1 rfl (lv_room (Nat.le_of_ble_eq_true rfl)) dLw_law_753 ⟨hc.1, hc.2⟩) hW hS hA (fun r2 u_9 H locs hp2 hW hS hz9 => ?_)
  obtain ⟨h_r2, hu9⟩ := hp2
  rw [hu9] at hW
  rw [h_r2]
  refine lv_istore (lv' := [(6, .int bb), (5, .int kk), (0, .ref b), (1, .ref (ad 0)), (2, .ref (ad 100)), (3, .ref (ad 200)), (4, .int (nI I))]) hx hb dLw_law_756 hl (by decide) rfl (fun ls hl => ?_)
  refine lv_aload_n hx hb dLw_law_758 rfl (lv_at hl 4 rfl) ?_
  refine dq_calli (va_runV (As := []) (rest := []) ⟨hx, hb, hml, hown, hts⟩ (m_thrown l D g ad w2 _ kk n hn cn pl tn sg wy m100) (cwV 0 hts (dq_giV tw4_3 tw4_4 tw4_5 tw1_10 tw4_6) rfl rfl rfl (by decide +kernel) ⟨Nat.le_of_ble_eq_true rfl, Nat.le_of_ble_eq_true rfl⟩) (dq_preV (ci := 8) hW hS hA hK hZ m100 rfl rfl) rfl rfl hl.1 rfl (lv_room (Nat.le_of_ble_eq_true rfl)) dLw_law_759 ⟨hc.1, hc.2⟩) hW hS hA (fun r3 u_9 H locs hp3 hW hS hz9 => ?_)
  obtain ⟨h_r3, hu9⟩ := hp3
  rw [hu9] at hW
  rw [h_r3]
  refine lv_iload hx hb dLw_law_762 (lv_at hl 1 rfl) ?_
  refine lv_icmp_eq (tgt := 769) hx hb dLw_law_764 (by decide) (fun c1 => ?_) (fun c1 => ?_)
  · refine lv_iload hx hb dLw_law_769 (lv_at hl 1 rfl) ?_
    refine lv_if_ne (tgt := 786) hx hb dLw_law_771 (by decide) (fun c2 => ?_) (fun c2 => ?_)
    · refine lv_goto (tgt := 1145) hx hb dLw_law_786 (by decide) ?_
      exact kK _ _ _ hW hS (lv_sub hl [2, 3, 4, 5, 6] rfl)
    · obtain ⟨o200, ho2⟩ := ho c2
      refine lv_aload_n hx hb dLw_law_774 rfl (lv_at hl 5 rfl) ?_
      refine lv_iconst (v := (nI 0)) hx hb dLw_law_775 (by decide) ?_
      refine dq_laldN hx hb hK hW 200 2 o200 rfl 0 (by omega) (by omega) dLw_law_776 ?_
      refine lv_iload hx hb dLw_law_777 (lv_at hl 0 rfl) ?_
      refine lv_i2l hx hb dLw_law_779 rfl ?_
      refine W.lcmp hx hb dLw_law_780 ?_
      refine lv_if_eq (tgt := 786) hx hb dLw_law_781 (by decide) (fun c4 => ?_) (fun c4 => ?_)
      · refine lv_goto (tgt := 1145) hx hb dLw_law_786 (by decide) ?_
        exact kK _ _ _ hW hS (lv_sub hl [2, 3, 4, 5, 6] rfl)
      · exact absurd (by rw [ho2]; exact lg_cmp_s _) c4
  · exact absurd rfl c1

set_option maxHeartbeats 4000000 in
set_option maxRecDepth 100000 in
/-- the arm of single -/
theorem A_single (l : Launch) {p : Program} {e : Env} {s : State} {m : MethodId} {below : List Frame} {meth : Method} {c : Code} {A : Nat → Prop} {Q : State → Prop} {b : Nat} {c0 : Cond} {D : va_G} {g : Nat → ClassId} (hx : p.tables.exec = Jvm.exec) (hb : c.code = cLw_law) (hml : c.maxLocals = 8) (hown : s.vm.findClass RLw = some m.cls) (hts : ∀ w ∈ c0 :: dq_G, w.before ([.ref b] : List Value).toArray s = true) (hA : ∀ q, s.heap.size ≤ q → A q) (hK : va_K D vwCl (dq_t g) s) (hZ : dq_Z A s s.heap) {L : Nat} {xs : Nat → Int32} (hX9 : va_X b L xs s s.heap) (hbl : b < s.heap.size) (hbA : ¬ A b) (hL : L < 2 ^ 31) {I : Nat} (hI : I + 5 < L) (ad : Nat → Nat) (w : Nat → Option va_E) {kk : Int32} {mc ms : Nat} {bb : Int32} {w1 w2 : Nat → Option va_E} {fs1 : List Value} {n hn cn : Nat} {pl : Int32} {tn : Nat} {sg : Int32} {wy : Int64} {o9 : Nat → Int64} {a1 : Int32} (e1 : xs (I + 1) = a1) (hH : ∀ sz : Nat, Met l yLw_single wsLw_single ({ frames := 9, cells := mc, slots := ms, locals := 180 } : Room) (va_Pc [.ref (ad 0), .int a1, .ref (ad 200)] (dq_S D vwCl (dq_t g) ad w sz)) (va_Qi (fun r u => r = kk ∧ u = w1) (dq_B D vwCl (dq_t g) ad (dq_A ad w sz)) (dq_A ad w sz)) mc ms (dq_A ad w sz)) (hM : ∀ sz : Nat, Met l yMo_single wsMo_single ({ frames := 2, cells := 0, slots := 0, locals := 50 } : Room) (va_Pc [.ref (ad 100), .int a1] (dq_S D vwCl (dq_t g) ad w1 sz)) (va_Qi (fun r u => r = bb ∧ u = w2) (dq_B D vwCl (dq_t g) ad (dq_A ad w1 sz)) (dq_A ad w1 sz)) 0 0 (dq_A ad w1 sz)) (hm1 : w1 100 = some (.inr (8, fs1))) (m100 : w2 100 = some (.inr (8, [.int kk, .int (nI n), .ref (ad 102), .ref (ad 103), .ref (ad 104), .int (nI hn), .ref (ad 106), .ref (ad 107), .ref (ad 108), .ref (ad 109), .ref (ad 110), .ref (ad 111), .int (nI cn), .ref (ad 113), .int pl, .int (nI tn), .ref (ad 116), .ref (ad 117), .ref (ad 118), .ref (ad 119), .int sg, .ref (ad 121), .long wy, .ref (ad 123), .ref (ad 124), .ref (ad 125), .ref (ad 126), .ref (ad 127), .ref (ad 128)]))) (ho : kk = 0 → w2 200 = some (.inl (g 2, 1, .inr (.inl o9))) ∧ o9 0 = (if bb = 0 then 0 else 1)) {H : Heap} {locs : List Loc} {ls : Array Slot} {cells slots : Nat} (hW : dq_W D vwCl ad w A H) (hS : va_S A s.heap H locs) (hl : lv_has ls 8 [(0, .ref b), (1, .ref (ad 0)), (2, .ref (ad 100)), (3, .ref (ad 200)), (4, .int (nI I))]) (hc : cells + mc ≤ room_1.cells ∧ slots + ms ≤ room_1.slots) (kK : ∀ (H : Heap) (locs : List Loc) (ls : Array Slot), dq_W D vwCl ad w2 A H → va_S A s.heap H locs → lv_has ls 8 [(0, .ref b), (1, .ref (ad 0)), (2, .ref (ad 100)), (3, .ref (ad 200)), (4, .int (nI I))] → W p l e room_1 s m ([.ref b] : List Value).toArray below meth c H locs (cells + mc) (slots + ms) Q (F0 m 1145 ls [])) : W p l e room_1 s m ([.ref b] : List Value).toArray below meth c H locs cells slots Q (F0 m 789 ls []) := by
  refine lv_aload_n hx hb dLw_law_789 rfl (lv_at hl 1 rfl) ?_
  refine lv_aload_n hx hb dLw_law_790 rfl (lv_at hl 0 rfl) ?_
  refine lv_iload hx hb dLw_law_791 (lv_at hl 4 rfl) ?_
  refine lv_iconst (v := (nI 1)) hx hb dLw_law_793 (by decide) ?_
  refine lv_iadd hx hb dLw_law_794 ?_
  refine dq_top (y := nI (I + 1)) (nI_add I 1) ?_
  refine dq_sldN hx hb hX9 hbl hbA hS (k := (I + 1)) (by omega) hL dLw_law_795 ?_
  refine dq_top (y := a1) e1 ?_
  refine lv_aload_n hx hb dLw_law_796 rfl (lv_at hl 3 rfl) ?_
  refine dq_calli (dx_runSW (As := [.ref (ad 0), .int a1, .ref (ad 200)]) (rest := []) ⟨hx, hb, hml, hown, hts⟩ (hH _) (dx_cwS 3 hts (dq_giS2 tw3_88 tw3_89 tw1_0 tw3_90) rfl rfl rfl (by decide +kernel) ⟨Nat.le_of_ble_eq_true rfl, Nat.le_of_ble_eq_true rfl⟩) (dq_preS hW hS hA hK hZ) rfl rfl hl.1 rfl (lv_room (Nat.le_of_ble_eq_true rfl)) dLw_law_797 ⟨hc.1, hc.2⟩) hW hS hA (fun r1 u_9 H locs hp1 hW hS hz9 => ?_)
  obtain ⟨h_r1, hu9⟩ := hp1
  rw [hu9] at hW
  rw [h_r1]
  refine lv_istore (lv' := [(5, .int kk), (0, .ref b), (1, .ref (ad 0)), (2, .ref (ad 100)), (3, .ref (ad 200)), (4, .int (nI I))]) hx hb dLw_law_800 hl (by decide) rfl (fun ls hl => ?_)
  refine lv_aload_n hx hb dLw_law_802 rfl (lv_at hl 3 rfl) ?_
  refine lv_aload_n hx hb dLw_law_803 rfl (lv_at hl 1 rfl) ?_
  refine lv_iload hx hb dLw_law_804 (lv_at hl 5 rfl) ?_
  refine lv_iconst (v := (nI 1)) hx hb dLw_law_806 (by decide) ?_
  refine lv_iadd hx hb dLw_law_807 ?_
  refine dq_top (y := nI (I + 1)) (nI_add I 1) ?_
  refine dq_sldN hx hb hX9 hbl hbA hS (k := (I + 1)) (by omega) hL dLw_law_808 ?_
  refine dq_top (y := a1) e1 ?_
  refine dq_calli (va_runV (As := [.int a1]) (rest := []) ⟨hx, hb, hml, hown, hts⟩ (hM _) (cwV 1 hts (dq_giV tw4_103 tw4_104 tw4_105 tw1_10 tw4_106) rfl rfl rfl (by decide +kernel) ⟨Nat.le_of_ble_eq_true rfl, Nat.le_of_ble_eq_true rfl⟩) (dq_preV (ci := 8) hW hS hA hK hZ hm1 rfl rfl) rfl rfl hl.1 rfl (lv_room (Nat.le_of_ble_eq_true rfl)) dLw_law_809 ⟨hc.1, hc.2⟩) hW hS hA (fun r2 u_9 H locs hp2 hW hS hz9 => ?_)
  obtain ⟨h_r2, hu9⟩ := hp2
  rw [hu9] at hW
  rw [h_r2]
  refine lv_istore (lv' := [(6, .int bb), (5, .int kk), (0, .ref b), (1, .ref (ad 0)), (2, .ref (ad 100)), (3, .ref (ad 200)), (4, .int (nI I))]) hx hb dLw_law_812 hl (by decide) rfl (fun ls hl => ?_)
  refine lv_aload_n hx hb dLw_law_814 rfl (lv_at hl 4 rfl) ?_
  refine dq_calli (va_runV (As := []) (rest := []) ⟨hx, hb, hml, hown, hts⟩ (m_thrown l D g ad w2 _ kk n hn cn pl tn sg wy m100) (cwV 0 hts (dq_giV tw4_3 tw4_4 tw4_5 tw1_10 tw4_6) rfl rfl rfl (by decide +kernel) ⟨Nat.le_of_ble_eq_true rfl, Nat.le_of_ble_eq_true rfl⟩) (dq_preV (ci := 8) hW hS hA hK hZ m100 rfl rfl) rfl rfl hl.1 rfl (lv_room (Nat.le_of_ble_eq_true rfl)) dLw_law_815 ⟨hc.1, hc.2⟩) hW hS hA (fun r3 u_9 H locs hp3 hW hS hz9 => ?_)
  obtain ⟨h_r3, hu9⟩ := hp3
  rw [hu9] at hW
  rw [h_r3]
  refine lv_iload hx hb dLw_law_818 (lv_at hl 1 rfl) ?_
  refine lv_icmp_eq (tgt := 825) hx hb dLw_law_820 (by decide) (fun c1 => ?_) (fun c1 => ?_)
  · refine lv_iload hx hb dLw_law_825 (lv_at hl 1 rfl) ?_
    refine lv_if_ne (tgt := 849) hx hb dLw_law_827 (by decide) (fun c2 => ?_) (fun c2 => ?_)
    · refine lv_goto (tgt := 1145) hx hb dLw_law_849 (by decide) ?_
      exact kK _ _ _ hW hS (lv_sub hl [2, 3, 4, 5, 6] rfl)
    · obtain ⟨o200, ho2⟩ := ho c2
      refine lv_aload_n hx hb dLw_law_830 rfl (lv_at hl 5 rfl) ?_
      refine lv_iconst (v := (nI 0)) hx hb dLw_law_831 (by decide) ?_
      refine dq_laldN hx hb hK hW 200 2 o200 rfl 0 (by omega) (by omega) dLw_law_832 ?_
      refine lv_iload hx hb dLw_law_833 (lv_at hl 0 rfl) ?_
      refine lv_if_eq (tgt := 842) hx hb dLw_law_835 (by decide) (fun c3 => ?_) (fun c3 => ?_)
      · refine lv_lconst (v := 0) hx hb dLw_law_842 (by decide) ?_
        refine W.lcmp hx hb dLw_law_843 ?_
        refine lv_if_eq (tgt := 849) hx hb dLw_law_844 (by decide) (fun c4 => ?_) (fun c4 => ?_)
        · refine lv_goto (tgt := 1145) hx hb dLw_law_849 (by decide) ?_
          exact kK _ _ _ hW hS (lv_sub hl [2, 3, 4, 5, 6] rfl)
        · exact absurd (by rw [ho2, if_pos c3]; exact lg_cmp_s _) c4
      · refine lv_lconst (v := 1) hx hb dLw_law_838 (by decide) ?_
        refine lv_goto (tgt := 843) hx hb dLw_law_839 (by decide) ?_
        refine W.lcmp hx hb dLw_law_843 ?_
        refine lv_if_eq (tgt := 849) hx hb dLw_law_844 (by decide) (fun c4 => ?_) (fun c4 => ?_)
        · refine lv_goto (tgt := 1145) hx hb dLw_law_849 (by decide) ?_
          exact kK _ _ _ hW hS (lv_sub hl [2, 3, 4, 5, 6] rfl)
        · exact absurd (by rw [ho2, if_neg c3]; exact lg_cmp_s _) c4
  · exact absurd rfl c1

set_option maxHeartbeats 4000000 in
set_option maxRecDepth 100000 in
/-- the arm of order -/
theorem A_order (l : Launch) {p : Program} {e : Env} {s : State} {m : MethodId} {below : List Frame} {meth : Method} {c : Code} {A : Nat → Prop} {Q : State → Prop} {b : Nat} {c0 : Cond} {D : va_G} {g : Nat → ClassId} (hx : p.tables.exec = Jvm.exec) (hb : c.code = cLw_law) (hml : c.maxLocals = 8) (hown : s.vm.findClass RLw = some m.cls) (hts : ∀ w ∈ c0 :: dq_G, w.before ([.ref b] : List Value).toArray s = true) (hA : ∀ q, s.heap.size ≤ q → A q) (hK : va_K D vwCl (dq_t g) s) (hZ : dq_Z A s s.heap) {L : Nat} {xs : Nat → Int32} (hX9 : va_X b L xs s s.heap) (hbl : b < s.heap.size) (hbA : ¬ A b) (hL : L < 2 ^ 31) {I : Nat} (hI : I + 5 < L) (ad : Nat → Nat) (w : Nat → Option va_E) {kk : Int32} {mc ms : Nat} {bb : Int32} {w1 w2 : Nat → Option va_E} {fs1 : List Value} {n hn cn : Nat} {pl : Int32} {tn : Nat} {sg : Int32} {wy : Int64} {o9 : Nat → Int64} {a1 : Int32} (e1 : xs (I + 1) = a1) (hH : ∀ sz : Nat, Met l yLw_order wsLw_order ({ frames := 9, cells := mc, slots := ms, locals := 180 } : Room) (va_Pc [.ref (ad 0), .int a1, .ref (ad 200)] (dq_S D vwCl (dq_t g) ad w sz)) (va_Qi (fun r u => r = kk ∧ u = w1) (dq_B D vwCl (dq_t g) ad (dq_A ad w sz)) (dq_A ad w sz)) mc ms (dq_A ad w sz)) (hM : ∀ sz : Nat, Met l yMo_order wsMo_order ({ frames := 2, cells := 0, slots := 0, locals := 50 } : Room) (va_Pc [.ref (ad 100), .int a1] (dq_S D vwCl (dq_t g) ad w1 sz)) (va_Qi (fun r u => r = bb ∧ u = w2) (dq_B D vwCl (dq_t g) ad (dq_A ad w1 sz)) (dq_A ad w1 sz)) 0 0 (dq_A ad w1 sz)) (hm1 : w1 100 = some (.inr (8, fs1))) (m100 : w2 100 = some (.inr (8, [.int kk, .int (nI n), .ref (ad 102), .ref (ad 103), .ref (ad 104), .int (nI hn), .ref (ad 106), .ref (ad 107), .ref (ad 108), .ref (ad 109), .ref (ad 110), .ref (ad 111), .int (nI cn), .ref (ad 113), .int pl, .int (nI tn), .ref (ad 116), .ref (ad 117), .ref (ad 118), .ref (ad 119), .int sg, .ref (ad 121), .long wy, .ref (ad 123), .ref (ad 124), .ref (ad 125), .ref (ad 126), .ref (ad 127), .ref (ad 128)]))) (ho : kk = 0 → w2 200 = some (.inl (g 2, 1, .inr (.inl o9))) ∧ o9 0 = bb.toInt64) {H : Heap} {locs : List Loc} {ls : Array Slot} {cells slots : Nat} (hW : dq_W D vwCl ad w A H) (hS : va_S A s.heap H locs) (hl : lv_has ls 8 [(0, .ref b), (1, .ref (ad 0)), (2, .ref (ad 100)), (3, .ref (ad 200)), (4, .int (nI I))]) (hc : cells + mc ≤ room_1.cells ∧ slots + ms ≤ room_1.slots) (kK : ∀ (H : Heap) (locs : List Loc) (ls : Array Slot), dq_W D vwCl ad w2 A H → va_S A s.heap H locs → lv_has ls 8 [(0, .ref b), (1, .ref (ad 0)), (2, .ref (ad 100)), (3, .ref (ad 200)), (4, .int (nI I))] → W p l e room_1 s m ([.ref b] : List Value).toArray below meth c H locs (cells + mc) (slots + ms) Q (F0 m 1145 ls [])) : W p l e room_1 s m ([.ref b] : List Value).toArray below meth c H locs cells slots Q (F0 m 852 ls []) := by
  refine lv_aload_n hx hb dLw_law_852 rfl (lv_at hl 1 rfl) ?_
  refine lv_aload_n hx hb dLw_law_853 rfl (lv_at hl 0 rfl) ?_
  refine lv_iload hx hb dLw_law_854 (lv_at hl 4 rfl) ?_
  refine lv_iconst (v := (nI 1)) hx hb dLw_law_856 (by decide) ?_
  refine lv_iadd hx hb dLw_law_857 ?_
  refine dq_top (y := nI (I + 1)) (nI_add I 1) ?_
  refine dq_sldN hx hb hX9 hbl hbA hS (k := (I + 1)) (by omega) hL dLw_law_858 ?_
  refine dq_top (y := a1) e1 ?_
  refine lv_aload_n hx hb dLw_law_859 rfl (lv_at hl 3 rfl) ?_
  refine dq_calli (dx_runSW (As := [.ref (ad 0), .int a1, .ref (ad 200)]) (rest := []) ⟨hx, hb, hml, hown, hts⟩ (hH _) (dx_cwS 3 hts (dq_giS2 tw3_95 tw3_96 tw1_0 tw3_97) rfl rfl rfl (by decide +kernel) ⟨Nat.le_of_ble_eq_true rfl, Nat.le_of_ble_eq_true rfl⟩) (dq_preS hW hS hA hK hZ) rfl rfl hl.1 rfl (lv_room (Nat.le_of_ble_eq_true rfl)) dLw_law_860 ⟨hc.1, hc.2⟩) hW hS hA (fun r1 u_9 H locs hp1 hW hS hz9 => ?_)
  obtain ⟨h_r1, hu9⟩ := hp1
  rw [hu9] at hW
  rw [h_r1]
  refine lv_istore (lv' := [(5, .int kk), (0, .ref b), (1, .ref (ad 0)), (2, .ref (ad 100)), (3, .ref (ad 200)), (4, .int (nI I))]) hx hb dLw_law_863 hl (by decide) rfl (fun ls hl => ?_)
  refine lv_aload_n hx hb dLw_law_865 rfl (lv_at hl 3 rfl) ?_
  refine lv_aload_n hx hb dLw_law_866 rfl (lv_at hl 1 rfl) ?_
  refine lv_iload hx hb dLw_law_867 (lv_at hl 5 rfl) ?_
  refine lv_iconst (v := (nI 1)) hx hb dLw_law_869 (by decide) ?_
  refine lv_iadd hx hb dLw_law_870 ?_
  refine dq_top (y := nI (I + 1)) (nI_add I 1) ?_
  refine dq_sldN hx hb hX9 hbl hbA hS (k := (I + 1)) (by omega) hL dLw_law_871 ?_
  refine dq_top (y := a1) e1 ?_
  refine dq_calli (va_runV (As := [.int a1]) (rest := []) ⟨hx, hb, hml, hown, hts⟩ (hM _) (cwV 1 hts (dq_giV tw4_107 tw4_108 tw4_109 tw1_10 tw4_110) rfl rfl rfl (by decide +kernel) ⟨Nat.le_of_ble_eq_true rfl, Nat.le_of_ble_eq_true rfl⟩) (dq_preV (ci := 8) hW hS hA hK hZ hm1 rfl rfl) rfl rfl hl.1 rfl (lv_room (Nat.le_of_ble_eq_true rfl)) dLw_law_872 ⟨hc.1, hc.2⟩) hW hS hA (fun r2 u_9 H locs hp2 hW hS hz9 => ?_)
  obtain ⟨h_r2, hu9⟩ := hp2
  rw [hu9] at hW
  rw [h_r2]
  refine lv_istore (lv' := [(6, .int bb), (5, .int kk), (0, .ref b), (1, .ref (ad 0)), (2, .ref (ad 100)), (3, .ref (ad 200)), (4, .int (nI I))]) hx hb dLw_law_875 hl (by decide) rfl (fun ls hl => ?_)
  refine lv_aload_n hx hb dLw_law_877 rfl (lv_at hl 4 rfl) ?_
  refine dq_calli (va_runV (As := []) (rest := []) ⟨hx, hb, hml, hown, hts⟩ (m_thrown l D g ad w2 _ kk n hn cn pl tn sg wy m100) (cwV 0 hts (dq_giV tw4_3 tw4_4 tw4_5 tw1_10 tw4_6) rfl rfl rfl (by decide +kernel) ⟨Nat.le_of_ble_eq_true rfl, Nat.le_of_ble_eq_true rfl⟩) (dq_preV (ci := 8) hW hS hA hK hZ m100 rfl rfl) rfl rfl hl.1 rfl (lv_room (Nat.le_of_ble_eq_true rfl)) dLw_law_878 ⟨hc.1, hc.2⟩) hW hS hA (fun r3 u_9 H locs hp3 hW hS hz9 => ?_)
  obtain ⟨h_r3, hu9⟩ := hp3
  rw [hu9] at hW
  rw [h_r3]
  refine lv_iload hx hb dLw_law_881 (lv_at hl 1 rfl) ?_
  refine lv_icmp_eq (tgt := 888) hx hb dLw_law_883 (by decide) (fun c1 => ?_) (fun c1 => ?_)
  · refine lv_iload hx hb dLw_law_888 (lv_at hl 1 rfl) ?_
    refine lv_if_ne (tgt := 905) hx hb dLw_law_890 (by decide) (fun c2 => ?_) (fun c2 => ?_)
    · refine lv_goto (tgt := 1145) hx hb dLw_law_905 (by decide) ?_
      exact kK _ _ _ hW hS (lv_sub hl [2, 3, 4, 5, 6] rfl)
    · obtain ⟨o200, ho2⟩ := ho c2
      refine lv_aload_n hx hb dLw_law_893 rfl (lv_at hl 5 rfl) ?_
      refine lv_iconst (v := (nI 0)) hx hb dLw_law_894 (by decide) ?_
      refine dq_laldN hx hb hK hW 200 2 o200 rfl 0 (by omega) (by omega) dLw_law_895 ?_
      refine lv_iload hx hb dLw_law_896 (lv_at hl 0 rfl) ?_
      refine lv_i2l hx hb dLw_law_898 rfl ?_
      refine W.lcmp hx hb dLw_law_899 ?_
      refine lv_if_eq (tgt := 905) hx hb dLw_law_900 (by decide) (fun c4 => ?_) (fun c4 => ?_)
      · refine lv_goto (tgt := 1145) hx hb dLw_law_905 (by decide) ?_
        exact kK _ _ _ hW hS (lv_sub hl [2, 3, 4, 5, 6] rfl)
      · exact absurd (by rw [ho2]; exact lg_cmp_s _) c4
  · exact absurd rfl c1

set_option maxHeartbeats 4000000 in
set_option maxRecDepth 100000 in
/-- the arm of travel -/
theorem A_travel (l : Launch) {p : Program} {e : Env} {s : State} {m : MethodId} {below : List Frame} {meth : Method} {c : Code} {A : Nat → Prop} {Q : State → Prop} {b : Nat} {c0 : Cond} {D : va_G} {g : Nat → ClassId} (hx : p.tables.exec = Jvm.exec) (hb : c.code = cLw_law) (hml : c.maxLocals = 8) (hown : s.vm.findClass RLw = some m.cls) (hts : ∀ w ∈ c0 :: dq_G, w.before ([.ref b] : List Value).toArray s = true) (hA : ∀ q, s.heap.size ≤ q → A q) (hK : va_K D vwCl (dq_t g) s) (hZ : dq_Z A s s.heap) {L : Nat} {xs : Nat → Int32} (hX9 : va_X b L xs s s.heap) (hbl : b < s.heap.size) (hbA : ¬ A b) (hL : L < 2 ^ 31) {I : Nat} (hI : I + 5 < L) (ad : Nat → Nat) (w : Nat → Option va_E) {kk : Int32} {mc ms : Nat} {bb : Int64} {w1 w2 : Nat → Option va_E} {fs1 : List Value} {n hn cn : Nat} {pl : Int32} {tn : Nat} {sg : Int32} {wy : Int64} {o9 : Nat → Int64} (hH : ∀ sz : Nat, Met l yLw_travel wsLw_travel ({ frames := 9, cells := mc, slots := ms, locals := 180 } : Room) (va_Pc [.ref (ad 0), .ref (ad 200)] (dq_S D vwCl (dq_t g) ad w sz)) (va_Qi (fun r u => r = kk ∧ u = w1) (dq_B D vwCl (dq_t g) ad (dq_A ad w sz)) (dq_A ad w sz)) mc ms (dq_A ad w sz)) (hM : ∀ sz : Nat, Met l yMo_travel wsMo_travel ({ frames := 2, cells := 0, slots := 0, locals := 50 } : Room) (va_Pc [.ref (ad 100)] (dq_S D vwCl (dq_t g) ad w1 sz)) (va_Ql (fun r u => r = bb ∧ u = w2) (dq_B D vwCl (dq_t g) ad (dq_A ad w1 sz)) (dq_A ad w1 sz)) 0 0 (dq_A ad w1 sz)) (hm1 : w1 100 = some (.inr (8, fs1))) (m100 : w2 100 = some (.inr (8, [.int kk, .int (nI n), .ref (ad 102), .ref (ad 103), .ref (ad 104), .int (nI hn), .ref (ad 106), .ref (ad 107), .ref (ad 108), .ref (ad 109), .ref (ad 110), .ref (ad 111), .int (nI cn), .ref (ad 113), .int pl, .int (nI tn), .ref (ad 116), .ref (ad 117), .ref (ad 118), .ref (ad 119), .int sg, .ref (ad 121), .long wy, .ref (ad 123), .ref (ad 124), .ref (ad 125), .ref (ad 126), .ref (ad 127), .ref (ad 128)]))) (ho : kk = 0 → w2 200 = some (.inl (g 2, 1, .inr (.inl o9))) ∧ o9 0 = bb) {H : Heap} {locs : List Loc} {ls : Array Slot} {cells slots : Nat} (hW : dq_W D vwCl ad w A H) (hS : va_S A s.heap H locs) (hl : lv_has ls 8 [(0, .ref b), (1, .ref (ad 0)), (2, .ref (ad 100)), (3, .ref (ad 200)), (4, .int (nI I))]) (hc : cells + mc ≤ room_1.cells ∧ slots + ms ≤ room_1.slots) (kK : ∀ (H : Heap) (locs : List Loc) (ls : Array Slot), dq_W D vwCl ad w2 A H → va_S A s.heap H locs → lv_has ls 8 [(0, .ref b), (1, .ref (ad 0)), (2, .ref (ad 100)), (3, .ref (ad 200)), (4, .int (nI I))] → W p l e room_1 s m ([.ref b] : List Value).toArray below meth c H locs (cells + mc) (slots + ms) Q (F0 m 1145 ls [])) : W p l e room_1 s m ([.ref b] : List Value).toArray below meth c H locs cells slots Q (F0 m 908 ls []) := by
  refine lv_aload_n hx hb dLw_law_908 rfl (lv_at hl 1 rfl) ?_
  refine lv_aload_n hx hb dLw_law_909 rfl (lv_at hl 3 rfl) ?_
  refine dq_calli (dx_runSW (As := [.ref (ad 0), .ref (ad 200)]) (rest := []) ⟨hx, hb, hml, hown, hts⟩ (hH _) (dx_cwS 2 hts (dq_giS2 tw3_102 tw3_103 tw1_0 tw3_104) rfl rfl rfl (by decide +kernel) ⟨Nat.le_of_ble_eq_true rfl, Nat.le_of_ble_eq_true rfl⟩) (dq_preS hW hS hA hK hZ) rfl rfl hl.1 rfl (lv_room (Nat.le_of_ble_eq_true rfl)) dLw_law_910 ⟨hc.1, hc.2⟩) hW hS hA (fun r1 u_9 H locs hp1 hW hS hz9 => ?_)
  obtain ⟨h_r1, hu9⟩ := hp1
  rw [hu9] at hW
  rw [h_r1]
  refine lv_istore (lv' := [(5, .int kk), (0, .ref b), (1, .ref (ad 0)), (2, .ref (ad 100)), (3, .ref (ad 200)), (4, .int (nI I))]) hx hb dLw_law_913 hl (by decide) rfl (fun ls hl => ?_)
  refine lv_aload_n hx hb dLw_law_915 rfl (lv_at hl 3 rfl) ?_
  refine dq_calll (va_runV (As := []) (rest := []) ⟨hx, hb, hml, hown, hts⟩ (hM _) (cwV 0 hts (dq_giV tw4_111 tw4_112 tw4_113 tw1_10 tw4_114) rfl rfl rfl (by decide +kernel) ⟨Nat.le_of_ble_eq_true rfl, Nat.le_of_ble_eq_true rfl⟩) (dq_preV (ci := 8) hW hS hA hK hZ hm1 rfl rfl) rfl rfl hl.1 rfl (lv_room (Nat.le_of_ble_eq_true rfl)) dLw_law_916 ⟨hc.1, hc.2⟩) hW hS hA (fun r2 u_9 H locs hp2 hW hS hz9 => ?_)
  obtain ⟨h_r2, hu9⟩ := hp2
  rw [hu9] at hW
  rw [h_r2]
  refine lv_lstore (lv' := [(6, .long bb), (5, .int kk), (0, .ref b), (1, .ref (ad 0)), (2, .ref (ad 100)), (3, .ref (ad 200)), (4, .int (nI I))]) hx hb dLw_law_919 hl (by decide) rfl (fun ls hl => ?_)
  refine lv_aload_n hx hb dLw_law_921 rfl (lv_at hl 4 rfl) ?_
  refine dq_calli (va_runV (As := []) (rest := []) ⟨hx, hb, hml, hown, hts⟩ (m_thrown l D g ad w2 _ kk n hn cn pl tn sg wy m100) (cwV 0 hts (dq_giV tw4_3 tw4_4 tw4_5 tw1_10 tw4_6) rfl rfl rfl (by decide +kernel) ⟨Nat.le_of_ble_eq_true rfl, Nat.le_of_ble_eq_true rfl⟩) (dq_preV (ci := 8) hW hS hA hK hZ m100 rfl rfl) rfl rfl hl.1 rfl (lv_room (Nat.le_of_ble_eq_true rfl)) dLw_law_922 ⟨hc.1, hc.2⟩) hW hS hA (fun r3 u_9 H locs hp3 hW hS hz9 => ?_)
  obtain ⟨h_r3, hu9⟩ := hp3
  rw [hu9] at hW
  rw [h_r3]
  refine lv_iload hx hb dLw_law_925 (lv_at hl 1 rfl) ?_
  refine lv_icmp_eq (tgt := 932) hx hb dLw_law_927 (by decide) (fun c1 => ?_) (fun c1 => ?_)
  · refine lv_iload hx hb dLw_law_932 (lv_at hl 1 rfl) ?_
    refine lv_if_ne (tgt := 948) hx hb dLw_law_934 (by decide) (fun c2 => ?_) (fun c2 => ?_)
    · refine lv_goto (tgt := 1145) hx hb dLw_law_948 (by decide) ?_
      exact kK _ _ _ hW hS (lv_sub hl [2, 3, 4, 5, 6] rfl)
    · obtain ⟨o200, ho2⟩ := ho c2
      refine lv_aload_n hx hb dLw_law_937 rfl (lv_at hl 5 rfl) ?_
      refine lv_iconst (v := (nI 0)) hx hb dLw_law_938 (by decide) ?_
      refine dq_laldN hx hb hK hW 200 2 o200 rfl 0 (by omega) (by omega) dLw_law_939 ?_
      refine lv_lload hx hb dLw_law_940 (lv_at hl 0 rfl) ?_
      refine W.lcmp hx hb dLw_law_942 ?_
      refine lv_if_eq (tgt := 948) hx hb dLw_law_943 (by decide) (fun c4 => ?_) (fun c4 => ?_)
      · refine lv_goto (tgt := 1145) hx hb dLw_law_948 (by decide) ?_
        exact kK _ _ _ hW hS (lv_sub hl [2, 3, 4, 5, 6] rfl)
      · exact absurd (by rw [ho2]; exact lg_cmp_s _) c4
  · exact absurd rfl c1

set_option maxHeartbeats 4000000 in
set_option maxRecDepth 100000 in
/-- the arm of least -/
theorem A_least (l : Launch) {p : Program} {e : Env} {s : State} {m : MethodId} {below : List Frame} {meth : Method} {c : Code} {A : Nat → Prop} {Q : State → Prop} {b : Nat} {c0 : Cond} {D : va_G} {g : Nat → ClassId} (hx : p.tables.exec = Jvm.exec) (hb : c.code = cLw_law) (hml : c.maxLocals = 8) (hown : s.vm.findClass RLw = some m.cls) (hts : ∀ w ∈ c0 :: dq_G, w.before ([.ref b] : List Value).toArray s = true) (hA : ∀ q, s.heap.size ≤ q → A q) (hK : va_K D vwCl (dq_t g) s) (hZ : dq_Z A s s.heap) {L : Nat} {xs : Nat → Int32} (hX9 : va_X b L xs s s.heap) (hbl : b < s.heap.size) (hbA : ¬ A b) (hL : L < 2 ^ 31) {I : Nat} (hI : I + 5 < L) (ad : Nat → Nat) (w : Nat → Option va_E) {kk : Int32} {mc ms : Nat} {bb : Int32} {w1 w2 : Nat → Option va_E} {fs1 : List Value} {n hn cn : Nat} {pl : Int32} {tn : Nat} {sg : Int32} {wy : Int64} {o9 : Nat → Int64} (hH : ∀ sz : Nat, Met l yLw_least wsLw_least ({ frames := 9, cells := mc, slots := ms, locals := 180 } : Room) (va_Pc [.ref (ad 0), .ref (ad 200)] (dq_S D vwCl (dq_t g) ad w sz)) (va_Qi (fun r u => r = kk ∧ u = w1) (dq_B D vwCl (dq_t g) ad (dq_A ad w sz)) (dq_A ad w sz)) mc ms (dq_A ad w sz)) (hM : ∀ sz : Nat, Met l yMo_least wsMo_least ({ frames := 2, cells := 0, slots := 0, locals := 50 } : Room) (va_Pc [.ref (ad 100)] (dq_S D vwCl (dq_t g) ad w1 sz)) (va_Qi (fun r u => r = bb ∧ u = w2) (dq_B D vwCl (dq_t g) ad (dq_A ad w1 sz)) (dq_A ad w1 sz)) 0 0 (dq_A ad w1 sz)) (hm1 : w1 100 = some (.inr (8, fs1))) (m100 : w2 100 = some (.inr (8, [.int kk, .int (nI n), .ref (ad 102), .ref (ad 103), .ref (ad 104), .int (nI hn), .ref (ad 106), .ref (ad 107), .ref (ad 108), .ref (ad 109), .ref (ad 110), .ref (ad 111), .int (nI cn), .ref (ad 113), .int pl, .int (nI tn), .ref (ad 116), .ref (ad 117), .ref (ad 118), .ref (ad 119), .int sg, .ref (ad 121), .long wy, .ref (ad 123), .ref (ad 124), .ref (ad 125), .ref (ad 126), .ref (ad 127), .ref (ad 128)]))) (ho : kk = 0 → w2 200 = some (.inl (g 2, 1, .inr (.inl o9))) ∧ o9 0 = (if bb = 0 then 0 else 1)) {H : Heap} {locs : List Loc} {ls : Array Slot} {cells slots : Nat} (hW : dq_W D vwCl ad w A H) (hS : va_S A s.heap H locs) (hl : lv_has ls 8 [(0, .ref b), (1, .ref (ad 0)), (2, .ref (ad 100)), (3, .ref (ad 200)), (4, .int (nI I))]) (hc : cells + mc ≤ room_1.cells ∧ slots + ms ≤ room_1.slots) (kK : ∀ (H : Heap) (locs : List Loc) (ls : Array Slot), dq_W D vwCl ad w2 A H → va_S A s.heap H locs → lv_has ls 8 [(0, .ref b), (1, .ref (ad 0)), (2, .ref (ad 100)), (3, .ref (ad 200)), (4, .int (nI I))] → W p l e room_1 s m ([.ref b] : List Value).toArray below meth c H locs (cells + mc) (slots + ms) Q (F0 m 1145 ls [])) : W p l e room_1 s m ([.ref b] : List Value).toArray below meth c H locs cells slots Q (F0 m 951 ls []) := by
  refine lv_aload_n hx hb dLw_law_951 rfl (lv_at hl 1 rfl) ?_
  refine lv_aload_n hx hb dLw_law_952 rfl (lv_at hl 3 rfl) ?_
  refine dq_calli (dx_runSW (As := [.ref (ad 0), .ref (ad 200)]) (rest := []) ⟨hx, hb, hml, hown, hts⟩ (hH _) (dx_cwS 2 hts (dq_giS2 tw3_109 tw3_110 tw1_0 tw3_111) rfl rfl rfl (by decide +kernel) ⟨Nat.le_of_ble_eq_true rfl, Nat.le_of_ble_eq_true rfl⟩) (dq_preS hW hS hA hK hZ) rfl rfl hl.1 rfl (lv_room (Nat.le_of_ble_eq_true rfl)) dLw_law_953 ⟨hc.1, hc.2⟩) hW hS hA (fun r1 u_9 H locs hp1 hW hS hz9 => ?_)
  obtain ⟨h_r1, hu9⟩ := hp1
  rw [hu9] at hW
  rw [h_r1]
  refine lv_istore (lv' := [(5, .int kk), (0, .ref b), (1, .ref (ad 0)), (2, .ref (ad 100)), (3, .ref (ad 200)), (4, .int (nI I))]) hx hb dLw_law_956 hl (by decide) rfl (fun ls hl => ?_)
  refine lv_aload_n hx hb dLw_law_958 rfl (lv_at hl 3 rfl) ?_
  refine dq_calli (va_runV (As := []) (rest := []) ⟨hx, hb, hml, hown, hts⟩ (hM _) (cwV 0 hts (dq_giV tw4_115 tw4_116 tw4_117 tw1_10 tw4_118) rfl rfl rfl (by decide +kernel) ⟨Nat.le_of_ble_eq_true rfl, Nat.le_of_ble_eq_true rfl⟩) (dq_preV (ci := 8) hW hS hA hK hZ hm1 rfl rfl) rfl rfl hl.1 rfl (lv_room (Nat.le_of_ble_eq_true rfl)) dLw_law_959 ⟨hc.1, hc.2⟩) hW hS hA (fun r2 u_9 H locs hp2 hW hS hz9 => ?_)
  obtain ⟨h_r2, hu9⟩ := hp2
  rw [hu9] at hW
  rw [h_r2]
  refine lv_istore (lv' := [(6, .int bb), (5, .int kk), (0, .ref b), (1, .ref (ad 0)), (2, .ref (ad 100)), (3, .ref (ad 200)), (4, .int (nI I))]) hx hb dLw_law_962 hl (by decide) rfl (fun ls hl => ?_)
  refine lv_aload_n hx hb dLw_law_964 rfl (lv_at hl 4 rfl) ?_
  refine dq_calli (va_runV (As := []) (rest := []) ⟨hx, hb, hml, hown, hts⟩ (m_thrown l D g ad w2 _ kk n hn cn pl tn sg wy m100) (cwV 0 hts (dq_giV tw4_3 tw4_4 tw4_5 tw1_10 tw4_6) rfl rfl rfl (by decide +kernel) ⟨Nat.le_of_ble_eq_true rfl, Nat.le_of_ble_eq_true rfl⟩) (dq_preV (ci := 8) hW hS hA hK hZ m100 rfl rfl) rfl rfl hl.1 rfl (lv_room (Nat.le_of_ble_eq_true rfl)) dLw_law_965 ⟨hc.1, hc.2⟩) hW hS hA (fun r3 u_9 H locs hp3 hW hS hz9 => ?_)
  obtain ⟨h_r3, hu9⟩ := hp3
  rw [hu9] at hW
  rw [h_r3]
  refine lv_iload hx hb dLw_law_968 (lv_at hl 1 rfl) ?_
  refine lv_icmp_eq (tgt := 975) hx hb dLw_law_970 (by decide) (fun c1 => ?_) (fun c1 => ?_)
  · refine lv_iload hx hb dLw_law_975 (lv_at hl 1 rfl) ?_
    refine lv_if_ne (tgt := 999) hx hb dLw_law_977 (by decide) (fun c2 => ?_) (fun c2 => ?_)
    · refine lv_goto (tgt := 1145) hx hb dLw_law_999 (by decide) ?_
      exact kK _ _ _ hW hS (lv_sub hl [2, 3, 4, 5, 6] rfl)
    · obtain ⟨o200, ho2⟩ := ho c2
      refine lv_aload_n hx hb dLw_law_980 rfl (lv_at hl 5 rfl) ?_
      refine lv_iconst (v := (nI 0)) hx hb dLw_law_981 (by decide) ?_
      refine dq_laldN hx hb hK hW 200 2 o200 rfl 0 (by omega) (by omega) dLw_law_982 ?_
      refine lv_iload hx hb dLw_law_983 (lv_at hl 0 rfl) ?_
      refine lv_if_eq (tgt := 992) hx hb dLw_law_985 (by decide) (fun c3 => ?_) (fun c3 => ?_)
      · refine lv_lconst (v := 0) hx hb dLw_law_992 (by decide) ?_
        refine W.lcmp hx hb dLw_law_993 ?_
        refine lv_if_eq (tgt := 999) hx hb dLw_law_994 (by decide) (fun c4 => ?_) (fun c4 => ?_)
        · refine lv_goto (tgt := 1145) hx hb dLw_law_999 (by decide) ?_
          exact kK _ _ _ hW hS (lv_sub hl [2, 3, 4, 5, 6] rfl)
        · exact absurd (by rw [ho2, if_pos c3]; exact lg_cmp_s _) c4
      · refine lv_lconst (v := 1) hx hb dLw_law_988 (by decide) ?_
        refine lv_goto (tgt := 993) hx hb dLw_law_989 (by decide) ?_
        refine W.lcmp hx hb dLw_law_993 ?_
        refine lv_if_eq (tgt := 999) hx hb dLw_law_994 (by decide) (fun c4 => ?_) (fun c4 => ?_)
        · refine lv_goto (tgt := 1145) hx hb dLw_law_999 (by decide) ?_
          exact kK _ _ _ hW hS (lv_sub hl [2, 3, 4, 5, 6] rfl)
        · exact absurd (by rw [ho2, if_neg c3]; exact lg_cmp_s _) c4
  · exact absurd rfl c1

set_option maxHeartbeats 4000000 in
set_option maxRecDepth 100000 in
/-- the arm of bound -/
theorem A_bound (l : Launch) {p : Program} {e : Env} {s : State} {m : MethodId} {below : List Frame} {meth : Method} {c : Code} {A : Nat → Prop} {Q : State → Prop} {b : Nat} {c0 : Cond} {D : va_G} {g : Nat → ClassId} (hx : p.tables.exec = Jvm.exec) (hb : c.code = cLw_law) (hml : c.maxLocals = 8) (hown : s.vm.findClass RLw = some m.cls) (hts : ∀ w ∈ c0 :: dq_G, w.before ([.ref b] : List Value).toArray s = true) (hA : ∀ q, s.heap.size ≤ q → A q) (hK : va_K D vwCl (dq_t g) s) (hZ : dq_Z A s s.heap) {L : Nat} {xs : Nat → Int32} (hX9 : va_X b L xs s s.heap) (hbl : b < s.heap.size) (hbA : ¬ A b) (hL : L < 2 ^ 31) {I : Nat} (hI : I + 5 < L) (ad : Nat → Nat) (w : Nat → Option va_E) {kk : Int32} {mc ms : Nat} {bb : Int32} {w1 w2 : Nat → Option va_E} {fs1 : List Value} {n hn cn : Nat} {pl : Int32} {tn : Nat} {sg : Int32} {wy : Int64} {o9 : Nat → Int64} (hH : ∀ sz : Nat, Met l yLw_bound wsLw_bound ({ frames := 9, cells := mc, slots := ms, locals := 180 } : Room) (va_Pc [.ref (ad 0), .ref (ad 200)] (dq_S D vwCl (dq_t g) ad w sz)) (va_Qi (fun r u => r = kk ∧ u = w1) (dq_B D vwCl (dq_t g) ad (dq_A ad w sz)) (dq_A ad w sz)) mc ms (dq_A ad w sz)) (hM : ∀ sz : Nat, Met l yMo_bound wsMo_bound ({ frames := 2, cells := 0, slots := 0, locals := 50 } : Room) (va_Pc [.ref (ad 100)] (dq_S D vwCl (dq_t g) ad w1 sz)) (va_Qi (fun r u => r = bb ∧ u = w2) (dq_B D vwCl (dq_t g) ad (dq_A ad w1 sz)) (dq_A ad w1 sz)) 0 0 (dq_A ad w1 sz)) (hm1 : w1 100 = some (.inr (8, fs1))) (m100 : w2 100 = some (.inr (8, [.int kk, .int (nI n), .ref (ad 102), .ref (ad 103), .ref (ad 104), .int (nI hn), .ref (ad 106), .ref (ad 107), .ref (ad 108), .ref (ad 109), .ref (ad 110), .ref (ad 111), .int (nI cn), .ref (ad 113), .int pl, .int (nI tn), .ref (ad 116), .ref (ad 117), .ref (ad 118), .ref (ad 119), .int sg, .ref (ad 121), .long wy, .ref (ad 123), .ref (ad 124), .ref (ad 125), .ref (ad 126), .ref (ad 127), .ref (ad 128)]))) (ho : kk = 0 → w2 200 = some (.inl (g 2, 1, .inr (.inl o9))) ∧ o9 0 = bb.toInt64) {H : Heap} {locs : List Loc} {ls : Array Slot} {cells slots : Nat} (hW : dq_W D vwCl ad w A H) (hS : va_S A s.heap H locs) (hl : lv_has ls 8 [(0, .ref b), (1, .ref (ad 0)), (2, .ref (ad 100)), (3, .ref (ad 200)), (4, .int (nI I))]) (hc : cells + mc ≤ room_1.cells ∧ slots + ms ≤ room_1.slots) (kK : ∀ (H : Heap) (locs : List Loc) (ls : Array Slot), dq_W D vwCl ad w2 A H → va_S A s.heap H locs → lv_has ls 8 [(0, .ref b), (1, .ref (ad 0)), (2, .ref (ad 100)), (3, .ref (ad 200)), (4, .int (nI I))] → W p l e room_1 s m ([.ref b] : List Value).toArray below meth c H locs (cells + mc) (slots + ms) Q (F0 m 1145 ls [])) : W p l e room_1 s m ([.ref b] : List Value).toArray below meth c H locs cells slots Q (F0 m 1002 ls []) := by
  refine lv_aload_n hx hb dLw_law_1002 rfl (lv_at hl 1 rfl) ?_
  refine lv_aload_n hx hb dLw_law_1003 rfl (lv_at hl 3 rfl) ?_
  refine dq_calli (dx_runSW (As := [.ref (ad 0), .ref (ad 200)]) (rest := []) ⟨hx, hb, hml, hown, hts⟩ (hH _) (dx_cwS 2 hts (dq_giS2 tw3_116 tw3_117 tw1_0 tw3_118) rfl rfl rfl (by decide +kernel) ⟨Nat.le_of_ble_eq_true rfl, Nat.le_of_ble_eq_true rfl⟩) (dq_preS hW hS hA hK hZ) rfl rfl hl.1 rfl (lv_room (Nat.le_of_ble_eq_true rfl)) dLw_law_1004 ⟨hc.1, hc.2⟩) hW hS hA (fun r1 u_9 H locs hp1 hW hS hz9 => ?_)
  obtain ⟨h_r1, hu9⟩ := hp1
  rw [hu9] at hW
  rw [h_r1]
  refine lv_istore (lv' := [(5, .int kk), (0, .ref b), (1, .ref (ad 0)), (2, .ref (ad 100)), (3, .ref (ad 200)), (4, .int (nI I))]) hx hb dLw_law_1007 hl (by decide) rfl (fun ls hl => ?_)
  refine lv_aload_n hx hb dLw_law_1009 rfl (lv_at hl 3 rfl) ?_
  refine dq_calli (va_runV (As := []) (rest := []) ⟨hx, hb, hml, hown, hts⟩ (hM _) (cwV 0 hts (dq_giV tw4_119 tw4_120 tw4_121 tw1_10 tw4_122) rfl rfl rfl (by decide +kernel) ⟨Nat.le_of_ble_eq_true rfl, Nat.le_of_ble_eq_true rfl⟩) (dq_preV (ci := 8) hW hS hA hK hZ hm1 rfl rfl) rfl rfl hl.1 rfl (lv_room (Nat.le_of_ble_eq_true rfl)) dLw_law_1010 ⟨hc.1, hc.2⟩) hW hS hA (fun r2 u_9 H locs hp2 hW hS hz9 => ?_)
  obtain ⟨h_r2, hu9⟩ := hp2
  rw [hu9] at hW
  rw [h_r2]
  refine lv_istore (lv' := [(6, .int bb), (5, .int kk), (0, .ref b), (1, .ref (ad 0)), (2, .ref (ad 100)), (3, .ref (ad 200)), (4, .int (nI I))]) hx hb dLw_law_1013 hl (by decide) rfl (fun ls hl => ?_)
  refine lv_aload_n hx hb dLw_law_1015 rfl (lv_at hl 4 rfl) ?_
  refine dq_calli (va_runV (As := []) (rest := []) ⟨hx, hb, hml, hown, hts⟩ (m_thrown l D g ad w2 _ kk n hn cn pl tn sg wy m100) (cwV 0 hts (dq_giV tw4_3 tw4_4 tw4_5 tw1_10 tw4_6) rfl rfl rfl (by decide +kernel) ⟨Nat.le_of_ble_eq_true rfl, Nat.le_of_ble_eq_true rfl⟩) (dq_preV (ci := 8) hW hS hA hK hZ m100 rfl rfl) rfl rfl hl.1 rfl (lv_room (Nat.le_of_ble_eq_true rfl)) dLw_law_1016 ⟨hc.1, hc.2⟩) hW hS hA (fun r3 u_9 H locs hp3 hW hS hz9 => ?_)
  obtain ⟨h_r3, hu9⟩ := hp3
  rw [hu9] at hW
  rw [h_r3]
  refine lv_iload hx hb dLw_law_1019 (lv_at hl 1 rfl) ?_
  refine lv_icmp_eq (tgt := 1026) hx hb dLw_law_1021 (by decide) (fun c1 => ?_) (fun c1 => ?_)
  · refine lv_iload hx hb dLw_law_1026 (lv_at hl 1 rfl) ?_
    refine lv_if_ne (tgt := 1043) hx hb dLw_law_1028 (by decide) (fun c2 => ?_) (fun c2 => ?_)
    · refine lv_goto (tgt := 1145) hx hb dLw_law_1043 (by decide) ?_
      exact kK _ _ _ hW hS (lv_sub hl [2, 3, 4, 5, 6] rfl)
    · obtain ⟨o200, ho2⟩ := ho c2
      refine lv_aload_n hx hb dLw_law_1031 rfl (lv_at hl 5 rfl) ?_
      refine lv_iconst (v := (nI 0)) hx hb dLw_law_1032 (by decide) ?_
      refine dq_laldN hx hb hK hW 200 2 o200 rfl 0 (by omega) (by omega) dLw_law_1033 ?_
      refine lv_iload hx hb dLw_law_1034 (lv_at hl 0 rfl) ?_
      refine lv_i2l hx hb dLw_law_1036 rfl ?_
      refine W.lcmp hx hb dLw_law_1037 ?_
      refine lv_if_eq (tgt := 1043) hx hb dLw_law_1038 (by decide) (fun c4 => ?_) (fun c4 => ?_)
      · refine lv_goto (tgt := 1145) hx hb dLw_law_1043 (by decide) ?_
        exact kK _ _ _ hW hS (lv_sub hl [2, 3, 4, 5, 6] rfl)
      · exact absurd (by rw [ho2]; exact lg_cmp_s _) c4
  · exact absurd rfl c1

set_option maxHeartbeats 4000000 in
set_option maxRecDepth 100000 in
/-- the arm of places -/
theorem A_places (l : Launch) {p : Program} {e : Env} {s : State} {m : MethodId} {below : List Frame} {meth : Method} {c : Code} {A : Nat → Prop} {Q : State → Prop} {b : Nat} {c0 : Cond} {D : va_G} {g : Nat → ClassId} (hx : p.tables.exec = Jvm.exec) (hb : c.code = cLw_law) (hml : c.maxLocals = 8) (hown : s.vm.findClass RLw = some m.cls) (hts : ∀ w ∈ c0 :: dq_G, w.before ([.ref b] : List Value).toArray s = true) (hA : ∀ q, s.heap.size ≤ q → A q) (hK : va_K D vwCl (dq_t g) s) (hZ : dq_Z A s s.heap) {L : Nat} {xs : Nat → Int32} (hX9 : va_X b L xs s s.heap) (hbl : b < s.heap.size) (hbA : ¬ A b) (hL : L < 2 ^ 31) {I : Nat} (hI : I + 5 < L) (ad : Nat → Nat) (w : Nat → Option va_E) {kk : Int32} {mc ms : Nat} {bb : Int32} {w1 w2 : Nat → Option va_E} {fs1 : List Value} {n hn cn : Nat} {pl : Int32} {tn : Nat} {sg : Int32} {wy : Int64} {o9 : Nat → Int64} {a1 : Int32} (e1 : xs (I + 1) = a1) (hH : ∀ sz : Nat, Met l yLw_places wsLw_places ({ frames := 9, cells := mc, slots := ms, locals := 180 } : Room) (va_Pc [.ref (ad 0), .int a1, .ref (ad 200)] (dq_S D vwCl (dq_t g) ad w sz)) (va_Qi (fun r u => r = kk ∧ u = w1) (dq_B D vwCl (dq_t g) ad (dq_A ad w sz)) (dq_A ad w sz)) mc ms (dq_A ad w sz)) (hM : ∀ sz : Nat, Met l yMo_places wsMo_places ({ frames := 3, cells := 0, slots := 0, locals := 84 } : Room) (va_Pc [.ref (ad 100), .int a1] (dq_S D vwCl (dq_t g) ad w1 sz)) (va_Qi (fun r u => r = bb ∧ u = w2) (dq_B D vwCl (dq_t g) ad (dq_A ad w1 sz)) (dq_A ad w1 sz)) 0 0 (dq_A ad w1 sz)) (hm1 : w1 100 = some (.inr (8, fs1))) (m100 : w2 100 = some (.inr (8, [.int kk, .int (nI n), .ref (ad 102), .ref (ad 103), .ref (ad 104), .int (nI hn), .ref (ad 106), .ref (ad 107), .ref (ad 108), .ref (ad 109), .ref (ad 110), .ref (ad 111), .int (nI cn), .ref (ad 113), .int pl, .int (nI tn), .ref (ad 116), .ref (ad 117), .ref (ad 118), .ref (ad 119), .int sg, .ref (ad 121), .long wy, .ref (ad 123), .ref (ad 124), .ref (ad 125), .ref (ad 126), .ref (ad 127), .ref (ad 128)]))) (ho : kk = 0 → w2 200 = some (.inl (g 2, 1, .inr (.inl o9))) ∧ o9 0 = bb.toInt64) {H : Heap} {locs : List Loc} {ls : Array Slot} {cells slots : Nat} (hW : dq_W D vwCl ad w A H) (hS : va_S A s.heap H locs) (hl : lv_has ls 8 [(0, .ref b), (1, .ref (ad 0)), (2, .ref (ad 100)), (3, .ref (ad 200)), (4, .int (nI I))]) (hc : cells + mc ≤ room_1.cells ∧ slots + ms ≤ room_1.slots) (kK : ∀ (H : Heap) (locs : List Loc) (ls : Array Slot), dq_W D vwCl ad w2 A H → va_S A s.heap H locs → lv_has ls 8 [(0, .ref b), (1, .ref (ad 0)), (2, .ref (ad 100)), (3, .ref (ad 200)), (4, .int (nI I))] → W p l e room_1 s m ([.ref b] : List Value).toArray below meth c H locs (cells + mc) (slots + ms) Q (F0 m 1145 ls [])) : W p l e room_1 s m ([.ref b] : List Value).toArray below meth c H locs cells slots Q (F0 m 1046 ls []) := by
  refine lv_aload_n hx hb dLw_law_1046 rfl (lv_at hl 1 rfl) ?_
  refine lv_aload_n hx hb dLw_law_1047 rfl (lv_at hl 0 rfl) ?_
  refine lv_iload hx hb dLw_law_1048 (lv_at hl 4 rfl) ?_
  refine lv_iconst (v := (nI 1)) hx hb dLw_law_1050 (by decide) ?_
  refine lv_iadd hx hb dLw_law_1051 ?_
  refine dq_top (y := nI (I + 1)) (nI_add I 1) ?_
  refine dq_sldN hx hb hX9 hbl hbA hS (k := (I + 1)) (by omega) hL dLw_law_1052 ?_
  refine dq_top (y := a1) e1 ?_
  refine lv_aload_n hx hb dLw_law_1053 rfl (lv_at hl 3 rfl) ?_
  refine dq_calli (dx_runSW (As := [.ref (ad 0), .int a1, .ref (ad 200)]) (rest := []) ⟨hx, hb, hml, hown, hts⟩ (hH _) (dx_cwS 3 hts (dq_giS2 tw3_133 tw3_134 tw1_0 tw3_135) rfl rfl rfl (by decide +kernel) ⟨Nat.le_of_ble_eq_true rfl, Nat.le_of_ble_eq_true rfl⟩) (dq_preS hW hS hA hK hZ) rfl rfl hl.1 rfl (lv_room (Nat.le_of_ble_eq_true rfl)) dLw_law_1054 ⟨hc.1, hc.2⟩) hW hS hA (fun r1 u_9 H locs hp1 hW hS hz9 => ?_)
  obtain ⟨h_r1, hu9⟩ := hp1
  rw [hu9] at hW
  rw [h_r1]
  refine lv_istore (lv' := [(5, .int kk), (0, .ref b), (1, .ref (ad 0)), (2, .ref (ad 100)), (3, .ref (ad 200)), (4, .int (nI I))]) hx hb dLw_law_1057 hl (by decide) rfl (fun ls hl => ?_)
  refine lv_aload_n hx hb dLw_law_1059 rfl (lv_at hl 3 rfl) ?_
  refine lv_aload_n hx hb dLw_law_1060 rfl (lv_at hl 1 rfl) ?_
  refine lv_iload hx hb dLw_law_1061 (lv_at hl 5 rfl) ?_
  refine lv_iconst (v := (nI 1)) hx hb dLw_law_1063 (by decide) ?_
  refine lv_iadd hx hb dLw_law_1064 ?_
  refine dq_top (y := nI (I + 1)) (nI_add I 1) ?_
  refine dq_sldN hx hb hX9 hbl hbA hS (k := (I + 1)) (by omega) hL dLw_law_1065 ?_
  refine dq_top (y := a1) e1 ?_
  refine dq_calli (va_runV (As := [.int a1]) (rest := []) ⟨hx, hb, hml, hown, hts⟩ (hM _) (cwV 1 hts (dq_giV tw4_34 tw4_35 tw4_36 tw1_10 tw4_37) rfl rfl rfl (by decide +kernel) ⟨Nat.le_of_ble_eq_true rfl, Nat.le_of_ble_eq_true rfl⟩) (dq_preV (ci := 8) hW hS hA hK hZ hm1 rfl rfl) rfl rfl hl.1 rfl (lv_room (Nat.le_of_ble_eq_true rfl)) dLw_law_1066 ⟨hc.1, hc.2⟩) hW hS hA (fun r2 u_9 H locs hp2 hW hS hz9 => ?_)
  obtain ⟨h_r2, hu9⟩ := hp2
  rw [hu9] at hW
  rw [h_r2]
  refine lv_istore (lv' := [(6, .int bb), (5, .int kk), (0, .ref b), (1, .ref (ad 0)), (2, .ref (ad 100)), (3, .ref (ad 200)), (4, .int (nI I))]) hx hb dLw_law_1069 hl (by decide) rfl (fun ls hl => ?_)
  refine lv_aload_n hx hb dLw_law_1071 rfl (lv_at hl 4 rfl) ?_
  refine dq_calli (va_runV (As := []) (rest := []) ⟨hx, hb, hml, hown, hts⟩ (m_thrown l D g ad w2 _ kk n hn cn pl tn sg wy m100) (cwV 0 hts (dq_giV tw4_3 tw4_4 tw4_5 tw1_10 tw4_6) rfl rfl rfl (by decide +kernel) ⟨Nat.le_of_ble_eq_true rfl, Nat.le_of_ble_eq_true rfl⟩) (dq_preV (ci := 8) hW hS hA hK hZ m100 rfl rfl) rfl rfl hl.1 rfl (lv_room (Nat.le_of_ble_eq_true rfl)) dLw_law_1072 ⟨hc.1, hc.2⟩) hW hS hA (fun r3 u_9 H locs hp3 hW hS hz9 => ?_)
  obtain ⟨h_r3, hu9⟩ := hp3
  rw [hu9] at hW
  rw [h_r3]
  refine lv_iload hx hb dLw_law_1075 (lv_at hl 1 rfl) ?_
  refine lv_icmp_eq (tgt := 1082) hx hb dLw_law_1077 (by decide) (fun c1 => ?_) (fun c1 => ?_)
  · refine lv_iload hx hb dLw_law_1082 (lv_at hl 1 rfl) ?_
    refine lv_if_ne (tgt := 1099) hx hb dLw_law_1084 (by decide) (fun c2 => ?_) (fun c2 => ?_)
    · refine lv_goto (tgt := 1145) hx hb dLw_law_1099 (by decide) ?_
      exact kK _ _ _ hW hS (lv_sub hl [2, 3, 4, 5, 6] rfl)
    · obtain ⟨o200, ho2⟩ := ho c2
      refine lv_aload_n hx hb dLw_law_1087 rfl (lv_at hl 5 rfl) ?_
      refine lv_iconst (v := (nI 0)) hx hb dLw_law_1088 (by decide) ?_
      refine dq_laldN hx hb hK hW 200 2 o200 rfl 0 (by omega) (by omega) dLw_law_1089 ?_
      refine lv_iload hx hb dLw_law_1090 (lv_at hl 0 rfl) ?_
      refine lv_i2l hx hb dLw_law_1092 rfl ?_
      refine W.lcmp hx hb dLw_law_1093 ?_
      refine lv_if_eq (tgt := 1099) hx hb dLw_law_1094 (by decide) (fun c4 => ?_) (fun c4 => ?_)
      · refine lv_goto (tgt := 1145) hx hb dLw_law_1099 (by decide) ?_
        exact kK _ _ _ hW hS (lv_sub hl [2, 3, 4, 5, 6] rfl)
      · exact absurd (by rw [ho2]; exact lg_cmp_s _) c4
  · exact absurd rfl c1

set_option maxHeartbeats 4000000 in
set_option maxRecDepth 100000 in
/-- the arm of seconds -/
theorem A_seconds (l : Launch) {p : Program} {e : Env} {s : State} {m : MethodId} {below : List Frame} {meth : Method} {c : Code} {A : Nat → Prop} {Q : State → Prop} {b : Nat} {c0 : Cond} {D : va_G} {g : Nat → ClassId} (hx : p.tables.exec = Jvm.exec) (hb : c.code = cLw_law) (hml : c.maxLocals = 8) (hown : s.vm.findClass RLw = some m.cls) (hts : ∀ w ∈ c0 :: dq_G, w.before ([.ref b] : List Value).toArray s = true) (hA : ∀ q, s.heap.size ≤ q → A q) (hK : va_K D vwCl (dq_t g) s) (hZ : dq_Z A s s.heap) {L : Nat} {xs : Nat → Int32} (hX9 : va_X b L xs s s.heap) (hbl : b < s.heap.size) (hbA : ¬ A b) (hL : L < 2 ^ 31) {I : Nat} (hI : I + 5 < L) (ad : Nat → Nat) (w : Nat → Option va_E) {kk : Int32} {mc ms : Nat} {bb : Int64} {w1 w2 : Nat → Option va_E} {fs1 : List Value} {n hn cn : Nat} {pl : Int32} {tn : Nat} {sg : Int32} {wy : Int64} {o9 : Nat → Int64} (hH : ∀ sz : Nat, Met l yLw_seconds wsLw_seconds ({ frames := 9, cells := mc, slots := ms, locals := 180 } : Room) (va_Pc [.ref (ad 0), .ref (ad 200)] (dq_S D vwCl (dq_t g) ad w sz)) (va_Qi (fun r u => r = kk ∧ u = w1) (dq_B D vwCl (dq_t g) ad (dq_A ad w sz)) (dq_A ad w sz)) mc ms (dq_A ad w sz)) (hM : ∀ sz : Nat, Met l yMo_seconds wsMo_seconds ({ frames := 2, cells := 0, slots := 0, locals := 50 } : Room) (va_Pc [.ref (ad 100)] (dq_S D vwCl (dq_t g) ad w1 sz)) (va_Ql (fun r u => r = bb ∧ u = w2) (dq_B D vwCl (dq_t g) ad (dq_A ad w1 sz)) (dq_A ad w1 sz)) 0 0 (dq_A ad w1 sz)) (hm1 : w1 100 = some (.inr (8, fs1))) (m100 : w2 100 = some (.inr (8, [.int kk, .int (nI n), .ref (ad 102), .ref (ad 103), .ref (ad 104), .int (nI hn), .ref (ad 106), .ref (ad 107), .ref (ad 108), .ref (ad 109), .ref (ad 110), .ref (ad 111), .int (nI cn), .ref (ad 113), .int pl, .int (nI tn), .ref (ad 116), .ref (ad 117), .ref (ad 118), .ref (ad 119), .int sg, .ref (ad 121), .long wy, .ref (ad 123), .ref (ad 124), .ref (ad 125), .ref (ad 126), .ref (ad 127), .ref (ad 128)]))) (ho : kk = 0 → w2 200 = some (.inl (g 2, 1, .inr (.inl o9))) ∧ o9 0 = bb) {H : Heap} {locs : List Loc} {ls : Array Slot} {cells slots : Nat} (hW : dq_W D vwCl ad w A H) (hS : va_S A s.heap H locs) (hl : lv_has ls 8 [(0, .ref b), (1, .ref (ad 0)), (2, .ref (ad 100)), (3, .ref (ad 200)), (4, .int (nI I))]) (hc : cells + mc ≤ room_1.cells ∧ slots + ms ≤ room_1.slots) (kK : ∀ (H : Heap) (locs : List Loc) (ls : Array Slot), dq_W D vwCl ad w2 A H → va_S A s.heap H locs → lv_has ls 8 [(0, .ref b), (1, .ref (ad 0)), (2, .ref (ad 100)), (3, .ref (ad 200)), (4, .int (nI I))] → W p l e room_1 s m ([.ref b] : List Value).toArray below meth c H locs (cells + mc) (slots + ms) Q (F0 m 1145 ls [])) : W p l e room_1 s m ([.ref b] : List Value).toArray below meth c H locs cells slots Q (F0 m 1102 ls []) := by
  refine lv_aload_n hx hb dLw_law_1102 rfl (lv_at hl 1 rfl) ?_
  refine lv_aload_n hx hb dLw_law_1103 rfl (lv_at hl 3 rfl) ?_
  refine dq_calli (dx_runSW (As := [.ref (ad 0), .ref (ad 200)]) (rest := []) ⟨hx, hb, hml, hown, hts⟩ (hH _) (dx_cwS 2 hts (dq_giS2 tw3_140 tw3_141 tw1_0 tw3_142) rfl rfl rfl (by decide +kernel) ⟨Nat.le_of_ble_eq_true rfl, Nat.le_of_ble_eq_true rfl⟩) (dq_preS hW hS hA hK hZ) rfl rfl hl.1 rfl (lv_room (Nat.le_of_ble_eq_true rfl)) dLw_law_1104 ⟨hc.1, hc.2⟩) hW hS hA (fun r1 u_9 H locs hp1 hW hS hz9 => ?_)
  obtain ⟨h_r1, hu9⟩ := hp1
  rw [hu9] at hW
  rw [h_r1]
  refine lv_istore (lv' := [(5, .int kk), (0, .ref b), (1, .ref (ad 0)), (2, .ref (ad 100)), (3, .ref (ad 200)), (4, .int (nI I))]) hx hb dLw_law_1107 hl (by decide) rfl (fun ls hl => ?_)
  refine lv_aload_n hx hb dLw_law_1109 rfl (lv_at hl 3 rfl) ?_
  refine dq_calll (va_runV (As := []) (rest := []) ⟨hx, hb, hml, hown, hts⟩ (hM _) (cwV 0 hts (dq_giV tw4_127 tw4_128 tw4_129 tw1_10 tw4_130) rfl rfl rfl (by decide +kernel) ⟨Nat.le_of_ble_eq_true rfl, Nat.le_of_ble_eq_true rfl⟩) (dq_preV (ci := 8) hW hS hA hK hZ hm1 rfl rfl) rfl rfl hl.1 rfl (lv_room (Nat.le_of_ble_eq_true rfl)) dLw_law_1110 ⟨hc.1, hc.2⟩) hW hS hA (fun r2 u_9 H locs hp2 hW hS hz9 => ?_)
  obtain ⟨h_r2, hu9⟩ := hp2
  rw [hu9] at hW
  rw [h_r2]
  refine lv_lstore (lv' := [(6, .long bb), (5, .int kk), (0, .ref b), (1, .ref (ad 0)), (2, .ref (ad 100)), (3, .ref (ad 200)), (4, .int (nI I))]) hx hb dLw_law_1113 hl (by decide) rfl (fun ls hl => ?_)
  refine lv_aload_n hx hb dLw_law_1115 rfl (lv_at hl 4 rfl) ?_
  refine dq_calli (va_runV (As := []) (rest := []) ⟨hx, hb, hml, hown, hts⟩ (m_thrown l D g ad w2 _ kk n hn cn pl tn sg wy m100) (cwV 0 hts (dq_giV tw4_3 tw4_4 tw4_5 tw1_10 tw4_6) rfl rfl rfl (by decide +kernel) ⟨Nat.le_of_ble_eq_true rfl, Nat.le_of_ble_eq_true rfl⟩) (dq_preV (ci := 8) hW hS hA hK hZ m100 rfl rfl) rfl rfl hl.1 rfl (lv_room (Nat.le_of_ble_eq_true rfl)) dLw_law_1116 ⟨hc.1, hc.2⟩) hW hS hA (fun r3 u_9 H locs hp3 hW hS hz9 => ?_)
  obtain ⟨h_r3, hu9⟩ := hp3
  rw [hu9] at hW
  rw [h_r3]
  refine lv_iload hx hb dLw_law_1119 (lv_at hl 1 rfl) ?_
  refine lv_icmp_eq (tgt := 1126) hx hb dLw_law_1121 (by decide) (fun c1 => ?_) (fun c1 => ?_)
  · refine lv_iload hx hb dLw_law_1126 (lv_at hl 1 rfl) ?_
    refine lv_if_ne (tgt := 1142) hx hb dLw_law_1128 (by decide) (fun c2 => ?_) (fun c2 => ?_)
    · refine lv_goto (tgt := 1145) hx hb dLw_law_1142 (by decide) ?_
      exact kK _ _ _ hW hS (lv_sub hl [2, 3, 4, 5, 6] rfl)
    · obtain ⟨o200, ho2⟩ := ho c2
      refine lv_aload_n hx hb dLw_law_1131 rfl (lv_at hl 5 rfl) ?_
      refine lv_iconst (v := (nI 0)) hx hb dLw_law_1132 (by decide) ?_
      refine dq_laldN hx hb hK hW 200 2 o200 rfl 0 (by omega) (by omega) dLw_law_1133 ?_
      refine lv_lload hx hb dLw_law_1134 (lv_at hl 0 rfl) ?_
      refine W.lcmp hx hb dLw_law_1136 ?_
      refine lv_if_eq (tgt := 1142) hx hb dLw_law_1137 (by decide) (fun c4 => ?_) (fun c4 => ?_)
      · refine lv_goto (tgt := 1145) hx hb dLw_law_1142 (by decide) ?_
        exact kK _ _ _ hW hS (lv_sub hl [2, 3, 4, 5, 6] rfl)
      · exact absurd (by rw [ho2]; exact lg_cmp_s _) c4
  · exact absurd rfl c1
