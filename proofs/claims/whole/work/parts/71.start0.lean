theorem lw_in1 (i : Nat) {w : Cond} (h0 : tables_1_1[i]? = some w) : w ∈ lw_tbl := by
  have h := List.mem_of_getElem? h0
  exact List.mem_append_right _ (List.mem_append_left _ h)
theorem lw_in2 (i : Nat) {w : Cond} (h0 : tables_1_2[i]? = some w) : w ∈ lw_tbl := by
  have h := List.mem_of_getElem? h0
  exact List.mem_append_right _ (List.mem_append_right _ (List.mem_append_left _ h))
theorem lw_in3 (i : Nat) {w : Cond} (h0 : tables_1_3[i]? = some w) : w ∈ lw_tbl := by
  have h := List.mem_of_getElem? h0
  exact List.mem_append_right _ (List.mem_append_right _ (List.mem_append_right _ (List.mem_append_left _ h)))
theorem lw_in4 (i : Nat) {w : Cond} (h0 : tables_1_4[i]? = some w) : w ∈ lw_tbl := by
  have h := List.mem_of_getElem? h0
  exact List.mem_append_right _ (List.mem_append_right _ (List.mem_append_right _ (List.mem_append_right _ h)))
theorem lw_dqG : ∀ w ∈ dq_G, w ∈ lw_tbl := fun w h => (List.mem_filter.mp h).1
theorem dx_L.of {C n d : String} {A : Nat → Prop} {s : State} {args : Array Value} (h : (Cond.laysStatic C n d).before args s = true) (hA : ∀ a : Nat, a < s.heap.size → ¬ A a) : dx_L C n d A s s.heap := by
  obtain ⟨c, k, i, f, a, cell, h1, h2, h3, h4, h5, h6, h7, h8, h9⟩ := Cond.laysStatic_spec h
  exact ⟨c, k, i, f, a, cell, h1, h2, h3, h4, h5, h6, h7, h8, h9, hA a (Array.getElem?_eq_some_iff.mp h5).1⟩
theorem vk_str {own tx : String} {k : Nat} {s : State} {args : Array Value} (h1 : (Cond.stringRef own k tx).before args s = true) (h2 : (Cond.exactly (.string own k) "java/lang/String").before args s = true) : ∃ sa : Nat, vk_R own k tx sa s := by
  obtain ⟨a, c, cA, kA, q1, -⟩ := Cond.exactly_spec (args := args) (first := s) (o := none) (s := s) (idx := []) (t := .string own k) (cls := "java/lang/String") h2
  exact ⟨a, vk_R.of (A := args) h1 q1⟩
set_option maxHeartbeats 4000000 in
set_option maxRecDepth 100000 in
/-- what the start gives for calls, throws and catches -/
theorem st_Z {s : State} {b : Nat} (hts : ∀ w ∈ lw_tbl, w.before #[Value.ref b] s = true) (hgv : (Jvm.Cond.and given_1 narrow_1).before #[Value.ref b] s = true) : dq_Z (fun q : Nat => s.heap.size ≤ q) s s.heap := by
  have hs := flat_of_before _ hgv
  have hA : ∀ a : Nat, a < s.heap.size → ¬ (fun q : Nat => s.heap.size ≤ q) a := fun a h => Nat.not_le.mpr h
  exact ⟨va_Nw.of rfl (hts _ (lw_in1 71 (by decide +kernel))),
    va_Nw.of rfl (hts _ (lw_in1 109 (by decide +kernel))),
    va_Nw.of rfl (hts _ (lw_in1 133 (by decide +kernel))),
    va_Nw.of rfl (hts _ (lw_in1 158 (by decide +kernel))),
    va_Nw.of rfl (hts _ (lw_in1 188 (by decide +kernel))),
    va_Nw.of rfl (hts _ (lw_in1 198 (by decide +kernel))),
    va_Nw.of rfl (hts _ (lw_in2 55 (by decide +kernel))),
    va_Nw.of rfl (hts _ (lw_in2 84 (by decide +kernel))),
    va_Nw.of rfl (hts _ (lw_in2 101 (by decide +kernel))),
    va_Nw.of rfl (hts _ (lw_in3 86 (by decide +kernel))),
    va_Nw.of rfl (hts _ (lw_in2 130 (by decide +kernel))),
    va_Nw.of rfl (hts _ (lw_in2 204 (by decide +kernel))),
    va_Nw.of rfl (hts _ (lw_in2 238 (by decide +kernel))),
    va_Nw.of rfl (hts _ (lw_in2 132 (by decide +kernel))),
    va_Nw.of rfl (hts _ (lw_in2 134 (by decide +kernel))),
    va_Nw.of rfl (hts _ (lw_in2 136 (by decide +kernel))),
    va_Nc.of (hs (.not (.castable "java/lang/IllegalArgumentException" "java/lang/IndexOutOfBoundsException")) (by decide +kernel)),
    va_Nc.of (hs (.not (.castable "java/lang/IllegalArgumentException" "java/lang/IllegalStateException")) (by decide +kernel)),
    va_Nc.of (hs (.not (.castable "java/lang/IndexOutOfBoundsException" "java/lang/IllegalStateException")) (by decide +kernel)),
    va_Zqof (hts _ (lw_in2 155 (by decide +kernel))) (hts _ (lw_in1 11 (by decide +kernel))) (hs (.isRef (.static "java/lang/Throwable" "UNASSIGNED_STACK" "[Ljava/lang/StackTraceElement;")) (by decide +kernel)) hA,
    dx_L.of (hts _ (lw_in2 155 (by decide +kernel))) hA,
    va_Zqof (hts _ (lw_in2 157 (by decide +kernel))) (hts _ (lw_in1 11 (by decide +kernel))) (hs (.isRef (.static "java/lang/Throwable" "SUPPRESSED_SENTINEL" "Ljava/util/List;")) (by decide +kernel)) hA,
    dx_L.of (hts _ (lw_in2 157 (by decide +kernel))) hA,
    va_AO.of (hts _ (lw_in1 131 (by decide +kernel))),
    vk_str (hts _ (lw_in2 169 (by decide +kernel))) (hs (.exactly (.string "DrillHeads" 75) "java/lang/String") (by decide +kernel)),
    vk_str (hts _ (lw_in2 211 (by decide +kernel))) (hs (.exactly (.string "DrillHeads" 225) "java/lang/String") (by decide +kernel)),
    vk_str (hts _ (lw_in3 5 (by decide +kernel))) (hs (.exactly (.string "DrillHeads" 102) "java/lang/String") (by decide +kernel)),
    vk_str (hts _ (lw_in3 27 (by decide +kernel))) (hs (.exactly (.string "DrillHeads" 221) "java/lang/String") (by decide +kernel)),
    vk_str (hts _ (lw_in3 60 (by decide +kernel))) (hs (.exactly (.string "DrillHeads" 219) "java/lang/String") (by decide +kernel)),
    vk_str (hts _ (lw_in3 65 (by decide +kernel))) (hs (.exactly (.string "DrillHeads" 223) "java/lang/String") (by decide +kernel)),
    vk_str (hts _ (lw_in3 66 (by decide +kernel))) (hs (.exactly (.string "DrillHeads" 157) "java/lang/String") (by decide +kernel))⟩
set_option maxHeartbeats 4000000 in
set_option maxRecDepth 100000 in
/-- the classes and the arrays -/
theorem st_K {s : State} {b : Nat} (hts : ∀ w ∈ lw_tbl, w.before #[Value.ref b] s = true) : ∃ (D : va_G) (g : Nat → ClassId), va_K D vwCl (dq_t g) s := by
  obtain ⟨c0, i0, k0⟩ := u_known (C := RCl) (T := TCl) (N := 5) (n := 5) hts (fun w h => lw_dqG w (inCl w h)) (hts _ (lw_dqG _ tw1_108))
  obtain ⟨c1, i1, k1⟩ := u_known (C := RHd) (T := THd) (N := 7) (n := 7) hts (fun w h => lw_dqG w (inHd w h)) (hts _ (lw_dqG _ tw1_27))
  obtain ⟨c2, i2, k2⟩ := u_known (C := RHt) (T := THt) (N := 5) (n := 5) hts (fun w h => lw_dqG w (inHt w h)) (hts _ (lw_dqG _ tw1_157))
  obtain ⟨c3, i3, k3⟩ := u_known (C := RPt) (T := TPt) (N := 7) (n := 7) hts (fun w h => lw_dqG w (inPt w h)) (hts _ (lw_dqG _ tw1_70))
  obtain ⟨c4, i4, k4⟩ := u_known (C := RPl) (T := TPl) (N := 4) (n := 4) hts (fun w h => lw_dqG w (inPl w h)) (hts _ (lw_dqG _ tw1_132))
  obtain ⟨c5, i5, k5⟩ := u_known (C := RTb) (T := TTb) (N := 1) (n := 1) hts (fun w h => lw_dqG w (inTb w h)) (hts _ (lw_dqG _ tw1_187))
  obtain ⟨c6, i6, k6⟩ := u_known (C := RWy) (T := TWy) (N := 3) (n := 3) hts (fun w h => lw_dqG w (inWy w h)) (hts _ (lw_dqG _ tw1_197))
  obtain ⟨c7, i7, k7⟩ := u_known (C := RDH) (T := TDH) (N := 9) (n := 9) hts (fun w h => lw_dqG w (inDH w h)) (hts _ (lw_dqG _ tw1_19))
  obtain ⟨c8, i8, k8⟩ := u_known (C := RMo) (T := TMo) (N := 29) (n := 29) hts (fun w h => lw_dqG w (inMo w h)) (hts _ (lw_dqG _ tw3_149))
  obtain ⟨a0, ka0, co0, p0, q0, r0⟩ := Cond.arrayClass_spec (hts _ (lw_dqG _ tw1_68))
  obtain ⟨a1, ka1, co1, p1, q1, r1⟩ := Cond.arrayClass_spec (hts _ (lw_dqG _ tw1_106))
  obtain ⟨a2, ka2, co2, p2, q2, r2⟩ := Cond.arrayClass_spec (hts _ (lw_dqG _ tw4_2))
  obtain ⟨co3, a3, ka3, f3, -, q3, r3, p3⟩ := Cond.arrayOver_spec (n := RPl) (hts _ (lw_in1 131 (by decide +kernel)))
  refine ⟨(fun k => match k with | 0 => c0 | 1 => c1 | 2 => c2 | 3 => c3 | 4 => c4 | 5 => c5 | 6 => c6 | 7 => c7 | _ => c8, fun k => match k with | 0 => i0 | 1 => i1 | 2 => i2 | 3 => i3 | 4 => i4 | 5 => i5 | 6 => i6 | 7 => i7 | _ => i8), fun k => match k with | 0 => a0 | 1 => a1 | 2 => a2 | _ => a3, ?_, ?_⟩
  · intro k q hq
    match k, hq with
    | 0, hq => cases hq; exact k0
    | 1, hq => cases hq; exact k1
    | 2, hq => cases hq; exact k2
    | 3, hq => cases hq; exact k3
    | 4, hq => cases hq; exact k4
    | 5, hq => cases hq; exact k5
    | 6, hq => cases hq; exact k6
    | 7, hq => cases hq; exact k7
    | 8, hq => cases hq; exact k8
    | k + 9, hq => simp [vwCl] at hq
  · intro k q hq
    match k, hq with
    | 0, hq => cases hq; exact ⟨fun n z => ⟨fun k h => (by cases h), ka0, q0, co0, r0⟩, p0⟩
    | 1, hq => cases hq; exact ⟨fun n z => ⟨fun k h => (by cases h), ka1, q1, co1, r1⟩, p1⟩
    | 2, hq => cases hq; exact ⟨fun n z => ⟨fun k h => (by cases h), ka2, q2, co2, r2⟩, p2⟩
    | 3, hq => cases hq; exact ⟨fun n z => ⟨fun k h => (by cases h), ka3, q3, co3, r3⟩, ka3, co3, q3, r3, f3, p3⟩
    | k + 4, hq => simp [dq_t] at hq
/-- cell(script, 0) -/
theorem cl_blind {b L : Nat} {xs : Nat → Int32} {av : List Value} : FrameBlind (va_Pc av (fun U => va_X b L xs U U.heap)) := by
  intro a U g mk q
  exact ⟨q.1, va_X.moved (u := U) (U := U.calling g mk a) (Vm.Alike.refl U.vm) q.2⟩
theorem c_cell (l : Launch) (b L : Nat) (xs : Nat → Int32) (hL : L < 2 ^ 31) : Met l yLw_cell wsLw_cell ({ frames := 0, cells := 0, slots := 0, locals := 0 } : Room) (va_Pc [.ref b, .int 0] (fun U => va_X b L xs U U.heap)) (va_Sr (fun _ => True) (fun _ => .int (if 0 < L then xs 0 else 0))) 0 0 (fun _ => False) := by
  refine Met.ofW (cc := cLw_cell) (maxL := 2) (ret := some .int) (by decide) rfl ?_
  intro p e s m args below meth c s₁ B hml hv
  obtain ⟨rfl, hX⟩ := hv
  have hx := B.exec
  have hb : c.code = cLw_cell := B.bytes
  have hlocks := B.notSynchronized
  have hbl : b < s.heap.size := by
    obtain ⟨scr, h1, -⟩ := hX
    exact (Array.getElem?_eq_some_iff.mp h1).1
  have hS : va_S (fun _ => False) s.heap s.heap [] := va_S.rf
  rw [lg_entry_eq]
  have hl := lv_entry [.ref b, .int 0] (n := 2) (Nat.le_of_ble_eq_true rfl)
  generalize (lg_sl [.ref b, .int 0] ++ List.replicate (2 - (lg_sl [.ref b, .int 0]).length) Slot.unset).toArray = ls at hl ⊢
  have hl : lv_has ls 2 [(0, .ref b), (1, .int 0)] := hl
  refine lv_iload_n hx hb dLw_cell_0 rfl (lv_at hl 1 rfl) ?_
  refine lv_aload_n hx hb dLw_cell_1 rfl (lv_at hl 0 rfl) ?_
  refine va_slen hx hb hX hbl (fun h => h) hS dLw_cell_2 ?_
  refine lv_icmp_ge (tgt := 12) hx hb dLw_cell_3 (by decide) (fun c1 => ?_) (fun c1 => ?_)
  · have h0 : ¬ 0 < L := fun h => nI_nle h hL c1
    refine lv_iconst (v := 0) hx hb dLw_cell_12 (by decide) ?_
    exact W.iret (v := 0) B.exec B.bytes B.returns (fun t ht hw9 => ⟨0, by rw [if_neg h0], trivial, ht⟩) (fun q h => by cases h) dLw_cell_13
  · have h0 : 0 < L := by
      rcases Nat.eq_zero_or_pos L with h | h
      · subst h
        exact absurd (Int32.le_refl _) c1
      · exact h
    refine lv_aload_n hx hb dLw_cell_6 rfl (lv_at hl 0 rfl) ?_
    refine lv_iload_n hx hb dLw_cell_7 rfl (lv_at hl 1 rfl) ?_
    refine dq_top (y := nI 0) nI_0.symm ?_
    refine dq_sldN hx hb hX hbl (fun h => h) hS (k := 0) h0 hL dLw_cell_8 ?_
    refine lv_goto (tgt := 13) hx hb dLw_cell_9 (by decide) ?_
    exact W.iret (v := xs 0) B.exec B.bytes B.returns (fun t ht hw9 => ⟨0, by rw [if_pos h0], trivial, ht⟩) (fun q h => by cases h) dLw_cell_13
