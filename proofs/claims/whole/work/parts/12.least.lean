set_option maxHeartbeats 4000000 in
set_option maxRecDepth 100000 in
/-- Integer.numberOfTrailingZeros -/
theorem c_ntz (l : Launch) (D : va_G) (g : Nat → ClassId) (ad : Nat → Nat) (w : Nat → Option va_E) (sz : Nat) (S : Nat)  (hS0 : 0 < S) (hS9 : S < 16384) : Met l yIn_numberOfTrailingZeros wsIn_numberOfTrailingZeros ({ frames := 0, cells := 0, slots := 0, locals := 0 } : Room) (va_Pc [.int (nI S)] (dq_S D vwCl (dq_t g) ad w sz)) (va_Qi (fun r u => r = nI (dq_lo S) ∧ u = w) (dq_B D vwCl (dq_t g) ad (dq_A ad w sz)) (dq_A ad w sz)) 0 0 (dq_A ad w sz) := by
  refine dq_ofiF (cc := cIn_numberOfTrailingZeros) (maxL := 2) (by decide) rfl (Nat.le_of_ble_eq_true rfl) ?_
  intro p e s m below meth c A Q ls ⟨hx, hb, hml, hown, hts⟩ hnm hA hW hK hZ hl hret
  have hS : va_S A s.heap s.heap [] := va_S.rf
  have hl : lv_has ls 2 [(0, .int (nI S))] := hl
  have j74 : ∀ (v n9 : Int32) (ls : Array Slot), mi_74 v n9 = nI (dq_lo S) → lv_has ls 2 [(0, .int v), (1, .int n9)] → W p l e ({ frames := 0, cells := 0, slots := 0, locals := 0 } : Room) s m ([.int (nI S)] : List Value).toArray below meth c s.heap [] 0 0 Q (F0 m 74 ls []) := by
    intro v n9 ls hv  hl
    refine lv_iload_n hx hb dIn_numberOfTrailingZeros_74 rfl (lv_at hl 1 rfl) ?_
    refine lv_iload_n hx hb dIn_numberOfTrailingZeros_75 rfl (lv_at hl 0 rfl) ?_
    refine lv_iconst (v := (1)) hx hb dIn_numberOfTrailingZeros_76 (by decide) ?_
    refine lv_iushr (v := (dq_us v (1))) hx hb dIn_numberOfTrailingZeros_77 rfl ?_
    refine lv_iadd hx hb dIn_numberOfTrailingZeros_78 ?_
    exact hret _ _ _ _ _ _ ⟨hv, rfl⟩ hW hS dIn_numberOfTrailingZeros_79
  have j62 : ∀ (v n9 : Int32) (ls : Array Slot), mi_62 v n9 = nI (dq_lo S) → lv_has ls 2 [(0, .int v), (1, .int n9)] → W p l e ({ frames := 0, cells := 0, slots := 0, locals := 0 } : Room) s m ([.int (nI S)] : List Value).toArray below meth c s.heap [] 0 0 Q (F0 m 62 ls []) := by
    intro v n9 ls hv  hl
    refine lv_iload_n hx hb dIn_numberOfTrailingZeros_62 rfl (lv_at hl 0 rfl) ?_
    refine lv_iconst (v := (4)) hx hb dIn_numberOfTrailingZeros_63 (by decide) ?_
    refine lv_icmp_le (tgt := 74) hx hb dIn_numberOfTrailingZeros_64 (by decide) (fun c1 => ?_) (fun c1 => ?_)
    · exact j74 v n9 _ (by rw [← hv]; exact (if_pos c1).symm)  (lv_sub hl [0, 1] rfl)
    · refine lv_iinc (v := (n9 + 2)) (lv' := [(1, .int (n9 + 2)), (0, .int v)]) hx hb dIn_numberOfTrailingZeros_67 hl (k := 1) rfl rfl (by decide) rfl (fun ls hl => ?_)
      refine lv_iload_n hx hb dIn_numberOfTrailingZeros_70 rfl (lv_at hl 1 rfl) ?_
      refine lv_iconst (v := (2)) hx hb dIn_numberOfTrailingZeros_71 (by decide) ?_
      refine lv_iushr (v := (dq_us v (2))) hx hb dIn_numberOfTrailingZeros_72 rfl ?_
      refine lv_istore_n (lv' := [(0, .int (dq_us v (2))), (1, .int (n9 + 2))]) hx hb dIn_numberOfTrailingZeros_73 rfl hl (by decide) rfl (fun ls hl => ?_)
      exact j74 (dq_us v 2) (n9 + 2) _ (by rw [← hv]; exact (if_neg c1).symm)  (lv_sub hl [0, 1] rfl)
  have j49 : ∀ (v n9 : Int32) (ls : Array Slot), mi_49 v n9 = nI (dq_lo S) → lv_has ls 2 [(0, .int v), (1, .int n9)] → W p l e ({ frames := 0, cells := 0, slots := 0, locals := 0 } : Room) s m ([.int (nI S)] : List Value).toArray below meth c s.heap [] 0 0 Q (F0 m 49 ls []) := by
    intro v n9 ls hv  hl
    refine lv_iload_n hx hb dIn_numberOfTrailingZeros_49 rfl (lv_at hl 0 rfl) ?_
    refine lv_bipush (v := (16)) hx hb dIn_numberOfTrailingZeros_50 (by decide) ?_
    refine lv_icmp_le (tgt := 62) hx hb dIn_numberOfTrailingZeros_52 (by decide) (fun c1 => ?_) (fun c1 => ?_)
    · exact j62 v n9 _ (by rw [← hv]; exact (if_pos c1).symm)  (lv_sub hl [0, 1] rfl)
    · refine lv_iinc (v := (n9 + 4)) (lv' := [(1, .int (n9 + 4)), (0, .int v)]) hx hb dIn_numberOfTrailingZeros_55 hl (k := 1) rfl rfl (by decide) rfl (fun ls hl => ?_)
      refine lv_iload_n hx hb dIn_numberOfTrailingZeros_58 rfl (lv_at hl 1 rfl) ?_
      refine lv_iconst (v := (4)) hx hb dIn_numberOfTrailingZeros_59 (by decide) ?_
      refine lv_iushr (v := (dq_us v (4))) hx hb dIn_numberOfTrailingZeros_60 rfl ?_
      refine lv_istore_n (lv' := [(0, .int (dq_us v (4))), (1, .int (n9 + 4))]) hx hb dIn_numberOfTrailingZeros_61 rfl hl (by decide) rfl (fun ls hl => ?_)
      exact j62 (dq_us v 4) (n9 + 4) _ (by rw [← hv]; exact (if_neg c1).symm)  (lv_sub hl [0, 1] rfl)
  have j34 : ∀ (v n9 : Int32) (ls : Array Slot), mi_34 v n9 = nI (dq_lo S) → lv_has ls 2 [(0, .int v), (1, .int n9)] → W p l e ({ frames := 0, cells := 0, slots := 0, locals := 0 } : Room) s m ([.int (nI S)] : List Value).toArray below meth c s.heap [] 0 0 Q (F0 m 34 ls []) := by
    intro v n9 ls hv  hl
    refine lv_iload_n hx hb dIn_numberOfTrailingZeros_34 rfl (lv_at hl 0 rfl) ?_
    refine lv_sipush (v := (256)) hx hb dIn_numberOfTrailingZeros_35 (by decide) ?_
    refine lv_icmp_le (tgt := 49) hx hb dIn_numberOfTrailingZeros_38 (by decide) (fun c1 => ?_) (fun c1 => ?_)
    · exact j49 v n9 _ (by rw [← hv]; exact (if_pos c1).symm)  (lv_sub hl [0, 1] rfl)
    · refine lv_iinc (v := (n9 + 8)) (lv' := [(1, .int (n9 + 8)), (0, .int v)]) hx hb dIn_numberOfTrailingZeros_41 hl (k := 1) rfl rfl (by decide) rfl (fun ls hl => ?_)
      refine lv_iload_n hx hb dIn_numberOfTrailingZeros_44 rfl (lv_at hl 1 rfl) ?_
      refine lv_bipush (v := (8)) hx hb dIn_numberOfTrailingZeros_45 (by decide) ?_
      refine lv_iushr (v := (dq_us v (8))) hx hb dIn_numberOfTrailingZeros_47 rfl ?_
      refine lv_istore_n (lv' := [(0, .int (dq_us v (8))), (1, .int (n9 + 8))]) hx hb dIn_numberOfTrailingZeros_48 rfl hl (by decide) rfl (fun ls hl => ?_)
      exact j49 (dq_us v 8) (n9 + 8) _ (by rw [← hv]; exact (if_neg c1).symm)  (lv_sub hl [0, 1] rfl)
  have j19 : ∀ (v n9 : Int32) (ls : Array Slot), mi_19 v n9 = nI (dq_lo S) → lv_has ls 2 [(0, .int v), (1, .int n9)] → W p l e ({ frames := 0, cells := 0, slots := 0, locals := 0 } : Room) s m ([.int (nI S)] : List Value).toArray below meth c s.heap [] 0 0 Q (F0 m 19 ls []) := by
    intro v n9 ls hv  hl
    refine lv_iload_n hx hb dIn_numberOfTrailingZeros_19 rfl (lv_at hl 0 rfl) ?_
    refine lv_ldcw hx hb hown (hts _ (List.mem_cons_of_mem _ tw2_61)) dIn_numberOfTrailingZeros_20 ?_
    refine lv_icmp_le (tgt := 34) hx hb dIn_numberOfTrailingZeros_23 (by decide) (fun c1 => ?_) (fun c1 => ?_)
    · exact j34 v n9 _ (by rw [← hv]; exact (if_pos c1).symm)  (lv_sub hl [0, 1] rfl)
    · refine lv_iinc (v := (n9 + 16)) (lv' := [(1, .int (n9 + 16)), (0, .int v)]) hx hb dIn_numberOfTrailingZeros_26 hl (k := 1) rfl rfl (by decide) rfl (fun ls hl => ?_)
      refine lv_iload_n hx hb dIn_numberOfTrailingZeros_29 rfl (lv_at hl 1 rfl) ?_
      refine lv_bipush (v := (16)) hx hb dIn_numberOfTrailingZeros_30 (by decide) ?_
      refine lv_iushr (v := (dq_us v (16))) hx hb dIn_numberOfTrailingZeros_32 rfl ?_
      refine lv_istore_n (lv' := [(0, .int (dq_us v (16))), (1, .int (n9 + 16))]) hx hb dIn_numberOfTrailingZeros_33 rfl hl (by decide) rfl (fun ls hl => ?_)
      exact j34 (dq_us v 16) (n9 + 16) _ (by rw [← hv]; exact (if_neg c1).symm)  (lv_sub hl [0, 1] rfl)
  refine lv_iload_n hx hb dIn_numberOfTrailingZeros_0 rfl (lv_at hl 0 rfl) ?_
  refine lv_iconst (v := (-1)) hx hb dIn_numberOfTrailingZeros_1 (by decide) ?_
  refine lv_ixor hx hb dIn_numberOfTrailingZeros_2 ?_
  refine lv_iload_n hx hb dIn_numberOfTrailingZeros_3 rfl (lv_at hl 0 rfl) ?_
  refine lv_iconst (v := (1)) hx hb dIn_numberOfTrailingZeros_4 (by decide) ?_
  refine lv_isub hx hb dIn_numberOfTrailingZeros_5 ?_
  refine lv_iand hx hb dIn_numberOfTrailingZeros_6 ?_
  refine lv_istore_n (lv' := [(0, .int (((nI S) ^^^ (-1)) &&& ((nI S) - (1))))]) hx hb dIn_numberOfTrailingZeros_7 rfl hl (by decide) rfl (fun ls hl => ?_)
  have h0 : mi_ntz ((nI S ^^^ (-1)) &&& (nI S - 1)) = nI (dq_lo S) := mi_ntz_lo hS0 hS9
  generalize (nI S ^^^ (-1)) &&& (nI S - 1) = v at h0 hl
  refine lv_iload_n hx hb dIn_numberOfTrailingZeros_8 rfl (lv_at hl 0 rfl) ?_
  refine lv_if_gt (tgt := 17) hx hb dIn_numberOfTrailingZeros_9 (by decide) (fun c1 => ?_) (fun c1 => ?_)
  · refine lv_iconst (v := (1)) hx hb dIn_numberOfTrailingZeros_17 (by decide) ?_
    refine lv_istore_n (lv' := [(1, .int (1)), (0, .int v)]) hx hb dIn_numberOfTrailingZeros_18 rfl hl (by decide) rfl (fun ls hl => ?_)
    exact j19 v 1 _ (by rw [← h0]; exact (if_pos c1).symm)  (lv_sub hl [1, 0] rfl)
  · refine lv_iload_n hx hb dIn_numberOfTrailingZeros_12 rfl (lv_at hl 0 rfl) ?_
    refine lv_bipush (v := (32)) hx hb dIn_numberOfTrailingZeros_13 (by decide) ?_
    refine lv_iand hx hb dIn_numberOfTrailingZeros_15 ?_
    exact hret _ _ _ _ _ _ ⟨by rw [← h0]; exact (if_neg c1).symm, rfl⟩ hW hS dIn_numberOfTrailingZeros_16
set_option maxHeartbeats 4000000 in
set_option maxRecDepth 100000 in
/-- Integer.bitCount -/
theorem c_bitCount (l : Launch) (D : va_G) (g : Nat → ClassId) (ad : Nat → Nat) (w : Nat → Option va_E) (sz : Nat) (S : Nat)  (hS9 : S < 16384) : Met l yIn_bitCount wsIn_bitCount ({ frames := 0, cells := 0, slots := 0, locals := 0 } : Room) (va_Pc [.int (nI S)] (dq_S D vwCl (dq_t g) ad w sz)) (va_Qi (fun r u => r = nI (dq_pc S 14) ∧ u = w) (dq_B D vwCl (dq_t g) ad (dq_A ad w sz)) (dq_A ad w sz)) 0 0 (dq_A ad w sz) := by
  refine dq_ofiF (cc := cIn_bitCount) (maxL := 1) (by decide) rfl (Nat.le_of_ble_eq_true rfl) ?_
  intro p e s m below meth c A Q ls ⟨hx, hb, hml, hown, hts⟩ hnm hA hW hK hZ hl hret
  have hS : va_S A s.heap s.heap [] := va_S.rf
  have hl : lv_has ls 1 [(0, .int (nI S))] := hl
  refine lv_iload_n hx hb dIn_bitCount_0 rfl (lv_at hl 0 rfl) ?_
  refine lv_iload_n hx hb dIn_bitCount_1 rfl (lv_at hl 0 rfl) ?_
  refine lv_iconst (v := (1)) hx hb dIn_bitCount_2 (by decide) ?_
  refine lv_iushr (v := (dq_us (nI S) (1))) hx hb dIn_bitCount_3 rfl ?_
  refine lv_ldcw hx hb hown (hts _ (List.mem_cons_of_mem _ tw3_130)) dIn_bitCount_4 ?_
  refine lv_iand hx hb dIn_bitCount_7 ?_
  refine lv_isub hx hb dIn_bitCount_8 ?_
  refine lv_istore_n (lv' := [(0, .int ((nI S) - ((dq_us (nI S) (1)) &&& (1431655765))))]) hx hb dIn_bitCount_9 rfl hl (by decide) rfl (fun ls hl => ?_)
  refine lv_iload_n hx hb dIn_bitCount_10 rfl (lv_at hl 0 rfl) ?_
  refine lv_ldcw hx hb hown (hts _ (List.mem_cons_of_mem _ tw3_131)) dIn_bitCount_11 ?_
  refine lv_iand hx hb dIn_bitCount_14 ?_
  refine lv_iload_n hx hb dIn_bitCount_15 rfl (lv_at hl 0 rfl) ?_
  refine lv_iconst (v := (2)) hx hb dIn_bitCount_16 (by decide) ?_
  refine lv_iushr (v := (dq_us ((nI S) - ((dq_us (nI S) (1)) &&& (1431655765))) (2))) hx hb dIn_bitCount_17 rfl ?_
  refine lv_ldcw hx hb hown (hts _ (List.mem_cons_of_mem _ tw3_131)) dIn_bitCount_18 ?_
  refine lv_iand hx hb dIn_bitCount_21 ?_
  refine lv_iadd hx hb dIn_bitCount_22 ?_
  refine lv_istore_n (lv' := [(0, .int ((((nI S) - ((dq_us (nI S) (1)) &&& (1431655765))) &&& (858993459)) + ((dq_us ((nI S) - ((dq_us (nI S) (1)) &&& (1431655765))) (2)) &&& (858993459))))]) hx hb dIn_bitCount_23 rfl hl (by decide) rfl (fun ls hl => ?_)
  refine lv_iload_n hx hb dIn_bitCount_24 rfl (lv_at hl 0 rfl) ?_
  refine lv_iload_n hx hb dIn_bitCount_25 rfl (lv_at hl 0 rfl) ?_
  refine lv_iconst (v := (4)) hx hb dIn_bitCount_26 (by decide) ?_
  refine lv_iushr (v := (dq_us ((((nI S) - ((dq_us (nI S) (1)) &&& (1431655765))) &&& (858993459)) + ((dq_us ((nI S) - ((dq_us (nI S) (1)) &&& (1431655765))) (2)) &&& (858993459))) (4))) hx hb dIn_bitCount_27 rfl ?_
  refine lv_iadd hx hb dIn_bitCount_28 ?_
  refine lv_ldcw hx hb hown (hts _ (List.mem_cons_of_mem _ tw3_132)) dIn_bitCount_29 ?_
  refine lv_iand hx hb dIn_bitCount_32 ?_
  refine lv_istore_n (lv' := [(0, .int ((((((nI S) - ((dq_us (nI S) (1)) &&& (1431655765))) &&& (858993459)) + ((dq_us ((nI S) - ((dq_us (nI S) (1)) &&& (1431655765))) (2)) &&& (858993459))) + (dq_us ((((nI S) - ((dq_us (nI S) (1)) &&& (1431655765))) &&& (858993459)) + ((dq_us ((nI S) - ((dq_us (nI S) (1)) &&& (1431655765))) (2)) &&& (858993459))) (4))) &&& (252645135)))]) hx hb dIn_bitCount_33 rfl hl (by decide) rfl (fun ls hl => ?_)
  refine lv_iload_n hx hb dIn_bitCount_34 rfl (lv_at hl 0 rfl) ?_
  refine lv_iload_n hx hb dIn_bitCount_35 rfl (lv_at hl 0 rfl) ?_
  refine lv_bipush (v := (8)) hx hb dIn_bitCount_36 (by decide) ?_
  refine lv_iushr (v := (dq_us ((((((nI S) - ((dq_us (nI S) (1)) &&& (1431655765))) &&& (858993459)) + ((dq_us ((nI S) - ((dq_us (nI S) (1)) &&& (1431655765))) (2)) &&& (858993459))) + (dq_us ((((nI S) - ((dq_us (nI S) (1)) &&& (1431655765))) &&& (858993459)) + ((dq_us ((nI S) - ((dq_us (nI S) (1)) &&& (1431655765))) (2)) &&& (858993459))) (4))) &&& (252645135)) (8))) hx hb dIn_bitCount_38 rfl ?_
  refine lv_iadd hx hb dIn_bitCount_39 ?_
  refine lv_istore_n (lv' := [(0, .int (((((((nI S) - ((dq_us (nI S) (1)) &&& (1431655765))) &&& (858993459)) + ((dq_us ((nI S) - ((dq_us (nI S) (1)) &&& (1431655765))) (2)) &&& (858993459))) + (dq_us ((((nI S) - ((dq_us (nI S) (1)) &&& (1431655765))) &&& (858993459)) + ((dq_us ((nI S) - ((dq_us (nI S) (1)) &&& (1431655765))) (2)) &&& (858993459))) (4))) &&& (252645135)) + (dq_us ((((((nI S) - ((dq_us (nI S) (1)) &&& (1431655765))) &&& (858993459)) + ((dq_us ((nI S) - ((dq_us (nI S) (1)) &&& (1431655765))) (2)) &&& (858993459))) + (dq_us ((((nI S) - ((dq_us (nI S) (1)) &&& (1431655765))) &&& (858993459)) + ((dq_us ((nI S) - ((dq_us (nI S) (1)) &&& (1431655765))) (2)) &&& (858993459))) (4))) &&& (252645135)) (8))))]) hx hb dIn_bitCount_40 rfl hl (by decide) rfl (fun ls hl => ?_)
  refine lv_iload_n hx hb dIn_bitCount_41 rfl (lv_at hl 0 rfl) ?_
  refine lv_iload_n hx hb dIn_bitCount_42 rfl (lv_at hl 0 rfl) ?_
  refine lv_bipush (v := (16)) hx hb dIn_bitCount_43 (by decide) ?_
  refine lv_iushr (v := (dq_us (((((((nI S) - ((dq_us (nI S) (1)) &&& (1431655765))) &&& (858993459)) + ((dq_us ((nI S) - ((dq_us (nI S) (1)) &&& (1431655765))) (2)) &&& (858993459))) + (dq_us ((((nI S) - ((dq_us (nI S) (1)) &&& (1431655765))) &&& (858993459)) + ((dq_us ((nI S) - ((dq_us (nI S) (1)) &&& (1431655765))) (2)) &&& (858993459))) (4))) &&& (252645135)) + (dq_us ((((((nI S) - ((dq_us (nI S) (1)) &&& (1431655765))) &&& (858993459)) + ((dq_us ((nI S) - ((dq_us (nI S) (1)) &&& (1431655765))) (2)) &&& (858993459))) + (dq_us ((((nI S) - ((dq_us (nI S) (1)) &&& (1431655765))) &&& (858993459)) + ((dq_us ((nI S) - ((dq_us (nI S) (1)) &&& (1431655765))) (2)) &&& (858993459))) (4))) &&& (252645135)) (8))) (16))) hx hb dIn_bitCount_45 rfl ?_
  refine lv_iadd hx hb dIn_bitCount_46 ?_
  refine lv_istore_n (lv' := [(0, .int ((((((((nI S) - ((dq_us (nI S) (1)) &&& (1431655765))) &&& (858993459)) + ((dq_us ((nI S) - ((dq_us (nI S) (1)) &&& (1431655765))) (2)) &&& (858993459))) + (dq_us ((((nI S) - ((dq_us (nI S) (1)) &&& (1431655765))) &&& (858993459)) + ((dq_us ((nI S) - ((dq_us (nI S) (1)) &&& (1431655765))) (2)) &&& (858993459))) (4))) &&& (252645135)) + (dq_us ((((((nI S) - ((dq_us (nI S) (1)) &&& (1431655765))) &&& (858993459)) + ((dq_us ((nI S) - ((dq_us (nI S) (1)) &&& (1431655765))) (2)) &&& (858993459))) + (dq_us ((((nI S) - ((dq_us (nI S) (1)) &&& (1431655765))) &&& (858993459)) + ((dq_us ((nI S) - ((dq_us (nI S) (1)) &&& (1431655765))) (2)) &&& (858993459))) (4))) &&& (252645135)) (8))) + (dq_us (((((((nI S) - ((dq_us (nI S) (1)) &&& (1431655765))) &&& (858993459)) + ((dq_us ((nI S) - ((dq_us (nI S) (1)) &&& (1431655765))) (2)) &&& (858993459))) + (dq_us ((((nI S) - ((dq_us (nI S) (1)) &&& (1431655765))) &&& (858993459)) + ((dq_us ((nI S) - ((dq_us (nI S) (1)) &&& (1431655765))) (2)) &&& (858993459))) (4))) &&& (252645135)) + (dq_us ((((((nI S) - ((dq_us (nI S) (1)) &&& (1431655765))) &&& (858993459)) + ((dq_us ((nI S) - ((dq_us (nI S) (1)) &&& (1431655765))) (2)) &&& (858993459))) + (dq_us ((((nI S) - ((dq_us (nI S) (1)) &&& (1431655765))) &&& (858993459)) + ((dq_us ((nI S) - ((dq_us (nI S) (1)) &&& (1431655765))) (2)) &&& (858993459))) (4))) &&& (252645135)) (8))) (16))))]) hx hb dIn_bitCount_47 rfl hl (by decide) rfl (fun ls hl => ?_)
  refine lv_iload_n hx hb dIn_bitCount_48 rfl (lv_at hl 0 rfl) ?_
  refine lv_bipush (v := (63)) hx hb dIn_bitCount_49 (by decide) ?_
  refine lv_iand hx hb dIn_bitCount_51 ?_
  exact hret _ _ _ _ _ _ ⟨mi_bc_pc hS9, rfl⟩ hW hS dIn_bitCount_52
set_option maxHeartbeats 4000000 in
set_option maxRecDepth 100000 in
/-- leastOf(set) -/
theorem c_leastOf (l : Launch) (D : va_G) (g : Nat → ClassId) (ad : Nat → Nat) (w : Nat → Option va_E) (sz : Nat) (S : Nat)  (hS0 : 0 < S) (hS9 : S < 16384) : Met l yDH_leastOf wsDH_leastOf ({ frames := 1, cells := 0, slots := 0, locals := 24 } : Room) (va_Pc [.int (nI S)] (dq_S D vwCl (dq_t g) ad w sz)) (va_Qi (fun r u => r = nI (dq_lo S) ∧ u = w) (dq_B D vwCl (dq_t g) ad (dq_A ad w sz)) (dq_A ad w sz)) 0 0 (dq_A ad w sz) := by
  refine dq_ofi (cc := cDH_leastOf) (maxL := 1) (by decide) rfl (Nat.le_of_ble_eq_true rfl) ?_
  intro p e s m below meth c A Q ls ⟨hx, hb, hml, hown, hts⟩ hnm hA hW hK hZ hl hret
  have hS : va_S A s.heap s.heap [] := va_S.rf
  have hl : lv_has ls 1 [(0, .int (nI S))] := hl
  refine lv_iload_n hx hb dDH_leastOf_0 rfl (lv_at hl 0 rfl) ?_
  refine dq_calli (va_runS (As := [.int (nI S)]) (rest := []) ⟨hx, hb, hml, hown, hts⟩ (c_ntz l D g ad (w) _ S  hS0 hS9) (va_cwS 1 hts (dq_giS3 tw2_58 tw2_59 tw1_17 tw2_60) rfl rfl rfl (by decide +kernel) ⟨Nat.le_of_ble_eq_true rfl, Nat.le_of_ble_eq_true rfl⟩) (dq_preS hW hS hA hK hZ) rfl rfl hl.1 rfl (lv_room (Nat.le_of_ble_eq_true rfl)) dDH_leastOf_1 ⟨Nat.zero_le _, Nat.zero_le _⟩) hW hS hA (fun r1 u_9 H locs hp1 hW hS hz9 => ?_)
  obtain ⟨hr1, hu9⟩ := hp1
  rw [hu9] at hW
  exact hret _ _ _ _ _ _ ⟨hr1, rfl⟩ hW hS dDH_leastOf_4
