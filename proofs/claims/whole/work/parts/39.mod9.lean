/-! THE WAY, as the reference has it -/
def mo_step (tX tY : Nat → Int32) (oN : Nat → Nat) (i k : Nat) : Int64 := if i = 0 then ms_sz (tX k) + ms_sz (tY k) else ms_bt tX tY (oN (i - 1)) k
def mo_c (tX tY : Nat → Int32) (G : Nat → Nat → Int64) (oN VS : Nat → Nat) (i k : Nat) : Int64 := mo_step tX tY oN i k + G (VS i ||| 2 ^ k) k
/-- the way's length over the first hits of the order -/
def mo_way (tX tY : Nat → Int32) (oN : Nat → Nat) : Nat → Int64
  | 0 => 0
  | k + 1 => mo_way tX tY oN k + mo_step tX tY oN k (oN k)
/-- the shortest rest from a hit on, over the first hits -/
def mo_b (tX tY : Nat → Int32) (G : Nat → Nat → Int64) (tn S t : Nat) : Nat → Int64
  | 0 => if S = 2 ^ tn - 1 then 0 else 1152921504606846976
  | k + 1 => if S.testBit k = true then mo_b tX tY G tn S t k else (if ms_bt tX tY t k + G (S ||| 2 ^ k) k < mo_b tX tY G tn S t k then ms_bt tX tY t k + G (S ||| 2 ^ k) k else mo_b tX tY G tn S t k)
/-- what the order is: each the first of the best -/
def mo_O (tX tY : Nat → Int32) (G : Nat → Nat → Int64) (oN VS : Nat → Nat) (tn : Nat) : Prop :=
  VS 0 = 0 ∧ ∀ i, i < tn → oN i < tn ∧ (VS i).testBit (oN i) = false ∧ VS (i + 1) = VS i ||| 2 ^ oN i ∧ VS i < 2 ^ tn ∧ ∀ k, k < tn → (VS i).testBit k = false → mo_c tX tY G oN VS i (oN i) ≤ mo_c tX tY G oN VS i k ∧ (k < oN i → mo_c tX tY G oN VS i (oN i) < mo_c tX tY G oN VS i k)
theorem dq_or_lt {a b n : Nat} (ha : a < 2 ^ n) (hb : b < n) : a ||| 2 ^ b < 2 ^ n := Nat.or_lt_two_pow ha (Nat.pow_lt_pow_right (by omega) hb)
theorem dq_or_gt {a b : Nat} (h : a.testBit b = false) : a < a ||| 2 ^ b := by
  have h1 : a ≤ a ||| 2 ^ b := Nat.left_le_or
  rcases Nat.lt_or_ge a (a ||| 2 ^ b) with h2 | h2
  · exact h2
  · have h3 : a ||| 2 ^ b = a := Nat.le_antisymm h2 h1
    have h4 : (a ||| 2 ^ b).testBit b = true := by rw [Nat.testBit_or, Nat.testBit_two_pow_self, Bool.or_true]
    rw [h3, h] at h4
    exact absurd h4 (by decide)
/-- the best of the first hits -/
def mo_T (c : Nat → Int64) (V : Nat) (k : Nat) (tk : Int32) (bs : Int64) : Prop := (tk = -1 ∧ ∀ t, t < k → V.testBit t = true) ∨ ∃ t, t < k ∧ tk = nI t ∧ V.testBit t = false ∧ bs = c t ∧ ∀ t2, t2 < k → V.testBit t2 = false → c t ≤ c t2 ∧ (t2 < t → c t < c t2)
theorem mo_T_0 (c : Nat → Int64) (V : Nat) : mo_T c V 0 (-1) 0 := Or.inl ⟨rfl, fun t h => absurd h (Nat.not_lt_zero t)⟩
theorem mo_T_set {c : Nat → Int64} {V k : Nat} {tk : Int32} {bs : Int64} (h : mo_T c V k tk bs) (hb : V.testBit k = true) : mo_T c V (k + 1) tk bs := by
  rcases h with ⟨h1, h2⟩ | ⟨t, h1, h2, h3, h4, h5⟩
  · refine Or.inl ⟨h1, fun t ht => ?_⟩
    by_cases e : t = k
    · rw [e]; exact hb
    · exact h2 t (by omega)
  · refine Or.inr ⟨t, by omega, h2, h3, h4, fun t2 ht hb2 => h5 t2 ?_ hb2⟩
    by_cases e : t2 = k
    · rw [e, hb] at hb2; exact absurd hb2 (by decide)
    · omega
theorem mo_T_new {c : Nat → Int64} {V k : Nat} {tk : Int32} {bs : Int64} (h : mo_T c V k tk bs) (hb : V.testBit k = false) (hk : k < 2 ^ 31) (hc : tk < 0 ∨ c k < bs) : mo_T c V (k + 1) (nI k) (c k) := by
  refine Or.inr ⟨k, by omega, rfl, hb, rfl, fun t2 ht hb2 => ?_⟩
  by_cases e : t2 = k
  · subst e
    exact ⟨Int64.le_refl _, fun h9 => absurd h9 (Nat.lt_irrefl _)⟩
  · rcases h with ⟨h1, h2⟩ | ⟨t, h1, h2, h3, h4, h5⟩
    · have := h2 t2 (by omega)
      rw [this] at hb2
      exact absurd hb2 (by decide)
    · have hc2 : c k < bs := by
        rcases hc with hc | hc
        · rw [h2] at hc
          exact absurd hc (nI_pos (by omega))
        · exact hc
      have h6 := (h5 t2 (by omega) hb2).1
      rw [h4] at hc2
      have h7 : c k < c t2 := Int64.lt_of_lt_of_le hc2 h6
      exact ⟨Int64.le_of_lt h7, fun _ => h7⟩
theorem mo_T_old {c : Nat → Int64} {V k : Nat} {tk : Int32} {bs : Int64} (h : mo_T c V k tk bs) (hb : V.testBit k = false) (h0 : ¬ tk < 0) (hc : bs ≤ c k) : mo_T c V (k + 1) tk bs := by
  rcases h with ⟨h1, h2⟩ | ⟨t, h1, h2, h3, h4, h5⟩
  · rw [h1] at h0
    exact absurd (by decide) h0
  · refine Or.inr ⟨t, by omega, h2, h3, h4, fun t2 ht hb2 => ?_⟩
    by_cases e : t2 = k
    · subst e
      rw [← h4]
      exact ⟨hc, fun h9 => absurd h9 (by omega)⟩
    · exact h5 t2 (by omega) hb2
theorem mo_T_end {c : Nat → Int64} {V n o : Nat} {tk : Int32} {bs : Int64} (h : mo_T c V n tk bs) (ho : o < n) (hb : V.testBit o = false) (hO : ∀ k, k < n → V.testBit k = false → c o ≤ c k ∧ (k < o → c o < c k)) : tk = nI o := by
  rcases h with ⟨h1, h2⟩ | ⟨t, h1, h2, h3, h4, h5⟩
  · have := h2 o ho
    rw [this] at hb
    exact absurd hb (by decide)
  · have a1 := h5 o ho hb
    have a2 := hO t h1 h3
    have e : t = o := by
      rcases Nat.lt_trichotomy t o with e | e | e
      · exact absurd (Int64.lt_of_lt_of_le (a2.2 e) a1.1) (Int64.lt_irrefl)
      · exact e
      · exact absurd (Int64.lt_of_lt_of_le (a1.2 e) a2.1) (Int64.lt_irrefl)
    rw [h2, e]
theorem mo_T_ne {c : Nat → Int64} {V k : Nat} {tk : Int32} {bs : Int64} (h : mo_T c V k tk bs) (hk : k < 2 ^ 31) : ¬ tk = nI k := by
  rcases h with ⟨h1, -⟩ | ⟨t, h1, h2, -⟩
  · rw [h1]
    exact fun h9 => dq_nm1 hk h9.symm
  · rw [h2]
    intro h9
    have := (nI_eq (by omega) hk).mp h9
    omega
set_option maxHeartbeats 4000000 in
set_option maxRecDepth 100000 in
/-- walkOrder() -/
theorem m_walkOrder (l : Launch) (D : va_G) (g : Nat → ClassId) (ad : Nat → Nat) (w : Nat → Option va_E) (sz : Nat) (cd : Int32) (n hn cn : Nat) (pl : Int32) (tn : Nat) (sg : Int32) (wy : Int64) (tX tY tF tS : Nat → Int32) (od : Nat → Int32) (rs : Nat → Int64) (G : Nat → Nat → Int64) (oN VS : Nat → Nat) (m100 : w 100 = some (.inr (8, [.int cd, .int (nI n), .ref (ad 102), .ref (ad 103), .ref (ad 104), .int (nI hn), .ref (ad 106), .ref (ad 107), .ref (ad 108), .ref (ad 109), .ref (ad 110), .ref (ad 111), .int (nI cn), .ref (ad 113), .int pl, .int (nI tn), .ref (ad 116), .ref (ad 117), .ref (ad 118), .ref (ad 119), .int sg, .ref (ad 121), .long wy, .ref (ad 123), .ref (ad 124), .ref (ad 125), .ref (ad 126), .ref (ad 127), .ref (ad 128)]))) (m116 : w 116 = some (.inl (g 0, 14, .inl tX))) (m117 : w 117 = some (.inl (g 0, 14, .inl tY))) (m121 : w 121 = some (.inl (g 0, 14, .inl od))) (m128 : w 128 = some (.inl (g 2, 10240, .inr (.inl rs)))) (ht10 : tn ≤ 10) (hR : ∀ S, 0 < S → S < 2 ^ tn → ∀ t, t < tn → rs (10 * S + t) = G S t) (hO : mo_O tX tY G oN VS tn) : Met l yMo_walkOrder wsMo_walkOrder ({ frames := 2, cells := 0, slots := 0, locals := 50 } : Room) (va_Pc [.ref (ad 100)] (dq_S D vwCl (dq_t g) ad w sz)) (va_Qv (fun u => u = dq_U w 121 (.inl (g 0, 14, .inl (sp_w od (fun i => nI (oN i)) 0 tn)))) (dq_B D vwCl (dq_t g) ad (dq_A ad w sz)) (dq_A ad w sz)) 0 0 (dq_A ad w sz) := by
  refine dq_ofv (cc := cMo_walkOrder) (maxL := 11) (by decide) rfl (Nat.le_of_ble_eq_true rfl) ?_
  intro p e s m below meth c A Q ls ⟨hx, hb, hml, hown, hts⟩ hnm hA hW hK hZ hl hret
  have hS : va_S A s.heap s.heap [] := va_S.rf
  have hl : lv_has ls 11 [(0, .ref (ad 100))] := hl
  have hf41 := hts _ (List.mem_cons_of_mem _ tw3_170)
  have hf44 := hts _ (List.mem_cons_of_mem _ tw3_171)
  have hf53 := hts _ (List.mem_cons_of_mem _ tw3_175)
  have hf71 := hts _ (List.mem_cons_of_mem _ tw3_182)
  have hf127 := hts _ (List.mem_cons_of_mem _ tw3_169)
  have hinMo : ∀ w ∈ u_ws RMo TMo 29, w ∈ wsMo_walkOrder := fun w h => List.mem_cons_of_mem _ (inMo w h)
  have h1024 : 2 ^ tn ≤ 1024 := Nat.le_trans (Nat.pow_le_pow_right (by omega) ht10) (Nat.le_refl 1024)
  refine lv_iconst (v := (nI 0)) hx hb dMo_walkOrder_0 (by decide) ?_
  refine lv_istore_n (lv' := [(1, .int (nI 0)), (0, .ref (ad 100))]) hx hb dMo_walkOrder_1 rfl hl (by decide) rfl (fun ls hl => ?_)
  refine lv_iconst (v := (nI 0)) hx hb dMo_walkOrder_2 (by decide) ?_
  refine lv_istore_n (lv' := [(2, .int (nI 0)), (1, .int (nI 0)), (0, .ref (ad 100))]) hx hb dMo_walkOrder_3 rfl hl (by decide) rfl (fun ls hl => ?_)
  have hW : dq_W D vwCl ad (dq_U w 121 (.inl (g 0, 14, .inl (sp_w od (fun i => nI (oN i)) 0 0)))) A s.heap := dq_Wc (by rw [sp_w_0]; exact (dq_Uid m121).symm) hW
  have loop : ∀ (j : Nat) (i : Nat) (H : Heap) (locs : List Loc) (ls : Array Slot), tn < i + j → i ≤ tn → dq_W D vwCl ad (dq_U w 121 (.inl (g 0, 14, .inl (sp_w od (fun i => nI (oN i)) 0 i)))) A H → va_S A s.heap H locs → lv_has ls 11 [(0, .ref (ad 100)), (1, .int (nI (VS i))), (2, .int (nI i))] → W p l e ({ frames := 2, cells := 0, slots := 0, locals := 50 } : Room) s m ([.ref (ad 100)] : List Value).toArray below meth c H locs 0 0 Q (F0 m 4 ls []) := by
    intro j
    induction j with
    | zero => intro i H locs ls hj hk hW hS hl; exact absurd hj (by omega)
    | succ j ih =>
      intro i H locs ls hj hk hW hS hl
      refine lv_iload_n hx hb dMo_walkOrder_4 rfl (lv_at hl 2 rfl) ?_
      refine lv_aload_n hx hb dMo_walkOrder_5 rfl (lv_at hl 0 rfl) ?_
      refine dq_get (D := D) (ci := 8) (v := .int (nI tn)) (C := RMo) (T := TMo) (N := 29) hx hb hts hinMo hown hK hW 100 ((dq_Un (by decide)).trans m100) rfl 15 (by decide) hf127 (fun _ h9 => h9) rfl dMo_walkOrder_6 ?_
      refine lv_icmp_ge (tgt := 163) hx hb dMo_walkOrder_9 (by decide) (fun c1 => ?_) (fun c1 => ?_)
      · have hkn : tn = i := by have q9 := (nI_leI (by omega) (by omega)).mp c1; omega
        subst hkn
        exact hret _ _ _ _ _ rfl hW hS dMo_walkOrder_163
      · have hit : i < tn := by rcases Nat.lt_or_ge i tn with q9 | q9; exact q9; exact absurd (nI_le q9 (by omega)) c1
        obtain ⟨hoi, hob, hVn, hVl, hmin⟩ := hO.2 i hit
        refine lv_iconst (v := (-1)) hx hb dMo_walkOrder_12 (by decide) ?_
        refine lv_istore_n (lv' := [(3, .int (-1)), (0, .ref (ad 100)), (1, .int (nI (VS i))), (2, .int (nI i))]) hx hb dMo_walkOrder_13 rfl hl (by decide) rfl (fun ls hl => ?_)
        refine lv_lconst (v := 0) hx hb dMo_walkOrder_14 (by decide) ?_
        refine lv_lstore (lv' := [(4, .long 0), (3, .int (-1)), (0, .ref (ad 100)), (1, .int (nI (VS i))), (2, .int (nI i))]) hx hb dMo_walkOrder_15 hl (by decide) rfl (fun ls hl => ?_)
        refine lv_iconst (v := (nI 0)) hx hb dMo_walkOrder_17 (by decide) ?_
        refine lv_istore (lv' := [(6, .int (nI 0)), (4, .long 0), (3, .int (-1)), (0, .ref (ad 100)), (1, .int (nI (VS i))), (2, .int (nI i))]) hx hb dMo_walkOrder_18 hl (by decide) rfl (fun ls hl => ?_)
        have loop2 : ∀ (j2 : Nat) (k : Nat) (tk : Int32) (bs : Int64) (H : Heap) (locs : List Loc) (ls : Array Slot), tn < k + j2 → k ≤ tn → mo_T (mo_c tX tY G oN VS i) (VS i) k tk bs → dq_W D vwCl ad (dq_U w 121 (.inl (g 0, 14, .inl (sp_w od (fun i => nI (oN i)) 0 i)))) A H → va_S A s.heap H locs → lv_has ls 11 [(0, .ref (ad 100)), (1, .int (nI (VS i))), (2, .int (nI i)), (3, .int tk), (4, .long bs), (6, .int (nI k))] → W p l e ({ frames := 2, cells := 0, slots := 0, locals := 50 } : Room) s m ([.ref (ad 100)] : List Value).toArray below meth c H locs 0 0 Q (F0 m 20 ls []) := by
          intro j2
          induction j2 with
          | zero => intro k tk bs H locs ls hj2 hk2 hT hW hS hl; exact absurd hj2 (by omega)
          | succ j2 ih2 =>
            intro k tk bs H locs ls hj2 hk2 hT hW hS hl
            refine lv_iload hx hb dMo_walkOrder_20 (lv_at hl 5 rfl) ?_
            refine lv_aload_n hx hb dMo_walkOrder_22 rfl (lv_at hl 0 rfl) ?_
            refine dq_get (D := D) (ci := 8) (v := .int (nI tn)) (C := RMo) (T := TMo) (N := 29) hx hb hts hinMo hown hK hW 100 ((dq_Un (by decide)).trans m100) rfl 15 (by decide) hf127 (fun _ h9 => h9) rfl dMo_walkOrder_23 ?_
            refine lv_icmp_ge (tgt := 144) hx hb dMo_walkOrder_26 (by decide) (fun d1 => ?_) (fun d1 => ?_)
            · have hkn : tn = k := by have q9 := (nI_leI (by omega) (by omega)).mp d1; omega
              subst hkn
              have htk : tk = nI (oN i) := mo_T_end hT hoi hob hmin
              subst htk
              have hl : lv_has ls 11 [(0, .ref (ad 100)), (1, .int (nI (VS i))), (2, .int (nI i)), (3, .int (nI (oN i)))] := (lv_sub hl [0, 1, 2, 3] rfl)
              refine lv_aload_n hx hb dMo_walkOrder_144 rfl (lv_at hl 0 rfl) ?_
              refine dq_get (D := D) (ci := 8) (v := .ref (ad 121)) (C := RMo) (T := TMo) (N := 29) hx hb hts hinMo hown hK hW 100 ((dq_Un (by decide)).trans m100) rfl 21 (by decide) hf53 (fun _ h9 => h9) rfl dMo_walkOrder_145 ?_
              refine lv_iload_n hx hb dMo_walkOrder_148 rfl (lv_at hl 2 rfl) ?_
              refine lv_iload_n hx hb dMo_walkOrder_149 rfl (lv_at hl 3 rfl) ?_
              refine dq_iastN hx hb hK hW hS 121 0 dq_Us rfl i (by omega) (by omega) dMo_walkOrder_150 (fun H locs hW hS => ?_)
              rw [dq_UU] at hW
              refine lv_iload_n hx hb dMo_walkOrder_151 rfl (lv_at hl 1 rfl) ?_
              refine lv_iconst (v := (1)) hx hb dMo_walkOrder_152 (by decide) ?_
              refine lv_iload_n hx hb dMo_walkOrder_153 rfl (lv_at hl 3 rfl) ?_
              refine lv_ishl hx hb dMo_walkOrder_154 ?_
              refine dq_top (y := nI (2 ^ oN i)) (dq_sh1 _ (by omega)) ?_
              refine lv_ior hx hb dMo_walkOrder_155 ?_
              refine dq_top (y := nI (VS (i + 1))) (by rw [hVn]; exact nx_or _ _) ?_
              refine lv_istore_n (lv' := [(1, .int (nI (VS (i + 1)))), (0, .ref (ad 100)), (2, .int (nI i)), (3, .int (nI (oN i)))]) hx hb dMo_walkOrder_156 rfl hl (by decide) rfl (fun ls hl => ?_)
              refine lv_iinc (v := (nI (i + 1))) (lv' := [(2, .int (nI (i + 1))), (1, .int (nI (VS (i + 1)))), (0, .ref (ad 100)), (3, .int (nI (oN i)))]) hx hb dMo_walkOrder_157 hl (k := 2) rfl (by show nI i + 1 = _; exact nI_1 _) (by decide) rfl (fun ls hl => ?_)
              refine lv_goto (tgt := 4) hx hb dMo_walkOrder_160 (by decide) ?_
              have hW : dq_W D vwCl ad (dq_U w 121 (.inl (g 0, 14, .inl (sp_w od (fun i => nI (oN i)) 0 (i + 1))))) A H := dq_Wc (by rw [← sp_w_s, Nat.zero_add]) hW
              exact ih (i + 1) _ _ _ (by omega) (by omega) hW hS (lv_sub hl [2, 1, 0] rfl)
            · have hkt : k < tn := by rcases Nat.lt_or_ge k tn with q9 | q9; exact q9; exact absurd (nI_le q9 (by omega)) d1
              have hor : VS i ||| 2 ^ k < 2 ^ tn := dq_or_lt hVl hkt
              have hor1 : 0 < VS i ||| 2 ^ k := Nat.lt_of_lt_of_le (Nat.two_pow_pos k) Nat.right_le_or
              refine lv_iload_n hx hb dMo_walkOrder_29 rfl (lv_at hl 1 rfl) ?_
              refine lv_iload hx hb dMo_walkOrder_30 (lv_at hl 5 rfl) ?_
              refine lv_ishr hx hb dMo_walkOrder_32 ?_
              refine lv_iconst (v := (1)) hx hb dMo_walkOrder_33 (by decide) ?_
              refine lv_iand hx hb dMo_walkOrder_34 ?_
              refine dq_top (y := dq_b ((VS i).testBit k)) (dq_bit (by omega) (by omega)) ?_
              refine lv_if_ne (tgt := 138) hx hb dMo_walkOrder_35 (by decide) (fun d2 => ?_) (fun d2 => ?_)
              · refine lv_iinc (v := (nI (k + 1))) (lv' := [(6, .int (nI (k + 1))), (0, .ref (ad 100)), (1, .int (nI (VS i))), (2, .int (nI i)), (3, .int tk), (4, .long bs)]) hx hb dMo_walkOrder_138 hl (k := 5) rfl (by show nI k + 1 = _; exact nI_1 _) (by decide) rfl (fun ls hl => ?_)
                refine lv_goto (tgt := 20) hx hb dMo_walkOrder_141 (by decide) ?_
                exact ih2 (k + 1) tk bs _ _ _ (by omega) (by omega) (mo_T_set hT (dq_b_t d2)) hW hS (lv_sub hl [1, 2, 3, 4, 5, 0] rfl)
              · have hcl := dq_b_f d2
                have J : ∀ (H : Heap) (locs : List Loc) (ls : Array Slot), dq_W D vwCl ad (dq_U w 121 (.inl (g 0, 14, .inl (sp_w od (fun i => nI (oN i)) 0 i)))) A H → va_S A s.heap H locs → lv_has ls 11 [(0, .ref (ad 100)), (1, .int (nI (VS i))), (2, .int (nI i)), (3, .int tk), (4, .long bs), (6, .int (nI k))] → W p l e ({ frames := 2, cells := 0, slots := 0, locals := 50 } : Room) s m ([.ref (ad 100)] : List Value).toArray below meth c H locs 0 0 Q (F0 m 80 ls [.long (mo_step tX tY oN i k)]) := by
                  intro  H locs ls  hW hS hl
                  refine lv_lstore (lv' := [(7, .long (mo_step tX tY oN i k)), (0, .ref (ad 100)), (1, .int (nI (VS i))), (2, .int (nI i)), (3, .int tk), (4, .long bs), (6, .int (nI k))]) hx hb dMo_walkOrder_80 hl (by decide) rfl (fun ls hl => ?_)
                  refine lv_lload hx hb dMo_walkOrder_82 (lv_at hl 0 rfl) ?_
                  refine lv_aload_n hx hb dMo_walkOrder_84 rfl (lv_at hl 1 rfl) ?_
                  refine dq_get (D := D) (ci := 8) (v := .ref (ad 128)) (C := RMo) (T := TMo) (N := 29) hx hb hts hinMo hown hK hW 100 ((dq_Un (by decide)).trans m100) rfl 28 (by decide) hf71 (fun _ h9 => h9) rfl dMo_walkOrder_85 ?_
                  refine lv_bipush (v := (nI 10)) hx hb dMo_walkOrder_88 (by decide) ?_
                  refine lv_iload_n hx hb dMo_walkOrder_90 rfl (lv_at hl 2 rfl) ?_
                  refine lv_iconst (v := (1)) hx hb dMo_walkOrder_91 (by decide) ?_
                  refine lv_iload hx hb dMo_walkOrder_92 (lv_at hl 6 rfl) ?_
                  refine lv_ishl hx hb dMo_walkOrder_94 ?_
                  refine dq_top (y := nI (2 ^ k)) (dq_sh1 _ (by omega)) ?_
                  refine lv_ior hx hb dMo_walkOrder_95 ?_
                  refine dq_top (y := nI (VS i ||| 2 ^ k)) (nx_or _ _) ?_
                  refine lv_imul hx hb dMo_walkOrder_96 ?_
                  refine dq_top (y := nI (10 * (VS i ||| 2 ^ k))) (va_mulN 10 _) ?_
                  refine lv_iload hx hb dMo_walkOrder_97 (lv_at hl 6 rfl) ?_
                  refine lv_iadd hx hb dMo_walkOrder_99 ?_
                  refine dq_top (y := nI (10 * (VS i ||| 2 ^ k) + k)) (nI_add _ _) ?_
                  refine dq_laldN hx hb hK hW 128 2 ((dq_Un (by decide)).trans m128) rfl (10 * (VS i ||| 2 ^ k) + k) (by omega) (by omega) dMo_walkOrder_100 ?_
                  refine dq_topl (y := G (VS i ||| 2 ^ k) k) (hR _ (by omega) hor k hkt) ?_
                  refine lv_ladd hx hb dMo_walkOrder_101 ?_
                  refine dq_topl (y := mo_c tX tY G oN VS i k) rfl ?_
                  refine lv_lstore (lv' := [(9, .long (mo_c tX tY G oN VS i k)), (7, .long (mo_step tX tY oN i k)), (0, .ref (ad 100)), (1, .int (nI (VS i))), (2, .int (nI i)), (3, .int tk), (4, .long bs), (6, .int (nI k))]) hx hb dMo_walkOrder_102 hl (by decide) rfl (fun ls hl => ?_)
                  refine lv_iload_n hx hb dMo_walkOrder_104 rfl (lv_at hl 5 rfl) ?_
                  refine lv_if_lt (tgt := 116) hx hb dMo_walkOrder_105 (by decide) (fun d3 => ?_) (fun d3 => ?_)
                  · refine lv_iload hx hb dMo_walkOrder_116 (lv_at hl 7 rfl) ?_
                    refine lv_goto (tgt := 122) hx hb dMo_walkOrder_118 (by decide) ?_
                    refine lv_istore_n (lv' := [(3, .int (nI k)), (9, .long (mo_c tX tY G oN VS i k)), (7, .long (mo_step tX tY oN i k)), (0, .ref (ad 100)), (1, .int (nI (VS i))), (2, .int (nI i)), (4, .long bs), (6, .int (nI k))]) hx hb dMo_walkOrder_122 rfl hl (by decide) rfl (fun ls hl => ?_)
                    refine lv_iload_n hx hb dMo_walkOrder_123 rfl (lv_at hl 0 rfl) ?_
                    refine lv_iload hx hb dMo_walkOrder_124 (lv_at hl 7 rfl) ?_
                    refine lv_icmp_ne (tgt := 134) hx hb dMo_walkOrder_126 (by decide) (fun d5 => ?_) (fun d5 => ?_)
                    · exact absurd rfl d5
                    · refine lv_lload hx hb dMo_walkOrder_129 (lv_at hl 1 rfl) ?_
                      refine lv_goto (tgt := 136) hx hb dMo_walkOrder_131 (by decide) ?_
                      refine lv_lstore (lv' := [(4, .long (mo_c tX tY G oN VS i k)), (3, .int (nI k)), (9, .long (mo_c tX tY G oN VS i k)), (7, .long (mo_step tX tY oN i k)), (0, .ref (ad 100)), (1, .int (nI (VS i))), (2, .int (nI i)), (6, .int (nI k))]) hx hb dMo_walkOrder_136 hl (by decide) rfl (fun ls hl => ?_)
                      refine lv_iinc (v := (nI (k + 1))) (lv' := [(6, .int (nI (k + 1))), (4, .long (mo_c tX tY G oN VS i k)), (3, .int (nI k)), (9, .long (mo_c tX tY G oN VS i k)), (7, .long (mo_step tX tY oN i k)), (0, .ref (ad 100)), (1, .int (nI (VS i))), (2, .int (nI i))]) hx hb dMo_walkOrder_138 hl (k := 7) rfl (by show nI k + 1 = _; exact nI_1 _) (by decide) rfl (fun ls hl => ?_)
                      refine lv_goto (tgt := 20) hx hb dMo_walkOrder_141 (by decide) ?_
                      exact ih2 (k + 1) (nI k) ((mo_c tX tY G oN VS i) k) _ _ _ (by omega) (by omega) (mo_T_new hT hcl (by omega) (Or.inl d3)) hW hS (lv_sub hl [5, 6, 7, 2, 1, 0] rfl)
                  · refine lv_lload hx hb dMo_walkOrder_108 (lv_at hl 0 rfl) ?_
                    refine lv_lload hx hb dMo_walkOrder_110 (lv_at hl 6 rfl) ?_
                    refine W.lcmp hx hb dMo_walkOrder_112 ?_
                    refine lv_if_ge (tgt := 121) hx hb dMo_walkOrder_113 (by decide) (fun d4 => ?_) (fun d4 => ?_)
                    · refine lv_iload_n hx hb dMo_walkOrder_121 rfl (lv_at hl 5 rfl) ?_
                      refine lv_istore_n (lv' := [(3, .int tk), (9, .long (mo_c tX tY G oN VS i k)), (7, .long (mo_step tX tY oN i k)), (0, .ref (ad 100)), (1, .int (nI (VS i))), (2, .int (nI i)), (4, .long bs), (6, .int (nI k))]) hx hb dMo_walkOrder_122 rfl hl (by decide) rfl (fun ls hl => ?_)
                      refine lv_iload_n hx hb dMo_walkOrder_123 rfl (lv_at hl 0 rfl) ?_
                      refine lv_iload hx hb dMo_walkOrder_124 (lv_at hl 7 rfl) ?_
                      refine lv_icmp_ne (tgt := 134) hx hb dMo_walkOrder_126 (by decide) (fun d5 => ?_) (fun d5 => ?_)
                      · refine lv_lload hx hb dMo_walkOrder_134 (lv_at hl 6 rfl) ?_
                        refine lv_lstore (lv' := [(4, .long bs), (3, .int tk), (9, .long (mo_c tX tY G oN VS i k)), (7, .long (mo_step tX tY oN i k)), (0, .ref (ad 100)), (1, .int (nI (VS i))), (2, .int (nI i)), (6, .int (nI k))]) hx hb dMo_walkOrder_136 hl (by decide) rfl (fun ls hl => ?_)
                        refine lv_iinc (v := (nI (k + 1))) (lv' := [(6, .int (nI (k + 1))), (4, .long bs), (3, .int tk), (9, .long (mo_c tX tY G oN VS i k)), (7, .long (mo_step tX tY oN i k)), (0, .ref (ad 100)), (1, .int (nI (VS i))), (2, .int (nI i))]) hx hb dMo_walkOrder_138 hl (k := 7) rfl (by show nI k + 1 = _; exact nI_1 _) (by decide) rfl (fun ls hl => ?_)
                        refine lv_goto (tgt := 20) hx hb dMo_walkOrder_141 (by decide) ?_
                        exact ih2 (k + 1) tk bs _ _ _ (by omega) (by omega) (mo_T_old hT hcl d3 ((lg_cmp_ge _ _).mp d4)) hW hS (lv_sub hl [5, 6, 7, 2, 1, 0] rfl)
                      · exact absurd d5 (mo_T_ne hT (by omega))
                    · refine lv_iload hx hb dMo_walkOrder_116 (lv_at hl 7 rfl) ?_
                      refine lv_goto (tgt := 122) hx hb dMo_walkOrder_118 (by decide) ?_
                      refine lv_istore_n (lv' := [(3, .int (nI k)), (9, .long (mo_c tX tY G oN VS i k)), (7, .long (mo_step tX tY oN i k)), (0, .ref (ad 100)), (1, .int (nI (VS i))), (2, .int (nI i)), (4, .long bs), (6, .int (nI k))]) hx hb dMo_walkOrder_122 rfl hl (by decide) rfl (fun ls hl => ?_)
                      refine lv_iload_n hx hb dMo_walkOrder_123 rfl (lv_at hl 0 rfl) ?_
                      refine lv_iload hx hb dMo_walkOrder_124 (lv_at hl 7 rfl) ?_
                      refine lv_icmp_ne (tgt := 134) hx hb dMo_walkOrder_126 (by decide) (fun d5 => ?_) (fun d5 => ?_)
                      · exact absurd rfl d5
                      · refine lv_lload hx hb dMo_walkOrder_129 (lv_at hl 1 rfl) ?_
                        refine lv_goto (tgt := 136) hx hb dMo_walkOrder_131 (by decide) ?_
                        refine lv_lstore (lv' := [(4, .long (mo_c tX tY G oN VS i k)), (3, .int (nI k)), (9, .long (mo_c tX tY G oN VS i k)), (7, .long (mo_step tX tY oN i k)), (0, .ref (ad 100)), (1, .int (nI (VS i))), (2, .int (nI i)), (6, .int (nI k))]) hx hb dMo_walkOrder_136 hl (by decide) rfl (fun ls hl => ?_)
                        refine lv_iinc (v := (nI (k + 1))) (lv' := [(6, .int (nI (k + 1))), (4, .long (mo_c tX tY G oN VS i k)), (3, .int (nI k)), (9, .long (mo_c tX tY G oN VS i k)), (7, .long (mo_step tX tY oN i k)), (0, .ref (ad 100)), (1, .int (nI (VS i))), (2, .int (nI i))]) hx hb dMo_walkOrder_138 hl (k := 7) rfl (by show nI k + 1 = _; exact nI_1 _) (by decide) rfl (fun ls hl => ?_)
                        refine lv_goto (tgt := 20) hx hb dMo_walkOrder_141 (by decide) ?_
                        exact ih2 (k + 1) (nI k) ((mo_c tX tY G oN VS i) k) _ _ _ (by omega) (by omega) (mo_T_new hT hcl (by omega) (Or.inr (Int64.not_le.mp (fun h9 => d4 ((lg_cmp_ge _ _).mpr h9))))) hW hS (lv_sub hl [5, 6, 7, 2, 1, 0] rfl)
                refine lv_iload_n hx hb dMo_walkOrder_38 rfl (lv_at hl 2 rfl) ?_
                refine lv_if_ne (tgt := 66) hx hb dMo_walkOrder_39 (by decide) (fun d6 => ?_) (fun d6 => ?_)
                · have hi0 : ¬ i = 0 := fun h9 => d6 (by rw [h9]; rfl)
                  refine lv_aload_n hx hb dMo_walkOrder_66 rfl (lv_at hl 0 rfl) ?_
                  refine lv_aload_n hx hb dMo_walkOrder_67 rfl (lv_at hl 0 rfl) ?_
                  refine dq_get (D := D) (ci := 8) (v := .ref (ad 121)) (C := RMo) (T := TMo) (N := 29) hx hb hts hinMo hown hK hW 100 ((dq_Un (by decide)).trans m100) rfl 21 (by decide) hf53 (fun _ h9 => h9) rfl dMo_walkOrder_68 ?_
                  refine lv_iload_n hx hb dMo_walkOrder_71 rfl (lv_at hl 2 rfl) ?_
                  refine lv_iconst (v := (1)) hx hb dMo_walkOrder_72 (by decide) ?_
                  refine lv_isub hx hb dMo_walkOrder_73 ?_
                  refine dq_top (y := nI (i - 1)) (pk_sub (b := 1) (by omega)) ?_
                  refine dq_ialdN hx hb hK hW 121 0 dq_Us rfl (i - 1) (by omega) (by omega) dMo_walkOrder_74 ?_
                  refine dq_top (y := nI (oN (i - 1))) (by unfold sp_w; rw [if_pos (by omega)]; rfl) ?_
                  refine lv_iload hx hb dMo_walkOrder_75 (lv_at hl 5 rfl) ?_
                  have hop := (hO.2 (i - 1) (by omega)).1
                  refine dq_calll (va_runV (As := [.int (nI (oN (i - 1))), .int (nI k)]) (rest := []) ⟨hx, hb, hml, hown, hts⟩ (m_between l D g ad (dq_U w 121 (.inl (g 0, 14, .inl (sp_w od (fun i => nI (oN i)) 0 i)))) _ cd n hn cn pl tn sg wy tX tY tF tS (oN (i - 1)) k ((dq_Un (by decide)).trans m100) ((dq_Un (by decide)).trans m116) ((dq_Un (by decide)).trans m117) (by omega) (by omega)) (cwV 2 hts (dq_giV tw4_72 tw4_74 twp_23 tw1_10 tw4_75) rfl rfl rfl (by decide +kernel) ⟨Nat.le_of_ble_eq_true rfl, Nat.le_of_ble_eq_true rfl⟩) (dq_preV (ci := 8) hW hS hA hK hZ ((dq_Un (by decide)).trans m100) rfl rfl) rfl rfl hl.1 rfl (lv_room (Nat.le_of_ble_eq_true rfl)) dMo_walkOrder_77 ⟨Nat.zero_le _, Nat.zero_le _⟩) hW hS hA (fun r2 u_9 H locs hp2 hW hS hz9 => ?_)
                  obtain ⟨hr2, hu9⟩ := hp2
                  rw [hu9] at hW
                  subst hr2
                  have e8 : mo_step tX tY oN i k = ms_bt tX tY (oN (i - 1)) k := if_neg hi0
                  rw [e8] at J
                  exact J  _ _ _  hW hS (lv_sub hl [0, 1, 2, 3, 4, 5] rfl)
                · have hi0 : i = 0 := (nI_eq (b := 0) (by omega) (by omega)).mp d6
                  refine lv_aload_n hx hb dMo_walkOrder_42 rfl (lv_at hl 0 rfl) ?_
                  refine dq_get (D := D) (ci := 8) (v := .ref (ad 116)) (C := RMo) (T := TMo) (N := 29) hx hb hts hinMo hown hK hW 100 ((dq_Un (by decide)).trans m100) rfl 16 (by decide) hf41 (fun _ h9 => h9) rfl dMo_walkOrder_43 ?_
                  refine lv_iload hx hb dMo_walkOrder_46 (lv_at hl 5 rfl) ?_
                  refine dq_ialdN hx hb hK hW 116 0 ((dq_Un (by decide)).trans m116) rfl k (by omega) (by omega) dMo_walkOrder_48 ?_
                  refine dq_calll (va_runS (As := [.int (tX k)]) (rest := []) ⟨hx, hb, hml, hown, hts⟩ (m_size l D g ad (dq_U w 121 (.inl (g 0, 14, .inl (sp_w od (fun i => nI (oN i)) 0 i)))) _ (tX k)  ) (cwS 1 hts (dq_giS2 tw4_76 tw4_77 tw1_10 tw4_78) rfl rfl rfl (by decide +kernel) ⟨Nat.le_of_ble_eq_true rfl, Nat.le_of_ble_eq_true rfl⟩) (dq_preS hW hS hA hK hZ) rfl rfl hl.1 rfl (lv_room (Nat.le_of_ble_eq_true rfl)) dMo_walkOrder_49 ⟨Nat.zero_le _, Nat.zero_le _⟩) hW hS hA (fun r1 u_9 H locs hp1 hW hS hz9 => ?_)
                  obtain ⟨hr1, hu9⟩ := hp1
                  rw [hu9] at hW
                  subst hr1
                  refine lv_aload_n hx hb dMo_walkOrder_52 rfl (lv_at hl 0 rfl) ?_
                  refine dq_get (D := D) (ci := 8) (v := .ref (ad 117)) (C := RMo) (T := TMo) (N := 29) hx hb hts hinMo hown hK hW 100 ((dq_Un (by decide)).trans m100) rfl 17 (by decide) hf44 (fun _ h9 => h9) rfl dMo_walkOrder_53 ?_
                  refine lv_iload hx hb dMo_walkOrder_56 (lv_at hl 5 rfl) ?_
                  refine dq_ialdN hx hb hK hW 117 0 ((dq_Un (by decide)).trans m117) rfl k (by omega) (by omega) dMo_walkOrder_58 ?_
                  refine dq_calll (va_runS (As := [.int (tY k)]) (rest := [.long (ms_sz (tX k))]) ⟨hx, hb, hml, hown, hts⟩ (m_size l D g ad (dq_U w 121 (.inl (g 0, 14, .inl (sp_w od (fun i => nI (oN i)) 0 i)))) _ (tY k)  ) (cwS 1 hts (dq_giS2 tw4_76 tw4_77 tw1_10 tw4_78) rfl rfl rfl (by decide +kernel) ⟨Nat.le_of_ble_eq_true rfl, Nat.le_of_ble_eq_true rfl⟩) (dq_preS hW hS hA hK hZ) rfl rfl hl.1 rfl (lv_room (Nat.le_of_ble_eq_true rfl)) dMo_walkOrder_59 ⟨Nat.zero_le _, Nat.zero_le _⟩) hW hS hA (fun r2 u_9 H locs hp2 hW hS hz9 => ?_)
                  obtain ⟨hr2, hu9⟩ := hp2
                  rw [hu9] at hW
                  subst hr2
                  refine lv_ladd hx hb dMo_walkOrder_62 ?_
                  refine lv_goto (tgt := 80) hx hb dMo_walkOrder_63 (by decide) ?_
                  have e8 : mo_step tX tY oN i k = ms_sz (tX k) + ms_sz (tY k) := if_pos hi0
                  rw [e8] at J
                  exact J  _ _ _  hW hS (lv_sub hl [0, 1, 2, 3, 4, 5] rfl)
        exact loop2 (tn + 1) 0 (-1) 0 _ _ _ (by omega) (Nat.zero_le _) (mo_T_0 _ _) hW hS (lv_sub hl [3, 4, 5, 2, 1, 0] rfl)
  exact loop (tn + 1) 0 _ _ _ (by omega) (Nat.zero_le _) hW hS (by rw [hO.1]; exact (lv_sub hl [2, 1, 0] rfl))
