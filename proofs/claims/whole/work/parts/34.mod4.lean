theorem dq_sub32 (x s p : Int32) : x + s = p ↔ s = p - x := by
  constructor
  · intro h; subst h; rw [Int32.add_comm, Int32.add_sub_cancel]
  · intro h; subst h; rw [Int32.add_comm, Int32.sub_add_cancel]
/-- the spindle that meets a hole, as a question -/
def ms_at (sx sy sw : Nat → Int32) (a b wd x y : Int32) (k : Nat) : Bool := decide (sx k = a - x) && decide (sy k = b - y) && decide (sw k = wd)
theorem ms_at_1 {sx sy sw : Nat → Int32} {a b wd x y : Int32} {k : Nat} (h : ¬ sw k = wd) : ms_at sx sy sw a b wd x y k = false := by simp [ms_at, h]
theorem ms_at_2 {sx sy sw : Nat → Int32} {a b wd x y : Int32} {k : Nat} (h : ¬ x + sx k = a) : ms_at sx sy sw a b wd x y k = false := by
  rw [dq_sub32] at h
  simp [ms_at, h]
theorem ms_at_3 {sx sy sw : Nat → Int32} {a b wd x y : Int32} {k : Nat} (h : ¬ y + sy k = b) : ms_at sx sy sw a b wd x y k = false := by
  rw [dq_sub32] at h
  simp [ms_at, h]
theorem ms_at_t {sx sy sw : Nat → Int32} {a b wd x y : Int32} {k : Nat} (h1 : sw k = wd) (h2 : x + sx k = a) (h3 : y + sy k = b) : ms_at sx sy sw a b wd x y k = true := by
  rw [dq_sub32] at h2 h3
  simp [ms_at, h1, h2, h3]
theorem dq_fst_neg {P : Nat → Bool} {n : Nat} (hn : n < 2 ^ 31) : dq_fst P n < 0 ↔ dq_fst P n = -1 := by
  unfold dq_fst
  split
  · rename_i k hk
    have hkn : k < n := List.mem_range.mp (List.mem_of_find?_eq_some hk)
    constructor
    · intro h; exact absurd h (nI_pos (by omega))
    · intro h; exact absurd h (dq_nm1 (by omega))
  · exact ⟨fun _ => rfl, fun _ => by decide⟩
def ms_sz (v : Int32) : Int64 := if v < 0 then -(v.toInt64) else v.toInt64
def ms_bt (tX tY : Nat → Int32) (a b : Nat) : Int64 := ms_sz (tX a - tX b) + ms_sz (tY a - tY b)
theorem dq_b_1 {b : Bool} : dq_b b = 1 ↔ b = true := by cases b <;> decide
/-- the frame as the reference has it -/
def mb_lo (sw f : Nat → Int32) : Nat → Int32
  | 0 => 1000000000
  | k + 1 => if sw k ≤ 0 then mb_lo sw f k else (if f k < mb_lo sw f k then f k else mb_lo sw f k)
def mb_hi (sw f : Nat → Int32) : Nat → Int32
  | 0 => -1000000000
  | k + 1 => if sw k ≤ 0 then mb_hi sw f k else (if mb_hi sw f k < f k then f k else mb_hi sw f k)
/-- a box that bars -/
def mb_box (bx : Nat → Int32) (x0 x1 y0 y1 : Int32) (c : Nat) : Bool := (((decide (x0 < bx (4 * c + 2)) && decide (bx (4 * c) < x1)) && (decide (y0 < bx (4 * c + 3)) && decide (bx (4 * c + 1) < y1)))) && (decide (bx (4 * c) < bx (4 * c + 2)) && decide (bx (4 * c + 1) < bx (4 * c + 3)))
theorem dq_any_s (P : Nat → Bool) (k : Nat) : dq_any P (k + 1) = (dq_any P k || P k) := by
  unfold dq_any
  rw [List.range_succ, List.any_append]
  simp
theorem dq_pc_0 (S : Nat) : dq_pc S 0 = 0 := rfl
theorem dq_pc_le (S n : Nat) : dq_pc S n ≤ n := by
  induction n with
  | zero => exact Nat.le_refl 0
  | succ n ih => unfold dq_pc; split <;> omega
set_option maxHeartbeats 4000000 in
set_option maxRecDepth 100000 in
/-- hit, not planned -/
theorem m_hit1 (l : Launch) (D : va_G) (g : Nat → ClassId) (ad : Nat → Nat) (w : Nat → Option va_E) (sz : Nat) (cd : Int32) (n hn cn : Nat) (pl : Int32) (tn : Nat) (sg : Int32) (wy : Int64) (a0 a1 : Int32) (m100 : w 100 = some (.inr (8, [.int cd, .int (nI n), .ref (ad 102), .ref (ad 103), .ref (ad 104), .int (nI hn), .ref (ad 106), .ref (ad 107), .ref (ad 108), .ref (ad 109), .ref (ad 110), .ref (ad 111), .int (nI cn), .ref (ad 113), .int pl, .int (nI tn), .ref (ad 116), .ref (ad 117), .ref (ad 118), .ref (ad 119), .int sg, .ref (ad 121), .long wy, .ref (ad 123), .ref (ad 124), .ref (ad 125), .ref (ad 126), .ref (ad 127), .ref (ad 128)]))) (hpl : pl = 0) : Met l yMo_hit wsMo_hit ({ frames := 2, cells := 0, slots := 0, locals := 50 } : Room) (va_Pc [.ref (ad 100), .int a0, .int a1] (dq_S D vwCl (dq_t g) ad w sz)) (va_Qi (fun r u => r = 0 ∧ u = dq_U w 100 (.inr (8, [.int 1, .int (nI n), .ref (ad 102), .ref (ad 103), .ref (ad 104), .int (nI hn), .ref (ad 106), .ref (ad 107), .ref (ad 108), .ref (ad 109), .ref (ad 110), .ref (ad 111), .int (nI cn), .ref (ad 113), .int pl, .int (nI tn), .ref (ad 116), .ref (ad 117), .ref (ad 118), .ref (ad 119), .int sg, .ref (ad 121), .long wy, .ref (ad 123), .ref (ad 124), .ref (ad 125), .ref (ad 126), .ref (ad 127), .ref (ad 128)]))) (dq_B D vwCl (dq_t g) ad (dq_A ad w sz)) (dq_A ad w sz)) 0 0 (dq_A ad w sz) := by
  refine dq_ofi (cc := cMo_hit) (maxL := 3) (by decide) rfl (Nat.le_of_ble_eq_true rfl) ?_
  intro p e s m below meth c A Q ls ⟨hx, hb, hml, hown, hts⟩ hnm hA hW hK hZ hl hret
  have hS : va_S A s.heap s.heap [] := va_S.rf
  have hl : lv_has ls 3 [(0, .ref (ad 100)), (1, .int a0), (2, .int a1)] := hl
  have hf41 := hts _ (List.mem_cons_of_mem _ tw3_170)
  have hf44 := hts _ (List.mem_cons_of_mem _ tw3_171)
  have hf47 := hts _ (List.mem_cons_of_mem _ tw3_172)
  have hf50 := hts _ (List.mem_cons_of_mem _ tw3_173)
  have hf79 := hts _ (List.mem_cons_of_mem _ tw3_154)
  have hf127 := hts _ (List.mem_cons_of_mem _ tw3_169)
  have hinMo : ∀ w ∈ u_ws RMo TMo 29, w ∈ wsMo_hit := fun w h => List.mem_cons_of_mem _ (inMo w h)
  refine lv_aload_n hx hb dMo_hit_0 rfl (lv_at hl 0 rfl) ?_
  refine dq_calli (va_runV (As := []) (rest := []) ⟨hx, hb, hml, hown, hts⟩ (m_none_y l D g ad (w) _ cd n hn cn pl tn sg wy m100 hpl) (cwV 0 hts (dq_giV tw4_87 tw4_89 twp_25 tw1_10 tw4_90) rfl rfl rfl (by decide +kernel) ⟨Nat.le_of_ble_eq_true rfl, Nat.le_of_ble_eq_true rfl⟩) (dq_preV (ci := 8) hW hS hA hK hZ m100 rfl rfl) rfl rfl hl.1 rfl (lv_room (Nat.le_of_ble_eq_true rfl)) dMo_hit_1 ⟨Nat.zero_le _, Nat.zero_le _⟩) hW hS hA (fun r1 u_9 H locs hp1 hW hS hz9 => ?_)
  obtain ⟨hr1, hu9⟩ := hp1
  rw [hu9] at hW
  subst hr1
  refine lv_if_eq (tgt := 9) hx hb dMo_hit_4 (by decide) (fun c1 => ?_) (fun c1 => ?_)
  · exact absurd c1 (by decide)
  · refine lv_iconst (v := (0)) hx hb dMo_hit_7 (by decide) ?_
    exact hret _ _ _ _ _ _ ⟨rfl, rfl⟩ hW hS dMo_hit_8

set_option maxHeartbeats 4000000 in
set_option maxRecDepth 100000 in
/-- hit, no such hit -/
theorem m_hit2 (l : Launch) (D : va_G) (g : Nat → ClassId) (ad : Nat → Nat) (w : Nat → Option va_E) (sz : Nat) (cd : Int32) (n hn cn : Nat) (pl : Int32) (tn : Nat) (sg : Int32) (wy : Int64) (a0 a1 : Int32) (m100 : w 100 = some (.inr (8, [.int cd, .int (nI n), .ref (ad 102), .ref (ad 103), .ref (ad 104), .int (nI hn), .ref (ad 106), .ref (ad 107), .ref (ad 108), .ref (ad 109), .ref (ad 110), .ref (ad 111), .int (nI cn), .ref (ad 113), .int pl, .int (nI tn), .ref (ad 116), .ref (ad 117), .ref (ad 118), .ref (ad 119), .int sg, .ref (ad 121), .long wy, .ref (ad 123), .ref (ad 124), .ref (ad 125), .ref (ad 126), .ref (ad 127), .ref (ad 128)]))) (hpl : ¬ pl = 0) (h0 : a0 < 0 ∨ ¬ a0 < nI tn) : Met l yMo_hit wsMo_hit ({ frames := 2, cells := 0, slots := 0, locals := 50 } : Room) (va_Pc [.ref (ad 100), .int a0, .int a1] (dq_S D vwCl (dq_t g) ad w sz)) (va_Qi (fun r u => r = 0 ∧ u = dq_U w 100 (.inr (8, [.int 2, .int (nI n), .ref (ad 102), .ref (ad 103), .ref (ad 104), .int (nI hn), .ref (ad 106), .ref (ad 107), .ref (ad 108), .ref (ad 109), .ref (ad 110), .ref (ad 111), .int (nI cn), .ref (ad 113), .int pl, .int (nI tn), .ref (ad 116), .ref (ad 117), .ref (ad 118), .ref (ad 119), .int sg, .ref (ad 121), .long wy, .ref (ad 123), .ref (ad 124), .ref (ad 125), .ref (ad 126), .ref (ad 127), .ref (ad 128)]))) (dq_B D vwCl (dq_t g) ad (dq_A ad w sz)) (dq_A ad w sz)) 0 0 (dq_A ad w sz) := by
  refine dq_ofi (cc := cMo_hit) (maxL := 3) (by decide) rfl (Nat.le_of_ble_eq_true rfl) ?_
  intro p e s m below meth c A Q ls ⟨hx, hb, hml, hown, hts⟩ hnm hA hW hK hZ hl hret
  have hS : va_S A s.heap s.heap [] := va_S.rf
  have hl : lv_has ls 3 [(0, .ref (ad 100)), (1, .int a0), (2, .int a1)] := hl
  have hf41 := hts _ (List.mem_cons_of_mem _ tw3_170)
  have hf44 := hts _ (List.mem_cons_of_mem _ tw3_171)
  have hf47 := hts _ (List.mem_cons_of_mem _ tw3_172)
  have hf50 := hts _ (List.mem_cons_of_mem _ tw3_173)
  have hf79 := hts _ (List.mem_cons_of_mem _ tw3_154)
  have hf127 := hts _ (List.mem_cons_of_mem _ tw3_169)
  have hinMo : ∀ w ∈ u_ws RMo TMo 29, w ∈ wsMo_hit := fun w h => List.mem_cons_of_mem _ (inMo w h)
  refine lv_aload_n hx hb dMo_hit_0 rfl (lv_at hl 0 rfl) ?_
  refine dq_calli (va_runV (As := []) (rest := []) ⟨hx, hb, hml, hown, hts⟩ (m_none_n l D g ad (w) _ cd n hn cn pl tn sg wy m100 hpl) (cwV 0 hts (dq_giV tw4_87 tw4_89 twp_25 tw1_10 tw4_90) rfl rfl rfl (by decide +kernel) ⟨Nat.le_of_ble_eq_true rfl, Nat.le_of_ble_eq_true rfl⟩) (dq_preV (ci := 8) hW hS hA hK hZ m100 rfl rfl) rfl rfl hl.1 rfl (lv_room (Nat.le_of_ble_eq_true rfl)) dMo_hit_1 ⟨Nat.zero_le _, Nat.zero_le _⟩) hW hS hA (fun r1 u_9 H locs hp1 hW hS hz9 => ?_)
  obtain ⟨hr1, hu9⟩ := hp1
  rw [hu9] at hW
  subst hr1
  refine lv_if_eq (tgt := 9) hx hb dMo_hit_4 (by decide) (fun c1 => ?_) (fun c1 => ?_)
  · refine lv_aload_n hx hb dMo_hit_9 rfl (lv_at hl 0 rfl) ?_
    refine lv_iload_n hx hb dMo_hit_10 rfl (lv_at hl 1 rfl) ?_
    refine lv_if_lt (tgt := 22) hx hb dMo_hit_11 (by decide) (fun c2 => ?_) (fun c2 => ?_)
    · refine lv_iconst (v := (2)) hx hb dMo_hit_22 (by decide) ?_
      refine lv_goto (tgt := 40) hx hb dMo_hit_23 (by decide) ?_
      refine dq_put (D := D) (ci := 8) (v := .int (2)) (ty := .int) (C := RMo) (T := TMo) (N := 29) hx hb hts hinMo tyMo tyMo_ok nmMo hown hK hW hS 100 dq_Us rfl 0 (by decide) hf79 (fun _ h9 => h9) rfl (by decide +kernel) rfl rfl (Nat.le_of_ble_eq_true rfl) dMo_hit_40 (fun H locs hW hS => ?_)
      rw [dq_UU] at hW
      refine lv_aload_n hx hb dMo_hit_43 rfl (lv_at hl 0 rfl) ?_
      refine dq_get (D := D) (ci := 8) (v := .int (2)) (C := RMo) (T := TMo) (N := 29) hx hb hts hinMo hown hK hW 100 dq_Us rfl 0 (by decide) hf79 (fun _ h9 => h9) rfl dMo_hit_44 ?_
      refine lv_if_le (tgt := 52) hx hb dMo_hit_47 (by decide) (fun c4 => ?_) (fun c4 => ?_)
      · exact absurd c4 (by decide)
      · refine lv_iconst (v := (0)) hx hb dMo_hit_50 (by decide) ?_
        exact hret _ _ _ _ _ _ ⟨rfl, rfl⟩ hW hS dMo_hit_51
    · refine lv_iload_n hx hb dMo_hit_14 rfl (lv_at hl 1 rfl) ?_
      refine lv_aload_n hx hb dMo_hit_15 rfl (lv_at hl 0 rfl) ?_
      refine dq_get (D := D) (ci := 8) (v := .int (nI tn)) (C := RMo) (T := TMo) (N := 29) hx hb hts hinMo hown hK hW 100 dq_Us rfl 15 (by decide) hf127 (fun _ h9 => h9) rfl dMo_hit_16 ?_
      refine lv_icmp_lt (tgt := 26) hx hb dMo_hit_19 (by decide) (fun c3 => ?_) (fun c3 => ?_)
      · exact (h0.elim c2 (fun h => absurd c3 h)).elim
      · refine lv_iconst (v := (2)) hx hb dMo_hit_22 (by decide) ?_
        refine lv_goto (tgt := 40) hx hb dMo_hit_23 (by decide) ?_
        refine dq_put (D := D) (ci := 8) (v := .int (2)) (ty := .int) (C := RMo) (T := TMo) (N := 29) hx hb hts hinMo tyMo tyMo_ok nmMo hown hK hW hS 100 dq_Us rfl 0 (by decide) hf79 (fun _ h9 => h9) rfl (by decide +kernel) rfl rfl (Nat.le_of_ble_eq_true rfl) dMo_hit_40 (fun H locs hW hS => ?_)
        rw [dq_UU] at hW
        refine lv_aload_n hx hb dMo_hit_43 rfl (lv_at hl 0 rfl) ?_
        refine dq_get (D := D) (ci := 8) (v := .int (2)) (C := RMo) (T := TMo) (N := 29) hx hb hts hinMo hown hK hW 100 dq_Us rfl 0 (by decide) hf79 (fun _ h9 => h9) rfl dMo_hit_44 ?_
        refine lv_if_le (tgt := 52) hx hb dMo_hit_47 (by decide) (fun c4 => ?_) (fun c4 => ?_)
        · exact absurd c4 (by decide)
        · refine lv_iconst (v := (0)) hx hb dMo_hit_50 (by decide) ?_
          exact hret _ _ _ _ _ _ ⟨rfl, rfl⟩ hW hS dMo_hit_51
  · exact absurd rfl c1

set_option maxHeartbeats 4000000 in
set_option maxRecDepth 100000 in
/-- hit, nothing of that number -/
theorem m_hit3 (l : Launch) (D : va_G) (g : Nat → ClassId) (ad : Nat → Nat) (w : Nat → Option va_E) (sz : Nat) (cd : Int32) (n hn cn : Nat) (pl : Int32) (tn : Nat) (sg : Int32) (wy : Int64) (k : Nat) (a1 : Int32) (m100 : w 100 = some (.inr (8, [.int cd, .int (nI n), .ref (ad 102), .ref (ad 103), .ref (ad 104), .int (nI hn), .ref (ad 106), .ref (ad 107), .ref (ad 108), .ref (ad 109), .ref (ad 110), .ref (ad 111), .int (nI cn), .ref (ad 113), .int pl, .int (nI tn), .ref (ad 116), .ref (ad 117), .ref (ad 118), .ref (ad 119), .int sg, .ref (ad 121), .long wy, .ref (ad 123), .ref (ad 124), .ref (ad 125), .ref (ad 126), .ref (ad 127), .ref (ad 128)]))) (hpl : ¬ pl = 0) (hk : k < tn) (ht14 : tn ≤ 14) (h0 : mr_in a1 0 3 = false) : Met l yMo_hit wsMo_hit ({ frames := 2, cells := 0, slots := 0, locals := 50 } : Room) (va_Pc [.ref (ad 100), .int (nI k), .int a1] (dq_S D vwCl (dq_t g) ad w sz)) (va_Qi (fun r u => r = 0 ∧ u = dq_U w 100 (.inr (8, [.int 3, .int (nI n), .ref (ad 102), .ref (ad 103), .ref (ad 104), .int (nI hn), .ref (ad 106), .ref (ad 107), .ref (ad 108), .ref (ad 109), .ref (ad 110), .ref (ad 111), .int (nI cn), .ref (ad 113), .int pl, .int (nI tn), .ref (ad 116), .ref (ad 117), .ref (ad 118), .ref (ad 119), .int sg, .ref (ad 121), .long wy, .ref (ad 123), .ref (ad 124), .ref (ad 125), .ref (ad 126), .ref (ad 127), .ref (ad 128)]))) (dq_B D vwCl (dq_t g) ad (dq_A ad w sz)) (dq_A ad w sz)) 0 0 (dq_A ad w sz) := by
  refine dq_ofi (cc := cMo_hit) (maxL := 3) (by decide) rfl (Nat.le_of_ble_eq_true rfl) ?_
  intro p e s m below meth c A Q ls ⟨hx, hb, hml, hown, hts⟩ hnm hA hW hK hZ hl hret
  have hS : va_S A s.heap s.heap [] := va_S.rf
  have hl : lv_has ls 3 [(0, .ref (ad 100)), (1, .int (nI k)), (2, .int a1)] := hl
  have hf41 := hts _ (List.mem_cons_of_mem _ tw3_170)
  have hf44 := hts _ (List.mem_cons_of_mem _ tw3_171)
  have hf47 := hts _ (List.mem_cons_of_mem _ tw3_172)
  have hf50 := hts _ (List.mem_cons_of_mem _ tw3_173)
  have hf79 := hts _ (List.mem_cons_of_mem _ tw3_154)
  have hf127 := hts _ (List.mem_cons_of_mem _ tw3_169)
  have hinMo : ∀ w ∈ u_ws RMo TMo 29, w ∈ wsMo_hit := fun w h => List.mem_cons_of_mem _ (inMo w h)
  refine lv_aload_n hx hb dMo_hit_0 rfl (lv_at hl 0 rfl) ?_
  refine dq_calli (va_runV (As := []) (rest := []) ⟨hx, hb, hml, hown, hts⟩ (m_none_n l D g ad (w) _ cd n hn cn pl tn sg wy m100 hpl) (cwV 0 hts (dq_giV tw4_87 tw4_89 twp_25 tw1_10 tw4_90) rfl rfl rfl (by decide +kernel) ⟨Nat.le_of_ble_eq_true rfl, Nat.le_of_ble_eq_true rfl⟩) (dq_preV (ci := 8) hW hS hA hK hZ m100 rfl rfl) rfl rfl hl.1 rfl (lv_room (Nat.le_of_ble_eq_true rfl)) dMo_hit_1 ⟨Nat.zero_le _, Nat.zero_le _⟩) hW hS hA (fun r1 u_9 H locs hp1 hW hS hz9 => ?_)
  obtain ⟨hr1, hu9⟩ := hp1
  rw [hu9] at hW
  subst hr1
  refine lv_if_eq (tgt := 9) hx hb dMo_hit_4 (by decide) (fun c1 => ?_) (fun c1 => ?_)
  · refine lv_aload_n hx hb dMo_hit_9 rfl (lv_at hl 0 rfl) ?_
    refine lv_iload_n hx hb dMo_hit_10 rfl (lv_at hl 1 rfl) ?_
    refine lv_if_lt (tgt := 22) hx hb dMo_hit_11 (by decide) (fun c2 => ?_) (fun c2 => ?_)
    · exact absurd c2 (nI_pos (by omega))
    · refine lv_iload_n hx hb dMo_hit_14 rfl (lv_at hl 1 rfl) ?_
      refine lv_aload_n hx hb dMo_hit_15 rfl (lv_at hl 0 rfl) ?_
      refine dq_get (D := D) (ci := 8) (v := .int (nI tn)) (C := RMo) (T := TMo) (N := 29) hx hb hts hinMo hown hK hW 100 dq_Us rfl 15 (by decide) hf127 (fun _ h9 => h9) rfl dMo_hit_16 ?_
      refine lv_icmp_lt (tgt := 26) hx hb dMo_hit_19 (by decide) (fun c3 => ?_) (fun c3 => ?_)
      · refine lv_iload_n hx hb dMo_hit_26 rfl (lv_at hl 2 rfl) ?_
        refine lv_iconst (v := (0)) hx hb dMo_hit_27 (by decide) ?_
        refine lv_iconst (v := (3)) hx hb dMo_hit_28 (by decide) ?_
        refine dq_calli (va_runS (As := [.int a1, .int (0), .int (3)]) (rest := [.ref (ad 100)]) ⟨hx, hb, hml, hown, hts⟩ (m_isIn l D g ad (dq_U w 100 (.inr (8, [.int 0, .int (nI n), .ref (ad 102), .ref (ad 103), .ref (ad 104), .int (nI hn), .ref (ad 106), .ref (ad 107), .ref (ad 108), .ref (ad 109), .ref (ad 110), .ref (ad 111), .int (nI cn), .ref (ad 113), .int pl, .int (nI tn), .ref (ad 116), .ref (ad 117), .ref (ad 118), .ref (ad 119), .int sg, .ref (ad 121), .long wy, .ref (ad 123), .ref (ad 124), .ref (ad 125), .ref (ad 126), .ref (ad 127), .ref (ad 128)]))) _ a1 0 3  ) (cwS 3 hts (dq_giS2 tw4_11 tw4_12 tw1_10 tw4_13) rfl rfl rfl (by decide +kernel) ⟨Nat.le_of_ble_eq_true rfl, Nat.le_of_ble_eq_true rfl⟩) (dq_preS hW hS hA hK hZ) rfl rfl hl.1 rfl (lv_room (Nat.le_of_ble_eq_true rfl)) dMo_hit_29 ⟨Nat.zero_le _, Nat.zero_le _⟩) hW hS hA (fun r1 u_9 H locs hp1 hW hS hz9 => ?_)
        obtain ⟨hr1, hu9⟩ := hp1
        rw [hu9] at hW
        subst hr1
        refine lv_if_eq (tgt := 39) hx hb dMo_hit_32 (by decide) (fun c9 => ?_) (fun c9 => ?_)
        · have q0 := dq_b_f c9
          refine lv_iconst (v := (3)) hx hb dMo_hit_39 (by decide) ?_
          refine dq_put (D := D) (ci := 8) (v := .int (3)) (ty := .int) (C := RMo) (T := TMo) (N := 29) hx hb hts hinMo tyMo tyMo_ok nmMo hown hK hW hS 100 dq_Us rfl 0 (by decide) hf79 (fun _ h9 => h9) rfl (by decide +kernel) rfl rfl (Nat.le_of_ble_eq_true rfl) dMo_hit_40 (fun H locs hW hS => ?_)
          rw [dq_UU] at hW
          refine lv_aload_n hx hb dMo_hit_43 rfl (lv_at hl 0 rfl) ?_
          refine dq_get (D := D) (ci := 8) (v := .int (3)) (C := RMo) (T := TMo) (N := 29) hx hb hts hinMo hown hK hW 100 dq_Us rfl 0 (by decide) hf79 (fun _ h9 => h9) rfl dMo_hit_44 ?_
          refine lv_if_le (tgt := 52) hx hb dMo_hit_47 (by decide) (fun c4 => ?_) (fun c4 => ?_)
          · exact absurd c4 (by decide)
          · refine lv_iconst (v := (0)) hx hb dMo_hit_50 (by decide) ?_
            exact hret _ _ _ _ _ _ ⟨rfl, rfl⟩ hW hS dMo_hit_51
        · have q0 := dq_b_t c9
          exact absurd (h0.symm.trans q0) (by decide)
      · exact absurd (nI_lt hk (by omega)) c3
  · exact absurd rfl c1

set_option maxHeartbeats 4000000 in
set_option maxRecDepth 100000 in
/-- hit(k, 0) -/
theorem m_hit_0 (l : Launch) (D : va_G) (g : Nat → ClassId) (ad : Nat → Nat) (w : Nat → Option va_E) (sz : Nat) (cd : Int32) (n hn cn : Nat) (pl : Int32) (tn : Nat) (sg : Int32) (wy : Int64) (tX tY tF tS : Nat → Int32) (k : Nat) (m100 : w 100 = some (.inr (8, [.int cd, .int (nI n), .ref (ad 102), .ref (ad 103), .ref (ad 104), .int (nI hn), .ref (ad 106), .ref (ad 107), .ref (ad 108), .ref (ad 109), .ref (ad 110), .ref (ad 111), .int (nI cn), .ref (ad 113), .int pl, .int (nI tn), .ref (ad 116), .ref (ad 117), .ref (ad 118), .ref (ad 119), .int sg, .ref (ad 121), .long wy, .ref (ad 123), .ref (ad 124), .ref (ad 125), .ref (ad 126), .ref (ad 127), .ref (ad 128)]))) (m116 : w 116 = some (.inl (g 0, 14, .inl tX))) (m117 : w 117 = some (.inl (g 0, 14, .inl tY))) (m118 : w 118 = some (.inl (g 0, 14, .inl tF))) (m119 : w 119 = some (.inl (g 0, 14, .inl tS))) (hpl : ¬ pl = 0) (hk : k < tn) (ht14 : tn ≤ 14) : Met l yMo_hit wsMo_hit ({ frames := 2, cells := 0, slots := 0, locals := 50 } : Room) (va_Pc [.ref (ad 100), .int (nI k), .int 0] (dq_S D vwCl (dq_t g) ad w sz)) (va_Qi (fun r u => r = tX k ∧ u = dq_U w 100 (.inr (8, [.int 0, .int (nI n), .ref (ad 102), .ref (ad 103), .ref (ad 104), .int (nI hn), .ref (ad 106), .ref (ad 107), .ref (ad 108), .ref (ad 109), .ref (ad 110), .ref (ad 111), .int (nI cn), .ref (ad 113), .int pl, .int (nI tn), .ref (ad 116), .ref (ad 117), .ref (ad 118), .ref (ad 119), .int sg, .ref (ad 121), .long wy, .ref (ad 123), .ref (ad 124), .ref (ad 125), .ref (ad 126), .ref (ad 127), .ref (ad 128)]))) (dq_B D vwCl (dq_t g) ad (dq_A ad w sz)) (dq_A ad w sz)) 0 0 (dq_A ad w sz) := by
  refine dq_ofi (cc := cMo_hit) (maxL := 3) (by decide) rfl (Nat.le_of_ble_eq_true rfl) ?_
  intro p e s m below meth c A Q ls ⟨hx, hb, hml, hown, hts⟩ hnm hA hW hK hZ hl hret
  have hS : va_S A s.heap s.heap [] := va_S.rf
  have hl : lv_has ls 3 [(0, .ref (ad 100)), (1, .int (nI k)), (2, .int 0)] := hl
  have hf41 := hts _ (List.mem_cons_of_mem _ tw3_170)
  have hf44 := hts _ (List.mem_cons_of_mem _ tw3_171)
  have hf47 := hts _ (List.mem_cons_of_mem _ tw3_172)
  have hf50 := hts _ (List.mem_cons_of_mem _ tw3_173)
  have hf79 := hts _ (List.mem_cons_of_mem _ tw3_154)
  have hf127 := hts _ (List.mem_cons_of_mem _ tw3_169)
  have hinMo : ∀ w ∈ u_ws RMo TMo 29, w ∈ wsMo_hit := fun w h => List.mem_cons_of_mem _ (inMo w h)
  refine lv_aload_n hx hb dMo_hit_0 rfl (lv_at hl 0 rfl) ?_
  refine dq_calli (va_runV (As := []) (rest := []) ⟨hx, hb, hml, hown, hts⟩ (m_none_n l D g ad (w) _ cd n hn cn pl tn sg wy m100 hpl) (cwV 0 hts (dq_giV tw4_87 tw4_89 twp_25 tw1_10 tw4_90) rfl rfl rfl (by decide +kernel) ⟨Nat.le_of_ble_eq_true rfl, Nat.le_of_ble_eq_true rfl⟩) (dq_preV (ci := 8) hW hS hA hK hZ m100 rfl rfl) rfl rfl hl.1 rfl (lv_room (Nat.le_of_ble_eq_true rfl)) dMo_hit_1 ⟨Nat.zero_le _, Nat.zero_le _⟩) hW hS hA (fun r1 u_9 H locs hp1 hW hS hz9 => ?_)
  obtain ⟨hr1, hu9⟩ := hp1
  rw [hu9] at hW
  subst hr1
  refine lv_if_eq (tgt := 9) hx hb dMo_hit_4 (by decide) (fun c1 => ?_) (fun c1 => ?_)
  · refine lv_aload_n hx hb dMo_hit_9 rfl (lv_at hl 0 rfl) ?_
    refine lv_iload_n hx hb dMo_hit_10 rfl (lv_at hl 1 rfl) ?_
    refine lv_if_lt (tgt := 22) hx hb dMo_hit_11 (by decide) (fun c2 => ?_) (fun c2 => ?_)
    · exact absurd c2 (nI_pos (by omega))
    · refine lv_iload_n hx hb dMo_hit_14 rfl (lv_at hl 1 rfl) ?_
      refine lv_aload_n hx hb dMo_hit_15 rfl (lv_at hl 0 rfl) ?_
      refine dq_get (D := D) (ci := 8) (v := .int (nI tn)) (C := RMo) (T := TMo) (N := 29) hx hb hts hinMo hown hK hW 100 dq_Us rfl 15 (by decide) hf127 (fun _ h9 => h9) rfl dMo_hit_16 ?_
      refine lv_icmp_lt (tgt := 26) hx hb dMo_hit_19 (by decide) (fun c3 => ?_) (fun c3 => ?_)
      · refine lv_iload_n hx hb dMo_hit_26 rfl (lv_at hl 2 rfl) ?_
        refine lv_iconst (v := (0)) hx hb dMo_hit_27 (by decide) ?_
        refine lv_iconst (v := (3)) hx hb dMo_hit_28 (by decide) ?_
        refine dq_calli (va_runS (As := [.int 0, .int (0), .int (3)]) (rest := [.ref (ad 100)]) ⟨hx, hb, hml, hown, hts⟩ (m_isIn l D g ad (dq_U w 100 (.inr (8, [.int 0, .int (nI n), .ref (ad 102), .ref (ad 103), .ref (ad 104), .int (nI hn), .ref (ad 106), .ref (ad 107), .ref (ad 108), .ref (ad 109), .ref (ad 110), .ref (ad 111), .int (nI cn), .ref (ad 113), .int pl, .int (nI tn), .ref (ad 116), .ref (ad 117), .ref (ad 118), .ref (ad 119), .int sg, .ref (ad 121), .long wy, .ref (ad 123), .ref (ad 124), .ref (ad 125), .ref (ad 126), .ref (ad 127), .ref (ad 128)]))) _ 0 0 3  ) (cwS 3 hts (dq_giS2 tw4_11 tw4_12 tw1_10 tw4_13) rfl rfl rfl (by decide +kernel) ⟨Nat.le_of_ble_eq_true rfl, Nat.le_of_ble_eq_true rfl⟩) (dq_preS hW hS hA hK hZ) rfl rfl hl.1 rfl (lv_room (Nat.le_of_ble_eq_true rfl)) dMo_hit_29 ⟨Nat.zero_le _, Nat.zero_le _⟩) hW hS hA (fun r1 u_9 H locs hp1 hW hS hz9 => ?_)
        obtain ⟨hr1, hu9⟩ := hp1
        rw [hu9] at hW
        subst hr1
        refine lv_if_eq (tgt := 39) hx hb dMo_hit_32 (by decide) (fun c9 => ?_) (fun c9 => ?_)
        · have q0 := dq_b_f c9
          exact absurd q0 (by decide)
        · have q0 := dq_b_t c9
          refine lv_iconst (v := (0)) hx hb dMo_hit_35 (by decide) ?_
          refine lv_goto (tgt := 40) hx hb dMo_hit_36 (by decide) ?_
          refine dq_put (D := D) (ci := 8) (v := .int (0)) (ty := .int) (C := RMo) (T := TMo) (N := 29) hx hb hts hinMo tyMo tyMo_ok nmMo hown hK hW hS 100 dq_Us rfl 0 (by decide) hf79 (fun _ h9 => h9) rfl (by decide +kernel) rfl rfl (Nat.le_of_ble_eq_true rfl) dMo_hit_40 (fun H locs hW hS => ?_)
          rw [dq_UU] at hW
          refine lv_aload_n hx hb dMo_hit_43 rfl (lv_at hl 0 rfl) ?_
          refine dq_get (D := D) (ci := 8) (v := .int (0)) (C := RMo) (T := TMo) (N := 29) hx hb hts hinMo hown hK hW 100 dq_Us rfl 0 (by decide) hf79 (fun _ h9 => h9) rfl dMo_hit_44 ?_
          refine lv_if_le (tgt := 52) hx hb dMo_hit_47 (by decide) (fun c4 => ?_) (fun c4 => ?_)
          · refine lv_iload_n hx hb dMo_hit_52 rfl (lv_at hl 2 rfl) ?_
            refine lv_if_ne (tgt := 65) hx hb dMo_hit_53 (by decide) (fun d0 => ?_) (fun d0 => ?_)
            · exact absurd rfl d0
            · refine lv_aload_n hx hb dMo_hit_56 rfl (lv_at hl 0 rfl) ?_
              refine dq_get (D := D) (ci := 8) (v := .ref (ad 116)) (C := RMo) (T := TMo) (N := 29) hx hb hts hinMo hown hK hW 100 dq_Us rfl 16 (by decide) hf41 (fun _ h9 => h9) rfl dMo_hit_57 ?_
              refine lv_iload_n hx hb dMo_hit_60 rfl (lv_at hl 1 rfl) ?_
              refine dq_ialdN hx hb hK hW 116 0 ((dq_Un (by decide)).trans m116) rfl k (by omega) (by omega) dMo_hit_61 ?_
              refine lv_goto (tgt := 99) hx hb dMo_hit_62 (by decide) ?_
              exact hret _ _ _ _ _ _ ⟨rfl, rfl⟩ hW hS dMo_hit_99
          · exact absurd (by decide) c4
      · exact absurd (nI_lt hk (by omega)) c3
  · exact absurd rfl c1

set_option maxHeartbeats 4000000 in
set_option maxRecDepth 100000 in
/-- hit(k, 1) -/
theorem m_hit_1 (l : Launch) (D : va_G) (g : Nat → ClassId) (ad : Nat → Nat) (w : Nat → Option va_E) (sz : Nat) (cd : Int32) (n hn cn : Nat) (pl : Int32) (tn : Nat) (sg : Int32) (wy : Int64) (tX tY tF tS : Nat → Int32) (k : Nat) (m100 : w 100 = some (.inr (8, [.int cd, .int (nI n), .ref (ad 102), .ref (ad 103), .ref (ad 104), .int (nI hn), .ref (ad 106), .ref (ad 107), .ref (ad 108), .ref (ad 109), .ref (ad 110), .ref (ad 111), .int (nI cn), .ref (ad 113), .int pl, .int (nI tn), .ref (ad 116), .ref (ad 117), .ref (ad 118), .ref (ad 119), .int sg, .ref (ad 121), .long wy, .ref (ad 123), .ref (ad 124), .ref (ad 125), .ref (ad 126), .ref (ad 127), .ref (ad 128)]))) (m116 : w 116 = some (.inl (g 0, 14, .inl tX))) (m117 : w 117 = some (.inl (g 0, 14, .inl tY))) (m118 : w 118 = some (.inl (g 0, 14, .inl tF))) (m119 : w 119 = some (.inl (g 0, 14, .inl tS))) (hpl : ¬ pl = 0) (hk : k < tn) (ht14 : tn ≤ 14) : Met l yMo_hit wsMo_hit ({ frames := 2, cells := 0, slots := 0, locals := 50 } : Room) (va_Pc [.ref (ad 100), .int (nI k), .int 1] (dq_S D vwCl (dq_t g) ad w sz)) (va_Qi (fun r u => r = tY k ∧ u = dq_U w 100 (.inr (8, [.int 0, .int (nI n), .ref (ad 102), .ref (ad 103), .ref (ad 104), .int (nI hn), .ref (ad 106), .ref (ad 107), .ref (ad 108), .ref (ad 109), .ref (ad 110), .ref (ad 111), .int (nI cn), .ref (ad 113), .int pl, .int (nI tn), .ref (ad 116), .ref (ad 117), .ref (ad 118), .ref (ad 119), .int sg, .ref (ad 121), .long wy, .ref (ad 123), .ref (ad 124), .ref (ad 125), .ref (ad 126), .ref (ad 127), .ref (ad 128)]))) (dq_B D vwCl (dq_t g) ad (dq_A ad w sz)) (dq_A ad w sz)) 0 0 (dq_A ad w sz) := by
  refine dq_ofi (cc := cMo_hit) (maxL := 3) (by decide) rfl (Nat.le_of_ble_eq_true rfl) ?_
  intro p e s m below meth c A Q ls ⟨hx, hb, hml, hown, hts⟩ hnm hA hW hK hZ hl hret
  have hS : va_S A s.heap s.heap [] := va_S.rf
  have hl : lv_has ls 3 [(0, .ref (ad 100)), (1, .int (nI k)), (2, .int 1)] := hl
  have hf41 := hts _ (List.mem_cons_of_mem _ tw3_170)
  have hf44 := hts _ (List.mem_cons_of_mem _ tw3_171)
  have hf47 := hts _ (List.mem_cons_of_mem _ tw3_172)
  have hf50 := hts _ (List.mem_cons_of_mem _ tw3_173)
  have hf79 := hts _ (List.mem_cons_of_mem _ tw3_154)
  have hf127 := hts _ (List.mem_cons_of_mem _ tw3_169)
  have hinMo : ∀ w ∈ u_ws RMo TMo 29, w ∈ wsMo_hit := fun w h => List.mem_cons_of_mem _ (inMo w h)
  refine lv_aload_n hx hb dMo_hit_0 rfl (lv_at hl 0 rfl) ?_
  refine dq_calli (va_runV (As := []) (rest := []) ⟨hx, hb, hml, hown, hts⟩ (m_none_n l D g ad (w) _ cd n hn cn pl tn sg wy m100 hpl) (cwV 0 hts (dq_giV tw4_87 tw4_89 twp_25 tw1_10 tw4_90) rfl rfl rfl (by decide +kernel) ⟨Nat.le_of_ble_eq_true rfl, Nat.le_of_ble_eq_true rfl⟩) (dq_preV (ci := 8) hW hS hA hK hZ m100 rfl rfl) rfl rfl hl.1 rfl (lv_room (Nat.le_of_ble_eq_true rfl)) dMo_hit_1 ⟨Nat.zero_le _, Nat.zero_le _⟩) hW hS hA (fun r1 u_9 H locs hp1 hW hS hz9 => ?_)
  obtain ⟨hr1, hu9⟩ := hp1
  rw [hu9] at hW
  subst hr1
  refine lv_if_eq (tgt := 9) hx hb dMo_hit_4 (by decide) (fun c1 => ?_) (fun c1 => ?_)
  · refine lv_aload_n hx hb dMo_hit_9 rfl (lv_at hl 0 rfl) ?_
    refine lv_iload_n hx hb dMo_hit_10 rfl (lv_at hl 1 rfl) ?_
    refine lv_if_lt (tgt := 22) hx hb dMo_hit_11 (by decide) (fun c2 => ?_) (fun c2 => ?_)
    · exact absurd c2 (nI_pos (by omega))
    · refine lv_iload_n hx hb dMo_hit_14 rfl (lv_at hl 1 rfl) ?_
      refine lv_aload_n hx hb dMo_hit_15 rfl (lv_at hl 0 rfl) ?_
      refine dq_get (D := D) (ci := 8) (v := .int (nI tn)) (C := RMo) (T := TMo) (N := 29) hx hb hts hinMo hown hK hW 100 dq_Us rfl 15 (by decide) hf127 (fun _ h9 => h9) rfl dMo_hit_16 ?_
      refine lv_icmp_lt (tgt := 26) hx hb dMo_hit_19 (by decide) (fun c3 => ?_) (fun c3 => ?_)
      · refine lv_iload_n hx hb dMo_hit_26 rfl (lv_at hl 2 rfl) ?_
        refine lv_iconst (v := (0)) hx hb dMo_hit_27 (by decide) ?_
        refine lv_iconst (v := (3)) hx hb dMo_hit_28 (by decide) ?_
        refine dq_calli (va_runS (As := [.int 1, .int (0), .int (3)]) (rest := [.ref (ad 100)]) ⟨hx, hb, hml, hown, hts⟩ (m_isIn l D g ad (dq_U w 100 (.inr (8, [.int 0, .int (nI n), .ref (ad 102), .ref (ad 103), .ref (ad 104), .int (nI hn), .ref (ad 106), .ref (ad 107), .ref (ad 108), .ref (ad 109), .ref (ad 110), .ref (ad 111), .int (nI cn), .ref (ad 113), .int pl, .int (nI tn), .ref (ad 116), .ref (ad 117), .ref (ad 118), .ref (ad 119), .int sg, .ref (ad 121), .long wy, .ref (ad 123), .ref (ad 124), .ref (ad 125), .ref (ad 126), .ref (ad 127), .ref (ad 128)]))) _ 1 0 3  ) (cwS 3 hts (dq_giS2 tw4_11 tw4_12 tw1_10 tw4_13) rfl rfl rfl (by decide +kernel) ⟨Nat.le_of_ble_eq_true rfl, Nat.le_of_ble_eq_true rfl⟩) (dq_preS hW hS hA hK hZ) rfl rfl hl.1 rfl (lv_room (Nat.le_of_ble_eq_true rfl)) dMo_hit_29 ⟨Nat.zero_le _, Nat.zero_le _⟩) hW hS hA (fun r1 u_9 H locs hp1 hW hS hz9 => ?_)
        obtain ⟨hr1, hu9⟩ := hp1
        rw [hu9] at hW
        subst hr1
        refine lv_if_eq (tgt := 39) hx hb dMo_hit_32 (by decide) (fun c9 => ?_) (fun c9 => ?_)
        · have q0 := dq_b_f c9
          exact absurd q0 (by decide)
        · have q0 := dq_b_t c9
          refine lv_iconst (v := (0)) hx hb dMo_hit_35 (by decide) ?_
          refine lv_goto (tgt := 40) hx hb dMo_hit_36 (by decide) ?_
          refine dq_put (D := D) (ci := 8) (v := .int (0)) (ty := .int) (C := RMo) (T := TMo) (N := 29) hx hb hts hinMo tyMo tyMo_ok nmMo hown hK hW hS 100 dq_Us rfl 0 (by decide) hf79 (fun _ h9 => h9) rfl (by decide +kernel) rfl rfl (Nat.le_of_ble_eq_true rfl) dMo_hit_40 (fun H locs hW hS => ?_)
          rw [dq_UU] at hW
          refine lv_aload_n hx hb dMo_hit_43 rfl (lv_at hl 0 rfl) ?_
          refine dq_get (D := D) (ci := 8) (v := .int (0)) (C := RMo) (T := TMo) (N := 29) hx hb hts hinMo hown hK hW 100 dq_Us rfl 0 (by decide) hf79 (fun _ h9 => h9) rfl dMo_hit_44 ?_
          refine lv_if_le (tgt := 52) hx hb dMo_hit_47 (by decide) (fun c4 => ?_) (fun c4 => ?_)
          · refine lv_iload_n hx hb dMo_hit_52 rfl (lv_at hl 2 rfl) ?_
            refine lv_if_ne (tgt := 65) hx hb dMo_hit_53 (by decide) (fun d0 => ?_) (fun d0 => ?_)
            · refine lv_iload_n hx hb dMo_hit_65 rfl (lv_at hl 2 rfl) ?_
              refine lv_iconst (v := (1)) hx hb dMo_hit_66 (by decide) ?_
              refine lv_icmp_ne (tgt := 79) hx hb dMo_hit_67 (by decide) (fun d1 => ?_) (fun d1 => ?_)
              · exact absurd rfl d1
              · refine lv_aload_n hx hb dMo_hit_70 rfl (lv_at hl 0 rfl) ?_
                refine dq_get (D := D) (ci := 8) (v := .ref (ad 117)) (C := RMo) (T := TMo) (N := 29) hx hb hts hinMo hown hK hW 100 dq_Us rfl 17 (by decide) hf44 (fun _ h9 => h9) rfl dMo_hit_71 ?_
                refine lv_iload_n hx hb dMo_hit_74 rfl (lv_at hl 1 rfl) ?_
                refine dq_ialdN hx hb hK hW 117 0 ((dq_Un (by decide)).trans m117) rfl k (by omega) (by omega) dMo_hit_75 ?_
                refine lv_goto (tgt := 99) hx hb dMo_hit_76 (by decide) ?_
                exact hret _ _ _ _ _ _ ⟨rfl, rfl⟩ hW hS dMo_hit_99
            · exact absurd d0 (by decide)
          · exact absurd (by decide) c4
      · exact absurd (nI_lt hk (by omega)) c3
  · exact absurd rfl c1

set_option maxHeartbeats 4000000 in
set_option maxRecDepth 100000 in
/-- hit(k, 2) -/
theorem m_hit_2 (l : Launch) (D : va_G) (g : Nat → ClassId) (ad : Nat → Nat) (w : Nat → Option va_E) (sz : Nat) (cd : Int32) (n hn cn : Nat) (pl : Int32) (tn : Nat) (sg : Int32) (wy : Int64) (tX tY tF tS : Nat → Int32) (k : Nat) (m100 : w 100 = some (.inr (8, [.int cd, .int (nI n), .ref (ad 102), .ref (ad 103), .ref (ad 104), .int (nI hn), .ref (ad 106), .ref (ad 107), .ref (ad 108), .ref (ad 109), .ref (ad 110), .ref (ad 111), .int (nI cn), .ref (ad 113), .int pl, .int (nI tn), .ref (ad 116), .ref (ad 117), .ref (ad 118), .ref (ad 119), .int sg, .ref (ad 121), .long wy, .ref (ad 123), .ref (ad 124), .ref (ad 125), .ref (ad 126), .ref (ad 127), .ref (ad 128)]))) (m116 : w 116 = some (.inl (g 0, 14, .inl tX))) (m117 : w 117 = some (.inl (g 0, 14, .inl tY))) (m118 : w 118 = some (.inl (g 0, 14, .inl tF))) (m119 : w 119 = some (.inl (g 0, 14, .inl tS))) (hpl : ¬ pl = 0) (hk : k < tn) (ht14 : tn ≤ 14) : Met l yMo_hit wsMo_hit ({ frames := 2, cells := 0, slots := 0, locals := 50 } : Room) (va_Pc [.ref (ad 100), .int (nI k), .int 2] (dq_S D vwCl (dq_t g) ad w sz)) (va_Qi (fun r u => r = tF k ∧ u = dq_U w 100 (.inr (8, [.int 0, .int (nI n), .ref (ad 102), .ref (ad 103), .ref (ad 104), .int (nI hn), .ref (ad 106), .ref (ad 107), .ref (ad 108), .ref (ad 109), .ref (ad 110), .ref (ad 111), .int (nI cn), .ref (ad 113), .int pl, .int (nI tn), .ref (ad 116), .ref (ad 117), .ref (ad 118), .ref (ad 119), .int sg, .ref (ad 121), .long wy, .ref (ad 123), .ref (ad 124), .ref (ad 125), .ref (ad 126), .ref (ad 127), .ref (ad 128)]))) (dq_B D vwCl (dq_t g) ad (dq_A ad w sz)) (dq_A ad w sz)) 0 0 (dq_A ad w sz) := by
  refine dq_ofi (cc := cMo_hit) (maxL := 3) (by decide) rfl (Nat.le_of_ble_eq_true rfl) ?_
  intro p e s m below meth c A Q ls ⟨hx, hb, hml, hown, hts⟩ hnm hA hW hK hZ hl hret
  have hS : va_S A s.heap s.heap [] := va_S.rf
  have hl : lv_has ls 3 [(0, .ref (ad 100)), (1, .int (nI k)), (2, .int 2)] := hl
  have hf41 := hts _ (List.mem_cons_of_mem _ tw3_170)
  have hf44 := hts _ (List.mem_cons_of_mem _ tw3_171)
  have hf47 := hts _ (List.mem_cons_of_mem _ tw3_172)
  have hf50 := hts _ (List.mem_cons_of_mem _ tw3_173)
  have hf79 := hts _ (List.mem_cons_of_mem _ tw3_154)
  have hf127 := hts _ (List.mem_cons_of_mem _ tw3_169)
  have hinMo : ∀ w ∈ u_ws RMo TMo 29, w ∈ wsMo_hit := fun w h => List.mem_cons_of_mem _ (inMo w h)
  refine lv_aload_n hx hb dMo_hit_0 rfl (lv_at hl 0 rfl) ?_
  refine dq_calli (va_runV (As := []) (rest := []) ⟨hx, hb, hml, hown, hts⟩ (m_none_n l D g ad (w) _ cd n hn cn pl tn sg wy m100 hpl) (cwV 0 hts (dq_giV tw4_87 tw4_89 twp_25 tw1_10 tw4_90) rfl rfl rfl (by decide +kernel) ⟨Nat.le_of_ble_eq_true rfl, Nat.le_of_ble_eq_true rfl⟩) (dq_preV (ci := 8) hW hS hA hK hZ m100 rfl rfl) rfl rfl hl.1 rfl (lv_room (Nat.le_of_ble_eq_true rfl)) dMo_hit_1 ⟨Nat.zero_le _, Nat.zero_le _⟩) hW hS hA (fun r1 u_9 H locs hp1 hW hS hz9 => ?_)
  obtain ⟨hr1, hu9⟩ := hp1
  rw [hu9] at hW
  subst hr1
  refine lv_if_eq (tgt := 9) hx hb dMo_hit_4 (by decide) (fun c1 => ?_) (fun c1 => ?_)
  · refine lv_aload_n hx hb dMo_hit_9 rfl (lv_at hl 0 rfl) ?_
    refine lv_iload_n hx hb dMo_hit_10 rfl (lv_at hl 1 rfl) ?_
    refine lv_if_lt (tgt := 22) hx hb dMo_hit_11 (by decide) (fun c2 => ?_) (fun c2 => ?_)
    · exact absurd c2 (nI_pos (by omega))
    · refine lv_iload_n hx hb dMo_hit_14 rfl (lv_at hl 1 rfl) ?_
      refine lv_aload_n hx hb dMo_hit_15 rfl (lv_at hl 0 rfl) ?_
      refine dq_get (D := D) (ci := 8) (v := .int (nI tn)) (C := RMo) (T := TMo) (N := 29) hx hb hts hinMo hown hK hW 100 dq_Us rfl 15 (by decide) hf127 (fun _ h9 => h9) rfl dMo_hit_16 ?_
      refine lv_icmp_lt (tgt := 26) hx hb dMo_hit_19 (by decide) (fun c3 => ?_) (fun c3 => ?_)
      · refine lv_iload_n hx hb dMo_hit_26 rfl (lv_at hl 2 rfl) ?_
        refine lv_iconst (v := (0)) hx hb dMo_hit_27 (by decide) ?_
        refine lv_iconst (v := (3)) hx hb dMo_hit_28 (by decide) ?_
        refine dq_calli (va_runS (As := [.int 2, .int (0), .int (3)]) (rest := [.ref (ad 100)]) ⟨hx, hb, hml, hown, hts⟩ (m_isIn l D g ad (dq_U w 100 (.inr (8, [.int 0, .int (nI n), .ref (ad 102), .ref (ad 103), .ref (ad 104), .int (nI hn), .ref (ad 106), .ref (ad 107), .ref (ad 108), .ref (ad 109), .ref (ad 110), .ref (ad 111), .int (nI cn), .ref (ad 113), .int pl, .int (nI tn), .ref (ad 116), .ref (ad 117), .ref (ad 118), .ref (ad 119), .int sg, .ref (ad 121), .long wy, .ref (ad 123), .ref (ad 124), .ref (ad 125), .ref (ad 126), .ref (ad 127), .ref (ad 128)]))) _ 2 0 3  ) (cwS 3 hts (dq_giS2 tw4_11 tw4_12 tw1_10 tw4_13) rfl rfl rfl (by decide +kernel) ⟨Nat.le_of_ble_eq_true rfl, Nat.le_of_ble_eq_true rfl⟩) (dq_preS hW hS hA hK hZ) rfl rfl hl.1 rfl (lv_room (Nat.le_of_ble_eq_true rfl)) dMo_hit_29 ⟨Nat.zero_le _, Nat.zero_le _⟩) hW hS hA (fun r1 u_9 H locs hp1 hW hS hz9 => ?_)
        obtain ⟨hr1, hu9⟩ := hp1
        rw [hu9] at hW
        subst hr1
        refine lv_if_eq (tgt := 39) hx hb dMo_hit_32 (by decide) (fun c9 => ?_) (fun c9 => ?_)
        · have q0 := dq_b_f c9
          exact absurd q0 (by decide)
        · have q0 := dq_b_t c9
          refine lv_iconst (v := (0)) hx hb dMo_hit_35 (by decide) ?_
          refine lv_goto (tgt := 40) hx hb dMo_hit_36 (by decide) ?_
          refine dq_put (D := D) (ci := 8) (v := .int (0)) (ty := .int) (C := RMo) (T := TMo) (N := 29) hx hb hts hinMo tyMo tyMo_ok nmMo hown hK hW hS 100 dq_Us rfl 0 (by decide) hf79 (fun _ h9 => h9) rfl (by decide +kernel) rfl rfl (Nat.le_of_ble_eq_true rfl) dMo_hit_40 (fun H locs hW hS => ?_)
          rw [dq_UU] at hW
          refine lv_aload_n hx hb dMo_hit_43 rfl (lv_at hl 0 rfl) ?_
          refine dq_get (D := D) (ci := 8) (v := .int (0)) (C := RMo) (T := TMo) (N := 29) hx hb hts hinMo hown hK hW 100 dq_Us rfl 0 (by decide) hf79 (fun _ h9 => h9) rfl dMo_hit_44 ?_
          refine lv_if_le (tgt := 52) hx hb dMo_hit_47 (by decide) (fun c4 => ?_) (fun c4 => ?_)
          · refine lv_iload_n hx hb dMo_hit_52 rfl (lv_at hl 2 rfl) ?_
            refine lv_if_ne (tgt := 65) hx hb dMo_hit_53 (by decide) (fun d0 => ?_) (fun d0 => ?_)
            · refine lv_iload_n hx hb dMo_hit_65 rfl (lv_at hl 2 rfl) ?_
              refine lv_iconst (v := (1)) hx hb dMo_hit_66 (by decide) ?_
              refine lv_icmp_ne (tgt := 79) hx hb dMo_hit_67 (by decide) (fun d1 => ?_) (fun d1 => ?_)
              · refine lv_iload_n hx hb dMo_hit_79 rfl (lv_at hl 2 rfl) ?_
                refine lv_iconst (v := (2)) hx hb dMo_hit_80 (by decide) ?_
                refine lv_icmp_ne (tgt := 93) hx hb dMo_hit_81 (by decide) (fun d2 => ?_) (fun d2 => ?_)
                · exact absurd rfl d2
                · refine lv_aload_n hx hb dMo_hit_84 rfl (lv_at hl 0 rfl) ?_
                  refine dq_get (D := D) (ci := 8) (v := .ref (ad 118)) (C := RMo) (T := TMo) (N := 29) hx hb hts hinMo hown hK hW 100 dq_Us rfl 18 (by decide) hf47 (fun _ h9 => h9) rfl dMo_hit_85 ?_
                  refine lv_iload_n hx hb dMo_hit_88 rfl (lv_at hl 1 rfl) ?_
                  refine dq_ialdN hx hb hK hW 118 0 ((dq_Un (by decide)).trans m118) rfl k (by omega) (by omega) dMo_hit_89 ?_
                  refine lv_goto (tgt := 99) hx hb dMo_hit_90 (by decide) ?_
                  exact hret _ _ _ _ _ _ ⟨rfl, rfl⟩ hW hS dMo_hit_99
              · exact absurd d1 (by decide)
            · exact absurd d0 (by decide)
          · exact absurd (by decide) c4
      · exact absurd (nI_lt hk (by omega)) c3
  · exact absurd rfl c1

set_option maxHeartbeats 4000000 in
set_option maxRecDepth 100000 in
/-- hit(k, 3) -/
theorem m_hit_3 (l : Launch) (D : va_G) (g : Nat → ClassId) (ad : Nat → Nat) (w : Nat → Option va_E) (sz : Nat) (cd : Int32) (n hn cn : Nat) (pl : Int32) (tn : Nat) (sg : Int32) (wy : Int64) (tX tY tF tS : Nat → Int32) (k : Nat) (m100 : w 100 = some (.inr (8, [.int cd, .int (nI n), .ref (ad 102), .ref (ad 103), .ref (ad 104), .int (nI hn), .ref (ad 106), .ref (ad 107), .ref (ad 108), .ref (ad 109), .ref (ad 110), .ref (ad 111), .int (nI cn), .ref (ad 113), .int pl, .int (nI tn), .ref (ad 116), .ref (ad 117), .ref (ad 118), .ref (ad 119), .int sg, .ref (ad 121), .long wy, .ref (ad 123), .ref (ad 124), .ref (ad 125), .ref (ad 126), .ref (ad 127), .ref (ad 128)]))) (m116 : w 116 = some (.inl (g 0, 14, .inl tX))) (m117 : w 117 = some (.inl (g 0, 14, .inl tY))) (m118 : w 118 = some (.inl (g 0, 14, .inl tF))) (m119 : w 119 = some (.inl (g 0, 14, .inl tS))) (hpl : ¬ pl = 0) (hk : k < tn) (ht14 : tn ≤ 14) : Met l yMo_hit wsMo_hit ({ frames := 2, cells := 0, slots := 0, locals := 50 } : Room) (va_Pc [.ref (ad 100), .int (nI k), .int 3] (dq_S D vwCl (dq_t g) ad w sz)) (va_Qi (fun r u => r = tS k ∧ u = dq_U w 100 (.inr (8, [.int 0, .int (nI n), .ref (ad 102), .ref (ad 103), .ref (ad 104), .int (nI hn), .ref (ad 106), .ref (ad 107), .ref (ad 108), .ref (ad 109), .ref (ad 110), .ref (ad 111), .int (nI cn), .ref (ad 113), .int pl, .int (nI tn), .ref (ad 116), .ref (ad 117), .ref (ad 118), .ref (ad 119), .int sg, .ref (ad 121), .long wy, .ref (ad 123), .ref (ad 124), .ref (ad 125), .ref (ad 126), .ref (ad 127), .ref (ad 128)]))) (dq_B D vwCl (dq_t g) ad (dq_A ad w sz)) (dq_A ad w sz)) 0 0 (dq_A ad w sz) := by
  refine dq_ofi (cc := cMo_hit) (maxL := 3) (by decide) rfl (Nat.le_of_ble_eq_true rfl) ?_
  intro p e s m below meth c A Q ls ⟨hx, hb, hml, hown, hts⟩ hnm hA hW hK hZ hl hret
  have hS : va_S A s.heap s.heap [] := va_S.rf
  have hl : lv_has ls 3 [(0, .ref (ad 100)), (1, .int (nI k)), (2, .int 3)] := hl
  have hf41 := hts _ (List.mem_cons_of_mem _ tw3_170)
  have hf44 := hts _ (List.mem_cons_of_mem _ tw3_171)
  have hf47 := hts _ (List.mem_cons_of_mem _ tw3_172)
  have hf50 := hts _ (List.mem_cons_of_mem _ tw3_173)
  have hf79 := hts _ (List.mem_cons_of_mem _ tw3_154)
  have hf127 := hts _ (List.mem_cons_of_mem _ tw3_169)
  have hinMo : ∀ w ∈ u_ws RMo TMo 29, w ∈ wsMo_hit := fun w h => List.mem_cons_of_mem _ (inMo w h)
  refine lv_aload_n hx hb dMo_hit_0 rfl (lv_at hl 0 rfl) ?_
  refine dq_calli (va_runV (As := []) (rest := []) ⟨hx, hb, hml, hown, hts⟩ (m_none_n l D g ad (w) _ cd n hn cn pl tn sg wy m100 hpl) (cwV 0 hts (dq_giV tw4_87 tw4_89 twp_25 tw1_10 tw4_90) rfl rfl rfl (by decide +kernel) ⟨Nat.le_of_ble_eq_true rfl, Nat.le_of_ble_eq_true rfl⟩) (dq_preV (ci := 8) hW hS hA hK hZ m100 rfl rfl) rfl rfl hl.1 rfl (lv_room (Nat.le_of_ble_eq_true rfl)) dMo_hit_1 ⟨Nat.zero_le _, Nat.zero_le _⟩) hW hS hA (fun r1 u_9 H locs hp1 hW hS hz9 => ?_)
  obtain ⟨hr1, hu9⟩ := hp1
  rw [hu9] at hW
  subst hr1
  refine lv_if_eq (tgt := 9) hx hb dMo_hit_4 (by decide) (fun c1 => ?_) (fun c1 => ?_)
  · refine lv_aload_n hx hb dMo_hit_9 rfl (lv_at hl 0 rfl) ?_
    refine lv_iload_n hx hb dMo_hit_10 rfl (lv_at hl 1 rfl) ?_
    refine lv_if_lt (tgt := 22) hx hb dMo_hit_11 (by decide) (fun c2 => ?_) (fun c2 => ?_)
    · exact absurd c2 (nI_pos (by omega))
    · refine lv_iload_n hx hb dMo_hit_14 rfl (lv_at hl 1 rfl) ?_
      refine lv_aload_n hx hb dMo_hit_15 rfl (lv_at hl 0 rfl) ?_
      refine dq_get (D := D) (ci := 8) (v := .int (nI tn)) (C := RMo) (T := TMo) (N := 29) hx hb hts hinMo hown hK hW 100 dq_Us rfl 15 (by decide) hf127 (fun _ h9 => h9) rfl dMo_hit_16 ?_
      refine lv_icmp_lt (tgt := 26) hx hb dMo_hit_19 (by decide) (fun c3 => ?_) (fun c3 => ?_)
      · refine lv_iload_n hx hb dMo_hit_26 rfl (lv_at hl 2 rfl) ?_
        refine lv_iconst (v := (0)) hx hb dMo_hit_27 (by decide) ?_
        refine lv_iconst (v := (3)) hx hb dMo_hit_28 (by decide) ?_
        refine dq_calli (va_runS (As := [.int 3, .int (0), .int (3)]) (rest := [.ref (ad 100)]) ⟨hx, hb, hml, hown, hts⟩ (m_isIn l D g ad (dq_U w 100 (.inr (8, [.int 0, .int (nI n), .ref (ad 102), .ref (ad 103), .ref (ad 104), .int (nI hn), .ref (ad 106), .ref (ad 107), .ref (ad 108), .ref (ad 109), .ref (ad 110), .ref (ad 111), .int (nI cn), .ref (ad 113), .int pl, .int (nI tn), .ref (ad 116), .ref (ad 117), .ref (ad 118), .ref (ad 119), .int sg, .ref (ad 121), .long wy, .ref (ad 123), .ref (ad 124), .ref (ad 125), .ref (ad 126), .ref (ad 127), .ref (ad 128)]))) _ 3 0 3  ) (cwS 3 hts (dq_giS2 tw4_11 tw4_12 tw1_10 tw4_13) rfl rfl rfl (by decide +kernel) ⟨Nat.le_of_ble_eq_true rfl, Nat.le_of_ble_eq_true rfl⟩) (dq_preS hW hS hA hK hZ) rfl rfl hl.1 rfl (lv_room (Nat.le_of_ble_eq_true rfl)) dMo_hit_29 ⟨Nat.zero_le _, Nat.zero_le _⟩) hW hS hA (fun r1 u_9 H locs hp1 hW hS hz9 => ?_)
        obtain ⟨hr1, hu9⟩ := hp1
        rw [hu9] at hW
        subst hr1
        refine lv_if_eq (tgt := 39) hx hb dMo_hit_32 (by decide) (fun c9 => ?_) (fun c9 => ?_)
        · have q0 := dq_b_f c9
          exact absurd q0 (by decide)
        · have q0 := dq_b_t c9
          refine lv_iconst (v := (0)) hx hb dMo_hit_35 (by decide) ?_
          refine lv_goto (tgt := 40) hx hb dMo_hit_36 (by decide) ?_
          refine dq_put (D := D) (ci := 8) (v := .int (0)) (ty := .int) (C := RMo) (T := TMo) (N := 29) hx hb hts hinMo tyMo tyMo_ok nmMo hown hK hW hS 100 dq_Us rfl 0 (by decide) hf79 (fun _ h9 => h9) rfl (by decide +kernel) rfl rfl (Nat.le_of_ble_eq_true rfl) dMo_hit_40 (fun H locs hW hS => ?_)
          rw [dq_UU] at hW
          refine lv_aload_n hx hb dMo_hit_43 rfl (lv_at hl 0 rfl) ?_
          refine dq_get (D := D) (ci := 8) (v := .int (0)) (C := RMo) (T := TMo) (N := 29) hx hb hts hinMo hown hK hW 100 dq_Us rfl 0 (by decide) hf79 (fun _ h9 => h9) rfl dMo_hit_44 ?_
          refine lv_if_le (tgt := 52) hx hb dMo_hit_47 (by decide) (fun c4 => ?_) (fun c4 => ?_)
          · refine lv_iload_n hx hb dMo_hit_52 rfl (lv_at hl 2 rfl) ?_
            refine lv_if_ne (tgt := 65) hx hb dMo_hit_53 (by decide) (fun d0 => ?_) (fun d0 => ?_)
            · refine lv_iload_n hx hb dMo_hit_65 rfl (lv_at hl 2 rfl) ?_
              refine lv_iconst (v := (1)) hx hb dMo_hit_66 (by decide) ?_
              refine lv_icmp_ne (tgt := 79) hx hb dMo_hit_67 (by decide) (fun d1 => ?_) (fun d1 => ?_)
              · refine lv_iload_n hx hb dMo_hit_79 rfl (lv_at hl 2 rfl) ?_
                refine lv_iconst (v := (2)) hx hb dMo_hit_80 (by decide) ?_
                refine lv_icmp_ne (tgt := 93) hx hb dMo_hit_81 (by decide) (fun d2 => ?_) (fun d2 => ?_)
                · refine lv_aload_n hx hb dMo_hit_93 rfl (lv_at hl 0 rfl) ?_
                  refine dq_get (D := D) (ci := 8) (v := .ref (ad 119)) (C := RMo) (T := TMo) (N := 29) hx hb hts hinMo hown hK hW 100 dq_Us rfl 19 (by decide) hf50 (fun _ h9 => h9) rfl dMo_hit_94 ?_
                  refine lv_iload_n hx hb dMo_hit_97 rfl (lv_at hl 1 rfl) ?_
                  refine dq_ialdN hx hb hK hW 119 0 ((dq_Un (by decide)).trans m119) rfl k (by omega) (by omega) dMo_hit_98 ?_
                  exact hret _ _ _ _ _ _ ⟨rfl, rfl⟩ hW hS dMo_hit_99
                · exact absurd d2 (by decide)
              · exact absurd d1 (by decide)
            · exact absurd d0 (by decide)
          · exact absurd (by decide) c4
      · exact absurd (nI_lt hk (by omega)) c3
  · exact absurd rfl c1
set_option maxHeartbeats 4000000 in
set_option maxRecDepth 100000 in
/-- drills, not planned -/
theorem m_drills1 (l : Launch) (D : va_G) (g : Nat → ClassId) (ad : Nat → Nat) (w : Nat → Option va_E) (sz : Nat) (cd : Int32) (n hn cn : Nat) (pl : Int32) (tn : Nat) (sg : Int32) (wy : Int64) (a0 a1 : Int32) (m100 : w 100 = some (.inr (8, [.int cd, .int (nI n), .ref (ad 102), .ref (ad 103), .ref (ad 104), .int (nI hn), .ref (ad 106), .ref (ad 107), .ref (ad 108), .ref (ad 109), .ref (ad 110), .ref (ad 111), .int (nI cn), .ref (ad 113), .int pl, .int (nI tn), .ref (ad 116), .ref (ad 117), .ref (ad 118), .ref (ad 119), .int sg, .ref (ad 121), .long wy, .ref (ad 123), .ref (ad 124), .ref (ad 125), .ref (ad 126), .ref (ad 127), .ref (ad 128)]))) (hpl : pl = 0) : Met l yMo_drills wsMo_drills ({ frames := 2, cells := 0, slots := 0, locals := 50 } : Room) (va_Pc [.ref (ad 100), .int a0, .int a1] (dq_S D vwCl (dq_t g) ad w sz)) (va_Qi (fun r u => r = 0 ∧ u = dq_U w 100 (.inr (8, [.int 1, .int (nI n), .ref (ad 102), .ref (ad 103), .ref (ad 104), .int (nI hn), .ref (ad 106), .ref (ad 107), .ref (ad 108), .ref (ad 109), .ref (ad 110), .ref (ad 111), .int (nI cn), .ref (ad 113), .int pl, .int (nI tn), .ref (ad 116), .ref (ad 117), .ref (ad 118), .ref (ad 119), .int sg, .ref (ad 121), .long wy, .ref (ad 123), .ref (ad 124), .ref (ad 125), .ref (ad 126), .ref (ad 127), .ref (ad 128)]))) (dq_B D vwCl (dq_t g) ad (dq_A ad w sz)) (dq_A ad w sz)) 0 0 (dq_A ad w sz) := by
  refine dq_ofz (cc := cMo_drills) (maxL := 3) (by decide) rfl (Nat.le_of_ble_eq_true rfl) ?_
  intro p e s m below meth c A Q ls ⟨hx, hb, hml, hown, hts⟩ hnm hA hW hK hZ hl hret
  have hS : va_S A s.heap s.heap [] := va_S.rf
  have hl : lv_has ls 3 [(0, .ref (ad 100)), (1, .int a0), (2, .int a1)] := hl
  have hf50 := hts _ (List.mem_cons_of_mem _ tw3_173)
  have hf79 := hts _ (List.mem_cons_of_mem _ tw3_154)
  have hf90 := hts _ (List.mem_cons_of_mem _ tw3_159)
  have hf127 := hts _ (List.mem_cons_of_mem _ tw3_169)
  have hinMo : ∀ w ∈ u_ws RMo TMo 29, w ∈ wsMo_drills := fun w h => List.mem_cons_of_mem _ (inMo w h)
  refine lv_aload_n hx hb dMo_drills_0 rfl (lv_at hl 0 rfl) ?_
  refine dq_calli (va_runV (As := []) (rest := []) ⟨hx, hb, hml, hown, hts⟩ (m_none_y l D g ad (w) _ cd n hn cn pl tn sg wy m100 hpl) (cwV 0 hts (dq_giV tw4_87 tw4_89 twp_25 tw1_10 tw4_90) rfl rfl rfl (by decide +kernel) ⟨Nat.le_of_ble_eq_true rfl, Nat.le_of_ble_eq_true rfl⟩) (dq_preV (ci := 8) hW hS hA hK hZ m100 rfl rfl) rfl rfl hl.1 rfl (lv_room (Nat.le_of_ble_eq_true rfl)) dMo_drills_1 ⟨Nat.zero_le _, Nat.zero_le _⟩) hW hS hA (fun r1 u_9 H locs hp1 hW hS hz9 => ?_)
  obtain ⟨hr1, hu9⟩ := hp1
  rw [hu9] at hW
  subst hr1
  refine lv_if_eq (tgt := 9) hx hb dMo_drills_4 (by decide) (fun c1 => ?_) (fun c1 => ?_)
  · exact absurd c1 (by decide)
  · refine lv_iconst (v := (0)) hx hb dMo_drills_7 (by decide) ?_
    exact hret _ _ _ _ _ _ ⟨rfl, rfl⟩ (by decide) hW hS dMo_drills_8

set_option maxHeartbeats 4000000 in
set_option maxRecDepth 100000 in
/-- drills, no such hit -/
theorem m_drills2 (l : Launch) (D : va_G) (g : Nat → ClassId) (ad : Nat → Nat) (w : Nat → Option va_E) (sz : Nat) (cd : Int32) (n hn cn : Nat) (pl : Int32) (tn : Nat) (sg : Int32) (wy : Int64) (a0 a1 : Int32) (m100 : w 100 = some (.inr (8, [.int cd, .int (nI n), .ref (ad 102), .ref (ad 103), .ref (ad 104), .int (nI hn), .ref (ad 106), .ref (ad 107), .ref (ad 108), .ref (ad 109), .ref (ad 110), .ref (ad 111), .int (nI cn), .ref (ad 113), .int pl, .int (nI tn), .ref (ad 116), .ref (ad 117), .ref (ad 118), .ref (ad 119), .int sg, .ref (ad 121), .long wy, .ref (ad 123), .ref (ad 124), .ref (ad 125), .ref (ad 126), .ref (ad 127), .ref (ad 128)]))) (hpl : ¬ pl = 0) (h0 : a0 < 0 ∨ ¬ a0 < nI tn) : Met l yMo_drills wsMo_drills ({ frames := 2, cells := 0, slots := 0, locals := 50 } : Room) (va_Pc [.ref (ad 100), .int a0, .int a1] (dq_S D vwCl (dq_t g) ad w sz)) (va_Qi (fun r u => r = 0 ∧ u = dq_U w 100 (.inr (8, [.int 2, .int (nI n), .ref (ad 102), .ref (ad 103), .ref (ad 104), .int (nI hn), .ref (ad 106), .ref (ad 107), .ref (ad 108), .ref (ad 109), .ref (ad 110), .ref (ad 111), .int (nI cn), .ref (ad 113), .int pl, .int (nI tn), .ref (ad 116), .ref (ad 117), .ref (ad 118), .ref (ad 119), .int sg, .ref (ad 121), .long wy, .ref (ad 123), .ref (ad 124), .ref (ad 125), .ref (ad 126), .ref (ad 127), .ref (ad 128)]))) (dq_B D vwCl (dq_t g) ad (dq_A ad w sz)) (dq_A ad w sz)) 0 0 (dq_A ad w sz) := by
  refine dq_ofz (cc := cMo_drills) (maxL := 3) (by decide) rfl (Nat.le_of_ble_eq_true rfl) ?_
  intro p e s m below meth c A Q ls ⟨hx, hb, hml, hown, hts⟩ hnm hA hW hK hZ hl hret
  have hS : va_S A s.heap s.heap [] := va_S.rf
  have hl : lv_has ls 3 [(0, .ref (ad 100)), (1, .int a0), (2, .int a1)] := hl
  have hf50 := hts _ (List.mem_cons_of_mem _ tw3_173)
  have hf79 := hts _ (List.mem_cons_of_mem _ tw3_154)
  have hf90 := hts _ (List.mem_cons_of_mem _ tw3_159)
  have hf127 := hts _ (List.mem_cons_of_mem _ tw3_169)
  have hinMo : ∀ w ∈ u_ws RMo TMo 29, w ∈ wsMo_drills := fun w h => List.mem_cons_of_mem _ (inMo w h)
  refine lv_aload_n hx hb dMo_drills_0 rfl (lv_at hl 0 rfl) ?_
  refine dq_calli (va_runV (As := []) (rest := []) ⟨hx, hb, hml, hown, hts⟩ (m_none_n l D g ad (w) _ cd n hn cn pl tn sg wy m100 hpl) (cwV 0 hts (dq_giV tw4_87 tw4_89 twp_25 tw1_10 tw4_90) rfl rfl rfl (by decide +kernel) ⟨Nat.le_of_ble_eq_true rfl, Nat.le_of_ble_eq_true rfl⟩) (dq_preV (ci := 8) hW hS hA hK hZ m100 rfl rfl) rfl rfl hl.1 rfl (lv_room (Nat.le_of_ble_eq_true rfl)) dMo_drills_1 ⟨Nat.zero_le _, Nat.zero_le _⟩) hW hS hA (fun r1 u_9 H locs hp1 hW hS hz9 => ?_)
  obtain ⟨hr1, hu9⟩ := hp1
  rw [hu9] at hW
  subst hr1
  refine lv_if_eq (tgt := 9) hx hb dMo_drills_4 (by decide) (fun c1 => ?_) (fun c1 => ?_)
  · refine lv_aload_n hx hb dMo_drills_9 rfl (lv_at hl 0 rfl) ?_
    refine lv_iload_n hx hb dMo_drills_10 rfl (lv_at hl 1 rfl) ?_
    refine lv_if_lt (tgt := 34) hx hb dMo_drills_11 (by decide) (fun c2 => ?_) (fun c2 => ?_)
    · refine lv_iconst (v := (2)) hx hb dMo_drills_34 (by decide) ?_
      refine lv_goto (tgt := 39) hx hb dMo_drills_35 (by decide) ?_
      refine dq_put (D := D) (ci := 8) (v := .int (2)) (ty := .int) (C := RMo) (T := TMo) (N := 29) hx hb hts hinMo tyMo tyMo_ok nmMo hown hK hW hS 100 dq_Us rfl 0 (by decide) hf79 (fun _ h9 => h9) rfl (by decide +kernel) rfl rfl (Nat.le_of_ble_eq_true rfl) dMo_drills_39 (fun H locs hW hS => ?_)
      rw [dq_UU] at hW
      refine lv_aload_n hx hb dMo_drills_42 rfl (lv_at hl 0 rfl) ?_
      refine dq_get (D := D) (ci := 8) (v := .int (2)) (C := RMo) (T := TMo) (N := 29) hx hb hts hinMo hown hK hW 100 dq_Us rfl 0 (by decide) hf79 (fun _ h9 => h9) rfl dMo_drills_43 ?_
      refine lv_if_ne (tgt := 67) hx hb dMo_drills_46 (by decide) (fun c6 => ?_) (fun c6 => ?_)
      · refine lv_iconst (v := (0)) hx hb dMo_drills_67 (by decide) ?_
        exact hret _ _ _ _ _ _ ⟨rfl, rfl⟩ (by decide) hW hS dMo_drills_68
      · exact absurd c6 (by decide)
    · refine lv_iload_n hx hb dMo_drills_14 rfl (lv_at hl 1 rfl) ?_
      refine lv_aload_n hx hb dMo_drills_15 rfl (lv_at hl 0 rfl) ?_
      refine dq_get (D := D) (ci := 8) (v := .int (nI tn)) (C := RMo) (T := TMo) (N := 29) hx hb hts hinMo hown hK hW 100 dq_Us rfl 15 (by decide) hf127 (fun _ h9 => h9) rfl dMo_drills_16 ?_
      refine lv_icmp_ge (tgt := 34) hx hb dMo_drills_19 (by decide) (fun c3 => ?_) (fun c3 => ?_)
      · refine lv_iconst (v := (2)) hx hb dMo_drills_34 (by decide) ?_
        refine lv_goto (tgt := 39) hx hb dMo_drills_35 (by decide) ?_
        refine dq_put (D := D) (ci := 8) (v := .int (2)) (ty := .int) (C := RMo) (T := TMo) (N := 29) hx hb hts hinMo tyMo tyMo_ok nmMo hown hK hW hS 100 dq_Us rfl 0 (by decide) hf79 (fun _ h9 => h9) rfl (by decide +kernel) rfl rfl (Nat.le_of_ble_eq_true rfl) dMo_drills_39 (fun H locs hW hS => ?_)
        rw [dq_UU] at hW
        refine lv_aload_n hx hb dMo_drills_42 rfl (lv_at hl 0 rfl) ?_
        refine dq_get (D := D) (ci := 8) (v := .int (2)) (C := RMo) (T := TMo) (N := 29) hx hb hts hinMo hown hK hW 100 dq_Us rfl 0 (by decide) hf79 (fun _ h9 => h9) rfl dMo_drills_43 ?_
        refine lv_if_ne (tgt := 67) hx hb dMo_drills_46 (by decide) (fun c6 => ?_) (fun c6 => ?_)
        · refine lv_iconst (v := (0)) hx hb dMo_drills_67 (by decide) ?_
          exact hret _ _ _ _ _ _ ⟨rfl, rfl⟩ (by decide) hW hS dMo_drills_68
        · exact absurd c6 (by decide)
      · exact (h0.elim c2 (fun h => h (Int32.not_le.mp c3))).elim
  · exact absurd rfl c1

set_option maxHeartbeats 4000000 in
set_option maxRecDepth 100000 in
/-- drills, no such hole -/
theorem m_drills3 (l : Launch) (D : va_G) (g : Nat → ClassId) (ad : Nat → Nat) (w : Nat → Option va_E) (sz : Nat) (cd : Int32) (n hn cn : Nat) (pl : Int32) (tn : Nat) (sg : Int32) (wy : Int64) (k : Nat) (a1 : Int32) (m100 : w 100 = some (.inr (8, [.int cd, .int (nI n), .ref (ad 102), .ref (ad 103), .ref (ad 104), .int (nI hn), .ref (ad 106), .ref (ad 107), .ref (ad 108), .ref (ad 109), .ref (ad 110), .ref (ad 111), .int (nI cn), .ref (ad 113), .int pl, .int (nI tn), .ref (ad 116), .ref (ad 117), .ref (ad 118), .ref (ad 119), .int sg, .ref (ad 121), .long wy, .ref (ad 123), .ref (ad 124), .ref (ad 125), .ref (ad 126), .ref (ad 127), .ref (ad 128)]))) (hpl : ¬ pl = 0) (hk : k < tn) (ht14 : tn ≤ 14) (h0 : a1 < 0 ∨ ¬ a1 < nI hn) : Met l yMo_drills wsMo_drills ({ frames := 2, cells := 0, slots := 0, locals := 50 } : Room) (va_Pc [.ref (ad 100), .int (nI k), .int a1] (dq_S D vwCl (dq_t g) ad w sz)) (va_Qi (fun r u => r = 0 ∧ u = dq_U w 100 (.inr (8, [.int 2, .int (nI n), .ref (ad 102), .ref (ad 103), .ref (ad 104), .int (nI hn), .ref (ad 106), .ref (ad 107), .ref (ad 108), .ref (ad 109), .ref (ad 110), .ref (ad 111), .int (nI cn), .ref (ad 113), .int pl, .int (nI tn), .ref (ad 116), .ref (ad 117), .ref (ad 118), .ref (ad 119), .int sg, .ref (ad 121), .long wy, .ref (ad 123), .ref (ad 124), .ref (ad 125), .ref (ad 126), .ref (ad 127), .ref (ad 128)]))) (dq_B D vwCl (dq_t g) ad (dq_A ad w sz)) (dq_A ad w sz)) 0 0 (dq_A ad w sz) := by
  refine dq_ofz (cc := cMo_drills) (maxL := 3) (by decide) rfl (Nat.le_of_ble_eq_true rfl) ?_
  intro p e s m below meth c A Q ls ⟨hx, hb, hml, hown, hts⟩ hnm hA hW hK hZ hl hret
  have hS : va_S A s.heap s.heap [] := va_S.rf
  have hl : lv_has ls 3 [(0, .ref (ad 100)), (1, .int (nI k)), (2, .int a1)] := hl
  have hf50 := hts _ (List.mem_cons_of_mem _ tw3_173)
  have hf79 := hts _ (List.mem_cons_of_mem _ tw3_154)
  have hf90 := hts _ (List.mem_cons_of_mem _ tw3_159)
  have hf127 := hts _ (List.mem_cons_of_mem _ tw3_169)
  have hinMo : ∀ w ∈ u_ws RMo TMo 29, w ∈ wsMo_drills := fun w h => List.mem_cons_of_mem _ (inMo w h)
  refine lv_aload_n hx hb dMo_drills_0 rfl (lv_at hl 0 rfl) ?_
  refine dq_calli (va_runV (As := []) (rest := []) ⟨hx, hb, hml, hown, hts⟩ (m_none_n l D g ad (w) _ cd n hn cn pl tn sg wy m100 hpl) (cwV 0 hts (dq_giV tw4_87 tw4_89 twp_25 tw1_10 tw4_90) rfl rfl rfl (by decide +kernel) ⟨Nat.le_of_ble_eq_true rfl, Nat.le_of_ble_eq_true rfl⟩) (dq_preV (ci := 8) hW hS hA hK hZ m100 rfl rfl) rfl rfl hl.1 rfl (lv_room (Nat.le_of_ble_eq_true rfl)) dMo_drills_1 ⟨Nat.zero_le _, Nat.zero_le _⟩) hW hS hA (fun r1 u_9 H locs hp1 hW hS hz9 => ?_)
  obtain ⟨hr1, hu9⟩ := hp1
  rw [hu9] at hW
  subst hr1
  refine lv_if_eq (tgt := 9) hx hb dMo_drills_4 (by decide) (fun c1 => ?_) (fun c1 => ?_)
  · refine lv_aload_n hx hb dMo_drills_9 rfl (lv_at hl 0 rfl) ?_
    refine lv_iload_n hx hb dMo_drills_10 rfl (lv_at hl 1 rfl) ?_
    refine lv_if_lt (tgt := 34) hx hb dMo_drills_11 (by decide) (fun c2 => ?_) (fun c2 => ?_)
    · exact absurd c2 (nI_pos (by omega))
    · refine lv_iload_n hx hb dMo_drills_14 rfl (lv_at hl 1 rfl) ?_
      refine lv_aload_n hx hb dMo_drills_15 rfl (lv_at hl 0 rfl) ?_
      refine dq_get (D := D) (ci := 8) (v := .int (nI tn)) (C := RMo) (T := TMo) (N := 29) hx hb hts hinMo hown hK hW 100 dq_Us rfl 15 (by decide) hf127 (fun _ h9 => h9) rfl dMo_drills_16 ?_
      refine lv_icmp_ge (tgt := 34) hx hb dMo_drills_19 (by decide) (fun c3 => ?_) (fun c3 => ?_)
      · exact absurd ((nI_leI (by omega) (by omega)).mp c3) (by omega)
      · refine lv_iload_n hx hb dMo_drills_22 rfl (lv_at hl 2 rfl) ?_
        refine lv_if_lt (tgt := 34) hx hb dMo_drills_23 (by decide) (fun c4 => ?_) (fun c4 => ?_)
        · refine lv_iconst (v := (2)) hx hb dMo_drills_34 (by decide) ?_
          refine lv_goto (tgt := 39) hx hb dMo_drills_35 (by decide) ?_
          refine dq_put (D := D) (ci := 8) (v := .int (2)) (ty := .int) (C := RMo) (T := TMo) (N := 29) hx hb hts hinMo tyMo tyMo_ok nmMo hown hK hW hS 100 dq_Us rfl 0 (by decide) hf79 (fun _ h9 => h9) rfl (by decide +kernel) rfl rfl (Nat.le_of_ble_eq_true rfl) dMo_drills_39 (fun H locs hW hS => ?_)
          rw [dq_UU] at hW
          refine lv_aload_n hx hb dMo_drills_42 rfl (lv_at hl 0 rfl) ?_
          refine dq_get (D := D) (ci := 8) (v := .int (2)) (C := RMo) (T := TMo) (N := 29) hx hb hts hinMo hown hK hW 100 dq_Us rfl 0 (by decide) hf79 (fun _ h9 => h9) rfl dMo_drills_43 ?_
          refine lv_if_ne (tgt := 67) hx hb dMo_drills_46 (by decide) (fun c6 => ?_) (fun c6 => ?_)
          · refine lv_iconst (v := (0)) hx hb dMo_drills_67 (by decide) ?_
            exact hret _ _ _ _ _ _ ⟨rfl, rfl⟩ (by decide) hW hS dMo_drills_68
          · exact absurd c6 (by decide)
        · refine lv_iload_n hx hb dMo_drills_26 rfl (lv_at hl 2 rfl) ?_
          refine lv_aload_n hx hb dMo_drills_27 rfl (lv_at hl 0 rfl) ?_
          refine dq_get (D := D) (ci := 8) (v := .int (nI hn)) (C := RMo) (T := TMo) (N := 29) hx hb hts hinMo hown hK hW 100 dq_Us rfl 5 (by decide) hf90 (fun _ h9 => h9) rfl dMo_drills_28 ?_
          refine lv_icmp_lt (tgt := 38) hx hb dMo_drills_31 (by decide) (fun c5 => ?_) (fun c5 => ?_)
          · exact (h0.elim c4 (fun h => absurd c5 h)).elim
          · refine lv_iconst (v := (2)) hx hb dMo_drills_34 (by decide) ?_
            refine lv_goto (tgt := 39) hx hb dMo_drills_35 (by decide) ?_
            refine dq_put (D := D) (ci := 8) (v := .int (2)) (ty := .int) (C := RMo) (T := TMo) (N := 29) hx hb hts hinMo tyMo tyMo_ok nmMo hown hK hW hS 100 dq_Us rfl 0 (by decide) hf79 (fun _ h9 => h9) rfl (by decide +kernel) rfl rfl (Nat.le_of_ble_eq_true rfl) dMo_drills_39 (fun H locs hW hS => ?_)
            rw [dq_UU] at hW
            refine lv_aload_n hx hb dMo_drills_42 rfl (lv_at hl 0 rfl) ?_
            refine dq_get (D := D) (ci := 8) (v := .int (2)) (C := RMo) (T := TMo) (N := 29) hx hb hts hinMo hown hK hW 100 dq_Us rfl 0 (by decide) hf79 (fun _ h9 => h9) rfl dMo_drills_43 ?_
            refine lv_if_ne (tgt := 67) hx hb dMo_drills_46 (by decide) (fun c6 => ?_) (fun c6 => ?_)
            · refine lv_iconst (v := (0)) hx hb dMo_drills_67 (by decide) ?_
              exact hret _ _ _ _ _ _ ⟨rfl, rfl⟩ (by decide) hW hS dMo_drills_68
            · exact absurd c6 (by decide)
  · exact absurd rfl c1

set_option maxHeartbeats 4000000 in
set_option maxRecDepth 100000 in
/-- drills(hit, hole) -/
theorem m_drills (l : Launch) (D : va_G) (g : Nat → ClassId) (ad : Nat → Nat) (w : Nat → Option va_E) (sz : Nat) (cd : Int32) (n hn cn : Nat) (pl : Int32) (tn : Nat) (sg : Int32) (wy : Int64) (tS : Nat → Int32) (k h S : Nat) (m100 : w 100 = some (.inr (8, [.int cd, .int (nI n), .ref (ad 102), .ref (ad 103), .ref (ad 104), .int (nI hn), .ref (ad 106), .ref (ad 107), .ref (ad 108), .ref (ad 109), .ref (ad 110), .ref (ad 111), .int (nI cn), .ref (ad 113), .int pl, .int (nI tn), .ref (ad 116), .ref (ad 117), .ref (ad 118), .ref (ad 119), .int sg, .ref (ad 121), .long wy, .ref (ad 123), .ref (ad 124), .ref (ad 125), .ref (ad 126), .ref (ad 127), .ref (ad 128)]))) (m119 : w 119 = some (.inl (g 0, 14, .inl tS))) (hpl : ¬ pl = 0) (hk : k < tn) (ht14 : tn ≤ 14) (hh : h < hn) (hpc : hn ≤ 14) (hS9 : tS k = nI S) (hS8 : S < 2 ^ 31) : Met l yMo_drills wsMo_drills ({ frames := 2, cells := 0, slots := 0, locals := 50 } : Room) (va_Pc [.ref (ad 100), .int (nI k), .int (nI h)] (dq_S D vwCl (dq_t g) ad w sz)) (va_Qi (fun r u => r = dq_b (S.testBit h) ∧ u = dq_U w 100 (.inr (8, [.int 0, .int (nI n), .ref (ad 102), .ref (ad 103), .ref (ad 104), .int (nI hn), .ref (ad 106), .ref (ad 107), .ref (ad 108), .ref (ad 109), .ref (ad 110), .ref (ad 111), .int (nI cn), .ref (ad 113), .int pl, .int (nI tn), .ref (ad 116), .ref (ad 117), .ref (ad 118), .ref (ad 119), .int sg, .ref (ad 121), .long wy, .ref (ad 123), .ref (ad 124), .ref (ad 125), .ref (ad 126), .ref (ad 127), .ref (ad 128)]))) (dq_B D vwCl (dq_t g) ad (dq_A ad w sz)) (dq_A ad w sz)) 0 0 (dq_A ad w sz) := by
  refine dq_ofz (cc := cMo_drills) (maxL := 3) (by decide) rfl (Nat.le_of_ble_eq_true rfl) ?_
  intro p e s m below meth c A Q ls ⟨hx, hb, hml, hown, hts⟩ hnm hA hW hK hZ hl hret
  have hS : va_S A s.heap s.heap [] := va_S.rf
  have hl : lv_has ls 3 [(0, .ref (ad 100)), (1, .int (nI k)), (2, .int (nI h))] := hl
  have hf50 := hts _ (List.mem_cons_of_mem _ tw3_173)
  have hf79 := hts _ (List.mem_cons_of_mem _ tw3_154)
  have hf90 := hts _ (List.mem_cons_of_mem _ tw3_159)
  have hf127 := hts _ (List.mem_cons_of_mem _ tw3_169)
  have hinMo : ∀ w ∈ u_ws RMo TMo 29, w ∈ wsMo_drills := fun w h => List.mem_cons_of_mem _ (inMo w h)
  refine lv_aload_n hx hb dMo_drills_0 rfl (lv_at hl 0 rfl) ?_
  refine dq_calli (va_runV (As := []) (rest := []) ⟨hx, hb, hml, hown, hts⟩ (m_none_n l D g ad (w) _ cd n hn cn pl tn sg wy m100 hpl) (cwV 0 hts (dq_giV tw4_87 tw4_89 twp_25 tw1_10 tw4_90) rfl rfl rfl (by decide +kernel) ⟨Nat.le_of_ble_eq_true rfl, Nat.le_of_ble_eq_true rfl⟩) (dq_preV (ci := 8) hW hS hA hK hZ m100 rfl rfl) rfl rfl hl.1 rfl (lv_room (Nat.le_of_ble_eq_true rfl)) dMo_drills_1 ⟨Nat.zero_le _, Nat.zero_le _⟩) hW hS hA (fun r1 u_9 H locs hp1 hW hS hz9 => ?_)
  obtain ⟨hr1, hu9⟩ := hp1
  rw [hu9] at hW
  subst hr1
  refine lv_if_eq (tgt := 9) hx hb dMo_drills_4 (by decide) (fun c1 => ?_) (fun c1 => ?_)
  · refine lv_aload_n hx hb dMo_drills_9 rfl (lv_at hl 0 rfl) ?_
    refine lv_iload_n hx hb dMo_drills_10 rfl (lv_at hl 1 rfl) ?_
    refine lv_if_lt (tgt := 34) hx hb dMo_drills_11 (by decide) (fun c2 => ?_) (fun c2 => ?_)
    · exact absurd c2 (nI_pos (by omega))
    · refine lv_iload_n hx hb dMo_drills_14 rfl (lv_at hl 1 rfl) ?_
      refine lv_aload_n hx hb dMo_drills_15 rfl (lv_at hl 0 rfl) ?_
      refine dq_get (D := D) (ci := 8) (v := .int (nI tn)) (C := RMo) (T := TMo) (N := 29) hx hb hts hinMo hown hK hW 100 dq_Us rfl 15 (by decide) hf127 (fun _ h9 => h9) rfl dMo_drills_16 ?_
      refine lv_icmp_ge (tgt := 34) hx hb dMo_drills_19 (by decide) (fun c3 => ?_) (fun c3 => ?_)
      · exact absurd ((nI_leI (by omega) (by omega)).mp c3) (by omega)
      · refine lv_iload_n hx hb dMo_drills_22 rfl (lv_at hl 2 rfl) ?_
        refine lv_if_lt (tgt := 34) hx hb dMo_drills_23 (by decide) (fun c4 => ?_) (fun c4 => ?_)
        · exact absurd c4 (nI_pos (by omega))
        · refine lv_iload_n hx hb dMo_drills_26 rfl (lv_at hl 2 rfl) ?_
          refine lv_aload_n hx hb dMo_drills_27 rfl (lv_at hl 0 rfl) ?_
          refine dq_get (D := D) (ci := 8) (v := .int (nI hn)) (C := RMo) (T := TMo) (N := 29) hx hb hts hinMo hown hK hW 100 dq_Us rfl 5 (by decide) hf90 (fun _ h9 => h9) rfl dMo_drills_28 ?_
          refine lv_icmp_lt (tgt := 38) hx hb dMo_drills_31 (by decide) (fun c5 => ?_) (fun c5 => ?_)
          · refine lv_iconst (v := (0)) hx hb dMo_drills_38 (by decide) ?_
            refine dq_put (D := D) (ci := 8) (v := .int (0)) (ty := .int) (C := RMo) (T := TMo) (N := 29) hx hb hts hinMo tyMo tyMo_ok nmMo hown hK hW hS 100 dq_Us rfl 0 (by decide) hf79 (fun _ h9 => h9) rfl (by decide +kernel) rfl rfl (Nat.le_of_ble_eq_true rfl) dMo_drills_39 (fun H locs hW hS => ?_)
            rw [dq_UU] at hW
            refine lv_aload_n hx hb dMo_drills_42 rfl (lv_at hl 0 rfl) ?_
            refine dq_get (D := D) (ci := 8) (v := .int (0)) (C := RMo) (T := TMo) (N := 29) hx hb hts hinMo hown hK hW 100 dq_Us rfl 0 (by decide) hf79 (fun _ h9 => h9) rfl dMo_drills_43 ?_
            refine lv_if_ne (tgt := 67) hx hb dMo_drills_46 (by decide) (fun c6 => ?_) (fun c6 => ?_)
            · exact absurd rfl c6
            · refine lv_aload_n hx hb dMo_drills_49 rfl (lv_at hl 0 rfl) ?_
              refine dq_get (D := D) (ci := 8) (v := .ref (ad 119)) (C := RMo) (T := TMo) (N := 29) hx hb hts hinMo hown hK hW 100 dq_Us rfl 19 (by decide) hf50 (fun _ h9 => h9) rfl dMo_drills_50 ?_
              refine lv_iload_n hx hb dMo_drills_53 rfl (lv_at hl 1 rfl) ?_
              refine dq_ialdN hx hb hK hW 119 0 ((dq_Un (by decide)).trans m119) rfl k (by omega) (by omega) dMo_drills_54 ?_
              refine dq_top (y := nI S) hS9 ?_
              refine lv_iload_n hx hb dMo_drills_55 rfl (lv_at hl 2 rfl) ?_
              refine lv_ishr hx hb dMo_drills_56 ?_
              refine lv_iconst (v := (1)) hx hb dMo_drills_57 (by decide) ?_
              refine lv_iand hx hb dMo_drills_58 ?_
              refine dq_top (y := dq_b (S.testBit h)) (dq_bit hS8 (by omega)) ?_
              refine lv_iconst (v := (1)) hx hb dMo_drills_59 (by decide) ?_
              refine lv_icmp_ne (tgt := 67) hx hb dMo_drills_60 (by decide) (fun c7 => ?_) (fun c7 => ?_)
              · refine lv_iconst (v := (0)) hx hb dMo_drills_67 (by decide) ?_
                exact hret _ _ _ _ _ _ ⟨by cases hb9 : S.testBit h; rfl; exact absurd (dq_b_1.mpr hb9) c7, rfl⟩ (by decide) hW hS dMo_drills_68
              · refine lv_iconst (v := (1)) hx hb dMo_drills_63 (by decide) ?_
                refine lv_goto (tgt := 68) hx hb dMo_drills_64 (by decide) ?_
                exact hret _ _ _ _ _ _ ⟨c7.symm, rfl⟩ (by decide) hW hS dMo_drills_68
          · exact absurd (nI_lt hh (by omega)) c5
  · exact absurd rfl c1
