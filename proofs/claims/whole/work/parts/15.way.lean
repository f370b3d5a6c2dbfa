/-! MIRRORS of the way -/
def mw_abs (x : Int32) : Int32 := if 0 ≤ x then x else 0 - x
def mw_d (hX hY : Nat → Int32) (k : Nat) (x y : Int32) : Int32 := mw_abs (hX k - x) + mw_abs (hY k - y)
theorem mw_ix {a b k c : Nat} (h1 : a < b) (h2 : k < c) : a * c + k < b * c := by
  have h3 : (a + 1) * c ≤ b * c := Nat.mul_le_mul_right c h1
  rw [Nat.succ_mul] at h3
  omega
def mw_o (sh hX hY : Nat → Int32) (hc k S : Nat) (x y : Int32) : Int32 := mw_d hX hY k x y + sh (dq_df S (2 ^ k) * hc + k)
/-- the hit to go to first, over the hits 0 .. k - 1: which, how far -/
def mw_nx (sh hX hY : Nat → Int32) (hc S : Nat) (x y : Int32) : Nat → Int32 × Int32
  | 0 => (-1, 0)
  | k + 1 => if S.testBit k = true then (if (mw_nx sh hX hY hc S x y k).1 = -1 ∨ mw_o sh hX hY hc k S x y < (mw_nx sh hX hY hc S x y k).2 then (nI k, mw_o sh hX hY hc k S x y) else mw_nx sh hX hY hc S x y k) else mw_nx sh hX hY hc S x y k
theorem mw_nx_in (sh hX hY : Nat → Int32) (hc S : Nat) (x y : Int32) (k : Nat) (hk : k ≤ 14) : ((mw_nx sh hX hY hc S x y k).1 = -1 ∧ ∀ i, i < k → S.testBit i = false) ∨ ∃ t, t < k ∧ S.testBit t = true ∧ (mw_nx sh hX hY hc S x y k).1 = nI t := by
  induction k with
  | zero => exact Or.inl ⟨rfl, fun i hi => absurd hi (by omega)⟩
  | succ k ih =>
    unfold mw_nx
    rcases ih (by omega) with ⟨h1, h2⟩ | ⟨t, h1, h2, h3⟩
    · by_cases hb : S.testBit k = true
      · rw [if_pos hb, if_pos (Or.inl h1)]
        exact Or.inr ⟨k, by omega, hb, rfl⟩
      · rw [if_neg hb]
        refine Or.inl ⟨h1, fun i hi => ?_⟩
        by_cases hik : i = k
        · rw [hik]; exact Bool.not_eq_true _ ▸ hb
        · exact h2 i (by omega)
    · by_cases hb : S.testBit k = true
      · rw [if_pos hb]
        split
        · exact Or.inr ⟨k, by omega, hb, rfl⟩
        · exact Or.inr ⟨t, by omega, h2, h3⟩
      · rw [if_neg hb]
        exact Or.inr ⟨t, by omega, h2, h3⟩
def mw_cell (sh hX hY : Nat → Int32) (hc S k : Nat) : Int32 := if (mw_nx sh hX hY hc S (hX k) (hY k) hc).1 = -1 then 0 else mw_o sh hX hY hc (mw_nx sh hX hY hc S (hX k) (hY k) hc).1.toNatClampNeg S (hX k) (hY k)
def mw_row (sh hX hY : Nat → Int32) (hc S : Nat) : Nat → Nat → Int32
  | 0 => sh
  | k + 1 => if S.testBit k = true then mw_row sh hX hY hc S k else upd (mw_row sh hX hY hc S k) (S * hc + k) (mw_cell (mw_row sh hX hY hc S k) hX hY hc S k)
def mw_fill (sh hX hY : Nat → Int32) (hc : Nat) : Nat → Nat → Int32
  | 0 => sh
  | S + 1 => mw_row (mw_fill sh hX hY hc S) hX hY hc S hc
/-- the order's first i hits: the row, the hits left, the place -/
def mw_tk (sh hX hY : Nat → Int32) (hc : Nat) (sq : Nat → Int32) : Nat → (Nat → Int32) × Nat × Int32 × Int32
  | 0 => (sq, 2 ^ hc - 1, 0, 0)
  | i + 1 =>
    let z := mw_tk sh hX hY hc sq i
    let nx := (mw_nx sh hX hY hc z.2.1 z.2.2.1 z.2.2.2 hc).1
    if nx = -1 then z else (upd z.1 i nx, dq_df z.2.1 (2 ^ nx.toNatClampNeg), hX nx.toNatClampNeg, hY nx.toNatClampNeg)
theorem mw_tk_stop {sh hX hY : Nat → Int32} {hc : Nat} {sq : Nat → Int32} {i : Nat} (h : (mw_nx sh hX hY hc (mw_tk sh hX hY hc sq i).2.1 (mw_tk sh hX hY hc sq i).2.2.1 (mw_tk sh hX hY hc sq i).2.2.2 hc).1 = -1) (d : Nat) : mw_tk sh hX hY hc sq (i + d) = mw_tk sh hX hY hc sq i := by
  induction d with
  | zero => rfl
  | succ d ih =>
    show (if (mw_nx sh hX hY hc (mw_tk sh hX hY hc sq (i + d)).2.1 (mw_tk sh hX hY hc sq (i + d)).2.2.1 (mw_tk sh hX hY hc sq (i + d)).2.2.2 hc).1 = -1 then mw_tk sh hX hY hc sq (i + d) else _) = _
    rw [ih, if_pos h]
def mw_own (sq : Nat → Int32) (k : Nat) : Nat → Int32 := fun j => if j < k then nI j else sq j
theorem mw_own_0 (sq : Nat → Int32) : mw_own sq 0 = sq := by
  funext j
  unfold mw_own
  rw [if_neg (by omega)]
theorem mw_own_s (sq : Nat → Int32) (k : Nat) : upd (mw_own sq k) k (nI k) = mw_own sq (k + 1) := by
  funext j
  by_cases h : j = k
  · subst h
    rw [pk_us]
    unfold mw_own
    rw [if_pos (by omega)]
  · rw [pk_un h]
    unfold mw_own
    by_cases h2 : j < k
    · rw [if_pos h2, if_pos (by omega)]
    · rw [if_neg h2, if_neg (by omega)]
/-- the way's length over the first i hits, and the place then -/
def mw_len (hX hY : Nat → Int32) (sN : Nat → Nat) : Nat → Int64 × Int32 × Int32
  | 0 => (0, 0, 0)
  | i + 1 => ((mw_len hX hY sN i).1 + (mw_d hX hY (sN i) (mw_len hX hY sN i).2.1 (mw_len hX hY sN i).2.2).toInt64, hX (sN i), hY (sN i))
set_option maxHeartbeats 4000000 in
set_option maxRecDepth 100000 in
/-- Way.distance -/
theorem c_Way_distance (l : Launch) (D : va_G) (g : Nat → ClassId) (ad : Nat → Nat) (w : Nat → Option va_E) (sz : Nat) (hX hY : Nat → Int32) (hc : Nat) (k : Nat) (a0 a1 : Int32) (t18 : w 18 = some (.inr (2, [.ref (ad 19), .ref (ad 20), .ref (ad 21), .ref (ad 22), .int (nI hc)]))) (t19 : w 19 = some (.inl (g 0, 14, .inl hX))) (t20 : w 20 = some (.inl (g 0, 14, .inl hY))) (hk : k < 14) : Met l yWy_distance wsWy_distance ({ frames := 1, cells := 0, slots := 0, locals := 24 } : Room) (va_Pc [.ref (ad 18), .int (nI k), .int a0, .int a1] (dq_S D vwCl (dq_t g) ad w sz)) (va_Qi (fun r u => r = mw_d hX hY k a0 a1 ∧ u = w) (dq_B D vwCl (dq_t g) ad (dq_A ad w sz)) (dq_A ad w sz)) 0 0 (dq_A ad w sz) := by
  refine dq_ofi (cc := cWy_distance) (maxL := 4) (by decide) rfl (Nat.le_of_ble_eq_true rfl) ?_
  intro p e s m below meth c A Q ls ⟨hx, hb, hml, hown, hts⟩ hnm hA hW hK hZ hl hret
  have hS : va_S A s.heap s.heap [] := va_S.rf
  have hl : lv_has ls 4 [(0, .ref (ad 18)), (1, .int (nI k)), (2, .int a0), (3, .int a1)] := hl
  have hf41 := hts _ (List.mem_cons_of_mem _ tw1_163)
  have hf44 := hts _ (List.mem_cons_of_mem _ tw1_166)
  have hinHt : ∀ w ∈ u_ws RHt THt 5, w ∈ wsWy_distance := fun w h => List.mem_cons_of_mem _ (inHt w h)
  refine lv_aload_n hx hb dWy_distance_0 rfl (lv_at hl 0 rfl) ?_
  refine dq_get (D := D) (ci := 2) (v := .ref (ad 19)) (C := RHt) (T := THt) (N := 5) hx hb hts hinHt hown hK hW 18 t18 rfl 0 (by decide) hf41 (fun _ h9 => h9) rfl dWy_distance_1 ?_
  refine lv_iload_n hx hb dWy_distance_4 rfl (lv_at hl 1 rfl) ?_
  refine dq_ialdN hx hb hK hW 19 0 t19 rfl k (by omega) (by omega) dWy_distance_5 ?_
  refine lv_iload_n hx hb dWy_distance_6 rfl (lv_at hl 2 rfl) ?_
  refine lv_isub hx hb dWy_distance_7 ?_
  refine va_mabs hx hb (by rw [hml]; exact hl.1.symm) hown (hts _ (List.mem_cons_of_mem _ tw2_98)) (hts _ (List.mem_cons_of_mem _ tw2_99)) (hts _ (List.mem_cons_of_mem _ tw1_3)) (hts _ (List.mem_cons_of_mem _ tw2_100)) (Nat.le_of_ble_eq_true rfl) (Nat.le_of_ble_eq_true rfl) (Nat.zero_le _) (Nat.zero_le _) dWy_distance_8 ?_
  refine dq_top (y := mw_abs (hX k - a0)) rfl ?_
  refine lv_aload_n hx hb dWy_distance_11 rfl (lv_at hl 0 rfl) ?_
  refine dq_get (D := D) (ci := 2) (v := .ref (ad 20)) (C := RHt) (T := THt) (N := 5) hx hb hts hinHt hown hK hW 18 t18 rfl 1 (by decide) hf44 (fun _ h9 => h9) rfl dWy_distance_12 ?_
  refine lv_iload_n hx hb dWy_distance_15 rfl (lv_at hl 1 rfl) ?_
  refine dq_ialdN hx hb hK hW 20 0 t20 rfl k (by omega) (by omega) dWy_distance_16 ?_
  refine lv_iload_n hx hb dWy_distance_17 rfl (lv_at hl 3 rfl) ?_
  refine lv_isub hx hb dWy_distance_18 ?_
  refine va_mabs hx hb (by rw [hml]; exact hl.1.symm) hown (hts _ (List.mem_cons_of_mem _ tw2_98)) (hts _ (List.mem_cons_of_mem _ tw2_99)) (hts _ (List.mem_cons_of_mem _ tw1_3)) (hts _ (List.mem_cons_of_mem _ tw2_100)) (Nat.le_of_ble_eq_true rfl) (Nat.le_of_ble_eq_true rfl) (Nat.zero_le _) (Nat.zero_le _) dWy_distance_19 ?_
  refine dq_top (y := mw_abs (hY k - a1)) rfl ?_
  refine lv_iadd hx hb dWy_distance_22 ?_
  exact hret _ _ _ _ _ _ ⟨rfl, rfl⟩ hW hS dWy_distance_23
set_option maxHeartbeats 4000000 in
set_option maxRecDepth 100000 in
/-- Way.wayOver -/
theorem c_Way_wayOver (l : Launch) (D : va_G) (g : Nat → ClassId) (ad : Nat → Nat) (w : Nat → Option va_E) (sz : Nat) (hX hY : Nat → Int32) (hc : Nat) (wl : Int64) (sq sh : Nat → Int32) (sl : Nat) (k S : Nat) (a0 a1 : Int32) (t18 : w 18 = some (.inr (2, [.ref (ad 19), .ref (ad 20), .ref (ad 21), .ref (ad 22), .int (nI hc)]))) (t19 : w 19 = some (.inl (g 0, 14, .inl hX))) (t20 : w 20 = some (.inl (g 0, 14, .inl hY))) (y25 : w 25 = some (.inr (6, [.ref (ad 26), .long wl, .ref (ad 27)]))) (y27 : w 27 = some (.inl (g 0, sl, .inl sh))) (hk : k < hc) (hc10 : hc ≤ 10) (hS9 : S < 2 ^ hc) (hsl : 2 ^ hc * hc ≤ sl) (hsl2 : sl ≤ 10240) : Met l yWy_wayOver wsWy_wayOver ({ frames := 2, cells := 0, slots := 0, locals := 50 } : Room) (va_Pc [.ref (ad 25), .ref (ad 18), .int (nI k), .int (nI S), .int a0, .int a1] (dq_S D vwCl (dq_t g) ad w sz)) (va_Qi (fun r u => r = mw_o sh hX hY hc k S a0 a1 ∧ u = w) (dq_B D vwCl (dq_t g) ad (dq_A ad w sz)) (dq_A ad w sz)) 0 0 (dq_A ad w sz) := by
  refine dq_ofi (cc := cWy_wayOver) (maxL := 6) (by decide) rfl (Nat.le_of_ble_eq_true rfl) ?_
  intro p e s m below meth c A Q ls ⟨hx, hb, hml, hown, hts⟩ hnm hA hW hK hZ hl hret
  have hS : va_S A s.heap s.heap [] := va_S.rf
  have hl : lv_has ls 6 [(0, .ref (ad 25)), (1, .ref (ad 18)), (2, .int (nI k)), (3, .int (nI S)), (4, .int a0), (5, .int a1)] := hl
  have hf15 := hts _ (List.mem_cons_of_mem _ tw1_206)
  have hf18 := hts _ (List.mem_cons_of_mem _ tw1_173)
  have hinHt : ∀ w ∈ u_ws RHt THt 5, w ∈ wsWy_wayOver := fun w h => List.mem_cons_of_mem _ (inHt w h)
  have hinWy : ∀ w ∈ u_ws RWy TWy 3, w ∈ wsWy_wayOver := fun w h => List.mem_cons_of_mem _ (inWy w h)
  refine lv_aload_n hx hb dWy_wayOver_0 rfl (lv_at hl 1 rfl) ?_
  refine lv_iload_n hx hb dWy_wayOver_1 rfl (lv_at hl 2 rfl) ?_
  refine lv_iload hx hb dWy_wayOver_2 (lv_at hl 4 rfl) ?_
  refine lv_iload hx hb dWy_wayOver_4 (lv_at hl 5 rfl) ?_
  refine dq_calli (va_runS (As := [.ref (ad 18), .int (nI k), .int a0, .int a1]) (rest := []) ⟨hx, hb, hml, hown, hts⟩ (c_Way_distance l D g ad (w) _ hX hY hc k a0 a1 t18 t19 t20 (by omega)) (cwS 4 hts (dq_giS2 tw2_95 tw2_96 tw1_9 tw2_97) rfl rfl rfl (by decide +kernel) ⟨Nat.le_of_ble_eq_true rfl, Nat.le_of_ble_eq_true rfl⟩) (dq_preS hW hS hA hK hZ) rfl rfl hl.1 rfl (lv_room (Nat.le_of_ble_eq_true rfl)) dWy_wayOver_6 ⟨Nat.zero_le _, Nat.zero_le _⟩) hW hS hA (fun r1 u_9 H locs hp1 hW hS hz9 => ?_)
  obtain ⟨hr1, hu9⟩ := hp1
  rw [hu9] at hW
  subst hr1
  refine lv_aload_n hx hb dWy_wayOver_9 rfl (lv_at hl 0 rfl) ?_
  refine dq_get (D := D) (ci := 6) (v := .ref (ad 27)) (C := RWy) (T := TWy) (N := 3) hx hb hts hinWy hown hK hW 25 y25 rfl 2 (by decide) hf15 (fun _ h9 => h9) rfl dWy_wayOver_10 ?_
  refine lv_iload_n hx hb dWy_wayOver_13 rfl (lv_at hl 3 rfl) ?_
  refine lv_iload_n hx hb dWy_wayOver_14 rfl (lv_at hl 2 rfl) ?_
  refine dq_calli (va_runSN (As := [.int (nI S), .int (nI k)]) (rest := [.ref (ad 27), .int (mw_d hX hY k a0 a1)]) ⟨hx, hb, hml, hown, hts⟩ (c_without l D g ad (w) _ S k  (by omega)) ⟨va_cnB 2 hts (dq_gi tw2_103) rfl rfl rfl (hZ.n8) (hts _ (List.mem_cons_of_mem _ tw1_1)) (by decide +kernel) ⟨Nat.le_of_ble_eq_true rfl, Nat.le_of_ble_eq_true rfl⟩, (hts _ (List.mem_cons_of_mem _ tw2_102)), trivial⟩ (dq_preS hW hS hA hK hZ) rfl rfl hl.1 rfl (lv_room (Nat.le_of_ble_eq_true rfl)) dWy_wayOver_15 ⟨Nat.zero_le _, Nat.zero_le _⟩) hW hS hA (fun r2 u_9 H locs hp2 hW hS hz9 => ?_)
  obtain ⟨hr2, hu9⟩ := hp2
  rw [hu9] at hW
  subst hr2
  refine lv_aload_n hx hb dWy_wayOver_18 rfl (lv_at hl 1 rfl) ?_
  refine dq_get (D := D) (ci := 2) (v := .int (nI hc)) (C := RHt) (T := THt) (N := 5) hx hb hts hinHt hown hK hW 18 t18 rfl 4 (by decide) hf18 (fun _ h9 => h9) rfl dWy_wayOver_19 ?_
  refine lv_imul hx hb dWy_wayOver_22 ?_
  refine dq_top (y := nI (dq_df S (2 ^ k) * hc)) (pk_mul _ _) ?_
  refine lv_iload_n hx hb dWy_wayOver_23 rfl (lv_at hl 2 rfl) ?_
  refine lv_iadd hx hb dWy_wayOver_24 ?_
  refine dq_top (y := nI (dq_df S (2 ^ k) * hc + k)) (nI_add _ _) ?_
  refine dq_ialdN hx hb hK hW 27 0 y27 rfl (dq_df S (2 ^ k) * hc + k) (Nat.lt_of_lt_of_le (mw_ix (Nat.lt_of_le_of_lt (dq_df_le _ _) hS9) hk) hsl) (by omega) dWy_wayOver_25 ?_
  refine lv_iadd hx hb dWy_wayOver_26 ?_
  exact hret _ _ _ _ _ _ ⟨rfl, rfl⟩ hW hS dWy_wayOver_27
set_option maxHeartbeats 4000000 in
set_option maxRecDepth 100000 in
/-- Way.nextHit -/
theorem c_Way_nextHit (l : Launch) (D : va_G) (g : Nat → ClassId) (ad : Nat → Nat) (w : Nat → Option va_E) (sz : Nat) (hX hY : Nat → Int32) (hc : Nat) (wl : Int64) (sq sh : Nat → Int32) (sl : Nat) (S : Nat) (a0 a1 : Int32) (t18 : w 18 = some (.inr (2, [.ref (ad 19), .ref (ad 20), .ref (ad 21), .ref (ad 22), .int (nI hc)]))) (t19 : w 19 = some (.inl (g 0, 14, .inl hX))) (t20 : w 20 = some (.inl (g 0, 14, .inl hY))) (y25 : w 25 = some (.inr (6, [.ref (ad 26), .long wl, .ref (ad 27)]))) (y27 : w 27 = some (.inl (g 0, sl, .inl sh))) (hc10 : hc ≤ 10) (hS9 : S < 2 ^ hc) (hsl : 2 ^ hc * hc ≤ sl) (hsl2 : sl ≤ 10240) : Met l yWy_nextHit wsWy_nextHit ({ frames := 3, cells := 0, slots := 0, locals := 80 } : Room) (va_Pc [.ref (ad 25), .ref (ad 18), .int (nI S), .int a0, .int a1] (dq_S D vwCl (dq_t g) ad w sz)) (va_Qi (fun r u => r = (mw_nx sh hX hY hc S a0 a1 hc).1 ∧ u = w) (dq_B D vwCl (dq_t g) ad (dq_A ad w sz)) (dq_A ad w sz)) 0 0 (dq_A ad w sz) := by
  refine dq_ofi (cc := cWy_nextHit) (maxL := 9) (by decide) rfl (Nat.le_of_ble_eq_true rfl) ?_
  intro p e s m below meth c A Q ls ⟨hx, hb, hml, hown, hts⟩ hnm hA hW hK hZ hl hret
  have hS : va_S A s.heap s.heap [] := va_S.rf
  have hl : lv_has ls 9 [(0, .ref (ad 25)), (1, .ref (ad 18)), (2, .int (nI S)), (3, .int a0), (4, .int a1)] := hl
  have hf18 := hts _ (List.mem_cons_of_mem _ tw1_173)
  have hinHt : ∀ w ∈ u_ws RHt THt 5, w ∈ wsWy_nextHit := fun w h => List.mem_cons_of_mem _ (inHt w h)
  have hp9 : 2 ^ hc ≤ 1024 := Nat.le_trans (Nat.pow_le_pow_right (by omega) hc10) (Nat.le_refl 1024)
  refine lv_iconst (v := (-1)) hx hb dWy_nextHit_0 (by decide) ?_
  refine lv_istore (lv' := [(5, .int (-1)), (0, .ref (ad 25)), (1, .ref (ad 18)), (2, .int (nI S)), (3, .int a0), (4, .int a1)]) hx hb dWy_nextHit_1 hl (by decide) rfl (fun ls hl => ?_)
  refine lv_iconst (v := (0)) hx hb dWy_nextHit_3 (by decide) ?_
  refine lv_istore (lv' := [(6, .int (0)), (5, .int (-1)), (0, .ref (ad 25)), (1, .ref (ad 18)), (2, .int (nI S)), (3, .int a0), (4, .int a1)]) hx hb dWy_nextHit_4 hl (by decide) rfl (fun ls hl => ?_)
  refine lv_iconst (v := (nI 0)) hx hb dWy_nextHit_6 (by decide) ?_
  refine lv_istore (lv' := [(7, .int (nI 0)), (6, .int (0)), (5, .int (-1)), (0, .ref (ad 25)), (1, .ref (ad 18)), (2, .int (nI S)), (3, .int a0), (4, .int a1)]) hx hb dWy_nextHit_7 hl (by decide) rfl (fun ls hl => ?_)
  have loop : ∀ (j : Nat) (k : Nat) (H : Heap) (locs : List Loc) (ls : Array Slot), hc < k + j → k ≤ hc → dq_W D vwCl ad (w) A H → va_S A s.heap H locs → lv_has ls 9 [(0, .ref (ad 25)), (1, .ref (ad 18)), (2, .int (nI S)), (3, .int a0), (4, .int a1), (5, .int (mw_nx sh hX hY hc S a0 a1 k).1), (6, .int (mw_nx sh hX hY hc S a0 a1 k).2), (7, .int (nI k))] → W p l e ({ frames := 3, cells := 0, slots := 0, locals := 80 } : Room) s m ([.ref (ad 25), .ref (ad 18), .int (nI S), .int a0, .int a1] : List Value).toArray below meth c H locs 0 0 Q (F0 m 9 ls []) := by
    intro j
    induction j with
    | zero => intro k H locs ls hj hk hW hS hl; exact absurd hj (by omega)
    | succ j ih =>
      intro k H locs ls hj hk hW hS hl
      refine lv_iload hx hb dWy_nextHit_9 (lv_at hl 7 rfl) ?_
      refine lv_aload_n hx hb dWy_nextHit_11 rfl (lv_at hl 1 rfl) ?_
      refine dq_get (D := D) (ci := 2) (v := .int (nI hc)) (C := RHt) (T := THt) (N := 5) hx hb hts hinHt hown hK hW 18 t18 rfl 4 (by decide) hf18 (fun _ h9 => h9) rfl dWy_nextHit_12 ?_
      refine lv_icmp_ge (tgt := 67) hx hb dWy_nextHit_15 (by decide) (fun c1 => ?_) (fun c1 => ?_)
      · have hkn : k = hc := by have q := (nI_leI (by omega) (by omega)).mp c1; omega
        refine lv_iload hx hb dWy_nextHit_67 (lv_at hl 5 rfl) ?_
        exact hret _ _ _ _ _ _ ⟨by rw [hkn], rfl⟩ hW hS dWy_nextHit_69
      · have hkn : k < hc := by rcases Nat.lt_or_ge k hc with q | q; exact q; exact absurd (nI_le q (by omega)) c1
        refine lv_iload_n hx hb dWy_nextHit_18 rfl (lv_at hl 2 rfl) ?_
        refine lv_iload hx hb dWy_nextHit_19 (lv_at hl 7 rfl) ?_
        refine dq_calli (va_runSN (As := [.int (nI S), .int (nI k)]) (rest := []) ⟨hx, hb, hml, hown, hts⟩ (c_holds l D g ad (w) _ S k  (by omega) (by omega)) ⟨va_cnB 2 hts (dq_gi tw2_86) rfl rfl rfl (hZ.n7) (hts _ (List.mem_cons_of_mem _ tw1_1)) (by decide +kernel) ⟨Nat.le_of_ble_eq_true rfl, Nat.le_of_ble_eq_true rfl⟩, (hts _ (List.mem_cons_of_mem _ tw2_85)), trivial⟩ (dq_preS hW hS hA hK hZ) rfl rfl hl.1 rfl (lv_room (Nat.le_of_ble_eq_true rfl)) dWy_nextHit_21 ⟨Nat.zero_le _, Nat.zero_le _⟩) hW hS hA (fun r1 u_9 H locs hp1 hW hS hz9 => ?_)
        obtain ⟨hr1, hu9⟩ := hp1
        rw [hu9] at hW
        refine lv_if_eq (tgt := 61) hx hb dWy_nextHit_24 (by decide) (fun c2 => ?_) (fun c2 => ?_)
        · have e5 : (mw_nx sh hX hY hc S a0 a1 (k + 1)) = (mw_nx sh hX hY hc S a0 a1 k) := if_neg (by rw [dq_b_f (b := S.testBit k) (by rw [← hr1]; exact c2)]; decide)
          refine lv_iinc (v := (nI (k + 1))) (lv' := [(7, .int (nI (k + 1))), (0, .ref (ad 25)), (1, .ref (ad 18)), (2, .int (nI S)), (3, .int a0), (4, .int a1), (5, .int (mw_nx sh hX hY hc S a0 a1 k).1), (6, .int (mw_nx sh hX hY hc S a0 a1 k).2)]) hx hb dWy_nextHit_61 hl (k := 7) rfl (by show nI k + 1 = _; exact nI_1 _) (by decide) rfl (fun ls hl => ?_)
          refine lv_goto (tgt := 9) hx hb dWy_nextHit_64 (by decide) ?_
          exact ih (k + 1) _ _ _ (by omega) (by omega) hW hS (by rw [e5]; exact (lv_sub hl [1, 2, 3, 4, 5, 6, 7, 0] rfl))
        · have hbt : S.testBit k = true := dq_b_t (by rw [← hr1]; exact c2)
          refine lv_aload_n hx hb dWy_nextHit_27 rfl (lv_at hl 0 rfl) ?_
          refine lv_aload_n hx hb dWy_nextHit_28 rfl (lv_at hl 1 rfl) ?_
          refine lv_iload hx hb dWy_nextHit_29 (lv_at hl 7 rfl) ?_
          refine lv_iload_n hx hb dWy_nextHit_31 rfl (lv_at hl 2 rfl) ?_
          refine lv_iload_n hx hb dWy_nextHit_32 rfl (lv_at hl 3 rfl) ?_
          refine lv_iload hx hb dWy_nextHit_33 (lv_at hl 4 rfl) ?_
          refine dq_calli (va_runV (As := [.ref (ad 18), .int (nI k), .int (nI S), .int a0, .int a1]) (rest := []) ⟨hx, hb, hml, hown, hts⟩ (c_Way_wayOver l D g ad (w) _ hX hY hc wl sq sh sl k S a0 a1 t18 t19 t20 y25 y27 hkn hc10 hS9 hsl hsl2) (cwV 5 hts (dq_giV tw2_91 tw2_93 twp_7 tw1_9 tw2_94) rfl rfl rfl (by decide +kernel) ⟨Nat.le_of_ble_eq_true rfl, Nat.le_of_ble_eq_true rfl⟩) (dq_preV (ci := 6) hW hS hA hK hZ y25 rfl rfl) rfl rfl hl.1 rfl (lv_room (Nat.le_of_ble_eq_true rfl)) dWy_nextHit_35 ⟨Nat.zero_le _, Nat.zero_le _⟩) hW hS hA (fun r2 u_9 H locs hp2 hW hS hz9 => ?_)
          obtain ⟨hr2, hu9⟩ := hp2
          rw [hu9] at hW
          subst hr2
          refine lv_istore (lv' := [(8, .int (mw_o sh hX hY hc k S a0 a1)), (0, .ref (ad 25)), (1, .ref (ad 18)), (2, .int (nI S)), (3, .int a0), (4, .int a1), (5, .int (mw_nx sh hX hY hc S a0 a1 k).1), (6, .int (mw_nx sh hX hY hc S a0 a1 k).2), (7, .int (nI k))]) hx hb dWy_nextHit_38 hl (by decide) rfl (fun ls hl => ?_)
          refine lv_iload hx hb dWy_nextHit_40 (lv_at hl 6 rfl) ?_
          refine lv_iconst (v := (-1)) hx hb dWy_nextHit_42 (by decide) ?_
          refine lv_icmp_eq (tgt := 53) hx hb dWy_nextHit_43 (by decide) (fun c3 => ?_) (fun c3 => ?_)
          · have e5 : (mw_nx sh hX hY hc S a0 a1 (k + 1)) = (nI k, (mw_o sh hX hY hc k S a0 a1)) := by show (if _ then (if _ then _ else _) else _) = _; rw [if_pos hbt, if_pos (Or.inl c3)]
            refine lv_iload hx hb dWy_nextHit_53 (lv_at hl 8 rfl) ?_
            refine lv_istore (lv' := [(5, .int (nI k)), (8, .int (mw_o sh hX hY hc k S a0 a1)), (0, .ref (ad 25)), (1, .ref (ad 18)), (2, .int (nI S)), (3, .int a0), (4, .int a1), (6, .int (mw_nx sh hX hY hc S a0 a1 k).2), (7, .int (nI k))]) hx hb dWy_nextHit_55 hl (by decide) rfl (fun ls hl => ?_)
            refine lv_iload hx hb dWy_nextHit_57 (lv_at hl 1 rfl) ?_
            refine lv_istore (lv' := [(6, .int (mw_o sh hX hY hc k S a0 a1)), (5, .int (nI k)), (8, .int (mw_o sh hX hY hc k S a0 a1)), (0, .ref (ad 25)), (1, .ref (ad 18)), (2, .int (nI S)), (3, .int a0), (4, .int a1), (7, .int (nI k))]) hx hb dWy_nextHit_59 hl (by decide) rfl (fun ls hl => ?_)
            refine lv_iinc (v := (nI (k + 1))) (lv' := [(7, .int (nI (k + 1))), (6, .int (mw_o sh hX hY hc k S a0 a1)), (5, .int (nI k)), (8, .int (mw_o sh hX hY hc k S a0 a1)), (0, .ref (ad 25)), (1, .ref (ad 18)), (2, .int (nI S)), (3, .int a0), (4, .int a1)]) hx hb dWy_nextHit_61 hl (k := 8) rfl (by show nI k + 1 = _; exact nI_1 _) (by decide) rfl (fun ls hl => ?_)
            refine lv_goto (tgt := 9) hx hb dWy_nextHit_64 (by decide) ?_
            exact ih (k + 1) _ _ _ (by omega) (by omega) hW hS (by rw [e5]; exact (lv_sub hl [4, 5, 6, 7, 8, 2, 1, 0] rfl))
          · refine lv_iload hx hb dWy_nextHit_46 (lv_at hl 0 rfl) ?_
            refine lv_iload hx hb dWy_nextHit_48 (lv_at hl 7 rfl) ?_
            refine lv_icmp_ge (tgt := 61) hx hb dWy_nextHit_50 (by decide) (fun c4 => ?_) (fun c4 => ?_)
            · have e5 : (mw_nx sh hX hY hc S a0 a1 (k + 1)) = (mw_nx sh hX hY hc S a0 a1 k) := by show (if _ then (if _ then _ else _) else _) = _; rw [if_pos hbt, if_neg (fun h9 => h9.elim c3 (fun h8 => absurd c4 (Int32.not_le.mpr h8)))]
              refine lv_iinc (v := (nI (k + 1))) (lv' := [(7, .int (nI (k + 1))), (8, .int (mw_o sh hX hY hc k S a0 a1)), (0, .ref (ad 25)), (1, .ref (ad 18)), (2, .int (nI S)), (3, .int a0), (4, .int a1), (5, .int (mw_nx sh hX hY hc S a0 a1 k).1), (6, .int (mw_nx sh hX hY hc S a0 a1 k).2)]) hx hb dWy_nextHit_61 hl (k := 8) rfl (by show nI k + 1 = _; exact nI_1 _) (by decide) rfl (fun ls hl => ?_)
              refine lv_goto (tgt := 9) hx hb dWy_nextHit_64 (by decide) ?_
              exact ih (k + 1) _ _ _ (by omega) (by omega) hW hS (by rw [e5]; exact (lv_sub hl [2, 3, 4, 5, 6, 7, 8, 0] rfl))
            · have e5 : (mw_nx sh hX hY hc S a0 a1 (k + 1)) = (nI k, (mw_o sh hX hY hc k S a0 a1)) := by show (if _ then (if _ then _ else _) else _) = _; rw [if_pos hbt, if_pos (Or.inr (Int32.not_le.mp c4))]
              refine lv_iload hx hb dWy_nextHit_53 (lv_at hl 8 rfl) ?_
              refine lv_istore (lv' := [(5, .int (nI k)), (8, .int (mw_o sh hX hY hc k S a0 a1)), (0, .ref (ad 25)), (1, .ref (ad 18)), (2, .int (nI S)), (3, .int a0), (4, .int a1), (6, .int (mw_nx sh hX hY hc S a0 a1 k).2), (7, .int (nI k))]) hx hb dWy_nextHit_55 hl (by decide) rfl (fun ls hl => ?_)
              refine lv_iload hx hb dWy_nextHit_57 (lv_at hl 1 rfl) ?_
              refine lv_istore (lv' := [(6, .int (mw_o sh hX hY hc k S a0 a1)), (5, .int (nI k)), (8, .int (mw_o sh hX hY hc k S a0 a1)), (0, .ref (ad 25)), (1, .ref (ad 18)), (2, .int (nI S)), (3, .int a0), (4, .int a1), (7, .int (nI k))]) hx hb dWy_nextHit_59 hl (by decide) rfl (fun ls hl => ?_)
              refine lv_iinc (v := (nI (k + 1))) (lv' := [(7, .int (nI (k + 1))), (6, .int (mw_o sh hX hY hc k S a0 a1)), (5, .int (nI k)), (8, .int (mw_o sh hX hY hc k S a0 a1)), (0, .ref (ad 25)), (1, .ref (ad 18)), (2, .int (nI S)), (3, .int a0), (4, .int a1)]) hx hb dWy_nextHit_61 hl (k := 8) rfl (by show nI k + 1 = _; exact nI_1 _) (by decide) rfl (fun ls hl => ?_)
              refine lv_goto (tgt := 9) hx hb dWy_nextHit_64 (by decide) ?_
              exact ih (k + 1) _ _ _ (by omega) (by omega) hW hS (by rw [e5]; exact (lv_sub hl [4, 5, 6, 7, 8, 2, 1, 0] rfl))
  exact loop (hc + 1) 0 _ _ _ (by omega) (Nat.zero_le _) hW hS (lv_sub hl [3, 4, 5, 6, 7, 2, 1, 0] rfl)
set_option maxHeartbeats 4000000 in
set_option maxRecDepth 100000 in
/-- Way.takeOwnOrder -/
theorem c_Way_takeOwn (l : Launch) (D : va_G) (g : Nat → ClassId) (ad : Nat → Nat) (w : Nat → Option va_E) (sz : Nat) (hc : Nat) (wl : Int64) (sq sh : Nat → Int32) (sl : Nat) (t18 : w 18 = some (.inr (2, [.ref (ad 19), .ref (ad 20), .ref (ad 21), .ref (ad 22), .int (nI hc)]))) (y25 : w 25 = some (.inr (6, [.ref (ad 26), .long wl, .ref (ad 27)]))) (y26 : w 26 = some (.inl (g 0, 14, .inl sq))) (hc14 : hc ≤ 14) : Met l yWy_takeOwnOrder wsWy_takeOwnOrder ({ frames := 0, cells := 0, slots := 0, locals := 0 } : Room) (va_Pc [.ref (ad 25), .ref (ad 18)] (dq_S D vwCl (dq_t g) ad w sz)) (va_Qv (fun u => u = dq_U w 26 (.inl (g 0, 14, .inl (mw_own sq hc)))) (dq_B D vwCl (dq_t g) ad (dq_A ad w sz)) (dq_A ad w sz)) 0 0 (dq_A ad w sz) := by
  refine dq_ofv (cc := cWy_takeOwnOrder) (maxL := 3) (by decide) rfl (Nat.le_of_ble_eq_true rfl) ?_
  intro p e s m below meth c A Q ls ⟨hx, hb, hml, hown, hts⟩ hnm hA hW hK hZ hl hret
  have hS : va_S A s.heap s.heap [] := va_S.rf
  have hl : lv_has ls 3 [(0, .ref (ad 25)), (1, .ref (ad 18))] := hl
  have hf9 := hts _ (List.mem_cons_of_mem _ tw1_202)
  have hf18 := hts _ (List.mem_cons_of_mem _ tw1_173)
  have hinHt : ∀ w ∈ u_ws RHt THt 5, w ∈ wsWy_takeOwnOrder := fun w h => List.mem_cons_of_mem _ (inHt w h)
  have hinWy : ∀ w ∈ u_ws RWy TWy 3, w ∈ wsWy_takeOwnOrder := fun w h => List.mem_cons_of_mem _ (inWy w h)
  refine lv_iconst (v := (nI 0)) hx hb dWy_takeOwnOrder_0 (by decide) ?_
  refine lv_istore_n (lv' := [(2, .int (nI 0)), (0, .ref (ad 25)), (1, .ref (ad 18))]) hx hb dWy_takeOwnOrder_1 rfl hl (by decide) rfl (fun ls hl => ?_)
  have loop : ∀ (j : Nat) (k : Nat) (H : Heap) (locs : List Loc) (ls : Array Slot), hc < k + j → k ≤ hc → dq_W D vwCl ad (dq_U w 26 (.inl (g 0, 14, .inl (mw_own sq k)))) A H → va_S A s.heap H locs → lv_has ls 3 [(0, .ref (ad 25)), (1, .ref (ad 18)), (2, .int (nI k))] → W p l e ({ frames := 0, cells := 0, slots := 0, locals := 0 } : Room) s m ([.ref (ad 25), .ref (ad 18)] : List Value).toArray below meth c H locs 0 0 Q (F0 m 2 ls []) := by
    intro j
    induction j with
    | zero => intro k H locs ls hj hk hW hS hl; exact absurd hj (by omega)
    | succ j ih =>
      intro k H locs ls hj hk hW hS hl
      refine lv_iload_n hx hb dWy_takeOwnOrder_2 rfl (lv_at hl 2 rfl) ?_
      refine lv_aload_n hx hb dWy_takeOwnOrder_3 rfl (lv_at hl 1 rfl) ?_
      refine dq_get (D := D) (ci := 2) (v := .int (nI hc)) (C := RHt) (T := THt) (N := 5) hx hb hts hinHt hown hK hW 18 ((dq_Un (by decide)).trans t18) rfl 4 (by decide) hf18 (fun _ h9 => h9) rfl dWy_takeOwnOrder_4 ?_
      refine lv_icmp_ge (tgt := 23) hx hb dWy_takeOwnOrder_7 (by decide) (fun c1 => ?_) (fun c1 => ?_)
      · have hkn : hc = k := by have q9 := (nI_leI (by omega) (by omega)).mp c1; omega
        subst hkn
        exact hret _ _ _ _ _ rfl hW hS dWy_takeOwnOrder_23
      · have hkn : k < hc := by rcases Nat.lt_or_ge k hc with q | q; exact q; exact absurd (nI_le q (by omega)) c1
        refine lv_aload_n hx hb dWy_takeOwnOrder_10 rfl (lv_at hl 0 rfl) ?_
        refine dq_get (D := D) (ci := 6) (v := .ref (ad 26)) (C := RWy) (T := TWy) (N := 3) hx hb hts hinWy hown hK hW 25 ((dq_Un (by decide)).trans y25) rfl 0 (by decide) hf9 (fun _ h9 => h9) rfl dWy_takeOwnOrder_11 ?_
        refine lv_iload_n hx hb dWy_takeOwnOrder_14 rfl (lv_at hl 2 rfl) ?_
        refine lv_iload_n hx hb dWy_takeOwnOrder_15 rfl (lv_at hl 2 rfl) ?_
        refine dq_iastN hx hb hK hW hS 26 0 dq_Us rfl k (by omega) (by omega) dWy_takeOwnOrder_16 (fun H locs hW hS => ?_)
        rw [dq_UU] at hW
        refine lv_iinc (v := (nI (k + 1))) (lv' := [(2, .int (nI (k + 1))), (0, .ref (ad 25)), (1, .ref (ad 18))]) hx hb dWy_takeOwnOrder_17 hl (k := 2) rfl (by show nI k + 1 = _; exact nI_1 _) (by decide) rfl (fun ls hl => ?_)
        refine lv_goto (tgt := 2) hx hb dWy_takeOwnOrder_20 (by decide) ?_
        exact ih (k + 1) _ _ _ (by omega) (by omega) (by rw [← mw_own_s]; exact hW) hS (lv_sub hl [1, 2, 0] rfl)
  exact loop (hc + 1) 0 _ _ _ (by omega) (Nat.zero_le _) (dq_Wc (by rw [mw_own_0, dq_Uid y26]) hW) hS (lv_sub hl [1, 2, 0] rfl)
set_option maxHeartbeats 4000000 in
set_option maxRecDepth 100000 in
/-- Way.measure -/
theorem c_Way_measure (l : Launch) (D : va_G) (g : Nat → ClassId) (ad : Nat → Nat) (w : Nat → Option va_E) (sz : Nat) (hX hY : Nat → Int32) (hc : Nat) (wl : Int64) (sq sh : Nat → Int32) (sl : Nat) (sN : Nat → Nat) (t18 : w 18 = some (.inr (2, [.ref (ad 19), .ref (ad 20), .ref (ad 21), .ref (ad 22), .int (nI hc)]))) (t19 : w 19 = some (.inl (g 0, 14, .inl hX))) (t20 : w 20 = some (.inl (g 0, 14, .inl hY))) (y25 : w 25 = some (.inr (6, [.ref (ad 26), .long wl, .ref (ad 27)]))) (y26 : w 26 = some (.inl (g 0, 14, .inl sq))) (hc14 : hc ≤ 14) (hsq : ∀ i, i < hc → sq i = nI (sN i) ∧ sN i < 14) : Met l yWy_measure wsWy_measure ({ frames := 2, cells := 0, slots := 0, locals := 50 } : Room) (va_Pc [.ref (ad 25), .ref (ad 18)] (dq_S D vwCl (dq_t g) ad w sz)) (va_Qv (fun u => u = dq_U w 25 (.inr (6, [.ref (ad 26), .long (mw_len hX hY sN hc).1, .ref (ad 27)]))) (dq_B D vwCl (dq_t g) ad (dq_A ad w sz)) (dq_A ad w sz)) 0 0 (dq_A ad w sz) := by
  refine dq_ofv (cc := cWy_measure) (maxL := 6) (by decide) rfl (Nat.le_of_ble_eq_true rfl) ?_
  intro p e s m below meth c A Q ls ⟨hx, hb, hml, hown, hts⟩ hnm hA hW hK hZ hl hret
  have hS : va_S A s.heap s.heap [] := va_S.rf
  have hl : lv_has ls 6 [(0, .ref (ad 25)), (1, .ref (ad 18))] := hl
  have hf9 := hts _ (List.mem_cons_of_mem _ tw1_202)
  have hf18 := hts _ (List.mem_cons_of_mem _ tw1_173)
  have hf41 := hts _ (List.mem_cons_of_mem _ tw1_163)
  have hf44 := hts _ (List.mem_cons_of_mem _ tw1_166)
  have hf59 := hts _ (List.mem_cons_of_mem _ tw1_204)
  have hinHt : ∀ w ∈ u_ws RHt THt 5, w ∈ wsWy_measure := fun w h => List.mem_cons_of_mem _ (inHt w h)
  have hinWy : ∀ w ∈ u_ws RWy TWy 3, w ∈ wsWy_measure := fun w h => List.mem_cons_of_mem _ (inWy w h)
  refine lv_aload_n hx hb dWy_measure_0 rfl (lv_at hl 0 rfl) ?_
  refine lv_lconst (v := 0) hx hb dWy_measure_1 (by decide) ?_
  refine dq_put (D := D) (ci := 6) (v := .long 0) (ty := .long) (C := RWy) (T := TWy) (N := 3) hx hb hts hinWy tyWy tyWy_ok nmWy hown hK hW hS 25 y25 rfl 1 (by decide) hf59 (fun _ h9 => h9) rfl (by decide +kernel) rfl rfl (Nat.le_of_ble_eq_true rfl) dWy_measure_2 (fun H locs hW hS => ?_)
  refine lv_iconst (v := (0)) hx hb dWy_measure_5 (by decide) ?_
  refine lv_istore_n (lv' := [(2, .int (0)), (0, .ref (ad 25)), (1, .ref (ad 18))]) hx hb dWy_measure_6 rfl hl (by decide) rfl (fun ls hl => ?_)
  refine lv_iconst (v := (0)) hx hb dWy_measure_7 (by decide) ?_
  refine lv_istore_n (lv' := [(3, .int (0)), (2, .int (0)), (0, .ref (ad 25)), (1, .ref (ad 18))]) hx hb dWy_measure_8 rfl hl (by decide) rfl (fun ls hl => ?_)
  refine lv_iconst (v := (nI 0)) hx hb dWy_measure_9 (by decide) ?_
  refine lv_istore (lv' := [(4, .int (nI 0)), (3, .int (0)), (2, .int (0)), (0, .ref (ad 25)), (1, .ref (ad 18))]) hx hb dWy_measure_10 hl (by decide) rfl (fun ls hl => ?_)
  have loop : ∀ (j : Nat) (k : Nat) (H : Heap) (locs : List Loc) (ls : Array Slot), hc < k + j → k ≤ hc → dq_W D vwCl ad (dq_U w 25 (.inr (6, [.ref (ad 26), .long (mw_len hX hY sN k).1, .ref (ad 27)]))) A H → va_S A s.heap H locs → lv_has ls 6 [(0, .ref (ad 25)), (1, .ref (ad 18)), (2, .int (mw_len hX hY sN k).2.1), (3, .int (mw_len hX hY sN k).2.2), (4, .int (nI k))] → W p l e ({ frames := 2, cells := 0, slots := 0, locals := 50 } : Room) s m ([.ref (ad 25), .ref (ad 18)] : List Value).toArray below meth c H locs 0 0 Q (F0 m 12 ls []) := by
    intro j
    induction j with
    | zero => intro k H locs ls hj hk hW hS hl; exact absurd hj (by omega)
    | succ j ih =>
      intro k H locs ls hj hk hW hS hl
      refine lv_iload hx hb dWy_measure_12 (lv_at hl 4 rfl) ?_
      refine lv_aload_n hx hb dWy_measure_14 rfl (lv_at hl 1 rfl) ?_
      refine dq_get (D := D) (ci := 2) (v := .int (nI hc)) (C := RHt) (T := THt) (N := 5) hx hb hts hinHt hown hK hW 18 ((dq_Un (by decide)).trans t18) rfl 4 (by decide) hf18 (fun _ h9 => h9) rfl dWy_measure_15 ?_
      refine lv_icmp_ge (tgt := 70) hx hb dWy_measure_18 (by decide) (fun c1 => ?_) (fun c1 => ?_)
      · have hkn : hc = k := by have q9 := (nI_leI (by omega) (by omega)).mp c1; omega
        subst hkn
        exact hret _ _ _ _ _ rfl hW hS dWy_measure_70
      · have hkn : k < hc := by rcases Nat.lt_or_ge k hc with q | q; exact q; exact absurd (nI_le q (by omega)) c1
        obtain ⟨hs1, hs2⟩ := hsq k hkn
        refine lv_aload_n hx hb dWy_measure_21 rfl (lv_at hl 0 rfl) ?_
        refine dq_get (D := D) (ci := 6) (v := .ref (ad 26)) (C := RWy) (T := TWy) (N := 3) hx hb hts hinWy hown hK hW 25 dq_Us rfl 0 (by decide) hf9 (fun _ h9 => h9) rfl dWy_measure_22 ?_
        refine lv_iload hx hb dWy_measure_25 (lv_at hl 4 rfl) ?_
        refine dq_ialdN hx hb hK hW 26 0 ((dq_Un (by decide)).trans y26) rfl k (by omega) (by omega) dWy_measure_27 ?_
        refine dq_top (y := nI (sN k)) hs1 ?_
        refine lv_istore (lv' := [(5, .int (nI (sN k))), (0, .ref (ad 25)), (1, .ref (ad 18)), (2, .int (mw_len hX hY sN k).2.1), (3, .int (mw_len hX hY sN k).2.2), (4, .int (nI k))]) hx hb dWy_measure_28 hl (by decide) rfl (fun ls hl => ?_)
        refine lv_aload_n hx hb dWy_measure_30 rfl (lv_at hl 1 rfl) ?_
        refine lv_dup hx hb dWy_measure_31 rfl ?_
        refine dq_get (D := D) (ci := 6) (v := .long (mw_len hX hY sN k).1) (C := RWy) (T := TWy) (N := 3) hx hb hts hinWy hown hK hW 25 dq_Us rfl 1 (by decide) hf59 (fun _ h9 => h9) rfl dWy_measure_32 ?_
        refine lv_aload_n hx hb dWy_measure_35 rfl (lv_at hl 2 rfl) ?_
        refine lv_iload hx hb dWy_measure_36 (lv_at hl 0 rfl) ?_
        refine lv_iload_n hx hb dWy_measure_38 rfl (lv_at hl 3 rfl) ?_
        refine lv_iload_n hx hb dWy_measure_39 rfl (lv_at hl 4 rfl) ?_
        refine dq_calli (va_runS (As := [.ref (ad 18), .int (nI (sN k)), .int (mw_len hX hY sN k).2.1, .int (mw_len hX hY sN k).2.2]) (rest := [.long (mw_len hX hY sN k).1, .ref (ad 25)]) ⟨hx, hb, hml, hown, hts⟩ (c_Way_distance l D g ad (dq_U w 25 (.inr (6, [.ref (ad 26), .long (mw_len hX hY sN k).1, .ref (ad 27)]))) _ hX hY hc (sN k) ((mw_len hX hY sN k).2.1) ((mw_len hX hY sN k).2.2) ((dq_Un (by decide)).trans t18) ((dq_Un (by decide)).trans t19) ((dq_Un (by decide)).trans t20) hs2) (cwS 4 hts (dq_giS2 tw2_95 tw2_96 tw1_9 tw2_97) rfl rfl rfl (by decide +kernel) ⟨Nat.le_of_ble_eq_true rfl, Nat.le_of_ble_eq_true rfl⟩) (dq_preS hW hS hA hK hZ) rfl rfl hl.1 rfl (lv_room (Nat.le_of_ble_eq_true rfl)) dWy_measure_40 ⟨Nat.zero_le _, Nat.zero_le _⟩) hW hS hA (fun r1 u_9 H locs hp1 hW hS hz9 => ?_)
        obtain ⟨hr1, hu9⟩ := hp1
        rw [hu9] at hW
        subst hr1
        refine lv_i2l hx hb dWy_measure_43 rfl ?_
        refine lv_ladd hx hb dWy_measure_44 ?_
        refine dq_put (D := D) (ci := 6) (v := .long ((mw_len hX hY sN k).1 + ((mw_d hX hY (sN k) (mw_len hX hY sN k).2.1 (mw_len hX hY sN k).2.2)).toInt64)) (ty := .long) (C := RWy) (T := TWy) (N := 3) hx hb hts hinWy tyWy tyWy_ok nmWy hown hK hW hS 25 dq_Us rfl 1 (by decide) hf59 (fun _ h9 => h9) rfl (by decide +kernel) rfl rfl (Nat.le_of_ble_eq_true rfl) dWy_measure_45 (fun H locs hW hS => ?_)
        rw [dq_UU] at hW
        refine lv_aload_n hx hb dWy_measure_48 rfl (lv_at hl 2 rfl) ?_
        refine dq_get (D := D) (ci := 2) (v := .ref (ad 19)) (C := RHt) (T := THt) (N := 5) hx hb hts hinHt hown hK hW 18 ((dq_Un (by decide)).trans t18) rfl 0 (by decide) hf41 (fun _ h9 => h9) rfl dWy_measure_49 ?_
        refine lv_iload hx hb dWy_measure_52 (lv_at hl 0 rfl) ?_
        refine dq_ialdN hx hb hK hW 19 0 ((dq_Un (by decide)).trans t19) rfl (sN k) (by omega) (by omega) dWy_measure_54 ?_
        refine lv_istore_n (lv' := [(2, .int (hX (sN k))), (5, .int (nI (sN k))), (0, .ref (ad 25)), (1, .ref (ad 18)), (3, .int (mw_len hX hY sN k).2.2), (4, .int (nI k))]) hx hb dWy_measure_55 rfl hl (by decide) rfl (fun ls hl => ?_)
        refine lv_aload_n hx hb dWy_measure_56 rfl (lv_at hl 3 rfl) ?_
        refine dq_get (D := D) (ci := 2) (v := .ref (ad 20)) (C := RHt) (T := THt) (N := 5) hx hb hts hinHt hown hK hW 18 ((dq_Un (by decide)).trans t18) rfl 1 (by decide) hf44 (fun _ h9 => h9) rfl dWy_measure_57 ?_
        refine lv_iload hx hb dWy_measure_60 (lv_at hl 1 rfl) ?_
        refine dq_ialdN hx hb hK hW 20 0 ((dq_Un (by decide)).trans t20) rfl (sN k) (by omega) (by omega) dWy_measure_62 ?_
        refine lv_istore_n (lv' := [(3, .int (hY (sN k))), (2, .int (hX (sN k))), (5, .int (nI (sN k))), (0, .ref (ad 25)), (1, .ref (ad 18)), (4, .int (nI k))]) hx hb dWy_measure_63 rfl hl (by decide) rfl (fun ls hl => ?_)
        refine lv_iinc (v := (nI (k + 1))) (lv' := [(4, .int (nI (k + 1))), (3, .int (hY (sN k))), (2, .int (hX (sN k))), (5, .int (nI (sN k))), (0, .ref (ad 25)), (1, .ref (ad 18))]) hx hb dWy_measure_64 hl (k := 5) rfl (by show nI k + 1 = _; exact nI_1 _) (by decide) rfl (fun ls hl => ?_)
        refine lv_goto (tgt := 12) hx hb dWy_measure_67 (by decide) ?_
        exact ih (k + 1) _ _ _ (by omega) (by omega) hW hS (lv_sub hl [4, 5, 2, 1, 0] rfl)
  exact loop (hc + 1) 0 _ _ _ (by omega) (Nat.zero_le _) hW hS (lv_sub hl [3, 4, 2, 1, 0] rfl)
