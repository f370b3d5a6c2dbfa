/-! MIRRORS of the table -/
/-- the fewest behind a hit, over the first places -/
def mt_aft (fw : Nat → Int32) (DN : Nat → Nat) (S : Nat) : Nat → Int32
  | 0 => 14
  | p + 1 => if fw (dq_df S (DN p)) < mt_aft fw DN S p then fw (dq_df S (DN p)) else mt_aft fw DN S p
def mt_z (fw : Nat → Int32) (k : Nat) : Nat → Int32 := fun j => if j < k then 0 else fw j
theorem mt_z_0 (fw : Nat → Int32) : mt_z fw 0 = fw := by
  funext j
  unfold mt_z
  rw [if_neg (by omega)]
theorem mt_z_s (fw : Nat → Int32) (k : Nat) : upd (mt_z fw k) k 0 = mt_z fw (k + 1) := by
  funext j
  by_cases h : j = k
  · subst h
    rw [pk_us]
    unfold mt_z
    rw [if_pos (by omega)]
  · rw [pk_un h]
    unfold mt_z
    by_cases h2 : j < k
    · rw [if_pos h2, if_pos (by omega)]
    · rw [if_neg h2, if_neg (by omega)]
def mt_row (f : Nat → Int32) (DN : Nat → Nat) (S : Nat) : Nat → Nat → Int32
  | 0 => f
  | p + 1 => upd (mt_row f DN S p) (dq_df S (DN p)) (-1)
def mt_st (f : Nat → Int32) (DN : Nat → Nat → Nat) (qs : Nat → Nat) (S : Nat) : Nat → Int32 := if f S = -1 then mt_row f (DN (dq_lo S)) S (qs (dq_lo S)) else f
/-- the marks, M .. M - c + 1 done -/
def mt_mk (f : Nat → Int32) (DN : Nat → Nat → Nat) (qs : Nat → Nat) (M : Nat) : Nat → Nat → Int32
  | 0 => f
  | c + 1 => mt_st (mt_mk f DN qs M c) DN qs (M - c)
def mt_m0 (fw : Nat → Int32) (M : Nat) : Nat → Int32 := upd (mt_z fw M) M (-1)
/-- the table, sets below c + 1 done -/
def mt_fl (f : Nat → Int32) (DN : Nat → Nat → Nat) (qs : Nat → Nat) : Nat → Nat → Int32
  | 0 => upd f 0 0
  | c + 1 => if mt_fl f DN qs c (c + 1) = -1 then upd (mt_fl f DN qs c) (c + 1) (1 + mt_aft (mt_fl f DN qs c) (DN (dq_lo (c + 1))) (c + 1) (qs (dq_lo (c + 1)))) else mt_fl f DN qs c
def mt_fill (fw : Nat → Int32) (DN : Nat → Nat → Nat) (qs : Nat → Nat) (M : Nat) : Nat → Int32 := mt_fl (mt_mk (mt_m0 fw M) DN qs M M) DN qs M
/-- the first place with which the fewest are enough, or 0 -/
def mt_first (fw : Nat → Int32) (DN : Nat → Nat) (S q : Nat) : Int32 := if dq_fn (fun p => decide (fw (dq_df S (DN p)) = mt_aft fw DN S q)) q < q then nI (dq_fn (fun p => decide (fw (dq_df S (DN p)) = mt_aft fw DN S q)) q) else 0
set_option maxHeartbeats 4000000 in
set_option maxRecDepth 100000 in
/-- Table.fewestAfterHit -/
theorem c_Table_after (l : Launch) (D : va_G) (g : Nat → ClassId) (ad : Nat → Nat) (w : Nat → Option va_E) (sz : Nat) (len : Nat) (fw : Nat → Int32) (h q S : Nat) (Dr : Nat → Int32) (DN : Nat → Nat) (b23 : w 23 = some (.inr (5, [.ref (ad 24)]))) (b24 : w 24 = some (.inl (g 0, len, .inl fw))) (l0 : w (30 + 4 * h) = some (.inr (4, [.ref (ad (31 + 4 * h)), .ref (ad (32 + 4 * h)), .ref (ad (33 + 4 * h)), .int (nI q)]))) (l3 : w (33 + 4 * h) = some (.inl (g 0, 16, .inl Dr))) (hSl : S < len) (hln : len ≤ 16384) (hq : q ≤ 16) (hD : ∀ p, p < q → Dr p = nI (DN p)) : Met l yTb_fewestAfterHit wsTb_fewestAfterHit ({ frames := 1, cells := 0, slots := 0, locals := 24 } : Room) (va_Pc [.ref (ad 23), .ref (ad (30 + 4 * h)), .int (nI S)] (dq_S D vwCl (dq_t g) ad w sz)) (va_Qi (fun r u => r = mt_aft fw DN S q ∧ u = w) (dq_B D vwCl (dq_t g) ad (dq_A ad w sz)) (dq_A ad w sz)) 0 0 (dq_A ad w sz) := by
  refine dq_ofi (cc := cTb_fewestAfterHit) (maxL := 5) (by decide) rfl (Nat.le_of_ble_eq_true rfl) ?_
  intro p e s m below meth c A Q ls ⟨hx, hb, hml, hown, hts⟩ hnm hA hW hK hZ hl hret
  have hS : va_S A s.heap s.heap [] := va_S.rf
  have hl : lv_has ls 5 [(0, .ref (ad 23)), (1, .ref (ad (30 + 4 * h))), (2, .int (nI S))] := hl
  have hf9 := hts _ (List.mem_cons_of_mem _ tw1_192)
  have hf27 := hts _ (List.mem_cons_of_mem _ tw1_145)
  have hf33 := hts _ (List.mem_cons_of_mem _ tw1_142)
  have hinPl : ∀ w ∈ u_ws RPl TPl 4, w ∈ wsTb_fewestAfterHit := fun w h => List.mem_cons_of_mem _ (inPl w h)
  have hinTb : ∀ w ∈ u_ws RTb TTb 1, w ∈ wsTb_fewestAfterHit := fun w h => List.mem_cons_of_mem _ (inTb w h)
  refine lv_bipush (v := (14)) hx hb dTb_fewestAfterHit_0 (by decide) ?_
  refine lv_istore_n (lv' := [(3, .int (14)), (0, .ref (ad 23)), (1, .ref (ad (30 + 4 * h))), (2, .int (nI S))]) hx hb dTb_fewestAfterHit_2 rfl hl (by decide) rfl (fun ls hl => ?_)
  refine lv_iconst (v := (nI 0)) hx hb dTb_fewestAfterHit_3 (by decide) ?_
  refine lv_istore (lv' := [(4, .int (nI 0)), (3, .int (14)), (0, .ref (ad 23)), (1, .ref (ad (30 + 4 * h))), (2, .int (nI S))]) hx hb dTb_fewestAfterHit_4 hl (by decide) rfl (fun ls hl => ?_)
  have loop : ∀ (j : Nat) (k : Nat) (ls : Array Slot), q < k + j → k ≤ q → lv_has ls 5 [(0, .ref (ad 23)), (1, .ref (ad (30 + 4 * h))), (2, .int (nI S)), (3, .int (mt_aft fw DN S k)), (4, .int (nI k))] → W p l e ({ frames := 1, cells := 0, slots := 0, locals := 24 } : Room) s m ([.ref (ad 23), .ref (ad (30 + 4 * h)), .int (nI S)] : List Value).toArray below meth c s.heap [] 0 0 Q (F0 m 6 ls []) := by
    intro j
    induction j with
    | zero => intro k ls hj hk  hl; exact absurd hj (by omega)
    | succ j ih =>
      intro k ls hj hk  hl
      refine lv_iload hx hb dTb_fewestAfterHit_6 (lv_at hl 4 rfl) ?_
      refine lv_aload_n hx hb dTb_fewestAfterHit_8 rfl (lv_at hl 1 rfl) ?_
      refine dq_get (D := D) (ci := 4) (v := .int (nI q)) (C := RPl) (T := TPl) (N := 4) hx hb hts hinPl hown hK hW (30 + 4 * h) l0 rfl 3 (by decide) hf27 (fun _ h9 => h9) rfl dTb_fewestAfterHit_9 ?_
      refine lv_icmp_ge (tgt := 42) hx hb dTb_fewestAfterHit_12 (by decide) (fun c1 => ?_) (fun c1 => ?_)
      · have hkn : k = q := by have q := (nI_leI (by omega) (by omega)).mp c1; omega
        refine lv_iload_n hx hb dTb_fewestAfterHit_42 rfl (lv_at hl 3 rfl) ?_
        exact hret _ _ _ _ _ _ ⟨by rw [hkn], rfl⟩ hW hS dTb_fewestAfterHit_43
      · have hkn : k < q := by rcases Nat.lt_or_ge k q with q | q; exact q; exact absurd (nI_le q (by omega)) c1
        refine lv_iload_n hx hb dTb_fewestAfterHit_15 rfl (lv_at hl 3 rfl) ?_
        refine lv_aload_n hx hb dTb_fewestAfterHit_16 rfl (lv_at hl 0 rfl) ?_
        refine dq_get (D := D) (ci := 5) (v := .ref (ad 24)) (C := RTb) (T := TTb) (N := 1) hx hb hts hinTb hown hK hW 23 b23 rfl 0 (by decide) hf9 (fun _ h9 => h9) rfl dTb_fewestAfterHit_17 ?_
        refine lv_iload_n hx hb dTb_fewestAfterHit_20 rfl (lv_at hl 2 rfl) ?_
        refine lv_aload_n hx hb dTb_fewestAfterHit_21 rfl (lv_at hl 1 rfl) ?_
        refine dq_get (D := D) (ci := 4) (v := .ref (ad (33 + 4 * h))) (C := RPl) (T := TPl) (N := 4) hx hb hts hinPl hown hK hW (30 + 4 * h) l0 rfl 2 (by decide) hf33 (fun _ h9 => h9) rfl dTb_fewestAfterHit_22 ?_
        refine lv_iload hx hb dTb_fewestAfterHit_25 (lv_at hl 4 rfl) ?_
        refine dq_ialdN hx hb hK hW (33 + 4 * h) 0 l3 rfl k (by omega) (by omega) dTb_fewestAfterHit_27 ?_
        refine dq_top (y := nI (DN k)) (hD k hkn) ?_
        refine lv_iconst (v := (-1)) hx hb dTb_fewestAfterHit_28 (by decide) ?_
        refine lv_ixor hx hb dTb_fewestAfterHit_29 ?_
        refine lv_iand hx hb dTb_fewestAfterHit_30 ?_
        refine dq_top (y := nI (dq_df S (DN k))) (dq_dfI _ _) ?_
        refine dq_ialdN hx hb hK hW 24 0 b24 rfl (dq_df S (DN k)) (Nat.lt_of_le_of_lt (dq_df_le _ _) hSl) (by omega) dTb_fewestAfterHit_31 ?_
        refine va_mmin hx hb (by rw [hml]; exact hl.1.symm) hown (hts _ (List.mem_cons_of_mem _ tw2_66)) (hts _ (List.mem_cons_of_mem _ tw1_29)) (hts _ (List.mem_cons_of_mem _ tw1_3)) (hts _ (List.mem_cons_of_mem _ tw1_30)) (Nat.le_of_ble_eq_true rfl) (Nat.le_of_ble_eq_true rfl) (Nat.zero_le _) (Nat.zero_le _) dTb_fewestAfterHit_32 ?_
        refine lv_istore_n (lv' := [(3, .int (if (fw (dq_df S (DN k))) < (mt_aft fw DN S k) then (fw (dq_df S (DN k))) else (mt_aft fw DN S k))), (0, .ref (ad 23)), (1, .ref (ad (30 + 4 * h))), (2, .int (nI S)), (4, .int (nI k))]) hx hb dTb_fewestAfterHit_35 rfl hl (by decide) rfl (fun ls hl => ?_)
        refine lv_iinc (v := (nI (k + 1))) (lv' := [(4, .int (nI (k + 1))), (3, .int (if (fw (dq_df S (DN k))) < (mt_aft fw DN S k) then (fw (dq_df S (DN k))) else (mt_aft fw DN S k))), (0, .ref (ad 23)), (1, .ref (ad (30 + 4 * h))), (2, .int (nI S))]) hx hb dTb_fewestAfterHit_36 hl (k := 4) rfl (by show nI k + 1 = _; exact nI_1 _) (by decide) rfl (fun ls hl => ?_)
        refine lv_goto (tgt := 6) hx hb dTb_fewestAfterHit_39 (by decide) ?_
        exact ih (k + 1) _ (by omega) (by omega)  (lv_sub hl [2, 3, 4, 1, 0] rfl)
  exact loop (q + 1) 0 _ (by omega) (Nat.zero_le _)  (lv_sub hl [2, 3, 4, 1, 0] rfl)
set_option maxHeartbeats 4000000 in
set_option maxRecDepth 100000 in
/-- Table.firstBest -/
theorem c_Table_firstBest (l : Launch) (D : va_G) (g : Nat → ClassId) (ad : Nat → Nat) (w : Nat → Option va_E) (sz : Nat) (len : Nat) (fw : Nat → Int32) (h q S : Nat) (Dr : Nat → Int32) (DN : Nat → Nat) (b23 : w 23 = some (.inr (5, [.ref (ad 24)]))) (b24 : w 24 = some (.inl (g 0, len, .inl fw))) (l0 : w (30 + 4 * h) = some (.inr (4, [.ref (ad (31 + 4 * h)), .ref (ad (32 + 4 * h)), .ref (ad (33 + 4 * h)), .int (nI q)]))) (l3 : w (33 + 4 * h) = some (.inl (g 0, 16, .inl Dr))) (hSl : S < len) (hln : len ≤ 16384) (hq : q ≤ 16) (hD : ∀ p, p < q → Dr p = nI (DN p)) : Met l yTb_firstBest wsTb_firstBest ({ frames := 2, cells := 0, slots := 0, locals := 50 } : Room) (va_Pc [.ref (ad 23), .ref (ad (30 + 4 * h)), .int (nI S)] (dq_S D vwCl (dq_t g) ad w sz)) (va_Qi (fun r u => r = mt_first fw DN S q ∧ u = w) (dq_B D vwCl (dq_t g) ad (dq_A ad w sz)) (dq_A ad w sz)) 0 0 (dq_A ad w sz) := by
  refine dq_ofi (cc := cTb_firstBest) (maxL := 5) (by decide) rfl (Nat.le_of_ble_eq_true rfl) ?_
  intro p e s m below meth c A Q ls ⟨hx, hb, hml, hown, hts⟩ hnm hA hW hK hZ hl hret
  have hS : va_S A s.heap s.heap [] := va_S.rf
  have hl : lv_has ls 5 [(0, .ref (ad 23)), (1, .ref (ad (30 + 4 * h))), (2, .int (nI S))] := hl
  have hf9 := hts _ (List.mem_cons_of_mem _ tw1_192)
  have hf27 := hts _ (List.mem_cons_of_mem _ tw1_145)
  have hf33 := hts _ (List.mem_cons_of_mem _ tw1_142)
  have hinPl : ∀ w ∈ u_ws RPl TPl 4, w ∈ wsTb_firstBest := fun w h => List.mem_cons_of_mem _ (inPl w h)
  have hinTb : ∀ w ∈ u_ws RTb TTb 1, w ∈ wsTb_firstBest := fun w h => List.mem_cons_of_mem _ (inTb w h)
  refine lv_aload_n hx hb dTb_firstBest_0 rfl (lv_at hl 0 rfl) ?_
  refine lv_aload_n hx hb dTb_firstBest_1 rfl (lv_at hl 1 rfl) ?_
  refine lv_iload_n hx hb dTb_firstBest_2 rfl (lv_at hl 2 rfl) ?_
  refine dq_calli (va_runV (As := [.ref (ad (30 + 4 * h)), .int (nI S)]) (rest := []) ⟨hx, hb, hml, hown, hts⟩ (c_Table_after l D g ad (w) _ len fw h q S Dr DN b23 b24 l0 l3 hSl hln hq hD) (cwV 2 hts (dq_giV tw2_62 tw2_64 twp_4 tw1_8 tw2_65) rfl rfl rfl (by decide +kernel) ⟨Nat.le_of_ble_eq_true rfl, Nat.le_of_ble_eq_true rfl⟩) (dq_preV (ci := 5) hW hS hA hK hZ b23 rfl rfl) rfl rfl hl.1 rfl (lv_room (Nat.le_of_ble_eq_true rfl)) dTb_firstBest_3 ⟨Nat.zero_le _, Nat.zero_le _⟩) hW hS hA (fun r1 u_9 H locs hp1 hW hS hz9 => ?_)
  obtain ⟨hr1, hu9⟩ := hp1
  rw [hu9] at hW
  subst hr1
  refine lv_istore_n (lv' := [(3, .int (mt_aft fw DN S q)), (0, .ref (ad 23)), (1, .ref (ad (30 + 4 * h))), (2, .int (nI S))]) hx hb dTb_firstBest_6 rfl hl (by decide) rfl (fun ls hl => ?_)
  refine lv_iconst (v := (nI 0)) hx hb dTb_firstBest_7 (by decide) ?_
  refine lv_istore (lv' := [(4, .int (nI 0)), (3, .int (mt_aft fw DN S q)), (0, .ref (ad 23)), (1, .ref (ad (30 + 4 * h))), (2, .int (nI S))]) hx hb dTb_firstBest_8 hl (by decide) rfl (fun ls hl => ?_)
  have loop : ∀ (j : Nat) (k : Nat) (ls : Array Slot), q < k + j → k ≤ q → (∀ i, i < k → (fun p => decide (fw (dq_df S (DN p)) = mt_aft fw DN S q)) i = false) → lv_has ls 5 [(0, .ref (ad 23)), (1, .ref (ad (30 + 4 * h))), (2, .int (nI S)), (3, .int (mt_aft fw DN S q)), (4, .int (nI k))] → W p l e ({ frames := 2, cells := 0, slots := 0, locals := 50 } : Room) s m ([.ref (ad 23), .ref (ad (30 + 4 * h)), .int (nI S)] : List Value).toArray below meth c H locs 0 0 Q (F0 m 10 ls []) := by
    intro j
    induction j with
    | zero => intro k ls hj hk hb9  hl; exact absurd hj (by omega)
    | succ j ih =>
      intro k ls hj hk hb9  hl
      refine lv_iload hx hb dTb_firstBest_10 (lv_at hl 4 rfl) ?_
      refine lv_aload_n hx hb dTb_firstBest_12 rfl (lv_at hl 1 rfl) ?_
      refine dq_get (D := D) (ci := 4) (v := .int (nI q)) (C := RPl) (T := TPl) (N := 4) hx hb hts hinPl hown hK hW (30 + 4 * h) l0 rfl 3 (by decide) hf27 (fun _ h9 => h9) rfl dTb_firstBest_13 ?_
      refine lv_icmp_ge (tgt := 48) hx hb dTb_firstBest_16 (by decide) (fun c1 => ?_) (fun c1 => ?_)
      · have hkn : k = q := by have q := (nI_leI (by omega) (by omega)).mp c1; omega
        refine lv_iconst (v := (0)) hx hb dTb_firstBest_48 (by decide) ?_
        have e1 : dq_fn (fun p => decide (fw (dq_df S (DN p)) = mt_aft fw DN S q)) q = q := dq_fn_eq (Nat.le_refl q) (fun i hi => hb9 i (by omega)) (fun h9 => absurd h9 (by omega))
        exact hret _ _ _ _ _ _ ⟨by unfold mt_first; rw [e1, if_neg (by omega)], rfl⟩ hW hS dTb_firstBest_49
      · have hkn : k < q := by rcases Nat.lt_or_ge k q with q | q; exact q; exact absurd (nI_le q (by omega)) c1
        refine lv_aload_n hx hb dTb_firstBest_19 rfl (lv_at hl 0 rfl) ?_
        refine dq_get (D := D) (ci := 5) (v := .ref (ad 24)) (C := RTb) (T := TTb) (N := 1) hx hb hts hinTb hown hK hW 23 b23 rfl 0 (by decide) hf9 (fun _ h9 => h9) rfl dTb_firstBest_20 ?_
        refine lv_iload_n hx hb dTb_firstBest_23 rfl (lv_at hl 2 rfl) ?_
        refine lv_aload_n hx hb dTb_firstBest_24 rfl (lv_at hl 1 rfl) ?_
        refine dq_get (D := D) (ci := 4) (v := .ref (ad (33 + 4 * h))) (C := RPl) (T := TPl) (N := 4) hx hb hts hinPl hown hK hW (30 + 4 * h) l0 rfl 2 (by decide) hf33 (fun _ h9 => h9) rfl dTb_firstBest_25 ?_
        refine lv_iload hx hb dTb_firstBest_28 (lv_at hl 4 rfl) ?_
        refine dq_ialdN hx hb hK hW (33 + 4 * h) 0 l3 rfl k (by omega) (by omega) dTb_firstBest_30 ?_
        refine dq_top (y := nI (DN k)) (hD k hkn) ?_
        refine lv_iconst (v := (-1)) hx hb dTb_firstBest_31 (by decide) ?_
        refine lv_ixor hx hb dTb_firstBest_32 ?_
        refine lv_iand hx hb dTb_firstBest_33 ?_
        refine dq_top (y := nI (dq_df S (DN k))) (dq_dfI _ _) ?_
        refine dq_ialdN hx hb hK hW 24 0 b24 rfl (dq_df S (DN k)) (Nat.lt_of_le_of_lt (dq_df_le _ _) hSl) (by omega) dTb_firstBest_34 ?_
        refine lv_iload_n hx hb dTb_firstBest_35 rfl (lv_at hl 3 rfl) ?_
        refine lv_icmp_ne (tgt := 42) hx hb dTb_firstBest_36 (by decide) (fun c2 => ?_) (fun c2 => ?_)
        · refine lv_iinc (v := (nI (k + 1))) (lv' := [(4, .int (nI (k + 1))), (0, .ref (ad 23)), (1, .ref (ad (30 + 4 * h))), (2, .int (nI S)), (3, .int (mt_aft fw DN S q))]) hx hb dTb_firstBest_42 hl (k := 4) rfl (by show nI k + 1 = _; exact nI_1 _) (by decide) rfl (fun ls hl => ?_)
          refine lv_goto (tgt := 10) hx hb dTb_firstBest_45 (by decide) ?_
          exact ih (k + 1) _ (by omega) (by omega) (lt_s hb9 (decide_eq_false c2))  (lv_sub hl [1, 2, 3, 4, 0] rfl)
        · refine lv_iload hx hb dTb_firstBest_39 (lv_at hl 4 rfl) ?_
          have e1 : dq_fn (fun p => decide (fw (dq_df S (DN p)) = mt_aft fw DN S q)) q = k := dq_fn_eq (by omega) hb9 (fun _ => decide_eq_true c2)
          exact hret _ _ _ _ _ _ ⟨by unfold mt_first; rw [e1, if_pos hkn], rfl⟩ hW hS dTb_firstBest_41
  exact loop (q + 1) 0 _ (by omega) (Nat.zero_le _) lt_0  (lv_sub hl [2, 3, 4, 1, 0] rfl)
set_option maxHeartbeats 4000000 in
set_option maxRecDepth 100000 in
/-- Table.markReached -/
theorem c_Table_mark (l : Launch) (D : va_G) (g : Nat → ClassId) (ad : Nat → Nat) (w : Nat → Option va_E) (sz : Nat) (len : Nat) (fw : Nat → Int32) (M : Nat) (qs : Nat → Nat) (DD : Nat → Nat → Int32) (DN : Nat → Nat → Nat) (b23 : w 23 = some (.inr (5, [.ref (ad 24)]))) (b24 : w 24 = some (.inl (g 0, len, .inl fw))) (a17 : w 17 = some (.inl (g 3, 14, .inr (.inr (.inr (.inr (fun h => some (ad (30 + 4 * h))))))))) (hMl : M < len) (hln : len ≤ 16384) (lp0 : ∀ h, h < 14 → w (30 + 4 * h) = some (.inr (4, [.ref (ad (31 + 4 * h)), .ref (ad (32 + 4 * h)), .ref (ad (33 + 4 * h)), .int (nI (qs h))]))) (lp3 : ∀ h, h < 14 → w (33 + 4 * h) = some (.inl (g 0, 16, .inl (DD h)))) (hq16 : ∀ h, h < 14 → qs h ≤ 16) (hDN : ∀ h, h < 14 → ∀ p, p < qs h → DD h p = nI (DN h p)) : Met l yTb_markReached wsTb_markReached ({ frames := 2, cells := 0, slots := 0, locals := 50 } : Room) (va_Pc [.ref (ad 23), .ref (ad 17), .int (nI M)] (dq_S D vwCl (dq_t g) ad w sz)) (va_Qv (fun u => u = dq_U w 24 (.inl (g 0, len, .inl (mt_mk (mt_m0 fw M) DN qs M M)))) (dq_B D vwCl (dq_t g) ad (dq_A ad w sz)) (dq_A ad w sz)) 0 0 (dq_A ad w sz) := by
  refine dq_ofv (cc := cTb_markReached) (maxL := 6) (by decide) rfl (Nat.le_of_ble_eq_true rfl) ?_
  intro p e s m below meth c A Q ls ⟨hx, hb, hml, hown, hts⟩ hnm hA hW hK hZ hl hret
  have hS : va_S A s.heap s.heap [] := va_S.rf
  have hl : lv_has ls 6 [(0, .ref (ad 23)), (1, .ref (ad 17)), (2, .int (nI M))] := hl
  have hf9 := hts _ (List.mem_cons_of_mem _ tw1_192)
  have hf27 := hts _ (List.mem_cons_of_mem _ tw1_145)
  have hf33 := hts _ (List.mem_cons_of_mem _ tw1_142)
  have hinPl : ∀ w ∈ u_ws RPl TPl 4, w ∈ wsTb_markReached := fun w h => List.mem_cons_of_mem _ (inPl w h)
  have hinTb : ∀ w ∈ u_ws RTb TTb 1, w ∈ wsTb_markReached := fun w h => List.mem_cons_of_mem _ (inTb w h)
  refine lv_iconst (v := (nI 0)) hx hb dTb_markReached_0 (by decide) ?_
  refine lv_istore_n (lv' := [(3, .int (nI 0)), (0, .ref (ad 23)), (1, .ref (ad 17)), (2, .int (nI M))]) hx hb dTb_markReached_1 rfl hl (by decide) rfl (fun ls hl => ?_)
  have loop2 : ∀ (j : Nat) (c9 : Nat) (H : Heap) (locs : List Loc) (ls : Array Slot), M < c9 + j → c9 ≤ M → dq_W D vwCl ad (dq_U w 24 (.inl (g 0, len, .inl (mt_mk (mt_m0 fw M) DN qs M c9)))) A H → va_S A s.heap H locs → lv_has ls 6 [(0, .ref (ad 23)), (1, .ref (ad 17)), (2, .int (nI M)), (3, .int (nI (M - c9)))] → W p l e ({ frames := 2, cells := 0, slots := 0, locals := 50 } : Room) s m ([.ref (ad 23), .ref (ad 17), .int (nI M)] : List Value).toArray below meth c H locs 0 0 Q (F0 m 29 ls []) := by
    intro j
    induction j with
    | zero => intro c9 H locs ls hj hcM hW hS hl; exact absurd hj (by omega)
    | succ j ih =>
      intro c9 H locs ls hj hcM hW hS hl
      refine lv_iload_n hx hb dTb_markReached_29 rfl (lv_at hl 3 rfl) ?_
      refine lv_if_le (tgt := 94) hx hb dTb_markReached_30 (by decide) (fun c2 => ?_) (fun c2 => ?_)
      · have hcm : c9 = M := by have q9 := (nI_leI (a := M - c9) (b := 0) (by omega) (by omega)).mp c2; omega
        exact hret _ _ _ _ _ (by rw [hcm]) hW hS dTb_markReached_94
      · have hcm : c9 < M := by rcases Nat.lt_or_ge c9 M with q9 | q9; exact q9; exact absurd (show nI (M - c9) ≤ 0 by rw [show M - c9 = 0 by omega]; decide) c2
        refine lv_aload_n hx hb dTb_markReached_33 rfl (lv_at hl 0 rfl) ?_
        refine dq_get (D := D) (ci := 5) (v := .ref (ad 24)) (C := RTb) (T := TTb) (N := 1) hx hb hts hinTb hown hK hW 23 ((dq_Un (by decide)).trans b23) rfl 0 (by decide) hf9 (fun _ h9 => h9) rfl dTb_markReached_34 ?_
        refine lv_iload_n hx hb dTb_markReached_37 rfl (lv_at hl 3 rfl) ?_
        refine dq_ialdN hx hb hK hW 24 0 dq_Us rfl (M - c9) (by omega) (by omega) dTb_markReached_38 ?_
        refine lv_iconst (v := (-1)) hx hb dTb_markReached_39 (by decide) ?_
        refine lv_icmp_ne (tgt := 88) hx hb dTb_markReached_40 (by decide) (fun c3 => ?_) (fun c3 => ?_)
        · have e5 : mt_mk (mt_m0 fw M) DN qs M (c9 + 1) = mt_mk (mt_m0 fw M) DN qs M c9 := if_neg c3
          refine lv_iinc (v := (nI (M - (c9 + 1)))) (lv' := [(3, .int (nI (M - (c9 + 1)))), (0, .ref (ad 23)), (1, .ref (ad 17)), (2, .int (nI M))]) hx hb dTb_markReached_88 hl (k := 3) rfl (by rw [show M - c9 = (M - (c9 + 1)) + 1 by omega]; exact pk_m1 _) (by decide) rfl (fun ls hl => ?_)
          refine lv_goto (tgt := 29) hx hb dTb_markReached_91 (by decide) ?_
          exact ih (c9 + 1) _ _ _ (by omega) (by omega) (by rw [e5]; exact hW) hS (lv_sub hl [1, 2, 3, 0] rfl)
        · obtain ⟨elo, hlo, -, -⟩ := dq_lo_l2 (S := M - c9) (by omega) (by omega)
          refine lv_aload_n hx hb dTb_markReached_43 rfl (lv_at hl 1 rfl) ?_
          refine lv_iload_n hx hb dTb_markReached_44 rfl (lv_at hl 3 rfl) ?_
          refine dq_calli (va_runSN (As := [.int (nI (M - c9))]) (rest := [.ref (ad 17)]) ⟨hx, hb, hml, hown, hts⟩ (c_leastOf l D g ad (dq_U w 24 (.inl (g 0, len, .inl (mt_mk (mt_m0 fw M) DN qs M c9)))) _ (M - c9)  (by omega) (by omega)) ⟨va_cnB 1 hts (dq_gi tw2_57) rfl rfl rfl (hZ.n6) (hts _ (List.mem_cons_of_mem _ tw1_1)) (by decide +kernel) ⟨Nat.le_of_ble_eq_true rfl, Nat.le_of_ble_eq_true rfl⟩, (hts _ (List.mem_cons_of_mem _ tw2_56)), trivial⟩ (dq_preS hW hS hA hK hZ) rfl rfl hl.1 rfl (lv_room (Nat.le_of_ble_eq_true rfl)) dTb_markReached_45 ⟨Nat.zero_le _, Nat.zero_le _⟩) hW hS hA (fun r1 u_9 H locs hp1 hW hS hz9 => ?_)
          obtain ⟨hr1, hu9⟩ := hp1
          rw [hu9] at hW
          subst hr1
          generalize hb0 : dq_lo (M - c9) = t at hlo
          refine dq_aaldN hx hb hK hW 17 3 ((dq_Un (by decide)).trans a17) rfl t (by omega) (by omega) (a := (ad (30 + 4 * t))) rfl dTb_markReached_48 ?_
          refine lv_astore (lv' := [(4, .ref (ad (30 + 4 * t))), (0, .ref (ad 23)), (1, .ref (ad 17)), (2, .int (nI M)), (3, .int (nI (M - c9)))]) hx hb dTb_markReached_49 hl (by decide) rfl (fun ls hl => ?_)
          refine lv_iconst (v := (nI 0)) hx hb dTb_markReached_51 (by decide) ?_
          refine lv_istore (lv' := [(5, .int (nI 0)), (4, .ref (ad (30 + 4 * t))), (0, .ref (ad 23)), (1, .ref (ad 17)), (2, .int (nI M)), (3, .int (nI (M - c9)))]) hx hb dTb_markReached_52 hl (by decide) rfl (fun ls hl => ?_)
          have hq9 := hq16 t hlo
          have loop3 : ∀ (j3 : Nat) (p9 : Nat) (H : Heap) (locs : List Loc) (ls : Array Slot), qs t < p9 + j3 → p9 ≤ qs t → dq_W D vwCl ad (dq_U w 24 (.inl (g 0, len, .inl (mt_row (mt_mk (mt_m0 fw M) DN qs M c9) (DN t) (M - c9) p9)))) A H → va_S A s.heap H locs → lv_has ls 6 [(0, .ref (ad 23)), (1, .ref (ad 17)), (2, .int (nI M)), (3, .int (nI (M - c9))), (4, .ref (ad (30 + 4 * t))), (5, .int (nI p9))] → W p l e ({ frames := 2, cells := 0, slots := 0, locals := 50 } : Room) s m ([.ref (ad 23), .ref (ad 17), .int (nI M)] : List Value).toArray below meth c H locs 0 0 Q (F0 m 54 ls []) := by
            intro j3
            induction j3 with
            | zero => intro p9 H locs ls hj3 hp9 hW hS hl; exact absurd hj3 (by omega)
            | succ j3 ih3 =>
              intro p9 H locs ls hj3 hp9 hW hS hl
              refine lv_iload hx hb dTb_markReached_54 (lv_at hl 5 rfl) ?_
              refine lv_aload hx hb dTb_markReached_56 (lv_at hl 4 rfl) ?_
              refine dq_get (D := D) (ci := 4) (v := .int (nI (qs t))) (C := RPl) (T := TPl) (N := 4) hx hb hts hinPl hown hK hW (30 + 4 * t) ((dq_Un (by omega)).trans (lp0 t hlo)) rfl 3 (by decide) hf27 (fun _ h9 => h9) rfl dTb_markReached_58 ?_
              refine lv_icmp_ge (tgt := 88) hx hb dTb_markReached_61 (by decide) (fun c4 => ?_) (fun c4 => ?_)
              · have hpn : qs t = p9 := by have q9 := (nI_leI (by have := hq16 t hlo; omega) (by omega)).mp c4; omega
                have e5 : mt_mk (mt_m0 fw M) DN qs M (c9 + 1) = mt_row (mt_mk (mt_m0 fw M) DN qs M c9) (DN t) (M - c9) p9 := by rw [← hpn, ← hb0]; exact if_pos c3
                refine lv_iinc (v := (nI (M - (c9 + 1)))) (lv' := [(3, .int (nI (M - (c9 + 1)))), (0, .ref (ad 23)), (1, .ref (ad 17)), (2, .int (nI M)), (4, .ref (ad (30 + 4 * t))), (5, .int (nI p9))]) hx hb dTb_markReached_88 hl (k := 3) rfl (by rw [show M - c9 = (M - (c9 + 1)) + 1 by omega]; exact pk_m1 _) (by decide) rfl (fun ls hl => ?_)
                refine lv_goto (tgt := 29) hx hb dTb_markReached_91 (by decide) ?_
                exact ih (c9 + 1) _ _ _ (by omega) (by omega) (by rw [e5]; exact hW) hS (lv_sub hl [1, 2, 3, 0] rfl)
              · have hq9 := hq16 t hlo
                have hpn : p9 < qs t := by rcases Nat.lt_or_ge p9 (qs t) with q9 | q9; exact q9; exact absurd (nI_le q9 (by omega)) c4
                refine lv_aload_n hx hb dTb_markReached_64 rfl (lv_at hl 0 rfl) ?_
                refine dq_get (D := D) (ci := 5) (v := .ref (ad 24)) (C := RTb) (T := TTb) (N := 1) hx hb hts hinTb hown hK hW 23 ((dq_Un (by decide)).trans b23) rfl 0 (by decide) hf9 (fun _ h9 => h9) rfl dTb_markReached_65 ?_
                refine lv_iload_n hx hb dTb_markReached_68 rfl (lv_at hl 3 rfl) ?_
                refine lv_aload hx hb dTb_markReached_69 (lv_at hl 4 rfl) ?_
                refine dq_get (D := D) (ci := 4) (v := .ref (ad (33 + 4 * t))) (C := RPl) (T := TPl) (N := 4) hx hb hts hinPl hown hK hW (30 + 4 * t) ((dq_Un (by omega)).trans (lp0 t hlo)) rfl 2 (by decide) hf33 (fun _ h9 => h9) rfl dTb_markReached_71 ?_
                refine lv_iload hx hb dTb_markReached_74 (lv_at hl 5 rfl) ?_
                refine dq_ialdN hx hb hK hW (33 + 4 * t) 0 ((dq_Un (by omega)).trans (lp3 t hlo)) rfl p9 (by omega) (by omega) dTb_markReached_76 ?_
                refine dq_top (y := nI (DN t p9)) (hDN t hlo p9 hpn) ?_
                refine lv_iconst (v := (-1)) hx hb dTb_markReached_77 (by decide) ?_
                refine lv_ixor hx hb dTb_markReached_78 ?_
                refine lv_iand hx hb dTb_markReached_79 ?_
                refine dq_top (y := nI (dq_df (M - c9) (DN t p9))) (dq_dfI _ _) ?_
                refine lv_iconst (v := (-1)) hx hb dTb_markReached_80 (by decide) ?_
                refine dq_iastN hx hb hK hW hS 24 0 dq_Us rfl (dq_df (M - c9) (DN t p9)) (Nat.lt_of_le_of_lt (dq_df_le _ _) (by omega)) (by omega) dTb_markReached_81 (fun H locs hW hS => ?_)
                rw [dq_UU] at hW
                refine lv_iinc (v := (nI (p9 + 1))) (lv' := [(5, .int (nI (p9 + 1))), (0, .ref (ad 23)), (1, .ref (ad 17)), (2, .int (nI M)), (3, .int (nI (M - c9))), (4, .ref (ad (30 + 4 * t)))]) hx hb dTb_markReached_82 hl (k := 5) rfl (by show nI p9 + 1 = _; exact nI_1 _) (by decide) rfl (fun ls hl => ?_)
                refine lv_goto (tgt := 54) hx hb dTb_markReached_85 (by decide) ?_
                exact ih3 (p9 + 1) _ _ _ (by omega) (by omega) hW hS (lv_sub hl [1, 2, 3, 4, 5, 0] rfl)
          exact loop3 (qs t + 1) 0 _ _ _ (by omega) (Nat.zero_le _) hW hS (lv_sub hl [2, 3, 4, 5, 1, 0] rfl)
  have loop : ∀ (j : Nat) (k : Nat) (H : Heap) (locs : List Loc) (ls : Array Slot), M < k + j → k ≤ M → dq_W D vwCl ad (dq_U w 24 (.inl (g 0, len, .inl (mt_z fw k)))) A H → va_S A s.heap H locs → lv_has ls 6 [(0, .ref (ad 23)), (1, .ref (ad 17)), (2, .int (nI M)), (3, .int (nI k))] → W p l e ({ frames := 2, cells := 0, slots := 0, locals := 50 } : Room) s m ([.ref (ad 23), .ref (ad 17), .int (nI M)] : List Value).toArray below meth c H locs 0 0 Q (F0 m 2 ls []) := by
    intro j
    induction j with
    | zero => intro k H locs ls hj hk hW hS hl; exact absurd hj (by omega)
    | succ j ih =>
      intro k H locs ls hj hk hW hS hl
      refine lv_iload_n hx hb dTb_markReached_2 rfl (lv_at hl 3 rfl) ?_
      refine lv_iload_n hx hb dTb_markReached_3 rfl (lv_at hl 2 rfl) ?_
      refine lv_icmp_ge (tgt := 20) hx hb dTb_markReached_4 (by decide) (fun c1 => ?_) (fun c1 => ?_)
      · have hkn : M = k := by have q9 := (nI_leI (by omega) (by omega)).mp c1; omega
        subst hkn
        refine lv_aload_n hx hb dTb_markReached_20 rfl (lv_at hl 0 rfl) ?_
        refine dq_get (D := D) (ci := 5) (v := .ref (ad 24)) (C := RTb) (T := TTb) (N := 1) hx hb hts hinTb hown hK hW 23 ((dq_Un (by decide)).trans b23) rfl 0 (by decide) hf9 (fun _ h9 => h9) rfl dTb_markReached_21 ?_
        refine lv_iload_n hx hb dTb_markReached_24 rfl (lv_at hl 2 rfl) ?_
        refine lv_iconst (v := (-1)) hx hb dTb_markReached_25 (by decide) ?_
        refine dq_iastN hx hb hK hW hS 24 0 dq_Us rfl M (by omega) (by omega) dTb_markReached_26 (fun H locs hW hS => ?_)
        rw [dq_UU] at hW
        refine lv_iload_n hx hb dTb_markReached_27 rfl (lv_at hl 2 rfl) ?_
        refine lv_istore_n (lv' := [(3, .int (nI M)), (0, .ref (ad 23)), (1, .ref (ad 17)), (2, .int (nI M))]) hx hb dTb_markReached_28 rfl hl (by decide) rfl (fun ls hl => ?_)
        exact loop2 (M + 1) 0 _ _ _ (by omega) (Nat.zero_le _) hW hS (lv_sub hl [1, 2, 3, 0] rfl)
      · have hkn : k < M := by rcases Nat.lt_or_ge k M with q | q; exact q; exact absurd (nI_le q (by omega)) c1
        refine lv_aload_n hx hb dTb_markReached_7 rfl (lv_at hl 0 rfl) ?_
        refine dq_get (D := D) (ci := 5) (v := .ref (ad 24)) (C := RTb) (T := TTb) (N := 1) hx hb hts hinTb hown hK hW 23 ((dq_Un (by decide)).trans b23) rfl 0 (by decide) hf9 (fun _ h9 => h9) rfl dTb_markReached_8 ?_
        refine lv_iload_n hx hb dTb_markReached_11 rfl (lv_at hl 3 rfl) ?_
        refine lv_iconst (v := (0)) hx hb dTb_markReached_12 (by decide) ?_
        refine dq_iastN hx hb hK hW hS 24 0 dq_Us rfl k (by omega) (by omega) dTb_markReached_13 (fun H locs hW hS => ?_)
        rw [dq_UU] at hW
        refine lv_iinc (v := (nI (k + 1))) (lv' := [(3, .int (nI (k + 1))), (0, .ref (ad 23)), (1, .ref (ad 17)), (2, .int (nI M))]) hx hb dTb_markReached_14 hl (k := 3) rfl (by show nI k + 1 = _; exact nI_1 _) (by decide) rfl (fun ls hl => ?_)
        refine lv_goto (tgt := 2) hx hb dTb_markReached_17 (by decide) ?_
        exact ih (k + 1) _ _ _ (by omega) (by omega) (by rw [← mt_z_s]; exact hW) hS (lv_sub hl [1, 2, 3, 0] rfl)
  exact loop (M + 1) 0 _ _ _ (by omega) (Nat.zero_le _) (dq_Wc (by rw [mt_z_0, dq_Uid b24]) hW) hS (lv_sub hl [1, 2, 3, 0] rfl)
