/-- the first k by f, the others by g -/
def dq_pw {α : Type} (k : Nat) (f g : Nat → α) : Nat → α := fun h => if h < k then f h else g h
theorem dq_pw_0 {α : Type} (f g : Nat → α) : dq_pw 0 f g = g := by
  funext h
  exact if_neg (by omega)
theorem dq_pw_k {α : Type} (k : Nat) (f g : Nat → α) : dq_pw k f g k = g k := if_neg (by omega)
theorem dq_pw_s {α : Type} (k : Nat) (f g : Nat → α) : dq_pw (k + 1) f g k = f k := if_pos (by omega)
theorem dq_pw_o {α : Type} {k h : Nat} (f g : Nat → α) (hne : h ≠ k) : dq_pw (k + 1) f g h = dq_pw k f g h := by
  unfold dq_pw
  by_cases h2 : h < k
  · rw [if_pos h2, if_pos (by omega)]
  · rw [if_neg h2, if_neg (by omega)]
/-- the holes that are SINGLE, of the first ones -/
def mf_sg (c : Nat → Nat) : Nat → Nat
  | 0 => 0
  | h + 1 => if c h = 0 then mf_sg c h ||| 2 ^ h else mf_sg c h
theorem dq_tn (x : Int32) : x = nI x.toBitVec.toNat := by
  apply Int32.toBitVec_inj.1
  show x.toBitVec = BitVec.ofNat 32 x.toBitVec.toNat
  simp
/-- bits of a row of numbers -/
def dq_N (D : Nat → Nat → Int32) : Nat → Nat → Nat := fun h p => (D h p).toBitVec.toNat
theorem dq_N_ok (D : Nat → Nat → Int32) (h p : Nat) : D h p = nI (dq_N D h p) := dq_tn _
theorem dq_U5 {w : Nat → Option va_E} {a b c d e : Nat} {x1 x2 x3 x4 x5 y1 y2 y3 y4 y5 : va_E} : dq_U (dq_U (dq_U (dq_U (dq_U (dq_U (dq_U (dq_U (dq_U (dq_U w a x1) b x2) c x3) d x4) e x5) a y1) b y2) c y3) d y4) e y5 = dq_U (dq_U (dq_U (dq_U (dq_U w a y1) b y2) c y3) d y4) e y5 := by
  funext j
  by_cases h1 : j = e
  · simp [dq_U, h1]
  · by_cases h2 : j = d
    · subst h2; simp [dq_U, h1]
    · by_cases h3 : j = c
      · subst h3; simp [dq_U, h1, h2]
      · by_cases h4 : j = b
        · subst h4; simp [dq_U, h1, h2, h3]
        · by_cases h5 : j = a
          · subst h5; simp [dq_U, h1, h2, h3, h4]
          · simp [dq_U, h1, h2, h3, h4, h5]
def mt_fN (fw : Nat → Int32) (DN : Nat → Nat) (S q : Nat) : Nat := if dq_fn (fun p => decide (fw (dq_df S (DN p)) = mt_aft fw DN S q)) q < q then dq_fn (fun p => decide (fw (dq_df S (DN p)) = mt_aft fw DN S q)) q else 0
theorem mt_first_N (fw : Nat → Int32) (DN : Nat → Nat) (S q : Nat) : mt_first fw DN S q = nI (mt_fN fw DN S q) := by
  unfold mt_first mt_fN
  split
  · rfl
  · rfl
theorem mt_fN_lt (fw : Nat → Int32) (DN : Nat → Nat) (S : Nat) {q : Nat} (hq : q ≤ 16) : mt_fN fw DN S q < 16 := by
  unfold mt_fN
  split <;> omega
theorem dq_fn_le (P : Nat → Bool) (n : Nat) : dq_fn P n ≤ n := by
  unfold dq_fn
  cases h : (List.range n).find? P with
  | none => exact Nat.le_refl n
  | some k => exact Nat.le_of_lt (List.mem_range.mp (List.mem_of_find?_eq_some h))
/-- the plan, k hits made: X, Y, face, bits, what is left -/
def mp_pl (fw : Nat → Int32) (DN : Nat → Nat → Nat) (qs : Nat → Nat) (XX YY : Nat → Nat → Int32) (pf : Nat → Int32) (z0 : (Nat → Int32) × (Nat → Int32) × (Nat → Int32) × (Nat → Int32) × Nat) : Nat → (Nat → Int32) × (Nat → Int32) × (Nat → Int32) × (Nat → Int32) × Nat
  | 0 => z0
  | k + 1 =>
    let z := mp_pl fw DN qs XX YY pf z0 k
    let t := dq_lo z.2.2.2.2
    let p := mt_fN fw (DN t) z.2.2.2.2 (qs t)
    (upd z.1 k (XX t p), upd z.2.1 k (YY t p), upd z.2.2.1 k (pf t), upd z.2.2.2.1 k (nI (DN t p &&& z.2.2.2.2)), dq_df z.2.2.2.2 (DN t p))
theorem mp_pl_le (fw : Nat → Int32) (DN : Nat → Nat → Nat) (qs : Nat → Nat) (XX YY : Nat → Nat → Int32) (pf : Nat → Int32) (z0 : (Nat → Int32) × (Nat → Int32) × (Nat → Int32) × (Nat → Int32) × Nat) (k : Nat) : (mp_pl fw DN qs XX YY pf z0 k).2.2.2.2 ≤ z0.2.2.2.2 := by
  induction k with
  | zero => exact Nat.le_refl _
  | succ k ih => exact Nat.le_trans (dq_df_le _ _) ih
/-- how many hits -/
def mp_n (fw : Nat → Int32) (DN : Nat → Nat → Nat) (qs : Nat → Nat) (XX YY : Nat → Nat → Int32) (pf : Nat → Int32) (z0 : (Nat → Int32) × (Nat → Int32) × (Nat → Int32) × (Nat → Int32) × Nat) : Nat := dq_fn (fun k => decide ((mp_pl fw DN qs XX YY pf z0 k).2.2.2.2 = 0)) 14
set_option maxHeartbeats 4000000 in
set_option maxRecDepth 100000 in
/-- DrillHeads.findPlaces() -/
theorem c_findPlaces (l : Launch) (D : va_G) (g : Nat → ClassId) (ad : Nat → Nat) (w : Nat → Option va_E) (sz : Nat) (sg pl : Int32) (n : Nat) (hx_ hy_ hw_ : Nat → Int32) (f0 f1 f2 f3 : Int32) (px py pw pd pf pt : Nat → Int32) (pc_ : Nat) (cx0 cy0 cx1 cy1 : Nat → Int32) (cc_ : Nat) (qs : Nat → Nat) (XX YY DD : Nat → Nat → Int32) (mq_ : Nat → Nat) (mX_ mY_ mD_ : Nat → Nat → Int32) (o0 : w 0 = some (.inr (7, [.ref (ad 1), .ref (ad 5), .ref (ad 12), .ref (ad 17), .ref (ad 18), .ref (ad 23), .ref (ad 25), .int sg, .int pl]))) (h1 : w 1 = some (.inr (1, [.ref (ad 2), .ref (ad 3), .ref (ad 4), .int f0, .int f1, .int f2, .int f3]))) (h2 : w 2 = some (.inl (g 0, n, .inl hx_))) (h3 : w 3 = some (.inl (g 0, n, .inl hy_))) (h4 : w 4 = some (.inl (g 0, n, .inl hw_))) (p5 : w 5 = some (.inr (3, [.ref (ad 6), .ref (ad 7), .ref (ad 8), .ref (ad 9), .ref (ad 10), .ref (ad 11), .int (nI pc_)]))) (p6 : w 6 = some (.inl (g 0, 14, .inl px))) (p7 : w 7 = some (.inl (g 0, 14, .inl py))) (p8 : w 8 = some (.inl (g 0, 14, .inl pw))) (p9 : w 9 = some (.inl (g 0, 14, .inl pd))) (p10 : w 10 = some (.inl (g 0, 14, .inl pf))) (p11 : w 11 = some (.inl (g 1, 14, .inl pt))) (k12 : w 12 = some (.inr (0, [.ref (ad 13), .ref (ad 14), .ref (ad 15), .ref (ad 16), .int (nI cc_)]))) (k13 : w 13 = some (.inl (g 0, 6, .inl cx0))) (k14 : w 14 = some (.inl (g 0, 6, .inl cy0))) (k15 : w 15 = some (.inl (g 0, 6, .inl cx1))) (k16 : w 16 = some (.inl (g 0, 6, .inl cy1))) (a17 : w 17 = some (.inl (g 3, 14, .inr (.inr (.inr (.inr (fun h => some (ad (30 + 4 * h))))))))) (hn : n ≤ 16) (hc : cc_ ≤ 6) (hpc : pc_ ≤ 14) (hq16 : ∀ h, h < 14 → qs h ≤ 16) (lp0 : ∀ h, h < 14 → w (30 + 4 * h) = some (.inr (4, [.ref (ad (31 + 4 * h)), .ref (ad (32 + 4 * h)), .ref (ad (33 + 4 * h)), .int (nI (qs h))]))) (lp1 : ∀ h, h < 14 → w (31 + 4 * h) = some (.inl (g 0, 16, .inl (XX h)))) (lp2 : ∀ h, h < 14 → w (32 + 4 * h) = some (.inl (g 0, 16, .inl (YY h)))) (lp3 : ∀ h, h < 14 → w (33 + 4 * h) = some (.inl (g 0, 16, .inl (DD h)))) (hmq : mq_ = (fun h => ((fun h => mp_find hx_ hy_ hw_ (px h) (py h) (pw h) (mc_bar cx0 cy0 cx1 cy1 cc_ f0 f1 f2 f3) (XX h) (YY h) n) h).1)) (hmX : mX_ = (fun h => ((fun h => mp_find hx_ hy_ hw_ (px h) (py h) (pw h) (mc_bar cx0 cy0 cx1 cy1 cc_ f0 f1 f2 f3) (XX h) (YY h) n) h).2.1)) (hmY : mY_ = (fun h => ((fun h => mp_find hx_ hy_ hw_ (px h) (py h) (pw h) (mc_bar cx0 cy0 cx1 cy1 cc_ f0 f1 f2 f3) (XX h) (YY h) n) h).2.2)) (hmD : mD_ = (fun h => mp_D (fun p => mp_bits (mp_F hx_ hy_ hw_ px py pw pd pf pt n h (((fun h => mp_find hx_ hy_ hw_ (px h) (py h) (pw h) (mc_bar cx0 cy0 cx1 cy1 cc_ f0 f1 f2 f3) (XX h) (YY h) n) h).2.1 p) (((fun h => mp_find hx_ hy_ hw_ (px h) (py h) (pw h) (mc_bar cx0 cy0 cx1 cy1 cc_ f0 f1 f2 f3) (XX h) (YY h) n) h).2.2 p)) h (pc_ - h)) (DD h) ((fun h => mp_find hx_ hy_ hw_ (px h) (py h) (pw h) (mc_bar cx0 cy0 cx1 cy1 cc_ f0 f1 f2 f3) (XX h) (YY h) n) h).1)) : Met l yDH_findPlaces wsDH_findPlaces ({ frames := 5, cells := 0, slots := 0, locals := 120 } : Room) (va_Pc [.ref (ad 0)] (dq_S D vwCl (dq_t g) ad w sz)) (va_Qv (fun u => (∀ j, j ≠ 0 → (j < 30 ∨ 86 ≤ j) → u j = w j) ∧ u 0 = some (.inr (7, [.ref (ad 1), .ref (ad 5), .ref (ad 12), .ref (ad 17), .ref (ad 18), .ref (ad 23), .ref (ad 25), .int (nI (mf_sg mq_ pc_)), .int pl])) ∧ (∀ h, h < 14 → u (30 + 4 * h) = some (.inr (4, [.ref (ad (31 + 4 * h)), .ref (ad (32 + 4 * h)), .ref (ad (33 + 4 * h)), .int (nI (dq_pw pc_ mq_ qs h))]))) ∧ (∀ h, h < 14 → u (31 + 4 * h) = some (.inl (g 0, 16, .inl (dq_pw pc_ mX_ XX h)))) ∧ (∀ h, h < 14 → u (32 + 4 * h) = some (.inl (g 0, 16, .inl (dq_pw pc_ mY_ YY h)))) ∧ (∀ h, h < 14 → u (33 + 4 * h) = some (.inl (g 0, 16, .inl (dq_pw pc_ mD_ DD h))))) (dq_B D vwCl (dq_t g) ad (dq_A ad w sz)) (dq_A ad w sz)) 0 0 (dq_A ad w sz) := by
  refine dq_ofv (cc := cDH_findPlaces) (maxL := 2) (by decide) rfl (Nat.le_of_ble_eq_true rfl) ?_
  intro p e s m below meth c A Q ls ⟨hx, hb, hml, hown, hts⟩ hnm hA hW hK hZ hl hret
  have hS : va_S A s.heap s.heap [] := va_S.rf
  have hl : lv_has ls 2 [(0, .ref (ad 0))] := hl
  have hf23 := hts _ (List.mem_cons_of_mem _ tw1_214)
  have hf30 := hts _ (List.mem_cons_of_mem _ tw1_215)
  have hf37 := hts _ (List.mem_cons_of_mem _ tw1_216)
  have hf43 := hts _ (List.mem_cons_of_mem _ tw1_217)
  have hf96 := hts _ (List.mem_cons_of_mem _ tw1_89)
  have hf172 := hts _ (List.mem_cons_of_mem _ tw1_221)
  have hf194 := hts _ (List.mem_cons_of_mem _ tw1_146)
  have hinDH : ∀ w ∈ u_ws RDH TDH 9, w ∈ wsDH_findPlaces := fun w h => List.mem_cons_of_mem _ (inDH w h)
  have hinPt : ∀ w ∈ u_ws RPt TPt 7, w ∈ wsDH_findPlaces := fun w h => List.mem_cons_of_mem _ (inPt w h)
  have hinPl : ∀ w ∈ u_ws RPl TPl 4, w ∈ wsDH_findPlaces := fun w h => List.mem_cons_of_mem _ (inPl w h)
  refine lv_aload_n hx hb dDH_findPlaces_0 rfl (lv_at hl 0 rfl) ?_
  refine lv_iconst (v := (nI 0)) hx hb dDH_findPlaces_1 (by decide) ?_
  refine dq_put (D := D) (ci := 7) (v := .int (nI 0)) (ty := .int) (C := RDH) (T := TDH) (N := 9) hx hb hts hinDH tyDH tyDH_ok nmDH hown hK hW hS 0 o0 rfl 7 (by decide) hf172 (fun _ h9 => h9) rfl (by decide +kernel) rfl rfl (Nat.le_of_ble_eq_true rfl) dDH_findPlaces_2 (fun H locs hW hS => ?_)
  refine lv_iconst (v := (nI 0)) hx hb dDH_findPlaces_5 (by decide) ?_
  refine lv_istore_n (lv' := [(1, .int (nI 0)), (0, .ref (ad 0))]) hx hb dDH_findPlaces_6 rfl hl (by decide) rfl (fun ls hl => ?_)
  have loop : ∀ (j k : Nat) (w1 : Nat → Option va_E) (H : Heap) (locs : List Loc) (ls : Array Slot), pc_ < k + j → k ≤ pc_ → ((∀ j, j ≠ 0 → (j < 30 ∨ 86 ≤ j) → w1 j = w j) ∧ w1 0 = some (.inr (7, [.ref (ad 1), .ref (ad 5), .ref (ad 12), .ref (ad 17), .ref (ad 18), .ref (ad 23), .ref (ad 25), .int (nI (mf_sg mq_ k)), .int pl])) ∧ (∀ h, h < 14 → w1 (30 + 4 * h) = some (.inr (4, [.ref (ad (31 + 4 * h)), .ref (ad (32 + 4 * h)), .ref (ad (33 + 4 * h)), .int (nI (dq_pw k mq_ qs h))]))) ∧ (∀ h, h < 14 → w1 (31 + 4 * h) = some (.inl (g 0, 16, .inl (dq_pw k mX_ XX h)))) ∧ (∀ h, h < 14 → w1 (32 + 4 * h) = some (.inl (g 0, 16, .inl (dq_pw k mY_ YY h)))) ∧ (∀ h, h < 14 → w1 (33 + 4 * h) = some (.inl (g 0, 16, .inl (dq_pw k mD_ DD h))))) → dq_W D vwCl ad w1 A H → va_S A s.heap H locs → lv_has ls 2 [(0, .ref (ad 0)), (1, .int (nI k))] → W p l e ({ frames := 5, cells := 0, slots := 0, locals := 120 } : Room) s m ([.ref (ad 0)] : List Value).toArray below meth c H locs 0 0 Q (F0 m 7 ls []) := by
    intro j
    induction j with
    | zero => intro k w1 H locs ls hj hk hP hW hS hl; exact absurd hj (by omega)
    | succ j ih =>
      intro k w1 H locs ls hj hk hP hW hS hl
      have hP0 := hP
      obtain ⟨hfr, o0, lp0, lp1, lp2, lp3⟩ := hP
      refine lv_iload_n hx hb dDH_findPlaces_7 rfl (lv_at hl 1 rfl) ?_
      refine lv_aload_n hx hb dDH_findPlaces_8 rfl (lv_at hl 0 rfl) ?_
      refine dq_get (D := D) (ci := 7) (v := .ref (ad 5)) (C := RDH) (T := TDH) (N := 9) hx hb hts hinDH hown hK hW 0 o0 rfl 1 (by decide) hf30 (fun _ h9 => h9) rfl dDH_findPlaces_9 ?_
      refine dq_get (D := D) (ci := 3) (v := .int (nI pc_)) (C := RPt) (T := TPt) (N := 7) hx hb hts hinPt hown hK hW 5 ((hfr 5 (by decide) (Or.inl (by decide))).trans p5) rfl 6 (by decide) hf96 (fun _ h9 => h9) rfl dDH_findPlaces_12 ?_
      refine lv_icmp_ge (tgt := 88) hx hb dDH_findPlaces_15 (by decide) (fun c1 => ?_) (fun c1 => ?_)
      · have hkn : pc_ = k := by have q9 := (nI_leI (by omega) (by omega)).mp c1; omega
        subst hkn
        exact hret _ _ _ _ _ hP0 hW hS dDH_findPlaces_88
      · have hkn : k < pc_ := by rcases Nat.lt_or_ge k pc_ with q | q; exact q; exact absurd (nI_le q (by omega)) c1
        have m0 : w1 (30 + 4 * k) = some (.inr (4, [.ref (ad (31 + 4 * k)), .ref (ad (32 + 4 * k)), .ref (ad (33 + 4 * k)), .int (nI (qs k))])) := by rw [← dq_pw_k k mq_ qs]; exact lp0 k (by omega)
        have m1 : w1 (31 + 4 * k) = some (.inl (g 0, 16, .inl (XX k))) := by rw [← dq_pw_k k mX_ XX]; exact lp1 k (by omega)
        have m2 : w1 (32 + 4 * k) = some (.inl (g 0, 16, .inl (YY k))) := by rw [← dq_pw_k k mY_ YY]; exact lp2 k (by omega)
        have m3 : w1 (33 + 4 * k) = some (.inl (g 0, 16, .inl (DD k))) := by rw [← dq_pw_k k mD_ DD]; exact lp3 k (by omega)
        refine lv_aload_n hx hb dDH_findPlaces_18 rfl (lv_at hl 0 rfl) ?_
        refine dq_get (D := D) (ci := 7) (v := .ref (ad 17)) (C := RDH) (T := TDH) (N := 9) hx hb hts hinDH hown hK hW 0 o0 rfl 3 (by decide) hf43 (fun _ h9 => h9) rfl dDH_findPlaces_19 ?_
        refine lv_iload_n hx hb dDH_findPlaces_22 rfl (lv_at hl 1 rfl) ?_
        refine dq_aaldN hx hb hK hW 17 3 ((hfr 17 (by decide) (Or.inl (by decide))).trans a17) rfl k (by omega) (by omega) (a := (ad (30 + 4 * k))) rfl dDH_findPlaces_23 ?_
        refine lv_iload_n hx hb dDH_findPlaces_24 rfl (lv_at hl 1 rfl) ?_
        refine lv_aload_n hx hb dDH_findPlaces_25 rfl (lv_at hl 0 rfl) ?_
        refine dq_get (D := D) (ci := 7) (v := .ref (ad 5)) (C := RDH) (T := TDH) (N := 9) hx hb hts hinDH hown hK hW 0 o0 rfl 1 (by decide) hf30 (fun _ h9 => h9) rfl dDH_findPlaces_26 ?_
        refine lv_aload_n hx hb dDH_findPlaces_29 rfl (lv_at hl 0 rfl) ?_
        refine dq_get (D := D) (ci := 7) (v := .ref (ad 1)) (C := RDH) (T := TDH) (N := 9) hx hb hts hinDH hown hK hW 0 o0 rfl 0 (by decide) hf23 (fun _ h9 => h9) rfl dDH_findPlaces_30 ?_
        refine lv_aload_n hx hb dDH_findPlaces_33 rfl (lv_at hl 0 rfl) ?_
        refine dq_get (D := D) (ci := 7) (v := .ref (ad 12)) (C := RDH) (T := TDH) (N := 9) hx hb hts hinDH hown hK hW 0 o0 rfl 2 (by decide) hf37 (fun _ h9 => h9) rfl dDH_findPlaces_34 ?_
        refine dq_callv (va_runV (As := [.int (nI k), .ref (ad 5), .ref (ad 1), .ref (ad 12)]) (rest := []) ⟨hx, hb, hml, hown, hts⟩ (c_Places_find l D g ad (w1) _ n hx_ hy_ hw_ f0 f1 f2 f3 px py pw pd pf pt pc_ cx0 cy0 cx1 cy1 cc_ k (qs k) (XX k) (YY k) (DD k) k ((hfr 1 (by decide) (Or.inl (by decide))).trans h1) ((hfr 2 (by decide) (Or.inl (by decide))).trans h2) ((hfr 3 (by decide) (Or.inl (by decide))).trans h3) ((hfr 4 (by decide) (Or.inl (by decide))).trans h4) ((hfr 5 (by decide) (Or.inl (by decide))).trans p5) ((hfr 6 (by decide) (Or.inl (by decide))).trans p6) ((hfr 7 (by decide) (Or.inl (by decide))).trans p7) ((hfr 8 (by decide) (Or.inl (by decide))).trans p8) ((hfr 12 (by decide) (Or.inl (by decide))).trans k12) ((hfr 13 (by decide) (Or.inl (by decide))).trans k13) ((hfr 14 (by decide) (Or.inl (by decide))).trans k14) ((hfr 15 (by decide) (Or.inl (by decide))).trans k15) ((hfr 16 (by decide) (Or.inl (by decide))).trans k16) m0 m1 m2 hn hc (by omega)) (cwV 4 hts (dq_giV tw2_10 tw2_11 tw2_12 tw1_6 tw2_13) rfl rfl rfl (by decide +kernel) ⟨Nat.le_of_ble_eq_true rfl, Nat.le_of_ble_eq_true rfl⟩) (dq_preV (ci := 4) hW hS hA hK hZ m0 rfl rfl) rfl rfl hl.1 rfl (lv_room (Nat.le_of_ble_eq_true rfl)) dDH_findPlaces_37 ⟨Nat.zero_le _, Nat.zero_le _⟩) hW hS hA (fun u_9 H locs hp1 hW hS hz9 => ?_)
        rw [hp1] at hW
        have hr16 : (mp_find hx_ hy_ hw_ (px k) (py k) (pw k) (mc_bar cx0 cy0 cx1 cy1 cc_ f0 f1 f2 f3) (XX k) (YY k) n).1 ≤ 16 := mp_find_le _ _ _ _ _ _ _ _ _ _
        refine lv_aload_n hx hb dDH_findPlaces_40 rfl (lv_at hl 0 rfl) ?_
        refine dq_get (D := D) (ci := 7) (v := .ref (ad 17)) (C := RDH) (T := TDH) (N := 9) hx hb hts hinDH hown hK hW 0 ((dq_Un (by omega)).trans ((dq_Un (by omega)).trans ((dq_Un (by omega)).trans o0))) rfl 3 (by decide) hf43 (fun _ h9 => h9) rfl dDH_findPlaces_41 ?_
        refine lv_iload_n hx hb dDH_findPlaces_44 rfl (lv_at hl 1 rfl) ?_
        refine dq_aaldN hx hb hK hW 17 3 ((dq_Un (by omega)).trans ((dq_Un (by omega)).trans ((dq_Un (by omega)).trans ((hfr 17 (by decide) (Or.inl (by decide))).trans a17)))) rfl k (by omega) (by omega) (a := (ad (30 + 4 * k))) rfl dDH_findPlaces_45 ?_
        refine lv_iload_n hx hb dDH_findPlaces_46 rfl (lv_at hl 1 rfl) ?_
        refine lv_aload_n hx hb dDH_findPlaces_47 rfl (lv_at hl 0 rfl) ?_
        refine dq_get (D := D) (ci := 7) (v := .ref (ad 5)) (C := RDH) (T := TDH) (N := 9) hx hb hts hinDH hown hK hW 0 ((dq_Un (by omega)).trans ((dq_Un (by omega)).trans ((dq_Un (by omega)).trans o0))) rfl 1 (by decide) hf30 (fun _ h9 => h9) rfl dDH_findPlaces_48 ?_
        refine lv_aload_n hx hb dDH_findPlaces_51 rfl (lv_at hl 0 rfl) ?_
        refine dq_get (D := D) (ci := 7) (v := .ref (ad 1)) (C := RDH) (T := TDH) (N := 9) hx hb hts hinDH hown hK hW 0 ((dq_Un (by omega)).trans ((dq_Un (by omega)).trans ((dq_Un (by omega)).trans o0))) rfl 0 (by decide) hf23 (fun _ h9 => h9) rfl dDH_findPlaces_52 ?_
        refine dq_callv (va_runV (As := [.int (nI k), .ref (ad 5), .ref (ad 1)]) (rest := []) ⟨hx, hb, hml, hown, hts⟩ (c_Places_findDrilled l D g ad (dq_U (dq_U (dq_U w1 (31 + 4 * k) (.inl (g 0, 16, .inl ((mp_find hx_ hy_ hw_ (px k) (py k) (pw k) (mc_bar cx0 cy0 cx1 cy1 cc_ f0 f1 f2 f3) (XX k) (YY k) n).2.1)))) (32 + 4 * k) (.inl (g 0, 16, .inl ((mp_find hx_ hy_ hw_ (px k) (py k) (pw k) (mc_bar cx0 cy0 cx1 cy1 cc_ f0 f1 f2 f3) (XX k) (YY k) n).2.2)))) (30 + 4 * k) (.inr (4, [.ref (ad (31 + 4 * k)), .ref (ad (32 + 4 * k)), .ref (ad (33 + 4 * k)), .int (nI ((mp_find hx_ hy_ hw_ (px k) (py k) (pw k) (mc_bar cx0 cy0 cx1 cy1 cc_ f0 f1 f2 f3) (XX k) (YY k) n).1))]))) _ n hx_ hy_ hw_ f0 f1 f2 f3 px py pw pd pf pt pc_ k ((mp_find hx_ hy_ hw_ (px k) (py k) (pw k) (mc_bar cx0 cy0 cx1 cy1 cc_ f0 f1 f2 f3) (XX k) (YY k) n).1) ((mp_find hx_ hy_ hw_ (px k) (py k) (pw k) (mc_bar cx0 cy0 cx1 cy1 cc_ f0 f1 f2 f3) (XX k) (YY k) n).2.1) ((mp_find hx_ hy_ hw_ (px k) (py k) (pw k) (mc_bar cx0 cy0 cx1 cy1 cc_ f0 f1 f2 f3) (XX k) (YY k) n).2.2) (DD k) k ((dq_Un (by omega)).trans ((dq_Un (by omega)).trans ((dq_Un (by omega)).trans ((hfr 1 (by decide) (Or.inl (by decide))).trans h1)))) ((dq_Un (by omega)).trans ((dq_Un (by omega)).trans ((dq_Un (by omega)).trans ((hfr 2 (by decide) (Or.inl (by decide))).trans h2)))) ((dq_Un (by omega)).trans ((dq_Un (by omega)).trans ((dq_Un (by omega)).trans ((hfr 3 (by decide) (Or.inl (by decide))).trans h3)))) ((dq_Un (by omega)).trans ((dq_Un (by omega)).trans ((dq_Un (by omega)).trans ((hfr 4 (by decide) (Or.inl (by decide))).trans h4)))) ((dq_Un (by omega)).trans ((dq_Un (by omega)).trans ((dq_Un (by omega)).trans ((hfr 5 (by decide) (Or.inl (by decide))).trans p5)))) ((dq_Un (by omega)).trans ((dq_Un (by omega)).trans ((dq_Un (by omega)).trans ((hfr 6 (by decide) (Or.inl (by decide))).trans p6)))) ((dq_Un (by omega)).trans ((dq_Un (by omega)).trans ((dq_Un (by omega)).trans ((hfr 7 (by decide) (Or.inl (by decide))).trans p7)))) ((dq_Un (by omega)).trans ((dq_Un (by omega)).trans ((dq_Un (by omega)).trans ((hfr 8 (by decide) (Or.inl (by decide))).trans p8)))) ((dq_Un (by omega)).trans ((dq_Un (by omega)).trans ((dq_Un (by omega)).trans ((hfr 9 (by decide) (Or.inl (by decide))).trans p9)))) ((dq_Un (by omega)).trans ((dq_Un (by omega)).trans ((dq_Un (by omega)).trans ((hfr 10 (by decide) (Or.inl (by decide))).trans p10)))) ((dq_Un (by omega)).trans ((dq_Un (by omega)).trans ((dq_Un (by omega)).trans ((hfr 11 (by decide) (Or.inl (by decide))).trans p11)))) dq_Us ((dq_Un (by omega)).trans ((dq_Un (by omega)).trans dq_Us)) ((dq_Un (by omega)).trans dq_Us) ((dq_Un (by omega)).trans ((dq_Un (by omega)).trans ((dq_Un (by omega)).trans m3))) hn hr16 hkn hpc) (cwV 3 hts (dq_giV tw2_27 tw2_28 tw2_29 tw1_6 tw2_30) rfl rfl rfl (by decide +kernel) ⟨Nat.le_of_ble_eq_true rfl, Nat.le_of_ble_eq_true rfl⟩) (dq_preV (ci := 4) hW hS hA hK hZ dq_Us rfl rfl) rfl rfl hl.1 rfl (lv_room (Nat.le_of_ble_eq_true rfl)) dDH_findPlaces_55 ⟨Nat.zero_le _, Nat.zero_le _⟩) hW hS hA (fun u_9 H locs hp2 hW hS hz9 => ?_)
        rw [hp2] at hW
        have q0 : mq_ k = (mp_find hx_ hy_ hw_ (px k) (py k) (pw k) (mc_bar cx0 cy0 cx1 cy1 cc_ f0 f1 f2 f3) (XX k) (YY k) n).1 := by rw [hmq]
        have q1 : mX_ k = (mp_find hx_ hy_ hw_ (px k) (py k) (pw k) (mc_bar cx0 cy0 cx1 cy1 cc_ f0 f1 f2 f3) (XX k) (YY k) n).2.1 := by rw [hmX]
        have q2 : mY_ k = (mp_find hx_ hy_ hw_ (px k) (py k) (pw k) (mc_bar cx0 cy0 cx1 cy1 cc_ f0 f1 f2 f3) (XX k) (YY k) n).2.2 := by rw [hmY]
        have q3 : mD_ k = (mp_D (fun p => mp_bits (mp_F hx_ hy_ hw_ px py pw pd pf pt n k ((mp_find hx_ hy_ hw_ (px k) (py k) (pw k) (mc_bar cx0 cy0 cx1 cy1 cc_ f0 f1 f2 f3) (XX k) (YY k) n).2.1 p) ((mp_find hx_ hy_ hw_ (px k) (py k) (pw k) (mc_bar cx0 cy0 cx1 cy1 cc_ f0 f1 f2 f3) (XX k) (YY k) n).2.2 p)) k (pc_ - k)) (DD k) (mp_find hx_ hy_ hw_ (px k) (py k) (pw k) (mc_bar cx0 cy0 cx1 cy1 cc_ f0 f1 f2 f3) (XX k) (YY k) n).1) := by rw [hmD]
        obtain ⟨w2, hw2⟩ : ∃ w2, w2 = dq_U (dq_U (dq_U (dq_U w1 (31 + 4 * k) (.inl (g 0, 16, .inl ((mp_find hx_ hy_ hw_ (px k) (py k) (pw k) (mc_bar cx0 cy0 cx1 cy1 cc_ f0 f1 f2 f3) (XX k) (YY k) n).2.1)))) (32 + 4 * k) (.inl (g 0, 16, .inl ((mp_find hx_ hy_ hw_ (px k) (py k) (pw k) (mc_bar cx0 cy0 cx1 cy1 cc_ f0 f1 f2 f3) (XX k) (YY k) n).2.2)))) (30 + 4 * k) (.inr (4, [.ref (ad (31 + 4 * k)), .ref (ad (32 + 4 * k)), .ref (ad (33 + 4 * k)), .int (nI ((mp_find hx_ hy_ hw_ (px k) (py k) (pw k) (mc_bar cx0 cy0 cx1 cy1 cc_ f0 f1 f2 f3) (XX k) (YY k) n).1))]))) (33 + 4 * k) (.inl (g 0, 16, .inl (mp_D (fun p => mp_bits (mp_F hx_ hy_ hw_ px py pw pd pf pt n k ((mp_find hx_ hy_ hw_ (px k) (py k) (pw k) (mc_bar cx0 cy0 cx1 cy1 cc_ f0 f1 f2 f3) (XX k) (YY k) n).2.1 p) ((mp_find hx_ hy_ hw_ (px k) (py k) (pw k) (mc_bar cx0 cy0 cx1 cy1 cc_ f0 f1 f2 f3) (XX k) (YY k) n).2.2 p)) k (pc_ - k)) (DD k) (mp_find hx_ hy_ hw_ (px k) (py k) (pw k) (mc_bar cx0 cy0 cx1 cy1 cc_ f0 f1 f2 f3) (XX k) (YY k) n).1))) := ⟨_, rfl⟩
        rw [← hw2] at hW
        have u1 : w2 (31 + 4 * k) = some (.inl (g 0, 16, .inl (mX_ k))) := by rw [hw2, q1]; exact ((dq_Un (by omega)).trans ((dq_Un (by omega)).trans ((dq_Un (by omega)).trans dq_Us)))
        have u2 : w2 (32 + 4 * k) = some (.inl (g 0, 16, .inl (mY_ k))) := by rw [hw2, q2]; exact ((dq_Un (by omega)).trans ((dq_Un (by omega)).trans dq_Us))
        have u0 : w2 (30 + 4 * k) = some (.inr (4, [.ref (ad (31 + 4 * k)), .ref (ad (32 + 4 * k)), .ref (ad (33 + 4 * k)), .int (nI (mq_ k))])) := by rw [hw2, q0]; exact ((dq_Un (by omega)).trans dq_Us)
        have u3 : w2 (33 + 4 * k) = some (.inl (g 0, 16, .inl (mD_ k))) := by rw [hw2, q3]; exact dq_Us
        have uo : ∀ j, j ≠ 30 + 4 * k → j ≠ 31 + 4 * k → j ≠ 32 + 4 * k → j ≠ 33 + 4 * k → w2 j = w1 j := fun j h1 h2 h3 h4 => by rw [hw2, dq_Un h4, dq_Un h1, dq_Un h3, dq_Un h2]
        have hmq16 : mq_ k ≤ 16 := by rw [q0]; exact hr16
        refine lv_aload_n hx hb dDH_findPlaces_58 rfl (lv_at hl 0 rfl) ?_
        refine dq_get (D := D) (ci := 7) (v := .ref (ad 17)) (C := RDH) (T := TDH) (N := 9) hx hb hts hinDH hown hK hW 0 ((uo 0 (by omega) (by omega) (by omega) (by omega)).trans o0) rfl 3 (by decide) hf43 (fun _ h9 => h9) rfl dDH_findPlaces_59 ?_
        refine lv_iload_n hx hb dDH_findPlaces_62 rfl (lv_at hl 1 rfl) ?_
        refine dq_aaldN hx hb hK hW 17 3 ((uo 17 (by omega) (by omega) (by omega) (by omega)).trans ((hfr 17 (by decide) (Or.inl (by decide))).trans a17)) rfl k (by omega) (by omega) (a := (ad (30 + 4 * k))) rfl dDH_findPlaces_63 ?_
        refine dq_get (D := D) (ci := 4) (v := .int (nI (mq_ k))) (C := RPl) (T := TPl) (N := 4) hx hb hts hinPl hown hK hW (30 + 4 * k) u0 rfl 3 (by decide) hf194 (fun _ h9 => h9) rfl dDH_findPlaces_64 ?_
        refine lv_if_ne (tgt := 82) hx hb dDH_findPlaces_67 (by decide) (fun c2 => ?_) (fun c2 => ?_)
        · have e5 : mf_sg mq_ (k + 1) = mf_sg mq_ k := if_neg (fun h9 => c2 (by rw [h9]; rfl))
          have hP2 : (∀ j, j ≠ 0 → (j < 30 ∨ 86 ≤ j) → w2 j = w j) ∧ w2 0 = some (.inr (7, [.ref (ad 1), .ref (ad 5), .ref (ad 12), .ref (ad 17), .ref (ad 18), .ref (ad 23), .ref (ad 25), .int (nI (mf_sg mq_ (k + 1))), .int pl])) ∧ (∀ h, h < 14 → w2 (30 + 4 * h) = some (.inr (4, [.ref (ad (31 + 4 * h)), .ref (ad (32 + 4 * h)), .ref (ad (33 + 4 * h)), .int (nI (dq_pw (k + 1) mq_ qs h))]))) ∧ (∀ h, h < 14 → w2 (31 + 4 * h) = some (.inl (g 0, 16, .inl (dq_pw (k + 1) mX_ XX h)))) ∧ (∀ h, h < 14 → w2 (32 + 4 * h) = some (.inl (g 0, 16, .inl (dq_pw (k + 1) mY_ YY h)))) ∧ (∀ h, h < 14 → w2 (33 + 4 * h) = some (.inl (g 0, 16, .inl (dq_pw (k + 1) mD_ DD h)))) := by
            refine ⟨(fun j h1 h2 => (uo j (by omega) (by omega) (by omega) (by omega)).trans (hfr j h1 h2)), (by rw [e5]; exact (uo 0 (by omega) (by omega) (by omega) (by omega)).trans o0), ?_, ?_, ?_, ?_⟩
            · intro h hh
              by_cases hhk : h = k
              · subst hhk; rw [dq_pw_s]; exact u0
              · rw [dq_pw_o mq_ qs hhk]; exact (uo (30 + 4 * h) (by omega) (by omega) (by omega) (by omega)).trans (lp0 h hh)
            · intro h hh
              by_cases hhk : h = k
              · subst hhk; rw [dq_pw_s]; exact u1
              · rw [dq_pw_o mX_ XX hhk]; exact (uo (31 + 4 * h) (by omega) (by omega) (by omega) (by omega)).trans (lp1 h hh)
            · intro h hh
              by_cases hhk : h = k
              · subst hhk; rw [dq_pw_s]; exact u2
              · rw [dq_pw_o mY_ YY hhk]; exact (uo (32 + 4 * h) (by omega) (by omega) (by omega) (by omega)).trans (lp2 h hh)
            · intro h hh
              by_cases hhk : h = k
              · subst hhk; rw [dq_pw_s]; exact u3
              · rw [dq_pw_o mD_ DD hhk]; exact (uo (33 + 4 * h) (by omega) (by omega) (by omega) (by omega)).trans (lp3 h hh)
          refine lv_iinc (v := (nI (k + 1))) (lv' := [(1, .int (nI (k + 1))), (0, .ref (ad 0))]) hx hb dDH_findPlaces_82 hl (k := 1) rfl (by show nI k + 1 = _; exact nI_1 _) (by decide) rfl (fun ls hl => ?_)
          refine lv_goto (tgt := 7) hx hb dDH_findPlaces_85 (by decide) ?_
          exact ih (k + 1) w2 _ _ _ (by omega) (by omega) hP2 hW hS (lv_sub hl [1, 0] rfl)
        · have e4 : mq_ k = 0 := (nI_eq (by omega) (by omega)).mp c2
          have e5 : mf_sg mq_ (k + 1) = mf_sg mq_ k ||| 2 ^ k := if_pos e4
          refine lv_aload_n hx hb dDH_findPlaces_70 rfl (lv_at hl 0 rfl) ?_
          refine lv_dup hx hb dDH_findPlaces_71 rfl ?_
          refine dq_get (D := D) (ci := 7) (v := .int (nI (mf_sg mq_ k))) (C := RDH) (T := TDH) (N := 9) hx hb hts hinDH hown hK hW 0 ((uo 0 (by omega) (by omega) (by omega) (by omega)).trans o0) rfl 7 (by decide) hf172 (fun _ h9 => h9) rfl dDH_findPlaces_72 ?_
          refine lv_iconst (v := (1)) hx hb dDH_findPlaces_75 (by decide) ?_
          refine lv_iload_n hx hb dDH_findPlaces_76 rfl (lv_at hl 1 rfl) ?_
          refine lv_ishl hx hb dDH_findPlaces_77 ?_
          refine dq_top (y := nI (2 ^ k)) (dq_sh1 _ (by omega)) ?_
          refine lv_ior hx hb dDH_findPlaces_78 ?_
          refine dq_top (y := nI (mf_sg mq_ (k + 1))) (by rw [e5]; exact nx_or _ _) ?_
          refine dq_put (D := D) (ci := 7) (v := .int (nI (mf_sg mq_ (k + 1)))) (ty := .int) (C := RDH) (T := TDH) (N := 9) hx hb hts hinDH tyDH tyDH_ok nmDH hown hK hW hS 0 ((uo 0 (by omega) (by omega) (by omega) (by omega)).trans o0) rfl 7 (by decide) hf172 (fun _ h9 => h9) rfl (by decide +kernel) rfl rfl (Nat.le_of_ble_eq_true rfl) dDH_findPlaces_79 (fun H locs hW hS => ?_)
          refine lv_iinc (v := (nI (k + 1))) (lv' := [(1, .int (nI (k + 1))), (0, .ref (ad 0))]) hx hb dDH_findPlaces_82 hl (k := 1) rfl (by show nI k + 1 = _; exact nI_1 _) (by decide) rfl (fun ls hl => ?_)
          refine lv_goto (tgt := 7) hx hb dDH_findPlaces_85 (by decide) ?_
          obtain ⟨w3, hw3⟩ : ∃ w3, w3 = dq_U w2 0 (.inr (7, [.ref (ad 1), .ref (ad 5), .ref (ad 12), .ref (ad 17), .ref (ad 18), .ref (ad 23), .ref (ad 25), .int (nI (mf_sg mq_ (k + 1))), .int pl])) := ⟨_, rfl⟩
          have hW : dq_W D vwCl ad w3 A H := by rw [hw3]; exact hW
          have v9 : ∀ j, j ≠ 0 → w3 j = w2 j := fun j h1 => by rw [hw3, dq_Un h1]
          have hP2 : (∀ j, j ≠ 0 → (j < 30 ∨ 86 ≤ j) → w3 j = w j) ∧ w3 0 = some (.inr (7, [.ref (ad 1), .ref (ad 5), .ref (ad 12), .ref (ad 17), .ref (ad 18), .ref (ad 23), .ref (ad 25), .int (nI (mf_sg mq_ (k + 1))), .int pl])) ∧ (∀ h, h < 14 → w3 (30 + 4 * h) = some (.inr (4, [.ref (ad (31 + 4 * h)), .ref (ad (32 + 4 * h)), .ref (ad (33 + 4 * h)), .int (nI (dq_pw (k + 1) mq_ qs h))]))) ∧ (∀ h, h < 14 → w3 (31 + 4 * h) = some (.inl (g 0, 16, .inl (dq_pw (k + 1) mX_ XX h)))) ∧ (∀ h, h < 14 → w3 (32 + 4 * h) = some (.inl (g 0, 16, .inl (dq_pw (k + 1) mY_ YY h)))) ∧ (∀ h, h < 14 → w3 (33 + 4 * h) = some (.inl (g 0, 16, .inl (dq_pw (k + 1) mD_ DD h)))) := by
            refine ⟨(fun j h1 h2 => ((v9 j h1).trans (uo j (by omega) (by omega) (by omega) (by omega))).trans (hfr j h1 h2)), (by rw [hw3]; exact dq_Us), ?_, ?_, ?_, ?_⟩
            · intro h hh
              by_cases hhk : h = k
              · subst hhk; rw [dq_pw_s]; exact (v9 (30 + 4 * h) (by omega)).trans u0
              · rw [dq_pw_o mq_ qs hhk]; exact (v9 (30 + 4 * h) (by omega)).trans ((uo (30 + 4 * h) (by omega) (by omega) (by omega) (by omega)).trans (lp0 h hh))
            · intro h hh
              by_cases hhk : h = k
              · subst hhk; rw [dq_pw_s]; exact (v9 (31 + 4 * h) (by omega)).trans u1
              · rw [dq_pw_o mX_ XX hhk]; exact (v9 (31 + 4 * h) (by omega)).trans ((uo (31 + 4 * h) (by omega) (by omega) (by omega) (by omega)).trans (lp1 h hh))
            · intro h hh
              by_cases hhk : h = k
              · subst hhk; rw [dq_pw_s]; exact (v9 (32 + 4 * h) (by omega)).trans u2
              · rw [dq_pw_o mY_ YY hhk]; exact (v9 (32 + 4 * h) (by omega)).trans ((uo (32 + 4 * h) (by omega) (by omega) (by omega) (by omega)).trans (lp2 h hh))
            · intro h hh
              by_cases hhk : h = k
              · subst hhk; rw [dq_pw_s]; exact (v9 (33 + 4 * h) (by omega)).trans u3
              · rw [dq_pw_o mD_ DD hhk]; exact (v9 (33 + 4 * h) (by omega)).trans ((uo (33 + 4 * h) (by omega) (by omega) (by omega) (by omega)).trans (lp3 h hh))
          exact ih (k + 1) w3 _ _ _ (by omega) (by omega) hP2 hW hS (lv_sub hl [1, 0] rfl)
  refine loop (pc_ + 1) 0 _ _ _ _ (by omega) (Nat.zero_le _) ⟨fun j h1 h2 => dq_Un h1, dq_Us, ?_, ?_, ?_, ?_⟩ hW hS (lv_sub hl [1, 0] rfl)
  · intro h hh; rw [dq_pw_0]; exact (dq_Un (by omega)).trans (lp0 h hh)
  · intro h hh; rw [dq_pw_0]; exact (dq_Un (by omega)).trans (lp1 h hh)
  · intro h hh; rw [dq_pw_0]; exact (dq_Un (by omega)).trans (lp2 h hh)
  · intro h hh; rw [dq_pw_0]; exact (dq_Un (by omega)).trans (lp3 h hh)
