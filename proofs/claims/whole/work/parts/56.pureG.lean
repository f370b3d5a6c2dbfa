/-! PURE: what a plan is, and that the class's run makes one -/
def lkQ (n hn cn : Nat) (sx sy sw px py pw pd pf pt bx : Nat → Int32) (qs : Nat → Nat) (XX YY : Nat → Nat → Int32) (DM : Nat → Nat → Nat) : Prop :=
  ∀ h, h < hn → qs h ≤ 16 ∧ sp_P sx sy sw n (px h) (py h) (pw h) (mb_bar sx sy sw n bx cn) (qs h) (XX h) (YY h) ∧ sp_bd sx sy sw n (px h) (py h) (pw h) ∧ ∀ p, p < qs h → DM h p = mp_bits (mp_F sx sy sw px py pw pd pf pt n h (XX h p) (YY h p)) 0 hn ∧ (DM h p).testBit h = true
def lkW (n hn cn : Nat) (sx sy sw px py pw pd pf pt bx : Nat → Int32) (nh : Nat) (HX HY HF : Nat → Int32) (HB oN : Nat → Nat) (wy : Int64) (sgN : Nat) : Prop :=
  ∃ (qs : Nat → Nat) (XX YY : Nat → Nat → Int32) (DM : Nat → Nat → Nat) (FF : Nat → Nat) (SS pp VS : Nat → Nat), lkQ n hn cn sx sy sw px py pw pd pf pt bx qs XX YY DM ∧ FF 0 = 0 ∧ (∀ S, 0 < S → S < 2 ^ hn → FF S = mo_min FF (DM (dq_lo S)) S (qs (dq_lo S))) ∧ mo_S FF DM qs hn nh SS pp ∧
    HX = (fun i => XX (dq_lo (SS i)) (pp i)) ∧ HY = (fun i => YY (dq_lo (SS i)) (pp i)) ∧ HF = (fun i => pf (dq_lo (SS i))) ∧ HB = (fun i => SS i &&& DM (dq_lo (SS i)) (pp i)) ∧ in_ok HX HY nh ∧ (nh ≤ 10 → ∀ tX tY, ar_eq HX HY tX tY nh → mo_O tX tY (wG HX HY nh) oN VS nh) ∧ (∀ i, i < nh → oN i < nh) ∧ (10 < nh → ∀ i, i < nh → oN i = i) ∧ wy = mo_way HX HY oN nh ∧ sgN = mf_sg qs hn
theorem i32_ext {a : Int32} {b : Int} (h1 : -b ≤ a.toInt) (h2 : a.toInt ≤ b) : sp_in a b := ⟨h1, h2⟩
theorem sub_in {a b : Int32} (h1 : sp_in a 10000) (h2 : sp_in b 10000) : sp_in (a - b) 20000 := by
  obtain ⟨a1, a2⟩ := h1
  obtain ⟨b1, b2⟩ := h2
  have e := i32_sub (a := a) (b := b) (by omega) (by omega)
  exact ⟨by omega, by omega⟩
theorem dq_N_nI {B : Nat} (h : B < 2 ^ 32) : (nI B).toBitVec.toNat = B := by
  show (BitVec.ofNat 32 B).toNat = B
  rw [BitVec.toNat_ofNat]
  exact Nat.mod_eq_of_lt h
/-- the frame is measured, or no spindle is there -/
def frm (n : Nat) (sx sy sw : Nat → Int32) (f0 f1 f2 f3 : Int32) : Prop := (f0 = mh_lo sw sx n - 1 ∧ f1 = mh_lo sw sy n - 1 ∧ f2 = mh_hi sw sx n + 1 ∧ f3 = mh_hi sw sy n + 1) ∨ ∀ k, k < n → sw k ≤ 0
def bxs (cn : Nat) (bx cx0 cy0 cx1 cy1 : Nat → Int32) : Prop := ∀ c, c < cn → bx (4 * c) = cx0 c ∧ bx (4 * c + 1) = cy0 c ∧ bx (4 * c + 2) = cx1 c ∧ bx (4 * c + 3) = cy1 c
def bnd (n hn : Nat) (sx sy px py pw : Nat → Int32) : Prop := (∀ k, k < n → sp_in (sx k) 10000 ∧ sp_in (sy k) 10000) ∧ ∀ h, h < hn → sp_in (px h) 10000 ∧ sp_in (py h) 10000 ∧ ¬ pw h ≤ 0
theorem fi_ok {n hn cn : Nat} {sx sy sw px py pw bx cx0 cy0 cx1 cy1 : Nat → Int32} {f0 f1 f2 f3 : Int32} (hn16 : n ≤ 16) (hb : bnd n hn sx sy px py pw) (hf : frm n sx sy sw f0 f1 f2 f3) (hbx : bxs cn bx cx0 cy0 cx1 cy1) {h : Nat} (hh : h < hn) (X Y : Nat → Int32) :
    sp_P sx sy sw n (px h) (py h) (pw h) (mb_bar sx sy sw n bx cn) (mp_find sx sy sw (px h) (py h) (pw h) (mc_bar cx0 cy0 cx1 cy1 cn f0 f1 f2 f3) X Y n).1 (mp_find sx sy sw (px h) (py h) (pw h) (mc_bar cx0 cy0 cx1 cy1 cn f0 f1 f2 f3) X Y n).2.1 (mp_find sx sy sw (px h) (py h) (pw h) (mc_bar cx0 cy0 cx1 cy1 cn f0 f1 f2 f3) X Y n).2.2 ∧ sp_bd sx sy sw n (px h) (py h) (pw h) := by
  obtain ⟨b1, b2⟩ := hb
  obtain ⟨c1, c2, c3⟩ := b2 h hh
  refine ⟨sp_P_bar (fun k hk hw => ?_) (sp_find sx sy sw (px h) (py h) (pw h) (mc_bar cx0 cy0 cx1 cy1 cn f0 f1 f2 f3) X Y n hn16 n (Nat.le_refl n)).1, fun k hk hw => ⟨sub_in c1 (b1 k hk).1, sub_in c2 (b1 k hk).2⟩⟩
  have hw0 : ¬ sw k ≤ 0 := by rw [hw]; exact c3
  rcases hf with ⟨e0, e1, e2, e3⟩ | hf
  · exact bar_eq (fun k hk => (b1 k hk).1) (fun k hk => (b1 k hk).2) hk hw0 e0 e1 e2 e3 (sub_in c1 (b1 k hk).1) (sub_in c2 (b1 k hk).2) hbx
  · exact absurd (hf k hk) hw0
theorem ru_ok {n hn cn : Nat} {sx sy sw px py pw pd pf pt bx cx0 cy0 cx1 cy1 : Nat → Int32} {f0 f1 f2 f3 : Int32} (hn16 : n ≤ 16) (h14 : hn ≤ 14) (hb : bnd n hn sx sy px py pw) (hf : frm n sx sy sw f0 f1 f2 f3) (hbx : bxs cn bx cx0 cy0 cx1 cy1)
    (qs : Nat → Nat) (XX YY DD : Nat → Nat → Int32) (hX hY hF hs : Nat → Int32) (fw : Nat → Int32) (sq : Nat → Int32) (mq_ : Nat → Nat) (mX_ mY_ mD_ : Nat → Nat → Int32) (q2 : Nat → Nat) (X2 Y2 D2 : Nat → Nat → Int32) (FW : Nat → Int32) (nh : Nat) (zz : (Nat → Int32) × (Nat → Int32) × (Nat → Int32) × (Nat → Int32) × Nat)
    (hmq : mq_ = (fun h => ((fun h => mp_find sx sy sw (px h) (py h) (pw h) (mc_bar cx0 cy0 cx1 cy1 cn f0 f1 f2 f3) (XX h) (YY h) n) h).1)) (hmX : mX_ = (fun h => ((fun h => mp_find sx sy sw (px h) (py h) (pw h) (mc_bar cx0 cy0 cx1 cy1 cn f0 f1 f2 f3) (XX h) (YY h) n) h).2.1)) (hmY : mY_ = (fun h => ((fun h => mp_find sx sy sw (px h) (py h) (pw h) (mc_bar cx0 cy0 cx1 cy1 cn f0 f1 f2 f3) (XX h) (YY h) n) h).2.2))
    (hmD : mD_ = (fun h => mp_D (fun p => mp_bits (mp_F sx sy sw px py pw pd pf pt n h (((fun h => mp_find sx sy sw (px h) (py h) (pw h) (mc_bar cx0 cy0 cx1 cy1 cn f0 f1 f2 f3) (XX h) (YY h) n) h).2.1 p) (((fun h => mp_find sx sy sw (px h) (py h) (pw h) (mc_bar cx0 cy0 cx1 cy1 cn f0 f1 f2 f3) (XX h) (YY h) n) h).2.2 p)) h (hn - h)) (DD h) ((fun h => mp_find sx sy sw (px h) (py h) (pw h) (mc_bar cx0 cy0 cx1 cy1 cn f0 f1 f2 f3) (XX h) (YY h) n) h).1))
    (hq2 : q2 = dq_pw hn mq_ qs) (hX2 : X2 = dq_pw hn mX_ XX) (hY2 : Y2 = dq_pw hn mY_ YY) (hD2 : D2 = dq_pw hn mD_ DD) (hFW : FW = (mt_fill fw (dq_N D2) q2 (dq_df (2 ^ hn - 1) (mf_sg mq_ hn)))) (hnh : nh = (mp_n FW (dq_N D2) q2 X2 Y2 pf (hX, hY, hF, hs, (dq_df (2 ^ hn - 1) (mf_sg mq_ hn))))) (hzz : zz = (mp_pl FW (dq_N D2) q2 X2 Y2 pf (hX, hY, hF, hs, (dq_df (2 ^ hn - 1) (mf_sg mq_ hn))) nh))
    (SQ : Nat → Int32) (hSQ : (nh ≤ 10 ∧ ∃ sh8 : Nat → Int32, SQ = (mw_tk (mw_fill sh8 zz.1 zz.2.1 nh (2 ^ nh)) zz.1 zz.2.1 nh sq nh).1) ∨ (10 < nh ∧ SQ = mw_own sq nh)) :
    ∃ (HX HY HF : Nat → Int32) (HB oN : Nat → Nat), lkW n hn cn sx sy sw px py pw pd pf pt bx nh HX HY HF HB oN (mw_len zz.1 zz.2.1 (fun i => (SQ i).toNatClampNeg) nh).1 (mf_sg mq_ hn) ∧ nh ≤ 14 ∧ ∀ i, i < nh → zz.1 i = HX i ∧ zz.2.1 i = HY i ∧ zz.2.2.1 i = HF i ∧ zz.2.2.2.1 i = nI (HB i) ∧ SQ i = nI (oN i) ∧ HB i < 16384 := by
  have v : ∀ h, h < hn → q2 h = mq_ h ∧ X2 h = mX_ h ∧ Y2 h = mY_ h ∧ D2 h = mD_ h := fun h hh => by
    rw [hq2, hX2, hY2, hD2]
    exact ⟨if_pos hh, if_pos hh, if_pos hh, if_pos hh⟩
  have hP : ∀ h, h < hn → q2 h ≤ 16 ∧ sp_P sx sy sw n (px h) (py h) (pw h) (mb_bar sx sy sw n bx cn) (q2 h) (X2 h) (Y2 h) ∧ sp_bd sx sy sw n (px h) (py h) (pw h) := fun h hh => by
    obtain ⟨v1, v2, v3, -⟩ := v h hh
    have z := fi_ok hn16 hb hf hbx hh (XX h) (YY h)
    rw [v1, v2, v3, hmq, hmX, hmY]
    exact ⟨mp_find_le _ _ _ _ _ _ _ _ _ _, z⟩
  have hdrill : ∀ h, h < hn → ∀ p, p < q2 h → mp_F sx sy sw px py pw pd pf pt n h (X2 h p) (Y2 h p) h = true := fun h hh p hp => by
    obtain ⟨-, k, k1, k2, k3, k4⟩ := (hP h hh).2.1.2.1 p hp
    exact mp_F_self k1 hn16 k2 k3 k4
  obtain ⟨DM, hDM⟩ : ∃ DM : Nat → Nat → Nat, DM = fun h p => mp_bits (mp_F sx sy sw px py pw pd pf pt n h (X2 h p) (Y2 h p)) 0 hn := ⟨_, rfl⟩
  have hDb : ∀ h p j, (DM h p).testBit j = (decide (0 ≤ j) && decide (j < 0 + hn) && mp_F sx sy sw px py pw pd pf pt n h (X2 h p) (Y2 h p) j) := fun h p j => by
    rw [hDM]
    exact mp_bits_bit _ 0 hn j
  have hD : mk_ok DM q2 hn := fun h hh p hp => by
    rw [hDb, hdrill h hh p hp, decide_eq_true (Nat.zero_le h), decide_eq_true (show h < 0 + hn by omega)]
    rfl
  have hNb : ∀ h, h < hn → ∀ p, p < q2 h → ∀ j, (dq_N D2 h p).testBit j = (decide (h ≤ j) && decide (j < h + (hn - h)) && mp_F sx sy sw px py pw pd pf pt n h (X2 h p) (Y2 h p) j) := fun h hh p hp j => by
    obtain ⟨v1, v2, v3, v4⟩ := v h hh
    have e1 : D2 h p = nI (mp_bits (mp_F sx sy sw px py pw pd pf pt n h (X2 h p) (Y2 h p)) h (hn - h)) := by
      rw [v4, v2, v3, hmD, hmX, hmY]
      rw [v1, hmq] at hp
      exact if_pos hp
    have e2 : dq_N D2 h p = mp_bits (mp_F sx sy sw px py pw pd pf pt n h (X2 h p) (Y2 h p)) h (hn - h) := by
      unfold dq_N
      rw [e1]
      exact dq_N_nI (Nat.lt_of_lt_of_le (mp_bits_lt _ _ _) (Nat.pow_le_pow_right (by omega) (by omega)))
    rw [e2]
    exact mp_bits_bit _ h (hn - h) j
  have hk : mk_ok (dq_N D2) q2 hn := fun h hh p hp => by
    rw [hNb h hh p hp, hdrill h hh p hp, decide_eq_true (Nat.le_refl h), decide_eq_true (show h < h + (hn - h) by omega)]
    rfl
  have hB : ∀ h, h < hn → ∀ p, p < q2 h → ∀ j, h ≤ j → j < hn → (dq_N D2 h p).testBit j = (DM h p).testBit j := fun h hh p hp j h1 h2 => by
    rw [hNb h hh p hp, hDb, decide_eq_true h1, decide_eq_true (show j < h + (hn - h) by omega), decide_eq_true (Nat.zero_le j), decide_eq_true (show j < 0 + hn by omega)]
  have hsg : mf_sg mq_ hn = mf_sg q2 hn := mf_sg_congr fun i hi => (v i hi).1.symm
  obtain ⟨M, hM⟩ : ∃ M, M = dq_df (2 ^ hn - 1) (mf_sg q2 hn) := ⟨_, rfl⟩
  rw [hsg] at hFW hnh hzz ⊢
  rw [← hM] at hFW hnh hzz
  obtain ⟨p1, p2⟩ := pl_ok h14 hk hD hB hM hFW X2 Y2 pf (hX, hY, hF, hs, M) rfl nh hnh
  rw [← hzz] at p2
  obtain ⟨SS, hSS⟩ : ∃ SS, SS = pl_S FW (dq_N D2) q2 M := ⟨_, rfl⟩
  obtain ⟨pp, hpp⟩ : ∃ pp, pp = pl_p FW (dq_N D2) q2 M := ⟨_, rfl⟩
  rw [← hSS, ← hpp] at p1 p2
  have h14' := p1.2.2.1
  have hin : in_ok (fun i => X2 (dq_lo (SS i)) (pp i)) (fun i => Y2 (dq_lo (SS i)) (pp i)) nh := fun i hi => by
    obtain ⟨a1, a2, a3, -⟩ := p1.2.2.2 i hi
    obtain ⟨hlo, -, -⟩ := dq_lo_hn a1 a2 h14
    obtain ⟨z1, z2, z3⟩ := hP _ hlo
    obtain ⟨-, k, k1, k2, k3, k4⟩ := z2.2.1 _ a3
    obtain ⟨⟨w1, w2⟩, w3, w4⟩ := z3 k k1 k2
    show sp_in (X2 (dq_lo (SS i)) (pp i)) 20000 ∧ sp_in (Y2 (dq_lo (SS i)) (pp i)) 20000
    rw [k3, k4]
    exact ⟨⟨w1, w2⟩, w3, w4⟩
  have hinz : in_ok zz.1 zz.2.1 nh := fun i hi => by
    obtain ⟨q1, q2, -⟩ := p2 i hi
    rw [q1, q2]
    exact hin i hi
  have hez : ∀ tX tY, ar_eq (fun i => X2 (dq_lo (SS i)) (pp i)) (fun i => Y2 (dq_lo (SS i)) (pp i)) tX tY nh → ar_eq zz.1 zz.2.1 tX tY nh := fun tX tY h i hi => by
    obtain ⟨q1, q2, -⟩ := p2 i hi
    rw [q1, q2]
    exact h i hi
  have hzH : ar_eq (fun i => X2 (dq_lo (SS i)) (pp i)) (fun i => Y2 (dq_lo (SS i)) (pp i)) zz.1 zz.2.1 nh := fun i hi => by
    obtain ⟨q1, q2, -⟩ := p2 i hi
    exact ⟨q1, q2⟩
  have hHz : ar_eq zz.1 zz.2.1 (fun i => X2 (dq_lo (SS i)) (pp i)) (fun i => Y2 (dq_lo (SS i)) (pp i)) nh := fun i hi => by
    obtain ⟨q1, q2, -⟩ := p2 i hi
    exact ⟨q1.symm, q2.symm⟩
  -- the order
  obtain ⟨oN, hoN⟩ : ∃ oN : Nat → Nat, oN = fun i => (SQ i).toNatClampNeg := ⟨_, rfl⟩
  have hOrd : (nh ≤ 10 → ∀ tX tY, ar_eq (fun i => X2 (dq_lo (SS i)) (pp i)) (fun i => Y2 (dq_lo (SS i)) (pp i)) tX tY nh → mo_O tX tY (wG (fun i => X2 (dq_lo (SS i)) (pp i)) (fun i => Y2 (dq_lo (SS i)) (pp i)) nh) oN (w_V oN) nh) ∧ (∀ i, i < nh → oN i < nh ∧ SQ i = nI (oN i)) ∧ (10 < nh → ∀ i, i < nh → oN i = i) := by
    rcases hSQ with ⟨s1, sh8, s2⟩ | ⟨s1, s2⟩
    · have hfill := mw_fill_ok (show nh ≤ 14 by omega) hinz sh8 (2 ^ nh) (Nat.le_refl _)
      have hww : wG zz.1 zz.2.1 nh = wG zz.1 zz.2.1 nh := rfl
      refine ⟨fun _ tX tY he => ?_, ?_, fun h => absurd h (by omega)⟩
      · have hd := od_ok s1 hinz (hez tX tY he) hfill sq oN (by rw [hoN, s2])
        refine ⟨hd.1.1, fun i hi => ?_⟩
        obtain ⟨o1, o2, o3, o4, o5⟩ := hd.1.2 i hi
        refine ⟨o1, o2, o3, o4, fun k hk hb => ?_⟩
        have hG : ∀ S t, S < 2 ^ nh → t < nh → wG (fun i => X2 (dq_lo (SS i)) (pp i)) (fun i => Y2 (dq_lo (SS i)) (pp i)) nh S t = wG zz.1 zz.2.1 nh S t := wG_congr (by omega) hinz hHz
        have e : ∀ k, k < nh → mo_c tX tY (wG (fun i => X2 (dq_lo (SS i)) (pp i)) (fun i => Y2 (dq_lo (SS i)) (pp i)) nh) oN (w_V oN) i k = mo_c tX tY (wG zz.1 zz.2.1 nh) oN (w_V oN) i k := fun k hk => by
          unfold mo_c
          rw [hG _ k (dq_or_lt o4 hk) hk]
        rw [e _ o1, e k hk]
        exact o5 k hk hb
      · have hd := od_ok s1 hinz (hez _ _ hzH) hfill sq oN (by rw [hoN, s2])
        intro i hi
        obtain ⟨d1, d2⟩ := hd.2 i hi
        rw [s2]
        exact ⟨d1, d2⟩
    · have hi : ∀ i, i < nh → SQ i = nI i := fun i hi => by
        rw [s2]
        exact if_pos hi
      have ho : ∀ i, i < nh → oN i = i := fun i h => by
        rw [hoN]
        show (SQ i).toNatClampNeg = i
        rw [hi i h, nI_clamp (by omega)]
      refine ⟨fun h => absurd h (by omega), fun i h => ?_, fun _ => ho⟩
      rw [ho i h]
      exact ⟨h, hi i h⟩
  obtain ⟨r1, r2, r3⟩ := hOrd
  refine ⟨fun i => X2 (dq_lo (SS i)) (pp i), fun i => Y2 (dq_lo (SS i)) (pp i), fun i => pf (dq_lo (SS i)), fun i => SS i &&& DM (dq_lo (SS i)) (pp i), oN, ⟨q2, X2, Y2, DM, ff DM q2, SS, pp, w_V oN, fun h hh => ?_, rfl, fun S h0 hS => ff_rec h14 hD h0 hS, p1, rfl, rfl, rfl, rfl, hin, r1, fun i hi => (r2 i hi).1, r3, ?_, rfl⟩, h14', fun i hi => ?_⟩
  · obtain ⟨z1, z2, z3⟩ := hP h hh
    refine ⟨z1, z2, z3, fun p hp => ⟨?_, hD h hh p hp⟩⟩
    rw [hDM]
  · rw [← hoN, mw_len_ok hinz hHz nh (fun j hj => (r2 j hj).1)]
  · obtain ⟨q1, q2, q3, q4⟩ := p2 i hi
    obtain ⟨a1, a2, -⟩ := p1.2.2.2 i hi
    have a3 : SS i < 16384 := Nat.lt_of_lt_of_le a2 (Nat.le_trans (Nat.pow_le_pow_right (by omega) h14) (Nat.le_refl 16384))
    exact ⟨q1, q2, q3, q4, (r2 i hi).2, Nat.lt_of_le_of_lt Nat.and_le_left a3⟩
