/-! PURE: the class's places are those of the specification -/
theorem i32_add {a b : Int32} (h1 : -2147483648 ≤ a.toInt + b.toInt) (h2 : a.toInt + b.toInt < 2147483648) : (a + b).toInt = a.toInt + b.toInt := by
  rw [Int32.toInt_add]
  exact Int.bmod_eq_of_le (by omega) (by omega)
theorem i32_sub {a b : Int32} (h1 : -2147483648 ≤ a.toInt - b.toInt) (h2 : a.toInt - b.toInt < 2147483648) : (a - b).toInt = a.toInt - b.toInt := by
  rw [Int32.toInt_sub]
  exact Int.bmod_eq_of_le (by omega) (by omega)
theorem i32_neg {a : Int32} (h1 : -2147483648 < a.toInt) : (-a).toInt = -a.toInt := by
  have h2 := sp_b32 a
  rw [Int32.toInt_neg]
  exact Int.bmod_eq_of_le (by omega) (by omega)
theorem dq_fn_spec (P : Nat → Bool) (n : Nat) : (∀ i, i < dq_fn P n → P i = false) ∧ (dq_fn P n < n → P (dq_fn P n) = true) ∧ dq_fn P n ≤ n := by
  unfold dq_fn
  cases h : (List.range n).find? P with
  | none =>
    rw [List.find?_eq_none] at h
    refine ⟨fun i hi => ?_, fun h2 => absurd h2 (Nat.lt_irrefl n), Nat.le_refl n⟩
    have := h i (List.mem_range.mpr hi)
    simpa using this
  | some k =>
    rw [List.find?_range_eq_some] at h
    obtain ⟨h1, h2, h3⟩ := h
    have hk := List.mem_range.mp h2
    refine ⟨fun i hi => ?_, fun _ => h1, Nat.le_of_lt hk⟩
    have := h3 i hi
    simpa using this
theorem mp_lt_key (X Y : Nat → Int32) (a b : Int32) (i : Nat) : mp_lt X Y a b i = true ↔ sp_key (X i) (Y i) < sp_key a b := sp_lt_key (X i) (Y i) a b
theorem sp_ins {hx hy hw : Nat → Int32} {k : Nat} {a b wd : Int32} {bar : Int32 → Int32 → Bool} {r : Nat × (Nat → Int32) × (Nat → Int32)} (hk : hw k = wd) (hb : bar (a - hx k) (b - hy k) = false) (hq : r.1 ≤ k) (hk16 : k < 16) (hP : sp_P hx hy hw k a b wd bar r.1 r.2.1 r.2.2) :
    sp_P hx hy hw (k + 1) a b wd bar (mp_ins r (a - hx k) (b - hy k)).1 (mp_ins r (a - hx k) (b - hy k)).2.1 (mp_ins r (a - hx k) (b - hy k)).2.2 ∧ (mp_ins r (a - hx k) (b - hy k)).1 ≤ k + 1 := by
  obtain ⟨q, X, Y⟩ := r
  dsimp only at hq hP
  generalize hA : a - hx k = A at hb
  generalize hB : b - hy k = B at hb
  obtain ⟨s1, s2, s3⟩ := hP
  obtain ⟨f1, f2, f3⟩ := dq_fn_spec (fun i => !(mp_lt X Y A B i)) q
  have ht : mp_at q X Y A B = dq_fn (fun i => !(mp_lt X Y A B i)) q := rfl
  generalize dq_fn (fun i => !(mp_lt X Y A B i)) q = t at f1 f2 f3 ht
  have g1 : ∀ i, i < t → sp_key (X i) (Y i) < sp_key A B := fun i hi => by
    have := f1 i hi
    rw [Bool.not_eq_false'] at this
    exact (mp_lt_key X Y A B i).mp this
  have g2 : t < q → sp_key A B ≤ sp_key (X t) (Y t) := fun h => by
    have := f2 h
    rw [Bool.not_eq_true', ← Bool.not_eq_true, mp_lt_key] at this
    omega
  unfold mp_ins
  dsimp only
  rw [ht]
  by_cases hc : (t < q ∧ X t = A ∧ Y t = B) ∨ 16 ≤ q
  · rw [if_pos hc]
    have hc' : t < q ∧ X t = A ∧ Y t = B := by
      rcases hc with hc | hc
      · exact hc
      · omega
    refine ⟨⟨s1, fun i hi => ?_, fun k2 hk2 h2 h3 => ?_⟩, by dsimp only; omega⟩
    · obtain ⟨z0, k2, z1, z2⟩ := s2 i hi
      exact ⟨z0, k2, Nat.lt_succ_of_lt z1, z2⟩
    · by_cases e : k2 = k
      · subst e
        exact ⟨t, hc'.1, hc'.2.1.trans hA.symm, hc'.2.2.trans hB.symm⟩
      · exact s3 k2 (by omega) h2 h3
  · rw [if_neg hc]
    dsimp only
    have hne : t < q → sp_key A B < sp_key (X t) (Y t) := fun h => by
      have h2 := g2 h
      rcases Int.lt_or_eq_of_le h2 with h3 | h3
      · exact h3
      · obtain ⟨e1, e2⟩ := sp_key_inj h3
        exact absurd (Or.inl ⟨h, e1.symm, e2.symm⟩) hc
    have hlater : ∀ i, t ≤ i → i < q → sp_key A B < sp_key (X i) (Y i) := fun i h1 h2 => by
      by_cases e : t = i
      · subst e
        exact hne h2
      · exact Int.lt_trans (hne (by omega)) (s1 t i (by omega) h2)
    have v1 : ∀ j, j < t → mp_sh X t q A j = X j ∧ mp_sh Y t q B j = Y j := fun j hj => ⟨if_pos hj, if_pos hj⟩
    have v2 : mp_sh X t q A t = A ∧ mp_sh Y t q B t = B := by
      unfold mp_sh
      rw [if_neg (Nat.lt_irrefl t), if_pos rfl, if_neg (Nat.lt_irrefl t), if_pos rfl]
      exact ⟨rfl, rfl⟩
    have v3 : ∀ j, t < j → j ≤ q → mp_sh X t q A j = X (j - 1) ∧ mp_sh Y t q B j = Y (j - 1) := fun j h1 h2 => by
      unfold mp_sh
      rw [if_neg (by omega), if_neg (by omega), if_pos h2, if_neg (by omega), if_neg (by omega), if_pos h2]
      exact ⟨rfl, rfl⟩
    refine ⟨⟨fun i j hij hj => ?_, fun i hi => ?_, fun k2 hk2 h2 h3 => ?_⟩, by omega⟩
    · rcases Nat.lt_trichotomy i t with hi | hi | hi
      · rw [(v1 i hi).1, (v1 i hi).2]
        rcases Nat.lt_trichotomy j t with h | h | h
        · rw [(v1 j h).1, (v1 j h).2]
          exact s1 i j hij (by omega)
        · subst h
          rw [v2.1, v2.2]
          exact g1 i hi
        · rw [(v3 j h (by omega)).1, (v3 j h (by omega)).2]
          exact Int.lt_trans (g1 i hi) (hlater (j - 1) (by omega) (by omega))
      · subst hi
        rw [v2.1, v2.2, (v3 j hij (by omega)).1, (v3 j hij (by omega)).2]
        exact hlater (j - 1) (by omega) (by omega)
      · rw [(v3 i hi (by omega)).1, (v3 i hi (by omega)).2, (v3 j (by omega) (by omega)).1, (v3 j (by omega) (by omega)).2]
        exact s1 (i - 1) (j - 1) (by omega) (by omega)
    · rcases Nat.lt_trichotomy i t with h | h | h
      · rw [(v1 i h).1, (v1 i h).2]
        obtain ⟨z0, k2, z1, z2⟩ := s2 i (by omega)
        exact ⟨z0, k2, Nat.lt_succ_of_lt z1, z2⟩
      · subst h
        rw [v2.1, v2.2]
        exact ⟨hb, k, Nat.lt_succ_self k, hk, hA.symm, hB.symm⟩
      · rw [(v3 i h (by omega)).1, (v3 i h (by omega)).2]
        obtain ⟨z0, k2, z1, z2⟩ := s2 (i - 1) (by omega)
        exact ⟨z0, k2, Nat.lt_succ_of_lt z1, z2⟩
    · by_cases e : k2 = k
      · subst e
        exact ⟨t, by omega, v2.1.trans hA.symm, v2.2.trans hB.symm⟩
      · obtain ⟨i, z1, z2, z3⟩ := s3 k2 (by omega) h2 h3
        by_cases h : i < t
        · exact ⟨i, by omega, (v1 i h).1.trans z2, (v1 i h).2.trans z3⟩
        · refine ⟨i + 1, by omega, ?_, ?_⟩
          · rw [(v3 (i + 1) (by omega) (by omega)).1]
            exact z2
          · rw [(v3 (i + 1) (by omega) (by omega)).2]
            exact z3
theorem sp_find (hx hy hw : Nat → Int32) (a b wd : Int32) (bar : Int32 → Int32 → Bool) (X Y : Nat → Int32) (n : Nat) (hn : n ≤ 16) : ∀ k, k ≤ n → sp_P hx hy hw k a b wd bar (mp_find hx hy hw a b wd bar X Y k).1 (mp_find hx hy hw a b wd bar X Y k).2.1 (mp_find hx hy hw a b wd bar X Y k).2.2 ∧ (mp_find hx hy hw a b wd bar X Y k).1 ≤ k := by
  intro k
  induction k with
  | zero =>
    intro _
    exact ⟨⟨fun i j _ h => absurd h (Nat.not_lt_zero j), fun i h => absurd h (Nat.not_lt_zero i), fun i h => absurd h (Nat.not_lt_zero i)⟩, Nat.le_refl 0⟩
  | succ k ih =>
    intro hk
    obtain ⟨hP, hq⟩ := ih (by omega)
    have up : (hw k = wd → bar (a - hx k) (b - hy k) = true) → sp_P hx hy hw (k + 1) a b wd bar (mp_find hx hy hw a b wd bar X Y k).1 (mp_find hx hy hw a b wd bar X Y k).2.1 (mp_find hx hy hw a b wd bar X Y k).2.2 := fun hno => by
      obtain ⟨s1, s2, s3⟩ := hP
      refine ⟨s1, fun i hi => ?_, fun k2 hk2 h2 h3 => ?_⟩
      · obtain ⟨z0, k2, z1, z2⟩ := s2 i hi
        exact ⟨z0, k2, Nat.lt_succ_of_lt z1, z2⟩
      · by_cases e : k2 = k
        · subst e
          rw [hno h2] at h3
          exact absurd h3 (by decide)
        · exact s3 k2 (by omega) h2 h3
    by_cases h1 : hw k = wd
    · by_cases h2 : bar (a - hx k) (b - hy k) = true
      · have e : mp_find hx hy hw a b wd bar X Y (k + 1) = mp_find hx hy hw a b wd bar X Y k := by
          show (if hw k = wd then (if bar (a - hx k) (b - hy k) = true then _ else _) else _) = _
          rw [if_pos h1, if_pos h2]
        rw [e]
        exact ⟨up (fun _ => h2), by omega⟩
      · have e : mp_find hx hy hw a b wd bar X Y (k + 1) = mp_ins (mp_find hx hy hw a b wd bar X Y k) (a - hx k) (b - hy k) := by
          show (if hw k = wd then (if bar (a - hx k) (b - hy k) = true then _ else _) else _) = _
          rw [if_pos h1, if_neg h2]
        rw [e]
        exact sp_ins h1 (by simpa using h2) hq (by omega) hP
    · have e : mp_find hx hy hw a b wd bar X Y (k + 1) = mp_find hx hy hw a b wd bar X Y k := by
        show (if hw k = wd then (if bar (a - hx k) (b - hy k) = true then _ else _) else _) = _
        rw [if_neg h1]
      rw [e]
      exact ⟨up (fun h => absurd h h1), by omega⟩
/-- the specification asks only for the bars at candidates -/
theorem sp_P_bar {sx sy sw : Nat → Int32} {n : Nat} {a b wd : Int32} {bar bar' : Int32 → Int32 → Bool} {q : Nat} {X Y : Nat → Int32} (h : ∀ k, k < n → sw k = wd → bar (a - sx k) (b - sy k) = bar' (a - sx k) (b - sy k)) (hP : sp_P sx sy sw n a b wd bar q X Y) : sp_P sx sy sw n a b wd bar' q X Y := by
  obtain ⟨s1, s2, s3⟩ := hP
  refine ⟨s1, fun i hi => ?_, fun k hk h2 h3 => s3 k hk h2 ((h k hk h2).trans h3)⟩
  obtain ⟨z0, k, z1, z2, z3, z4⟩ := s2 i hi
  refine ⟨?_, k, z1, z2, z3, z4⟩
  rw [z3, z4] at z0 ⊢
  rw [← h k z1 z2]
  exact z0
