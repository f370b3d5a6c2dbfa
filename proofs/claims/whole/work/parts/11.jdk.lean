theorem dq_ofiF {l : Launch} {y : MethodName} {ws ws' : List Cond} {rm : Room} {D : va_G} {cl : List vw_C} {tys : List (ClassId × FieldType)} {ad : Nat → Nat} {w : Nat → Option va_E} {sz : Nat} {av : List Value} {post : Int32 → (Nat → Option va_E) → Prop} {mc ms : Nat} {cc : ByteArray} {maxL : Nat} (hy : plainFor y = true) (hw : ws = Cond.code y cc maxL (some .int) :: ws') (hav : (lg_sl av).length ≤ maxL)
    (body : ∀ (p : Program) (e : Env) (s : State) (m : MethodId) (below : List Frame) (meth : Method) (c : Code) (A : Nat → Prop) (Q : State → Prop) (ls : Array Slot), CallFix p m c cc maxL s av.toArray ws y.cls → meth.name = y.name → (∀ q, s.heap.size ≤ q → A q) → dq_W D cl ad w A s.heap → va_K D cl tys s → dq_Z A s s.heap → lv_has ls maxL (lv_args 0 av) →
      (∀ (v : Int32) (u : (Nat → Option va_E)) (H : Heap) (locs : List Loc) (pc : Nat) (ls : Array Slot), post v u → dq_W D cl ad u A H → va_S A s.heap H locs → decode cc pc = .ok (.ireturn, 1) → W p l e rm s m av.toArray below meth c H locs mc ms Q (F0 m pc ls [.int v])) →
      W p l e rm s m av.toArray below meth c s.heap [] 0 0 Q (F0 m 0 ls [])) : Met l y ws rm (va_Pc av (dq_S D cl tys ad w sz)) (va_Qi post (dq_B D cl tys ad (dq_A ad w sz)) (dq_A ad w sz)) mc ms (dq_A ad w sz) := by
  refine va_MetF (cc := cc) (maxL := maxL) (ret := (some .int)) hy hw ?_
  intro p e s m args below meth c s₁ B hml hv
  obtain ⟨rfl, rfl, hW0, hK, hZ⟩ := hv
  have hlocks := B.notSynchronized
  have hts := atoms_spec (ws := ws) B.pre
  have hown : s.vm.findClass y.cls = some m.cls := findClass_of_methodNamed B.named
  rw [lg_entry_eq]
  refine body p e s m below meth c (dq_A ad w s.heap.size) _ _ ⟨B.exec, B.bytes, hml, hown, hts⟩ (name_of_methodNamed B.named B.method).1 (fun q h => Or.inr h) hW0.self hK hZ (lv_entry av hav) ?_
  intro v u H locs pc ls hp hW hS hd
  exact W.iret (v := v) B.exec B.bytes B.returns (fun t ht hw9 => ⟨⟨v, u, rfl, hp, by rw [ht]; exact hW, va_K.moved hw9.alike hK⟩, hS.F ht⟩) hS.2.2 hd
theorem dq_giS3 {c0 cw : Cond} {own : String} {idx : Nat} {y : MethodName} (h1 : Cond.methodLink own idx y ∈ dq_G) (h2 : Cond.static y ∈ dq_G) (h4 : Cond.initialized y.cls ∈ dq_G) (h5 : cw ∈ dq_G) : GoodIn (c0 :: dq_G) (va_wsS own idx y (cw :: dq_G)) := by
  refine dq_giS (fun w h => List.mem_cons_of_mem _ h) (fun w hw => ?_)
  simp only [va_wsS, List.cons_append, List.nil_append, List.mem_cons] at hw
  rcases hw with rfl | rfl | rfl | rfl | hw
  · exact h1
  · exact h2
  · exact h4
  · exact h5
  · exact hw
/-- Integer.numberOfTrailingZeros, from its middle on -/
abbrev dq_us (x k : Int32) : Int32 := (x.toUInt32 >>> (k.toUInt32 &&& Int32.toUInt32 31)).toInt32
def mi_74 (v n : Int32) : Int32 := n + dq_us v 1
def mi_62 (v n : Int32) : Int32 := if v ≤ 4 then mi_74 v n else mi_74 (dq_us v 2) (n + 2)
def mi_49 (v n : Int32) : Int32 := if v ≤ 16 then mi_62 v n else mi_62 (dq_us v 4) (n + 4)
def mi_34 (v n : Int32) : Int32 := if v ≤ 256 then mi_49 v n else mi_49 (dq_us v 8) (n + 8)
def mi_19 (v n : Int32) : Int32 := if v ≤ 65536 then mi_34 v n else mi_34 (dq_us v 16) (n + 16)
def mi_ntz (v : Int32) : Int32 := if 0 < v then mi_19 v 1 else v &&& 32
theorem mi_ntz_k : ∀ k, k < 14 → mi_ntz (nI (2 ^ k - 1)) = nI k := by decide +kernel
/-- the least bit, by halves -/
def dq_l2 : Nat → Nat → Nat
  | 0, _ => 0
  | f + 1, S => if S % 2 = 1 then 0 else dq_l2 f (S / 2) + 1
set_option maxRecDepth 100000 in
theorem mi_low : ∀ a, a < 128 → ∀ b, b < 128 → (128 * a + b = 0 ∨ (((128 * a + b) ^^^ 4294967295) &&& (128 * a + b - 1) = 2 ^ dq_l2 14 (128 * a + b) - 1 ∧ dq_l2 14 (128 * a + b) < 14 ∧ (128 * a + b).testBit (dq_l2 14 (128 * a + b)) = true ∧ (128 * a + b) % 2 ^ dq_l2 14 (128 * a + b) = 0)) := by decide +kernel
theorem dq_lo_l2 {S : Nat} (h0 : 0 < S) (h : S < 16384) : dq_lo S = dq_l2 14 S ∧ dq_lo S < 14 ∧ S.testBit (dq_lo S) = true ∧ (S ^^^ 4294967295) &&& (S - 1) = 2 ^ dq_lo S - 1 := by
  have h1 := mi_low (S / 128) (by omega) (S % 128) (Nat.mod_lt _ (by omega))
  rw [show 128 * (S / 128) + S % 128 = S by omega] at h1
  rcases h1 with h1 | ⟨e1, e2, e3, e4⟩
  · omega
  · have e5 : dq_lo S = dq_l2 14 S := by
      refine dq_fn_eq (by omega) (fun i hi => ?_) (fun _ => e3)
      have h5 : S = 2 ^ dq_l2 14 S * (S / 2 ^ dq_l2 14 S) := by
        have := Nat.div_add_mod S (2 ^ dq_l2 14 S)
        rw [e4] at this
        omega
      rw [h5, Nat.testBit_two_pow_mul]
      simp [Nat.not_le.mpr hi]
    exact ⟨e5, by rw [e5]; exact e2, by rw [e5]; exact e3, by rw [e5]; exact e1⟩
theorem mi_ntz_lo {S : Nat} (h0 : 0 < S) (h : S < 16384) : mi_ntz ((nI S ^^^ (-1)) &&& (nI S - 1)) = nI (dq_lo S) := by
  obtain ⟨-, e2, -, e4⟩ := dq_lo_l2 h0 h
  have h1 : (nI S ^^^ (-1)) &&& (nI S - 1) = nI ((S ^^^ 4294967295) &&& (S - 1)) := by
    show (nI S ^^^ nI 4294967295) &&& (nI S - nI 1) = _
    rw [nx_xor, pk_sub h0, nx_and]
  rw [h1, e4]
  exact mi_ntz_k _ e2
def mi_bc (x : Int32) : Int32 :=
  let x1 := x - (dq_us x 1 &&& 1431655765)
  let x2 := (x1 &&& 858993459) + (dq_us x1 2 &&& 858993459)
  let x3 := (x2 + dq_us x2 4) &&& 252645135
  let x4 := x3 + dq_us x3 8
  let x5 := x4 + dq_us x4 16
  x5 &&& 63
/-- how many of the bits 0 .. n - 1 a number has -/
def dq_pc (S : Nat) : Nat → Nat
  | 0 => 0
  | n + 1 => if S.testBit n = true then dq_pc S n + 1 else dq_pc S n
theorem dq_usN {a k : Nat} (ha : a < 2 ^ 32) (hk : k < 32) : dq_us (nI a) (nI k) = nI (a / 2 ^ k) := pk_ushrN ha _ k ((by decide +kernel : ∀ n, n < 32 → (((nI n).toUInt32 &&& Int32.toUInt32 31).toBitVec % 32).toNat = n) k hk)
def mi_bN (x : Nat) : Nat :=
  let x1 := x - (x / 2 &&& 1431655765)
  let x2 := (x1 &&& 858993459) + (x1 / 4 &&& 858993459)
  let x3 := (x2 + x2 / 16) &&& 252645135
  let x4 := x3 + x3 / 256
  let x5 := x4 + x4 / 65536
  x5 &&& 63
def dq_p2 : Nat → Nat → Nat
  | 0, _ => 0
  | f + 1, S => S % 2 + dq_p2 f (S / 2)
set_option maxRecDepth 100000 in
theorem mi_bN_at : ∀ a, a < 128 → ∀ b, b < 128 → mi_bN (128 * a + b) = dq_p2 14 (128 * a + b) := by decide +kernel
theorem mi_bc_N {S : Nat} (h : S < 16384) : mi_bc (nI S) = nI (mi_bN S) := by
  have a1 : S / 2 &&& 1431655765 ≤ S / 2 := Nat.and_le_left
  have e1 : nI S - (dq_us (nI S) 1 &&& 1431655765) = nI (S - (S / 2 &&& 1431655765)) := by
    show nI S - (dq_us (nI S) (nI 1) &&& nI 1431655765) = _
    rw [dq_usN (by omega) (by omega), nx_and, pk_sub (Nat.le_trans a1 (Nat.div_le_self _ _))]
  unfold mi_bc mi_bN
  dsimp only
  rw [e1]
  generalize hx1 : S - (S / 2 &&& 1431655765) = x1
  have b1 : x1 < 16384 := by omega
  have a2 : x1 &&& 858993459 ≤ x1 := Nat.and_le_left
  have a3 : x1 / 4 &&& 858993459 ≤ x1 / 4 := Nat.and_le_left
  have e2 : (nI x1 &&& 858993459) + (dq_us (nI x1) 2 &&& 858993459) = nI ((x1 &&& 858993459) + (x1 / 4 &&& 858993459)) := by
    show (nI x1 &&& nI 858993459) + (dq_us (nI x1) (nI 2) &&& nI 858993459) = _
    rw [dq_usN (by omega) (by omega), nx_and, nx_and, nI_add]
  rw [e2]
  generalize hx2 : (x1 &&& 858993459) + (x1 / 4 &&& 858993459) = x2
  have b2 : x2 < 32768 := by omega
  have e3 : (nI x2 + dq_us (nI x2) 4) &&& 252645135 = nI ((x2 + x2 / 16) &&& 252645135) := by
    show (nI x2 + dq_us (nI x2) (nI 4)) &&& nI 252645135 = _
    rw [dq_usN (by omega) (by omega), nI_add, nx_and]
  rw [e3]
  have a4 : (x2 + x2 / 16) &&& 252645135 ≤ x2 + x2 / 16 := Nat.and_le_left
  generalize hx3 : (x2 + x2 / 16) &&& 252645135 = x3 at a4
  have b3 : x3 < 65536 := by omega
  have e4 : nI x3 + dq_us (nI x3) 8 = nI (x3 + x3 / 256) := by
    show nI x3 + dq_us (nI x3) (nI 8) = _
    rw [dq_usN (by omega) (by omega), nI_add]
  rw [e4]
  generalize hx4 : x3 + x3 / 256 = x4
  have e5 : nI x4 + dq_us (nI x4) 16 = nI (x4 + x4 / 65536) := by
    show nI x4 + dq_us (nI x4) (nI 16) = _
    rw [dq_usN (by omega) (by omega), nI_add]
  rw [e5]
  show _ &&& nI 63 = _
  rw [nx_and]
theorem dq_pc_s (S n : Nat) : dq_pc S (n + 1) = S % 2 + dq_pc (S / 2) n := by
  induction n with
  | zero =>
    show (if S.testBit 0 = true then 0 + 1 else 0) = S % 2 + 0
    rw [Nat.testBit_zero]
    rcases (show S % 2 = 0 ∨ S % 2 = 1 by omega) with h | h <;> rw [h] <;> rfl
  | succ n ih =>
    show (if S.testBit (n + 1) = true then dq_pc S (n + 1) + 1 else dq_pc S (n + 1)) = S % 2 + (if (S / 2).testBit n = true then dq_pc (S / 2) n + 1 else dq_pc (S / 2) n)
    rw [Nat.testBit_succ, ih]
    split <;> omega
theorem dq_pc_p2 (n S : Nat) : dq_pc S n = dq_p2 n S := by
  induction n generalizing S with
  | zero => rfl
  | succ n ih =>
    rw [dq_pc_s, ih]
    rfl
theorem mi_bc_pc {S : Nat} (h : S < 16384) : mi_bc (nI S) = nI (dq_pc S 14) := by
  have h1 := mi_bN_at (S / 128) (by omega) (S % 128) (Nat.mod_lt _ (by omega))
  rw [show 128 * (S / 128) + S % 128 = S by omega] at h1
  rw [mi_bc_N h, h1, dq_pc_p2]
