/-! OWN LAYER: the throw itself, and contracts out of a walk that ends in one -/
theorem dx_same {s U : State} {cells slots : Nat} (h : s.sameButNew ({ U with vm := s.vm } : State) [] cells slots) : s.heap.size ≤ U.heap.size ∧ ∀ x : Nat, x < s.heap.size → U.heap[x]? = s.heap[x]? := by
  obtain ⟨z1, z2, z3, z4, z5, z6⟩ := h
  have key : ∀ x : Nat, x < s.heap.size → U.heap[x]? = s.heap[x]? := by
    intro x hx
    have e0 : s.heap[x]? = some s.heap[x] := Array.getElem?_eq_getElem hx
    obtain ⟨c', h1, h2, h3, h4⟩ := z6 x _ e0
    have h1' : U.heap[x]? = some c' := h1
    have e1 : c'.slots = s.heap[x].slots := Array.ext_getElem? fun i => h4 i (by simp)
    rw [h1', e0, h2, e1]
  refine ⟨?_, key⟩
  by_cases h0 : s.heap.size = 0
  · omega
  · have hk := key (s.heap.size - 1) (by omega)
    rw [Array.getElem?_eq_getElem (show s.heap.size - 1 < s.heap.size by omega)] at hk
    have := (Array.getElem?_eq_some_iff.mp hk).1
    omega
section DX2
variable {p : Program} {l : Launch} {e : Env} {R : Room} {s : State} {m : MethodId} {args : Array Value} {below : List Frame} {meth : Method} {c : Code} {H : Heap} {locs : List Loc} {cells slots : Nat} {Q : State → Prop}
variable {y : MethodName} {cc : ByteArray} {nL mc ms : Nat} {X : String → State → Prop} {A : Nat → Prop} {own cls tx : String} {pc : Nat} {ls : Array Slot}
/-- 'throw new E(text)' where nothing was changed yet -/
theorem dx_throw {names : List String} {ix ik ic : Nat} (htr : l.stackTraces = false) (hx : p.tables.exec = Jvm.exec) (hb : c.code = cc) (hml : c.maxLocals = nL) (hown : s.vm.findClass own = some m.cls)
    (hlink : (Cond.classLink own ix cls).before args s = true) (hinst : (Cond.instantiable cls 6).before args s = true) (hini : (Cond.initialized cls).before args s = true) (hZ : ∃ sa : Nat, vk_R own ik tx sa s)
    (hat : ∀ w ∈ Bundle.ownAtoms own ic cls names, w.before args s = true) (hcls : Bundle.fit cls = true) (hnames : ∀ n ∈ names, Bundle.fit n = true) (hsize : ls.size = nL)
    (d0 : decode cc pc = .ok (.new ix, 3)) (d1 : decode cc (pc + 3) = .ok (.dup, 1)) (d2 : decode cc (pc + 4) = .ok (.ldc ik, 2)) (d3 : decode cc (pc + 6) = .ok (.invokespecial ic, 3)) (d4 : decode cc (pc + 9) = .ok (.athrow, 1))
    (hout : ∀ x ∈ c.exceptionTable.toList, False) (hlocks : meth.locks = false) (hR : names.length + 3 < R.frames ∧ 1 + (13 * (names.length + 1) + 42) ≤ R.locals ∧ 1 ≤ R.cells ∧ 6 ≤ R.slots) (hm : 1 ≤ mc ∧ 6 ≤ ms)
    (hX : ∀ t : State, (∀ x : Nat, x < s.heap.size → t.heap[x]? = s.heap[x]?) → s.vm.Alike t.vm → X cls t) : W p l e R s m args below meth c s.heap [] 0 0 (dx_Q below X A s mc ms) (F0 m pc ls []) := by
  subst hb
  intro T hT S
  obtain ⟨sa, hs1, hs2⟩ := hZ
  have htr' : e.platform.stackTraces = false := by rw [S.admits.platform]; exact htr
  obtain ⟨vm₁, cX, kX, hfX, hkX, -, -, X₁, st1⟩ := S.newCold hx (own := own) (C := cls) (index := ix) (n := 6) hown hlink hinst hini (g := F0 m pc ls []) rfl d0 (by omega) (by omega)
  generalize hT1 : (T.setVm vm₁).pushCell { cls := cX, slots := kX.instanceTypes.map defaultValue, vm := .none } = T1 at X₁ st1
  have hcellA : T1.heap[T.heap.size]? = some (freshCell cX kX) := by rw [← hT1]; exact State.heap_pushCell_size _ _
  have st2 := X₁.ldcString hx (own := own) (text := tx) (index := ik) (a := sa) hown hs1 hs2 (g := F0 m (pc + 4) ls [.ref T.heap.size, .ref T.heap.size]) rfl d2
  obtain ⟨U, hsteps, hrun, hend, hW, hsame, ce, hce, K⟩ := X₁.ctorThrowS hx htr' (own := own) (cls := cls) (names := names) (ic := ic) hown hcls hnames hat (fun y hy => by cases hy) hfX hkX hcellA (by rw [hT]; exact Nat.le_refl _) (msg := .ref sa) rfl
    (g := F0 m (pc + 6) ls [.ref sa, .ref T.heap.size, .ref T.heap.size]) rfl (hsize.trans hml.symm) rfl rfl (rest := []) rfl d3 d4 (fun x hx => (hout x hx).elim) hR.1 (by simpa [JFrame.monitorRoom, F0, Value.category] using hR.2.1) hlocks
  obtain ⟨hz, hk⟩ := dx_same hsame
  refine ⟨U, ?_, T.heap.size, hrun, hend, cls, ce, [], hX U hk hW.alike, ⟨hz, fun z h1 _ => hk z h1⟩, hce, K.vm, K.cls, hW, hsame.mono (by omega) (by omega), fun z hz => by cases hz⟩
  refine st1 _ ?_
  show Steps p.tables e below (T1.setTop (F0 m (pc + 3) ls [.ref T.heap.size])) U
  unfold F0
  jvm_step X₁.here [X₁.here.top, hx, d1, Value.category]
  exact st2 _ hsteps
end DX2
theorem dx_of {l : Launch} {y : MethodName} {ws ws' : List Cond} {rm : Room} {D : va_G} {cl : List vw_C} {tys : List (ClassId × FieldType)} {ad : Nat → Nat} {w : Nat → Option va_E} {sz : Nat} {av : List Value} {ex : String → Prop} {mc ms : Nat} {cc : ByteArray} {maxL : Nat} {ret : Option FieldType} (hy : plainName y.cls = true) (hw : ws = Cond.code y cc maxL ret :: ws') (hav : (lg_sl av).length ≤ maxL)
    (body : ∀ (p : Program) (e : Env) (s : State) (m : MethodId) (below : List Frame) (meth : Method) (c : Code) (A : Nat → Prop) (ls : Array Slot), CallFix p m c cc maxL s av.toArray ws y.cls → meth.name = y.name → (∀ q, s.heap.size ≤ q → A q) → dq_W D cl ad w A s.heap → va_K D cl tys s → dq_Z A s s.heap → lv_has ls maxL (lv_args 0 av) → (∀ x ∈ c.exceptionTable.toList, False) → meth.locks = false →
      W p l e rm s m av.toArray below meth c s.heap [] 0 0 (dx_Q below (dx_X D cl tys ad w A ex) A s mc ms) (F0 m 0 ls [])) : dx_M l y ws rm (va_Pc av (dq_S D cl tys ad w sz)) (dx_X D cl tys ad w (dq_A ad w sz) ex) (dq_A ad w sz) mc ms := by
  refine MetFree.of_bodyS (code := cc) (maxLocals := maxL) (ret := ret) hy ?_ ?_
  · intro args s m h hn
    obtain ⟨meth, c, h1, h2, h3, h4, h5, h6, -, -⟩ := Cond.code_spec hn (atoms_spec (ws := ws) h _ (by rw [hw]; exact List.mem_cons_self))
    exact ⟨meth, c, h1, h2, h3, h4, h5, h6⟩
  · intro p e s m args below meth c s₁ B hml hv _
    obtain ⟨rfl, rfl, hW0, hK, hZ⟩ := hv
    have hlocks := B.notSynchronized
    have hts := atoms_spec (ws := ws) B.pre
    have hown : s.vm.findClass y.cls = some m.cls := findClass_of_methodNamed B.named
    have hemp : c.exceptionTable.isEmpty = true := B.noHandlers (hts _ (by rw [hw]; exact List.mem_cons_self))
    have hout : ∀ x ∈ c.exceptionTable.toList, False := fun x hx => by
      have : c.exceptionTable = #[] := by simpa using hemp
      rw [this] at hx
      exact absurd hx (by simp)
    have hh0 : s₁.heap = s.heap := by rw [B.state]; rfl
    have K := body p e s m below meth c (dq_A ad w s.heap.size) _ ⟨B.exec, B.bytes, hml, hown, hts⟩ (name_of_methodNamed B.named B.method).1 (fun q h => Or.inr h) hW0.self hK hZ (lv_entry av hav) hout hlocks
    obtain ⟨t, a1, q, b1, b2, b3⟩ := K s₁ hh0 (Stand.of_body B)
    rw [← lg_entry_eq] at a1
    exact ⟨t, .threw q, a1, b1, b2, q, rfl, b3⟩
/-- a method that only reads and returns nothing -/
theorem dx_ofR {l : Launch} {y : MethodName} {ws ws' : List Cond} {rm : Room} {D : va_G} {cl : List vw_C} {tys : List (ClassId × FieldType)} {ad : Nat → Nat} {w : Nat → Option va_E} {sz : Nat} {av : List Value} {cc : ByteArray} {maxL : Nat} (hy : plainName y.cls = true) (hw : ws = Cond.code y cc maxL none :: ws') (hav : (lg_sl av).length ≤ maxL)
    (body : ∀ (p : Program) (e : Env) (s : State) (m : MethodId) (below : List Frame) (meth : Method) (c : Code) (A : Nat → Prop) (Q : State → Prop) (ls : Array Slot), CallFix p m c cc maxL s av.toArray ws y.cls → meth.name = y.name → (∀ q, s.heap.size ≤ q → A q) → dq_W D cl ad w A s.heap → va_K D cl tys s → dq_Z A s s.heap → lv_has ls maxL (lv_args 0 av) →
      (∀ (pc : Nat) (ls : Array Slot), decode cc pc = .ok (.return_, 1) → W p l e rm s m av.toArray below meth c s.heap [] 0 0 Q (F0 m pc ls [])) →
      W p l e rm s m av.toArray below meth c s.heap [] 0 0 Q (F0 m 0 ls [])) : Met l y ws rm (va_Pc av (dq_S D cl tys ad w sz)) (va_Sv (fun _ => True)) 0 0 (fun _ => False) := by
  refine Met.ofW (cc := cc) (maxL := maxL) (ret := none) hy hw ?_
  intro p e s m args below meth c s₁ B hml hv
  obtain ⟨rfl, rfl, hW0, hK, hZ⟩ := hv
  have hlocks := B.notSynchronized
  have hts := atoms_spec (ws := ws) B.pre
  have hown : s.vm.findClass y.cls = some m.cls := findClass_of_methodNamed B.named
  rw [lg_entry_eq]
  refine body p e s m below meth c (dq_A ad w s.heap.size) _ _ ⟨B.exec, B.bytes, hml, hown, hts⟩ (name_of_methodNamed B.named B.method).1 (fun q h => Or.inr h) hW0.self hK hZ (lv_entry av hav) ?_
  intro pc ls hd
  exact W.vret B.exec B.bytes B.returns (fun t ht hw9 => ⟨rfl, trivial, ht⟩) (fun q h => by cases h) hd
/-- a number in its range -/
def mr_in (v a b : Int32) : Bool := decide (a ≤ v) && decide (v ≤ b)
theorem mr_in_t {v a b : Int32} (h1 : ¬ v < a) (h2 : v ≤ b) : mr_in v a b = true := by
  unfold mr_in
  rw [decide_eq_true (Int32.not_lt.mp h1), decide_eq_true h2]
  rfl
theorem mr_in_a {v a b : Int32} (h : v < a) : mr_in v a b = false := by
  unfold mr_in
  rw [decide_eq_false (Int32.not_le.mpr h)]
  rfl
theorem mr_in_b {v a b : Int32} (h : ¬ v ≤ b) : mr_in v a b = false := by
  unfold mr_in
  rw [decide_eq_false h, Bool.and_false]
