/-! what of the start stays true for every call: links between mates of the nest (and what a throw needs) -/
def dq_Z (A : Nat → Prop) (U : State) (H : Heap) : Prop := va_Nw (Cond.methodLinkNest RDH 29 yPt_init RDH) U ∧ va_Nw (Cond.methodLinkNest RDH 36 yCl_init RDH) U ∧ va_Nw (Cond.methodLinkNest RDH 47 yPl_init RDH) U ∧ va_Nw (Cond.methodLinkNest RDH 50 yHt_init RDH) U ∧ va_Nw (Cond.methodLinkNest RDH 57 yTb_init RDH) U ∧ va_Nw (Cond.methodLinkNest RDH 64 yWy_init RDH) U ∧ va_Nw (Cond.methodLinkNest RTb 19 yDH_leastOf RDH) U ∧ va_Nw (Cond.methodLinkNest RWy 37 yDH_holds RDH) U ∧ va_Nw (Cond.methodLinkNest RWy 55 yDH_without RDH) U ∧ va_Nw (Cond.methodLinkNest RHt 28 yDH_holds RDH) U
theorem dq_Z.go {A B : Nat → Prop} {U U' : State} {H H' : Heap} (h : dq_Z A U H) (hBA : ∀ q, B q → A q) (hk : ∀ a : Nat, a < H.size → ¬ A a → H'[a]? = H[a]?) (hw : U.WarmedH U'.vm) : dq_Z B U' H' :=
  ⟨va_Nw.warmM hw h.1, va_Nw.warmM hw h.2.1, va_Nw.warmM hw h.2.2.1, va_Nw.warmM hw h.2.2.2.1, va_Nw.warmM hw h.2.2.2.2.1, va_Nw.warmM hw h.2.2.2.2.2.1, va_Nw.warmM hw h.2.2.2.2.2.2.1, va_Nw.warmM hw h.2.2.2.2.2.2.2.1, va_Nw.warmM hw h.2.2.2.2.2.2.2.2.1, va_Nw.warmM hw h.2.2.2.2.2.2.2.2.2⟩
theorem dq_Z.n0 {A : Nat → Prop} {U : State} {H : Heap} (h : dq_Z A U H) : va_Nw (Cond.methodLinkNest RDH 29 yPt_init RDH) U := h.1
theorem dq_Z.n1 {A : Nat → Prop} {U : State} {H : Heap} (h : dq_Z A U H) : va_Nw (Cond.methodLinkNest RDH 36 yCl_init RDH) U := h.2.1
theorem dq_Z.n2 {A : Nat → Prop} {U : State} {H : Heap} (h : dq_Z A U H) : va_Nw (Cond.methodLinkNest RDH 47 yPl_init RDH) U := h.2.2.1
theorem dq_Z.n3 {A : Nat → Prop} {U : State} {H : Heap} (h : dq_Z A U H) : va_Nw (Cond.methodLinkNest RDH 50 yHt_init RDH) U := h.2.2.2.1
theorem dq_Z.n4 {A : Nat → Prop} {U : State} {H : Heap} (h : dq_Z A U H) : va_Nw (Cond.methodLinkNest RDH 57 yTb_init RDH) U := h.2.2.2.2.1
theorem dq_Z.n5 {A : Nat → Prop} {U : State} {H : Heap} (h : dq_Z A U H) : va_Nw (Cond.methodLinkNest RDH 64 yWy_init RDH) U := h.2.2.2.2.2.1
theorem dq_Z.n6 {A : Nat → Prop} {U : State} {H : Heap} (h : dq_Z A U H) : va_Nw (Cond.methodLinkNest RTb 19 yDH_leastOf RDH) U := h.2.2.2.2.2.2.1
theorem dq_Z.n7 {A : Nat → Prop} {U : State} {H : Heap} (h : dq_Z A U H) : va_Nw (Cond.methodLinkNest RWy 37 yDH_holds RDH) U := h.2.2.2.2.2.2.2.1
theorem dq_Z.n8 {A : Nat → Prop} {U : State} {H : Heap} (h : dq_Z A U H) : va_Nw (Cond.methodLinkNest RWy 55 yDH_without RDH) U := h.2.2.2.2.2.2.2.2.1
theorem dq_Z.n9 {A : Nat → Prop} {U : State} {H : Heap} (h : dq_Z A U H) : va_Nw (Cond.methodLinkNest RHt 28 yDH_holds RDH) U := h.2.2.2.2.2.2.2.2.2
abbrev dq_t (g : Nat → ClassId) : List (ClassId × FieldType) := [(g 0, .int), (g 1, .boolean), (g 2, .long), (g 3, .object RPl)]
theorem dq_giV {c0 cw : Cond} {own : String} {idx : Nat} {C : String} {y : MethodName} (h1 : Cond.methodLink own idx y ∈ dq_G) (h2 : Cond.instanceMethod y ∈ dq_G) (h3 : Cond.selects C y y ∈ dq_G) (h4 : Cond.initialized C ∈ dq_G) (h5 : cw ∈ dq_G) : GoodIn (c0 :: dq_G) (wsV own idx C y (cw :: dq_G)) := by
  refine dq_giS (fun w h => List.mem_cons_of_mem _ h) (fun w hw => ?_)
  simp only [wsV, List.cons_append, List.nil_append, List.mem_cons] at hw
  rcases hw with rfl | rfl | rfl | rfl | rfl | hw
  · exact h1
  · exact h2
  · exact h3
  · exact h4
  · exact h5
  · exact hw
theorem dq_giS2 {c0 cw : Cond} {own : String} {idx : Nat} {y : MethodName} (h1 : Cond.methodLink own idx y ∈ dq_G) (h2 : Cond.static y ∈ dq_G) (h4 : Cond.initialized own ∈ dq_G) (h5 : cw ∈ dq_G) : GoodIn (c0 :: dq_G) (wsS own idx y (cw :: dq_G)) := by
  refine dq_giS (fun w h => List.mem_cons_of_mem _ h) (fun w hw => ?_)
  simp only [wsS, List.cons_append, List.nil_append, List.mem_cons] at hw
  rcases hw with rfl | rfl | rfl | rfl | hw
  · exact h1
  · exact h2
  · exact h4
  · exact h5
  · exact hw
theorem dq_gi {c0 cw : Cond} (h5 : cw ∈ dq_G) : GoodIn (c0 :: dq_G) (cw :: dq_G) := by
  refine dq_giS (fun w h => List.mem_cons_of_mem _ h) (fun w hw => ?_)
  rcases List.mem_cons.mp hw with rfl | hw
  · exact h5
  · exact hw
/-! OWN LAYER: calls over the world by roles (dq_Z: what of the start stays true) -/
def dq_S (D : va_G) (cl : List vw_C) (tys : List (ClassId × FieldType)) (ad : Nat → Nat) (w : Nat → Option va_E) (sz : Nat) : State → Prop := fun U => U.heap.size = sz ∧ dq_W D cl ad w (fun _ => True) U.heap ∧ va_K D cl tys U ∧ dq_Z (dq_A ad w sz) U U.heap
def dq_B (D : va_G) (cl : List vw_C) (tys : List (ClassId × FieldType)) (ad : Nat → Nat) (A : Nat → Prop) : (Nat → Option va_E) → State → Prop := fun u t => dq_W D cl ad u A t.heap ∧ va_K D cl tys t
def dq_B2 (D : va_G) (cl : List vw_C) (tys : List (ClassId × FieldType)) (A : Nat → Prop) : (Nat → Nat) × (Nat → Option va_E) → State → Prop := fun u t => dq_W D cl u.1 u.2 A t.heap ∧ va_K D cl tys t
theorem dq_blind {D : va_G} {cl : List vw_C} {tys : List (ClassId × FieldType)} {ad : Nat → Nat} {w : Nat → Option va_E} {sz : Nat} {av : List Value} : FrameBlind (va_Pc av (dq_S D cl tys ad w sz)) := by
  intro a U g mk q
  obtain ⟨h1, h2, h3, h4, h5⟩ := q
  exact ⟨h1, h2, h3, va_K.moved (u := U) (U := U.calling g mk a) (Vm.Alike.refl U.vm) h4, dq_Z.go (U := U) (U' := U.calling g mk a) h5 (fun _ h => h) (fun _ _ _ => rfl) (State.WarmedH.refl U)⟩
section DQC
variable {p : Program} {l : Launch} {e : Env} {R : Room} {s : State} {m : MethodId} {args : Array Value} {below : List Frame} {meth : Method} {c : Code} {H : Heap} {locs : List Loc} {cells slots : Nat} {Q : State → Prop}
variable {cc : ByteArray} {pc : Nat} {ls : Array Slot} {rest st0 : List Value} {a : Array Value} {D : va_G} {cl : List vw_C} {A : Nat → Prop} {tys : List (ClassId × FieldType)} {ad : Nat → Nat} {w : Nat → Option va_E} {mc ms : Nat}
theorem dq_preS {av : List Value} (hW : dq_W D cl ad w A H) (hS : va_S A s.heap H locs) (hA : ∀ q, s.heap.size ≤ q → A q) (hK : va_K D cl tys s) (hZ : dq_Z A s s.heap) : PreS s H (va_Pc av (dq_S D cl tys ad w H.size)) av :=
  ⟨dq_blind, fun U hU hw => ⟨rfl, by rw [hU], by rw [hU]; exact hW.weaken (fun _ _ => trivial), va_K.moved hw.alike hK, dq_Z.go (U := s) (U' := U) hZ (dq_A.sub hW hS hA) (fun x h1 h2 => by rw [hU]; exact hS.2.1 x h1 h2) hw⟩⟩
theorem dq_preV {b : Nat} {As : List Value} {r ci : Nat} {C : String} {T : u_T} {N : Nat} {fs : List Value} (hW : dq_W D cl ad w A H) (hS : va_S A s.heap H locs) (hA : ∀ q, s.heap.size ≤ q → A q) (hK : va_K D cl tys s) (hZ : dq_Z A s s.heap) (he : w r = some (.inr (ci, fs))) (hc : cl[ci]? = some (C, T, N)) (hb : ad r = b) : PreV s H C b (va_Pc (.ref b :: As) (dq_S D cl tys ad w H.size)) As := by
  subst hb
  exact ⟨dq_blind, va_recv (q0 := 0) hK (hW.get he) hc rfl, (dq_preS (av := .ref (ad r) :: As) hW hS hA hK hZ).2⟩
theorem dq_calli {post : Int32 → (Nat → Option va_E) → Prop} (hr : va_Run p l e R s m args below meth c H locs cells slots mc ms (F0 m pc ls st0) rest (va_Qi post (dq_B D cl tys ad (dq_A ad w H.size)) (dq_A ad w H.size) a) (dq_A ad w H.size)) (hW : dq_W D cl ad w A H) (hS : va_S A s.heap H locs) (hA : ∀ q, s.heap.size ≤ q → A q)
    (kk : ∀ (r : Int32) (u : (Nat → Option va_E)) (H1 : Heap) (locs1 : List Loc), post r u → dq_W D cl ad u A H1 → va_S A s.heap H1 locs1 → H.size ≤ H1.size → W p l e R s m args below meth c H1 locs1 (cells + mc) (slots + ms) Q (F0 m (pc + 3) ls (.int r :: rest))) : W p l e R s m args below meth c H locs cells slots Q (F0 m pc ls st0) :=
  va_calli hr hS (fun q _ h => dq_A.sub hW hS hA q h) (dq_A.sub hW hS hA) (fun r u t H1 locs1 ht hvm hp hB hz hk hS1 => kk r u H1 locs1 hp (by have h9 := hB.1; rw [ht] at h9; exact h9.weaken (dq_A.sub hW hS hA)) hS1 hz)
theorem dq_calli2 {post : Int32 → ((Nat → Nat) × (Nat → Option va_E)) → Prop} (hr : va_Run p l e R s m args below meth c H locs cells slots mc ms (F0 m pc ls st0) rest (va_Qi post (dq_B2 D cl tys (dq_A ad w H.size)) (dq_A ad w H.size) a) (dq_A ad w H.size)) (hW : dq_W D cl ad w A H) (hS : va_S A s.heap H locs) (hA : ∀ q, s.heap.size ≤ q → A q)
    (kk : ∀ (r : Int32) (u : ((Nat → Nat) × (Nat → Option va_E))) (H1 : Heap) (locs1 : List Loc), post r u → dq_W D cl u.1 u.2 A H1 → va_S A s.heap H1 locs1 → H.size ≤ H1.size → W p l e R s m args below meth c H1 locs1 (cells + mc) (slots + ms) Q (F0 m (pc + 3) ls (.int r :: rest))) : W p l e R s m args below meth c H locs cells slots Q (F0 m pc ls st0) :=
  va_calli hr hS (fun q _ h => dq_A.sub hW hS hA q h) (dq_A.sub hW hS hA) (fun r u t H1 locs1 ht hvm hp hB hz hk hS1 => kk r u H1 locs1 hp (by have h9 := hB.1; rw [ht] at h9; exact h9.weaken (dq_A.sub hW hS hA)) hS1 hz)
theorem dq_calll {post : Int64 → (Nat → Option va_E) → Prop} (hr : va_Run p l e R s m args below meth c H locs cells slots mc ms (F0 m pc ls st0) rest (va_Ql post (dq_B D cl tys ad (dq_A ad w H.size)) (dq_A ad w H.size) a) (dq_A ad w H.size)) (hW : dq_W D cl ad w A H) (hS : va_S A s.heap H locs) (hA : ∀ q, s.heap.size ≤ q → A q)
    (kk : ∀ (r : Int64) (u : (Nat → Option va_E)) (H1 : Heap) (locs1 : List Loc), post r u → dq_W D cl ad u A H1 → va_S A s.heap H1 locs1 → H.size ≤ H1.size → W p l e R s m args below meth c H1 locs1 (cells + mc) (slots + ms) Q (F0 m (pc + 3) ls (.long r :: rest))) : W p l e R s m args below meth c H locs cells slots Q (F0 m pc ls st0) :=
  va_calll hr hS (fun q _ h => dq_A.sub hW hS hA q h) (dq_A.sub hW hS hA) (fun r u t H1 locs1 ht hvm hp hB hz hk hS1 => kk r u H1 locs1 hp (by have h9 := hB.1; rw [ht] at h9; exact h9.weaken (dq_A.sub hW hS hA)) hS1 hz)
theorem dq_calll2 {post : Int64 → ((Nat → Nat) × (Nat → Option va_E)) → Prop} (hr : va_Run p l e R s m args below meth c H locs cells slots mc ms (F0 m pc ls st0) rest (va_Ql post (dq_B2 D cl tys (dq_A ad w H.size)) (dq_A ad w H.size) a) (dq_A ad w H.size)) (hW : dq_W D cl ad w A H) (hS : va_S A s.heap H locs) (hA : ∀ q, s.heap.size ≤ q → A q)
    (kk : ∀ (r : Int64) (u : ((Nat → Nat) × (Nat → Option va_E))) (H1 : Heap) (locs1 : List Loc), post r u → dq_W D cl u.1 u.2 A H1 → va_S A s.heap H1 locs1 → H.size ≤ H1.size → W p l e R s m args below meth c H1 locs1 (cells + mc) (slots + ms) Q (F0 m (pc + 3) ls (.long r :: rest))) : W p l e R s m args below meth c H locs cells slots Q (F0 m pc ls st0) :=
  va_calll hr hS (fun q _ h => dq_A.sub hW hS hA q h) (dq_A.sub hW hS hA) (fun r u t H1 locs1 ht hvm hp hB hz hk hS1 => kk r u H1 locs1 hp (by have h9 := hB.1; rw [ht] at h9; exact h9.weaken (dq_A.sub hW hS hA)) hS1 hz)
theorem dq_callv {post : (Nat → Option va_E) → Prop} (hr : va_Run p l e R s m args below meth c H locs cells slots mc ms (F0 m pc ls st0) rest (va_Qv post (dq_B D cl tys ad (dq_A ad w H.size)) (dq_A ad w H.size) a) (dq_A ad w H.size)) (hW : dq_W D cl ad w A H) (hS : va_S A s.heap H locs) (hA : ∀ q, s.heap.size ≤ q → A q)
    (kk : ∀ (u : (Nat → Option va_E)) (H1 : Heap) (locs1 : List Loc), post u → dq_W D cl ad u A H1 → va_S A s.heap H1 locs1 → H.size ≤ H1.size → W p l e R s m args below meth c H1 locs1 (cells + mc) (slots + ms) Q (F0 m (pc + 3) ls rest)) : W p l e R s m args below meth c H locs cells slots Q (F0 m pc ls st0) :=
  va_callv hr hS (fun q _ h => dq_A.sub hW hS hA q h) (dq_A.sub hW hS hA) (fun u t H1 locs1 ht hvm hp hB hz hk hS1 => kk u H1 locs1 hp (by have h9 := hB.1; rw [ht] at h9; exact h9.weaken (dq_A.sub hW hS hA)) hS1 hz)
theorem dq_callv2 {post : ((Nat → Nat) × (Nat → Option va_E)) → Prop} (hr : va_Run p l e R s m args below meth c H locs cells slots mc ms (F0 m pc ls st0) rest (va_Qv post (dq_B2 D cl tys (dq_A ad w H.size)) (dq_A ad w H.size) a) (dq_A ad w H.size)) (hW : dq_W D cl ad w A H) (hS : va_S A s.heap H locs) (hA : ∀ q, s.heap.size ≤ q → A q)
    (kk : ∀ (u : ((Nat → Nat) × (Nat → Option va_E))) (H1 : Heap) (locs1 : List Loc), post u → dq_W D cl u.1 u.2 A H1 → va_S A s.heap H1 locs1 → H.size ≤ H1.size → W p l e R s m args below meth c H1 locs1 (cells + mc) (slots + ms) Q (F0 m (pc + 3) ls rest)) : W p l e R s m args below meth c H locs cells slots Q (F0 m pc ls st0) :=
  va_callv hr hS (fun q _ h => dq_A.sub hW hS hA q h) (dq_A.sub hW hS hA) (fun u t H1 locs1 ht hvm hp hB hz hk hS1 => kk u H1 locs1 hp (by have h9 := hB.1; rw [ht] at h9; exact h9.weaken (dq_A.sub hW hS hA)) hS1 hz)
end DQC
/-! OWN LAYER: contracts over the world by roles, from a walk with its end as a premise -/
theorem dq_ofi {l : Launch} {y : MethodName} {ws ws' : List Cond} {rm : Room} {D : va_G} {cl : List vw_C} {tys : List (ClassId × FieldType)} {ad : Nat → Nat} {w : Nat → Option va_E} {sz : Nat} {av : List Value} {post : Int32 → (Nat → Option va_E) → Prop} {mc ms : Nat} {cc : ByteArray} {maxL : Nat} (hy : plainName y.cls = true) (hw : ws = Cond.code y cc maxL (some .int) :: ws') (hav : (lg_sl av).length ≤ maxL)
    (body : ∀ (p : Program) (e : Env) (s : State) (m : MethodId) (below : List Frame) (meth : Method) (c : Code) (A : Nat → Prop) (Q : State → Prop) (ls : Array Slot), CallFix p m c cc maxL s av.toArray ws y.cls → meth.name = y.name → (∀ q, s.heap.size ≤ q → A q) → dq_W D cl ad w A s.heap → va_K D cl tys s → dq_Z A s s.heap → lv_has ls maxL (lv_args 0 av) →
      (∀ (v : Int32) (u : (Nat → Option va_E)) (H : Heap) (locs : List Loc) (pc : Nat) (ls : Array Slot), post v u → dq_W D cl ad u A H → va_S A s.heap H locs → decode cc pc = .ok (.ireturn, 1) → W p l e rm s m av.toArray below meth c H locs mc ms Q (F0 m pc ls [.int v])) →
      W p l e rm s m av.toArray below meth c s.heap [] 0 0 Q (F0 m 0 ls [])) : Met l y ws rm (va_Pc av (dq_S D cl tys ad w sz)) (va_Qi post (dq_B D cl tys ad (dq_A ad w sz)) (dq_A ad w sz)) mc ms (dq_A ad w sz) := by
  refine Met.ofW (cc := cc) (maxL := maxL) (ret := (some .int)) hy hw ?_
  intro p e s m args below meth c s₁ B hml hv
  obtain ⟨rfl, rfl, hW0, hK, hZ⟩ := hv
  have hlocks := B.notSynchronized
  have hts := atoms_spec (ws := ws) B.pre
  have hown : s.vm.findClass y.cls = some m.cls := findClass_of_methodNamed B.named
  rw [lg_entry_eq]
  refine body p e s m below meth c (dq_A ad w s.heap.size) _ _ ⟨B.exec, B.bytes, hml, hown, hts⟩ (name_of_methodNamed B.named B.method).1 (fun q h => Or.inr h) hW0.self hK hZ (lv_entry av hav) ?_
  intro v u H locs pc ls hp hW hS hd
  exact W.iret (v := v) B.exec B.bytes B.returns (fun t ht hw9 => ⟨⟨v, u, rfl, hp, by rw [ht]; exact hW, va_K.moved hw9.alike hK⟩, hS.F ht⟩) hS.2.2 hd
theorem dq_ofi2 {l : Launch} {y : MethodName} {ws ws' : List Cond} {rm : Room} {D : va_G} {cl : List vw_C} {tys : List (ClassId × FieldType)} {ad : Nat → Nat} {w : Nat → Option va_E} {sz : Nat} {av : List Value} {post : Int32 → ((Nat → Nat) × (Nat → Option va_E)) → Prop} {mc ms : Nat} {cc : ByteArray} {maxL : Nat} (hy : plainName y.cls = true) (hw : ws = Cond.code y cc maxL (some .int) :: ws') (hav : (lg_sl av).length ≤ maxL)
    (body : ∀ (p : Program) (e : Env) (s : State) (m : MethodId) (below : List Frame) (meth : Method) (c : Code) (A : Nat → Prop) (Q : State → Prop) (ls : Array Slot), CallFix p m c cc maxL s av.toArray ws y.cls → meth.name = y.name → (∀ q, s.heap.size ≤ q → A q) → dq_W D cl ad w A s.heap → va_K D cl tys s → dq_Z A s s.heap → lv_has ls maxL (lv_args 0 av) →
      (∀ (v : Int32) (u : ((Nat → Nat) × (Nat → Option va_E))) (H : Heap) (locs : List Loc) (pc : Nat) (ls : Array Slot), post v u → dq_W D cl u.1 u.2 A H → va_S A s.heap H locs → decode cc pc = .ok (.ireturn, 1) → W p l e rm s m av.toArray below meth c H locs mc ms Q (F0 m pc ls [.int v])) →
      W p l e rm s m av.toArray below meth c s.heap [] 0 0 Q (F0 m 0 ls [])) : Met l y ws rm (va_Pc av (dq_S D cl tys ad w sz)) (va_Qi post (dq_B2 D cl tys (dq_A ad w sz)) (dq_A ad w sz)) mc ms (dq_A ad w sz) := by
  refine Met.ofW (cc := cc) (maxL := maxL) (ret := (some .int)) hy hw ?_
  intro p e s m args below meth c s₁ B hml hv
  obtain ⟨rfl, rfl, hW0, hK, hZ⟩ := hv
  have hlocks := B.notSynchronized
  have hts := atoms_spec (ws := ws) B.pre
  have hown : s.vm.findClass y.cls = some m.cls := findClass_of_methodNamed B.named
  rw [lg_entry_eq]
  refine body p e s m below meth c (dq_A ad w s.heap.size) _ _ ⟨B.exec, B.bytes, hml, hown, hts⟩ (name_of_methodNamed B.named B.method).1 (fun q h => Or.inr h) hW0.self hK hZ (lv_entry av hav) ?_
  intro v u H locs pc ls hp hW hS hd
  exact W.iret (v := v) B.exec B.bytes B.returns (fun t ht hw9 => ⟨⟨v, u, rfl, hp, by rw [ht]; exact hW, va_K.moved hw9.alike hK⟩, hS.F ht⟩) hS.2.2 hd
theorem dq_ofz {l : Launch} {y : MethodName} {ws ws' : List Cond} {rm : Room} {D : va_G} {cl : List vw_C} {tys : List (ClassId × FieldType)} {ad : Nat → Nat} {w : Nat → Option va_E} {sz : Nat} {av : List Value} {post : Int32 → (Nat → Option va_E) → Prop} {mc ms : Nat} {cc : ByteArray} {maxL : Nat} (hy : plainName y.cls = true) (hw : ws = Cond.code y cc maxL (some .boolean) :: ws') (hav : (lg_sl av).length ≤ maxL)
    (body : ∀ (p : Program) (e : Env) (s : State) (m : MethodId) (below : List Frame) (meth : Method) (c : Code) (A : Nat → Prop) (Q : State → Prop) (ls : Array Slot), CallFix p m c cc maxL s av.toArray ws y.cls → meth.name = y.name → (∀ q, s.heap.size ≤ q → A q) → dq_W D cl ad w A s.heap → va_K D cl tys s → dq_Z A s s.heap → lv_has ls maxL (lv_args 0 av) →
      (∀ (v : Int32) (u : (Nat → Option va_E)) (H : Heap) (locs : List Loc) (pc : Nat) (ls : Array Slot), post v u → narrow .boolean (.int v) = .int v → dq_W D cl ad u A H → va_S A s.heap H locs → decode cc pc = .ok (.ireturn, 1) → W p l e rm s m av.toArray below meth c H locs mc ms Q (F0 m pc ls [.int v])) →
      W p l e rm s m av.toArray below meth c s.heap [] 0 0 Q (F0 m 0 ls [])) : Met l y ws rm (va_Pc av (dq_S D cl tys ad w sz)) (va_Qi post (dq_B D cl tys ad (dq_A ad w sz)) (dq_A ad w sz)) mc ms (dq_A ad w sz) := by
  refine Met.ofW (cc := cc) (maxL := maxL) (ret := (some .boolean)) hy hw ?_
  intro p e s m args below meth c s₁ B hml hv
  obtain ⟨rfl, rfl, hW0, hK, hZ⟩ := hv
  have hlocks := B.notSynchronized
  have hts := atoms_spec (ws := ws) B.pre
  have hown : s.vm.findClass y.cls = some m.cls := findClass_of_methodNamed B.named
  rw [lg_entry_eq]
  refine body p e s m below meth c (dq_A ad w s.heap.size) _ _ ⟨B.exec, B.bytes, hml, hown, hts⟩ (name_of_methodNamed B.named B.method).1 (fun q h => Or.inr h) hW0.self hK hZ (lv_entry av hav) ?_
  intro v u H locs pc ls hp hn hW hS hd
  exact W.zret (v := v) B.exec B.bytes B.returns hn (fun t ht hw9 => ⟨⟨v, u, rfl, hp, by rw [ht]; exact hW, va_K.moved hw9.alike hK⟩, hS.F ht⟩) hS.2.2 hd
theorem dq_ofz2 {l : Launch} {y : MethodName} {ws ws' : List Cond} {rm : Room} {D : va_G} {cl : List vw_C} {tys : List (ClassId × FieldType)} {ad : Nat → Nat} {w : Nat → Option va_E} {sz : Nat} {av : List Value} {post : Int32 → ((Nat → Nat) × (Nat → Option va_E)) → Prop} {mc ms : Nat} {cc : ByteArray} {maxL : Nat} (hy : plainName y.cls = true) (hw : ws = Cond.code y cc maxL (some .boolean) :: ws') (hav : (lg_sl av).length ≤ maxL)
    (body : ∀ (p : Program) (e : Env) (s : State) (m : MethodId) (below : List Frame) (meth : Method) (c : Code) (A : Nat → Prop) (Q : State → Prop) (ls : Array Slot), CallFix p m c cc maxL s av.toArray ws y.cls → meth.name = y.name → (∀ q, s.heap.size ≤ q → A q) → dq_W D cl ad w A s.heap → va_K D cl tys s → dq_Z A s s.heap → lv_has ls maxL (lv_args 0 av) →
      (∀ (v : Int32) (u : ((Nat → Nat) × (Nat → Option va_E))) (H : Heap) (locs : List Loc) (pc : Nat) (ls : Array Slot), post v u → narrow .boolean (.int v) = .int v → dq_W D cl u.1 u.2 A H → va_S A s.heap H locs → decode cc pc = .ok (.ireturn, 1) → W p l e rm s m av.toArray below meth c H locs mc ms Q (F0 m pc ls [.int v])) →
      W p l e rm s m av.toArray below meth c s.heap [] 0 0 Q (F0 m 0 ls [])) : Met l y ws rm (va_Pc av (dq_S D cl tys ad w sz)) (va_Qi post (dq_B2 D cl tys (dq_A ad w sz)) (dq_A ad w sz)) mc ms (dq_A ad w sz) := by
  refine Met.ofW (cc := cc) (maxL := maxL) (ret := (some .boolean)) hy hw ?_
  intro p e s m args below meth c s₁ B hml hv
  obtain ⟨rfl, rfl, hW0, hK, hZ⟩ := hv
  have hlocks := B.notSynchronized
  have hts := atoms_spec (ws := ws) B.pre
  have hown : s.vm.findClass y.cls = some m.cls := findClass_of_methodNamed B.named
  rw [lg_entry_eq]
  refine body p e s m below meth c (dq_A ad w s.heap.size) _ _ ⟨B.exec, B.bytes, hml, hown, hts⟩ (name_of_methodNamed B.named B.method).1 (fun q h => Or.inr h) hW0.self hK hZ (lv_entry av hav) ?_
  intro v u H locs pc ls hp hn hW hS hd
  exact W.zret (v := v) B.exec B.bytes B.returns hn (fun t ht hw9 => ⟨⟨v, u, rfl, hp, by rw [ht]; exact hW, va_K.moved hw9.alike hK⟩, hS.F ht⟩) hS.2.2 hd
theorem dq_ofl {l : Launch} {y : MethodName} {ws ws' : List Cond} {rm : Room} {D : va_G} {cl : List vw_C} {tys : List (ClassId × FieldType)} {ad : Nat → Nat} {w : Nat → Option va_E} {sz : Nat} {av : List Value} {post : Int64 → (Nat → Option va_E) → Prop} {mc ms : Nat} {cc : ByteArray} {maxL : Nat} (hy : plainName y.cls = true) (hw : ws = Cond.code y cc maxL (some .long) :: ws') (hav : (lg_sl av).length ≤ maxL)
    (body : ∀ (p : Program) (e : Env) (s : State) (m : MethodId) (below : List Frame) (meth : Method) (c : Code) (A : Nat → Prop) (Q : State → Prop) (ls : Array Slot), CallFix p m c cc maxL s av.toArray ws y.cls → meth.name = y.name → (∀ q, s.heap.size ≤ q → A q) → dq_W D cl ad w A s.heap → va_K D cl tys s → dq_Z A s s.heap → lv_has ls maxL (lv_args 0 av) →
      (∀ (v : Int64) (u : (Nat → Option va_E)) (H : Heap) (locs : List Loc) (pc : Nat) (ls : Array Slot), post v u → dq_W D cl ad u A H → va_S A s.heap H locs → decode cc pc = .ok (.lreturn, 1) → W p l e rm s m av.toArray below meth c H locs mc ms Q (F0 m pc ls [.long v])) →
      W p l e rm s m av.toArray below meth c s.heap [] 0 0 Q (F0 m 0 ls [])) : Met l y ws rm (va_Pc av (dq_S D cl tys ad w sz)) (va_Ql post (dq_B D cl tys ad (dq_A ad w sz)) (dq_A ad w sz)) mc ms (dq_A ad w sz) := by
  refine Met.ofW (cc := cc) (maxL := maxL) (ret := (some .long)) hy hw ?_
  intro p e s m args below meth c s₁ B hml hv
  obtain ⟨rfl, rfl, hW0, hK, hZ⟩ := hv
  have hlocks := B.notSynchronized
  have hts := atoms_spec (ws := ws) B.pre
  have hown : s.vm.findClass y.cls = some m.cls := findClass_of_methodNamed B.named
  rw [lg_entry_eq]
  refine body p e s m below meth c (dq_A ad w s.heap.size) _ _ ⟨B.exec, B.bytes, hml, hown, hts⟩ (name_of_methodNamed B.named B.method).1 (fun q h => Or.inr h) hW0.self hK hZ (lv_entry av hav) ?_
  intro v u H locs pc ls hp hW hS hd
  exact W.lret (v := v) B.exec B.bytes B.returns (fun t ht hw9 => ⟨⟨v, u, rfl, hp, by rw [ht]; exact hW, va_K.moved hw9.alike hK⟩, hS.F ht⟩) hS.2.2 hd
theorem dq_ofl2 {l : Launch} {y : MethodName} {ws ws' : List Cond} {rm : Room} {D : va_G} {cl : List vw_C} {tys : List (ClassId × FieldType)} {ad : Nat → Nat} {w : Nat → Option va_E} {sz : Nat} {av : List Value} {post : Int64 → ((Nat → Nat) × (Nat → Option va_E)) → Prop} {mc ms : Nat} {cc : ByteArray} {maxL : Nat} (hy : plainName y.cls = true) (hw : ws = Cond.code y cc maxL (some .long) :: ws') (hav : (lg_sl av).length ≤ maxL)
    (body : ∀ (p : Program) (e : Env) (s : State) (m : MethodId) (below : List Frame) (meth : Method) (c : Code) (A : Nat → Prop) (Q : State → Prop) (ls : Array Slot), CallFix p m c cc maxL s av.toArray ws y.cls → meth.name = y.name → (∀ q, s.heap.size ≤ q → A q) → dq_W D cl ad w A s.heap → va_K D cl tys s → dq_Z A s s.heap → lv_has ls maxL (lv_args 0 av) →
      (∀ (v : Int64) (u : ((Nat → Nat) × (Nat → Option va_E))) (H : Heap) (locs : List Loc) (pc : Nat) (ls : Array Slot), post v u → dq_W D cl u.1 u.2 A H → va_S A s.heap H locs → decode cc pc = .ok (.lreturn, 1) → W p l e rm s m av.toArray below meth c H locs mc ms Q (F0 m pc ls [.long v])) →
      W p l e rm s m av.toArray below meth c s.heap [] 0 0 Q (F0 m 0 ls [])) : Met l y ws rm (va_Pc av (dq_S D cl tys ad w sz)) (va_Ql post (dq_B2 D cl tys (dq_A ad w sz)) (dq_A ad w sz)) mc ms (dq_A ad w sz) := by
  refine Met.ofW (cc := cc) (maxL := maxL) (ret := (some .long)) hy hw ?_
  intro p e s m args below meth c s₁ B hml hv
  obtain ⟨rfl, rfl, hW0, hK, hZ⟩ := hv
  have hlocks := B.notSynchronized
  have hts := atoms_spec (ws := ws) B.pre
  have hown : s.vm.findClass y.cls = some m.cls := findClass_of_methodNamed B.named
  rw [lg_entry_eq]
  refine body p e s m below meth c (dq_A ad w s.heap.size) _ _ ⟨B.exec, B.bytes, hml, hown, hts⟩ (name_of_methodNamed B.named B.method).1 (fun q h => Or.inr h) hW0.self hK hZ (lv_entry av hav) ?_
  intro v u H locs pc ls hp hW hS hd
  exact W.lret (v := v) B.exec B.bytes B.returns (fun t ht hw9 => ⟨⟨v, u, rfl, hp, by rw [ht]; exact hW, va_K.moved hw9.alike hK⟩, hS.F ht⟩) hS.2.2 hd
theorem dq_ofv {l : Launch} {y : MethodName} {ws ws' : List Cond} {rm : Room} {D : va_G} {cl : List vw_C} {tys : List (ClassId × FieldType)} {ad : Nat → Nat} {w : Nat → Option va_E} {sz : Nat} {av : List Value} {post : (Nat → Option va_E) → Prop} {mc ms : Nat} {cc : ByteArray} {maxL : Nat} (hy : plainName y.cls = true) (hw : ws = Cond.code y cc maxL none :: ws') (hav : (lg_sl av).length ≤ maxL)
    (body : ∀ (p : Program) (e : Env) (s : State) (m : MethodId) (below : List Frame) (meth : Method) (c : Code) (A : Nat → Prop) (Q : State → Prop) (ls : Array Slot), CallFix p m c cc maxL s av.toArray ws y.cls → meth.name = y.name → (∀ q, s.heap.size ≤ q → A q) → dq_W D cl ad w A s.heap → va_K D cl tys s → dq_Z A s s.heap → lv_has ls maxL (lv_args 0 av) →
      (∀ (u : (Nat → Option va_E)) (H : Heap) (locs : List Loc) (pc : Nat) (ls : Array Slot), post u → dq_W D cl ad u A H → va_S A s.heap H locs → decode cc pc = .ok (.return_, 1) → W p l e rm s m av.toArray below meth c H locs mc ms Q (F0 m pc ls [])) →
      W p l e rm s m av.toArray below meth c s.heap [] 0 0 Q (F0 m 0 ls [])) : Met l y ws rm (va_Pc av (dq_S D cl tys ad w sz)) (va_Qv post (dq_B D cl tys ad (dq_A ad w sz)) (dq_A ad w sz)) mc ms (dq_A ad w sz) := by
  refine Met.ofW (cc := cc) (maxL := maxL) (ret := none) hy hw ?_
  intro p e s m args below meth c s₁ B hml hv
  obtain ⟨rfl, rfl, hW0, hK, hZ⟩ := hv
  have hlocks := B.notSynchronized
  have hts := atoms_spec (ws := ws) B.pre
  have hown : s.vm.findClass y.cls = some m.cls := findClass_of_methodNamed B.named
  rw [lg_entry_eq]
  refine body p e s m below meth c (dq_A ad w s.heap.size) _ _ ⟨B.exec, B.bytes, hml, hown, hts⟩ (name_of_methodNamed B.named B.method).1 (fun q h => Or.inr h) hW0.self hK hZ (lv_entry av hav) ?_
  intro u H locs pc ls hp hW hS hd
  exact W.vret B.exec B.bytes B.returns (fun t ht hw9 => ⟨⟨u, rfl, hp, by rw [ht]; exact hW, va_K.moved hw9.alike hK⟩, hS.F ht⟩) hS.2.2 hd
theorem dq_ofv2 {l : Launch} {y : MethodName} {ws ws' : List Cond} {rm : Room} {D : va_G} {cl : List vw_C} {tys : List (ClassId × FieldType)} {ad : Nat → Nat} {w : Nat → Option va_E} {sz : Nat} {av : List Value} {post : ((Nat → Nat) × (Nat → Option va_E)) → Prop} {mc ms : Nat} {cc : ByteArray} {maxL : Nat} (hy : plainName y.cls = true) (hw : ws = Cond.code y cc maxL none :: ws') (hav : (lg_sl av).length ≤ maxL)
    (body : ∀ (p : Program) (e : Env) (s : State) (m : MethodId) (below : List Frame) (meth : Method) (c : Code) (A : Nat → Prop) (Q : State → Prop) (ls : Array Slot), CallFix p m c cc maxL s av.toArray ws y.cls → meth.name = y.name → (∀ q, s.heap.size ≤ q → A q) → dq_W D cl ad w A s.heap → va_K D cl tys s → dq_Z A s s.heap → lv_has ls maxL (lv_args 0 av) →
      (∀ (u : ((Nat → Nat) × (Nat → Option va_E))) (H : Heap) (locs : List Loc) (pc : Nat) (ls : Array Slot), post u → dq_W D cl u.1 u.2 A H → va_S A s.heap H locs → decode cc pc = .ok (.return_, 1) → W p l e rm s m av.toArray below meth c H locs mc ms Q (F0 m pc ls [])) →
      W p l e rm s m av.toArray below meth c s.heap [] 0 0 Q (F0 m 0 ls [])) : Met l y ws rm (va_Pc av (dq_S D cl tys ad w sz)) (va_Qv post (dq_B2 D cl tys (dq_A ad w sz)) (dq_A ad w sz)) mc ms (dq_A ad w sz) := by
  refine Met.ofW (cc := cc) (maxL := maxL) (ret := none) hy hw ?_
  intro p e s m args below meth c s₁ B hml hv
  obtain ⟨rfl, rfl, hW0, hK, hZ⟩ := hv
  have hlocks := B.notSynchronized
  have hts := atoms_spec (ws := ws) B.pre
  have hown : s.vm.findClass y.cls = some m.cls := findClass_of_methodNamed B.named
  rw [lg_entry_eq]
  refine body p e s m below meth c (dq_A ad w s.heap.size) _ _ ⟨B.exec, B.bytes, hml, hown, hts⟩ (name_of_methodNamed B.named B.method).1 (fun q h => Or.inr h) hW0.self hK hZ (lv_entry av hav) ?_
  intro u H locs pc ls hp hW hS hd
  exact W.vret B.exec B.bytes B.returns (fun t ht hw9 => ⟨⟨u, rfl, hp, by rw [ht]; exact hW, va_K.moved hw9.alike hK⟩, hS.F ht⟩) hS.2.2 hd
