/-- where a static field lies, its class's statics cell in H, no cell of A -/
def dx_L (C n d : String) (A : Nat → Prop) (U : State) (H : Heap) : Prop := ∃ (c : ClassId) (k : Class) (i : Nat) (f : Field) (a : Nat) (cell : Cell), U.vm.findClass C = some c ∧ U.fieldFound? C n d = some (c, k, i, f) ∧ f.isStatic = true ∧ k.statics = some a ∧ H[a]? = some cell ∧ cell.vm.isStatics = true ∧ cell.cls = c ∧ f.slot < cell.slots.size ∧ k.staticTypes[f.slot]? = some f.type ∧ ¬ A a
theorem dx_L.go {C n d : String} {A B : Nat → Prop} {U U' : State} {H H' : Heap} (h : dx_L C n d A U H) (hBA : ∀ q, B q → A q) (hk : ∀ a : Nat, a < H.size → ¬ A a → H'[a]? = H[a]?) (hw : U.WarmedH U'.vm) : dx_L C n d B U' H' := by
  obtain ⟨c, k, i, f, a, cell, h1, h2, h3, h4, h5, h6, h7, h8, h9, hA⟩ := h
  obtain ⟨k', g2, ek⟩ := State.fieldFound?_setVm hw.alike h2
  refine ⟨c, k', i, f, a, cell, ?_, g2, h3, ?_, ?_, h6, h7, h8, ?_, fun z => hA (hBA _ z)⟩
  · rw [hw.alike.findClass]; exact h1
  · rw [ek]; exact h4
  · rw [hk a (Array.getElem?_eq_some_iff.mp h5).1 hA]; exact h5
  · rw [ek]; exact h9
theorem dx_L.word {C n d : String} {A : Nat → Prop} {s : State} {args : Array Value} (h : dx_L C n d A s s.heap) : (Cond.laysStatic C n d).before args s = true := by
  obtain ⟨c, k, i, f, a, cell, h1, h2, h3, h4, h5, h6, h7, h8, h9, -⟩ := h
  exact Cond.laysStatic_of (args := args) (first := s) (o := none) (idx := []) h1 h2 h3 h4 h5 h6 h7 h8 h9
theorem dx_ref {C n d : String} {A : Nat → Prop} {s : State} {args : Array Value} (h : va_Zq C n d A s s.heap) : (Cond.isRef (.static C n d)).before args s = true := by
  rcases h with ⟨cf, kf, fi, f, a, cell, h1, h2, h3, h4, h5, h6, h7, -⟩ | ⟨t, cf, kf, fi, f, a, cell, h1, h2, h3, h4, h5, h6, h7, -⟩
  · simp [Cond.before, Cond.holds, Cond.value, Term.eval, State.fieldNamed?, h1, h2, h4, h5, h6, h7, Value.isRef]
  · simp [Cond.before, Cond.holds, Cond.value, Term.eval, State.fieldNamed?, h1, h2, h4, h5, h6, h7, Value.isRef]
/-- what of the start stays true for every call: links between mates of the nest, what a throw and a catch need -/
def dq_Z (A : Nat → Prop) (U : State) (H : Heap) : Prop := va_Nw (.methodLinkNest RDH 29 yPt_init RDH) U ∧ va_Nw (.methodLinkNest RDH 36 yCl_init RDH) U ∧ va_Nw (.methodLinkNest RDH 47 yPl_init RDH) U ∧ va_Nw (.methodLinkNest RDH 50 yHt_init RDH) U ∧ va_Nw (.methodLinkNest RDH 57 yTb_init RDH) U ∧ va_Nw (.methodLinkNest RDH 64 yWy_init RDH) U ∧ va_Nw (.methodLinkNest RTb 19 yDH_leastOf RDH) U ∧ va_Nw (.methodLinkNest RWy 37 yDH_holds RDH) U ∧ va_Nw (.methodLinkNest RWy 55 yDH_without RDH) U ∧ va_Nw (.methodLinkNest RHt 28 yDH_holds RDH) U ∧ va_Nw (.castable "java/lang/IndexOutOfBoundsException" "java/lang/IndexOutOfBoundsException") U ∧ va_Nw (.castable "java/lang/IllegalArgumentException" "java/lang/IllegalArgumentException") U ∧ va_Nw (.castable "java/lang/IllegalStateException" "java/lang/IllegalStateException") U ∧ va_Nw (.declares (Bundle.initS "java/lang/RuntimeException")) U ∧ va_Nw (.declares (Bundle.initS "java/lang/Exception")) U ∧ va_Nw (.declares (Bundle.initS "java/lang/Throwable")) U ∧ va_Nc "java/lang/IllegalArgumentException" "java/lang/IndexOutOfBoundsException" U ∧ va_Nc "java/lang/IllegalArgumentException" "java/lang/IllegalStateException" U ∧ va_Nc "java/lang/IndexOutOfBoundsException" "java/lang/IllegalStateException" U ∧ va_Zq Bundle.tN "UNASSIGNED_STACK" Bundle.steD A U H ∧ dx_L Bundle.tN "UNASSIGNED_STACK" Bundle.steD A U H ∧ va_Zq Bundle.tN "SUPPRESSED_SENTINEL" Bundle.listD A U H ∧ dx_L Bundle.tN "SUPPRESSED_SENTINEL" Bundle.listD A U H ∧ va_AO RPl U ∧ (∃ sa : Nat, vk_R RDH 75 "there is no such spindle" sa U) ∧ (∃ sa : Nat, vk_R RDH 225 "a number is out of its range" sa U) ∧ (∃ sa : Nat, vk_R RDH 102 "there is no room for a hole more" sa U) ∧ (∃ sa : Nat, vk_R RDH 221 "there is no such hole" sa U) ∧ (∃ sa : Nat, vk_R RDH 219 "it was not planned since something was told" sa U) ∧ (∃ sa : Nat, vk_R RDH 223 "there is no such hit" sa U) ∧ (∃ sa : Nat, vk_R RDH 157 "a hit has nothing of that number" sa U)
theorem dq_Z.go {A B : Nat → Prop} {U U' : State} {H H' : Heap} (h : dq_Z A U H) (hBA : ∀ q, B q → A q) (hk : ∀ a : Nat, a < H.size → ¬ A a → H'[a]? = H[a]?) (hw : U.WarmedH U'.vm) : dq_Z B U' H' := by
  obtain ⟨h_n0, h_n1, h_n2, h_n3, h_n4, h_n5, h_n6, h_n7, h_n8, h_n9, h_c0, h_c1, h_c2, h_d0, h_d1, h_d2, h_x0, h_x1, h_x2, h_q0, h_l0, h_q1, h_l1, h_ao, h_s75, h_s225, h_s102, h_s221, h_s219, h_s223, h_s157⟩ := h
  refine ⟨?_, ?_, ?_, ?_, ?_, ?_, ?_, ?_, ?_, ?_, ?_, ?_, ?_, ?_, ?_, ?_, ?_, ?_, ?_, ?_, ?_, ?_, ?_, ?_, ?_, ?_, ?_, ?_, ?_, ?_, ?_⟩
  · exact va_Nw.warmM hw h_n0
  · exact va_Nw.warmM hw h_n1
  · exact va_Nw.warmM hw h_n2
  · exact va_Nw.warmM hw h_n3
  · exact va_Nw.warmM hw h_n4
  · exact va_Nw.warmM hw h_n5
  · exact va_Nw.warmM hw h_n6
  · exact va_Nw.warmM hw h_n7
  · exact va_Nw.warmM hw h_n8
  · exact va_Nw.warmM hw h_n9
  · exact va_Nw.warmC hw h_c0
  · exact va_Nw.warmC hw h_c1
  · exact va_Nw.warmC hw h_c2
  · exact va_Nw.warmD hw h_d0
  · exact va_Nw.warmD hw h_d1
  · exact va_Nw.warmD hw h_d2
  · exact va_Nc.moved hw.alike h_x0
  · exact va_Nc.moved hw.alike h_x1
  · exact va_Nc.moved hw.alike h_x2
  · exact va_Zq.narrow (va_Zq.kept (va_Zq.moved hw.alike h_q0) hk) hBA
  · exact dx_L.go h_l0 hBA hk hw
  · exact va_Zq.narrow (va_Zq.kept (va_Zq.moved hw.alike h_q1) hk) hBA
  · exact dx_L.go h_l1 hBA hk hw
  · exact va_AO.moved hw.alike h_ao
  · obtain ⟨sa, h9⟩ := h_s75; exact ⟨sa, vk_R.warm hw h9⟩
  · obtain ⟨sa, h9⟩ := h_s225; exact ⟨sa, vk_R.warm hw h9⟩
  · obtain ⟨sa, h9⟩ := h_s102; exact ⟨sa, vk_R.warm hw h9⟩
  · obtain ⟨sa, h9⟩ := h_s221; exact ⟨sa, vk_R.warm hw h9⟩
  · obtain ⟨sa, h9⟩ := h_s219; exact ⟨sa, vk_R.warm hw h9⟩
  · obtain ⟨sa, h9⟩ := h_s223; exact ⟨sa, vk_R.warm hw h9⟩
  · obtain ⟨sa, h9⟩ := h_s157; exact ⟨sa, vk_R.warm hw h9⟩
theorem dq_Z.n0 {A : Nat → Prop} {U : State} {H : Heap} (h : dq_Z A U H) : va_Nw (.methodLinkNest RDH 29 yPt_init RDH) U := h.1
theorem dq_Z.n1 {A : Nat → Prop} {U : State} {H : Heap} (h : dq_Z A U H) : va_Nw (.methodLinkNest RDH 36 yCl_init RDH) U := h.2.1
theorem dq_Z.n2 {A : Nat → Prop} {U : State} {H : Heap} (h : dq_Z A U H) : va_Nw (.methodLinkNest RDH 47 yPl_init RDH) U := h.2.2.1
theorem dq_Z.n3 {A : Nat → Prop} {U : State} {H : Heap} (h : dq_Z A U H) : va_Nw (.methodLinkNest RDH 50 yHt_init RDH) U := h.2.2.2.1
theorem dq_Z.n4 {A : Nat → Prop} {U : State} {H : Heap} (h : dq_Z A U H) : va_Nw (.methodLinkNest RDH 57 yTb_init RDH) U := h.2.2.2.2.1
theorem dq_Z.n5 {A : Nat → Prop} {U : State} {H : Heap} (h : dq_Z A U H) : va_Nw (.methodLinkNest RDH 64 yWy_init RDH) U := h.2.2.2.2.2.1
theorem dq_Z.n6 {A : Nat → Prop} {U : State} {H : Heap} (h : dq_Z A U H) : va_Nw (.methodLinkNest RTb 19 yDH_leastOf RDH) U := h.2.2.2.2.2.2.1
theorem dq_Z.n7 {A : Nat → Prop} {U : State} {H : Heap} (h : dq_Z A U H) : va_Nw (.methodLinkNest RWy 37 yDH_holds RDH) U := h.2.2.2.2.2.2.2.1
theorem dq_Z.n8 {A : Nat → Prop} {U : State} {H : Heap} (h : dq_Z A U H) : va_Nw (.methodLinkNest RWy 55 yDH_without RDH) U := h.2.2.2.2.2.2.2.2.1
theorem dq_Z.n9 {A : Nat → Prop} {U : State} {H : Heap} (h : dq_Z A U H) : va_Nw (.methodLinkNest RHt 28 yDH_holds RDH) U := h.2.2.2.2.2.2.2.2.2.1
theorem dq_Z.c0 {A : Nat → Prop} {U : State} {H : Heap} (h : dq_Z A U H) : va_Nw (.castable "java/lang/IndexOutOfBoundsException" "java/lang/IndexOutOfBoundsException") U := h.2.2.2.2.2.2.2.2.2.2.1
theorem dq_Z.c1 {A : Nat → Prop} {U : State} {H : Heap} (h : dq_Z A U H) : va_Nw (.castable "java/lang/IllegalArgumentException" "java/lang/IllegalArgumentException") U := h.2.2.2.2.2.2.2.2.2.2.2.1
theorem dq_Z.c2 {A : Nat → Prop} {U : State} {H : Heap} (h : dq_Z A U H) : va_Nw (.castable "java/lang/IllegalStateException" "java/lang/IllegalStateException") U := h.2.2.2.2.2.2.2.2.2.2.2.2.1
theorem dq_Z.d0 {A : Nat → Prop} {U : State} {H : Heap} (h : dq_Z A U H) : va_Nw (.declares (Bundle.initS "java/lang/RuntimeException")) U := h.2.2.2.2.2.2.2.2.2.2.2.2.2.1
theorem dq_Z.d1 {A : Nat → Prop} {U : State} {H : Heap} (h : dq_Z A U H) : va_Nw (.declares (Bundle.initS "java/lang/Exception")) U := h.2.2.2.2.2.2.2.2.2.2.2.2.2.2.1
theorem dq_Z.d2 {A : Nat → Prop} {U : State} {H : Heap} (h : dq_Z A U H) : va_Nw (.declares (Bundle.initS "java/lang/Throwable")) U := h.2.2.2.2.2.2.2.2.2.2.2.2.2.2.2.1
theorem dq_Z.x0 {A : Nat → Prop} {U : State} {H : Heap} (h : dq_Z A U H) : va_Nc "java/lang/IllegalArgumentException" "java/lang/IndexOutOfBoundsException" U := h.2.2.2.2.2.2.2.2.2.2.2.2.2.2.2.2.1
theorem dq_Z.x1 {A : Nat → Prop} {U : State} {H : Heap} (h : dq_Z A U H) : va_Nc "java/lang/IllegalArgumentException" "java/lang/IllegalStateException" U := h.2.2.2.2.2.2.2.2.2.2.2.2.2.2.2.2.2.1
theorem dq_Z.x2 {A : Nat → Prop} {U : State} {H : Heap} (h : dq_Z A U H) : va_Nc "java/lang/IndexOutOfBoundsException" "java/lang/IllegalStateException" U := h.2.2.2.2.2.2.2.2.2.2.2.2.2.2.2.2.2.2.1
theorem dq_Z.q0 {A : Nat → Prop} {U : State} {H : Heap} (h : dq_Z A U H) : va_Zq Bundle.tN "UNASSIGNED_STACK" Bundle.steD A U H := h.2.2.2.2.2.2.2.2.2.2.2.2.2.2.2.2.2.2.2.1
theorem dq_Z.l0 {A : Nat → Prop} {U : State} {H : Heap} (h : dq_Z A U H) : dx_L Bundle.tN "UNASSIGNED_STACK" Bundle.steD A U H := h.2.2.2.2.2.2.2.2.2.2.2.2.2.2.2.2.2.2.2.2.1
theorem dq_Z.q1 {A : Nat → Prop} {U : State} {H : Heap} (h : dq_Z A U H) : va_Zq Bundle.tN "SUPPRESSED_SENTINEL" Bundle.listD A U H := h.2.2.2.2.2.2.2.2.2.2.2.2.2.2.2.2.2.2.2.2.2.1
theorem dq_Z.l1 {A : Nat → Prop} {U : State} {H : Heap} (h : dq_Z A U H) : dx_L Bundle.tN "SUPPRESSED_SENTINEL" Bundle.listD A U H := h.2.2.2.2.2.2.2.2.2.2.2.2.2.2.2.2.2.2.2.2.2.2.1
theorem dq_Z.ao {A : Nat → Prop} {U : State} {H : Heap} (h : dq_Z A U H) : va_AO RPl U := h.2.2.2.2.2.2.2.2.2.2.2.2.2.2.2.2.2.2.2.2.2.2.2.1
theorem dq_Z.s75 {A : Nat → Prop} {U : State} {H : Heap} (h : dq_Z A U H) : (∃ sa : Nat, vk_R RDH 75 "there is no such spindle" sa U) := h.2.2.2.2.2.2.2.2.2.2.2.2.2.2.2.2.2.2.2.2.2.2.2.2.1
theorem dq_Z.s225 {A : Nat → Prop} {U : State} {H : Heap} (h : dq_Z A U H) : (∃ sa : Nat, vk_R RDH 225 "a number is out of its range" sa U) := h.2.2.2.2.2.2.2.2.2.2.2.2.2.2.2.2.2.2.2.2.2.2.2.2.2.1
theorem dq_Z.s102 {A : Nat → Prop} {U : State} {H : Heap} (h : dq_Z A U H) : (∃ sa : Nat, vk_R RDH 102 "there is no room for a hole more" sa U) := h.2.2.2.2.2.2.2.2.2.2.2.2.2.2.2.2.2.2.2.2.2.2.2.2.2.2.1
theorem dq_Z.s221 {A : Nat → Prop} {U : State} {H : Heap} (h : dq_Z A U H) : (∃ sa : Nat, vk_R RDH 221 "there is no such hole" sa U) := h.2.2.2.2.2.2.2.2.2.2.2.2.2.2.2.2.2.2.2.2.2.2.2.2.2.2.2.1
theorem dq_Z.s219 {A : Nat → Prop} {U : State} {H : Heap} (h : dq_Z A U H) : (∃ sa : Nat, vk_R RDH 219 "it was not planned since something was told" sa U) := h.2.2.2.2.2.2.2.2.2.2.2.2.2.2.2.2.2.2.2.2.2.2.2.2.2.2.2.2.1
theorem dq_Z.s223 {A : Nat → Prop} {U : State} {H : Heap} (h : dq_Z A U H) : (∃ sa : Nat, vk_R RDH 223 "there is no such hit" sa U) := h.2.2.2.2.2.2.2.2.2.2.2.2.2.2.2.2.2.2.2.2.2.2.2.2.2.2.2.2.2.1
theorem dq_Z.s157 {A : Nat → Prop} {U : State} {H : Heap} (h : dq_Z A U H) : (∃ sa : Nat, vk_R RDH 157 "a hit has nothing of that number" sa U) := h.2.2.2.2.2.2.2.2.2.2.2.2.2.2.2.2.2.2.2.2.2.2.2.2.2.2.2.2.2.2
abbrev dq_t (g : Nat → ClassId) : List (ClassId × FieldType) := [(g 0, .int), (g 1, .boolean), (g 2, .long), (g 3, .object RPl)]
theorem dq_giV {c0 cw : Cond} {own : String} {idx : Nat} {C : String} {y : MethodName} (h1 : Cond.methodLink own idx y ∈ dq_G) (h2 : Cond.instanceMethod y ∈ dq_G) (h3 : Cond.selects C y y ∈ dq_G) (h4 : Cond.initialized C ∈ dq_G) (h5 : cw ∈ dq_G) : GoodIn (c0 :: dq_G) (wsV own idx C y (cw :: dq_G)) := by
  refine dq_giS (fun w h => List.mem_cons_of_mem _ h) (fun w hw => ?_)
  simp only [wsV, List.cons_append, List.nil_append, List.mem_cons] at hw
  rcases hw with rfl | rfl | rfl | rfl | rfl | hw
  · exact h1
  · exact h2
  · exact h3
  · exact h4
  · exact h5
  · exact hw
theorem dq_giS2 {c0 cw : Cond} {own : String} {idx : Nat} {y : MethodName} (h1 : Cond.methodLink own idx y ∈ dq_G) (h2 : Cond.static y ∈ dq_G) (h4 : Cond.initialized own ∈ dq_G) (h5 : cw ∈ dq_G) : GoodIn (c0 :: dq_G) (wsS own idx y (cw :: dq_G)) := by
  refine dq_giS (fun w h => List.mem_cons_of_mem _ h) (fun w hw => ?_)
  simp only [wsS, List.cons_append, List.nil_append, List.mem_cons] at hw
  rcases hw with rfl | rfl | rfl | rfl | hw
  · exact h1
  · exact h2
  · exact h4
  · exact h5
  · exact hw
theorem dq_gi {c0 cw : Cond} (h5 : cw ∈ dq_G) : GoodIn (c0 :: dq_G) (cw :: dq_G) := by
  refine dq_giS (fun w h => List.mem_cons_of_mem _ h) (fun w hw => ?_)
  rcases List.mem_cons.mp hw with rfl | hw
  · exact h5
  · exact hw
/-! OWN LAYER: calls over the world by roles (dq_Z: what of the start stays true) -/
def dq_S (D : va_G) (cl : List vw_C) (tys : List (ClassId × FieldType)) (ad : Nat → Nat) (w : Nat → Option va_E) (sz : Nat) : State → Prop := fun U => U.heap.size = sz ∧ dq_W D cl ad w (fun _ => True) U.heap ∧ va_K D cl tys U ∧ dq_Z (dq_A ad w sz) U U.heap
def dq_B (D : va_G) (cl : List vw_C) (tys : List (ClassId × FieldType)) (ad : Nat → Nat) (A : Nat → Prop) : (Nat → Option va_E) → State → Prop := fun u t => dq_W D cl ad u A t.heap ∧ va_K D cl tys t
def dq_B2 (D : va_G) (cl : List vw_C) (tys : List (ClassId × FieldType)) (A : Nat → Prop) : (Nat → Nat) × (Nat → Option va_E) → State → Prop := fun u t => dq_W D cl u.1 u.2 A t.heap ∧ va_K D cl tys t
theorem dq_blind {D : va_G} {cl : List vw_C} {tys : List (ClassId × FieldType)} {ad : Nat → Nat} {w : Nat → Option va_E} {sz : Nat} {av : List Value} : FrameBlind (va_Pc av (dq_S D cl tys ad w sz)) := by
  intro a U g mk q
  obtain ⟨h1, h2, h3, h4, h5⟩ := q
  exact ⟨h1, h2, h3, va_K.moved (u := U) (U := U.calling g mk a) (Vm.Alike.refl U.vm) h4, dq_Z.go (U := U) (U' := U.calling g mk a) h5 (fun _ h => h) (fun _ _ _ => rfl) (State.WarmedH.refl U)⟩
section DQC
variable {p : Program} {l : Launch} {e : Env} {R : Room} {s : State} {m : MethodId} {args : Array Value} {below : List Frame} {meth : Method} {c : Code} {H : Heap} {locs : List Loc} {cells slots : Nat} {Q : State → Prop}
variable {cc : ByteArray} {pc : Nat} {ls : Array Slot} {rest st0 : List Value} {a : Array Value} {D : va_G} {cl : List vw_C} {A : Nat → Prop} {tys : List (ClassId × FieldType)} {ad : Nat → Nat} {w : Nat → Option va_E} {mc ms : Nat}
theorem dq_preS {av : List Value} (hW : dq_W D cl ad w A H) (hS : va_S A s.heap H locs) (hA : ∀ q, s.heap.size ≤ q → A q) (hK : va_K D cl tys s) (hZ : dq_Z A s s.heap) : PreS s H (va_Pc av (dq_S D cl tys ad w H.size)) av :=
  ⟨dq_blind, fun U hU hw => ⟨rfl, by rw [hU], by rw [hU]; exact hW.weaken (fun _ _ => trivial), va_K.moved hw.alike hK, dq_Z.go (U := s) (U' := U) hZ (dq_A.sub hW hS hA) (fun x h1 h2 => by rw [hU]; exact hS.2.1 x h1 h2) hw⟩⟩
theorem dq_preV {b : Nat} {As : List Value} {r ci : Nat} {C : String} {T : u_T} {N : Nat} {fs : List Value} (hW : dq_W D cl ad w A H) (hS : va_S A s.heap H locs) (hA : ∀ q, s.heap.size ≤ q → A q) (hK : va_K D cl tys s) (hZ : dq_Z A s s.heap) (he : w r = some (.inr (ci, fs))) (hc : cl[ci]? = some (C, T, N)) (hb : ad r = b) : PreV s H C b (va_Pc (.ref b :: As) (dq_S D cl tys ad w H.size)) As := by
  subst hb
  exact ⟨dq_blind, va_recv (q0 := 0) hK (hW.get he) hc rfl, (dq_preS (av := .ref (ad r) :: As) hW hS hA hK hZ).2⟩
theorem dq_calli {post : Int32 → (Nat → Option va_E) → Prop} (hr : va_Run p l e R s m args below meth c H locs cells slots mc ms (F0 m pc ls st0) rest (va_Qi post (dq_B D cl tys ad (dq_A ad w H.size)) (dq_A ad w H.size) a) (dq_A ad w H.size)) (hW : dq_W D cl ad w A H) (hS : va_S A s.heap H locs) (hA : ∀ q, s.heap.size ≤ q → A q)
    (kk : ∀ (r : Int32) (u : (Nat → Option va_E)) (H1 : Heap) (locs1 : List Loc), post r u → dq_W D cl ad u A H1 → va_S A s.heap H1 locs1 → H.size ≤ H1.size → W p l e R s m args below meth c H1 locs1 (cells + mc) (slots + ms) Q (F0 m (pc + 3) ls (.int r :: rest))) : W p l e R s m args below meth c H locs cells slots Q (F0 m pc ls st0) :=
  va_calli hr hS (fun q _ h => dq_A.sub hW hS hA q h) (dq_A.sub hW hS hA) (fun r u t H1 locs1 ht hvm hp hB hz hk hS1 => kk r u H1 locs1 hp (by have h9 := hB.1; rw [ht] at h9; exact h9.weaken (dq_A.sub hW hS hA)) hS1 hz)
theorem dq_calli2 {post : Int32 → ((Nat → Nat) × (Nat → Option va_E)) → Prop} (hr : va_Run p l e R s m args below meth c H locs cells slots mc ms (F0 m pc ls st0) rest (va_Qi post (dq_B2 D cl tys (dq_A ad w H.size)) (dq_A ad w H.size) a) (dq_A ad w H.size)) (hW : dq_W D cl ad w A H) (hS : va_S A s.heap H locs) (hA : ∀ q, s.heap.size ≤ q → A q)
    (kk : ∀ (r : Int32) (u : ((Nat → Nat) × (Nat → Option va_E))) (H1 : Heap) (locs1 : List Loc), post r u → dq_W D cl u.1 u.2 A H1 → va_S A s.heap H1 locs1 → H.size ≤ H1.size → W p l e R s m args below meth c H1 locs1 (cells + mc) (slots + ms) Q (F0 m (pc + 3) ls (.int r :: rest))) : W p l e R s m args below meth c H locs cells slots Q (F0 m pc ls st0) :=
  va_calli hr hS (fun q _ h => dq_A.sub hW hS hA q h) (dq_A.sub hW hS hA) (fun r u t H1 locs1 ht hvm hp hB hz hk hS1 => kk r u H1 locs1 hp (by have h9 := hB.1; rw [ht] at h9; exact h9.weaken (dq_A.sub hW hS hA)) hS1 hz)
theorem dq_calll {post : Int64 → (Nat → Option va_E) → Prop} (hr : va_Run p l e R s m args below meth c H locs cells slots mc ms (F0 m pc ls st0) rest (va_Ql post (dq_B D cl tys ad (dq_A ad w H.size)) (dq_A ad w H.size) a) (dq_A ad w H.size)) (hW : dq_W D cl ad w A H) (hS : va_S A s.heap H locs) (hA : ∀ q, s.heap.size ≤ q → A q)
    (kk : ∀ (r : Int64) (u : (Nat → Option va_E)) (H1 : Heap) (locs1 : List Loc), post r u → dq_W D cl ad u A H1 → va_S A s.heap H1 locs1 → H.size ≤ H1.size → W p l e R s m args below meth c H1 locs1 (cells + mc) (slots + ms) Q (F0 m (pc + 3) ls (.long r :: rest))) : W p l e R s m args below meth c H locs cells slots Q (F0 m pc ls st0) :=
  va_calll hr hS (fun q _ h => dq_A.sub hW hS hA q h) (dq_A.sub hW hS hA) (fun r u t H1 locs1 ht hvm hp hB hz hk hS1 => kk r u H1 locs1 hp (by have h9 := hB.1; rw [ht] at h9; exact h9.weaken (dq_A.sub hW hS hA)) hS1 hz)
theorem dq_calll2 {post : Int64 → ((Nat → Nat) × (Nat → Option va_E)) → Prop} (hr : va_Run p l e R s m args below meth c H locs cells slots mc ms (F0 m pc ls st0) rest (va_Ql post (dq_B2 D cl tys (dq_A ad w H.size)) (dq_A ad w H.size) a) (dq_A ad w H.size)) (hW : dq_W D cl ad w A H) (hS : va_S A s.heap H locs) (hA : ∀ q, s.heap.size ≤ q → A q)
    (kk : ∀ (r : Int64) (u : ((Nat → Nat) × (Nat → Option va_E))) (H1 : Heap) (locs1 : List Loc), post r u → dq_W D cl u.1 u.2 A H1 → va_S A s.heap H1 locs1 → H.size ≤ H1.size → W p l e R s m args below meth c H1 locs1 (cells + mc) (slots + ms) Q (F0 m (pc + 3) ls (.long r :: rest))) : W p l e R s m args below meth c H locs cells slots Q (F0 m pc ls st0) :=
  va_calll hr hS (fun q _ h => dq_A.sub hW hS hA q h) (dq_A.sub hW hS hA) (fun r u t H1 locs1 ht hvm hp hB hz hk hS1 => kk r u H1 locs1 hp (by have h9 := hB.1; rw [ht] at h9; exact h9.weaken (dq_A.sub hW hS hA)) hS1 hz)
theorem dq_callv {post : (Nat → Option va_E) → Prop} (hr : va_Run p l e R s m args below meth c H locs cells slots mc ms (F0 m pc ls st0) rest (va_Qv post (dq_B D cl tys ad (dq_A ad w H.size)) (dq_A ad w H.size) a) (dq_A ad w H.size)) (hW : dq_W D cl ad w A H) (hS : va_S A s.heap H locs) (hA : ∀ q, s.heap.size ≤ q → A q)
    (kk : ∀ (u : (Nat → Option va_E)) (H1 : Heap) (locs1 : List Loc), post u → dq_W D cl ad u A H1 → va_S A s.heap H1 locs1 → H.size ≤ H1.size → W p l e R s m args below meth c H1 locs1 (cells + mc) (slots + ms) Q (F0 m (pc + 3) ls rest)) : W p l e R s m args below meth c H locs cells slots Q (F0 m pc ls st0) :=
  va_callv hr hS (fun q _ h => dq_A.sub hW hS hA q h) (dq_A.sub hW hS hA) (fun u t H1 locs1 ht hvm hp hB hz hk hS1 => kk u H1 locs1 hp (by have h9 := hB.1; rw [ht] at h9; exact h9.weaken (dq_A.sub hW hS hA)) hS1 hz)
theorem dq_callv2 {post : ((Nat → Nat) × (Nat → Option va_E)) → Prop} (hr : va_Run p l e R s m args below meth c H locs cells slots mc ms (F0 m pc ls st0) rest (va_Qv post (dq_B2 D cl tys (dq_A ad w H.size)) (dq_A ad w H.size) a) (dq_A ad w H.size)) (hW : dq_W D cl ad w A H) (hS : va_S A s.heap H locs) (hA : ∀ q, s.heap.size ≤ q → A q)
    (kk : ∀ (u : ((Nat → Nat) × (Nat → Option va_E))) (H1 : Heap) (locs1 : List Loc), post u → dq_W D cl u.1 u.2 A H1 → va_S A s.heap H1 locs1 → H.size ≤ H1.size → W p l e R s m args below meth c H1 locs1 (cells + mc) (slots + ms) Q (F0 m (pc + 3) ls rest)) : W p l e R s m args below meth c H locs cells slots Q (F0 m pc ls st0) :=
  va_callv hr hS (fun q _ h => dq_A.sub hW hS hA q h) (dq_A.sub hW hS hA) (fun u t H1 locs1 ht hvm hp hB hz hk hS1 => kk u H1 locs1 hp (by have h9 := hB.1; rw [ht] at h9; exact h9.weaken (dq_A.sub hW hS hA)) hS1 hz)
end DQC
/-! OWN LAYER: contracts over the world by roles, from a walk with its end as a premise -/
theorem dq_ofi {l : Launch} {y : MethodName} {ws ws' : List Cond} {rm : Room} {D : va_G} {cl : List vw_C} {tys : List (ClassId × FieldType)} {ad : Nat → Nat} {w : Nat → Option va_E} {sz : Nat} {av : List Value} {post : Int32 → (Nat → Option va_E) → Prop} {mc ms : Nat} {cc : ByteArray} {maxL : Nat} (hy : plainName y.cls = true) (hw : ws = Cond.code y cc maxL (some .int) :: ws') (hav : (lg_sl av).length ≤ maxL)
    (body : ∀ (p : Program) (e : Env) (s : State) (m : MethodId) (below : List Frame) (meth : Method) (c : Code) (A : Nat → Prop) (Q : State → Prop) (ls : Array Slot), CallFix p m c cc maxL s av.toArray ws y.cls → meth.name = y.name → (∀ q, s.heap.size ≤ q → A q) → dq_W D cl ad w A s.heap → va_K D cl tys s → dq_Z A s s.heap → lv_has ls maxL (lv_args 0 av) →
      (∀ (v : Int32) (u : (Nat → Option va_E)) (H : Heap) (locs : List Loc) (pc : Nat) (ls : Array Slot), post v u → dq_W D cl ad u A H → va_S A s.heap H locs → decode cc pc = .ok (.ireturn, 1) → W p l e rm s m av.toArray below meth c H locs mc ms Q (F0 m pc ls [.int v])) →
      W p l e rm s m av.toArray below meth c s.heap [] 0 0 Q (F0 m 0 ls [])) : Met l y ws rm (va_Pc av (dq_S D cl tys ad w sz)) (va_Qi post (dq_B D cl tys ad (dq_A ad w sz)) (dq_A ad w sz)) mc ms (dq_A ad w sz) := by
  refine Met.ofW (cc := cc) (maxL := maxL) (ret := (some .int)) hy hw ?_
  intro p e s m args below meth c s₁ B hml hv
  obtain ⟨rfl, rfl, hW0, hK, hZ⟩ := hv
  have hlocks := B.notSynchronized
  have hts := atoms_spec (ws := ws) B.pre
  have hown : s.vm.findClass y.cls = some m.cls := findClass_of_methodNamed B.named
  rw [lg_entry_eq]
  refine body p e s m below meth c (dq_A ad w s.heap.size) _ _ ⟨B.exec, B.bytes, hml, hown, hts⟩ (name_of_methodNamed B.named B.method).1 (fun q h => Or.inr h) hW0.self hK hZ (lv_entry av hav) ?_
  intro v u H locs pc ls hp hW hS hd
  exact W.iret (v := v) B.exec B.bytes B.returns (fun t ht hw9 => ⟨⟨v, u, rfl, hp, by rw [ht]; exact hW, va_K.moved hw9.alike hK⟩, hS.F ht⟩) hS.2.2 hd
theorem dq_ofi2 {l : Launch} {y : MethodName} {ws ws' : List Cond} {rm : Room} {D : va_G} {cl : List vw_C} {tys : List (ClassId × FieldType)} {ad : Nat → Nat} {w : Nat → Option va_E} {sz : Nat} {av : List Value} {post : Int32 → ((Nat → Nat) × (Nat → Option va_E)) → Prop} {mc ms : Nat} {cc : ByteArray} {maxL : Nat} (hy : plainName y.cls = true) (hw : ws = Cond.code y cc maxL (some .int) :: ws') (hav : (lg_sl av).length ≤ maxL)
    (body : ∀ (p : Program) (e : Env) (s : State) (m : MethodId) (below : List Frame) (meth : Method) (c : Code) (A : Nat → Prop) (Q : State → Prop) (ls : Array Slot), CallFix p m c cc maxL s av.toArray ws y.cls → meth.name = y.name → (∀ q, s.heap.size ≤ q → A q) → dq_W D cl ad w A s.heap → va_K D cl tys s → dq_Z A s s.heap → lv_has ls maxL (lv_args 0 av) →
      (∀ (v : Int32) (u : ((Nat → Nat) × (Nat → Option va_E))) (H : Heap) (locs : List Loc) (pc : Nat) (ls : Array Slot), post v u → dq_W D cl u.1 u.2 A H → va_S A s.heap H locs → decode cc pc = .ok (.ireturn, 1) → W p l e rm s m av.toArray below meth c H locs mc ms Q (F0 m pc ls [.int v])) →
      W p l e rm s m av.toArray below meth c s.heap [] 0 0 Q (F0 m 0 ls [])) : Met l y ws rm (va_Pc av (dq_S D cl tys ad w sz)) (va_Qi post (dq_B2 D cl tys (dq_A ad w sz)) (dq_A ad w sz)) mc ms (dq_A ad w sz) := by
  refine Met.ofW (cc := cc) (maxL := maxL) (ret := (some .int)) hy hw ?_
  intro p e s m args below meth c s₁ B hml hv
  obtain ⟨rfl, rfl, hW0, hK, hZ⟩ := hv
  have hlocks := B.notSynchronized
  have hts := atoms_spec (ws := ws) B.pre
  have hown : s.vm.findClass y.cls = some m.cls := findClass_of_methodNamed B.named
  rw [lg_entry_eq]
  refine body p e s m below meth c (dq_A ad w s.heap.size) _ _ ⟨B.exec, B.bytes, hml, hown, hts⟩ (name_of_methodNamed B.named B.method).1 (fun q h => Or.inr h) hW0.self hK hZ (lv_entry av hav) ?_
  intro v u H locs pc ls hp hW hS hd
  exact W.iret (v := v) B.exec B.bytes B.returns (fun t ht hw9 => ⟨⟨v, u, rfl, hp, by rw [ht]; exact hW, va_K.moved hw9.alike hK⟩, hS.F ht⟩) hS.2.2 hd
theorem dq_ofz {l : Launch} {y : MethodName} {ws ws' : List Cond} {rm : Room} {D : va_G} {cl : List vw_C} {tys : List (ClassId × FieldType)} {ad : Nat → Nat} {w : Nat → Option va_E} {sz : Nat} {av : List Value} {post : Int32 → (Nat → Option va_E) → Prop} {mc ms : Nat} {cc : ByteArray} {maxL : Nat} (hy : plainName y.cls = true) (hw : ws = Cond.code y cc maxL (some .boolean) :: ws') (hav : (lg_sl av).length ≤ maxL)
    (body : ∀ (p : Program) (e : Env) (s : State) (m : MethodId) (below : List Frame) (meth : Method) (c : Code) (A : Nat → Prop) (Q : State → Prop) (ls : Array Slot), CallFix p m c cc maxL s av.toArray ws y.cls → meth.name = y.name → (∀ q, s.heap.size ≤ q → A q) → dq_W D cl ad w A s.heap → va_K D cl tys s → dq_Z A s s.heap → lv_has ls maxL (lv_args 0 av) →
      (∀ (v : Int32) (u : (Nat → Option va_E)) (H : Heap) (locs : List Loc) (pc : Nat) (ls : Array Slot), post v u → narrow .boolean (.int v) = .int v → dq_W D cl ad u A H → va_S A s.heap H locs → decode cc pc = .ok (.ireturn, 1) → W p l e rm s m av.toArray below meth c H locs mc ms Q (F0 m pc ls [.int v])) →
      W p l e rm s m av.toArray below meth c s.heap [] 0 0 Q (F0 m 0 ls [])) : Met l y ws rm (va_Pc av (dq_S D cl tys ad w sz)) (va_Qi post (dq_B D cl tys ad (dq_A ad w sz)) (dq_A ad w sz)) mc ms (dq_A ad w sz) := by
  refine Met.ofW (cc := cc) (maxL := maxL) (ret := (some .boolean)) hy hw ?_
  intro p e s m args below meth c s₁ B hml hv
  obtain ⟨rfl, rfl, hW0, hK, hZ⟩ := hv
  have hlocks := B.notSynchronized
  have hts := atoms_spec (ws := ws) B.pre
  have hown : s.vm.findClass y.cls = some m.cls := findClass_of_methodNamed B.named
  rw [lg_entry_eq]
  refine body p e s m below meth c (dq_A ad w s.heap.size) _ _ ⟨B.exec, B.bytes, hml, hown, hts⟩ (name_of_methodNamed B.named B.method).1 (fun q h => Or.inr h) hW0.self hK hZ (lv_entry av hav) ?_
  intro v u H locs pc ls hp hn hW hS hd
  exact W.zret (v := v) B.exec B.bytes B.returns hn (fun t ht hw9 => ⟨⟨v, u, rfl, hp, by rw [ht]; exact hW, va_K.moved hw9.alike hK⟩, hS.F ht⟩) hS.2.2 hd
theorem dq_ofz2 {l : Launch} {y : MethodName} {ws ws' : List Cond} {rm : Room} {D : va_G} {cl : List vw_C} {tys : List (ClassId × FieldType)} {ad : Nat → Nat} {w : Nat → Option va_E} {sz : Nat} {av : List Value} {post : Int32 → ((Nat → Nat) × (Nat → Option va_E)) → Prop} {mc ms : Nat} {cc : ByteArray} {maxL : Nat} (hy : plainName y.cls = true) (hw : ws = Cond.code y cc maxL (some .boolean) :: ws') (hav : (lg_sl av).length ≤ maxL)
    (body : ∀ (p : Program) (e : Env) (s : State) (m : MethodId) (below : List Frame) (meth : Method) (c : Code) (A : Nat → Prop) (Q : State → Prop) (ls : Array Slot), CallFix p m c cc maxL s av.toArray ws y.cls → meth.name = y.name → (∀ q, s.heap.size ≤ q → A q) → dq_W D cl ad w A s.heap → va_K D cl tys s → dq_Z A s s.heap → lv_has ls maxL (lv_args 0 av) →
      (∀ (v : Int32) (u : ((Nat → Nat) × (Nat → Option va_E))) (H : Heap) (locs : List Loc) (pc : Nat) (ls : Array Slot), post v u → narrow .boolean (.int v) = .int v → dq_W D cl u.1 u.2 A H → va_S A s.heap H locs → decode cc pc = .ok (.ireturn, 1) → W p l e rm s m av.toArray below meth c H locs mc ms Q (F0 m pc ls [.int v])) →
      W p l e rm s m av.toArray below meth c s.heap [] 0 0 Q (F0 m 0 ls [])) : Met l y ws rm (va_Pc av (dq_S D cl tys ad w sz)) (va_Qi post (dq_B2 D cl tys (dq_A ad w sz)) (dq_A ad w sz)) mc ms (dq_A ad w sz) := by
  refine Met.ofW (cc := cc) (maxL := maxL) (ret := (some .boolean)) hy hw ?_
  intro p e s m args below meth c s₁ B hml hv
  obtain ⟨rfl, rfl, hW0, hK, hZ⟩ := hv
  have hlocks := B.notSynchronized
  have hts := atoms_spec (ws := ws) B.pre
  have hown : s.vm.findClass y.cls = some m.cls := findClass_of_methodNamed B.named
  rw [lg_entry_eq]
  refine body p e s m below meth c (dq_A ad w s.heap.size) _ _ ⟨B.exec, B.bytes, hml, hown, hts⟩ (name_of_methodNamed B.named B.method).1 (fun q h => Or.inr h) hW0.self hK hZ (lv_entry av hav) ?_
  intro v u H locs pc ls hp hn hW hS hd
  exact W.zret (v := v) B.exec B.bytes B.returns hn (fun t ht hw9 => ⟨⟨v, u, rfl, hp, by rw [ht]; exact hW, va_K.moved hw9.alike hK⟩, hS.F ht⟩) hS.2.2 hd
theorem dq_ofl {l : Launch} {y : MethodName} {ws ws' : List Cond} {rm : Room} {D : va_G} {cl : List vw_C} {tys : List (ClassId × FieldType)} {ad : Nat → Nat} {w : Nat → Option va_E} {sz : Nat} {av : List Value} {post : Int64 → (Nat → Option va_E) → Prop} {mc ms : Nat} {cc : ByteArray} {maxL : Nat} (hy : plainName y.cls = true) (hw : ws = Cond.code y cc maxL (some .long) :: ws') (hav : (lg_sl av).length ≤ maxL)
    (body : ∀ (p : Program) (e : Env) (s : State) (m : MethodId) (below : List Frame) (meth : Method) (c : Code) (A : Nat → Prop) (Q : State → Prop) (ls : Array Slot), CallFix p m c cc maxL s av.toArray ws y.cls → meth.name = y.name → (∀ q, s.heap.size ≤ q → A q) → dq_W D cl ad w A s.heap → va_K D cl tys s → dq_Z A s s.heap → lv_has ls maxL (lv_args 0 av) →
      (∀ (v : Int64) (u : (Nat → Option va_E)) (H : Heap) (locs : List Loc) (pc : Nat) (ls : Array Slot), post v u → dq_W D cl ad u A H → va_S A s.heap H locs → decode cc pc = .ok (.lreturn, 1) → W p l e rm s m av.toArray below meth c H locs mc ms Q (F0 m pc ls [.long v])) →
      W p l e rm s m av.toArray below meth c s.heap [] 0 0 Q (F0 m 0 ls [])) : Met l y ws rm (va_Pc av (dq_S D cl tys ad w sz)) (va_Ql post (dq_B D cl tys ad (dq_A ad w sz)) (dq_A ad w sz)) mc ms (dq_A ad w sz) := by
  refine Met.ofW (cc := cc) (maxL := maxL) (ret := (some .long)) hy hw ?_
  intro p e s m args below meth c s₁ B hml hv
  obtain ⟨rfl, rfl, hW0, hK, hZ⟩ := hv
  have hlocks := B.notSynchronized
  have hts := atoms_spec (ws := ws) B.pre
  have hown : s.vm.findClass y.cls = some m.cls := findClass_of_methodNamed B.named
  rw [lg_entry_eq]
  refine body p e s m below meth c (dq_A ad w s.heap.size) _ _ ⟨B.exec, B.bytes, hml, hown, hts⟩ (name_of_methodNamed B.named B.method).1 (fun q h => Or.inr h) hW0.self hK hZ (lv_entry av hav) ?_
  intro v u H locs pc ls hp hW hS hd
  exact W.lret (v := v) B.exec B.bytes B.returns (fun t ht hw9 => ⟨⟨v, u, rfl, hp, by rw [ht]; exact hW, va_K.moved hw9.alike hK⟩, hS.F ht⟩) hS.2.2 hd
theorem dq_ofl2 {l : Launch} {y : MethodName} {ws ws' : List Cond} {rm : Room} {D : va_G} {cl : List vw_C} {tys : List (ClassId × FieldType)} {ad : Nat → Nat} {w : Nat → Option va_E} {sz : Nat} {av : List Value} {post : Int64 → ((Nat → Nat) × (Nat → Option va_E)) → Prop} {mc ms : Nat} {cc : ByteArray} {maxL : Nat} (hy : plainName y.cls = true) (hw : ws = Cond.code y cc maxL (some .long) :: ws') (hav : (lg_sl av).length ≤ maxL)
    (body : ∀ (p : Program) (e : Env) (s : State) (m : MethodId) (below : List Frame) (meth : Method) (c : Code) (A : Nat → Prop) (Q : State → Prop) (ls : Array Slot), CallFix p m c cc maxL s av.toArray ws y.cls → meth.name = y.name → (∀ q, s.heap.size ≤ q → A q) → dq_W D cl ad w A s.heap → va_K D cl tys s → dq_Z A s s.heap → lv_has ls maxL (lv_args 0 av) →
      (∀ (v : Int64) (u : ((Nat → Nat) × (Nat → Option va_E))) (H : Heap) (locs : List Loc) (pc : Nat) (ls : Array Slot), post v u → dq_W D cl u.1 u.2 A H → va_S A s.heap H locs → decode cc pc = .ok (.lreturn, 1) → W p l e rm s m av.toArray below meth c H locs mc ms Q (F0 m pc ls [.long v])) →
      W p l e rm s m av.toArray below meth c s.heap [] 0 0 Q (F0 m 0 ls [])) : Met l y ws rm (va_Pc av (dq_S D cl tys ad w sz)) (va_Ql post (dq_B2 D cl tys (dq_A ad w sz)) (dq_A ad w sz)) mc ms (dq_A ad w sz) := by
  refine Met.ofW (cc := cc) (maxL := maxL) (ret := (some .long)) hy hw ?_
  intro p e s m args below meth c s₁ B hml hv
  obtain ⟨rfl, rfl, hW0, hK, hZ⟩ := hv
  have hlocks := B.notSynchronized
  have hts := atoms_spec (ws := ws) B.pre
  have hown : s.vm.findClass y.cls = some m.cls := findClass_of_methodNamed B.named
  rw [lg_entry_eq]
  refine body p e s m below meth c (dq_A ad w s.heap.size) _ _ ⟨B.exec, B.bytes, hml, hown, hts⟩ (name_of_methodNamed B.named B.method).1 (fun q h => Or.inr h) hW0.self hK hZ (lv_entry av hav) ?_
  intro v u H locs pc ls hp hW hS hd
  exact W.lret (v := v) B.exec B.bytes B.returns (fun t ht hw9 => ⟨⟨v, u, rfl, hp, by rw [ht]; exact hW, va_K.moved hw9.alike hK⟩, hS.F ht⟩) hS.2.2 hd
theorem dq_ofv {l : Launch} {y : MethodName} {ws ws' : List Cond} {rm : Room} {D : va_G} {cl : List vw_C} {tys : List (ClassId × FieldType)} {ad : Nat → Nat} {w : Nat → Option va_E} {sz : Nat} {av : List Value} {post : (Nat → Option va_E) → Prop} {mc ms : Nat} {cc : ByteArray} {maxL : Nat} (hy : plainName y.cls = true) (hw : ws = Cond.code y cc maxL none :: ws') (hav : (lg_sl av).length ≤ maxL)
    (body : ∀ (p : Program) (e : Env) (s : State) (m : MethodId) (below : List Frame) (meth : Method) (c : Code) (A : Nat → Prop) (Q : State → Prop) (ls : Array Slot), CallFix p m c cc maxL s av.toArray ws y.cls → meth.name = y.name → (∀ q, s.heap.size ≤ q → A q) → dq_W D cl ad w A s.heap → va_K D cl tys s → dq_Z A s s.heap → lv_has ls maxL (lv_args 0 av) →
      (∀ (u : (Nat → Option va_E)) (H : Heap) (locs : List Loc) (pc : Nat) (ls : Array Slot), post u → dq_W D cl ad u A H → va_S A s.heap H locs → decode cc pc = .ok (.return_, 1) → W p l e rm s m av.toArray below meth c H locs mc ms Q (F0 m pc ls [])) →
      W p l e rm s m av.toArray below meth c s.heap [] 0 0 Q (F0 m 0 ls [])) : Met l y ws rm (va_Pc av (dq_S D cl tys ad w sz)) (va_Qv post (dq_B D cl tys ad (dq_A ad w sz)) (dq_A ad w sz)) mc ms (dq_A ad w sz) := by
  refine Met.ofW (cc := cc) (maxL := maxL) (ret := none) hy hw ?_
  intro p e s m args below meth c s₁ B hml hv
  obtain ⟨rfl, rfl, hW0, hK, hZ⟩ := hv
  have hlocks := B.notSynchronized
  have hts := atoms_spec (ws := ws) B.pre
  have hown : s.vm.findClass y.cls = some m.cls := findClass_of_methodNamed B.named
  rw [lg_entry_eq]
  refine body p e s m below meth c (dq_A ad w s.heap.size) _ _ ⟨B.exec, B.bytes, hml, hown, hts⟩ (name_of_methodNamed B.named B.method).1 (fun q h => Or.inr h) hW0.self hK hZ (lv_entry av hav) ?_
  intro u H locs pc ls hp hW hS hd
  exact W.vret B.exec B.bytes B.returns (fun t ht hw9 => ⟨⟨u, rfl, hp, by rw [ht]; exact hW, va_K.moved hw9.alike hK⟩, hS.F ht⟩) hS.2.2 hd
theorem dq_ofv2 {l : Launch} {y : MethodName} {ws ws' : List Cond} {rm : Room} {D : va_G} {cl : List vw_C} {tys : List (ClassId × FieldType)} {ad : Nat → Nat} {w : Nat → Option va_E} {sz : Nat} {av : List Value} {post : ((Nat → Nat) × (Nat → Option va_E)) → Prop} {mc ms : Nat} {cc : ByteArray} {maxL : Nat} (hy : plainName y.cls = true) (hw : ws = Cond.code y cc maxL none :: ws') (hav : (lg_sl av).length ≤ maxL)
    (body : ∀ (p : Program) (e : Env) (s : State) (m : MethodId) (below : List Frame) (meth : Method) (c : Code) (A : Nat → Prop) (Q : State → Prop) (ls : Array Slot), CallFix p m c cc maxL s av.toArray ws y.cls → meth.name = y.name → (∀ q, s.heap.size ≤ q → A q) → dq_W D cl ad w A s.heap → va_K D cl tys s → dq_Z A s s.heap → lv_has ls maxL (lv_args 0 av) →
      (∀ (u : ((Nat → Nat) × (Nat → Option va_E))) (H : Heap) (locs : List Loc) (pc : Nat) (ls : Array Slot), post u → dq_W D cl u.1 u.2 A H → va_S A s.heap H locs → decode cc pc = .ok (.return_, 1) → W p l e rm s m av.toArray below meth c H locs mc ms Q (F0 m pc ls [])) →
      W p l e rm s m av.toArray below meth c s.heap [] 0 0 Q (F0 m 0 ls [])) : Met l y ws rm (va_Pc av (dq_S D cl tys ad w sz)) (va_Qv post (dq_B2 D cl tys (dq_A ad w sz)) (dq_A ad w sz)) mc ms (dq_A ad w sz) := by
  refine Met.ofW (cc := cc) (maxL := maxL) (ret := none) hy hw ?_
  intro p e s m args below meth c s₁ B hml hv
  obtain ⟨rfl, rfl, hW0, hK, hZ⟩ := hv
  have hlocks := B.notSynchronized
  have hts := atoms_spec (ws := ws) B.pre
  have hown : s.vm.findClass y.cls = some m.cls := findClass_of_methodNamed B.named
  rw [lg_entry_eq]
  refine body p e s m below meth c (dq_A ad w s.heap.size) _ _ ⟨B.exec, B.bytes, hml, hown, hts⟩ (name_of_methodNamed B.named B.method).1 (fun q h => Or.inr h) hW0.self hK hZ (lv_entry av hav) ?_
  intro u H locs pc ls hp hW hS hd
  exact W.vret B.exec B.bytes B.returns (fun t ht hw9 => ⟨⟨u, rfl, hp, by rw [ht]; exact hW, va_K.moved hw9.alike hK⟩, hS.F ht⟩) hS.2.2 hd
