/-! OWN LAYER: the catch. A row of the table that covers the pc and names a class: it takes the thrown object (b) or lets it pass -/
def dx_row (pl : Platform) (s₀ : State) (d : ClassId) (pc : Nat) (k : ClassId) (b : Bool) (y : ExceptionTableEntry) : Prop := covers y pc = true ∧ y.catchType ≠ 0 ∧ ∃ t, s₀.vm.ClassLinks pl d y.catchType t ∧ s₀.vm.assignable k t = b
theorem dx_rowgo {E : CtlPost} {e : Env} {d : Bool} {acts : List Action} {S : State} {f : JFrame} {a : Addr} {Q : Handler → Pre} {y : ExceptionTableEntry} {t : List ExceptionTableEntry} {ct : ClassId} {cell : Cell} {b : Bool} (hx : covers y f.pc = true) (h0 : y.catchType ≠ 0)
    (hl : S.vm.ClassLinks e.platform f.method.cls y.catchType ct) (hcell : S.heap[a]? = some cell) (hobj : cell.vm = .none) (hk : ∃ k, S.vm.classes[cell.cls]? = some k) (hc : ∃ k, S.vm.classes[ct]? = some k) (hb : S.vm.assignable cell.cls ct = b) :
    wp (findHandler.go f a (y :: t)) Q E e d acts S ↔ if b = true then Q (.found y.handlerPc) d acts (S.setVm (S.vm.noted f.method.cls y.catchType (.cls ct))) else wp (findHandler.go f a t) Q E e d acts (S.setVm (S.vm.noted f.method.cls y.catchType (.cls ct))) := by
  have hal : S.vm.Alike (S.vm.noted f.method.cls y.catchType (.cls ct)) := (Vm.Alike.refl S.vm).noted _ _ _
  obtain ⟨k1, hk1⟩ := hk
  obtain ⟨k2, hk2⟩ := hc
  obtain ⟨q1, hq1, -⟩ := hal.2.2 _ _ hk1
  obtain ⟨q2, hq2, -⟩ := hal.2.2 _ _ hk2
  have hb' : (S.vm.noted f.method.cls y.catchType (.cls ct)).assignable cell.cls ct = b := by rw [hal.assignable]; exact hb
  obtain ⟨r1, r2⟩ := (resolveClass_links e.toSetting hl).op (op := VmOp.resolveClass f.method.cls y.catchType) rfl
  have hobj' : ∀ k, cell.vm ≠ .statics k := fun k h => by rw [hobj] at h; cases h
  simp only [covers] at hx
  cases b <;> simp [findHandler.go, hx, h0, r1, r2, hcell, hobj', hq1, hq2, hb', VmOp.dirties, VmOp.acts]
theorem dx_find {e : Env} {s₀ : State} {f : JFrame} {a : Addr} {cell : Cell} (hobj : cell.vm = .none) {k0 : Class} (hk0 : s₀.vm.classes[cell.cls]? = some k0) {x : ExceptionTableEntry} {rest : List ExceptionTableEntry} (hx : dx_row e.platform s₀ f.method.cls f.pc cell.cls true x)
    (Q : Handler → Pre) (E : CtlPost) (d : Bool) (acts : List Action) : ∀ (pre : List ExceptionTableEntry) (S : State), s₀.WarmedH S.vm → S.heap[a]? = some cell → (∀ y ∈ pre, dx_row e.platform s₀ f.method.cls f.pc cell.cls false y) →
      (∀ vm', s₀.WarmedH vm' → Q (.found x.handlerPc) d acts (S.setVm vm')) → wp (findHandler.go f a (pre ++ x :: rest)) Q E e d acts S := by
  have one : ∀ (b : Bool) (y : ExceptionTableEntry) (t : List ExceptionTableEntry) (S : State), dx_row e.platform s₀ f.method.cls f.pc cell.cls b y → s₀.WarmedH S.vm → S.heap[a]? = some cell →
      (∀ vm', s₀.WarmedH vm' → if b = true then Q (.found y.handlerPc) d acts (S.setVm vm') else wp (findHandler.go f a t) Q E e d acts (S.setVm vm')) → wp (findHandler.go f a (y :: t)) Q E e d acts S := by
    intro b y t S ⟨c1, c2, ct, hl, hb⟩ hW hcell hq
    obtain ⟨dk, _, _, kt, hd, _, _, _, _, hkt, _, hopen⟩ := hl.here
    obtain ⟨k0', hk0', -⟩ := hW.alike.2.2 _ _ hk0
    obtain ⟨kt', hkt', -⟩ := hW.alike.2.2 _ _ hkt
    exact (dx_rowgo (b := b) c1 c2 (hW.classLinks hl) hcell hobj ⟨k0', hk0'⟩ ⟨kt', hkt'⟩ (by rw [hW.alike.assignable]; exact hb)).mpr (hq _ (hW.noted hd hopen (State.rightAt_cls hl)))
  intro pre
  induction pre with
  | nil => intro S hW hcell _ hq; exact one true x rest S hx hW hcell (fun vm' h => by simpa using hq vm' h)
  | cons y ys ih =>
    intro S hW hcell hp hq
    refine one false y (ys ++ x :: rest) S (hp y List.mem_cons_self) hW hcell (fun vm' h => ?_)
    simp only [Bool.false_eq_true, if_false]
    exact ih (S.setVm vm') h hcell (fun z hz => hp z (List.mem_cons_of_mem _ hz)) (fun vm2 h2 => hq vm2 h2)
theorem dx_list {tb : List ExceptionTableEntry} {hh : List (Nat × Nat × Nat × Nat)} (h : tb.map (fun h => (h.startPc, h.endPc, h.handlerPc, h.catchType)) = hh) : tb = hh.map (fun q => ⟨q.1, q.2.1, q.2.2.1, q.2.2.2⟩) := by
  subst h
  rw [List.map_map]
  exact (List.map_id tb).symm.trans (List.map_congr_left fun x _ => rfl)
section DX3
variable {p : Program} {l : Launch} {e : Env} {R : Room} {s : State} {m : MethodId} {args : Array Value} {below : List Frame} {meth : Method} {c : Code} {H : Heap} {locs : List Loc} {cells slots : Nat} {Q : State → Prop}
variable {cc : ByteArray} {nL mc ms : Nat} {A : Nat → Prop} {own E : String} {pc : Nat} {ls : Array Slot} {rest : List Value} {q : Addr} {ce : Cell}
/-- a row by the words: she names nm; E is no nm, or E is nm -/
def dx_pass (own : String) (E : String) (args : Array Value) (s : State) (pc : Nat) (b : Bool) (y : Nat × Nat × Nat × Nat) : Prop := (y.1 ≤ pc ∧ pc < y.2.1 ∧ y.2.2.2 ≠ 0) ∧ ∃ nm : String, (Cond.classLink own y.2.2.2 nm).before args s = true ∧ ∃ c t : ClassId, s.vm.findClass E = some c ∧ s.vm.findClass nm = some t ∧ s.vm.assignable c t = b
theorem dx_catch {pre post : List (Nat × Nat × Nat × Nat)} {x : Nat × Nat × Nat × Nat} (hown : s.vm.findClass own = some m.cls) (htab : c.exceptionTable.toList.map (fun h => (h.startPc, h.endPc, h.handlerPc, h.catchType)) = pre ++ x :: post)
    (hpre : ∀ y ∈ pre, dx_pass own E args s pc false y) (hx : dx_pass own E args s pc true x) (hcell : H[q]? = some ce) (hv : ce.vm = .none) (hcl : s.vm.findClass E = some ce.cls)
    (k : W p l e R s m args below meth c H locs cells slots Q (F0 m x.2.2.1 ls [.ref q])) : dx_W p l e R s m args below meth c H locs cells slots Q (F0 m pc ls rest) q := by
  intro T hT S
  have hpl : e.platform.magicAccessors = ({} : Platform).magicAccessors := by rw [S.admits.platform]
  have hrow : ∀ (b : Bool) (y : Nat × Nat × Nat × Nat), dx_pass own E args s pc b y → dx_row e.platform s m.cls pc ce.cls b ⟨y.1, y.2.1, y.2.2.1, y.2.2.2⟩ := by
    intro b y ⟨⟨h1, h2, h3⟩, nm, h4, c1, t, h5, h6, h7⟩
    obtain ⟨c', hc', hl⟩ := Cond.classLink_spec hown h4 e.platform hpl
    cases h6.symm.trans hc'
    cases hcl.symm.trans h5
    exact ⟨by simp [covers, h1, h2], h3, t, hl, h7⟩
  have hlist := dx_list htab
  rw [List.map_append, List.map_cons] at hlist
  obtain ⟨k0, hk0⟩ := Vm.classAt_of_findClass hcl
  have hcell' : ((T.setTop (F0 m pc ls rest)).pushFrame (.throwing q)).heap[q]? = some ce := by rw [Stand.throwing_heap, hT]; exact hcell
  have hvm : ((T.setTop (F0 m pc ls rest)).pushFrame (.throwing q)).vm = T.vm := Stand.throwing_vm _ _ _
  have hm : ((T.setTop (F0 m pc ls rest)).pushFrame (.throwing q)).vm.method? m = some meth := by rw [hvm]; exact S.method'
  have hstep : ∃ vm', s.WarmedH vm' ∧ (stepThrowing e ((T.setTop (F0 m pc ls rest)).pushFrame (.throwing q)) q (.java (F0 m pc ls rest) :: T.frames.tail)).1 = ((((T.setTop (F0 m pc ls rest)).pushFrame (.throwing q)).setVm vm').setFrames (.java { F0 m pc ls rest with pc := x.2.2.1, stack := [.ref q] } :: T.frames.tail)) := by
    simp only [stepThrowing, searchFrame, vmDo]
    generalize hr : Sem.go _ e false [] ((T.setTop (F0 m pc ls rest)).pushFrame (.throwing q)) = res
    have hwp : ∀ (Q : Handler → Pre) (E : CtlPost), (∀ vm', s.WarmedH vm' → Q (.found x.2.2.1) false [] (((T.setTop (F0 m pc ls rest)).pushFrame (.throwing q)).setVm vm')) → wp (findHandler (F0 m pc ls rest) q) Q E e false [] ((T.setTop (F0 m pc ls rest)).pushFrame (.throwing q)) := by
      intro Q E hq
      rw [W.findHandler_eq (s := (T.setTop (F0 m pc ls rest)).pushFrame (.throwing q)) (f := F0 m pc ls rest) hm S.code, hlist]
      exact dx_find (e := e) (s₀ := s) (f := F0 m pc ls rest) hv hk0 (hrow true x hx) _ _ _ _ _ _ (by rw [hvm]; exact S.warmed) hcell' (fun y hy => by
        obtain ⟨z, hz, rfl⟩ := List.mem_map.mp hy
        exact hrow false z (hpre z hz)) hq
    obtain ⟨h9, s9, as, rfl, vm', hW', rfl, rfl⟩ := Jvm.First.eq_ok_of' (P := fun h S' => ∃ vm', s.WarmedH vm' ∧ h = .found x.2.2.1 ∧ S' = ((T.setTop (F0 m pc ls rest)).pushFrame (.throwing q)).setVm vm') hr (by
      rw [wp_bind']
      refine hwp _ _ (fun vm' h => ?_)
      simp
      exact ⟨vm', h, rfl⟩)
    exact ⟨vm', hW', rfl⟩
  obtain ⟨vm', hW', hstep⟩ := hstep
  have S' := S.noted hW'
  obtain ⟨t, a1, b1⟩ := k (T.setVm vm') hT S'
  refine ⟨t, ?_, b1⟩
  obtain ⟨hgo, hw⟩ := (show At T (F0 m pc ls rest).method c below from S.here).throwing q
  refine Steps.head hgo hw ?_
  rw [stepThread_throwing (frames_entered S.here.top _), hstep]
  obtain ⟨g₀, hg⟩ := Option.isSome_iff_exists.mp S.here.top
  obtain ⟨r, hr⟩ := State.topJava?_eq_some.mp hg
  have hr' : (T.setVm vm').frames = .java g₀ :: r := hr
  rw [State.setTop_of_frames _ hr'] at a1
  have e1 : (((T.setTop (F0 m pc ls rest)).pushFrame (.throwing q)).setVm vm').setFrames (.java { F0 m pc ls rest with pc := x.2.2.1, stack := [.ref q] } :: T.frames.tail) = (T.setVm vm').setFrames (.java (F0 m x.2.2.1 ls [.ref q]) :: r) := by
    rw [hr, List.tail_cons, State.pushFrame, State.setTop_of_frames _ hr]
    rw [State.setFrames_setFrames]
    show (((T.setVm vm').setFrames _).setFrames _) = _
    rw [State.setFrames_setFrames]
  rw [e1]
  exact a1
end DX3
/-! OWN LAYER: a method with handlers: its contract (it returns), and a call of it -/
theorem dx_ofiW {l : Launch} {y : MethodName} {ws ws' : List Cond} {rm : Room} {D : va_G} {cl : List vw_C} {tys : List (ClassId × FieldType)} {ad : Nat → Nat} {w : Nat → Option va_E} {sz : Nat} {av : List Value} {post : Int32 → (Nat → Option va_E) → Prop} {mc ms : Nat} {cc : ByteArray} {maxL : Nat} {hh : List (Nat × Nat × Nat × Nat)} (hy : plainName y.cls = true) (hw : ws = Cond.codeWith y cc maxL (some .int) hh :: ws') (hav : (lg_sl av).length ≤ maxL)
    (body : ∀ (p : Program) (e : Env) (s : State) (m : MethodId) (below : List Frame) (meth : Method) (c : Code) (A : Nat → Prop) (Q : State → Prop) (ls : Array Slot), CallFix p m c cc maxL s av.toArray ws y.cls → meth.name = y.name → (∀ q, s.heap.size ≤ q → A q) → dq_W D cl ad w A s.heap → va_K D cl tys s → dq_Z A s s.heap → lv_has ls maxL (lv_args 0 av) → c.exceptionTable.toList.map (fun h => (h.startPc, h.endPc, h.handlerPc, h.catchType)) = hh →
      (∀ (v : Int32) (u : (Nat → Option va_E)) (H : Heap) (locs : List Loc) (pc : Nat) (ls : Array Slot), post v u → dq_W D cl ad u A H → va_S A s.heap H locs → decode cc pc = .ok (.ireturn, 1) → W p l e rm s m av.toArray below meth c H locs mc ms Q (F0 m pc ls [.int v])) →
      W p l e rm s m av.toArray below meth c s.heap [] 0 0 Q (F0 m 0 ls [])) : Met l y ws rm (va_Pc av (dq_S D cl tys ad w sz)) (va_Qi post (dq_B D cl tys ad (dq_A ad w sz)) (dq_A ad w sz)) mc ms (dq_A ad w sz) := by
  refine va_MetW (cc := cc) (maxL := maxL) (ret := (some .int)) (hh := hh) hy hw ?_
  intro p e s m args below meth c s₁ B hml hv
  obtain ⟨rfl, rfl, hW0, hK, hZ⟩ := hv
  have hlocks := B.notSynchronized
  have hts := atoms_spec (ws := ws) B.pre
  have hown : s.vm.findClass y.cls = some m.cls := findClass_of_methodNamed B.named
  obtain ⟨m9, meth9, c9, hn9, h1, h2, -, -, htab, -⟩ := Cond.codeWith_spec (hts _ (by rw [hw]; exact List.mem_cons_self))
  cases B.named.symm.trans hn9
  cases B.method.symm.trans h1
  cases (Stand.of_body B).code.symm.trans h2
  rw [lg_entry_eq]
  refine body p e s m below meth c (dq_A ad w s.heap.size) _ _ ⟨B.exec, B.bytes, hml, hown, hts⟩ (name_of_methodNamed B.named B.method).1 (fun q h => Or.inr h) hW0.self hK hZ (lv_entry av hav) htab ?_
  intro v u H locs pc ls hp hW hS hd
  exact W.iret (v := v) B.exec B.bytes B.returns (fun t ht hw9 => ⟨⟨v, u, rfl, hp, by rw [ht]; exact hW, va_K.moved hw9.alike hK⟩, hS.F ht⟩) hS.2.2 hd
abbrev dx_CB (R : Room) (s : State) (args : Array Value) (own : String) (index : Nat) (y : MethodName) (bytes : ByteArray) (maxL : Nat) (ret : Option FieldType) (hh : List (Nat × Nat × Nat × Nat)) (ws : List Cond) (rm : Room) (mc ms n : Nat) : Prop :=
  rm.cells = mc ∧ rm.slots = ms ∧ rm.frames + 1 ≤ R.frames ∧ 8 + (maxL + 11) + rm.locals ≤ R.locals ∧ (∀ w ∈ ws, ∀ (a' : Array Value) (U : State), s.WarmedH U.vm → w.before a' U = true) ∧ Cond.codeWith y bytes maxL ret hh ∈ ws ∧
  (Cond.codeWith y bytes maxL ret hh).before args s = true ∧ (Cond.initialized y.cls).before args s = true ∧ (y.cls ≠ "java/lang/invoke/MethodHandle" ∧ y.cls ≠ "java/lang/invoke/VarHandle") ∧ (∀ sig, parseMethodDescriptor y.desc = some sig → n = sig.parameters.length) ∧ (Cond.methodLink own index y).before args s = true ∧ (Cond.static y).before args s = true
theorem dx_cwS {R : Room} {s : State} {args : Array Value} {own : String} {index : Nat} {y : MethodName} {bytes : ByteArray} {maxL : Nat} {ret : Option FieldType} {hh : List (Nat × Nat × Nat × Nat)} {Ts ws ws' : List Cond} {rm : Room} {mc ms : Nat} (n : Nat) (ht : ∀ w ∈ Ts, w.before args s = true) (hT : GoodIn Ts (wsS own index y ws)) (hw : ws = Cond.codeWith y bytes maxL ret hh :: ws') (hrc : rm.cells = mc) (hrs : rm.slots = ms)
    (hd : y.cls = own ∧ y.cls ≠ "java/lang/invoke/MethodHandle" ∧ y.cls ≠ "java/lang/invoke/VarHandle" ∧ (parseMethodDescriptor y.desc).map (fun d => d.parameters.length) = some n) (hR : rm.frames + 1 ≤ R.frames ∧ 8 + (maxL + 11) + rm.locals ≤ R.locals) :
    dx_CB R s args own index y bytes maxL ret hh ws rm mc ms n := by
  obtain ⟨hC, hd1, hd2, hd3⟩ := hd
  have ok : ∀ w ∈ wsS own index y ws, w.before args s = true := fun w h => ht w (hT w h).1
  have hG : GoodIn Ts ws := fun w h => hT w (by unfold wsS; exact List.mem_append_right _ h)
  have hc : Cond.codeWith y bytes maxL ret hh ∈ ws := by rw [hw]; exact List.mem_cons_self
  refine ⟨hrc, hrs, hR.1, hR.2, pay_in ht hG, hc, ht _ (hG _ hc).1, by rw [hC]; exact ok _ (by simp [wsS]), ⟨hd1, hd2⟩, fun sig h => ?_, ok _ (by simp [wsS]), ok _ (by simp [wsS])⟩
  rw [h] at hd3
  exact (Option.some.inj hd3).symm
section DX4
variable {p : Program} {l : Launch} {e : Env} {R : Room} {s : State} {m : MethodId} {args : Array Value} {below : List Frame} {meth : Method} {c : Code} {H : Heap} {locs : List Loc} {cells slots : Nat}
theorem dx_runSW {y : MethodName} {bytes cc : ByteArray} {maxL nL mc ms n index : Nat} {ret : Option FieldType} {hh : List (Nat × Nat × Nat × Nat)} {ws Ts : List Cond} {rm : Room} {Pc : Array Value → State → Prop} {Qc : Array Value → State → Outcome → State → Prop} {free : Addr → Prop} {own : String} {As rest : List Value} {g : JFrame}
    (S : CallFix p m c cc nL s args Ts own) (hM : Met l y ws rm Pc Qc mc ms free) (cw : dx_CB R s args own index y bytes maxL ret hh ws rm mc ms n) (hp : PreS s H Pc As)
    (hg : g.method = m) (hn : As.length = n) (hsize : g.locals.size = nL) (hstack : g.stack = As.reverse ++ rest) (hW : 2 * g.monitorRoom + (rest.map fun v => v.category).sum ≤ 8) (hdg : decode cc g.pc = .ok (.invokestatic index, 3)) (hf : cells + mc ≤ R.cells ∧ slots + ms ≤ R.slots) :
    va_Run p l e R s m args below meth c H locs cells slots mc ms g rest (Qc As.toArray) (free) := by
  obtain ⟨hrc, hrs, hfr, hlo, hws, hcw, hcode, hini, hy, hlen, hl, hstt⟩ := cw
  have hK : Back l R p e below s args y 3 8 (PreOf R mc ms Pc) (PostOf Qc mc ms free) := va_backW (bytes := bytes) (maxL := maxL) (ret := ret) (hh := hh) hM hp.1 hrc hrs hfr hlo hws hcw (fun a' U hW => word_at hW (Or.inl (by first | rfl | simp [Cond.onTables, Cond.keeps, Cond.steady])) hini)
  obtain ⟨hx, hb, hml, ho, -⟩ := S
  intro T hT X
  obtain ⟨mk, methM, cM, hnamed, hmethM, -, -, -, -, -, -, hsigM⟩ := Cond.codeWith_spec hcode
  have hstatic : methM.isStatic = true := Cond.static_spec hnamed hmethM hstt
  obtain ⟨kP, hkP, -⟩ := className_of_methodNamed hnamed
  obtain ⟨vm₁, X₁, hstep₁⟩ := X.invokestatic hx ho hl hnamed hmethM hstatic hkP (Cond.initialized_spec (findClass_of_methodNamed hnamed) hkP hini) hy (g := g) hg (argsL := As) (rest := rest) (hn.trans (hlen _ hsigM)) hstack (by rw [hb]; exact hdg)
  obtain ⟨v, ⟨U', l2, c2, s2⟩, X', ⟨g', mk', t, L, e1, e2, hq, h1, hL, h2, h3⟩, st⟩ := hK m meth c ⟨T.setVm vm₁, locs, cells, slots⟩ { g with stack := rest } (.invokestatic index) mk As.toArray X₁ hg (hsize.trans hml.symm) (by rw [hb]; exact hdg) hW (X₁.named hnamed) ⟨hf.1, hf.2, hp.2 (T.setVm vm₁) hT X₁.warmed⟩
  dsimp only [Pt.U, Pt.locs, Pt.cells, Pt.slots] at X' e1 e2 h1 h2 h3 st
  subst h1; subst h2; subst h3
  exact ⟨v, (T.setVm vm₁).calling g' mk' As.toArray, t, U', L, hT, X', hL, e1, e2, hq, fun target h => hstep₁ _ fun acts => by rw [doInvoke_state]; exact st.trans h⟩
end DX4
