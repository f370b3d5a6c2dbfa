/-! OWN LAYER: the world by roles. A role is a number; ad gives its address, w its contents. -/
def dq_U (w : Nat → Option va_E) (r : Nat) (e : va_E) : Nat → Option va_E := fun j => if j = r then some e else w j
theorem dq_Us {w : Nat → Option va_E} {r : Nat} {e : va_E} : dq_U w r e r = some e := by simp [dq_U]
theorem dq_Un {w : Nat → Option va_E} {r j : Nat} {e : va_E} (h : j ≠ r) : dq_U w r e j = w j := by simp [dq_U, h]
def dq_W (D : va_G) (cl : List vw_C) (ad : Nat → Nat) (w : Nat → Option va_E) (A : Nat → Prop) (H : Heap) : Prop :=
  (∀ (r : Nat) (e : va_E), w r = some e → va_at D cl (ad r, e) H ∧ A (ad r)) ∧ ∀ (r r' : Nat) (e e' : va_E), w r = some e → w r' = some e' → ad r = ad r' → r = r'
theorem dq_W.get {D : va_G} {cl : List vw_C} {ad : Nat → Nat} {w : Nat → Option va_E} {A : Nat → Prop} {H : Heap} (h : dq_W D cl ad w A H) {r : Nat} {e : va_E} (hr : w r = some e) : va_P D cl [(ad r, e)] H := by
  intro k q hk
  have hz : k < 1 := (List.getElem?_eq_some_iff.mp hk).1
  rw [show k = 0 by omega] at hk
  cases hk
  exact (h.1 r e hr).1
theorem dq_W.weaken {D : va_G} {cl : List vw_C} {ad : Nat → Nat} {w : Nat → Option va_E} {A B : Nat → Prop} {H : Heap} (h : dq_W D cl ad w A H) (hAB : ∀ q, A q → B q) : dq_W D cl ad w B H :=
  ⟨fun r e hr => ⟨(h.1 r e hr).1, hAB _ (h.1 r e hr).2⟩, h.2⟩
theorem dq_W.set {D : va_G} {cl : List vw_C} {ad : Nat → Nat} {w : Nat → Option va_E} {A : Nat → Prop} {H H1 : Heap} (h : dq_W D cl ad w A H) {r : Nat} {e0 e : va_E} (hr : w r = some e0) (he : va_at D cl (ad r, e) H1) (oq : ∀ q : Nat, q ≠ ad r → H1[q]? = H[q]?) : dq_W D cl ad (dq_U w r e) A H1 := by
  have key : ∀ (j : Nat) (x : va_E), dq_U w r e j = some x → ∃ y, w j = some y := by
    intro j x hj
    by_cases hjr : j = r
    · exact ⟨e0, by rw [hjr]; exact hr⟩
    · rw [dq_Un hjr] at hj
      exact ⟨x, hj⟩
  refine ⟨fun j x hj => ?_, fun j j' x x' hj hj' ha => ?_⟩
  · by_cases hjr : j = r
    · subst hjr
      rw [dq_Us] at hj
      cases hj
      exact ⟨he, (h.1 j e0 hr).2⟩
    · rw [dq_Un hjr] at hj
      exact ⟨(h.1 j x hj).1.kept (oq _ (fun z => hjr (h.2 j r x e0 hj hr z))), (h.1 j x hj).2⟩
  · obtain ⟨y, hy⟩ := key j x hj
    obtain ⟨y', hy'⟩ := key j' x' hj'
    exact h.2 j j' y y' hy hy' ha
/-- a new cell gets the role r -/
theorem dq_W.push {D : va_G} {cl : List vw_C} {ad : Nat → Nat} {w : Nat → Option va_E} {A : Nat → Prop} {H H1 : Heap} (h : dq_W D cl ad w A H) {r q : Nat} {e : va_E} (hq : H.size = q) (hA : A q) (he : va_at D cl (q, e) H1) (oq : ∀ x : Nat, x < q → H1[x]? = H[x]?) : dq_W D cl (va_up ad r q) (dq_U w r e) A H1 := by
  refine ⟨fun j x hj => ?_, fun j j' x x' hj hj' ha => ?_⟩
  · by_cases hjr : j = r
    · subst hjr
      rw [dq_Us] at hj
      cases hj
      rw [va_up_self]
      exact ⟨he, hA⟩
    · rw [dq_Un hjr] at hj
      rw [va_up_ne _ _ hjr]
      have hl : ad j < H.size := (h.1 j x hj).1.lt
      exact ⟨(h.1 j x hj).1.kept (oq _ (by omega)), (h.1 j x hj).2⟩
  · by_cases h1 : j = r
    · by_cases h2 : j' = r
      · rw [h1, h2]
      · subst h1
        rw [dq_Un h2] at hj'
        rw [va_up_self, va_up_ne _ _ h2] at ha
        have hl : ad j' < H.size := (h.1 j' x' hj').1.lt
        omega
    · rw [dq_Un h1] at hj
      by_cases h2 : j' = r
      · subst h2
        rw [va_up_self, va_up_ne _ _ h1] at ha
        have hl : ad j < H.size := (h.1 j x hj).1.lt
        omega
      · rw [dq_Un h2] at hj'
        rw [va_up_ne _ _ h1, va_up_ne _ _ h2] at ha
        exact h.2 j j' x x' hj hj' ha
/-- what a method may change: the cells of its world, and those that it makes -/
def dq_A (ad : Nat → Nat) (w : Nat → Option va_E) (sz : Nat) : Nat → Prop := fun q => (∃ (r : Nat) (e : va_E), w r = some e ∧ ad r = q) ∨ sz ≤ q
theorem dq_A.sub {D : va_G} {cl : List vw_C} {ad : Nat → Nat} {w : Nat → Option va_E} {A : Nat → Prop} {H0 H : Heap} {locs : List Loc} (h : dq_W D cl ad w A H) (hS : va_S A H0 H locs) (hA : ∀ q, H0.size ≤ q → A q) : ∀ q, dq_A ad w H.size q → A q := by
  intro q hq
  rcases hq with ⟨r, e, h1, h2⟩ | hq
  · rw [← h2]
    exact (h.1 r e h1).2
  · exact hA q (Nat.le_trans hS.1 hq)
theorem dq_W.self {D : va_G} {cl : List vw_C} {ad : Nat → Nat} {w : Nat → Option va_E} {A : Nat → Prop} {H : Heap} {sz : Nat} (h : dq_W D cl ad w A H) : dq_W D cl ad w (dq_A ad w sz) H :=
  ⟨fun r e hr => ⟨(h.1 r e hr).1, Or.inl ⟨r, e, hr, rfl⟩⟩, h.2⟩
theorem dq_W.kept {D : va_G} {cl : List vw_C} {ad : Nat → Nat} {w : Nat → Option va_E} {A : Nat → Prop} {H H1 : Heap} (h : dq_W D cl ad w A H) (hq : ∀ x : Nat, x < H.size → H1[x]? = H[x]?) : dq_W D cl ad w A H1 :=
  ⟨fun r e hr => ⟨(h.1 r e hr).1.kept (hq _ (h.1 r e hr).1.lt), (h.1 r e hr).2⟩, h.2⟩
section DQ
variable {p : Program} {l : Launch} {e : Env} {R : Room} {s : State} {m : MethodId} {args : Array Value} {below : List Frame} {meth : Method} {c : Code} {H : Heap} {locs : List Loc} {cells slots : Nat} {Q : State → Prop}
variable {cc : ByteArray} {pc : Nat} {ls : Array Slot} {rest : List Value} {D : va_G} {cl : List vw_C} {A : Nat → Prop} {tys : List (ClassId × FieldType)} {ad : Nat → Nat} {w : Nat → Option va_E} {H0 : Heap}
theorem dq_top {x y : Int32} (h : x = y) (k : W p l e R s m args below meth c H locs cells slots Q (F0 m pc ls (.int y :: rest))) : W p l e R s m args below meth c H locs cells slots Q (F0 m pc ls (.int x :: rest)) := by rw [h]; exact k
theorem dq_topl {x y : Int64} (h : x = y) (k : W p l e R s m args below meth c H locs cells slots Q (F0 m pc ls (.long y :: rest))) : W p l e R s m args below meth c H locs cells slots Q (F0 m pc ls (.long x :: rest)) := by rw [h]; exact k
theorem dq_get (hexec : p.tables.exec = Jvm.exec) (hb : c.code = cc) {own ref C : String} {T : u_T} {N ci index : Nat} {Ts : List Cond} (hts : ∀ w ∈ Ts, w.before args s = true) (hin : ∀ w ∈ u_ws C T N, w ∈ Ts) (hown : s.vm.findClass own = some m.cls) (hK : va_K D cl tys s) (hP : dq_W D cl ad w A H) (r : Nat) {fs : List Value} (he : w r = some (.inr (ci, fs))) (hc : cl[ci]? = some (C, T, N)) (k : Nat) (hk : k < N) (hlink : (Cond.fieldLink own index ref (T k).2.1 (T k).2.2.1).before args s = true) (hsame : ∀ x, s.fieldFound? (T k).1 (T k).2.1 (T k).2.2.1 = some x → s.fieldFound? ref (T k).2.1 (T k).2.2.1 = some x) {v : Value} (hv : fs[k]? = some v) (hdg : decode cc pc = .ok (.getfield index, 3))
    (kk : W p l e R s m args below meth c H locs cells slots Q (F0 m (pc + 3) ls (v :: rest))) : W p l e R s m args below meth c H locs cells slots Q (F0 m pc ls (.ref (ad r) :: rest)) :=
  va_get (D := D) (cl := cl) (ws := [(ad r, .inr (ci, fs))]) hexec hb hts hin hown hK (hP.get he) 0 rfl hc k hk hlink hsame hv hdg kk
theorem dq_put (hexec : p.tables.exec = Jvm.exec) (hb : c.code = cc) {own ref C : String} {T : u_T} {N ci index : Nat} {Ts : List Cond} (hts : ∀ w ∈ Ts, w.before args s = true) (hin : ∀ w ∈ u_ws C T N, w ∈ Ts) (ty0 : Nat → FieldType) (hty : ∀ k, k < N → parseFieldDescriptor (T k).2.2.1 = some (ty0 k)) (hnm : ∀ a, a < N → ∀ b, b < N → a ≠ b → (T a).2.1 ≠ (T b).2.1) (hown : s.vm.findClass own = some m.cls) (hK : va_K D cl tys s) (hP : dq_W D cl ad w A H) (hS0 : va_S A H0 H locs) (r : Nat) {fs : List Value} (he : w r = some (.inr (ci, fs))) (hc : cl[ci]? = some (C, T, N)) (k : Nat) (hk : k < N) (hlink : (Cond.fieldLink own index ref (T k).2.1 (T k).2.2.1).before args s = true) (hsame : ∀ x, s.fieldFound? (T k).1 (T k).2.1 (T k).2.2.1 = some x → s.fieldFound? ref (T k).2.1 (T k).2.2.1 = some x) (hfin : (T k).2.2.2 = false) {ty : FieldType} {v : Value} (hd : parseFieldDescriptor (T k).2.2.1 = some ty) (hn : narrow ty v = v) (hfit : fits ty v = true) (hl : k < fs.length)
    (hdg : decode cc pc = .ok (.putfield index, 3)) (kk : ∀ (H1 : Heap) (locs1 : List Loc), dq_W D cl ad (dq_U w r (.inr (ci, fs.set k v))) A H1 → va_S A H0 H1 locs1 → W p l e R s m args below meth c H1 locs1 cells slots Q (F0 m (pc + 3) ls rest)) : W p l e R s m args below meth c H locs cells slots Q (F0 m pc ls (v :: .ref (ad r) :: rest)) := by
  have hap := va_apart (own := own) hts hin ty0 hty hnm hK hc
  obtain ⟨⟨r1, h1, cell, q1, q2, q3, q4⟩, hAr⟩ := hP.1 r _ he
  have hr : r1 = (C, T, N) := Option.some.inj (h1.symm.trans hc)
  subst hr
  obtain ⟨hS, hfc, kC, hkC, hkind⟩ := hK.1 ci _ hc
  obtain ⟨cf, kf, fi, f, hi, hsl⟩ := hS k hk
  have hlay := hts _ (hin _ (u_in_lay hk))
  unfold u_lay at hlay
  rw [if_neg (by rw [hfin]; decide)] at hlay
  have hst := (u_facts hfc hkC (u_lays hts hin hk) hi).1
  have h6 := u_store hfc hkC hkind hlay hi hd hn hfit
  refine W.putK hexec hb (f := f) ⟨hown, hlink, ⟨_, _, _, hsame _ hi⟩, hst⟩ (by rw [q2]; exact h6) q1 q3 (by rw [hsl]; exact k2_hasslot (q4 k hk)) rfl rfl hdg fun H' e1 e2 e3 => ?_
  rw [hsl] at e1 ⊢
  exact kk H' _ (hP.set he ⟨_, hc, t_OB.to (V := updV (vp_V fs) k v) ⟨_, e1, q2, q3, t_set q4 hap hk v⟩ (fun j _ => vp_updV_set hl v j)⟩ e3) (hS0.put e2 e3 hAr)
theorem dq_putF (hexec : p.tables.exec = Jvm.exec) (hb : c.code = cc) {own ref C : String} {T : u_T} {N ci index : Nat} {Ts : List Cond} (hts : ∀ w ∈ Ts, w.before args s = true) (hin : ∀ w ∈ u_ws C T N, w ∈ Ts) (ty0 : Nat → FieldType) (hty : ∀ k, k < N → parseFieldDescriptor (T k).2.2.1 = some (ty0 k)) (hnm : ∀ a, a < N → ∀ b, b < N → a ≠ b → (T a).2.1 ≠ (T b).2.1) (hown : s.vm.findClass own = some m.cls) (hK : va_K D cl tys s) (hP : dq_W D cl ad w A H) (hS0 : va_S A H0 H locs) (r : Nat) {fs : List Value} (he : w r = some (.inr (ci, fs))) (hc : cl[ci]? = some (C, T, N)) (k : Nat) (hk : k < N) (hlink : (Cond.fieldLink own index ref (T k).2.1 (T k).2.2.1).before args s = true) (hsame : ∀ x, s.fieldFound? (T k).1 (T k).2.1 (T k).2.2.1 = some x → s.fieldFound? ref (T k).2.1 (T k).2.2.1 = some x) (hfin : (T k).2.2.2 = true) (hin2 : meth.name = "<init>") (hdecl : (T k).1 = own) {ty : FieldType} {v : Value} (hd : parseFieldDescriptor (T k).2.2.1 = some ty) (hn : narrow ty v = v) (hfit : fits ty v = true) (hl : k < fs.length)
    (hdg : decode cc pc = .ok (.putfield index, 3)) (kk : ∀ (H1 : Heap) (locs1 : List Loc), dq_W D cl ad (dq_U w r (.inr (ci, fs.set k v))) A H1 → va_S A H0 H1 locs1 → W p l e R s m args below meth c H1 locs1 cells slots Q (F0 m (pc + 3) ls rest)) : W p l e R s m args below meth c H locs cells slots Q (F0 m pc ls (v :: .ref (ad r) :: rest)) := by
  have hap := va_apart (own := own) hts hin ty0 hty hnm hK hc
  obtain ⟨⟨r1, h1, cell, q1, q2, q3, q4⟩, hAr⟩ := hP.1 r _ he
  have hr : r1 = (C, T, N) := Option.some.inj (h1.symm.trans hc)
  subst hr
  obtain ⟨hS, hfc, kC, hkC, hkind⟩ := hK.1 ci _ hc
  obtain ⟨cf, kf, fi, f, hi, hsl⟩ := hS k hk
  have hlay := hts _ (hin _ (u_in_lay hk))
  unfold u_lay at hlay
  rw [if_pos hfin] at hlay
  have hst := (u_facts hfc hkC (u_lays hts hin hk) hi).1
  have hcf : m.cls = cf := by
    obtain ⟨_, _, c', _, _, _, -, -, hf', -, -, -, hown2, -⟩ := Cond.laysFinal_spec hlay
    have e1 : c' = cf := by have := hi.symm.trans hf'; simp at this; exact this.1.symm
    rw [hdecl] at hown2
    rw [← e1]; exact Option.some.inj (hown.symm.trans hown2)
  have h6 := u_fits hfc hkC hkind (Or.inr hlay) hi hd hn hfit
  refine W.putFinK hexec hb hown hlink (hsame _ hi) hst hcf hin2 (by rw [q2]; exact h6) q1 q3 (by rw [hsl]; exact k2_hasslot (q4 k hk)) rfl rfl hdg fun H' e1 e2 e3 => ?_
  rw [hsl] at e1 ⊢
  exact kk H' _ (hP.set he ⟨_, hc, t_OB.to (V := updV (vp_V fs) k v) ⟨_, e1, q2, q3, t_set q4 hap hk v⟩ (fun j _ => vp_updV_set hl v j)⟩ e3) (hS0.put e2 e3 hAr)
theorem dq_iald (hexec : p.tables.exec = Jvm.exec) (hb : c.code = cc) (hK : va_K D cl tys s) (hP : dq_W D cl ad w A H) (r t0 : Nat) {cA : ClassId} {n : Nat} {f : Nat → Int32} (ha : w r = some (.inl (cA, n, .inl f))) (ht : tys[t0]? = some (cA, .int)) {i : Int32} (hin : vp_in i n) (hdg : decode cc pc = .ok (.iaload, 1))
    (kk : W p l e R s m args below meth c H locs cells slots Q (F0 m (pc + 1) ls (.int (f i.toNatClampNeg) :: rest))) : W p l e R s m args below meth c H locs cells slots Q (F0 m pc ls (.int i :: .ref (ad r) :: rest)) :=
  va_iald (D := D) (cl := cl) (ws := [(ad r, .inl (cA, n, .inl f))]) hexec hb hK (hP.get ha) 0 t0 rfl ht hin hdg kk
theorem dq_zald (hexec : p.tables.exec = Jvm.exec) (hb : c.code = cc) (hK : va_K D cl tys s) (hP : dq_W D cl ad w A H) (r t0 : Nat) {cA : ClassId} {n : Nat} {f : Nat → Int32} (ha : w r = some (.inl (cA, n, .inl f))) (ht : tys[t0]? = some (cA, .boolean)) {i : Int32} (hin : vp_in i n) (hdg : decode cc pc = .ok (.baload, 1))
    (kk : W p l e R s m args below meth c H locs cells slots Q (F0 m (pc + 1) ls (.int (f i.toNatClampNeg) :: rest))) : W p l e R s m args below meth c H locs cells slots Q (F0 m pc ls (.int i :: .ref (ad r) :: rest)) :=
  va_zald (D := D) (cl := cl) (ws := [(ad r, .inl (cA, n, .inl f))]) hexec hb hK (hP.get ha) 0 t0 rfl ht hin hdg kk
theorem dq_lald (hexec : p.tables.exec = Jvm.exec) (hb : c.code = cc) (hK : va_K D cl tys s) (hP : dq_W D cl ad w A H) (r t0 : Nat) {cA : ClassId} {n : Nat} {f : Nat → Int64} (ha : w r = some (.inl (cA, n, .inr (.inl f)))) (ht : tys[t0]? = some (cA, .long)) {i : Int32} (hin : vp_in i n) (hdg : decode cc pc = .ok (.laload, 1))
    (kk : W p l e R s m args below meth c H locs cells slots Q (F0 m (pc + 1) ls (.long (f i.toNatClampNeg) :: rest))) : W p l e R s m args below meth c H locs cells slots Q (F0 m pc ls (.int i :: .ref (ad r) :: rest)) :=
  va_lald (D := D) (cl := cl) (ws := [(ad r, .inl (cA, n, .inr (.inl f)))]) hexec hb hK (hP.get ha) 0 t0 rfl ht hin hdg kk
theorem dq_aald (hexec : p.tables.exec = Jvm.exec) (hb : c.code = cc) (hK : va_K D cl tys s) (hP : dq_W D cl ad w A H) (r t0 : Nat) {cA : ClassId} {C : String} {n : Nat} {f : Nat → Option Nat} (ha : w r = some (.inl (cA, n, .inr (.inr (.inr (.inr f)))))) (ht : tys[t0]? = some (cA, .object C)) {i : Int32} (hin : vp_in i n) {a : Nat} (hf : f i.toNatClampNeg = some a) (hdg : decode cc pc = .ok (.aaload, 1))
    (kk : W p l e R s m args below meth c H locs cells slots Q (F0 m (pc + 1) ls (.ref a :: rest))) : W p l e R s m args below meth c H locs cells slots Q (F0 m pc ls (.int i :: .ref (ad r) :: rest)) :=
  va_aldq (D := D) (cl := cl) (ws := [(ad r, .inl (cA, n, .inr (.inr (.inr (.inr f)))))]) hexec hb hK (hP.get ha) 0 t0 rfl ht hin hdg (by rw [hf]; exact kk)
theorem dq_alen (hexec : p.tables.exec = Jvm.exec) (hb : c.code = cc) (hK : va_K D cl tys s) (hP : dq_W D cl ad w A H) (r t0 : Nat) {cA : ClassId} {x : vp_A} (ha : w r = some (.inl (cA, x))) {ty : FieldType} (ht : tys[t0]? = some (cA, ty)) {v : Int32} (hv : Int32.ofNat x.1 = v) (hdg : decode cc pc = .ok (.arraylength, 1))
    (kk : W p l e R s m args below meth c H locs cells slots Q (F0 m (pc + 1) ls (.int v :: rest))) : W p l e R s m args below meth c H locs cells slots Q (F0 m pc ls (.ref (ad r) :: rest)) :=
  va_alen (D := D) (cl := cl) (ws := [(ad r, .inl (cA, x))]) hexec hb hK (hP.get ha) 0 t0 rfl ht hv hdg kk
theorem dq_iast (hexec : p.tables.exec = Jvm.exec) (hb : c.code = cc) (hK : va_K D cl tys s) (hP : dq_W D cl ad w A H) (hS : va_S A H0 H locs) (r t0 : Nat) {cA : ClassId} {n : Nat} {f : Nat → Int32} (ha : w r = some (.inl (cA, n, .inl f))) (ht : tys[t0]? = some (cA, .int)) {i : Int32} {x : Int32} (hin : vp_in i n) (hdg : decode cc pc = .ok (.iastore, 1))
    (kk : ∀ (H1 : Heap) (locs1 : List Loc), dq_W D cl ad (dq_U w r (.inl (cA, n, .inl (upd f i.toNatClampNeg x)))) A H1 → va_S A H0 H1 locs1 → W p l e R s m args below meth c H1 locs1 cells slots Q (F0 m (pc + 1) ls rest)) : W p l e R s m args below meth c H locs cells slots Q (F0 m pc ls (.int x :: .int i :: .ref (ad r) :: rest)) := by
  refine W.iast hexec hb (hP.1 r _ ha).1 ((hK.2 t0 _ ht).1 n (fun j => .int (f j))) (fun q => by cases q) (by show ¬ (i < 0 ∨ (arrV _ _ _).slots.size ≤ _); rw [arrV_size]; exact hin) rfl rfl hdg fun H1 e z oq => ?_
  refine kk H1 _ (hP.set ha ?_ oq) (hS.put z oq (hP.1 r _ ha).2)
  show H1[ad r]? = some (vp_cell _ _)
  rw [e]
  rw [vp_cell_i, vp_cell_i, arrV_store]
  congr 2
  funext q
  by_cases hq : q = i.toNatClampNeg
  · subst hq
    simp [updV, upd]
  · simp [updV, upd, hq]
theorem dq_zast (hexec : p.tables.exec = Jvm.exec) (hb : c.code = cc) (hK : va_K D cl tys s) (hP : dq_W D cl ad w A H) (hS : va_S A H0 H locs) (r t0 : Nat) {cA : ClassId} {n : Nat} {f : Nat → Int32} (ha : w r = some (.inl (cA, n, .inl f))) (ht : tys[t0]? = some (cA, .boolean)) {i : Int32} {x : Int32} (hin : vp_in i n) (hdg : decode cc pc = .ok (.bastore, 1))
    (kk : ∀ (H1 : Heap) (locs1 : List Loc), dq_W D cl ad (dq_U w r (.inl (cA, n, .inl (upd f i.toNatClampNeg (vp_nar .boolean x))))) A H1 → va_S A H0 H1 locs1 → W p l e R s m args below meth c H1 locs1 cells slots Q (F0 m (pc + 1) ls rest)) : W p l e R s m args below meth c H locs cells slots Q (F0 m pc ls (.int x :: .int i :: .ref (ad r) :: rest)) := by
  refine W.zast hexec hb (hP.1 r _ ha).1 ((hK.2 t0 _ ht).1 n (fun j => .int (f j))) (fun q => by cases q) (by show ¬ (i < 0 ∨ (arrV _ _ _).slots.size ≤ _); rw [arrV_size]; exact hin) rfl rfl hdg fun H1 e z oq => ?_
  refine kk H1 _ (hP.set ha ?_ oq) (hS.put z oq (hP.1 r _ ha).2)
  show H1[ad r]? = some (vp_cell _ _)
  rw [e]
  rw [vp_cell_i, vp_cell_i, arrV_store]
  congr 2
  funext q
  by_cases hq : q = i.toNatClampNeg
  · subst hq
    simp [updV, upd, vp_nar]
    try rfl
  · simp [updV, upd, hq]
theorem dq_last (hexec : p.tables.exec = Jvm.exec) (hb : c.code = cc) (hK : va_K D cl tys s) (hP : dq_W D cl ad w A H) (hS : va_S A H0 H locs) (r t0 : Nat) {cA : ClassId} {n : Nat} {f : Nat → Int64} (ha : w r = some (.inl (cA, n, .inr (.inl f)))) (ht : tys[t0]? = some (cA, .long)) {i : Int32} {x : Int64} (hin : vp_in i n) (hdg : decode cc pc = .ok (.lastore, 1))
    (kk : ∀ (H1 : Heap) (locs1 : List Loc), dq_W D cl ad (dq_U w r (.inl (cA, n, .inr (.inl (vp_updL f i.toNatClampNeg x))))) A H1 → va_S A H0 H1 locs1 → W p l e R s m args below meth c H1 locs1 cells slots Q (F0 m (pc + 1) ls rest)) : W p l e R s m args below meth c H locs cells slots Q (F0 m pc ls (.long x :: .int i :: .ref (ad r) :: rest)) := by
  refine W.last hexec hb (hP.1 r _ ha).1 ((hK.2 t0 _ ht).1 n (fun j => .long (f j))) (fun q => by cases q) (by show ¬ (i < 0 ∨ (arrV _ _ _).slots.size ≤ _); rw [arrV_size]; exact hin) rfl rfl hdg fun H1 e z oq => ?_
  refine kk H1 _ (hP.set ha ?_ oq) (hS.put z oq (hP.1 r _ ha).2)
  show H1[ad r]? = some (vp_cell _ _)
  rw [e]
  rw [vp_cell_l, vp_cell_l, arrV_store]
  congr 2
  funext q
  by_cases hq : q = i.toNatClampNeg
  · subst hq
    simp [updV, vp_updL]
  · simp [updV, vp_updL, hq]
theorem dq_newi (hexec : p.tables.exec = Jvm.exec) (hb : c.code = cc) (harr : (Cond.arrayClass (newarray.typeOf .int)).before args s = true) (hK : va_K D cl tys s) (hP : dq_W D cl ad w A H) (hS : va_S A H0 H locs) (hA : ∀ q, H0.size ≤ q → A q) (r t0 : Nat) {cA : ClassId} (ht : tys[t0]? = some (cA, .int))
    {n : Int32} {N : Nat} (hn : ¬ n < 0) (hN : n.toNatClampNeg = N) (hbytes : N * 4 ≤ 536870912) (hcells : cells + 1 ≤ R.cells) (hslots : slots + N ≤ R.slots) (hdg : decode cc pc = .ok (.newarray .int, 2))
    (kk : ∀ (q : Nat) (H1 : Heap), dq_W D cl (va_up ad r q) (dq_U w r (.inl (cA, N, .inl (fun _ => 0)))) A H1 → va_S A H0 H1 locs → W p l e R s m args below meth c H1 locs (cells + 1) (slots + N) Q (F0 m (pc + 2) ls (.ref q :: rest))) : W p l e R s m args below meth c H locs cells slots Q (F0 m pc ls (.int n :: rest)) := by
  refine va_newaK hexec hb harr rfl hdg rfl hn hN hbytes hcells hslots rfl fun H1 cB e1 z1 o1 hAr hNm => ?_
  have hcB : cB = cA := Option.some.inj (hNm.symm.trans (hK.2 t0 _ ht).2)
  subst hcB
  exact kk H.size H1 (hP.push rfl (hA _ hS.1) e1 o1) ⟨Nat.le_trans hS.1 (by omega), fun x h1 h2 => (o1 x (Nat.lt_of_lt_of_le h1 hS.1)).trans (hS.2.1 x h1 h2), hS.2.2⟩
theorem dq_newz (hexec : p.tables.exec = Jvm.exec) (hb : c.code = cc) (harr : (Cond.arrayClass (newarray.typeOf .boolean)).before args s = true) (hK : va_K D cl tys s) (hP : dq_W D cl ad w A H) (hS : va_S A H0 H locs) (hA : ∀ q, H0.size ≤ q → A q) (r t0 : Nat) {cA : ClassId} (ht : tys[t0]? = some (cA, .boolean))
    {n : Int32} {N : Nat} (hn : ¬ n < 0) (hN : n.toNatClampNeg = N) (hbytes : N * 1 ≤ 536870912) (hcells : cells + 1 ≤ R.cells) (hslots : slots + N ≤ R.slots) (hdg : decode cc pc = .ok (.newarray .boolean, 2))
    (kk : ∀ (q : Nat) (H1 : Heap), dq_W D cl (va_up ad r q) (dq_U w r (.inl (cA, N, .inl (fun _ => 0)))) A H1 → va_S A H0 H1 locs → W p l e R s m args below meth c H1 locs (cells + 1) (slots + N) Q (F0 m (pc + 2) ls (.ref q :: rest))) : W p l e R s m args below meth c H locs cells slots Q (F0 m pc ls (.int n :: rest)) := by
  refine va_newaK hexec hb harr rfl hdg rfl hn hN hbytes hcells hslots rfl fun H1 cB e1 z1 o1 hAr hNm => ?_
  have hcB : cB = cA := Option.some.inj (hNm.symm.trans (hK.2 t0 _ ht).2)
  subst hcB
  exact kk H.size H1 (hP.push rfl (hA _ hS.1) e1 o1) ⟨Nat.le_trans hS.1 (by omega), fun x h1 h2 => (o1 x (Nat.lt_of_lt_of_le h1 hS.1)).trans (hS.2.1 x h1 h2), hS.2.2⟩
theorem dq_newl (hexec : p.tables.exec = Jvm.exec) (hb : c.code = cc) (harr : (Cond.arrayClass (newarray.typeOf .long)).before args s = true) (hK : va_K D cl tys s) (hP : dq_W D cl ad w A H) (hS : va_S A H0 H locs) (hA : ∀ q, H0.size ≤ q → A q) (r t0 : Nat) {cA : ClassId} (ht : tys[t0]? = some (cA, .long))
    {n : Int32} {N : Nat} (hn : ¬ n < 0) (hN : n.toNatClampNeg = N) (hbytes : N * 8 ≤ 536870912) (hcells : cells + 1 ≤ R.cells) (hslots : slots + N ≤ R.slots) (hdg : decode cc pc = .ok (.newarray .long, 2))
    (kk : ∀ (q : Nat) (H1 : Heap), dq_W D cl (va_up ad r q) (dq_U w r (.inl (cA, N, .inr (.inl (fun _ => 0))))) A H1 → va_S A H0 H1 locs → W p l e R s m args below meth c H1 locs (cells + 1) (slots + N) Q (F0 m (pc + 2) ls (.ref q :: rest))) : W p l e R s m args below meth c H locs cells slots Q (F0 m pc ls (.int n :: rest)) := by
  refine va_newaK hexec hb harr rfl hdg rfl hn hN hbytes hcells hslots rfl fun H1 cB e1 z1 o1 hAr hNm => ?_
  have hcB : cB = cA := Option.some.inj (hNm.symm.trans (hK.2 t0 _ ht).2)
  subst hcB
  exact kk H.size H1 (hP.push rfl (hA _ hS.1) e1 o1) ⟨Nat.le_trans hS.1 (by omega), fun x h1 h2 => (o1 x (Nat.lt_of_lt_of_le h1 hS.1)).trans (hS.2.1 x h1 h2), hS.2.2⟩
theorem dq_new (hexec : p.tables.exec = Jvm.exec) (hb : c.code = cc) {own C : String} {T : u_T} {N ci index : Nat} {Ts : List Cond} (hts : ∀ w ∈ Ts, w.before args s = true) (hin : ∀ w ∈ u_ws C T N, w ∈ Ts) (ty : Nat → FieldType) (hty : ∀ k, k < N → parseFieldDescriptor (T k).2.2.1 = some (ty k)) (hown : s.vm.findClass own = some m.cls) (hcl : (Cond.classLink own index C).before args s = true) (hinst : (Cond.instantiable C N).before args s = true) (hini : (Cond.initialized C).before args s = true)
    (hK : va_K D cl tys s) (hP : dq_W D cl ad w A H) (hS : va_S A H0 H locs) (hA : ∀ q, H0.size ≤ q → A q) (r : Nat) (hc : cl[ci]? = some (C, T, N)) {fs : List Value} (hfs : ∀ j, j < N → defaultValue (ty j) = vp_V fs j) (hcells : cells + 1 ≤ R.cells) (hslots : slots + N ≤ R.slots) (hdg : decode cc pc = .ok (.new index, 3))
    (kk : ∀ (q : Nat) (H1 : Heap), dq_W D cl (va_up ad r q) (dq_U w r (.inr (ci, fs))) A H1 → va_S A H0 H1 locs → W p l e R s m args below meth c H1 locs (cells + 1) (slots + N) Q (F0 m (pc + 3) ls (.ref q :: rest))) : W p l e R s m args below meth c H locs cells slots Q (F0 m pc ls rest) := by
  have hKn := hK.1 ci _ hc
  refine W.newcK hexec hb hown hcl hinst hini rfl hdg hcells hslots hKn.2.1 rfl fun H1 kC hkC e1 z1 o1 => ?_
  refine kk H.size H1 (hP.push rfl (hA _ hS.1) ?_ o1) ⟨Nat.le_trans hS.1 (by omega), fun x h1 h2 => (o1 x (Nat.lt_of_lt_of_le h1 hS.1)).trans (hS.2.1 x h1 h2), hS.2.2⟩
  exact ⟨_, hc, (u_born ty hts hin hKn hkC e1 hty).to hfs⟩
theorem dq_ialdN (hexec : p.tables.exec = Jvm.exec) (hb : c.code = cc) (hK : va_K D cl tys s) (hP : dq_W D cl ad w A H) (r t0 : Nat) {cA : ClassId} {n : Nat} {f : Nat → Int32} (ha : w r = some (.inl (cA, n, .inl f))) (ht : tys[t0]? = some (cA, .int)) (k : Nat) (hk : k < n) (hn : n < 2 ^ 31) (hdg : decode cc pc = .ok (.iaload, 1))
    (kk : W p l e R s m args below meth c H locs cells slots Q (F0 m (pc + 1) ls (.int (f k) :: rest))) : W p l e R s m args below meth c H locs cells slots Q (F0 m pc ls (.int (nI k) :: .ref (ad r) :: rest)) :=
  dq_iald hexec hb hK hP r t0 ha ht (vp_in_nI hk hn) hdg (by rw [nI_clamp (Nat.lt_trans hk hn)]; exact kk)
theorem dq_zaldN (hexec : p.tables.exec = Jvm.exec) (hb : c.code = cc) (hK : va_K D cl tys s) (hP : dq_W D cl ad w A H) (r t0 : Nat) {cA : ClassId} {n : Nat} {f : Nat → Int32} (ha : w r = some (.inl (cA, n, .inl f))) (ht : tys[t0]? = some (cA, .boolean)) (k : Nat) (hk : k < n) (hn : n < 2 ^ 31) (hdg : decode cc pc = .ok (.baload, 1))
    (kk : W p l e R s m args below meth c H locs cells slots Q (F0 m (pc + 1) ls (.int (f k) :: rest))) : W p l e R s m args below meth c H locs cells slots Q (F0 m pc ls (.int (nI k) :: .ref (ad r) :: rest)) :=
  dq_zald hexec hb hK hP r t0 ha ht (vp_in_nI hk hn) hdg (by rw [nI_clamp (Nat.lt_trans hk hn)]; exact kk)
theorem dq_laldN (hexec : p.tables.exec = Jvm.exec) (hb : c.code = cc) (hK : va_K D cl tys s) (hP : dq_W D cl ad w A H) (r t0 : Nat) {cA : ClassId} {n : Nat} {f : Nat → Int64} (ha : w r = some (.inl (cA, n, .inr (.inl f)))) (ht : tys[t0]? = some (cA, .long)) (k : Nat) (hk : k < n) (hn : n < 2 ^ 31) (hdg : decode cc pc = .ok (.laload, 1))
    (kk : W p l e R s m args below meth c H locs cells slots Q (F0 m (pc + 1) ls (.long (f k) :: rest))) : W p l e R s m args below meth c H locs cells slots Q (F0 m pc ls (.int (nI k) :: .ref (ad r) :: rest)) :=
  dq_lald hexec hb hK hP r t0 ha ht (vp_in_nI hk hn) hdg (by rw [nI_clamp (Nat.lt_trans hk hn)]; exact kk)
theorem dq_iastN (hexec : p.tables.exec = Jvm.exec) (hb : c.code = cc) (hK : va_K D cl tys s) (hP : dq_W D cl ad w A H) (hS : va_S A H0 H locs) (r t0 : Nat) {cA : ClassId} {n : Nat} {f : Nat → Int32} (ha : w r = some (.inl (cA, n, .inl f))) (ht : tys[t0]? = some (cA, .int)) (k : Nat) {x : Int32} (hk : k < n) (hn : n < 2 ^ 31) (hdg : decode cc pc = .ok (.iastore, 1))
    (kk : ∀ (H1 : Heap) (locs1 : List Loc), dq_W D cl ad (dq_U w r (.inl (cA, n, .inl (upd f k x)))) A H1 → va_S A H0 H1 locs1 → W p l e R s m args below meth c H1 locs1 cells slots Q (F0 m (pc + 1) ls rest)) : W p l e R s m args below meth c H locs cells slots Q (F0 m pc ls (.int x :: .int (nI k) :: .ref (ad r) :: rest)) :=
  dq_iast hexec hb hK hP hS r t0 ha ht (vp_in_nI hk hn) hdg (by rw [nI_clamp (Nat.lt_trans hk hn)]; exact kk)
theorem dq_zastN (hexec : p.tables.exec = Jvm.exec) (hb : c.code = cc) (hK : va_K D cl tys s) (hP : dq_W D cl ad w A H) (hS : va_S A H0 H locs) (r t0 : Nat) {cA : ClassId} {n : Nat} {f : Nat → Int32} (ha : w r = some (.inl (cA, n, .inl f))) (ht : tys[t0]? = some (cA, .boolean)) (k : Nat) {x : Int32} (hk : k < n) (hn : n < 2 ^ 31) (hdg : decode cc pc = .ok (.bastore, 1))
    (kk : ∀ (H1 : Heap) (locs1 : List Loc), dq_W D cl ad (dq_U w r (.inl (cA, n, .inl (upd f k (vp_nar .boolean x))))) A H1 → va_S A H0 H1 locs1 → W p l e R s m args below meth c H1 locs1 cells slots Q (F0 m (pc + 1) ls rest)) : W p l e R s m args below meth c H locs cells slots Q (F0 m pc ls (.int x :: .int (nI k) :: .ref (ad r) :: rest)) :=
  dq_zast hexec hb hK hP hS r t0 ha ht (vp_in_nI hk hn) hdg (by rw [nI_clamp (Nat.lt_trans hk hn)]; exact kk)
theorem dq_lastN (hexec : p.tables.exec = Jvm.exec) (hb : c.code = cc) (hK : va_K D cl tys s) (hP : dq_W D cl ad w A H) (hS : va_S A H0 H locs) (r t0 : Nat) {cA : ClassId} {n : Nat} {f : Nat → Int64} (ha : w r = some (.inl (cA, n, .inr (.inl f)))) (ht : tys[t0]? = some (cA, .long)) (k : Nat) {x : Int64} (hk : k < n) (hn : n < 2 ^ 31) (hdg : decode cc pc = .ok (.lastore, 1))
    (kk : ∀ (H1 : Heap) (locs1 : List Loc), dq_W D cl ad (dq_U w r (.inl (cA, n, .inr (.inl (vp_updL f k x))))) A H1 → va_S A H0 H1 locs1 → W p l e R s m args below meth c H1 locs1 cells slots Q (F0 m (pc + 1) ls rest)) : W p l e R s m args below meth c H locs cells slots Q (F0 m pc ls (.long x :: .int (nI k) :: .ref (ad r) :: rest)) :=
  dq_last hexec hb hK hP hS r t0 ha ht (vp_in_nI hk hn) hdg (by rw [nI_clamp (Nat.lt_trans hk hn)]; exact kk)
theorem dq_aaldN (hexec : p.tables.exec = Jvm.exec) (hb : c.code = cc) (hK : va_K D cl tys s) (hP : dq_W D cl ad w A H) (r t0 : Nat) {cA : ClassId} {C : String} {n : Nat} {f : Nat → Option Nat} (ha : w r = some (.inl (cA, n, .inr (.inr (.inr (.inr f)))))) (ht : tys[t0]? = some (cA, .object C)) (k : Nat) (hk : k < n) (hn : n < 2 ^ 31) {a : Nat} (hf : f k = some a) (hdg : decode cc pc = .ok (.aaload, 1))
    (kk : W p l e R s m args below meth c H locs cells slots Q (F0 m (pc + 1) ls (.ref a :: rest))) : W p l e R s m args below meth c H locs cells slots Q (F0 m pc ls (.int (nI k) :: .ref (ad r) :: rest)) :=
  dq_aald hexec hb hK hP r t0 ha ht (vp_in_nI hk hn) (by rw [nI_clamp (Nat.lt_trans hk hn)]; exact hf) hdg kk
end DQ
theorem dq_UU {w : Nat → Option va_E} {r : Nat} {e e' : va_E} : dq_U (dq_U w r e) r e' = dq_U w r e' := by
  funext j
  by_cases h : j = r <;> simp [dq_U, h]
theorem dq_Wc {D : va_G} {cl : List vw_C} {ad : Nat → Nat} {w w' : Nat → Option va_E} {A : Nat → Prop} {H : Heap} (h : w = w') (hW : dq_W D cl ad w A H) : dq_W D cl ad w' A H := h ▸ hW
