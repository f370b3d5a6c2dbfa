theorem dx_io {c0 : Cond} {A : Nat → Prop} {s : State} {args : Array Value} (hts : ∀ w ∈ c0 :: dq_G, w.before args s = true) (hZ : dq_Z A s s.heap) : ∀ w ∈ Bundle.ownAtoms RDH 77 "java/lang/IndexOutOfBoundsException" ["java/lang/RuntimeException", "java/lang/Exception"], w.before args s = true := by
  simp only [Bundle.ownAtoms, Bundle.throwableAtoms, Bundle.throwableSAtoms, Bundle.chainSAtoms, Bundle.passSAtoms, List.cons_append, List.nil_append]
  refine List.forall_mem_cons.mpr ⟨(hts _ (List.mem_cons_of_mem _ (dq_in1 11 rfl rfl))), ?_⟩
  refine List.forall_mem_cons.mpr ⟨(hts _ (List.mem_cons_of_mem _ (dq_in2 150 rfl rfl))), ?_⟩
  refine List.forall_mem_cons.mpr ⟨(hts _ (List.mem_cons_of_mem _ (dq_in2 159 rfl rfl))), ?_⟩
  refine List.forall_mem_cons.mpr ⟨(hts _ (List.mem_cons_of_mem _ (dq_in2 163 rfl rfl))), ?_⟩
  refine List.forall_mem_cons.mpr ⟨(hts _ (List.mem_cons_of_mem _ (dq_in2 166 rfl rfl))), ?_⟩
  refine List.forall_mem_cons.mpr ⟨(hts _ (List.mem_cons_of_mem _ (dq_in2 168 rfl rfl))), ?_⟩
  refine List.forall_mem_cons.mpr ⟨(hts _ (List.mem_cons_of_mem _ (dq_in2 151 rfl rfl))), ?_⟩
  refine List.forall_mem_cons.mpr ⟨(hts _ (List.mem_cons_of_mem _ (dq_in2 152 rfl rfl))), ?_⟩
  refine List.forall_mem_cons.mpr ⟨(hts _ (List.mem_cons_of_mem _ (dq_in1 24 rfl rfl))), ?_⟩
  refine List.forall_mem_cons.mpr ⟨(hts _ (List.mem_cons_of_mem _ (dq_in1 25 rfl rfl))), ?_⟩
  refine List.forall_mem_cons.mpr ⟨(hts _ (List.mem_cons_of_mem _ (dq_in2 153 rfl rfl))), ?_⟩
  refine List.forall_mem_cons.mpr ⟨(hts _ (List.mem_cons_of_mem _ (dq_in2 158 rfl rfl))), ?_⟩
  refine List.forall_mem_cons.mpr ⟨(hts _ (List.mem_cons_of_mem _ (dq_in2 164 rfl rfl))), ?_⟩
  refine List.forall_mem_cons.mpr ⟨(hts _ (List.mem_cons_of_mem _ (dq_in2 184 rfl rfl))), ?_⟩
  refine List.forall_mem_cons.mpr ⟨(hts _ (List.mem_cons_of_mem _ (dq_in2 140 rfl rfl))), ?_⟩
  refine List.forall_mem_cons.mpr ⟨(hts _ (List.mem_cons_of_mem _ (dq_in2 185 rfl rfl))), ?_⟩
  refine List.forall_mem_cons.mpr ⟨(hts _ (List.mem_cons_of_mem _ (dq_in2 142 rfl rfl))), ?_⟩
  refine List.forall_mem_cons.mpr ⟨(hts _ (List.mem_cons_of_mem _ (dq_in2 186 rfl rfl))), ?_⟩
  refine List.forall_mem_cons.mpr ⟨(hts _ (List.mem_cons_of_mem _ (dq_in2 144 rfl rfl))), ?_⟩
  refine List.forall_mem_cons.mpr ⟨(hts _ (List.mem_cons_of_mem _ (dq_in2 154 rfl rfl))), ?_⟩
  refine List.forall_mem_cons.mpr ⟨hZ.l0.word, ?_⟩
  refine List.forall_mem_cons.mpr ⟨(hts _ (List.mem_cons_of_mem _ (dq_in2 156 rfl rfl))), ?_⟩
  refine List.forall_mem_cons.mpr ⟨hZ.l1.word, ?_⟩
  refine List.forall_mem_cons.mpr ⟨(hts _ (List.mem_cons_of_mem _ (dq_in2 146 rfl rfl))), ?_⟩
  refine List.forall_mem_cons.mpr ⟨(hts _ (List.mem_cons_of_mem _ (dq_in2 180 rfl rfl))), ?_⟩
  refine List.forall_mem_cons.mpr ⟨(hts _ (List.mem_cons_of_mem _ (dq_in2 181 rfl rfl))), ?_⟩
  refine List.forall_mem_cons.mpr ⟨(hts _ (List.mem_cons_of_mem _ (dq_in2 183 rfl rfl))), ?_⟩
  refine List.forall_mem_cons.mpr ⟨(hts _ (List.mem_cons_of_mem _ (dq_in2 146 rfl rfl))), ?_⟩
  refine List.forall_mem_cons.mpr ⟨(hts _ (List.mem_cons_of_mem _ (dq_in2 171 rfl rfl))), ?_⟩
  refine List.forall_mem_cons.mpr ⟨(hts _ (List.mem_cons_of_mem _ (dq_in2 172 rfl rfl))), ?_⟩
  refine List.forall_mem_cons.mpr ⟨(hts _ (List.mem_cons_of_mem _ (dq_in2 173 rfl rfl))), ?_⟩
  refine List.forall_mem_cons.mpr ⟨(hts _ (List.mem_cons_of_mem _ (dq_in2 174 rfl rfl))), ?_⟩
  refine List.forall_mem_cons.mpr ⟨(va_Nw.use rfl hZ.d0), ?_⟩
  refine List.forall_mem_cons.mpr ⟨(hts _ (List.mem_cons_of_mem _ (dq_in2 174 rfl rfl))), ?_⟩
  refine List.forall_mem_cons.mpr ⟨(hts _ (List.mem_cons_of_mem _ (dq_in2 175 rfl rfl))), ?_⟩
  refine List.forall_mem_cons.mpr ⟨(hts _ (List.mem_cons_of_mem _ (dq_in2 176 rfl rfl))), ?_⟩
  refine List.forall_mem_cons.mpr ⟨(hts _ (List.mem_cons_of_mem _ (dq_in2 177 rfl rfl))), ?_⟩
  refine List.forall_mem_cons.mpr ⟨(va_Nw.use rfl hZ.d1), ?_⟩
  refine List.forall_mem_cons.mpr ⟨(hts _ (List.mem_cons_of_mem _ (dq_in2 177 rfl rfl))), ?_⟩
  refine List.forall_mem_cons.mpr ⟨(hts _ (List.mem_cons_of_mem _ (dq_in2 178 rfl rfl))), ?_⟩
  refine List.forall_mem_cons.mpr ⟨(hts _ (List.mem_cons_of_mem _ (dq_in2 179 rfl rfl))), ?_⟩
  refine List.forall_mem_cons.mpr ⟨(hts _ (List.mem_cons_of_mem _ (dq_in2 180 rfl rfl))), ?_⟩
  refine List.forall_mem_cons.mpr ⟨(va_Nw.use rfl hZ.d2), ?_⟩
  refine List.forall_mem_cons.mpr ⟨(hts _ (List.mem_cons_of_mem _ (dq_in2 170 rfl rfl))), ?_⟩
  refine List.forall_mem_cons.mpr ⟨(hts _ (List.mem_cons_of_mem _ (dq_in2 129 rfl rfl))), ?_⟩
  refine List.forall_mem_cons.mpr ⟨(va_Nw.use rfl hZ.c0), ?_⟩
  refine List.forall_mem_cons.mpr ⟨(hts _ (List.mem_cons_of_mem _ (dq_in2 137 rfl rfl))), ?_⟩
  refine List.forall_mem_cons.mpr ⟨(hts _ (List.mem_cons_of_mem _ (dq_in2 138 rfl rfl))), ?_⟩
  refine List.forall_mem_cons.mpr ⟨(hts _ (List.mem_cons_of_mem _ (dq_in2 139 rfl rfl))), ?_⟩
  refine List.forall_mem_cons.mpr ⟨(hts _ (List.mem_cons_of_mem _ (dq_in2 141 rfl rfl))), ?_⟩
  refine List.forall_mem_cons.mpr ⟨(hts _ (List.mem_cons_of_mem _ (dq_in2 143 rfl rfl))), ?_⟩
  refine List.forall_mem_cons.mpr ⟨(hts _ (List.mem_cons_of_mem _ (dq_in2 145 rfl rfl))), ?_⟩
  refine List.forall_mem_cons.mpr ⟨(dx_ref hZ.q0), ?_⟩
  refine List.forall_mem_cons.mpr ⟨(dx_ref hZ.q1), ?_⟩
  refine List.forall_mem_cons.mpr ⟨(hts _ (List.mem_cons_of_mem _ (dq_in2 149 rfl rfl))), ?_⟩
  refine List.forall_mem_cons.mpr ⟨(hts _ (List.mem_cons_of_mem _ (dq_in2 148 rfl rfl))), ?_⟩
  refine List.forall_mem_cons.mpr ⟨(hts _ (List.mem_cons_of_mem _ (dq_in2 147 rfl rfl))), ?_⟩
  exact fun _ h => absurd h List.not_mem_nil
theorem dx_ia {c0 : Cond} {A : Nat → Prop} {s : State} {args : Array Value} (hts : ∀ w ∈ c0 :: dq_G, w.before args s = true) (hZ : dq_Z A s s.heap) : ∀ w ∈ Bundle.ownAtoms RDH 159 "java/lang/IllegalArgumentException" ["java/lang/RuntimeException", "java/lang/Exception"], w.before args s = true := by
  simp only [Bundle.ownAtoms, Bundle.throwableAtoms, Bundle.throwableSAtoms, Bundle.chainSAtoms, Bundle.passSAtoms, List.cons_append, List.nil_append]
  refine List.forall_mem_cons.mpr ⟨(hts _ (List.mem_cons_of_mem _ (dq_in1 11 rfl rfl))), ?_⟩
  refine List.forall_mem_cons.mpr ⟨(hts _ (List.mem_cons_of_mem _ (dq_in2 150 rfl rfl))), ?_⟩
  refine List.forall_mem_cons.mpr ⟨(hts _ (List.mem_cons_of_mem _ (dq_in2 159 rfl rfl))), ?_⟩
  refine List.forall_mem_cons.mpr ⟨(hts _ (List.mem_cons_of_mem _ (dq_in2 163 rfl rfl))), ?_⟩
  refine List.forall_mem_cons.mpr ⟨(hts _ (List.mem_cons_of_mem _ (dq_in2 166 rfl rfl))), ?_⟩
  refine List.forall_mem_cons.mpr ⟨(hts _ (List.mem_cons_of_mem _ (dq_in2 168 rfl rfl))), ?_⟩
  refine List.forall_mem_cons.mpr ⟨(hts _ (List.mem_cons_of_mem _ (dq_in2 151 rfl rfl))), ?_⟩
  refine List.forall_mem_cons.mpr ⟨(hts _ (List.mem_cons_of_mem _ (dq_in2 152 rfl rfl))), ?_⟩
  refine List.forall_mem_cons.mpr ⟨(hts _ (List.mem_cons_of_mem _ (dq_in1 24 rfl rfl))), ?_⟩
  refine List.forall_mem_cons.mpr ⟨(hts _ (List.mem_cons_of_mem _ (dq_in1 25 rfl rfl))), ?_⟩
  refine List.forall_mem_cons.mpr ⟨(hts _ (List.mem_cons_of_mem _ (dq_in2 153 rfl rfl))), ?_⟩
  refine List.forall_mem_cons.mpr ⟨(hts _ (List.mem_cons_of_mem _ (dq_in2 158 rfl rfl))), ?_⟩
  refine List.forall_mem_cons.mpr ⟨(hts _ (List.mem_cons_of_mem _ (dq_in2 164 rfl rfl))), ?_⟩
  refine List.forall_mem_cons.mpr ⟨(hts _ (List.mem_cons_of_mem _ (dq_in2 184 rfl rfl))), ?_⟩
  refine List.forall_mem_cons.mpr ⟨(hts _ (List.mem_cons_of_mem _ (dq_in2 140 rfl rfl))), ?_⟩
  refine List.forall_mem_cons.mpr ⟨(hts _ (List.mem_cons_of_mem _ (dq_in2 185 rfl rfl))), ?_⟩
  refine List.forall_mem_cons.mpr ⟨(hts _ (List.mem_cons_of_mem _ (dq_in2 142 rfl rfl))), ?_⟩
  refine List.forall_mem_cons.mpr ⟨(hts _ (List.mem_cons_of_mem _ (dq_in2 186 rfl rfl))), ?_⟩
  refine List.forall_mem_cons.mpr ⟨(hts _ (List.mem_cons_of_mem _ (dq_in2 144 rfl rfl))), ?_⟩
  refine List.forall_mem_cons.mpr ⟨(hts _ (List.mem_cons_of_mem _ (dq_in2 154 rfl rfl))), ?_⟩
  refine List.forall_mem_cons.mpr ⟨hZ.l0.word, ?_⟩
  refine List.forall_mem_cons.mpr ⟨(hts _ (List.mem_cons_of_mem _ (dq_in2 156 rfl rfl))), ?_⟩
  refine List.forall_mem_cons.mpr ⟨hZ.l1.word, ?_⟩
  refine List.forall_mem_cons.mpr ⟨(hts _ (List.mem_cons_of_mem _ (dq_in2 146 rfl rfl))), ?_⟩
  refine List.forall_mem_cons.mpr ⟨(hts _ (List.mem_cons_of_mem _ (dq_in2 180 rfl rfl))), ?_⟩
  refine List.forall_mem_cons.mpr ⟨(hts _ (List.mem_cons_of_mem _ (dq_in2 181 rfl rfl))), ?_⟩
  refine List.forall_mem_cons.mpr ⟨(hts _ (List.mem_cons_of_mem _ (dq_in2 183 rfl rfl))), ?_⟩
  refine List.forall_mem_cons.mpr ⟨(hts _ (List.mem_cons_of_mem _ (dq_in2 146 rfl rfl))), ?_⟩
  refine List.forall_mem_cons.mpr ⟨(hts _ (List.mem_cons_of_mem _ (dq_in2 213 rfl rfl))), ?_⟩
  refine List.forall_mem_cons.mpr ⟨(hts _ (List.mem_cons_of_mem _ (dq_in2 214 rfl rfl))), ?_⟩
  refine List.forall_mem_cons.mpr ⟨(hts _ (List.mem_cons_of_mem _ (dq_in2 215 rfl rfl))), ?_⟩
  refine List.forall_mem_cons.mpr ⟨(hts _ (List.mem_cons_of_mem _ (dq_in2 174 rfl rfl))), ?_⟩
  refine List.forall_mem_cons.mpr ⟨(va_Nw.use rfl hZ.d0), ?_⟩
  refine List.forall_mem_cons.mpr ⟨(hts _ (List.mem_cons_of_mem _ (dq_in2 174 rfl rfl))), ?_⟩
  refine List.forall_mem_cons.mpr ⟨(hts _ (List.mem_cons_of_mem _ (dq_in2 175 rfl rfl))), ?_⟩
  refine List.forall_mem_cons.mpr ⟨(hts _ (List.mem_cons_of_mem _ (dq_in2 176 rfl rfl))), ?_⟩
  refine List.forall_mem_cons.mpr ⟨(hts _ (List.mem_cons_of_mem _ (dq_in2 177 rfl rfl))), ?_⟩
  refine List.forall_mem_cons.mpr ⟨(va_Nw.use rfl hZ.d1), ?_⟩
  refine List.forall_mem_cons.mpr ⟨(hts _ (List.mem_cons_of_mem _ (dq_in2 177 rfl rfl))), ?_⟩
  refine List.forall_mem_cons.mpr ⟨(hts _ (List.mem_cons_of_mem _ (dq_in2 178 rfl rfl))), ?_⟩
  refine List.forall_mem_cons.mpr ⟨(hts _ (List.mem_cons_of_mem _ (dq_in2 179 rfl rfl))), ?_⟩
  refine List.forall_mem_cons.mpr ⟨(hts _ (List.mem_cons_of_mem _ (dq_in2 180 rfl rfl))), ?_⟩
  refine List.forall_mem_cons.mpr ⟨(va_Nw.use rfl hZ.d2), ?_⟩
  refine List.forall_mem_cons.mpr ⟨(hts _ (List.mem_cons_of_mem _ (dq_in2 212 rfl rfl))), ?_⟩
  refine List.forall_mem_cons.mpr ⟨(hts _ (List.mem_cons_of_mem _ (dq_in2 203 rfl rfl))), ?_⟩
  refine List.forall_mem_cons.mpr ⟨(va_Nw.use rfl hZ.c1), ?_⟩
  refine List.forall_mem_cons.mpr ⟨(hts _ (List.mem_cons_of_mem _ (dq_in2 205 rfl rfl))), ?_⟩
  refine List.forall_mem_cons.mpr ⟨(hts _ (List.mem_cons_of_mem _ (dq_in2 161 rfl rfl))), ?_⟩
  refine List.forall_mem_cons.mpr ⟨(hts _ (List.mem_cons_of_mem _ (dq_in2 206 rfl rfl))), ?_⟩
  refine List.forall_mem_cons.mpr ⟨(hts _ (List.mem_cons_of_mem _ (dq_in2 207 rfl rfl))), ?_⟩
  refine List.forall_mem_cons.mpr ⟨(hts _ (List.mem_cons_of_mem _ (dq_in2 208 rfl rfl))), ?_⟩
  refine List.forall_mem_cons.mpr ⟨(hts _ (List.mem_cons_of_mem _ (dq_in2 209 rfl rfl))), ?_⟩
  refine List.forall_mem_cons.mpr ⟨(dx_ref hZ.q0), ?_⟩
  refine List.forall_mem_cons.mpr ⟨(dx_ref hZ.q1), ?_⟩
  refine List.forall_mem_cons.mpr ⟨(hts _ (List.mem_cons_of_mem _ (dq_in2 149 rfl rfl))), ?_⟩
  refine List.forall_mem_cons.mpr ⟨(hts _ (List.mem_cons_of_mem _ (dq_in2 148 rfl rfl))), ?_⟩
  refine List.forall_mem_cons.mpr ⟨(hts _ (List.mem_cons_of_mem _ (dq_in2 210 rfl rfl))), ?_⟩
  exact fun _ h => absurd h List.not_mem_nil
theorem dx_is {c0 : Cond} {A : Nat → Prop} {s : State} {args : Array Value} (hts : ∀ w ∈ c0 :: dq_G, w.before args s = true) (hZ : dq_Z A s s.heap) : ∀ w ∈ Bundle.ownAtoms RDH 104 "java/lang/IllegalStateException" ["java/lang/RuntimeException", "java/lang/Exception"], w.before args s = true := by
  simp only [Bundle.ownAtoms, Bundle.throwableAtoms, Bundle.throwableSAtoms, Bundle.chainSAtoms, Bundle.passSAtoms, List.cons_append, List.nil_append]
  refine List.forall_mem_cons.mpr ⟨(hts _ (List.mem_cons_of_mem _ (dq_in1 11 rfl rfl))), ?_⟩
  refine List.forall_mem_cons.mpr ⟨(hts _ (List.mem_cons_of_mem _ (dq_in2 150 rfl rfl))), ?_⟩
  refine List.forall_mem_cons.mpr ⟨(hts _ (List.mem_cons_of_mem _ (dq_in2 159 rfl rfl))), ?_⟩
  refine List.forall_mem_cons.mpr ⟨(hts _ (List.mem_cons_of_mem _ (dq_in2 163 rfl rfl))), ?_⟩
  refine List.forall_mem_cons.mpr ⟨(hts _ (List.mem_cons_of_mem _ (dq_in2 166 rfl rfl))), ?_⟩
  refine List.forall_mem_cons.mpr ⟨(hts _ (List.mem_cons_of_mem _ (dq_in2 168 rfl rfl))), ?_⟩
  refine List.forall_mem_cons.mpr ⟨(hts _ (List.mem_cons_of_mem _ (dq_in2 151 rfl rfl))), ?_⟩
  refine List.forall_mem_cons.mpr ⟨(hts _ (List.mem_cons_of_mem _ (dq_in2 152 rfl rfl))), ?_⟩
  refine List.forall_mem_cons.mpr ⟨(hts _ (List.mem_cons_of_mem _ (dq_in1 24 rfl rfl))), ?_⟩
  refine List.forall_mem_cons.mpr ⟨(hts _ (List.mem_cons_of_mem _ (dq_in1 25 rfl rfl))), ?_⟩
  refine List.forall_mem_cons.mpr ⟨(hts _ (List.mem_cons_of_mem _ (dq_in2 153 rfl rfl))), ?_⟩
  refine List.forall_mem_cons.mpr ⟨(hts _ (List.mem_cons_of_mem _ (dq_in2 158 rfl rfl))), ?_⟩
  refine List.forall_mem_cons.mpr ⟨(hts _ (List.mem_cons_of_mem _ (dq_in2 164 rfl rfl))), ?_⟩
  refine List.forall_mem_cons.mpr ⟨(hts _ (List.mem_cons_of_mem _ (dq_in2 184 rfl rfl))), ?_⟩
  refine List.forall_mem_cons.mpr ⟨(hts _ (List.mem_cons_of_mem _ (dq_in2 140 rfl rfl))), ?_⟩
  refine List.forall_mem_cons.mpr ⟨(hts _ (List.mem_cons_of_mem _ (dq_in2 185 rfl rfl))), ?_⟩
  refine List.forall_mem_cons.mpr ⟨(hts _ (List.mem_cons_of_mem _ (dq_in2 142 rfl rfl))), ?_⟩
  refine List.forall_mem_cons.mpr ⟨(hts _ (List.mem_cons_of_mem _ (dq_in2 186 rfl rfl))), ?_⟩
  refine List.forall_mem_cons.mpr ⟨(hts _ (List.mem_cons_of_mem _ (dq_in2 144 rfl rfl))), ?_⟩
  refine List.forall_mem_cons.mpr ⟨(hts _ (List.mem_cons_of_mem _ (dq_in2 154 rfl rfl))), ?_⟩
  refine List.forall_mem_cons.mpr ⟨hZ.l0.word, ?_⟩
  refine List.forall_mem_cons.mpr ⟨(hts _ (List.mem_cons_of_mem _ (dq_in2 156 rfl rfl))), ?_⟩
  refine List.forall_mem_cons.mpr ⟨hZ.l1.word, ?_⟩
  refine List.forall_mem_cons.mpr ⟨(hts _ (List.mem_cons_of_mem _ (dq_in2 146 rfl rfl))), ?_⟩
  refine List.forall_mem_cons.mpr ⟨(hts _ (List.mem_cons_of_mem _ (dq_in2 180 rfl rfl))), ?_⟩
  refine List.forall_mem_cons.mpr ⟨(hts _ (List.mem_cons_of_mem _ (dq_in2 181 rfl rfl))), ?_⟩
  refine List.forall_mem_cons.mpr ⟨(hts _ (List.mem_cons_of_mem _ (dq_in2 183 rfl rfl))), ?_⟩
  refine List.forall_mem_cons.mpr ⟨(hts _ (List.mem_cons_of_mem _ (dq_in2 146 rfl rfl))), ?_⟩
  refine List.forall_mem_cons.mpr ⟨(hts _ (List.mem_cons_of_mem _ (dq_in3 7 rfl rfl))), ?_⟩
  refine List.forall_mem_cons.mpr ⟨(hts _ (List.mem_cons_of_mem _ (dq_in3 8 rfl rfl))), ?_⟩
  refine List.forall_mem_cons.mpr ⟨(hts _ (List.mem_cons_of_mem _ (dq_in3 9 rfl rfl))), ?_⟩
  refine List.forall_mem_cons.mpr ⟨(hts _ (List.mem_cons_of_mem _ (dq_in2 174 rfl rfl))), ?_⟩
  refine List.forall_mem_cons.mpr ⟨(va_Nw.use rfl hZ.d0), ?_⟩
  refine List.forall_mem_cons.mpr ⟨(hts _ (List.mem_cons_of_mem _ (dq_in2 174 rfl rfl))), ?_⟩
  refine List.forall_mem_cons.mpr ⟨(hts _ (List.mem_cons_of_mem _ (dq_in2 175 rfl rfl))), ?_⟩
  refine List.forall_mem_cons.mpr ⟨(hts _ (List.mem_cons_of_mem _ (dq_in2 176 rfl rfl))), ?_⟩
  refine List.forall_mem_cons.mpr ⟨(hts _ (List.mem_cons_of_mem _ (dq_in2 177 rfl rfl))), ?_⟩
  refine List.forall_mem_cons.mpr ⟨(va_Nw.use rfl hZ.d1), ?_⟩
  refine List.forall_mem_cons.mpr ⟨(hts _ (List.mem_cons_of_mem _ (dq_in2 177 rfl rfl))), ?_⟩
  refine List.forall_mem_cons.mpr ⟨(hts _ (List.mem_cons_of_mem _ (dq_in2 178 rfl rfl))), ?_⟩
  refine List.forall_mem_cons.mpr ⟨(hts _ (List.mem_cons_of_mem _ (dq_in2 179 rfl rfl))), ?_⟩
  refine List.forall_mem_cons.mpr ⟨(hts _ (List.mem_cons_of_mem _ (dq_in2 180 rfl rfl))), ?_⟩
  refine List.forall_mem_cons.mpr ⟨(va_Nw.use rfl hZ.d2), ?_⟩
  refine List.forall_mem_cons.mpr ⟨(hts _ (List.mem_cons_of_mem _ (dq_in3 6 rfl rfl))), ?_⟩
  refine List.forall_mem_cons.mpr ⟨(hts _ (List.mem_cons_of_mem _ (dq_in2 237 rfl rfl))), ?_⟩
  refine List.forall_mem_cons.mpr ⟨(va_Nw.use rfl hZ.c2), ?_⟩
  refine List.forall_mem_cons.mpr ⟨(hts _ (List.mem_cons_of_mem _ (dq_in2 239 rfl rfl))), ?_⟩
  refine List.forall_mem_cons.mpr ⟨(hts _ (List.mem_cons_of_mem _ (dq_in2 162 rfl rfl))), ?_⟩
  refine List.forall_mem_cons.mpr ⟨(hts _ (List.mem_cons_of_mem _ (dq_in3 0 rfl rfl))), ?_⟩
  refine List.forall_mem_cons.mpr ⟨(hts _ (List.mem_cons_of_mem _ (dq_in3 1 rfl rfl))), ?_⟩
  refine List.forall_mem_cons.mpr ⟨(hts _ (List.mem_cons_of_mem _ (dq_in3 2 rfl rfl))), ?_⟩
  refine List.forall_mem_cons.mpr ⟨(hts _ (List.mem_cons_of_mem _ (dq_in3 3 rfl rfl))), ?_⟩
  refine List.forall_mem_cons.mpr ⟨(dx_ref hZ.q0), ?_⟩
  refine List.forall_mem_cons.mpr ⟨(dx_ref hZ.q1), ?_⟩
  refine List.forall_mem_cons.mpr ⟨(hts _ (List.mem_cons_of_mem _ (dq_in2 149 rfl rfl))), ?_⟩
  refine List.forall_mem_cons.mpr ⟨(hts _ (List.mem_cons_of_mem _ (dq_in2 148 rfl rfl))), ?_⟩
  refine List.forall_mem_cons.mpr ⟨(hts _ (List.mem_cons_of_mem _ (dq_in3 4 rfl rfl))), ?_⟩
  exact fun _ h => absurd h List.not_mem_nil
/-! OWN LAYER: throwing. A contract of this kind says that under its premises the method THROWS; what it throws, and that its world is as it was -/
section DX
/-- q thrown over the method's frame g -/
def dx_W (p : Program) (l : Launch) (e : Env) (R : Room) (s : State) (m : MethodId) (args : Array Value) (below : List Frame) (meth : Method) (c : Code) (H : Heap) (locs : List Loc) (cells slots : Nat) (Q : State → Prop) (g : JFrame) (q : Addr) : Prop :=
  ∀ T : State, T.heap = H → Stand p l e R s m args below meth c T locs cells slots → ∃ t, Steps p.tables e below ((T.setTop g).pushFrame (.throwing q)) t ∧ Q t
/-- the state behind a throw of q: the class of it, its cell, the world, what may have been written -/
def dx_T (X : String → State → Prop) (A : Nat → Prop) (mc ms : Nat) (st : State) (q : Addr) (t : State) : Prop :=
  ∃ (E : String) (ce : Cell) (L : List Loc), X E t ∧ va_F A st t ∧ t.heap[q]? = some ce ∧ ce.vm = .none ∧ st.vm.findClass E = some ce.cls ∧ st.WarmedH t.vm ∧ st.sameButNew ({ t with vm := st.vm } : State) L mc ms ∧ ∀ z ∈ L, A z.base
def dx_M (l : Launch) (y : MethodName) (ws : List Cond) (rm : Room) (Pc : Array Value → State → Prop) (X : String → State → Prop) (A : Nat → Prop) (mc ms : Nat) : Prop :=
  MetFree l y (headSpec ws rm) Pc (fun _ _ _ _ _ => True) (fun _ st o t => ∃ q, o = .threw q ∧ dx_T X A mc ms st q t)
def dx_Q (below : List Frame) (X : String → State → Prop) (A : Nat → Prop) (s : State) (mc ms : Nat) : State → Prop := fun t => ∃ q, t.status = .running ∧ Ended t below (.threw q) ∧ dx_T X A mc ms s q t
/-- the world of a throw: nothing changed -/
def dx_X (D : va_G) (cl : List vw_C) (tys : List (ClassId × FieldType)) (ad : Nat → Nat) (w : Nat → Option va_E) (A : Nat → Prop) (ex : String → Prop) : String → State → Prop := fun E t => ex E ∧ dq_W D cl ad w A t.heap ∧ va_K D cl tys t
variable {p : Program} {l : Launch} {e : Env} {R : Room} {s : State} {m : MethodId} {args : Array Value} {below : List Frame} {meth : Method} {c : Code} {H : Heap} {locs : List Loc} {cells slots : Nat} {Q : State → Prop}
variable {y : MethodName} {bytes cc : ByteArray} {maxL nL mc ms n index : Nat} {ret : Option FieldType} {ws Ts : List Cond} {rm : Room} {Pc : Array Value → State → Prop} {X : String → State → Prop} {A A0 : Nat → Prop} {own C : String} {b : Addr} {As rest st0 : List Value} {g : JFrame} {a : Array Value} {pc : Nat} {ls : Array Slot} {T : State}
/-- the call itself: from the invocation to the note over the caller's frame -/
theorem dx_go (hM : dx_M l y ws rm Pc X A mc ms) (hrc : rm.cells = mc) (hrs : rm.slots = ms) (hframes : rm.frames + 1 ≤ R.frames) (hlocals : 8 + (maxL + 11) + rm.locals ≤ R.locals)
    (hws : ∀ w ∈ ws, ∀ (a' : Array Value) (U : State), s.WarmedH U.vm → w.before a' U = true) (hcode : Cond.code y bytes maxL ret ∈ ws) (hini : (Cond.initialized y.cls).before args s = true)
    (S : Stand p l e R s m args below meth c T locs cells slots) (hg : g.method = m) (hsize : g.locals.size = c.maxLocals) {ig : Instr} {len : Nat} (hdg : decode c.code g.pc = .ok (ig, len)) (hW : 2 * g.monitorRoom + (g.stack.map fun v => v.category).sum ≤ 8)
    {mk : MethodId} (hn : T.methodNamed? y = some mk) (hc : cells + mc ≤ R.cells) (hs : slots + ms ≤ R.slots) (hP : Pc a (T.calling g mk a)) :
    ∃ (q : Addr) (t T' : State) (L : List Loc) (E : String) (ce : Cell), Stand p l e R s m args below meth c T' (locs ++ L) (cells + mc) (slots + ms) ∧ (∀ z ∈ L, A z.base) ∧ T'.heap = t.heap ∧ T'.vm = t.vm ∧ X E t ∧ va_F A (T.calling g mk a) t ∧ t.heap[q]? = some ce ∧ ce.vm = .none ∧ T.vm.findClass E = some ce.cls ∧
      Steps p.tables e below (doInvoke e (T.setTop g) [] mk a).1 ((T'.setTop g).pushFrame (.throwing q)) := by
  have w1 : (headSpec ws rm).pre.before a T = true := atoms_intro fun w hw => hws w hw _ _ S.warmed
  have w2 : (Cond.code y bytes maxL ret).before a T = true := hws _ hcode _ _ S.warmed
  have w3 : (Cond.initialized y.cls).before a T = true := word_at S.warmed (Or.inl (by first | rfl | simp [Cond.onTables, Cond.keeps, Cond.steady])) hini
  obtain ⟨methY, cY, hmY, hcY, -, hlY, -, -, -, -⟩ := Cond.code_spec hn w2
  obtain ⟨kY, hkY, -⟩ := className_of_methodNamed hn
  have hat : At T g.method c below := by rw [hg]; exact S.here
  have hroom := S.room_calling (args' := a) (g := g) (R' := rm) hsize hmY hcY hframes (by rw [hlY]; omega) (by rw [hrc]; exact hc) (by rw [hrs]; exact hs)
  have happ := Spec.appliesLoose_calling (S := headSpec ws rm) (g := g) hat hdg hn hkY (Cond.initialized_spec (findClass_of_methodNamed hn) hkY w3) hroom w1
  obtain ⟨mid, hmid⟩ := hat.above
  have hfr : (T.setTop g).frames = (.java g :: mid) ++ below := by rw [State.frames_setTop' g hat.top, hmid]; rfl
  obtain ⟨o, t, hst, -, hend, q, rfl, E, ce, L, hX, hF, hce, hcv, hcl, hw, hsm, hL⟩ := Steps.callFree hM p S.admits S.cas S.clock (acts := []) hfr happ hP trivial
  rw [State.frames_setTop' g hat.top] at hend
  have hft : t.frames = .throwing q :: .java g :: T.frames.tail := hend
  obtain ⟨g₀, hg0⟩ := Option.isSome_iff_exists.mp hat.top
  obtain ⟨r, hr⟩ := State.topJava?_eq_some.mp hg0
  obtain ⟨z1, z2, z3, z4, z5, z6⟩ := id hsm
  have hw' : T.WarmedH t.vm := hw
  have et : t = ({ (T.calling g mk a).setFrames t.frames with heap := t.heap, slotsUsed := t.slotsUsed } : State).setVm t.vm := by
    exact (show t = ({ t with vm := (T.calling g mk a).vm } : State).setVm t.vm from rfl).trans (congrArg (fun z : State => z.setVm t.vm) z1)
  have hr' : (({ T with heap := t.heap, slotsUsed := t.slotsUsed } : State).setVm t.vm).frames = .java g₀ :: r := hr
  have e1 : t = ((({ T with heap := t.heap, slotsUsed := t.slotsUsed } : State).setVm t.vm).setTop g).pushFrame (.throwing q) := by
    refine et.trans ?_
    rw [hft, State.calling_eq hat.top, State.setFrames_setFrames, State.pushFrame, State.frames_setTop _ hr', State.setTop_of_frames _ hr', State.setFrames_setFrames, hr]
    rfl
  have e2 : T.sameButNew ({ T with heap := t.heap, slotsUsed := t.slotsUsed } : State) L mc ms := by
    refine ⟨?_, z2, z3, z4, z5, z6⟩
    obtain ⟨th, hth, -⟩ := State.frames_cons hr
    show ({ T with heap := t.heap, slotsUsed := t.slotsUsed } : State) = { T.setFrames T.frames with heap := t.heap, slotsUsed := t.slotsUsed }
    rw [State.setFrames_self hth]
  subst hg
  refine ⟨q, t, (({ T with heap := t.heap, slotsUsed := t.slotsUsed } : State).setVm t.vm), L, E, ce, ⟨S.admits, S.cas, S.clock, S.frames, S.room, S.hears, S.method, S.code, (S.here.setHeapUsed t.heap t.slotsUsed).setVm hw'.alike, S.tail, State.WarmedH.trans S.warmed hw', S.limits, S.bytes, S.same.trans (e2.setVm s.vm)⟩, hL, rfl, rfl, hX, hF, hce, hcv, hcl, ?_⟩
  show Steps p.tables e below _ (((({ T with heap := t.heap, slotsUsed := t.slotsUsed } : State).setVm t.vm).setTop g).pushFrame (.throwing q))
  rw [← e1]
  exact hst
/-- what the caller has behind a call that threw -/
def dx_K (p : Program) (l : Launch) (e : Env) (R : Room) (s : State) (m : MethodId) (args : Array Value) (below : List Frame) (meth : Method) (c : Code) (H : Heap) (mc' ms' : Nat) (Q : State → Prop) (g : JFrame) (X : String → State → Prop) (A A0 : Nat → Prop) : Prop :=
  ∀ (q : Addr) (E : String) (ce : Cell) (t : State) (H1 : Heap) (locs1 : List Loc), t.heap = H1 → s.vm.Alike t.vm → X E t → H.size ≤ H1.size → (∀ z : Nat, z < H.size → ¬ A z → H1[z]? = H[z]?) → va_S A0 s.heap H1 locs1 → H1[q]? = some ce → ce.vm = .none → s.vm.findClass E = some ce.cls → dx_W p l e R s m args below meth c H1 locs1 mc' ms' Q g q
theorem dx_step (hS : va_S A0 s.heap H locs) (hA : ∀ q, A q → A0 q) {vm₁ : Vm} {g' : JFrame} {mk : MethodId} (hT : T.heap = H) (hw₁ : s.WarmedH vm₁)
    (kx : dx_K p l e R s m args below meth c H (cells + mc) (slots + ms) Q (F0 m pc ls rest) X A A0)
    (h : ∃ (q : Addr) (t T' : State) (L : List Loc) (E : String) (ce : Cell), Stand p l e R s m args below meth c T' (locs ++ L) (cells + mc) (slots + ms) ∧ (∀ z ∈ L, A z.base) ∧ T'.heap = t.heap ∧ T'.vm = t.vm ∧ X E t ∧ va_F A ((T.setVm vm₁).calling g' mk a) t ∧ t.heap[q]? = some ce ∧ ce.vm = .none ∧ (T.setVm vm₁).vm.findClass E = some ce.cls ∧
      Steps p.tables e below (doInvoke e ((T.setVm vm₁).setTop (F0 m pc ls rest)) [] mk a).1 ((T'.setTop (F0 m pc ls rest)).pushFrame (.throwing q))) :
    ∃ t, Steps p.tables e below (doInvoke e ((T.setVm vm₁).setTop (F0 m pc ls rest)) [] mk a).1 t ∧ Q t := by
  obtain ⟨q, t, T', L, E, ce, S', hL, e1, e2, hX, hF, hce, hcv, hcl, hst⟩ := h
  have hz : H.size ≤ t.heap.size := by have := hF.1; rw [← hT]; exact this
  have hk : ∀ z : Nat, z < H.size → ¬ A z → t.heap[z]? = H[z]? := fun z h1 h2 => by have := hF.2 z (by show z < T.heap.size; rw [hT]; exact h1) h2; rw [← hT]; exact this
  have hcl' : s.vm.findClass E = some ce.cls := by rw [← hw₁.alike.findClass]; exact hcl
  obtain ⟨t2, a1, b1⟩ := kx q E ce t T'.heap (locs ++ L) e1.symm (by rw [← e2]; exact S'.warmed.alike) hX (by rw [e1]; exact hz) (fun z h1 h2 => by rw [e1]; exact hk z h1 h2)
    ⟨Nat.le_trans hS.1 (by rw [e1]; exact hz), fun z h1 h2 => by rw [e1, hk z (Nat.lt_of_lt_of_le h1 hS.1) (fun h3 => h2 (hA z h3))]; exact hS.2.1 z h1 h2, fun z hz' => by
      rcases List.mem_append.mp hz' with h1 | h1
      · exact hS.2.2 z h1
      · exact hA _ (hL z h1)⟩ (by rw [e1]; exact hce) hcv hcl' T' rfl S'
  exact ⟨t2, hst.trans a1, b1⟩
theorem dx_callV (F : CallFix p m c cc nL s args Ts own) (hM : dx_M l y ws rm Pc X A mc ms) (cw : CallW R s args own C index y bytes maxL ret ws rm mc ms n) (hp : PreV s H C b Pc As)
    (hn : As.length = n) (hsize : ls.size = nL) (hstack : st0 = As.reverse ++ .ref b :: rest) (hW : 2 * (F0 m pc ls rest).monitorRoom + (rest.map fun v => v.category).sum ≤ 8) (hdg : decode cc pc = .ok (.invokevirtual index, 3)) (hf : cells + mc ≤ R.cells ∧ slots + ms ≤ R.slots) (hS : va_S A0 s.heap H locs) (hA : ∀ q, A q → A0 q)
    (kx : dx_K p l e R s m args below meth c H (cells + mc) (slots + ms) Q (F0 m pc ls rest) X A A0) : W p l e R s m args below meth c H locs cells slots Q (F0 m pc ls st0) := by
  obtain ⟨⟨hrc, hrs, hfr, hlo, hws, hcw, hcode, hini, hy, hlen, hl⟩, hin, hse⟩ := cw
  obtain ⟨hx, hb, hml, ho, -⟩ := F
  obtain ⟨hbl, ⟨cellB, hcB, hoB, hclB⟩, hPc⟩ := hp
  subst hstack
  intro T hT S
  obtain ⟨mk, methM, hnamed, hmethM, hstM, habM⟩ := Cond.instanceMethod_spec hin
  obtain ⟨methM', cM, hmethM', -, -, -, -, -, -, hsigM⟩ := Cond.code_spec hnamed hcode
  cases hmethM.symm.trans hmethM'
  obtain ⟨c2, r2, m2, q1, q2, q3, q4, kP, hkP, hkPi⟩ := Cond.selects_spec hse
  cases hclB.symm.trans q1
  cases (State.methodFound?_of_named hnamed hy).symm.trans q2
  cases hnamed.symm.trans q3
  have hselP : selectMethod e.platform s.vm cellB.cls mk = .method mk := by rw [Launch.admits_selectMethod S.admits]; exact q4
  obtain ⟨vm₁, S₁, hstep₁⟩ := S.invokevirtual hx ho hl hnamed hmethM hstM hkP hkPi hy (a := b) (cell := cellB) (by rw [hT]; exact hcB) (fun z h => by rw [h] at hoB; cases hoB) hselP hmethM habM hkP hkPi (g := F0 m pc ls (As.reverse ++ .ref b :: rest)) rfl (argsL := As) (rest := rest) (hn.trans (hlen _ hsigM)) rfl (by rw [hb]; exact hdg)
  obtain ⟨t, a1, b1⟩ := dx_step (T := T) (g' := F0 m pc ls rest) hS hA hT S₁.warmed kx (dx_go (a := (Value.ref b :: As).toArray) hM hrc hrs hfr hlo hws hcw hini S₁ (g := F0 m pc ls rest) rfl (hsize.trans hml.symm) (by rw [hb]; exact hdg) hW (S₁.named hnamed) hf.1 hf.2 (hbl _ _ _ _ (hPc (T.setVm vm₁) hT S₁.warmed)))
  exact ⟨t, hstep₁ _ fun acts => by rw [doInvoke_state]; exact a1, b1⟩
theorem dx_callS (F : CallFix p m c cc nL s args Ts own) (hM : dx_M l y ws rm Pc X A mc ms) (cw : CallB R s args own index y bytes maxL ret ws rm mc ms n ∧ (Cond.static y).before args s = true) (hp : PreS s H Pc As)
    (hn : As.length = n) (hsize : ls.size = nL) (hstack : st0 = As.reverse ++ rest) (hW : 2 * (F0 m pc ls rest).monitorRoom + (rest.map fun v => v.category).sum ≤ 8) (hdg : decode cc pc = .ok (.invokestatic index, 3)) (hf : cells + mc ≤ R.cells ∧ slots + ms ≤ R.slots) (hS : va_S A0 s.heap H locs) (hA : ∀ q, A q → A0 q)
    (kx : dx_K p l e R s m args below meth c H (cells + mc) (slots + ms) Q (F0 m pc ls rest) X A A0) : W p l e R s m args below meth c H locs cells slots Q (F0 m pc ls st0) := by
  obtain ⟨⟨hrc, hrs, hfr, hlo, hws, hcw, hcode, hini, hy, hlen, hl⟩, hstt⟩ := cw
  obtain ⟨hx, hb, hml, ho, -⟩ := F
  subst hstack
  intro T hT S
  obtain ⟨mk, hnamed⟩ := Cond.code_named hcode
  obtain ⟨methM, cM, hmethM, -, -, -, -, -, -, hsigM⟩ := Cond.code_spec hnamed hcode
  have hstatic : methM.isStatic = true := Cond.static_spec hnamed hmethM hstt
  obtain ⟨kP, hkP, -⟩ := className_of_methodNamed hnamed
  obtain ⟨vm₁, S₁, hstep₁⟩ := S.invokestatic hx ho hl hnamed hmethM hstatic hkP (Cond.initialized_spec (findClass_of_methodNamed hnamed) hkP hini) hy (g := F0 m pc ls (As.reverse ++ rest)) rfl (argsL := As) (rest := rest) (hn.trans (hlen _ hsigM)) rfl (by rw [hb]; exact hdg)
  obtain ⟨t, a1, b1⟩ := dx_step (T := T) (g' := F0 m pc ls rest) hS hA hT S₁.warmed kx (dx_go (a := As.toArray) hM hrc hrs hfr hlo hws hcw hini S₁ (g := F0 m pc ls rest) rfl (hsize.trans hml.symm) (by rw [hb]; exact hdg) hW (S₁.named hnamed) hf.1 hf.2 (hp.1 _ _ _ _ (hp.2 (T.setVm vm₁) hT S₁.warmed)))
  exact ⟨t, hstep₁ _ fun acts => by rw [doInvoke_state]; exact a1, b1⟩
/-- it goes on to the caller -/
theorem dx_out {E : String} {ce : Cell} {q : Addr} (hout : ∀ x ∈ c.exceptionTable.toList, False) (hlocks : meth.locks = false) (hcell : H[q]? = some ce) (hv : ce.vm = .none) (hcl : s.vm.findClass E = some ce.cls)
    (hX : ∀ t : State, t.heap = H → s.vm.Alike t.vm → X E t) (hS : va_S A s.heap H locs) (hc : cells ≤ mc) (hs : slots ≤ ms) : dx_W p l e R s m args below meth c H locs cells slots (dx_Q below X A s mc ms) (F0 m pc ls rest) q := by
  intro T hT S
  obtain ⟨st1, hrun, hend, hw, hsm⟩ := S.leaveThrown q (g := F0 m pc ls rest) rfl rfl rfl (fun x hx => (hout x hx).elim) hlocks
  have hh : (T.setFrames (.throwing q :: below)).heap = H := hT
  exact ⟨_, st1, q, hrun, hend, E, ce, locs, hX _ hh hw.alike, hS.F hh, by rw [hh]; exact hcell, hv, hcl, hw, hsm.mono hc hs, hS.2.2⟩
end DX
