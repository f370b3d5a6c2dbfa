section
-- ===== PART A: goes FIRST, ahead of the names: the tables' words, and 'selects' of the private methods out of them =====
/-- a private method of a class that the tables say can be made, by its rows of tables_1 -/
def lw_okq (q : MethodName × Nat) : Prop := (q.1.cls ≠ "java/lang/invoke/MethodHandle" ∧ q.1.cls ≠ "java/lang/invoke/VarHandle") ∧ Cond.instantiable q.1.cls q.2 ∈ tables_1 ∧ Cond.privateMethod q.1 ∈ tables_1 ∧ Cond.instanceMethod q.1 ∈ tables_1
theorem lw_p0 : lw_okq (⟨"DrillHeads", "findPlaces", "()V"⟩, 9) := ⟨⟨by decide +kernel, by decide +kernel⟩, List.mem_of_getElem? (i := 19) (by decide +kernel), List.mem_of_getElem? (i := 247) (by decide +kernel), List.mem_of_getElem? (i := 248) (by decide +kernel)⟩
theorem lw_p1 : lw_okq (⟨"DrillHeads$Places", "insert", "(II)V"⟩, 4) := ⟨⟨by decide +kernel, by decide +kernel⟩, List.mem_of_getElem? (i := 132) (by decide +kernel), List.mem_of_getElem? (i := 264) (by decide +kernel), List.mem_of_getElem? (i := 265) (by decide +kernel)⟩
theorem lw_p2 : lw_okq (⟨"DrillHeads", "planHits", "()V"⟩, 9) := ⟨⟨by decide +kernel, by decide +kernel⟩, List.mem_of_getElem? (i := 19) (by decide +kernel), List.mem_of_getElem? (i := 284) (by decide +kernel), List.mem_of_getElem? (i := 285) (by decide +kernel)⟩
theorem lw_p3 : lw_okq (⟨"DrillHeads$Table", "markReached", "([LDrillHeads$Places;I)V"⟩, 1) := ⟨⟨by decide +kernel, by decide +kernel⟩, List.mem_of_getElem? (i := 187) (by decide +kernel), List.mem_of_getElem? (i := 292) (by decide +kernel), List.mem_of_getElem? (i := 293) (by decide +kernel)⟩
theorem lw_p4 : lw_okq (⟨"DrillHeads$Table", "fewestAfterHit", "(LDrillHeads$Places;I)I"⟩, 1) := ⟨⟨by decide +kernel, by decide +kernel⟩, List.mem_of_getElem? (i := 187) (by decide +kernel), List.mem_of_getElem? (i := 303) (by decide +kernel), List.mem_of_getElem? (i := 304) (by decide +kernel)⟩
theorem lw_p5 : lw_okq (⟨"DrillHeads$Way", "fillShortest", "(LDrillHeads$Hits;)V"⟩, 3) := ⟨⟨by decide +kernel, by decide +kernel⟩, List.mem_of_getElem? (i := 197) (by decide +kernel), List.mem_of_getElem? (i := 321) (by decide +kernel), List.mem_of_getElem? (i := 322) (by decide +kernel)⟩
theorem lw_p6 : lw_okq (⟨"DrillHeads$Way", "nextHit", "(LDrillHeads$Hits;III)I"⟩, 3) := ⟨⟨by decide +kernel, by decide +kernel⟩, List.mem_of_getElem? (i := 197) (by decide +kernel), List.mem_of_getElem? (i := 328) (by decide +kernel), List.mem_of_getElem? (i := 329) (by decide +kernel)⟩
theorem lw_p7 : lw_okq (⟨"DrillHeads$Way", "wayOver", "(LDrillHeads$Hits;IIII)I"⟩, 3) := ⟨⟨by decide +kernel, by decide +kernel⟩, List.mem_of_getElem? (i := 197) (by decide +kernel), List.mem_of_getElem? (i := 332) (by decide +kernel), List.mem_of_getElem? (i := 333) (by decide +kernel)⟩
theorem lw_p8 : lw_okq (⟨"DrillHeads$Way", "takeShortest", "(LDrillHeads$Hits;)V"⟩, 3) := ⟨⟨by decide +kernel, by decide +kernel⟩, List.mem_of_getElem? (i := 197) (by decide +kernel), List.mem_of_getElem? (i := 345) (by decide +kernel), List.mem_of_getElem? (i := 346) (by decide +kernel)⟩
theorem lw_p9 : lw_okq (⟨"DrillHeads$Way", "takeOwnOrder", "(LDrillHeads$Hits;)V"⟩, 3) := ⟨⟨by decide +kernel, by decide +kernel⟩, List.mem_of_getElem? (i := 197) (by decide +kernel), List.mem_of_getElem? (i := 349) (by decide +kernel), List.mem_of_getElem? (i := 350) (by decide +kernel)⟩
theorem lw_p10 : lw_okq (⟨"DrillHeads$Way", "measure", "(LDrillHeads$Hits;)V"⟩, 3) := ⟨⟨by decide +kernel, by decide +kernel⟩, List.mem_of_getElem? (i := 197) (by decide +kernel), List.mem_of_getElem? (i := 353) (by decide +kernel), List.mem_of_getElem? (i := 354) (by decide +kernel)⟩
theorem lw_p11 : lw_okq (⟨"java/lang/Throwable", "fillInStackTrace", "(I)Ljava/lang/Throwable;"⟩, 6) := ⟨⟨by decide +kernel, by decide +kernel⟩, List.mem_of_getElem? (i := 407) (by decide +kernel), List.mem_of_getElem? (i := 405) (by decide +kernel), List.mem_of_getElem? (i := 406) (by decide +kernel)⟩
theorem lw_p12 : lw_okq (⟨"DrillHeads$Head", "measureFrame", "()V"⟩, 7) := ⟨⟨by decide +kernel, by decide +kernel⟩, List.mem_of_getElem? (i := 27) (by decide +kernel), List.mem_of_getElem? (i := 463) (by decide +kernel), List.mem_of_getElem? (i := 464) (by decide +kernel)⟩
theorem lw_p13 : lw_okq (⟨"DrillHeads", "requireHole", "(I)V"⟩, 9) := ⟨⟨by decide +kernel, by decide +kernel⟩, List.mem_of_getElem? (i := 19) (by decide +kernel), List.mem_of_getElem? (i := 504) (by decide +kernel), List.mem_of_getElem? (i := 505) (by decide +kernel)⟩
theorem lw_p14 : lw_okq (⟨"DrillHeads", "requirePlanned", "()V"⟩, 9) := ⟨⟨by decide +kernel, by decide +kernel⟩, List.mem_of_getElem? (i := 19) (by decide +kernel), List.mem_of_getElem? (i := 537) (by decide +kernel), List.mem_of_getElem? (i := 538) (by decide +kernel)⟩
theorem lw_p15 : lw_okq (⟨"DrillHeads", "requireHit", "(I)V"⟩, 9) := ⟨⟨by decide +kernel, by decide +kernel⟩, List.mem_of_getElem? (i := 19) (by decide +kernel), List.mem_of_getElem? (i := 542) (by decide +kernel), List.mem_of_getElem? (i := 543) (by decide +kernel)⟩
def lw_privs_1 : List (MethodName × Nat) := [(⟨"DrillHeads", "findPlaces", "()V"⟩, 9), (⟨"DrillHeads$Places", "insert", "(II)V"⟩, 4), (⟨"DrillHeads", "planHits", "()V"⟩, 9), (⟨"DrillHeads$Table", "markReached", "([LDrillHeads$Places;I)V"⟩, 1), (⟨"DrillHeads$Table", "fewestAfterHit", "(LDrillHeads$Places;I)I"⟩, 1), (⟨"DrillHeads$Way", "fillShortest", "(LDrillHeads$Hits;)V"⟩, 3), (⟨"DrillHeads$Way", "nextHit", "(LDrillHeads$Hits;III)I"⟩, 3), (⟨"DrillHeads$Way", "wayOver", "(LDrillHeads$Hits;IIII)I"⟩, 3), (⟨"DrillHeads$Way", "takeShortest", "(LDrillHeads$Hits;)V"⟩, 3), (⟨"DrillHeads$Way", "takeOwnOrder", "(LDrillHeads$Hits;)V"⟩, 3), (⟨"DrillHeads$Way", "measure", "(LDrillHeads$Hits;)V"⟩, 3), (⟨"java/lang/Throwable", "fillInStackTrace", "(I)Ljava/lang/Throwable;"⟩, 6), (⟨"DrillHeads$Head", "measureFrame", "()V"⟩, 7), (⟨"DrillHeads", "requireHole", "(I)V"⟩, 9), (⟨"DrillHeads", "requirePlanned", "()V"⟩, 9), (⟨"DrillHeads", "requireHit", "(I)V"⟩, 9)]
theorem lw_r1 : ∀ q ∈ lw_privs_1, lw_okq q := List.forall_mem_cons.mpr ⟨lw_p0, List.forall_mem_cons.mpr ⟨lw_p1, List.forall_mem_cons.mpr ⟨lw_p2, List.forall_mem_cons.mpr ⟨lw_p3, List.forall_mem_cons.mpr ⟨lw_p4, List.forall_mem_cons.mpr ⟨lw_p5, List.forall_mem_cons.mpr ⟨lw_p6, List.forall_mem_cons.mpr ⟨lw_p7, List.forall_mem_cons.mpr ⟨lw_p8, List.forall_mem_cons.mpr ⟨lw_p9, List.forall_mem_cons.mpr ⟨lw_p10, List.forall_mem_cons.mpr ⟨lw_p11, List.forall_mem_cons.mpr ⟨lw_p12, List.forall_mem_cons.mpr ⟨lw_p13, List.forall_mem_cons.mpr ⟨lw_p14, List.forall_mem_cons.mpr ⟨lw_p15, fun _ h => absurd h List.not_mem_nil⟩⟩⟩⟩⟩⟩⟩⟩⟩⟩⟩⟩⟩⟩⟩⟩
theorem lw_p16 : lw_okq (⟨"DrillHeadsModel", "noHole", "(I)Z"⟩, 29) := ⟨⟨by decide +kernel, by decide +kernel⟩, List.mem_of_getElem? (i := 629) (by decide +kernel), List.mem_of_getElem? (i := 743) (by decide +kernel), List.mem_of_getElem? (i := 744) (by decide +kernel)⟩
theorem lw_p17 : lw_okq (⟨"DrillHeadsModel", "fillPlaces", "(I)V"⟩, 29) := ⟨⟨by decide +kernel, by decide +kernel⟩, List.mem_of_getElem? (i := 629) (by decide +kernel), List.mem_of_getElem? (i := 759) (by decide +kernel), List.mem_of_getElem? (i := 760) (by decide +kernel)⟩
theorem lw_p18 : lw_okq (⟨"DrillHeadsModel", "isBarred", "(II)Z"⟩, 29) := ⟨⟨by decide +kernel, by decide +kernel⟩, List.mem_of_getElem? (i := 629) (by decide +kernel), List.mem_of_getElem? (i := 765) (by decide +kernel), List.mem_of_getElem? (i := 766) (by decide +kernel)⟩
theorem lw_p19 : lw_okq (⟨"DrillHeadsModel", "drilledAt", "(III)I"⟩, 29) := ⟨⟨by decide +kernel, by decide +kernel⟩, List.mem_of_getElem? (i := 629) (by decide +kernel), List.mem_of_getElem? (i := 769) (by decide +kernel), List.mem_of_getElem? (i := 770) (by decide +kernel)⟩
theorem lw_p20 : lw_okq (⟨"DrillHeadsModel", "areAlike", "(II)Z"⟩, 29) := ⟨⟨by decide +kernel, by decide +kernel⟩, List.mem_of_getElem? (i := 629) (by decide +kernel), List.mem_of_getElem? (i := 773) (by decide +kernel), List.mem_of_getElem? (i := 774) (by decide +kernel)⟩
theorem lw_p21 : lw_okq (⟨"DrillHeadsModel", "spindleAt", "(III)I"⟩, 29) := ⟨⟨by decide +kernel, by decide +kernel⟩, List.mem_of_getElem? (i := 629) (by decide +kernel), List.mem_of_getElem? (i := 777) (by decide +kernel), List.mem_of_getElem? (i := 778) (by decide +kernel)⟩
theorem lw_p22 : lw_okq (⟨"DrillHeadsModel", "findOrder", "()V"⟩, 29) := ⟨⟨by decide +kernel, by decide +kernel⟩, List.mem_of_getElem? (i := 629) (by decide +kernel), List.mem_of_getElem? (i := 788) (by decide +kernel), List.mem_of_getElem? (i := 789) (by decide +kernel)⟩
theorem lw_p23 : lw_okq (⟨"DrillHeadsModel", "between", "(II)J"⟩, 29) := ⟨⟨by decide +kernel, by decide +kernel⟩, List.mem_of_getElem? (i := 629) (by decide +kernel), List.mem_of_getElem? (i := 793) (by decide +kernel), List.mem_of_getElem? (i := 794) (by decide +kernel)⟩
theorem lw_p24 : lw_okq (⟨"DrillHeadsModel", "walkOrder", "()V"⟩, 29) := ⟨⟨by decide +kernel, by decide +kernel⟩, List.mem_of_getElem? (i := 629) (by decide +kernel), List.mem_of_getElem? (i := 800) (by decide +kernel), List.mem_of_getElem? (i := 801) (by decide +kernel)⟩
theorem lw_p25 : lw_okq (⟨"DrillHeadsModel", "none", "()Z"⟩, 29) := ⟨⟨by decide +kernel, by decide +kernel⟩, List.mem_of_getElem? (i := 629) (by decide +kernel), List.mem_of_getElem? (i := 808) (by decide +kernel), List.mem_of_getElem? (i := 809) (by decide +kernel)⟩
theorem lw_p26 : lw_okq (⟨"DrillHeadsModel", "noHoleOf", "(I)Z"⟩, 29) := ⟨⟨by decide +kernel, by decide +kernel⟩, List.mem_of_getElem? (i := 629) (by decide +kernel), List.mem_of_getElem? (i := 820) (by decide +kernel), List.mem_of_getElem? (i := 821) (by decide +kernel)⟩
theorem lw_p27 : lw_okq (⟨"DrillHeadsModel", "singleCount", "()I"⟩, 29) := ⟨⟨by decide +kernel, by decide +kernel⟩, List.mem_of_getElem? (i := 629) (by decide +kernel), List.mem_of_getElem? (i := 844) (by decide +kernel), List.mem_of_getElem? (i := 845) (by decide +kernel)⟩
def lw_privs_2 : List (MethodName × Nat) := [(⟨"DrillHeadsModel", "noHole", "(I)Z"⟩, 29), (⟨"DrillHeadsModel", "fillPlaces", "(I)V"⟩, 29), (⟨"DrillHeadsModel", "isBarred", "(II)Z"⟩, 29), (⟨"DrillHeadsModel", "drilledAt", "(III)I"⟩, 29), (⟨"DrillHeadsModel", "areAlike", "(II)Z"⟩, 29), (⟨"DrillHeadsModel", "spindleAt", "(III)I"⟩, 29), (⟨"DrillHeadsModel", "findOrder", "()V"⟩, 29), (⟨"DrillHeadsModel", "between", "(II)J"⟩, 29), (⟨"DrillHeadsModel", "walkOrder", "()V"⟩, 29), (⟨"DrillHeadsModel", "none", "()Z"⟩, 29), (⟨"DrillHeadsModel", "noHoleOf", "(I)Z"⟩, 29), (⟨"DrillHeadsModel", "singleCount", "()I"⟩, 29)]
theorem lw_r2 : ∀ q ∈ lw_privs_2, lw_okq q := List.forall_mem_cons.mpr ⟨lw_p16, List.forall_mem_cons.mpr ⟨lw_p17, List.forall_mem_cons.mpr ⟨lw_p18, List.forall_mem_cons.mpr ⟨lw_p19, List.forall_mem_cons.mpr ⟨lw_p20, List.forall_mem_cons.mpr ⟨lw_p21, List.forall_mem_cons.mpr ⟨lw_p22, List.forall_mem_cons.mpr ⟨lw_p23, List.forall_mem_cons.mpr ⟨lw_p24, List.forall_mem_cons.mpr ⟨lw_p25, List.forall_mem_cons.mpr ⟨lw_p26, List.forall_mem_cons.mpr ⟨lw_p27, fun _ h => absurd h List.not_mem_nil⟩⟩⟩⟩⟩⟩⟩⟩⟩⟩⟩⟩
def lw_privs : List (MethodName × Nat) := lw_privs_1 ++ (lw_privs_2)
def lw_tbl : List Cond := k2_sels lw_privs ++ tables_1
theorem lw_privs_ok : ∀ q ∈ lw_privs, lw_okq q := by
  show ∀ q ∈ lw_privs_1 ++ (lw_privs_2), lw_okq q
  exact List.forall_mem_append.mpr ⟨lw_r1, lw_r2⟩
end
section
def RCl : String := "DrillHeads$Clamps"
def RHd : String := "DrillHeads$Head"
def RHt : String := "DrillHeads$Hits"
def RPt : String := "DrillHeads$Part"
def RPl : String := "DrillHeads$Places"
def RTb : String := "DrillHeads$Table"
def RWy : String := "DrillHeads$Way"
def RDH : String := "DrillHeads"
def RMo : String := "DrillHeadsModel"
def RLw : String := "DrillHeadsLaw"
def RIn : String := "java/lang/Integer"
def TCl : u_T := fun k => match k with
  | 0 => ("DrillHeads$Clamps", "x0", "[I", true)
  | 1 => ("DrillHeads$Clamps", "y0", "[I", true)
  | 2 => ("DrillHeads$Clamps", "x1", "[I", true)
  | 3 => ("DrillHeads$Clamps", "y1", "[I", true)
  | _ => ("DrillHeads$Clamps", "count", "I", false)
def tyCl : Nat → FieldType := fun k => match k with
  | 0 => .array .int
  | 1 => .array .int
  | 2 => .array .int
  | 3 => .array .int
  | _ => .int
theorem nmCl : ∀ a, a < 5 → ∀ b, b < 5 → a ≠ b → (TCl a).2.1 ≠ (TCl b).2.1 := by decide +kernel
theorem tyCl_ok : ∀ k, k < 5 → parseFieldDescriptor (TCl k).2.2.1 = some (tyCl k) := by decide +kernel
def THd : u_T := fun k => match k with
  | 0 => ("DrillHeads$Head", "x", "[I", true)
  | 1 => ("DrillHeads$Head", "y", "[I", true)
  | 2 => ("DrillHeads$Head", "width", "[I", true)
  | 3 => ("DrillHeads$Head", "frameX0", "I", false)
  | 4 => ("DrillHeads$Head", "frameY0", "I", false)
  | 5 => ("DrillHeads$Head", "frameX1", "I", false)
  | _ => ("DrillHeads$Head", "frameY1", "I", false)
def tyHd : Nat → FieldType := fun k => match k with
  | 0 => .array .int
  | 1 => .array .int
  | 2 => .array .int
  | 3 => .int
  | 4 => .int
  | 5 => .int
  | _ => .int
theorem nmHd : ∀ a, a < 7 → ∀ b, b < 7 → a ≠ b → (THd a).2.1 ≠ (THd b).2.1 := by decide +kernel
theorem tyHd_ok : ∀ k, k < 7 → parseFieldDescriptor (THd k).2.2.1 = some (tyHd k) := by decide +kernel
def THt : u_T := fun k => match k with
  | 0 => ("DrillHeads$Hits", "x", "[I", true)
  | 1 => ("DrillHeads$Hits", "y", "[I", true)
  | 2 => ("DrillHeads$Hits", "face", "[I", true)
  | 3 => ("DrillHeads$Hits", "holes", "[I", true)
  | _ => ("DrillHeads$Hits", "count", "I", false)
def tyHt : Nat → FieldType := fun k => match k with
  | 0 => .array .int
  | 1 => .array .int
  | 2 => .array .int
  | 3 => .array .int
  | _ => .int
theorem nmHt : ∀ a, a < 5 → ∀ b, b < 5 → a ≠ b → (THt a).2.1 ≠ (THt b).2.1 := by decide +kernel
theorem tyHt_ok : ∀ k, k < 5 → parseFieldDescriptor (THt k).2.2.1 = some (tyHt k) := by decide +kernel
def TPt : u_T := fun k => match k with
  | 0 => ("DrillHeads$Part", "x", "[I", true)
  | 1 => ("DrillHeads$Part", "y", "[I", true)
  | 2 => ("DrillHeads$Part", "width", "[I", true)
  | 3 => ("DrillHeads$Part", "depth", "[I", true)
  | 4 => ("DrillHeads$Part", "face", "[I", true)
  | 5 => ("DrillHeads$Part", "goesThrough", "[Z", true)
  | _ => ("DrillHeads$Part", "count", "I", false)
def tyPt : Nat → FieldType := fun k => match k with
  | 0 => .array .int
  | 1 => .array .int
  | 2 => .array .int
  | 3 => .array .int
  | 4 => .array .int
  | 5 => .array .boolean
  | _ => .int
theorem nmPt : ∀ a, a < 7 → ∀ b, b < 7 → a ≠ b → (TPt a).2.1 ≠ (TPt b).2.1 := by decide +kernel
theorem tyPt_ok : ∀ k, k < 7 → parseFieldDescriptor (TPt k).2.2.1 = some (tyPt k) := by decide +kernel
def TPl : u_T := fun k => match k with
  | 0 => ("DrillHeads$Places", "x", "[I", true)
  | 1 => ("DrillHeads$Places", "y", "[I", true)
  | 2 => ("DrillHeads$Places", "drilled", "[I", true)
  | _ => ("DrillHeads$Places", "count", "I", false)
def tyPl : Nat → FieldType := fun k => match k with
  | 0 => .array .int
  | 1 => .array .int
  | 2 => .array .int
  | _ => .int
theorem nmPl : ∀ a, a < 4 → ∀ b, b < 4 → a ≠ b → (TPl a).2.1 ≠ (TPl b).2.1 := by decide +kernel
theorem tyPl_ok : ∀ k, k < 4 → parseFieldDescriptor (TPl k).2.2.1 = some (tyPl k) := by decide +kernel
def TTb : u_T := fun k => match k with
  | _ => ("DrillHeads$Table", "fewest", "[I", false)
def tyTb : Nat → FieldType := fun k => match k with
  | _ => .array .int
theorem nmTb : ∀ a, a < 1 → ∀ b, b < 1 → a ≠ b → (TTb a).2.1 ≠ (TTb b).2.1 := by decide +kernel
theorem tyTb_ok : ∀ k, k < 1 → parseFieldDescriptor (TTb k).2.2.1 = some (tyTb k) := by decide +kernel
def TWy : u_T := fun k => match k with
  | 0 => ("DrillHeads$Way", "sequence", "[I", true)
  | 1 => ("DrillHeads$Way", "length", "J", false)
  | _ => ("DrillHeads$Way", "shortest", "[I", false)
def tyWy : Nat → FieldType := fun k => match k with
  | 0 => .array .int
  | 1 => .long
  | _ => .array .int
theorem nmWy : ∀ a, a < 3 → ∀ b, b < 3 → a ≠ b → (TWy a).2.1 ≠ (TWy b).2.1 := by decide +kernel
theorem tyWy_ok : ∀ k, k < 3 → parseFieldDescriptor (TWy k).2.2.1 = some (tyWy k) := by decide +kernel
def TDH : u_T := fun k => match k with
  | 0 => ("DrillHeads", "head", "LDrillHeads$Head;", true)
  | 1 => ("DrillHeads", "part", "LDrillHeads$Part;", true)
  | 2 => ("DrillHeads", "clamps", "LDrillHeads$Clamps;", true)
  | 3 => ("DrillHeads", "placesOfHole", "[LDrillHeads$Places;", true)
  | 4 => ("DrillHeads", "hits", "LDrillHeads$Hits;", true)
  | 5 => ("DrillHeads", "table", "LDrillHeads$Table;", true)
  | 6 => ("DrillHeads", "way", "LDrillHeads$Way;", true)
  | 7 => ("DrillHeads", "singleHoles", "I", false)
  | _ => ("DrillHeads", "planned", "Z", false)
def tyDH : Nat → FieldType := fun k => match k with
  | 0 => .object "DrillHeads$Head"
  | 1 => .object "DrillHeads$Part"
  | 2 => .object "DrillHeads$Clamps"
  | 3 => .array (.object "DrillHeads$Places")
  | 4 => .object "DrillHeads$Hits"
  | 5 => .object "DrillHeads$Table"
  | 6 => .object "DrillHeads$Way"
  | 7 => .int
  | _ => .boolean
theorem nmDH : ∀ a, a < 9 → ∀ b, b < 9 → a ≠ b → (TDH a).2.1 ≠ (TDH b).2.1 := by decide +kernel
theorem tyDH_ok : ∀ k, k < 9 → parseFieldDescriptor (TDH k).2.2.1 = some (tyDH k) := by decide +kernel
def TMo : u_T := fun k => match k with
  | 0 => ("DrillHeadsModel", "code", "I", false)
  | 1 => ("DrillHeadsModel", "spindles", "I", true)
  | 2 => ("DrillHeadsModel", "sx", "[I", true)
  | 3 => ("DrillHeadsModel", "sy", "[I", true)
  | 4 => ("DrillHeadsModel", "sw", "[I", true)
  | 5 => ("DrillHeadsModel", "holes", "I", false)
  | 6 => ("DrillHeadsModel", "hx", "[I", true)
  | 7 => ("DrillHeadsModel", "hy", "[I", true)
  | 8 => ("DrillHeadsModel", "hw", "[I", true)
  | 9 => ("DrillHeadsModel", "depths", "[I", true)
  | 10 => ("DrillHeadsModel", "faces", "[I", true)
  | 11 => ("DrillHeadsModel", "through", "[Z", true)
  | 12 => ("DrillHeadsModel", "clamps", "I", false)
  | 13 => ("DrillHeadsModel", "boxes", "[I", true)
  | 14 => ("DrillHeadsModel", "planned", "Z", false)
  | 15 => ("DrillHeadsModel", "hits", "I", false)
  | 16 => ("DrillHeadsModel", "hitX", "[I", true)
  | 17 => ("DrillHeadsModel", "hitY", "[I", true)
  | 18 => ("DrillHeadsModel", "hitFace", "[I", true)
  | 19 => ("DrillHeadsModel", "hitSet", "[I", true)
  | 20 => ("DrillHeadsModel", "singles", "I", false)
  | 21 => ("DrillHeadsModel", "order", "[I", true)
  | 22 => ("DrillHeadsModel", "way", "J", false)
  | 23 => ("DrillHeadsModel", "fewest", "[I", true)
  | 24 => ("DrillHeadsModel", "placeX", "[I", true)
  | 25 => ("DrillHeadsModel", "placeY", "[I", true)
  | 26 => ("DrillHeadsModel", "placeSet", "[I", true)
  | 27 => ("DrillHeadsModel", "placeCount", "[I", true)
  | _ => ("DrillHeadsModel", "rest", "[J", true)
def tyMo : Nat → FieldType := fun k => match k with
  | 0 => .int
  | 1 => .int
  | 2 => .array .int
  | 3 => .array .int
  | 4 => .array .int
  | 5 => .int
  | 6 => .array .int
  | 7 => .array .int
  | 8 => .array .int
  | 9 => .array .int
  | 10 => .array .int
  | 11 => .array .boolean
  | 12 => .int
  | 13 => .array .int
  | 14 => .boolean
  | 15 => .int
  | 16 => .array .int
  | 17 => .array .int
  | 18 => .array .int
  | 19 => .array .int
  | 20 => .int
  | 21 => .array .int
  | 22 => .long
  | 23 => .array .int
  | 24 => .array .int
  | 25 => .array .int
  | 26 => .array .int
  | 27 => .array .int
  | _ => .array .long
theorem nmMo : ∀ a, a < 29 → ∀ b, b < 29 → a ≠ b → (TMo a).2.1 ≠ (TMo b).2.1 := by decide +kernel
theorem tyMo_ok : ∀ k, k < 29 → parseFieldDescriptor (TMo k).2.2.1 = some (tyMo k) := by decide +kernel
abbrev vwCl : List vw_C := [(RCl, TCl, 5), (RHd, THd, 7), (RHt, THt, 5), (RPt, TPt, 7), (RPl, TPl, 4), (RTb, TTb, 1), (RWy, TWy, 3), (RDH, TDH, 9), (RMo, TMo, 29)]
abbrev cDH_init : ByteArray := prog_1_method_1_code
def yDH_init : MethodName := ⟨RDH, "<init>", "(I)V"⟩
abbrev cHd_init : ByteArray := prog_3_method_1_code
def yHd_init : MethodName := ⟨RHd, "<init>", "(I)V"⟩
abbrev cPt_init : ByteArray := prog_5_method_1_code
def yPt_init : MethodName := ⟨RPt, "<init>", "()V"⟩
abbrev cCl_init : ByteArray := prog_2_method_1_code
def yCl_init : MethodName := ⟨RCl, "<init>", "()V"⟩
abbrev cPl_init : ByteArray := prog_6_method_1_code
def yPl_init : MethodName := ⟨RPl, "<init>", "()V"⟩
abbrev cHt_init : ByteArray := prog_4_method_1_code
def yHt_init : MethodName := ⟨RHt, "<init>", "()V"⟩
abbrev cTb_init : ByteArray := prog_7_method_1_code
def yTb_init : MethodName := ⟨RTb, "<init>", "()V"⟩
abbrev cWy_init : ByteArray := prog_8_method_1_code
def yWy_init : MethodName := ⟨RWy, "<init>", "()V"⟩
abbrev cDH_run : ByteArray := prog_1_method_7_code
def yDH_run : MethodName := ⟨RDH, "run", "()I"⟩
abbrev cDH_findPlaces : ByteArray := prog_1_method_18_code
def yDH_findPlaces : MethodName := ⟨RDH, "findPlaces", "()V"⟩
abbrev cPl_find : ByteArray := prog_6_method_2_code
def yPl_find : MethodName := ⟨RPl, "find", "(ILDrillHeads$Part;LDrillHeads$Head;LDrillHeads$Clamps;)V"⟩
abbrev cCl_bar : ByteArray := prog_2_method_3_code
def yCl_bar : MethodName := ⟨RCl, "bar", "(LDrillHeads$Head;II)Z"⟩
abbrev cCl_overlap : ByteArray := prog_2_method_4_code
def yCl_overlap : MethodName := ⟨RCl, "overlap", "(IIII)Z"⟩
abbrev cPl_insert : ByteArray := prog_6_method_4_code
def yPl_insert : MethodName := ⟨RPl, "insert", "(II)V"⟩
abbrev cPl_findDrilled : ByteArray := prog_6_method_3_code
def yPl_findDrilled : MethodName := ⟨RPl, "findDrilled", "(ILDrillHeads$Part;LDrillHeads$Head;)V"⟩
abbrev cPt_alike : ByteArray := prog_5_method_3_code
def yPt_alike : MethodName := ⟨RPt, "alike", "(II)Z"⟩
abbrev cPt_spindleFor : ByteArray := prog_5_method_4_code
def yPt_spindleFor : MethodName := ⟨RPt, "spindleFor", "(ILDrillHeads$Head;II)I"⟩
abbrev cHd_spindleAt : ByteArray := prog_3_method_4_code
def yHd_spindleAt : MethodName := ⟨RHd, "spindleAt", "(III)I"⟩
abbrev cDH_planHits : ByteArray := prog_1_method_19_code
def yDH_planHits : MethodName := ⟨RDH, "planHits", "()V"⟩
abbrev cTb_fill : ByteArray := prog_7_method_2_code
def yTb_fill : MethodName := ⟨RTb, "fill", "([LDrillHeads$Places;II)V"⟩
abbrev cTb_markReached : ByteArray := prog_7_method_4_code
def yTb_markReached : MethodName := ⟨RTb, "markReached", "([LDrillHeads$Places;I)V"⟩
abbrev cDH_leastOf : ByteArray := prog_1_method_28_code
def yDH_leastOf : MethodName := ⟨RDH, "leastOf", "(I)I"⟩
abbrev cIn_numberOfTrailingZeros : ByteArray := prog_15_method_48_code
def yIn_numberOfTrailingZeros : MethodName := ⟨RIn, "numberOfTrailingZeros", "(I)I"⟩
abbrev cTb_fewestAfterHit : ByteArray := prog_7_method_5_code
def yTb_fewestAfterHit : MethodName := ⟨RTb, "fewestAfterHit", "(LDrillHeads$Places;I)I"⟩
abbrev cTb_firstBest : ByteArray := prog_7_method_3_code
def yTb_firstBest : MethodName := ⟨RTb, "firstBest", "(LDrillHeads$Places;I)I"⟩
abbrev cHt_add : ByteArray := prog_4_method_2_code
def yHt_add : MethodName := ⟨RHt, "add", "(IIII)V"⟩
abbrev cWy_find : ByteArray := prog_8_method_2_code
def yWy_find : MethodName := ⟨RWy, "find", "(LDrillHeads$Hits;)V"⟩
abbrev cWy_fillShortest : ByteArray := prog_8_method_3_code
def yWy_fillShortest : MethodName := ⟨RWy, "fillShortest", "(LDrillHeads$Hits;)V"⟩
abbrev cDH_holds : ByteArray := prog_1_method_26_code
def yDH_holds : MethodName := ⟨RDH, "holds", "(II)Z"⟩
abbrev cWy_nextHit : ByteArray := prog_8_method_7_code
def yWy_nextHit : MethodName := ⟨RWy, "nextHit", "(LDrillHeads$Hits;III)I"⟩
abbrev cWy_wayOver : ByteArray := prog_8_method_8_code
def yWy_wayOver : MethodName := ⟨RWy, "wayOver", "(LDrillHeads$Hits;IIII)I"⟩
abbrev cWy_distance : ByteArray := prog_8_method_9_code
def yWy_distance : MethodName := ⟨RWy, "distance", "(LDrillHeads$Hits;III)I"⟩
abbrev cDH_without : ByteArray := prog_1_method_27_code
def yDH_without : MethodName := ⟨RDH, "without", "(II)I"⟩
abbrev cWy_takeShortest : ByteArray := prog_8_method_4_code
def yWy_takeShortest : MethodName := ⟨RWy, "takeShortest", "(LDrillHeads$Hits;)V"⟩
abbrev cWy_takeOwnOrder : ByteArray := prog_8_method_5_code
def yWy_takeOwnOrder : MethodName := ⟨RWy, "takeOwnOrder", "(LDrillHeads$Hits;)V"⟩
abbrev cWy_measure : ByteArray := prog_8_method_6_code
def yWy_measure : MethodName := ⟨RWy, "measure", "(LDrillHeads$Hits;)V"⟩
abbrev cLw_cell : ByteArray := method_2_code
def yLw_cell : MethodName := ⟨RLw, "cell", "([II)I"⟩
abbrev cLw_spindle : ByteArray := method_3_code
def yLw_spindle : MethodName := ⟨RLw, "spindle", "(LDrillHeads;IIII[J)I"⟩
abbrev cDH_spindle : ByteArray := prog_1_method_2_code
def yDH_spindle : MethodName := ⟨RDH, "spindle", "(IIII)Z"⟩
abbrev cDH_requirePlace : ByteArray := prog_1_method_23_code
def yDH_requirePlace : MethodName := ⟨RDH, "requirePlace", "(II)V"⟩
abbrev cDH_requireWithin : ByteArray := prog_1_method_24_code
def yDH_requireWithin : MethodName := ⟨RDH, "requireWithin", "(III)V"⟩
abbrev cHd_change : ByteArray := prog_3_method_2_code
def yHd_change : MethodName := ⟨RHd, "change", "(IIII)Z"⟩
abbrev cHd_measureFrame : ByteArray := prog_3_method_5_code
def yHd_measureFrame : MethodName := ⟨RHd, "measureFrame", "()V"⟩
abbrev cLw_hole : ByteArray := method_4_code
def yLw_hole : MethodName := ⟨RLw, "hole", "(LDrillHeads;IIIII[J)I"⟩
abbrev cDH_hole : ByteArray := prog_1_method_3_code
def yDH_hole : MethodName := ⟨RDH, "hole", "(IIIII)I"⟩
abbrev cPt_add : ByteArray := prog_5_method_2_code
def yPt_add : MethodName := ⟨RPt, "add", "(IIIII)I"⟩
abbrev cLw_through : ByteArray := method_5_code
def yLw_through : MethodName := ⟨RLw, "through", "(LDrillHeads;IZ[J)I"⟩
abbrev cDH_through : ByteArray := prog_1_method_4_code
def yDH_through : MethodName := ⟨RDH, "through", "(IZ)Z"⟩
abbrev cDH_requireHole : ByteArray := prog_1_method_21_code
def yDH_requireHole : MethodName := ⟨RDH, "requireHole", "(I)V"⟩
abbrev cLw_clamp : ByteArray := method_6_code
def yLw_clamp : MethodName := ⟨RLw, "clamp", "(LDrillHeads;IIII[J)I"⟩
abbrev cDH_clamp : ByteArray := prog_1_method_5_code
def yDH_clamp : MethodName := ⟨RDH, "clamp", "(IIII)Z"⟩
abbrev cCl_add : ByteArray := prog_2_method_2_code
def yCl_add : MethodName := ⟨RCl, "add", "(IIII)V"⟩
abbrev cLw_mirror : ByteArray := method_7_code
def yLw_mirror : MethodName := ⟨RLw, "mirror", "(LDrillHeads;I[J)I"⟩
abbrev cDH_mirror : ByteArray := prog_1_method_6_code
def yDH_mirror : MethodName := ⟨RDH, "mirror", "(I)I"⟩
abbrev cDH_negate : ByteArray := prog_1_method_25_code
def yDH_negate : MethodName := ⟨RDH, "negate", "([II)V"⟩
abbrev cLw_hit : ByteArray := method_8_code
def yLw_hit : MethodName := ⟨RLw, "hit", "(LDrillHeads;II[J)I"⟩
abbrev cDH_hit : ByteArray := prog_1_method_8_code
def yDH_hit : MethodName := ⟨RDH, "hit", "(II)I"⟩
abbrev cDH_requirePlanned : ByteArray := prog_1_method_20_code
def yDH_requirePlanned : MethodName := ⟨RDH, "requirePlanned", "()V"⟩
abbrev cDH_requireHit : ByteArray := prog_1_method_22_code
def yDH_requireHit : MethodName := ⟨RDH, "requireHit", "(I)V"⟩
abbrev cLw_drills : ByteArray := method_9_code
def yLw_drills : MethodName := ⟨RLw, "drills", "(LDrillHeads;II[J)I"⟩
abbrev cDH_drills : ByteArray := prog_1_method_9_code
def yDH_drills : MethodName := ⟨RDH, "drills", "(II)Z"⟩
abbrev cLw_by : ByteArray := method_10_code
def yLw_by : MethodName := ⟨RLw, "by", "(LDrillHeads;I[J)I"⟩
abbrev cDH_by : ByteArray := prog_1_method_10_code
def yDH_by : MethodName := ⟨RDH, "by", "(I)I"⟩
abbrev cHt_drilling : ByteArray := prog_4_method_3_code
def yHt_drilling : MethodName := ⟨RHt, "drilling", "(I)I"⟩
abbrev cLw_single : ByteArray := method_11_code
def yLw_single : MethodName := ⟨RLw, "single", "(LDrillHeads;I[J)I"⟩
abbrev cDH_single : ByteArray := prog_1_method_11_code
def yDH_single : MethodName := ⟨RDH, "single", "(I)Z"⟩
abbrev cLw_order : ByteArray := method_12_code
def yLw_order : MethodName := ⟨RLw, "order", "(LDrillHeads;I[J)I"⟩
abbrev cDH_order : ByteArray := prog_1_method_12_code
def yDH_order : MethodName := ⟨RDH, "order", "(I)I"⟩
abbrev cLw_travel : ByteArray := method_13_code
def yLw_travel : MethodName := ⟨RLw, "travel", "(LDrillHeads;[J)I"⟩
abbrev cDH_travel : ByteArray := prog_1_method_13_code
def yDH_travel : MethodName := ⟨RDH, "travel", "()J"⟩
abbrev cLw_least : ByteArray := method_14_code
def yLw_least : MethodName := ⟨RLw, "least", "(LDrillHeads;[J)I"⟩
abbrev cDH_least : ByteArray := prog_1_method_14_code
def yDH_least : MethodName := ⟨RDH, "least", "()Z"⟩
abbrev cLw_bound : ByteArray := method_15_code
def yLw_bound : MethodName := ⟨RLw, "bound", "(LDrillHeads;[J)I"⟩
abbrev cDH_bound : ByteArray := prog_1_method_15_code
def yDH_bound : MethodName := ⟨RDH, "bound", "()I"⟩
abbrev cHd_countThere : ByteArray := prog_3_method_3_code
def yHd_countThere : MethodName := ⟨RHd, "countThere", "()I"⟩
abbrev cIn_bitCount : ByteArray := prog_15_method_49_code
def yIn_bitCount : MethodName := ⟨RIn, "bitCount", "(I)I"⟩
abbrev cLw_places : ByteArray := method_16_code
def yLw_places : MethodName := ⟨RLw, "places", "(LDrillHeads;I[J)I"⟩
abbrev cDH_places : ByteArray := prog_1_method_16_code
def yDH_places : MethodName := ⟨RDH, "places", "(I)I"⟩
abbrev cLw_seconds : ByteArray := method_17_code
def yLw_seconds : MethodName := ⟨RLw, "seconds", "(LDrillHeads;[J)I"⟩
abbrev cDH_seconds : ByteArray := prog_1_method_17_code
def yDH_seconds : MethodName := ⟨RDH, "seconds", "()J"⟩
abbrev cMo_init : ByteArray := prog_10_method_1_code
def yMo_init : MethodName := ⟨RMo, "<init>", "(I)V"⟩
abbrev cMo_thrown : ByteArray := prog_10_method_2_code
def yMo_thrown : MethodName := ⟨RMo, "thrown", "()I"⟩
abbrev cMo_spindle : ByteArray := prog_10_method_4_code
def yMo_spindle : MethodName := ⟨RMo, "spindle", "(IIII)Z"⟩
abbrev cMo_isIn : ByteArray := prog_10_method_3_code
def yMo_isIn : MethodName := ⟨RMo, "isIn", "(III)Z"⟩
abbrev cMo_hole : ByteArray := prog_10_method_5_code
def yMo_hole : MethodName := ⟨RMo, "hole", "(IIIII)I"⟩
abbrev cMo_through : ByteArray := prog_10_method_7_code
def yMo_through : MethodName := ⟨RMo, "through", "(IZ)Z"⟩
abbrev cMo_noHole : ByteArray := prog_10_method_6_code
def yMo_noHole : MethodName := ⟨RMo, "noHole", "(I)Z"⟩
abbrev cMo_clamp : ByteArray := prog_10_method_8_code
def yMo_clamp : MethodName := ⟨RMo, "clamp", "(IIII)Z"⟩
abbrev cMo_mirror : ByteArray := prog_10_method_9_code
def yMo_mirror : MethodName := ⟨RMo, "mirror", "(I)I"⟩
abbrev cMo_places : ByteArray := prog_10_method_15_code
def yMo_places : MethodName := ⟨RMo, "places", "(I)I"⟩
abbrev cMo_fillPlaces : ByteArray := prog_10_method_14_code
def yMo_fillPlaces : MethodName := ⟨RMo, "fillPlaces", "(I)V"⟩
abbrev cMo_isBarred : ByteArray := prog_10_method_10_code
def yMo_isBarred : MethodName := ⟨RMo, "isBarred", "(II)Z"⟩
abbrev cMo_drilledAt : ByteArray := prog_10_method_13_code
def yMo_drilledAt : MethodName := ⟨RMo, "drilledAt", "(III)I"⟩
abbrev cMo_areAlike : ByteArray := prog_10_method_12_code
def yMo_areAlike : MethodName := ⟨RMo, "areAlike", "(II)Z"⟩
abbrev cMo_spindleAt : ByteArray := prog_10_method_11_code
def yMo_spindleAt : MethodName := ⟨RMo, "spindleAt", "(III)I"⟩
abbrev cMo_run : ByteArray := prog_10_method_17_code
def yMo_run : MethodName := ⟨RMo, "run", "()I"⟩
abbrev cMo_lowest : ByteArray := prog_10_method_16_code
def yMo_lowest : MethodName := ⟨RMo, "lowest", "(I)I"⟩
abbrev cMo_findOrder : ByteArray := prog_10_method_20_code
def yMo_findOrder : MethodName := ⟨RMo, "findOrder", "()V"⟩
abbrev cMo_between : ByteArray := prog_10_method_19_code
def yMo_between : MethodName := ⟨RMo, "between", "(II)J"⟩
abbrev cMo_size : ByteArray := prog_10_method_18_code
def yMo_size : MethodName := ⟨RMo, "size", "(I)J"⟩
abbrev cMo_walkOrder : ByteArray := prog_10_method_21_code
def yMo_walkOrder : MethodName := ⟨RMo, "walkOrder", "()V"⟩
abbrev cMo_hit : ByteArray := prog_10_method_23_code
def yMo_hit : MethodName := ⟨RMo, "hit", "(II)I"⟩
abbrev cMo_none : ByteArray := prog_10_method_22_code
def yMo_none : MethodName := ⟨RMo, "none", "()Z"⟩
abbrev cMo_drills : ByteArray := prog_10_method_24_code
def yMo_drills : MethodName := ⟨RMo, "drills", "(II)Z"⟩
abbrev cMo_by : ByteArray := prog_10_method_26_code
def yMo_by : MethodName := ⟨RMo, "by", "(I)I"⟩
abbrev cMo_noHoleOf : ByteArray := prog_10_method_25_code
def yMo_noHoleOf : MethodName := ⟨RMo, "noHoleOf", "(I)Z"⟩
abbrev cMo_single : ByteArray := prog_10_method_27_code
def yMo_single : MethodName := ⟨RMo, "single", "(I)Z"⟩
abbrev cMo_order : ByteArray := prog_10_method_28_code
def yMo_order : MethodName := ⟨RMo, "order", "(I)I"⟩
abbrev cMo_travel : ByteArray := prog_10_method_29_code
def yMo_travel : MethodName := ⟨RMo, "travel", "()J"⟩
abbrev cMo_least : ByteArray := prog_10_method_30_code
def yMo_least : MethodName := ⟨RMo, "least", "()Z"⟩
abbrev cMo_bound : ByteArray := prog_10_method_32_code
def yMo_bound : MethodName := ⟨RMo, "bound", "()I"⟩
abbrev cMo_singleCount : ByteArray := prog_10_method_31_code
def yMo_singleCount : MethodName := ⟨RMo, "singleCount", "()I"⟩
abbrev cMo_seconds : ByteArray := prog_10_method_33_code
def yMo_seconds : MethodName := ⟨RMo, "seconds", "()J"⟩
abbrev cLw_law : ByteArray := code
def yLw_law : MethodName := ⟨RLw, "law", "([I)Z"⟩
/-- the words of the tables that stay true -/
def dq_G : List Cond := lw_tbl.filter goodWord
theorem dq_in1 (i : Nat) {w : Cond} (h0 : tables_1_1[i]? = some w) (hg : goodWord w = true) : w ∈ dq_G := by
  have h := List.mem_of_getElem? h0
  exact List.mem_filter.mpr ⟨List.mem_append_right _ (List.mem_append_left _ h), hg⟩
theorem dq_in2 (i : Nat) {w : Cond} (h0 : tables_1_2[i]? = some w) (hg : goodWord w = true) : w ∈ dq_G := by
  have h := List.mem_of_getElem? h0
  exact List.mem_filter.mpr ⟨List.mem_append_right _ (List.mem_append_right _ (List.mem_append_left _ h)), hg⟩
theorem dq_in3 (i : Nat) {w : Cond} (h0 : tables_1_3[i]? = some w) (hg : goodWord w = true) : w ∈ dq_G := by
  have h := List.mem_of_getElem? h0
  exact List.mem_filter.mpr ⟨List.mem_append_right _ (List.mem_append_right _ (List.mem_append_right _ (List.mem_append_left _ h))), hg⟩
theorem dq_in4 (i : Nat) {w : Cond} (h0 : tables_1_4[i]? = some w) (hg : goodWord w = true) : w ∈ dq_G := by
  have h := List.mem_of_getElem? h0
  exact List.mem_filter.mpr ⟨List.mem_append_right _ (List.mem_append_right _ (List.mem_append_right _ (List.mem_append_right _ h))), hg⟩
theorem dq_inp (i : Nat) {w : Cond} (h0 : (k2_sels lw_privs)[i]? = some w) (hg : goodWord w = true) : w ∈ dq_G := List.mem_filter.mpr ⟨List.mem_append_left _ (List.mem_of_getElem? h0), hg⟩
theorem dq_giS {big ws : List Cond} (hb : ∀ w ∈ dq_G, w ∈ big) (h : ∀ w ∈ ws, w ∈ dq_G) : GoodIn big ws := fun w hw => ⟨hb w (h w hw), good_of_word (List.mem_filter.mp (h w hw)).2⟩
theorem twp_0 : (Cond.selects RDH yDH_findPlaces yDH_findPlaces : Cond) ∈ dq_G := dq_inp 0 (by decide +kernel) rfl
theorem twp_1 : (Cond.selects RPl yPl_insert yPl_insert : Cond) ∈ dq_G := dq_inp 1 (by decide +kernel) rfl
theorem twp_2 : (Cond.selects RDH yDH_planHits yDH_planHits : Cond) ∈ dq_G := dq_inp 2 (by decide +kernel) rfl
theorem twp_3 : (Cond.selects RTb yTb_markReached yTb_markReached : Cond) ∈ dq_G := dq_inp 3 (by decide +kernel) rfl
theorem twp_4 : (Cond.selects RTb yTb_fewestAfterHit yTb_fewestAfterHit : Cond) ∈ dq_G := dq_inp 4 (by decide +kernel) rfl
theorem twp_5 : (Cond.selects RWy yWy_fillShortest yWy_fillShortest : Cond) ∈ dq_G := dq_inp 5 (by decide +kernel) rfl
theorem twp_6 : (Cond.selects RWy yWy_nextHit yWy_nextHit : Cond) ∈ dq_G := dq_inp 6 (by decide +kernel) rfl
theorem twp_7 : (Cond.selects RWy yWy_wayOver yWy_wayOver : Cond) ∈ dq_G := dq_inp 7 (by decide +kernel) rfl
theorem twp_8 : (Cond.selects RWy yWy_takeShortest yWy_takeShortest : Cond) ∈ dq_G := dq_inp 8 (by decide +kernel) rfl
theorem twp_9 : (Cond.selects RWy yWy_takeOwnOrder yWy_takeOwnOrder : Cond) ∈ dq_G := dq_inp 9 (by decide +kernel) rfl
theorem twp_10 : (Cond.selects RWy yWy_measure yWy_measure : Cond) ∈ dq_G := dq_inp 10 (by decide +kernel) rfl
theorem twp_11 : (Cond.selects "java/lang/Throwable" (⟨"java/lang/Throwable", "fillInStackTrace", "(I)Ljava/lang/Throwable;"⟩ : MethodName) (⟨"java/lang/Throwable", "fillInStackTrace", "(I)Ljava/lang/Throwable;"⟩ : MethodName) : Cond) ∈ dq_G := dq_inp 11 (by decide +kernel) rfl
theorem twp_12 : (Cond.selects RHd yHd_measureFrame yHd_measureFrame : Cond) ∈ dq_G := dq_inp 12 (by decide +kernel) rfl
theorem twp_13 : (Cond.selects RDH yDH_requireHole yDH_requireHole : Cond) ∈ dq_G := dq_inp 13 (by decide +kernel) rfl
theorem twp_14 : (Cond.selects RDH yDH_requirePlanned yDH_requirePlanned : Cond) ∈ dq_G := dq_inp 14 (by decide +kernel) rfl
theorem twp_15 : (Cond.selects RDH yDH_requireHit yDH_requireHit : Cond) ∈ dq_G := dq_inp 15 (by decide +kernel) rfl
theorem twp_16 : (Cond.selects RMo yMo_noHole yMo_noHole : Cond) ∈ dq_G := dq_inp 16 (by decide +kernel) rfl
theorem twp_17 : (Cond.selects RMo yMo_fillPlaces yMo_fillPlaces : Cond) ∈ dq_G := dq_inp 17 (by decide +kernel) rfl
theorem twp_18 : (Cond.selects RMo yMo_isBarred yMo_isBarred : Cond) ∈ dq_G := dq_inp 18 (by decide +kernel) rfl
theorem twp_19 : (Cond.selects RMo yMo_drilledAt yMo_drilledAt : Cond) ∈ dq_G := dq_inp 19 (by decide +kernel) rfl
theorem twp_20 : (Cond.selects RMo yMo_areAlike yMo_areAlike : Cond) ∈ dq_G := dq_inp 20 (by decide +kernel) rfl
theorem twp_21 : (Cond.selects RMo yMo_spindleAt yMo_spindleAt : Cond) ∈ dq_G := dq_inp 21 (by decide +kernel) rfl
theorem twp_22 : (Cond.selects RMo yMo_findOrder yMo_findOrder : Cond) ∈ dq_G := dq_inp 22 (by decide +kernel) rfl
theorem twp_23 : (Cond.selects RMo yMo_between yMo_between : Cond) ∈ dq_G := dq_inp 23 (by decide +kernel) rfl
theorem twp_24 : (Cond.selects RMo yMo_walkOrder yMo_walkOrder : Cond) ∈ dq_G := dq_inp 24 (by decide +kernel) rfl
theorem twp_25 : (Cond.selects RMo yMo_none yMo_none : Cond) ∈ dq_G := dq_inp 25 (by decide +kernel) rfl
theorem twp_26 : (Cond.selects RMo yMo_noHoleOf yMo_noHoleOf : Cond) ∈ dq_G := dq_inp 26 (by decide +kernel) rfl
theorem twp_27 : (Cond.selects RMo yMo_singleCount yMo_singleCount : Cond) ∈ dq_G := dq_inp 27 (by decide +kernel) rfl
theorem tw1_0 : (Cond.initialized RLw : Cond) ∈ dq_G := dq_in1 0 (by decide +kernel) rfl
theorem tw1_1 : (Cond.initialized RDH : Cond) ∈ dq_G := dq_in1 1 (by decide +kernel) rfl
theorem tw1_2 : (Cond.initialized RHd : Cond) ∈ dq_G := dq_in1 2 (by decide +kernel) rfl
theorem tw1_3 : (Cond.initialized "java/lang/Math" : Cond) ∈ dq_G := dq_in1 3 (by decide +kernel) rfl
theorem tw1_4 : (Cond.initialized RPt : Cond) ∈ dq_G := dq_in1 4 (by decide +kernel) rfl
theorem tw1_5 : (Cond.initialized RCl : Cond) ∈ dq_G := dq_in1 5 (by decide +kernel) rfl
theorem tw1_6 : (Cond.initialized RPl : Cond) ∈ dq_G := dq_in1 6 (by decide +kernel) rfl
theorem tw1_7 : (Cond.initialized RHt : Cond) ∈ dq_G := dq_in1 7 (by decide +kernel) rfl
theorem tw1_8 : (Cond.initialized RTb : Cond) ∈ dq_G := dq_in1 8 (by decide +kernel) rfl
theorem tw1_9 : (Cond.initialized RWy : Cond) ∈ dq_G := dq_in1 9 (by decide +kernel) rfl
theorem tw1_10 : (Cond.initialized RMo : Cond) ∈ dq_G := dq_in1 10 (by decide +kernel) rfl
theorem tw1_11 : (Cond.initialized "java/lang/Throwable" : Cond) ∈ dq_G := dq_in1 11 (by decide +kernel) rfl
theorem tw1_12 : (Cond.initialized "java/lang/Exception" : Cond) ∈ dq_G := dq_in1 12 (by decide +kernel) rfl
theorem tw1_13 : (Cond.initialized "java/lang/RuntimeException" : Cond) ∈ dq_G := dq_in1 13 (by decide +kernel) rfl
theorem tw1_14 : (Cond.initialized "java/lang/IndexOutOfBoundsException" : Cond) ∈ dq_G := dq_in1 14 (by decide +kernel) rfl
theorem tw1_15 : (Cond.initialized "java/lang/IllegalArgumentException" : Cond) ∈ dq_G := dq_in1 15 (by decide +kernel) rfl
theorem tw1_16 : (Cond.initialized "java/lang/IllegalStateException" : Cond) ∈ dq_G := dq_in1 16 (by decide +kernel) rfl
theorem tw1_17 : (Cond.initialized RIn : Cond) ∈ dq_G := dq_in1 17 (by decide +kernel) rfl
theorem tw1_18 : (Cond.classLink RLw 8 RDH : Cond) ∈ dq_G := dq_in1 18 (by decide +kernel) rfl
theorem tw1_19 : (Cond.instantiable RDH 9 : Cond) ∈ dq_G := dq_in1 19 (by decide +kernel) rfl
theorem tw1_20 : (Cond.methodLink RLw 76 yDH_init : Cond) ∈ dq_G := dq_in1 20 (by decide +kernel) rfl
theorem tw1_21 : (Cond.instanceMethod yDH_init : Cond) ∈ dq_G := dq_in1 21 (by decide +kernel) rfl
theorem tw1_22 : (Cond.code yDH_init cDH_init 3 none : Cond) ∈ dq_G := dq_in1 22 rfl rfl
theorem tw1_23 : (Cond.methodLink RDH 1 objectInit : Cond) ∈ dq_G := dq_in1 23 (by decide +kernel) rfl
theorem tw1_24 : (Cond.instanceMethod objectInit : Cond) ∈ dq_G := dq_in1 24 (by decide +kernel) rfl
theorem tw1_25 : (Cond.code objectInit ⟨#[0xb1]⟩ 1 none : Cond) ∈ dq_G := dq_in1 25 rfl rfl
theorem tw1_26 : (Cond.classLink RDH 7 RHd : Cond) ∈ dq_G := dq_in1 26 (by decide +kernel) rfl
theorem tw1_27 : (Cond.instantiable RHd 7 : Cond) ∈ dq_G := dq_in1 27 (by decide +kernel) rfl
theorem tw1_28 : (Cond.methodLink RDH 11 Lib.Math.min.name : Cond) ∈ dq_G := dq_in1 28 (by decide +kernel) rfl
theorem tw1_29 : (Cond.static Lib.Math.min.name : Cond) ∈ dq_G := dq_in1 29 (by decide +kernel) rfl
theorem tw1_30 : (Cond.code Lib.Math.min.name Lib.Math.min.code 2 (some .int) : Cond) ∈ dq_G := dq_in1 30 rfl rfl
theorem tw1_31 : (Cond.methodLink RDH 17 Lib.Math.max.name : Cond) ∈ dq_G := dq_in1 31 (by decide +kernel) rfl
theorem tw1_32 : (Cond.static Lib.Math.max.name : Cond) ∈ dq_G := dq_in1 32 (by decide +kernel) rfl
theorem tw1_33 : (Cond.code Lib.Math.max.name Lib.Math.max.code 2 (some .int) : Cond) ∈ dq_G := dq_in1 33 rfl rfl
theorem tw1_34 : (Cond.methodLink RDH 20 yHd_init : Cond) ∈ dq_G := dq_in1 34 (by decide +kernel) rfl
theorem tw1_35 : (Cond.instanceMethod yHd_init : Cond) ∈ dq_G := dq_in1 35 (by decide +kernel) rfl
theorem tw1_36 : (Cond.code yHd_init cHd_init 2 none : Cond) ∈ dq_G := dq_in1 36 rfl rfl
theorem tw1_37 : (Cond.methodLink RHd 3 objectInit : Cond) ∈ dq_G := dq_in1 37 (by decide +kernel) rfl
theorem tw1_38 : (Cond.fieldLink RHd 9 "DrillHeads$Head" "x" "[I" : Cond) ∈ dq_G := dq_in1 38 (by decide +kernel) rfl
theorem tw1_39 : (Cond.fieldLink RPl 34 "DrillHeads$Head" "x" "[I" : Cond) ∈ dq_G := dq_in1 39 (by decide +kernel) rfl
theorem tw1_40 : (Cond.fieldLink RHd 15 "DrillHeads$Head" "y" "[I" : Cond) ∈ dq_G := dq_in1 40 (by decide +kernel) rfl
theorem tw1_41 : (Cond.fieldLink RPl 36 "DrillHeads$Head" "y" "[I" : Cond) ∈ dq_G := dq_in1 41 (by decide +kernel) rfl
theorem tw1_42 : (Cond.fieldLink RHd 18 "DrillHeads$Head" "width" "[I" : Cond) ∈ dq_G := dq_in1 42 (by decide +kernel) rfl
theorem tw1_43 : (Cond.fieldLink RDH 69 "DrillHeads$Head" "width" "[I" : Cond) ∈ dq_G := dq_in1 43 (by decide +kernel) rfl
theorem tw1_44 : (Cond.fieldLink RPl 25 "DrillHeads$Head" "width" "[I" : Cond) ∈ dq_G := dq_in1 44 (by decide +kernel) rfl
theorem tw1_45 : (Cond.fieldLink RCl 28 "DrillHeads$Head" "frameX0" "I" : Cond) ∈ dq_G := dq_in1 45 (by decide +kernel) rfl
theorem tw1_46 : (Cond.fieldLink RHd 33 "DrillHeads$Head" "frameX0" "I" : Cond) ∈ dq_G := dq_in1 46 (by decide +kernel) rfl
theorem tw1_47 : (Cond.fieldLink RCl 40 "DrillHeads$Head" "frameY0" "I" : Cond) ∈ dq_G := dq_in1 47 (by decide +kernel) rfl
theorem tw1_48 : (Cond.fieldLink RHd 37 "DrillHeads$Head" "frameY0" "I" : Cond) ∈ dq_G := dq_in1 48 (by decide +kernel) rfl
theorem tw1_49 : (Cond.fieldLink RCl 33 "DrillHeads$Head" "frameX1" "I" : Cond) ∈ dq_G := dq_in1 49 (by decide +kernel) rfl
theorem tw1_50 : (Cond.fieldLink RHd 40 "DrillHeads$Head" "frameX1" "I" : Cond) ∈ dq_G := dq_in1 50 (by decide +kernel) rfl
theorem tw1_51 : (Cond.fieldLink RCl 43 "DrillHeads$Head" "frameY1" "I" : Cond) ∈ dq_G := dq_in1 51 (by decide +kernel) rfl
theorem tw1_52 : (Cond.fieldLink RHd 43 "DrillHeads$Head" "frameY1" "I" : Cond) ∈ dq_G := dq_in1 52 (by decide +kernel) rfl
theorem tw1_68 : (Cond.arrayClass .int : Cond) ∈ dq_G := dq_in1 68 (by decide +kernel) rfl
theorem tw1_69 : (Cond.classLink RDH 27 RPt : Cond) ∈ dq_G := dq_in1 69 (by decide +kernel) rfl
theorem tw1_70 : (Cond.instantiable RPt 7 : Cond) ∈ dq_G := dq_in1 70 (by decide +kernel) rfl
theorem tw1_72 : (Cond.instanceMethod yPt_init : Cond) ∈ dq_G := dq_in1 72 (by decide +kernel) rfl
theorem tw1_73 : (Cond.code yPt_init cPt_init 1 none : Cond) ∈ dq_G := dq_in1 73 rfl rfl
theorem tw1_74 : (Cond.methodLink RPt 3 objectInit : Cond) ∈ dq_G := dq_in1 74 (by decide +kernel) rfl
theorem tw1_75 : (Cond.fieldLink RPt 9 "DrillHeads$Part" "x" "[I" : Cond) ∈ dq_G := dq_in1 75 (by decide +kernel) rfl
theorem tw1_76 : (Cond.fieldLink RPl 33 "DrillHeads$Part" "x" "[I" : Cond) ∈ dq_G := dq_in1 76 (by decide +kernel) rfl
theorem tw1_77 : (Cond.fieldLink RDH 120 "DrillHeads$Part" "x" "[I" : Cond) ∈ dq_G := dq_in1 77 (by decide +kernel) rfl
theorem tw1_78 : (Cond.fieldLink RPt 15 "DrillHeads$Part" "y" "[I" : Cond) ∈ dq_G := dq_in1 78 (by decide +kernel) rfl
theorem tw1_79 : (Cond.fieldLink RPl 35 "DrillHeads$Part" "y" "[I" : Cond) ∈ dq_G := dq_in1 79 (by decide +kernel) rfl
theorem tw1_80 : (Cond.fieldLink RDH 123 "DrillHeads$Part" "y" "[I" : Cond) ∈ dq_G := dq_in1 80 (by decide +kernel) rfl
theorem tw1_81 : (Cond.fieldLink RPt 18 "DrillHeads$Part" "width" "[I" : Cond) ∈ dq_G := dq_in1 81 (by decide +kernel) rfl
theorem tw1_82 : (Cond.fieldLink RPl 30 "DrillHeads$Part" "width" "[I" : Cond) ∈ dq_G := dq_in1 82 (by decide +kernel) rfl
theorem tw1_83 : (Cond.fieldLink RPt 21 "DrillHeads$Part" "depth" "[I" : Cond) ∈ dq_G := dq_in1 83 (by decide +kernel) rfl
theorem tw1_84 : (Cond.fieldLink RPt 24 "DrillHeads$Part" "face" "[I" : Cond) ∈ dq_G := dq_in1 84 (by decide +kernel) rfl
theorem tw1_85 : (Cond.fieldLink RDH 214 "DrillHeads$Part" "face" "[I" : Cond) ∈ dq_G := dq_in1 85 (by decide +kernel) rfl
theorem tw1_86 : (Cond.fieldLink RPt 27 "DrillHeads$Part" "goesThrough" "[Z" : Cond) ∈ dq_G := dq_in1 86 (by decide +kernel) rfl
theorem tw1_87 : (Cond.fieldLink RDH 112 "DrillHeads$Part" "goesThrough" "[Z" : Cond) ∈ dq_G := dq_in1 87 (by decide +kernel) rfl
theorem tw1_88 : (Cond.fieldLink RPt 31 "DrillHeads$Part" "count" "I" : Cond) ∈ dq_G := dq_in1 88 (by decide +kernel) rfl
theorem tw1_89 : (Cond.fieldLink RDH 96 "DrillHeads$Part" "count" "I" : Cond) ∈ dq_G := dq_in1 89 (by decide +kernel) rfl
theorem tw1_90 : (Cond.fieldLink RPl 47 "DrillHeads$Part" "count" "I" : Cond) ∈ dq_G := dq_in1 90 (by decide +kernel) rfl
theorem tw1_106 : (Cond.arrayClass .boolean : Cond) ∈ dq_G := dq_in1 106 (by decide +kernel) rfl
theorem tw1_107 : (Cond.classLink RDH 34 RCl : Cond) ∈ dq_G := dq_in1 107 (by decide +kernel) rfl
theorem tw1_108 : (Cond.instantiable RCl 5 : Cond) ∈ dq_G := dq_in1 108 (by decide +kernel) rfl
theorem tw1_110 : (Cond.instanceMethod yCl_init : Cond) ∈ dq_G := dq_in1 110 (by decide +kernel) rfl
theorem tw1_111 : (Cond.code yCl_init cCl_init 1 none : Cond) ∈ dq_G := dq_in1 111 rfl rfl
theorem tw1_112 : (Cond.methodLink RCl 3 objectInit : Cond) ∈ dq_G := dq_in1 112 (by decide +kernel) rfl
theorem tw1_113 : (Cond.fieldLink RCl 9 "DrillHeads$Clamps" "x0" "[I" : Cond) ∈ dq_G := dq_in1 113 (by decide +kernel) rfl
theorem tw1_114 : (Cond.fieldLink RCl 15 "DrillHeads$Clamps" "y0" "[I" : Cond) ∈ dq_G := dq_in1 114 (by decide +kernel) rfl
theorem tw1_115 : (Cond.fieldLink RCl 18 "DrillHeads$Clamps" "x1" "[I" : Cond) ∈ dq_G := dq_in1 115 (by decide +kernel) rfl
theorem tw1_116 : (Cond.fieldLink RCl 21 "DrillHeads$Clamps" "y1" "[I" : Cond) ∈ dq_G := dq_in1 116 (by decide +kernel) rfl
theorem tw1_117 : (Cond.fieldLink RCl 24 "DrillHeads$Clamps" "count" "I" : Cond) ∈ dq_G := dq_in1 117 (by decide +kernel) rfl
theorem tw1_118 : (Cond.fieldLink RDH 116 "DrillHeads$Clamps" "count" "I" : Cond) ∈ dq_G := dq_in1 118 (by decide +kernel) rfl
theorem tw1_130 : (Cond.classLink RDH 41 RPl : Cond) ∈ dq_G := dq_in1 130 (by decide +kernel) rfl
theorem tw1_132 : (Cond.instantiable RPl 4 : Cond) ∈ dq_G := dq_in1 132 (by decide +kernel) rfl
theorem tw1_134 : (Cond.instanceMethod yPl_init : Cond) ∈ dq_G := dq_in1 134 (by decide +kernel) rfl
theorem tw1_135 : (Cond.code yPl_init cPl_init 1 none : Cond) ∈ dq_G := dq_in1 135 rfl rfl
theorem tw1_136 : (Cond.methodLink RPl 3 objectInit : Cond) ∈ dq_G := dq_in1 136 (by decide +kernel) rfl
theorem tw1_137 : (Cond.fieldLink RPl 9 "DrillHeads$Places" "x" "[I" : Cond) ∈ dq_G := dq_in1 137 (by decide +kernel) rfl
theorem tw1_138 : (Cond.fieldLink RDH 212 "DrillHeads$Places" "x" "[I" : Cond) ∈ dq_G := dq_in1 138 (by decide +kernel) rfl
theorem tw1_139 : (Cond.fieldLink RPl 15 "DrillHeads$Places" "y" "[I" : Cond) ∈ dq_G := dq_in1 139 (by decide +kernel) rfl
theorem tw1_140 : (Cond.fieldLink RDH 213 "DrillHeads$Places" "y" "[I" : Cond) ∈ dq_G := dq_in1 140 (by decide +kernel) rfl
theorem tw1_141 : (Cond.fieldLink RPl 18 "DrillHeads$Places" "drilled" "[I" : Cond) ∈ dq_G := dq_in1 141 (by decide +kernel) rfl
theorem tw1_142 : (Cond.fieldLink RTb 33 "DrillHeads$Places" "drilled" "[I" : Cond) ∈ dq_G := dq_in1 142 (by decide +kernel) rfl
theorem tw1_143 : (Cond.fieldLink RDH 215 "DrillHeads$Places" "drilled" "[I" : Cond) ∈ dq_G := dq_in1 143 (by decide +kernel) rfl
theorem tw1_144 : (Cond.fieldLink RPl 21 "DrillHeads$Places" "count" "I" : Cond) ∈ dq_G := dq_in1 144 (by decide +kernel) rfl
theorem tw1_145 : (Cond.fieldLink RTb 27 "DrillHeads$Places" "count" "I" : Cond) ∈ dq_G := dq_in1 145 (by decide +kernel) rfl
theorem tw1_146 : (Cond.fieldLink RDH 194 "DrillHeads$Places" "count" "I" : Cond) ∈ dq_G := dq_in1 146 (by decide +kernel) rfl
theorem tw1_156 : (Cond.classLink RDH 48 RHt : Cond) ∈ dq_G := dq_in1 156 (by decide +kernel) rfl
theorem tw1_157 : (Cond.instantiable RHt 5 : Cond) ∈ dq_G := dq_in1 157 (by decide +kernel) rfl
theorem tw1_159 : (Cond.instanceMethod yHt_init : Cond) ∈ dq_G := dq_in1 159 (by decide +kernel) rfl
theorem tw1_160 : (Cond.code yHt_init cHt_init 1 none : Cond) ∈ dq_G := dq_in1 160 rfl rfl
theorem tw1_161 : (Cond.methodLink RHt 3 objectInit : Cond) ∈ dq_G := dq_in1 161 (by decide +kernel) rfl
theorem tw1_162 : (Cond.fieldLink RHt 9 "DrillHeads$Hits" "x" "[I" : Cond) ∈ dq_G := dq_in1 162 (by decide +kernel) rfl
theorem tw1_163 : (Cond.fieldLink RWy 41 "DrillHeads$Hits" "x" "[I" : Cond) ∈ dq_G := dq_in1 163 (by decide +kernel) rfl
theorem tw1_164 : (Cond.fieldLink RDH 147 "DrillHeads$Hits" "x" "[I" : Cond) ∈ dq_G := dq_in1 164 (by decide +kernel) rfl
theorem tw1_165 : (Cond.fieldLink RHt 15 "DrillHeads$Hits" "y" "[I" : Cond) ∈ dq_G := dq_in1 165 (by decide +kernel) rfl
theorem tw1_166 : (Cond.fieldLink RWy 44 "DrillHeads$Hits" "y" "[I" : Cond) ∈ dq_G := dq_in1 166 (by decide +kernel) rfl
theorem tw1_167 : (Cond.fieldLink RDH 148 "DrillHeads$Hits" "y" "[I" : Cond) ∈ dq_G := dq_in1 167 (by decide +kernel) rfl
theorem tw1_168 : (Cond.fieldLink RHt 18 "DrillHeads$Hits" "face" "[I" : Cond) ∈ dq_G := dq_in1 168 (by decide +kernel) rfl
theorem tw1_169 : (Cond.fieldLink RDH 149 "DrillHeads$Hits" "face" "[I" : Cond) ∈ dq_G := dq_in1 169 (by decide +kernel) rfl
theorem tw1_170 : (Cond.fieldLink RHt 21 "DrillHeads$Hits" "holes" "[I" : Cond) ∈ dq_G := dq_in1 170 (by decide +kernel) rfl
theorem tw1_171 : (Cond.fieldLink RDH 152 "DrillHeads$Hits" "holes" "[I" : Cond) ∈ dq_G := dq_in1 171 (by decide +kernel) rfl
theorem tw1_172 : (Cond.fieldLink RHt 24 "DrillHeads$Hits" "count" "I" : Cond) ∈ dq_G := dq_in1 172 (by decide +kernel) rfl
theorem tw1_173 : (Cond.fieldLink RWy 18 "DrillHeads$Hits" "count" "I" : Cond) ∈ dq_G := dq_in1 173 (by decide +kernel) rfl
theorem tw1_174 : (Cond.fieldLink RDH 140 "DrillHeads$Hits" "count" "I" : Cond) ∈ dq_G := dq_in1 174 (by decide +kernel) rfl
theorem tw1_186 : (Cond.classLink RDH 55 RTb : Cond) ∈ dq_G := dq_in1 186 (by decide +kernel) rfl
theorem tw1_187 : (Cond.instantiable RTb 1 : Cond) ∈ dq_G := dq_in1 187 (by decide +kernel) rfl
theorem tw1_189 : (Cond.instanceMethod yTb_init : Cond) ∈ dq_G := dq_in1 189 (by decide +kernel) rfl
theorem tw1_190 : (Cond.code yTb_init cTb_init 1 none : Cond) ∈ dq_G := dq_in1 190 rfl rfl
theorem tw1_191 : (Cond.methodLink RTb 3 objectInit : Cond) ∈ dq_G := dq_in1 191 (by decide +kernel) rfl
theorem tw1_192 : (Cond.fieldLink RTb 9 "DrillHeads$Table" "fewest" "[I" : Cond) ∈ dq_G := dq_in1 192 (by decide +kernel) rfl
theorem tw1_196 : (Cond.classLink RDH 62 RWy : Cond) ∈ dq_G := dq_in1 196 (by decide +kernel) rfl
theorem tw1_197 : (Cond.instantiable RWy 3 : Cond) ∈ dq_G := dq_in1 197 (by decide +kernel) rfl
theorem tw1_199 : (Cond.instanceMethod yWy_init : Cond) ∈ dq_G := dq_in1 199 (by decide +kernel) rfl
theorem tw1_200 : (Cond.code yWy_init cWy_init 1 none : Cond) ∈ dq_G := dq_in1 200 rfl rfl
theorem tw1_201 : (Cond.methodLink RWy 3 objectInit : Cond) ∈ dq_G := dq_in1 201 (by decide +kernel) rfl
theorem tw1_202 : (Cond.fieldLink RWy 9 "DrillHeads$Way" "sequence" "[I" : Cond) ∈ dq_G := dq_in1 202 (by decide +kernel) rfl
theorem tw1_203 : (Cond.fieldLink RDH 175 "DrillHeads$Way" "sequence" "[I" : Cond) ∈ dq_G := dq_in1 203 (by decide +kernel) rfl
theorem tw1_204 : (Cond.fieldLink RWy 59 "DrillHeads$Way" "length" "J" : Cond) ∈ dq_G := dq_in1 204 (by decide +kernel) rfl
theorem tw1_205 : (Cond.fieldLink RDH 178 "DrillHeads$Way" "length" "J" : Cond) ∈ dq_G := dq_in1 205 (by decide +kernel) rfl
theorem tw1_206 : (Cond.fieldLink RWy 15 "DrillHeads$Way" "shortest" "[I" : Cond) ∈ dq_G := dq_in1 206 (by decide +kernel) rfl
theorem tw1_214 : (Cond.fieldLink RDH 23 "DrillHeads" "head" "LDrillHeads$Head;" : Cond) ∈ dq_G := dq_in1 214 (by decide +kernel) rfl
theorem tw1_215 : (Cond.fieldLink RDH 30 "DrillHeads" "part" "LDrillHeads$Part;" : Cond) ∈ dq_G := dq_in1 215 (by decide +kernel) rfl
theorem tw1_216 : (Cond.fieldLink RDH 37 "DrillHeads" "clamps" "LDrillHeads$Clamps;" : Cond) ∈ dq_G := dq_in1 216 (by decide +kernel) rfl
theorem tw1_217 : (Cond.fieldLink RDH 43 "DrillHeads" "placesOfHole" "[LDrillHeads$Places;" : Cond) ∈ dq_G := dq_in1 217 (by decide +kernel) rfl
theorem tw1_218 : (Cond.fieldLink RDH 51 "DrillHeads" "hits" "LDrillHeads$Hits;" : Cond) ∈ dq_G := dq_in1 218 (by decide +kernel) rfl
theorem tw1_219 : (Cond.fieldLink RDH 58 "DrillHeads" "table" "LDrillHeads$Table;" : Cond) ∈ dq_G := dq_in1 219 (by decide +kernel) rfl
theorem tw1_220 : (Cond.fieldLink RDH 65 "DrillHeads" "way" "LDrillHeads$Way;" : Cond) ∈ dq_G := dq_in1 220 (by decide +kernel) rfl
theorem tw1_221 : (Cond.fieldLink RDH 172 "DrillHeads" "singleHoles" "I" : Cond) ∈ dq_G := dq_in1 221 (by decide +kernel) rfl
theorem tw1_222 : (Cond.fieldLink RDH 92 "DrillHeads" "planned" "Z" : Cond) ∈ dq_G := dq_in1 222 (by decide +kernel) rfl
theorem tw2_2 : (Cond.methodLink RLw 104 yDH_run : Cond) ∈ dq_G := dq_in2 2 (by decide +kernel) rfl
theorem tw2_3 : (Cond.instanceMethod yDH_run : Cond) ∈ dq_G := dq_in2 3 (by decide +kernel) rfl
theorem tw2_4 : (Cond.selects RDH yDH_run yDH_run : Cond) ∈ dq_G := dq_in2 4 (by decide +kernel) rfl
theorem tw2_5 : (Cond.code yDH_run cDH_run 1 (some .int) : Cond) ∈ dq_G := dq_in2 5 rfl rfl
theorem tw2_6 : (Cond.methodLink RDH 130 yDH_findPlaces : Cond) ∈ dq_G := dq_in2 6 (by decide +kernel) rfl
theorem tw2_8 : (Cond.instanceMethod yDH_findPlaces : Cond) ∈ dq_G := dq_in2 8 (by decide +kernel) rfl
theorem tw2_9 : (Cond.code yDH_findPlaces cDH_findPlaces 2 none : Cond) ∈ dq_G := dq_in2 9 rfl rfl
theorem tw2_10 : (Cond.methodLink RDH 191 yPl_find : Cond) ∈ dq_G := dq_in2 10 (by decide +kernel) rfl
theorem tw2_11 : (Cond.instanceMethod yPl_find : Cond) ∈ dq_G := dq_in2 11 (by decide +kernel) rfl
theorem tw2_12 : (Cond.selects RPl yPl_find yPl_find : Cond) ∈ dq_G := dq_in2 12 (by decide +kernel) rfl
theorem tw2_13 : (Cond.code yPl_find cPl_find 8 none : Cond) ∈ dq_G := dq_in2 13 rfl rfl
theorem tw2_14 : (Cond.methodLink RPl 37 yCl_bar : Cond) ∈ dq_G := dq_in2 14 (by decide +kernel) rfl
theorem tw2_15 : (Cond.instanceMethod yCl_bar : Cond) ∈ dq_G := dq_in2 15 (by decide +kernel) rfl
theorem tw2_16 : (Cond.selects RCl yCl_bar yCl_bar : Cond) ∈ dq_G := dq_in2 16 (by decide +kernel) rfl
theorem tw2_17 : (Cond.code yCl_bar cCl_bar 5 (some .boolean) : Cond) ∈ dq_G := dq_in2 17 rfl rfl
theorem tw2_18 : (Cond.methodLink RCl 36 yCl_overlap : Cond) ∈ dq_G := dq_in2 18 (by decide +kernel) rfl
theorem tw2_19 : (Cond.static yCl_overlap : Cond) ∈ dq_G := dq_in2 19 (by decide +kernel) rfl
theorem tw2_20 : (Cond.code yCl_overlap cCl_overlap 4 (some .boolean) : Cond) ∈ dq_G := dq_in2 20 rfl rfl
theorem tw2_21 : (Cond.methodLink RCl 46 Lib.Math.max.name : Cond) ∈ dq_G := dq_in2 21 (by decide +kernel) rfl
theorem tw2_22 : (Cond.methodLink RCl 52 Lib.Math.min.name : Cond) ∈ dq_G := dq_in2 22 (by decide +kernel) rfl
theorem tw2_23 : (Cond.methodLink RPl 43 yPl_insert : Cond) ∈ dq_G := dq_in2 23 (by decide +kernel) rfl
theorem tw2_25 : (Cond.instanceMethod yPl_insert : Cond) ∈ dq_G := dq_in2 25 (by decide +kernel) rfl
theorem tw2_26 : (Cond.code yPl_insert cPl_insert 6 none : Cond) ∈ dq_G := dq_in2 26 rfl rfl
theorem tw2_27 : (Cond.methodLink RDH 197 yPl_findDrilled : Cond) ∈ dq_G := dq_in2 27 (by decide +kernel) rfl
theorem tw2_28 : (Cond.instanceMethod yPl_findDrilled : Cond) ∈ dq_G := dq_in2 28 (by decide +kernel) rfl
theorem tw2_29 : (Cond.selects RPl yPl_findDrilled yPl_findDrilled : Cond) ∈ dq_G := dq_in2 29 (by decide +kernel) rfl
theorem tw2_30 : (Cond.code yPl_findDrilled cPl_findDrilled 6 none : Cond) ∈ dq_G := dq_in2 30 rfl rfl
theorem tw2_31 : (Cond.methodLink RPl 48 yPt_alike : Cond) ∈ dq_G := dq_in2 31 (by decide +kernel) rfl
theorem tw2_32 : (Cond.instanceMethod yPt_alike : Cond) ∈ dq_G := dq_in2 32 (by decide +kernel) rfl
theorem tw2_33 : (Cond.selects RPt yPt_alike yPt_alike : Cond) ∈ dq_G := dq_in2 33 (by decide +kernel) rfl
theorem tw2_34 : (Cond.code yPt_alike cPt_alike 3 (some .boolean) : Cond) ∈ dq_G := dq_in2 34 rfl rfl
theorem tw2_35 : (Cond.methodLink RPl 52 yPt_spindleFor : Cond) ∈ dq_G := dq_in2 35 (by decide +kernel) rfl
theorem tw2_36 : (Cond.instanceMethod yPt_spindleFor : Cond) ∈ dq_G := dq_in2 36 (by decide +kernel) rfl
theorem tw2_37 : (Cond.selects RPt yPt_spindleFor yPt_spindleFor : Cond) ∈ dq_G := dq_in2 37 (by decide +kernel) rfl
theorem tw2_38 : (Cond.code yPt_spindleFor cPt_spindleFor 5 (some .int) : Cond) ∈ dq_G := dq_in2 38 rfl rfl
theorem tw2_39 : (Cond.methodLink RPt 35 yHd_spindleAt : Cond) ∈ dq_G := dq_in2 39 (by decide +kernel) rfl
theorem tw2_40 : (Cond.instanceMethod yHd_spindleAt : Cond) ∈ dq_G := dq_in2 40 (by decide +kernel) rfl
theorem tw2_41 : (Cond.selects RHd yHd_spindleAt yHd_spindleAt : Cond) ∈ dq_G := dq_in2 41 (by decide +kernel) rfl
theorem tw2_42 : (Cond.code yHd_spindleAt cHd_spindleAt 5 (some .int) : Cond) ∈ dq_G := dq_in2 42 rfl rfl
theorem tw2_43 : (Cond.methodLink RDH 133 yDH_planHits : Cond) ∈ dq_G := dq_in2 43 (by decide +kernel) rfl
theorem tw2_45 : (Cond.instanceMethod yDH_planHits : Cond) ∈ dq_G := dq_in2 45 (by decide +kernel) rfl
theorem tw2_46 : (Cond.code yDH_planHits cDH_planHits 7 none : Cond) ∈ dq_G := dq_in2 46 rfl rfl
theorem tw2_47 : (Cond.methodLink RDH 201 yTb_fill : Cond) ∈ dq_G := dq_in2 47 (by decide +kernel) rfl
theorem tw2_48 : (Cond.instanceMethod yTb_fill : Cond) ∈ dq_G := dq_in2 48 (by decide +kernel) rfl
theorem tw2_49 : (Cond.selects RTb yTb_fill yTb_fill : Cond) ∈ dq_G := dq_in2 49 (by decide +kernel) rfl
theorem tw2_50 : (Cond.code yTb_fill cTb_fill 5 none : Cond) ∈ dq_G := dq_in2 50 rfl rfl
theorem tw2_51 : (Cond.methodLink RTb 15 yTb_markReached : Cond) ∈ dq_G := dq_in2 51 (by decide +kernel) rfl
theorem tw2_53 : (Cond.instanceMethod yTb_markReached : Cond) ∈ dq_G := dq_in2 53 (by decide +kernel) rfl
theorem tw2_54 : (Cond.code yTb_markReached cTb_markReached 6 none : Cond) ∈ dq_G := dq_in2 54 rfl rfl
theorem tw2_56 : (Cond.static yDH_leastOf : Cond) ∈ dq_G := dq_in2 56 (by decide +kernel) rfl
theorem tw2_57 : (Cond.code yDH_leastOf cDH_leastOf 1 (some .int) : Cond) ∈ dq_G := dq_in2 57 rfl rfl
theorem tw2_58 : (Cond.methodLink RDH 227 yIn_numberOfTrailingZeros : Cond) ∈ dq_G := dq_in2 58 (by decide +kernel) rfl
theorem tw2_59 : (Cond.static yIn_numberOfTrailingZeros : Cond) ∈ dq_G := dq_in2 59 (by decide +kernel) rfl
theorem tw2_60 : (Cond.code yIn_numberOfTrailingZeros cIn_numberOfTrailingZeros 2 (some .int) : Cond) ∈ dq_G := dq_in2 60 rfl rfl
theorem tw2_61 : (Cond.constant RIn 264 (65536) : Cond) ∈ dq_G := dq_in2 61 (by decide +kernel) rfl
theorem tw2_62 : (Cond.methodLink RTb 23 yTb_fewestAfterHit : Cond) ∈ dq_G := dq_in2 62 (by decide +kernel) rfl
theorem tw2_64 : (Cond.instanceMethod yTb_fewestAfterHit : Cond) ∈ dq_G := dq_in2 64 (by decide +kernel) rfl
theorem tw2_65 : (Cond.code yTb_fewestAfterHit cTb_fewestAfterHit 5 (some .int) : Cond) ∈ dq_G := dq_in2 65 rfl rfl
theorem tw2_66 : (Cond.methodLink RTb 36 Lib.Math.min.name : Cond) ∈ dq_G := dq_in2 66 (by decide +kernel) rfl
theorem tw2_67 : (Cond.methodLink RDH 205 yDH_leastOf : Cond) ∈ dq_G := dq_in2 67 (by decide +kernel) rfl
theorem tw2_68 : (Cond.methodLink RDH 208 yTb_firstBest : Cond) ∈ dq_G := dq_in2 68 (by decide +kernel) rfl
theorem tw2_69 : (Cond.instanceMethod yTb_firstBest : Cond) ∈ dq_G := dq_in2 69 (by decide +kernel) rfl
theorem tw2_70 : (Cond.selects RTb yTb_firstBest yTb_firstBest : Cond) ∈ dq_G := dq_in2 70 (by decide +kernel) rfl
theorem tw2_71 : (Cond.code yTb_firstBest cTb_firstBest 5 (some .int) : Cond) ∈ dq_G := dq_in2 71 rfl rfl
theorem tw2_72 : (Cond.methodLink RDH 218 yHt_add : Cond) ∈ dq_G := dq_in2 72 (by decide +kernel) rfl
theorem tw2_73 : (Cond.instanceMethod yHt_add : Cond) ∈ dq_G := dq_in2 73 (by decide +kernel) rfl
theorem tw2_74 : (Cond.selects RHt yHt_add yHt_add : Cond) ∈ dq_G := dq_in2 74 (by decide +kernel) rfl
theorem tw2_75 : (Cond.code yHt_add cHt_add 5 none : Cond) ∈ dq_G := dq_in2 75 rfl rfl
theorem tw2_76 : (Cond.methodLink RDH 136 yWy_find : Cond) ∈ dq_G := dq_in2 76 (by decide +kernel) rfl
theorem tw2_77 : (Cond.instanceMethod yWy_find : Cond) ∈ dq_G := dq_in2 77 (by decide +kernel) rfl
theorem tw2_78 : (Cond.selects RWy yWy_find yWy_find : Cond) ∈ dq_G := dq_in2 78 (by decide +kernel) rfl
theorem tw2_79 : (Cond.code yWy_find cWy_find 2 none : Cond) ∈ dq_G := dq_in2 79 rfl rfl
theorem tw2_80 : (Cond.methodLink RWy 24 yWy_fillShortest : Cond) ∈ dq_G := dq_in2 80 (by decide +kernel) rfl
theorem tw2_82 : (Cond.instanceMethod yWy_fillShortest : Cond) ∈ dq_G := dq_in2 82 (by decide +kernel) rfl
theorem tw2_83 : (Cond.code yWy_fillShortest cWy_fillShortest 7 none : Cond) ∈ dq_G := dq_in2 83 rfl rfl
theorem tw2_85 : (Cond.static yDH_holds : Cond) ∈ dq_G := dq_in2 85 (by decide +kernel) rfl
theorem tw2_86 : (Cond.code yDH_holds cDH_holds 2 (some .boolean) : Cond) ∈ dq_G := dq_in2 86 rfl rfl
theorem tw2_87 : (Cond.methodLink RWy 47 yWy_nextHit : Cond) ∈ dq_G := dq_in2 87 (by decide +kernel) rfl
theorem tw2_89 : (Cond.instanceMethod yWy_nextHit : Cond) ∈ dq_G := dq_in2 89 (by decide +kernel) rfl
theorem tw2_90 : (Cond.code yWy_nextHit cWy_nextHit 9 (some .int) : Cond) ∈ dq_G := dq_in2 90 rfl rfl
theorem tw2_91 : (Cond.methodLink RWy 51 yWy_wayOver : Cond) ∈ dq_G := dq_in2 91 (by decide +kernel) rfl
theorem tw2_93 : (Cond.instanceMethod yWy_wayOver : Cond) ∈ dq_G := dq_in2 93 (by decide +kernel) rfl
theorem tw2_94 : (Cond.code yWy_wayOver cWy_wayOver 6 (some .int) : Cond) ∈ dq_G := dq_in2 94 rfl rfl
theorem tw2_95 : (Cond.methodLink RWy 63 yWy_distance : Cond) ∈ dq_G := dq_in2 95 (by decide +kernel) rfl
theorem tw2_96 : (Cond.static yWy_distance : Cond) ∈ dq_G := dq_in2 96 (by decide +kernel) rfl
theorem tw2_97 : (Cond.code yWy_distance cWy_distance 4 (some .int) : Cond) ∈ dq_G := dq_in2 97 rfl rfl
theorem tw2_98 : (Cond.methodLink RWy 66 Lib.Math.abs.name : Cond) ∈ dq_G := dq_in2 98 (by decide +kernel) rfl
theorem tw2_99 : (Cond.static Lib.Math.abs.name : Cond) ∈ dq_G := dq_in2 99 (by decide +kernel) rfl
theorem tw2_100 : (Cond.code Lib.Math.abs.name Lib.Math.abs.code 1 (some .int) : Cond) ∈ dq_G := dq_in2 100 rfl rfl
theorem tw2_102 : (Cond.static yDH_without : Cond) ∈ dq_G := dq_in2 102 (by decide +kernel) rfl
theorem tw2_103 : (Cond.code yDH_without cDH_without 2 (some .int) : Cond) ∈ dq_G := dq_in2 103 rfl rfl
theorem tw2_104 : (Cond.methodLink RWy 28 yWy_takeShortest : Cond) ∈ dq_G := dq_in2 104 (by decide +kernel) rfl
theorem tw2_106 : (Cond.instanceMethod yWy_takeShortest : Cond) ∈ dq_G := dq_in2 106 (by decide +kernel) rfl
theorem tw2_107 : (Cond.code yWy_takeShortest cWy_takeShortest 7 none : Cond) ∈ dq_G := dq_in2 107 rfl rfl
theorem tw2_108 : (Cond.methodLink RWy 31 yWy_takeOwnOrder : Cond) ∈ dq_G := dq_in2 108 (by decide +kernel) rfl
theorem tw2_110 : (Cond.instanceMethod yWy_takeOwnOrder : Cond) ∈ dq_G := dq_in2 110 (by decide +kernel) rfl
theorem tw2_111 : (Cond.code yWy_takeOwnOrder cWy_takeOwnOrder 3 none : Cond) ∈ dq_G := dq_in2 111 rfl rfl
theorem tw2_112 : (Cond.methodLink RWy 34 yWy_measure : Cond) ∈ dq_G := dq_in2 112 (by decide +kernel) rfl
theorem tw2_114 : (Cond.instanceMethod yWy_measure : Cond) ∈ dq_G := dq_in2 114 (by decide +kernel) rfl
theorem tw2_115 : (Cond.code yWy_measure cWy_measure 6 none : Cond) ∈ dq_G := dq_in2 115 rfl rfl
theorem tw2_116 : (Cond.methodLink RLw 70 yLw_cell : Cond) ∈ dq_G := dq_in2 116 (by decide +kernel) rfl
theorem tw2_117 : (Cond.static yLw_cell : Cond) ∈ dq_G := dq_in2 117 (by decide +kernel) rfl
theorem tw2_118 : (Cond.code yLw_cell cLw_cell 2 (some .int) : Cond) ∈ dq_G := dq_in2 118 rfl rfl
theorem tw2_119 : (Cond.methodLink RLw 82 yLw_spindle : Cond) ∈ dq_G := dq_in2 119 (by decide +kernel) rfl
theorem tw2_120 : (Cond.static yLw_spindle : Cond) ∈ dq_G := dq_in2 120 (by decide +kernel) rfl
theorem tw2_121 : (Cond.codeWith yLw_spindle cLw_spindle 7 (some .int) [(0, 21, 24, 13), (0, 21, 28, 15)] : Cond) ∈ dq_G := dq_in2 121 rfl rfl
theorem tw2_122 : (Cond.classLink RLw 13 "java/lang/IndexOutOfBoundsException" : Cond) ∈ dq_G := dq_in2 122 (by decide +kernel) rfl
theorem tw2_123 : (Cond.classLink RLw 15 "java/lang/IllegalArgumentException" : Cond) ∈ dq_G := dq_in2 123 (by decide +kernel) rfl
theorem tw2_124 : (Cond.methodLink RLw 7 yDH_spindle : Cond) ∈ dq_G := dq_in2 124 (by decide +kernel) rfl
theorem tw2_125 : (Cond.instanceMethod yDH_spindle : Cond) ∈ dq_G := dq_in2 125 (by decide +kernel) rfl
theorem tw2_126 : (Cond.selects RDH yDH_spindle yDH_spindle : Cond) ∈ dq_G := dq_in2 126 (by decide +kernel) rfl
theorem tw2_127 : (Cond.code yDH_spindle cDH_spindle 6 (some .boolean) : Cond) ∈ dq_G := dq_in2 127 rfl rfl
theorem tw2_128 : (Cond.classLink RDH 73 "java/lang/IndexOutOfBoundsException" : Cond) ∈ dq_G := dq_in2 128 (by decide +kernel) rfl
theorem tw2_129 : (Cond.instantiable "java/lang/IndexOutOfBoundsException" 6 : Cond) ∈ dq_G := dq_in2 129 (by decide +kernel) rfl
theorem tw2_137 : (Cond.selects "java/lang/IndexOutOfBoundsException" (⟨"java/lang/Throwable", "fillInStackTrace", "(I)Ljava/lang/Throwable;"⟩ : MethodName) (⟨"java/lang/Throwable", "fillInStackTrace", "(I)Ljava/lang/Throwable;"⟩ : MethodName) : Cond) ∈ dq_G := dq_in2 137 (by decide +kernel) rfl
theorem tw2_138 : (Cond.selects "java/lang/IndexOutOfBoundsException" (⟨"java/lang/Throwable", "fillInStackTrace", "()Ljava/lang/Throwable;"⟩ : MethodName) (⟨"java/lang/Throwable", "fillInStackTrace", "()Ljava/lang/Throwable;"⟩ : MethodName) : Cond) ∈ dq_G := dq_in2 138 (by decide +kernel) rfl
theorem tw2_149 : (Cond.fieldLink "java/lang/Throwable" 198 "java/lang/Throwable" "backtrace" "Ljava/lang/Object;" : Cond) ∈ dq_G := dq_in2 149 (by decide +kernel) rfl
theorem tw2_151 : (Cond.instanceMethod (⟨"java/lang/Throwable", "<init>", "()V"⟩ : MethodName) : Cond) ∈ dq_G := dq_in2 151 (by decide +kernel) rfl
theorem tw2_153 : (Cond.methodLink "java/lang/Throwable" 1 objectInit : Cond) ∈ dq_G := dq_in2 153 (by decide +kernel) rfl
theorem tw2_154 : (Cond.fieldLink "java/lang/Throwable" 13 "java/lang/Throwable" "UNASSIGNED_STACK" "[Ljava/lang/StackTraceElement;" : Cond) ∈ dq_G := dq_in2 154 (by decide +kernel) rfl
theorem tw2_156 : (Cond.fieldLink "java/lang/Throwable" 20 "java/lang/Throwable" "SUPPRESSED_SENTINEL" "Ljava/util/List;" : Cond) ∈ dq_G := dq_in2 156 (by decide +kernel) rfl
theorem tw2_158 : (Cond.methodLink "java/lang/Throwable" 27 (⟨"java/lang/Throwable", "fillInStackTrace", "()Ljava/lang/Throwable;"⟩ : MethodName) : Cond) ∈ dq_G := dq_in2 158 (by decide +kernel) rfl
theorem tw2_159 : (Cond.instanceMethod (⟨"java/lang/Throwable", "fillInStackTrace", "()Ljava/lang/Throwable;"⟩ : MethodName) : Cond) ∈ dq_G := dq_in2 159 (by decide +kernel) rfl
theorem tw2_161 : (Cond.selects "java/lang/IllegalArgumentException" (⟨"java/lang/Throwable", "fillInStackTrace", "()Ljava/lang/Throwable;"⟩ : MethodName) (⟨"java/lang/Throwable", "fillInStackTrace", "()Ljava/lang/Throwable;"⟩ : MethodName) : Cond) ∈ dq_G := dq_in2 161 (by decide +kernel) rfl
theorem tw2_162 : (Cond.selects "java/lang/IllegalStateException" (⟨"java/lang/Throwable", "fillInStackTrace", "()Ljava/lang/Throwable;"⟩ : MethodName) (⟨"java/lang/Throwable", "fillInStackTrace", "()Ljava/lang/Throwable;"⟩ : MethodName) : Cond) ∈ dq_G := dq_in2 162 (by decide +kernel) rfl
theorem tw2_164 : (Cond.methodLink "java/lang/Throwable" 202 (⟨"java/lang/Throwable", "fillInStackTrace", "(I)Ljava/lang/Throwable;"⟩ : MethodName) : Cond) ∈ dq_G := dq_in2 164 (by decide +kernel) rfl
theorem tw2_166 : (Cond.instanceMethod (⟨"java/lang/Throwable", "fillInStackTrace", "(I)Ljava/lang/Throwable;"⟩ : MethodName) : Cond) ∈ dq_G := dq_in2 166 (by decide +kernel) rfl
theorem tw2_167 : (Cond.instantiable "java/lang/Throwable" 6 : Cond) ∈ dq_G := dq_in2 167 (by decide +kernel) rfl
theorem tw2_170 : (Cond.methodLink RDH 77 (⟨"java/lang/IndexOutOfBoundsException", "<init>", "(Ljava/lang/String;)V"⟩ : MethodName) : Cond) ∈ dq_G := dq_in2 170 (by decide +kernel) rfl
theorem tw2_171 : (Cond.instanceMethod (⟨"java/lang/IndexOutOfBoundsException", "<init>", "(Ljava/lang/String;)V"⟩ : MethodName) : Cond) ∈ dq_G := dq_in2 171 (by decide +kernel) rfl
theorem tw2_173 : (Cond.methodLink "java/lang/IndexOutOfBoundsException" 7 (⟨"java/lang/RuntimeException", "<init>", "(Ljava/lang/String;)V"⟩ : MethodName) : Cond) ∈ dq_G := dq_in2 173 (by decide +kernel) rfl
theorem tw2_174 : (Cond.instanceMethod (⟨"java/lang/RuntimeException", "<init>", "(Ljava/lang/String;)V"⟩ : MethodName) : Cond) ∈ dq_G := dq_in2 174 (by decide +kernel) rfl
theorem tw2_176 : (Cond.methodLink "java/lang/RuntimeException" 7 (⟨"java/lang/Exception", "<init>", "(Ljava/lang/String;)V"⟩ : MethodName) : Cond) ∈ dq_G := dq_in2 176 (by decide +kernel) rfl
theorem tw2_177 : (Cond.instanceMethod (⟨"java/lang/Exception", "<init>", "(Ljava/lang/String;)V"⟩ : MethodName) : Cond) ∈ dq_G := dq_in2 177 (by decide +kernel) rfl
theorem tw2_179 : (Cond.methodLink "java/lang/Exception" 7 (⟨"java/lang/Throwable", "<init>", "(Ljava/lang/String;)V"⟩ : MethodName) : Cond) ∈ dq_G := dq_in2 179 (by decide +kernel) rfl
theorem tw2_180 : (Cond.instanceMethod (⟨"java/lang/Throwable", "<init>", "(Ljava/lang/String;)V"⟩ : MethodName) : Cond) ∈ dq_G := dq_in2 180 (by decide +kernel) rfl
theorem tw2_183 : (Cond.fieldLink "java/lang/Throwable" 31 "java/lang/Throwable" "detailMessage" "Ljava/lang/String;" : Cond) ∈ dq_G := dq_in2 183 (by decide +kernel) rfl
theorem tw2_184 : (Cond.fieldLink "java/lang/Throwable" 7 "java/lang/Throwable" "cause" "Ljava/lang/Throwable;" : Cond) ∈ dq_G := dq_in2 184 (by decide +kernel) rfl
theorem tw2_185 : (Cond.fieldLink "java/lang/Throwable" 17 "java/lang/Throwable" "stackTrace" "[Ljava/lang/StackTraceElement;" : Cond) ∈ dq_G := dq_in2 185 (by decide +kernel) rfl
theorem tw2_186 : (Cond.fieldLink "java/lang/Throwable" 24 "java/lang/Throwable" "suppressedExceptions" "Ljava/util/List;" : Cond) ∈ dq_G := dq_in2 186 (by decide +kernel) rfl
theorem tw2_195 : (Cond.arrayClass .byte : Cond) ∈ dq_G := dq_in2 195 (by decide +kernel) rfl
theorem tw2_196 : (Cond.methodLink RDH 80 yDH_requirePlace : Cond) ∈ dq_G := dq_in2 196 (by decide +kernel) rfl
theorem tw2_197 : (Cond.static yDH_requirePlace : Cond) ∈ dq_G := dq_in2 197 (by decide +kernel) rfl
theorem tw2_198 : (Cond.code yDH_requirePlace cDH_requirePlace 2 none : Cond) ∈ dq_G := dq_in2 198 rfl rfl
theorem tw2_199 : (Cond.methodLink RDH 84 yDH_requireWithin : Cond) ∈ dq_G := dq_in2 199 (by decide +kernel) rfl
theorem tw2_200 : (Cond.static yDH_requireWithin : Cond) ∈ dq_G := dq_in2 200 (by decide +kernel) rfl
theorem tw2_201 : (Cond.code yDH_requireWithin cDH_requireWithin 3 none : Cond) ∈ dq_G := dq_in2 201 rfl rfl
theorem tw2_202 : (Cond.classLink RDH 155 "java/lang/IllegalArgumentException" : Cond) ∈ dq_G := dq_in2 202 (by decide +kernel) rfl
theorem tw2_203 : (Cond.instantiable "java/lang/IllegalArgumentException" 6 : Cond) ∈ dq_G := dq_in2 203 (by decide +kernel) rfl
theorem tw2_205 : (Cond.selects "java/lang/IllegalArgumentException" (⟨"java/lang/Throwable", "fillInStackTrace", "(I)Ljava/lang/Throwable;"⟩ : MethodName) (⟨"java/lang/Throwable", "fillInStackTrace", "(I)Ljava/lang/Throwable;"⟩ : MethodName) : Cond) ∈ dq_G := dq_in2 205 (by decide +kernel) rfl
theorem tw2_212 : (Cond.methodLink RDH 159 (⟨"java/lang/IllegalArgumentException", "<init>", "(Ljava/lang/String;)V"⟩ : MethodName) : Cond) ∈ dq_G := dq_in2 212 (by decide +kernel) rfl
theorem tw2_213 : (Cond.instanceMethod (⟨"java/lang/IllegalArgumentException", "<init>", "(Ljava/lang/String;)V"⟩ : MethodName) : Cond) ∈ dq_G := dq_in2 213 (by decide +kernel) rfl
theorem tw2_215 : (Cond.methodLink "java/lang/IllegalArgumentException" 7 (⟨"java/lang/RuntimeException", "<init>", "(Ljava/lang/String;)V"⟩ : MethodName) : Cond) ∈ dq_G := dq_in2 215 (by decide +kernel) rfl
theorem tw2_218 : (Cond.methodLink RDH 88 yHd_change : Cond) ∈ dq_G := dq_in2 218 (by decide +kernel) rfl
theorem tw2_219 : (Cond.instanceMethod yHd_change : Cond) ∈ dq_G := dq_in2 219 (by decide +kernel) rfl
theorem tw2_220 : (Cond.selects RHd yHd_change yHd_change : Cond) ∈ dq_G := dq_in2 220 (by decide +kernel) rfl
theorem tw2_221 : (Cond.code yHd_change cHd_change 5 (some .boolean) : Cond) ∈ dq_G := dq_in2 221 rfl rfl
theorem tw2_222 : (Cond.methodLink RHd 21 yHd_measureFrame : Cond) ∈ dq_G := dq_in2 222 (by decide +kernel) rfl
theorem tw2_224 : (Cond.instanceMethod yHd_measureFrame : Cond) ∈ dq_G := dq_in2 224 (by decide +kernel) rfl
theorem tw2_225 : (Cond.code yHd_measureFrame cHd_measureFrame 6 none : Cond) ∈ dq_G := dq_in2 225 rfl rfl
theorem tw2_226 : (Cond.methodLink RHd 24 Lib.Math.min.name : Cond) ∈ dq_G := dq_in2 226 (by decide +kernel) rfl
theorem tw2_227 : (Cond.methodLink RHd 30 Lib.Math.max.name : Cond) ∈ dq_G := dq_in2 227 (by decide +kernel) rfl
theorem tw2_228 : (Cond.methodLink RLw 89 yLw_hole : Cond) ∈ dq_G := dq_in2 228 (by decide +kernel) rfl
theorem tw2_229 : (Cond.static yLw_hole : Cond) ∈ dq_G := dq_in2 229 (by decide +kernel) rfl
theorem tw2_230 : (Cond.codeWith yLw_hole cLw_hole 8 (some .int) [(0, 16, 19, 21), (0, 16, 23, 15)] : Cond) ∈ dq_G := dq_in2 230 rfl rfl
theorem tw2_231 : (Cond.classLink RLw 21 "java/lang/IllegalStateException" : Cond) ∈ dq_G := dq_in2 231 (by decide +kernel) rfl
theorem tw2_232 : (Cond.methodLink RLw 17 yDH_hole : Cond) ∈ dq_G := dq_in2 232 (by decide +kernel) rfl
theorem tw2_233 : (Cond.instanceMethod yDH_hole : Cond) ∈ dq_G := dq_in2 233 (by decide +kernel) rfl
theorem tw2_234 : (Cond.selects RDH yDH_hole yDH_hole : Cond) ∈ dq_G := dq_in2 234 (by decide +kernel) rfl
theorem tw2_235 : (Cond.code yDH_hole cDH_hole 6 (some .int) : Cond) ∈ dq_G := dq_in2 235 rfl rfl
theorem tw2_236 : (Cond.classLink RDH 100 "java/lang/IllegalStateException" : Cond) ∈ dq_G := dq_in2 236 (by decide +kernel) rfl
theorem tw2_237 : (Cond.instantiable "java/lang/IllegalStateException" 6 : Cond) ∈ dq_G := dq_in2 237 (by decide +kernel) rfl
theorem tw2_239 : (Cond.selects "java/lang/IllegalStateException" (⟨"java/lang/Throwable", "fillInStackTrace", "(I)Ljava/lang/Throwable;"⟩ : MethodName) (⟨"java/lang/Throwable", "fillInStackTrace", "(I)Ljava/lang/Throwable;"⟩ : MethodName) : Cond) ∈ dq_G := dq_in2 239 (by decide +kernel) rfl
theorem tw3_6 : (Cond.methodLink RDH 104 (⟨"java/lang/IllegalStateException", "<init>", "(Ljava/lang/String;)V"⟩ : MethodName) : Cond) ∈ dq_G := dq_in3 6 (by decide +kernel) rfl
theorem tw3_7 : (Cond.instanceMethod (⟨"java/lang/IllegalStateException", "<init>", "(Ljava/lang/String;)V"⟩ : MethodName) : Cond) ∈ dq_G := dq_in3 7 (by decide +kernel) rfl
theorem tw3_9 : (Cond.methodLink "java/lang/IllegalStateException" 7 (⟨"java/lang/RuntimeException", "<init>", "(Ljava/lang/String;)V"⟩ : MethodName) : Cond) ∈ dq_G := dq_in3 9 (by decide +kernel) rfl
theorem tw3_12 : (Cond.methodLink RDH 105 yPt_add : Cond) ∈ dq_G := dq_in3 12 (by decide +kernel) rfl
theorem tw3_13 : (Cond.instanceMethod yPt_add : Cond) ∈ dq_G := dq_in3 13 (by decide +kernel) rfl
theorem tw3_14 : (Cond.selects RPt yPt_add yPt_add : Cond) ∈ dq_G := dq_in3 14 (by decide +kernel) rfl
theorem tw3_15 : (Cond.code yPt_add cPt_add 7 (some .int) : Cond) ∈ dq_G := dq_in3 15 rfl rfl
theorem tw3_16 : (Cond.methodLink RLw 93 yLw_through : Cond) ∈ dq_G := dq_in3 16 (by decide +kernel) rfl
theorem tw3_17 : (Cond.static yLw_through : Cond) ∈ dq_G := dq_in3 17 (by decide +kernel) rfl
theorem tw3_18 : (Cond.codeWith yLw_through cLw_through 5 (some .int) [(0, 17, 20, 13)] : Cond) ∈ dq_G := dq_in3 18 rfl rfl
theorem tw3_19 : (Cond.methodLink RLw 23 yDH_through : Cond) ∈ dq_G := dq_in3 19 (by decide +kernel) rfl
theorem tw3_20 : (Cond.instanceMethod yDH_through : Cond) ∈ dq_G := dq_in3 20 (by decide +kernel) rfl
theorem tw3_21 : (Cond.selects RDH yDH_through yDH_through : Cond) ∈ dq_G := dq_in3 21 (by decide +kernel) rfl
theorem tw3_22 : (Cond.code yDH_through cDH_through 3 (some .boolean) : Cond) ∈ dq_G := dq_in3 22 rfl rfl
theorem tw3_23 : (Cond.methodLink RDH 109 yDH_requireHole : Cond) ∈ dq_G := dq_in3 23 (by decide +kernel) rfl
theorem tw3_25 : (Cond.instanceMethod yDH_requireHole : Cond) ∈ dq_G := dq_in3 25 (by decide +kernel) rfl
theorem tw3_26 : (Cond.code yDH_requireHole cDH_requireHole 2 none : Cond) ∈ dq_G := dq_in3 26 rfl rfl
theorem tw3_28 : (Cond.methodLink RLw 97 yLw_clamp : Cond) ∈ dq_G := dq_in3 28 (by decide +kernel) rfl
theorem tw3_29 : (Cond.static yLw_clamp : Cond) ∈ dq_G := dq_in3 29 (by decide +kernel) rfl
theorem tw3_30 : (Cond.codeWith yLw_clamp cLw_clamp 7 (some .int) [(0, 21, 24, 15)] : Cond) ∈ dq_G := dq_in3 30 rfl rfl
theorem tw3_31 : (Cond.methodLink RLw 27 yDH_clamp : Cond) ∈ dq_G := dq_in3 31 (by decide +kernel) rfl
theorem tw3_32 : (Cond.instanceMethod yDH_clamp : Cond) ∈ dq_G := dq_in3 32 (by decide +kernel) rfl
theorem tw3_33 : (Cond.selects RDH yDH_clamp yDH_clamp : Cond) ∈ dq_G := dq_in3 33 (by decide +kernel) rfl
theorem tw3_34 : (Cond.code yDH_clamp cDH_clamp 5 (some .boolean) : Cond) ∈ dq_G := dq_in3 34 rfl rfl
theorem tw3_35 : (Cond.methodLink RDH 117 yCl_add : Cond) ∈ dq_G := dq_in3 35 (by decide +kernel) rfl
theorem tw3_36 : (Cond.instanceMethod yCl_add : Cond) ∈ dq_G := dq_in3 36 (by decide +kernel) rfl
theorem tw3_37 : (Cond.selects RCl yCl_add yCl_add : Cond) ∈ dq_G := dq_in3 37 (by decide +kernel) rfl
theorem tw3_38 : (Cond.code yCl_add cCl_add 5 none : Cond) ∈ dq_G := dq_in3 38 rfl rfl
theorem tw3_39 : (Cond.methodLink RLw 100 yLw_mirror : Cond) ∈ dq_G := dq_in3 39 (by decide +kernel) rfl
theorem tw3_40 : (Cond.static yLw_mirror : Cond) ∈ dq_G := dq_in3 40 (by decide +kernel) rfl
theorem tw3_41 : (Cond.codeWith yLw_mirror cLw_mirror 4 (some .int) [(0, 9, 12, 15)] : Cond) ∈ dq_G := dq_in3 41 rfl rfl
theorem tw3_42 : (Cond.methodLink RLw 30 yDH_mirror : Cond) ∈ dq_G := dq_in3 42 (by decide +kernel) rfl
theorem tw3_43 : (Cond.instanceMethod yDH_mirror : Cond) ∈ dq_G := dq_in3 43 (by decide +kernel) rfl
theorem tw3_44 : (Cond.selects RDH yDH_mirror yDH_mirror : Cond) ∈ dq_G := dq_in3 44 (by decide +kernel) rfl
theorem tw3_45 : (Cond.code yDH_mirror cDH_mirror 2 (some .int) : Cond) ∈ dq_G := dq_in3 45 rfl rfl
theorem tw3_46 : (Cond.methodLink RDH 126 yDH_negate : Cond) ∈ dq_G := dq_in3 46 (by decide +kernel) rfl
theorem tw3_47 : (Cond.static yDH_negate : Cond) ∈ dq_G := dq_in3 47 (by decide +kernel) rfl
theorem tw3_48 : (Cond.code yDH_negate cDH_negate 3 none : Cond) ∈ dq_G := dq_in3 48 rfl rfl
theorem tw3_49 : (Cond.methodLink RLw 108 yLw_hit : Cond) ∈ dq_G := dq_in3 49 (by decide +kernel) rfl
theorem tw3_50 : (Cond.static yLw_hit : Cond) ∈ dq_G := dq_in3 50 (by decide +kernel) rfl
theorem tw3_51 : (Cond.codeWith yLw_hit cLw_hit 5 (some .int) [(0, 10, 13, 21), (0, 10, 17, 13), (0, 10, 21, 15)] : Cond) ∈ dq_G := dq_in3 51 rfl rfl
theorem tw3_52 : (Cond.methodLink RLw 34 yDH_hit : Cond) ∈ dq_G := dq_in3 52 (by decide +kernel) rfl
theorem tw3_53 : (Cond.instanceMethod yDH_hit : Cond) ∈ dq_G := dq_in3 53 (by decide +kernel) rfl
theorem tw3_54 : (Cond.selects RDH yDH_hit yDH_hit : Cond) ∈ dq_G := dq_in3 54 (by decide +kernel) rfl
theorem tw3_55 : (Cond.code yDH_hit cDH_hit 3 (some .int) : Cond) ∈ dq_G := dq_in3 55 rfl rfl
theorem tw3_56 : (Cond.methodLink RDH 141 yDH_requirePlanned : Cond) ∈ dq_G := dq_in3 56 (by decide +kernel) rfl
theorem tw3_58 : (Cond.instanceMethod yDH_requirePlanned : Cond) ∈ dq_G := dq_in3 58 (by decide +kernel) rfl
theorem tw3_59 : (Cond.code yDH_requirePlanned cDH_requirePlanned 1 none : Cond) ∈ dq_G := dq_in3 59 rfl rfl
theorem tw3_61 : (Cond.methodLink RDH 144 yDH_requireHit : Cond) ∈ dq_G := dq_in3 61 (by decide +kernel) rfl
theorem tw3_63 : (Cond.instanceMethod yDH_requireHit : Cond) ∈ dq_G := dq_in3 63 (by decide +kernel) rfl
theorem tw3_64 : (Cond.code yDH_requireHit cDH_requireHit 2 none : Cond) ∈ dq_G := dq_in3 64 rfl rfl
theorem tw3_67 : (Cond.methodLink RLw 112 yLw_drills : Cond) ∈ dq_G := dq_in3 67 (by decide +kernel) rfl
theorem tw3_68 : (Cond.static yLw_drills : Cond) ∈ dq_G := dq_in3 68 (by decide +kernel) rfl
theorem tw3_69 : (Cond.codeWith yLw_drills cLw_drills 5 (some .int) [(0, 17, 20, 21), (0, 17, 24, 13)] : Cond) ∈ dq_G := dq_in3 69 rfl rfl
theorem tw3_70 : (Cond.methodLink RLw 38 yDH_drills : Cond) ∈ dq_G := dq_in3 70 (by decide +kernel) rfl
theorem tw3_71 : (Cond.instanceMethod yDH_drills : Cond) ∈ dq_G := dq_in3 71 (by decide +kernel) rfl
theorem tw3_72 : (Cond.selects RDH yDH_drills yDH_drills : Cond) ∈ dq_G := dq_in3 72 (by decide +kernel) rfl
theorem tw3_73 : (Cond.code yDH_drills cDH_drills 3 (some .boolean) : Cond) ∈ dq_G := dq_in3 73 rfl rfl
theorem tw3_74 : (Cond.methodLink RDH 160 yDH_holds : Cond) ∈ dq_G := dq_in3 74 (by decide +kernel) rfl
theorem tw3_75 : (Cond.methodLink RLw 115 yLw_by : Cond) ∈ dq_G := dq_in3 75 (by decide +kernel) rfl
theorem tw3_76 : (Cond.static yLw_by : Cond) ∈ dq_G := dq_in3 76 (by decide +kernel) rfl
theorem tw3_77 : (Cond.codeWith yLw_by cLw_by 4 (some .int) [(0, 9, 12, 21), (0, 9, 15, 13)] : Cond) ∈ dq_G := dq_in3 77 rfl rfl
theorem tw3_78 : (Cond.methodLink RLw 42 yDH_by : Cond) ∈ dq_G := dq_in3 78 (by decide +kernel) rfl
theorem tw3_79 : (Cond.instanceMethod yDH_by : Cond) ∈ dq_G := dq_in3 79 (by decide +kernel) rfl
theorem tw3_80 : (Cond.selects RDH yDH_by yDH_by : Cond) ∈ dq_G := dq_in3 80 (by decide +kernel) rfl
theorem tw3_81 : (Cond.code yDH_by cDH_by 3 (some .int) : Cond) ∈ dq_G := dq_in3 81 rfl rfl
theorem tw3_82 : (Cond.methodLink RDH 164 yHt_drilling : Cond) ∈ dq_G := dq_in3 82 (by decide +kernel) rfl
theorem tw3_83 : (Cond.instanceMethod yHt_drilling : Cond) ∈ dq_G := dq_in3 83 (by decide +kernel) rfl
theorem tw3_84 : (Cond.selects RHt yHt_drilling yHt_drilling : Cond) ∈ dq_G := dq_in3 84 (by decide +kernel) rfl
theorem tw3_85 : (Cond.code yHt_drilling cHt_drilling 3 (some .int) : Cond) ∈ dq_G := dq_in3 85 rfl rfl
theorem tw3_87 : (Cond.methodLink RDH 168 yPt_spindleFor : Cond) ∈ dq_G := dq_in3 87 (by decide +kernel) rfl
theorem tw3_88 : (Cond.methodLink RLw 118 yLw_single : Cond) ∈ dq_G := dq_in3 88 (by decide +kernel) rfl
theorem tw3_89 : (Cond.static yLw_single : Cond) ∈ dq_G := dq_in3 89 (by decide +kernel) rfl
theorem tw3_90 : (Cond.codeWith yLw_single cLw_single 4 (some .int) [(0, 16, 19, 21), (0, 16, 22, 13)] : Cond) ∈ dq_G := dq_in3 90 rfl rfl
theorem tw3_91 : (Cond.methodLink RLw 45 yDH_single : Cond) ∈ dq_G := dq_in3 91 (by decide +kernel) rfl
theorem tw3_92 : (Cond.instanceMethod yDH_single : Cond) ∈ dq_G := dq_in3 92 (by decide +kernel) rfl
theorem tw3_93 : (Cond.selects RDH yDH_single yDH_single : Cond) ∈ dq_G := dq_in3 93 (by decide +kernel) rfl
theorem tw3_94 : (Cond.code yDH_single cDH_single 2 (some .boolean) : Cond) ∈ dq_G := dq_in3 94 rfl rfl
theorem tw3_95 : (Cond.methodLink RLw 121 yLw_order : Cond) ∈ dq_G := dq_in3 95 (by decide +kernel) rfl
theorem tw3_96 : (Cond.static yLw_order : Cond) ∈ dq_G := dq_in3 96 (by decide +kernel) rfl
theorem tw3_97 : (Cond.codeWith yLw_order cLw_order 4 (some .int) [(0, 9, 12, 21), (0, 9, 15, 13)] : Cond) ∈ dq_G := dq_in3 97 rfl rfl
theorem tw3_98 : (Cond.methodLink RLw 49 yDH_order : Cond) ∈ dq_G := dq_in3 98 (by decide +kernel) rfl
theorem tw3_99 : (Cond.instanceMethod yDH_order : Cond) ∈ dq_G := dq_in3 99 (by decide +kernel) rfl
theorem tw3_100 : (Cond.selects RDH yDH_order yDH_order : Cond) ∈ dq_G := dq_in3 100 (by decide +kernel) rfl
theorem tw3_101 : (Cond.code yDH_order cDH_order 2 (some .int) : Cond) ∈ dq_G := dq_in3 101 rfl rfl
theorem tw3_102 : (Cond.methodLink RLw 124 yLw_travel : Cond) ∈ dq_G := dq_in3 102 (by decide +kernel) rfl
theorem tw3_103 : (Cond.static yLw_travel : Cond) ∈ dq_G := dq_in3 103 (by decide +kernel) rfl
theorem tw3_104 : (Cond.codeWith yLw_travel cLw_travel 3 (some .int) [(0, 7, 10, 21)] : Cond) ∈ dq_G := dq_in3 104 rfl rfl
theorem tw3_105 : (Cond.methodLink RLw 52 yDH_travel : Cond) ∈ dq_G := dq_in3 105 (by decide +kernel) rfl
theorem tw3_106 : (Cond.instanceMethod yDH_travel : Cond) ∈ dq_G := dq_in3 106 (by decide +kernel) rfl
theorem tw3_107 : (Cond.selects RDH yDH_travel yDH_travel : Cond) ∈ dq_G := dq_in3 107 (by decide +kernel) rfl
theorem tw3_108 : (Cond.code yDH_travel cDH_travel 1 (some .long) : Cond) ∈ dq_G := dq_in3 108 rfl rfl
theorem tw3_109 : (Cond.methodLink RLw 128 yLw_least : Cond) ∈ dq_G := dq_in3 109 (by decide +kernel) rfl
theorem tw3_110 : (Cond.static yLw_least : Cond) ∈ dq_G := dq_in3 110 (by decide +kernel) rfl
theorem tw3_111 : (Cond.codeWith yLw_least cLw_least 3 (some .int) [(0, 15, 18, 21)] : Cond) ∈ dq_G := dq_in3 111 rfl rfl
theorem tw3_112 : (Cond.methodLink RLw 56 yDH_least : Cond) ∈ dq_G := dq_in3 112 (by decide +kernel) rfl
theorem tw3_113 : (Cond.instanceMethod yDH_least : Cond) ∈ dq_G := dq_in3 113 (by decide +kernel) rfl
theorem tw3_114 : (Cond.selects RDH yDH_least yDH_least : Cond) ∈ dq_G := dq_in3 114 (by decide +kernel) rfl
theorem tw3_115 : (Cond.code yDH_least cDH_least 1 (some .boolean) : Cond) ∈ dq_G := dq_in3 115 rfl rfl
theorem tw3_116 : (Cond.methodLink RLw 131 yLw_bound : Cond) ∈ dq_G := dq_in3 116 (by decide +kernel) rfl
theorem tw3_117 : (Cond.static yLw_bound : Cond) ∈ dq_G := dq_in3 117 (by decide +kernel) rfl
theorem tw3_118 : (Cond.codeWith yLw_bound cLw_bound 3 (some .int) [(0, 8, 11, 21)] : Cond) ∈ dq_G := dq_in3 118 rfl rfl
theorem tw3_119 : (Cond.methodLink RLw 60 yDH_bound : Cond) ∈ dq_G := dq_in3 119 (by decide +kernel) rfl
theorem tw3_120 : (Cond.instanceMethod yDH_bound : Cond) ∈ dq_G := dq_in3 120 (by decide +kernel) rfl
theorem tw3_121 : (Cond.selects RDH yDH_bound yDH_bound : Cond) ∈ dq_G := dq_in3 121 (by decide +kernel) rfl
theorem tw3_122 : (Cond.code yDH_bound cDH_bound 3 (some .int) : Cond) ∈ dq_G := dq_in3 122 rfl rfl
theorem tw3_123 : (Cond.methodLink RDH 182 yHd_countThere : Cond) ∈ dq_G := dq_in3 123 (by decide +kernel) rfl
theorem tw3_124 : (Cond.instanceMethod yHd_countThere : Cond) ∈ dq_G := dq_in3 124 (by decide +kernel) rfl
theorem tw3_125 : (Cond.selects RHd yHd_countThere yHd_countThere : Cond) ∈ dq_G := dq_in3 125 (by decide +kernel) rfl
theorem tw3_126 : (Cond.code yHd_countThere cHd_countThere 3 (some .int) : Cond) ∈ dq_G := dq_in3 126 rfl rfl
theorem tw3_127 : (Cond.methodLink RDH 186 yIn_bitCount : Cond) ∈ dq_G := dq_in3 127 (by decide +kernel) rfl
theorem tw3_128 : (Cond.static yIn_bitCount : Cond) ∈ dq_G := dq_in3 128 (by decide +kernel) rfl
theorem tw3_129 : (Cond.code yIn_bitCount cIn_bitCount 1 (some .int) : Cond) ∈ dq_G := dq_in3 129 rfl rfl
theorem tw3_130 : (Cond.constant RIn 265 (1431655765) : Cond) ∈ dq_G := dq_in3 130 (by decide +kernel) rfl
theorem tw3_131 : (Cond.constant RIn 266 (858993459) : Cond) ∈ dq_G := dq_in3 131 (by decide +kernel) rfl
theorem tw3_132 : (Cond.constant RIn 267 (252645135) : Cond) ∈ dq_G := dq_in3 132 (by decide +kernel) rfl
theorem tw3_133 : (Cond.methodLink RLw 134 yLw_places : Cond) ∈ dq_G := dq_in3 133 (by decide +kernel) rfl
theorem tw3_134 : (Cond.static yLw_places : Cond) ∈ dq_G := dq_in3 134 (by decide +kernel) rfl
theorem tw3_135 : (Cond.codeWith yLw_places cLw_places 4 (some .int) [(0, 9, 12, 13)] : Cond) ∈ dq_G := dq_in3 135 rfl rfl
theorem tw3_136 : (Cond.methodLink RLw 64 yDH_places : Cond) ∈ dq_G := dq_in3 136 (by decide +kernel) rfl
theorem tw3_137 : (Cond.instanceMethod yDH_places : Cond) ∈ dq_G := dq_in3 137 (by decide +kernel) rfl
theorem tw3_138 : (Cond.selects RDH yDH_places yDH_places : Cond) ∈ dq_G := dq_in3 138 (by decide +kernel) rfl
theorem tw3_139 : (Cond.code yDH_places cDH_places 2 (some .int) : Cond) ∈ dq_G := dq_in3 139 rfl rfl
theorem tw3_140 : (Cond.methodLink RLw 137 yLw_seconds : Cond) ∈ dq_G := dq_in3 140 (by decide +kernel) rfl
theorem tw3_141 : (Cond.static yLw_seconds : Cond) ∈ dq_G := dq_in3 141 (by decide +kernel) rfl
theorem tw3_142 : (Cond.codeWith yLw_seconds cLw_seconds 3 (some .int) [(0, 7, 10, 21)] : Cond) ∈ dq_G := dq_in3 142 rfl rfl
theorem tw3_143 : (Cond.methodLink RLw 67 yDH_seconds : Cond) ∈ dq_G := dq_in3 143 (by decide +kernel) rfl
theorem tw3_144 : (Cond.instanceMethod yDH_seconds : Cond) ∈ dq_G := dq_in3 144 (by decide +kernel) rfl
theorem tw3_145 : (Cond.selects RDH yDH_seconds yDH_seconds : Cond) ∈ dq_G := dq_in3 145 (by decide +kernel) rfl
theorem tw3_146 : (Cond.code yDH_seconds cDH_seconds 2 (some .long) : Cond) ∈ dq_G := dq_in3 146 rfl rfl
theorem tw3_147 : (Cond.constantLong RDH 195 (500) : Cond) ∈ dq_G := dq_in3 147 (by decide +kernel) rfl
theorem tw3_148 : (Cond.classLink RLw 79 RMo : Cond) ∈ dq_G := dq_in3 148 (by decide +kernel) rfl
theorem tw3_149 : (Cond.instantiable RMo 29 : Cond) ∈ dq_G := dq_in3 149 (by decide +kernel) rfl
theorem tw3_150 : (Cond.methodLink RLw 81 yMo_init : Cond) ∈ dq_G := dq_in3 150 (by decide +kernel) rfl
theorem tw3_151 : (Cond.instanceMethod yMo_init : Cond) ∈ dq_G := dq_in3 151 (by decide +kernel) rfl
theorem tw3_152 : (Cond.code yMo_init cMo_init 2 none : Cond) ∈ dq_G := dq_in3 152 rfl rfl
theorem tw3_153 : (Cond.methodLink RMo 1 objectInit : Cond) ∈ dq_G := dq_in3 153 (by decide +kernel) rfl
theorem tw3_154 : (Cond.fieldLink RMo 79 "DrillHeadsModel" "code" "I" : Cond) ∈ dq_G := dq_in3 154 (by decide +kernel) rfl
theorem tw3_155 : (Cond.fieldLink RMo 75 "DrillHeadsModel" "spindles" "I" : Cond) ∈ dq_G := dq_in3 155 (by decide +kernel) rfl
theorem tw3_156 : (Cond.fieldLink RMo 7 "DrillHeadsModel" "sx" "[I" : Cond) ∈ dq_G := dq_in3 156 (by decide +kernel) rfl
theorem tw3_157 : (Cond.fieldLink RMo 13 "DrillHeadsModel" "sy" "[I" : Cond) ∈ dq_G := dq_in3 157 (by decide +kernel) rfl
theorem tw3_158 : (Cond.fieldLink RMo 16 "DrillHeadsModel" "sw" "[I" : Cond) ∈ dq_G := dq_in3 158 (by decide +kernel) rfl
theorem tw3_159 : (Cond.fieldLink RMo 90 "DrillHeadsModel" "holes" "I" : Cond) ∈ dq_G := dq_in3 159 (by decide +kernel) rfl
theorem tw3_160 : (Cond.fieldLink RMo 19 "DrillHeadsModel" "hx" "[I" : Cond) ∈ dq_G := dq_in3 160 (by decide +kernel) rfl
theorem tw3_161 : (Cond.fieldLink RMo 22 "DrillHeadsModel" "hy" "[I" : Cond) ∈ dq_G := dq_in3 161 (by decide +kernel) rfl
theorem tw3_162 : (Cond.fieldLink RMo 25 "DrillHeadsModel" "hw" "[I" : Cond) ∈ dq_G := dq_in3 162 (by decide +kernel) rfl
theorem tw3_163 : (Cond.fieldLink RMo 28 "DrillHeadsModel" "depths" "[I" : Cond) ∈ dq_G := dq_in3 163 (by decide +kernel) rfl
theorem tw3_164 : (Cond.fieldLink RMo 31 "DrillHeadsModel" "faces" "[I" : Cond) ∈ dq_G := dq_in3 164 (by decide +kernel) rfl
theorem tw3_165 : (Cond.fieldLink RMo 34 "DrillHeadsModel" "through" "[Z" : Cond) ∈ dq_G := dq_in3 165 (by decide +kernel) rfl
theorem tw3_166 : (Cond.fieldLink RMo 97 "DrillHeadsModel" "clamps" "I" : Cond) ∈ dq_G := dq_in3 166 (by decide +kernel) rfl
theorem tw3_167 : (Cond.fieldLink RMo 38 "DrillHeadsModel" "boxes" "[I" : Cond) ∈ dq_G := dq_in3 167 (by decide +kernel) rfl
theorem tw3_168 : (Cond.fieldLink RMo 86 "DrillHeadsModel" "planned" "Z" : Cond) ∈ dq_G := dq_in3 168 (by decide +kernel) rfl
theorem tw3_169 : (Cond.fieldLink RMo 127 "DrillHeadsModel" "hits" "I" : Cond) ∈ dq_G := dq_in3 169 (by decide +kernel) rfl
theorem tw3_170 : (Cond.fieldLink RMo 41 "DrillHeadsModel" "hitX" "[I" : Cond) ∈ dq_G := dq_in3 170 (by decide +kernel) rfl
theorem tw3_171 : (Cond.fieldLink RMo 44 "DrillHeadsModel" "hitY" "[I" : Cond) ∈ dq_G := dq_in3 171 (by decide +kernel) rfl
theorem tw3_172 : (Cond.fieldLink RMo 47 "DrillHeadsModel" "hitFace" "[I" : Cond) ∈ dq_G := dq_in3 172 (by decide +kernel) rfl
theorem tw3_173 : (Cond.fieldLink RMo 50 "DrillHeadsModel" "hitSet" "[I" : Cond) ∈ dq_G := dq_in3 173 (by decide +kernel) rfl
theorem tw3_174 : (Cond.fieldLink RMo 120 "DrillHeadsModel" "singles" "I" : Cond) ∈ dq_G := dq_in3 174 (by decide +kernel) rfl
theorem tw3_175 : (Cond.fieldLink RMo 53 "DrillHeadsModel" "order" "[I" : Cond) ∈ dq_G := dq_in3 175 (by decide +kernel) rfl
theorem tw3_176 : (Cond.fieldLink RMo 146 "DrillHeadsModel" "way" "J" : Cond) ∈ dq_G := dq_in3 176 (by decide +kernel) rfl
theorem tw3_177 : (Cond.fieldLink RMo 56 "DrillHeadsModel" "fewest" "[I" : Cond) ∈ dq_G := dq_in3 177 (by decide +kernel) rfl
theorem tw3_178 : (Cond.fieldLink RMo 59 "DrillHeadsModel" "placeX" "[I" : Cond) ∈ dq_G := dq_in3 178 (by decide +kernel) rfl
theorem tw3_179 : (Cond.fieldLink RMo 62 "DrillHeadsModel" "placeY" "[I" : Cond) ∈ dq_G := dq_in3 179 (by decide +kernel) rfl
theorem tw3_180 : (Cond.fieldLink RMo 65 "DrillHeadsModel" "placeSet" "[I" : Cond) ∈ dq_G := dq_in3 180 (by decide +kernel) rfl
theorem tw3_181 : (Cond.fieldLink RMo 68 "DrillHeadsModel" "placeCount" "[I" : Cond) ∈ dq_G := dq_in3 181 (by decide +kernel) rfl
theorem tw3_182 : (Cond.fieldLink RMo 71 "DrillHeadsModel" "rest" "[J" : Cond) ∈ dq_G := dq_in3 182 (by decide +kernel) rfl
theorem tw4_2 : (Cond.arrayClass .long : Cond) ∈ dq_G := dq_in4 2 (by decide +kernel) rfl
theorem tw4_3 : (Cond.methodLink RLw 86 yMo_thrown : Cond) ∈ dq_G := dq_in4 3 (by decide +kernel) rfl
theorem tw4_4 : (Cond.instanceMethod yMo_thrown : Cond) ∈ dq_G := dq_in4 4 (by decide +kernel) rfl
theorem tw4_5 : (Cond.selects RMo yMo_thrown yMo_thrown : Cond) ∈ dq_G := dq_in4 5 (by decide +kernel) rfl
theorem tw4_6 : (Cond.code yMo_thrown cMo_thrown 1 (some .int) : Cond) ∈ dq_G := dq_in4 6 rfl rfl
theorem tw4_7 : (Cond.methodLink RLw 85 yMo_spindle : Cond) ∈ dq_G := dq_in4 7 (by decide +kernel) rfl
theorem tw4_8 : (Cond.instanceMethod yMo_spindle : Cond) ∈ dq_G := dq_in4 8 (by decide +kernel) rfl
theorem tw4_9 : (Cond.selects RMo yMo_spindle yMo_spindle : Cond) ∈ dq_G := dq_in4 9 (by decide +kernel) rfl
theorem tw4_10 : (Cond.code yMo_spindle cMo_spindle 6 (some .boolean) : Cond) ∈ dq_G := dq_in4 10 rfl rfl
theorem tw4_11 : (Cond.methodLink RMo 82 yMo_isIn : Cond) ∈ dq_G := dq_in4 11 (by decide +kernel) rfl
theorem tw4_12 : (Cond.static yMo_isIn : Cond) ∈ dq_G := dq_in4 12 (by decide +kernel) rfl
theorem tw4_13 : (Cond.code yMo_isIn cMo_isIn 3 (some .boolean) : Cond) ∈ dq_G := dq_in4 13 rfl rfl
theorem tw4_14 : (Cond.methodLink RLw 92 yMo_hole : Cond) ∈ dq_G := dq_in4 14 (by decide +kernel) rfl
theorem tw4_15 : (Cond.instanceMethod yMo_hole : Cond) ∈ dq_G := dq_in4 15 (by decide +kernel) rfl
theorem tw4_16 : (Cond.selects RMo yMo_hole yMo_hole : Cond) ∈ dq_G := dq_in4 16 (by decide +kernel) rfl
theorem tw4_17 : (Cond.code yMo_hole cMo_hole 7 (some .int) : Cond) ∈ dq_G := dq_in4 17 rfl rfl
theorem tw4_18 : (Cond.methodLink RLw 96 yMo_through : Cond) ∈ dq_G := dq_in4 18 (by decide +kernel) rfl
theorem tw4_19 : (Cond.instanceMethod yMo_through : Cond) ∈ dq_G := dq_in4 19 (by decide +kernel) rfl
theorem tw4_20 : (Cond.selects RMo yMo_through yMo_through : Cond) ∈ dq_G := dq_in4 20 (by decide +kernel) rfl
theorem tw4_21 : (Cond.code yMo_through cMo_through 3 (some .boolean) : Cond) ∈ dq_G := dq_in4 21 rfl rfl
theorem tw4_22 : (Cond.methodLink RMo 93 yMo_noHole : Cond) ∈ dq_G := dq_in4 22 (by decide +kernel) rfl
theorem tw4_24 : (Cond.instanceMethod yMo_noHole : Cond) ∈ dq_G := dq_in4 24 (by decide +kernel) rfl
theorem tw4_25 : (Cond.code yMo_noHole cMo_noHole 2 (some .boolean) : Cond) ∈ dq_G := dq_in4 25 rfl rfl
theorem tw4_26 : (Cond.methodLink RLw 99 yMo_clamp : Cond) ∈ dq_G := dq_in4 26 (by decide +kernel) rfl
theorem tw4_27 : (Cond.instanceMethod yMo_clamp : Cond) ∈ dq_G := dq_in4 27 (by decide +kernel) rfl
theorem tw4_28 : (Cond.selects RMo yMo_clamp yMo_clamp : Cond) ∈ dq_G := dq_in4 28 (by decide +kernel) rfl
theorem tw4_29 : (Cond.code yMo_clamp cMo_clamp 6 (some .boolean) : Cond) ∈ dq_G := dq_in4 29 rfl rfl
theorem tw4_30 : (Cond.methodLink RLw 103 yMo_mirror : Cond) ∈ dq_G := dq_in4 30 (by decide +kernel) rfl
theorem tw4_31 : (Cond.instanceMethod yMo_mirror : Cond) ∈ dq_G := dq_in4 31 (by decide +kernel) rfl
theorem tw4_32 : (Cond.selects RMo yMo_mirror yMo_mirror : Cond) ∈ dq_G := dq_in4 32 (by decide +kernel) rfl
theorem tw4_33 : (Cond.code yMo_mirror cMo_mirror 3 (some .int) : Cond) ∈ dq_G := dq_in4 33 rfl rfl
theorem tw4_34 : (Cond.methodLink RLw 136 yMo_places : Cond) ∈ dq_G := dq_in4 34 (by decide +kernel) rfl
theorem tw4_35 : (Cond.instanceMethod yMo_places : Cond) ∈ dq_G := dq_in4 35 (by decide +kernel) rfl
theorem tw4_36 : (Cond.selects RMo yMo_places yMo_places : Cond) ∈ dq_G := dq_in4 36 (by decide +kernel) rfl
theorem tw4_37 : (Cond.code yMo_places cMo_places 2 (some .int) : Cond) ∈ dq_G := dq_in4 37 rfl rfl
theorem tw4_38 : (Cond.methodLink RMo 116 yMo_fillPlaces : Cond) ∈ dq_G := dq_in4 38 (by decide +kernel) rfl
theorem tw4_40 : (Cond.instanceMethod yMo_fillPlaces : Cond) ∈ dq_G := dq_in4 40 (by decide +kernel) rfl
theorem tw4_41 : (Cond.code yMo_fillPlaces cMo_fillPlaces 12 none : Cond) ∈ dq_G := dq_in4 41 rfl rfl
theorem tw4_42 : (Cond.constant RMo 101 (-1000000000) : Cond) ∈ dq_G := dq_in4 42 (by decide +kernel) rfl
theorem tw4_43 : (Cond.constant RMo 100 (1000000000) : Cond) ∈ dq_G := dq_in4 43 (by decide +kernel) rfl
theorem tw4_44 : (Cond.methodLink RMo 110 yMo_isBarred : Cond) ∈ dq_G := dq_in4 44 (by decide +kernel) rfl
theorem tw4_46 : (Cond.instanceMethod yMo_isBarred : Cond) ∈ dq_G := dq_in4 46 (by decide +kernel) rfl
theorem tw4_47 : (Cond.code yMo_isBarred cMo_isBarred 10 (some .boolean) : Cond) ∈ dq_G := dq_in4 47 rfl rfl
theorem tw4_48 : (Cond.methodLink RMo 113 yMo_drilledAt : Cond) ∈ dq_G := dq_in4 48 (by decide +kernel) rfl
theorem tw4_50 : (Cond.instanceMethod yMo_drilledAt : Cond) ∈ dq_G := dq_in4 50 (by decide +kernel) rfl
theorem tw4_51 : (Cond.code yMo_drilledAt cMo_drilledAt 6 (some .int) : Cond) ∈ dq_G := dq_in4 51 rfl rfl
theorem tw4_52 : (Cond.methodLink RMo 102 yMo_areAlike : Cond) ∈ dq_G := dq_in4 52 (by decide +kernel) rfl
theorem tw4_54 : (Cond.instanceMethod yMo_areAlike : Cond) ∈ dq_G := dq_in4 54 (by decide +kernel) rfl
theorem tw4_55 : (Cond.code yMo_areAlike cMo_areAlike 3 (some .boolean) : Cond) ∈ dq_G := dq_in4 55 rfl rfl
theorem tw4_56 : (Cond.methodLink RMo 106 yMo_spindleAt : Cond) ∈ dq_G := dq_in4 56 (by decide +kernel) rfl
theorem tw4_58 : (Cond.instanceMethod yMo_spindleAt : Cond) ∈ dq_G := dq_in4 58 (by decide +kernel) rfl
theorem tw4_59 : (Cond.code yMo_spindleAt cMo_spindleAt 5 (some .int) : Cond) ∈ dq_G := dq_in4 59 rfl rfl
theorem tw4_60 : (Cond.methodLink RLw 107 yMo_run : Cond) ∈ dq_G := dq_in4 60 (by decide +kernel) rfl
theorem tw4_61 : (Cond.instanceMethod yMo_run : Cond) ∈ dq_G := dq_in4 61 (by decide +kernel) rfl
theorem tw4_62 : (Cond.selects RMo yMo_run yMo_run : Cond) ∈ dq_G := dq_in4 62 (by decide +kernel) rfl
theorem tw4_63 : (Cond.code yMo_run cMo_run 5 (some .int) : Cond) ∈ dq_G := dq_in4 63 rfl rfl
theorem tw4_64 : (Cond.methodLink RMo 123 yMo_lowest : Cond) ∈ dq_G := dq_in4 64 (by decide +kernel) rfl
theorem tw4_65 : (Cond.static yMo_lowest : Cond) ∈ dq_G := dq_in4 65 (by decide +kernel) rfl
theorem tw4_66 : (Cond.code yMo_lowest cMo_lowest 2 (some .int) : Cond) ∈ dq_G := dq_in4 66 rfl rfl
theorem tw4_67 : (Cond.methodLink RMo 130 yMo_findOrder : Cond) ∈ dq_G := dq_in4 67 (by decide +kernel) rfl
theorem tw4_69 : (Cond.instanceMethod yMo_findOrder : Cond) ∈ dq_G := dq_in4 69 (by decide +kernel) rfl
theorem tw4_70 : (Cond.code yMo_findOrder cMo_findOrder 8 none : Cond) ∈ dq_G := dq_in4 70 rfl rfl
theorem tw4_71 : (Cond.constantLong RMo 137 (1152921504606846976) : Cond) ∈ dq_G := dq_in4 71 (by decide +kernel) rfl
theorem tw4_72 : (Cond.methodLink RMo 139 yMo_between : Cond) ∈ dq_G := dq_in4 72 (by decide +kernel) rfl
theorem tw4_74 : (Cond.instanceMethod yMo_between : Cond) ∈ dq_G := dq_in4 74 (by decide +kernel) rfl
theorem tw4_75 : (Cond.code yMo_between cMo_between 3 (some .long) : Cond) ∈ dq_G := dq_in4 75 rfl rfl
theorem tw4_76 : (Cond.methodLink RMo 133 yMo_size : Cond) ∈ dq_G := dq_in4 76 (by decide +kernel) rfl
theorem tw4_77 : (Cond.static yMo_size : Cond) ∈ dq_G := dq_in4 77 (by decide +kernel) rfl
theorem tw4_78 : (Cond.code yMo_size cMo_size 1 (some .long) : Cond) ∈ dq_G := dq_in4 78 rfl rfl
theorem tw4_79 : (Cond.methodLink RMo 143 yMo_walkOrder : Cond) ∈ dq_G := dq_in4 79 (by decide +kernel) rfl
theorem tw4_81 : (Cond.instanceMethod yMo_walkOrder : Cond) ∈ dq_G := dq_in4 81 (by decide +kernel) rfl
theorem tw4_82 : (Cond.code yMo_walkOrder cMo_walkOrder 11 none : Cond) ∈ dq_G := dq_in4 82 rfl rfl
theorem tw4_83 : (Cond.methodLink RLw 111 yMo_hit : Cond) ∈ dq_G := dq_in4 83 (by decide +kernel) rfl
theorem tw4_84 : (Cond.instanceMethod yMo_hit : Cond) ∈ dq_G := dq_in4 84 (by decide +kernel) rfl
theorem tw4_85 : (Cond.selects RMo yMo_hit yMo_hit : Cond) ∈ dq_G := dq_in4 85 (by decide +kernel) rfl
theorem tw4_86 : (Cond.code yMo_hit cMo_hit 3 (some .int) : Cond) ∈ dq_G := dq_in4 86 rfl rfl
theorem tw4_87 : (Cond.methodLink RMo 150 yMo_none : Cond) ∈ dq_G := dq_in4 87 (by decide +kernel) rfl
theorem tw4_89 : (Cond.instanceMethod yMo_none : Cond) ∈ dq_G := dq_in4 89 (by decide +kernel) rfl
theorem tw4_90 : (Cond.code yMo_none cMo_none 1 (some .boolean) : Cond) ∈ dq_G := dq_in4 90 rfl rfl
theorem tw4_91 : (Cond.methodLink RLw 114 yMo_drills : Cond) ∈ dq_G := dq_in4 91 (by decide +kernel) rfl
theorem tw4_92 : (Cond.instanceMethod yMo_drills : Cond) ∈ dq_G := dq_in4 92 (by decide +kernel) rfl
theorem tw4_93 : (Cond.selects RMo yMo_drills yMo_drills : Cond) ∈ dq_G := dq_in4 93 (by decide +kernel) rfl
theorem tw4_94 : (Cond.code yMo_drills cMo_drills 3 (some .boolean) : Cond) ∈ dq_G := dq_in4 94 rfl rfl
theorem tw4_95 : (Cond.methodLink RLw 117 yMo_by : Cond) ∈ dq_G := dq_in4 95 (by decide +kernel) rfl
theorem tw4_96 : (Cond.instanceMethod yMo_by : Cond) ∈ dq_G := dq_in4 96 (by decide +kernel) rfl
theorem tw4_97 : (Cond.selects RMo yMo_by yMo_by : Cond) ∈ dq_G := dq_in4 97 (by decide +kernel) rfl
theorem tw4_98 : (Cond.code yMo_by cMo_by 3 (some .int) : Cond) ∈ dq_G := dq_in4 98 rfl rfl
theorem tw4_99 : (Cond.methodLink RMo 154 yMo_noHoleOf : Cond) ∈ dq_G := dq_in4 99 (by decide +kernel) rfl
theorem tw4_101 : (Cond.instanceMethod yMo_noHoleOf : Cond) ∈ dq_G := dq_in4 101 (by decide +kernel) rfl
theorem tw4_102 : (Cond.code yMo_noHoleOf cMo_noHoleOf 2 (some .boolean) : Cond) ∈ dq_G := dq_in4 102 rfl rfl
theorem tw4_103 : (Cond.methodLink RLw 120 yMo_single : Cond) ∈ dq_G := dq_in4 103 (by decide +kernel) rfl
theorem tw4_104 : (Cond.instanceMethod yMo_single : Cond) ∈ dq_G := dq_in4 104 (by decide +kernel) rfl
theorem tw4_105 : (Cond.selects RMo yMo_single yMo_single : Cond) ∈ dq_G := dq_in4 105 (by decide +kernel) rfl
theorem tw4_106 : (Cond.code yMo_single cMo_single 2 (some .boolean) : Cond) ∈ dq_G := dq_in4 106 rfl rfl
theorem tw4_107 : (Cond.methodLink RLw 123 yMo_order : Cond) ∈ dq_G := dq_in4 107 (by decide +kernel) rfl
theorem tw4_108 : (Cond.instanceMethod yMo_order : Cond) ∈ dq_G := dq_in4 108 (by decide +kernel) rfl
theorem tw4_109 : (Cond.selects RMo yMo_order yMo_order : Cond) ∈ dq_G := dq_in4 109 (by decide +kernel) rfl
theorem tw4_110 : (Cond.code yMo_order cMo_order 2 (some .int) : Cond) ∈ dq_G := dq_in4 110 rfl rfl
theorem tw4_111 : (Cond.methodLink RLw 127 yMo_travel : Cond) ∈ dq_G := dq_in4 111 (by decide +kernel) rfl
theorem tw4_112 : (Cond.instanceMethod yMo_travel : Cond) ∈ dq_G := dq_in4 112 (by decide +kernel) rfl
theorem tw4_113 : (Cond.selects RMo yMo_travel yMo_travel : Cond) ∈ dq_G := dq_in4 113 (by decide +kernel) rfl
theorem tw4_114 : (Cond.code yMo_travel cMo_travel 1 (some .long) : Cond) ∈ dq_G := dq_in4 114 rfl rfl
theorem tw4_115 : (Cond.methodLink RLw 130 yMo_least : Cond) ∈ dq_G := dq_in4 115 (by decide +kernel) rfl
theorem tw4_116 : (Cond.instanceMethod yMo_least : Cond) ∈ dq_G := dq_in4 116 (by decide +kernel) rfl
theorem tw4_117 : (Cond.selects RMo yMo_least yMo_least : Cond) ∈ dq_G := dq_in4 117 (by decide +kernel) rfl
theorem tw4_118 : (Cond.code yMo_least cMo_least 1 (some .boolean) : Cond) ∈ dq_G := dq_in4 118 rfl rfl
theorem tw4_119 : (Cond.methodLink RLw 133 yMo_bound : Cond) ∈ dq_G := dq_in4 119 (by decide +kernel) rfl
theorem tw4_120 : (Cond.instanceMethod yMo_bound : Cond) ∈ dq_G := dq_in4 120 (by decide +kernel) rfl
theorem tw4_121 : (Cond.selects RMo yMo_bound yMo_bound : Cond) ∈ dq_G := dq_in4 121 (by decide +kernel) rfl
theorem tw4_122 : (Cond.code yMo_bound cMo_bound 3 (some .int) : Cond) ∈ dq_G := dq_in4 122 rfl rfl
theorem tw4_123 : (Cond.methodLink RMo 157 yMo_singleCount : Cond) ∈ dq_G := dq_in4 123 (by decide +kernel) rfl
theorem tw4_125 : (Cond.instanceMethod yMo_singleCount : Cond) ∈ dq_G := dq_in4 125 (by decide +kernel) rfl
theorem tw4_126 : (Cond.code yMo_singleCount cMo_singleCount 3 (some .int) : Cond) ∈ dq_G := dq_in4 126 rfl rfl
theorem tw4_127 : (Cond.methodLink RLw 139 yMo_seconds : Cond) ∈ dq_G := dq_in4 127 (by decide +kernel) rfl
theorem tw4_128 : (Cond.instanceMethod yMo_seconds : Cond) ∈ dq_G := dq_in4 128 (by decide +kernel) rfl
theorem tw4_129 : (Cond.selects RMo yMo_seconds yMo_seconds : Cond) ∈ dq_G := dq_in4 129 (by decide +kernel) rfl
theorem tw4_130 : (Cond.code yMo_seconds cMo_seconds 1 (some .long) : Cond) ∈ dq_G := dq_in4 130 rfl rfl
theorem tw4_131 : (Cond.constantLong RMo 161 (4) : Cond) ∈ dq_G := dq_in4 131 (by decide +kernel) rfl
theorem tw4_132 : (Cond.constantLong RMo 163 (12) : Cond) ∈ dq_G := dq_in4 132 (by decide +kernel) rfl
theorem tw4_133 : (Cond.constantLong RMo 165 (500) : Cond) ∈ dq_G := dq_in4 133 (by decide +kernel) rfl
theorem inCl : ∀ w ∈ u_ws RCl TCl 5, w ∈ dq_G := by
  intro w hw
  obtain ⟨k, hk, rfl⟩ := List.mem_map.mp hw
  have hk := List.mem_range.mp hk
  rcases (show k = 0 ∨ k = 1 ∨ k = 2 ∨ k = 3 ∨ k = 4 by omega) with rfl | rfl | rfl | rfl | rfl
  · exact dq_in1 119 (by decide +kernel) rfl
  · exact dq_in1 121 (by decide +kernel) rfl
  · exact dq_in1 123 (by decide +kernel) rfl
  · exact dq_in1 125 (by decide +kernel) rfl
  · exact dq_in1 127 (by decide +kernel) rfl
theorem inHd : ∀ w ∈ u_ws RHd THd 7, w ∈ dq_G := by
  intro w hw
  obtain ⟨k, hk, rfl⟩ := List.mem_map.mp hw
  have hk := List.mem_range.mp hk
  rcases (show k = 0 ∨ k = 1 ∨ k = 2 ∨ k = 3 ∨ k = 4 ∨ k = 5 ∨ k = 6 by omega) with rfl | rfl | rfl | rfl | rfl | rfl | rfl
  · exact dq_in1 53 (by decide +kernel) rfl
  · exact dq_in1 55 (by decide +kernel) rfl
  · exact dq_in1 57 (by decide +kernel) rfl
  · exact dq_in1 59 (by decide +kernel) rfl
  · exact dq_in1 61 (by decide +kernel) rfl
  · exact dq_in1 63 (by decide +kernel) rfl
  · exact dq_in1 65 (by decide +kernel) rfl
theorem inHt : ∀ w ∈ u_ws RHt THt 5, w ∈ dq_G := by
  intro w hw
  obtain ⟨k, hk, rfl⟩ := List.mem_map.mp hw
  have hk := List.mem_range.mp hk
  rcases (show k = 0 ∨ k = 1 ∨ k = 2 ∨ k = 3 ∨ k = 4 by omega) with rfl | rfl | rfl | rfl | rfl
  · exact dq_in1 175 (by decide +kernel) rfl
  · exact dq_in1 177 (by decide +kernel) rfl
  · exact dq_in1 179 (by decide +kernel) rfl
  · exact dq_in1 181 (by decide +kernel) rfl
  · exact dq_in1 183 (by decide +kernel) rfl
theorem inPt : ∀ w ∈ u_ws RPt TPt 7, w ∈ dq_G := by
  intro w hw
  obtain ⟨k, hk, rfl⟩ := List.mem_map.mp hw
  have hk := List.mem_range.mp hk
  rcases (show k = 0 ∨ k = 1 ∨ k = 2 ∨ k = 3 ∨ k = 4 ∨ k = 5 ∨ k = 6 by omega) with rfl | rfl | rfl | rfl | rfl | rfl | rfl
  · exact dq_in1 91 (by decide +kernel) rfl
  · exact dq_in1 93 (by decide +kernel) rfl
  · exact dq_in1 95 (by decide +kernel) rfl
  · exact dq_in1 97 (by decide +kernel) rfl
  · exact dq_in1 99 (by decide +kernel) rfl
  · exact dq_in1 101 (by decide +kernel) rfl
  · exact dq_in1 103 (by decide +kernel) rfl
theorem inPl : ∀ w ∈ u_ws RPl TPl 4, w ∈ dq_G := by
  intro w hw
  obtain ⟨k, hk, rfl⟩ := List.mem_map.mp hw
  have hk := List.mem_range.mp hk
  rcases (show k = 0 ∨ k = 1 ∨ k = 2 ∨ k = 3 by omega) with rfl | rfl | rfl | rfl
  · exact dq_in1 147 (by decide +kernel) rfl
  · exact dq_in1 149 (by decide +kernel) rfl
  · exact dq_in1 151 (by decide +kernel) rfl
  · exact dq_in1 153 (by decide +kernel) rfl
theorem inTb : ∀ w ∈ u_ws RTb TTb 1, w ∈ dq_G := by
  intro w hw
  obtain ⟨k, hk, rfl⟩ := List.mem_map.mp hw
  have hk := List.mem_range.mp hk
  rcases (show k = 0 by omega) with rfl
  · exact dq_in1 193 (by decide +kernel) rfl
theorem inWy : ∀ w ∈ u_ws RWy TWy 3, w ∈ dq_G := by
  intro w hw
  obtain ⟨k, hk, rfl⟩ := List.mem_map.mp hw
  have hk := List.mem_range.mp hk
  rcases (show k = 0 ∨ k = 1 ∨ k = 2 by omega) with rfl | rfl | rfl
  · exact dq_in1 207 (by decide +kernel) rfl
  · exact dq_in1 209 (by decide +kernel) rfl
  · exact dq_in1 211 (by decide +kernel) rfl
theorem inDH : ∀ w ∈ u_ws RDH TDH 9, w ∈ dq_G := by
  intro w hw
  obtain ⟨k, hk, rfl⟩ := List.mem_map.mp hw
  have hk := List.mem_range.mp hk
  rcases (show k = 0 ∨ k = 1 ∨ k = 2 ∨ k = 3 ∨ k = 4 ∨ k = 5 ∨ k = 6 ∨ k = 7 ∨ k = 8 by omega) with rfl | rfl | rfl | rfl | rfl | rfl | rfl | rfl | rfl
  · exact dq_in1 223 (by decide +kernel) rfl
  · exact dq_in1 225 (by decide +kernel) rfl
  · exact dq_in1 227 (by decide +kernel) rfl
  · exact dq_in1 229 (by decide +kernel) rfl
  · exact dq_in1 231 (by decide +kernel) rfl
  · exact dq_in1 233 (by decide +kernel) rfl
  · exact dq_in1 235 (by decide +kernel) rfl
  · exact dq_in1 237 (by decide +kernel) rfl
  · exact dq_in1 239 (by decide +kernel) rfl
theorem inMo : ∀ w ∈ u_ws RMo TMo 29, w ∈ dq_G := by
  intro w hw
  obtain ⟨k, hk, rfl⟩ := List.mem_map.mp hw
  have hk := List.mem_range.mp hk
  rcases (show k = 0 ∨ k = 1 ∨ k = 2 ∨ k = 3 ∨ k = 4 ∨ k = 5 ∨ k = 6 ∨ k = 7 ∨ k = 8 ∨ k = 9 ∨ k = 10 ∨ k = 11 ∨ k = 12 ∨ k = 13 ∨ k = 14 ∨ k = 15 ∨ k = 16 ∨ k = 17 ∨ k = 18 ∨ k = 19 ∨ k = 20 ∨ k = 21 ∨ k = 22 ∨ k = 23 ∨ k = 24 ∨ k = 25 ∨ k = 26 ∨ k = 27 ∨ k = 28 by omega) with rfl | rfl | rfl | rfl | rfl | rfl | rfl | rfl | rfl | rfl | rfl | rfl | rfl | rfl | rfl | rfl | rfl | rfl | rfl | rfl | rfl | rfl | rfl | rfl | rfl | rfl | rfl | rfl | rfl
  · exact dq_in3 183 (by decide +kernel) rfl
  · exact dq_in3 185 (by decide +kernel) rfl
  · exact dq_in3 187 (by decide +kernel) rfl
  · exact dq_in3 189 (by decide +kernel) rfl
  · exact dq_in3 191 (by decide +kernel) rfl
  · exact dq_in3 193 (by decide +kernel) rfl
  · exact dq_in3 195 (by decide +kernel) rfl
  · exact dq_in3 197 (by decide +kernel) rfl
  · exact dq_in3 199 (by decide +kernel) rfl
  · exact dq_in3 201 (by decide +kernel) rfl
  · exact dq_in3 203 (by decide +kernel) rfl
  · exact dq_in3 205 (by decide +kernel) rfl
  · exact dq_in3 207 (by decide +kernel) rfl
  · exact dq_in3 209 (by decide +kernel) rfl
  · exact dq_in3 211 (by decide +kernel) rfl
  · exact dq_in3 213 (by decide +kernel) rfl
  · exact dq_in3 215 (by decide +kernel) rfl
  · exact dq_in3 217 (by decide +kernel) rfl
  · exact dq_in3 219 (by decide +kernel) rfl
  · exact dq_in3 221 (by decide +kernel) rfl
  · exact dq_in3 223 (by decide +kernel) rfl
  · exact dq_in3 225 (by decide +kernel) rfl
  · exact dq_in3 227 (by decide +kernel) rfl
  · exact dq_in3 229 (by decide +kernel) rfl
  · exact dq_in3 231 (by decide +kernel) rfl
  · exact dq_in3 233 (by decide +kernel) rfl
  · exact dq_in3 235 (by decide +kernel) rfl
  · exact dq_in3 237 (by decide +kernel) rfl
  · exact dq_in3 239 (by decide +kernel) rfl
def wsDH_init : List Cond := .code yDH_init cDH_init 3 none :: dq_G
def wsHd_init : List Cond := .code yHd_init cHd_init 2 none :: dq_G
def wsPt_init : List Cond := .code yPt_init cPt_init 1 none :: dq_G
def wsCl_init : List Cond := .code yCl_init cCl_init 1 none :: dq_G
def wsPl_init : List Cond := .code yPl_init cPl_init 1 none :: dq_G
def wsHt_init : List Cond := .code yHt_init cHt_init 1 none :: dq_G
def wsTb_init : List Cond := .code yTb_init cTb_init 1 none :: dq_G
def wsWy_init : List Cond := .code yWy_init cWy_init 1 none :: dq_G
def wsDH_run : List Cond := .code yDH_run cDH_run 1 (some .int) :: dq_G
def wsDH_findPlaces : List Cond := .code yDH_findPlaces cDH_findPlaces 2 none :: dq_G
def wsPl_find : List Cond := .code yPl_find cPl_find 8 none :: dq_G
def wsCl_bar : List Cond := .code yCl_bar cCl_bar 5 (some .boolean) :: dq_G
def wsCl_overlap : List Cond := .code yCl_overlap cCl_overlap 4 (some .boolean) :: dq_G
def wsPl_insert : List Cond := .code yPl_insert cPl_insert 6 none :: dq_G
def wsPl_findDrilled : List Cond := .code yPl_findDrilled cPl_findDrilled 6 none :: dq_G
def wsPt_alike : List Cond := .code yPt_alike cPt_alike 3 (some .boolean) :: dq_G
def wsPt_spindleFor : List Cond := .code yPt_spindleFor cPt_spindleFor 5 (some .int) :: dq_G
def wsHd_spindleAt : List Cond := .code yHd_spindleAt cHd_spindleAt 5 (some .int) :: dq_G
def wsDH_planHits : List Cond := .code yDH_planHits cDH_planHits 7 none :: dq_G
def wsTb_fill : List Cond := .code yTb_fill cTb_fill 5 none :: dq_G
def wsTb_markReached : List Cond := .code yTb_markReached cTb_markReached 6 none :: dq_G
def wsDH_leastOf : List Cond := .code yDH_leastOf cDH_leastOf 1 (some .int) :: dq_G
def wsIn_numberOfTrailingZeros : List Cond := .code yIn_numberOfTrailingZeros cIn_numberOfTrailingZeros 2 (some .int) :: dq_G
def wsTb_fewestAfterHit : List Cond := .code yTb_fewestAfterHit cTb_fewestAfterHit 5 (some .int) :: dq_G
def wsTb_firstBest : List Cond := .code yTb_firstBest cTb_firstBest 5 (some .int) :: dq_G
def wsHt_add : List Cond := .code yHt_add cHt_add 5 none :: dq_G
def wsWy_find : List Cond := .code yWy_find cWy_find 2 none :: dq_G
def wsWy_fillShortest : List Cond := .code yWy_fillShortest cWy_fillShortest 7 none :: dq_G
def wsDH_holds : List Cond := .code yDH_holds cDH_holds 2 (some .boolean) :: dq_G
def wsWy_nextHit : List Cond := .code yWy_nextHit cWy_nextHit 9 (some .int) :: dq_G
def wsWy_wayOver : List Cond := .code yWy_wayOver cWy_wayOver 6 (some .int) :: dq_G
def wsWy_distance : List Cond := .code yWy_distance cWy_distance 4 (some .int) :: dq_G
def wsDH_without : List Cond := .code yDH_without cDH_without 2 (some .int) :: dq_G
def wsWy_takeShortest : List Cond := .code yWy_takeShortest cWy_takeShortest 7 none :: dq_G
def wsWy_takeOwnOrder : List Cond := .code yWy_takeOwnOrder cWy_takeOwnOrder 3 none :: dq_G
def wsWy_measure : List Cond := .code yWy_measure cWy_measure 6 none :: dq_G
def wsLw_cell : List Cond := .code yLw_cell cLw_cell 2 (some .int) :: dq_G
def wsLw_spindle : List Cond := .codeWith yLw_spindle cLw_spindle 7 (some .int) [(0, 21, 24, 13), (0, 21, 28, 15)] :: dq_G
def wsDH_spindle : List Cond := .code yDH_spindle cDH_spindle 6 (some .boolean) :: dq_G
def wsDH_requirePlace : List Cond := .code yDH_requirePlace cDH_requirePlace 2 none :: dq_G
def wsDH_requireWithin : List Cond := .code yDH_requireWithin cDH_requireWithin 3 none :: dq_G
def wsHd_change : List Cond := .code yHd_change cHd_change 5 (some .boolean) :: dq_G
def wsHd_measureFrame : List Cond := .code yHd_measureFrame cHd_measureFrame 6 none :: dq_G
def wsLw_hole : List Cond := .codeWith yLw_hole cLw_hole 8 (some .int) [(0, 16, 19, 21), (0, 16, 23, 15)] :: dq_G
def wsDH_hole : List Cond := .code yDH_hole cDH_hole 6 (some .int) :: dq_G
def wsPt_add : List Cond := .code yPt_add cPt_add 7 (some .int) :: dq_G
def wsLw_through : List Cond := .codeWith yLw_through cLw_through 5 (some .int) [(0, 17, 20, 13)] :: dq_G
def wsDH_through : List Cond := .code yDH_through cDH_through 3 (some .boolean) :: dq_G
def wsDH_requireHole : List Cond := .code yDH_requireHole cDH_requireHole 2 none :: dq_G
def wsLw_clamp : List Cond := .codeWith yLw_clamp cLw_clamp 7 (some .int) [(0, 21, 24, 15)] :: dq_G
def wsDH_clamp : List Cond := .code yDH_clamp cDH_clamp 5 (some .boolean) :: dq_G
def wsCl_add : List Cond := .code yCl_add cCl_add 5 none :: dq_G
def wsLw_mirror : List Cond := .codeWith yLw_mirror cLw_mirror 4 (some .int) [(0, 9, 12, 15)] :: dq_G
def wsDH_mirror : List Cond := .code yDH_mirror cDH_mirror 2 (some .int) :: dq_G
def wsDH_negate : List Cond := .code yDH_negate cDH_negate 3 none :: dq_G
def wsLw_hit : List Cond := .codeWith yLw_hit cLw_hit 5 (some .int) [(0, 10, 13, 21), (0, 10, 17, 13), (0, 10, 21, 15)] :: dq_G
def wsDH_hit : List Cond := .code yDH_hit cDH_hit 3 (some .int) :: dq_G
def wsDH_requirePlanned : List Cond := .code yDH_requirePlanned cDH_requirePlanned 1 none :: dq_G
def wsDH_requireHit : List Cond := .code yDH_requireHit cDH_requireHit 2 none :: dq_G
def wsLw_drills : List Cond := .codeWith yLw_drills cLw_drills 5 (some .int) [(0, 17, 20, 21), (0, 17, 24, 13)] :: dq_G
def wsDH_drills : List Cond := .code yDH_drills cDH_drills 3 (some .boolean) :: dq_G
def wsLw_by : List Cond := .codeWith yLw_by cLw_by 4 (some .int) [(0, 9, 12, 21), (0, 9, 15, 13)] :: dq_G
def wsDH_by : List Cond := .code yDH_by cDH_by 3 (some .int) :: dq_G
def wsHt_drilling : List Cond := .code yHt_drilling cHt_drilling 3 (some .int) :: dq_G
def wsLw_single : List Cond := .codeWith yLw_single cLw_single 4 (some .int) [(0, 16, 19, 21), (0, 16, 22, 13)] :: dq_G
def wsDH_single : List Cond := .code yDH_single cDH_single 2 (some .boolean) :: dq_G
def wsLw_order : List Cond := .codeWith yLw_order cLw_order 4 (some .int) [(0, 9, 12, 21), (0, 9, 15, 13)] :: dq_G
def wsDH_order : List Cond := .code yDH_order cDH_order 2 (some .int) :: dq_G
def wsLw_travel : List Cond := .codeWith yLw_travel cLw_travel 3 (some .int) [(0, 7, 10, 21)] :: dq_G
def wsDH_travel : List Cond := .code yDH_travel cDH_travel 1 (some .long) :: dq_G
def wsLw_least : List Cond := .codeWith yLw_least cLw_least 3 (some .int) [(0, 15, 18, 21)] :: dq_G
def wsDH_least : List Cond := .code yDH_least cDH_least 1 (some .boolean) :: dq_G
def wsLw_bound : List Cond := .codeWith yLw_bound cLw_bound 3 (some .int) [(0, 8, 11, 21)] :: dq_G
def wsDH_bound : List Cond := .code yDH_bound cDH_bound 3 (some .int) :: dq_G
def wsHd_countThere : List Cond := .code yHd_countThere cHd_countThere 3 (some .int) :: dq_G
def wsIn_bitCount : List Cond := .code yIn_bitCount cIn_bitCount 1 (some .int) :: dq_G
def wsLw_places : List Cond := .codeWith yLw_places cLw_places 4 (some .int) [(0, 9, 12, 13)] :: dq_G
def wsDH_places : List Cond := .code yDH_places cDH_places 2 (some .int) :: dq_G
def wsLw_seconds : List Cond := .codeWith yLw_seconds cLw_seconds 3 (some .int) [(0, 7, 10, 21)] :: dq_G
def wsDH_seconds : List Cond := .code yDH_seconds cDH_seconds 2 (some .long) :: dq_G
def wsMo_init : List Cond := .code yMo_init cMo_init 2 none :: dq_G
def wsMo_thrown : List Cond := .code yMo_thrown cMo_thrown 1 (some .int) :: dq_G
def wsMo_spindle : List Cond := .code yMo_spindle cMo_spindle 6 (some .boolean) :: dq_G
def wsMo_isIn : List Cond := .code yMo_isIn cMo_isIn 3 (some .boolean) :: dq_G
def wsMo_hole : List Cond := .code yMo_hole cMo_hole 7 (some .int) :: dq_G
def wsMo_through : List Cond := .code yMo_through cMo_through 3 (some .boolean) :: dq_G
def wsMo_noHole : List Cond := .code yMo_noHole cMo_noHole 2 (some .boolean) :: dq_G
def wsMo_clamp : List Cond := .code yMo_clamp cMo_clamp 6 (some .boolean) :: dq_G
def wsMo_mirror : List Cond := .code yMo_mirror cMo_mirror 3 (some .int) :: dq_G
def wsMo_places : List Cond := .code yMo_places cMo_places 2 (some .int) :: dq_G
def wsMo_fillPlaces : List Cond := .code yMo_fillPlaces cMo_fillPlaces 12 none :: dq_G
def wsMo_isBarred : List Cond := .code yMo_isBarred cMo_isBarred 10 (some .boolean) :: dq_G
def wsMo_drilledAt : List Cond := .code yMo_drilledAt cMo_drilledAt 6 (some .int) :: dq_G
def wsMo_areAlike : List Cond := .code yMo_areAlike cMo_areAlike 3 (some .boolean) :: dq_G
def wsMo_spindleAt : List Cond := .code yMo_spindleAt cMo_spindleAt 5 (some .int) :: dq_G
def wsMo_run : List Cond := .code yMo_run cMo_run 5 (some .int) :: dq_G
def wsMo_lowest : List Cond := .code yMo_lowest cMo_lowest 2 (some .int) :: dq_G
def wsMo_findOrder : List Cond := .code yMo_findOrder cMo_findOrder 8 none :: dq_G
def wsMo_between : List Cond := .code yMo_between cMo_between 3 (some .long) :: dq_G
def wsMo_size : List Cond := .code yMo_size cMo_size 1 (some .long) :: dq_G
def wsMo_walkOrder : List Cond := .code yMo_walkOrder cMo_walkOrder 11 none :: dq_G
def wsMo_hit : List Cond := .code yMo_hit cMo_hit 3 (some .int) :: dq_G
def wsMo_none : List Cond := .code yMo_none cMo_none 1 (some .boolean) :: dq_G
def wsMo_drills : List Cond := .code yMo_drills cMo_drills 3 (some .boolean) :: dq_G
def wsMo_by : List Cond := .code yMo_by cMo_by 3 (some .int) :: dq_G
def wsMo_noHoleOf : List Cond := .code yMo_noHoleOf cMo_noHoleOf 2 (some .boolean) :: dq_G
def wsMo_single : List Cond := .code yMo_single cMo_single 2 (some .boolean) :: dq_G
def wsMo_order : List Cond := .code yMo_order cMo_order 2 (some .int) :: dq_G
def wsMo_travel : List Cond := .code yMo_travel cMo_travel 1 (some .long) :: dq_G
def wsMo_least : List Cond := .code yMo_least cMo_least 1 (some .boolean) :: dq_G
def wsMo_bound : List Cond := .code yMo_bound cMo_bound 3 (some .int) :: dq_G
def wsMo_singleCount : List Cond := .code yMo_singleCount cMo_singleCount 3 (some .int) :: dq_G
def wsMo_seconds : List Cond := .code yMo_seconds cMo_seconds 1 (some .long) :: dq_G
end
section
theorem dHd_init_0 : decode cHd_init 0 = .ok (.aload_n 0, 1) := by decide +kernel
theorem dHd_init_1 : decode cHd_init 1 = .ok (.invokespecial 3, 3) := by decide +kernel
theorem dHd_init_4 : decode cHd_init 4 = .ok (.aload_n 0, 1) := by decide +kernel
theorem dHd_init_5 : decode cHd_init 5 = .ok (.iload_n 1, 1) := by decide +kernel
theorem dHd_init_6 : decode cHd_init 6 = .ok (.newarray .int, 2) := by decide +kernel
theorem dHd_init_8 : decode cHd_init 8 = .ok (.putfield 9, 3) := by decide +kernel
theorem dHd_init_11 : decode cHd_init 11 = .ok (.aload_n 0, 1) := by decide +kernel
theorem dHd_init_12 : decode cHd_init 12 = .ok (.iload_n 1, 1) := by decide +kernel
theorem dHd_init_13 : decode cHd_init 13 = .ok (.newarray .int, 2) := by decide +kernel
theorem dHd_init_15 : decode cHd_init 15 = .ok (.putfield 15, 3) := by decide +kernel
theorem dHd_init_18 : decode cHd_init 18 = .ok (.aload_n 0, 1) := by decide +kernel
theorem dHd_init_19 : decode cHd_init 19 = .ok (.iload_n 1, 1) := by decide +kernel
theorem dHd_init_20 : decode cHd_init 20 = .ok (.newarray .int, 2) := by decide +kernel
theorem dHd_init_22 : decode cHd_init 22 = .ok (.putfield 18, 3) := by decide +kernel
theorem dHd_init_25 : decode cHd_init 25 = .ok (.return_, 1) := by decide +kernel
theorem dPt_init_0 : decode cPt_init 0 = .ok (.aload_n 0, 1) := by decide +kernel
theorem dPt_init_1 : decode cPt_init 1 = .ok (.invokespecial 3, 3) := by decide +kernel
theorem dPt_init_4 : decode cPt_init 4 = .ok (.aload_n 0, 1) := by decide +kernel
theorem dPt_init_5 : decode cPt_init 5 = .ok (.bipush 14, 2) := by decide +kernel
theorem dPt_init_7 : decode cPt_init 7 = .ok (.newarray .int, 2) := by decide +kernel
theorem dPt_init_9 : decode cPt_init 9 = .ok (.putfield 9, 3) := by decide +kernel
theorem dPt_init_12 : decode cPt_init 12 = .ok (.aload_n 0, 1) := by decide +kernel
theorem dPt_init_13 : decode cPt_init 13 = .ok (.bipush 14, 2) := by decide +kernel
theorem dPt_init_15 : decode cPt_init 15 = .ok (.newarray .int, 2) := by decide +kernel
theorem dPt_init_17 : decode cPt_init 17 = .ok (.putfield 15, 3) := by decide +kernel
theorem dPt_init_20 : decode cPt_init 20 = .ok (.aload_n 0, 1) := by decide +kernel
theorem dPt_init_21 : decode cPt_init 21 = .ok (.bipush 14, 2) := by decide +kernel
theorem dPt_init_23 : decode cPt_init 23 = .ok (.newarray .int, 2) := by decide +kernel
theorem dPt_init_25 : decode cPt_init 25 = .ok (.putfield 18, 3) := by decide +kernel
theorem dPt_init_28 : decode cPt_init 28 = .ok (.aload_n 0, 1) := by decide +kernel
theorem dPt_init_29 : decode cPt_init 29 = .ok (.bipush 14, 2) := by decide +kernel
theorem dPt_init_31 : decode cPt_init 31 = .ok (.newarray .int, 2) := by decide +kernel
theorem dPt_init_33 : decode cPt_init 33 = .ok (.putfield 21, 3) := by decide +kernel
theorem dPt_init_36 : decode cPt_init 36 = .ok (.aload_n 0, 1) := by decide +kernel
theorem dPt_init_37 : decode cPt_init 37 = .ok (.bipush 14, 2) := by decide +kernel
theorem dPt_init_39 : decode cPt_init 39 = .ok (.newarray .int, 2) := by decide +kernel
theorem dPt_init_41 : decode cPt_init 41 = .ok (.putfield 24, 3) := by decide +kernel
theorem dPt_init_44 : decode cPt_init 44 = .ok (.aload_n 0, 1) := by decide +kernel
theorem dPt_init_45 : decode cPt_init 45 = .ok (.bipush 14, 2) := by decide +kernel
theorem dPt_init_47 : decode cPt_init 47 = .ok (.newarray .boolean, 2) := by decide +kernel
theorem dPt_init_49 : decode cPt_init 49 = .ok (.putfield 27, 3) := by decide +kernel
theorem dPt_init_52 : decode cPt_init 52 = .ok (.return_, 1) := by decide +kernel
theorem dCl_init_0 : decode cCl_init 0 = .ok (.aload_n 0, 1) := by decide +kernel
theorem dCl_init_1 : decode cCl_init 1 = .ok (.invokespecial 3, 3) := by decide +kernel
theorem dCl_init_4 : decode cCl_init 4 = .ok (.aload_n 0, 1) := by decide +kernel
theorem dCl_init_5 : decode cCl_init 5 = .ok (.bipush 6, 2) := by decide +kernel
theorem dCl_init_7 : decode cCl_init 7 = .ok (.newarray .int, 2) := by decide +kernel
theorem dCl_init_9 : decode cCl_init 9 = .ok (.putfield 9, 3) := by decide +kernel
theorem dCl_init_12 : decode cCl_init 12 = .ok (.aload_n 0, 1) := by decide +kernel
theorem dCl_init_13 : decode cCl_init 13 = .ok (.bipush 6, 2) := by decide +kernel
theorem dCl_init_15 : decode cCl_init 15 = .ok (.newarray .int, 2) := by decide +kernel
theorem dCl_init_17 : decode cCl_init 17 = .ok (.putfield 15, 3) := by decide +kernel
theorem dCl_init_20 : decode cCl_init 20 = .ok (.aload_n 0, 1) := by decide +kernel
theorem dCl_init_21 : decode cCl_init 21 = .ok (.bipush 6, 2) := by decide +kernel
theorem dCl_init_23 : decode cCl_init 23 = .ok (.newarray .int, 2) := by decide +kernel
theorem dCl_init_25 : decode cCl_init 25 = .ok (.putfield 18, 3) := by decide +kernel
theorem dCl_init_28 : decode cCl_init 28 = .ok (.aload_n 0, 1) := by decide +kernel
theorem dCl_init_29 : decode cCl_init 29 = .ok (.bipush 6, 2) := by decide +kernel
theorem dCl_init_31 : decode cCl_init 31 = .ok (.newarray .int, 2) := by decide +kernel
theorem dCl_init_33 : decode cCl_init 33 = .ok (.putfield 21, 3) := by decide +kernel
theorem dCl_init_36 : decode cCl_init 36 = .ok (.return_, 1) := by decide +kernel
theorem dPl_init_0 : decode cPl_init 0 = .ok (.aload_n 0, 1) := by decide +kernel
theorem dPl_init_1 : decode cPl_init 1 = .ok (.invokespecial 3, 3) := by decide +kernel
theorem dPl_init_4 : decode cPl_init 4 = .ok (.aload_n 0, 1) := by decide +kernel
theorem dPl_init_5 : decode cPl_init 5 = .ok (.bipush 16, 2) := by decide +kernel
theorem dPl_init_7 : decode cPl_init 7 = .ok (.newarray .int, 2) := by decide +kernel
theorem dPl_init_9 : decode cPl_init 9 = .ok (.putfield 9, 3) := by decide +kernel
theorem dPl_init_12 : decode cPl_init 12 = .ok (.aload_n 0, 1) := by decide +kernel
theorem dPl_init_13 : decode cPl_init 13 = .ok (.bipush 16, 2) := by decide +kernel
theorem dPl_init_15 : decode cPl_init 15 = .ok (.newarray .int, 2) := by decide +kernel
theorem dPl_init_17 : decode cPl_init 17 = .ok (.putfield 15, 3) := by decide +kernel
theorem dPl_init_20 : decode cPl_init 20 = .ok (.aload_n 0, 1) := by decide +kernel
theorem dPl_init_21 : decode cPl_init 21 = .ok (.bipush 16, 2) := by decide +kernel
theorem dPl_init_23 : decode cPl_init 23 = .ok (.newarray .int, 2) := by decide +kernel
theorem dPl_init_25 : decode cPl_init 25 = .ok (.putfield 18, 3) := by decide +kernel
theorem dPl_init_28 : decode cPl_init 28 = .ok (.return_, 1) := by decide +kernel
theorem dHt_init_0 : decode cHt_init 0 = .ok (.aload_n 0, 1) := by decide +kernel
theorem dHt_init_1 : decode cHt_init 1 = .ok (.invokespecial 3, 3) := by decide +kernel
theorem dHt_init_4 : decode cHt_init 4 = .ok (.aload_n 0, 1) := by decide +kernel
theorem dHt_init_5 : decode cHt_init 5 = .ok (.bipush 14, 2) := by decide +kernel
theorem dHt_init_7 : decode cHt_init 7 = .ok (.newarray .int, 2) := by decide +kernel
theorem dHt_init_9 : decode cHt_init 9 = .ok (.putfield 9, 3) := by decide +kernel
theorem dHt_init_12 : decode cHt_init 12 = .ok (.aload_n 0, 1) := by decide +kernel
theorem dHt_init_13 : decode cHt_init 13 = .ok (.bipush 14, 2) := by decide +kernel
theorem dHt_init_15 : decode cHt_init 15 = .ok (.newarray .int, 2) := by decide +kernel
theorem dHt_init_17 : decode cHt_init 17 = .ok (.putfield 15, 3) := by decide +kernel
theorem dHt_init_20 : decode cHt_init 20 = .ok (.aload_n 0, 1) := by decide +kernel
theorem dHt_init_21 : decode cHt_init 21 = .ok (.bipush 14, 2) := by decide +kernel
theorem dHt_init_23 : decode cHt_init 23 = .ok (.newarray .int, 2) := by decide +kernel
theorem dHt_init_25 : decode cHt_init 25 = .ok (.putfield 18, 3) := by decide +kernel
theorem dHt_init_28 : decode cHt_init 28 = .ok (.aload_n 0, 1) := by decide +kernel
theorem dHt_init_29 : decode cHt_init 29 = .ok (.bipush 14, 2) := by decide +kernel
theorem dHt_init_31 : decode cHt_init 31 = .ok (.newarray .int, 2) := by decide +kernel
theorem dHt_init_33 : decode cHt_init 33 = .ok (.putfield 21, 3) := by decide +kernel
theorem dHt_init_36 : decode cHt_init 36 = .ok (.return_, 1) := by decide +kernel
theorem dTb_init_0 : decode cTb_init 0 = .ok (.aload_n 0, 1) := by decide +kernel
theorem dTb_init_1 : decode cTb_init 1 = .ok (.invokespecial 3, 3) := by decide +kernel
theorem dTb_init_4 : decode cTb_init 4 = .ok (.aload_n 0, 1) := by decide +kernel
theorem dTb_init_5 : decode cTb_init 5 = .ok (.iconst 1, 1) := by decide +kernel
theorem dTb_init_6 : decode cTb_init 6 = .ok (.newarray .int, 2) := by decide +kernel
theorem dTb_init_8 : decode cTb_init 8 = .ok (.putfield 9, 3) := by decide +kernel
theorem dTb_init_11 : decode cTb_init 11 = .ok (.return_, 1) := by decide +kernel
theorem dWy_init_0 : decode cWy_init 0 = .ok (.aload_n 0, 1) := by decide +kernel
theorem dWy_init_1 : decode cWy_init 1 = .ok (.invokespecial 3, 3) := by decide +kernel
theorem dWy_init_4 : decode cWy_init 4 = .ok (.aload_n 0, 1) := by decide +kernel
theorem dWy_init_5 : decode cWy_init 5 = .ok (.bipush 14, 2) := by decide +kernel
theorem dWy_init_7 : decode cWy_init 7 = .ok (.newarray .int, 2) := by decide +kernel
theorem dWy_init_9 : decode cWy_init 9 = .ok (.putfield 9, 3) := by decide +kernel
theorem dWy_init_12 : decode cWy_init 12 = .ok (.aload_n 0, 1) := by decide +kernel
theorem dWy_init_13 : decode cWy_init 13 = .ok (.iconst 0, 1) := by decide +kernel
theorem dWy_init_14 : decode cWy_init 14 = .ok (.newarray .int, 2) := by decide +kernel
theorem dWy_init_16 : decode cWy_init 16 = .ok (.putfield 15, 3) := by decide +kernel
theorem dWy_init_19 : decode cWy_init 19 = .ok (.return_, 1) := by decide +kernel
theorem dPl_find_0 : decode cPl_find 0 = .ok (.aload_n 0, 1) := by decide +kernel
theorem dPl_find_1 : decode cPl_find 1 = .ok (.iconst 0, 1) := by decide +kernel
theorem dPl_find_2 : decode cPl_find 2 = .ok (.putfield 21, 3) := by decide +kernel
theorem dPl_find_5 : decode cPl_find 5 = .ok (.iconst 0, 1) := by decide +kernel
theorem dPl_find_6 : decode cPl_find 6 = .ok (.istore 5, 2) := by decide +kernel
theorem dPl_find_8 : decode cPl_find 8 = .ok (.iload 5, 2) := by decide +kernel
theorem dPl_find_10 : decode cPl_find 10 = .ok (.aload_n 3, 1) := by decide +kernel
theorem dPl_find_11 : decode cPl_find 11 = .ok (.getfield 25, 3) := by decide +kernel
theorem dPl_find_14 : decode cPl_find 14 = .ok (.arraylength, 1) := by decide +kernel
theorem dPl_find_15 : decode cPl_find 15 = .ok (.if_icmp .ge 78, 3) := by decide +kernel
theorem dPl_find_18 : decode cPl_find 18 = .ok (.aload_n 3, 1) := by decide +kernel
theorem dPl_find_19 : decode cPl_find 19 = .ok (.getfield 25, 3) := by decide +kernel
theorem dPl_find_22 : decode cPl_find 22 = .ok (.iload 5, 2) := by decide +kernel
theorem dPl_find_24 : decode cPl_find 24 = .ok (.iaload, 1) := by decide +kernel
theorem dPl_find_25 : decode cPl_find 25 = .ok (.aload_n 2, 1) := by decide +kernel
theorem dPl_find_26 : decode cPl_find 26 = .ok (.getfield 30, 3) := by decide +kernel
theorem dPl_find_29 : decode cPl_find 29 = .ok (.iload_n 1, 1) := by decide +kernel
theorem dPl_find_30 : decode cPl_find 30 = .ok (.iaload, 1) := by decide +kernel
theorem dPl_find_31 : decode cPl_find 31 = .ok (.if_icmp .ne 56, 3) := by decide +kernel
theorem dPl_find_34 : decode cPl_find 34 = .ok (.aload_n 2, 1) := by decide +kernel
theorem dPl_find_35 : decode cPl_find 35 = .ok (.getfield 33, 3) := by decide +kernel
theorem dPl_find_38 : decode cPl_find 38 = .ok (.iload_n 1, 1) := by decide +kernel
theorem dPl_find_39 : decode cPl_find 39 = .ok (.iaload, 1) := by decide +kernel
theorem dPl_find_40 : decode cPl_find 40 = .ok (.aload_n 3, 1) := by decide +kernel
theorem dPl_find_41 : decode cPl_find 41 = .ok (.getfield 34, 3) := by decide +kernel
theorem dPl_find_44 : decode cPl_find 44 = .ok (.iload 5, 2) := by decide +kernel
theorem dPl_find_46 : decode cPl_find 46 = .ok (.iaload, 1) := by decide +kernel
theorem dPl_find_47 : decode cPl_find 47 = .ok (.isub, 1) := by decide +kernel
theorem dPl_find_48 : decode cPl_find 48 = .ok (.istore 6, 2) := by decide +kernel
theorem dPl_find_50 : decode cPl_find 50 = .ok (.aload_n 2, 1) := by decide +kernel
theorem dPl_find_51 : decode cPl_find 51 = .ok (.getfield 35, 3) := by decide +kernel
theorem dPl_find_54 : decode cPl_find 54 = .ok (.iload_n 1, 1) := by decide +kernel
theorem dPl_find_55 : decode cPl_find 55 = .ok (.iaload, 1) := by decide +kernel
theorem dPl_find_56 : decode cPl_find 56 = .ok (.aload_n 3, 1) := by decide +kernel
theorem dPl_find_57 : decode cPl_find 57 = .ok (.getfield 36, 3) := by decide +kernel
theorem dPl_find_60 : decode cPl_find 60 = .ok (.iload 5, 2) := by decide +kernel
theorem dPl_find_62 : decode cPl_find 62 = .ok (.iaload, 1) := by decide +kernel
theorem dPl_find_63 : decode cPl_find 63 = .ok (.isub, 1) := by decide +kernel
theorem dPl_find_64 : decode cPl_find 64 = .ok (.istore 7, 2) := by decide +kernel
theorem dPl_find_66 : decode cPl_find 66 = .ok (.aload 4, 2) := by decide +kernel
theorem dPl_find_68 : decode cPl_find 68 = .ok (.aload_n 3, 1) := by decide +kernel
theorem dPl_find_69 : decode cPl_find 69 = .ok (.iload 6, 2) := by decide +kernel
theorem dPl_find_71 : decode cPl_find 71 = .ok (.iload 7, 2) := by decide +kernel
theorem dPl_find_73 : decode cPl_find 73 = .ok (.invokevirtual 37, 3) := by decide +kernel
theorem dPl_find_76 : decode cPl_find 76 = .ok (.ifCond .ne 11, 3) := by decide +kernel
theorem dPl_find_79 : decode cPl_find 79 = .ok (.aload_n 0, 1) := by decide +kernel
theorem dPl_find_80 : decode cPl_find 80 = .ok (.iload 6, 2) := by decide +kernel
theorem dPl_find_82 : decode cPl_find 82 = .ok (.iload 7, 2) := by decide +kernel
theorem dPl_find_84 : decode cPl_find 84 = .ok (.invokevirtual 43, 3) := by decide +kernel
theorem dPl_find_87 : decode cPl_find 87 = .ok (.iinc 5 1, 3) := by decide +kernel
theorem dPl_find_90 : decode cPl_find 90 = .ok (.goto (-82), 3) := by decide +kernel
theorem dPl_find_93 : decode cPl_find 93 = .ok (.return_, 1) := by decide +kernel
theorem dCl_bar_0 : decode cCl_bar 0 = .ok (.iconst 0, 1) := by decide +kernel
theorem dCl_bar_1 : decode cCl_bar 1 = .ok (.istore 4, 2) := by decide +kernel
theorem dCl_bar_3 : decode cCl_bar 3 = .ok (.iload 4, 2) := by decide +kernel
theorem dCl_bar_5 : decode cCl_bar 5 = .ok (.aload_n 0, 1) := by decide +kernel
theorem dCl_bar_6 : decode cCl_bar 6 = .ok (.getfield 24, 3) := by decide +kernel
theorem dCl_bar_9 : decode cCl_bar 9 = .ok (.if_icmp .ge 75, 3) := by decide +kernel
theorem dCl_bar_12 : decode cCl_bar 12 = .ok (.aload_n 0, 1) := by decide +kernel
theorem dCl_bar_13 : decode cCl_bar 13 = .ok (.getfield 9, 3) := by decide +kernel
theorem dCl_bar_16 : decode cCl_bar 16 = .ok (.iload 4, 2) := by decide +kernel
theorem dCl_bar_18 : decode cCl_bar 18 = .ok (.iaload, 1) := by decide +kernel
theorem dCl_bar_19 : decode cCl_bar 19 = .ok (.aload_n 0, 1) := by decide +kernel
theorem dCl_bar_20 : decode cCl_bar 20 = .ok (.getfield 18, 3) := by decide +kernel
theorem dCl_bar_23 : decode cCl_bar 23 = .ok (.iload 4, 2) := by decide +kernel
theorem dCl_bar_25 : decode cCl_bar 25 = .ok (.iaload, 1) := by decide +kernel
theorem dCl_bar_26 : decode cCl_bar 26 = .ok (.iload_n 2, 1) := by decide +kernel
theorem dCl_bar_27 : decode cCl_bar 27 = .ok (.aload_n 1, 1) := by decide +kernel
theorem dCl_bar_28 : decode cCl_bar 28 = .ok (.getfield 28, 3) := by decide +kernel
theorem dCl_bar_31 : decode cCl_bar 31 = .ok (.iadd, 1) := by decide +kernel
theorem dCl_bar_32 : decode cCl_bar 32 = .ok (.iload_n 2, 1) := by decide +kernel
theorem dCl_bar_33 : decode cCl_bar 33 = .ok (.aload_n 1, 1) := by decide +kernel
theorem dCl_bar_34 : decode cCl_bar 34 = .ok (.getfield 33, 3) := by decide +kernel
theorem dCl_bar_37 : decode cCl_bar 37 = .ok (.iadd, 1) := by decide +kernel
theorem dCl_bar_38 : decode cCl_bar 38 = .ok (.invokestatic 36, 3) := by decide +kernel
theorem dCl_bar_41 : decode cCl_bar 41 = .ok (.ifCond .eq 37, 3) := by decide +kernel
theorem dCl_bar_44 : decode cCl_bar 44 = .ok (.aload_n 0, 1) := by decide +kernel
theorem dCl_bar_45 : decode cCl_bar 45 = .ok (.getfield 15, 3) := by decide +kernel
theorem dCl_bar_48 : decode cCl_bar 48 = .ok (.iload 4, 2) := by decide +kernel
theorem dCl_bar_50 : decode cCl_bar 50 = .ok (.iaload, 1) := by decide +kernel
theorem dCl_bar_51 : decode cCl_bar 51 = .ok (.aload_n 0, 1) := by decide +kernel
theorem dCl_bar_52 : decode cCl_bar 52 = .ok (.getfield 21, 3) := by decide +kernel
theorem dCl_bar_55 : decode cCl_bar 55 = .ok (.iload 4, 2) := by decide +kernel
theorem dCl_bar_57 : decode cCl_bar 57 = .ok (.iaload, 1) := by decide +kernel
theorem dCl_bar_58 : decode cCl_bar 58 = .ok (.iload_n 3, 1) := by decide +kernel
theorem dCl_bar_59 : decode cCl_bar 59 = .ok (.aload_n 1, 1) := by decide +kernel
theorem dCl_bar_60 : decode cCl_bar 60 = .ok (.getfield 40, 3) := by decide +kernel
theorem dCl_bar_63 : decode cCl_bar 63 = .ok (.iadd, 1) := by decide +kernel
theorem dCl_bar_64 : decode cCl_bar 64 = .ok (.iload_n 3, 1) := by decide +kernel
theorem dCl_bar_65 : decode cCl_bar 65 = .ok (.aload_n 1, 1) := by decide +kernel
theorem dCl_bar_66 : decode cCl_bar 66 = .ok (.getfield 43, 3) := by decide +kernel
theorem dCl_bar_69 : decode cCl_bar 69 = .ok (.iadd, 1) := by decide +kernel
theorem dCl_bar_70 : decode cCl_bar 70 = .ok (.invokestatic 36, 3) := by decide +kernel
theorem dCl_bar_73 : decode cCl_bar 73 = .ok (.ifCond .eq 5, 3) := by decide +kernel
theorem dCl_bar_76 : decode cCl_bar 76 = .ok (.iconst 1, 1) := by decide +kernel
theorem dCl_bar_77 : decode cCl_bar 77 = .ok (.ireturn, 1) := by decide +kernel
theorem dCl_bar_78 : decode cCl_bar 78 = .ok (.iinc 4 1, 3) := by decide +kernel
theorem dCl_bar_81 : decode cCl_bar 81 = .ok (.goto (-78), 3) := by decide +kernel
theorem dCl_bar_84 : decode cCl_bar 84 = .ok (.iconst 0, 1) := by decide +kernel
theorem dCl_bar_85 : decode cCl_bar 85 = .ok (.ireturn, 1) := by decide +kernel
theorem dCl_overlap_0 : decode cCl_overlap 0 = .ok (.iload_n 0, 1) := by decide +kernel
theorem dCl_overlap_1 : decode cCl_overlap 1 = .ok (.iload_n 2, 1) := by decide +kernel
theorem dCl_overlap_2 : decode cCl_overlap 2 = .ok (.invokestatic 46, 3) := by decide +kernel
theorem dCl_overlap_5 : decode cCl_overlap 5 = .ok (.iload_n 1, 1) := by decide +kernel
theorem dCl_overlap_6 : decode cCl_overlap 6 = .ok (.iload_n 3, 1) := by decide +kernel
theorem dCl_overlap_7 : decode cCl_overlap 7 = .ok (.invokestatic 52, 3) := by decide +kernel
theorem dCl_overlap_10 : decode cCl_overlap 10 = .ok (.if_icmp .ge 7, 3) := by decide +kernel
theorem dCl_overlap_13 : decode cCl_overlap 13 = .ok (.iconst 1, 1) := by decide +kernel
theorem dCl_overlap_14 : decode cCl_overlap 14 = .ok (.goto 4, 3) := by decide +kernel
theorem dCl_overlap_17 : decode cCl_overlap 17 = .ok (.iconst 0, 1) := by decide +kernel
theorem dCl_overlap_18 : decode cCl_overlap 18 = .ok (.ireturn, 1) := by decide +kernel
theorem dPl_insert_0 : decode cPl_insert 0 = .ok (.iconst 0, 1) := by decide +kernel
theorem dPl_insert_1 : decode cPl_insert 1 = .ok (.istore_n 3, 1) := by decide +kernel
theorem dPl_insert_2 : decode cPl_insert 2 = .ok (.iload_n 3, 1) := by decide +kernel
theorem dPl_insert_3 : decode cPl_insert 3 = .ok (.aload_n 0, 1) := by decide +kernel
theorem dPl_insert_4 : decode cPl_insert 4 = .ok (.getfield 21, 3) := by decide +kernel
theorem dPl_insert_7 : decode cPl_insert 7 = .ok (.if_icmp .ge 39, 3) := by decide +kernel
theorem dPl_insert_10 : decode cPl_insert 10 = .ok (.aload_n 0, 1) := by decide +kernel
theorem dPl_insert_11 : decode cPl_insert 11 = .ok (.getfield 9, 3) := by decide +kernel
theorem dPl_insert_14 : decode cPl_insert 14 = .ok (.iload_n 3, 1) := by decide +kernel
theorem dPl_insert_15 : decode cPl_insert 15 = .ok (.iaload, 1) := by decide +kernel
theorem dPl_insert_16 : decode cPl_insert 16 = .ok (.iload_n 1, 1) := by decide +kernel
theorem dPl_insert_17 : decode cPl_insert 17 = .ok (.if_icmp .lt 23, 3) := by decide +kernel
theorem dPl_insert_20 : decode cPl_insert 20 = .ok (.aload_n 0, 1) := by decide +kernel
theorem dPl_insert_21 : decode cPl_insert 21 = .ok (.getfield 9, 3) := by decide +kernel
theorem dPl_insert_24 : decode cPl_insert 24 = .ok (.iload_n 3, 1) := by decide +kernel
theorem dPl_insert_25 : decode cPl_insert 25 = .ok (.iaload, 1) := by decide +kernel
theorem dPl_insert_26 : decode cPl_insert 26 = .ok (.iload_n 1, 1) := by decide +kernel
theorem dPl_insert_27 : decode cPl_insert 27 = .ok (.if_icmp .ne 19, 3) := by decide +kernel
theorem dPl_insert_30 : decode cPl_insert 30 = .ok (.aload_n 0, 1) := by decide +kernel
theorem dPl_insert_31 : decode cPl_insert 31 = .ok (.getfield 15, 3) := by decide +kernel
theorem dPl_insert_34 : decode cPl_insert 34 = .ok (.iload_n 3, 1) := by decide +kernel
theorem dPl_insert_35 : decode cPl_insert 35 = .ok (.iaload, 1) := by decide +kernel
theorem dPl_insert_36 : decode cPl_insert 36 = .ok (.iload_n 2, 1) := by decide +kernel
theorem dPl_insert_37 : decode cPl_insert 37 = .ok (.if_icmp .ge 9, 3) := by decide +kernel
theorem dPl_insert_40 : decode cPl_insert 40 = .ok (.iinc 3 1, 3) := by decide +kernel
theorem dPl_insert_43 : decode cPl_insert 43 = .ok (.goto (-41), 3) := by decide +kernel
theorem dPl_insert_46 : decode cPl_insert 46 = .ok (.iload_n 3, 1) := by decide +kernel
theorem dPl_insert_47 : decode cPl_insert 47 = .ok (.aload_n 0, 1) := by decide +kernel
theorem dPl_insert_48 : decode cPl_insert 48 = .ok (.getfield 21, 3) := by decide +kernel
theorem dPl_insert_51 : decode cPl_insert 51 = .ok (.if_icmp .ge 27, 3) := by decide +kernel
theorem dPl_insert_54 : decode cPl_insert 54 = .ok (.aload_n 0, 1) := by decide +kernel
theorem dPl_insert_55 : decode cPl_insert 55 = .ok (.getfield 9, 3) := by decide +kernel
theorem dPl_insert_58 : decode cPl_insert 58 = .ok (.iload_n 3, 1) := by decide +kernel
theorem dPl_insert_59 : decode cPl_insert 59 = .ok (.iaload, 1) := by decide +kernel
theorem dPl_insert_60 : decode cPl_insert 60 = .ok (.iload_n 1, 1) := by decide +kernel
theorem dPl_insert_61 : decode cPl_insert 61 = .ok (.if_icmp .ne 17, 3) := by decide +kernel
theorem dPl_insert_64 : decode cPl_insert 64 = .ok (.aload_n 0, 1) := by decide +kernel
theorem dPl_insert_65 : decode cPl_insert 65 = .ok (.getfield 15, 3) := by decide +kernel
theorem dPl_insert_68 : decode cPl_insert 68 = .ok (.iload_n 3, 1) := by decide +kernel
theorem dPl_insert_69 : decode cPl_insert 69 = .ok (.iaload, 1) := by decide +kernel
theorem dPl_insert_70 : decode cPl_insert 70 = .ok (.iload_n 2, 1) := by decide +kernel
theorem dPl_insert_71 : decode cPl_insert 71 = .ok (.if_icmp .ne 7, 3) := by decide +kernel
theorem dPl_insert_74 : decode cPl_insert 74 = .ok (.iconst 1, 1) := by decide +kernel
theorem dPl_insert_75 : decode cPl_insert 75 = .ok (.goto 4, 3) := by decide +kernel
theorem dPl_insert_78 : decode cPl_insert 78 = .ok (.iconst 0, 1) := by decide +kernel
theorem dPl_insert_79 : decode cPl_insert 79 = .ok (.istore 4, 2) := by decide +kernel
theorem dPl_insert_81 : decode cPl_insert 81 = .ok (.iload 4, 2) := by decide +kernel
theorem dPl_insert_83 : decode cPl_insert 83 = .ok (.ifCond .ne 12, 3) := by decide +kernel
theorem dPl_insert_86 : decode cPl_insert 86 = .ok (.aload_n 0, 1) := by decide +kernel
theorem dPl_insert_87 : decode cPl_insert 87 = .ok (.getfield 21, 3) := by decide +kernel
theorem dPl_insert_90 : decode cPl_insert 90 = .ok (.bipush 16, 2) := by decide +kernel
theorem dPl_insert_92 : decode cPl_insert 92 = .ok (.if_icmp .lt 4, 3) := by decide +kernel
theorem dPl_insert_95 : decode cPl_insert 95 = .ok (.return_, 1) := by decide +kernel
theorem dPl_insert_96 : decode cPl_insert 96 = .ok (.aload_n 0, 1) := by decide +kernel
theorem dPl_insert_97 : decode cPl_insert 97 = .ok (.getfield 21, 3) := by decide +kernel
theorem dPl_insert_100 : decode cPl_insert 100 = .ok (.istore 5, 2) := by decide +kernel
theorem dPl_insert_102 : decode cPl_insert 102 = .ok (.iload 5, 2) := by decide +kernel
theorem dPl_insert_104 : decode cPl_insert 104 = .ok (.iload_n 3, 1) := by decide +kernel
theorem dPl_insert_105 : decode cPl_insert 105 = .ok (.if_icmp .le 41, 3) := by decide +kernel
theorem dPl_insert_108 : decode cPl_insert 108 = .ok (.aload_n 0, 1) := by decide +kernel
theorem dPl_insert_109 : decode cPl_insert 109 = .ok (.getfield 9, 3) := by decide +kernel
theorem dPl_insert_112 : decode cPl_insert 112 = .ok (.iload 5, 2) := by decide +kernel
theorem dPl_insert_114 : decode cPl_insert 114 = .ok (.aload_n 0, 1) := by decide +kernel
theorem dPl_insert_115 : decode cPl_insert 115 = .ok (.getfield 9, 3) := by decide +kernel
theorem dPl_insert_118 : decode cPl_insert 118 = .ok (.iload 5, 2) := by decide +kernel
theorem dPl_insert_120 : decode cPl_insert 120 = .ok (.iconst 1, 1) := by decide +kernel
theorem dPl_insert_121 : decode cPl_insert 121 = .ok (.isub, 1) := by decide +kernel
theorem dPl_insert_122 : decode cPl_insert 122 = .ok (.iaload, 1) := by decide +kernel
theorem dPl_insert_123 : decode cPl_insert 123 = .ok (.iastore, 1) := by decide +kernel
theorem dPl_insert_124 : decode cPl_insert 124 = .ok (.aload_n 0, 1) := by decide +kernel
theorem dPl_insert_125 : decode cPl_insert 125 = .ok (.getfield 15, 3) := by decide +kernel
theorem dPl_insert_128 : decode cPl_insert 128 = .ok (.iload 5, 2) := by decide +kernel
theorem dPl_insert_130 : decode cPl_insert 130 = .ok (.aload_n 0, 1) := by decide +kernel
theorem dPl_insert_131 : decode cPl_insert 131 = .ok (.getfield 15, 3) := by decide +kernel
theorem dPl_insert_134 : decode cPl_insert 134 = .ok (.iload 5, 2) := by decide +kernel
theorem dPl_insert_136 : decode cPl_insert 136 = .ok (.iconst 1, 1) := by decide +kernel
theorem dPl_insert_137 : decode cPl_insert 137 = .ok (.isub, 1) := by decide +kernel
theorem dPl_insert_138 : decode cPl_insert 138 = .ok (.iaload, 1) := by decide +kernel
theorem dPl_insert_139 : decode cPl_insert 139 = .ok (.iastore, 1) := by decide +kernel
theorem dPl_insert_140 : decode cPl_insert 140 = .ok (.iinc 5 (-1), 3) := by decide +kernel
theorem dPl_insert_143 : decode cPl_insert 143 = .ok (.goto (-41), 3) := by decide +kernel
theorem dPl_insert_146 : decode cPl_insert 146 = .ok (.aload_n 0, 1) := by decide +kernel
theorem dPl_insert_147 : decode cPl_insert 147 = .ok (.getfield 9, 3) := by decide +kernel
theorem dPl_insert_150 : decode cPl_insert 150 = .ok (.iload_n 3, 1) := by decide +kernel
theorem dPl_insert_151 : decode cPl_insert 151 = .ok (.iload_n 1, 1) := by decide +kernel
theorem dPl_insert_152 : decode cPl_insert 152 = .ok (.iastore, 1) := by decide +kernel
theorem dPl_insert_153 : decode cPl_insert 153 = .ok (.aload_n 0, 1) := by decide +kernel
theorem dPl_insert_154 : decode cPl_insert 154 = .ok (.getfield 15, 3) := by decide +kernel
theorem dPl_insert_157 : decode cPl_insert 157 = .ok (.iload_n 3, 1) := by decide +kernel
theorem dPl_insert_158 : decode cPl_insert 158 = .ok (.iload_n 2, 1) := by decide +kernel
theorem dPl_insert_159 : decode cPl_insert 159 = .ok (.iastore, 1) := by decide +kernel
theorem dPl_insert_160 : decode cPl_insert 160 = .ok (.aload_n 0, 1) := by decide +kernel
theorem dPl_insert_161 : decode cPl_insert 161 = .ok (.dup, 1) := by decide +kernel
theorem dPl_insert_162 : decode cPl_insert 162 = .ok (.getfield 21, 3) := by decide +kernel
theorem dPl_insert_165 : decode cPl_insert 165 = .ok (.iconst 1, 1) := by decide +kernel
theorem dPl_insert_166 : decode cPl_insert 166 = .ok (.iadd, 1) := by decide +kernel
theorem dPl_insert_167 : decode cPl_insert 167 = .ok (.putfield 21, 3) := by decide +kernel
theorem dPl_insert_170 : decode cPl_insert 170 = .ok (.return_, 1) := by decide +kernel
theorem dPl_findDrilled_0 : decode cPl_findDrilled 0 = .ok (.iconst 0, 1) := by decide +kernel
theorem dPl_findDrilled_1 : decode cPl_findDrilled 1 = .ok (.istore 4, 2) := by decide +kernel
theorem dPl_findDrilled_3 : decode cPl_findDrilled 3 = .ok (.iload 4, 2) := by decide +kernel
theorem dPl_findDrilled_5 : decode cPl_findDrilled 5 = .ok (.aload_n 0, 1) := by decide +kernel
theorem dPl_findDrilled_6 : decode cPl_findDrilled 6 = .ok (.getfield 21, 3) := by decide +kernel
theorem dPl_findDrilled_9 : decode cPl_findDrilled 9 = .ok (.if_icmp .ge 84, 3) := by decide +kernel
theorem dPl_findDrilled_12 : decode cPl_findDrilled 12 = .ok (.aload_n 0, 1) := by decide +kernel
theorem dPl_findDrilled_13 : decode cPl_findDrilled 13 = .ok (.getfield 18, 3) := by decide +kernel
theorem dPl_findDrilled_16 : decode cPl_findDrilled 16 = .ok (.iload 4, 2) := by decide +kernel
theorem dPl_findDrilled_18 : decode cPl_findDrilled 18 = .ok (.iconst 0, 1) := by decide +kernel
theorem dPl_findDrilled_19 : decode cPl_findDrilled 19 = .ok (.iastore, 1) := by decide +kernel
theorem dPl_findDrilled_20 : decode cPl_findDrilled 20 = .ok (.iload_n 1, 1) := by decide +kernel
theorem dPl_findDrilled_21 : decode cPl_findDrilled 21 = .ok (.istore 5, 2) := by decide +kernel
theorem dPl_findDrilled_23 : decode cPl_findDrilled 23 = .ok (.iload 5, 2) := by decide +kernel
theorem dPl_findDrilled_25 : decode cPl_findDrilled 25 = .ok (.aload_n 2, 1) := by decide +kernel
theorem dPl_findDrilled_26 : decode cPl_findDrilled 26 = .ok (.getfield 47, 3) := by decide +kernel
theorem dPl_findDrilled_29 : decode cPl_findDrilled 29 = .ok (.if_icmp .ge 58, 3) := by decide +kernel
theorem dPl_findDrilled_32 : decode cPl_findDrilled 32 = .ok (.aload_n 2, 1) := by decide +kernel
theorem dPl_findDrilled_33 : decode cPl_findDrilled 33 = .ok (.iload_n 1, 1) := by decide +kernel
theorem dPl_findDrilled_34 : decode cPl_findDrilled 34 = .ok (.iload 5, 2) := by decide +kernel
theorem dPl_findDrilled_36 : decode cPl_findDrilled 36 = .ok (.invokevirtual 48, 3) := by decide +kernel
theorem dPl_findDrilled_39 : decode cPl_findDrilled 39 = .ok (.ifCond .eq 42, 3) := by decide +kernel
theorem dPl_findDrilled_42 : decode cPl_findDrilled 42 = .ok (.aload_n 2, 1) := by decide +kernel
theorem dPl_findDrilled_43 : decode cPl_findDrilled 43 = .ok (.iload 5, 2) := by decide +kernel
theorem dPl_findDrilled_45 : decode cPl_findDrilled 45 = .ok (.aload_n 3, 1) := by decide +kernel
theorem dPl_findDrilled_46 : decode cPl_findDrilled 46 = .ok (.aload_n 0, 1) := by decide +kernel
theorem dPl_findDrilled_47 : decode cPl_findDrilled 47 = .ok (.getfield 9, 3) := by decide +kernel
theorem dPl_findDrilled_50 : decode cPl_findDrilled 50 = .ok (.iload 4, 2) := by decide +kernel
theorem dPl_findDrilled_52 : decode cPl_findDrilled 52 = .ok (.iaload, 1) := by decide +kernel
theorem dPl_findDrilled_53 : decode cPl_findDrilled 53 = .ok (.aload_n 0, 1) := by decide +kernel
theorem dPl_findDrilled_54 : decode cPl_findDrilled 54 = .ok (.getfield 15, 3) := by decide +kernel
theorem dPl_findDrilled_57 : decode cPl_findDrilled 57 = .ok (.iload 4, 2) := by decide +kernel
theorem dPl_findDrilled_59 : decode cPl_findDrilled 59 = .ok (.iaload, 1) := by decide +kernel
theorem dPl_findDrilled_60 : decode cPl_findDrilled 60 = .ok (.invokevirtual 52, 3) := by decide +kernel
theorem dPl_findDrilled_63 : decode cPl_findDrilled 63 = .ok (.iconst (-1), 1) := by decide +kernel
theorem dPl_findDrilled_64 : decode cPl_findDrilled 64 = .ok (.if_icmp .eq 17, 3) := by decide +kernel
theorem dPl_findDrilled_67 : decode cPl_findDrilled 67 = .ok (.aload_n 0, 1) := by decide +kernel
theorem dPl_findDrilled_68 : decode cPl_findDrilled 68 = .ok (.getfield 18, 3) := by decide +kernel
theorem dPl_findDrilled_71 : decode cPl_findDrilled 71 = .ok (.iload 4, 2) := by decide +kernel
theorem dPl_findDrilled_73 : decode cPl_findDrilled 73 = .ok (.dup2, 1) := by decide +kernel
theorem dPl_findDrilled_74 : decode cPl_findDrilled 74 = .ok (.iaload, 1) := by decide +kernel
theorem dPl_findDrilled_75 : decode cPl_findDrilled 75 = .ok (.iconst 1, 1) := by decide +kernel
theorem dPl_findDrilled_76 : decode cPl_findDrilled 76 = .ok (.iload 5, 2) := by decide +kernel
theorem dPl_findDrilled_78 : decode cPl_findDrilled 78 = .ok (.ishl, 1) := by decide +kernel
theorem dPl_findDrilled_79 : decode cPl_findDrilled 79 = .ok (.ior, 1) := by decide +kernel
theorem dPl_findDrilled_80 : decode cPl_findDrilled 80 = .ok (.iastore, 1) := by decide +kernel
theorem dPl_findDrilled_81 : decode cPl_findDrilled 81 = .ok (.iinc 5 1, 3) := by decide +kernel
theorem dPl_findDrilled_84 : decode cPl_findDrilled 84 = .ok (.goto (-61), 3) := by decide +kernel
theorem dPl_findDrilled_87 : decode cPl_findDrilled 87 = .ok (.iinc 4 1, 3) := by decide +kernel
theorem dPl_findDrilled_90 : decode cPl_findDrilled 90 = .ok (.goto (-87), 3) := by decide +kernel
theorem dPl_findDrilled_93 : decode cPl_findDrilled 93 = .ok (.return_, 1) := by decide +kernel
theorem dPt_alike_0 : decode cPt_alike 0 = .ok (.aload_n 0, 1) := by decide +kernel
theorem dPt_alike_1 : decode cPt_alike 1 = .ok (.getfield 24, 3) := by decide +kernel
theorem dPt_alike_4 : decode cPt_alike 4 = .ok (.iload_n 1, 1) := by decide +kernel
theorem dPt_alike_5 : decode cPt_alike 5 = .ok (.iaload, 1) := by decide +kernel
theorem dPt_alike_6 : decode cPt_alike 6 = .ok (.aload_n 0, 1) := by decide +kernel
theorem dPt_alike_7 : decode cPt_alike 7 = .ok (.getfield 24, 3) := by decide +kernel
theorem dPt_alike_10 : decode cPt_alike 10 = .ok (.iload_n 2, 1) := by decide +kernel
theorem dPt_alike_11 : decode cPt_alike 11 = .ok (.iaload, 1) := by decide +kernel
theorem dPt_alike_12 : decode cPt_alike 12 = .ok (.if_icmp .ne 18, 3) := by decide +kernel
theorem dPt_alike_15 : decode cPt_alike 15 = .ok (.aload_n 0, 1) := by decide +kernel
theorem dPt_alike_16 : decode cPt_alike 16 = .ok (.getfield 27, 3) := by decide +kernel
theorem dPt_alike_19 : decode cPt_alike 19 = .ok (.iload_n 1, 1) := by decide +kernel
theorem dPt_alike_20 : decode cPt_alike 20 = .ok (.baload, 1) := by decide +kernel
theorem dPt_alike_21 : decode cPt_alike 21 = .ok (.aload_n 0, 1) := by decide +kernel
theorem dPt_alike_22 : decode cPt_alike 22 = .ok (.getfield 27, 3) := by decide +kernel
theorem dPt_alike_25 : decode cPt_alike 25 = .ok (.iload_n 2, 1) := by decide +kernel
theorem dPt_alike_26 : decode cPt_alike 26 = .ok (.baload, 1) := by decide +kernel
theorem dPt_alike_27 : decode cPt_alike 27 = .ok (.if_icmp .eq 5, 3) := by decide +kernel
theorem dPt_alike_30 : decode cPt_alike 30 = .ok (.iconst 0, 1) := by decide +kernel
theorem dPt_alike_31 : decode cPt_alike 31 = .ok (.ireturn, 1) := by decide +kernel
theorem dPt_alike_32 : decode cPt_alike 32 = .ok (.aload_n 0, 1) := by decide +kernel
theorem dPt_alike_33 : decode cPt_alike 33 = .ok (.getfield 27, 3) := by decide +kernel
theorem dPt_alike_36 : decode cPt_alike 36 = .ok (.iload_n 1, 1) := by decide +kernel
theorem dPt_alike_37 : decode cPt_alike 37 = .ok (.baload, 1) := by decide +kernel
theorem dPt_alike_38 : decode cPt_alike 38 = .ok (.ifCond .ne 18, 3) := by decide +kernel
theorem dPt_alike_41 : decode cPt_alike 41 = .ok (.aload_n 0, 1) := by decide +kernel
theorem dPt_alike_42 : decode cPt_alike 42 = .ok (.getfield 21, 3) := by decide +kernel
theorem dPt_alike_45 : decode cPt_alike 45 = .ok (.iload_n 1, 1) := by decide +kernel
theorem dPt_alike_46 : decode cPt_alike 46 = .ok (.iaload, 1) := by decide +kernel
theorem dPt_alike_47 : decode cPt_alike 47 = .ok (.aload_n 0, 1) := by decide +kernel
theorem dPt_alike_48 : decode cPt_alike 48 = .ok (.getfield 21, 3) := by decide +kernel
theorem dPt_alike_51 : decode cPt_alike 51 = .ok (.iload_n 2, 1) := by decide +kernel
theorem dPt_alike_52 : decode cPt_alike 52 = .ok (.iaload, 1) := by decide +kernel
theorem dPt_alike_53 : decode cPt_alike 53 = .ok (.if_icmp .ne 7, 3) := by decide +kernel
theorem dPt_alike_56 : decode cPt_alike 56 = .ok (.iconst 1, 1) := by decide +kernel
theorem dPt_alike_57 : decode cPt_alike 57 = .ok (.goto 4, 3) := by decide +kernel
theorem dPt_alike_60 : decode cPt_alike 60 = .ok (.iconst 0, 1) := by decide +kernel
theorem dPt_alike_61 : decode cPt_alike 61 = .ok (.ireturn, 1) := by decide +kernel
theorem dPt_spindleFor_0 : decode cPt_spindleFor 0 = .ok (.aload_n 2, 1) := by decide +kernel
theorem dPt_spindleFor_1 : decode cPt_spindleFor 1 = .ok (.aload_n 0, 1) := by decide +kernel
theorem dPt_spindleFor_2 : decode cPt_spindleFor 2 = .ok (.getfield 9, 3) := by decide +kernel
theorem dPt_spindleFor_5 : decode cPt_spindleFor 5 = .ok (.iload_n 1, 1) := by decide +kernel
theorem dPt_spindleFor_6 : decode cPt_spindleFor 6 = .ok (.iaload, 1) := by decide +kernel
theorem dPt_spindleFor_7 : decode cPt_spindleFor 7 = .ok (.iload_n 3, 1) := by decide +kernel
theorem dPt_spindleFor_8 : decode cPt_spindleFor 8 = .ok (.isub, 1) := by decide +kernel
theorem dPt_spindleFor_9 : decode cPt_spindleFor 9 = .ok (.aload_n 0, 1) := by decide +kernel
theorem dPt_spindleFor_10 : decode cPt_spindleFor 10 = .ok (.getfield 15, 3) := by decide +kernel
theorem dPt_spindleFor_13 : decode cPt_spindleFor 13 = .ok (.iload_n 1, 1) := by decide +kernel
theorem dPt_spindleFor_14 : decode cPt_spindleFor 14 = .ok (.iaload, 1) := by decide +kernel
theorem dPt_spindleFor_15 : decode cPt_spindleFor 15 = .ok (.iload 4, 2) := by decide +kernel
theorem dPt_spindleFor_17 : decode cPt_spindleFor 17 = .ok (.isub, 1) := by decide +kernel
theorem dPt_spindleFor_18 : decode cPt_spindleFor 18 = .ok (.aload_n 0, 1) := by decide +kernel
theorem dPt_spindleFor_19 : decode cPt_spindleFor 19 = .ok (.getfield 18, 3) := by decide +kernel
theorem dPt_spindleFor_22 : decode cPt_spindleFor 22 = .ok (.iload_n 1, 1) := by decide +kernel
theorem dPt_spindleFor_23 : decode cPt_spindleFor 23 = .ok (.iaload, 1) := by decide +kernel
theorem dPt_spindleFor_24 : decode cPt_spindleFor 24 = .ok (.invokevirtual 35, 3) := by decide +kernel
theorem dPt_spindleFor_27 : decode cPt_spindleFor 27 = .ok (.ireturn, 1) := by decide +kernel
theorem dHd_spindleAt_0 : decode cHd_spindleAt 0 = .ok (.iconst 0, 1) := by decide +kernel
theorem dHd_spindleAt_1 : decode cHd_spindleAt 1 = .ok (.istore 4, 2) := by decide +kernel
theorem dHd_spindleAt_3 : decode cHd_spindleAt 3 = .ok (.iload 4, 2) := by decide +kernel
theorem dHd_spindleAt_5 : decode cHd_spindleAt 5 = .ok (.aload_n 0, 1) := by decide +kernel
theorem dHd_spindleAt_6 : decode cHd_spindleAt 6 = .ok (.getfield 18, 3) := by decide +kernel
theorem dHd_spindleAt_9 : decode cHd_spindleAt 9 = .ok (.arraylength, 1) := by decide +kernel
theorem dHd_spindleAt_10 : decode cHd_spindleAt 10 = .ok (.if_icmp .ge 45, 3) := by decide +kernel
theorem dHd_spindleAt_13 : decode cHd_spindleAt 13 = .ok (.aload_n 0, 1) := by decide +kernel
theorem dHd_spindleAt_14 : decode cHd_spindleAt 14 = .ok (.getfield 9, 3) := by decide +kernel
theorem dHd_spindleAt_17 : decode cHd_spindleAt 17 = .ok (.iload 4, 2) := by decide +kernel
theorem dHd_spindleAt_19 : decode cHd_spindleAt 19 = .ok (.iaload, 1) := by decide +kernel
theorem dHd_spindleAt_20 : decode cHd_spindleAt 20 = .ok (.iload_n 1, 1) := by decide +kernel
theorem dHd_spindleAt_21 : decode cHd_spindleAt 21 = .ok (.if_icmp .ne 28, 3) := by decide +kernel
theorem dHd_spindleAt_24 : decode cHd_spindleAt 24 = .ok (.aload_n 0, 1) := by decide +kernel
theorem dHd_spindleAt_25 : decode cHd_spindleAt 25 = .ok (.getfield 15, 3) := by decide +kernel
theorem dHd_spindleAt_28 : decode cHd_spindleAt 28 = .ok (.iload 4, 2) := by decide +kernel
theorem dHd_spindleAt_30 : decode cHd_spindleAt 30 = .ok (.iaload, 1) := by decide +kernel
theorem dHd_spindleAt_31 : decode cHd_spindleAt 31 = .ok (.iload_n 2, 1) := by decide +kernel
theorem dHd_spindleAt_32 : decode cHd_spindleAt 32 = .ok (.if_icmp .ne 17, 3) := by decide +kernel
theorem dHd_spindleAt_35 : decode cHd_spindleAt 35 = .ok (.aload_n 0, 1) := by decide +kernel
theorem dHd_spindleAt_36 : decode cHd_spindleAt 36 = .ok (.getfield 18, 3) := by decide +kernel
theorem dHd_spindleAt_39 : decode cHd_spindleAt 39 = .ok (.iload 4, 2) := by decide +kernel
theorem dHd_spindleAt_41 : decode cHd_spindleAt 41 = .ok (.iaload, 1) := by decide +kernel
theorem dHd_spindleAt_42 : decode cHd_spindleAt 42 = .ok (.iload_n 3, 1) := by decide +kernel
theorem dHd_spindleAt_43 : decode cHd_spindleAt 43 = .ok (.if_icmp .ne 6, 3) := by decide +kernel
theorem dHd_spindleAt_46 : decode cHd_spindleAt 46 = .ok (.iload 4, 2) := by decide +kernel
theorem dHd_spindleAt_48 : decode cHd_spindleAt 48 = .ok (.ireturn, 1) := by decide +kernel
theorem dHd_spindleAt_49 : decode cHd_spindleAt 49 = .ok (.iinc 4 1, 3) := by decide +kernel
theorem dHd_spindleAt_52 : decode cHd_spindleAt 52 = .ok (.goto (-49), 3) := by decide +kernel
theorem dHd_spindleAt_55 : decode cHd_spindleAt 55 = .ok (.iconst (-1), 1) := by decide +kernel
theorem dHd_spindleAt_56 : decode cHd_spindleAt 56 = .ok (.ireturn, 1) := by decide +kernel
theorem dTb_fill_0 : decode cTb_fill 0 = .ok (.aload_n 0, 1) := by decide +kernel
theorem dTb_fill_1 : decode cTb_fill 1 = .ok (.getfield 9, 3) := by decide +kernel
theorem dTb_fill_4 : decode cTb_fill 4 = .ok (.arraylength, 1) := by decide +kernel
theorem dTb_fill_5 : decode cTb_fill 5 = .ok (.iconst 1, 1) := by decide +kernel
theorem dTb_fill_6 : decode cTb_fill 6 = .ok (.iload_n 2, 1) := by decide +kernel
theorem dTb_fill_7 : decode cTb_fill 7 = .ok (.ishl, 1) := by decide +kernel
theorem dTb_fill_8 : decode cTb_fill 8 = .ok (.if_icmp .ge 12, 3) := by decide +kernel
theorem dTb_fill_11 : decode cTb_fill 11 = .ok (.aload_n 0, 1) := by decide +kernel
theorem dTb_fill_12 : decode cTb_fill 12 = .ok (.iconst 1, 1) := by decide +kernel
theorem dTb_fill_13 : decode cTb_fill 13 = .ok (.iload_n 2, 1) := by decide +kernel
theorem dTb_fill_14 : decode cTb_fill 14 = .ok (.ishl, 1) := by decide +kernel
theorem dTb_fill_15 : decode cTb_fill 15 = .ok (.newarray .int, 2) := by decide +kernel
theorem dTb_fill_17 : decode cTb_fill 17 = .ok (.putfield 9, 3) := by decide +kernel
theorem dTb_fill_20 : decode cTb_fill 20 = .ok (.aload_n 0, 1) := by decide +kernel
theorem dTb_fill_21 : decode cTb_fill 21 = .ok (.aload_n 1, 1) := by decide +kernel
theorem dTb_fill_22 : decode cTb_fill 22 = .ok (.iload_n 3, 1) := by decide +kernel
theorem dTb_fill_23 : decode cTb_fill 23 = .ok (.invokevirtual 15, 3) := by decide +kernel
theorem dTb_fill_26 : decode cTb_fill 26 = .ok (.aload_n 0, 1) := by decide +kernel
theorem dTb_fill_27 : decode cTb_fill 27 = .ok (.getfield 9, 3) := by decide +kernel
theorem dTb_fill_30 : decode cTb_fill 30 = .ok (.iconst 0, 1) := by decide +kernel
theorem dTb_fill_31 : decode cTb_fill 31 = .ok (.iconst 0, 1) := by decide +kernel
theorem dTb_fill_32 : decode cTb_fill 32 = .ok (.iastore, 1) := by decide +kernel
theorem dTb_fill_33 : decode cTb_fill 33 = .ok (.iconst 1, 1) := by decide +kernel
theorem dTb_fill_34 : decode cTb_fill 34 = .ok (.istore 4, 2) := by decide +kernel
theorem dTb_fill_36 : decode cTb_fill 36 = .ok (.iload 4, 2) := by decide +kernel
theorem dTb_fill_38 : decode cTb_fill 38 = .ok (.iload_n 3, 1) := by decide +kernel
theorem dTb_fill_39 : decode cTb_fill 39 = .ok (.if_icmp .gt 42, 3) := by decide +kernel
theorem dTb_fill_42 : decode cTb_fill 42 = .ok (.aload_n 0, 1) := by decide +kernel
theorem dTb_fill_43 : decode cTb_fill 43 = .ok (.getfield 9, 3) := by decide +kernel
theorem dTb_fill_46 : decode cTb_fill 46 = .ok (.iload 4, 2) := by decide +kernel
theorem dTb_fill_48 : decode cTb_fill 48 = .ok (.iaload, 1) := by decide +kernel
theorem dTb_fill_49 : decode cTb_fill 49 = .ok (.iconst (-1), 1) := by decide +kernel
theorem dTb_fill_50 : decode cTb_fill 50 = .ok (.if_icmp .ne 25, 3) := by decide +kernel
theorem dTb_fill_53 : decode cTb_fill 53 = .ok (.aload_n 0, 1) := by decide +kernel
theorem dTb_fill_54 : decode cTb_fill 54 = .ok (.getfield 9, 3) := by decide +kernel
theorem dTb_fill_57 : decode cTb_fill 57 = .ok (.iload 4, 2) := by decide +kernel
theorem dTb_fill_59 : decode cTb_fill 59 = .ok (.iconst 1, 1) := by decide +kernel
theorem dTb_fill_60 : decode cTb_fill 60 = .ok (.aload_n 0, 1) := by decide +kernel
theorem dTb_fill_61 : decode cTb_fill 61 = .ok (.aload_n 1, 1) := by decide +kernel
theorem dTb_fill_62 : decode cTb_fill 62 = .ok (.iload 4, 2) := by decide +kernel
theorem dTb_fill_64 : decode cTb_fill 64 = .ok (.invokestatic 19, 3) := by decide +kernel
theorem dTb_fill_67 : decode cTb_fill 67 = .ok (.aaload, 1) := by decide +kernel
theorem dTb_fill_68 : decode cTb_fill 68 = .ok (.iload 4, 2) := by decide +kernel
theorem dTb_fill_70 : decode cTb_fill 70 = .ok (.invokevirtual 23, 3) := by decide +kernel
theorem dTb_fill_73 : decode cTb_fill 73 = .ok (.iadd, 1) := by decide +kernel
theorem dTb_fill_74 : decode cTb_fill 74 = .ok (.iastore, 1) := by decide +kernel
theorem dTb_fill_75 : decode cTb_fill 75 = .ok (.iinc 4 1, 3) := by decide +kernel
theorem dTb_fill_78 : decode cTb_fill 78 = .ok (.goto (-42), 3) := by decide +kernel
theorem dTb_fill_81 : decode cTb_fill 81 = .ok (.return_, 1) := by decide +kernel
theorem dTb_markReached_0 : decode cTb_markReached 0 = .ok (.iconst 0, 1) := by decide +kernel
theorem dTb_markReached_1 : decode cTb_markReached 1 = .ok (.istore_n 3, 1) := by decide +kernel
theorem dTb_markReached_2 : decode cTb_markReached 2 = .ok (.iload_n 3, 1) := by decide +kernel
theorem dTb_markReached_3 : decode cTb_markReached 3 = .ok (.iload_n 2, 1) := by decide +kernel
theorem dTb_markReached_4 : decode cTb_markReached 4 = .ok (.if_icmp .ge 16, 3) := by decide +kernel
theorem dTb_markReached_7 : decode cTb_markReached 7 = .ok (.aload_n 0, 1) := by decide +kernel
theorem dTb_markReached_8 : decode cTb_markReached 8 = .ok (.getfield 9, 3) := by decide +kernel
theorem dTb_markReached_11 : decode cTb_markReached 11 = .ok (.iload_n 3, 1) := by decide +kernel
theorem dTb_markReached_12 : decode cTb_markReached 12 = .ok (.iconst 0, 1) := by decide +kernel
theorem dTb_markReached_13 : decode cTb_markReached 13 = .ok (.iastore, 1) := by decide +kernel
theorem dTb_markReached_14 : decode cTb_markReached 14 = .ok (.iinc 3 1, 3) := by decide +kernel
theorem dTb_markReached_17 : decode cTb_markReached 17 = .ok (.goto (-15), 3) := by decide +kernel
theorem dTb_markReached_20 : decode cTb_markReached 20 = .ok (.aload_n 0, 1) := by decide +kernel
theorem dTb_markReached_21 : decode cTb_markReached 21 = .ok (.getfield 9, 3) := by decide +kernel
theorem dTb_markReached_24 : decode cTb_markReached 24 = .ok (.iload_n 2, 1) := by decide +kernel
theorem dTb_markReached_25 : decode cTb_markReached 25 = .ok (.iconst (-1), 1) := by decide +kernel
theorem dTb_markReached_26 : decode cTb_markReached 26 = .ok (.iastore, 1) := by decide +kernel
theorem dTb_markReached_27 : decode cTb_markReached 27 = .ok (.iload_n 2, 1) := by decide +kernel
theorem dTb_markReached_28 : decode cTb_markReached 28 = .ok (.istore_n 3, 1) := by decide +kernel
theorem dTb_markReached_29 : decode cTb_markReached 29 = .ok (.iload_n 3, 1) := by decide +kernel
theorem dTb_markReached_30 : decode cTb_markReached 30 = .ok (.ifCond .le 64, 3) := by decide +kernel
theorem dTb_markReached_33 : decode cTb_markReached 33 = .ok (.aload_n 0, 1) := by decide +kernel
theorem dTb_markReached_34 : decode cTb_markReached 34 = .ok (.getfield 9, 3) := by decide +kernel
theorem dTb_markReached_37 : decode cTb_markReached 37 = .ok (.iload_n 3, 1) := by decide +kernel
theorem dTb_markReached_38 : decode cTb_markReached 38 = .ok (.iaload, 1) := by decide +kernel
theorem dTb_markReached_39 : decode cTb_markReached 39 = .ok (.iconst (-1), 1) := by decide +kernel
theorem dTb_markReached_40 : decode cTb_markReached 40 = .ok (.if_icmp .ne 48, 3) := by decide +kernel
theorem dTb_markReached_43 : decode cTb_markReached 43 = .ok (.aload_n 1, 1) := by decide +kernel
theorem dTb_markReached_44 : decode cTb_markReached 44 = .ok (.iload_n 3, 1) := by decide +kernel
theorem dTb_markReached_45 : decode cTb_markReached 45 = .ok (.invokestatic 19, 3) := by decide +kernel
theorem dTb_markReached_48 : decode cTb_markReached 48 = .ok (.aaload, 1) := by decide +kernel
theorem dTb_markReached_49 : decode cTb_markReached 49 = .ok (.astore 4, 2) := by decide +kernel
theorem dTb_markReached_51 : decode cTb_markReached 51 = .ok (.iconst 0, 1) := by decide +kernel
theorem dTb_markReached_52 : decode cTb_markReached 52 = .ok (.istore 5, 2) := by decide +kernel
theorem dTb_markReached_54 : decode cTb_markReached 54 = .ok (.iload 5, 2) := by decide +kernel
theorem dTb_markReached_56 : decode cTb_markReached 56 = .ok (.aload 4, 2) := by decide +kernel
theorem dTb_markReached_58 : decode cTb_markReached 58 = .ok (.getfield 27, 3) := by decide +kernel
theorem dTb_markReached_61 : decode cTb_markReached 61 = .ok (.if_icmp .ge 27, 3) := by decide +kernel
theorem dTb_markReached_64 : decode cTb_markReached 64 = .ok (.aload_n 0, 1) := by decide +kernel
theorem dTb_markReached_65 : decode cTb_markReached 65 = .ok (.getfield 9, 3) := by decide +kernel
theorem dTb_markReached_68 : decode cTb_markReached 68 = .ok (.iload_n 3, 1) := by decide +kernel
theorem dTb_markReached_69 : decode cTb_markReached 69 = .ok (.aload 4, 2) := by decide +kernel
theorem dTb_markReached_71 : decode cTb_markReached 71 = .ok (.getfield 33, 3) := by decide +kernel
theorem dTb_markReached_74 : decode cTb_markReached 74 = .ok (.iload 5, 2) := by decide +kernel
theorem dTb_markReached_76 : decode cTb_markReached 76 = .ok (.iaload, 1) := by decide +kernel
theorem dTb_markReached_77 : decode cTb_markReached 77 = .ok (.iconst (-1), 1) := by decide +kernel
theorem dTb_markReached_78 : decode cTb_markReached 78 = .ok (.ixor, 1) := by decide +kernel
theorem dTb_markReached_79 : decode cTb_markReached 79 = .ok (.iand, 1) := by decide +kernel
theorem dTb_markReached_80 : decode cTb_markReached 80 = .ok (.iconst (-1), 1) := by decide +kernel
theorem dTb_markReached_81 : decode cTb_markReached 81 = .ok (.iastore, 1) := by decide +kernel
theorem dTb_markReached_82 : decode cTb_markReached 82 = .ok (.iinc 5 1, 3) := by decide +kernel
theorem dTb_markReached_85 : decode cTb_markReached 85 = .ok (.goto (-31), 3) := by decide +kernel
theorem dTb_markReached_88 : decode cTb_markReached 88 = .ok (.iinc 3 (-1), 3) := by decide +kernel
theorem dTb_markReached_91 : decode cTb_markReached 91 = .ok (.goto (-62), 3) := by decide +kernel
theorem dTb_markReached_94 : decode cTb_markReached 94 = .ok (.return_, 1) := by decide +kernel
theorem dTb_fewestAfterHit_0 : decode cTb_fewestAfterHit 0 = .ok (.bipush 14, 2) := by decide +kernel
theorem dTb_fewestAfterHit_2 : decode cTb_fewestAfterHit 2 = .ok (.istore_n 3, 1) := by decide +kernel
theorem dTb_fewestAfterHit_3 : decode cTb_fewestAfterHit 3 = .ok (.iconst 0, 1) := by decide +kernel
theorem dTb_fewestAfterHit_4 : decode cTb_fewestAfterHit 4 = .ok (.istore 4, 2) := by decide +kernel
theorem dTb_fewestAfterHit_6 : decode cTb_fewestAfterHit 6 = .ok (.iload 4, 2) := by decide +kernel
theorem dTb_fewestAfterHit_8 : decode cTb_fewestAfterHit 8 = .ok (.aload_n 1, 1) := by decide +kernel
theorem dTb_fewestAfterHit_9 : decode cTb_fewestAfterHit 9 = .ok (.getfield 27, 3) := by decide +kernel
theorem dTb_fewestAfterHit_12 : decode cTb_fewestAfterHit 12 = .ok (.if_icmp .ge 30, 3) := by decide +kernel
theorem dTb_fewestAfterHit_15 : decode cTb_fewestAfterHit 15 = .ok (.iload_n 3, 1) := by decide +kernel
theorem dTb_fewestAfterHit_16 : decode cTb_fewestAfterHit 16 = .ok (.aload_n 0, 1) := by decide +kernel
theorem dTb_fewestAfterHit_17 : decode cTb_fewestAfterHit 17 = .ok (.getfield 9, 3) := by decide +kernel
theorem dTb_fewestAfterHit_20 : decode cTb_fewestAfterHit 20 = .ok (.iload_n 2, 1) := by decide +kernel
theorem dTb_fewestAfterHit_21 : decode cTb_fewestAfterHit 21 = .ok (.aload_n 1, 1) := by decide +kernel
theorem dTb_fewestAfterHit_22 : decode cTb_fewestAfterHit 22 = .ok (.getfield 33, 3) := by decide +kernel
theorem dTb_fewestAfterHit_25 : decode cTb_fewestAfterHit 25 = .ok (.iload 4, 2) := by decide +kernel
theorem dTb_fewestAfterHit_27 : decode cTb_fewestAfterHit 27 = .ok (.iaload, 1) := by decide +kernel
theorem dTb_fewestAfterHit_28 : decode cTb_fewestAfterHit 28 = .ok (.iconst (-1), 1) := by decide +kernel
theorem dTb_fewestAfterHit_29 : decode cTb_fewestAfterHit 29 = .ok (.ixor, 1) := by decide +kernel
theorem dTb_fewestAfterHit_30 : decode cTb_fewestAfterHit 30 = .ok (.iand, 1) := by decide +kernel
theorem dTb_fewestAfterHit_31 : decode cTb_fewestAfterHit 31 = .ok (.iaload, 1) := by decide +kernel
theorem dTb_fewestAfterHit_32 : decode cTb_fewestAfterHit 32 = .ok (.invokestatic 36, 3) := by decide +kernel
theorem dTb_fewestAfterHit_35 : decode cTb_fewestAfterHit 35 = .ok (.istore_n 3, 1) := by decide +kernel
theorem dTb_fewestAfterHit_36 : decode cTb_fewestAfterHit 36 = .ok (.iinc 4 1, 3) := by decide +kernel
theorem dTb_fewestAfterHit_39 : decode cTb_fewestAfterHit 39 = .ok (.goto (-33), 3) := by decide +kernel
theorem dTb_fewestAfterHit_42 : decode cTb_fewestAfterHit 42 = .ok (.iload_n 3, 1) := by decide +kernel
theorem dTb_fewestAfterHit_43 : decode cTb_fewestAfterHit 43 = .ok (.ireturn, 1) := by decide +kernel
theorem dTb_firstBest_0 : decode cTb_firstBest 0 = .ok (.aload_n 0, 1) := by decide +kernel
theorem dTb_firstBest_1 : decode cTb_firstBest 1 = .ok (.aload_n 1, 1) := by decide +kernel
theorem dTb_firstBest_2 : decode cTb_firstBest 2 = .ok (.iload_n 2, 1) := by decide +kernel
theorem dTb_firstBest_3 : decode cTb_firstBest 3 = .ok (.invokevirtual 23, 3) := by decide +kernel
theorem dTb_firstBest_6 : decode cTb_firstBest 6 = .ok (.istore_n 3, 1) := by decide +kernel
theorem dTb_firstBest_7 : decode cTb_firstBest 7 = .ok (.iconst 0, 1) := by decide +kernel
theorem dTb_firstBest_8 : decode cTb_firstBest 8 = .ok (.istore 4, 2) := by decide +kernel
theorem dTb_firstBest_10 : decode cTb_firstBest 10 = .ok (.iload 4, 2) := by decide +kernel
theorem dTb_firstBest_12 : decode cTb_firstBest 12 = .ok (.aload_n 1, 1) := by decide +kernel
theorem dTb_firstBest_13 : decode cTb_firstBest 13 = .ok (.getfield 27, 3) := by decide +kernel
theorem dTb_firstBest_16 : decode cTb_firstBest 16 = .ok (.if_icmp .ge 32, 3) := by decide +kernel
theorem dTb_firstBest_19 : decode cTb_firstBest 19 = .ok (.aload_n 0, 1) := by decide +kernel
theorem dTb_firstBest_20 : decode cTb_firstBest 20 = .ok (.getfield 9, 3) := by decide +kernel
theorem dTb_firstBest_23 : decode cTb_firstBest 23 = .ok (.iload_n 2, 1) := by decide +kernel
theorem dTb_firstBest_24 : decode cTb_firstBest 24 = .ok (.aload_n 1, 1) := by decide +kernel
theorem dTb_firstBest_25 : decode cTb_firstBest 25 = .ok (.getfield 33, 3) := by decide +kernel
theorem dTb_firstBest_28 : decode cTb_firstBest 28 = .ok (.iload 4, 2) := by decide +kernel
theorem dTb_firstBest_30 : decode cTb_firstBest 30 = .ok (.iaload, 1) := by decide +kernel
theorem dTb_firstBest_31 : decode cTb_firstBest 31 = .ok (.iconst (-1), 1) := by decide +kernel
theorem dTb_firstBest_32 : decode cTb_firstBest 32 = .ok (.ixor, 1) := by decide +kernel
theorem dTb_firstBest_33 : decode cTb_firstBest 33 = .ok (.iand, 1) := by decide +kernel
theorem dTb_firstBest_34 : decode cTb_firstBest 34 = .ok (.iaload, 1) := by decide +kernel
theorem dTb_firstBest_35 : decode cTb_firstBest 35 = .ok (.iload_n 3, 1) := by decide +kernel
theorem dTb_firstBest_36 : decode cTb_firstBest 36 = .ok (.if_icmp .ne 6, 3) := by decide +kernel
theorem dTb_firstBest_39 : decode cTb_firstBest 39 = .ok (.iload 4, 2) := by decide +kernel
theorem dTb_firstBest_41 : decode cTb_firstBest 41 = .ok (.ireturn, 1) := by decide +kernel
theorem dTb_firstBest_42 : decode cTb_firstBest 42 = .ok (.iinc 4 1, 3) := by decide +kernel
theorem dTb_firstBest_45 : decode cTb_firstBest 45 = .ok (.goto (-35), 3) := by decide +kernel
theorem dTb_firstBest_48 : decode cTb_firstBest 48 = .ok (.iconst 0, 1) := by decide +kernel
theorem dTb_firstBest_49 : decode cTb_firstBest 49 = .ok (.ireturn, 1) := by decide +kernel
theorem dHt_add_0 : decode cHt_add 0 = .ok (.aload_n 0, 1) := by decide +kernel
theorem dHt_add_1 : decode cHt_add 1 = .ok (.getfield 24, 3) := by decide +kernel
theorem dHt_add_4 : decode cHt_add 4 = .ok (.bipush 14, 2) := by decide +kernel
theorem dHt_add_6 : decode cHt_add 6 = .ok (.if_icmp .lt 4, 3) := by decide +kernel
theorem dHt_add_9 : decode cHt_add 9 = .ok (.return_, 1) := by decide +kernel
theorem dHt_add_10 : decode cHt_add 10 = .ok (.aload_n 0, 1) := by decide +kernel
theorem dHt_add_11 : decode cHt_add 11 = .ok (.getfield 9, 3) := by decide +kernel
theorem dHt_add_14 : decode cHt_add 14 = .ok (.aload_n 0, 1) := by decide +kernel
theorem dHt_add_15 : decode cHt_add 15 = .ok (.getfield 24, 3) := by decide +kernel
theorem dHt_add_18 : decode cHt_add 18 = .ok (.iload_n 1, 1) := by decide +kernel
theorem dHt_add_19 : decode cHt_add 19 = .ok (.iastore, 1) := by decide +kernel
theorem dHt_add_20 : decode cHt_add 20 = .ok (.aload_n 0, 1) := by decide +kernel
theorem dHt_add_21 : decode cHt_add 21 = .ok (.getfield 15, 3) := by decide +kernel
theorem dHt_add_24 : decode cHt_add 24 = .ok (.aload_n 0, 1) := by decide +kernel
theorem dHt_add_25 : decode cHt_add 25 = .ok (.getfield 24, 3) := by decide +kernel
theorem dHt_add_28 : decode cHt_add 28 = .ok (.iload_n 2, 1) := by decide +kernel
theorem dHt_add_29 : decode cHt_add 29 = .ok (.iastore, 1) := by decide +kernel
theorem dHt_add_30 : decode cHt_add 30 = .ok (.aload_n 0, 1) := by decide +kernel
theorem dHt_add_31 : decode cHt_add 31 = .ok (.getfield 18, 3) := by decide +kernel
theorem dHt_add_34 : decode cHt_add 34 = .ok (.aload_n 0, 1) := by decide +kernel
theorem dHt_add_35 : decode cHt_add 35 = .ok (.getfield 24, 3) := by decide +kernel
theorem dHt_add_38 : decode cHt_add 38 = .ok (.iload_n 3, 1) := by decide +kernel
theorem dHt_add_39 : decode cHt_add 39 = .ok (.iastore, 1) := by decide +kernel
theorem dHt_add_40 : decode cHt_add 40 = .ok (.aload_n 0, 1) := by decide +kernel
theorem dHt_add_41 : decode cHt_add 41 = .ok (.getfield 21, 3) := by decide +kernel
theorem dHt_add_44 : decode cHt_add 44 = .ok (.aload_n 0, 1) := by decide +kernel
theorem dHt_add_45 : decode cHt_add 45 = .ok (.getfield 24, 3) := by decide +kernel
theorem dHt_add_48 : decode cHt_add 48 = .ok (.iload 4, 2) := by decide +kernel
theorem dHt_add_50 : decode cHt_add 50 = .ok (.iastore, 1) := by decide +kernel
theorem dHt_add_51 : decode cHt_add 51 = .ok (.aload_n 0, 1) := by decide +kernel
theorem dHt_add_52 : decode cHt_add 52 = .ok (.dup, 1) := by decide +kernel
theorem dHt_add_53 : decode cHt_add 53 = .ok (.getfield 24, 3) := by decide +kernel
theorem dHt_add_56 : decode cHt_add 56 = .ok (.iconst 1, 1) := by decide +kernel
theorem dHt_add_57 : decode cHt_add 57 = .ok (.iadd, 1) := by decide +kernel
theorem dHt_add_58 : decode cHt_add 58 = .ok (.putfield 24, 3) := by decide +kernel
theorem dHt_add_61 : decode cHt_add 61 = .ok (.return_, 1) := by decide +kernel
theorem dWy_find_0 : decode cWy_find 0 = .ok (.aload_n 1, 1) := by decide +kernel
theorem dWy_find_1 : decode cWy_find 1 = .ok (.getfield 18, 3) := by decide +kernel
theorem dWy_find_4 : decode cWy_find 4 = .ok (.bipush 10, 2) := by decide +kernel
theorem dWy_find_6 : decode cWy_find 6 = .ok (.if_icmp .gt 16, 3) := by decide +kernel
theorem dWy_find_9 : decode cWy_find 9 = .ok (.aload_n 0, 1) := by decide +kernel
theorem dWy_find_10 : decode cWy_find 10 = .ok (.aload_n 1, 1) := by decide +kernel
theorem dWy_find_11 : decode cWy_find 11 = .ok (.invokevirtual 24, 3) := by decide +kernel
theorem dWy_find_14 : decode cWy_find 14 = .ok (.aload_n 0, 1) := by decide +kernel
theorem dWy_find_15 : decode cWy_find 15 = .ok (.aload_n 1, 1) := by decide +kernel
theorem dWy_find_16 : decode cWy_find 16 = .ok (.invokevirtual 28, 3) := by decide +kernel
theorem dWy_find_19 : decode cWy_find 19 = .ok (.goto 8, 3) := by decide +kernel
theorem dWy_find_22 : decode cWy_find 22 = .ok (.aload_n 0, 1) := by decide +kernel
theorem dWy_find_23 : decode cWy_find 23 = .ok (.aload_n 1, 1) := by decide +kernel
theorem dWy_find_24 : decode cWy_find 24 = .ok (.invokevirtual 31, 3) := by decide +kernel
theorem dWy_find_27 : decode cWy_find 27 = .ok (.aload_n 0, 1) := by decide +kernel
theorem dWy_find_28 : decode cWy_find 28 = .ok (.aload_n 1, 1) := by decide +kernel
theorem dWy_find_29 : decode cWy_find 29 = .ok (.invokevirtual 34, 3) := by decide +kernel
theorem dWy_find_32 : decode cWy_find 32 = .ok (.return_, 1) := by decide +kernel
theorem dWy_fillShortest_0 : decode cWy_fillShortest 0 = .ok (.iconst 1, 1) := by decide +kernel
theorem dWy_fillShortest_1 : decode cWy_fillShortest 1 = .ok (.aload_n 1, 1) := by decide +kernel
theorem dWy_fillShortest_2 : decode cWy_fillShortest 2 = .ok (.getfield 18, 3) := by decide +kernel
theorem dWy_fillShortest_5 : decode cWy_fillShortest 5 = .ok (.ishl, 1) := by decide +kernel
theorem dWy_fillShortest_6 : decode cWy_fillShortest 6 = .ok (.istore_n 2, 1) := by decide +kernel
theorem dWy_fillShortest_7 : decode cWy_fillShortest 7 = .ok (.aload_n 0, 1) := by decide +kernel
theorem dWy_fillShortest_8 : decode cWy_fillShortest 8 = .ok (.getfield 15, 3) := by decide +kernel
theorem dWy_fillShortest_11 : decode cWy_fillShortest 11 = .ok (.arraylength, 1) := by decide +kernel
theorem dWy_fillShortest_12 : decode cWy_fillShortest 12 = .ok (.iload_n 2, 1) := by decide +kernel
theorem dWy_fillShortest_13 : decode cWy_fillShortest 13 = .ok (.aload_n 1, 1) := by decide +kernel
theorem dWy_fillShortest_14 : decode cWy_fillShortest 14 = .ok (.getfield 18, 3) := by decide +kernel
theorem dWy_fillShortest_17 : decode cWy_fillShortest 17 = .ok (.imul, 1) := by decide +kernel
theorem dWy_fillShortest_18 : decode cWy_fillShortest 18 = .ok (.if_icmp .ge 15, 3) := by decide +kernel
theorem dWy_fillShortest_21 : decode cWy_fillShortest 21 = .ok (.aload_n 0, 1) := by decide +kernel
theorem dWy_fillShortest_22 : decode cWy_fillShortest 22 = .ok (.iload_n 2, 1) := by decide +kernel
theorem dWy_fillShortest_23 : decode cWy_fillShortest 23 = .ok (.aload_n 1, 1) := by decide +kernel
theorem dWy_fillShortest_24 : decode cWy_fillShortest 24 = .ok (.getfield 18, 3) := by decide +kernel
theorem dWy_fillShortest_27 : decode cWy_fillShortest 27 = .ok (.imul, 1) := by decide +kernel
theorem dWy_fillShortest_28 : decode cWy_fillShortest 28 = .ok (.newarray .int, 2) := by decide +kernel
theorem dWy_fillShortest_30 : decode cWy_fillShortest 30 = .ok (.putfield 15, 3) := by decide +kernel
theorem dWy_fillShortest_33 : decode cWy_fillShortest 33 = .ok (.iconst 0, 1) := by decide +kernel
theorem dWy_fillShortest_34 : decode cWy_fillShortest 34 = .ok (.istore_n 3, 1) := by decide +kernel
theorem dWy_fillShortest_35 : decode cWy_fillShortest 35 = .ok (.iload_n 3, 1) := by decide +kernel
theorem dWy_fillShortest_36 : decode cWy_fillShortest 36 = .ok (.iload_n 2, 1) := by decide +kernel
theorem dWy_fillShortest_37 : decode cWy_fillShortest 37 = .ok (.if_icmp .ge 108, 3) := by decide +kernel
theorem dWy_fillShortest_40 : decode cWy_fillShortest 40 = .ok (.iconst 0, 1) := by decide +kernel
theorem dWy_fillShortest_41 : decode cWy_fillShortest 41 = .ok (.istore 4, 2) := by decide +kernel
theorem dWy_fillShortest_43 : decode cWy_fillShortest 43 = .ok (.iload 4, 2) := by decide +kernel
theorem dWy_fillShortest_45 : decode cWy_fillShortest 45 = .ok (.aload_n 1, 1) := by decide +kernel
theorem dWy_fillShortest_46 : decode cWy_fillShortest 46 = .ok (.getfield 18, 3) := by decide +kernel
theorem dWy_fillShortest_49 : decode cWy_fillShortest 49 = .ok (.if_icmp .ge 90, 3) := by decide +kernel
theorem dWy_fillShortest_52 : decode cWy_fillShortest 52 = .ok (.iload_n 3, 1) := by decide +kernel
theorem dWy_fillShortest_53 : decode cWy_fillShortest 53 = .ok (.iload 4, 2) := by decide +kernel
theorem dWy_fillShortest_55 : decode cWy_fillShortest 55 = .ok (.invokestatic 37, 3) := by decide +kernel
theorem dWy_fillShortest_58 : decode cWy_fillShortest 58 = .ok (.ifCond .ne 75, 3) := by decide +kernel
theorem dWy_fillShortest_61 : decode cWy_fillShortest 61 = .ok (.aload_n 0, 1) := by decide +kernel
theorem dWy_fillShortest_62 : decode cWy_fillShortest 62 = .ok (.aload_n 1, 1) := by decide +kernel
theorem dWy_fillShortest_63 : decode cWy_fillShortest 63 = .ok (.iload_n 3, 1) := by decide +kernel
theorem dWy_fillShortest_64 : decode cWy_fillShortest 64 = .ok (.aload_n 1, 1) := by decide +kernel
theorem dWy_fillShortest_65 : decode cWy_fillShortest 65 = .ok (.getfield 41, 3) := by decide +kernel
theorem dWy_fillShortest_68 : decode cWy_fillShortest 68 = .ok (.iload 4, 2) := by decide +kernel
theorem dWy_fillShortest_70 : decode cWy_fillShortest 70 = .ok (.iaload, 1) := by decide +kernel
theorem dWy_fillShortest_71 : decode cWy_fillShortest 71 = .ok (.aload_n 1, 1) := by decide +kernel
theorem dWy_fillShortest_72 : decode cWy_fillShortest 72 = .ok (.getfield 44, 3) := by decide +kernel
theorem dWy_fillShortest_75 : decode cWy_fillShortest 75 = .ok (.iload 4, 2) := by decide +kernel
theorem dWy_fillShortest_77 : decode cWy_fillShortest 77 = .ok (.iaload, 1) := by decide +kernel
theorem dWy_fillShortest_78 : decode cWy_fillShortest 78 = .ok (.invokevirtual 47, 3) := by decide +kernel
theorem dWy_fillShortest_81 : decode cWy_fillShortest 81 = .ok (.istore 5, 2) := by decide +kernel
theorem dWy_fillShortest_83 : decode cWy_fillShortest 83 = .ok (.iload 5, 2) := by decide +kernel
theorem dWy_fillShortest_85 : decode cWy_fillShortest 85 = .ok (.iconst (-1), 1) := by decide +kernel
theorem dWy_fillShortest_86 : decode cWy_fillShortest 86 = .ok (.if_icmp .ne 7, 3) := by decide +kernel
theorem dWy_fillShortest_89 : decode cWy_fillShortest 89 = .ok (.iconst 0, 1) := by decide +kernel
theorem dWy_fillShortest_90 : decode cWy_fillShortest 90 = .ok (.goto 25, 3) := by decide +kernel
theorem dWy_fillShortest_93 : decode cWy_fillShortest 93 = .ok (.aload_n 0, 1) := by decide +kernel
theorem dWy_fillShortest_94 : decode cWy_fillShortest 94 = .ok (.aload_n 1, 1) := by decide +kernel
theorem dWy_fillShortest_95 : decode cWy_fillShortest 95 = .ok (.iload 5, 2) := by decide +kernel
theorem dWy_fillShortest_97 : decode cWy_fillShortest 97 = .ok (.iload_n 3, 1) := by decide +kernel
theorem dWy_fillShortest_98 : decode cWy_fillShortest 98 = .ok (.aload_n 1, 1) := by decide +kernel
theorem dWy_fillShortest_99 : decode cWy_fillShortest 99 = .ok (.getfield 41, 3) := by decide +kernel
theorem dWy_fillShortest_102 : decode cWy_fillShortest 102 = .ok (.iload 4, 2) := by decide +kernel
theorem dWy_fillShortest_104 : decode cWy_fillShortest 104 = .ok (.iaload, 1) := by decide +kernel
theorem dWy_fillShortest_105 : decode cWy_fillShortest 105 = .ok (.aload_n 1, 1) := by decide +kernel
theorem dWy_fillShortest_106 : decode cWy_fillShortest 106 = .ok (.getfield 44, 3) := by decide +kernel
theorem dWy_fillShortest_109 : decode cWy_fillShortest 109 = .ok (.iload 4, 2) := by decide +kernel
theorem dWy_fillShortest_111 : decode cWy_fillShortest 111 = .ok (.iaload, 1) := by decide +kernel
theorem dWy_fillShortest_112 : decode cWy_fillShortest 112 = .ok (.invokevirtual 51, 3) := by decide +kernel
theorem dWy_fillShortest_115 : decode cWy_fillShortest 115 = .ok (.istore 6, 2) := by decide +kernel
theorem dWy_fillShortest_117 : decode cWy_fillShortest 117 = .ok (.aload_n 0, 1) := by decide +kernel
theorem dWy_fillShortest_118 : decode cWy_fillShortest 118 = .ok (.getfield 15, 3) := by decide +kernel
theorem dWy_fillShortest_121 : decode cWy_fillShortest 121 = .ok (.iload_n 3, 1) := by decide +kernel
theorem dWy_fillShortest_122 : decode cWy_fillShortest 122 = .ok (.aload_n 1, 1) := by decide +kernel
theorem dWy_fillShortest_123 : decode cWy_fillShortest 123 = .ok (.getfield 18, 3) := by decide +kernel
theorem dWy_fillShortest_126 : decode cWy_fillShortest 126 = .ok (.imul, 1) := by decide +kernel
theorem dWy_fillShortest_127 : decode cWy_fillShortest 127 = .ok (.iload 4, 2) := by decide +kernel
theorem dWy_fillShortest_129 : decode cWy_fillShortest 129 = .ok (.iadd, 1) := by decide +kernel
theorem dWy_fillShortest_130 : decode cWy_fillShortest 130 = .ok (.iload 6, 2) := by decide +kernel
theorem dWy_fillShortest_132 : decode cWy_fillShortest 132 = .ok (.iastore, 1) := by decide +kernel
theorem dWy_fillShortest_133 : decode cWy_fillShortest 133 = .ok (.iinc 4 1, 3) := by decide +kernel
theorem dWy_fillShortest_136 : decode cWy_fillShortest 136 = .ok (.goto (-93), 3) := by decide +kernel
theorem dWy_fillShortest_139 : decode cWy_fillShortest 139 = .ok (.iinc 3 1, 3) := by decide +kernel
theorem dWy_fillShortest_142 : decode cWy_fillShortest 142 = .ok (.goto (-107), 3) := by decide +kernel
theorem dWy_fillShortest_145 : decode cWy_fillShortest 145 = .ok (.return_, 1) := by decide +kernel
theorem dWy_nextHit_0 : decode cWy_nextHit 0 = .ok (.iconst (-1), 1) := by decide +kernel
theorem dWy_nextHit_1 : decode cWy_nextHit 1 = .ok (.istore 5, 2) := by decide +kernel
theorem dWy_nextHit_3 : decode cWy_nextHit 3 = .ok (.iconst 0, 1) := by decide +kernel
theorem dWy_nextHit_4 : decode cWy_nextHit 4 = .ok (.istore 6, 2) := by decide +kernel
theorem dWy_nextHit_6 : decode cWy_nextHit 6 = .ok (.iconst 0, 1) := by decide +kernel
theorem dWy_nextHit_7 : decode cWy_nextHit 7 = .ok (.istore 7, 2) := by decide +kernel
theorem dWy_nextHit_9 : decode cWy_nextHit 9 = .ok (.iload 7, 2) := by decide +kernel
theorem dWy_nextHit_11 : decode cWy_nextHit 11 = .ok (.aload_n 1, 1) := by decide +kernel
theorem dWy_nextHit_12 : decode cWy_nextHit 12 = .ok (.getfield 18, 3) := by decide +kernel
theorem dWy_nextHit_15 : decode cWy_nextHit 15 = .ok (.if_icmp .ge 52, 3) := by decide +kernel
theorem dWy_nextHit_18 : decode cWy_nextHit 18 = .ok (.iload_n 2, 1) := by decide +kernel
theorem dWy_nextHit_19 : decode cWy_nextHit 19 = .ok (.iload 7, 2) := by decide +kernel
theorem dWy_nextHit_21 : decode cWy_nextHit 21 = .ok (.invokestatic 37, 3) := by decide +kernel
theorem dWy_nextHit_24 : decode cWy_nextHit 24 = .ok (.ifCond .eq 37, 3) := by decide +kernel
theorem dWy_nextHit_27 : decode cWy_nextHit 27 = .ok (.aload_n 0, 1) := by decide +kernel
theorem dWy_nextHit_28 : decode cWy_nextHit 28 = .ok (.aload_n 1, 1) := by decide +kernel
theorem dWy_nextHit_29 : decode cWy_nextHit 29 = .ok (.iload 7, 2) := by decide +kernel
theorem dWy_nextHit_31 : decode cWy_nextHit 31 = .ok (.iload_n 2, 1) := by decide +kernel
theorem dWy_nextHit_32 : decode cWy_nextHit 32 = .ok (.iload_n 3, 1) := by decide +kernel
theorem dWy_nextHit_33 : decode cWy_nextHit 33 = .ok (.iload 4, 2) := by decide +kernel
theorem dWy_nextHit_35 : decode cWy_nextHit 35 = .ok (.invokevirtual 51, 3) := by decide +kernel
theorem dWy_nextHit_38 : decode cWy_nextHit 38 = .ok (.istore 8, 2) := by decide +kernel
theorem dWy_nextHit_40 : decode cWy_nextHit 40 = .ok (.iload 5, 2) := by decide +kernel
theorem dWy_nextHit_42 : decode cWy_nextHit 42 = .ok (.iconst (-1), 1) := by decide +kernel
theorem dWy_nextHit_43 : decode cWy_nextHit 43 = .ok (.if_icmp .eq 10, 3) := by decide +kernel
theorem dWy_nextHit_46 : decode cWy_nextHit 46 = .ok (.iload 8, 2) := by decide +kernel
theorem dWy_nextHit_48 : decode cWy_nextHit 48 = .ok (.iload 6, 2) := by decide +kernel
theorem dWy_nextHit_50 : decode cWy_nextHit 50 = .ok (.if_icmp .ge 11, 3) := by decide +kernel
theorem dWy_nextHit_53 : decode cWy_nextHit 53 = .ok (.iload 7, 2) := by decide +kernel
theorem dWy_nextHit_55 : decode cWy_nextHit 55 = .ok (.istore 5, 2) := by decide +kernel
theorem dWy_nextHit_57 : decode cWy_nextHit 57 = .ok (.iload 8, 2) := by decide +kernel
theorem dWy_nextHit_59 : decode cWy_nextHit 59 = .ok (.istore 6, 2) := by decide +kernel
theorem dWy_nextHit_61 : decode cWy_nextHit 61 = .ok (.iinc 7 1, 3) := by decide +kernel
theorem dWy_nextHit_64 : decode cWy_nextHit 64 = .ok (.goto (-55), 3) := by decide +kernel
theorem dWy_nextHit_67 : decode cWy_nextHit 67 = .ok (.iload 5, 2) := by decide +kernel
theorem dWy_nextHit_69 : decode cWy_nextHit 69 = .ok (.ireturn, 1) := by decide +kernel
theorem dWy_wayOver_0 : decode cWy_wayOver 0 = .ok (.aload_n 1, 1) := by decide +kernel
theorem dWy_wayOver_1 : decode cWy_wayOver 1 = .ok (.iload_n 2, 1) := by decide +kernel
theorem dWy_wayOver_2 : decode cWy_wayOver 2 = .ok (.iload 4, 2) := by decide +kernel
theorem dWy_wayOver_4 : decode cWy_wayOver 4 = .ok (.iload 5, 2) := by decide +kernel
theorem dWy_wayOver_6 : decode cWy_wayOver 6 = .ok (.invokestatic 63, 3) := by decide +kernel
theorem dWy_wayOver_9 : decode cWy_wayOver 9 = .ok (.aload_n 0, 1) := by decide +kernel
theorem dWy_wayOver_10 : decode cWy_wayOver 10 = .ok (.getfield 15, 3) := by decide +kernel
theorem dWy_wayOver_13 : decode cWy_wayOver 13 = .ok (.iload_n 3, 1) := by decide +kernel
theorem dWy_wayOver_14 : decode cWy_wayOver 14 = .ok (.iload_n 2, 1) := by decide +kernel
theorem dWy_wayOver_15 : decode cWy_wayOver 15 = .ok (.invokestatic 55, 3) := by decide +kernel
theorem dWy_wayOver_18 : decode cWy_wayOver 18 = .ok (.aload_n 1, 1) := by decide +kernel
theorem dWy_wayOver_19 : decode cWy_wayOver 19 = .ok (.getfield 18, 3) := by decide +kernel
theorem dWy_wayOver_22 : decode cWy_wayOver 22 = .ok (.imul, 1) := by decide +kernel
theorem dWy_wayOver_23 : decode cWy_wayOver 23 = .ok (.iload_n 2, 1) := by decide +kernel
theorem dWy_wayOver_24 : decode cWy_wayOver 24 = .ok (.iadd, 1) := by decide +kernel
theorem dWy_wayOver_25 : decode cWy_wayOver 25 = .ok (.iaload, 1) := by decide +kernel
theorem dWy_wayOver_26 : decode cWy_wayOver 26 = .ok (.iadd, 1) := by decide +kernel
theorem dWy_wayOver_27 : decode cWy_wayOver 27 = .ok (.ireturn, 1) := by decide +kernel
theorem dWy_distance_0 : decode cWy_distance 0 = .ok (.aload_n 0, 1) := by decide +kernel
theorem dWy_distance_1 : decode cWy_distance 1 = .ok (.getfield 41, 3) := by decide +kernel
theorem dWy_distance_4 : decode cWy_distance 4 = .ok (.iload_n 1, 1) := by decide +kernel
theorem dWy_distance_5 : decode cWy_distance 5 = .ok (.iaload, 1) := by decide +kernel
theorem dWy_distance_6 : decode cWy_distance 6 = .ok (.iload_n 2, 1) := by decide +kernel
theorem dWy_distance_7 : decode cWy_distance 7 = .ok (.isub, 1) := by decide +kernel
theorem dWy_distance_8 : decode cWy_distance 8 = .ok (.invokestatic 66, 3) := by decide +kernel
theorem dWy_distance_11 : decode cWy_distance 11 = .ok (.aload_n 0, 1) := by decide +kernel
theorem dWy_distance_12 : decode cWy_distance 12 = .ok (.getfield 44, 3) := by decide +kernel
theorem dWy_distance_15 : decode cWy_distance 15 = .ok (.iload_n 1, 1) := by decide +kernel
theorem dWy_distance_16 : decode cWy_distance 16 = .ok (.iaload, 1) := by decide +kernel
theorem dWy_distance_17 : decode cWy_distance 17 = .ok (.iload_n 3, 1) := by decide +kernel
theorem dWy_distance_18 : decode cWy_distance 18 = .ok (.isub, 1) := by decide +kernel
theorem dWy_distance_19 : decode cWy_distance 19 = .ok (.invokestatic 66, 3) := by decide +kernel
theorem dWy_distance_22 : decode cWy_distance 22 = .ok (.iadd, 1) := by decide +kernel
theorem dWy_distance_23 : decode cWy_distance 23 = .ok (.ireturn, 1) := by decide +kernel
theorem dWy_takeShortest_0 : decode cWy_takeShortest 0 = .ok (.iconst 1, 1) := by decide +kernel
theorem dWy_takeShortest_1 : decode cWy_takeShortest 1 = .ok (.aload_n 1, 1) := by decide +kernel
theorem dWy_takeShortest_2 : decode cWy_takeShortest 2 = .ok (.getfield 18, 3) := by decide +kernel
theorem dWy_takeShortest_5 : decode cWy_takeShortest 5 = .ok (.ishl, 1) := by decide +kernel
theorem dWy_takeShortest_6 : decode cWy_takeShortest 6 = .ok (.iconst 1, 1) := by decide +kernel
theorem dWy_takeShortest_7 : decode cWy_takeShortest 7 = .ok (.isub, 1) := by decide +kernel
theorem dWy_takeShortest_8 : decode cWy_takeShortest 8 = .ok (.istore_n 2, 1) := by decide +kernel
theorem dWy_takeShortest_9 : decode cWy_takeShortest 9 = .ok (.iconst 0, 1) := by decide +kernel
theorem dWy_takeShortest_10 : decode cWy_takeShortest 10 = .ok (.istore_n 3, 1) := by decide +kernel
theorem dWy_takeShortest_11 : decode cWy_takeShortest 11 = .ok (.iconst 0, 1) := by decide +kernel
theorem dWy_takeShortest_12 : decode cWy_takeShortest 12 = .ok (.istore 4, 2) := by decide +kernel
theorem dWy_takeShortest_14 : decode cWy_takeShortest 14 = .ok (.iconst 0, 1) := by decide +kernel
theorem dWy_takeShortest_15 : decode cWy_takeShortest 15 = .ok (.istore 5, 2) := by decide +kernel
theorem dWy_takeShortest_17 : decode cWy_takeShortest 17 = .ok (.iload 5, 2) := by decide +kernel
theorem dWy_takeShortest_19 : decode cWy_takeShortest 19 = .ok (.aload_n 1, 1) := by decide +kernel
theorem dWy_takeShortest_20 : decode cWy_takeShortest 20 = .ok (.getfield 18, 3) := by decide +kernel
theorem dWy_takeShortest_23 : decode cWy_takeShortest 23 = .ok (.if_icmp .ge 60, 3) := by decide +kernel
theorem dWy_takeShortest_26 : decode cWy_takeShortest 26 = .ok (.aload_n 0, 1) := by decide +kernel
theorem dWy_takeShortest_27 : decode cWy_takeShortest 27 = .ok (.aload_n 1, 1) := by decide +kernel
theorem dWy_takeShortest_28 : decode cWy_takeShortest 28 = .ok (.iload_n 2, 1) := by decide +kernel
theorem dWy_takeShortest_29 : decode cWy_takeShortest 29 = .ok (.iload_n 3, 1) := by decide +kernel
theorem dWy_takeShortest_30 : decode cWy_takeShortest 30 = .ok (.iload 4, 2) := by decide +kernel
theorem dWy_takeShortest_32 : decode cWy_takeShortest 32 = .ok (.invokevirtual 47, 3) := by decide +kernel
theorem dWy_takeShortest_35 : decode cWy_takeShortest 35 = .ok (.istore 6, 2) := by decide +kernel
theorem dWy_takeShortest_37 : decode cWy_takeShortest 37 = .ok (.iload 6, 2) := by decide +kernel
theorem dWy_takeShortest_39 : decode cWy_takeShortest 39 = .ok (.iconst (-1), 1) := by decide +kernel
theorem dWy_takeShortest_40 : decode cWy_takeShortest 40 = .ok (.if_icmp .ne 4, 3) := by decide +kernel
theorem dWy_takeShortest_43 : decode cWy_takeShortest 43 = .ok (.return_, 1) := by decide +kernel
theorem dWy_takeShortest_44 : decode cWy_takeShortest 44 = .ok (.aload_n 0, 1) := by decide +kernel
theorem dWy_takeShortest_45 : decode cWy_takeShortest 45 = .ok (.getfield 9, 3) := by decide +kernel
theorem dWy_takeShortest_48 : decode cWy_takeShortest 48 = .ok (.iload 5, 2) := by decide +kernel
theorem dWy_takeShortest_50 : decode cWy_takeShortest 50 = .ok (.iload 6, 2) := by decide +kernel
theorem dWy_takeShortest_52 : decode cWy_takeShortest 52 = .ok (.iastore, 1) := by decide +kernel
theorem dWy_takeShortest_53 : decode cWy_takeShortest 53 = .ok (.iload_n 2, 1) := by decide +kernel
theorem dWy_takeShortest_54 : decode cWy_takeShortest 54 = .ok (.iload 6, 2) := by decide +kernel
theorem dWy_takeShortest_56 : decode cWy_takeShortest 56 = .ok (.invokestatic 55, 3) := by decide +kernel
theorem dWy_takeShortest_59 : decode cWy_takeShortest 59 = .ok (.istore_n 2, 1) := by decide +kernel
theorem dWy_takeShortest_60 : decode cWy_takeShortest 60 = .ok (.aload_n 1, 1) := by decide +kernel
theorem dWy_takeShortest_61 : decode cWy_takeShortest 61 = .ok (.getfield 41, 3) := by decide +kernel
theorem dWy_takeShortest_64 : decode cWy_takeShortest 64 = .ok (.iload 6, 2) := by decide +kernel
theorem dWy_takeShortest_66 : decode cWy_takeShortest 66 = .ok (.iaload, 1) := by decide +kernel
theorem dWy_takeShortest_67 : decode cWy_takeShortest 67 = .ok (.istore_n 3, 1) := by decide +kernel
theorem dWy_takeShortest_68 : decode cWy_takeShortest 68 = .ok (.aload_n 1, 1) := by decide +kernel
theorem dWy_takeShortest_69 : decode cWy_takeShortest 69 = .ok (.getfield 44, 3) := by decide +kernel
theorem dWy_takeShortest_72 : decode cWy_takeShortest 72 = .ok (.iload 6, 2) := by decide +kernel
theorem dWy_takeShortest_74 : decode cWy_takeShortest 74 = .ok (.iaload, 1) := by decide +kernel
theorem dWy_takeShortest_75 : decode cWy_takeShortest 75 = .ok (.istore 4, 2) := by decide +kernel
theorem dWy_takeShortest_77 : decode cWy_takeShortest 77 = .ok (.iinc 5 1, 3) := by decide +kernel
theorem dWy_takeShortest_80 : decode cWy_takeShortest 80 = .ok (.goto (-63), 3) := by decide +kernel
theorem dWy_takeShortest_83 : decode cWy_takeShortest 83 = .ok (.return_, 1) := by decide +kernel
theorem dWy_takeOwnOrder_0 : decode cWy_takeOwnOrder 0 = .ok (.iconst 0, 1) := by decide +kernel
theorem dWy_takeOwnOrder_1 : decode cWy_takeOwnOrder 1 = .ok (.istore_n 2, 1) := by decide +kernel
theorem dWy_takeOwnOrder_2 : decode cWy_takeOwnOrder 2 = .ok (.iload_n 2, 1) := by decide +kernel
theorem dWy_takeOwnOrder_3 : decode cWy_takeOwnOrder 3 = .ok (.aload_n 1, 1) := by decide +kernel
theorem dWy_takeOwnOrder_4 : decode cWy_takeOwnOrder 4 = .ok (.getfield 18, 3) := by decide +kernel
theorem dWy_takeOwnOrder_7 : decode cWy_takeOwnOrder 7 = .ok (.if_icmp .ge 16, 3) := by decide +kernel
theorem dWy_takeOwnOrder_10 : decode cWy_takeOwnOrder 10 = .ok (.aload_n 0, 1) := by decide +kernel
theorem dWy_takeOwnOrder_11 : decode cWy_takeOwnOrder 11 = .ok (.getfield 9, 3) := by decide +kernel
theorem dWy_takeOwnOrder_14 : decode cWy_takeOwnOrder 14 = .ok (.iload_n 2, 1) := by decide +kernel
theorem dWy_takeOwnOrder_15 : decode cWy_takeOwnOrder 15 = .ok (.iload_n 2, 1) := by decide +kernel
theorem dWy_takeOwnOrder_16 : decode cWy_takeOwnOrder 16 = .ok (.iastore, 1) := by decide +kernel
theorem dWy_takeOwnOrder_17 : decode cWy_takeOwnOrder 17 = .ok (.iinc 2 1, 3) := by decide +kernel
theorem dWy_takeOwnOrder_20 : decode cWy_takeOwnOrder 20 = .ok (.goto (-18), 3) := by decide +kernel
theorem dWy_takeOwnOrder_23 : decode cWy_takeOwnOrder 23 = .ok (.return_, 1) := by decide +kernel
theorem dWy_measure_0 : decode cWy_measure 0 = .ok (.aload_n 0, 1) := by decide +kernel
theorem dWy_measure_1 : decode cWy_measure 1 = .ok (.lconst 0, 1) := by decide +kernel
theorem dWy_measure_2 : decode cWy_measure 2 = .ok (.putfield 59, 3) := by decide +kernel
theorem dWy_measure_5 : decode cWy_measure 5 = .ok (.iconst 0, 1) := by decide +kernel
theorem dWy_measure_6 : decode cWy_measure 6 = .ok (.istore_n 2, 1) := by decide +kernel
theorem dWy_measure_7 : decode cWy_measure 7 = .ok (.iconst 0, 1) := by decide +kernel
theorem dWy_measure_8 : decode cWy_measure 8 = .ok (.istore_n 3, 1) := by decide +kernel
theorem dWy_measure_9 : decode cWy_measure 9 = .ok (.iconst 0, 1) := by decide +kernel
theorem dWy_measure_10 : decode cWy_measure 10 = .ok (.istore 4, 2) := by decide +kernel
theorem dWy_measure_12 : decode cWy_measure 12 = .ok (.iload 4, 2) := by decide +kernel
theorem dWy_measure_14 : decode cWy_measure 14 = .ok (.aload_n 1, 1) := by decide +kernel
theorem dWy_measure_15 : decode cWy_measure 15 = .ok (.getfield 18, 3) := by decide +kernel
theorem dWy_measure_18 : decode cWy_measure 18 = .ok (.if_icmp .ge 52, 3) := by decide +kernel
theorem dWy_measure_21 : decode cWy_measure 21 = .ok (.aload_n 0, 1) := by decide +kernel
theorem dWy_measure_22 : decode cWy_measure 22 = .ok (.getfield 9, 3) := by decide +kernel
theorem dWy_measure_25 : decode cWy_measure 25 = .ok (.iload 4, 2) := by decide +kernel
theorem dWy_measure_27 : decode cWy_measure 27 = .ok (.iaload, 1) := by decide +kernel
theorem dWy_measure_28 : decode cWy_measure 28 = .ok (.istore 5, 2) := by decide +kernel
theorem dWy_measure_30 : decode cWy_measure 30 = .ok (.aload_n 0, 1) := by decide +kernel
theorem dWy_measure_31 : decode cWy_measure 31 = .ok (.dup, 1) := by decide +kernel
theorem dWy_measure_32 : decode cWy_measure 32 = .ok (.getfield 59, 3) := by decide +kernel
theorem dWy_measure_35 : decode cWy_measure 35 = .ok (.aload_n 1, 1) := by decide +kernel
theorem dWy_measure_36 : decode cWy_measure 36 = .ok (.iload 5, 2) := by decide +kernel
theorem dWy_measure_38 : decode cWy_measure 38 = .ok (.iload_n 2, 1) := by decide +kernel
theorem dWy_measure_39 : decode cWy_measure 39 = .ok (.iload_n 3, 1) := by decide +kernel
theorem dWy_measure_40 : decode cWy_measure 40 = .ok (.invokestatic 63, 3) := by decide +kernel
theorem dWy_measure_43 : decode cWy_measure 43 = .ok (.i2l, 1) := by decide +kernel
theorem dWy_measure_44 : decode cWy_measure 44 = .ok (.ladd, 1) := by decide +kernel
theorem dWy_measure_45 : decode cWy_measure 45 = .ok (.putfield 59, 3) := by decide +kernel
theorem dWy_measure_48 : decode cWy_measure 48 = .ok (.aload_n 1, 1) := by decide +kernel
theorem dWy_measure_49 : decode cWy_measure 49 = .ok (.getfield 41, 3) := by decide +kernel
theorem dWy_measure_52 : decode cWy_measure 52 = .ok (.iload 5, 2) := by decide +kernel
theorem dWy_measure_54 : decode cWy_measure 54 = .ok (.iaload, 1) := by decide +kernel
theorem dWy_measure_55 : decode cWy_measure 55 = .ok (.istore_n 2, 1) := by decide +kernel
theorem dWy_measure_56 : decode cWy_measure 56 = .ok (.aload_n 1, 1) := by decide +kernel
theorem dWy_measure_57 : decode cWy_measure 57 = .ok (.getfield 44, 3) := by decide +kernel
theorem dWy_measure_60 : decode cWy_measure 60 = .ok (.iload 5, 2) := by decide +kernel
theorem dWy_measure_62 : decode cWy_measure 62 = .ok (.iaload, 1) := by decide +kernel
theorem dWy_measure_63 : decode cWy_measure 63 = .ok (.istore_n 3, 1) := by decide +kernel
theorem dWy_measure_64 : decode cWy_measure 64 = .ok (.iinc 4 1, 3) := by decide +kernel
theorem dWy_measure_67 : decode cWy_measure 67 = .ok (.goto (-55), 3) := by decide +kernel
theorem dWy_measure_70 : decode cWy_measure 70 = .ok (.return_, 1) := by decide +kernel
theorem dHd_change_0 : decode cHd_change 0 = .ok (.aload_n 0, 1) := by decide +kernel
theorem dHd_change_1 : decode cHd_change 1 = .ok (.getfield 9, 3) := by decide +kernel
theorem dHd_change_4 : decode cHd_change 4 = .ok (.iload_n 1, 1) := by decide +kernel
theorem dHd_change_5 : decode cHd_change 5 = .ok (.iaload, 1) := by decide +kernel
theorem dHd_change_6 : decode cHd_change 6 = .ok (.iload_n 2, 1) := by decide +kernel
theorem dHd_change_7 : decode cHd_change 7 = .ok (.if_icmp .ne 26, 3) := by decide +kernel
theorem dHd_change_10 : decode cHd_change 10 = .ok (.aload_n 0, 1) := by decide +kernel
theorem dHd_change_11 : decode cHd_change 11 = .ok (.getfield 15, 3) := by decide +kernel
theorem dHd_change_14 : decode cHd_change 14 = .ok (.iload_n 1, 1) := by decide +kernel
theorem dHd_change_15 : decode cHd_change 15 = .ok (.iaload, 1) := by decide +kernel
theorem dHd_change_16 : decode cHd_change 16 = .ok (.iload_n 3, 1) := by decide +kernel
theorem dHd_change_17 : decode cHd_change 17 = .ok (.if_icmp .ne 16, 3) := by decide +kernel
theorem dHd_change_20 : decode cHd_change 20 = .ok (.aload_n 0, 1) := by decide +kernel
theorem dHd_change_21 : decode cHd_change 21 = .ok (.getfield 18, 3) := by decide +kernel
theorem dHd_change_24 : decode cHd_change 24 = .ok (.iload_n 1, 1) := by decide +kernel
theorem dHd_change_25 : decode cHd_change 25 = .ok (.iaload, 1) := by decide +kernel
theorem dHd_change_26 : decode cHd_change 26 = .ok (.iload 4, 2) := by decide +kernel
theorem dHd_change_28 : decode cHd_change 28 = .ok (.if_icmp .ne 5, 3) := by decide +kernel
theorem dHd_change_31 : decode cHd_change 31 = .ok (.iconst 0, 1) := by decide +kernel
theorem dHd_change_32 : decode cHd_change 32 = .ok (.ireturn, 1) := by decide +kernel
theorem dHd_change_33 : decode cHd_change 33 = .ok (.aload_n 0, 1) := by decide +kernel
theorem dHd_change_34 : decode cHd_change 34 = .ok (.getfield 9, 3) := by decide +kernel
theorem dHd_change_37 : decode cHd_change 37 = .ok (.iload_n 1, 1) := by decide +kernel
theorem dHd_change_38 : decode cHd_change 38 = .ok (.iload_n 2, 1) := by decide +kernel
theorem dHd_change_39 : decode cHd_change 39 = .ok (.iastore, 1) := by decide +kernel
theorem dHd_change_40 : decode cHd_change 40 = .ok (.aload_n 0, 1) := by decide +kernel
theorem dHd_change_41 : decode cHd_change 41 = .ok (.getfield 15, 3) := by decide +kernel
theorem dHd_change_44 : decode cHd_change 44 = .ok (.iload_n 1, 1) := by decide +kernel
theorem dHd_change_45 : decode cHd_change 45 = .ok (.iload_n 3, 1) := by decide +kernel
theorem dHd_change_46 : decode cHd_change 46 = .ok (.iastore, 1) := by decide +kernel
theorem dHd_change_47 : decode cHd_change 47 = .ok (.aload_n 0, 1) := by decide +kernel
theorem dHd_change_48 : decode cHd_change 48 = .ok (.getfield 18, 3) := by decide +kernel
theorem dHd_change_51 : decode cHd_change 51 = .ok (.iload_n 1, 1) := by decide +kernel
theorem dHd_change_52 : decode cHd_change 52 = .ok (.iload 4, 2) := by decide +kernel
theorem dHd_change_54 : decode cHd_change 54 = .ok (.iastore, 1) := by decide +kernel
theorem dHd_change_55 : decode cHd_change 55 = .ok (.aload_n 0, 1) := by decide +kernel
theorem dHd_change_56 : decode cHd_change 56 = .ok (.invokevirtual 21, 3) := by decide +kernel
theorem dHd_change_59 : decode cHd_change 59 = .ok (.iconst 1, 1) := by decide +kernel
theorem dHd_change_60 : decode cHd_change 60 = .ok (.ireturn, 1) := by decide +kernel
theorem dHd_measureFrame_0 : decode cHd_measureFrame 0 = .ok (.sipush 10000, 3) := by decide +kernel
theorem dHd_measureFrame_3 : decode cHd_measureFrame 3 = .ok (.istore_n 1, 1) := by decide +kernel
theorem dHd_measureFrame_4 : decode cHd_measureFrame 4 = .ok (.sipush 10000, 3) := by decide +kernel
theorem dHd_measureFrame_7 : decode cHd_measureFrame 7 = .ok (.istore_n 2, 1) := by decide +kernel
theorem dHd_measureFrame_8 : decode cHd_measureFrame 8 = .ok (.sipush (-10000), 3) := by decide +kernel
theorem dHd_measureFrame_11 : decode cHd_measureFrame 11 = .ok (.istore_n 3, 1) := by decide +kernel
theorem dHd_measureFrame_12 : decode cHd_measureFrame 12 = .ok (.sipush (-10000), 3) := by decide +kernel
theorem dHd_measureFrame_15 : decode cHd_measureFrame 15 = .ok (.istore 4, 2) := by decide +kernel
theorem dHd_measureFrame_17 : decode cHd_measureFrame 17 = .ok (.iconst 0, 1) := by decide +kernel
theorem dHd_measureFrame_18 : decode cHd_measureFrame 18 = .ok (.istore 5, 2) := by decide +kernel
theorem dHd_measureFrame_20 : decode cHd_measureFrame 20 = .ok (.iload 5, 2) := by decide +kernel
theorem dHd_measureFrame_22 : decode cHd_measureFrame 22 = .ok (.aload_n 0, 1) := by decide +kernel
theorem dHd_measureFrame_23 : decode cHd_measureFrame 23 = .ok (.getfield 18, 3) := by decide +kernel
theorem dHd_measureFrame_26 : decode cHd_measureFrame 26 = .ok (.arraylength, 1) := by decide +kernel
theorem dHd_measureFrame_27 : decode cHd_measureFrame 27 = .ok (.if_icmp .ge 69, 3) := by decide +kernel
theorem dHd_measureFrame_30 : decode cHd_measureFrame 30 = .ok (.aload_n 0, 1) := by decide +kernel
theorem dHd_measureFrame_31 : decode cHd_measureFrame 31 = .ok (.getfield 18, 3) := by decide +kernel
theorem dHd_measureFrame_34 : decode cHd_measureFrame 34 = .ok (.iload 5, 2) := by decide +kernel
theorem dHd_measureFrame_36 : decode cHd_measureFrame 36 = .ok (.iaload, 1) := by decide +kernel
theorem dHd_measureFrame_37 : decode cHd_measureFrame 37 = .ok (.ifCond .le 53, 3) := by decide +kernel
theorem dHd_measureFrame_40 : decode cHd_measureFrame 40 = .ok (.iload_n 1, 1) := by decide +kernel
theorem dHd_measureFrame_41 : decode cHd_measureFrame 41 = .ok (.aload_n 0, 1) := by decide +kernel
theorem dHd_measureFrame_42 : decode cHd_measureFrame 42 = .ok (.getfield 9, 3) := by decide +kernel
theorem dHd_measureFrame_45 : decode cHd_measureFrame 45 = .ok (.iload 5, 2) := by decide +kernel
theorem dHd_measureFrame_47 : decode cHd_measureFrame 47 = .ok (.iaload, 1) := by decide +kernel
theorem dHd_measureFrame_48 : decode cHd_measureFrame 48 = .ok (.invokestatic 24, 3) := by decide +kernel
theorem dHd_measureFrame_51 : decode cHd_measureFrame 51 = .ok (.istore_n 1, 1) := by decide +kernel
theorem dHd_measureFrame_52 : decode cHd_measureFrame 52 = .ok (.iload_n 2, 1) := by decide +kernel
theorem dHd_measureFrame_53 : decode cHd_measureFrame 53 = .ok (.aload_n 0, 1) := by decide +kernel
theorem dHd_measureFrame_54 : decode cHd_measureFrame 54 = .ok (.getfield 15, 3) := by decide +kernel
theorem dHd_measureFrame_57 : decode cHd_measureFrame 57 = .ok (.iload 5, 2) := by decide +kernel
theorem dHd_measureFrame_59 : decode cHd_measureFrame 59 = .ok (.iaload, 1) := by decide +kernel
theorem dHd_measureFrame_60 : decode cHd_measureFrame 60 = .ok (.invokestatic 24, 3) := by decide +kernel
theorem dHd_measureFrame_63 : decode cHd_measureFrame 63 = .ok (.istore_n 2, 1) := by decide +kernel
theorem dHd_measureFrame_64 : decode cHd_measureFrame 64 = .ok (.iload_n 3, 1) := by decide +kernel
theorem dHd_measureFrame_65 : decode cHd_measureFrame 65 = .ok (.aload_n 0, 1) := by decide +kernel
theorem dHd_measureFrame_66 : decode cHd_measureFrame 66 = .ok (.getfield 9, 3) := by decide +kernel
theorem dHd_measureFrame_69 : decode cHd_measureFrame 69 = .ok (.iload 5, 2) := by decide +kernel
theorem dHd_measureFrame_71 : decode cHd_measureFrame 71 = .ok (.iaload, 1) := by decide +kernel
theorem dHd_measureFrame_72 : decode cHd_measureFrame 72 = .ok (.invokestatic 30, 3) := by decide +kernel
theorem dHd_measureFrame_75 : decode cHd_measureFrame 75 = .ok (.istore_n 3, 1) := by decide +kernel
theorem dHd_measureFrame_76 : decode cHd_measureFrame 76 = .ok (.iload 4, 2) := by decide +kernel
theorem dHd_measureFrame_78 : decode cHd_measureFrame 78 = .ok (.aload_n 0, 1) := by decide +kernel
theorem dHd_measureFrame_79 : decode cHd_measureFrame 79 = .ok (.getfield 15, 3) := by decide +kernel
theorem dHd_measureFrame_82 : decode cHd_measureFrame 82 = .ok (.iload 5, 2) := by decide +kernel
theorem dHd_measureFrame_84 : decode cHd_measureFrame 84 = .ok (.iaload, 1) := by decide +kernel
theorem dHd_measureFrame_85 : decode cHd_measureFrame 85 = .ok (.invokestatic 30, 3) := by decide +kernel
theorem dHd_measureFrame_88 : decode cHd_measureFrame 88 = .ok (.istore 4, 2) := by decide +kernel
theorem dHd_measureFrame_90 : decode cHd_measureFrame 90 = .ok (.iinc 5 1, 3) := by decide +kernel
theorem dHd_measureFrame_93 : decode cHd_measureFrame 93 = .ok (.goto (-73), 3) := by decide +kernel
theorem dHd_measureFrame_96 : decode cHd_measureFrame 96 = .ok (.aload_n 0, 1) := by decide +kernel
theorem dHd_measureFrame_97 : decode cHd_measureFrame 97 = .ok (.iload_n 1, 1) := by decide +kernel
theorem dHd_measureFrame_98 : decode cHd_measureFrame 98 = .ok (.iconst 1, 1) := by decide +kernel
theorem dHd_measureFrame_99 : decode cHd_measureFrame 99 = .ok (.isub, 1) := by decide +kernel
theorem dHd_measureFrame_100 : decode cHd_measureFrame 100 = .ok (.putfield 33, 3) := by decide +kernel
theorem dHd_measureFrame_103 : decode cHd_measureFrame 103 = .ok (.aload_n 0, 1) := by decide +kernel
theorem dHd_measureFrame_104 : decode cHd_measureFrame 104 = .ok (.iload_n 2, 1) := by decide +kernel
theorem dHd_measureFrame_105 : decode cHd_measureFrame 105 = .ok (.iconst 1, 1) := by decide +kernel
theorem dHd_measureFrame_106 : decode cHd_measureFrame 106 = .ok (.isub, 1) := by decide +kernel
theorem dHd_measureFrame_107 : decode cHd_measureFrame 107 = .ok (.putfield 37, 3) := by decide +kernel
theorem dHd_measureFrame_110 : decode cHd_measureFrame 110 = .ok (.aload_n 0, 1) := by decide +kernel
theorem dHd_measureFrame_111 : decode cHd_measureFrame 111 = .ok (.iload_n 3, 1) := by decide +kernel
theorem dHd_measureFrame_112 : decode cHd_measureFrame 112 = .ok (.iconst 1, 1) := by decide +kernel
theorem dHd_measureFrame_113 : decode cHd_measureFrame 113 = .ok (.iadd, 1) := by decide +kernel
theorem dHd_measureFrame_114 : decode cHd_measureFrame 114 = .ok (.putfield 40, 3) := by decide +kernel
theorem dHd_measureFrame_117 : decode cHd_measureFrame 117 = .ok (.aload_n 0, 1) := by decide +kernel
theorem dHd_measureFrame_118 : decode cHd_measureFrame 118 = .ok (.iload 4, 2) := by decide +kernel
theorem dHd_measureFrame_120 : decode cHd_measureFrame 120 = .ok (.iconst 1, 1) := by decide +kernel
theorem dHd_measureFrame_121 : decode cHd_measureFrame 121 = .ok (.iadd, 1) := by decide +kernel
theorem dHd_measureFrame_122 : decode cHd_measureFrame 122 = .ok (.putfield 43, 3) := by decide +kernel
theorem dHd_measureFrame_125 : decode cHd_measureFrame 125 = .ok (.return_, 1) := by decide +kernel
theorem dPt_add_0 : decode cPt_add 0 = .ok (.aload_n 0, 1) := by decide +kernel
theorem dPt_add_1 : decode cPt_add 1 = .ok (.getfield 31, 3) := by decide +kernel
theorem dPt_add_4 : decode cPt_add 4 = .ok (.istore 6, 2) := by decide +kernel
theorem dPt_add_6 : decode cPt_add 6 = .ok (.aload_n 0, 1) := by decide +kernel
theorem dPt_add_7 : decode cPt_add 7 = .ok (.getfield 9, 3) := by decide +kernel
theorem dPt_add_10 : decode cPt_add 10 = .ok (.iload 6, 2) := by decide +kernel
theorem dPt_add_12 : decode cPt_add 12 = .ok (.iload_n 1, 1) := by decide +kernel
theorem dPt_add_13 : decode cPt_add 13 = .ok (.iastore, 1) := by decide +kernel
theorem dPt_add_14 : decode cPt_add 14 = .ok (.aload_n 0, 1) := by decide +kernel
theorem dPt_add_15 : decode cPt_add 15 = .ok (.getfield 15, 3) := by decide +kernel
theorem dPt_add_18 : decode cPt_add 18 = .ok (.iload 6, 2) := by decide +kernel
theorem dPt_add_20 : decode cPt_add 20 = .ok (.iload_n 2, 1) := by decide +kernel
theorem dPt_add_21 : decode cPt_add 21 = .ok (.iastore, 1) := by decide +kernel
theorem dPt_add_22 : decode cPt_add 22 = .ok (.aload_n 0, 1) := by decide +kernel
theorem dPt_add_23 : decode cPt_add 23 = .ok (.getfield 18, 3) := by decide +kernel
theorem dPt_add_26 : decode cPt_add 26 = .ok (.iload 6, 2) := by decide +kernel
theorem dPt_add_28 : decode cPt_add 28 = .ok (.iload_n 3, 1) := by decide +kernel
theorem dPt_add_29 : decode cPt_add 29 = .ok (.iastore, 1) := by decide +kernel
theorem dPt_add_30 : decode cPt_add 30 = .ok (.aload_n 0, 1) := by decide +kernel
theorem dPt_add_31 : decode cPt_add 31 = .ok (.getfield 21, 3) := by decide +kernel
theorem dPt_add_34 : decode cPt_add 34 = .ok (.iload 6, 2) := by decide +kernel
theorem dPt_add_36 : decode cPt_add 36 = .ok (.iload 4, 2) := by decide +kernel
theorem dPt_add_38 : decode cPt_add 38 = .ok (.iastore, 1) := by decide +kernel
theorem dPt_add_39 : decode cPt_add 39 = .ok (.aload_n 0, 1) := by decide +kernel
theorem dPt_add_40 : decode cPt_add 40 = .ok (.getfield 24, 3) := by decide +kernel
theorem dPt_add_43 : decode cPt_add 43 = .ok (.iload 6, 2) := by decide +kernel
theorem dPt_add_45 : decode cPt_add 45 = .ok (.iload 5, 2) := by decide +kernel
theorem dPt_add_47 : decode cPt_add 47 = .ok (.iastore, 1) := by decide +kernel
theorem dPt_add_48 : decode cPt_add 48 = .ok (.aload_n 0, 1) := by decide +kernel
theorem dPt_add_49 : decode cPt_add 49 = .ok (.dup, 1) := by decide +kernel
theorem dPt_add_50 : decode cPt_add 50 = .ok (.getfield 31, 3) := by decide +kernel
theorem dPt_add_53 : decode cPt_add 53 = .ok (.iconst 1, 1) := by decide +kernel
theorem dPt_add_54 : decode cPt_add 54 = .ok (.iadd, 1) := by decide +kernel
theorem dPt_add_55 : decode cPt_add 55 = .ok (.putfield 31, 3) := by decide +kernel
theorem dPt_add_58 : decode cPt_add 58 = .ok (.iload 6, 2) := by decide +kernel
theorem dPt_add_60 : decode cPt_add 60 = .ok (.ireturn, 1) := by decide +kernel
theorem dCl_add_0 : decode cCl_add 0 = .ok (.aload_n 0, 1) := by decide +kernel
theorem dCl_add_1 : decode cCl_add 1 = .ok (.getfield 9, 3) := by decide +kernel
theorem dCl_add_4 : decode cCl_add 4 = .ok (.aload_n 0, 1) := by decide +kernel
theorem dCl_add_5 : decode cCl_add 5 = .ok (.getfield 24, 3) := by decide +kernel
theorem dCl_add_8 : decode cCl_add 8 = .ok (.iload_n 1, 1) := by decide +kernel
theorem dCl_add_9 : decode cCl_add 9 = .ok (.iastore, 1) := by decide +kernel
theorem dCl_add_10 : decode cCl_add 10 = .ok (.aload_n 0, 1) := by decide +kernel
theorem dCl_add_11 : decode cCl_add 11 = .ok (.getfield 15, 3) := by decide +kernel
theorem dCl_add_14 : decode cCl_add 14 = .ok (.aload_n 0, 1) := by decide +kernel
theorem dCl_add_15 : decode cCl_add 15 = .ok (.getfield 24, 3) := by decide +kernel
theorem dCl_add_18 : decode cCl_add 18 = .ok (.iload_n 2, 1) := by decide +kernel
theorem dCl_add_19 : decode cCl_add 19 = .ok (.iastore, 1) := by decide +kernel
theorem dCl_add_20 : decode cCl_add 20 = .ok (.aload_n 0, 1) := by decide +kernel
theorem dCl_add_21 : decode cCl_add 21 = .ok (.getfield 18, 3) := by decide +kernel
theorem dCl_add_24 : decode cCl_add 24 = .ok (.aload_n 0, 1) := by decide +kernel
theorem dCl_add_25 : decode cCl_add 25 = .ok (.getfield 24, 3) := by decide +kernel
theorem dCl_add_28 : decode cCl_add 28 = .ok (.iload_n 3, 1) := by decide +kernel
theorem dCl_add_29 : decode cCl_add 29 = .ok (.iastore, 1) := by decide +kernel
theorem dCl_add_30 : decode cCl_add 30 = .ok (.aload_n 0, 1) := by decide +kernel
theorem dCl_add_31 : decode cCl_add 31 = .ok (.getfield 21, 3) := by decide +kernel
theorem dCl_add_34 : decode cCl_add 34 = .ok (.aload_n 0, 1) := by decide +kernel
theorem dCl_add_35 : decode cCl_add 35 = .ok (.getfield 24, 3) := by decide +kernel
theorem dCl_add_38 : decode cCl_add 38 = .ok (.iload 4, 2) := by decide +kernel
theorem dCl_add_40 : decode cCl_add 40 = .ok (.iastore, 1) := by decide +kernel
theorem dCl_add_41 : decode cCl_add 41 = .ok (.aload_n 0, 1) := by decide +kernel
theorem dCl_add_42 : decode cCl_add 42 = .ok (.dup, 1) := by decide +kernel
theorem dCl_add_43 : decode cCl_add 43 = .ok (.getfield 24, 3) := by decide +kernel
theorem dCl_add_46 : decode cCl_add 46 = .ok (.iconst 1, 1) := by decide +kernel
theorem dCl_add_47 : decode cCl_add 47 = .ok (.iadd, 1) := by decide +kernel
theorem dCl_add_48 : decode cCl_add 48 = .ok (.putfield 24, 3) := by decide +kernel
theorem dCl_add_51 : decode cCl_add 51 = .ok (.return_, 1) := by decide +kernel
theorem dHt_drilling_0 : decode cHt_drilling 0 = .ok (.iconst 0, 1) := by decide +kernel
theorem dHt_drilling_1 : decode cHt_drilling 1 = .ok (.istore_n 2, 1) := by decide +kernel
theorem dHt_drilling_2 : decode cHt_drilling 2 = .ok (.iload_n 2, 1) := by decide +kernel
theorem dHt_drilling_3 : decode cHt_drilling 3 = .ok (.aload_n 0, 1) := by decide +kernel
theorem dHt_drilling_4 : decode cHt_drilling 4 = .ok (.getfield 24, 3) := by decide +kernel
theorem dHt_drilling_7 : decode cHt_drilling 7 = .ok (.if_icmp .ge 24, 3) := by decide +kernel
theorem dHt_drilling_10 : decode cHt_drilling 10 = .ok (.aload_n 0, 1) := by decide +kernel
theorem dHt_drilling_11 : decode cHt_drilling 11 = .ok (.getfield 21, 3) := by decide +kernel
theorem dHt_drilling_14 : decode cHt_drilling 14 = .ok (.iload_n 2, 1) := by decide +kernel
theorem dHt_drilling_15 : decode cHt_drilling 15 = .ok (.iaload, 1) := by decide +kernel
theorem dHt_drilling_16 : decode cHt_drilling 16 = .ok (.iload_n 1, 1) := by decide +kernel
theorem dHt_drilling_17 : decode cHt_drilling 17 = .ok (.invokestatic 28, 3) := by decide +kernel
theorem dHt_drilling_20 : decode cHt_drilling 20 = .ok (.ifCond .eq 5, 3) := by decide +kernel
theorem dHt_drilling_23 : decode cHt_drilling 23 = .ok (.iload_n 2, 1) := by decide +kernel
theorem dHt_drilling_24 : decode cHt_drilling 24 = .ok (.ireturn, 1) := by decide +kernel
theorem dHt_drilling_25 : decode cHt_drilling 25 = .ok (.iinc 2 1, 3) := by decide +kernel
theorem dHt_drilling_28 : decode cHt_drilling 28 = .ok (.goto (-26), 3) := by decide +kernel
theorem dHt_drilling_31 : decode cHt_drilling 31 = .ok (.iconst (-1), 1) := by decide +kernel
theorem dHt_drilling_32 : decode cHt_drilling 32 = .ok (.ireturn, 1) := by decide +kernel
theorem dHd_countThere_0 : decode cHd_countThere 0 = .ok (.iconst 0, 1) := by decide +kernel
theorem dHd_countThere_1 : decode cHd_countThere 1 = .ok (.istore_n 1, 1) := by decide +kernel
theorem dHd_countThere_2 : decode cHd_countThere 2 = .ok (.iconst 0, 1) := by decide +kernel
theorem dHd_countThere_3 : decode cHd_countThere 3 = .ok (.istore_n 2, 1) := by decide +kernel
theorem dHd_countThere_4 : decode cHd_countThere 4 = .ok (.iload_n 2, 1) := by decide +kernel
theorem dHd_countThere_5 : decode cHd_countThere 5 = .ok (.aload_n 0, 1) := by decide +kernel
theorem dHd_countThere_6 : decode cHd_countThere 6 = .ok (.getfield 18, 3) := by decide +kernel
theorem dHd_countThere_9 : decode cHd_countThere 9 = .ok (.arraylength, 1) := by decide +kernel
theorem dHd_countThere_10 : decode cHd_countThere 10 = .ok (.if_icmp .ge 21, 3) := by decide +kernel
theorem dHd_countThere_13 : decode cHd_countThere 13 = .ok (.aload_n 0, 1) := by decide +kernel
theorem dHd_countThere_14 : decode cHd_countThere 14 = .ok (.getfield 18, 3) := by decide +kernel
theorem dHd_countThere_17 : decode cHd_countThere 17 = .ok (.iload_n 2, 1) := by decide +kernel
theorem dHd_countThere_18 : decode cHd_countThere 18 = .ok (.iaload, 1) := by decide +kernel
theorem dHd_countThere_19 : decode cHd_countThere 19 = .ok (.ifCond .le 6, 3) := by decide +kernel
theorem dHd_countThere_22 : decode cHd_countThere 22 = .ok (.iinc 1 1, 3) := by decide +kernel
theorem dHd_countThere_25 : decode cHd_countThere 25 = .ok (.iinc 2 1, 3) := by decide +kernel
theorem dHd_countThere_28 : decode cHd_countThere 28 = .ok (.goto (-24), 3) := by decide +kernel
theorem dHd_countThere_31 : decode cHd_countThere 31 = .ok (.iload_n 1, 1) := by decide +kernel
theorem dHd_countThere_32 : decode cHd_countThere 32 = .ok (.ireturn, 1) := by decide +kernel
end
section
theorem dDH_init_0 : decode cDH_init 0 = .ok (.aload_n 0, 1) := by decide +kernel
theorem dDH_init_1 : decode cDH_init 1 = .ok (.invokespecial 1, 3) := by decide +kernel
theorem dDH_init_4 : decode cDH_init 4 = .ok (.aload_n 0, 1) := by decide +kernel
theorem dDH_init_5 : decode cDH_init 5 = .ok (.new 7, 3) := by decide +kernel
theorem dDH_init_8 : decode cDH_init 8 = .ok (.dup, 1) := by decide +kernel
theorem dDH_init_9 : decode cDH_init 9 = .ok (.iconst 1, 1) := by decide +kernel
theorem dDH_init_10 : decode cDH_init 10 = .ok (.bipush 16, 2) := by decide +kernel
theorem dDH_init_12 : decode cDH_init 12 = .ok (.iload_n 1, 1) := by decide +kernel
theorem dDH_init_13 : decode cDH_init 13 = .ok (.invokestatic 11, 3) := by decide +kernel
theorem dDH_init_16 : decode cDH_init 16 = .ok (.invokestatic 17, 3) := by decide +kernel
theorem dDH_init_19 : decode cDH_init 19 = .ok (.invokespecial 20, 3) := by decide +kernel
theorem dDH_init_22 : decode cDH_init 22 = .ok (.putfield 23, 3) := by decide +kernel
theorem dDH_init_25 : decode cDH_init 25 = .ok (.aload_n 0, 1) := by decide +kernel
theorem dDH_init_26 : decode cDH_init 26 = .ok (.new 27, 3) := by decide +kernel
theorem dDH_init_29 : decode cDH_init 29 = .ok (.dup, 1) := by decide +kernel
theorem dDH_init_30 : decode cDH_init 30 = .ok (.invokespecial 29, 3) := by decide +kernel
theorem dDH_init_33 : decode cDH_init 33 = .ok (.putfield 30, 3) := by decide +kernel
theorem dDH_init_36 : decode cDH_init 36 = .ok (.aload_n 0, 1) := by decide +kernel
theorem dDH_init_37 : decode cDH_init 37 = .ok (.new 34, 3) := by decide +kernel
theorem dDH_init_40 : decode cDH_init 40 = .ok (.dup, 1) := by decide +kernel
theorem dDH_init_41 : decode cDH_init 41 = .ok (.invokespecial 36, 3) := by decide +kernel
theorem dDH_init_44 : decode cDH_init 44 = .ok (.putfield 37, 3) := by decide +kernel
theorem dDH_init_47 : decode cDH_init 47 = .ok (.aload_n 0, 1) := by decide +kernel
theorem dDH_init_48 : decode cDH_init 48 = .ok (.bipush 14, 2) := by decide +kernel
theorem dDH_init_50 : decode cDH_init 50 = .ok (.anewarray 41, 3) := by decide +kernel
theorem dDH_init_53 : decode cDH_init 53 = .ok (.putfield 43, 3) := by decide +kernel
theorem dDH_init_56 : decode cDH_init 56 = .ok (.iconst 0, 1) := by decide +kernel
theorem dDH_init_57 : decode cDH_init 57 = .ok (.istore_n 2, 1) := by decide +kernel
theorem dDH_init_58 : decode cDH_init 58 = .ok (.iload_n 2, 1) := by decide +kernel
theorem dDH_init_59 : decode cDH_init 59 = .ok (.bipush 14, 2) := by decide +kernel
theorem dDH_init_61 : decode cDH_init 61 = .ok (.if_icmp .ge 22, 3) := by decide +kernel
theorem dDH_init_64 : decode cDH_init 64 = .ok (.aload_n 0, 1) := by decide +kernel
theorem dDH_init_65 : decode cDH_init 65 = .ok (.getfield 43, 3) := by decide +kernel
theorem dDH_init_68 : decode cDH_init 68 = .ok (.iload_n 2, 1) := by decide +kernel
theorem dDH_init_69 : decode cDH_init 69 = .ok (.new 41, 3) := by decide +kernel
theorem dDH_init_72 : decode cDH_init 72 = .ok (.dup, 1) := by decide +kernel
theorem dDH_init_73 : decode cDH_init 73 = .ok (.invokespecial 47, 3) := by decide +kernel
theorem dDH_init_76 : decode cDH_init 76 = .ok (.aastore, 1) := by decide +kernel
theorem dDH_init_77 : decode cDH_init 77 = .ok (.iinc 2 1, 3) := by decide +kernel
theorem dDH_init_80 : decode cDH_init 80 = .ok (.goto (-22), 3) := by decide +kernel
theorem dDH_init_83 : decode cDH_init 83 = .ok (.aload_n 0, 1) := by decide +kernel
theorem dDH_init_84 : decode cDH_init 84 = .ok (.new 48, 3) := by decide +kernel
theorem dDH_init_87 : decode cDH_init 87 = .ok (.dup, 1) := by decide +kernel
theorem dDH_init_88 : decode cDH_init 88 = .ok (.invokespecial 50, 3) := by decide +kernel
theorem dDH_init_91 : decode cDH_init 91 = .ok (.putfield 51, 3) := by decide +kernel
theorem dDH_init_94 : decode cDH_init 94 = .ok (.aload_n 0, 1) := by decide +kernel
theorem dDH_init_95 : decode cDH_init 95 = .ok (.new 55, 3) := by decide +kernel
theorem dDH_init_98 : decode cDH_init 98 = .ok (.dup, 1) := by decide +kernel
theorem dDH_init_99 : decode cDH_init 99 = .ok (.invokespecial 57, 3) := by decide +kernel
theorem dDH_init_102 : decode cDH_init 102 = .ok (.putfield 58, 3) := by decide +kernel
theorem dDH_init_105 : decode cDH_init 105 = .ok (.aload_n 0, 1) := by decide +kernel
theorem dDH_init_106 : decode cDH_init 106 = .ok (.new 62, 3) := by decide +kernel
theorem dDH_init_109 : decode cDH_init 109 = .ok (.dup, 1) := by decide +kernel
theorem dDH_init_110 : decode cDH_init 110 = .ok (.invokespecial 64, 3) := by decide +kernel
theorem dDH_init_113 : decode cDH_init 113 = .ok (.putfield 65, 3) := by decide +kernel
theorem dDH_init_116 : decode cDH_init 116 = .ok (.return_, 1) := by decide +kernel
theorem dDH_run_0 : decode cDH_run 0 = .ok (.aload_n 0, 1) := by decide +kernel
theorem dDH_run_1 : decode cDH_run 1 = .ok (.getfield 92, 3) := by decide +kernel
theorem dDH_run_4 : decode cDH_run 4 = .ok (.ifCond .ne 27, 3) := by decide +kernel
theorem dDH_run_7 : decode cDH_run 7 = .ok (.aload_n 0, 1) := by decide +kernel
theorem dDH_run_8 : decode cDH_run 8 = .ok (.invokevirtual 130, 3) := by decide +kernel
theorem dDH_run_11 : decode cDH_run 11 = .ok (.aload_n 0, 1) := by decide +kernel
theorem dDH_run_12 : decode cDH_run 12 = .ok (.invokevirtual 133, 3) := by decide +kernel
theorem dDH_run_15 : decode cDH_run 15 = .ok (.aload_n 0, 1) := by decide +kernel
theorem dDH_run_16 : decode cDH_run 16 = .ok (.getfield 65, 3) := by decide +kernel
theorem dDH_run_19 : decode cDH_run 19 = .ok (.aload_n 0, 1) := by decide +kernel
theorem dDH_run_20 : decode cDH_run 20 = .ok (.getfield 51, 3) := by decide +kernel
theorem dDH_run_23 : decode cDH_run 23 = .ok (.invokevirtual 136, 3) := by decide +kernel
theorem dDH_run_26 : decode cDH_run 26 = .ok (.aload_n 0, 1) := by decide +kernel
theorem dDH_run_27 : decode cDH_run 27 = .ok (.iconst 1, 1) := by decide +kernel
theorem dDH_run_28 : decode cDH_run 28 = .ok (.putfield 92, 3) := by decide +kernel
theorem dDH_run_31 : decode cDH_run 31 = .ok (.aload_n 0, 1) := by decide +kernel
theorem dDH_run_32 : decode cDH_run 32 = .ok (.getfield 51, 3) := by decide +kernel
theorem dDH_run_35 : decode cDH_run 35 = .ok (.getfield 140, 3) := by decide +kernel
theorem dDH_run_38 : decode cDH_run 38 = .ok (.ireturn, 1) := by decide +kernel
theorem dDH_findPlaces_0 : decode cDH_findPlaces 0 = .ok (.aload_n 0, 1) := by decide +kernel
theorem dDH_findPlaces_1 : decode cDH_findPlaces 1 = .ok (.iconst 0, 1) := by decide +kernel
theorem dDH_findPlaces_2 : decode cDH_findPlaces 2 = .ok (.putfield 172, 3) := by decide +kernel
theorem dDH_findPlaces_5 : decode cDH_findPlaces 5 = .ok (.iconst 0, 1) := by decide +kernel
theorem dDH_findPlaces_6 : decode cDH_findPlaces 6 = .ok (.istore_n 1, 1) := by decide +kernel
theorem dDH_findPlaces_7 : decode cDH_findPlaces 7 = .ok (.iload_n 1, 1) := by decide +kernel
theorem dDH_findPlaces_8 : decode cDH_findPlaces 8 = .ok (.aload_n 0, 1) := by decide +kernel
theorem dDH_findPlaces_9 : decode cDH_findPlaces 9 = .ok (.getfield 30, 3) := by decide +kernel
theorem dDH_findPlaces_12 : decode cDH_findPlaces 12 = .ok (.getfield 96, 3) := by decide +kernel
theorem dDH_findPlaces_15 : decode cDH_findPlaces 15 = .ok (.if_icmp .ge 73, 3) := by decide +kernel
theorem dDH_findPlaces_18 : decode cDH_findPlaces 18 = .ok (.aload_n 0, 1) := by decide +kernel
theorem dDH_findPlaces_19 : decode cDH_findPlaces 19 = .ok (.getfield 43, 3) := by decide +kernel
theorem dDH_findPlaces_22 : decode cDH_findPlaces 22 = .ok (.iload_n 1, 1) := by decide +kernel
theorem dDH_findPlaces_23 : decode cDH_findPlaces 23 = .ok (.aaload, 1) := by decide +kernel
theorem dDH_findPlaces_24 : decode cDH_findPlaces 24 = .ok (.iload_n 1, 1) := by decide +kernel
theorem dDH_findPlaces_25 : decode cDH_findPlaces 25 = .ok (.aload_n 0, 1) := by decide +kernel
theorem dDH_findPlaces_26 : decode cDH_findPlaces 26 = .ok (.getfield 30, 3) := by decide +kernel
theorem dDH_findPlaces_29 : decode cDH_findPlaces 29 = .ok (.aload_n 0, 1) := by decide +kernel
theorem dDH_findPlaces_30 : decode cDH_findPlaces 30 = .ok (.getfield 23, 3) := by decide +kernel
theorem dDH_findPlaces_33 : decode cDH_findPlaces 33 = .ok (.aload_n 0, 1) := by decide +kernel
theorem dDH_findPlaces_34 : decode cDH_findPlaces 34 = .ok (.getfield 37, 3) := by decide +kernel
theorem dDH_findPlaces_37 : decode cDH_findPlaces 37 = .ok (.invokevirtual 191, 3) := by decide +kernel
theorem dDH_findPlaces_40 : decode cDH_findPlaces 40 = .ok (.aload_n 0, 1) := by decide +kernel
theorem dDH_findPlaces_41 : decode cDH_findPlaces 41 = .ok (.getfield 43, 3) := by decide +kernel
theorem dDH_findPlaces_44 : decode cDH_findPlaces 44 = .ok (.iload_n 1, 1) := by decide +kernel
theorem dDH_findPlaces_45 : decode cDH_findPlaces 45 = .ok (.aaload, 1) := by decide +kernel
theorem dDH_findPlaces_46 : decode cDH_findPlaces 46 = .ok (.iload_n 1, 1) := by decide +kernel
theorem dDH_findPlaces_47 : decode cDH_findPlaces 47 = .ok (.aload_n 0, 1) := by decide +kernel
theorem dDH_findPlaces_48 : decode cDH_findPlaces 48 = .ok (.getfield 30, 3) := by decide +kernel
theorem dDH_findPlaces_51 : decode cDH_findPlaces 51 = .ok (.aload_n 0, 1) := by decide +kernel
theorem dDH_findPlaces_52 : decode cDH_findPlaces 52 = .ok (.getfield 23, 3) := by decide +kernel
theorem dDH_findPlaces_55 : decode cDH_findPlaces 55 = .ok (.invokevirtual 197, 3) := by decide +kernel
theorem dDH_findPlaces_58 : decode cDH_findPlaces 58 = .ok (.aload_n 0, 1) := by decide +kernel
theorem dDH_findPlaces_59 : decode cDH_findPlaces 59 = .ok (.getfield 43, 3) := by decide +kernel
theorem dDH_findPlaces_62 : decode cDH_findPlaces 62 = .ok (.iload_n 1, 1) := by decide +kernel
theorem dDH_findPlaces_63 : decode cDH_findPlaces 63 = .ok (.aaload, 1) := by decide +kernel
theorem dDH_findPlaces_64 : decode cDH_findPlaces 64 = .ok (.getfield 194, 3) := by decide +kernel
theorem dDH_findPlaces_67 : decode cDH_findPlaces 67 = .ok (.ifCond .ne 15, 3) := by decide +kernel
theorem dDH_findPlaces_70 : decode cDH_findPlaces 70 = .ok (.aload_n 0, 1) := by decide +kernel
theorem dDH_findPlaces_71 : decode cDH_findPlaces 71 = .ok (.dup, 1) := by decide +kernel
theorem dDH_findPlaces_72 : decode cDH_findPlaces 72 = .ok (.getfield 172, 3) := by decide +kernel
theorem dDH_findPlaces_75 : decode cDH_findPlaces 75 = .ok (.iconst 1, 1) := by decide +kernel
theorem dDH_findPlaces_76 : decode cDH_findPlaces 76 = .ok (.iload_n 1, 1) := by decide +kernel
theorem dDH_findPlaces_77 : decode cDH_findPlaces 77 = .ok (.ishl, 1) := by decide +kernel
theorem dDH_findPlaces_78 : decode cDH_findPlaces 78 = .ok (.ior, 1) := by decide +kernel
theorem dDH_findPlaces_79 : decode cDH_findPlaces 79 = .ok (.putfield 172, 3) := by decide +kernel
theorem dDH_findPlaces_82 : decode cDH_findPlaces 82 = .ok (.iinc 1 1, 3) := by decide +kernel
theorem dDH_findPlaces_85 : decode cDH_findPlaces 85 = .ok (.goto (-78), 3) := by decide +kernel
theorem dDH_findPlaces_88 : decode cDH_findPlaces 88 = .ok (.return_, 1) := by decide +kernel
theorem dDH_planHits_0 : decode cDH_planHits 0 = .ok (.iconst 1, 1) := by decide +kernel
theorem dDH_planHits_1 : decode cDH_planHits 1 = .ok (.aload_n 0, 1) := by decide +kernel
theorem dDH_planHits_2 : decode cDH_planHits 2 = .ok (.getfield 30, 3) := by decide +kernel
theorem dDH_planHits_5 : decode cDH_planHits 5 = .ok (.getfield 96, 3) := by decide +kernel
theorem dDH_planHits_8 : decode cDH_planHits 8 = .ok (.ishl, 1) := by decide +kernel
theorem dDH_planHits_9 : decode cDH_planHits 9 = .ok (.iconst 1, 1) := by decide +kernel
theorem dDH_planHits_10 : decode cDH_planHits 10 = .ok (.isub, 1) := by decide +kernel
theorem dDH_planHits_11 : decode cDH_planHits 11 = .ok (.aload_n 0, 1) := by decide +kernel
theorem dDH_planHits_12 : decode cDH_planHits 12 = .ok (.getfield 172, 3) := by decide +kernel
theorem dDH_planHits_15 : decode cDH_planHits 15 = .ok (.iconst (-1), 1) := by decide +kernel
theorem dDH_planHits_16 : decode cDH_planHits 16 = .ok (.ixor, 1) := by decide +kernel
theorem dDH_planHits_17 : decode cDH_planHits 17 = .ok (.iand, 1) := by decide +kernel
theorem dDH_planHits_18 : decode cDH_planHits 18 = .ok (.istore_n 1, 1) := by decide +kernel
theorem dDH_planHits_19 : decode cDH_planHits 19 = .ok (.aload_n 0, 1) := by decide +kernel
theorem dDH_planHits_20 : decode cDH_planHits 20 = .ok (.getfield 58, 3) := by decide +kernel
theorem dDH_planHits_23 : decode cDH_planHits 23 = .ok (.aload_n 0, 1) := by decide +kernel
theorem dDH_planHits_24 : decode cDH_planHits 24 = .ok (.getfield 43, 3) := by decide +kernel
theorem dDH_planHits_27 : decode cDH_planHits 27 = .ok (.aload_n 0, 1) := by decide +kernel
theorem dDH_planHits_28 : decode cDH_planHits 28 = .ok (.getfield 30, 3) := by decide +kernel
theorem dDH_planHits_31 : decode cDH_planHits 31 = .ok (.getfield 96, 3) := by decide +kernel
theorem dDH_planHits_34 : decode cDH_planHits 34 = .ok (.iload_n 1, 1) := by decide +kernel
theorem dDH_planHits_35 : decode cDH_planHits 35 = .ok (.invokevirtual 201, 3) := by decide +kernel
theorem dDH_planHits_38 : decode cDH_planHits 38 = .ok (.aload_n 0, 1) := by decide +kernel
theorem dDH_planHits_39 : decode cDH_planHits 39 = .ok (.getfield 51, 3) := by decide +kernel
theorem dDH_planHits_42 : decode cDH_planHits 42 = .ok (.iconst 0, 1) := by decide +kernel
theorem dDH_planHits_43 : decode cDH_planHits 43 = .ok (.putfield 140, 3) := by decide +kernel
theorem dDH_planHits_46 : decode cDH_planHits 46 = .ok (.iload_n 1, 1) := by decide +kernel
theorem dDH_planHits_47 : decode cDH_planHits 47 = .ok (.istore_n 2, 1) := by decide +kernel
theorem dDH_planHits_48 : decode cDH_planHits 48 = .ok (.iconst 0, 1) := by decide +kernel
theorem dDH_planHits_49 : decode cDH_planHits 49 = .ok (.istore_n 3, 1) := by decide +kernel
theorem dDH_planHits_50 : decode cDH_planHits 50 = .ok (.iload_n 3, 1) := by decide +kernel
theorem dDH_planHits_51 : decode cDH_planHits 51 = .ok (.bipush 14, 2) := by decide +kernel
theorem dDH_planHits_53 : decode cDH_planHits 53 = .ok (.if_icmp .ge 96, 3) := by decide +kernel
theorem dDH_planHits_56 : decode cDH_planHits 56 = .ok (.iload_n 2, 1) := by decide +kernel
theorem dDH_planHits_57 : decode cDH_planHits 57 = .ok (.ifCond .eq 92, 3) := by decide +kernel
theorem dDH_planHits_60 : decode cDH_planHits 60 = .ok (.iload_n 2, 1) := by decide +kernel
theorem dDH_planHits_61 : decode cDH_planHits 61 = .ok (.invokestatic 205, 3) := by decide +kernel
theorem dDH_planHits_64 : decode cDH_planHits 64 = .ok (.istore 4, 2) := by decide +kernel
theorem dDH_planHits_66 : decode cDH_planHits 66 = .ok (.aload_n 0, 1) := by decide +kernel
theorem dDH_planHits_67 : decode cDH_planHits 67 = .ok (.getfield 43, 3) := by decide +kernel
theorem dDH_planHits_70 : decode cDH_planHits 70 = .ok (.iload 4, 2) := by decide +kernel
theorem dDH_planHits_72 : decode cDH_planHits 72 = .ok (.aaload, 1) := by decide +kernel
theorem dDH_planHits_73 : decode cDH_planHits 73 = .ok (.astore 5, 2) := by decide +kernel
theorem dDH_planHits_75 : decode cDH_planHits 75 = .ok (.aload_n 0, 1) := by decide +kernel
theorem dDH_planHits_76 : decode cDH_planHits 76 = .ok (.getfield 58, 3) := by decide +kernel
theorem dDH_planHits_79 : decode cDH_planHits 79 = .ok (.aload 5, 2) := by decide +kernel
theorem dDH_planHits_81 : decode cDH_planHits 81 = .ok (.iload_n 2, 1) := by decide +kernel
theorem dDH_planHits_82 : decode cDH_planHits 82 = .ok (.invokevirtual 208, 3) := by decide +kernel
theorem dDH_planHits_85 : decode cDH_planHits 85 = .ok (.istore 6, 2) := by decide +kernel
theorem dDH_planHits_87 : decode cDH_planHits 87 = .ok (.aload_n 0, 1) := by decide +kernel
theorem dDH_planHits_88 : decode cDH_planHits 88 = .ok (.getfield 51, 3) := by decide +kernel
theorem dDH_planHits_91 : decode cDH_planHits 91 = .ok (.aload 5, 2) := by decide +kernel
theorem dDH_planHits_93 : decode cDH_planHits 93 = .ok (.getfield 212, 3) := by decide +kernel
theorem dDH_planHits_96 : decode cDH_planHits 96 = .ok (.iload 6, 2) := by decide +kernel
theorem dDH_planHits_98 : decode cDH_planHits 98 = .ok (.iaload, 1) := by decide +kernel
theorem dDH_planHits_99 : decode cDH_planHits 99 = .ok (.aload 5, 2) := by decide +kernel
theorem dDH_planHits_101 : decode cDH_planHits 101 = .ok (.getfield 213, 3) := by decide +kernel
theorem dDH_planHits_104 : decode cDH_planHits 104 = .ok (.iload 6, 2) := by decide +kernel
theorem dDH_planHits_106 : decode cDH_planHits 106 = .ok (.iaload, 1) := by decide +kernel
theorem dDH_planHits_107 : decode cDH_planHits 107 = .ok (.aload_n 0, 1) := by decide +kernel
theorem dDH_planHits_108 : decode cDH_planHits 108 = .ok (.getfield 30, 3) := by decide +kernel
theorem dDH_planHits_111 : decode cDH_planHits 111 = .ok (.getfield 214, 3) := by decide +kernel
theorem dDH_planHits_114 : decode cDH_planHits 114 = .ok (.iload 4, 2) := by decide +kernel
theorem dDH_planHits_116 : decode cDH_planHits 116 = .ok (.iaload, 1) := by decide +kernel
theorem dDH_planHits_117 : decode cDH_planHits 117 = .ok (.aload 5, 2) := by decide +kernel
theorem dDH_planHits_119 : decode cDH_planHits 119 = .ok (.getfield 215, 3) := by decide +kernel
theorem dDH_planHits_122 : decode cDH_planHits 122 = .ok (.iload 6, 2) := by decide +kernel
theorem dDH_planHits_124 : decode cDH_planHits 124 = .ok (.iaload, 1) := by decide +kernel
theorem dDH_planHits_125 : decode cDH_planHits 125 = .ok (.iload_n 2, 1) := by decide +kernel
theorem dDH_planHits_126 : decode cDH_planHits 126 = .ok (.iand, 1) := by decide +kernel
theorem dDH_planHits_127 : decode cDH_planHits 127 = .ok (.invokevirtual 218, 3) := by decide +kernel
theorem dDH_planHits_130 : decode cDH_planHits 130 = .ok (.iload_n 2, 1) := by decide +kernel
theorem dDH_planHits_131 : decode cDH_planHits 131 = .ok (.aload 5, 2) := by decide +kernel
theorem dDH_planHits_133 : decode cDH_planHits 133 = .ok (.getfield 215, 3) := by decide +kernel
theorem dDH_planHits_136 : decode cDH_planHits 136 = .ok (.iload 6, 2) := by decide +kernel
theorem dDH_planHits_138 : decode cDH_planHits 138 = .ok (.iaload, 1) := by decide +kernel
theorem dDH_planHits_139 : decode cDH_planHits 139 = .ok (.iconst (-1), 1) := by decide +kernel
theorem dDH_planHits_140 : decode cDH_planHits 140 = .ok (.ixor, 1) := by decide +kernel
theorem dDH_planHits_141 : decode cDH_planHits 141 = .ok (.iand, 1) := by decide +kernel
theorem dDH_planHits_142 : decode cDH_planHits 142 = .ok (.istore_n 2, 1) := by decide +kernel
theorem dDH_planHits_143 : decode cDH_planHits 143 = .ok (.iinc 3 1, 3) := by decide +kernel
theorem dDH_planHits_146 : decode cDH_planHits 146 = .ok (.goto (-96), 3) := by decide +kernel
theorem dDH_planHits_149 : decode cDH_planHits 149 = .ok (.return_, 1) := by decide +kernel
theorem dDH_leastOf_0 : decode cDH_leastOf 0 = .ok (.iload_n 0, 1) := by decide +kernel
theorem dDH_leastOf_1 : decode cDH_leastOf 1 = .ok (.invokestatic 227, 3) := by decide +kernel
theorem dDH_leastOf_4 : decode cDH_leastOf 4 = .ok (.ireturn, 1) := by decide +kernel
theorem dIn_numberOfTrailingZeros_0 : decode cIn_numberOfTrailingZeros 0 = .ok (.iload_n 0, 1) := by decide +kernel
theorem dIn_numberOfTrailingZeros_1 : decode cIn_numberOfTrailingZeros 1 = .ok (.iconst (-1), 1) := by decide +kernel
theorem dIn_numberOfTrailingZeros_2 : decode cIn_numberOfTrailingZeros 2 = .ok (.ixor, 1) := by decide +kernel
theorem dIn_numberOfTrailingZeros_3 : decode cIn_numberOfTrailingZeros 3 = .ok (.iload_n 0, 1) := by decide +kernel
theorem dIn_numberOfTrailingZeros_4 : decode cIn_numberOfTrailingZeros 4 = .ok (.iconst 1, 1) := by decide +kernel
theorem dIn_numberOfTrailingZeros_5 : decode cIn_numberOfTrailingZeros 5 = .ok (.isub, 1) := by decide +kernel
theorem dIn_numberOfTrailingZeros_6 : decode cIn_numberOfTrailingZeros 6 = .ok (.iand, 1) := by decide +kernel
theorem dIn_numberOfTrailingZeros_7 : decode cIn_numberOfTrailingZeros 7 = .ok (.istore_n 0, 1) := by decide +kernel
theorem dIn_numberOfTrailingZeros_8 : decode cIn_numberOfTrailingZeros 8 = .ok (.iload_n 0, 1) := by decide +kernel
theorem dIn_numberOfTrailingZeros_9 : decode cIn_numberOfTrailingZeros 9 = .ok (.ifCond .gt 8, 3) := by decide +kernel
theorem dIn_numberOfTrailingZeros_12 : decode cIn_numberOfTrailingZeros 12 = .ok (.iload_n 0, 1) := by decide +kernel
theorem dIn_numberOfTrailingZeros_13 : decode cIn_numberOfTrailingZeros 13 = .ok (.bipush 32, 2) := by decide +kernel
theorem dIn_numberOfTrailingZeros_15 : decode cIn_numberOfTrailingZeros 15 = .ok (.iand, 1) := by decide +kernel
theorem dIn_numberOfTrailingZeros_16 : decode cIn_numberOfTrailingZeros 16 = .ok (.ireturn, 1) := by decide +kernel
theorem dIn_numberOfTrailingZeros_17 : decode cIn_numberOfTrailingZeros 17 = .ok (.iconst 1, 1) := by decide +kernel
theorem dIn_numberOfTrailingZeros_18 : decode cIn_numberOfTrailingZeros 18 = .ok (.istore_n 1, 1) := by decide +kernel
theorem dIn_numberOfTrailingZeros_19 : decode cIn_numberOfTrailingZeros 19 = .ok (.iload_n 0, 1) := by decide +kernel
theorem dIn_numberOfTrailingZeros_20 : decode cIn_numberOfTrailingZeros 20 = .ok (.ldc_w 264, 3) := by decide +kernel
theorem dIn_numberOfTrailingZeros_23 : decode cIn_numberOfTrailingZeros 23 = .ok (.if_icmp .le 11, 3) := by decide +kernel
theorem dIn_numberOfTrailingZeros_26 : decode cIn_numberOfTrailingZeros 26 = .ok (.iinc 1 16, 3) := by decide +kernel
theorem dIn_numberOfTrailingZeros_29 : decode cIn_numberOfTrailingZeros 29 = .ok (.iload_n 0, 1) := by decide +kernel
theorem dIn_numberOfTrailingZeros_30 : decode cIn_numberOfTrailingZeros 30 = .ok (.bipush 16, 2) := by decide +kernel
theorem dIn_numberOfTrailingZeros_32 : decode cIn_numberOfTrailingZeros 32 = .ok (.iushr, 1) := by decide +kernel
theorem dIn_numberOfTrailingZeros_33 : decode cIn_numberOfTrailingZeros 33 = .ok (.istore_n 0, 1) := by decide +kernel
theorem dIn_numberOfTrailingZeros_34 : decode cIn_numberOfTrailingZeros 34 = .ok (.iload_n 0, 1) := by decide +kernel
theorem dIn_numberOfTrailingZeros_35 : decode cIn_numberOfTrailingZeros 35 = .ok (.sipush 256, 3) := by decide +kernel
theorem dIn_numberOfTrailingZeros_38 : decode cIn_numberOfTrailingZeros 38 = .ok (.if_icmp .le 11, 3) := by decide +kernel
theorem dIn_numberOfTrailingZeros_41 : decode cIn_numberOfTrailingZeros 41 = .ok (.iinc 1 8, 3) := by decide +kernel
theorem dIn_numberOfTrailingZeros_44 : decode cIn_numberOfTrailingZeros 44 = .ok (.iload_n 0, 1) := by decide +kernel
theorem dIn_numberOfTrailingZeros_45 : decode cIn_numberOfTrailingZeros 45 = .ok (.bipush 8, 2) := by decide +kernel
theorem dIn_numberOfTrailingZeros_47 : decode cIn_numberOfTrailingZeros 47 = .ok (.iushr, 1) := by decide +kernel
theorem dIn_numberOfTrailingZeros_48 : decode cIn_numberOfTrailingZeros 48 = .ok (.istore_n 0, 1) := by decide +kernel
theorem dIn_numberOfTrailingZeros_49 : decode cIn_numberOfTrailingZeros 49 = .ok (.iload_n 0, 1) := by decide +kernel
theorem dIn_numberOfTrailingZeros_50 : decode cIn_numberOfTrailingZeros 50 = .ok (.bipush 16, 2) := by decide +kernel
theorem dIn_numberOfTrailingZeros_52 : decode cIn_numberOfTrailingZeros 52 = .ok (.if_icmp .le 10, 3) := by decide +kernel
theorem dIn_numberOfTrailingZeros_55 : decode cIn_numberOfTrailingZeros 55 = .ok (.iinc 1 4, 3) := by decide +kernel
theorem dIn_numberOfTrailingZeros_58 : decode cIn_numberOfTrailingZeros 58 = .ok (.iload_n 0, 1) := by decide +kernel
theorem dIn_numberOfTrailingZeros_59 : decode cIn_numberOfTrailingZeros 59 = .ok (.iconst 4, 1) := by decide +kernel
theorem dIn_numberOfTrailingZeros_60 : decode cIn_numberOfTrailingZeros 60 = .ok (.iushr, 1) := by decide +kernel
theorem dIn_numberOfTrailingZeros_61 : decode cIn_numberOfTrailingZeros 61 = .ok (.istore_n 0, 1) := by decide +kernel
theorem dIn_numberOfTrailingZeros_62 : decode cIn_numberOfTrailingZeros 62 = .ok (.iload_n 0, 1) := by decide +kernel
theorem dIn_numberOfTrailingZeros_63 : decode cIn_numberOfTrailingZeros 63 = .ok (.iconst 4, 1) := by decide +kernel
theorem dIn_numberOfTrailingZeros_64 : decode cIn_numberOfTrailingZeros 64 = .ok (.if_icmp .le 10, 3) := by decide +kernel
theorem dIn_numberOfTrailingZeros_67 : decode cIn_numberOfTrailingZeros 67 = .ok (.iinc 1 2, 3) := by decide +kernel
theorem dIn_numberOfTrailingZeros_70 : decode cIn_numberOfTrailingZeros 70 = .ok (.iload_n 0, 1) := by decide +kernel
theorem dIn_numberOfTrailingZeros_71 : decode cIn_numberOfTrailingZeros 71 = .ok (.iconst 2, 1) := by decide +kernel
theorem dIn_numberOfTrailingZeros_72 : decode cIn_numberOfTrailingZeros 72 = .ok (.iushr, 1) := by decide +kernel
theorem dIn_numberOfTrailingZeros_73 : decode cIn_numberOfTrailingZeros 73 = .ok (.istore_n 0, 1) := by decide +kernel
theorem dIn_numberOfTrailingZeros_74 : decode cIn_numberOfTrailingZeros 74 = .ok (.iload_n 1, 1) := by decide +kernel
theorem dIn_numberOfTrailingZeros_75 : decode cIn_numberOfTrailingZeros 75 = .ok (.iload_n 0, 1) := by decide +kernel
theorem dIn_numberOfTrailingZeros_76 : decode cIn_numberOfTrailingZeros 76 = .ok (.iconst 1, 1) := by decide +kernel
theorem dIn_numberOfTrailingZeros_77 : decode cIn_numberOfTrailingZeros 77 = .ok (.iushr, 1) := by decide +kernel
theorem dIn_numberOfTrailingZeros_78 : decode cIn_numberOfTrailingZeros 78 = .ok (.iadd, 1) := by decide +kernel
theorem dIn_numberOfTrailingZeros_79 : decode cIn_numberOfTrailingZeros 79 = .ok (.ireturn, 1) := by decide +kernel
theorem dDH_holds_0 : decode cDH_holds 0 = .ok (.iload_n 0, 1) := by decide +kernel
theorem dDH_holds_1 : decode cDH_holds 1 = .ok (.iload_n 1, 1) := by decide +kernel
theorem dDH_holds_2 : decode cDH_holds 2 = .ok (.ishr, 1) := by decide +kernel
theorem dDH_holds_3 : decode cDH_holds 3 = .ok (.iconst 1, 1) := by decide +kernel
theorem dDH_holds_4 : decode cDH_holds 4 = .ok (.iand, 1) := by decide +kernel
theorem dDH_holds_5 : decode cDH_holds 5 = .ok (.ifCond .eq 7, 3) := by decide +kernel
theorem dDH_holds_8 : decode cDH_holds 8 = .ok (.iconst 1, 1) := by decide +kernel
theorem dDH_holds_9 : decode cDH_holds 9 = .ok (.goto 4, 3) := by decide +kernel
theorem dDH_holds_12 : decode cDH_holds 12 = .ok (.iconst 0, 1) := by decide +kernel
theorem dDH_holds_13 : decode cDH_holds 13 = .ok (.ireturn, 1) := by decide +kernel
theorem dDH_without_0 : decode cDH_without 0 = .ok (.iload_n 0, 1) := by decide +kernel
theorem dDH_without_1 : decode cDH_without 1 = .ok (.iconst 1, 1) := by decide +kernel
theorem dDH_without_2 : decode cDH_without 2 = .ok (.iload_n 1, 1) := by decide +kernel
theorem dDH_without_3 : decode cDH_without 3 = .ok (.ishl, 1) := by decide +kernel
theorem dDH_without_4 : decode cDH_without 4 = .ok (.iconst (-1), 1) := by decide +kernel
theorem dDH_without_5 : decode cDH_without 5 = .ok (.ixor, 1) := by decide +kernel
theorem dDH_without_6 : decode cDH_without 6 = .ok (.iand, 1) := by decide +kernel
theorem dDH_without_7 : decode cDH_without 7 = .ok (.ireturn, 1) := by decide +kernel
theorem dDH_spindle_0 : decode cDH_spindle 0 = .ok (.iload_n 1, 1) := by decide +kernel
theorem dDH_spindle_1 : decode cDH_spindle 1 = .ok (.ifCond .lt 15, 3) := by decide +kernel
theorem dDH_spindle_4 : decode cDH_spindle 4 = .ok (.iload_n 1, 1) := by decide +kernel
theorem dDH_spindle_5 : decode cDH_spindle 5 = .ok (.aload_n 0, 1) := by decide +kernel
theorem dDH_spindle_6 : decode cDH_spindle 6 = .ok (.getfield 23, 3) := by decide +kernel
theorem dDH_spindle_9 : decode cDH_spindle 9 = .ok (.getfield 69, 3) := by decide +kernel
theorem dDH_spindle_12 : decode cDH_spindle 12 = .ok (.arraylength, 1) := by decide +kernel
theorem dDH_spindle_13 : decode cDH_spindle 13 = .ok (.if_icmp .lt 13, 3) := by decide +kernel
theorem dDH_spindle_16 : decode cDH_spindle 16 = .ok (.new 73, 3) := by decide +kernel
theorem dDH_spindle_19 : decode cDH_spindle 19 = .ok (.dup, 1) := by decide +kernel
theorem dDH_spindle_20 : decode cDH_spindle 20 = .ok (.ldc 75, 2) := by decide +kernel
theorem dDH_spindle_22 : decode cDH_spindle 22 = .ok (.invokespecial 77, 3) := by decide +kernel
theorem dDH_spindle_25 : decode cDH_spindle 25 = .ok (.athrow, 1) := by decide +kernel
theorem dDH_spindle_26 : decode cDH_spindle 26 = .ok (.iload_n 2, 1) := by decide +kernel
theorem dDH_spindle_27 : decode cDH_spindle 27 = .ok (.iload_n 3, 1) := by decide +kernel
theorem dDH_spindle_28 : decode cDH_spindle 28 = .ok (.invokestatic 80, 3) := by decide +kernel
theorem dDH_spindle_31 : decode cDH_spindle 31 = .ok (.iload 4, 2) := by decide +kernel
theorem dDH_spindle_33 : decode cDH_spindle 33 = .ok (.iconst 0, 1) := by decide +kernel
theorem dDH_spindle_34 : decode cDH_spindle 34 = .ok (.bipush 100, 2) := by decide +kernel
theorem dDH_spindle_36 : decode cDH_spindle 36 = .ok (.invokestatic 84, 3) := by decide +kernel
theorem dDH_spindle_39 : decode cDH_spindle 39 = .ok (.aload_n 0, 1) := by decide +kernel
theorem dDH_spindle_40 : decode cDH_spindle 40 = .ok (.getfield 23, 3) := by decide +kernel
theorem dDH_spindle_43 : decode cDH_spindle 43 = .ok (.iload_n 1, 1) := by decide +kernel
theorem dDH_spindle_44 : decode cDH_spindle 44 = .ok (.iload_n 2, 1) := by decide +kernel
theorem dDH_spindle_45 : decode cDH_spindle 45 = .ok (.iload_n 3, 1) := by decide +kernel
theorem dDH_spindle_46 : decode cDH_spindle 46 = .ok (.iload 4, 2) := by decide +kernel
theorem dDH_spindle_48 : decode cDH_spindle 48 = .ok (.invokevirtual 88, 3) := by decide +kernel
theorem dDH_spindle_51 : decode cDH_spindle 51 = .ok (.istore 5, 2) := by decide +kernel
theorem dDH_spindle_53 : decode cDH_spindle 53 = .ok (.iload 5, 2) := by decide +kernel
theorem dDH_spindle_55 : decode cDH_spindle 55 = .ok (.ifCond .eq 8, 3) := by decide +kernel
theorem dDH_spindle_58 : decode cDH_spindle 58 = .ok (.aload_n 0, 1) := by decide +kernel
theorem dDH_spindle_59 : decode cDH_spindle 59 = .ok (.iconst 0, 1) := by decide +kernel
theorem dDH_spindle_60 : decode cDH_spindle 60 = .ok (.putfield 92, 3) := by decide +kernel
theorem dDH_spindle_63 : decode cDH_spindle 63 = .ok (.iload 5, 2) := by decide +kernel
theorem dDH_spindle_65 : decode cDH_spindle 65 = .ok (.ireturn, 1) := by decide +kernel
theorem dDH_requirePlace_0 : decode cDH_requirePlace 0 = .ok (.iload_n 0, 1) := by decide +kernel
theorem dDH_requirePlace_1 : decode cDH_requirePlace 1 = .ok (.sipush (-10000), 3) := by decide +kernel
theorem dDH_requirePlace_4 : decode cDH_requirePlace 4 = .ok (.sipush 10000, 3) := by decide +kernel
theorem dDH_requirePlace_7 : decode cDH_requirePlace 7 = .ok (.invokestatic 84, 3) := by decide +kernel
theorem dDH_requirePlace_10 : decode cDH_requirePlace 10 = .ok (.iload_n 1, 1) := by decide +kernel
theorem dDH_requirePlace_11 : decode cDH_requirePlace 11 = .ok (.sipush (-10000), 3) := by decide +kernel
theorem dDH_requirePlace_14 : decode cDH_requirePlace 14 = .ok (.sipush 10000, 3) := by decide +kernel
theorem dDH_requirePlace_17 : decode cDH_requirePlace 17 = .ok (.invokestatic 84, 3) := by decide +kernel
theorem dDH_requirePlace_20 : decode cDH_requirePlace 20 = .ok (.return_, 1) := by decide +kernel
theorem dDH_requireWithin_0 : decode cDH_requireWithin 0 = .ok (.iload_n 0, 1) := by decide +kernel
theorem dDH_requireWithin_1 : decode cDH_requireWithin 1 = .ok (.iload_n 1, 1) := by decide +kernel
theorem dDH_requireWithin_2 : decode cDH_requireWithin 2 = .ok (.if_icmp .lt 8, 3) := by decide +kernel
theorem dDH_requireWithin_5 : decode cDH_requireWithin 5 = .ok (.iload_n 0, 1) := by decide +kernel
theorem dDH_requireWithin_6 : decode cDH_requireWithin 6 = .ok (.iload_n 2, 1) := by decide +kernel
theorem dDH_requireWithin_7 : decode cDH_requireWithin 7 = .ok (.if_icmp .le 13, 3) := by decide +kernel
theorem dDH_requireWithin_10 : decode cDH_requireWithin 10 = .ok (.new 155, 3) := by decide +kernel
theorem dDH_requireWithin_13 : decode cDH_requireWithin 13 = .ok (.dup, 1) := by decide +kernel
theorem dDH_requireWithin_14 : decode cDH_requireWithin 14 = .ok (.ldc 225, 2) := by decide +kernel
theorem dDH_requireWithin_16 : decode cDH_requireWithin 16 = .ok (.invokespecial 159, 3) := by decide +kernel
theorem dDH_requireWithin_19 : decode cDH_requireWithin 19 = .ok (.athrow, 1) := by decide +kernel
theorem dDH_requireWithin_20 : decode cDH_requireWithin 20 = .ok (.return_, 1) := by decide +kernel
theorem dDH_hole_0 : decode cDH_hole 0 = .ok (.aload_n 0, 1) := by decide +kernel
theorem dDH_hole_1 : decode cDH_hole 1 = .ok (.getfield 30, 3) := by decide +kernel
theorem dDH_hole_4 : decode cDH_hole 4 = .ok (.getfield 96, 3) := by decide +kernel
theorem dDH_hole_7 : decode cDH_hole 7 = .ok (.bipush 14, 2) := by decide +kernel
theorem dDH_hole_9 : decode cDH_hole 9 = .ok (.if_icmp .lt 13, 3) := by decide +kernel
theorem dDH_hole_12 : decode cDH_hole 12 = .ok (.new 100, 3) := by decide +kernel
theorem dDH_hole_15 : decode cDH_hole 15 = .ok (.dup, 1) := by decide +kernel
theorem dDH_hole_16 : decode cDH_hole 16 = .ok (.ldc 102, 2) := by decide +kernel
theorem dDH_hole_18 : decode cDH_hole 18 = .ok (.invokespecial 104, 3) := by decide +kernel
theorem dDH_hole_21 : decode cDH_hole 21 = .ok (.athrow, 1) := by decide +kernel
theorem dDH_hole_22 : decode cDH_hole 22 = .ok (.iload_n 1, 1) := by decide +kernel
theorem dDH_hole_23 : decode cDH_hole 23 = .ok (.iload_n 2, 1) := by decide +kernel
theorem dDH_hole_24 : decode cDH_hole 24 = .ok (.invokestatic 80, 3) := by decide +kernel
theorem dDH_hole_27 : decode cDH_hole 27 = .ok (.iload_n 3, 1) := by decide +kernel
theorem dDH_hole_28 : decode cDH_hole 28 = .ok (.iconst 1, 1) := by decide +kernel
theorem dDH_hole_29 : decode cDH_hole 29 = .ok (.bipush 100, 2) := by decide +kernel
theorem dDH_hole_31 : decode cDH_hole 31 = .ok (.invokestatic 84, 3) := by decide +kernel
theorem dDH_hole_34 : decode cDH_hole 34 = .ok (.iload 4, 2) := by decide +kernel
theorem dDH_hole_36 : decode cDH_hole 36 = .ok (.iconst 1, 1) := by decide +kernel
theorem dDH_hole_37 : decode cDH_hole 37 = .ok (.sipush 1000, 3) := by decide +kernel
theorem dDH_hole_40 : decode cDH_hole 40 = .ok (.invokestatic 84, 3) := by decide +kernel
theorem dDH_hole_43 : decode cDH_hole 43 = .ok (.iload 5, 2) := by decide +kernel
theorem dDH_hole_45 : decode cDH_hole 45 = .ok (.iconst 0, 1) := by decide +kernel
theorem dDH_hole_46 : decode cDH_hole 46 = .ok (.iconst 4, 1) := by decide +kernel
theorem dDH_hole_47 : decode cDH_hole 47 = .ok (.invokestatic 84, 3) := by decide +kernel
theorem dDH_hole_50 : decode cDH_hole 50 = .ok (.aload_n 0, 1) := by decide +kernel
theorem dDH_hole_51 : decode cDH_hole 51 = .ok (.iconst 0, 1) := by decide +kernel
theorem dDH_hole_52 : decode cDH_hole 52 = .ok (.putfield 92, 3) := by decide +kernel
theorem dDH_hole_55 : decode cDH_hole 55 = .ok (.aload_n 0, 1) := by decide +kernel
theorem dDH_hole_56 : decode cDH_hole 56 = .ok (.getfield 30, 3) := by decide +kernel
theorem dDH_hole_59 : decode cDH_hole 59 = .ok (.iload_n 1, 1) := by decide +kernel
theorem dDH_hole_60 : decode cDH_hole 60 = .ok (.iload_n 2, 1) := by decide +kernel
theorem dDH_hole_61 : decode cDH_hole 61 = .ok (.iload_n 3, 1) := by decide +kernel
theorem dDH_hole_62 : decode cDH_hole 62 = .ok (.iload 4, 2) := by decide +kernel
theorem dDH_hole_64 : decode cDH_hole 64 = .ok (.iload 5, 2) := by decide +kernel
theorem dDH_hole_66 : decode cDH_hole 66 = .ok (.invokevirtual 105, 3) := by decide +kernel
theorem dDH_hole_69 : decode cDH_hole 69 = .ok (.ireturn, 1) := by decide +kernel
theorem dDH_through_0 : decode cDH_through 0 = .ok (.aload_n 0, 1) := by decide +kernel
theorem dDH_through_1 : decode cDH_through 1 = .ok (.iload_n 1, 1) := by decide +kernel
theorem dDH_through_2 : decode cDH_through 2 = .ok (.invokevirtual 109, 3) := by decide +kernel
theorem dDH_through_5 : decode cDH_through 5 = .ok (.aload_n 0, 1) := by decide +kernel
theorem dDH_through_6 : decode cDH_through 6 = .ok (.getfield 30, 3) := by decide +kernel
theorem dDH_through_9 : decode cDH_through 9 = .ok (.getfield 112, 3) := by decide +kernel
theorem dDH_through_12 : decode cDH_through 12 = .ok (.iload_n 1, 1) := by decide +kernel
theorem dDH_through_13 : decode cDH_through 13 = .ok (.baload, 1) := by decide +kernel
theorem dDH_through_14 : decode cDH_through 14 = .ok (.iload_n 2, 1) := by decide +kernel
theorem dDH_through_15 : decode cDH_through 15 = .ok (.if_icmp .ne 5, 3) := by decide +kernel
theorem dDH_through_18 : decode cDH_through 18 = .ok (.iconst 0, 1) := by decide +kernel
theorem dDH_through_19 : decode cDH_through 19 = .ok (.ireturn, 1) := by decide +kernel
theorem dDH_through_20 : decode cDH_through 20 = .ok (.aload_n 0, 1) := by decide +kernel
theorem dDH_through_21 : decode cDH_through 21 = .ok (.getfield 30, 3) := by decide +kernel
theorem dDH_through_24 : decode cDH_through 24 = .ok (.getfield 112, 3) := by decide +kernel
theorem dDH_through_27 : decode cDH_through 27 = .ok (.iload_n 1, 1) := by decide +kernel
theorem dDH_through_28 : decode cDH_through 28 = .ok (.iload_n 2, 1) := by decide +kernel
theorem dDH_through_29 : decode cDH_through 29 = .ok (.bastore, 1) := by decide +kernel
theorem dDH_through_30 : decode cDH_through 30 = .ok (.aload_n 0, 1) := by decide +kernel
theorem dDH_through_31 : decode cDH_through 31 = .ok (.iconst 0, 1) := by decide +kernel
theorem dDH_through_32 : decode cDH_through 32 = .ok (.putfield 92, 3) := by decide +kernel
theorem dDH_through_35 : decode cDH_through 35 = .ok (.iconst 1, 1) := by decide +kernel
theorem dDH_through_36 : decode cDH_through 36 = .ok (.ireturn, 1) := by decide +kernel
theorem dDH_requireHole_0 : decode cDH_requireHole 0 = .ok (.iload_n 1, 1) := by decide +kernel
theorem dDH_requireHole_1 : decode cDH_requireHole 1 = .ok (.ifCond .lt 14, 3) := by decide +kernel
theorem dDH_requireHole_4 : decode cDH_requireHole 4 = .ok (.iload_n 1, 1) := by decide +kernel
theorem dDH_requireHole_5 : decode cDH_requireHole 5 = .ok (.aload_n 0, 1) := by decide +kernel
theorem dDH_requireHole_6 : decode cDH_requireHole 6 = .ok (.getfield 30, 3) := by decide +kernel
theorem dDH_requireHole_9 : decode cDH_requireHole 9 = .ok (.getfield 96, 3) := by decide +kernel
theorem dDH_requireHole_12 : decode cDH_requireHole 12 = .ok (.if_icmp .lt 13, 3) := by decide +kernel
theorem dDH_requireHole_15 : decode cDH_requireHole 15 = .ok (.new 73, 3) := by decide +kernel
theorem dDH_requireHole_18 : decode cDH_requireHole 18 = .ok (.dup, 1) := by decide +kernel
theorem dDH_requireHole_19 : decode cDH_requireHole 19 = .ok (.ldc 221, 2) := by decide +kernel
theorem dDH_requireHole_21 : decode cDH_requireHole 21 = .ok (.invokespecial 77, 3) := by decide +kernel
theorem dDH_requireHole_24 : decode cDH_requireHole 24 = .ok (.athrow, 1) := by decide +kernel
theorem dDH_requireHole_25 : decode cDH_requireHole 25 = .ok (.return_, 1) := by decide +kernel
theorem dDH_clamp_0 : decode cDH_clamp 0 = .ok (.iload_n 1, 1) := by decide +kernel
theorem dDH_clamp_1 : decode cDH_clamp 1 = .ok (.sipush (-20000), 3) := by decide +kernel
theorem dDH_clamp_4 : decode cDH_clamp 4 = .ok (.sipush 20000, 3) := by decide +kernel
theorem dDH_clamp_7 : decode cDH_clamp 7 = .ok (.invokestatic 84, 3) := by decide +kernel
theorem dDH_clamp_10 : decode cDH_clamp 10 = .ok (.iload_n 2, 1) := by decide +kernel
theorem dDH_clamp_11 : decode cDH_clamp 11 = .ok (.sipush (-20000), 3) := by decide +kernel
theorem dDH_clamp_14 : decode cDH_clamp 14 = .ok (.sipush 20000, 3) := by decide +kernel
theorem dDH_clamp_17 : decode cDH_clamp 17 = .ok (.invokestatic 84, 3) := by decide +kernel
theorem dDH_clamp_20 : decode cDH_clamp 20 = .ok (.iload_n 3, 1) := by decide +kernel
theorem dDH_clamp_21 : decode cDH_clamp 21 = .ok (.iload_n 1, 1) := by decide +kernel
theorem dDH_clamp_22 : decode cDH_clamp 22 = .ok (.sipush 20000, 3) := by decide +kernel
theorem dDH_clamp_25 : decode cDH_clamp 25 = .ok (.invokestatic 84, 3) := by decide +kernel
theorem dDH_clamp_28 : decode cDH_clamp 28 = .ok (.iload 4, 2) := by decide +kernel
theorem dDH_clamp_30 : decode cDH_clamp 30 = .ok (.iload_n 2, 1) := by decide +kernel
theorem dDH_clamp_31 : decode cDH_clamp 31 = .ok (.sipush 20000, 3) := by decide +kernel
theorem dDH_clamp_34 : decode cDH_clamp 34 = .ok (.invokestatic 84, 3) := by decide +kernel
theorem dDH_clamp_37 : decode cDH_clamp 37 = .ok (.aload_n 0, 1) := by decide +kernel
theorem dDH_clamp_38 : decode cDH_clamp 38 = .ok (.getfield 37, 3) := by decide +kernel
theorem dDH_clamp_41 : decode cDH_clamp 41 = .ok (.getfield 116, 3) := by decide +kernel
theorem dDH_clamp_44 : decode cDH_clamp 44 = .ok (.bipush 6, 2) := by decide +kernel
theorem dDH_clamp_46 : decode cDH_clamp 46 = .ok (.if_icmp .lt 5, 3) := by decide +kernel
theorem dDH_clamp_49 : decode cDH_clamp 49 = .ok (.iconst 0, 1) := by decide +kernel
theorem dDH_clamp_50 : decode cDH_clamp 50 = .ok (.ireturn, 1) := by decide +kernel
theorem dDH_clamp_51 : decode cDH_clamp 51 = .ok (.aload_n 0, 1) := by decide +kernel
theorem dDH_clamp_52 : decode cDH_clamp 52 = .ok (.getfield 37, 3) := by decide +kernel
theorem dDH_clamp_55 : decode cDH_clamp 55 = .ok (.iload_n 1, 1) := by decide +kernel
theorem dDH_clamp_56 : decode cDH_clamp 56 = .ok (.iload_n 2, 1) := by decide +kernel
theorem dDH_clamp_57 : decode cDH_clamp 57 = .ok (.iload_n 3, 1) := by decide +kernel
theorem dDH_clamp_58 : decode cDH_clamp 58 = .ok (.iload 4, 2) := by decide +kernel
theorem dDH_clamp_60 : decode cDH_clamp 60 = .ok (.invokevirtual 117, 3) := by decide +kernel
theorem dDH_clamp_63 : decode cDH_clamp 63 = .ok (.aload_n 0, 1) := by decide +kernel
theorem dDH_clamp_64 : decode cDH_clamp 64 = .ok (.iconst 0, 1) := by decide +kernel
theorem dDH_clamp_65 : decode cDH_clamp 65 = .ok (.putfield 92, 3) := by decide +kernel
theorem dDH_clamp_68 : decode cDH_clamp 68 = .ok (.iconst 1, 1) := by decide +kernel
theorem dDH_clamp_69 : decode cDH_clamp 69 = .ok (.ireturn, 1) := by decide +kernel
theorem dDH_mirror_0 : decode cDH_mirror 0 = .ok (.iload_n 1, 1) := by decide +kernel
theorem dDH_mirror_1 : decode cDH_mirror 1 = .ok (.iconst 0, 1) := by decide +kernel
theorem dDH_mirror_2 : decode cDH_mirror 2 = .ok (.iconst 1, 1) := by decide +kernel
theorem dDH_mirror_3 : decode cDH_mirror 3 = .ok (.invokestatic 84, 3) := by decide +kernel
theorem dDH_mirror_6 : decode cDH_mirror 6 = .ok (.iload_n 1, 1) := by decide +kernel
theorem dDH_mirror_7 : decode cDH_mirror 7 = .ok (.ifCond .ne 13, 3) := by decide +kernel
theorem dDH_mirror_10 : decode cDH_mirror 10 = .ok (.aload_n 0, 1) := by decide +kernel
theorem dDH_mirror_11 : decode cDH_mirror 11 = .ok (.getfield 30, 3) := by decide +kernel
theorem dDH_mirror_14 : decode cDH_mirror 14 = .ok (.getfield 120, 3) := by decide +kernel
theorem dDH_mirror_17 : decode cDH_mirror 17 = .ok (.goto 10, 3) := by decide +kernel
theorem dDH_mirror_20 : decode cDH_mirror 20 = .ok (.aload_n 0, 1) := by decide +kernel
theorem dDH_mirror_21 : decode cDH_mirror 21 = .ok (.getfield 30, 3) := by decide +kernel
theorem dDH_mirror_24 : decode cDH_mirror 24 = .ok (.getfield 123, 3) := by decide +kernel
theorem dDH_mirror_27 : decode cDH_mirror 27 = .ok (.aload_n 0, 1) := by decide +kernel
theorem dDH_mirror_28 : decode cDH_mirror 28 = .ok (.getfield 30, 3) := by decide +kernel
theorem dDH_mirror_31 : decode cDH_mirror 31 = .ok (.getfield 96, 3) := by decide +kernel
theorem dDH_mirror_34 : decode cDH_mirror 34 = .ok (.invokestatic 126, 3) := by decide +kernel
theorem dDH_mirror_37 : decode cDH_mirror 37 = .ok (.aload_n 0, 1) := by decide +kernel
theorem dDH_mirror_38 : decode cDH_mirror 38 = .ok (.getfield 30, 3) := by decide +kernel
theorem dDH_mirror_41 : decode cDH_mirror 41 = .ok (.getfield 96, 3) := by decide +kernel
theorem dDH_mirror_44 : decode cDH_mirror 44 = .ok (.ifCond .le 8, 3) := by decide +kernel
theorem dDH_mirror_47 : decode cDH_mirror 47 = .ok (.aload_n 0, 1) := by decide +kernel
theorem dDH_mirror_48 : decode cDH_mirror 48 = .ok (.iconst 0, 1) := by decide +kernel
theorem dDH_mirror_49 : decode cDH_mirror 49 = .ok (.putfield 92, 3) := by decide +kernel
theorem dDH_mirror_52 : decode cDH_mirror 52 = .ok (.aload_n 0, 1) := by decide +kernel
theorem dDH_mirror_53 : decode cDH_mirror 53 = .ok (.getfield 30, 3) := by decide +kernel
theorem dDH_mirror_56 : decode cDH_mirror 56 = .ok (.getfield 96, 3) := by decide +kernel
theorem dDH_mirror_59 : decode cDH_mirror 59 = .ok (.ireturn, 1) := by decide +kernel
theorem dDH_negate_0 : decode cDH_negate 0 = .ok (.iconst 0, 1) := by decide +kernel
theorem dDH_negate_1 : decode cDH_negate 1 = .ok (.istore_n 2, 1) := by decide +kernel
theorem dDH_negate_2 : decode cDH_negate 2 = .ok (.iload_n 2, 1) := by decide +kernel
theorem dDH_negate_3 : decode cDH_negate 3 = .ok (.iload_n 1, 1) := by decide +kernel
theorem dDH_negate_4 : decode cDH_negate 4 = .ok (.if_icmp .ge 22, 3) := by decide +kernel
theorem dDH_negate_7 : decode cDH_negate 7 = .ok (.iload_n 2, 1) := by decide +kernel
theorem dDH_negate_8 : decode cDH_negate 8 = .ok (.aload_n 0, 1) := by decide +kernel
theorem dDH_negate_9 : decode cDH_negate 9 = .ok (.arraylength, 1) := by decide +kernel
theorem dDH_negate_10 : decode cDH_negate 10 = .ok (.if_icmp .ge 16, 3) := by decide +kernel
theorem dDH_negate_13 : decode cDH_negate 13 = .ok (.aload_n 0, 1) := by decide +kernel
theorem dDH_negate_14 : decode cDH_negate 14 = .ok (.iload_n 2, 1) := by decide +kernel
theorem dDH_negate_15 : decode cDH_negate 15 = .ok (.aload_n 0, 1) := by decide +kernel
theorem dDH_negate_16 : decode cDH_negate 16 = .ok (.iload_n 2, 1) := by decide +kernel
theorem dDH_negate_17 : decode cDH_negate 17 = .ok (.iaload, 1) := by decide +kernel
theorem dDH_negate_18 : decode cDH_negate 18 = .ok (.ineg, 1) := by decide +kernel
theorem dDH_negate_19 : decode cDH_negate 19 = .ok (.iastore, 1) := by decide +kernel
theorem dDH_negate_20 : decode cDH_negate 20 = .ok (.iinc 2 1, 3) := by decide +kernel
theorem dDH_negate_23 : decode cDH_negate 23 = .ok (.goto (-21), 3) := by decide +kernel
theorem dDH_negate_26 : decode cDH_negate 26 = .ok (.return_, 1) := by decide +kernel
theorem dDH_hit_0 : decode cDH_hit 0 = .ok (.aload_n 0, 1) := by decide +kernel
theorem dDH_hit_1 : decode cDH_hit 1 = .ok (.invokevirtual 141, 3) := by decide +kernel
theorem dDH_hit_4 : decode cDH_hit 4 = .ok (.aload_n 0, 1) := by decide +kernel
theorem dDH_hit_5 : decode cDH_hit 5 = .ok (.iload_n 1, 1) := by decide +kernel
theorem dDH_hit_6 : decode cDH_hit 6 = .ok (.invokevirtual 144, 3) := by decide +kernel
theorem dDH_hit_9 : decode cDH_hit 9 = .ok (.iload_n 2, 1) := by decide +kernel
theorem dDH_hit_10 : decode cDH_hit 10 = .ok (.tableswitch 70 0 3 #[30, 40, 50, 60], 30) := by decide +kernel
theorem dDH_hit_40 : decode cDH_hit 40 = .ok (.aload_n 0, 1) := by decide +kernel
theorem dDH_hit_41 : decode cDH_hit 41 = .ok (.getfield 51, 3) := by decide +kernel
theorem dDH_hit_44 : decode cDH_hit 44 = .ok (.getfield 147, 3) := by decide +kernel
theorem dDH_hit_47 : decode cDH_hit 47 = .ok (.iload_n 1, 1) := by decide +kernel
theorem dDH_hit_48 : decode cDH_hit 48 = .ok (.iaload, 1) := by decide +kernel
theorem dDH_hit_49 : decode cDH_hit 49 = .ok (.ireturn, 1) := by decide +kernel
theorem dDH_hit_50 : decode cDH_hit 50 = .ok (.aload_n 0, 1) := by decide +kernel
theorem dDH_hit_51 : decode cDH_hit 51 = .ok (.getfield 51, 3) := by decide +kernel
theorem dDH_hit_54 : decode cDH_hit 54 = .ok (.getfield 148, 3) := by decide +kernel
theorem dDH_hit_57 : decode cDH_hit 57 = .ok (.iload_n 1, 1) := by decide +kernel
theorem dDH_hit_58 : decode cDH_hit 58 = .ok (.iaload, 1) := by decide +kernel
theorem dDH_hit_59 : decode cDH_hit 59 = .ok (.ireturn, 1) := by decide +kernel
theorem dDH_hit_60 : decode cDH_hit 60 = .ok (.aload_n 0, 1) := by decide +kernel
theorem dDH_hit_61 : decode cDH_hit 61 = .ok (.getfield 51, 3) := by decide +kernel
theorem dDH_hit_64 : decode cDH_hit 64 = .ok (.getfield 149, 3) := by decide +kernel
theorem dDH_hit_67 : decode cDH_hit 67 = .ok (.iload_n 1, 1) := by decide +kernel
theorem dDH_hit_68 : decode cDH_hit 68 = .ok (.iaload, 1) := by decide +kernel
theorem dDH_hit_69 : decode cDH_hit 69 = .ok (.ireturn, 1) := by decide +kernel
theorem dDH_hit_70 : decode cDH_hit 70 = .ok (.aload_n 0, 1) := by decide +kernel
theorem dDH_hit_71 : decode cDH_hit 71 = .ok (.getfield 51, 3) := by decide +kernel
theorem dDH_hit_74 : decode cDH_hit 74 = .ok (.getfield 152, 3) := by decide +kernel
theorem dDH_hit_77 : decode cDH_hit 77 = .ok (.iload_n 1, 1) := by decide +kernel
theorem dDH_hit_78 : decode cDH_hit 78 = .ok (.iaload, 1) := by decide +kernel
theorem dDH_hit_79 : decode cDH_hit 79 = .ok (.ireturn, 1) := by decide +kernel
theorem dDH_hit_80 : decode cDH_hit 80 = .ok (.new 155, 3) := by decide +kernel
theorem dDH_hit_83 : decode cDH_hit 83 = .ok (.dup, 1) := by decide +kernel
theorem dDH_hit_84 : decode cDH_hit 84 = .ok (.ldc 157, 2) := by decide +kernel
theorem dDH_hit_86 : decode cDH_hit 86 = .ok (.invokespecial 159, 3) := by decide +kernel
theorem dDH_hit_89 : decode cDH_hit 89 = .ok (.athrow, 1) := by decide +kernel
theorem dDH_requirePlanned_0 : decode cDH_requirePlanned 0 = .ok (.aload_n 0, 1) := by decide +kernel
theorem dDH_requirePlanned_1 : decode cDH_requirePlanned 1 = .ok (.getfield 92, 3) := by decide +kernel
theorem dDH_requirePlanned_4 : decode cDH_requirePlanned 4 = .ok (.ifCond .ne 13, 3) := by decide +kernel
theorem dDH_requirePlanned_7 : decode cDH_requirePlanned 7 = .ok (.new 100, 3) := by decide +kernel
theorem dDH_requirePlanned_10 : decode cDH_requirePlanned 10 = .ok (.dup, 1) := by decide +kernel
theorem dDH_requirePlanned_11 : decode cDH_requirePlanned 11 = .ok (.ldc 219, 2) := by decide +kernel
theorem dDH_requirePlanned_13 : decode cDH_requirePlanned 13 = .ok (.invokespecial 104, 3) := by decide +kernel
theorem dDH_requirePlanned_16 : decode cDH_requirePlanned 16 = .ok (.athrow, 1) := by decide +kernel
theorem dDH_requirePlanned_17 : decode cDH_requirePlanned 17 = .ok (.return_, 1) := by decide +kernel
theorem dDH_requireHit_0 : decode cDH_requireHit 0 = .ok (.iload_n 1, 1) := by decide +kernel
theorem dDH_requireHit_1 : decode cDH_requireHit 1 = .ok (.ifCond .lt 14, 3) := by decide +kernel
theorem dDH_requireHit_4 : decode cDH_requireHit 4 = .ok (.iload_n 1, 1) := by decide +kernel
theorem dDH_requireHit_5 : decode cDH_requireHit 5 = .ok (.aload_n 0, 1) := by decide +kernel
theorem dDH_requireHit_6 : decode cDH_requireHit 6 = .ok (.getfield 51, 3) := by decide +kernel
theorem dDH_requireHit_9 : decode cDH_requireHit 9 = .ok (.getfield 140, 3) := by decide +kernel
theorem dDH_requireHit_12 : decode cDH_requireHit 12 = .ok (.if_icmp .lt 13, 3) := by decide +kernel
theorem dDH_requireHit_15 : decode cDH_requireHit 15 = .ok (.new 73, 3) := by decide +kernel
theorem dDH_requireHit_18 : decode cDH_requireHit 18 = .ok (.dup, 1) := by decide +kernel
theorem dDH_requireHit_19 : decode cDH_requireHit 19 = .ok (.ldc 223, 2) := by decide +kernel
theorem dDH_requireHit_21 : decode cDH_requireHit 21 = .ok (.invokespecial 77, 3) := by decide +kernel
theorem dDH_requireHit_24 : decode cDH_requireHit 24 = .ok (.athrow, 1) := by decide +kernel
theorem dDH_requireHit_25 : decode cDH_requireHit 25 = .ok (.return_, 1) := by decide +kernel
theorem dDH_drills_0 : decode cDH_drills 0 = .ok (.aload_n 0, 1) := by decide +kernel
theorem dDH_drills_1 : decode cDH_drills 1 = .ok (.invokevirtual 141, 3) := by decide +kernel
theorem dDH_drills_4 : decode cDH_drills 4 = .ok (.aload_n 0, 1) := by decide +kernel
theorem dDH_drills_5 : decode cDH_drills 5 = .ok (.iload_n 1, 1) := by decide +kernel
theorem dDH_drills_6 : decode cDH_drills 6 = .ok (.invokevirtual 144, 3) := by decide +kernel
theorem dDH_drills_9 : decode cDH_drills 9 = .ok (.aload_n 0, 1) := by decide +kernel
theorem dDH_drills_10 : decode cDH_drills 10 = .ok (.iload_n 2, 1) := by decide +kernel
theorem dDH_drills_11 : decode cDH_drills 11 = .ok (.invokevirtual 109, 3) := by decide +kernel
theorem dDH_drills_14 : decode cDH_drills 14 = .ok (.aload_n 0, 1) := by decide +kernel
theorem dDH_drills_15 : decode cDH_drills 15 = .ok (.getfield 51, 3) := by decide +kernel
theorem dDH_drills_18 : decode cDH_drills 18 = .ok (.getfield 152, 3) := by decide +kernel
theorem dDH_drills_21 : decode cDH_drills 21 = .ok (.iload_n 1, 1) := by decide +kernel
theorem dDH_drills_22 : decode cDH_drills 22 = .ok (.iaload, 1) := by decide +kernel
theorem dDH_drills_23 : decode cDH_drills 23 = .ok (.iload_n 2, 1) := by decide +kernel
theorem dDH_drills_24 : decode cDH_drills 24 = .ok (.invokestatic 160, 3) := by decide +kernel
theorem dDH_drills_27 : decode cDH_drills 27 = .ok (.ireturn, 1) := by decide +kernel
theorem dDH_by_0 : decode cDH_by 0 = .ok (.aload_n 0, 1) := by decide +kernel
theorem dDH_by_1 : decode cDH_by 1 = .ok (.invokevirtual 141, 3) := by decide +kernel
theorem dDH_by_4 : decode cDH_by 4 = .ok (.aload_n 0, 1) := by decide +kernel
theorem dDH_by_5 : decode cDH_by 5 = .ok (.iload_n 1, 1) := by decide +kernel
theorem dDH_by_6 : decode cDH_by 6 = .ok (.invokevirtual 109, 3) := by decide +kernel
theorem dDH_by_9 : decode cDH_by 9 = .ok (.aload_n 0, 1) := by decide +kernel
theorem dDH_by_10 : decode cDH_by 10 = .ok (.getfield 51, 3) := by decide +kernel
theorem dDH_by_13 : decode cDH_by 13 = .ok (.iload_n 1, 1) := by decide +kernel
theorem dDH_by_14 : decode cDH_by 14 = .ok (.invokevirtual 164, 3) := by decide +kernel
theorem dDH_by_17 : decode cDH_by 17 = .ok (.istore_n 2, 1) := by decide +kernel
theorem dDH_by_18 : decode cDH_by 18 = .ok (.iload_n 2, 1) := by decide +kernel
theorem dDH_by_19 : decode cDH_by 19 = .ok (.iconst (-1), 1) := by decide +kernel
theorem dDH_by_20 : decode cDH_by 20 = .ok (.if_icmp .ne 5, 3) := by decide +kernel
theorem dDH_by_23 : decode cDH_by 23 = .ok (.iconst (-1), 1) := by decide +kernel
theorem dDH_by_24 : decode cDH_by 24 = .ok (.ireturn, 1) := by decide +kernel
theorem dDH_by_25 : decode cDH_by 25 = .ok (.aload_n 0, 1) := by decide +kernel
theorem dDH_by_26 : decode cDH_by 26 = .ok (.getfield 30, 3) := by decide +kernel
theorem dDH_by_29 : decode cDH_by 29 = .ok (.iload_n 1, 1) := by decide +kernel
theorem dDH_by_30 : decode cDH_by 30 = .ok (.aload_n 0, 1) := by decide +kernel
theorem dDH_by_31 : decode cDH_by 31 = .ok (.getfield 23, 3) := by decide +kernel
theorem dDH_by_34 : decode cDH_by 34 = .ok (.aload_n 0, 1) := by decide +kernel
theorem dDH_by_35 : decode cDH_by 35 = .ok (.getfield 51, 3) := by decide +kernel
theorem dDH_by_38 : decode cDH_by 38 = .ok (.getfield 147, 3) := by decide +kernel
theorem dDH_by_41 : decode cDH_by 41 = .ok (.iload_n 2, 1) := by decide +kernel
theorem dDH_by_42 : decode cDH_by 42 = .ok (.iaload, 1) := by decide +kernel
theorem dDH_by_43 : decode cDH_by 43 = .ok (.aload_n 0, 1) := by decide +kernel
theorem dDH_by_44 : decode cDH_by 44 = .ok (.getfield 51, 3) := by decide +kernel
theorem dDH_by_47 : decode cDH_by 47 = .ok (.getfield 148, 3) := by decide +kernel
theorem dDH_by_50 : decode cDH_by 50 = .ok (.iload_n 2, 1) := by decide +kernel
theorem dDH_by_51 : decode cDH_by 51 = .ok (.iaload, 1) := by decide +kernel
theorem dDH_by_52 : decode cDH_by 52 = .ok (.invokevirtual 168, 3) := by decide +kernel
theorem dDH_by_55 : decode cDH_by 55 = .ok (.ireturn, 1) := by decide +kernel
theorem dDH_single_0 : decode cDH_single 0 = .ok (.aload_n 0, 1) := by decide +kernel
theorem dDH_single_1 : decode cDH_single 1 = .ok (.invokevirtual 141, 3) := by decide +kernel
theorem dDH_single_4 : decode cDH_single 4 = .ok (.aload_n 0, 1) := by decide +kernel
theorem dDH_single_5 : decode cDH_single 5 = .ok (.iload_n 1, 1) := by decide +kernel
theorem dDH_single_6 : decode cDH_single 6 = .ok (.invokevirtual 109, 3) := by decide +kernel
theorem dDH_single_9 : decode cDH_single 9 = .ok (.aload_n 0, 1) := by decide +kernel
theorem dDH_single_10 : decode cDH_single 10 = .ok (.getfield 172, 3) := by decide +kernel
theorem dDH_single_13 : decode cDH_single 13 = .ok (.iload_n 1, 1) := by decide +kernel
theorem dDH_single_14 : decode cDH_single 14 = .ok (.invokestatic 160, 3) := by decide +kernel
theorem dDH_single_17 : decode cDH_single 17 = .ok (.ireturn, 1) := by decide +kernel
theorem dDH_order_0 : decode cDH_order 0 = .ok (.aload_n 0, 1) := by decide +kernel
theorem dDH_order_1 : decode cDH_order 1 = .ok (.invokevirtual 141, 3) := by decide +kernel
theorem dDH_order_4 : decode cDH_order 4 = .ok (.aload_n 0, 1) := by decide +kernel
theorem dDH_order_5 : decode cDH_order 5 = .ok (.iload_n 1, 1) := by decide +kernel
theorem dDH_order_6 : decode cDH_order 6 = .ok (.invokevirtual 144, 3) := by decide +kernel
theorem dDH_order_9 : decode cDH_order 9 = .ok (.aload_n 0, 1) := by decide +kernel
theorem dDH_order_10 : decode cDH_order 10 = .ok (.getfield 65, 3) := by decide +kernel
theorem dDH_order_13 : decode cDH_order 13 = .ok (.getfield 175, 3) := by decide +kernel
theorem dDH_order_16 : decode cDH_order 16 = .ok (.iload_n 1, 1) := by decide +kernel
theorem dDH_order_17 : decode cDH_order 17 = .ok (.iaload, 1) := by decide +kernel
theorem dDH_order_18 : decode cDH_order 18 = .ok (.ireturn, 1) := by decide +kernel
theorem dDH_travel_0 : decode cDH_travel 0 = .ok (.aload_n 0, 1) := by decide +kernel
theorem dDH_travel_1 : decode cDH_travel 1 = .ok (.invokevirtual 141, 3) := by decide +kernel
theorem dDH_travel_4 : decode cDH_travel 4 = .ok (.aload_n 0, 1) := by decide +kernel
theorem dDH_travel_5 : decode cDH_travel 5 = .ok (.getfield 65, 3) := by decide +kernel
theorem dDH_travel_8 : decode cDH_travel 8 = .ok (.getfield 178, 3) := by decide +kernel
theorem dDH_travel_11 : decode cDH_travel 11 = .ok (.lreturn, 1) := by decide +kernel
theorem dDH_least_0 : decode cDH_least 0 = .ok (.aload_n 0, 1) := by decide +kernel
theorem dDH_least_1 : decode cDH_least 1 = .ok (.invokevirtual 141, 3) := by decide +kernel
theorem dDH_least_4 : decode cDH_least 4 = .ok (.aload_n 0, 1) := by decide +kernel
theorem dDH_least_5 : decode cDH_least 5 = .ok (.getfield 51, 3) := by decide +kernel
theorem dDH_least_8 : decode cDH_least 8 = .ok (.getfield 140, 3) := by decide +kernel
theorem dDH_least_11 : decode cDH_least 11 = .ok (.bipush 10, 2) := by decide +kernel
theorem dDH_least_13 : decode cDH_least 13 = .ok (.if_icmp .gt 7, 3) := by decide +kernel
theorem dDH_least_16 : decode cDH_least 16 = .ok (.iconst 1, 1) := by decide +kernel
theorem dDH_least_17 : decode cDH_least 17 = .ok (.goto 4, 3) := by decide +kernel
theorem dDH_least_20 : decode cDH_least 20 = .ok (.iconst 0, 1) := by decide +kernel
theorem dDH_least_21 : decode cDH_least 21 = .ok (.ireturn, 1) := by decide +kernel
theorem dDH_bound_0 : decode cDH_bound 0 = .ok (.aload_n 0, 1) := by decide +kernel
theorem dDH_bound_1 : decode cDH_bound 1 = .ok (.invokevirtual 141, 3) := by decide +kernel
theorem dDH_bound_4 : decode cDH_bound 4 = .ok (.aload_n 0, 1) := by decide +kernel
theorem dDH_bound_5 : decode cDH_bound 5 = .ok (.getfield 23, 3) := by decide +kernel
theorem dDH_bound_8 : decode cDH_bound 8 = .ok (.invokevirtual 182, 3) := by decide +kernel
theorem dDH_bound_11 : decode cDH_bound 11 = .ok (.istore_n 1, 1) := by decide +kernel
theorem dDH_bound_12 : decode cDH_bound 12 = .ok (.iload_n 1, 1) := by decide +kernel
theorem dDH_bound_13 : decode cDH_bound 13 = .ok (.ifCond .ne 5, 3) := by decide +kernel
theorem dDH_bound_16 : decode cDH_bound 16 = .ok (.iconst 0, 1) := by decide +kernel
theorem dDH_bound_17 : decode cDH_bound 17 = .ok (.ireturn, 1) := by decide +kernel
theorem dDH_bound_18 : decode cDH_bound 18 = .ok (.aload_n 0, 1) := by decide +kernel
theorem dDH_bound_19 : decode cDH_bound 19 = .ok (.getfield 30, 3) := by decide +kernel
theorem dDH_bound_22 : decode cDH_bound 22 = .ok (.getfield 96, 3) := by decide +kernel
theorem dDH_bound_25 : decode cDH_bound 25 = .ok (.aload_n 0, 1) := by decide +kernel
theorem dDH_bound_26 : decode cDH_bound 26 = .ok (.getfield 172, 3) := by decide +kernel
theorem dDH_bound_29 : decode cDH_bound 29 = .ok (.invokestatic 186, 3) := by decide +kernel
theorem dDH_bound_32 : decode cDH_bound 32 = .ok (.isub, 1) := by decide +kernel
theorem dDH_bound_33 : decode cDH_bound 33 = .ok (.istore_n 2, 1) := by decide +kernel
theorem dDH_bound_34 : decode cDH_bound 34 = .ok (.iload_n 2, 1) := by decide +kernel
theorem dDH_bound_35 : decode cDH_bound 35 = .ok (.iload_n 1, 1) := by decide +kernel
theorem dDH_bound_36 : decode cDH_bound 36 = .ok (.iadd, 1) := by decide +kernel
theorem dDH_bound_37 : decode cDH_bound 37 = .ok (.iconst 1, 1) := by decide +kernel
theorem dDH_bound_38 : decode cDH_bound 38 = .ok (.isub, 1) := by decide +kernel
theorem dDH_bound_39 : decode cDH_bound 39 = .ok (.iload_n 1, 1) := by decide +kernel
theorem dDH_bound_40 : decode cDH_bound 40 = .ok (.idiv, 1) := by decide +kernel
theorem dDH_bound_41 : decode cDH_bound 41 = .ok (.ireturn, 1) := by decide +kernel
theorem dIn_bitCount_0 : decode cIn_bitCount 0 = .ok (.iload_n 0, 1) := by decide +kernel
theorem dIn_bitCount_1 : decode cIn_bitCount 1 = .ok (.iload_n 0, 1) := by decide +kernel
theorem dIn_bitCount_2 : decode cIn_bitCount 2 = .ok (.iconst 1, 1) := by decide +kernel
theorem dIn_bitCount_3 : decode cIn_bitCount 3 = .ok (.iushr, 1) := by decide +kernel
theorem dIn_bitCount_4 : decode cIn_bitCount 4 = .ok (.ldc_w 265, 3) := by decide +kernel
theorem dIn_bitCount_7 : decode cIn_bitCount 7 = .ok (.iand, 1) := by decide +kernel
theorem dIn_bitCount_8 : decode cIn_bitCount 8 = .ok (.isub, 1) := by decide +kernel
theorem dIn_bitCount_9 : decode cIn_bitCount 9 = .ok (.istore_n 0, 1) := by decide +kernel
theorem dIn_bitCount_10 : decode cIn_bitCount 10 = .ok (.iload_n 0, 1) := by decide +kernel
theorem dIn_bitCount_11 : decode cIn_bitCount 11 = .ok (.ldc_w 266, 3) := by decide +kernel
theorem dIn_bitCount_14 : decode cIn_bitCount 14 = .ok (.iand, 1) := by decide +kernel
theorem dIn_bitCount_15 : decode cIn_bitCount 15 = .ok (.iload_n 0, 1) := by decide +kernel
theorem dIn_bitCount_16 : decode cIn_bitCount 16 = .ok (.iconst 2, 1) := by decide +kernel
theorem dIn_bitCount_17 : decode cIn_bitCount 17 = .ok (.iushr, 1) := by decide +kernel
theorem dIn_bitCount_18 : decode cIn_bitCount 18 = .ok (.ldc_w 266, 3) := by decide +kernel
theorem dIn_bitCount_21 : decode cIn_bitCount 21 = .ok (.iand, 1) := by decide +kernel
theorem dIn_bitCount_22 : decode cIn_bitCount 22 = .ok (.iadd, 1) := by decide +kernel
theorem dIn_bitCount_23 : decode cIn_bitCount 23 = .ok (.istore_n 0, 1) := by decide +kernel
theorem dIn_bitCount_24 : decode cIn_bitCount 24 = .ok (.iload_n 0, 1) := by decide +kernel
theorem dIn_bitCount_25 : decode cIn_bitCount 25 = .ok (.iload_n 0, 1) := by decide +kernel
theorem dIn_bitCount_26 : decode cIn_bitCount 26 = .ok (.iconst 4, 1) := by decide +kernel
theorem dIn_bitCount_27 : decode cIn_bitCount 27 = .ok (.iushr, 1) := by decide +kernel
theorem dIn_bitCount_28 : decode cIn_bitCount 28 = .ok (.iadd, 1) := by decide +kernel
theorem dIn_bitCount_29 : decode cIn_bitCount 29 = .ok (.ldc_w 267, 3) := by decide +kernel
theorem dIn_bitCount_32 : decode cIn_bitCount 32 = .ok (.iand, 1) := by decide +kernel
theorem dIn_bitCount_33 : decode cIn_bitCount 33 = .ok (.istore_n 0, 1) := by decide +kernel
theorem dIn_bitCount_34 : decode cIn_bitCount 34 = .ok (.iload_n 0, 1) := by decide +kernel
theorem dIn_bitCount_35 : decode cIn_bitCount 35 = .ok (.iload_n 0, 1) := by decide +kernel
theorem dIn_bitCount_36 : decode cIn_bitCount 36 = .ok (.bipush 8, 2) := by decide +kernel
theorem dIn_bitCount_38 : decode cIn_bitCount 38 = .ok (.iushr, 1) := by decide +kernel
theorem dIn_bitCount_39 : decode cIn_bitCount 39 = .ok (.iadd, 1) := by decide +kernel
theorem dIn_bitCount_40 : decode cIn_bitCount 40 = .ok (.istore_n 0, 1) := by decide +kernel
theorem dIn_bitCount_41 : decode cIn_bitCount 41 = .ok (.iload_n 0, 1) := by decide +kernel
theorem dIn_bitCount_42 : decode cIn_bitCount 42 = .ok (.iload_n 0, 1) := by decide +kernel
theorem dIn_bitCount_43 : decode cIn_bitCount 43 = .ok (.bipush 16, 2) := by decide +kernel
theorem dIn_bitCount_45 : decode cIn_bitCount 45 = .ok (.iushr, 1) := by decide +kernel
theorem dIn_bitCount_46 : decode cIn_bitCount 46 = .ok (.iadd, 1) := by decide +kernel
theorem dIn_bitCount_47 : decode cIn_bitCount 47 = .ok (.istore_n 0, 1) := by decide +kernel
theorem dIn_bitCount_48 : decode cIn_bitCount 48 = .ok (.iload_n 0, 1) := by decide +kernel
theorem dIn_bitCount_49 : decode cIn_bitCount 49 = .ok (.bipush 63, 2) := by decide +kernel
theorem dIn_bitCount_51 : decode cIn_bitCount 51 = .ok (.iand, 1) := by decide +kernel
theorem dIn_bitCount_52 : decode cIn_bitCount 52 = .ok (.ireturn, 1) := by decide +kernel
theorem dDH_places_0 : decode cDH_places 0 = .ok (.aload_n 0, 1) := by decide +kernel
theorem dDH_places_1 : decode cDH_places 1 = .ok (.iload_n 1, 1) := by decide +kernel
theorem dDH_places_2 : decode cDH_places 2 = .ok (.invokevirtual 109, 3) := by decide +kernel
theorem dDH_places_5 : decode cDH_places 5 = .ok (.aload_n 0, 1) := by decide +kernel
theorem dDH_places_6 : decode cDH_places 6 = .ok (.getfield 43, 3) := by decide +kernel
theorem dDH_places_9 : decode cDH_places 9 = .ok (.iload_n 1, 1) := by decide +kernel
theorem dDH_places_10 : decode cDH_places 10 = .ok (.aaload, 1) := by decide +kernel
theorem dDH_places_11 : decode cDH_places 11 = .ok (.iload_n 1, 1) := by decide +kernel
theorem dDH_places_12 : decode cDH_places 12 = .ok (.aload_n 0, 1) := by decide +kernel
theorem dDH_places_13 : decode cDH_places 13 = .ok (.getfield 30, 3) := by decide +kernel
theorem dDH_places_16 : decode cDH_places 16 = .ok (.aload_n 0, 1) := by decide +kernel
theorem dDH_places_17 : decode cDH_places 17 = .ok (.getfield 23, 3) := by decide +kernel
theorem dDH_places_20 : decode cDH_places 20 = .ok (.aload_n 0, 1) := by decide +kernel
theorem dDH_places_21 : decode cDH_places 21 = .ok (.getfield 37, 3) := by decide +kernel
theorem dDH_places_24 : decode cDH_places 24 = .ok (.invokevirtual 191, 3) := by decide +kernel
theorem dDH_places_27 : decode cDH_places 27 = .ok (.aload_n 0, 1) := by decide +kernel
theorem dDH_places_28 : decode cDH_places 28 = .ok (.getfield 43, 3) := by decide +kernel
theorem dDH_places_31 : decode cDH_places 31 = .ok (.iload_n 1, 1) := by decide +kernel
theorem dDH_places_32 : decode cDH_places 32 = .ok (.aaload, 1) := by decide +kernel
theorem dDH_places_33 : decode cDH_places 33 = .ok (.getfield 194, 3) := by decide +kernel
theorem dDH_places_36 : decode cDH_places 36 = .ok (.ireturn, 1) := by decide +kernel
theorem dDH_seconds_0 : decode cDH_seconds 0 = .ok (.aload_n 0, 1) := by decide +kernel
theorem dDH_seconds_1 : decode cDH_seconds 1 = .ok (.invokevirtual 141, 3) := by decide +kernel
theorem dDH_seconds_4 : decode cDH_seconds 4 = .ok (.aload_n 0, 1) := by decide +kernel
theorem dDH_seconds_5 : decode cDH_seconds 5 = .ok (.getfield 172, 3) := by decide +kernel
theorem dDH_seconds_8 : decode cDH_seconds 8 = .ok (.invokestatic 186, 3) := by decide +kernel
theorem dDH_seconds_11 : decode cDH_seconds 11 = .ok (.istore_n 1, 1) := by decide +kernel
theorem dDH_seconds_12 : decode cDH_seconds 12 = .ok (.iconst 4, 1) := by decide +kernel
theorem dDH_seconds_13 : decode cDH_seconds 13 = .ok (.aload_n 0, 1) := by decide +kernel
theorem dDH_seconds_14 : decode cDH_seconds 14 = .ok (.getfield 51, 3) := by decide +kernel
theorem dDH_seconds_17 : decode cDH_seconds 17 = .ok (.getfield 140, 3) := by decide +kernel
theorem dDH_seconds_20 : decode cDH_seconds 20 = .ok (.imul, 1) := by decide +kernel
theorem dDH_seconds_21 : decode cDH_seconds 21 = .ok (.bipush 12, 2) := by decide +kernel
theorem dDH_seconds_23 : decode cDH_seconds 23 = .ok (.iload_n 1, 1) := by decide +kernel
theorem dDH_seconds_24 : decode cDH_seconds 24 = .ok (.imul, 1) := by decide +kernel
theorem dDH_seconds_25 : decode cDH_seconds 25 = .ok (.iadd, 1) := by decide +kernel
theorem dDH_seconds_26 : decode cDH_seconds 26 = .ok (.i2l, 1) := by decide +kernel
theorem dDH_seconds_27 : decode cDH_seconds 27 = .ok (.aload_n 0, 1) := by decide +kernel
theorem dDH_seconds_28 : decode cDH_seconds 28 = .ok (.getfield 65, 3) := by decide +kernel
theorem dDH_seconds_31 : decode cDH_seconds 31 = .ok (.getfield 178, 3) := by decide +kernel
theorem dDH_seconds_34 : decode cDH_seconds 34 = .ok (.ldc2_w 195, 3) := by decide +kernel
theorem dDH_seconds_37 : decode cDH_seconds 37 = .ok (.ldiv, 1) := by decide +kernel
theorem dDH_seconds_38 : decode cDH_seconds 38 = .ok (.ladd, 1) := by decide +kernel
theorem dDH_seconds_39 : decode cDH_seconds 39 = .ok (.lreturn, 1) := by decide +kernel
end
section
/-! OWN LAYER: the world by roles. A role is a number; ad gives its address, w its contents. -/
def dq_U (w : Nat → Option va_E) (r : Nat) (e : va_E) : Nat → Option va_E := fun j => if j = r then some e else w j
theorem dq_Us {w : Nat → Option va_E} {r : Nat} {e : va_E} : dq_U w r e r = some e := by simp [dq_U]
theorem dq_Un {w : Nat → Option va_E} {r j : Nat} {e : va_E} (h : j ≠ r) : dq_U w r e j = w j := by simp [dq_U, h]
def dq_W (D : va_G) (cl : List vw_C) (ad : Nat → Nat) (w : Nat → Option va_E) (A : Nat → Prop) (H : Heap) : Prop :=
  (∀ (r : Nat) (e : va_E), w r = some e → va_at D cl (ad r, e) H ∧ A (ad r)) ∧ ∀ (r r' : Nat) (e e' : va_E), w r = some e → w r' = some e' → ad r = ad r' → r = r'
theorem dq_W.get {D : va_G} {cl : List vw_C} {ad : Nat → Nat} {w : Nat → Option va_E} {A : Nat → Prop} {H : Heap} (h : dq_W D cl ad w A H) {r : Nat} {e : va_E} (hr : w r = some e) : va_P D cl [(ad r, e)] H := by
  intro k q hk
  have hz : k < 1 := (List.getElem?_eq_some_iff.mp hk).1
  rw [show k = 0 by omega] at hk
  cases hk
  exact (h.1 r e hr).1
theorem dq_W.weaken {D : va_G} {cl : List vw_C} {ad : Nat → Nat} {w : Nat → Option va_E} {A B : Nat → Prop} {H : Heap} (h : dq_W D cl ad w A H) (hAB : ∀ q, A q → B q) : dq_W D cl ad w B H :=
  ⟨fun r e hr => ⟨(h.1 r e hr).1, hAB _ (h.1 r e hr).2⟩, h.2⟩
theorem dq_W.set {D : va_G} {cl : List vw_C} {ad : Nat → Nat} {w : Nat → Option va_E} {A : Nat → Prop} {H H1 : Heap} (h : dq_W D cl ad w A H) {r : Nat} {e0 e : va_E} (hr : w r = some e0) (he : va_at D cl (ad r, e) H1) (oq : ∀ q : Nat, q ≠ ad r → H1[q]? = H[q]?) : dq_W D cl ad (dq_U w r e) A H1 := by
  have key : ∀ (j : Nat) (x : va_E), dq_U w r e j = some x → ∃ y, w j = some y := by
    intro j x hj
    by_cases hjr : j = r
    · exact ⟨e0, by rw [hjr]; exact hr⟩
    · rw [dq_Un hjr] at hj
      exact ⟨x, hj⟩
  refine ⟨fun j x hj => ?_, fun j j' x x' hj hj' ha => ?_⟩
  · by_cases hjr : j = r
    · subst hjr
      rw [dq_Us] at hj
      cases hj
      exact ⟨he, (h.1 j e0 hr).2⟩
    · rw [dq_Un hjr] at hj
      exact ⟨(h.1 j x hj).1.kept (oq _ (fun z => hjr (h.2 j r x e0 hj hr z))), (h.1 j x hj).2⟩
  · obtain ⟨y, hy⟩ := key j x hj
    obtain ⟨y', hy'⟩ := key j' x' hj'
    exact h.2 j j' y y' hy hy' ha
/-- a new cell gets the role r -/
theorem dq_W.push {D : va_G} {cl : List vw_C} {ad : Nat → Nat} {w : Nat → Option va_E} {A : Nat → Prop} {H H1 : Heap} (h : dq_W D cl ad w A H) {r q : Nat} {e : va_E} (hq : H.size = q) (hA : A q) (he : va_at D cl (q, e) H1) (oq : ∀ x : Nat, x < q → H1[x]? = H[x]?) : dq_W D cl (va_up ad r q) (dq_U w r e) A H1 := by
  refine ⟨fun j x hj => ?_, fun j j' x x' hj hj' ha => ?_⟩
  · by_cases hjr : j = r
    · subst hjr
      rw [dq_Us] at hj
      cases hj
      rw [va_up_self]
      exact ⟨he, hA⟩
    · rw [dq_Un hjr] at hj
      rw [va_up_ne _ _ hjr]
      have hl : ad j < H.size := (h.1 j x hj).1.lt
      exact ⟨(h.1 j x hj).1.kept (oq _ (by omega)), (h.1 j x hj).2⟩
  · by_cases h1 : j = r
    · by_cases h2 : j' = r
      · rw [h1, h2]
      · subst h1
        rw [dq_Un h2] at hj'
        rw [va_up_self, va_up_ne _ _ h2] at ha
        have hl : ad j' < H.size := (h.1 j' x' hj').1.lt
        omega
    · rw [dq_Un h1] at hj
      by_cases h2 : j' = r
      · subst h2
        rw [va_up_self, va_up_ne _ _ h1] at ha
        have hl : ad j < H.size := (h.1 j x hj).1.lt
        omega
      · rw [dq_Un h2] at hj'
        rw [va_up_ne _ _ h1, va_up_ne _ _ h2] at ha
        exact h.2 j j' x x' hj hj' ha
/-- what a method may change: the cells of its world, and those that it makes -/
def dq_A (ad : Nat → Nat) (w : Nat → Option va_E) (sz : Nat) : Nat → Prop := fun q => (∃ (r : Nat) (e : va_E), w r = some e ∧ ad r = q) ∨ sz ≤ q
theorem dq_A.sub {D : va_G} {cl : List vw_C} {ad : Nat → Nat} {w : Nat → Option va_E} {A : Nat → Prop} {H0 H : Heap} {locs : List Loc} (h : dq_W D cl ad w A H) (hS : va_S A H0 H locs) (hA : ∀ q, H0.size ≤ q → A q) : ∀ q, dq_A ad w H.size q → A q := by
  intro q hq
  rcases hq with ⟨r, e, h1, h2⟩ | hq
  · rw [← h2]
    exact (h.1 r e h1).2
  · exact hA q (Nat.le_trans hS.1 hq)
theorem dq_W.self {D : va_G} {cl : List vw_C} {ad : Nat → Nat} {w : Nat → Option va_E} {A : Nat → Prop} {H : Heap} {sz : Nat} (h : dq_W D cl ad w A H) : dq_W D cl ad w (dq_A ad w sz) H :=
  ⟨fun r e hr => ⟨(h.1 r e hr).1, Or.inl ⟨r, e, hr, rfl⟩⟩, h.2⟩
theorem dq_W.kept {D : va_G} {cl : List vw_C} {ad : Nat → Nat} {w : Nat → Option va_E} {A : Nat → Prop} {H H1 : Heap} (h : dq_W D cl ad w A H) (hq : ∀ x : Nat, x < H.size → H1[x]? = H[x]?) : dq_W D cl ad w A H1 :=
  ⟨fun r e hr => ⟨(h.1 r e hr).1.kept (hq _ (h.1 r e hr).1.lt), (h.1 r e hr).2⟩, h.2⟩
section DQ
variable {p : Program} {l : Launch} {e : Env} {R : Room} {s : State} {m : MethodId} {args : Array Value} {below : List Frame} {meth : Method} {c : Code} {H : Heap} {locs : List Loc} {cells slots : Nat} {Q : State → Prop}
variable {cc : ByteArray} {pc : Nat} {ls : Array Slot} {rest : List Value} {D : va_G} {cl : List vw_C} {A : Nat → Prop} {tys : List (ClassId × FieldType)} {ad : Nat → Nat} {w : Nat → Option va_E} {H0 : Heap}
theorem dq_top {x y : Int32} (h : x = y) (k : W p l e R s m args below meth c H locs cells slots Q (F0 m pc ls (.int y :: rest))) : W p l e R s m args below meth c H locs cells slots Q (F0 m pc ls (.int x :: rest)) := by rw [h]; exact k
theorem dq_topl {x y : Int64} (h : x = y) (k : W p l e R s m args below meth c H locs cells slots Q (F0 m pc ls (.long y :: rest))) : W p l e R s m args below meth c H locs cells slots Q (F0 m pc ls (.long x :: rest)) := by rw [h]; exact k
theorem dq_get (hexec : p.tables.exec = Jvm.exec) (hb : c.code = cc) {own ref C : String} {T : u_T} {N ci index : Nat} {Ts : List Cond} (hts : ∀ w ∈ Ts, w.before args s = true) (hin : ∀ w ∈ u_ws C T N, w ∈ Ts) (hown : s.vm.findClass own = some m.cls) (hK : va_K D cl tys s) (hP : dq_W D cl ad w A H) (r : Nat) {fs : List Value} (he : w r = some (.inr (ci, fs))) (hc : cl[ci]? = some (C, T, N)) (k : Nat) (hk : k < N) (hlink : (Cond.fieldLink own index ref (T k).2.1 (T k).2.2.1).before args s = true) (hsame : ∀ x, s.fieldFound? (T k).1 (T k).2.1 (T k).2.2.1 = some x → s.fieldFound? ref (T k).2.1 (T k).2.2.1 = some x) {v : Value} (hv : fs[k]? = some v) (hdg : decode cc pc = .ok (.getfield index, 3))
    (kk : W p l e R s m args below meth c H locs cells slots Q (F0 m (pc + 3) ls (v :: rest))) : W p l e R s m args below meth c H locs cells slots Q (F0 m pc ls (.ref (ad r) :: rest)) :=
  va_get (D := D) (cl := cl) (ws := [(ad r, .inr (ci, fs))]) hexec hb hts hin hown hK (hP.get he) 0 rfl hc k hk hlink hsame hv hdg kk
theorem dq_put (hexec : p.tables.exec = Jvm.exec) (hb : c.code = cc) {own ref C : String} {T : u_T} {N ci index : Nat} {Ts : List Cond} (hts : ∀ w ∈ Ts, w.before args s = true) (hin : ∀ w ∈ u_ws C T N, w ∈ Ts) (ty0 : Nat → FieldType) (hty : ∀ k, k < N → parseFieldDescriptor (T k).2.2.1 = some (ty0 k)) (hnm : ∀ a, a < N → ∀ b, b < N → a ≠ b → (T a).2.1 ≠ (T b).2.1) (hown : s.vm.findClass own = some m.cls) (hK : va_K D cl tys s) (hP : dq_W D cl ad w A H) (hS0 : va_S A H0 H locs) (r : Nat) {fs : List Value} (he : w r = some (.inr (ci, fs))) (hc : cl[ci]? = some (C, T, N)) (k : Nat) (hk : k < N) (hlink : (Cond.fieldLink own index ref (T k).2.1 (T k).2.2.1).before args s = true) (hsame : ∀ x, s.fieldFound? (T k).1 (T k).2.1 (T k).2.2.1 = some x → s.fieldFound? ref (T k).2.1 (T k).2.2.1 = some x) (hfin : (T k).2.2.2 = false) {ty : FieldType} {v : Value} (hd : parseFieldDescriptor (T k).2.2.1 = some ty) (hn : narrow ty v = v) (hfit : fits ty v = true) (hl : k < fs.length)
    (hdg : decode cc pc = .ok (.putfield index, 3)) (kk : ∀ (H1 : Heap) (locs1 : List Loc), dq_W D cl ad (dq_U w r (.inr (ci, fs.set k v))) A H1 → va_S A H0 H1 locs1 → W p l e R s m args below meth c H1 locs1 cells slots Q (F0 m (pc + 3) ls rest)) : W p l e R s m args below meth c H locs cells slots Q (F0 m pc ls (v :: .ref (ad r) :: rest)) := by
  have hap := va_apart (own := own) hts hin ty0 hty hnm hK hc
  obtain ⟨⟨r1, h1, cell, q1, q2, q3, q4⟩, hAr⟩ := hP.1 r _ he
  have hr : r1 = (C, T, N) := Option.some.inj (h1.symm.trans hc)
  subst hr
  obtain ⟨hS, hfc, kC, hkC, hkind⟩ := hK.1 ci _ hc
  obtain ⟨cf, kf, fi, f, hi, hsl⟩ := hS k hk
  have hlay := hts _ (hin _ (u_in_lay hk))
  unfold u_lay at hlay
  rw [if_neg (by rw [hfin]; decide)] at hlay
  have hst := (u_facts hfc hkC (u_lays hts hin hk) hi).1
  have h6 := u_store hfc hkC hkind hlay hi hd hn hfit
  refine W.putK hexec hb (f := f) ⟨hown, hlink, ⟨_, _, _, hsame _ hi⟩, hst⟩ (by rw [q2]; exact h6) q1 q3 (by rw [hsl]; exact k2_hasslot (q4 k hk)) rfl rfl hdg fun H' e1 e2 e3 => ?_
  rw [hsl] at e1 ⊢
  exact kk H' _ (hP.set he ⟨_, hc, t_OB.to (V := updV (vp_V fs) k v) ⟨_, e1, q2, q3, t_set q4 hap hk v⟩ (fun j _ => vp_updV_set hl v j)⟩ e3) (hS0.put e2 e3 hAr)
theorem dq_putF (hexec : p.tables.exec = Jvm.exec) (hb : c.code = cc) {own ref C : String} {T : u_T} {N ci index : Nat} {Ts : List Cond} (hts : ∀ w ∈ Ts, w.before args s = true) (hin : ∀ w ∈ u_ws C T N, w ∈ Ts) (ty0 : Nat → FieldType) (hty : ∀ k, k < N → parseFieldDescriptor (T k).2.2.1 = some (ty0 k)) (hnm : ∀ a, a < N → ∀ b, b < N → a ≠ b → (T a).2.1 ≠ (T b).2.1) (hown : s.vm.findClass own = some m.cls) (hK : va_K D cl tys s) (hP : dq_W D cl ad w A H) (hS0 : va_S A H0 H locs) (r : Nat) {fs : List Value} (he : w r = some (.inr (ci, fs))) (hc : cl[ci]? = some (C, T, N)) (k : Nat) (hk : k < N) (hlink : (Cond.fieldLink own index ref (T k).2.1 (T k).2.2.1).before args s = true) (hsame : ∀ x, s.fieldFound? (T k).1 (T k).2.1 (T k).2.2.1 = some x → s.fieldFound? ref (T k).2.1 (T k).2.2.1 = some x) (hfin : (T k).2.2.2 = true) (hin2 : meth.name = "<init>") (hdecl : (T k).1 = own) {ty : FieldType} {v : Value} (hd : parseFieldDescriptor (T k).2.2.1 = some ty) (hn : narrow ty v = v) (hfit : fits ty v = true) (hl : k < fs.length)
    (hdg : decode cc pc = .ok (.putfield index, 3)) (kk : ∀ (H1 : Heap) (locs1 : List Loc), dq_W D cl ad (dq_U w r (.inr (ci, fs.set k v))) A H1 → va_S A H0 H1 locs1 → W p l e R s m args below meth c H1 locs1 cells slots Q (F0 m (pc + 3) ls rest)) : W p l e R s m args below meth c H locs cells slots Q (F0 m pc ls (v :: .ref (ad r) :: rest)) := by
  have hap := va_apart (own := own) hts hin ty0 hty hnm hK hc
  obtain ⟨⟨r1, h1, cell, q1, q2, q3, q4⟩, hAr⟩ := hP.1 r _ he
  have hr : r1 = (C, T, N) := Option.some.inj (h1.symm.trans hc)
  subst hr
  obtain ⟨hS, hfc, kC, hkC, hkind⟩ := hK.1 ci _ hc
  obtain ⟨cf, kf, fi, f, hi, hsl⟩ := hS k hk
  have hlay := hts _ (hin _ (u_in_lay hk))
  unfold u_lay at hlay
  rw [if_pos hfin] at hlay
  have hst := (u_facts hfc hkC (u_lays hts hin hk) hi).1
  have hcf : m.cls = cf := by
    obtain ⟨_, _, c', _, _, _, -, -, hf', -, -, -, hown2, -⟩ := Cond.laysFinal_spec hlay
    have e1 : c' = cf := by have := hi.symm.trans hf'; simp at this; exact this.1.symm
    rw [hdecl] at hown2
    rw [← e1]; exact Option.some.inj (hown.symm.trans hown2)
  have h6 := u_fits hfc hkC hkind (Or.inr hlay) hi hd hn hfit
  refine W.putFinK hexec hb hown hlink (hsame _ hi) hst hcf hin2 (by rw [q2]; exact h6) q1 q3 (by rw [hsl]; exact k2_hasslot (q4 k hk)) rfl rfl hdg fun H' e1 e2 e3 => ?_
  rw [hsl] at e1 ⊢
  exact kk H' _ (hP.set he ⟨_, hc, t_OB.to (V := updV (vp_V fs) k v) ⟨_, e1, q2, q3, t_set q4 hap hk v⟩ (fun j _ => vp_updV_set hl v j)⟩ e3) (hS0.put e2 e3 hAr)
theorem dq_iald (hexec : p.tables.exec = Jvm.exec) (hb : c.code = cc) (hK : va_K D cl tys s) (hP : dq_W D cl ad w A H) (r t0 : Nat) {cA : ClassId} {n : Nat} {f : Nat → Int32} (ha : w r = some (.inl (cA, n, .inl f))) (ht : tys[t0]? = some (cA, .int)) {i : Int32} (hin : vp_in i n) (hdg : decode cc pc = .ok (.iaload, 1))
    (kk : W p l e R s m args below meth c H locs cells slots Q (F0 m (pc + 1) ls (.int (f i.toNatClampNeg) :: rest))) : W p l e R s m args below meth c H locs cells slots Q (F0 m pc ls (.int i :: .ref (ad r) :: rest)) :=
  va_iald (D := D) (cl := cl) (ws := [(ad r, .inl (cA, n, .inl f))]) hexec hb hK (hP.get ha) 0 t0 rfl ht hin hdg kk
theorem dq_zald (hexec : p.tables.exec = Jvm.exec) (hb : c.code = cc) (hK : va_K D cl tys s) (hP : dq_W D cl ad w A H) (r t0 : Nat) {cA : ClassId} {n : Nat} {f : Nat → Int32} (ha : w r = some (.inl (cA, n, .inl f))) (ht : tys[t0]? = some (cA, .boolean)) {i : Int32} (hin : vp_in i n) (hdg : decode cc pc = .ok (.baload, 1))
    (kk : W p l e R s m args below meth c H locs cells slots Q (F0 m (pc + 1) ls (.int (f i.toNatClampNeg) :: rest))) : W p l e R s m args below meth c H locs cells slots Q (F0 m pc ls (.int i :: .ref (ad r) :: rest)) :=
  va_zald (D := D) (cl := cl) (ws := [(ad r, .inl (cA, n, .inl f))]) hexec hb hK (hP.get ha) 0 t0 rfl ht hin hdg kk
theorem dq_lald (hexec : p.tables.exec = Jvm.exec) (hb : c.code = cc) (hK : va_K D cl tys s) (hP : dq_W D cl ad w A H) (r t0 : Nat) {cA : ClassId} {n : Nat} {f : Nat → Int64} (ha : w r = some (.inl (cA, n, .inr (.inl f)))) (ht : tys[t0]? = some (cA, .long)) {i : Int32} (hin : vp_in i n) (hdg : decode cc pc = .ok (.laload, 1))
    (kk : W p l e R s m args below meth c H locs cells slots Q (F0 m (pc + 1) ls (.long (f i.toNatClampNeg) :: rest))) : W p l e R s m args below meth c H locs cells slots Q (F0 m pc ls (.int i :: .ref (ad r) :: rest)) :=
  va_lald (D := D) (cl := cl) (ws := [(ad r, .inl (cA, n, .inr (.inl f)))]) hexec hb hK (hP.get ha) 0 t0 rfl ht hin hdg kk
theorem dq_aald (hexec : p.tables.exec = Jvm.exec) (hb : c.code = cc) (hK : va_K D cl tys s) (hP : dq_W D cl ad w A H) (r t0 : Nat) {cA : ClassId} {C : String} {n : Nat} {f : Nat → Option Nat} (ha : w r = some (.inl (cA, n, .inr (.inr (.inr (.inr f)))))) (ht : tys[t0]? = some (cA, .object C)) {i : Int32} (hin : vp_in i n) {a : Nat} (hf : f i.toNatClampNeg = some a) (hdg : decode cc pc = .ok (.aaload, 1))
    (kk : W p l e R s m args below meth c H locs cells slots Q (F0 m (pc + 1) ls (.ref a :: rest))) : W p l e R s m args below meth c H locs cells slots Q (F0 m pc ls (.int i :: .ref (ad r) :: rest)) :=
  va_aldq (D := D) (cl := cl) (ws := [(ad r, .inl (cA, n, .inr (.inr (.inr (.inr f)))))]) hexec hb hK (hP.get ha) 0 t0 rfl ht hin hdg (by rw [hf]; exact kk)
theorem dq_alen (hexec : p.tables.exec = Jvm.exec) (hb : c.code = cc) (hK : va_K D cl tys s) (hP : dq_W D cl ad w A H) (r t0 : Nat) {cA : ClassId} {x : vp_A} (ha : w r = some (.inl (cA, x))) {ty : FieldType} (ht : tys[t0]? = some (cA, ty)) {v : Int32} (hv : Int32.ofNat x.1 = v) (hdg : decode cc pc = .ok (.arraylength, 1))
    (kk : W p l e R s m args below meth c H locs cells slots Q (F0 m (pc + 1) ls (.int v :: rest))) : W p l e R s m args below meth c H locs cells slots Q (F0 m pc ls (.ref (ad r) :: rest)) :=
  va_alen (D := D) (cl := cl) (ws := [(ad r, .inl (cA, x))]) hexec hb hK (hP.get ha) 0 t0 rfl ht hv hdg kk
theorem dq_iast (hexec : p.tables.exec = Jvm.exec) (hb : c.code = cc) (hK : va_K D cl tys s) (hP : dq_W D cl ad w A H) (hS : va_S A H0 H locs) (r t0 : Nat) {cA : ClassId} {n : Nat} {f : Nat → Int32} (ha : w r = some (.inl (cA, n, .inl f))) (ht : tys[t0]? = some (cA, .int)) {i : Int32} {x : Int32} (hin : vp_in i n) (hdg : decode cc pc = .ok (.iastore, 1))
    (kk : ∀ (H1 : Heap) (locs1 : List Loc), dq_W D cl ad (dq_U w r (.inl (cA, n, .inl (upd f i.toNatClampNeg x)))) A H1 → va_S A H0 H1 locs1 → W p l e R s m args below meth c H1 locs1 cells slots Q (F0 m (pc + 1) ls rest)) : W p l e R s m args below meth c H locs cells slots Q (F0 m pc ls (.int x :: .int i :: .ref (ad r) :: rest)) := by
  refine W.iast hexec hb (hP.1 r _ ha).1 ((hK.2 t0 _ ht).1 n (fun j => .int (f j))) (fun q => by cases q) (by show ¬ (i < 0 ∨ (arrV _ _ _).slots.size ≤ _); rw [arrV_size]; exact hin) rfl rfl hdg fun H1 e z oq => ?_
  refine kk H1 _ (hP.set ha ?_ oq) (hS.put z oq (hP.1 r _ ha).2)
  show H1[ad r]? = some (vp_cell _ _)
  rw [e]
  rw [vp_cell_i, vp_cell_i, arrV_store]
  congr 2
  funext q
  by_cases hq : q = i.toNatClampNeg
  · subst hq
    simp [updV, upd]
  · simp [updV, upd, hq]
theorem dq_zast (hexec : p.tables.exec = Jvm.exec) (hb : c.code = cc) (hK : va_K D cl tys s) (hP : dq_W D cl ad w A H) (hS : va_S A H0 H locs) (r t0 : Nat) {cA : ClassId} {n : Nat} {f : Nat → Int32} (ha : w r = some (.inl (cA, n, .inl f))) (ht : tys[t0]? = some (cA, .boolean)) {i : Int32} {x : Int32} (hin : vp_in i n) (hdg : decode cc pc = .ok (.bastore, 1))
    (kk : ∀ (H1 : Heap) (locs1 : List Loc), dq_W D cl ad (dq_U w r (.inl (cA, n, .inl (upd f i.toNatClampNeg (vp_nar .boolean x))))) A H1 → va_S A H0 H1 locs1 → W p l e R s m args below meth c H1 locs1 cells slots Q (F0 m (pc + 1) ls rest)) : W p l e R s m args below meth c H locs cells slots Q (F0 m pc ls (.int x :: .int i :: .ref (ad r) :: rest)) := by
  refine W.zast hexec hb (hP.1 r _ ha).1 ((hK.2 t0 _ ht).1 n (fun j => .int (f j))) (fun q => by cases q) (by show ¬ (i < 0 ∨ (arrV _ _ _).slots.size ≤ _); rw [arrV_size]; exact hin) rfl rfl hdg fun H1 e z oq => ?_
  refine kk H1 _ (hP.set ha ?_ oq) (hS.put z oq (hP.1 r _ ha).2)
  show H1[ad r]? = some (vp_cell _ _)
  rw [e]
  rw [vp_cell_i, vp_cell_i, arrV_store]
  congr 2
  funext q
  by_cases hq : q = i.toNatClampNeg
  · subst hq
    simp [updV, upd, vp_nar]
    try rfl
  · simp [updV, upd, hq]
theorem dq_last (hexec : p.tables.exec = Jvm.exec) (hb : c.code = cc) (hK : va_K D cl tys s) (hP : dq_W D cl ad w A H) (hS : va_S A H0 H locs) (r t0 : Nat) {cA : ClassId} {n : Nat} {f : Nat → Int64} (ha : w r = some (.inl (cA, n, .inr (.inl f)))) (ht : tys[t0]? = some (cA, .long)) {i : Int32} {x : Int64} (hin : vp_in i n) (hdg : decode cc pc = .ok (.lastore, 1))
    (kk : ∀ (H1 : Heap) (locs1 : List Loc), dq_W D cl ad (dq_U w r (.inl (cA, n, .inr (.inl (vp_updL f i.toNatClampNeg x))))) A H1 → va_S A H0 H1 locs1 → W p l e R s m args below meth c H1 locs1 cells slots Q (F0 m (pc + 1) ls rest)) : W p l e R s m args below meth c H locs cells slots Q (F0 m pc ls (.long x :: .int i :: .ref (ad r) :: rest)) := by
  refine W.last hexec hb (hP.1 r _ ha).1 ((hK.2 t0 _ ht).1 n (fun j => .long (f j))) (fun q => by cases q) (by show ¬ (i < 0 ∨ (arrV _ _ _).slots.size ≤ _); rw [arrV_size]; exact hin) rfl rfl hdg fun H1 e z oq => ?_
  refine kk H1 _ (hP.set ha ?_ oq) (hS.put z oq (hP.1 r _ ha).2)
  show H1[ad r]? = some (vp_cell _ _)
  rw [e]
  rw [vp_cell_l, vp_cell_l, arrV_store]
  congr 2
  funext q
  by_cases hq : q = i.toNatClampNeg
  · subst hq
    simp [updV, vp_updL]
  · simp [updV, vp_updL, hq]
theorem dq_newi (hexec : p.tables.exec = Jvm.exec) (hb : c.code = cc) (harr : (Cond.arrayClass (newarray.typeOf .int)).before args s = true) (hK : va_K D cl tys s) (hP : dq_W D cl ad w A H) (hS : va_S A H0 H locs) (hA : ∀ q, H0.size ≤ q → A q) (r t0 : Nat) {cA : ClassId} (ht : tys[t0]? = some (cA, .int))
    {n : Int32} {N : Nat} (hn : ¬ n < 0) (hN : n.toNatClampNeg = N) (hbytes : N * 4 ≤ 536870912) (hcells : cells + 1 ≤ R.cells) (hslots : slots + N ≤ R.slots) (hdg : decode cc pc = .ok (.newarray .int, 2))
    (kk : ∀ (q : Nat) (H1 : Heap), dq_W D cl (va_up ad r q) (dq_U w r (.inl (cA, N, .inl (fun _ => 0)))) A H1 → va_S A H0 H1 locs → W p l e R s m args below meth c H1 locs (cells + 1) (slots + N) Q (F0 m (pc + 2) ls (.ref q :: rest))) : W p l e R s m args below meth c H locs cells slots Q (F0 m pc ls (.int n :: rest)) := by
  refine va_newaK hexec hb harr rfl hdg rfl hn hN hbytes hcells hslots rfl fun H1 cB e1 z1 o1 hAr hNm => ?_
  have hcB : cB = cA := Option.some.inj (hNm.symm.trans (hK.2 t0 _ ht).2)
  subst hcB
  exact kk H.size H1 (hP.push rfl (hA _ hS.1) e1 o1) ⟨Nat.le_trans hS.1 (by omega), fun x h1 h2 => (o1 x (Nat.lt_of_lt_of_le h1 hS.1)).trans (hS.2.1 x h1 h2), hS.2.2⟩
theorem dq_newz (hexec : p.tables.exec = Jvm.exec) (hb : c.code = cc) (harr : (Cond.arrayClass (newarray.typeOf .boolean)).before args s = true) (hK : va_K D cl tys s) (hP : dq_W D cl ad w A H) (hS : va_S A H0 H locs) (hA : ∀ q, H0.size ≤ q → A q) (r t0 : Nat) {cA : ClassId} (ht : tys[t0]? = some (cA, .boolean))
    {n : Int32} {N : Nat} (hn : ¬ n < 0) (hN : n.toNatClampNeg = N) (hbytes : N * 1 ≤ 536870912) (hcells : cells + 1 ≤ R.cells) (hslots : slots + N ≤ R.slots) (hdg : decode cc pc = .ok (.newarray .boolean, 2))
    (kk : ∀ (q : Nat) (H1 : Heap), dq_W D cl (va_up ad r q) (dq_U w r (.inl (cA, N, .inl (fun _ => 0)))) A H1 → va_S A H0 H1 locs → W p l e R s m args below meth c H1 locs (cells + 1) (slots + N) Q (F0 m (pc + 2) ls (.ref q :: rest))) : W p l e R s m args below meth c H locs cells slots Q (F0 m pc ls (.int n :: rest)) := by
  refine va_newaK hexec hb harr rfl hdg rfl hn hN hbytes hcells hslots rfl fun H1 cB e1 z1 o1 hAr hNm => ?_
  have hcB : cB = cA := Option.some.inj (hNm.symm.trans (hK.2 t0 _ ht).2)
  subst hcB
  exact kk H.size H1 (hP.push rfl (hA _ hS.1) e1 o1) ⟨Nat.le_trans hS.1 (by omega), fun x h1 h2 => (o1 x (Nat.lt_of_lt_of_le h1 hS.1)).trans (hS.2.1 x h1 h2), hS.2.2⟩
theorem dq_newl (hexec : p.tables.exec = Jvm.exec) (hb : c.code = cc) (harr : (Cond.arrayClass (newarray.typeOf .long)).before args s = true) (hK : va_K D cl tys s) (hP : dq_W D cl ad w A H) (hS : va_S A H0 H locs) (hA : ∀ q, H0.size ≤ q → A q) (r t0 : Nat) {cA : ClassId} (ht : tys[t0]? = some (cA, .long))
    {n : Int32} {N : Nat} (hn : ¬ n < 0) (hN : n.toNatClampNeg = N) (hbytes : N * 8 ≤ 536870912) (hcells : cells + 1 ≤ R.cells) (hslots : slots + N ≤ R.slots) (hdg : decode cc pc = .ok (.newarray .long, 2))
    (kk : ∀ (q : Nat) (H1 : Heap), dq_W D cl (va_up ad r q) (dq_U w r (.inl (cA, N, .inr (.inl (fun _ => 0))))) A H1 → va_S A H0 H1 locs → W p l e R s m args below meth c H1 locs (cells + 1) (slots + N) Q (F0 m (pc + 2) ls (.ref q :: rest))) : W p l e R s m args below meth c H locs cells slots Q (F0 m pc ls (.int n :: rest)) := by
  refine va_newaK hexec hb harr rfl hdg rfl hn hN hbytes hcells hslots rfl fun H1 cB e1 z1 o1 hAr hNm => ?_
  have hcB : cB = cA := Option.some.inj (hNm.symm.trans (hK.2 t0 _ ht).2)
  subst hcB
  exact kk H.size H1 (hP.push rfl (hA _ hS.1) e1 o1) ⟨Nat.le_trans hS.1 (by omega), fun x h1 h2 => (o1 x (Nat.lt_of_lt_of_le h1 hS.1)).trans (hS.2.1 x h1 h2), hS.2.2⟩
theorem dq_new (hexec : p.tables.exec = Jvm.exec) (hb : c.code = cc) {own C : String} {T : u_T} {N ci index : Nat} {Ts : List Cond} (hts : ∀ w ∈ Ts, w.before args s = true) (hin : ∀ w ∈ u_ws C T N, w ∈ Ts) (ty : Nat → FieldType) (hty : ∀ k, k < N → parseFieldDescriptor (T k).2.2.1 = some (ty k)) (hown : s.vm.findClass own = some m.cls) (hcl : (Cond.classLink own index C).before args s = true) (hinst : (Cond.instantiable C N).before args s = true) (hini : (Cond.initialized C).before args s = true)
    (hK : va_K D cl tys s) (hP : dq_W D cl ad w A H) (hS : va_S A H0 H locs) (hA : ∀ q, H0.size ≤ q → A q) (r : Nat) (hc : cl[ci]? = some (C, T, N)) {fs : List Value} (hfs : ∀ j, j < N → defaultValue (ty j) = vp_V fs j) (hcells : cells + 1 ≤ R.cells) (hslots : slots + N ≤ R.slots) (hdg : decode cc pc = .ok (.new index, 3))
    (kk : ∀ (q : Nat) (H1 : Heap), dq_W D cl (va_up ad r q) (dq_U w r (.inr (ci, fs))) A H1 → va_S A H0 H1 locs → W p l e R s m args below meth c H1 locs (cells + 1) (slots + N) Q (F0 m (pc + 3) ls (.ref q :: rest))) : W p l e R s m args below meth c H locs cells slots Q (F0 m pc ls rest) := by
  have hKn := hK.1 ci _ hc
  refine W.newcK hexec hb hown hcl hinst hini rfl hdg hcells hslots hKn.2.1 rfl fun H1 kC hkC e1 z1 o1 => ?_
  refine kk H.size H1 (hP.push rfl (hA _ hS.1) ?_ o1) ⟨Nat.le_trans hS.1 (by omega), fun x h1 h2 => (o1 x (Nat.lt_of_lt_of_le h1 hS.1)).trans (hS.2.1 x h1 h2), hS.2.2⟩
  exact ⟨_, hc, (u_born ty hts hin hKn hkC e1 hty).to hfs⟩
theorem dq_ialdN (hexec : p.tables.exec = Jvm.exec) (hb : c.code = cc) (hK : va_K D cl tys s) (hP : dq_W D cl ad w A H) (r t0 : Nat) {cA : ClassId} {n : Nat} {f : Nat → Int32} (ha : w r = some (.inl (cA, n, .inl f))) (ht : tys[t0]? = some (cA, .int)) (k : Nat) (hk : k < n) (hn : n < 2 ^ 31) (hdg : decode cc pc = .ok (.iaload, 1))
    (kk : W p l e R s m args below meth c H locs cells slots Q (F0 m (pc + 1) ls (.int (f k) :: rest))) : W p l e R s m args below meth c H locs cells slots Q (F0 m pc ls (.int (nI k) :: .ref (ad r) :: rest)) :=
  dq_iald hexec hb hK hP r t0 ha ht (vp_in_nI hk hn) hdg (by rw [nI_clamp (Nat.lt_trans hk hn)]; exact kk)
theorem dq_zaldN (hexec : p.tables.exec = Jvm.exec) (hb : c.code = cc) (hK : va_K D cl tys s) (hP : dq_W D cl ad w A H) (r t0 : Nat) {cA : ClassId} {n : Nat} {f : Nat → Int32} (ha : w r = some (.inl (cA, n, .inl f))) (ht : tys[t0]? = some (cA, .boolean)) (k : Nat) (hk : k < n) (hn : n < 2 ^ 31) (hdg : decode cc pc = .ok (.baload, 1))
    (kk : W p l e R s m args below meth c H locs cells slots Q (F0 m (pc + 1) ls (.int (f k) :: rest))) : W p l e R s m args below meth c H locs cells slots Q (F0 m pc ls (.int (nI k) :: .ref (ad r) :: rest)) :=
  dq_zald hexec hb hK hP r t0 ha ht (vp_in_nI hk hn) hdg (by rw [nI_clamp (Nat.lt_trans hk hn)]; exact kk)
theorem dq_laldN (hexec : p.tables.exec = Jvm.exec) (hb : c.code = cc) (hK : va_K D cl tys s) (hP : dq_W D cl ad w A H) (r t0 : Nat) {cA : ClassId} {n : Nat} {f : Nat → Int64} (ha : w r = some (.inl (cA, n, .inr (.inl f)))) (ht : tys[t0]? = some (cA, .long)) (k : Nat) (hk : k < n) (hn : n < 2 ^ 31) (hdg : decode cc pc = .ok (.laload, 1))
    (kk : W p l e R s m args below meth c H locs cells slots Q (F0 m (pc + 1) ls (.long (f k) :: rest))) : W p l e R s m args below meth c H locs cells slots Q (F0 m pc ls (.int (nI k) :: .ref (ad r) :: rest)) :=
  dq_lald hexec hb hK hP r t0 ha ht (vp_in_nI hk hn) hdg (by rw [nI_clamp (Nat.lt_trans hk hn)]; exact kk)
theorem dq_iastN (hexec : p.tables.exec = Jvm.exec) (hb : c.code = cc) (hK : va_K D cl tys s) (hP : dq_W D cl ad w A H) (hS : va_S A H0 H locs) (r t0 : Nat) {cA : ClassId} {n : Nat} {f : Nat → Int32} (ha : w r = some (.inl (cA, n, .inl f))) (ht : tys[t0]? = some (cA, .int)) (k : Nat) {x : Int32} (hk : k < n) (hn : n < 2 ^ 31) (hdg : decode cc pc = .ok (.iastore, 1))
    (kk : ∀ (H1 : Heap) (locs1 : List Loc), dq_W D cl ad (dq_U w r (.inl (cA, n, .inl (upd f k x)))) A H1 → va_S A H0 H1 locs1 → W p l e R s m args below meth c H1 locs1 cells slots Q (F0 m (pc + 1) ls rest)) : W p l e R s m args below meth c H locs cells slots Q (F0 m pc ls (.int x :: .int (nI k) :: .ref (ad r) :: rest)) :=
  dq_iast hexec hb hK hP hS r t0 ha ht (vp_in_nI hk hn) hdg (by rw [nI_clamp (Nat.lt_trans hk hn)]; exact kk)
theorem dq_zastN (hexec : p.tables.exec = Jvm.exec) (hb : c.code = cc) (hK : va_K D cl tys s) (hP : dq_W D cl ad w A H) (hS : va_S A H0 H locs) (r t0 : Nat) {cA : ClassId} {n : Nat} {f : Nat → Int32} (ha : w r = some (.inl (cA, n, .inl f))) (ht : tys[t0]? = some (cA, .boolean)) (k : Nat) {x : Int32} (hk : k < n) (hn : n < 2 ^ 31) (hdg : decode cc pc = .ok (.bastore, 1))
    (kk : ∀ (H1 : Heap) (locs1 : List Loc), dq_W D cl ad (dq_U w r (.inl (cA, n, .inl (upd f k (vp_nar .boolean x))))) A H1 → va_S A H0 H1 locs1 → W p l e R s m args below meth c H1 locs1 cells slots Q (F0 m (pc + 1) ls rest)) : W p l e R s m args below meth c H locs cells slots Q (F0 m pc ls (.int x :: .int (nI k) :: .ref (ad r) :: rest)) :=
  dq_zast hexec hb hK hP hS r t0 ha ht (vp_in_nI hk hn) hdg (by rw [nI_clamp (Nat.lt_trans hk hn)]; exact kk)
theorem dq_lastN (hexec : p.tables.exec = Jvm.exec) (hb : c.code = cc) (hK : va_K D cl tys s) (hP : dq_W D cl ad w A H) (hS : va_S A H0 H locs) (r t0 : Nat) {cA : ClassId} {n : Nat} {f : Nat → Int64} (ha : w r = some (.inl (cA, n, .inr (.inl f)))) (ht : tys[t0]? = some (cA, .long)) (k : Nat) {x : Int64} (hk : k < n) (hn : n < 2 ^ 31) (hdg : decode cc pc = .ok (.lastore, 1))
    (kk : ∀ (H1 : Heap) (locs1 : List Loc), dq_W D cl ad (dq_U w r (.inl (cA, n, .inr (.inl (vp_updL f k x))))) A H1 → va_S A H0 H1 locs1 → W p l e R s m args below meth c H1 locs1 cells slots Q (F0 m (pc + 1) ls rest)) : W p l e R s m args below meth c H locs cells slots Q (F0 m pc ls (.long x :: .int (nI k) :: .ref (ad r) :: rest)) :=
  dq_last hexec hb hK hP hS r t0 ha ht (vp_in_nI hk hn) hdg (by rw [nI_clamp (Nat.lt_trans hk hn)]; exact kk)
theorem dq_aaldN (hexec : p.tables.exec = Jvm.exec) (hb : c.code = cc) (hK : va_K D cl tys s) (hP : dq_W D cl ad w A H) (r t0 : Nat) {cA : ClassId} {C : String} {n : Nat} {f : Nat → Option Nat} (ha : w r = some (.inl (cA, n, .inr (.inr (.inr (.inr f)))))) (ht : tys[t0]? = some (cA, .object C)) (k : Nat) (hk : k < n) (hn : n < 2 ^ 31) {a : Nat} (hf : f k = some a) (hdg : decode cc pc = .ok (.aaload, 1))
    (kk : W p l e R s m args below meth c H locs cells slots Q (F0 m (pc + 1) ls (.ref a :: rest))) : W p l e R s m args below meth c H locs cells slots Q (F0 m pc ls (.int (nI k) :: .ref (ad r) :: rest)) :=
  dq_aald hexec hb hK hP r t0 ha ht (vp_in_nI hk hn) (by rw [nI_clamp (Nat.lt_trans hk hn)]; exact hf) hdg kk
end DQ
theorem dq_UU {w : Nat → Option va_E} {r : Nat} {e e' : va_E} : dq_U (dq_U w r e) r e' = dq_U w r e' := by
  funext j
  by_cases h : j = r <;> simp [dq_U, h]
theorem dq_Wc {D : va_G} {cl : List vw_C} {ad : Nat → Nat} {w w' : Nat → Option va_E} {A : Nat → Prop} {H : Heap} (h : w = w') (hW : dq_W D cl ad w A H) : dq_W D cl ad w' A H := h ▸ hW
end
section
/-- where a static field lies, its class's statics cell in H, no cell of A -/
def dx_L (C n d : String) (A : Nat → Prop) (U : State) (H : Heap) : Prop := ∃ (c : ClassId) (k : Class) (i : Nat) (f : Field) (a : Nat) (cell : Cell), U.vm.findClass C = some c ∧ U.fieldFound? C n d = some (c, k, i, f) ∧ f.isStatic = true ∧ k.statics = some a ∧ H[a]? = some cell ∧ cell.vm.isStatics = true ∧ cell.cls = c ∧ f.slot < cell.slots.size ∧ k.staticTypes[f.slot]? = some f.type ∧ ¬ A a
theorem dx_L.go {C n d : String} {A B : Nat → Prop} {U U' : State} {H H' : Heap} (h : dx_L C n d A U H) (hBA : ∀ q, B q → A q) (hk : ∀ a : Nat, a < H.size → ¬ A a → H'[a]? = H[a]?) (hw : U.WarmedH U'.vm) : dx_L C n d B U' H' := by
  obtain ⟨c, k, i, f, a, cell, h1, h2, h3, h4, h5, h6, h7, h8, h9, hA⟩ := h
  obtain ⟨k', g2, ek⟩ := State.fieldFound?_setVm hw.alike h2
  refine ⟨c, k', i, f, a, cell, ?_, g2, h3, ?_, ?_, h6, h7, h8, ?_, fun z => hA (hBA _ z)⟩
  · rw [hw.alike.findClass]; exact h1
  · rw [ek]; exact h4
  · rw [hk a (Array.getElem?_eq_some_iff.mp h5).1 hA]; exact h5
  · rw [ek]; exact h9
theorem dx_L.word {C n d : String} {A : Nat → Prop} {s : State} {args : Array Value} (h : dx_L C n d A s s.heap) : (Cond.laysStatic C n d).before args s = true := by
  obtain ⟨c, k, i, f, a, cell, h1, h2, h3, h4, h5, h6, h7, h8, h9, -⟩ := h
  exact Cond.laysStatic_of (args := args) (first := s) (o := none) (idx := []) h1 h2 h3 h4 h5 h6 h7 h8 h9
theorem dx_ref {C n d : String} {A : Nat → Prop} {s : State} {args : Array Value} (h : va_Zq C n d A s s.heap) : (Cond.isRef (.static C n d)).before args s = true := by
  rcases h with ⟨cf, kf, fi, f, a, cell, h1, h2, h3, h4, h5, h6, h7, -⟩ | ⟨t, cf, kf, fi, f, a, cell, h1, h2, h3, h4, h5, h6, h7, -⟩
  · simp [Cond.before, Cond.holds, Cond.value, Term.eval, State.fieldNamed?, h1, h2, h4, h5, h6, h7, Value.isRef]
  · simp [Cond.before, Cond.holds, Cond.value, Term.eval, State.fieldNamed?, h1, h2, h4, h5, h6, h7, Value.isRef]
/-- what of the start stays true for every call: links between mates of the nest, what a throw and a catch need -/
def dq_Z (A : Nat → Prop) (U : State) (H : Heap) : Prop := va_Nw (.methodLinkNest RDH 29 yPt_init RDH) U ∧ va_Nw (.methodLinkNest RDH 36 yCl_init RDH) U ∧ va_Nw (.methodLinkNest RDH 47 yPl_init RDH) U ∧ va_Nw (.methodLinkNest RDH 50 yHt_init RDH) U ∧ va_Nw (.methodLinkNest RDH 57 yTb_init RDH) U ∧ va_Nw (.methodLinkNest RDH 64 yWy_init RDH) U ∧ va_Nw (.methodLinkNest RTb 19 yDH_leastOf RDH) U ∧ va_Nw (.methodLinkNest RWy 37 yDH_holds RDH) U ∧ va_Nw (.methodLinkNest RWy 55 yDH_without RDH) U ∧ va_Nw (.methodLinkNest RHt 28 yDH_holds RDH) U ∧ va_Nw (.castable "java/lang/IndexOutOfBoundsException" "java/lang/IndexOutOfBoundsException") U ∧ va_Nw (.castable "java/lang/IllegalArgumentException" "java/lang/IllegalArgumentException") U ∧ va_Nw (.castable "java/lang/IllegalStateException" "java/lang/IllegalStateException") U ∧ va_Nw (.declares (Bundle.initS "java/lang/RuntimeException")) U ∧ va_Nw (.declares (Bundle.initS "java/lang/Exception")) U ∧ va_Nw (.declares (Bundle.initS "java/lang/Throwable")) U ∧ va_Nc "java/lang/IllegalArgumentException" "java/lang/IndexOutOfBoundsException" U ∧ va_Nc "java/lang/IllegalArgumentException" "java/lang/IllegalStateException" U ∧ va_Nc "java/lang/IndexOutOfBoundsException" "java/lang/IllegalStateException" U ∧ va_Zq Bundle.tN "UNASSIGNED_STACK" Bundle.steD A U H ∧ dx_L Bundle.tN "UNASSIGNED_STACK" Bundle.steD A U H ∧ va_Zq Bundle.tN "SUPPRESSED_SENTINEL" Bundle.listD A U H ∧ dx_L Bundle.tN "SUPPRESSED_SENTINEL" Bundle.listD A U H ∧ (∃ sa : Nat, vk_R RDH 75 "there is no such spindle" sa U) ∧ (∃ sa : Nat, vk_R RDH 225 "a number is out of its range" sa U) ∧ (∃ sa : Nat, vk_R RDH 102 "there is no room for a hole more" sa U) ∧ (∃ sa : Nat, vk_R RDH 221 "there is no such hole" sa U) ∧ (∃ sa : Nat, vk_R RDH 219 "it was not planned since something was told" sa U) ∧ (∃ sa : Nat, vk_R RDH 223 "there is no such hit" sa U) ∧ (∃ sa : Nat, vk_R RDH 157 "a hit has nothing of that number" sa U)
theorem dq_Z.go {A B : Nat → Prop} {U U' : State} {H H' : Heap} (h : dq_Z A U H) (hBA : ∀ q, B q → A q) (hk : ∀ a : Nat, a < H.size → ¬ A a → H'[a]? = H[a]?) (hw : U.WarmedH U'.vm) : dq_Z B U' H' := by
  obtain ⟨h_n0, h_n1, h_n2, h_n3, h_n4, h_n5, h_n6, h_n7, h_n8, h_n9, h_c0, h_c1, h_c2, h_d0, h_d1, h_d2, h_x0, h_x1, h_x2, h_q0, h_l0, h_q1, h_l1, h_s75, h_s225, h_s102, h_s221, h_s219, h_s223, h_s157⟩ := h
  refine ⟨?_, ?_, ?_, ?_, ?_, ?_, ?_, ?_, ?_, ?_, ?_, ?_, ?_, ?_, ?_, ?_, ?_, ?_, ?_, ?_, ?_, ?_, ?_, ?_, ?_, ?_, ?_, ?_, ?_, ?_⟩
  · exact va_Nw.warmM hw h_n0
  · exact va_Nw.warmM hw h_n1
  · exact va_Nw.warmM hw h_n2
  · exact va_Nw.warmM hw h_n3
  · exact va_Nw.warmM hw h_n4
  · exact va_Nw.warmM hw h_n5
  · exact va_Nw.warmM hw h_n6
  · exact va_Nw.warmM hw h_n7
  · exact va_Nw.warmM hw h_n8
  · exact va_Nw.warmM hw h_n9
  · exact va_Nw.warmC hw h_c0
  · exact va_Nw.warmC hw h_c1
  · exact va_Nw.warmC hw h_c2
  · exact va_Nw.warmD hw h_d0
  · exact va_Nw.warmD hw h_d1
  · exact va_Nw.warmD hw h_d2
  · exact va_Nc.moved hw.alike h_x0
  · exact va_Nc.moved hw.alike h_x1
  · exact va_Nc.moved hw.alike h_x2
  · exact va_Zq.narrow (va_Zq.kept (va_Zq.moved hw.alike h_q0) hk) hBA
  · exact dx_L.go h_l0 hBA hk hw
  · exact va_Zq.narrow (va_Zq.kept (va_Zq.moved hw.alike h_q1) hk) hBA
  · exact dx_L.go h_l1 hBA hk hw
  · obtain ⟨sa, h9⟩ := h_s75; exact ⟨sa, vk_R.warm hw h9⟩
  · obtain ⟨sa, h9⟩ := h_s225; exact ⟨sa, vk_R.warm hw h9⟩
  · obtain ⟨sa, h9⟩ := h_s102; exact ⟨sa, vk_R.warm hw h9⟩
  · obtain ⟨sa, h9⟩ := h_s221; exact ⟨sa, vk_R.warm hw h9⟩
  · obtain ⟨sa, h9⟩ := h_s219; exact ⟨sa, vk_R.warm hw h9⟩
  · obtain ⟨sa, h9⟩ := h_s223; exact ⟨sa, vk_R.warm hw h9⟩
  · obtain ⟨sa, h9⟩ := h_s157; exact ⟨sa, vk_R.warm hw h9⟩
theorem dq_Z.n0 {A : Nat → Prop} {U : State} {H : Heap} (h : dq_Z A U H) : va_Nw (.methodLinkNest RDH 29 yPt_init RDH) U := h.1
theorem dq_Z.n1 {A : Nat → Prop} {U : State} {H : Heap} (h : dq_Z A U H) : va_Nw (.methodLinkNest RDH 36 yCl_init RDH) U := h.2.1
theorem dq_Z.n2 {A : Nat → Prop} {U : State} {H : Heap} (h : dq_Z A U H) : va_Nw (.methodLinkNest RDH 47 yPl_init RDH) U := h.2.2.1
theorem dq_Z.n3 {A : Nat → Prop} {U : State} {H : Heap} (h : dq_Z A U H) : va_Nw (.methodLinkNest RDH 50 yHt_init RDH) U := h.2.2.2.1
theorem dq_Z.n4 {A : Nat → Prop} {U : State} {H : Heap} (h : dq_Z A U H) : va_Nw (.methodLinkNest RDH 57 yTb_init RDH) U := h.2.2.2.2.1
theorem dq_Z.n5 {A : Nat → Prop} {U : State} {H : Heap} (h : dq_Z A U H) : va_Nw (.methodLinkNest RDH 64 yWy_init RDH) U := h.2.2.2.2.2.1
theorem dq_Z.n6 {A : Nat → Prop} {U : State} {H : Heap} (h : dq_Z A U H) : va_Nw (.methodLinkNest RTb 19 yDH_leastOf RDH) U := h.2.2.2.2.2.2.1
theorem dq_Z.n7 {A : Nat → Prop} {U : State} {H : Heap} (h : dq_Z A U H) : va_Nw (.methodLinkNest RWy 37 yDH_holds RDH) U := h.2.2.2.2.2.2.2.1
theorem dq_Z.n8 {A : Nat → Prop} {U : State} {H : Heap} (h : dq_Z A U H) : va_Nw (.methodLinkNest RWy 55 yDH_without RDH) U := h.2.2.2.2.2.2.2.2.1
theorem dq_Z.n9 {A : Nat → Prop} {U : State} {H : Heap} (h : dq_Z A U H) : va_Nw (.methodLinkNest RHt 28 yDH_holds RDH) U := h.2.2.2.2.2.2.2.2.2.1
theorem dq_Z.c0 {A : Nat → Prop} {U : State} {H : Heap} (h : dq_Z A U H) : va_Nw (.castable "java/lang/IndexOutOfBoundsException" "java/lang/IndexOutOfBoundsException") U := h.2.2.2.2.2.2.2.2.2.2.1
theorem dq_Z.c1 {A : Nat → Prop} {U : State} {H : Heap} (h : dq_Z A U H) : va_Nw (.castable "java/lang/IllegalArgumentException" "java/lang/IllegalArgumentException") U := h.2.2.2.2.2.2.2.2.2.2.2.1
theorem dq_Z.c2 {A : Nat → Prop} {U : State} {H : Heap} (h : dq_Z A U H) : va_Nw (.castable "java/lang/IllegalStateException" "java/lang/IllegalStateException") U := h.2.2.2.2.2.2.2.2.2.2.2.2.1
theorem dq_Z.d0 {A : Nat → Prop} {U : State} {H : Heap} (h : dq_Z A U H) : va_Nw (.declares (Bundle.initS "java/lang/RuntimeException")) U := h.2.2.2.2.2.2.2.2.2.2.2.2.2.1
theorem dq_Z.d1 {A : Nat → Prop} {U : State} {H : Heap} (h : dq_Z A U H) : va_Nw (.declares (Bundle.initS "java/lang/Exception")) U := h.2.2.2.2.2.2.2.2.2.2.2.2.2.2.1
theorem dq_Z.d2 {A : Nat → Prop} {U : State} {H : Heap} (h : dq_Z A U H) : va_Nw (.declares (Bundle.initS "java/lang/Throwable")) U := h.2.2.2.2.2.2.2.2.2.2.2.2.2.2.2.1
theorem dq_Z.x0 {A : Nat → Prop} {U : State} {H : Heap} (h : dq_Z A U H) : va_Nc "java/lang/IllegalArgumentException" "java/lang/IndexOutOfBoundsException" U := h.2.2.2.2.2.2.2.2.2.2.2.2.2.2.2.2.1
theorem dq_Z.x1 {A : Nat → Prop} {U : State} {H : Heap} (h : dq_Z A U H) : va_Nc "java/lang/IllegalArgumentException" "java/lang/IllegalStateException" U := h.2.2.2.2.2.2.2.2.2.2.2.2.2.2.2.2.2.1
theorem dq_Z.x2 {A : Nat → Prop} {U : State} {H : Heap} (h : dq_Z A U H) : va_Nc "java/lang/IndexOutOfBoundsException" "java/lang/IllegalStateException" U := h.2.2.2.2.2.2.2.2.2.2.2.2.2.2.2.2.2.2.1
theorem dq_Z.q0 {A : Nat → Prop} {U : State} {H : Heap} (h : dq_Z A U H) : va_Zq Bundle.tN "UNASSIGNED_STACK" Bundle.steD A U H := h.2.2.2.2.2.2.2.2.2.2.2.2.2.2.2.2.2.2.2.1
theorem dq_Z.l0 {A : Nat → Prop} {U : State} {H : Heap} (h : dq_Z A U H) : dx_L Bundle.tN "UNASSIGNED_STACK" Bundle.steD A U H := h.2.2.2.2.2.2.2.2.2.2.2.2.2.2.2.2.2.2.2.2.1
theorem dq_Z.q1 {A : Nat → Prop} {U : State} {H : Heap} (h : dq_Z A U H) : va_Zq Bundle.tN "SUPPRESSED_SENTINEL" Bundle.listD A U H := h.2.2.2.2.2.2.2.2.2.2.2.2.2.2.2.2.2.2.2.2.2.1
theorem dq_Z.l1 {A : Nat → Prop} {U : State} {H : Heap} (h : dq_Z A U H) : dx_L Bundle.tN "SUPPRESSED_SENTINEL" Bundle.listD A U H := h.2.2.2.2.2.2.2.2.2.2.2.2.2.2.2.2.2.2.2.2.2.2.1
theorem dq_Z.s75 {A : Nat → Prop} {U : State} {H : Heap} (h : dq_Z A U H) : (∃ sa : Nat, vk_R RDH 75 "there is no such spindle" sa U) := h.2.2.2.2.2.2.2.2.2.2.2.2.2.2.2.2.2.2.2.2.2.2.2.1
theorem dq_Z.s225 {A : Nat → Prop} {U : State} {H : Heap} (h : dq_Z A U H) : (∃ sa : Nat, vk_R RDH 225 "a number is out of its range" sa U) := h.2.2.2.2.2.2.2.2.2.2.2.2.2.2.2.2.2.2.2.2.2.2.2.2.1
theorem dq_Z.s102 {A : Nat → Prop} {U : State} {H : Heap} (h : dq_Z A U H) : (∃ sa : Nat, vk_R RDH 102 "there is no room for a hole more" sa U) := h.2.2.2.2.2.2.2.2.2.2.2.2.2.2.2.2.2.2.2.2.2.2.2.2.2.1
theorem dq_Z.s221 {A : Nat → Prop} {U : State} {H : Heap} (h : dq_Z A U H) : (∃ sa : Nat, vk_R RDH 221 "there is no such hole" sa U) := h.2.2.2.2.2.2.2.2.2.2.2.2.2.2.2.2.2.2.2.2.2.2.2.2.2.2.1
theorem dq_Z.s219 {A : Nat → Prop} {U : State} {H : Heap} (h : dq_Z A U H) : (∃ sa : Nat, vk_R RDH 219 "it was not planned since something was told" sa U) := h.2.2.2.2.2.2.2.2.2.2.2.2.2.2.2.2.2.2.2.2.2.2.2.2.2.2.2.1
theorem dq_Z.s223 {A : Nat → Prop} {U : State} {H : Heap} (h : dq_Z A U H) : (∃ sa : Nat, vk_R RDH 223 "there is no such hit" sa U) := h.2.2.2.2.2.2.2.2.2.2.2.2.2.2.2.2.2.2.2.2.2.2.2.2.2.2.2.2.1
theorem dq_Z.s157 {A : Nat → Prop} {U : State} {H : Heap} (h : dq_Z A U H) : (∃ sa : Nat, vk_R RDH 157 "a hit has nothing of that number" sa U) := h.2.2.2.2.2.2.2.2.2.2.2.2.2.2.2.2.2.2.2.2.2.2.2.2.2.2.2.2.2
abbrev dq_t (g : Nat → ClassId) : List (ClassId × FieldType) := [(g 0, .int), (g 1, .boolean), (g 2, .long), (g 3, .object RPl)]
theorem dq_giV {c0 cw : Cond} {own : String} {idx : Nat} {C : String} {y : MethodName} (h1 : Cond.methodLink own idx y ∈ dq_G) (h2 : Cond.instanceMethod y ∈ dq_G) (h3 : Cond.selects C y y ∈ dq_G) (h4 : Cond.initialized C ∈ dq_G) (h5 : cw ∈ dq_G) : GoodIn (c0 :: dq_G) (wsV own idx C y (cw :: dq_G)) := by
  refine dq_giS (fun w h => List.mem_cons_of_mem _ h) (fun w hw => ?_)
  simp only [wsV, List.cons_append, List.nil_append, List.mem_cons] at hw
  rcases hw with rfl | rfl | rfl | rfl | rfl | hw
  · exact h1
  · exact h2
  · exact h3
  · exact h4
  · exact h5
  · exact hw
theorem dq_giS2 {c0 cw : Cond} {own : String} {idx : Nat} {y : MethodName} (h1 : Cond.methodLink own idx y ∈ dq_G) (h2 : Cond.static y ∈ dq_G) (h4 : Cond.initialized own ∈ dq_G) (h5 : cw ∈ dq_G) : GoodIn (c0 :: dq_G) (wsS own idx y (cw :: dq_G)) := by
  refine dq_giS (fun w h => List.mem_cons_of_mem _ h) (fun w hw => ?_)
  simp only [wsS, List.cons_append, List.nil_append, List.mem_cons] at hw
  rcases hw with rfl | rfl | rfl | rfl | hw
  · exact h1
  · exact h2
  · exact h4
  · exact h5
  · exact hw
theorem dq_gi {c0 cw : Cond} (h5 : cw ∈ dq_G) : GoodIn (c0 :: dq_G) (cw :: dq_G) := by
  refine dq_giS (fun w h => List.mem_cons_of_mem _ h) (fun w hw => ?_)
  rcases List.mem_cons.mp hw with rfl | hw
  · exact h5
  · exact hw
/-! OWN LAYER: calls over the world by roles (dq_Z: what of the start stays true) -/
def dq_S (D : va_G) (cl : List vw_C) (tys : List (ClassId × FieldType)) (ad : Nat → Nat) (w : Nat → Option va_E) (sz : Nat) : State → Prop := fun U => U.heap.size = sz ∧ dq_W D cl ad w (fun _ => True) U.heap ∧ va_K D cl tys U ∧ dq_Z (dq_A ad w sz) U U.heap
def dq_B (D : va_G) (cl : List vw_C) (tys : List (ClassId × FieldType)) (ad : Nat → Nat) (A : Nat → Prop) : (Nat → Option va_E) → State → Prop := fun u t => dq_W D cl ad u A t.heap ∧ va_K D cl tys t
def dq_B2 (D : va_G) (cl : List vw_C) (tys : List (ClassId × FieldType)) (A : Nat → Prop) : (Nat → Nat) × (Nat → Option va_E) → State → Prop := fun u t => dq_W D cl u.1 u.2 A t.heap ∧ va_K D cl tys t
theorem dq_blind {D : va_G} {cl : List vw_C} {tys : List (ClassId × FieldType)} {ad : Nat → Nat} {w : Nat → Option va_E} {sz : Nat} {av : List Value} : FrameBlind (va_Pc av (dq_S D cl tys ad w sz)) := by
  intro a U g mk q
  obtain ⟨h1, h2, h3, h4, h5⟩ := q
  exact ⟨h1, h2, h3, va_K.moved (u := U) (U := U.calling g mk a) (Vm.Alike.refl U.vm) h4, dq_Z.go (U := U) (U' := U.calling g mk a) h5 (fun _ h => h) (fun _ _ _ => rfl) (State.WarmedH.refl U)⟩
section DQC
variable {p : Program} {l : Launch} {e : Env} {R : Room} {s : State} {m : MethodId} {args : Array Value} {below : List Frame} {meth : Method} {c : Code} {H : Heap} {locs : List Loc} {cells slots : Nat} {Q : State → Prop}
variable {cc : ByteArray} {pc : Nat} {ls : Array Slot} {rest st0 : List Value} {a : Array Value} {D : va_G} {cl : List vw_C} {A : Nat → Prop} {tys : List (ClassId × FieldType)} {ad : Nat → Nat} {w : Nat → Option va_E} {mc ms : Nat}
theorem dq_preS {av : List Value} (hW : dq_W D cl ad w A H) (hS : va_S A s.heap H locs) (hA : ∀ q, s.heap.size ≤ q → A q) (hK : va_K D cl tys s) (hZ : dq_Z A s s.heap) : PreS s H (va_Pc av (dq_S D cl tys ad w H.size)) av :=
  ⟨dq_blind, fun U hU hw => ⟨rfl, by rw [hU], by rw [hU]; exact hW.weaken (fun _ _ => trivial), va_K.moved hw.alike hK, dq_Z.go (U := s) (U' := U) hZ (dq_A.sub hW hS hA) (fun x h1 h2 => by rw [hU]; exact hS.2.1 x h1 h2) hw⟩⟩
theorem dq_preV {b : Nat} {As : List Value} {r ci : Nat} {C : String} {T : u_T} {N : Nat} {fs : List Value} (hW : dq_W D cl ad w A H) (hS : va_S A s.heap H locs) (hA : ∀ q, s.heap.size ≤ q → A q) (hK : va_K D cl tys s) (hZ : dq_Z A s s.heap) (he : w r = some (.inr (ci, fs))) (hc : cl[ci]? = some (C, T, N)) (hb : ad r = b) : PreV s H C b (va_Pc (.ref b :: As) (dq_S D cl tys ad w H.size)) As := by
  subst hb
  exact ⟨dq_blind, va_recv (q0 := 0) hK (hW.get he) hc rfl, (dq_preS (av := .ref (ad r) :: As) hW hS hA hK hZ).2⟩
theorem dq_calli {post : Int32 → (Nat → Option va_E) → Prop} (hr : va_Run p l e R s m args below meth c H locs cells slots mc ms (F0 m pc ls st0) rest (va_Qi post (dq_B D cl tys ad (dq_A ad w H.size)) (dq_A ad w H.size) a) (dq_A ad w H.size)) (hW : dq_W D cl ad w A H) (hS : va_S A s.heap H locs) (hA : ∀ q, s.heap.size ≤ q → A q)
    (kk : ∀ (r : Int32) (u : (Nat → Option va_E)) (H1 : Heap) (locs1 : List Loc), post r u → dq_W D cl ad u A H1 → va_S A s.heap H1 locs1 → H.size ≤ H1.size → W p l e R s m args below meth c H1 locs1 (cells + mc) (slots + ms) Q (F0 m (pc + 3) ls (.int r :: rest))) : W p l e R s m args below meth c H locs cells slots Q (F0 m pc ls st0) :=
  va_calli hr hS (fun q _ h => dq_A.sub hW hS hA q h) (dq_A.sub hW hS hA) (fun r u t H1 locs1 ht hvm hp hB hz hk hS1 => kk r u H1 locs1 hp (by have h9 := hB.1; rw [ht] at h9; exact h9.weaken (dq_A.sub hW hS hA)) hS1 hz)
theorem dq_calli2 {post : Int32 → ((Nat → Nat) × (Nat → Option va_E)) → Prop} (hr : va_Run p l e R s m args below meth c H locs cells slots mc ms (F0 m pc ls st0) rest (va_Qi post (dq_B2 D cl tys (dq_A ad w H.size)) (dq_A ad w H.size) a) (dq_A ad w H.size)) (hW : dq_W D cl ad w A H) (hS : va_S A s.heap H locs) (hA : ∀ q, s.heap.size ≤ q → A q)
    (kk : ∀ (r : Int32) (u : ((Nat → Nat) × (Nat → Option va_E))) (H1 : Heap) (locs1 : List Loc), post r u → dq_W D cl u.1 u.2 A H1 → va_S A s.heap H1 locs1 → H.size ≤ H1.size → W p l e R s m args below meth c H1 locs1 (cells + mc) (slots + ms) Q (F0 m (pc + 3) ls (.int r :: rest))) : W p l e R s m args below meth c H locs cells slots Q (F0 m pc ls st0) :=
  va_calli hr hS (fun q _ h => dq_A.sub hW hS hA q h) (dq_A.sub hW hS hA) (fun r u t H1 locs1 ht hvm hp hB hz hk hS1 => kk r u H1 locs1 hp (by have h9 := hB.1; rw [ht] at h9; exact h9.weaken (dq_A.sub hW hS hA)) hS1 hz)
theorem dq_calll {post : Int64 → (Nat → Option va_E) → Prop} (hr : va_Run p l e R s m args below meth c H locs cells slots mc ms (F0 m pc ls st0) rest (va_Ql post (dq_B D cl tys ad (dq_A ad w H.size)) (dq_A ad w H.size) a) (dq_A ad w H.size)) (hW : dq_W D cl ad w A H) (hS : va_S A s.heap H locs) (hA : ∀ q, s.heap.size ≤ q → A q)
    (kk : ∀ (r : Int64) (u : (Nat → Option va_E)) (H1 : Heap) (locs1 : List Loc), post r u → dq_W D cl ad u A H1 → va_S A s.heap H1 locs1 → H.size ≤ H1.size → W p l e R s m args below meth c H1 locs1 (cells + mc) (slots + ms) Q (F0 m (pc + 3) ls (.long r :: rest))) : W p l e R s m args below meth c H locs cells slots Q (F0 m pc ls st0) :=
  va_calll hr hS (fun q _ h => dq_A.sub hW hS hA q h) (dq_A.sub hW hS hA) (fun r u t H1 locs1 ht hvm hp hB hz hk hS1 => kk r u H1 locs1 hp (by have h9 := hB.1; rw [ht] at h9; exact h9.weaken (dq_A.sub hW hS hA)) hS1 hz)
theorem dq_calll2 {post : Int64 → ((Nat → Nat) × (Nat → Option va_E)) → Prop} (hr : va_Run p l e R s m args below meth c H locs cells slots mc ms (F0 m pc ls st0) rest (va_Ql post (dq_B2 D cl tys (dq_A ad w H.size)) (dq_A ad w H.size) a) (dq_A ad w H.size)) (hW : dq_W D cl ad w A H) (hS : va_S A s.heap H locs) (hA : ∀ q, s.heap.size ≤ q → A q)
    (kk : ∀ (r : Int64) (u : ((Nat → Nat) × (Nat → Option va_E))) (H1 : Heap) (locs1 : List Loc), post r u → dq_W D cl u.1 u.2 A H1 → va_S A s.heap H1 locs1 → H.size ≤ H1.size → W p l e R s m args below meth c H1 locs1 (cells + mc) (slots + ms) Q (F0 m (pc + 3) ls (.long r :: rest))) : W p l e R s m args below meth c H locs cells slots Q (F0 m pc ls st0) :=
  va_calll hr hS (fun q _ h => dq_A.sub hW hS hA q h) (dq_A.sub hW hS hA) (fun r u t H1 locs1 ht hvm hp hB hz hk hS1 => kk r u H1 locs1 hp (by have h9 := hB.1; rw [ht] at h9; exact h9.weaken (dq_A.sub hW hS hA)) hS1 hz)
theorem dq_callv {post : (Nat → Option va_E) → Prop} (hr : va_Run p l e R s m args below meth c H locs cells slots mc ms (F0 m pc ls st0) rest (va_Qv post (dq_B D cl tys ad (dq_A ad w H.size)) (dq_A ad w H.size) a) (dq_A ad w H.size)) (hW : dq_W D cl ad w A H) (hS : va_S A s.heap H locs) (hA : ∀ q, s.heap.size ≤ q → A q)
    (kk : ∀ (u : (Nat → Option va_E)) (H1 : Heap) (locs1 : List Loc), post u → dq_W D cl ad u A H1 → va_S A s.heap H1 locs1 → H.size ≤ H1.size → W p l e R s m args below meth c H1 locs1 (cells + mc) (slots + ms) Q (F0 m (pc + 3) ls rest)) : W p l e R s m args below meth c H locs cells slots Q (F0 m pc ls st0) :=
  va_callv hr hS (fun q _ h => dq_A.sub hW hS hA q h) (dq_A.sub hW hS hA) (fun u t H1 locs1 ht hvm hp hB hz hk hS1 => kk u H1 locs1 hp (by have h9 := hB.1; rw [ht] at h9; exact h9.weaken (dq_A.sub hW hS hA)) hS1 hz)
theorem dq_callv2 {post : ((Nat → Nat) × (Nat → Option va_E)) → Prop} (hr : va_Run p l e R s m args below meth c H locs cells slots mc ms (F0 m pc ls st0) rest (va_Qv post (dq_B2 D cl tys (dq_A ad w H.size)) (dq_A ad w H.size) a) (dq_A ad w H.size)) (hW : dq_W D cl ad w A H) (hS : va_S A s.heap H locs) (hA : ∀ q, s.heap.size ≤ q → A q)
    (kk : ∀ (u : ((Nat → Nat) × (Nat → Option va_E))) (H1 : Heap) (locs1 : List Loc), post u → dq_W D cl u.1 u.2 A H1 → va_S A s.heap H1 locs1 → H.size ≤ H1.size → W p l e R s m args below meth c H1 locs1 (cells + mc) (slots + ms) Q (F0 m (pc + 3) ls rest)) : W p l e R s m args below meth c H locs cells slots Q (F0 m pc ls st0) :=
  va_callv hr hS (fun q _ h => dq_A.sub hW hS hA q h) (dq_A.sub hW hS hA) (fun u t H1 locs1 ht hvm hp hB hz hk hS1 => kk u H1 locs1 hp (by have h9 := hB.1; rw [ht] at h9; exact h9.weaken (dq_A.sub hW hS hA)) hS1 hz)
end DQC
/-! OWN LAYER: contracts over the world by roles, from a walk with its end as a premise -/
theorem dq_ofi {l : Launch} {y : MethodName} {ws ws' : List Cond} {rm : Room} {D : va_G} {cl : List vw_C} {tys : List (ClassId × FieldType)} {ad : Nat → Nat} {w : Nat → Option va_E} {sz : Nat} {av : List Value} {post : Int32 → (Nat → Option va_E) → Prop} {mc ms : Nat} {cc : ByteArray} {maxL : Nat} (hy : plainName y.cls = true) (hw : ws = Cond.code y cc maxL (some .int) :: ws') (hav : (lg_sl av).length ≤ maxL)
    (body : ∀ (p : Program) (e : Env) (s : State) (m : MethodId) (below : List Frame) (meth : Method) (c : Code) (A : Nat → Prop) (Q : State → Prop) (ls : Array Slot), CallFix p m c cc maxL s av.toArray ws y.cls → meth.name = y.name → (∀ q, s.heap.size ≤ q → A q) → dq_W D cl ad w A s.heap → va_K D cl tys s → dq_Z A s s.heap → lv_has ls maxL (lv_args 0 av) →
      (∀ (v : Int32) (u : (Nat → Option va_E)) (H : Heap) (locs : List Loc) (pc : Nat) (ls : Array Slot), post v u → dq_W D cl ad u A H → va_S A s.heap H locs → decode cc pc = .ok (.ireturn, 1) → W p l e rm s m av.toArray below meth c H locs mc ms Q (F0 m pc ls [.int v])) →
      W p l e rm s m av.toArray below meth c s.heap [] 0 0 Q (F0 m 0 ls [])) : Met l y ws rm (va_Pc av (dq_S D cl tys ad w sz)) (va_Qi post (dq_B D cl tys ad (dq_A ad w sz)) (dq_A ad w sz)) mc ms (dq_A ad w sz) := by
  refine Met.ofW (cc := cc) (maxL := maxL) (ret := (some .int)) hy hw ?_
  intro p e s m args below meth c s₁ B hml hv
  obtain ⟨rfl, rfl, hW0, hK, hZ⟩ := hv
  have hlocks := B.notSynchronized
  have hts := atoms_spec (ws := ws) B.pre
  have hown : s.vm.findClass y.cls = some m.cls := findClass_of_methodNamed B.named
  rw [lg_entry_eq]
  refine body p e s m below meth c (dq_A ad w s.heap.size) _ _ ⟨B.exec, B.bytes, hml, hown, hts⟩ (name_of_methodNamed B.named B.method).1 (fun q h => Or.inr h) hW0.self hK hZ (lv_entry av hav) ?_
  intro v u H locs pc ls hp hW hS hd
  exact W.iret (v := v) B.exec B.bytes B.returns (fun t ht hw9 => ⟨⟨v, u, rfl, hp, by rw [ht]; exact hW, va_K.moved hw9.alike hK⟩, hS.F ht⟩) hS.2.2 hd
theorem dq_ofi2 {l : Launch} {y : MethodName} {ws ws' : List Cond} {rm : Room} {D : va_G} {cl : List vw_C} {tys : List (ClassId × FieldType)} {ad : Nat → Nat} {w : Nat → Option va_E} {sz : Nat} {av : List Value} {post : Int32 → ((Nat → Nat) × (Nat → Option va_E)) → Prop} {mc ms : Nat} {cc : ByteArray} {maxL : Nat} (hy : plainName y.cls = true) (hw : ws = Cond.code y cc maxL (some .int) :: ws') (hav : (lg_sl av).length ≤ maxL)
    (body : ∀ (p : Program) (e : Env) (s : State) (m : MethodId) (below : List Frame) (meth : Method) (c : Code) (A : Nat → Prop) (Q : State → Prop) (ls : Array Slot), CallFix p m c cc maxL s av.toArray ws y.cls → meth.name = y.name → (∀ q, s.heap.size ≤ q → A q) → dq_W D cl ad w A s.heap → va_K D cl tys s → dq_Z A s s.heap → lv_has ls maxL (lv_args 0 av) →
      (∀ (v : Int32) (u : ((Nat → Nat) × (Nat → Option va_E))) (H : Heap) (locs : List Loc) (pc : Nat) (ls : Array Slot), post v u → dq_W D cl u.1 u.2 A H → va_S A s.heap H locs → decode cc pc = .ok (.ireturn, 1) → W p l e rm s m av.toArray below meth c H locs mc ms Q (F0 m pc ls [.int v])) →
      W p l e rm s m av.toArray below meth c s.heap [] 0 0 Q (F0 m 0 ls [])) : Met l y ws rm (va_Pc av (dq_S D cl tys ad w sz)) (va_Qi post (dq_B2 D cl tys (dq_A ad w sz)) (dq_A ad w sz)) mc ms (dq_A ad w sz) := by
  refine Met.ofW (cc := cc) (maxL := maxL) (ret := (some .int)) hy hw ?_
  intro p e s m args below meth c s₁ B hml hv
  obtain ⟨rfl, rfl, hW0, hK, hZ⟩ := hv
  have hlocks := B.notSynchronized
  have hts := atoms_spec (ws := ws) B.pre
  have hown : s.vm.findClass y.cls = some m.cls := findClass_of_methodNamed B.named
  rw [lg_entry_eq]
  refine body p e s m below meth c (dq_A ad w s.heap.size) _ _ ⟨B.exec, B.bytes, hml, hown, hts⟩ (name_of_methodNamed B.named B.method).1 (fun q h => Or.inr h) hW0.self hK hZ (lv_entry av hav) ?_
  intro v u H locs pc ls hp hW hS hd
  exact W.iret (v := v) B.exec B.bytes B.returns (fun t ht hw9 => ⟨⟨v, u, rfl, hp, by rw [ht]; exact hW, va_K.moved hw9.alike hK⟩, hS.F ht⟩) hS.2.2 hd
theorem dq_ofz {l : Launch} {y : MethodName} {ws ws' : List Cond} {rm : Room} {D : va_G} {cl : List vw_C} {tys : List (ClassId × FieldType)} {ad : Nat → Nat} {w : Nat → Option va_E} {sz : Nat} {av : List Value} {post : Int32 → (Nat → Option va_E) → Prop} {mc ms : Nat} {cc : ByteArray} {maxL : Nat} (hy : plainName y.cls = true) (hw : ws = Cond.code y cc maxL (some .boolean) :: ws') (hav : (lg_sl av).length ≤ maxL)
    (body : ∀ (p : Program) (e : Env) (s : State) (m : MethodId) (below : List Frame) (meth : Method) (c : Code) (A : Nat → Prop) (Q : State → Prop) (ls : Array Slot), CallFix p m c cc maxL s av.toArray ws y.cls → meth.name = y.name → (∀ q, s.heap.size ≤ q → A q) → dq_W D cl ad w A s.heap → va_K D cl tys s → dq_Z A s s.heap → lv_has ls maxL (lv_args 0 av) →
      (∀ (v : Int32) (u : (Nat → Option va_E)) (H : Heap) (locs : List Loc) (pc : Nat) (ls : Array Slot), post v u → narrow .boolean (.int v) = .int v → dq_W D cl ad u A H → va_S A s.heap H locs → decode cc pc = .ok (.ireturn, 1) → W p l e rm s m av.toArray below meth c H locs mc ms Q (F0 m pc ls [.int v])) →
      W p l e rm s m av.toArray below meth c s.heap [] 0 0 Q (F0 m 0 ls [])) : Met l y ws rm (va_Pc av (dq_S D cl tys ad w sz)) (va_Qi post (dq_B D cl tys ad (dq_A ad w sz)) (dq_A ad w sz)) mc ms (dq_A ad w sz) := by
  refine Met.ofW (cc := cc) (maxL := maxL) (ret := (some .boolean)) hy hw ?_
  intro p e s m args below meth c s₁ B hml hv
  obtain ⟨rfl, rfl, hW0, hK, hZ⟩ := hv
  have hlocks := B.notSynchronized
  have hts := atoms_spec (ws := ws) B.pre
  have hown : s.vm.findClass y.cls = some m.cls := findClass_of_methodNamed B.named
  rw [lg_entry_eq]
  refine body p e s m below meth c (dq_A ad w s.heap.size) _ _ ⟨B.exec, B.bytes, hml, hown, hts⟩ (name_of_methodNamed B.named B.method).1 (fun q h => Or.inr h) hW0.self hK hZ (lv_entry av hav) ?_
  intro v u H locs pc ls hp hn hW hS hd
  exact W.zret (v := v) B.exec B.bytes B.returns hn (fun t ht hw9 => ⟨⟨v, u, rfl, hp, by rw [ht]; exact hW, va_K.moved hw9.alike hK⟩, hS.F ht⟩) hS.2.2 hd
theorem dq_ofz2 {l : Launch} {y : MethodName} {ws ws' : List Cond} {rm : Room} {D : va_G} {cl : List vw_C} {tys : List (ClassId × FieldType)} {ad : Nat → Nat} {w : Nat → Option va_E} {sz : Nat} {av : List Value} {post : Int32 → ((Nat → Nat) × (Nat → Option va_E)) → Prop} {mc ms : Nat} {cc : ByteArray} {maxL : Nat} (hy : plainName y.cls = true) (hw : ws = Cond.code y cc maxL (some .boolean) :: ws') (hav : (lg_sl av).length ≤ maxL)
    (body : ∀ (p : Program) (e : Env) (s : State) (m : MethodId) (below : List Frame) (meth : Method) (c : Code) (A : Nat → Prop) (Q : State → Prop) (ls : Array Slot), CallFix p m c cc maxL s av.toArray ws y.cls → meth.name = y.name → (∀ q, s.heap.size ≤ q → A q) → dq_W D cl ad w A s.heap → va_K D cl tys s → dq_Z A s s.heap → lv_has ls maxL (lv_args 0 av) →
      (∀ (v : Int32) (u : ((Nat → Nat) × (Nat → Option va_E))) (H : Heap) (locs : List Loc) (pc : Nat) (ls : Array Slot), post v u → narrow .boolean (.int v) = .int v → dq_W D cl u.1 u.2 A H → va_S A s.heap H locs → decode cc pc = .ok (.ireturn, 1) → W p l e rm s m av.toArray below meth c H locs mc ms Q (F0 m pc ls [.int v])) →
      W p l e rm s m av.toArray below meth c s.heap [] 0 0 Q (F0 m 0 ls [])) : Met l y ws rm (va_Pc av (dq_S D cl tys ad w sz)) (va_Qi post (dq_B2 D cl tys (dq_A ad w sz)) (dq_A ad w sz)) mc ms (dq_A ad w sz) := by
  refine Met.ofW (cc := cc) (maxL := maxL) (ret := (some .boolean)) hy hw ?_
  intro p e s m args below meth c s₁ B hml hv
  obtain ⟨rfl, rfl, hW0, hK, hZ⟩ := hv
  have hlocks := B.notSynchronized
  have hts := atoms_spec (ws := ws) B.pre
  have hown : s.vm.findClass y.cls = some m.cls := findClass_of_methodNamed B.named
  rw [lg_entry_eq]
  refine body p e s m below meth c (dq_A ad w s.heap.size) _ _ ⟨B.exec, B.bytes, hml, hown, hts⟩ (name_of_methodNamed B.named B.method).1 (fun q h => Or.inr h) hW0.self hK hZ (lv_entry av hav) ?_
  intro v u H locs pc ls hp hn hW hS hd
  exact W.zret (v := v) B.exec B.bytes B.returns hn (fun t ht hw9 => ⟨⟨v, u, rfl, hp, by rw [ht]; exact hW, va_K.moved hw9.alike hK⟩, hS.F ht⟩) hS.2.2 hd
theorem dq_ofl {l : Launch} {y : MethodName} {ws ws' : List Cond} {rm : Room} {D : va_G} {cl : List vw_C} {tys : List (ClassId × FieldType)} {ad : Nat → Nat} {w : Nat → Option va_E} {sz : Nat} {av : List Value} {post : Int64 → (Nat → Option va_E) → Prop} {mc ms : Nat} {cc : ByteArray} {maxL : Nat} (hy : plainName y.cls = true) (hw : ws = Cond.code y cc maxL (some .long) :: ws') (hav : (lg_sl av).length ≤ maxL)
    (body : ∀ (p : Program) (e : Env) (s : State) (m : MethodId) (below : List Frame) (meth : Method) (c : Code) (A : Nat → Prop) (Q : State → Prop) (ls : Array Slot), CallFix p m c cc maxL s av.toArray ws y.cls → meth.name = y.name → (∀ q, s.heap.size ≤ q → A q) → dq_W D cl ad w A s.heap → va_K D cl tys s → dq_Z A s s.heap → lv_has ls maxL (lv_args 0 av) →
      (∀ (v : Int64) (u : (Nat → Option va_E)) (H : Heap) (locs : List Loc) (pc : Nat) (ls : Array Slot), post v u → dq_W D cl ad u A H → va_S A s.heap H locs → decode cc pc = .ok (.lreturn, 1) → W p l e rm s m av.toArray below meth c H locs mc ms Q (F0 m pc ls [.long v])) →
      W p l e rm s m av.toArray below meth c s.heap [] 0 0 Q (F0 m 0 ls [])) : Met l y ws rm (va_Pc av (dq_S D cl tys ad w sz)) (va_Ql post (dq_B D cl tys ad (dq_A ad w sz)) (dq_A ad w sz)) mc ms (dq_A ad w sz) := by
  refine Met.ofW (cc := cc) (maxL := maxL) (ret := (some .long)) hy hw ?_
  intro p e s m args below meth c s₁ B hml hv
  obtain ⟨rfl, rfl, hW0, hK, hZ⟩ := hv
  have hlocks := B.notSynchronized
  have hts := atoms_spec (ws := ws) B.pre
  have hown : s.vm.findClass y.cls = some m.cls := findClass_of_methodNamed B.named
  rw [lg_entry_eq]
  refine body p e s m below meth c (dq_A ad w s.heap.size) _ _ ⟨B.exec, B.bytes, hml, hown, hts⟩ (name_of_methodNamed B.named B.method).1 (fun q h => Or.inr h) hW0.self hK hZ (lv_entry av hav) ?_
  intro v u H locs pc ls hp hW hS hd
  exact W.lret (v := v) B.exec B.bytes B.returns (fun t ht hw9 => ⟨⟨v, u, rfl, hp, by rw [ht]; exact hW, va_K.moved hw9.alike hK⟩, hS.F ht⟩) hS.2.2 hd
theorem dq_ofl2 {l : Launch} {y : MethodName} {ws ws' : List Cond} {rm : Room} {D : va_G} {cl : List vw_C} {tys : List (ClassId × FieldType)} {ad : Nat → Nat} {w : Nat → Option va_E} {sz : Nat} {av : List Value} {post : Int64 → ((Nat → Nat) × (Nat → Option va_E)) → Prop} {mc ms : Nat} {cc : ByteArray} {maxL : Nat} (hy : plainName y.cls = true) (hw : ws = Cond.code y cc maxL (some .long) :: ws') (hav : (lg_sl av).length ≤ maxL)
    (body : ∀ (p : Program) (e : Env) (s : State) (m : MethodId) (below : List Frame) (meth : Method) (c : Code) (A : Nat → Prop) (Q : State → Prop) (ls : Array Slot), CallFix p m c cc maxL s av.toArray ws y.cls → meth.name = y.name → (∀ q, s.heap.size ≤ q → A q) → dq_W D cl ad w A s.heap → va_K D cl tys s → dq_Z A s s.heap → lv_has ls maxL (lv_args 0 av) →
      (∀ (v : Int64) (u : ((Nat → Nat) × (Nat → Option va_E))) (H : Heap) (locs : List Loc) (pc : Nat) (ls : Array Slot), post v u → dq_W D cl u.1 u.2 A H → va_S A s.heap H locs → decode cc pc = .ok (.lreturn, 1) → W p l e rm s m av.toArray below meth c H locs mc ms Q (F0 m pc ls [.long v])) →
      W p l e rm s m av.toArray below meth c s.heap [] 0 0 Q (F0 m 0 ls [])) : Met l y ws rm (va_Pc av (dq_S D cl tys ad w sz)) (va_Ql post (dq_B2 D cl tys (dq_A ad w sz)) (dq_A ad w sz)) mc ms (dq_A ad w sz) := by
  refine Met.ofW (cc := cc) (maxL := maxL) (ret := (some .long)) hy hw ?_
  intro p e s m args below meth c s₁ B hml hv
  obtain ⟨rfl, rfl, hW0, hK, hZ⟩ := hv
  have hlocks := B.notSynchronized
  have hts := atoms_spec (ws := ws) B.pre
  have hown : s.vm.findClass y.cls = some m.cls := findClass_of_methodNamed B.named
  rw [lg_entry_eq]
  refine body p e s m below meth c (dq_A ad w s.heap.size) _ _ ⟨B.exec, B.bytes, hml, hown, hts⟩ (name_of_methodNamed B.named B.method).1 (fun q h => Or.inr h) hW0.self hK hZ (lv_entry av hav) ?_
  intro v u H locs pc ls hp hW hS hd
  exact W.lret (v := v) B.exec B.bytes B.returns (fun t ht hw9 => ⟨⟨v, u, rfl, hp, by rw [ht]; exact hW, va_K.moved hw9.alike hK⟩, hS.F ht⟩) hS.2.2 hd
theorem dq_ofv {l : Launch} {y : MethodName} {ws ws' : List Cond} {rm : Room} {D : va_G} {cl : List vw_C} {tys : List (ClassId × FieldType)} {ad : Nat → Nat} {w : Nat → Option va_E} {sz : Nat} {av : List Value} {post : (Nat → Option va_E) → Prop} {mc ms : Nat} {cc : ByteArray} {maxL : Nat} (hy : plainName y.cls = true) (hw : ws = Cond.code y cc maxL none :: ws') (hav : (lg_sl av).length ≤ maxL)
    (body : ∀ (p : Program) (e : Env) (s : State) (m : MethodId) (below : List Frame) (meth : Method) (c : Code) (A : Nat → Prop) (Q : State → Prop) (ls : Array Slot), CallFix p m c cc maxL s av.toArray ws y.cls → meth.name = y.name → (∀ q, s.heap.size ≤ q → A q) → dq_W D cl ad w A s.heap → va_K D cl tys s → dq_Z A s s.heap → lv_has ls maxL (lv_args 0 av) →
      (∀ (u : (Nat → Option va_E)) (H : Heap) (locs : List Loc) (pc : Nat) (ls : Array Slot), post u → dq_W D cl ad u A H → va_S A s.heap H locs → decode cc pc = .ok (.return_, 1) → W p l e rm s m av.toArray below meth c H locs mc ms Q (F0 m pc ls [])) →
      W p l e rm s m av.toArray below meth c s.heap [] 0 0 Q (F0 m 0 ls [])) : Met l y ws rm (va_Pc av (dq_S D cl tys ad w sz)) (va_Qv post (dq_B D cl tys ad (dq_A ad w sz)) (dq_A ad w sz)) mc ms (dq_A ad w sz) := by
  refine Met.ofW (cc := cc) (maxL := maxL) (ret := none) hy hw ?_
  intro p e s m args below meth c s₁ B hml hv
  obtain ⟨rfl, rfl, hW0, hK, hZ⟩ := hv
  have hlocks := B.notSynchronized
  have hts := atoms_spec (ws := ws) B.pre
  have hown : s.vm.findClass y.cls = some m.cls := findClass_of_methodNamed B.named
  rw [lg_entry_eq]
  refine body p e s m below meth c (dq_A ad w s.heap.size) _ _ ⟨B.exec, B.bytes, hml, hown, hts⟩ (name_of_methodNamed B.named B.method).1 (fun q h => Or.inr h) hW0.self hK hZ (lv_entry av hav) ?_
  intro u H locs pc ls hp hW hS hd
  exact W.vret B.exec B.bytes B.returns (fun t ht hw9 => ⟨⟨u, rfl, hp, by rw [ht]; exact hW, va_K.moved hw9.alike hK⟩, hS.F ht⟩) hS.2.2 hd
theorem dq_ofv2 {l : Launch} {y : MethodName} {ws ws' : List Cond} {rm : Room} {D : va_G} {cl : List vw_C} {tys : List (ClassId × FieldType)} {ad : Nat → Nat} {w : Nat → Option va_E} {sz : Nat} {av : List Value} {post : ((Nat → Nat) × (Nat → Option va_E)) → Prop} {mc ms : Nat} {cc : ByteArray} {maxL : Nat} (hy : plainName y.cls = true) (hw : ws = Cond.code y cc maxL none :: ws') (hav : (lg_sl av).length ≤ maxL)
    (body : ∀ (p : Program) (e : Env) (s : State) (m : MethodId) (below : List Frame) (meth : Method) (c : Code) (A : Nat → Prop) (Q : State → Prop) (ls : Array Slot), CallFix p m c cc maxL s av.toArray ws y.cls → meth.name = y.name → (∀ q, s.heap.size ≤ q → A q) → dq_W D cl ad w A s.heap → va_K D cl tys s → dq_Z A s s.heap → lv_has ls maxL (lv_args 0 av) →
      (∀ (u : ((Nat → Nat) × (Nat → Option va_E))) (H : Heap) (locs : List Loc) (pc : Nat) (ls : Array Slot), post u → dq_W D cl u.1 u.2 A H → va_S A s.heap H locs → decode cc pc = .ok (.return_, 1) → W p l e rm s m av.toArray below meth c H locs mc ms Q (F0 m pc ls [])) →
      W p l e rm s m av.toArray below meth c s.heap [] 0 0 Q (F0 m 0 ls [])) : Met l y ws rm (va_Pc av (dq_S D cl tys ad w sz)) (va_Qv post (dq_B2 D cl tys (dq_A ad w sz)) (dq_A ad w sz)) mc ms (dq_A ad w sz) := by
  refine Met.ofW (cc := cc) (maxL := maxL) (ret := none) hy hw ?_
  intro p e s m args below meth c s₁ B hml hv
  obtain ⟨rfl, rfl, hW0, hK, hZ⟩ := hv
  have hlocks := B.notSynchronized
  have hts := atoms_spec (ws := ws) B.pre
  have hown : s.vm.findClass y.cls = some m.cls := findClass_of_methodNamed B.named
  rw [lg_entry_eq]
  refine body p e s m below meth c (dq_A ad w s.heap.size) _ _ ⟨B.exec, B.bytes, hml, hown, hts⟩ (name_of_methodNamed B.named B.method).1 (fun q h => Or.inr h) hW0.self hK hZ (lv_entry av hav) ?_
  intro u H locs pc ls hp hW hS hd
  exact W.vret B.exec B.bytes B.returns (fun t ht hw9 => ⟨⟨u, rfl, hp, by rw [ht]; exact hW, va_K.moved hw9.alike hK⟩, hS.F ht⟩) hS.2.2 hd
end
section
/-! MIRRORS: what the methods compute, as functions -/
/-- the first of 0 .. n - 1 with P, or -1 -/
def dq_fst (P : Nat → Bool) (n : Nat) : Int32 := match (List.range n).find? P with
  | some k => nI k
  | none => -1
theorem dq_fst_at {P : Nat → Bool} {n k : Nat} (hk : k < n) (h : P k = true) (hb : ∀ i, i < k → P i = false) : dq_fst P n = nI k := by
  have h1 : (List.range n).find? P = some k := by
    rw [List.find?_range_eq_some]
    exact ⟨h, List.mem_range.mpr hk, fun j hj => by rw [hb j hj]; rfl⟩
  unfold dq_fst
  rw [h1]
theorem dq_fst_none {P : Nat → Bool} {n : Nat} (h : ∀ i, i < n → P i = false) : dq_fst P n = -1 := by
  have h1 : (List.range n).find? P = none := by
    rw [List.find?_eq_none]
    intro x hx
    rw [h x (List.mem_range.mp hx)]
    decide
  unfold dq_fst
  rw [h1]
/-- how many of 0 .. k - 1 have a number above 0 -/
def mh_cnt (f : Nat → Int32) : Nat → Nat
  | 0 => 0
  | k + 1 => if f k ≤ 0 then mh_cnt f k else mh_cnt f k + 1
theorem mh_cnt_le (f : Nat → Int32) (k : Nat) : mh_cnt f k ≤ k := by
  induction k with
  | zero => exact Nat.le_refl 0
  | succ k ih =>
    unfold mh_cnt
    split <;> omega
/-- the FRAME's least and greatest: over those with a width -/
def mh_lo (hw f : Nat → Int32) : Nat → Int32
  | 0 => 10000
  | k + 1 => if hw k ≤ 0 then mh_lo hw f k else (if f k < mh_lo hw f k then f k else mh_lo hw f k)
def mh_hi (hw f : Nat → Int32) : Nat → Int32
  | 0 => -10000
  | k + 1 => if hw k ≤ 0 then mh_hi hw f k else (if mh_hi hw f k < f k then f k else mh_hi hw f k)
def dq_any (P : Nat → Bool) (n : Nat) : Bool := (List.range n).any P
theorem dq_any_t {P : Nat → Bool} {n k : Nat} (hk : k < n) (h : P k = true) : dq_any P n = true := by
  unfold dq_any
  rw [List.any_eq_true]
  exact ⟨k, List.mem_range.mpr hk, h⟩
theorem dq_any_f {P : Nat → Bool} {n : Nat} (h : ∀ i, i < n → P i = false) : dq_any P n = false := by
  unfold dq_any
  rw [List.any_eq_false]
  intro x hx
  rw [h x (List.mem_range.mp hx)]
  decide
/-- the first of 0 .. n - 1 with P, or n -/
def dq_fn (P : Nat → Bool) (n : Nat) : Nat := ((List.range n).find? P).getD n
theorem dq_fn_eq {P : Nat → Bool} {n k : Nat} (hk : k ≤ n) (hb : ∀ i, i < k → P i = false) (h : k < n → P k = true) : dq_fn P n = k := by
  unfold dq_fn
  rcases Nat.lt_or_ge k n with q | q
  · have h1 : (List.range n).find? P = some k := by
      rw [List.find?_range_eq_some]
      exact ⟨h q, List.mem_range.mpr q, fun j hj => by rw [hb j hj]; rfl⟩
    rw [h1]; rfl
  · have hkn : k = n := by omega
    subst hkn
    have h1 : (List.range k).find? P = none := by
      rw [List.find?_eq_none]
      intro x hx
      rw [hb x (List.mem_range.mp hx)]
      decide
    rw [h1]; rfl
theorem dq_Uid {w : Nat → Option va_E} {r : Nat} {e : va_E} (h : w r = some e) : dq_U w r e = w := by
  funext j
  by_cases hj : j = r
  · subst hj; rw [dq_Us, h]
  · rw [dq_Un hj]
theorem dq_U3 {w : Nat → Option va_E} {a b c : Nat} {x y z x' y' z' : va_E} : dq_U (dq_U (dq_U (dq_U (dq_U (dq_U w a x) b y) c z) a x') b y') c z' = dq_U (dq_U (dq_U w a x') b y') c z' := by
  funext j
  by_cases h1 : j = c
  · simp [dq_U, h1]
  · by_cases h2 : j = b
    · subst h2; simp [dq_U, h1]
    · by_cases h3 : j = a
      · subst h3; simp [dq_U, h1, h2]
      · simp [dq_U, h1, h2, h3]
/-- (X i, Y i) comes before (a, b) -/
def mp_lt (X Y : Nat → Int32) (a b : Int32) (i : Nat) : Bool := decide (X i < a) || (decide (X i = a) && decide (Y i < b))
def mp_at (c : Nat) (X Y : Nat → Int32) (a b : Int32) : Nat := dq_fn (fun i => !(mp_lt X Y a b i)) c
def mp_sh (X : Nat → Int32) (t c : Nat) (a : Int32) : Nat → Int32 := fun j => if j < t then X j else if j = t then a else if j ≤ c then X (j - 1) else X j
def mp_ins (r : Nat × (Nat → Int32) × (Nat → Int32)) (a b : Int32) : Nat × (Nat → Int32) × (Nat → Int32) :=
  if (mp_at r.1 r.2.1 r.2.2 a b < r.1 ∧ r.2.1 (mp_at r.1 r.2.1 r.2.2 a b) = a ∧ r.2.2 (mp_at r.1 r.2.1 r.2.2 a b) = b) ∨ 16 ≤ r.1 then r
  else (r.1 + 1, mp_sh r.2.1 (mp_at r.1 r.2.1 r.2.2 a b) r.1 a, mp_sh r.2.2 (mp_at r.1 r.2.1 r.2.2 a b) r.1 b)
def mp_find (hx hy hw : Nat → Int32) (a b wd : Int32) (bar : Int32 → Int32 → Bool) (X Y : Nat → Int32) : Nat → Nat × (Nat → Int32) × (Nat → Int32)
  | 0 => (0, X, Y)
  | k + 1 => if hw k = wd then (if bar (a - hx k) (b - hy k) = true then mp_find hx hy hw a b wd bar X Y k else mp_ins (mp_find hx hy hw a b wd bar X Y k) (a - hx k) (b - hy k)) else mp_find hx hy hw a b wd bar X Y k
def mc_ov (a b c d : Int32) : Bool := decide ((if a < c then c else a) < (if d < b then d else b))
def mc_bar (cx0 cy0 cx1 cy1 : Nat → Int32) (cc_ : Nat) (f0 f1 f2 f3 : Int32) (x y : Int32) : Bool := dq_any (fun i => mc_ov (cx0 i) (cx1 i) (x + f0) (x + f2) && mc_ov (cy0 i) (cy1 i) (y + f1) (y + f3)) cc_
def dq_b (b : Bool) : Int32 := if b = true then 1 else 0
def ml_alike (pd pf pt : Nat → Int32) (a b : Nat) : Bool := decide (pf a = pf b) && decide (pt a = pt b) && (decide (¬ pt a = 0) || decide (pd a = pd b))
theorem dq_b_t {b : Bool} (h : ¬ dq_b b = 0) : b = true := by
  cases b
  · exact absurd rfl h
  · rfl
theorem dq_b_f {b : Bool} (h : dq_b b = 0) : b = false := by
  cases b
  · rfl
  · exact absurd h (by decide)
/-- the places above b up to c moved by one -/
def mp_s (X : Nat → Int32) (b c : Nat) : Nat → Int32 := fun j => if b < j ∧ j ≤ c then X (j - 1) else X j
theorem mp_s_0 (X : Nat → Int32) (c : Nat) : mp_s X c c = X := by
  funext j
  unfold mp_s
  rw [if_neg (by omega)]
theorem mp_s_step (X : Nat → Int32) {b c : Nat} (h : b + 1 ≤ c) : upd (mp_s X (b + 1) c) (b + 1) (mp_s X (b + 1) c b) = mp_s X b c := by
  funext j
  by_cases hj : j = b + 1
  · subst hj
    rw [pk_us]
    unfold mp_s
    rw [if_neg (by omega), if_pos (by omega)]
    rfl
  · rw [pk_un hj]
    unfold mp_s
    by_cases h1 : b + 1 < j ∧ j ≤ c
    · rw [if_pos h1, if_pos (by omega)]
    · rw [if_neg h1, if_neg (by omega)]
theorem mp_sh_s (X : Nat → Int32) (t c : Nat) (a : Int32) : upd (mp_s X t c) t a = mp_sh X t c a := by
  funext j
  by_cases hj : j = t
  · subst hj
    rw [pk_us]
    unfold mp_sh
    rw [if_neg (by omega), if_pos rfl]
  · rw [pk_un hj]
    unfold mp_s mp_sh
    by_cases h1 : j < t
    · rw [if_pos h1, if_neg (by omega)]
    · rw [if_neg h1, if_neg hj]
      by_cases h2 : j ≤ c
      · rw [if_pos h2, if_pos (by omega)]
      · rw [if_neg h2, if_neg (by omega)]
theorem mp_ins_le {r : Nat × (Nat → Int32) × (Nat → Int32)} {a b : Int32} (h : r.1 ≤ 16) : (mp_ins r a b).1 ≤ 16 := by
  unfold mp_ins
  split
  · exact h
  · show r.1 + 1 ≤ 16
    omega
theorem mp_find_le (hx hy hw : Nat → Int32) (a b wd : Int32) (bar : Int32 → Int32 → Bool) (X Y : Nat → Int32) (k : Nat) : (mp_find hx hy hw a b wd bar X Y k).1 ≤ 16 := by
  induction k with
  | zero => exact Nat.zero_le 16
  | succ k ih =>
    unfold mp_find
    split
    · split
      · exact ih
      · exact mp_ins_le ih
    · exact ih
end
section
set_option maxHeartbeats 4000000 in
set_option maxRecDepth 100000 in
/-- Head.countThere() -/
theorem c_Head_countThere (l : Launch) (D : va_G) (g : Nat → ClassId) (ad : Nat → Nat) (w : Nat → Option va_E) (sz : Nat) (n : Nat) (hx_ hy_ hw_ : Nat → Int32) (f0 f1 f2 f3 : Int32) (h1 : w 1 = some (.inr (1, [.ref (ad 2), .ref (ad 3), .ref (ad 4), .int f0, .int f1, .int f2, .int f3]))) (h2 : w 2 = some (.inl (g 0, n, .inl hx_))) (h3 : w 3 = some (.inl (g 0, n, .inl hy_))) (h4 : w 4 = some (.inl (g 0, n, .inl hw_))) (hn : n ≤ 16) : Met l yHd_countThere wsHd_countThere ({ frames := 0, cells := 0, slots := 0, locals := 0 } : Room) (va_Pc [.ref (ad 1)] (dq_S D vwCl (dq_t g) ad w sz)) (va_Qi (fun r u => r = nI (mh_cnt hw_ n) ∧ u = w) (dq_B D vwCl (dq_t g) ad (dq_A ad w sz)) (dq_A ad w sz)) 0 0 (dq_A ad w sz) := by
  refine dq_ofi (cc := cHd_countThere) (maxL := 3) (by decide) rfl (Nat.le_of_ble_eq_true rfl) ?_
  intro p e s m below meth c A Q ls ⟨hx, hb, hml, hown, hts⟩ hnm hA hW hK hZ hl hret
  have hS : va_S A s.heap s.heap [] := va_S.rf
  have hl : lv_has ls 3 [(0, .ref (ad 1))] := hl
  have hf18 := hts _ (List.mem_cons_of_mem _ tw1_42)
  have hinHd : ∀ w ∈ u_ws RHd THd 7, w ∈ wsHd_countThere := fun w h => List.mem_cons_of_mem _ (inHd w h)
  refine lv_iconst (v := (nI 0)) hx hb dHd_countThere_0 (by decide) ?_
  refine lv_istore_n (lv' := [(1, .int (nI 0)), (0, .ref (ad 1))]) hx hb dHd_countThere_1 rfl hl (by decide) rfl (fun ls hl => ?_)
  refine lv_iconst (v := (nI 0)) hx hb dHd_countThere_2 (by decide) ?_
  refine lv_istore_n (lv' := [(2, .int (nI 0)), (1, .int (nI 0)), (0, .ref (ad 1))]) hx hb dHd_countThere_3 rfl hl (by decide) rfl (fun ls hl => ?_)
  have loop : ∀ (j : Nat) (k : Nat) (ls : Array Slot), n < k + j → k ≤ n → lv_has ls 3 [(0, .ref (ad 1)), (1, .int (nI (mh_cnt hw_ k))), (2, .int (nI k))] → W p l e ({ frames := 0, cells := 0, slots := 0, locals := 0 } : Room) s m ([.ref (ad 1)] : List Value).toArray below meth c s.heap [] 0 0 Q (F0 m 4 ls []) := by
    intro j
    induction j with
    | zero => intro k ls hj hk  hl; exact absurd hj (by omega)
    | succ j ih =>
      intro k ls hj hk  hl
      refine lv_iload_n hx hb dHd_countThere_4 rfl (lv_at hl 2 rfl) ?_
      refine lv_aload_n hx hb dHd_countThere_5 rfl (lv_at hl 0 rfl) ?_
      refine dq_get (D := D) (ci := 1) (v := .ref (ad 4)) (C := RHd) (T := THd) (N := 7) hx hb hts hinHd hown hK hW 1 h1 rfl 2 (by decide) hf18 (fun _ h9 => h9) rfl dHd_countThere_6 ?_
      refine dq_alen hx hb hK hW 4 0 h4 rfl (v := nI n) rfl dHd_countThere_9 ?_
      refine lv_icmp_ge (tgt := 31) hx hb dHd_countThere_10 (by decide) (fun c1 => ?_) (fun c1 => ?_)
      · have hkn : k = n := by have q := (nI_leI (by omega) (by omega)).mp c1; omega
        refine lv_iload_n hx hb dHd_countThere_31 rfl (lv_at hl 1 rfl) ?_
        exact hret _ _ _ _ _ _ ⟨by rw [hkn], rfl⟩ hW hS dHd_countThere_32
      · have hkn : k < n := by rcases Nat.lt_or_ge k n with q | q; exact q; exact absurd (nI_le q (by omega)) c1
        refine lv_aload_n hx hb dHd_countThere_13 rfl (lv_at hl 0 rfl) ?_
        refine dq_get (D := D) (ci := 1) (v := .ref (ad 4)) (C := RHd) (T := THd) (N := 7) hx hb hts hinHd hown hK hW 1 h1 rfl 2 (by decide) hf18 (fun _ h9 => h9) rfl dHd_countThere_14 ?_
        refine lv_iload_n hx hb dHd_countThere_17 rfl (lv_at hl 2 rfl) ?_
        refine dq_ialdN hx hb hK hW 4 0 h4 rfl k (by omega) (by omega) dHd_countThere_18 ?_
        refine lv_if_le (tgt := 25) hx hb dHd_countThere_19 (by decide) (fun c2 => ?_) (fun c2 => ?_)
        · have e1 : mh_cnt hw_ (k + 1) = mh_cnt hw_ k := if_pos c2
          refine lv_iinc (v := (nI (k + 1))) (lv' := [(2, .int (nI (k + 1))), (0, .ref (ad 1)), (1, .int (nI (mh_cnt hw_ k)))]) hx hb dHd_countThere_25 hl (k := 2) rfl (by show nI k + 1 = _; exact nI_1 _) (by decide) rfl (fun ls hl => ?_)
          refine lv_goto (tgt := 4) hx hb dHd_countThere_28 (by decide) ?_
          exact ih (k + 1) _ (by omega) (by omega)  (by rw [e1]; exact (lv_sub hl [1, 2, 0] rfl))
        · have e1 : mh_cnt hw_ (k + 1) = mh_cnt hw_ k + 1 := if_neg c2
          refine lv_iinc (v := (nI ((mh_cnt hw_ k) + 1))) (lv' := [(1, .int (nI ((mh_cnt hw_ k) + 1))), (0, .ref (ad 1)), (2, .int (nI k))]) hx hb dHd_countThere_22 hl (k := 1) rfl (by show nI (mh_cnt hw_ k) + 1 = _; exact nI_1 _) (by decide) rfl (fun ls hl => ?_)
          refine lv_iinc (v := (nI (k + 1))) (lv' := [(2, .int (nI (k + 1))), (1, .int (nI ((mh_cnt hw_ k) + 1))), (0, .ref (ad 1))]) hx hb dHd_countThere_25 hl (k := 2) rfl (by show nI k + 1 = _; exact nI_1 _) (by decide) rfl (fun ls hl => ?_)
          refine lv_goto (tgt := 4) hx hb dHd_countThere_28 (by decide) ?_
          exact ih (k + 1) _ (by omega) (by omega)  (by rw [e1]; exact (lv_sub hl [2, 1, 0] rfl))
  exact loop (n + 1) 0 _ (by omega) (Nat.zero_le _)  (lv_sub hl [2, 1, 0] rfl)
set_option maxHeartbeats 4000000 in
set_option maxRecDepth 100000 in
/-- Head.spindleAt(x, y, width) -/
theorem c_Head_spindleAt (l : Launch) (D : va_G) (g : Nat → ClassId) (ad : Nat → Nat) (w : Nat → Option va_E) (sz : Nat) (n : Nat) (hx_ hy_ hw_ : Nat → Int32) (f0 f1 f2 f3 : Int32) (a0 a1 a2 : Int32) (h1 : w 1 = some (.inr (1, [.ref (ad 2), .ref (ad 3), .ref (ad 4), .int f0, .int f1, .int f2, .int f3]))) (h2 : w 2 = some (.inl (g 0, n, .inl hx_))) (h3 : w 3 = some (.inl (g 0, n, .inl hy_))) (h4 : w 4 = some (.inl (g 0, n, .inl hw_))) (hn : n ≤ 16) : Met l yHd_spindleAt wsHd_spindleAt ({ frames := 0, cells := 0, slots := 0, locals := 0 } : Room) (va_Pc [.ref (ad 1), .int a0, .int a1, .int a2] (dq_S D vwCl (dq_t g) ad w sz)) (va_Qi (fun r u => r = dq_fst (fun k => decide (hx_ k = a0) && decide (hy_ k = a1) && decide (hw_ k = a2)) n ∧ u = w) (dq_B D vwCl (dq_t g) ad (dq_A ad w sz)) (dq_A ad w sz)) 0 0 (dq_A ad w sz) := by
  refine dq_ofi (cc := cHd_spindleAt) (maxL := 5) (by decide) rfl (Nat.le_of_ble_eq_true rfl) ?_
  intro p e s m below meth c A Q ls ⟨hx, hb, hml, hown, hts⟩ hnm hA hW hK hZ hl hret
  have hS : va_S A s.heap s.heap [] := va_S.rf
  have hl : lv_has ls 5 [(0, .ref (ad 1)), (1, .int a0), (2, .int a1), (3, .int a2)] := hl
  have hf9 := hts _ (List.mem_cons_of_mem _ tw1_38)
  have hf15 := hts _ (List.mem_cons_of_mem _ tw1_40)
  have hf18 := hts _ (List.mem_cons_of_mem _ tw1_42)
  have hinHd : ∀ w ∈ u_ws RHd THd 7, w ∈ wsHd_spindleAt := fun w h => List.mem_cons_of_mem _ (inHd w h)
  refine lv_iconst (v := (nI 0)) hx hb dHd_spindleAt_0 (by decide) ?_
  refine lv_istore (lv' := [(4, .int (nI 0)), (0, .ref (ad 1)), (1, .int a0), (2, .int a1), (3, .int a2)]) hx hb dHd_spindleAt_1 hl (by decide) rfl (fun ls hl => ?_)
  have loop : ∀ (j : Nat) (k : Nat) (ls : Array Slot), n < k + j → k ≤ n → (∀ i, i < k → (fun k => decide (hx_ k = a0) && decide (hy_ k = a1) && decide (hw_ k = a2)) i = false) → lv_has ls 5 [(0, .ref (ad 1)), (1, .int a0), (2, .int a1), (3, .int a2), (4, .int (nI k))] → W p l e ({ frames := 0, cells := 0, slots := 0, locals := 0 } : Room) s m ([.ref (ad 1), .int a0, .int a1, .int a2] : List Value).toArray below meth c s.heap [] 0 0 Q (F0 m 3 ls []) := by
    intro j
    induction j with
    | zero => intro k ls hj hk hb9  hl; exact absurd hj (by omega)
    | succ j ih =>
      intro k ls hj hk hb9  hl
      refine lv_iload hx hb dHd_spindleAt_3 (lv_at hl 4 rfl) ?_
      refine lv_aload_n hx hb dHd_spindleAt_5 rfl (lv_at hl 0 rfl) ?_
      refine dq_get (D := D) (ci := 1) (v := .ref (ad 4)) (C := RHd) (T := THd) (N := 7) hx hb hts hinHd hown hK hW 1 h1 rfl 2 (by decide) hf18 (fun _ h9 => h9) rfl dHd_spindleAt_6 ?_
      refine dq_alen hx hb hK hW 4 0 h4 rfl (v := nI n) rfl dHd_spindleAt_9 ?_
      refine lv_icmp_ge (tgt := 55) hx hb dHd_spindleAt_10 (by decide) (fun c1 => ?_) (fun c1 => ?_)
      · have hkn : k = n := by have q := (nI_leI (by omega) (by omega)).mp c1; omega
        refine lv_iconst (v := (-1)) hx hb dHd_spindleAt_55 (by decide) ?_
        exact hret _ _ _ _ _ _ ⟨(dq_fst_none (by rw [← hkn]; exact hb9)).symm, rfl⟩ hW hS dHd_spindleAt_56
      · have hkn : k < n := by rcases Nat.lt_or_ge k n with q | q; exact q; exact absurd (nI_le q (by omega)) c1
        refine lv_aload_n hx hb dHd_spindleAt_13 rfl (lv_at hl 0 rfl) ?_
        refine dq_get (D := D) (ci := 1) (v := .ref (ad 2)) (C := RHd) (T := THd) (N := 7) hx hb hts hinHd hown hK hW 1 h1 rfl 0 (by decide) hf9 (fun _ h9 => h9) rfl dHd_spindleAt_14 ?_
        refine lv_iload hx hb dHd_spindleAt_17 (lv_at hl 4 rfl) ?_
        refine dq_ialdN hx hb hK hW 2 0 h2 rfl k (by omega) (by omega) dHd_spindleAt_19 ?_
        refine lv_iload_n hx hb dHd_spindleAt_20 rfl (lv_at hl 1 rfl) ?_
        refine lv_icmp_ne (tgt := 49) hx hb dHd_spindleAt_21 (by decide) (fun c2 => ?_) (fun c2 => ?_)
        · have e1 : (fun k => decide (hx_ k = a0) && decide (hy_ k = a1) && decide (hw_ k = a2)) k = false := by simp [c2]
          refine lv_iinc (v := (nI (k + 1))) (lv' := [(4, .int (nI (k + 1))), (0, .ref (ad 1)), (1, .int a0), (2, .int a1), (3, .int a2)]) hx hb dHd_spindleAt_49 hl (k := 4) rfl (by show nI k + 1 = _; exact nI_1 _) (by decide) rfl (fun ls hl => ?_)
          refine lv_goto (tgt := 3) hx hb dHd_spindleAt_52 (by decide) ?_
          exact ih (k + 1) _ (by omega) (by omega) (lt_s hb9 e1)  (lv_sub hl [1, 2, 3, 4, 0] rfl)
        · refine lv_aload_n hx hb dHd_spindleAt_24 rfl (lv_at hl 0 rfl) ?_
          refine dq_get (D := D) (ci := 1) (v := .ref (ad 3)) (C := RHd) (T := THd) (N := 7) hx hb hts hinHd hown hK hW 1 h1 rfl 1 (by decide) hf15 (fun _ h9 => h9) rfl dHd_spindleAt_25 ?_
          refine lv_iload hx hb dHd_spindleAt_28 (lv_at hl 4 rfl) ?_
          refine dq_ialdN hx hb hK hW 3 0 h3 rfl k (by omega) (by omega) dHd_spindleAt_30 ?_
          refine lv_iload_n hx hb dHd_spindleAt_31 rfl (lv_at hl 2 rfl) ?_
          refine lv_icmp_ne (tgt := 49) hx hb dHd_spindleAt_32 (by decide) (fun c3 => ?_) (fun c3 => ?_)
          · have e1 : (fun k => decide (hx_ k = a0) && decide (hy_ k = a1) && decide (hw_ k = a2)) k = false := by simp [c3]
            refine lv_iinc (v := (nI (k + 1))) (lv' := [(4, .int (nI (k + 1))), (0, .ref (ad 1)), (1, .int a0), (2, .int a1), (3, .int a2)]) hx hb dHd_spindleAt_49 hl (k := 4) rfl (by show nI k + 1 = _; exact nI_1 _) (by decide) rfl (fun ls hl => ?_)
            refine lv_goto (tgt := 3) hx hb dHd_spindleAt_52 (by decide) ?_
            exact ih (k + 1) _ (by omega) (by omega) (lt_s hb9 e1)  (lv_sub hl [1, 2, 3, 4, 0] rfl)
          · refine lv_aload_n hx hb dHd_spindleAt_35 rfl (lv_at hl 0 rfl) ?_
            refine dq_get (D := D) (ci := 1) (v := .ref (ad 4)) (C := RHd) (T := THd) (N := 7) hx hb hts hinHd hown hK hW 1 h1 rfl 2 (by decide) hf18 (fun _ h9 => h9) rfl dHd_spindleAt_36 ?_
            refine lv_iload hx hb dHd_spindleAt_39 (lv_at hl 4 rfl) ?_
            refine dq_ialdN hx hb hK hW 4 0 h4 rfl k (by omega) (by omega) dHd_spindleAt_41 ?_
            refine lv_iload_n hx hb dHd_spindleAt_42 rfl (lv_at hl 3 rfl) ?_
            refine lv_icmp_ne (tgt := 49) hx hb dHd_spindleAt_43 (by decide) (fun c4 => ?_) (fun c4 => ?_)
            · have e1 : (fun k => decide (hx_ k = a0) && decide (hy_ k = a1) && decide (hw_ k = a2)) k = false := by simp [c4]
              refine lv_iinc (v := (nI (k + 1))) (lv' := [(4, .int (nI (k + 1))), (0, .ref (ad 1)), (1, .int a0), (2, .int a1), (3, .int a2)]) hx hb dHd_spindleAt_49 hl (k := 4) rfl (by show nI k + 1 = _; exact nI_1 _) (by decide) rfl (fun ls hl => ?_)
              refine lv_goto (tgt := 3) hx hb dHd_spindleAt_52 (by decide) ?_
              exact ih (k + 1) _ (by omega) (by omega) (lt_s hb9 e1)  (lv_sub hl [1, 2, 3, 4, 0] rfl)
            · have e1 : (fun k => decide (hx_ k = a0) && decide (hy_ k = a1) && decide (hw_ k = a2)) k = true := by simp [c2, c3, c4]
              refine lv_iload hx hb dHd_spindleAt_46 (lv_at hl 4 rfl) ?_
              exact hret _ _ _ _ _ _ ⟨(dq_fst_at hkn e1 hb9).symm, rfl⟩ hW hS dHd_spindleAt_48
  exact loop (n + 1) 0 _ (by omega) (Nat.zero_le _) lt_0  (lv_sub hl [1, 2, 3, 4, 0] rfl)
set_option maxHeartbeats 4000000 in
set_option maxRecDepth 100000 in
/-- Head.measureFrame() -/
theorem c_Head_measureFrame (l : Launch) (D : va_G) (g : Nat → ClassId) (ad : Nat → Nat) (w : Nat → Option va_E) (sz : Nat) (n : Nat) (hx_ hy_ hw_ : Nat → Int32) (f0 f1 f2 f3 : Int32) (h1 : w 1 = some (.inr (1, [.ref (ad 2), .ref (ad 3), .ref (ad 4), .int f0, .int f1, .int f2, .int f3]))) (h2 : w 2 = some (.inl (g 0, n, .inl hx_))) (h3 : w 3 = some (.inl (g 0, n, .inl hy_))) (h4 : w 4 = some (.inl (g 0, n, .inl hw_))) (hn : n ≤ 16) : Met l yHd_measureFrame wsHd_measureFrame ({ frames := 1, cells := 0, slots := 0, locals := 24 } : Room) (va_Pc [.ref (ad 1)] (dq_S D vwCl (dq_t g) ad w sz)) (va_Qv (fun u => u = dq_U w 1 (.inr (1, [.ref (ad 2), .ref (ad 3), .ref (ad 4), .int (mh_lo hw_ hx_ n - 1), .int (mh_lo hw_ hy_ n - 1), .int (mh_hi hw_ hx_ n + 1), .int (mh_hi hw_ hy_ n + 1)]))) (dq_B D vwCl (dq_t g) ad (dq_A ad w sz)) (dq_A ad w sz)) 0 0 (dq_A ad w sz) := by
  refine dq_ofv (cc := cHd_measureFrame) (maxL := 6) (by decide) rfl (Nat.le_of_ble_eq_true rfl) ?_
  intro p e s m below meth c A Q ls ⟨hx, hb, hml, hown, hts⟩ hnm hA hW hK hZ hl hret
  have hS : va_S A s.heap s.heap [] := va_S.rf
  have hl : lv_has ls 6 [(0, .ref (ad 1))] := hl
  have hf9 := hts _ (List.mem_cons_of_mem _ tw1_38)
  have hf15 := hts _ (List.mem_cons_of_mem _ tw1_40)
  have hf18 := hts _ (List.mem_cons_of_mem _ tw1_42)
  have hf33 := hts _ (List.mem_cons_of_mem _ tw1_46)
  have hf37 := hts _ (List.mem_cons_of_mem _ tw1_48)
  have hf40 := hts _ (List.mem_cons_of_mem _ tw1_50)
  have hf43 := hts _ (List.mem_cons_of_mem _ tw1_52)
  have hinHd : ∀ w ∈ u_ws RHd THd 7, w ∈ wsHd_measureFrame := fun w h => List.mem_cons_of_mem _ (inHd w h)
  refine lv_sipush (v := (10000)) hx hb dHd_measureFrame_0 (by decide) ?_
  refine lv_istore_n (lv' := [(1, .int (10000)), (0, .ref (ad 1))]) hx hb dHd_measureFrame_3 rfl hl (by decide) rfl (fun ls hl => ?_)
  refine lv_sipush (v := (10000)) hx hb dHd_measureFrame_4 (by decide) ?_
  refine lv_istore_n (lv' := [(2, .int (10000)), (1, .int (10000)), (0, .ref (ad 1))]) hx hb dHd_measureFrame_7 rfl hl (by decide) rfl (fun ls hl => ?_)
  refine lv_sipush (v := (-10000)) hx hb dHd_measureFrame_8 (by decide) ?_
  refine lv_istore_n (lv' := [(3, .int (-10000)), (2, .int (10000)), (1, .int (10000)), (0, .ref (ad 1))]) hx hb dHd_measureFrame_11 rfl hl (by decide) rfl (fun ls hl => ?_)
  refine lv_sipush (v := (-10000)) hx hb dHd_measureFrame_12 (by decide) ?_
  refine lv_istore (lv' := [(4, .int (-10000)), (3, .int (-10000)), (2, .int (10000)), (1, .int (10000)), (0, .ref (ad 1))]) hx hb dHd_measureFrame_15 hl (by decide) rfl (fun ls hl => ?_)
  refine lv_iconst (v := (nI 0)) hx hb dHd_measureFrame_17 (by decide) ?_
  refine lv_istore (lv' := [(5, .int (nI 0)), (4, .int (-10000)), (3, .int (-10000)), (2, .int (10000)), (1, .int (10000)), (0, .ref (ad 1))]) hx hb dHd_measureFrame_18 hl (by decide) rfl (fun ls hl => ?_)
  have loop : ∀ (j : Nat) (k : Nat) (ls : Array Slot), n < k + j → k ≤ n → lv_has ls 6 [(0, .ref (ad 1)), (1, .int (mh_lo hw_ hx_ k)), (2, .int (mh_lo hw_ hy_ k)), (3, .int (mh_hi hw_ hx_ k)), (4, .int (mh_hi hw_ hy_ k)), (5, .int (nI k))] → W p l e ({ frames := 1, cells := 0, slots := 0, locals := 24 } : Room) s m ([.ref (ad 1)] : List Value).toArray below meth c s.heap [] 0 0 Q (F0 m 20 ls []) := by
    intro j
    induction j with
    | zero => intro k ls hj hk  hl; exact absurd hj (by omega)
    | succ j ih =>
      intro k ls hj hk  hl
      refine lv_iload hx hb dHd_measureFrame_20 (lv_at hl 5 rfl) ?_
      refine lv_aload_n hx hb dHd_measureFrame_22 rfl (lv_at hl 0 rfl) ?_
      refine dq_get (D := D) (ci := 1) (v := .ref (ad 4)) (C := RHd) (T := THd) (N := 7) hx hb hts hinHd hown hK hW 1 h1 rfl 2 (by decide) hf18 (fun _ h9 => h9) rfl dHd_measureFrame_23 ?_
      refine dq_alen hx hb hK hW 4 0 h4 rfl (v := nI n) rfl dHd_measureFrame_26 ?_
      refine lv_icmp_ge (tgt := 96) hx hb dHd_measureFrame_27 (by decide) (fun c1 => ?_) (fun c1 => ?_)
      · have hkn : n = k := by have q := (nI_leI (by omega) (by omega)).mp c1; omega
        subst hkn
        refine lv_aload_n hx hb dHd_measureFrame_96 rfl (lv_at hl 0 rfl) ?_
        refine lv_iload_n hx hb dHd_measureFrame_97 rfl (lv_at hl 1 rfl) ?_
        refine lv_iconst (v := (1)) hx hb dHd_measureFrame_98 (by decide) ?_
        refine lv_isub hx hb dHd_measureFrame_99 ?_
        refine dq_put (D := D) (ci := 1) (v := .int ((mh_lo hw_ hx_ n) - (1))) (ty := .int) (C := RHd) (T := THd) (N := 7) hx hb hts hinHd tyHd tyHd_ok nmHd hown hK hW hS 1 h1 rfl 3 (by decide) hf33 (fun _ h9 => h9) rfl (by decide +kernel) rfl rfl (Nat.le_of_ble_eq_true rfl) dHd_measureFrame_100 (fun H locs hW hS => ?_)
        refine lv_aload_n hx hb dHd_measureFrame_103 rfl (lv_at hl 0 rfl) ?_
        refine lv_iload_n hx hb dHd_measureFrame_104 rfl (lv_at hl 2 rfl) ?_
        refine lv_iconst (v := (1)) hx hb dHd_measureFrame_105 (by decide) ?_
        refine lv_isub hx hb dHd_measureFrame_106 ?_
        refine dq_put (D := D) (ci := 1) (v := .int ((mh_lo hw_ hy_ n) - (1))) (ty := .int) (C := RHd) (T := THd) (N := 7) hx hb hts hinHd tyHd tyHd_ok nmHd hown hK hW hS 1 dq_Us rfl 4 (by decide) hf37 (fun _ h9 => h9) rfl (by decide +kernel) rfl rfl (Nat.le_of_ble_eq_true rfl) dHd_measureFrame_107 (fun H locs hW hS => ?_)
        rw [dq_UU] at hW
        refine lv_aload_n hx hb dHd_measureFrame_110 rfl (lv_at hl 0 rfl) ?_
        refine lv_iload_n hx hb dHd_measureFrame_111 rfl (lv_at hl 3 rfl) ?_
        refine lv_iconst (v := (1)) hx hb dHd_measureFrame_112 (by decide) ?_
        refine lv_iadd hx hb dHd_measureFrame_113 ?_
        refine dq_put (D := D) (ci := 1) (v := .int ((mh_hi hw_ hx_ n) + (1))) (ty := .int) (C := RHd) (T := THd) (N := 7) hx hb hts hinHd tyHd tyHd_ok nmHd hown hK hW hS 1 dq_Us rfl 5 (by decide) hf40 (fun _ h9 => h9) rfl (by decide +kernel) rfl rfl (Nat.le_of_ble_eq_true rfl) dHd_measureFrame_114 (fun H locs hW hS => ?_)
        rw [dq_UU] at hW
        refine lv_aload_n hx hb dHd_measureFrame_117 rfl (lv_at hl 0 rfl) ?_
        refine lv_iload hx hb dHd_measureFrame_118 (lv_at hl 4 rfl) ?_
        refine lv_iconst (v := (1)) hx hb dHd_measureFrame_120 (by decide) ?_
        refine lv_iadd hx hb dHd_measureFrame_121 ?_
        refine dq_put (D := D) (ci := 1) (v := .int ((mh_hi hw_ hy_ n) + (1))) (ty := .int) (C := RHd) (T := THd) (N := 7) hx hb hts hinHd tyHd tyHd_ok nmHd hown hK hW hS 1 dq_Us rfl 6 (by decide) hf43 (fun _ h9 => h9) rfl (by decide +kernel) rfl rfl (Nat.le_of_ble_eq_true rfl) dHd_measureFrame_122 (fun H locs hW hS => ?_)
        rw [dq_UU] at hW
        exact hret _ _ _ _ _ rfl hW hS dHd_measureFrame_125
      · have hkn : k < n := by rcases Nat.lt_or_ge k n with q | q; exact q; exact absurd (nI_le q (by omega)) c1
        refine lv_aload_n hx hb dHd_measureFrame_30 rfl (lv_at hl 0 rfl) ?_
        refine dq_get (D := D) (ci := 1) (v := .ref (ad 4)) (C := RHd) (T := THd) (N := 7) hx hb hts hinHd hown hK hW 1 h1 rfl 2 (by decide) hf18 (fun _ h9 => h9) rfl dHd_measureFrame_31 ?_
        refine lv_iload hx hb dHd_measureFrame_34 (lv_at hl 5 rfl) ?_
        refine dq_ialdN hx hb hK hW 4 0 h4 rfl k (by omega) (by omega) dHd_measureFrame_36 ?_
        refine lv_if_le (tgt := 90) hx hb dHd_measureFrame_37 (by decide) (fun c2 => ?_) (fun c2 => ?_)
        · have e0 : mh_lo hw_ hx_ (k + 1) = mh_lo hw_ hx_ k := if_pos c2
          have e1 : mh_lo hw_ hy_ (k + 1) = mh_lo hw_ hy_ k := if_pos c2
          have e2 : mh_hi hw_ hx_ (k + 1) = mh_hi hw_ hx_ k := if_pos c2
          have e3 : mh_hi hw_ hy_ (k + 1) = mh_hi hw_ hy_ k := if_pos c2
          refine lv_iinc (v := (nI (k + 1))) (lv' := [(5, .int (nI (k + 1))), (0, .ref (ad 1)), (1, .int (mh_lo hw_ hx_ k)), (2, .int (mh_lo hw_ hy_ k)), (3, .int (mh_hi hw_ hx_ k)), (4, .int (mh_hi hw_ hy_ k))]) hx hb dHd_measureFrame_90 hl (k := 5) rfl (by show nI k + 1 = _; exact nI_1 _) (by decide) rfl (fun ls hl => ?_)
          refine lv_goto (tgt := 20) hx hb dHd_measureFrame_93 (by decide) ?_
          exact ih (k + 1) _ (by omega) (by omega)  (by rw [e0, e1, e2, e3]; exact (lv_sub hl [1, 2, 3, 4, 5, 0] rfl))
        · have e0 : mh_lo hw_ hx_ (k + 1) = (if hx_ k < mh_lo hw_ hx_ k then hx_ k else mh_lo hw_ hx_ k) := if_neg c2
          have e1 : mh_lo hw_ hy_ (k + 1) = (if hy_ k < mh_lo hw_ hy_ k then hy_ k else mh_lo hw_ hy_ k) := if_neg c2
          have e2 : mh_hi hw_ hx_ (k + 1) = (if mh_hi hw_ hx_ k < hx_ k then hx_ k else mh_hi hw_ hx_ k) := if_neg c2
          have e3 : mh_hi hw_ hy_ (k + 1) = (if mh_hi hw_ hy_ k < hy_ k then hy_ k else mh_hi hw_ hy_ k) := if_neg c2
          refine lv_iload_n hx hb dHd_measureFrame_40 rfl (lv_at hl 1 rfl) ?_
          refine lv_aload_n hx hb dHd_measureFrame_41 rfl (lv_at hl 0 rfl) ?_
          refine dq_get (D := D) (ci := 1) (v := .ref (ad 2)) (C := RHd) (T := THd) (N := 7) hx hb hts hinHd hown hK hW 1 h1 rfl 0 (by decide) hf9 (fun _ h9 => h9) rfl dHd_measureFrame_42 ?_
          refine lv_iload hx hb dHd_measureFrame_45 (lv_at hl 5 rfl) ?_
          refine dq_ialdN hx hb hK hW 2 0 h2 rfl k (by omega) (by omega) dHd_measureFrame_47 ?_
          refine va_mmin hx hb (by rw [hml]; exact hl.1.symm) hown (hts _ (List.mem_cons_of_mem _ tw2_226)) (hts _ (List.mem_cons_of_mem _ tw1_29)) (hts _ (List.mem_cons_of_mem _ tw1_3)) (hts _ (List.mem_cons_of_mem _ tw1_30)) (Nat.le_of_ble_eq_true rfl) (Nat.le_of_ble_eq_true rfl) (Nat.zero_le _) (Nat.zero_le _) dHd_measureFrame_48 ?_
          refine lv_istore_n (lv' := [(1, .int (if (hx_ k) < (mh_lo hw_ hx_ k) then (hx_ k) else (mh_lo hw_ hx_ k))), (0, .ref (ad 1)), (2, .int (mh_lo hw_ hy_ k)), (3, .int (mh_hi hw_ hx_ k)), (4, .int (mh_hi hw_ hy_ k)), (5, .int (nI k))]) hx hb dHd_measureFrame_51 rfl hl (by decide) rfl (fun ls hl => ?_)
          refine lv_iload_n hx hb dHd_measureFrame_52 rfl (lv_at hl 2 rfl) ?_
          refine lv_aload_n hx hb dHd_measureFrame_53 rfl (lv_at hl 1 rfl) ?_
          refine dq_get (D := D) (ci := 1) (v := .ref (ad 3)) (C := RHd) (T := THd) (N := 7) hx hb hts hinHd hown hK hW 1 h1 rfl 1 (by decide) hf15 (fun _ h9 => h9) rfl dHd_measureFrame_54 ?_
          refine lv_iload hx hb dHd_measureFrame_57 (lv_at hl 5 rfl) ?_
          refine dq_ialdN hx hb hK hW 3 0 h3 rfl k (by omega) (by omega) dHd_measureFrame_59 ?_
          refine va_mmin hx hb (by rw [hml]; exact hl.1.symm) hown (hts _ (List.mem_cons_of_mem _ tw2_226)) (hts _ (List.mem_cons_of_mem _ tw1_29)) (hts _ (List.mem_cons_of_mem _ tw1_3)) (hts _ (List.mem_cons_of_mem _ tw1_30)) (Nat.le_of_ble_eq_true rfl) (Nat.le_of_ble_eq_true rfl) (Nat.zero_le _) (Nat.zero_le _) dHd_measureFrame_60 ?_
          refine lv_istore_n (lv' := [(2, .int (if (hy_ k) < (mh_lo hw_ hy_ k) then (hy_ k) else (mh_lo hw_ hy_ k))), (1, .int (if (hx_ k) < (mh_lo hw_ hx_ k) then (hx_ k) else (mh_lo hw_ hx_ k))), (0, .ref (ad 1)), (3, .int (mh_hi hw_ hx_ k)), (4, .int (mh_hi hw_ hy_ k)), (5, .int (nI k))]) hx hb dHd_measureFrame_63 rfl hl (by decide) rfl (fun ls hl => ?_)
          refine lv_iload_n hx hb dHd_measureFrame_64 rfl (lv_at hl 3 rfl) ?_
          refine lv_aload_n hx hb dHd_measureFrame_65 rfl (lv_at hl 2 rfl) ?_
          refine dq_get (D := D) (ci := 1) (v := .ref (ad 2)) (C := RHd) (T := THd) (N := 7) hx hb hts hinHd hown hK hW 1 h1 rfl 0 (by decide) hf9 (fun _ h9 => h9) rfl dHd_measureFrame_66 ?_
          refine lv_iload hx hb dHd_measureFrame_69 (lv_at hl 5 rfl) ?_
          refine dq_ialdN hx hb hK hW 2 0 h2 rfl k (by omega) (by omega) dHd_measureFrame_71 ?_
          refine va_mmax hx hb (by rw [hml]; exact hl.1.symm) hown (hts _ (List.mem_cons_of_mem _ tw2_227)) (hts _ (List.mem_cons_of_mem _ tw1_32)) (hts _ (List.mem_cons_of_mem _ tw1_3)) (hts _ (List.mem_cons_of_mem _ tw1_33)) (Nat.le_of_ble_eq_true rfl) (Nat.le_of_ble_eq_true rfl) (Nat.zero_le _) (Nat.zero_le _) dHd_measureFrame_72 ?_
          refine lv_istore_n (lv' := [(3, .int (if (mh_hi hw_ hx_ k) < (hx_ k) then (hx_ k) else (mh_hi hw_ hx_ k))), (2, .int (if (hy_ k) < (mh_lo hw_ hy_ k) then (hy_ k) else (mh_lo hw_ hy_ k))), (1, .int (if (hx_ k) < (mh_lo hw_ hx_ k) then (hx_ k) else (mh_lo hw_ hx_ k))), (0, .ref (ad 1)), (4, .int (mh_hi hw_ hy_ k)), (5, .int (nI k))]) hx hb dHd_measureFrame_75 rfl hl (by decide) rfl (fun ls hl => ?_)
          refine lv_iload hx hb dHd_measureFrame_76 (lv_at hl 4 rfl) ?_
          refine lv_aload_n hx hb dHd_measureFrame_78 rfl (lv_at hl 3 rfl) ?_
          refine dq_get (D := D) (ci := 1) (v := .ref (ad 3)) (C := RHd) (T := THd) (N := 7) hx hb hts hinHd hown hK hW 1 h1 rfl 1 (by decide) hf15 (fun _ h9 => h9) rfl dHd_measureFrame_79 ?_
          refine lv_iload hx hb dHd_measureFrame_82 (lv_at hl 5 rfl) ?_
          refine dq_ialdN hx hb hK hW 3 0 h3 rfl k (by omega) (by omega) dHd_measureFrame_84 ?_
          refine va_mmax hx hb (by rw [hml]; exact hl.1.symm) hown (hts _ (List.mem_cons_of_mem _ tw2_227)) (hts _ (List.mem_cons_of_mem _ tw1_32)) (hts _ (List.mem_cons_of_mem _ tw1_3)) (hts _ (List.mem_cons_of_mem _ tw1_33)) (Nat.le_of_ble_eq_true rfl) (Nat.le_of_ble_eq_true rfl) (Nat.zero_le _) (Nat.zero_le _) dHd_measureFrame_85 ?_
          refine lv_istore (lv' := [(4, .int (if (mh_hi hw_ hy_ k) < (hy_ k) then (hy_ k) else (mh_hi hw_ hy_ k))), (3, .int (if (mh_hi hw_ hx_ k) < (hx_ k) then (hx_ k) else (mh_hi hw_ hx_ k))), (2, .int (if (hy_ k) < (mh_lo hw_ hy_ k) then (hy_ k) else (mh_lo hw_ hy_ k))), (1, .int (if (hx_ k) < (mh_lo hw_ hx_ k) then (hx_ k) else (mh_lo hw_ hx_ k))), (0, .ref (ad 1)), (5, .int (nI k))]) hx hb dHd_measureFrame_88 hl (by decide) rfl (fun ls hl => ?_)
          refine lv_iinc (v := (nI (k + 1))) (lv' := [(5, .int (nI (k + 1))), (4, .int (if (mh_hi hw_ hy_ k) < (hy_ k) then (hy_ k) else (mh_hi hw_ hy_ k))), (3, .int (if (mh_hi hw_ hx_ k) < (hx_ k) then (hx_ k) else (mh_hi hw_ hx_ k))), (2, .int (if (hy_ k) < (mh_lo hw_ hy_ k) then (hy_ k) else (mh_lo hw_ hy_ k))), (1, .int (if (hx_ k) < (mh_lo hw_ hx_ k) then (hx_ k) else (mh_lo hw_ hx_ k))), (0, .ref (ad 1))]) hx hb dHd_measureFrame_90 hl (k := 5) rfl (by show nI k + 1 = _; exact nI_1 _) (by decide) rfl (fun ls hl => ?_)
          refine lv_goto (tgt := 20) hx hb dHd_measureFrame_93 (by decide) ?_
          exact ih (k + 1) _ (by omega) (by omega)  (by rw [e0, e1, e2, e3]; exact (lv_sub hl [5, 4, 3, 2, 1, 0] rfl))
  exact loop (n + 1) 0 _ (by omega) (Nat.zero_le _)  (lv_sub hl [5, 4, 3, 2, 1, 0] rfl)
end
section
set_option maxHeartbeats 4000000 in
set_option maxRecDepth 100000 in
/-- Clamps.overlap -/
theorem c_Clamps_overlap (l : Launch) (D : va_G) (g : Nat → ClassId) (ad : Nat → Nat) (w : Nat → Option va_E) (sz : Nat) (a0 a1 a2 a3 : Int32)   : Met l yCl_overlap wsCl_overlap ({ frames := 1, cells := 0, slots := 0, locals := 24 } : Room) (va_Pc [.int a0, .int a1, .int a2, .int a3] (dq_S D vwCl (dq_t g) ad w sz)) (va_Qi (fun r u => r = dq_b (mc_ov a0 a1 a2 a3) ∧ u = w) (dq_B D vwCl (dq_t g) ad (dq_A ad w sz)) (dq_A ad w sz)) 0 0 (dq_A ad w sz) := by
  refine dq_ofz (cc := cCl_overlap) (maxL := 4) (by decide) rfl (Nat.le_of_ble_eq_true rfl) ?_
  intro p e s m below meth c A Q ls ⟨hx, hb, hml, hown, hts⟩ hnm hA hW hK hZ hl hret
  have hS : va_S A s.heap s.heap [] := va_S.rf
  have hl : lv_has ls 4 [(0, .int a0), (1, .int a1), (2, .int a2), (3, .int a3)] := hl
  refine lv_iload_n hx hb dCl_overlap_0 rfl (lv_at hl 0 rfl) ?_
  refine lv_iload_n hx hb dCl_overlap_1 rfl (lv_at hl 2 rfl) ?_
  refine va_mmax hx hb (by rw [hml]; exact hl.1.symm) hown (hts _ (List.mem_cons_of_mem _ tw2_21)) (hts _ (List.mem_cons_of_mem _ tw1_32)) (hts _ (List.mem_cons_of_mem _ tw1_3)) (hts _ (List.mem_cons_of_mem _ tw1_33)) (Nat.le_of_ble_eq_true rfl) (Nat.le_of_ble_eq_true rfl) (Nat.zero_le _) (Nat.zero_le _) dCl_overlap_2 ?_
  refine lv_iload_n hx hb dCl_overlap_5 rfl (lv_at hl 1 rfl) ?_
  refine lv_iload_n hx hb dCl_overlap_6 rfl (lv_at hl 3 rfl) ?_
  refine va_mmin hx hb (by rw [hml]; exact hl.1.symm) hown (hts _ (List.mem_cons_of_mem _ tw2_22)) (hts _ (List.mem_cons_of_mem _ tw1_29)) (hts _ (List.mem_cons_of_mem _ tw1_3)) (hts _ (List.mem_cons_of_mem _ tw1_30)) (Nat.le_of_ble_eq_true rfl) (Nat.le_of_ble_eq_true rfl) (Nat.zero_le _) (Nat.zero_le _) dCl_overlap_7 ?_
  refine lv_icmp_ge (tgt := 17) hx hb dCl_overlap_10 (by decide) (fun c1 => ?_) (fun c1 => ?_)
  · have e1 : mc_ov a0 a1 a2 a3 = false := decide_eq_false (fun h9 => absurd c1 (Int32.not_le.mpr h9))
    refine lv_iconst (v := (0)) hx hb dCl_overlap_17 (by decide) ?_
    exact hret _ _ _ _ _ _ ⟨by rw [e1]; rfl, rfl⟩ (by decide) hW hS dCl_overlap_18
  · have e1 : mc_ov a0 a1 a2 a3 = true := decide_eq_true (Int32.not_le.mp c1)
    refine lv_iconst (v := (1)) hx hb dCl_overlap_13 (by decide) ?_
    refine lv_goto (tgt := 18) hx hb dCl_overlap_14 (by decide) ?_
    exact hret _ _ _ _ _ _ ⟨by rw [e1]; rfl, rfl⟩ (by decide) hW hS dCl_overlap_18
set_option maxHeartbeats 4000000 in
set_option maxRecDepth 100000 in
/-- Clamps.bar(head, x, y) -/
theorem c_Clamps_bar (l : Launch) (D : va_G) (g : Nat → ClassId) (ad : Nat → Nat) (w : Nat → Option va_E) (sz : Nat) (n : Nat) (hx_ hy_ hw_ : Nat → Int32) (f0 f1 f2 f3 : Int32) (cx0 cy0 cx1 cy1 : Nat → Int32) (cc_ : Nat) (a0 a1 : Int32) (h1 : w 1 = some (.inr (1, [.ref (ad 2), .ref (ad 3), .ref (ad 4), .int f0, .int f1, .int f2, .int f3]))) (k12 : w 12 = some (.inr (0, [.ref (ad 13), .ref (ad 14), .ref (ad 15), .ref (ad 16), .int (nI cc_)]))) (k13 : w 13 = some (.inl (g 0, 6, .inl cx0))) (k14 : w 14 = some (.inl (g 0, 6, .inl cy0))) (k15 : w 15 = some (.inl (g 0, 6, .inl cx1))) (k16 : w 16 = some (.inl (g 0, 6, .inl cy1))) (hc : cc_ ≤ 6) : Met l yCl_bar wsCl_bar ({ frames := 2, cells := 0, slots := 0, locals := 50 } : Room) (va_Pc [.ref (ad 12), .ref (ad 1), .int a0, .int a1] (dq_S D vwCl (dq_t g) ad w sz)) (va_Qi (fun r u => r = dq_b (mc_bar cx0 cy0 cx1 cy1 cc_ f0 f1 f2 f3 a0 a1) ∧ u = w) (dq_B D vwCl (dq_t g) ad (dq_A ad w sz)) (dq_A ad w sz)) 0 0 (dq_A ad w sz) := by
  refine dq_ofz (cc := cCl_bar) (maxL := 5) (by decide) rfl (Nat.le_of_ble_eq_true rfl) ?_
  intro p e s m below meth c A Q ls ⟨hx, hb, hml, hown, hts⟩ hnm hA hW hK hZ hl hret
  have hS : va_S A s.heap s.heap [] := va_S.rf
  have hl : lv_has ls 5 [(0, .ref (ad 12)), (1, .ref (ad 1)), (2, .int a0), (3, .int a1)] := hl
  have hf9 := hts _ (List.mem_cons_of_mem _ tw1_113)
  have hf15 := hts _ (List.mem_cons_of_mem _ tw1_114)
  have hf18 := hts _ (List.mem_cons_of_mem _ tw1_115)
  have hf21 := hts _ (List.mem_cons_of_mem _ tw1_116)
  have hf24 := hts _ (List.mem_cons_of_mem _ tw1_117)
  have hf28 := hts _ (List.mem_cons_of_mem _ tw1_45)
  have hf33 := hts _ (List.mem_cons_of_mem _ tw1_49)
  have hf40 := hts _ (List.mem_cons_of_mem _ tw1_47)
  have hf43 := hts _ (List.mem_cons_of_mem _ tw1_51)
  have hinCl : ∀ w ∈ u_ws RCl TCl 5, w ∈ wsCl_bar := fun w h => List.mem_cons_of_mem _ (inCl w h)
  have hinHd : ∀ w ∈ u_ws RHd THd 7, w ∈ wsCl_bar := fun w h => List.mem_cons_of_mem _ (inHd w h)
  refine lv_iconst (v := (nI 0)) hx hb dCl_bar_0 (by decide) ?_
  refine lv_istore (lv' := [(4, .int (nI 0)), (0, .ref (ad 12)), (1, .ref (ad 1)), (2, .int a0), (3, .int a1)]) hx hb dCl_bar_1 hl (by decide) rfl (fun ls hl => ?_)
  have loop : ∀ (j : Nat) (k : Nat) (H : Heap) (locs : List Loc) (ls : Array Slot), cc_ < k + j → k ≤ cc_ → (∀ i, i < k → (fun i => mc_ov (cx0 i) (cx1 i) (a0 + f0) (a0 + f2) && mc_ov (cy0 i) (cy1 i) (a1 + f1) (a1 + f3)) i = false) → dq_W D vwCl ad (w) A H → va_S A s.heap H locs → lv_has ls 5 [(0, .ref (ad 12)), (1, .ref (ad 1)), (2, .int a0), (3, .int a1), (4, .int (nI k))] → W p l e ({ frames := 2, cells := 0, slots := 0, locals := 50 } : Room) s m ([.ref (ad 12), .ref (ad 1), .int a0, .int a1] : List Value).toArray below meth c H locs 0 0 Q (F0 m 3 ls []) := by
    intro j
    induction j with
    | zero => intro k H locs ls hj hk hb9 hW hS hl; exact absurd hj (by omega)
    | succ j ih =>
      intro k H locs ls hj hk hb9 hW hS hl
      refine lv_iload hx hb dCl_bar_3 (lv_at hl 4 rfl) ?_
      refine lv_aload_n hx hb dCl_bar_5 rfl (lv_at hl 0 rfl) ?_
      refine dq_get (D := D) (ci := 0) (v := .int (nI cc_)) (C := RCl) (T := TCl) (N := 5) hx hb hts hinCl hown hK hW 12 k12 rfl 4 (by decide) hf24 (fun _ h9 => h9) rfl dCl_bar_6 ?_
      refine lv_icmp_ge (tgt := 84) hx hb dCl_bar_9 (by decide) (fun c1 => ?_) (fun c1 => ?_)
      · have hkn : k = cc_ := by have q := (nI_leI (by omega) (by omega)).mp c1; omega
        refine lv_iconst (v := (0)) hx hb dCl_bar_84 (by decide) ?_
        have e9 : mc_bar cx0 cy0 cx1 cy1 cc_ f0 f1 f2 f3 a0 a1 = false := dq_any_f (by rw [← hkn]; exact hb9)
        exact hret _ _ _ _ _ _ ⟨by rw [e9]; rfl, rfl⟩ (by decide) hW hS dCl_bar_85
      · have hkn : k < cc_ := by rcases Nat.lt_or_ge k cc_ with q | q; exact q; exact absurd (nI_le q (by omega)) c1
        refine lv_aload_n hx hb dCl_bar_12 rfl (lv_at hl 0 rfl) ?_
        refine dq_get (D := D) (ci := 0) (v := .ref (ad 13)) (C := RCl) (T := TCl) (N := 5) hx hb hts hinCl hown hK hW 12 k12 rfl 0 (by decide) hf9 (fun _ h9 => h9) rfl dCl_bar_13 ?_
        refine lv_iload hx hb dCl_bar_16 (lv_at hl 4 rfl) ?_
        refine dq_ialdN hx hb hK hW 13 0 k13 rfl k (by omega) (by omega) dCl_bar_18 ?_
        refine lv_aload_n hx hb dCl_bar_19 rfl (lv_at hl 0 rfl) ?_
        refine dq_get (D := D) (ci := 0) (v := .ref (ad 15)) (C := RCl) (T := TCl) (N := 5) hx hb hts hinCl hown hK hW 12 k12 rfl 2 (by decide) hf18 (fun _ h9 => h9) rfl dCl_bar_20 ?_
        refine lv_iload hx hb dCl_bar_23 (lv_at hl 4 rfl) ?_
        refine dq_ialdN hx hb hK hW 15 0 k15 rfl k (by omega) (by omega) dCl_bar_25 ?_
        refine lv_iload_n hx hb dCl_bar_26 rfl (lv_at hl 2 rfl) ?_
        refine lv_aload_n hx hb dCl_bar_27 rfl (lv_at hl 1 rfl) ?_
        refine dq_get (D := D) (ci := 1) (v := .int f0) (C := RHd) (T := THd) (N := 7) hx hb hts hinHd hown hK hW 1 h1 rfl 3 (by decide) hf28 (fun _ h9 => h9) rfl dCl_bar_28 ?_
        refine lv_iadd hx hb dCl_bar_31 ?_
        refine lv_iload_n hx hb dCl_bar_32 rfl (lv_at hl 2 rfl) ?_
        refine lv_aload_n hx hb dCl_bar_33 rfl (lv_at hl 1 rfl) ?_
        refine dq_get (D := D) (ci := 1) (v := .int f2) (C := RHd) (T := THd) (N := 7) hx hb hts hinHd hown hK hW 1 h1 rfl 5 (by decide) hf33 (fun _ h9 => h9) rfl dCl_bar_34 ?_
        refine lv_iadd hx hb dCl_bar_37 ?_
        refine dq_calli (va_runS (As := [.int (cx0 k), .int (cx1 k), .int (a0 + f0), .int (a0 + f2)]) (rest := []) ⟨hx, hb, hml, hown, hts⟩ (c_Clamps_overlap l D g ad (w) _ (cx0 k) (cx1 k) (a0 + f0) (a0 + f2)  ) (cwS 4 hts (dq_giS2 tw2_18 tw2_19 tw1_5 tw2_20) rfl rfl rfl (by decide +kernel) ⟨Nat.le_of_ble_eq_true rfl, Nat.le_of_ble_eq_true rfl⟩) (dq_preS hW hS hA hK hZ) rfl rfl hl.1 rfl (lv_room (Nat.le_of_ble_eq_true rfl)) dCl_bar_38 ⟨Nat.zero_le _, Nat.zero_le _⟩) hW hS hA (fun r1 u_9 H locs hp1 hW hS hz9 => ?_)
        obtain ⟨hr1, hu9⟩ := hp1
        rw [hu9] at hW
        refine lv_if_eq (tgt := 78) hx hb dCl_bar_41 (by decide) (fun c2 => ?_) (fun c2 => ?_)
        · have e1 : (fun i => mc_ov (cx0 i) (cx1 i) (a0 + f0) (a0 + f2) && mc_ov (cy0 i) (cy1 i) (a1 + f1) (a1 + f3)) k = false := by rw [Bool.and_eq_false_iff]; exact Or.inl (dq_b_f (by rw [← hr1]; exact c2))
          refine lv_iinc (v := (nI (k + 1))) (lv' := [(4, .int (nI (k + 1))), (0, .ref (ad 12)), (1, .ref (ad 1)), (2, .int a0), (3, .int a1)]) hx hb dCl_bar_78 hl (k := 4) rfl (by show nI k + 1 = _; exact nI_1 _) (by decide) rfl (fun ls hl => ?_)
          refine lv_goto (tgt := 3) hx hb dCl_bar_81 (by decide) ?_
          exact ih (k + 1) _ _ _ (by omega) (by omega) (lt_s hb9 e1) hW hS (lv_sub hl [1, 2, 3, 4, 0] rfl)
        · refine lv_aload_n hx hb dCl_bar_44 rfl (lv_at hl 0 rfl) ?_
          refine dq_get (D := D) (ci := 0) (v := .ref (ad 14)) (C := RCl) (T := TCl) (N := 5) hx hb hts hinCl hown hK hW 12 k12 rfl 1 (by decide) hf15 (fun _ h9 => h9) rfl dCl_bar_45 ?_
          refine lv_iload hx hb dCl_bar_48 (lv_at hl 4 rfl) ?_
          refine dq_ialdN hx hb hK hW 14 0 k14 rfl k (by omega) (by omega) dCl_bar_50 ?_
          refine lv_aload_n hx hb dCl_bar_51 rfl (lv_at hl 0 rfl) ?_
          refine dq_get (D := D) (ci := 0) (v := .ref (ad 16)) (C := RCl) (T := TCl) (N := 5) hx hb hts hinCl hown hK hW 12 k12 rfl 3 (by decide) hf21 (fun _ h9 => h9) rfl dCl_bar_52 ?_
          refine lv_iload hx hb dCl_bar_55 (lv_at hl 4 rfl) ?_
          refine dq_ialdN hx hb hK hW 16 0 k16 rfl k (by omega) (by omega) dCl_bar_57 ?_
          refine lv_iload_n hx hb dCl_bar_58 rfl (lv_at hl 3 rfl) ?_
          refine lv_aload_n hx hb dCl_bar_59 rfl (lv_at hl 1 rfl) ?_
          refine dq_get (D := D) (ci := 1) (v := .int f1) (C := RHd) (T := THd) (N := 7) hx hb hts hinHd hown hK hW 1 h1 rfl 4 (by decide) hf40 (fun _ h9 => h9) rfl dCl_bar_60 ?_
          refine lv_iadd hx hb dCl_bar_63 ?_
          refine lv_iload_n hx hb dCl_bar_64 rfl (lv_at hl 3 rfl) ?_
          refine lv_aload_n hx hb dCl_bar_65 rfl (lv_at hl 1 rfl) ?_
          refine dq_get (D := D) (ci := 1) (v := .int f3) (C := RHd) (T := THd) (N := 7) hx hb hts hinHd hown hK hW 1 h1 rfl 6 (by decide) hf43 (fun _ h9 => h9) rfl dCl_bar_66 ?_
          refine lv_iadd hx hb dCl_bar_69 ?_
          refine dq_calli (va_runS (As := [.int (cy0 k), .int (cy1 k), .int (a1 + f1), .int (a1 + f3)]) (rest := []) ⟨hx, hb, hml, hown, hts⟩ (c_Clamps_overlap l D g ad (w) _ (cy0 k) (cy1 k) (a1 + f1) (a1 + f3)  ) (cwS 4 hts (dq_giS2 tw2_18 tw2_19 tw1_5 tw2_20) rfl rfl rfl (by decide +kernel) ⟨Nat.le_of_ble_eq_true rfl, Nat.le_of_ble_eq_true rfl⟩) (dq_preS hW hS hA hK hZ) rfl rfl hl.1 rfl (lv_room (Nat.le_of_ble_eq_true rfl)) dCl_bar_70 ⟨Nat.zero_le _, Nat.zero_le _⟩) hW hS hA (fun r2 u_9 H locs hp2 hW hS hz9 => ?_)
          obtain ⟨hr2, hu9⟩ := hp2
          rw [hu9] at hW
          refine lv_if_eq (tgt := 78) hx hb dCl_bar_73 (by decide) (fun c3 => ?_) (fun c3 => ?_)
          · have e1 : (fun i => mc_ov (cx0 i) (cx1 i) (a0 + f0) (a0 + f2) && mc_ov (cy0 i) (cy1 i) (a1 + f1) (a1 + f3)) k = false := by rw [Bool.and_eq_false_iff]; exact Or.inr (dq_b_f (by rw [← hr2]; exact c3))
            refine lv_iinc (v := (nI (k + 1))) (lv' := [(4, .int (nI (k + 1))), (0, .ref (ad 12)), (1, .ref (ad 1)), (2, .int a0), (3, .int a1)]) hx hb dCl_bar_78 hl (k := 4) rfl (by show nI k + 1 = _; exact nI_1 _) (by decide) rfl (fun ls hl => ?_)
            refine lv_goto (tgt := 3) hx hb dCl_bar_81 (by decide) ?_
            exact ih (k + 1) _ _ _ (by omega) (by omega) (lt_s hb9 e1) hW hS (lv_sub hl [1, 2, 3, 4, 0] rfl)
          · refine lv_iconst (v := (1)) hx hb dCl_bar_76 (by decide) ?_
            have e1 : (fun i => mc_ov (cx0 i) (cx1 i) (a0 + f0) (a0 + f2) && mc_ov (cy0 i) (cy1 i) (a1 + f1) (a1 + f3)) k = true := by rw [Bool.and_eq_true]; exact ⟨dq_b_t (by rw [← hr1]; exact c2), dq_b_t (by rw [← hr2]; exact c3)⟩
            have e9 : mc_bar cx0 cy0 cx1 cy1 cc_ f0 f1 f2 f3 a0 a1 = true := dq_any_t hkn e1
            exact hret _ _ _ _ _ _ ⟨by rw [e9]; rfl, rfl⟩ (by decide) hW hS dCl_bar_77
  exact loop (cc_ + 1) 0 _ _ _ (by omega) (Nat.zero_le _) lt_0 hW hS (lv_sub hl [1, 2, 3, 4, 0] rfl)
set_option maxHeartbeats 4000000 in
set_option maxRecDepth 100000 in
/-- Part.alike(a, b) -/
theorem c_Part_alike (l : Launch) (D : va_G) (g : Nat → ClassId) (ad : Nat → Nat) (w : Nat → Option va_E) (sz : Nat) (px py pw pd pf pt : Nat → Int32) (pc_ : Nat) (i j_ : Nat) (p5 : w 5 = some (.inr (3, [.ref (ad 6), .ref (ad 7), .ref (ad 8), .ref (ad 9), .ref (ad 10), .ref (ad 11), .int (nI pc_)]))) (p6 : w 6 = some (.inl (g 0, 14, .inl px))) (p7 : w 7 = some (.inl (g 0, 14, .inl py))) (p8 : w 8 = some (.inl (g 0, 14, .inl pw))) (p9 : w 9 = some (.inl (g 0, 14, .inl pd))) (p10 : w 10 = some (.inl (g 0, 14, .inl pf))) (p11 : w 11 = some (.inl (g 1, 14, .inl pt))) (hi : i < 14) (hj : j_ < 14) : Met l yPt_alike wsPt_alike ({ frames := 0, cells := 0, slots := 0, locals := 0 } : Room) (va_Pc [.ref (ad 5), .int (nI i), .int (nI j_)] (dq_S D vwCl (dq_t g) ad w sz)) (va_Qi (fun r u => r = dq_b (ml_alike pd pf pt i j_) ∧ u = w) (dq_B D vwCl (dq_t g) ad (dq_A ad w sz)) (dq_A ad w sz)) 0 0 (dq_A ad w sz) := by
  refine dq_ofz (cc := cPt_alike) (maxL := 3) (by decide) rfl (Nat.le_of_ble_eq_true rfl) ?_
  intro p e s m below meth c A Q ls ⟨hx, hb, hml, hown, hts⟩ hnm hA hW hK hZ hl hret
  have hS : va_S A s.heap s.heap [] := va_S.rf
  have hl : lv_has ls 3 [(0, .ref (ad 5)), (1, .int (nI i)), (2, .int (nI j_))] := hl
  have hf21 := hts _ (List.mem_cons_of_mem _ tw1_83)
  have hf24 := hts _ (List.mem_cons_of_mem _ tw1_84)
  have hf27 := hts _ (List.mem_cons_of_mem _ tw1_86)
  have hinPt : ∀ w ∈ u_ws RPt TPt 7, w ∈ wsPt_alike := fun w h => List.mem_cons_of_mem _ (inPt w h)
  refine lv_aload_n hx hb dPt_alike_0 rfl (lv_at hl 0 rfl) ?_
  refine dq_get (D := D) (ci := 3) (v := .ref (ad 10)) (C := RPt) (T := TPt) (N := 7) hx hb hts hinPt hown hK hW 5 p5 rfl 4 (by decide) hf24 (fun _ h9 => h9) rfl dPt_alike_1 ?_
  refine lv_iload_n hx hb dPt_alike_4 rfl (lv_at hl 1 rfl) ?_
  refine dq_ialdN hx hb hK hW 10 0 p10 rfl i (by omega) (by omega) dPt_alike_5 ?_
  refine lv_aload_n hx hb dPt_alike_6 rfl (lv_at hl 0 rfl) ?_
  refine dq_get (D := D) (ci := 3) (v := .ref (ad 10)) (C := RPt) (T := TPt) (N := 7) hx hb hts hinPt hown hK hW 5 p5 rfl 4 (by decide) hf24 (fun _ h9 => h9) rfl dPt_alike_7 ?_
  refine lv_iload_n hx hb dPt_alike_10 rfl (lv_at hl 2 rfl) ?_
  refine dq_ialdN hx hb hK hW 10 0 p10 rfl j_ (by omega) (by omega) dPt_alike_11 ?_
  refine lv_icmp_ne (tgt := 30) hx hb dPt_alike_12 (by decide) (fun c1 => ?_) (fun c1 => ?_)
  · have e1 : ml_alike pd pf pt i j_ = false := by unfold ml_alike; simp [c1]
    refine lv_iconst (v := (0)) hx hb dPt_alike_30 (by decide) ?_
    exact hret _ _ _ _ _ _ ⟨by rw [e1]; rfl, rfl⟩ (by decide) hW hS dPt_alike_31
  · refine lv_aload_n hx hb dPt_alike_15 rfl (lv_at hl 0 rfl) ?_
    refine dq_get (D := D) (ci := 3) (v := .ref (ad 11)) (C := RPt) (T := TPt) (N := 7) hx hb hts hinPt hown hK hW 5 p5 rfl 5 (by decide) hf27 (fun _ h9 => h9) rfl dPt_alike_16 ?_
    refine lv_iload_n hx hb dPt_alike_19 rfl (lv_at hl 1 rfl) ?_
    refine dq_zaldN hx hb hK hW 11 1 p11 rfl i (by omega) (by omega) dPt_alike_20 ?_
    refine lv_aload_n hx hb dPt_alike_21 rfl (lv_at hl 0 rfl) ?_
    refine dq_get (D := D) (ci := 3) (v := .ref (ad 11)) (C := RPt) (T := TPt) (N := 7) hx hb hts hinPt hown hK hW 5 p5 rfl 5 (by decide) hf27 (fun _ h9 => h9) rfl dPt_alike_22 ?_
    refine lv_iload_n hx hb dPt_alike_25 rfl (lv_at hl 2 rfl) ?_
    refine dq_zaldN hx hb hK hW 11 1 p11 rfl j_ (by omega) (by omega) dPt_alike_26 ?_
    refine lv_icmp_eq (tgt := 32) hx hb dPt_alike_27 (by decide) (fun c2 => ?_) (fun c2 => ?_)
    · refine lv_aload_n hx hb dPt_alike_32 rfl (lv_at hl 0 rfl) ?_
      refine dq_get (D := D) (ci := 3) (v := .ref (ad 11)) (C := RPt) (T := TPt) (N := 7) hx hb hts hinPt hown hK hW 5 p5 rfl 5 (by decide) hf27 (fun _ h9 => h9) rfl dPt_alike_33 ?_
      refine lv_iload_n hx hb dPt_alike_36 rfl (lv_at hl 1 rfl) ?_
      refine dq_zaldN hx hb hK hW 11 1 p11 rfl i (by omega) (by omega) dPt_alike_37 ?_
      refine lv_if_ne (tgt := 56) hx hb dPt_alike_38 (by decide) (fun c3 => ?_) (fun c3 => ?_)
      · have e1 : ml_alike pd pf pt i j_ = true := by unfold ml_alike; simp [c1, ← c2, c3]
        refine lv_iconst (v := (1)) hx hb dPt_alike_56 (by decide) ?_
        refine lv_goto (tgt := 61) hx hb dPt_alike_57 (by decide) ?_
        exact hret _ _ _ _ _ _ ⟨by rw [e1]; rfl, rfl⟩ (by decide) hW hS dPt_alike_61
      · refine lv_aload_n hx hb dPt_alike_41 rfl (lv_at hl 0 rfl) ?_
        refine dq_get (D := D) (ci := 3) (v := .ref (ad 9)) (C := RPt) (T := TPt) (N := 7) hx hb hts hinPt hown hK hW 5 p5 rfl 3 (by decide) hf21 (fun _ h9 => h9) rfl dPt_alike_42 ?_
        refine lv_iload_n hx hb dPt_alike_45 rfl (lv_at hl 1 rfl) ?_
        refine dq_ialdN hx hb hK hW 9 0 p9 rfl i (by omega) (by omega) dPt_alike_46 ?_
        refine lv_aload_n hx hb dPt_alike_47 rfl (lv_at hl 0 rfl) ?_
        refine dq_get (D := D) (ci := 3) (v := .ref (ad 9)) (C := RPt) (T := TPt) (N := 7) hx hb hts hinPt hown hK hW 5 p5 rfl 3 (by decide) hf21 (fun _ h9 => h9) rfl dPt_alike_48 ?_
        refine lv_iload_n hx hb dPt_alike_51 rfl (lv_at hl 2 rfl) ?_
        refine dq_ialdN hx hb hK hW 9 0 p9 rfl j_ (by omega) (by omega) dPt_alike_52 ?_
        refine lv_icmp_ne (tgt := 60) hx hb dPt_alike_53 (by decide) (fun c4 => ?_) (fun c4 => ?_)
        · have e1 : ml_alike pd pf pt i j_ = false := by unfold ml_alike; simp [c3, c4]
          refine lv_iconst (v := (0)) hx hb dPt_alike_60 (by decide) ?_
          exact hret _ _ _ _ _ _ ⟨by rw [e1]; rfl, rfl⟩ (by decide) hW hS dPt_alike_61
        · have e1 : ml_alike pd pf pt i j_ = true := by unfold ml_alike; simp [c1, ← c2, c4]
          refine lv_iconst (v := (1)) hx hb dPt_alike_56 (by decide) ?_
          refine lv_goto (tgt := 61) hx hb dPt_alike_57 (by decide) ?_
          exact hret _ _ _ _ _ _ ⟨by rw [e1]; rfl, rfl⟩ (by decide) hW hS dPt_alike_61
    · have e1 : ml_alike pd pf pt i j_ = false := by unfold ml_alike; simp [c2]
      refine lv_iconst (v := (0)) hx hb dPt_alike_30 (by decide) ?_
      exact hret _ _ _ _ _ _ ⟨by rw [e1]; rfl, rfl⟩ (by decide) hW hS dPt_alike_31
set_option maxHeartbeats 4000000 in
set_option maxRecDepth 100000 in
/-- Part.spindleFor(h, head, x, y) -/
theorem c_Part_spindleFor (l : Launch) (D : va_G) (g : Nat → ClassId) (ad : Nat → Nat) (w : Nat → Option va_E) (sz : Nat) (n : Nat) (hx_ hy_ hw_ : Nat → Int32) (f0 f1 f2 f3 : Int32) (px py pw pd pf pt : Nat → Int32) (pc_ : Nat) (i : Nat) (a0 a1 : Int32) (h1 : w 1 = some (.inr (1, [.ref (ad 2), .ref (ad 3), .ref (ad 4), .int f0, .int f1, .int f2, .int f3]))) (h2 : w 2 = some (.inl (g 0, n, .inl hx_))) (h3 : w 3 = some (.inl (g 0, n, .inl hy_))) (h4 : w 4 = some (.inl (g 0, n, .inl hw_))) (p5 : w 5 = some (.inr (3, [.ref (ad 6), .ref (ad 7), .ref (ad 8), .ref (ad 9), .ref (ad 10), .ref (ad 11), .int (nI pc_)]))) (p6 : w 6 = some (.inl (g 0, 14, .inl px))) (p7 : w 7 = some (.inl (g 0, 14, .inl py))) (p8 : w 8 = some (.inl (g 0, 14, .inl pw))) (hn : n ≤ 16) (hi : i < 14) : Met l yPt_spindleFor wsPt_spindleFor ({ frames := 1, cells := 0, slots := 0, locals := 24 } : Room) (va_Pc [.ref (ad 5), .int (nI i), .ref (ad 1), .int a0, .int a1] (dq_S D vwCl (dq_t g) ad w sz)) (va_Qi (fun r u => r = dq_fst (fun k => decide (hx_ k = px i - a0) && decide (hy_ k = py i - a1) && decide (hw_ k = pw i)) n ∧ u = w) (dq_B D vwCl (dq_t g) ad (dq_A ad w sz)) (dq_A ad w sz)) 0 0 (dq_A ad w sz) := by
  refine dq_ofi (cc := cPt_spindleFor) (maxL := 5) (by decide) rfl (Nat.le_of_ble_eq_true rfl) ?_
  intro p e s m below meth c A Q ls ⟨hx, hb, hml, hown, hts⟩ hnm hA hW hK hZ hl hret
  have hS : va_S A s.heap s.heap [] := va_S.rf
  have hl : lv_has ls 5 [(0, .ref (ad 5)), (1, .int (nI i)), (2, .ref (ad 1)), (3, .int a0), (4, .int a1)] := hl
  have hf9 := hts _ (List.mem_cons_of_mem _ tw1_75)
  have hf15 := hts _ (List.mem_cons_of_mem _ tw1_78)
  have hf18 := hts _ (List.mem_cons_of_mem _ tw1_81)
  have hinPt : ∀ w ∈ u_ws RPt TPt 7, w ∈ wsPt_spindleFor := fun w h => List.mem_cons_of_mem _ (inPt w h)
  refine lv_aload_n hx hb dPt_spindleFor_0 rfl (lv_at hl 2 rfl) ?_
  refine lv_aload_n hx hb dPt_spindleFor_1 rfl (lv_at hl 0 rfl) ?_
  refine dq_get (D := D) (ci := 3) (v := .ref (ad 6)) (C := RPt) (T := TPt) (N := 7) hx hb hts hinPt hown hK hW 5 p5 rfl 0 (by decide) hf9 (fun _ h9 => h9) rfl dPt_spindleFor_2 ?_
  refine lv_iload_n hx hb dPt_spindleFor_5 rfl (lv_at hl 1 rfl) ?_
  refine dq_ialdN hx hb hK hW 6 0 p6 rfl i (by omega) (by omega) dPt_spindleFor_6 ?_
  refine lv_iload_n hx hb dPt_spindleFor_7 rfl (lv_at hl 3 rfl) ?_
  refine lv_isub hx hb dPt_spindleFor_8 ?_
  refine lv_aload_n hx hb dPt_spindleFor_9 rfl (lv_at hl 0 rfl) ?_
  refine dq_get (D := D) (ci := 3) (v := .ref (ad 7)) (C := RPt) (T := TPt) (N := 7) hx hb hts hinPt hown hK hW 5 p5 rfl 1 (by decide) hf15 (fun _ h9 => h9) rfl dPt_spindleFor_10 ?_
  refine lv_iload_n hx hb dPt_spindleFor_13 rfl (lv_at hl 1 rfl) ?_
  refine dq_ialdN hx hb hK hW 7 0 p7 rfl i (by omega) (by omega) dPt_spindleFor_14 ?_
  refine lv_iload hx hb dPt_spindleFor_15 (lv_at hl 4 rfl) ?_
  refine lv_isub hx hb dPt_spindleFor_17 ?_
  refine lv_aload_n hx hb dPt_spindleFor_18 rfl (lv_at hl 0 rfl) ?_
  refine dq_get (D := D) (ci := 3) (v := .ref (ad 8)) (C := RPt) (T := TPt) (N := 7) hx hb hts hinPt hown hK hW 5 p5 rfl 2 (by decide) hf18 (fun _ h9 => h9) rfl dPt_spindleFor_19 ?_
  refine lv_iload_n hx hb dPt_spindleFor_22 rfl (lv_at hl 1 rfl) ?_
  refine dq_ialdN hx hb hK hW 8 0 p8 rfl i (by omega) (by omega) dPt_spindleFor_23 ?_
  refine dq_calli (va_runV (As := [.int ((px i) - a0), .int ((py i) - a1), .int (pw i)]) (rest := []) ⟨hx, hb, hml, hown, hts⟩ (c_Head_spindleAt l D g ad (w) _ n hx_ hy_ hw_ f0 f1 f2 f3 (px i - a0) (py i - a1) (pw i) h1 h2 h3 h4 hn) (cwV 3 hts (dq_giV tw2_39 tw2_40 tw2_41 tw1_2 tw2_42) rfl rfl rfl (by decide +kernel) ⟨Nat.le_of_ble_eq_true rfl, Nat.le_of_ble_eq_true rfl⟩) (dq_preV (ci := 1) hW hS hA hK hZ h1 rfl rfl) rfl rfl hl.1 rfl (lv_room (Nat.le_of_ble_eq_true rfl)) dPt_spindleFor_24 ⟨Nat.zero_le _, Nat.zero_le _⟩) hW hS hA (fun r1 u_9 H locs hp1 hW hS hz9 => ?_)
  obtain ⟨hr1, hu9⟩ := hp1
  rw [hu9] at hW
  exact hret _ _ _ _ _ _ ⟨hr1, rfl⟩ hW hS dPt_spindleFor_27
set_option maxHeartbeats 4000000 in
set_option maxRecDepth 100000 in
/-- Places.insert(x, y) -/
theorem c_Places_insert (l : Launch) (D : va_G) (g : Nat → ClassId) (ad : Nat → Nat) (w : Nat → Option va_E) (sz : Nat) (h q : Nat) (X Y Dr : Nat → Int32) (a0 a1 : Int32) (l0 : w (30 + 4 * h) = some (.inr (4, [.ref (ad (31 + 4 * h)), .ref (ad (32 + 4 * h)), .ref (ad (33 + 4 * h)), .int (nI q)]))) (l1 : w (31 + 4 * h) = some (.inl (g 0, 16, .inl X))) (l2 : w (32 + 4 * h) = some (.inl (g 0, 16, .inl Y))) (hq : q ≤ 16) : Met l yPl_insert wsPl_insert ({ frames := 0, cells := 0, slots := 0, locals := 0 } : Room) (va_Pc [.ref (ad (30 + 4 * h)), .int a0, .int a1] (dq_S D vwCl (dq_t g) ad w sz)) (va_Qv (fun u => u = dq_U (dq_U (dq_U w (31 + 4 * h) (.inl (g 0, 16, .inl ((mp_ins (q, X, Y) a0 a1).2.1)))) (32 + 4 * h) (.inl (g 0, 16, .inl ((mp_ins (q, X, Y) a0 a1).2.2)))) (30 + 4 * h) (.inr (4, [.ref (ad (31 + 4 * h)), .ref (ad (32 + 4 * h)), .ref (ad (33 + 4 * h)), .int (nI (mp_ins (q, X, Y) a0 a1).1)]))) (dq_B D vwCl (dq_t g) ad (dq_A ad w sz)) (dq_A ad w sz)) 0 0 (dq_A ad w sz) := by
  refine dq_ofv (cc := cPl_insert) (maxL := 6) (by decide) rfl (Nat.le_of_ble_eq_true rfl) ?_
  intro p e s m below meth c A Q ls ⟨hx, hb, hml, hown, hts⟩ hnm hA hW hK hZ hl hret
  have hS : va_S A s.heap s.heap [] := va_S.rf
  have hl : lv_has ls 6 [(0, .ref (ad (30 + 4 * h))), (1, .int a0), (2, .int a1)] := hl
  have hf9 := hts _ (List.mem_cons_of_mem _ tw1_137)
  have hf15 := hts _ (List.mem_cons_of_mem _ tw1_139)
  have hf21 := hts _ (List.mem_cons_of_mem _ tw1_144)
  have hinPl : ∀ w ∈ u_ws RPl TPl 4, w ∈ wsPl_insert := fun w h => List.mem_cons_of_mem _ (inPl w h)
  have hid : w = dq_U (dq_U (dq_U w (31 + 4 * h) (.inl (g 0, 16, .inl X))) (32 + 4 * h) (.inl (g 0, 16, .inl Y))) (30 + 4 * h) (.inr (4, [.ref (ad (31 + 4 * h)), .ref (ad (32 + 4 * h)), .ref (ad (33 + 4 * h)), .int (nI q)])) := by rw [dq_Uid l1, dq_Uid l2, dq_Uid l0]
  have j96 : ∀ (t : Nat) (v : Int32) (ls : Array Slot), mp_at q X Y a0 a1 = t → t ≤ q → ¬ ((t < q ∧ X t = a0 ∧ Y t = a1) ∨ 16 ≤ q) → q < 16 → lv_has ls 6 [(0, .ref (ad (30 + 4 * h))), (1, .int a0), (2, .int a1), (3, .int (nI t)), (4, .int v)] → W p l e ({ frames := 0, cells := 0, slots := 0, locals := 0 } : Room) s m ([.ref (ad (30 + 4 * h)), .int a0, .int a1] : List Value).toArray below meth c s.heap [] 0 0 Q (F0 m 96 ls []) := by
    intro t v ls ht htq hno hq2  hl
    have hl : lv_has ls 6 [(0, .ref (ad (30 + 4 * h))), (1, .int a0), (2, .int a1), (3, .int (nI t))] := (lv_sub hl [0, 1, 2, 3] rfl)
    refine lv_aload_n hx hb dPl_insert_96 rfl (lv_at hl 0 rfl) ?_
    refine dq_get (D := D) (ci := 4) (v := .int (nI q)) (C := RPl) (T := TPl) (N := 4) hx hb hts hinPl hown hK hW (30 + 4 * h) l0 rfl 3 (by decide) hf21 (fun _ h9 => h9) rfl dPl_insert_97 ?_
    refine lv_istore (lv' := [(5, .int (nI q)), (0, .ref (ad (30 + 4 * h))), (1, .int a0), (2, .int a1), (3, .int (nI t))]) hx hb dPl_insert_100 hl (by decide) rfl (fun ls hl => ?_)
    have hW : dq_W D vwCl ad (dq_U (dq_U w (31 + 4 * h) (.inl (g 0, 16, .inl (mp_s X q q)))) (32 + 4 * h) (.inl (g 0, 16, .inl (mp_s Y q q)))) A s.heap := dq_Wc (by rw [mp_s_0, mp_s_0, dq_Uid l1, dq_Uid l2]) hW
    have loop2 : ∀ (j : Nat) (b : Nat) (H : Heap) (locs : List Loc) (ls : Array Slot), b < t + j → t ≤ b → b ≤ q → dq_W D vwCl ad (dq_U (dq_U w (31 + 4 * h) (.inl (g 0, 16, .inl (mp_s X b q)))) (32 + 4 * h) (.inl (g 0, 16, .inl (mp_s Y b q)))) A H → va_S A s.heap H locs → lv_has ls 6 [(0, .ref (ad (30 + 4 * h))), (1, .int a0), (2, .int a1), (3, .int (nI t)), (5, .int (nI b))] → W p l e ({ frames := 0, cells := 0, slots := 0, locals := 0 } : Room) s m ([.ref (ad (30 + 4 * h)), .int a0, .int a1] : List Value).toArray below meth c H locs 0 0 Q (F0 m 102 ls []) := by
      intro j
      induction j with
      | zero => intro b H locs ls hj hb1 hb2 hW hS hl; exact absurd hj (by omega)
      | succ j ih =>
        intro b H locs ls hj hb1 hb2 hW hS hl
        refine lv_iload hx hb dPl_insert_102 (lv_at hl 4 rfl) ?_
        refine lv_iload_n hx hb dPl_insert_104 rfl (lv_at hl 3 rfl) ?_
        refine lv_icmp_le (tgt := 146) hx hb dPl_insert_105 (by decide) (fun c7 => ?_) (fun c7 => ?_)
        · have hbt : t = b := by have q9 := (nI_leI (by omega) (by omega)).mp c7; omega
          subst hbt
          refine lv_aload_n hx hb dPl_insert_146 rfl (lv_at hl 0 rfl) ?_
          refine dq_get (D := D) (ci := 4) (v := .ref (ad (31 + 4 * h))) (C := RPl) (T := TPl) (N := 4) hx hb hts hinPl hown hK hW (30 + 4 * h) ((dq_Un (by omega)).trans ((dq_Un (by omega)).trans l0)) rfl 0 (by decide) hf9 (fun _ h9 => h9) rfl dPl_insert_147 ?_
          refine lv_iload_n hx hb dPl_insert_150 rfl (lv_at hl 3 rfl) ?_
          refine lv_iload_n hx hb dPl_insert_151 rfl (lv_at hl 1 rfl) ?_
          refine dq_iastN hx hb hK hW hS (31 + 4 * h) 0 ((dq_Un (by omega)).trans dq_Us) rfl t (by omega) (by omega) dPl_insert_152 (fun H locs hW hS => ?_)
          have hW : dq_W D vwCl ad (dq_U (dq_U w (31 + 4 * h) (.inl (g 0, 16, .inl (upd (mp_s X t q) t a0)))) (32 + 4 * h) (.inl (g 0, 16, .inl (mp_s Y t q)))) A H := dq_Wc (by funext j; unfold dq_U; (repeat' split) <;> first | rfl | omega) hW
          refine lv_aload_n hx hb dPl_insert_153 rfl (lv_at hl 0 rfl) ?_
          refine dq_get (D := D) (ci := 4) (v := .ref (ad (32 + 4 * h))) (C := RPl) (T := TPl) (N := 4) hx hb hts hinPl hown hK hW (30 + 4 * h) ((dq_Un (by omega)).trans ((dq_Un (by omega)).trans l0)) rfl 1 (by decide) hf15 (fun _ h9 => h9) rfl dPl_insert_154 ?_
          refine lv_iload_n hx hb dPl_insert_157 rfl (lv_at hl 3 rfl) ?_
          refine lv_iload_n hx hb dPl_insert_158 rfl (lv_at hl 2 rfl) ?_
          refine dq_iastN hx hb hK hW hS (32 + 4 * h) 0 dq_Us rfl t (by omega) (by omega) dPl_insert_159 (fun H locs hW hS => ?_)
          rw [dq_UU] at hW
          refine lv_aload_n hx hb dPl_insert_160 rfl (lv_at hl 0 rfl) ?_
          refine lv_dup hx hb dPl_insert_161 rfl ?_
          refine dq_get (D := D) (ci := 4) (v := .int (nI q)) (C := RPl) (T := TPl) (N := 4) hx hb hts hinPl hown hK hW (30 + 4 * h) ((dq_Un (by omega)).trans ((dq_Un (by omega)).trans l0)) rfl 3 (by decide) hf21 (fun _ h9 => h9) rfl dPl_insert_162 ?_
          refine lv_iconst (v := (1)) hx hb dPl_insert_165 (by decide) ?_
          refine lv_iadd hx hb dPl_insert_166 ?_
          refine dq_top (y := nI (q + 1)) (nI_1 q) ?_
          refine dq_put (D := D) (ci := 4) (v := .int (nI (q + 1))) (ty := .int) (C := RPl) (T := TPl) (N := 4) hx hb hts hinPl tyPl tyPl_ok nmPl hown hK hW hS (30 + 4 * h) ((dq_Un (by omega)).trans ((dq_Un (by omega)).trans l0)) rfl 3 (by decide) hf21 (fun _ h9 => h9) rfl (by decide +kernel) rfl rfl (Nat.le_of_ble_eq_true rfl) dPl_insert_167 (fun H locs hW hS => ?_)
          have e7 : mp_ins (q, X, Y) a0 a1 = (q + 1, upd (mp_s X t q) t a0, upd (mp_s Y t q) t a1) := by rw [mp_sh_s, mp_sh_s]; unfold mp_ins; rw [ht]; exact if_neg hno
          exact hret _ _ _ _ _ (by rw [e7]; rfl) hW hS dPl_insert_170
        · have hbt : t < b := by rcases Nat.lt_or_ge t b with q9 | q9; exact q9; exact absurd (nI_le q9 (by omega)) c7
          obtain ⟨b, rfl⟩ : ∃ b9, b = b9 + 1 := ⟨b - 1, by omega⟩
          refine lv_aload_n hx hb dPl_insert_108 rfl (lv_at hl 0 rfl) ?_
          refine dq_get (D := D) (ci := 4) (v := .ref (ad (31 + 4 * h))) (C := RPl) (T := TPl) (N := 4) hx hb hts hinPl hown hK hW (30 + 4 * h) ((dq_Un (by omega)).trans ((dq_Un (by omega)).trans l0)) rfl 0 (by decide) hf9 (fun _ h9 => h9) rfl dPl_insert_109 ?_
          refine lv_iload hx hb dPl_insert_112 (lv_at hl 4 rfl) ?_
          refine lv_aload_n hx hb dPl_insert_114 rfl (lv_at hl 0 rfl) ?_
          refine dq_get (D := D) (ci := 4) (v := .ref (ad (31 + 4 * h))) (C := RPl) (T := TPl) (N := 4) hx hb hts hinPl hown hK hW (30 + 4 * h) ((dq_Un (by omega)).trans ((dq_Un (by omega)).trans l0)) rfl 0 (by decide) hf9 (fun _ h9 => h9) rfl dPl_insert_115 ?_
          refine lv_iload hx hb dPl_insert_118 (lv_at hl 4 rfl) ?_
          refine lv_iconst (v := (1)) hx hb dPl_insert_120 (by decide) ?_
          refine lv_isub hx hb dPl_insert_121 ?_
          refine dq_top (y := nI b) (nI_pred b) ?_
          refine dq_ialdN hx hb hK hW (31 + 4 * h) 0 ((dq_Un (by omega)).trans dq_Us) rfl b (by omega) (by omega) dPl_insert_122 ?_
          refine dq_iastN hx hb hK hW hS (31 + 4 * h) 0 ((dq_Un (by omega)).trans dq_Us) rfl (b + 1) (by omega) (by omega) dPl_insert_123 (fun H locs hW hS => ?_)
          have hW : dq_W D vwCl ad (dq_U (dq_U w (31 + 4 * h) (.inl (g 0, 16, .inl (upd (mp_s X (b + 1) q) (b + 1) ((mp_s X (b + 1) q) b))))) (32 + 4 * h) (.inl (g 0, 16, .inl (mp_s Y (b + 1) q)))) A H := dq_Wc (by funext j; unfold dq_U; (repeat' split) <;> first | rfl | omega) hW
          refine lv_aload_n hx hb dPl_insert_124 rfl (lv_at hl 0 rfl) ?_
          refine dq_get (D := D) (ci := 4) (v := .ref (ad (32 + 4 * h))) (C := RPl) (T := TPl) (N := 4) hx hb hts hinPl hown hK hW (30 + 4 * h) ((dq_Un (by omega)).trans ((dq_Un (by omega)).trans l0)) rfl 1 (by decide) hf15 (fun _ h9 => h9) rfl dPl_insert_125 ?_
          refine lv_iload hx hb dPl_insert_128 (lv_at hl 4 rfl) ?_
          refine lv_aload_n hx hb dPl_insert_130 rfl (lv_at hl 0 rfl) ?_
          refine dq_get (D := D) (ci := 4) (v := .ref (ad (32 + 4 * h))) (C := RPl) (T := TPl) (N := 4) hx hb hts hinPl hown hK hW (30 + 4 * h) ((dq_Un (by omega)).trans ((dq_Un (by omega)).trans l0)) rfl 1 (by decide) hf15 (fun _ h9 => h9) rfl dPl_insert_131 ?_
          refine lv_iload hx hb dPl_insert_134 (lv_at hl 4 rfl) ?_
          refine lv_iconst (v := (1)) hx hb dPl_insert_136 (by decide) ?_
          refine lv_isub hx hb dPl_insert_137 ?_
          refine dq_top (y := nI b) (nI_pred b) ?_
          refine dq_ialdN hx hb hK hW (32 + 4 * h) 0 dq_Us rfl b (by omega) (by omega) dPl_insert_138 ?_
          refine dq_iastN hx hb hK hW hS (32 + 4 * h) 0 dq_Us rfl (b + 1) (by omega) (by omega) dPl_insert_139 (fun H locs hW hS => ?_)
          rw [dq_UU] at hW
          refine lv_iinc (v := (nI b)) (lv' := [(5, .int (nI b)), (0, .ref (ad (30 + 4 * h))), (1, .int a0), (2, .int a1), (3, .int (nI t))]) hx hb dPl_insert_140 hl (k := 4) rfl (by show nI (b + 1) + (-1) = _; exact pk_m1 b) (by decide) rfl (fun ls hl => ?_)
          refine lv_goto (tgt := 102) hx hb dPl_insert_143 (by decide) ?_
          have e8 : ∀ Z : Nat → Int32, upd (mp_s Z (b + 1) q) (b + 1) (mp_s Z (b + 1) q b) = mp_s Z b q := fun Z => mp_s_step Z (by omega)
          rw [e8, e8] at hW
          exact ih b _ _ _ (by omega) (by omega) (by omega) hW hS (lv_sub hl [1, 2, 3, 4, 0] rfl)
    exact loop2 (q + 1) q _ _ _ (by omega) (by omega) (Nat.le_refl q) hW hS (lv_sub hl [1, 2, 3, 4, 0] rfl)
  have j95 : ∀ (t : Nat) (ls : Array Slot), mp_at q X Y a0 a1 = t → ((t < q ∧ X t = a0 ∧ Y t = a1) ∨ 16 ≤ q) → lv_has ls 6 [(0, .ref (ad (30 + 4 * h))), (1, .int a0), (2, .int a1), (3, .int (nI t))] → W p l e ({ frames := 0, cells := 0, slots := 0, locals := 0 } : Room) s m ([.ref (ad (30 + 4 * h)), .int a0, .int a1] : List Value).toArray below meth c s.heap [] 0 0 Q (F0 m 95 ls []) := by
    intro t ls ht hye  hl
    have e7 : mp_ins (q, X, Y) a0 a1 = (q, X, Y) := by unfold mp_ins; rw [ht]; exact if_pos hye
    exact hret _ _ _ _ _ (by rw [e7]; exact hid) hW hS dPl_insert_95
  have j81 : ∀ (t : Nat) (v : Int32) (ls : Array Slot), mp_at q X Y a0 a1 = t → t ≤ q → (v = 1 ∧ (t < q ∧ X t = a0 ∧ Y t = a1) ∨ v = 0 ∧ ¬ (t < q ∧ X t = a0 ∧ Y t = a1)) → lv_has ls 6 [(0, .ref (ad (30 + 4 * h))), (1, .int a0), (2, .int a1), (3, .int (nI t)), (4, .int v)] → W p l e ({ frames := 0, cells := 0, slots := 0, locals := 0 } : Room) s m ([.ref (ad (30 + 4 * h)), .int a0, .int a1] : List Value).toArray below meth c s.heap [] 0 0 Q (F0 m 81 ls []) := by
    intro t v ls ht htq hv  hl
    refine lv_iload hx hb dPl_insert_81 (lv_at hl 4 rfl) ?_
    refine lv_if_ne (tgt := 95) hx hb dPl_insert_83 (by decide) (fun c5 => ?_) (fun c5 => ?_)
    · exact j95 t _ ht (Or.inl (hv.resolve_right (fun h9 => c5 h9.1)).2)  (lv_sub hl [0, 1, 2, 3] rfl)
    · have hk9 : ¬ (t < q ∧ X t = a0 ∧ Y t = a1) := (hv.resolve_left (fun h9 => absurd (h9.1.symm.trans c5) (by decide))).2
      refine lv_aload_n hx hb dPl_insert_86 rfl (lv_at hl 0 rfl) ?_
      refine dq_get (D := D) (ci := 4) (v := .int (nI q)) (C := RPl) (T := TPl) (N := 4) hx hb hts hinPl hown hK hW (30 + 4 * h) l0 rfl 3 (by decide) hf21 (fun _ h9 => h9) rfl dPl_insert_87 ?_
      refine lv_bipush (v := (nI 16)) hx hb dPl_insert_90 (by decide) ?_
      refine lv_icmp_lt (tgt := 96) hx hb dPl_insert_92 (by decide) (fun c6 => ?_) (fun c6 => ?_)
      · have hq2 : q < 16 := (nI_ltI (by omega) (by omega)).mp c6
        exact j96 t v _ ht htq (fun h9 => h9.elim hk9 (by omega)) hq2  (lv_sub hl [0, 1, 2, 3, 4] rfl)
      · have hq2 : 16 ≤ q := by rcases Nat.lt_or_ge q 16 with q9 | q9; exact absurd (nI_lt q9 (by omega)) c6; exact q9
        exact j95 t _ ht (Or.inr hq2)  (lv_sub hl [0, 1, 2, 3] rfl)
  have j46 : ∀ (t : Nat) (ls : Array Slot), mp_at q X Y a0 a1 = t → t ≤ q → lv_has ls 6 [(0, .ref (ad (30 + 4 * h))), (1, .int a0), (2, .int a1), (3, .int (nI t))] → W p l e ({ frames := 0, cells := 0, slots := 0, locals := 0 } : Room) s m ([.ref (ad (30 + 4 * h)), .int a0, .int a1] : List Value).toArray below meth c s.heap [] 0 0 Q (F0 m 46 ls []) := by
    intro t ls ht htq  hl
    refine lv_iload_n hx hb dPl_insert_46 rfl (lv_at hl 3 rfl) ?_
    refine lv_aload_n hx hb dPl_insert_47 rfl (lv_at hl 0 rfl) ?_
    refine dq_get (D := D) (ci := 4) (v := .int (nI q)) (C := RPl) (T := TPl) (N := 4) hx hb hts hinPl hown hK hW (30 + 4 * h) l0 rfl 3 (by decide) hf21 (fun _ h9 => h9) rfl dPl_insert_48 ?_
    refine lv_icmp_ge (tgt := 78) hx hb dPl_insert_51 (by decide) (fun c1 => ?_) (fun c1 => ?_)
    · have htl : q ≤ t := (nI_leI (by omega) (by omega)).mp c1
      refine lv_iconst (v := (0)) hx hb dPl_insert_78 (by decide) ?_
      refine lv_istore (lv' := [(4, .int (0)), (0, .ref (ad (30 + 4 * h))), (1, .int a0), (2, .int a1), (3, .int (nI t))]) hx hb dPl_insert_79 hl (by decide) rfl (fun ls hl => ?_)
      exact j81 t 0 _ ht htq (Or.inr ⟨rfl, fun h9 => absurd h9.1 (by omega)⟩)  (lv_sub hl [1, 2, 3, 4, 0] rfl)
    · have htl : t < q := by rcases Nat.lt_or_ge t q with q9 | q9; exact q9; exact absurd (nI_le q9 (by omega)) c1
      refine lv_aload_n hx hb dPl_insert_54 rfl (lv_at hl 0 rfl) ?_
      refine dq_get (D := D) (ci := 4) (v := .ref (ad (31 + 4 * h))) (C := RPl) (T := TPl) (N := 4) hx hb hts hinPl hown hK hW (30 + 4 * h) l0 rfl 0 (by decide) hf9 (fun _ h9 => h9) rfl dPl_insert_55 ?_
      refine lv_iload_n hx hb dPl_insert_58 rfl (lv_at hl 3 rfl) ?_
      refine dq_ialdN hx hb hK hW (31 + 4 * h) 0 l1 rfl t (by omega) (by omega) dPl_insert_59 ?_
      refine lv_iload_n hx hb dPl_insert_60 rfl (lv_at hl 1 rfl) ?_
      refine lv_icmp_ne (tgt := 78) hx hb dPl_insert_61 (by decide) (fun c2 => ?_) (fun c2 => ?_)
      · refine lv_iconst (v := (0)) hx hb dPl_insert_78 (by decide) ?_
        refine lv_istore (lv' := [(4, .int (0)), (0, .ref (ad (30 + 4 * h))), (1, .int a0), (2, .int a1), (3, .int (nI t))]) hx hb dPl_insert_79 hl (by decide) rfl (fun ls hl => ?_)
        exact j81 t 0 _ ht htq (Or.inr ⟨rfl, fun h9 => c2 h9.2.1⟩)  (lv_sub hl [1, 2, 3, 4, 0] rfl)
      · refine lv_aload_n hx hb dPl_insert_64 rfl (lv_at hl 0 rfl) ?_
        refine dq_get (D := D) (ci := 4) (v := .ref (ad (32 + 4 * h))) (C := RPl) (T := TPl) (N := 4) hx hb hts hinPl hown hK hW (30 + 4 * h) l0 rfl 1 (by decide) hf15 (fun _ h9 => h9) rfl dPl_insert_65 ?_
        refine lv_iload_n hx hb dPl_insert_68 rfl (lv_at hl 3 rfl) ?_
        refine dq_ialdN hx hb hK hW (32 + 4 * h) 0 l2 rfl t (by omega) (by omega) dPl_insert_69 ?_
        refine lv_iload_n hx hb dPl_insert_70 rfl (lv_at hl 2 rfl) ?_
        refine lv_icmp_ne (tgt := 78) hx hb dPl_insert_71 (by decide) (fun c3 => ?_) (fun c3 => ?_)
        · refine lv_iconst (v := (0)) hx hb dPl_insert_78 (by decide) ?_
          refine lv_istore (lv' := [(4, .int (0)), (0, .ref (ad (30 + 4 * h))), (1, .int a0), (2, .int a1), (3, .int (nI t))]) hx hb dPl_insert_79 hl (by decide) rfl (fun ls hl => ?_)
          exact j81 t 0 _ ht htq (Or.inr ⟨rfl, fun h9 => c3 h9.2.2⟩)  (lv_sub hl [1, 2, 3, 4, 0] rfl)
        · refine lv_iconst (v := (1)) hx hb dPl_insert_74 (by decide) ?_
          refine lv_goto (tgt := 79) hx hb dPl_insert_75 (by decide) ?_
          refine lv_istore (lv' := [(4, .int (1)), (0, .ref (ad (30 + 4 * h))), (1, .int a0), (2, .int a1), (3, .int (nI t))]) hx hb dPl_insert_79 hl (by decide) rfl (fun ls hl => ?_)
          exact j81 t 1 _ ht htq (Or.inl ⟨rfl, htl, c2, c3⟩)  (lv_sub hl [1, 2, 3, 4, 0] rfl)
  refine lv_iconst (v := (nI 0)) hx hb dPl_insert_0 (by decide) ?_
  refine lv_istore_n (lv' := [(3, .int (nI 0)), (0, .ref (ad (30 + 4 * h))), (1, .int a0), (2, .int a1)]) hx hb dPl_insert_1 rfl hl (by decide) rfl (fun ls hl => ?_)
  have loop : ∀ (j : Nat) (k : Nat) (ls : Array Slot), q < k + j → k ≤ q → (∀ i, i < k → (!(mp_lt X Y a0 a1 i)) = false) → lv_has ls 6 [(0, .ref (ad (30 + 4 * h))), (1, .int a0), (2, .int a1), (3, .int (nI k))] → W p l e ({ frames := 0, cells := 0, slots := 0, locals := 0 } : Room) s m ([.ref (ad (30 + 4 * h)), .int a0, .int a1] : List Value).toArray below meth c s.heap [] 0 0 Q (F0 m 2 ls []) := by
    intro j
    induction j with
    | zero => intro k ls hj hk hb9  hl; exact absurd hj (by omega)
    | succ j ih =>
      intro k ls hj hk hb9  hl
      refine lv_iload_n hx hb dPl_insert_2 rfl (lv_at hl 3 rfl) ?_
      refine lv_aload_n hx hb dPl_insert_3 rfl (lv_at hl 0 rfl) ?_
      refine dq_get (D := D) (ci := 4) (v := .int (nI q)) (C := RPl) (T := TPl) (N := 4) hx hb hts hinPl hown hK hW (30 + 4 * h) l0 rfl 3 (by decide) hf21 (fun _ h9 => h9) rfl dPl_insert_4 ?_
      refine lv_icmp_ge (tgt := 46) hx hb dPl_insert_7 (by decide) (fun c1 => ?_) (fun c1 => ?_)
      · have hkn : k = q := by have q := (nI_leI (by omega) (by omega)).mp c1; omega
        exact j46 k _ (dq_fn_eq hk hb9 (fun h9 => absurd h9 (by omega))) hk  (lv_sub hl [0, 1, 2, 3] rfl)
      · have hkn : k < q := by rcases Nat.lt_or_ge k q with q | q; exact q; exact absurd (nI_le q (by omega)) c1
        refine lv_aload_n hx hb dPl_insert_10 rfl (lv_at hl 0 rfl) ?_
        refine dq_get (D := D) (ci := 4) (v := .ref (ad (31 + 4 * h))) (C := RPl) (T := TPl) (N := 4) hx hb hts hinPl hown hK hW (30 + 4 * h) l0 rfl 0 (by decide) hf9 (fun _ h9 => h9) rfl dPl_insert_11 ?_
        refine lv_iload_n hx hb dPl_insert_14 rfl (lv_at hl 3 rfl) ?_
        refine dq_ialdN hx hb hK hW (31 + 4 * h) 0 l1 rfl k (by omega) (by omega) dPl_insert_15 ?_
        refine lv_iload_n hx hb dPl_insert_16 rfl (lv_at hl 1 rfl) ?_
        refine lv_icmp_lt (tgt := 40) hx hb dPl_insert_17 (by decide) (fun c2 => ?_) (fun c2 => ?_)
        · have e1 : (!(mp_lt X Y a0 a1 k)) = false := by unfold mp_lt; simp [c2]
          refine lv_iinc (v := (nI (k + 1))) (lv' := [(3, .int (nI (k + 1))), (0, .ref (ad (30 + 4 * h))), (1, .int a0), (2, .int a1)]) hx hb dPl_insert_40 hl (k := 3) rfl (by show nI k + 1 = _; exact nI_1 _) (by decide) rfl (fun ls hl => ?_)
          refine lv_goto (tgt := 2) hx hb dPl_insert_43 (by decide) ?_
          exact ih (k + 1) _ (by omega) (by omega) (lt_s hb9 e1)  (lv_sub hl [1, 2, 3, 0] rfl)
        · refine lv_aload_n hx hb dPl_insert_20 rfl (lv_at hl 0 rfl) ?_
          refine dq_get (D := D) (ci := 4) (v := .ref (ad (31 + 4 * h))) (C := RPl) (T := TPl) (N := 4) hx hb hts hinPl hown hK hW (30 + 4 * h) l0 rfl 0 (by decide) hf9 (fun _ h9 => h9) rfl dPl_insert_21 ?_
          refine lv_iload_n hx hb dPl_insert_24 rfl (lv_at hl 3 rfl) ?_
          refine dq_ialdN hx hb hK hW (31 + 4 * h) 0 l1 rfl k (by omega) (by omega) dPl_insert_25 ?_
          refine lv_iload_n hx hb dPl_insert_26 rfl (lv_at hl 1 rfl) ?_
          refine lv_icmp_ne (tgt := 46) hx hb dPl_insert_27 (by decide) (fun c3 => ?_) (fun c3 => ?_)
          · have e1 : (!(mp_lt X Y a0 a1 k)) = true := by unfold mp_lt; simp [c2, c3]
            exact j46 k _ (dq_fn_eq hk hb9 (fun _ => e1)) hk  (lv_sub hl [0, 1, 2, 3] rfl)
          · refine lv_aload_n hx hb dPl_insert_30 rfl (lv_at hl 0 rfl) ?_
            refine dq_get (D := D) (ci := 4) (v := .ref (ad (32 + 4 * h))) (C := RPl) (T := TPl) (N := 4) hx hb hts hinPl hown hK hW (30 + 4 * h) l0 rfl 1 (by decide) hf15 (fun _ h9 => h9) rfl dPl_insert_31 ?_
            refine lv_iload_n hx hb dPl_insert_34 rfl (lv_at hl 3 rfl) ?_
            refine dq_ialdN hx hb hK hW (32 + 4 * h) 0 l2 rfl k (by omega) (by omega) dPl_insert_35 ?_
            refine lv_iload_n hx hb dPl_insert_36 rfl (lv_at hl 2 rfl) ?_
            refine lv_icmp_ge (tgt := 46) hx hb dPl_insert_37 (by decide) (fun c4 => ?_) (fun c4 => ?_)
            · have e1 : (!(mp_lt X Y a0 a1 k)) = true := by unfold mp_lt; simp [c2, c3, Int32.not_lt.mpr c4]
              exact j46 k _ (dq_fn_eq hk hb9 (fun _ => e1)) hk  (lv_sub hl [0, 1, 2, 3] rfl)
            · have e1 : (!(mp_lt X Y a0 a1 k)) = false := by unfold mp_lt; simp [c3, Int32.not_le.mp c4]
              refine lv_iinc (v := (nI (k + 1))) (lv' := [(3, .int (nI (k + 1))), (0, .ref (ad (30 + 4 * h))), (1, .int a0), (2, .int a1)]) hx hb dPl_insert_40 hl (k := 3) rfl (by show nI k + 1 = _; exact nI_1 _) (by decide) rfl (fun ls hl => ?_)
              refine lv_goto (tgt := 2) hx hb dPl_insert_43 (by decide) ?_
              exact ih (k + 1) _ (by omega) (by omega) (lt_s hb9 e1)  (lv_sub hl [1, 2, 3, 0] rfl)
  exact loop (q + 1) 0 _ (by omega) (Nat.zero_le _) lt_0  (lv_sub hl [1, 2, 3, 0] rfl)
set_option maxHeartbeats 4000000 in
set_option maxRecDepth 100000 in
/-- Places.find(hole, part, head, clamps) -/
theorem c_Places_find (l : Launch) (D : va_G) (g : Nat → ClassId) (ad : Nat → Nat) (w : Nat → Option va_E) (sz : Nat) (n : Nat) (hx_ hy_ hw_ : Nat → Int32) (f0 f1 f2 f3 : Int32) (px py pw pd pf pt : Nat → Int32) (pc_ : Nat) (cx0 cy0 cx1 cy1 : Nat → Int32) (cc_ : Nat) (h q : Nat) (X Y Dr : Nat → Int32) (i : Nat) (h1 : w 1 = some (.inr (1, [.ref (ad 2), .ref (ad 3), .ref (ad 4), .int f0, .int f1, .int f2, .int f3]))) (h2 : w 2 = some (.inl (g 0, n, .inl hx_))) (h3 : w 3 = some (.inl (g 0, n, .inl hy_))) (h4 : w 4 = some (.inl (g 0, n, .inl hw_))) (p5 : w 5 = some (.inr (3, [.ref (ad 6), .ref (ad 7), .ref (ad 8), .ref (ad 9), .ref (ad 10), .ref (ad 11), .int (nI pc_)]))) (p6 : w 6 = some (.inl (g 0, 14, .inl px))) (p7 : w 7 = some (.inl (g 0, 14, .inl py))) (p8 : w 8 = some (.inl (g 0, 14, .inl pw))) (k12 : w 12 = some (.inr (0, [.ref (ad 13), .ref (ad 14), .ref (ad 15), .ref (ad 16), .int (nI cc_)]))) (k13 : w 13 = some (.inl (g 0, 6, .inl cx0))) (k14 : w 14 = some (.inl (g 0, 6, .inl cy0))) (k15 : w 15 = some (.inl (g 0, 6, .inl cx1))) (k16 : w 16 = some (.inl (g 0, 6, .inl cy1))) (l0 : w (30 + 4 * h) = some (.inr (4, [.ref (ad (31 + 4 * h)), .ref (ad (32 + 4 * h)), .ref (ad (33 + 4 * h)), .int (nI q)]))) (l1 : w (31 + 4 * h) = some (.inl (g 0, 16, .inl X))) (l2 : w (32 + 4 * h) = some (.inl (g 0, 16, .inl Y))) (hn : n ≤ 16) (hc : cc_ ≤ 6) (hi : i < 14) : Met l yPl_find wsPl_find ({ frames := 3, cells := 0, slots := 0, locals := 80 } : Room) (va_Pc [.ref (ad (30 + 4 * h)), .int (nI i), .ref (ad 5), .ref (ad 1), .ref (ad 12)] (dq_S D vwCl (dq_t g) ad w sz)) (va_Qv (fun u => u = dq_U (dq_U (dq_U w (31 + 4 * h) (.inl (g 0, 16, .inl ((mp_find hx_ hy_ hw_ (px i) (py i) (pw i) (mc_bar cx0 cy0 cx1 cy1 cc_ f0 f1 f2 f3) X Y n).2.1)))) (32 + 4 * h) (.inl (g 0, 16, .inl ((mp_find hx_ hy_ hw_ (px i) (py i) (pw i) (mc_bar cx0 cy0 cx1 cy1 cc_ f0 f1 f2 f3) X Y n).2.2)))) (30 + 4 * h) (.inr (4, [.ref (ad (31 + 4 * h)), .ref (ad (32 + 4 * h)), .ref (ad (33 + 4 * h)), .int (nI (mp_find hx_ hy_ hw_ (px i) (py i) (pw i) (mc_bar cx0 cy0 cx1 cy1 cc_ f0 f1 f2 f3) X Y n).1)]))) (dq_B D vwCl (dq_t g) ad (dq_A ad w sz)) (dq_A ad w sz)) 0 0 (dq_A ad w sz) := by
  refine dq_ofv (cc := cPl_find) (maxL := 8) (by decide) rfl (Nat.le_of_ble_eq_true rfl) ?_
  intro p e s m below meth c A Q ls ⟨hx, hb, hml, hown, hts⟩ hnm hA hW hK hZ hl hret
  have hS : va_S A s.heap s.heap [] := va_S.rf
  have hl : lv_has ls 8 [(0, .ref (ad (30 + 4 * h))), (1, .int (nI i)), (2, .ref (ad 5)), (3, .ref (ad 1)), (4, .ref (ad 12))] := hl
  have hf21 := hts _ (List.mem_cons_of_mem _ tw1_144)
  have hf25 := hts _ (List.mem_cons_of_mem _ tw1_44)
  have hf30 := hts _ (List.mem_cons_of_mem _ tw1_82)
  have hf33 := hts _ (List.mem_cons_of_mem _ tw1_76)
  have hf34 := hts _ (List.mem_cons_of_mem _ tw1_39)
  have hf35 := hts _ (List.mem_cons_of_mem _ tw1_79)
  have hf36 := hts _ (List.mem_cons_of_mem _ tw1_41)
  have hinHd : ∀ w ∈ u_ws RHd THd 7, w ∈ wsPl_find := fun w h => List.mem_cons_of_mem _ (inHd w h)
  have hinPt : ∀ w ∈ u_ws RPt TPt 7, w ∈ wsPl_find := fun w h => List.mem_cons_of_mem _ (inPt w h)
  have hinPl : ∀ w ∈ u_ws RPl TPl 4, w ∈ wsPl_find := fun w h => List.mem_cons_of_mem _ (inPl w h)
  refine lv_aload_n hx hb dPl_find_0 rfl (lv_at hl 0 rfl) ?_
  refine lv_iconst (v := (nI 0)) hx hb dPl_find_1 (by decide) ?_
  refine dq_put (D := D) (ci := 4) (v := .int (nI 0)) (ty := .int) (C := RPl) (T := TPl) (N := 4) hx hb hts hinPl tyPl tyPl_ok nmPl hown hK hW hS (30 + 4 * h) l0 rfl 3 (by decide) hf21 (fun _ h9 => h9) rfl (by decide +kernel) rfl rfl (Nat.le_of_ble_eq_true rfl) dPl_find_2 (fun H locs hW hS => ?_)
  refine lv_iconst (v := (nI 0)) hx hb dPl_find_5 (by decide) ?_
  refine lv_istore (lv' := [(5, .int (nI 0)), (0, .ref (ad (30 + 4 * h))), (1, .int (nI i)), (2, .ref (ad 5)), (3, .ref (ad 1)), (4, .ref (ad 12))]) hx hb dPl_find_6 hl (by decide) rfl (fun ls hl => ?_)
  have hW : dq_W D vwCl ad (dq_U (dq_U (dq_U w (31 + 4 * h) (.inl (g 0, 16, .inl ((mp_find hx_ hy_ hw_ (px i) (py i) (pw i) (mc_bar cx0 cy0 cx1 cy1 cc_ f0 f1 f2 f3) X Y 0).2.1)))) (32 + 4 * h) (.inl (g 0, 16, .inl ((mp_find hx_ hy_ hw_ (px i) (py i) (pw i) (mc_bar cx0 cy0 cx1 cy1 cc_ f0 f1 f2 f3) X Y 0).2.2)))) (30 + 4 * h) (.inr (4, [.ref (ad (31 + 4 * h)), .ref (ad (32 + 4 * h)), .ref (ad (33 + 4 * h)), .int (nI (mp_find hx_ hy_ hw_ (px i) (py i) (pw i) (mc_bar cx0 cy0 cx1 cy1 cc_ f0 f1 f2 f3) X Y 0).1)]))) A H := dq_Wc (by show _ = dq_U (dq_U (dq_U w (31 + 4 * h) (.inl (g 0, 16, .inl X))) (32 + 4 * h) (.inl (g 0, 16, .inl Y))) (30 + 4 * h) _; rw [dq_Uid l1, dq_Uid l2]; rfl) hW
  have loop : ∀ (j : Nat) (k : Nat) (H : Heap) (locs : List Loc) (ls : Array Slot), n < k + j → k ≤ n → dq_W D vwCl ad (dq_U (dq_U (dq_U w (31 + 4 * h) (.inl (g 0, 16, .inl ((mp_find hx_ hy_ hw_ (px i) (py i) (pw i) (mc_bar cx0 cy0 cx1 cy1 cc_ f0 f1 f2 f3) X Y k).2.1)))) (32 + 4 * h) (.inl (g 0, 16, .inl ((mp_find hx_ hy_ hw_ (px i) (py i) (pw i) (mc_bar cx0 cy0 cx1 cy1 cc_ f0 f1 f2 f3) X Y k).2.2)))) (30 + 4 * h) (.inr (4, [.ref (ad (31 + 4 * h)), .ref (ad (32 + 4 * h)), .ref (ad (33 + 4 * h)), .int (nI (mp_find hx_ hy_ hw_ (px i) (py i) (pw i) (mc_bar cx0 cy0 cx1 cy1 cc_ f0 f1 f2 f3) X Y k).1)]))) A H → va_S A s.heap H locs → lv_has ls 8 [(0, .ref (ad (30 + 4 * h))), (1, .int (nI i)), (2, .ref (ad 5)), (3, .ref (ad 1)), (4, .ref (ad 12)), (5, .int (nI k))] → W p l e ({ frames := 3, cells := 0, slots := 0, locals := 80 } : Room) s m ([.ref (ad (30 + 4 * h)), .int (nI i), .ref (ad 5), .ref (ad 1), .ref (ad 12)] : List Value).toArray below meth c H locs 0 0 Q (F0 m 8 ls []) := by
    intro j
    induction j with
    | zero => intro k H locs ls hj hk hW hS hl; exact absurd hj (by omega)
    | succ j ih =>
      intro k H locs ls hj hk hW hS hl
      refine lv_iload hx hb dPl_find_8 (lv_at hl 5 rfl) ?_
      refine lv_aload_n hx hb dPl_find_10 rfl (lv_at hl 3 rfl) ?_
      refine dq_get (D := D) (ci := 1) (v := .ref (ad 4)) (C := RHd) (T := THd) (N := 7) hx hb hts hinHd hown hK hW 1 ((dq_Un (by omega)).trans ((dq_Un (by omega)).trans ((dq_Un (by omega)).trans h1))) rfl 2 (by decide) hf25 (fun _ h9 => h9) rfl dPl_find_11 ?_
      refine dq_alen hx hb hK hW 4 0 ((dq_Un (by omega)).trans ((dq_Un (by omega)).trans ((dq_Un (by omega)).trans h4))) rfl (v := nI n) rfl dPl_find_14 ?_
      refine lv_icmp_ge (tgt := 93) hx hb dPl_find_15 (by decide) (fun c1 => ?_) (fun c1 => ?_)
      · have hkn : n = k := by have q9 := (nI_leI (by omega) (by omega)).mp c1; omega
        subst hkn
        exact hret _ _ _ _ _ rfl hW hS dPl_find_93
      · have hkn : k < n := by rcases Nat.lt_or_ge k n with q | q; exact q; exact absurd (nI_le q (by omega)) c1
        refine lv_aload_n hx hb dPl_find_18 rfl (lv_at hl 3 rfl) ?_
        refine dq_get (D := D) (ci := 1) (v := .ref (ad 4)) (C := RHd) (T := THd) (N := 7) hx hb hts hinHd hown hK hW 1 ((dq_Un (by omega)).trans ((dq_Un (by omega)).trans ((dq_Un (by omega)).trans h1))) rfl 2 (by decide) hf25 (fun _ h9 => h9) rfl dPl_find_19 ?_
        refine lv_iload hx hb dPl_find_22 (lv_at hl 5 rfl) ?_
        refine dq_ialdN hx hb hK hW 4 0 ((dq_Un (by omega)).trans ((dq_Un (by omega)).trans ((dq_Un (by omega)).trans h4))) rfl k (by omega) (by omega) dPl_find_24 ?_
        refine lv_aload_n hx hb dPl_find_25 rfl (lv_at hl 2 rfl) ?_
        refine dq_get (D := D) (ci := 3) (v := .ref (ad 8)) (C := RPt) (T := TPt) (N := 7) hx hb hts hinPt hown hK hW 5 ((dq_Un (by omega)).trans ((dq_Un (by omega)).trans ((dq_Un (by omega)).trans p5))) rfl 2 (by decide) hf30 (fun _ h9 => h9) rfl dPl_find_26 ?_
        refine lv_iload_n hx hb dPl_find_29 rfl (lv_at hl 1 rfl) ?_
        refine dq_ialdN hx hb hK hW 8 0 ((dq_Un (by omega)).trans ((dq_Un (by omega)).trans ((dq_Un (by omega)).trans p8))) rfl i (by omega) (by omega) dPl_find_30 ?_
        refine lv_icmp_ne (tgt := 87) hx hb dPl_find_31 (by decide) (fun c2 => ?_) (fun c2 => ?_)
        · have e5 : (mp_find hx_ hy_ hw_ (px i) (py i) (pw i) (mc_bar cx0 cy0 cx1 cy1 cc_ f0 f1 f2 f3) X Y (k + 1)) = (mp_find hx_ hy_ hw_ (px i) (py i) (pw i) (mc_bar cx0 cy0 cx1 cy1 cc_ f0 f1 f2 f3) X Y k) := if_neg c2
          refine lv_iinc (v := (nI (k + 1))) (lv' := [(5, .int (nI (k + 1))), (0, .ref (ad (30 + 4 * h))), (1, .int (nI i)), (2, .ref (ad 5)), (3, .ref (ad 1)), (4, .ref (ad 12))]) hx hb dPl_find_87 hl (k := 5) rfl (by show nI k + 1 = _; exact nI_1 _) (by decide) rfl (fun ls hl => ?_)
          refine lv_goto (tgt := 8) hx hb dPl_find_90 (by decide) ?_
          exact ih (k + 1) _ _ _ (by omega) (by omega) (by rw [e5]; exact hW) hS (lv_sub hl [1, 2, 3, 4, 5, 0] rfl)
        · refine lv_aload_n hx hb dPl_find_34 rfl (lv_at hl 2 rfl) ?_
          refine dq_get (D := D) (ci := 3) (v := .ref (ad 6)) (C := RPt) (T := TPt) (N := 7) hx hb hts hinPt hown hK hW 5 ((dq_Un (by omega)).trans ((dq_Un (by omega)).trans ((dq_Un (by omega)).trans p5))) rfl 0 (by decide) hf33 (fun _ h9 => h9) rfl dPl_find_35 ?_
          refine lv_iload_n hx hb dPl_find_38 rfl (lv_at hl 1 rfl) ?_
          refine dq_ialdN hx hb hK hW 6 0 ((dq_Un (by omega)).trans ((dq_Un (by omega)).trans ((dq_Un (by omega)).trans p6))) rfl i (by omega) (by omega) dPl_find_39 ?_
          refine lv_aload_n hx hb dPl_find_40 rfl (lv_at hl 3 rfl) ?_
          refine dq_get (D := D) (ci := 1) (v := .ref (ad 2)) (C := RHd) (T := THd) (N := 7) hx hb hts hinHd hown hK hW 1 ((dq_Un (by omega)).trans ((dq_Un (by omega)).trans ((dq_Un (by omega)).trans h1))) rfl 0 (by decide) hf34 (fun _ h9 => h9) rfl dPl_find_41 ?_
          refine lv_iload hx hb dPl_find_44 (lv_at hl 5 rfl) ?_
          refine dq_ialdN hx hb hK hW 2 0 ((dq_Un (by omega)).trans ((dq_Un (by omega)).trans ((dq_Un (by omega)).trans h2))) rfl k (by omega) (by omega) dPl_find_46 ?_
          refine lv_isub hx hb dPl_find_47 ?_
          refine lv_istore (lv' := [(6, .int ((px i) - (hx_ k))), (0, .ref (ad (30 + 4 * h))), (1, .int (nI i)), (2, .ref (ad 5)), (3, .ref (ad 1)), (4, .ref (ad 12)), (5, .int (nI k))]) hx hb dPl_find_48 hl (by decide) rfl (fun ls hl => ?_)
          refine lv_aload_n hx hb dPl_find_50 rfl (lv_at hl 3 rfl) ?_
          refine dq_get (D := D) (ci := 3) (v := .ref (ad 7)) (C := RPt) (T := TPt) (N := 7) hx hb hts hinPt hown hK hW 5 ((dq_Un (by omega)).trans ((dq_Un (by omega)).trans ((dq_Un (by omega)).trans p5))) rfl 1 (by decide) hf35 (fun _ h9 => h9) rfl dPl_find_51 ?_
          refine lv_iload_n hx hb dPl_find_54 rfl (lv_at hl 2 rfl) ?_
          refine dq_ialdN hx hb hK hW 7 0 ((dq_Un (by omega)).trans ((dq_Un (by omega)).trans ((dq_Un (by omega)).trans p7))) rfl i (by omega) (by omega) dPl_find_55 ?_
          refine lv_aload_n hx hb dPl_find_56 rfl (lv_at hl 4 rfl) ?_
          refine dq_get (D := D) (ci := 1) (v := .ref (ad 3)) (C := RHd) (T := THd) (N := 7) hx hb hts hinHd hown hK hW 1 ((dq_Un (by omega)).trans ((dq_Un (by omega)).trans ((dq_Un (by omega)).trans h1))) rfl 1 (by decide) hf36 (fun _ h9 => h9) rfl dPl_find_57 ?_
          refine lv_iload hx hb dPl_find_60 (lv_at hl 6 rfl) ?_
          refine dq_ialdN hx hb hK hW 3 0 ((dq_Un (by omega)).trans ((dq_Un (by omega)).trans ((dq_Un (by omega)).trans h3))) rfl k (by omega) (by omega) dPl_find_62 ?_
          refine lv_isub hx hb dPl_find_63 ?_
          refine lv_istore (lv' := [(7, .int ((py i) - (hy_ k))), (6, .int ((px i) - (hx_ k))), (0, .ref (ad (30 + 4 * h))), (1, .int (nI i)), (2, .ref (ad 5)), (3, .ref (ad 1)), (4, .ref (ad 12)), (5, .int (nI k))]) hx hb dPl_find_64 hl (by decide) rfl (fun ls hl => ?_)
          refine lv_aload hx hb dPl_find_66 (lv_at hl 6 rfl) ?_
          refine lv_aload_n hx hb dPl_find_68 rfl (lv_at hl 5 rfl) ?_
          refine lv_iload hx hb dPl_find_69 (lv_at hl 1 rfl) ?_
          refine lv_iload hx hb dPl_find_71 (lv_at hl 0 rfl) ?_
          refine dq_calli (va_runV (As := [.ref (ad 1), .int ((px i) - (hx_ k)), .int ((py i) - (hy_ k))]) (rest := []) ⟨hx, hb, hml, hown, hts⟩ (c_Clamps_bar l D g ad (dq_U (dq_U (dq_U w (31 + 4 * h) (.inl (g 0, 16, .inl ((mp_find hx_ hy_ hw_ (px i) (py i) (pw i) (mc_bar cx0 cy0 cx1 cy1 cc_ f0 f1 f2 f3) X Y k).2.1)))) (32 + 4 * h) (.inl (g 0, 16, .inl ((mp_find hx_ hy_ hw_ (px i) (py i) (pw i) (mc_bar cx0 cy0 cx1 cy1 cc_ f0 f1 f2 f3) X Y k).2.2)))) (30 + 4 * h) (.inr (4, [.ref (ad (31 + 4 * h)), .ref (ad (32 + 4 * h)), .ref (ad (33 + 4 * h)), .int (nI (mp_find hx_ hy_ hw_ (px i) (py i) (pw i) (mc_bar cx0 cy0 cx1 cy1 cc_ f0 f1 f2 f3) X Y k).1)]))) _ n hx_ hy_ hw_ f0 f1 f2 f3 cx0 cy0 cx1 cy1 cc_ (px i - hx_ k) (py i - hy_ k) ((dq_Un (by omega)).trans ((dq_Un (by omega)).trans ((dq_Un (by omega)).trans h1))) ((dq_Un (by omega)).trans ((dq_Un (by omega)).trans ((dq_Un (by omega)).trans k12))) ((dq_Un (by omega)).trans ((dq_Un (by omega)).trans ((dq_Un (by omega)).trans k13))) ((dq_Un (by omega)).trans ((dq_Un (by omega)).trans ((dq_Un (by omega)).trans k14))) ((dq_Un (by omega)).trans ((dq_Un (by omega)).trans ((dq_Un (by omega)).trans k15))) ((dq_Un (by omega)).trans ((dq_Un (by omega)).trans ((dq_Un (by omega)).trans k16))) hc) (cwV 3 hts (dq_giV tw2_14 tw2_15 tw2_16 tw1_5 tw2_17) rfl rfl rfl (by decide +kernel) ⟨Nat.le_of_ble_eq_true rfl, Nat.le_of_ble_eq_true rfl⟩) (dq_preV (ci := 0) hW hS hA hK hZ ((dq_Un (by omega)).trans ((dq_Un (by omega)).trans ((dq_Un (by omega)).trans k12))) rfl rfl) rfl rfl hl.1 rfl (lv_room (Nat.le_of_ble_eq_true rfl)) dPl_find_73 ⟨Nat.zero_le _, Nat.zero_le _⟩) hW hS hA (fun r1 u_9 H locs hp1 hW hS hz9 => ?_)
          obtain ⟨hr1, hu9⟩ := hp1
          rw [hu9] at hW
          refine lv_if_ne (tgt := 87) hx hb dPl_find_76 (by decide) (fun c3 => ?_) (fun c3 => ?_)
          · have e5 : (mp_find hx_ hy_ hw_ (px i) (py i) (pw i) (mc_bar cx0 cy0 cx1 cy1 cc_ f0 f1 f2 f3) X Y (k + 1)) = (mp_find hx_ hy_ hw_ (px i) (py i) (pw i) (mc_bar cx0 cy0 cx1 cy1 cc_ f0 f1 f2 f3) X Y k) := by show (if hw_ k = pw i then _ else _) = _; rw [if_pos c2]; exact if_pos (dq_b_t (by rw [← hr1]; exact c3))
            refine lv_iinc (v := (nI (k + 1))) (lv' := [(5, .int (nI (k + 1))), (7, .int ((py i) - (hy_ k))), (6, .int ((px i) - (hx_ k))), (0, .ref (ad (30 + 4 * h))), (1, .int (nI i)), (2, .ref (ad 5)), (3, .ref (ad 1)), (4, .ref (ad 12))]) hx hb dPl_find_87 hl (k := 7) rfl (by show nI k + 1 = _; exact nI_1 _) (by decide) rfl (fun ls hl => ?_)
            refine lv_goto (tgt := 8) hx hb dPl_find_90 (by decide) ?_
            exact ih (k + 1) _ _ _ (by omega) (by omega) (by rw [e5]; exact hW) hS (lv_sub hl [3, 4, 5, 6, 7, 0] rfl)
          · have e5 : (mp_find hx_ hy_ hw_ (px i) (py i) (pw i) (mc_bar cx0 cy0 cx1 cy1 cc_ f0 f1 f2 f3) X Y (k + 1)) = mp_ins (mp_find hx_ hy_ hw_ (px i) (py i) (pw i) (mc_bar cx0 cy0 cx1 cy1 cc_ f0 f1 f2 f3) X Y k) (px i - hx_ k) (py i - hy_ k) := by show (if hw_ k = pw i then _ else _) = _; rw [if_pos c2]; exact if_neg (fun h9 => absurd ((dq_b_f (by rw [← hr1]; exact c3)).symm.trans h9) (by decide))
            have hle : (mp_find hx_ hy_ hw_ (px i) (py i) (pw i) (mc_bar cx0 cy0 cx1 cy1 cc_ f0 f1 f2 f3) X Y k).1 ≤ 16 := mp_find_le _ _ _ _ _ _ _ _ _ _
            refine lv_aload_n hx hb dPl_find_79 rfl (lv_at hl 2 rfl) ?_
            refine lv_iload hx hb dPl_find_80 (lv_at hl 1 rfl) ?_
            refine lv_iload hx hb dPl_find_82 (lv_at hl 0 rfl) ?_
            refine dq_callv (va_runV (As := [.int ((px i) - (hx_ k)), .int ((py i) - (hy_ k))]) (rest := []) ⟨hx, hb, hml, hown, hts⟩ (c_Places_insert l D g ad (dq_U (dq_U (dq_U w (31 + 4 * h) (.inl (g 0, 16, .inl ((mp_find hx_ hy_ hw_ (px i) (py i) (pw i) (mc_bar cx0 cy0 cx1 cy1 cc_ f0 f1 f2 f3) X Y k).2.1)))) (32 + 4 * h) (.inl (g 0, 16, .inl ((mp_find hx_ hy_ hw_ (px i) (py i) (pw i) (mc_bar cx0 cy0 cx1 cy1 cc_ f0 f1 f2 f3) X Y k).2.2)))) (30 + 4 * h) (.inr (4, [.ref (ad (31 + 4 * h)), .ref (ad (32 + 4 * h)), .ref (ad (33 + 4 * h)), .int (nI (mp_find hx_ hy_ hw_ (px i) (py i) (pw i) (mc_bar cx0 cy0 cx1 cy1 cc_ f0 f1 f2 f3) X Y k).1)]))) _ h ((mp_find hx_ hy_ hw_ (px i) (py i) (pw i) (mc_bar cx0 cy0 cx1 cy1 cc_ f0 f1 f2 f3) X Y k).1) ((mp_find hx_ hy_ hw_ (px i) (py i) (pw i) (mc_bar cx0 cy0 cx1 cy1 cc_ f0 f1 f2 f3) X Y k).2.1) ((mp_find hx_ hy_ hw_ (px i) (py i) (pw i) (mc_bar cx0 cy0 cx1 cy1 cc_ f0 f1 f2 f3) X Y k).2.2) Dr (px i - hx_ k) (py i - hy_ k) dq_Us ((dq_Un (by omega)).trans ((dq_Un (by omega)).trans dq_Us)) ((dq_Un (by omega)).trans dq_Us) hle) (cwV 2 hts (dq_giV tw2_23 tw2_25 twp_1 tw1_6 tw2_26) rfl rfl rfl (by decide +kernel) ⟨Nat.le_of_ble_eq_true rfl, Nat.le_of_ble_eq_true rfl⟩) (dq_preV (ci := 4) hW hS hA hK hZ dq_Us rfl rfl) rfl rfl hl.1 rfl (lv_room (Nat.le_of_ble_eq_true rfl)) dPl_find_84 ⟨Nat.zero_le _, Nat.zero_le _⟩) hW hS hA (fun u_9 H locs hp2 hW hS hz9 => ?_)
            rw [hp2, dq_U3] at hW
            refine lv_iinc (v := (nI (k + 1))) (lv' := [(5, .int (nI (k + 1))), (7, .int ((py i) - (hy_ k))), (6, .int ((px i) - (hx_ k))), (0, .ref (ad (30 + 4 * h))), (1, .int (nI i)), (2, .ref (ad 5)), (3, .ref (ad 1)), (4, .ref (ad 12))]) hx hb dPl_find_87 hl (k := 7) rfl (by show nI k + 1 = _; exact nI_1 _) (by decide) rfl (fun ls hl => ?_)
            refine lv_goto (tgt := 8) hx hb dPl_find_90 (by decide) ?_
            exact ih (k + 1) _ _ _ (by omega) (by omega) (by rw [e5]; exact hW) hS (lv_sub hl [3, 4, 5, 6, 7, 0] rfl)
  exact loop (n + 1) 0 _ _ _ (by omega) (Nat.zero_le _) hW hS (lv_sub hl [1, 2, 3, 4, 5, 0] rfl)
end
section
/-! Sets of holes and hits: numbers as bits -/
theorem s_l : ∀ n, n < 32 → ((nI n &&& 31).toBitVec.smod 32).toNat = n := by decide +kernel
theorem nx_and (a b : Nat) : nI a &&& nI b = nI (a &&& b) := by
  apply Int32.toBitVec_inj.1
  show BitVec.ofNat 32 a &&& BitVec.ofNat 32 b = BitVec.ofNat 32 (a &&& b)
  apply BitVec.eq_of_getLsbD_eq
  intro i hi
  simp [hi]
theorem nx_xor (a b : Nat) : nI a ^^^ nI b = nI (a ^^^ b) := by
  apply Int32.toBitVec_inj.1
  show BitVec.ofNat 32 a ^^^ BitVec.ofNat 32 b = BitVec.ofNat 32 (a ^^^ b)
  apply BitVec.eq_of_getLsbD_eq
  intro i hi
  simp [hi]
theorem nx_or (a b : Nat) : nI a ||| nI b = nI (a ||| b) := by
  apply Int32.toBitVec_inj.1
  show BitVec.ofNat 32 a ||| BitVec.ofNat 32 b = BitVec.ofNat 32 (a ||| b)
  apply BitVec.eq_of_getLsbD_eq
  intro i hi
  simp [hi]
theorem dq_sh1 : ∀ k, k < 31 → (1 : Int32) <<< (nI k &&& 31) = nI (2 ^ k) := by decide +kernel
theorem dq_bitv {S k : Nat} (hS : S < 2 ^ 31) (hk : k < 31) : (nI S >>> (nI k &&& 31)) &&& 1 = nI (S / 2 ^ k % 2) := by
  rw [pk_shrN hS _ k (s_l k (by omega))]
  show nI (S / 2 ^ k) &&& nI 1 = _
  rw [nx_and, Nat.and_one_is_mod]
theorem dq_bit {S k : Nat} (hS : S < 2 ^ 31) (hk : k < 31) : (nI S >>> (nI k &&& 31)) &&& 1 = dq_b (S.testBit k) := by
  rw [dq_bitv hS hk, Nat.testBit_eq_decide_div_mod_eq]
  unfold dq_b
  have h2 : S / 2 ^ k % 2 < 2 := Nat.mod_lt _ (by omega)
  rcases (show S / 2 ^ k % 2 = 0 ∨ S / 2 ^ k % 2 = 1 by omega) with h | h
  · rw [h]; rfl
  · rw [h]; rfl
/-- all bits but those of D -/
def dq_nt (D : Nat) : Nat := D ^^^ 4294967295
/-- S without D -/
def dq_df (S D : Nat) : Nat := S &&& dq_nt D
theorem dq_dfI (S D : Nat) : nI S &&& (nI D ^^^ (-1)) = nI (dq_df S D) := by
  show nI S &&& (nI D ^^^ nI 4294967295) = _
  rw [nx_xor, nx_and]
  rfl
theorem dq_df_le (S D : Nat) : dq_df S D ≤ S := Nat.and_le_left
theorem dq_df_bit (S D j : Nat) (hj : j < 32) : (dq_df S D).testBit j = (S.testBit j && !(D.testBit j)) := by
  have h : (4294967295 : Nat).testBit j = true := by
    rw [show (4294967295 : Nat) = 2 ^ 32 - 1 from rfl, Nat.testBit_two_pow_sub_one]
    exact decide_eq_true hj
  unfold dq_df dq_nt
  rw [Nat.testBit_and, Nat.testBit_xor, h]
  cases D.testBit j <;> rfl
/-- the least bit -/
def dq_lo (S : Nat) : Nat := dq_fn (fun i => S.testBit i) 32
theorem dq_uu (f : Nat → Int32) (k : Nat) (a b : Int32) : upd (upd f k a) k b = upd f k b := by
  funext j
  by_cases h : j = k
  · subst h; rw [pk_us, pk_us]
  · rw [pk_un h, pk_un h, pk_un h]
/-- the bits i .. i + d - 1 with F -/
def mp_bits (F : Nat → Bool) (i : Nat) : Nat → Nat
  | 0 => 0
  | d + 1 => if F (i + d) = true then mp_bits F i d ||| 2 ^ (i + d) else mp_bits F i d
def mp_F (hx hy hw px py pw pd pf pt : Nat → Int32) (n i : Nat) (x y : Int32) (h : Nat) : Bool := ml_alike pd pf pt i h && !(decide (dq_fst (fun k => decide (hx k = px h - x) && decide (hy k = py h - y) && decide (hw k = pw h)) n = -1))
def mp_D (B : Nat → Nat) (Dr : Nat → Int32) (k : Nat) : Nat → Int32 := fun p => if p < k then nI (B p) else Dr p
theorem mp_D_0 (B : Nat → Nat) (Dr : Nat → Int32) : mp_D B Dr 0 = Dr := by
  funext p
  unfold mp_D
  rw [if_neg (by omega)]
theorem mp_D_s (B : Nat → Nat) (Dr : Nat → Int32) (k : Nat) : upd (mp_D B Dr k) k (nI (B k)) = mp_D B Dr (k + 1) := by
  funext p
  by_cases h : p = k
  · subst h
    rw [pk_us]
    unfold mp_D
    rw [if_pos (by omega)]
  · rw [pk_un h]
    unfold mp_D
    by_cases h2 : p < k
    · rw [if_pos h2, if_pos (by omega)]
    · rw [if_neg h2, if_neg (by omega)]
end
section
set_option maxHeartbeats 4000000 in
set_option maxRecDepth 100000 in
/-- holds(set, number) -/
theorem c_holds (l : Launch) (D : va_G) (g : Nat → ClassId) (ad : Nat → Nat) (w : Nat → Option va_E) (sz : Nat) (S k : Nat)  (hS9 : S < 2 ^ 31) (hk9 : k < 31) : Met l yDH_holds wsDH_holds ({ frames := 0, cells := 0, slots := 0, locals := 0 } : Room) (va_Pc [.int (nI S), .int (nI k)] (dq_S D vwCl (dq_t g) ad w sz)) (va_Qi (fun r u => r = dq_b (S.testBit k) ∧ u = w) (dq_B D vwCl (dq_t g) ad (dq_A ad w sz)) (dq_A ad w sz)) 0 0 (dq_A ad w sz) := by
  refine dq_ofz (cc := cDH_holds) (maxL := 2) (by decide) rfl (Nat.le_of_ble_eq_true rfl) ?_
  intro p e s m below meth c A Q ls ⟨hx, hb, hml, hown, hts⟩ hnm hA hW hK hZ hl hret
  have hS : va_S A s.heap s.heap [] := va_S.rf
  have hl : lv_has ls 2 [(0, .int (nI S)), (1, .int (nI k))] := hl
  refine lv_iload_n hx hb dDH_holds_0 rfl (lv_at hl 0 rfl) ?_
  refine lv_iload_n hx hb dDH_holds_1 rfl (lv_at hl 1 rfl) ?_
  refine lv_ishr hx hb dDH_holds_2 ?_
  refine lv_iconst (v := (1)) hx hb dDH_holds_3 (by decide) ?_
  refine lv_iand hx hb dDH_holds_4 ?_
  refine dq_top (y := dq_b (S.testBit k)) (dq_bit hS9 hk9) ?_
  refine lv_if_eq (tgt := 12) hx hb dDH_holds_5 (by decide) (fun c1 => ?_) (fun c1 => ?_)
  · have e1 : S.testBit k = false := dq_b_f c1
    refine lv_iconst (v := (0)) hx hb dDH_holds_12 (by decide) ?_
    exact hret _ _ _ _ _ _ ⟨by rw [e1]; rfl, rfl⟩ (by decide) hW hS dDH_holds_13
  · have e1 : S.testBit k = true := dq_b_t c1
    refine lv_iconst (v := (1)) hx hb dDH_holds_8 (by decide) ?_
    refine lv_goto (tgt := 13) hx hb dDH_holds_9 (by decide) ?_
    exact hret _ _ _ _ _ _ ⟨by rw [e1]; rfl, rfl⟩ (by decide) hW hS dDH_holds_13
set_option maxHeartbeats 4000000 in
set_option maxRecDepth 100000 in
/-- without(set, number) -/
theorem c_without (l : Launch) (D : va_G) (g : Nat → ClassId) (ad : Nat → Nat) (w : Nat → Option va_E) (sz : Nat) (S k : Nat)  (hk9 : k < 31) : Met l yDH_without wsDH_without ({ frames := 0, cells := 0, slots := 0, locals := 0 } : Room) (va_Pc [.int (nI S), .int (nI k)] (dq_S D vwCl (dq_t g) ad w sz)) (va_Qi (fun r u => r = nI (dq_df S (2 ^ k)) ∧ u = w) (dq_B D vwCl (dq_t g) ad (dq_A ad w sz)) (dq_A ad w sz)) 0 0 (dq_A ad w sz) := by
  refine dq_ofi (cc := cDH_without) (maxL := 2) (by decide) rfl (Nat.le_of_ble_eq_true rfl) ?_
  intro p e s m below meth c A Q ls ⟨hx, hb, hml, hown, hts⟩ hnm hA hW hK hZ hl hret
  have hS : va_S A s.heap s.heap [] := va_S.rf
  have hl : lv_has ls 2 [(0, .int (nI S)), (1, .int (nI k))] := hl
  refine lv_iload_n hx hb dDH_without_0 rfl (lv_at hl 0 rfl) ?_
  refine lv_iconst (v := (1)) hx hb dDH_without_1 (by decide) ?_
  refine lv_iload_n hx hb dDH_without_2 rfl (lv_at hl 1 rfl) ?_
  refine lv_ishl hx hb dDH_without_3 ?_
  refine dq_top (y := nI (2 ^ k)) (dq_sh1 k hk9) ?_
  refine lv_iconst (v := (-1)) hx hb dDH_without_4 (by decide) ?_
  refine lv_ixor hx hb dDH_without_5 ?_
  refine lv_iand hx hb dDH_without_6 ?_
  refine dq_top (y := nI (dq_df S (2 ^ k))) (dq_dfI _ _) ?_
  exact hret _ _ _ _ _ _ ⟨rfl, rfl⟩ hW hS dDH_without_7
set_option maxHeartbeats 4000000 in
set_option maxRecDepth 100000 in
/-- Hits.add -/
theorem c_Hits_add (l : Launch) (D : va_G) (g : Nat → ClassId) (ad : Nat → Nat) (w : Nat → Option va_E) (sz : Nat) (hX hY hF hs : Nat → Int32) (hB : Nat → Nat) (hc : Nat) (a0 a1 a2 a3 : Int32) (t18 : w 18 = some (.inr (2, [.ref (ad 19), .ref (ad 20), .ref (ad 21), .ref (ad 22), .int (nI hc)]))) (t19 : w 19 = some (.inl (g 0, 14, .inl hX))) (t20 : w 20 = some (.inl (g 0, 14, .inl hY))) (t21 : w 21 = some (.inl (g 0, 14, .inl hF))) (t22 : w 22 = some (.inl (g 0, 14, .inl hs))) (hc14 : hc < 14) : Met l yHt_add wsHt_add ({ frames := 0, cells := 0, slots := 0, locals := 0 } : Room) (va_Pc [.ref (ad 18), .int a0, .int a1, .int a2, .int a3] (dq_S D vwCl (dq_t g) ad w sz)) (va_Qv (fun u => u = dq_U (dq_U (dq_U (dq_U (dq_U w 19 (.inl (g 0, 14, .inl (upd hX hc a0)))) 20 (.inl (g 0, 14, .inl (upd hY hc a1)))) 21 (.inl (g 0, 14, .inl (upd hF hc a2)))) 22 (.inl (g 0, 14, .inl (upd hs hc a3)))) 18 (.inr (2, [.ref (ad 19), .ref (ad 20), .ref (ad 21), .ref (ad 22), .int (nI (hc + 1))]))) (dq_B D vwCl (dq_t g) ad (dq_A ad w sz)) (dq_A ad w sz)) 0 0 (dq_A ad w sz) := by
  refine dq_ofv (cc := cHt_add) (maxL := 5) (by decide) rfl (Nat.le_of_ble_eq_true rfl) ?_
  intro p e s m below meth c A Q ls ⟨hx, hb, hml, hown, hts⟩ hnm hA hW hK hZ hl hret
  have hS : va_S A s.heap s.heap [] := va_S.rf
  have hl : lv_has ls 5 [(0, .ref (ad 18)), (1, .int a0), (2, .int a1), (3, .int a2), (4, .int a3)] := hl
  have hf9 := hts _ (List.mem_cons_of_mem _ tw1_162)
  have hf15 := hts _ (List.mem_cons_of_mem _ tw1_165)
  have hf18 := hts _ (List.mem_cons_of_mem _ tw1_168)
  have hf21 := hts _ (List.mem_cons_of_mem _ tw1_170)
  have hf24 := hts _ (List.mem_cons_of_mem _ tw1_172)
  have hinHt : ∀ w ∈ u_ws RHt THt 5, w ∈ wsHt_add := fun w h => List.mem_cons_of_mem _ (inHt w h)
  refine lv_aload_n hx hb dHt_add_0 rfl (lv_at hl 0 rfl) ?_
  refine dq_get (D := D) (ci := 2) (v := .int (nI hc)) (C := RHt) (T := THt) (N := 5) hx hb hts hinHt hown hK hW 18 t18 rfl 4 (by decide) hf24 (fun _ h9 => h9) rfl dHt_add_1 ?_
  refine lv_bipush (v := (nI 14)) hx hb dHt_add_4 (by decide) ?_
  refine lv_icmp_lt (tgt := 10) hx hb dHt_add_6 (by decide) (fun c1 => ?_) (fun c1 => ?_)
  · refine lv_aload_n hx hb dHt_add_10 rfl (lv_at hl 0 rfl) ?_
    refine dq_get (D := D) (ci := 2) (v := .ref (ad 19)) (C := RHt) (T := THt) (N := 5) hx hb hts hinHt hown hK hW 18 t18 rfl 0 (by decide) hf9 (fun _ h9 => h9) rfl dHt_add_11 ?_
    refine lv_aload_n hx hb dHt_add_14 rfl (lv_at hl 0 rfl) ?_
    refine dq_get (D := D) (ci := 2) (v := .int (nI hc)) (C := RHt) (T := THt) (N := 5) hx hb hts hinHt hown hK hW 18 t18 rfl 4 (by decide) hf24 (fun _ h9 => h9) rfl dHt_add_15 ?_
    refine lv_iload_n hx hb dHt_add_18 rfl (lv_at hl 1 rfl) ?_
    refine dq_iastN hx hb hK hW hS 19 0 t19 rfl hc (by omega) (by omega) dHt_add_19 (fun H locs hW hS => ?_)
    refine lv_aload_n hx hb dHt_add_20 rfl (lv_at hl 0 rfl) ?_
    refine dq_get (D := D) (ci := 2) (v := .ref (ad 20)) (C := RHt) (T := THt) (N := 5) hx hb hts hinHt hown hK hW 18 ((dq_Un (by decide)).trans t18) rfl 1 (by decide) hf15 (fun _ h9 => h9) rfl dHt_add_21 ?_
    refine lv_aload_n hx hb dHt_add_24 rfl (lv_at hl 0 rfl) ?_
    refine dq_get (D := D) (ci := 2) (v := .int (nI hc)) (C := RHt) (T := THt) (N := 5) hx hb hts hinHt hown hK hW 18 ((dq_Un (by decide)).trans t18) rfl 4 (by decide) hf24 (fun _ h9 => h9) rfl dHt_add_25 ?_
    refine lv_iload_n hx hb dHt_add_28 rfl (lv_at hl 2 rfl) ?_
    refine dq_iastN hx hb hK hW hS 20 0 ((dq_Un (by decide)).trans t20) rfl hc (by omega) (by omega) dHt_add_29 (fun H locs hW hS => ?_)
    refine lv_aload_n hx hb dHt_add_30 rfl (lv_at hl 0 rfl) ?_
    refine dq_get (D := D) (ci := 2) (v := .ref (ad 21)) (C := RHt) (T := THt) (N := 5) hx hb hts hinHt hown hK hW 18 ((dq_Un (by decide)).trans ((dq_Un (by decide)).trans t18)) rfl 2 (by decide) hf18 (fun _ h9 => h9) rfl dHt_add_31 ?_
    refine lv_aload_n hx hb dHt_add_34 rfl (lv_at hl 0 rfl) ?_
    refine dq_get (D := D) (ci := 2) (v := .int (nI hc)) (C := RHt) (T := THt) (N := 5) hx hb hts hinHt hown hK hW 18 ((dq_Un (by decide)).trans ((dq_Un (by decide)).trans t18)) rfl 4 (by decide) hf24 (fun _ h9 => h9) rfl dHt_add_35 ?_
    refine lv_iload_n hx hb dHt_add_38 rfl (lv_at hl 3 rfl) ?_
    refine dq_iastN hx hb hK hW hS 21 0 ((dq_Un (by decide)).trans ((dq_Un (by decide)).trans t21)) rfl hc (by omega) (by omega) dHt_add_39 (fun H locs hW hS => ?_)
    refine lv_aload_n hx hb dHt_add_40 rfl (lv_at hl 0 rfl) ?_
    refine dq_get (D := D) (ci := 2) (v := .ref (ad 22)) (C := RHt) (T := THt) (N := 5) hx hb hts hinHt hown hK hW 18 ((dq_Un (by decide)).trans ((dq_Un (by decide)).trans ((dq_Un (by decide)).trans t18))) rfl 3 (by decide) hf21 (fun _ h9 => h9) rfl dHt_add_41 ?_
    refine lv_aload_n hx hb dHt_add_44 rfl (lv_at hl 0 rfl) ?_
    refine dq_get (D := D) (ci := 2) (v := .int (nI hc)) (C := RHt) (T := THt) (N := 5) hx hb hts hinHt hown hK hW 18 ((dq_Un (by decide)).trans ((dq_Un (by decide)).trans ((dq_Un (by decide)).trans t18))) rfl 4 (by decide) hf24 (fun _ h9 => h9) rfl dHt_add_45 ?_
    refine lv_iload hx hb dHt_add_48 (lv_at hl 4 rfl) ?_
    refine dq_iastN hx hb hK hW hS 22 0 ((dq_Un (by decide)).trans ((dq_Un (by decide)).trans ((dq_Un (by decide)).trans t22))) rfl hc (by omega) (by omega) dHt_add_50 (fun H locs hW hS => ?_)
    refine lv_aload_n hx hb dHt_add_51 rfl (lv_at hl 0 rfl) ?_
    refine lv_dup hx hb dHt_add_52 rfl ?_
    refine dq_get (D := D) (ci := 2) (v := .int (nI hc)) (C := RHt) (T := THt) (N := 5) hx hb hts hinHt hown hK hW 18 ((dq_Un (by decide)).trans ((dq_Un (by decide)).trans ((dq_Un (by decide)).trans ((dq_Un (by decide)).trans t18)))) rfl 4 (by decide) hf24 (fun _ h9 => h9) rfl dHt_add_53 ?_
    refine lv_iconst (v := (1)) hx hb dHt_add_56 (by decide) ?_
    refine lv_iadd hx hb dHt_add_57 ?_
    refine dq_top (y := nI (hc + 1)) (nI_1 hc) ?_
    refine dq_put (D := D) (ci := 2) (v := .int (nI (hc + 1))) (ty := .int) (C := RHt) (T := THt) (N := 5) hx hb hts hinHt tyHt tyHt_ok nmHt hown hK hW hS 18 ((dq_Un (by decide)).trans ((dq_Un (by decide)).trans ((dq_Un (by decide)).trans ((dq_Un (by decide)).trans t18)))) rfl 4 (by decide) hf24 (fun _ h9 => h9) rfl (by decide +kernel) rfl rfl (Nat.le_of_ble_eq_true rfl) dHt_add_58 (fun H locs hW hS => ?_)
    exact hret _ _ _ _ _ rfl hW hS dHt_add_61
  · exact absurd (nI_lt hc14 (by omega)) c1
set_option maxHeartbeats 4000000 in
set_option maxRecDepth 100000 in
/-- Hits.drilling(hole) -/
theorem c_Hits_drilling (l : Launch) (D : va_G) (g : Nat → ClassId) (ad : Nat → Nat) (w : Nat → Option va_E) (sz : Nat) (hX hY hF hs : Nat → Int32) (hB : Nat → Nat) (hc : Nat) (i : Nat) (t18 : w 18 = some (.inr (2, [.ref (ad 19), .ref (ad 20), .ref (ad 21), .ref (ad 22), .int (nI hc)]))) (t22 : w 22 = some (.inl (g 0, 14, .inl hs))) (hc14 : hc ≤ 14) (hi : i < 14) (hSl : ∀ k, k < hc → hs k = nI (hB k) ∧ hB k < 2 ^ 31) : Met l yHt_drilling wsHt_drilling ({ frames := 1, cells := 0, slots := 0, locals := 24 } : Room) (va_Pc [.ref (ad 18), .int (nI i)] (dq_S D vwCl (dq_t g) ad w sz)) (va_Qi (fun r u => r = dq_fst (fun k => (hB k).testBit i) hc ∧ u = w) (dq_B D vwCl (dq_t g) ad (dq_A ad w sz)) (dq_A ad w sz)) 0 0 (dq_A ad w sz) := by
  refine dq_ofi (cc := cHt_drilling) (maxL := 3) (by decide) rfl (Nat.le_of_ble_eq_true rfl) ?_
  intro p e s m below meth c A Q ls ⟨hx, hb, hml, hown, hts⟩ hnm hA hW hK hZ hl hret
  have hS : va_S A s.heap s.heap [] := va_S.rf
  have hl : lv_has ls 3 [(0, .ref (ad 18)), (1, .int (nI i))] := hl
  have hf21 := hts _ (List.mem_cons_of_mem _ tw1_170)
  have hf24 := hts _ (List.mem_cons_of_mem _ tw1_172)
  have hinHt : ∀ w ∈ u_ws RHt THt 5, w ∈ wsHt_drilling := fun w h => List.mem_cons_of_mem _ (inHt w h)
  refine lv_iconst (v := (nI 0)) hx hb dHt_drilling_0 (by decide) ?_
  refine lv_istore_n (lv' := [(2, .int (nI 0)), (0, .ref (ad 18)), (1, .int (nI i))]) hx hb dHt_drilling_1 rfl hl (by decide) rfl (fun ls hl => ?_)
  have loop : ∀ (j : Nat) (k : Nat) (H : Heap) (locs : List Loc) (ls : Array Slot), hc < k + j → k ≤ hc → (∀ i9, i9 < k → (fun k => (hB k).testBit i) i9 = false) → dq_W D vwCl ad (w) A H → va_S A s.heap H locs → lv_has ls 3 [(0, .ref (ad 18)), (1, .int (nI i)), (2, .int (nI k))] → W p l e ({ frames := 1, cells := 0, slots := 0, locals := 24 } : Room) s m ([.ref (ad 18), .int (nI i)] : List Value).toArray below meth c H locs 0 0 Q (F0 m 2 ls []) := by
    intro j
    induction j with
    | zero => intro k H locs ls hj hk hb9 hW hS hl; exact absurd hj (by omega)
    | succ j ih =>
      intro k H locs ls hj hk hb9 hW hS hl
      refine lv_iload_n hx hb dHt_drilling_2 rfl (lv_at hl 2 rfl) ?_
      refine lv_aload_n hx hb dHt_drilling_3 rfl (lv_at hl 0 rfl) ?_
      refine dq_get (D := D) (ci := 2) (v := .int (nI hc)) (C := RHt) (T := THt) (N := 5) hx hb hts hinHt hown hK hW 18 t18 rfl 4 (by decide) hf24 (fun _ h9 => h9) rfl dHt_drilling_4 ?_
      refine lv_icmp_ge (tgt := 31) hx hb dHt_drilling_7 (by decide) (fun c1 => ?_) (fun c1 => ?_)
      · have hkn : k = hc := by have q := (nI_leI (by omega) (by omega)).mp c1; omega
        refine lv_iconst (v := (-1)) hx hb dHt_drilling_31 (by decide) ?_
        exact hret _ _ _ _ _ _ ⟨(dq_fst_none (by rw [← hkn]; exact hb9)).symm, rfl⟩ hW hS dHt_drilling_32
      · have hkn : k < hc := by rcases Nat.lt_or_ge k hc with q | q; exact q; exact absurd (nI_le q (by omega)) c1
        refine lv_aload_n hx hb dHt_drilling_10 rfl (lv_at hl 0 rfl) ?_
        refine dq_get (D := D) (ci := 2) (v := .ref (ad 22)) (C := RHt) (T := THt) (N := 5) hx hb hts hinHt hown hK hW 18 t18 rfl 3 (by decide) hf21 (fun _ h9 => h9) rfl dHt_drilling_11 ?_
        refine lv_iload_n hx hb dHt_drilling_14 rfl (lv_at hl 2 rfl) ?_
        refine dq_ialdN hx hb hK hW 22 0 t22 rfl k (by omega) (by omega) dHt_drilling_15 ?_
        refine dq_top (y := nI (hB k)) (hSl k hkn).1 ?_
        refine lv_iload_n hx hb dHt_drilling_16 rfl (lv_at hl 1 rfl) ?_
        refine dq_calli (va_runSN (As := [.int (nI (hB k)), .int (nI i)]) (rest := []) ⟨hx, hb, hml, hown, hts⟩ (c_holds l D g ad (w) _ (hB k) i  (hSl k hkn).2 (by omega)) ⟨va_cnB 2 hts (dq_gi tw2_86) rfl rfl rfl (hZ.n9) (hts _ (List.mem_cons_of_mem _ tw1_1)) (by decide +kernel) ⟨Nat.le_of_ble_eq_true rfl, Nat.le_of_ble_eq_true rfl⟩, (hts _ (List.mem_cons_of_mem _ tw2_85)), trivial⟩ (dq_preS hW hS hA hK hZ) rfl rfl hl.1 rfl (lv_room (Nat.le_of_ble_eq_true rfl)) dHt_drilling_17 ⟨Nat.zero_le _, Nat.zero_le _⟩) hW hS hA (fun r1 u_9 H locs hp1 hW hS hz9 => ?_)
        obtain ⟨hr1, hu9⟩ := hp1
        rw [hu9] at hW
        refine lv_if_eq (tgt := 25) hx hb dHt_drilling_20 (by decide) (fun c2 => ?_) (fun c2 => ?_)
        · have e1 : (fun k => (hB k).testBit i) k = false := dq_b_f (by rw [← hr1]; exact c2)
          refine lv_iinc (v := (nI (k + 1))) (lv' := [(2, .int (nI (k + 1))), (0, .ref (ad 18)), (1, .int (nI i))]) hx hb dHt_drilling_25 hl (k := 2) rfl (by show nI k + 1 = _; exact nI_1 _) (by decide) rfl (fun ls hl => ?_)
          refine lv_goto (tgt := 2) hx hb dHt_drilling_28 (by decide) ?_
          exact ih (k + 1) _ _ _ (by omega) (by omega) (lt_s hb9 e1) hW hS (lv_sub hl [1, 2, 0] rfl)
        · have e1 : (fun k => (hB k).testBit i) k = true := dq_b_t (by rw [← hr1]; exact c2)
          refine lv_iload_n hx hb dHt_drilling_23 rfl (lv_at hl 2 rfl) ?_
          exact hret _ _ _ _ _ _ ⟨(dq_fst_at hkn e1 hb9).symm, rfl⟩ hW hS dHt_drilling_24
  exact loop (hc + 1) 0 _ _ _ (by omega) (Nat.zero_le _) lt_0 hW hS (lv_sub hl [1, 2, 0] rfl)
set_option maxHeartbeats 4000000 in
set_option maxRecDepth 100000 in
/-- Places.findDrilled(hole, part, head) -/
theorem c_Places_findDrilled (l : Launch) (D : va_G) (g : Nat → ClassId) (ad : Nat → Nat) (w : Nat → Option va_E) (sz : Nat) (n : Nat) (hx_ hy_ hw_ : Nat → Int32) (f0 f1 f2 f3 : Int32) (px py pw pd pf pt : Nat → Int32) (pc_ : Nat) (h q : Nat) (X Y Dr : Nat → Int32) (i : Nat) (h1 : w 1 = some (.inr (1, [.ref (ad 2), .ref (ad 3), .ref (ad 4), .int f0, .int f1, .int f2, .int f3]))) (h2 : w 2 = some (.inl (g 0, n, .inl hx_))) (h3 : w 3 = some (.inl (g 0, n, .inl hy_))) (h4 : w 4 = some (.inl (g 0, n, .inl hw_))) (p5 : w 5 = some (.inr (3, [.ref (ad 6), .ref (ad 7), .ref (ad 8), .ref (ad 9), .ref (ad 10), .ref (ad 11), .int (nI pc_)]))) (p6 : w 6 = some (.inl (g 0, 14, .inl px))) (p7 : w 7 = some (.inl (g 0, 14, .inl py))) (p8 : w 8 = some (.inl (g 0, 14, .inl pw))) (p9 : w 9 = some (.inl (g 0, 14, .inl pd))) (p10 : w 10 = some (.inl (g 0, 14, .inl pf))) (p11 : w 11 = some (.inl (g 1, 14, .inl pt))) (l0 : w (30 + 4 * h) = some (.inr (4, [.ref (ad (31 + 4 * h)), .ref (ad (32 + 4 * h)), .ref (ad (33 + 4 * h)), .int (nI q)]))) (l1 : w (31 + 4 * h) = some (.inl (g 0, 16, .inl X))) (l2 : w (32 + 4 * h) = some (.inl (g 0, 16, .inl Y))) (l3 : w (33 + 4 * h) = some (.inl (g 0, 16, .inl Dr))) (hn : n ≤ 16) (hq : q ≤ 16) (hi : i < pc_) (hpc : pc_ ≤ 14) : Met l yPl_findDrilled wsPl_findDrilled ({ frames := 3, cells := 0, slots := 0, locals := 80 } : Room) (va_Pc [.ref (ad (30 + 4 * h)), .int (nI i), .ref (ad 5), .ref (ad 1)] (dq_S D vwCl (dq_t g) ad w sz)) (va_Qv (fun u => u = dq_U w (33 + 4 * h) (.inl (g 0, 16, .inl (mp_D (fun p => mp_bits (mp_F hx_ hy_ hw_ px py pw pd pf pt n i (X p) (Y p)) i (pc_ - i)) Dr q)))) (dq_B D vwCl (dq_t g) ad (dq_A ad w sz)) (dq_A ad w sz)) 0 0 (dq_A ad w sz) := by
  refine dq_ofv (cc := cPl_findDrilled) (maxL := 6) (by decide) rfl (Nat.le_of_ble_eq_true rfl) ?_
  intro p e s m below meth c A Q ls ⟨hx, hb, hml, hown, hts⟩ hnm hA hW hK hZ hl hret
  have hS : va_S A s.heap s.heap [] := va_S.rf
  have hl : lv_has ls 6 [(0, .ref (ad (30 + 4 * h))), (1, .int (nI i)), (2, .ref (ad 5)), (3, .ref (ad 1))] := hl
  have hf9 := hts _ (List.mem_cons_of_mem _ tw1_137)
  have hf15 := hts _ (List.mem_cons_of_mem _ tw1_139)
  have hf18 := hts _ (List.mem_cons_of_mem _ tw1_141)
  have hf21 := hts _ (List.mem_cons_of_mem _ tw1_144)
  have hf47 := hts _ (List.mem_cons_of_mem _ tw1_90)
  have hinPt : ∀ w ∈ u_ws RPt TPt 7, w ∈ wsPl_findDrilled := fun w h => List.mem_cons_of_mem _ (inPt w h)
  have hinPl : ∀ w ∈ u_ws RPl TPl 4, w ∈ wsPl_findDrilled := fun w h => List.mem_cons_of_mem _ (inPl w h)
  refine lv_iconst (v := (nI 0)) hx hb dPl_findDrilled_0 (by decide) ?_
  refine lv_istore (lv' := [(4, .int (nI 0)), (0, .ref (ad (30 + 4 * h))), (1, .int (nI i)), (2, .ref (ad 5)), (3, .ref (ad 1))]) hx hb dPl_findDrilled_1 hl (by decide) rfl (fun ls hl => ?_)
  have hW : dq_W D vwCl ad (dq_U w (33 + 4 * h) (.inl (g 0, 16, .inl (mp_D (fun p => mp_bits (mp_F hx_ hy_ hw_ px py pw pd pf pt n i (X p) (Y p)) i (pc_ - i)) Dr 0)))) A s.heap := dq_Wc (by rw [mp_D_0, dq_Uid l3]) hW
  have loop : ∀ (j : Nat) (k : Nat) (H : Heap) (locs : List Loc) (ls : Array Slot), q < k + j → k ≤ q → dq_W D vwCl ad (dq_U w (33 + 4 * h) (.inl (g 0, 16, .inl (mp_D (fun p => mp_bits (mp_F hx_ hy_ hw_ px py pw pd pf pt n i (X p) (Y p)) i (pc_ - i)) Dr k)))) A H → va_S A s.heap H locs → lv_has ls 6 [(0, .ref (ad (30 + 4 * h))), (1, .int (nI i)), (2, .ref (ad 5)), (3, .ref (ad 1)), (4, .int (nI k))] → W p l e ({ frames := 3, cells := 0, slots := 0, locals := 80 } : Room) s m ([.ref (ad (30 + 4 * h)), .int (nI i), .ref (ad 5), .ref (ad 1)] : List Value).toArray below meth c H locs 0 0 Q (F0 m 3 ls []) := by
    intro j
    induction j with
    | zero => intro k H locs ls hj hk hW hS hl; exact absurd hj (by omega)
    | succ j ih =>
      intro k H locs ls hj hk hW hS hl
      refine lv_iload hx hb dPl_findDrilled_3 (lv_at hl 4 rfl) ?_
      refine lv_aload_n hx hb dPl_findDrilled_5 rfl (lv_at hl 0 rfl) ?_
      refine dq_get (D := D) (ci := 4) (v := .int (nI q)) (C := RPl) (T := TPl) (N := 4) hx hb hts hinPl hown hK hW (30 + 4 * h) ((dq_Un (by omega)).trans l0) rfl 3 (by decide) hf21 (fun _ h9 => h9) rfl dPl_findDrilled_6 ?_
      refine lv_icmp_ge (tgt := 93) hx hb dPl_findDrilled_9 (by decide) (fun c1 => ?_) (fun c1 => ?_)
      · have hkn : q = k := by have q9 := (nI_leI (by omega) (by omega)).mp c1; omega
        subst hkn
        exact hret _ _ _ _ _ rfl hW hS dPl_findDrilled_93
      · have hkn : k < q := by rcases Nat.lt_or_ge k q with q | q; exact q; exact absurd (nI_le q (by omega)) c1
        refine lv_aload_n hx hb dPl_findDrilled_12 rfl (lv_at hl 0 rfl) ?_
        refine dq_get (D := D) (ci := 4) (v := .ref (ad (33 + 4 * h))) (C := RPl) (T := TPl) (N := 4) hx hb hts hinPl hown hK hW (30 + 4 * h) ((dq_Un (by omega)).trans l0) rfl 2 (by decide) hf18 (fun _ h9 => h9) rfl dPl_findDrilled_13 ?_
        refine lv_iload hx hb dPl_findDrilled_16 (lv_at hl 4 rfl) ?_
        refine lv_iconst (v := (0)) hx hb dPl_findDrilled_18 (by decide) ?_
        refine dq_iastN hx hb hK hW hS (33 + 4 * h) 0 dq_Us rfl k (by omega) (by omega) dPl_findDrilled_19 (fun H locs hW hS => ?_)
        rw [dq_UU] at hW
        refine lv_iload_n hx hb dPl_findDrilled_20 rfl (lv_at hl 1 rfl) ?_
        refine lv_istore (lv' := [(5, .int (nI i)), (0, .ref (ad (30 + 4 * h))), (1, .int (nI i)), (2, .ref (ad 5)), (3, .ref (ad 1)), (4, .int (nI k))]) hx hb dPl_findDrilled_21 hl (by decide) rfl (fun ls hl => ?_)
        have hW : dq_W D vwCl ad (dq_U w (33 + 4 * h) (.inl (g 0, 16, .inl (upd (mp_D (fun p => mp_bits (mp_F hx_ hy_ hw_ px py pw pd pf pt n i (X p) (Y p)) i (pc_ - i)) Dr k) k (nI (mp_bits (mp_F hx_ hy_ hw_ px py pw pd pf pt n i (X k) (Y k)) i 0)))))) A H := hW
        have loop2 : ∀ (j2 : Nat) (d : Nat) (H : Heap) (locs : List Loc) (ls : Array Slot), pc_ < i + d + j2 → i + d ≤ pc_ → dq_W D vwCl ad (dq_U w (33 + 4 * h) (.inl (g 0, 16, .inl (upd (mp_D (fun p => mp_bits (mp_F hx_ hy_ hw_ px py pw pd pf pt n i (X p) (Y p)) i (pc_ - i)) Dr k) k (nI (mp_bits (mp_F hx_ hy_ hw_ px py pw pd pf pt n i (X k) (Y k)) i d)))))) A H → va_S A s.heap H locs → lv_has ls 6 [(0, .ref (ad (30 + 4 * h))), (1, .int (nI i)), (2, .ref (ad 5)), (3, .ref (ad 1)), (4, .int (nI k)), (5, .int (nI (i + d)))] → W p l e ({ frames := 3, cells := 0, slots := 0, locals := 80 } : Room) s m ([.ref (ad (30 + 4 * h)), .int (nI i), .ref (ad 5), .ref (ad 1)] : List Value).toArray below meth c H locs 0 0 Q (F0 m 23 ls []) := by
          intro j2
          induction j2 with
          | zero => intro d H locs ls hj2 hd hW hS hl; exact absurd hj2 (by omega)
          | succ j2 ih2 =>
            intro d H locs ls hj2 hd hW hS hl
            refine lv_iload hx hb dPl_findDrilled_23 (lv_at hl 5 rfl) ?_
            refine lv_aload_n hx hb dPl_findDrilled_25 rfl (lv_at hl 2 rfl) ?_
            refine dq_get (D := D) (ci := 3) (v := .int (nI pc_)) (C := RPt) (T := TPt) (N := 7) hx hb hts hinPt hown hK hW 5 ((dq_Un (by omega)).trans p5) rfl 6 (by decide) hf47 (fun _ h9 => h9) rfl dPl_findDrilled_26 ?_
            refine lv_icmp_ge (tgt := 87) hx hb dPl_findDrilled_29 (by decide) (fun c2 => ?_) (fun c2 => ?_)
            · have hdn : d = pc_ - i := by have q9 := (nI_leI (by omega) (by omega)).mp c2; omega
              refine lv_iinc (v := (nI (k + 1))) (lv' := [(4, .int (nI (k + 1))), (0, .ref (ad (30 + 4 * h))), (1, .int (nI i)), (2, .ref (ad 5)), (3, .ref (ad 1)), (5, .int (nI (i + d)))]) hx hb dPl_findDrilled_87 hl (k := 4) rfl (by show nI k + 1 = _; exact nI_1 _) (by decide) rfl (fun ls hl => ?_)
              refine lv_goto (tgt := 3) hx hb dPl_findDrilled_90 (by decide) ?_
              rw [hdn] at hW
              have hW : dq_W D vwCl ad (dq_U w (33 + 4 * h) (.inl (g 0, 16, .inl (mp_D (fun p => mp_bits (mp_F hx_ hy_ hw_ px py pw pd pf pt n i (X p) (Y p)) i (pc_ - i)) Dr (k + 1))))) A H := dq_Wc (by rw [← mp_D_s]) hW
              exact ih (k + 1) _ _ _ (by omega) (by omega) hW hS (lv_sub hl [1, 2, 3, 4, 0] rfl)
            · have hdn : i + d < pc_ := by rcases Nat.lt_or_ge (i + d) pc_ with q9 | q9; exact q9; exact absurd (nI_le q9 (by omega)) c2
              refine lv_aload_n hx hb dPl_findDrilled_32 rfl (lv_at hl 2 rfl) ?_
              refine lv_iload_n hx hb dPl_findDrilled_33 rfl (lv_at hl 1 rfl) ?_
              refine lv_iload hx hb dPl_findDrilled_34 (lv_at hl 5 rfl) ?_
              refine dq_calli (va_runV (As := [.int (nI i), .int (nI (i + d))]) (rest := []) ⟨hx, hb, hml, hown, hts⟩ (c_Part_alike l D g ad (dq_U w (33 + 4 * h) (.inl (g 0, 16, .inl (upd (mp_D (fun p => mp_bits (mp_F hx_ hy_ hw_ px py pw pd pf pt n i (X p) (Y p)) i (pc_ - i)) Dr k) k (nI (mp_bits (mp_F hx_ hy_ hw_ px py pw pd pf pt n i (X k) (Y k)) i d)))))) _ px py pw pd pf pt pc_ i (i + d) ((dq_Un (by omega)).trans p5) ((dq_Un (by omega)).trans p6) ((dq_Un (by omega)).trans p7) ((dq_Un (by omega)).trans p8) ((dq_Un (by omega)).trans p9) ((dq_Un (by omega)).trans p10) ((dq_Un (by omega)).trans p11) (by omega) (by omega)) (cwV 2 hts (dq_giV tw2_31 tw2_32 tw2_33 tw1_4 tw2_34) rfl rfl rfl (by decide +kernel) ⟨Nat.le_of_ble_eq_true rfl, Nat.le_of_ble_eq_true rfl⟩) (dq_preV (ci := 3) hW hS hA hK hZ ((dq_Un (by omega)).trans p5) rfl rfl) rfl rfl hl.1 rfl (lv_room (Nat.le_of_ble_eq_true rfl)) dPl_findDrilled_36 ⟨Nat.zero_le _, Nat.zero_le _⟩) hW hS hA (fun r1 u_9 H locs hp1 hW hS hz9 => ?_)
              obtain ⟨hr1, hu9⟩ := hp1
              rw [hu9] at hW
              refine lv_if_eq (tgt := 81) hx hb dPl_findDrilled_39 (by decide) (fun c3 => ?_) (fun c3 => ?_)
              · have e5 : (mp_F hx_ hy_ hw_ px py pw pd pf pt n i (X k) (Y k)) (i + d) = false := by unfold mp_F; rw [dq_b_f (b := ml_alike pd pf pt i (i + d)) (by rw [← hr1]; exact c3)]; rfl
                have e6 : mp_bits (mp_F hx_ hy_ hw_ px py pw pd pf pt n i (X k) (Y k)) i (d + 1) = mp_bits (mp_F hx_ hy_ hw_ px py pw pd pf pt n i (X k) (Y k)) i d := if_neg (by rw [e5]; decide)
                refine lv_iinc (v := (nI (i + (d + 1)))) (lv' := [(5, .int (nI (i + (d + 1)))), (0, .ref (ad (30 + 4 * h))), (1, .int (nI i)), (2, .ref (ad 5)), (3, .ref (ad 1)), (4, .int (nI k))]) hx hb dPl_findDrilled_81 hl (k := 5) rfl (nI_1 (i + d)) (by decide) rfl (fun ls hl => ?_)
                refine lv_goto (tgt := 23) hx hb dPl_findDrilled_84 (by decide) ?_
                exact ih2 (d + 1) _ _ _ (by omega) (by omega) (by rw [e6]; exact hW) hS (lv_sub hl [1, 2, 3, 4, 5, 0] rfl)
              · refine lv_aload_n hx hb dPl_findDrilled_42 rfl (lv_at hl 2 rfl) ?_
                refine lv_iload hx hb dPl_findDrilled_43 (lv_at hl 5 rfl) ?_
                refine lv_aload_n hx hb dPl_findDrilled_45 rfl (lv_at hl 3 rfl) ?_
                refine lv_aload_n hx hb dPl_findDrilled_46 rfl (lv_at hl 0 rfl) ?_
                refine dq_get (D := D) (ci := 4) (v := .ref (ad (31 + 4 * h))) (C := RPl) (T := TPl) (N := 4) hx hb hts hinPl hown hK hW (30 + 4 * h) ((dq_Un (by omega)).trans l0) rfl 0 (by decide) hf9 (fun _ h9 => h9) rfl dPl_findDrilled_47 ?_
                refine lv_iload hx hb dPl_findDrilled_50 (lv_at hl 4 rfl) ?_
                refine dq_ialdN hx hb hK hW (31 + 4 * h) 0 ((dq_Un (by omega)).trans l1) rfl k (by omega) (by omega) dPl_findDrilled_52 ?_
                refine lv_aload_n hx hb dPl_findDrilled_53 rfl (lv_at hl 0 rfl) ?_
                refine dq_get (D := D) (ci := 4) (v := .ref (ad (32 + 4 * h))) (C := RPl) (T := TPl) (N := 4) hx hb hts hinPl hown hK hW (30 + 4 * h) ((dq_Un (by omega)).trans l0) rfl 1 (by decide) hf15 (fun _ h9 => h9) rfl dPl_findDrilled_54 ?_
                refine lv_iload hx hb dPl_findDrilled_57 (lv_at hl 4 rfl) ?_
                refine dq_ialdN hx hb hK hW (32 + 4 * h) 0 ((dq_Un (by omega)).trans l2) rfl k (by omega) (by omega) dPl_findDrilled_59 ?_
                refine dq_calli (va_runV (As := [.int (nI (i + d)), .ref (ad 1), .int (X k), .int (Y k)]) (rest := []) ⟨hx, hb, hml, hown, hts⟩ (c_Part_spindleFor l D g ad (dq_U w (33 + 4 * h) (.inl (g 0, 16, .inl (upd (mp_D (fun p => mp_bits (mp_F hx_ hy_ hw_ px py pw pd pf pt n i (X p) (Y p)) i (pc_ - i)) Dr k) k (nI (mp_bits (mp_F hx_ hy_ hw_ px py pw pd pf pt n i (X k) (Y k)) i d)))))) _ n hx_ hy_ hw_ f0 f1 f2 f3 px py pw pd pf pt pc_ (i + d) (X k) (Y k) ((dq_Un (by omega)).trans h1) ((dq_Un (by omega)).trans h2) ((dq_Un (by omega)).trans h3) ((dq_Un (by omega)).trans h4) ((dq_Un (by omega)).trans p5) ((dq_Un (by omega)).trans p6) ((dq_Un (by omega)).trans p7) ((dq_Un (by omega)).trans p8) hn (by omega)) (cwV 4 hts (dq_giV tw2_35 tw2_36 tw2_37 tw1_4 tw2_38) rfl rfl rfl (by decide +kernel) ⟨Nat.le_of_ble_eq_true rfl, Nat.le_of_ble_eq_true rfl⟩) (dq_preV (ci := 3) hW hS hA hK hZ ((dq_Un (by omega)).trans p5) rfl rfl) rfl rfl hl.1 rfl (lv_room (Nat.le_of_ble_eq_true rfl)) dPl_findDrilled_60 ⟨Nat.zero_le _, Nat.zero_le _⟩) hW hS hA (fun r2 u_9 H locs hp2 hW hS hz9 => ?_)
                obtain ⟨hr2, hu9⟩ := hp2
                rw [hu9] at hW
                refine lv_iconst (v := (-1)) hx hb dPl_findDrilled_63 (by decide) ?_
                refine lv_icmp_eq (tgt := 81) hx hb dPl_findDrilled_64 (by decide) (fun c4 => ?_) (fun c4 => ?_)
                · have e5 : (mp_F hx_ hy_ hw_ px py pw pd pf pt n i (X k) (Y k)) (i + d) = false := by unfold mp_F; rw [← hr2]; simp [c4]
                  have e6 : mp_bits (mp_F hx_ hy_ hw_ px py pw pd pf pt n i (X k) (Y k)) i (d + 1) = mp_bits (mp_F hx_ hy_ hw_ px py pw pd pf pt n i (X k) (Y k)) i d := if_neg (by rw [e5]; decide)
                  refine lv_iinc (v := (nI (i + (d + 1)))) (lv' := [(5, .int (nI (i + (d + 1)))), (0, .ref (ad (30 + 4 * h))), (1, .int (nI i)), (2, .ref (ad 5)), (3, .ref (ad 1)), (4, .int (nI k))]) hx hb dPl_findDrilled_81 hl (k := 5) rfl (nI_1 (i + d)) (by decide) rfl (fun ls hl => ?_)
                  refine lv_goto (tgt := 23) hx hb dPl_findDrilled_84 (by decide) ?_
                  exact ih2 (d + 1) _ _ _ (by omega) (by omega) (by rw [e6]; exact hW) hS (lv_sub hl [1, 2, 3, 4, 5, 0] rfl)
                · have e5 : (mp_F hx_ hy_ hw_ px py pw pd pf pt n i (X k) (Y k)) (i + d) = true := by unfold mp_F; rw [Bool.and_eq_true]; refine ⟨dq_b_t (by rw [← hr1]; exact c3), ?_⟩; rw [← hr2]; simp [c4]
                  have e6 : mp_bits (mp_F hx_ hy_ hw_ px py pw pd pf pt n i (X k) (Y k)) i (d + 1) = mp_bits (mp_F hx_ hy_ hw_ px py pw pd pf pt n i (X k) (Y k)) i d ||| 2 ^ (i + d) := if_pos e5
                  refine lv_aload_n hx hb dPl_findDrilled_67 rfl (lv_at hl 0 rfl) ?_
                  refine dq_get (D := D) (ci := 4) (v := .ref (ad (33 + 4 * h))) (C := RPl) (T := TPl) (N := 4) hx hb hts hinPl hown hK hW (30 + 4 * h) ((dq_Un (by omega)).trans l0) rfl 2 (by decide) hf18 (fun _ h9 => h9) rfl dPl_findDrilled_68 ?_
                  refine lv_iload hx hb dPl_findDrilled_71 (lv_at hl 4 rfl) ?_
                  refine lv_dup2_11 hx hb dPl_findDrilled_73 rfl rfl ?_
                  refine dq_ialdN hx hb hK hW (33 + 4 * h) 0 dq_Us rfl k (by omega) (by omega) dPl_findDrilled_74 ?_
                  refine dq_top (y := nI (mp_bits (mp_F hx_ hy_ hw_ px py pw pd pf pt n i (X k) (Y k)) i d)) pk_us ?_
                  refine lv_iconst (v := (1)) hx hb dPl_findDrilled_75 (by decide) ?_
                  refine lv_iload hx hb dPl_findDrilled_76 (lv_at hl 5 rfl) ?_
                  refine lv_ishl hx hb dPl_findDrilled_78 ?_
                  refine dq_top (y := nI (2 ^ (i + d))) (dq_sh1 _ (by omega)) ?_
                  refine lv_ior hx hb dPl_findDrilled_79 ?_
                  refine dq_top (y := nI (mp_bits (mp_F hx_ hy_ hw_ px py pw pd pf pt n i (X k) (Y k)) i (d + 1))) (by rw [e6]; exact nx_or _ _) ?_
                  refine dq_iastN hx hb hK hW hS (33 + 4 * h) 0 dq_Us rfl k (by omega) (by omega) dPl_findDrilled_80 (fun H locs hW hS => ?_)
                  rw [dq_UU] at hW
                  refine lv_iinc (v := (nI (i + (d + 1)))) (lv' := [(5, .int (nI (i + (d + 1)))), (0, .ref (ad (30 + 4 * h))), (1, .int (nI i)), (2, .ref (ad 5)), (3, .ref (ad 1)), (4, .int (nI k))]) hx hb dPl_findDrilled_81 hl (k := 5) rfl (nI_1 (i + d)) (by decide) rfl (fun ls hl => ?_)
                  refine lv_goto (tgt := 23) hx hb dPl_findDrilled_84 (by decide) ?_
                  rw [dq_uu] at hW
                  exact ih2 (d + 1) _ _ _ (by omega) (by omega) hW hS (lv_sub hl [1, 2, 3, 4, 5, 0] rfl)
        exact loop2 (pc_ + 1) 0 _ _ _ (by omega) (by omega) hW hS (lv_sub hl [1, 2, 3, 4, 5, 0] rfl)
  exact loop (q + 1) 0 _ _ _ (by omega) (Nat.zero_le _) hW hS (lv_sub hl [1, 2, 3, 4, 0] rfl)
end
section
theorem dq_ofiF {l : Launch} {y : MethodName} {ws ws' : List Cond} {rm : Room} {D : va_G} {cl : List vw_C} {tys : List (ClassId × FieldType)} {ad : Nat → Nat} {w : Nat → Option va_E} {sz : Nat} {av : List Value} {post : Int32 → (Nat → Option va_E) → Prop} {mc ms : Nat} {cc : ByteArray} {maxL : Nat} (hy : plainFor y = true) (hw : ws = Cond.code y cc maxL (some .int) :: ws') (hav : (lg_sl av).length ≤ maxL)
    (body : ∀ (p : Program) (e : Env) (s : State) (m : MethodId) (below : List Frame) (meth : Method) (c : Code) (A : Nat → Prop) (Q : State → Prop) (ls : Array Slot), CallFix p m c cc maxL s av.toArray ws y.cls → meth.name = y.name → (∀ q, s.heap.size ≤ q → A q) → dq_W D cl ad w A s.heap → va_K D cl tys s → dq_Z A s s.heap → lv_has ls maxL (lv_args 0 av) →
      (∀ (v : Int32) (u : (Nat → Option va_E)) (H : Heap) (locs : List Loc) (pc : Nat) (ls : Array Slot), post v u → dq_W D cl ad u A H → va_S A s.heap H locs → decode cc pc = .ok (.ireturn, 1) → W p l e rm s m av.toArray below meth c H locs mc ms Q (F0 m pc ls [.int v])) →
      W p l e rm s m av.toArray below meth c s.heap [] 0 0 Q (F0 m 0 ls [])) : Met l y ws rm (va_Pc av (dq_S D cl tys ad w sz)) (va_Qi post (dq_B D cl tys ad (dq_A ad w sz)) (dq_A ad w sz)) mc ms (dq_A ad w sz) := by
  refine va_MetF (cc := cc) (maxL := maxL) (ret := (some .int)) hy hw ?_
  intro p e s m args below meth c s₁ B hml hv
  obtain ⟨rfl, rfl, hW0, hK, hZ⟩ := hv
  have hlocks := B.notSynchronized
  have hts := atoms_spec (ws := ws) B.pre
  have hown : s.vm.findClass y.cls = some m.cls := findClass_of_methodNamed B.named
  rw [lg_entry_eq]
  refine body p e s m below meth c (dq_A ad w s.heap.size) _ _ ⟨B.exec, B.bytes, hml, hown, hts⟩ (name_of_methodNamed B.named B.method).1 (fun q h => Or.inr h) hW0.self hK hZ (lv_entry av hav) ?_
  intro v u H locs pc ls hp hW hS hd
  exact W.iret (v := v) B.exec B.bytes B.returns (fun t ht hw9 => ⟨⟨v, u, rfl, hp, by rw [ht]; exact hW, va_K.moved hw9.alike hK⟩, hS.F ht⟩) hS.2.2 hd
theorem dq_giS3 {c0 cw : Cond} {own : String} {idx : Nat} {y : MethodName} (h1 : Cond.methodLink own idx y ∈ dq_G) (h2 : Cond.static y ∈ dq_G) (h4 : Cond.initialized y.cls ∈ dq_G) (h5 : cw ∈ dq_G) : GoodIn (c0 :: dq_G) (va_wsS own idx y (cw :: dq_G)) := by
  refine dq_giS (fun w h => List.mem_cons_of_mem _ h) (fun w hw => ?_)
  simp only [va_wsS, List.cons_append, List.nil_append, List.mem_cons] at hw
  rcases hw with rfl | rfl | rfl | rfl | hw
  · exact h1
  · exact h2
  · exact h4
  · exact h5
  · exact hw
/-- Integer.numberOfTrailingZeros, from its middle on -/
abbrev dq_us (x k : Int32) : Int32 := (x.toUInt32 >>> (k.toUInt32 &&& Int32.toUInt32 31)).toInt32
def mi_74 (v n : Int32) : Int32 := n + dq_us v 1
def mi_62 (v n : Int32) : Int32 := if v ≤ 4 then mi_74 v n else mi_74 (dq_us v 2) (n + 2)
def mi_49 (v n : Int32) : Int32 := if v ≤ 16 then mi_62 v n else mi_62 (dq_us v 4) (n + 4)
def mi_34 (v n : Int32) : Int32 := if v ≤ 256 then mi_49 v n else mi_49 (dq_us v 8) (n + 8)
def mi_19 (v n : Int32) : Int32 := if v ≤ 65536 then mi_34 v n else mi_34 (dq_us v 16) (n + 16)
def mi_ntz (v : Int32) : Int32 := if 0 < v then mi_19 v 1 else v &&& 32
theorem mi_ntz_k : ∀ k, k < 14 → mi_ntz (nI (2 ^ k - 1)) = nI k := by decide +kernel
/-- the least bit, by halves -/
def dq_l2 : Nat → Nat → Nat
  | 0, _ => 0
  | f + 1, S => if S % 2 = 1 then 0 else dq_l2 f (S / 2) + 1
set_option maxRecDepth 100000 in
theorem mi_low : ∀ a, a < 128 → ∀ b, b < 128 → (128 * a + b = 0 ∨ (((128 * a + b) ^^^ 4294967295) &&& (128 * a + b - 1) = 2 ^ dq_l2 14 (128 * a + b) - 1 ∧ dq_l2 14 (128 * a + b) < 14 ∧ (128 * a + b).testBit (dq_l2 14 (128 * a + b)) = true ∧ (128 * a + b) % 2 ^ dq_l2 14 (128 * a + b) = 0)) := by decide +kernel
theorem dq_lo_l2 {S : Nat} (h0 : 0 < S) (h : S < 16384) : dq_lo S = dq_l2 14 S ∧ dq_lo S < 14 ∧ S.testBit (dq_lo S) = true ∧ (S ^^^ 4294967295) &&& (S - 1) = 2 ^ dq_lo S - 1 := by
  have h1 := mi_low (S / 128) (by omega) (S % 128) (Nat.mod_lt _ (by omega))
  rw [show 128 * (S / 128) + S % 128 = S by omega] at h1
  rcases h1 with h1 | ⟨e1, e2, e3, e4⟩
  · omega
  · have e5 : dq_lo S = dq_l2 14 S := by
      refine dq_fn_eq (by omega) (fun i hi => ?_) (fun _ => e3)
      have h5 : S = 2 ^ dq_l2 14 S * (S / 2 ^ dq_l2 14 S) := by
        have := Nat.div_add_mod S (2 ^ dq_l2 14 S)
        rw [e4] at this
        omega
      rw [h5, Nat.testBit_two_pow_mul]
      simp [Nat.not_le.mpr hi]
    exact ⟨e5, by rw [e5]; exact e2, by rw [e5]; exact e3, by rw [e5]; exact e1⟩
theorem mi_ntz_lo {S : Nat} (h0 : 0 < S) (h : S < 16384) : mi_ntz ((nI S ^^^ (-1)) &&& (nI S - 1)) = nI (dq_lo S) := by
  obtain ⟨-, e2, -, e4⟩ := dq_lo_l2 h0 h
  have h1 : (nI S ^^^ (-1)) &&& (nI S - 1) = nI ((S ^^^ 4294967295) &&& (S - 1)) := by
    show (nI S ^^^ nI 4294967295) &&& (nI S - nI 1) = _
    rw [nx_xor, pk_sub h0, nx_and]
  rw [h1, e4]
  exact mi_ntz_k _ e2
def mi_bc (x : Int32) : Int32 :=
  let x1 := x - (dq_us x 1 &&& 1431655765)
  let x2 := (x1 &&& 858993459) + (dq_us x1 2 &&& 858993459)
  let x3 := (x2 + dq_us x2 4) &&& 252645135
  let x4 := x3 + dq_us x3 8
  let x5 := x4 + dq_us x4 16
  x5 &&& 63
/-- how many of the bits 0 .. n - 1 a number has -/
def dq_pc (S : Nat) : Nat → Nat
  | 0 => 0
  | n + 1 => if S.testBit n = true then dq_pc S n + 1 else dq_pc S n
theorem dq_usN {a k : Nat} (ha : a < 2 ^ 32) (hk : k < 32) : dq_us (nI a) (nI k) = nI (a / 2 ^ k) := pk_ushrN ha _ k ((by decide +kernel : ∀ n, n < 32 → (((nI n).toUInt32 &&& Int32.toUInt32 31).toBitVec % 32).toNat = n) k hk)
def mi_bN (x : Nat) : Nat :=
  let x1 := x - (x / 2 &&& 1431655765)
  let x2 := (x1 &&& 858993459) + (x1 / 4 &&& 858993459)
  let x3 := (x2 + x2 / 16) &&& 252645135
  let x4 := x3 + x3 / 256
  let x5 := x4 + x4 / 65536
  x5 &&& 63
def dq_p2 : Nat → Nat → Nat
  | 0, _ => 0
  | f + 1, S => S % 2 + dq_p2 f (S / 2)
set_option maxRecDepth 100000 in
theorem mi_bN_at : ∀ a, a < 128 → ∀ b, b < 128 → mi_bN (128 * a + b) = dq_p2 14 (128 * a + b) := by decide +kernel
theorem mi_bc_N {S : Nat} (h : S < 16384) : mi_bc (nI S) = nI (mi_bN S) := by
  have a1 : S / 2 &&& 1431655765 ≤ S / 2 := Nat.and_le_left
  have e1 : nI S - (dq_us (nI S) 1 &&& 1431655765) = nI (S - (S / 2 &&& 1431655765)) := by
    show nI S - (dq_us (nI S) (nI 1) &&& nI 1431655765) = _
    rw [dq_usN (by omega) (by omega), nx_and, pk_sub (Nat.le_trans a1 (Nat.div_le_self _ _))]
  unfold mi_bc mi_bN
  dsimp only
  rw [e1]
  generalize hx1 : S - (S / 2 &&& 1431655765) = x1
  have b1 : x1 < 16384 := by omega
  have a2 : x1 &&& 858993459 ≤ x1 := Nat.and_le_left
  have a3 : x1 / 4 &&& 858993459 ≤ x1 / 4 := Nat.and_le_left
  have e2 : (nI x1 &&& 858993459) + (dq_us (nI x1) 2 &&& 858993459) = nI ((x1 &&& 858993459) + (x1 / 4 &&& 858993459)) := by
    show (nI x1 &&& nI 858993459) + (dq_us (nI x1) (nI 2) &&& nI 858993459) = _
    rw [dq_usN (by omega) (by omega), nx_and, nx_and, nI_add]
  rw [e2]
  generalize hx2 : (x1 &&& 858993459) + (x1 / 4 &&& 858993459) = x2
  have b2 : x2 < 32768 := by omega
  have e3 : (nI x2 + dq_us (nI x2) 4) &&& 252645135 = nI ((x2 + x2 / 16) &&& 252645135) := by
    show (nI x2 + dq_us (nI x2) (nI 4)) &&& nI 252645135 = _
    rw [dq_usN (by omega) (by omega), nI_add, nx_and]
  rw [e3]
  have a4 : (x2 + x2 / 16) &&& 252645135 ≤ x2 + x2 / 16 := Nat.and_le_left
  generalize hx3 : (x2 + x2 / 16) &&& 252645135 = x3 at a4
  have b3 : x3 < 65536 := by omega
  have e4 : nI x3 + dq_us (nI x3) 8 = nI (x3 + x3 / 256) := by
    show nI x3 + dq_us (nI x3) (nI 8) = _
    rw [dq_usN (by omega) (by omega), nI_add]
  rw [e4]
  generalize hx4 : x3 + x3 / 256 = x4
  have e5 : nI x4 + dq_us (nI x4) 16 = nI (x4 + x4 / 65536) := by
    show nI x4 + dq_us (nI x4) (nI 16) = _
    rw [dq_usN (by omega) (by omega), nI_add]
  rw [e5]
  show _ &&& nI 63 = _
  rw [nx_and]
theorem dq_pc_s (S n : Nat) : dq_pc S (n + 1) = S % 2 + dq_pc (S / 2) n := by
  induction n with
  | zero =>
    show (if S.testBit 0 = true then 0 + 1 else 0) = S % 2 + 0
    rw [Nat.testBit_zero]
    rcases (show S % 2 = 0 ∨ S % 2 = 1 by omega) with h | h <;> rw [h] <;> rfl
  | succ n ih =>
    show (if S.testBit (n + 1) = true then dq_pc S (n + 1) + 1 else dq_pc S (n + 1)) = S % 2 + (if (S / 2).testBit n = true then dq_pc (S / 2) n + 1 else dq_pc (S / 2) n)
    rw [Nat.testBit_succ, ih]
    split <;> omega
theorem dq_pc_p2 (n S : Nat) : dq_pc S n = dq_p2 n S := by
  induction n generalizing S with
  | zero => rfl
  | succ n ih =>
    rw [dq_pc_s, ih]
    rfl
theorem mi_bc_pc {S : Nat} (h : S < 16384) : mi_bc (nI S) = nI (dq_pc S 14) := by
  have h1 := mi_bN_at (S / 128) (by omega) (S % 128) (Nat.mod_lt _ (by omega))
  rw [show 128 * (S / 128) + S % 128 = S by omega] at h1
  rw [mi_bc_N h, h1, dq_pc_p2]
end
section
set_option maxHeartbeats 4000000 in
set_option maxRecDepth 100000 in
/-- Integer.numberOfTrailingZeros -/
theorem c_ntz (l : Launch) (D : va_G) (g : Nat → ClassId) (ad : Nat → Nat) (w : Nat → Option va_E) (sz : Nat) (S : Nat)  (hS0 : 0 < S) (hS9 : S < 16384) : Met l yIn_numberOfTrailingZeros wsIn_numberOfTrailingZeros ({ frames := 0, cells := 0, slots := 0, locals := 0 } : Room) (va_Pc [.int (nI S)] (dq_S D vwCl (dq_t g) ad w sz)) (va_Qi (fun r u => r = nI (dq_lo S) ∧ u = w) (dq_B D vwCl (dq_t g) ad (dq_A ad w sz)) (dq_A ad w sz)) 0 0 (dq_A ad w sz) := by
  refine dq_ofiF (cc := cIn_numberOfTrailingZeros) (maxL := 2) (by decide) rfl (Nat.le_of_ble_eq_true rfl) ?_
  intro p e s m below meth c A Q ls ⟨hx, hb, hml, hown, hts⟩ hnm hA hW hK hZ hl hret
  have hS : va_S A s.heap s.heap [] := va_S.rf
  have hl : lv_has ls 2 [(0, .int (nI S))] := hl
  have j74 : ∀ (v n9 : Int32) (ls : Array Slot), mi_74 v n9 = nI (dq_lo S) → lv_has ls 2 [(0, .int v), (1, .int n9)] → W p l e ({ frames := 0, cells := 0, slots := 0, locals := 0 } : Room) s m ([.int (nI S)] : List Value).toArray below meth c s.heap [] 0 0 Q (F0 m 74 ls []) := by
    intro v n9 ls hv  hl
    refine lv_iload_n hx hb dIn_numberOfTrailingZeros_74 rfl (lv_at hl 1 rfl) ?_
    refine lv_iload_n hx hb dIn_numberOfTrailingZeros_75 rfl (lv_at hl 0 rfl) ?_
    refine lv_iconst (v := (1)) hx hb dIn_numberOfTrailingZeros_76 (by decide) ?_
    refine lv_iushr (v := (dq_us v (1))) hx hb dIn_numberOfTrailingZeros_77 rfl ?_
    refine lv_iadd hx hb dIn_numberOfTrailingZeros_78 ?_
    exact hret _ _ _ _ _ _ ⟨hv, rfl⟩ hW hS dIn_numberOfTrailingZeros_79
  have j62 : ∀ (v n9 : Int32) (ls : Array Slot), mi_62 v n9 = nI (dq_lo S) → lv_has ls 2 [(0, .int v), (1, .int n9)] → W p l e ({ frames := 0, cells := 0, slots := 0, locals := 0 } : Room) s m ([.int (nI S)] : List Value).toArray below meth c s.heap [] 0 0 Q (F0 m 62 ls []) := by
    intro v n9 ls hv  hl
    refine lv_iload_n hx hb dIn_numberOfTrailingZeros_62 rfl (lv_at hl 0 rfl) ?_
    refine lv_iconst (v := (4)) hx hb dIn_numberOfTrailingZeros_63 (by decide) ?_
    refine lv_icmp_le (tgt := 74) hx hb dIn_numberOfTrailingZeros_64 (by decide) (fun c1 => ?_) (fun c1 => ?_)
    · exact j74 v n9 _ (by rw [← hv]; exact (if_pos c1).symm)  (lv_sub hl [0, 1] rfl)
    · refine lv_iinc (v := (n9 + 2)) (lv' := [(1, .int (n9 + 2)), (0, .int v)]) hx hb dIn_numberOfTrailingZeros_67 hl (k := 1) rfl rfl (by decide) rfl (fun ls hl => ?_)
      refine lv_iload_n hx hb dIn_numberOfTrailingZeros_70 rfl (lv_at hl 1 rfl) ?_
      refine lv_iconst (v := (2)) hx hb dIn_numberOfTrailingZeros_71 (by decide) ?_
      refine lv_iushr (v := (dq_us v (2))) hx hb dIn_numberOfTrailingZeros_72 rfl ?_
      refine lv_istore_n (lv' := [(0, .int (dq_us v (2))), (1, .int (n9 + 2))]) hx hb dIn_numberOfTrailingZeros_73 rfl hl (by decide) rfl (fun ls hl => ?_)
      exact j74 (dq_us v 2) (n9 + 2) _ (by rw [← hv]; exact (if_neg c1).symm)  (lv_sub hl [0, 1] rfl)
  have j49 : ∀ (v n9 : Int32) (ls : Array Slot), mi_49 v n9 = nI (dq_lo S) → lv_has ls 2 [(0, .int v), (1, .int n9)] → W p l e ({ frames := 0, cells := 0, slots := 0, locals := 0 } : Room) s m ([.int (nI S)] : List Value).toArray below meth c s.heap [] 0 0 Q (F0 m 49 ls []) := by
    intro v n9 ls hv  hl
    refine lv_iload_n hx hb dIn_numberOfTrailingZeros_49 rfl (lv_at hl 0 rfl) ?_
    refine lv_bipush (v := (16)) hx hb dIn_numberOfTrailingZeros_50 (by decide) ?_
    refine lv_icmp_le (tgt := 62) hx hb dIn_numberOfTrailingZeros_52 (by decide) (fun c1 => ?_) (fun c1 => ?_)
    · exact j62 v n9 _ (by rw [← hv]; exact (if_pos c1).symm)  (lv_sub hl [0, 1] rfl)
    · refine lv_iinc (v := (n9 + 4)) (lv' := [(1, .int (n9 + 4)), (0, .int v)]) hx hb dIn_numberOfTrailingZeros_55 hl (k := 1) rfl rfl (by decide) rfl (fun ls hl => ?_)
      refine lv_iload_n hx hb dIn_numberOfTrailingZeros_58 rfl (lv_at hl 1 rfl) ?_
      refine lv_iconst (v := (4)) hx hb dIn_numberOfTrailingZeros_59 (by decide) ?_
      refine lv_iushr (v := (dq_us v (4))) hx hb dIn_numberOfTrailingZeros_60 rfl ?_
      refine lv_istore_n (lv' := [(0, .int (dq_us v (4))), (1, .int (n9 + 4))]) hx hb dIn_numberOfTrailingZeros_61 rfl hl (by decide) rfl (fun ls hl => ?_)
      exact j62 (dq_us v 4) (n9 + 4) _ (by rw [← hv]; exact (if_neg c1).symm)  (lv_sub hl [0, 1] rfl)
  have j34 : ∀ (v n9 : Int32) (ls : Array Slot), mi_34 v n9 = nI (dq_lo S) → lv_has ls 2 [(0, .int v), (1, .int n9)] → W p l e ({ frames := 0, cells := 0, slots := 0, locals := 0 } : Room) s m ([.int (nI S)] : List Value).toArray below meth c s.heap [] 0 0 Q (F0 m 34 ls []) := by
    intro v n9 ls hv  hl
    refine lv_iload_n hx hb dIn_numberOfTrailingZeros_34 rfl (lv_at hl 0 rfl) ?_
    refine lv_sipush (v := (256)) hx hb dIn_numberOfTrailingZeros_35 (by decide) ?_
    refine lv_icmp_le (tgt := 49) hx hb dIn_numberOfTrailingZeros_38 (by decide) (fun c1 => ?_) (fun c1 => ?_)
    · exact j49 v n9 _ (by rw [← hv]; exact (if_pos c1).symm)  (lv_sub hl [0, 1] rfl)
    · refine lv_iinc (v := (n9 + 8)) (lv' := [(1, .int (n9 + 8)), (0, .int v)]) hx hb dIn_numberOfTrailingZeros_41 hl (k := 1) rfl rfl (by decide) rfl (fun ls hl => ?_)
      refine lv_iload_n hx hb dIn_numberOfTrailingZeros_44 rfl (lv_at hl 1 rfl) ?_
      refine lv_bipush (v := (8)) hx hb dIn_numberOfTrailingZeros_45 (by decide) ?_
      refine lv_iushr (v := (dq_us v (8))) hx hb dIn_numberOfTrailingZeros_47 rfl ?_
      refine lv_istore_n (lv' := [(0, .int (dq_us v (8))), (1, .int (n9 + 8))]) hx hb dIn_numberOfTrailingZeros_48 rfl hl (by decide) rfl (fun ls hl => ?_)
      exact j49 (dq_us v 8) (n9 + 8) _ (by rw [← hv]; exact (if_neg c1).symm)  (lv_sub hl [0, 1] rfl)
  have j19 : ∀ (v n9 : Int32) (ls : Array Slot), mi_19 v n9 = nI (dq_lo S) → lv_has ls 2 [(0, .int v), (1, .int n9)] → W p l e ({ frames := 0, cells := 0, slots := 0, locals := 0 } : Room) s m ([.int (nI S)] : List Value).toArray below meth c s.heap [] 0 0 Q (F0 m 19 ls []) := by
    intro v n9 ls hv  hl
    refine lv_iload_n hx hb dIn_numberOfTrailingZeros_19 rfl (lv_at hl 0 rfl) ?_
    refine lv_ldcw hx hb hown (hts _ (List.mem_cons_of_mem _ tw2_61)) dIn_numberOfTrailingZeros_20 ?_
    refine lv_icmp_le (tgt := 34) hx hb dIn_numberOfTrailingZeros_23 (by decide) (fun c1 => ?_) (fun c1 => ?_)
    · exact j34 v n9 _ (by rw [← hv]; exact (if_pos c1).symm)  (lv_sub hl [0, 1] rfl)
    · refine lv_iinc (v := (n9 + 16)) (lv' := [(1, .int (n9 + 16)), (0, .int v)]) hx hb dIn_numberOfTrailingZeros_26 hl (k := 1) rfl rfl (by decide) rfl (fun ls hl => ?_)
      refine lv_iload_n hx hb dIn_numberOfTrailingZeros_29 rfl (lv_at hl 1 rfl) ?_
      refine lv_bipush (v := (16)) hx hb dIn_numberOfTrailingZeros_30 (by decide) ?_
      refine lv_iushr (v := (dq_us v (16))) hx hb dIn_numberOfTrailingZeros_32 rfl ?_
      refine lv_istore_n (lv' := [(0, .int (dq_us v (16))), (1, .int (n9 + 16))]) hx hb dIn_numberOfTrailingZeros_33 rfl hl (by decide) rfl (fun ls hl => ?_)
      exact j34 (dq_us v 16) (n9 + 16) _ (by rw [← hv]; exact (if_neg c1).symm)  (lv_sub hl [0, 1] rfl)
  refine lv_iload_n hx hb dIn_numberOfTrailingZeros_0 rfl (lv_at hl 0 rfl) ?_
  refine lv_iconst (v := (-1)) hx hb dIn_numberOfTrailingZeros_1 (by decide) ?_
  refine lv_ixor hx hb dIn_numberOfTrailingZeros_2 ?_
  refine lv_iload_n hx hb dIn_numberOfTrailingZeros_3 rfl (lv_at hl 0 rfl) ?_
  refine lv_iconst (v := (1)) hx hb dIn_numberOfTrailingZeros_4 (by decide) ?_
  refine lv_isub hx hb dIn_numberOfTrailingZeros_5 ?_
  refine lv_iand hx hb dIn_numberOfTrailingZeros_6 ?_
  refine lv_istore_n (lv' := [(0, .int (((nI S) ^^^ (-1)) &&& ((nI S) - (1))))]) hx hb dIn_numberOfTrailingZeros_7 rfl hl (by decide) rfl (fun ls hl => ?_)
  have h0 : mi_ntz ((nI S ^^^ (-1)) &&& (nI S - 1)) = nI (dq_lo S) := mi_ntz_lo hS0 hS9
  generalize (nI S ^^^ (-1)) &&& (nI S - 1) = v at h0 hl
  refine lv_iload_n hx hb dIn_numberOfTrailingZeros_8 rfl (lv_at hl 0 rfl) ?_
  refine lv_if_gt (tgt := 17) hx hb dIn_numberOfTrailingZeros_9 (by decide) (fun c1 => ?_) (fun c1 => ?_)
  · refine lv_iconst (v := (1)) hx hb dIn_numberOfTrailingZeros_17 (by decide) ?_
    refine lv_istore_n (lv' := [(1, .int (1)), (0, .int v)]) hx hb dIn_numberOfTrailingZeros_18 rfl hl (by decide) rfl (fun ls hl => ?_)
    exact j19 v 1 _ (by rw [← h0]; exact (if_pos c1).symm)  (lv_sub hl [1, 0] rfl)
  · refine lv_iload_n hx hb dIn_numberOfTrailingZeros_12 rfl (lv_at hl 0 rfl) ?_
    refine lv_bipush (v := (32)) hx hb dIn_numberOfTrailingZeros_13 (by decide) ?_
    refine lv_iand hx hb dIn_numberOfTrailingZeros_15 ?_
    exact hret _ _ _ _ _ _ ⟨by rw [← h0]; exact (if_neg c1).symm, rfl⟩ hW hS dIn_numberOfTrailingZeros_16
set_option maxHeartbeats 4000000 in
set_option maxRecDepth 100000 in
/-- Integer.bitCount -/
theorem c_bitCount (l : Launch) (D : va_G) (g : Nat → ClassId) (ad : Nat → Nat) (w : Nat → Option va_E) (sz : Nat) (S : Nat)  (hS9 : S < 16384) : Met l yIn_bitCount wsIn_bitCount ({ frames := 0, cells := 0, slots := 0, locals := 0 } : Room) (va_Pc [.int (nI S)] (dq_S D vwCl (dq_t g) ad w sz)) (va_Qi (fun r u => r = nI (dq_pc S 14) ∧ u = w) (dq_B D vwCl (dq_t g) ad (dq_A ad w sz)) (dq_A ad w sz)) 0 0 (dq_A ad w sz) := by
  refine dq_ofiF (cc := cIn_bitCount) (maxL := 1) (by decide) rfl (Nat.le_of_ble_eq_true rfl) ?_
  intro p e s m below meth c A Q ls ⟨hx, hb, hml, hown, hts⟩ hnm hA hW hK hZ hl hret
  have hS : va_S A s.heap s.heap [] := va_S.rf
  have hl : lv_has ls 1 [(0, .int (nI S))] := hl
  refine lv_iload_n hx hb dIn_bitCount_0 rfl (lv_at hl 0 rfl) ?_
  refine lv_iload_n hx hb dIn_bitCount_1 rfl (lv_at hl 0 rfl) ?_
  refine lv_iconst (v := (1)) hx hb dIn_bitCount_2 (by decide) ?_
  refine lv_iushr (v := (dq_us (nI S) (1))) hx hb dIn_bitCount_3 rfl ?_
  refine lv_ldcw hx hb hown (hts _ (List.mem_cons_of_mem _ tw3_130)) dIn_bitCount_4 ?_
  refine lv_iand hx hb dIn_bitCount_7 ?_
  refine lv_isub hx hb dIn_bitCount_8 ?_
  refine lv_istore_n (lv' := [(0, .int ((nI S) - ((dq_us (nI S) (1)) &&& (1431655765))))]) hx hb dIn_bitCount_9 rfl hl (by decide) rfl (fun ls hl => ?_)
  refine lv_iload_n hx hb dIn_bitCount_10 rfl (lv_at hl 0 rfl) ?_
  refine lv_ldcw hx hb hown (hts _ (List.mem_cons_of_mem _ tw3_131)) dIn_bitCount_11 ?_
  refine lv_iand hx hb dIn_bitCount_14 ?_
  refine lv_iload_n hx hb dIn_bitCount_15 rfl (lv_at hl 0 rfl) ?_
  refine lv_iconst (v := (2)) hx hb dIn_bitCount_16 (by decide) ?_
  refine lv_iushr (v := (dq_us ((nI S) - ((dq_us (nI S) (1)) &&& (1431655765))) (2))) hx hb dIn_bitCount_17 rfl ?_
  refine lv_ldcw hx hb hown (hts _ (List.mem_cons_of_mem _ tw3_131)) dIn_bitCount_18 ?_
  refine lv_iand hx hb dIn_bitCount_21 ?_
  refine lv_iadd hx hb dIn_bitCount_22 ?_
  refine lv_istore_n (lv' := [(0, .int ((((nI S) - ((dq_us (nI S) (1)) &&& (1431655765))) &&& (858993459)) + ((dq_us ((nI S) - ((dq_us (nI S) (1)) &&& (1431655765))) (2)) &&& (858993459))))]) hx hb dIn_bitCount_23 rfl hl (by decide) rfl (fun ls hl => ?_)
  refine lv_iload_n hx hb dIn_bitCount_24 rfl (lv_at hl 0 rfl) ?_
  refine lv_iload_n hx hb dIn_bitCount_25 rfl (lv_at hl 0 rfl) ?_
  refine lv_iconst (v := (4)) hx hb dIn_bitCount_26 (by decide) ?_
  refine lv_iushr (v := (dq_us ((((nI S) - ((dq_us (nI S) (1)) &&& (1431655765))) &&& (858993459)) + ((dq_us ((nI S) - ((dq_us (nI S) (1)) &&& (1431655765))) (2)) &&& (858993459))) (4))) hx hb dIn_bitCount_27 rfl ?_
  refine lv_iadd hx hb dIn_bitCount_28 ?_
  refine lv_ldcw hx hb hown (hts _ (List.mem_cons_of_mem _ tw3_132)) dIn_bitCount_29 ?_
  refine lv_iand hx hb dIn_bitCount_32 ?_
  refine lv_istore_n (lv' := [(0, .int ((((((nI S) - ((dq_us (nI S) (1)) &&& (1431655765))) &&& (858993459)) + ((dq_us ((nI S) - ((dq_us (nI S) (1)) &&& (1431655765))) (2)) &&& (858993459))) + (dq_us ((((nI S) - ((dq_us (nI S) (1)) &&& (1431655765))) &&& (858993459)) + ((dq_us ((nI S) - ((dq_us (nI S) (1)) &&& (1431655765))) (2)) &&& (858993459))) (4))) &&& (252645135)))]) hx hb dIn_bitCount_33 rfl hl (by decide) rfl (fun ls hl => ?_)
  refine lv_iload_n hx hb dIn_bitCount_34 rfl (lv_at hl 0 rfl) ?_
  refine lv_iload_n hx hb dIn_bitCount_35 rfl (lv_at hl 0 rfl) ?_
  refine lv_bipush (v := (8)) hx hb dIn_bitCount_36 (by decide) ?_
  refine lv_iushr (v := (dq_us ((((((nI S) - ((dq_us (nI S) (1)) &&& (1431655765))) &&& (858993459)) + ((dq_us ((nI S) - ((dq_us (nI S) (1)) &&& (1431655765))) (2)) &&& (858993459))) + (dq_us ((((nI S) - ((dq_us (nI S) (1)) &&& (1431655765))) &&& (858993459)) + ((dq_us ((nI S) - ((dq_us (nI S) (1)) &&& (1431655765))) (2)) &&& (858993459))) (4))) &&& (252645135)) (8))) hx hb dIn_bitCount_38 rfl ?_
  refine lv_iadd hx hb dIn_bitCount_39 ?_
  refine lv_istore_n (lv' := [(0, .int (((((((nI S) - ((dq_us (nI S) (1)) &&& (1431655765))) &&& (858993459)) + ((dq_us ((nI S) - ((dq_us (nI S) (1)) &&& (1431655765))) (2)) &&& (858993459))) + (dq_us ((((nI S) - ((dq_us (nI S) (1)) &&& (1431655765))) &&& (858993459)) + ((dq_us ((nI S) - ((dq_us (nI S) (1)) &&& (1431655765))) (2)) &&& (858993459))) (4))) &&& (252645135)) + (dq_us ((((((nI S) - ((dq_us (nI S) (1)) &&& (1431655765))) &&& (858993459)) + ((dq_us ((nI S) - ((dq_us (nI S) (1)) &&& (1431655765))) (2)) &&& (858993459))) + (dq_us ((((nI S) - ((dq_us (nI S) (1)) &&& (1431655765))) &&& (858993459)) + ((dq_us ((nI S) - ((dq_us (nI S) (1)) &&& (1431655765))) (2)) &&& (858993459))) (4))) &&& (252645135)) (8))))]) hx hb dIn_bitCount_40 rfl hl (by decide) rfl (fun ls hl => ?_)
  refine lv_iload_n hx hb dIn_bitCount_41 rfl (lv_at hl 0 rfl) ?_
  refine lv_iload_n hx hb dIn_bitCount_42 rfl (lv_at hl 0 rfl) ?_
  refine lv_bipush (v := (16)) hx hb dIn_bitCount_43 (by decide) ?_
  refine lv_iushr (v := (dq_us (((((((nI S) - ((dq_us (nI S) (1)) &&& (1431655765))) &&& (858993459)) + ((dq_us ((nI S) - ((dq_us (nI S) (1)) &&& (1431655765))) (2)) &&& (858993459))) + (dq_us ((((nI S) - ((dq_us (nI S) (1)) &&& (1431655765))) &&& (858993459)) + ((dq_us ((nI S) - ((dq_us (nI S) (1)) &&& (1431655765))) (2)) &&& (858993459))) (4))) &&& (252645135)) + (dq_us ((((((nI S) - ((dq_us (nI S) (1)) &&& (1431655765))) &&& (858993459)) + ((dq_us ((nI S) - ((dq_us (nI S) (1)) &&& (1431655765))) (2)) &&& (858993459))) + (dq_us ((((nI S) - ((dq_us (nI S) (1)) &&& (1431655765))) &&& (858993459)) + ((dq_us ((nI S) - ((dq_us (nI S) (1)) &&& (1431655765))) (2)) &&& (858993459))) (4))) &&& (252645135)) (8))) (16))) hx hb dIn_bitCount_45 rfl ?_
  refine lv_iadd hx hb dIn_bitCount_46 ?_
  refine lv_istore_n (lv' := [(0, .int ((((((((nI S) - ((dq_us (nI S) (1)) &&& (1431655765))) &&& (858993459)) + ((dq_us ((nI S) - ((dq_us (nI S) (1)) &&& (1431655765))) (2)) &&& (858993459))) + (dq_us ((((nI S) - ((dq_us (nI S) (1)) &&& (1431655765))) &&& (858993459)) + ((dq_us ((nI S) - ((dq_us (nI S) (1)) &&& (1431655765))) (2)) &&& (858993459))) (4))) &&& (252645135)) + (dq_us ((((((nI S) - ((dq_us (nI S) (1)) &&& (1431655765))) &&& (858993459)) + ((dq_us ((nI S) - ((dq_us (nI S) (1)) &&& (1431655765))) (2)) &&& (858993459))) + (dq_us ((((nI S) - ((dq_us (nI S) (1)) &&& (1431655765))) &&& (858993459)) + ((dq_us ((nI S) - ((dq_us (nI S) (1)) &&& (1431655765))) (2)) &&& (858993459))) (4))) &&& (252645135)) (8))) + (dq_us (((((((nI S) - ((dq_us (nI S) (1)) &&& (1431655765))) &&& (858993459)) + ((dq_us ((nI S) - ((dq_us (nI S) (1)) &&& (1431655765))) (2)) &&& (858993459))) + (dq_us ((((nI S) - ((dq_us (nI S) (1)) &&& (1431655765))) &&& (858993459)) + ((dq_us ((nI S) - ((dq_us (nI S) (1)) &&& (1431655765))) (2)) &&& (858993459))) (4))) &&& (252645135)) + (dq_us ((((((nI S) - ((dq_us (nI S) (1)) &&& (1431655765))) &&& (858993459)) + ((dq_us ((nI S) - ((dq_us (nI S) (1)) &&& (1431655765))) (2)) &&& (858993459))) + (dq_us ((((nI S) - ((dq_us (nI S) (1)) &&& (1431655765))) &&& (858993459)) + ((dq_us ((nI S) - ((dq_us (nI S) (1)) &&& (1431655765))) (2)) &&& (858993459))) (4))) &&& (252645135)) (8))) (16))))]) hx hb dIn_bitCount_47 rfl hl (by decide) rfl (fun ls hl => ?_)
  refine lv_iload_n hx hb dIn_bitCount_48 rfl (lv_at hl 0 rfl) ?_
  refine lv_bipush (v := (63)) hx hb dIn_bitCount_49 (by decide) ?_
  refine lv_iand hx hb dIn_bitCount_51 ?_
  exact hret _ _ _ _ _ _ ⟨mi_bc_pc hS9, rfl⟩ hW hS dIn_bitCount_52
set_option maxHeartbeats 4000000 in
set_option maxRecDepth 100000 in
/-- leastOf(set) -/
theorem c_leastOf (l : Launch) (D : va_G) (g : Nat → ClassId) (ad : Nat → Nat) (w : Nat → Option va_E) (sz : Nat) (S : Nat)  (hS0 : 0 < S) (hS9 : S < 16384) : Met l yDH_leastOf wsDH_leastOf ({ frames := 1, cells := 0, slots := 0, locals := 24 } : Room) (va_Pc [.int (nI S)] (dq_S D vwCl (dq_t g) ad w sz)) (va_Qi (fun r u => r = nI (dq_lo S) ∧ u = w) (dq_B D vwCl (dq_t g) ad (dq_A ad w sz)) (dq_A ad w sz)) 0 0 (dq_A ad w sz) := by
  refine dq_ofi (cc := cDH_leastOf) (maxL := 1) (by decide) rfl (Nat.le_of_ble_eq_true rfl) ?_
  intro p e s m below meth c A Q ls ⟨hx, hb, hml, hown, hts⟩ hnm hA hW hK hZ hl hret
  have hS : va_S A s.heap s.heap [] := va_S.rf
  have hl : lv_has ls 1 [(0, .int (nI S))] := hl
  refine lv_iload_n hx hb dDH_leastOf_0 rfl (lv_at hl 0 rfl) ?_
  refine dq_calli (va_runS (As := [.int (nI S)]) (rest := []) ⟨hx, hb, hml, hown, hts⟩ (c_ntz l D g ad (w) _ S  hS0 hS9) (va_cwS 1 hts (dq_giS3 tw2_58 tw2_59 tw1_17 tw2_60) rfl rfl rfl (by decide +kernel) ⟨Nat.le_of_ble_eq_true rfl, Nat.le_of_ble_eq_true rfl⟩) (dq_preS hW hS hA hK hZ) rfl rfl hl.1 rfl (lv_room (Nat.le_of_ble_eq_true rfl)) dDH_leastOf_1 ⟨Nat.zero_le _, Nat.zero_le _⟩) hW hS hA (fun r1 u_9 H locs hp1 hW hS hz9 => ?_)
  obtain ⟨hr1, hu9⟩ := hp1
  rw [hu9] at hW
  exact hret _ _ _ _ _ _ ⟨hr1, rfl⟩ hW hS dDH_leastOf_4
end
section
/-! MIRRORS of the table -/
/-- the fewest behind a hit, over the first places -/
def mt_aft (fw : Nat → Int32) (DN : Nat → Nat) (S : Nat) : Nat → Int32
  | 0 => 14
  | p + 1 => if fw (dq_df S (DN p)) < mt_aft fw DN S p then fw (dq_df S (DN p)) else mt_aft fw DN S p
def mt_z (fw : Nat → Int32) (k : Nat) : Nat → Int32 := fun j => if j < k then 0 else fw j
theorem mt_z_0 (fw : Nat → Int32) : mt_z fw 0 = fw := by
  funext j
  unfold mt_z
  rw [if_neg (by omega)]
theorem mt_z_s (fw : Nat → Int32) (k : Nat) : upd (mt_z fw k) k 0 = mt_z fw (k + 1) := by
  funext j
  by_cases h : j = k
  · subst h
    rw [pk_us]
    unfold mt_z
    rw [if_pos (by omega)]
  · rw [pk_un h]
    unfold mt_z
    by_cases h2 : j < k
    · rw [if_pos h2, if_pos (by omega)]
    · rw [if_neg h2, if_neg (by omega)]
def mt_row (f : Nat → Int32) (DN : Nat → Nat) (S : Nat) : Nat → Nat → Int32
  | 0 => f
  | p + 1 => upd (mt_row f DN S p) (dq_df S (DN p)) (-1)
def mt_st (f : Nat → Int32) (DN : Nat → Nat → Nat) (qs : Nat → Nat) (S : Nat) : Nat → Int32 := if f S = -1 then mt_row f (DN (dq_lo S)) S (qs (dq_lo S)) else f
/-- the marks, M .. M - c + 1 done -/
def mt_mk (f : Nat → Int32) (DN : Nat → Nat → Nat) (qs : Nat → Nat) (M : Nat) : Nat → Nat → Int32
  | 0 => f
  | c + 1 => mt_st (mt_mk f DN qs M c) DN qs (M - c)
def mt_m0 (fw : Nat → Int32) (M : Nat) : Nat → Int32 := upd (mt_z fw M) M (-1)
/-- the table, sets below c + 1 done -/
def mt_fl (f : Nat → Int32) (DN : Nat → Nat → Nat) (qs : Nat → Nat) : Nat → Nat → Int32
  | 0 => upd f 0 0
  | c + 1 => if mt_fl f DN qs c (c + 1) = -1 then upd (mt_fl f DN qs c) (c + 1) (1 + mt_aft (mt_fl f DN qs c) (DN (dq_lo (c + 1))) (c + 1) (qs (dq_lo (c + 1)))) else mt_fl f DN qs c
def mt_fill (fw : Nat → Int32) (DN : Nat → Nat → Nat) (qs : Nat → Nat) (M : Nat) : Nat → Int32 := mt_fl (mt_mk (mt_m0 fw M) DN qs M M) DN qs M
/-- the first place with which the fewest are enough, or 0 -/
def mt_first (fw : Nat → Int32) (DN : Nat → Nat) (S q : Nat) : Int32 := if dq_fn (fun p => decide (fw (dq_df S (DN p)) = mt_aft fw DN S q)) q < q then nI (dq_fn (fun p => decide (fw (dq_df S (DN p)) = mt_aft fw DN S q)) q) else 0
set_option maxHeartbeats 4000000 in
set_option maxRecDepth 100000 in
/-- Table.fewestAfterHit -/
theorem c_Table_after (l : Launch) (D : va_G) (g : Nat → ClassId) (ad : Nat → Nat) (w : Nat → Option va_E) (sz : Nat) (len : Nat) (fw : Nat → Int32) (h q S : Nat) (Dr : Nat → Int32) (DN : Nat → Nat) (b23 : w 23 = some (.inr (5, [.ref (ad 24)]))) (b24 : w 24 = some (.inl (g 0, len, .inl fw))) (l0 : w (30 + 4 * h) = some (.inr (4, [.ref (ad (31 + 4 * h)), .ref (ad (32 + 4 * h)), .ref (ad (33 + 4 * h)), .int (nI q)]))) (l3 : w (33 + 4 * h) = some (.inl (g 0, 16, .inl Dr))) (hSl : S < len) (hln : len ≤ 16384) (hq : q ≤ 16) (hD : ∀ p, p < q → Dr p = nI (DN p)) : Met l yTb_fewestAfterHit wsTb_fewestAfterHit ({ frames := 1, cells := 0, slots := 0, locals := 24 } : Room) (va_Pc [.ref (ad 23), .ref (ad (30 + 4 * h)), .int (nI S)] (dq_S D vwCl (dq_t g) ad w sz)) (va_Qi (fun r u => r = mt_aft fw DN S q ∧ u = w) (dq_B D vwCl (dq_t g) ad (dq_A ad w sz)) (dq_A ad w sz)) 0 0 (dq_A ad w sz) := by
  refine dq_ofi (cc := cTb_fewestAfterHit) (maxL := 5) (by decide) rfl (Nat.le_of_ble_eq_true rfl) ?_
  intro p e s m below meth c A Q ls ⟨hx, hb, hml, hown, hts⟩ hnm hA hW hK hZ hl hret
  have hS : va_S A s.heap s.heap [] := va_S.rf
  have hl : lv_has ls 5 [(0, .ref (ad 23)), (1, .ref (ad (30 + 4 * h))), (2, .int (nI S))] := hl
  have hf9 := hts _ (List.mem_cons_of_mem _ tw1_192)
  have hf27 := hts _ (List.mem_cons_of_mem _ tw1_145)
  have hf33 := hts _ (List.mem_cons_of_mem _ tw1_142)
  have hinPl : ∀ w ∈ u_ws RPl TPl 4, w ∈ wsTb_fewestAfterHit := fun w h => List.mem_cons_of_mem _ (inPl w h)
  have hinTb : ∀ w ∈ u_ws RTb TTb 1, w ∈ wsTb_fewestAfterHit := fun w h => List.mem_cons_of_mem _ (inTb w h)
  refine lv_bipush (v := (14)) hx hb dTb_fewestAfterHit_0 (by decide) ?_
  refine lv_istore_n (lv' := [(3, .int (14)), (0, .ref (ad 23)), (1, .ref (ad (30 + 4 * h))), (2, .int (nI S))]) hx hb dTb_fewestAfterHit_2 rfl hl (by decide) rfl (fun ls hl => ?_)
  refine lv_iconst (v := (nI 0)) hx hb dTb_fewestAfterHit_3 (by decide) ?_
  refine lv_istore (lv' := [(4, .int (nI 0)), (3, .int (14)), (0, .ref (ad 23)), (1, .ref (ad (30 + 4 * h))), (2, .int (nI S))]) hx hb dTb_fewestAfterHit_4 hl (by decide) rfl (fun ls hl => ?_)
  have loop : ∀ (j : Nat) (k : Nat) (ls : Array Slot), q < k + j → k ≤ q → lv_has ls 5 [(0, .ref (ad 23)), (1, .ref (ad (30 + 4 * h))), (2, .int (nI S)), (3, .int (mt_aft fw DN S k)), (4, .int (nI k))] → W p l e ({ frames := 1, cells := 0, slots := 0, locals := 24 } : Room) s m ([.ref (ad 23), .ref (ad (30 + 4 * h)), .int (nI S)] : List Value).toArray below meth c s.heap [] 0 0 Q (F0 m 6 ls []) := by
    intro j
    induction j with
    | zero => intro k ls hj hk  hl; exact absurd hj (by omega)
    | succ j ih =>
      intro k ls hj hk  hl
      refine lv_iload hx hb dTb_fewestAfterHit_6 (lv_at hl 4 rfl) ?_
      refine lv_aload_n hx hb dTb_fewestAfterHit_8 rfl (lv_at hl 1 rfl) ?_
      refine dq_get (D := D) (ci := 4) (v := .int (nI q)) (C := RPl) (T := TPl) (N := 4) hx hb hts hinPl hown hK hW (30 + 4 * h) l0 rfl 3 (by decide) hf27 (fun _ h9 => h9) rfl dTb_fewestAfterHit_9 ?_
      refine lv_icmp_ge (tgt := 42) hx hb dTb_fewestAfterHit_12 (by decide) (fun c1 => ?_) (fun c1 => ?_)
      · have hkn : k = q := by have q := (nI_leI (by omega) (by omega)).mp c1; omega
        refine lv_iload_n hx hb dTb_fewestAfterHit_42 rfl (lv_at hl 3 rfl) ?_
        exact hret _ _ _ _ _ _ ⟨by rw [hkn], rfl⟩ hW hS dTb_fewestAfterHit_43
      · have hkn : k < q := by rcases Nat.lt_or_ge k q with q | q; exact q; exact absurd (nI_le q (by omega)) c1
        refine lv_iload_n hx hb dTb_fewestAfterHit_15 rfl (lv_at hl 3 rfl) ?_
        refine lv_aload_n hx hb dTb_fewestAfterHit_16 rfl (lv_at hl 0 rfl) ?_
        refine dq_get (D := D) (ci := 5) (v := .ref (ad 24)) (C := RTb) (T := TTb) (N := 1) hx hb hts hinTb hown hK hW 23 b23 rfl 0 (by decide) hf9 (fun _ h9 => h9) rfl dTb_fewestAfterHit_17 ?_
        refine lv_iload_n hx hb dTb_fewestAfterHit_20 rfl (lv_at hl 2 rfl) ?_
        refine lv_aload_n hx hb dTb_fewestAfterHit_21 rfl (lv_at hl 1 rfl) ?_
        refine dq_get (D := D) (ci := 4) (v := .ref (ad (33 + 4 * h))) (C := RPl) (T := TPl) (N := 4) hx hb hts hinPl hown hK hW (30 + 4 * h) l0 rfl 2 (by decide) hf33 (fun _ h9 => h9) rfl dTb_fewestAfterHit_22 ?_
        refine lv_iload hx hb dTb_fewestAfterHit_25 (lv_at hl 4 rfl) ?_
        refine dq_ialdN hx hb hK hW (33 + 4 * h) 0 l3 rfl k (by omega) (by omega) dTb_fewestAfterHit_27 ?_
        refine dq_top (y := nI (DN k)) (hD k hkn) ?_
        refine lv_iconst (v := (-1)) hx hb dTb_fewestAfterHit_28 (by decide) ?_
        refine lv_ixor hx hb dTb_fewestAfterHit_29 ?_
        refine lv_iand hx hb dTb_fewestAfterHit_30 ?_
        refine dq_top (y := nI (dq_df S (DN k))) (dq_dfI _ _) ?_
        refine dq_ialdN hx hb hK hW 24 0 b24 rfl (dq_df S (DN k)) (Nat.lt_of_le_of_lt (dq_df_le _ _) hSl) (by omega) dTb_fewestAfterHit_31 ?_
        refine va_mmin hx hb (by rw [hml]; exact hl.1.symm) hown (hts _ (List.mem_cons_of_mem _ tw2_66)) (hts _ (List.mem_cons_of_mem _ tw1_29)) (hts _ (List.mem_cons_of_mem _ tw1_3)) (hts _ (List.mem_cons_of_mem _ tw1_30)) (Nat.le_of_ble_eq_true rfl) (Nat.le_of_ble_eq_true rfl) (Nat.zero_le _) (Nat.zero_le _) dTb_fewestAfterHit_32 ?_
        refine lv_istore_n (lv' := [(3, .int (if (fw (dq_df S (DN k))) < (mt_aft fw DN S k) then (fw (dq_df S (DN k))) else (mt_aft fw DN S k))), (0, .ref (ad 23)), (1, .ref (ad (30 + 4 * h))), (2, .int (nI S)), (4, .int (nI k))]) hx hb dTb_fewestAfterHit_35 rfl hl (by decide) rfl (fun ls hl => ?_)
        refine lv_iinc (v := (nI (k + 1))) (lv' := [(4, .int (nI (k + 1))), (3, .int (if (fw (dq_df S (DN k))) < (mt_aft fw DN S k) then (fw (dq_df S (DN k))) else (mt_aft fw DN S k))), (0, .ref (ad 23)), (1, .ref (ad (30 + 4 * h))), (2, .int (nI S))]) hx hb dTb_fewestAfterHit_36 hl (k := 4) rfl (by show nI k + 1 = _; exact nI_1 _) (by decide) rfl (fun ls hl => ?_)
        refine lv_goto (tgt := 6) hx hb dTb_fewestAfterHit_39 (by decide) ?_
        exact ih (k + 1) _ (by omega) (by omega)  (lv_sub hl [2, 3, 4, 1, 0] rfl)
  exact loop (q + 1) 0 _ (by omega) (Nat.zero_le _)  (lv_sub hl [2, 3, 4, 1, 0] rfl)
set_option maxHeartbeats 4000000 in
set_option maxRecDepth 100000 in
/-- Table.firstBest -/
theorem c_Table_firstBest (l : Launch) (D : va_G) (g : Nat → ClassId) (ad : Nat → Nat) (w : Nat → Option va_E) (sz : Nat) (len : Nat) (fw : Nat → Int32) (h q S : Nat) (Dr : Nat → Int32) (DN : Nat → Nat) (b23 : w 23 = some (.inr (5, [.ref (ad 24)]))) (b24 : w 24 = some (.inl (g 0, len, .inl fw))) (l0 : w (30 + 4 * h) = some (.inr (4, [.ref (ad (31 + 4 * h)), .ref (ad (32 + 4 * h)), .ref (ad (33 + 4 * h)), .int (nI q)]))) (l3 : w (33 + 4 * h) = some (.inl (g 0, 16, .inl Dr))) (hSl : S < len) (hln : len ≤ 16384) (hq : q ≤ 16) (hD : ∀ p, p < q → Dr p = nI (DN p)) : Met l yTb_firstBest wsTb_firstBest ({ frames := 2, cells := 0, slots := 0, locals := 50 } : Room) (va_Pc [.ref (ad 23), .ref (ad (30 + 4 * h)), .int (nI S)] (dq_S D vwCl (dq_t g) ad w sz)) (va_Qi (fun r u => r = mt_first fw DN S q ∧ u = w) (dq_B D vwCl (dq_t g) ad (dq_A ad w sz)) (dq_A ad w sz)) 0 0 (dq_A ad w sz) := by
  refine dq_ofi (cc := cTb_firstBest) (maxL := 5) (by decide) rfl (Nat.le_of_ble_eq_true rfl) ?_
  intro p e s m below meth c A Q ls ⟨hx, hb, hml, hown, hts⟩ hnm hA hW hK hZ hl hret
  have hS : va_S A s.heap s.heap [] := va_S.rf
  have hl : lv_has ls 5 [(0, .ref (ad 23)), (1, .ref (ad (30 + 4 * h))), (2, .int (nI S))] := hl
  have hf9 := hts _ (List.mem_cons_of_mem _ tw1_192)
  have hf27 := hts _ (List.mem_cons_of_mem _ tw1_145)
  have hf33 := hts _ (List.mem_cons_of_mem _ tw1_142)
  have hinPl : ∀ w ∈ u_ws RPl TPl 4, w ∈ wsTb_firstBest := fun w h => List.mem_cons_of_mem _ (inPl w h)
  have hinTb : ∀ w ∈ u_ws RTb TTb 1, w ∈ wsTb_firstBest := fun w h => List.mem_cons_of_mem _ (inTb w h)
  refine lv_aload_n hx hb dTb_firstBest_0 rfl (lv_at hl 0 rfl) ?_
  refine lv_aload_n hx hb dTb_firstBest_1 rfl (lv_at hl 1 rfl) ?_
  refine lv_iload_n hx hb dTb_firstBest_2 rfl (lv_at hl 2 rfl) ?_
  refine dq_calli (va_runV (As := [.ref (ad (30 + 4 * h)), .int (nI S)]) (rest := []) ⟨hx, hb, hml, hown, hts⟩ (c_Table_after l D g ad (w) _ len fw h q S Dr DN b23 b24 l0 l3 hSl hln hq hD) (cwV 2 hts (dq_giV tw2_62 tw2_64 twp_4 tw1_8 tw2_65) rfl rfl rfl (by decide +kernel) ⟨Nat.le_of_ble_eq_true rfl, Nat.le_of_ble_eq_true rfl⟩) (dq_preV (ci := 5) hW hS hA hK hZ b23 rfl rfl) rfl rfl hl.1 rfl (lv_room (Nat.le_of_ble_eq_true rfl)) dTb_firstBest_3 ⟨Nat.zero_le _, Nat.zero_le _⟩) hW hS hA (fun r1 u_9 H locs hp1 hW hS hz9 => ?_)
  obtain ⟨hr1, hu9⟩ := hp1
  rw [hu9] at hW
  subst hr1
  refine lv_istore_n (lv' := [(3, .int (mt_aft fw DN S q)), (0, .ref (ad 23)), (1, .ref (ad (30 + 4 * h))), (2, .int (nI S))]) hx hb dTb_firstBest_6 rfl hl (by decide) rfl (fun ls hl => ?_)
  refine lv_iconst (v := (nI 0)) hx hb dTb_firstBest_7 (by decide) ?_
  refine lv_istore (lv' := [(4, .int (nI 0)), (3, .int (mt_aft fw DN S q)), (0, .ref (ad 23)), (1, .ref (ad (30 + 4 * h))), (2, .int (nI S))]) hx hb dTb_firstBest_8 hl (by decide) rfl (fun ls hl => ?_)
  have loop : ∀ (j : Nat) (k : Nat) (ls : Array Slot), q < k + j → k ≤ q → (∀ i, i < k → (fun p => decide (fw (dq_df S (DN p)) = mt_aft fw DN S q)) i = false) → lv_has ls 5 [(0, .ref (ad 23)), (1, .ref (ad (30 + 4 * h))), (2, .int (nI S)), (3, .int (mt_aft fw DN S q)), (4, .int (nI k))] → W p l e ({ frames := 2, cells := 0, slots := 0, locals := 50 } : Room) s m ([.ref (ad 23), .ref (ad (30 + 4 * h)), .int (nI S)] : List Value).toArray below meth c H locs 0 0 Q (F0 m 10 ls []) := by
    intro j
    induction j with
    | zero => intro k ls hj hk hb9  hl; exact absurd hj (by omega)
    | succ j ih =>
      intro k ls hj hk hb9  hl
      refine lv_iload hx hb dTb_firstBest_10 (lv_at hl 4 rfl) ?_
      refine lv_aload_n hx hb dTb_firstBest_12 rfl (lv_at hl 1 rfl) ?_
      refine dq_get (D := D) (ci := 4) (v := .int (nI q)) (C := RPl) (T := TPl) (N := 4) hx hb hts hinPl hown hK hW (30 + 4 * h) l0 rfl 3 (by decide) hf27 (fun _ h9 => h9) rfl dTb_firstBest_13 ?_
      refine lv_icmp_ge (tgt := 48) hx hb dTb_firstBest_16 (by decide) (fun c1 => ?_) (fun c1 => ?_)
      · have hkn : k = q := by have q := (nI_leI (by omega) (by omega)).mp c1; omega
        refine lv_iconst (v := (0)) hx hb dTb_firstBest_48 (by decide) ?_
        have e1 : dq_fn (fun p => decide (fw (dq_df S (DN p)) = mt_aft fw DN S q)) q = q := dq_fn_eq (Nat.le_refl q) (fun i hi => hb9 i (by omega)) (fun h9 => absurd h9 (by omega))
        exact hret _ _ _ _ _ _ ⟨by unfold mt_first; rw [e1, if_neg (by omega)], rfl⟩ hW hS dTb_firstBest_49
      · have hkn : k < q := by rcases Nat.lt_or_ge k q with q | q; exact q; exact absurd (nI_le q (by omega)) c1
        refine lv_aload_n hx hb dTb_firstBest_19 rfl (lv_at hl 0 rfl) ?_
        refine dq_get (D := D) (ci := 5) (v := .ref (ad 24)) (C := RTb) (T := TTb) (N := 1) hx hb hts hinTb hown hK hW 23 b23 rfl 0 (by decide) hf9 (fun _ h9 => h9) rfl dTb_firstBest_20 ?_
        refine lv_iload_n hx hb dTb_firstBest_23 rfl (lv_at hl 2 rfl) ?_
        refine lv_aload_n hx hb dTb_firstBest_24 rfl (lv_at hl 1 rfl) ?_
        refine dq_get (D := D) (ci := 4) (v := .ref (ad (33 + 4 * h))) (C := RPl) (T := TPl) (N := 4) hx hb hts hinPl hown hK hW (30 + 4 * h) l0 rfl 2 (by decide) hf33 (fun _ h9 => h9) rfl dTb_firstBest_25 ?_
        refine lv_iload hx hb dTb_firstBest_28 (lv_at hl 4 rfl) ?_
        refine dq_ialdN hx hb hK hW (33 + 4 * h) 0 l3 rfl k (by omega) (by omega) dTb_firstBest_30 ?_
        refine dq_top (y := nI (DN k)) (hD k hkn) ?_
        refine lv_iconst (v := (-1)) hx hb dTb_firstBest_31 (by decide) ?_
        refine lv_ixor hx hb dTb_firstBest_32 ?_
        refine lv_iand hx hb dTb_firstBest_33 ?_
        refine dq_top (y := nI (dq_df S (DN k))) (dq_dfI _ _) ?_
        refine dq_ialdN hx hb hK hW 24 0 b24 rfl (dq_df S (DN k)) (Nat.lt_of_le_of_lt (dq_df_le _ _) hSl) (by omega) dTb_firstBest_34 ?_
        refine lv_iload_n hx hb dTb_firstBest_35 rfl (lv_at hl 3 rfl) ?_
        refine lv_icmp_ne (tgt := 42) hx hb dTb_firstBest_36 (by decide) (fun c2 => ?_) (fun c2 => ?_)
        · refine lv_iinc (v := (nI (k + 1))) (lv' := [(4, .int (nI (k + 1))), (0, .ref (ad 23)), (1, .ref (ad (30 + 4 * h))), (2, .int (nI S)), (3, .int (mt_aft fw DN S q))]) hx hb dTb_firstBest_42 hl (k := 4) rfl (by show nI k + 1 = _; exact nI_1 _) (by decide) rfl (fun ls hl => ?_)
          refine lv_goto (tgt := 10) hx hb dTb_firstBest_45 (by decide) ?_
          exact ih (k + 1) _ (by omega) (by omega) (lt_s hb9 (decide_eq_false c2))  (lv_sub hl [1, 2, 3, 4, 0] rfl)
        · refine lv_iload hx hb dTb_firstBest_39 (lv_at hl 4 rfl) ?_
          have e1 : dq_fn (fun p => decide (fw (dq_df S (DN p)) = mt_aft fw DN S q)) q = k := dq_fn_eq (by omega) hb9 (fun _ => decide_eq_true c2)
          exact hret _ _ _ _ _ _ ⟨by unfold mt_first; rw [e1, if_pos hkn], rfl⟩ hW hS dTb_firstBest_41
  exact loop (q + 1) 0 _ (by omega) (Nat.zero_le _) lt_0  (lv_sub hl [2, 3, 4, 1, 0] rfl)
set_option maxHeartbeats 4000000 in
set_option maxRecDepth 100000 in
/-- Table.markReached -/
theorem c_Table_mark (l : Launch) (D : va_G) (g : Nat → ClassId) (ad : Nat → Nat) (w : Nat → Option va_E) (sz : Nat) (len : Nat) (fw : Nat → Int32) (M : Nat) (qs : Nat → Nat) (DD : Nat → Nat → Int32) (DN : Nat → Nat → Nat) (b23 : w 23 = some (.inr (5, [.ref (ad 24)]))) (b24 : w 24 = some (.inl (g 0, len, .inl fw))) (a17 : w 17 = some (.inl (g 3, 14, .inr (.inr (.inr (.inr (fun h => some (ad (30 + 4 * h))))))))) (hMl : M < len) (hln : len ≤ 16384) (lp0 : ∀ h, h < 14 → w (30 + 4 * h) = some (.inr (4, [.ref (ad (31 + 4 * h)), .ref (ad (32 + 4 * h)), .ref (ad (33 + 4 * h)), .int (nI (qs h))]))) (lp3 : ∀ h, h < 14 → w (33 + 4 * h) = some (.inl (g 0, 16, .inl (DD h)))) (hq16 : ∀ h, h < 14 → qs h ≤ 16) (hDN : ∀ h, h < 14 → ∀ p, p < qs h → DD h p = nI (DN h p)) : Met l yTb_markReached wsTb_markReached ({ frames := 2, cells := 0, slots := 0, locals := 50 } : Room) (va_Pc [.ref (ad 23), .ref (ad 17), .int (nI M)] (dq_S D vwCl (dq_t g) ad w sz)) (va_Qv (fun u => u = dq_U w 24 (.inl (g 0, len, .inl (mt_mk (mt_m0 fw M) DN qs M M)))) (dq_B D vwCl (dq_t g) ad (dq_A ad w sz)) (dq_A ad w sz)) 0 0 (dq_A ad w sz) := by
  refine dq_ofv (cc := cTb_markReached) (maxL := 6) (by decide) rfl (Nat.le_of_ble_eq_true rfl) ?_
  intro p e s m below meth c A Q ls ⟨hx, hb, hml, hown, hts⟩ hnm hA hW hK hZ hl hret
  have hS : va_S A s.heap s.heap [] := va_S.rf
  have hl : lv_has ls 6 [(0, .ref (ad 23)), (1, .ref (ad 17)), (2, .int (nI M))] := hl
  have hf9 := hts _ (List.mem_cons_of_mem _ tw1_192)
  have hf27 := hts _ (List.mem_cons_of_mem _ tw1_145)
  have hf33 := hts _ (List.mem_cons_of_mem _ tw1_142)
  have hinPl : ∀ w ∈ u_ws RPl TPl 4, w ∈ wsTb_markReached := fun w h => List.mem_cons_of_mem _ (inPl w h)
  have hinTb : ∀ w ∈ u_ws RTb TTb 1, w ∈ wsTb_markReached := fun w h => List.mem_cons_of_mem _ (inTb w h)
  refine lv_iconst (v := (nI 0)) hx hb dTb_markReached_0 (by decide) ?_
  refine lv_istore_n (lv' := [(3, .int (nI 0)), (0, .ref (ad 23)), (1, .ref (ad 17)), (2, .int (nI M))]) hx hb dTb_markReached_1 rfl hl (by decide) rfl (fun ls hl => ?_)
  have loop2 : ∀ (j : Nat) (c9 : Nat) (H : Heap) (locs : List Loc) (ls : Array Slot), M < c9 + j → c9 ≤ M → dq_W D vwCl ad (dq_U w 24 (.inl (g 0, len, .inl (mt_mk (mt_m0 fw M) DN qs M c9)))) A H → va_S A s.heap H locs → lv_has ls 6 [(0, .ref (ad 23)), (1, .ref (ad 17)), (2, .int (nI M)), (3, .int (nI (M - c9)))] → W p l e ({ frames := 2, cells := 0, slots := 0, locals := 50 } : Room) s m ([.ref (ad 23), .ref (ad 17), .int (nI M)] : List Value).toArray below meth c H locs 0 0 Q (F0 m 29 ls []) := by
    intro j
    induction j with
    | zero => intro c9 H locs ls hj hcM hW hS hl; exact absurd hj (by omega)
    | succ j ih =>
      intro c9 H locs ls hj hcM hW hS hl
      refine lv_iload_n hx hb dTb_markReached_29 rfl (lv_at hl 3 rfl) ?_
      refine lv_if_le (tgt := 94) hx hb dTb_markReached_30 (by decide) (fun c2 => ?_) (fun c2 => ?_)
      · have hcm : c9 = M := by have q9 := (nI_leI (a := M - c9) (b := 0) (by omega) (by omega)).mp c2; omega
        exact hret _ _ _ _ _ (by rw [hcm]) hW hS dTb_markReached_94
      · have hcm : c9 < M := by rcases Nat.lt_or_ge c9 M with q9 | q9; exact q9; exact absurd (show nI (M - c9) ≤ 0 by rw [show M - c9 = 0 by omega]; decide) c2
        refine lv_aload_n hx hb dTb_markReached_33 rfl (lv_at hl 0 rfl) ?_
        refine dq_get (D := D) (ci := 5) (v := .ref (ad 24)) (C := RTb) (T := TTb) (N := 1) hx hb hts hinTb hown hK hW 23 ((dq_Un (by decide)).trans b23) rfl 0 (by decide) hf9 (fun _ h9 => h9) rfl dTb_markReached_34 ?_
        refine lv_iload_n hx hb dTb_markReached_37 rfl (lv_at hl 3 rfl) ?_
        refine dq_ialdN hx hb hK hW 24 0 dq_Us rfl (M - c9) (by omega) (by omega) dTb_markReached_38 ?_
        refine lv_iconst (v := (-1)) hx hb dTb_markReached_39 (by decide) ?_
        refine lv_icmp_ne (tgt := 88) hx hb dTb_markReached_40 (by decide) (fun c3 => ?_) (fun c3 => ?_)
        · have e5 : mt_mk (mt_m0 fw M) DN qs M (c9 + 1) = mt_mk (mt_m0 fw M) DN qs M c9 := if_neg c3
          refine lv_iinc (v := (nI (M - (c9 + 1)))) (lv' := [(3, .int (nI (M - (c9 + 1)))), (0, .ref (ad 23)), (1, .ref (ad 17)), (2, .int (nI M))]) hx hb dTb_markReached_88 hl (k := 3) rfl (by rw [show M - c9 = (M - (c9 + 1)) + 1 by omega]; exact pk_m1 _) (by decide) rfl (fun ls hl => ?_)
          refine lv_goto (tgt := 29) hx hb dTb_markReached_91 (by decide) ?_
          exact ih (c9 + 1) _ _ _ (by omega) (by omega) (by rw [e5]; exact hW) hS (lv_sub hl [1, 2, 3, 0] rfl)
        · obtain ⟨elo, hlo, -, -⟩ := dq_lo_l2 (S := M - c9) (by omega) (by omega)
          refine lv_aload_n hx hb dTb_markReached_43 rfl (lv_at hl 1 rfl) ?_
          refine lv_iload_n hx hb dTb_markReached_44 rfl (lv_at hl 3 rfl) ?_
          refine dq_calli (va_runSN (As := [.int (nI (M - c9))]) (rest := [.ref (ad 17)]) ⟨hx, hb, hml, hown, hts⟩ (c_leastOf l D g ad (dq_U w 24 (.inl (g 0, len, .inl (mt_mk (mt_m0 fw M) DN qs M c9)))) _ (M - c9)  (by omega) (by omega)) ⟨va_cnB 1 hts (dq_gi tw2_57) rfl rfl rfl (hZ.n6) (hts _ (List.mem_cons_of_mem _ tw1_1)) (by decide +kernel) ⟨Nat.le_of_ble_eq_true rfl, Nat.le_of_ble_eq_true rfl⟩, (hts _ (List.mem_cons_of_mem _ tw2_56)), trivial⟩ (dq_preS hW hS hA hK hZ) rfl rfl hl.1 rfl (lv_room (Nat.le_of_ble_eq_true rfl)) dTb_markReached_45 ⟨Nat.zero_le _, Nat.zero_le _⟩) hW hS hA (fun r1 u_9 H locs hp1 hW hS hz9 => ?_)
          obtain ⟨hr1, hu9⟩ := hp1
          rw [hu9] at hW
          subst hr1
          generalize hb0 : dq_lo (M - c9) = t at hlo
          refine dq_aaldN hx hb hK hW 17 3 ((dq_Un (by decide)).trans a17) rfl t (by omega) (by omega) (a := (ad (30 + 4 * t))) rfl dTb_markReached_48 ?_
          refine lv_astore (lv' := [(4, .ref (ad (30 + 4 * t))), (0, .ref (ad 23)), (1, .ref (ad 17)), (2, .int (nI M)), (3, .int (nI (M - c9)))]) hx hb dTb_markReached_49 hl (by decide) rfl (fun ls hl => ?_)
          refine lv_iconst (v := (nI 0)) hx hb dTb_markReached_51 (by decide) ?_
          refine lv_istore (lv' := [(5, .int (nI 0)), (4, .ref (ad (30 + 4 * t))), (0, .ref (ad 23)), (1, .ref (ad 17)), (2, .int (nI M)), (3, .int (nI (M - c9)))]) hx hb dTb_markReached_52 hl (by decide) rfl (fun ls hl => ?_)
          have hq9 := hq16 t hlo
          have loop3 : ∀ (j3 : Nat) (p9 : Nat) (H : Heap) (locs : List Loc) (ls : Array Slot), qs t < p9 + j3 → p9 ≤ qs t → dq_W D vwCl ad (dq_U w 24 (.inl (g 0, len, .inl (mt_row (mt_mk (mt_m0 fw M) DN qs M c9) (DN t) (M - c9) p9)))) A H → va_S A s.heap H locs → lv_has ls 6 [(0, .ref (ad 23)), (1, .ref (ad 17)), (2, .int (nI M)), (3, .int (nI (M - c9))), (4, .ref (ad (30 + 4 * t))), (5, .int (nI p9))] → W p l e ({ frames := 2, cells := 0, slots := 0, locals := 50 } : Room) s m ([.ref (ad 23), .ref (ad 17), .int (nI M)] : List Value).toArray below meth c H locs 0 0 Q (F0 m 54 ls []) := by
            intro j3
            induction j3 with
            | zero => intro p9 H locs ls hj3 hp9 hW hS hl; exact absurd hj3 (by omega)
            | succ j3 ih3 =>
              intro p9 H locs ls hj3 hp9 hW hS hl
              refine lv_iload hx hb dTb_markReached_54 (lv_at hl 5 rfl) ?_
              refine lv_aload hx hb dTb_markReached_56 (lv_at hl 4 rfl) ?_
              refine dq_get (D := D) (ci := 4) (v := .int (nI (qs t))) (C := RPl) (T := TPl) (N := 4) hx hb hts hinPl hown hK hW (30 + 4 * t) ((dq_Un (by omega)).trans (lp0 t hlo)) rfl 3 (by decide) hf27 (fun _ h9 => h9) rfl dTb_markReached_58 ?_
              refine lv_icmp_ge (tgt := 88) hx hb dTb_markReached_61 (by decide) (fun c4 => ?_) (fun c4 => ?_)
              · have hpn : qs t = p9 := by have q9 := (nI_leI (by have := hq16 t hlo; omega) (by omega)).mp c4; omega
                have e5 : mt_mk (mt_m0 fw M) DN qs M (c9 + 1) = mt_row (mt_mk (mt_m0 fw M) DN qs M c9) (DN t) (M - c9) p9 := by rw [← hpn, ← hb0]; exact if_pos c3
                refine lv_iinc (v := (nI (M - (c9 + 1)))) (lv' := [(3, .int (nI (M - (c9 + 1)))), (0, .ref (ad 23)), (1, .ref (ad 17)), (2, .int (nI M)), (4, .ref (ad (30 + 4 * t))), (5, .int (nI p9))]) hx hb dTb_markReached_88 hl (k := 3) rfl (by rw [show M - c9 = (M - (c9 + 1)) + 1 by omega]; exact pk_m1 _) (by decide) rfl (fun ls hl => ?_)
                refine lv_goto (tgt := 29) hx hb dTb_markReached_91 (by decide) ?_
                exact ih (c9 + 1) _ _ _ (by omega) (by omega) (by rw [e5]; exact hW) hS (lv_sub hl [1, 2, 3, 0] rfl)
              · have hq9 := hq16 t hlo
                have hpn : p9 < qs t := by rcases Nat.lt_or_ge p9 (qs t) with q9 | q9; exact q9; exact absurd (nI_le q9 (by omega)) c4
                refine lv_aload_n hx hb dTb_markReached_64 rfl (lv_at hl 0 rfl) ?_
                refine dq_get (D := D) (ci := 5) (v := .ref (ad 24)) (C := RTb) (T := TTb) (N := 1) hx hb hts hinTb hown hK hW 23 ((dq_Un (by decide)).trans b23) rfl 0 (by decide) hf9 (fun _ h9 => h9) rfl dTb_markReached_65 ?_
                refine lv_iload_n hx hb dTb_markReached_68 rfl (lv_at hl 3 rfl) ?_
                refine lv_aload hx hb dTb_markReached_69 (lv_at hl 4 rfl) ?_
                refine dq_get (D := D) (ci := 4) (v := .ref (ad (33 + 4 * t))) (C := RPl) (T := TPl) (N := 4) hx hb hts hinPl hown hK hW (30 + 4 * t) ((dq_Un (by omega)).trans (lp0 t hlo)) rfl 2 (by decide) hf33 (fun _ h9 => h9) rfl dTb_markReached_71 ?_
                refine lv_iload hx hb dTb_markReached_74 (lv_at hl 5 rfl) ?_
                refine dq_ialdN hx hb hK hW (33 + 4 * t) 0 ((dq_Un (by omega)).trans (lp3 t hlo)) rfl p9 (by omega) (by omega) dTb_markReached_76 ?_
                refine dq_top (y := nI (DN t p9)) (hDN t hlo p9 hpn) ?_
                refine lv_iconst (v := (-1)) hx hb dTb_markReached_77 (by decide) ?_
                refine lv_ixor hx hb dTb_markReached_78 ?_
                refine lv_iand hx hb dTb_markReached_79 ?_
                refine dq_top (y := nI (dq_df (M - c9) (DN t p9))) (dq_dfI _ _) ?_
                refine lv_iconst (v := (-1)) hx hb dTb_markReached_80 (by decide) ?_
                refine dq_iastN hx hb hK hW hS 24 0 dq_Us rfl (dq_df (M - c9) (DN t p9)) (Nat.lt_of_le_of_lt (dq_df_le _ _) (by omega)) (by omega) dTb_markReached_81 (fun H locs hW hS => ?_)
                rw [dq_UU] at hW
                refine lv_iinc (v := (nI (p9 + 1))) (lv' := [(5, .int (nI (p9 + 1))), (0, .ref (ad 23)), (1, .ref (ad 17)), (2, .int (nI M)), (3, .int (nI (M - c9))), (4, .ref (ad (30 + 4 * t)))]) hx hb dTb_markReached_82 hl (k := 5) rfl (by show nI p9 + 1 = _; exact nI_1 _) (by decide) rfl (fun ls hl => ?_)
                refine lv_goto (tgt := 54) hx hb dTb_markReached_85 (by decide) ?_
                exact ih3 (p9 + 1) _ _ _ (by omega) (by omega) hW hS (lv_sub hl [1, 2, 3, 4, 5, 0] rfl)
          exact loop3 (qs t + 1) 0 _ _ _ (by omega) (Nat.zero_le _) hW hS (lv_sub hl [2, 3, 4, 5, 1, 0] rfl)
  have loop : ∀ (j : Nat) (k : Nat) (H : Heap) (locs : List Loc) (ls : Array Slot), M < k + j → k ≤ M → dq_W D vwCl ad (dq_U w 24 (.inl (g 0, len, .inl (mt_z fw k)))) A H → va_S A s.heap H locs → lv_has ls 6 [(0, .ref (ad 23)), (1, .ref (ad 17)), (2, .int (nI M)), (3, .int (nI k))] → W p l e ({ frames := 2, cells := 0, slots := 0, locals := 50 } : Room) s m ([.ref (ad 23), .ref (ad 17), .int (nI M)] : List Value).toArray below meth c H locs 0 0 Q (F0 m 2 ls []) := by
    intro j
    induction j with
    | zero => intro k H locs ls hj hk hW hS hl; exact absurd hj (by omega)
    | succ j ih =>
      intro k H locs ls hj hk hW hS hl
      refine lv_iload_n hx hb dTb_markReached_2 rfl (lv_at hl 3 rfl) ?_
      refine lv_iload_n hx hb dTb_markReached_3 rfl (lv_at hl 2 rfl) ?_
      refine lv_icmp_ge (tgt := 20) hx hb dTb_markReached_4 (by decide) (fun c1 => ?_) (fun c1 => ?_)
      · have hkn : M = k := by have q9 := (nI_leI (by omega) (by omega)).mp c1; omega
        subst hkn
        refine lv_aload_n hx hb dTb_markReached_20 rfl (lv_at hl 0 rfl) ?_
        refine dq_get (D := D) (ci := 5) (v := .ref (ad 24)) (C := RTb) (T := TTb) (N := 1) hx hb hts hinTb hown hK hW 23 ((dq_Un (by decide)).trans b23) rfl 0 (by decide) hf9 (fun _ h9 => h9) rfl dTb_markReached_21 ?_
        refine lv_iload_n hx hb dTb_markReached_24 rfl (lv_at hl 2 rfl) ?_
        refine lv_iconst (v := (-1)) hx hb dTb_markReached_25 (by decide) ?_
        refine dq_iastN hx hb hK hW hS 24 0 dq_Us rfl M (by omega) (by omega) dTb_markReached_26 (fun H locs hW hS => ?_)
        rw [dq_UU] at hW
        refine lv_iload_n hx hb dTb_markReached_27 rfl (lv_at hl 2 rfl) ?_
        refine lv_istore_n (lv' := [(3, .int (nI M)), (0, .ref (ad 23)), (1, .ref (ad 17)), (2, .int (nI M))]) hx hb dTb_markReached_28 rfl hl (by decide) rfl (fun ls hl => ?_)
        exact loop2 (M + 1) 0 _ _ _ (by omega) (Nat.zero_le _) hW hS (lv_sub hl [1, 2, 3, 0] rfl)
      · have hkn : k < M := by rcases Nat.lt_or_ge k M with q | q; exact q; exact absurd (nI_le q (by omega)) c1
        refine lv_aload_n hx hb dTb_markReached_7 rfl (lv_at hl 0 rfl) ?_
        refine dq_get (D := D) (ci := 5) (v := .ref (ad 24)) (C := RTb) (T := TTb) (N := 1) hx hb hts hinTb hown hK hW 23 ((dq_Un (by decide)).trans b23) rfl 0 (by decide) hf9 (fun _ h9 => h9) rfl dTb_markReached_8 ?_
        refine lv_iload_n hx hb dTb_markReached_11 rfl (lv_at hl 3 rfl) ?_
        refine lv_iconst (v := (0)) hx hb dTb_markReached_12 (by decide) ?_
        refine dq_iastN hx hb hK hW hS 24 0 dq_Us rfl k (by omega) (by omega) dTb_markReached_13 (fun H locs hW hS => ?_)
        rw [dq_UU] at hW
        refine lv_iinc (v := (nI (k + 1))) (lv' := [(3, .int (nI (k + 1))), (0, .ref (ad 23)), (1, .ref (ad 17)), (2, .int (nI M))]) hx hb dTb_markReached_14 hl (k := 3) rfl (by show nI k + 1 = _; exact nI_1 _) (by decide) rfl (fun ls hl => ?_)
        refine lv_goto (tgt := 2) hx hb dTb_markReached_17 (by decide) ?_
        exact ih (k + 1) _ _ _ (by omega) (by omega) (by rw [← mt_z_s]; exact hW) hS (lv_sub hl [1, 2, 3, 0] rfl)
  exact loop (M + 1) 0 _ _ _ (by omega) (Nat.zero_le _) (dq_Wc (by rw [mt_z_0, dq_Uid b24]) hW) hS (lv_sub hl [1, 2, 3, 0] rfl)
end
section
set_option maxHeartbeats 4000000 in
set_option maxRecDepth 100000 in
/-- Table.fill -/
theorem c_Table_fill (l : Launch) (D : va_G) (g : Nat → ClassId) (ad : Nat → Nat) (w : Nat → Option va_E) (sz : Nat) (len : Nat) (fw : Nat → Int32) (hn M : Nat) (qs : Nat → Nat) (DD : Nat → Nat → Int32) (DN : Nat → Nat → Nat) (b23 : w 23 = some (.inr (5, [.ref (ad 24)]))) (b24 : w 24 = some (.inl (g 0, len, .inl fw))) (a17 : w 17 = some (.inl (g 3, 14, .inr (.inr (.inr (.inr (fun h => some (ad (30 + 4 * h))))))))) (hM : M < 2 ^ hn) (hn14 : hn ≤ 14) (hln : len ≤ 16384) (lp0 : ∀ h, h < 14 → w (30 + 4 * h) = some (.inr (4, [.ref (ad (31 + 4 * h)), .ref (ad (32 + 4 * h)), .ref (ad (33 + 4 * h)), .int (nI (qs h))]))) (lp3 : ∀ h, h < 14 → w (33 + 4 * h) = some (.inl (g 0, 16, .inl (DD h)))) (hq16 : ∀ h, h < 14 → qs h ≤ 16) (hDN : ∀ h, h < 14 → ∀ p, p < qs h → DD h p = nI (DN h p)) : Met l yTb_fill wsTb_fill ({ frames := 3, cells := (if len < 2 ^ hn then 1 else 0), slots := (if len < 2 ^ hn then 2 ^ hn else 0), locals := 80 } : Room) (va_Pc [.ref (ad 23), .ref (ad 17), .int (nI hn), .int (nI M)] (dq_S D vwCl (dq_t g) ad w sz)) (va_Qv (fun u => (∀ j, j ≠ 24 → u.1 j = ad j) ∧ (∀ j, j ≠ 23 → j ≠ 24 → u.2 j = w j) ∧ u.2 23 = some (.inr (5, [.ref (u.1 24)])) ∧ u.2 24 = some (.inl (g 0, (if len < 2 ^ hn then 2 ^ hn else len), .inl (mt_fill (if len < 2 ^ hn then (fun _ => 0) else fw) DN qs M)))) (dq_B2 D vwCl (dq_t g) (dq_A ad w sz)) (dq_A ad w sz)) (if len < 2 ^ hn then 1 else 0) (if len < 2 ^ hn then 2 ^ hn else 0) (dq_A ad w sz) := by
  refine dq_ofv2 (cc := cTb_fill) (maxL := 5) (by decide) rfl (Nat.le_of_ble_eq_true rfl) ?_
  intro p e s m below meth c A Q ls ⟨hx, hb, hml, hown, hts⟩ hnm hA hW hK hZ hl hret
  have hS : va_S A s.heap s.heap [] := va_S.rf
  have hl : lv_has ls 5 [(0, .ref (ad 23)), (1, .ref (ad 17)), (2, .int (nI hn)), (3, .int (nI M))] := hl
  have hf9 := hts _ (List.mem_cons_of_mem _ tw1_192)
  have hinTb : ∀ w ∈ u_ws RTb TTb 1, w ∈ wsTb_fill := fun w h => List.mem_cons_of_mem _ (inTb w h)
  have hp2 : 2 ^ hn ≤ 16384 := Nat.le_trans (Nat.pow_le_pow_right (by omega) hn14) (Nat.le_refl 16384)
  have j20 : ∀ (ad1 : Nat → Nat) (w1 : Nat → Option va_E) (ln1 : Nat) (fw1 : Nat → Int32) (H : Heap) (locs : List Loc) (ls : Array Slot), (∀ j, j ≠ 24 → ad1 j = ad j) → (∀ j, j ≠ 23 → j ≠ 24 → w1 j = w j) → w1 23 = some (.inr (5, [.ref (ad1 24)])) → w1 24 = some (.inl (g 0, ln1, .inl fw1)) → ln1 = (if len < 2 ^ hn then 2 ^ hn else len) → fw1 = (if len < 2 ^ hn then (fun _ => 0) else fw) → dq_W D vwCl ad1 w1 A H → va_S A s.heap H locs → lv_has ls 5 [(0, .ref (ad1 23)), (1, .ref (ad1 17)), (2, .int (nI hn)), (3, .int (nI M))] → W p l e ({ frames := 3, cells := (if len < 2 ^ hn then 1 else 0), slots := (if len < 2 ^ hn then 2 ^ hn else 0), locals := 80 } : Room) s m ([.ref (ad 23), .ref (ad 17), .int (nI hn), .int (nI M)] : List Value).toArray below meth c H locs (if len < 2 ^ hn then 1 else 0) (if len < 2 ^ hn then 2 ^ hn else 0) Q (F0 m 20 ls []) := by
    intro ad1 w1 ln1 fw1 H locs ls hadj hfr e23 e24 hl1 hf1 hW hS hl
    have hl2 : 2 ^ hn ≤ ln1 ∧ ln1 ≤ 16384 := by rw [hl1]; split <;> omega
    have hff : (fun h => some (ad1 (30 + 4 * h))) = (fun h => some (ad (30 + 4 * h))) := by funext h; rw [hadj _ (by omega)]
    have e17 : w1 17 = some (.inl (g 3, 14, .inr (.inr (.inr (.inr (fun h => some (ad1 (30 + 4 * h)))))))) := by rw [hff, hfr 17 (by decide) (by decide)]; exact a17
    have lp0 : ∀ h, h < 14 → w1 (30 + 4 * h) = some (.inr (4, [.ref (ad1 (31 + 4 * h)), .ref (ad1 (32 + 4 * h)), .ref (ad1 (33 + 4 * h)), .int (nI (qs h))])) := fun h hh => by rw [hfr _ (by omega) (by omega), hadj _ (by omega), hadj _ (by omega), hadj _ (by omega)]; exact lp0 h hh
    have lp3 : ∀ h, h < 14 → w1 (33 + 4 * h) = some (.inl (g 0, 16, .inl (DD h))) := fun h hh => by rw [hfr _ (by omega) (by omega)]; exact lp3 h hh
    refine lv_aload_n hx hb dTb_fill_20 rfl (lv_at hl 0 rfl) ?_
    refine lv_aload_n hx hb dTb_fill_21 rfl (lv_at hl 1 rfl) ?_
    refine lv_iload_n hx hb dTb_fill_22 rfl (lv_at hl 3 rfl) ?_
    refine dq_callv (va_runV (As := [.ref (ad1 17), .int (nI M)]) (rest := []) ⟨hx, hb, hml, hown, hts⟩ (c_Table_mark l D g ad1 (w1) _ ln1 fw1 M qs DD DN e23 e24 e17 (by omega) (by omega) (fun h hh => lp0 h hh) (fun h hh => lp3 h hh) hq16 hDN) (cwV 2 hts (dq_giV tw2_51 tw2_53 twp_3 tw1_8 tw2_54) rfl rfl rfl (by decide +kernel) ⟨Nat.le_of_ble_eq_true rfl, Nat.le_of_ble_eq_true rfl⟩) (dq_preV (ci := 5) hW hS hA hK hZ e23 rfl rfl) rfl rfl hl.1 rfl (lv_room (Nat.le_of_ble_eq_true rfl)) dTb_fill_23 ⟨Nat.le_refl _, Nat.le_refl _⟩) hW hS hA (fun u_9 H locs hp1 hW hS hz9 => ?_)
    rw [hp1] at hW
    refine lv_aload_n hx hb dTb_fill_26 rfl (lv_at hl 0 rfl) ?_
    refine dq_get (D := D) (ci := 5) (v := .ref (ad1 24)) (C := RTb) (T := TTb) (N := 1) hx hb hts hinTb hown hK hW 23 ((dq_Un (by decide)).trans e23) rfl 0 (by decide) hf9 (fun _ h9 => h9) rfl dTb_fill_27 ?_
    refine lv_iconst (v := (nI 0)) hx hb dTb_fill_30 (by decide) ?_
    refine lv_iconst (v := (0)) hx hb dTb_fill_31 (by decide) ?_
    refine dq_iastN hx hb hK hW hS 24 0 dq_Us rfl 0 (by omega) (by omega) dTb_fill_32 (fun H locs hW hS => ?_)
    rw [dq_UU] at hW
    refine lv_iconst (v := (nI 1)) hx hb dTb_fill_33 (by decide) ?_
    refine lv_istore (lv' := [(4, .int (nI 1)), (0, .ref (ad1 23)), (1, .ref (ad1 17)), (2, .int (nI hn)), (3, .int (nI M))]) hx hb dTb_fill_34 hl (by decide) rfl (fun ls hl => ?_)
    have loop : ∀ (j : Nat) (c9 : Nat) (H : Heap) (locs : List Loc) (ls : Array Slot), M < c9 + j → c9 ≤ M → dq_W D vwCl ad1 (dq_U w1 24 (.inl (g 0, ln1, .inl (mt_fl (mt_mk (mt_m0 fw1 M) DN qs M M) DN qs c9)))) A H → va_S A s.heap H locs → lv_has ls 5 [(0, .ref (ad1 23)), (1, .ref (ad1 17)), (2, .int (nI hn)), (3, .int (nI M)), (4, .int (nI (c9 + 1)))] → W p l e ({ frames := 3, cells := (if len < 2 ^ hn then 1 else 0), slots := (if len < 2 ^ hn then 2 ^ hn else 0), locals := 80 } : Room) s m ([.ref (ad 23), .ref (ad 17), .int (nI hn), .int (nI M)] : List Value).toArray below meth c H locs (if len < 2 ^ hn then 1 else 0) (if len < 2 ^ hn then 2 ^ hn else 0) Q (F0 m 36 ls []) := by
      intro j
      induction j with
      | zero => intro c9 H locs ls hj hcM hW hS hl; exact absurd hj (by omega)
      | succ j ih =>
        intro c9 H locs ls hj hcM hW hS hl
        refine lv_iload hx hb dTb_fill_36 (lv_at hl 4 rfl) ?_
        refine lv_iload_n hx hb dTb_fill_38 rfl (lv_at hl 3 rfl) ?_
        refine lv_icmp_gt (tgt := 81) hx hb dTb_fill_39 (by decide) (fun c1 => ?_) (fun c1 => ?_)
        · have hcm : c9 = M := by have q9 := (nI_ltI (by omega) (by omega)).mp c1; omega
          subst hcm
          obtain ⟨w2, hw2⟩ : ∃ w2, w2 = dq_U w1 24 (.inl (g 0, ln1, .inl (mt_fill fw1 DN qs c9))) := ⟨_, rfl⟩
          have hfin : dq_W D vwCl ad1 w2 A H := by rw [hw2]; exact hW
          refine W.widen (k := (if len < 2 ^ hn then 1 else 0)) (n := (if len < 2 ^ hn then 2 ^ hn else 0)) (Nat.le_refl _) (Nat.le_refl _) ?_
          exact hret (ad1, w2) _ _ _ _ ⟨hadj, fun j h1 h2 => by show w2 j = _; rw [hw2, dq_Un h2]; exact hfr j h1 h2, by show w2 23 = _; rw [hw2, dq_Un (by decide)]; exact e23, by show w2 24 = _; rw [hw2, dq_Us, hl1, hf1]⟩ hfin hS dTb_fill_81
        · have hcm : c9 < M := by rcases Nat.lt_or_ge c9 M with q9 | q9; exact q9; exact absurd (nI_lt (show M < c9 + 1 by omega) (by omega)) c1
          refine lv_aload_n hx hb dTb_fill_42 rfl (lv_at hl 0 rfl) ?_
          refine dq_get (D := D) (ci := 5) (v := .ref (ad1 24)) (C := RTb) (T := TTb) (N := 1) hx hb hts hinTb hown hK hW 23 ((dq_Un (by decide)).trans e23) rfl 0 (by decide) hf9 (fun _ h9 => h9) rfl dTb_fill_43 ?_
          refine lv_iload hx hb dTb_fill_46 (lv_at hl 4 rfl) ?_
          refine dq_ialdN hx hb hK hW 24 0 dq_Us rfl (c9 + 1) (by omega) (by omega) dTb_fill_48 ?_
          refine lv_iconst (v := (-1)) hx hb dTb_fill_49 (by decide) ?_
          refine lv_icmp_ne (tgt := 75) hx hb dTb_fill_50 (by decide) (fun c2 => ?_) (fun c2 => ?_)
          · have e5 : mt_fl (mt_mk (mt_m0 fw1 M) DN qs M M) DN qs (c9 + 1) = mt_fl (mt_mk (mt_m0 fw1 M) DN qs M M) DN qs c9 := if_neg c2
            refine lv_iinc (v := (nI ((c9 + 1) + 1))) (lv' := [(4, .int (nI ((c9 + 1) + 1))), (0, .ref (ad1 23)), (1, .ref (ad1 17)), (2, .int (nI hn)), (3, .int (nI M))]) hx hb dTb_fill_75 hl (k := 4) rfl (by show nI (c9 + 1) + 1 = _; exact nI_1 _) (by decide) rfl (fun ls hl => ?_)
            refine lv_goto (tgt := 36) hx hb dTb_fill_78 (by decide) ?_
            exact ih (c9 + 1) _ _ _ (by omega) (by omega) (by rw [e5]; exact hW) hS (lv_sub hl [1, 2, 3, 4, 0] rfl)
          · obtain ⟨elo, hlo, -, -⟩ := dq_lo_l2 (S := c9 + 1) (by omega) (by omega)
            refine lv_aload_n hx hb dTb_fill_53 rfl (lv_at hl 0 rfl) ?_
            refine dq_get (D := D) (ci := 5) (v := .ref (ad1 24)) (C := RTb) (T := TTb) (N := 1) hx hb hts hinTb hown hK hW 23 ((dq_Un (by decide)).trans e23) rfl 0 (by decide) hf9 (fun _ h9 => h9) rfl dTb_fill_54 ?_
            refine lv_iload hx hb dTb_fill_57 (lv_at hl 4 rfl) ?_
            refine lv_iconst (v := (1)) hx hb dTb_fill_59 (by decide) ?_
            refine lv_aload_n hx hb dTb_fill_60 rfl (lv_at hl 0 rfl) ?_
            refine lv_aload_n hx hb dTb_fill_61 rfl (lv_at hl 1 rfl) ?_
            refine lv_iload hx hb dTb_fill_62 (lv_at hl 4 rfl) ?_
            refine dq_calli (va_runSN (As := [.int (nI (c9 + 1))]) (rest := [.ref (ad1 17), .ref (ad1 23), .int (1), .int (nI (c9 + 1)), .ref (ad1 24)]) ⟨hx, hb, hml, hown, hts⟩ (c_leastOf l D g ad1 (dq_U w1 24 (.inl (g 0, ln1, .inl (mt_fl (mt_mk (mt_m0 fw1 M) DN qs M M) DN qs c9)))) _ (c9 + 1)  (by omega) (by omega)) ⟨va_cnB 1 hts (dq_gi tw2_57) rfl rfl rfl (hZ.n6) (hts _ (List.mem_cons_of_mem _ tw1_1)) (by decide +kernel) ⟨Nat.le_of_ble_eq_true rfl, Nat.le_of_ble_eq_true rfl⟩, (hts _ (List.mem_cons_of_mem _ tw2_56)), trivial⟩ (dq_preS hW hS hA hK hZ) rfl rfl hl.1 rfl (lv_room (Nat.le_of_ble_eq_true rfl)) dTb_fill_64 ⟨Nat.le_refl _, Nat.le_refl _⟩) hW hS hA (fun r1 u_9 H locs hp1 hW hS hz9 => ?_)
            obtain ⟨hr1, hu9⟩ := hp1
            rw [hu9] at hW
            subst hr1
            generalize hb0 : dq_lo (c9 + 1) = t at hlo
            refine dq_aaldN hx hb hK hW 17 3 ((dq_Un (by decide)).trans e17) rfl t (by omega) (by omega) (a := (ad1 (30 + 4 * t))) rfl dTb_fill_67 ?_
            refine lv_iload hx hb dTb_fill_68 (lv_at hl 4 rfl) ?_
            refine dq_calli (va_runV (As := [.ref (ad1 (30 + 4 * t)), .int (nI (c9 + 1))]) (rest := [.int (1), .int (nI (c9 + 1)), .ref (ad1 24)]) ⟨hx, hb, hml, hown, hts⟩ (c_Table_after l D g ad1 (dq_U w1 24 (.inl (g 0, ln1, .inl (mt_fl (mt_mk (mt_m0 fw1 M) DN qs M M) DN qs c9)))) _ ln1 (mt_fl (mt_mk (mt_m0 fw1 M) DN qs M M) DN qs c9) t (qs t) (c9 + 1) (DD t) (DN t) ((dq_Un (by decide)).trans e23) dq_Us ((dq_Un (by omega)).trans (lp0 t hlo)) ((dq_Un (by omega)).trans (lp3 t hlo)) (by omega) (by omega) (hq16 t hlo) (hDN t hlo)) (cwV 2 hts (dq_giV tw2_62 tw2_64 twp_4 tw1_8 tw2_65) rfl rfl rfl (by decide +kernel) ⟨Nat.le_of_ble_eq_true rfl, Nat.le_of_ble_eq_true rfl⟩) (dq_preV (ci := 5) hW hS hA hK hZ ((dq_Un (by decide)).trans e23) rfl rfl) rfl rfl hl.1 rfl (lv_room (Nat.le_of_ble_eq_true rfl)) dTb_fill_70 ⟨Nat.le_refl _, Nat.le_refl _⟩) hW hS hA (fun r2 u_9 H locs hp2 hW hS hz9 => ?_)
            obtain ⟨hr2, hu9⟩ := hp2
            rw [hu9] at hW
            subst hr2
            refine lv_iadd hx hb dTb_fill_73 ?_
            refine dq_iastN hx hb hK hW hS 24 0 dq_Us rfl (c9 + 1) (by omega) (by omega) dTb_fill_74 (fun H locs hW hS => ?_)
            rw [dq_UU] at hW
            refine lv_iinc (v := (nI ((c9 + 1) + 1))) (lv' := [(4, .int (nI ((c9 + 1) + 1))), (0, .ref (ad1 23)), (1, .ref (ad1 17)), (2, .int (nI hn)), (3, .int (nI M))]) hx hb dTb_fill_75 hl (k := 4) rfl (by show nI (c9 + 1) + 1 = _; exact nI_1 _) (by decide) rfl (fun ls hl => ?_)
            refine lv_goto (tgt := 36) hx hb dTb_fill_78 (by decide) ?_
            have e5 : mt_fl (mt_mk (mt_m0 fw1 M) DN qs M M) DN qs (c9 + 1) = upd (mt_fl (mt_mk (mt_m0 fw1 M) DN qs M M) DN qs c9) (c9 + 1) (1 + mt_aft (mt_fl (mt_mk (mt_m0 fw1 M) DN qs M M) DN qs c9) (DN t) (c9 + 1) (qs t)) := by rw [← hb0]; exact if_pos c2
            exact ih (c9 + 1) _ _ _ (by omega) (by omega) (by rw [e5]; exact hW) hS (lv_sub hl [1, 2, 3, 4, 0] rfl)
    exact loop (M + 1) 0 _ _ _ (by omega) (Nat.zero_le _) hW hS (lv_sub hl [1, 2, 3, 4, 0] rfl)
  refine lv_aload_n hx hb dTb_fill_0 rfl (lv_at hl 0 rfl) ?_
  refine dq_get (D := D) (ci := 5) (v := .ref (ad 24)) (C := RTb) (T := TTb) (N := 1) hx hb hts hinTb hown hK hW 23 b23 rfl 0 (by decide) hf9 (fun _ h9 => h9) rfl dTb_fill_1 ?_
  refine dq_alen hx hb hK hW 24 0 b24 rfl (v := nI len) rfl dTb_fill_4 ?_
  refine lv_iconst (v := (1)) hx hb dTb_fill_5 (by decide) ?_
  refine lv_iload_n hx hb dTb_fill_6 rfl (lv_at hl 2 rfl) ?_
  refine lv_ishl hx hb dTb_fill_7 ?_
  refine dq_top (y := nI (2 ^ hn)) (dq_sh1 hn (by omega)) ?_
  refine lv_icmp_ge (tgt := 20) hx hb dTb_fill_8 (by decide) (fun c1 => ?_) (fun c1 => ?_)
  · have hge : ¬ len < 2 ^ hn := by have q9 := (nI_leI (by omega) (by omega)).mp c1; omega
    refine W.widen (k := (if len < 2 ^ hn then 1 else 0)) (n := (if len < 2 ^ hn then 2 ^ hn else 0)) (Nat.zero_le _) (Nat.zero_le _) ?_
    exact j20 ad w len fw _ _ _ (fun _ _ => rfl) (fun _ _ _ => rfl) b23 b24 (if_neg hge).symm (if_neg hge).symm hW hS (lv_sub hl [0, 1, 2, 3] rfl)
  · have hlt : len < 2 ^ hn := by rcases Nat.lt_or_ge len (2 ^ hn) with q9 | q9; exact q9; exact absurd (nI_le q9 (by omega)) c1
    have hm1 : (if len < 2 ^ hn then 1 else 0) = 1 := if_pos hlt
    have hm2 : (if len < 2 ^ hn then 2 ^ hn else 0) = 2 ^ hn := if_pos hlt
    refine lv_aload_n hx hb dTb_fill_11 rfl (lv_at hl 0 rfl) ?_
    refine lv_iconst (v := (1)) hx hb dTb_fill_12 (by decide) ?_
    refine lv_iload_n hx hb dTb_fill_13 rfl (lv_at hl 2 rfl) ?_
    refine lv_ishl hx hb dTb_fill_14 ?_
    refine dq_top (y := nI (2 ^ hn)) (dq_sh1 hn (by omega)) ?_
    refine dq_newi (N := 2 ^ hn) hx hb (hts _ (List.mem_cons_of_mem _ tw1_68)) hK hW hS hA 24 0 rfl (nI_pos (by omega)) (nI_clamp (by omega)) (by omega) (by show 0 + 1 ≤ (if len < 2 ^ hn then 1 else 0); omega) (by show 0 + 2 ^ hn ≤ (if len < 2 ^ hn then 2 ^ hn else 0); omega) dTb_fill_15 (fun q9 H hW hS => ?_)
    have had : ∀ j, j ≠ 24 → va_up ad 24 q9 j = ad j := fun j h => va_up_ne _ _ h
    have h24 : va_up ad 24 q9 24 = q9 := va_up_self _ _ _
    generalize va_up ad 24 q9 = ad1 at hW had h24
    refine W.eq (g2 := F0 m 17 ls [.ref q9, .ref (ad1 23)]) (by rw [had 23 (by decide)]) ?_
    refine dq_put (D := D) (ci := 5) (v := .ref q9) (ty := (.array .int)) (C := RTb) (T := TTb) (N := 1) hx hb hts hinTb tyTb tyTb_ok nmTb hown hK hW hS 23 ((dq_Un (by decide)).trans b23) rfl 0 (by decide) hf9 (fun _ h9 => h9) rfl (by decide +kernel) rfl rfl (Nat.le_of_ble_eq_true rfl) dTb_fill_17 (fun H locs hW hS => ?_)
    refine W.widen (k := (if len < 2 ^ hn then 1 else 0)) (n := (if len < 2 ^ hn then 2 ^ hn else 0)) (by omega) (by omega) ?_
    exact j20 ad1 _ (2 ^ hn) (fun _ => 0) _ _ _ had (fun j h1 h2 => (dq_Un h1).trans (dq_Un h2)) (by rw [h24]; exact dq_Us) ((dq_Un (by decide)).trans dq_Us) (if_pos hlt).symm (if_pos hlt).symm hW hS (by rw [had 23 (by decide), had 17 (by decide)]; exact (lv_sub hl [0, 1, 2, 3] rfl))
end
section
/-! MIRRORS of the way -/
def mw_abs (x : Int32) : Int32 := if 0 ≤ x then x else 0 - x
def mw_d (hX hY : Nat → Int32) (k : Nat) (x y : Int32) : Int32 := mw_abs (hX k - x) + mw_abs (hY k - y)
theorem mw_ix {a b k c : Nat} (h1 : a < b) (h2 : k < c) : a * c + k < b * c := by
  have h3 : (a + 1) * c ≤ b * c := Nat.mul_le_mul_right c h1
  rw [Nat.succ_mul] at h3
  omega
def mw_o (sh hX hY : Nat → Int32) (hc k S : Nat) (x y : Int32) : Int32 := mw_d hX hY k x y + sh (dq_df S (2 ^ k) * hc + k)
/-- the hit to go to first, over the hits 0 .. k - 1: which, how far -/
def mw_nx (sh hX hY : Nat → Int32) (hc S : Nat) (x y : Int32) : Nat → Int32 × Int32
  | 0 => (-1, 0)
  | k + 1 => if S.testBit k = true then (if (mw_nx sh hX hY hc S x y k).1 = -1 ∨ mw_o sh hX hY hc k S x y < (mw_nx sh hX hY hc S x y k).2 then (nI k, mw_o sh hX hY hc k S x y) else mw_nx sh hX hY hc S x y k) else mw_nx sh hX hY hc S x y k
theorem mw_nx_in (sh hX hY : Nat → Int32) (hc S : Nat) (x y : Int32) (k : Nat) (hk : k ≤ 14) : ((mw_nx sh hX hY hc S x y k).1 = -1 ∧ ∀ i, i < k → S.testBit i = false) ∨ ∃ t, t < k ∧ S.testBit t = true ∧ (mw_nx sh hX hY hc S x y k).1 = nI t := by
  induction k with
  | zero => exact Or.inl ⟨rfl, fun i hi => absurd hi (by omega)⟩
  | succ k ih =>
    unfold mw_nx
    rcases ih (by omega) with ⟨h1, h2⟩ | ⟨t, h1, h2, h3⟩
    · by_cases hb : S.testBit k = true
      · rw [if_pos hb, if_pos (Or.inl h1)]
        exact Or.inr ⟨k, by omega, hb, rfl⟩
      · rw [if_neg hb]
        refine Or.inl ⟨h1, fun i hi => ?_⟩
        by_cases hik : i = k
        · rw [hik]; exact Bool.not_eq_true _ ▸ hb
        · exact h2 i (by omega)
    · by_cases hb : S.testBit k = true
      · rw [if_pos hb]
        split
        · exact Or.inr ⟨k, by omega, hb, rfl⟩
        · exact Or.inr ⟨t, by omega, h2, h3⟩
      · rw [if_neg hb]
        exact Or.inr ⟨t, by omega, h2, h3⟩
def mw_cell (sh hX hY : Nat → Int32) (hc S k : Nat) : Int32 := if (mw_nx sh hX hY hc S (hX k) (hY k) hc).1 = -1 then 0 else mw_o sh hX hY hc (mw_nx sh hX hY hc S (hX k) (hY k) hc).1.toNatClampNeg S (hX k) (hY k)
def mw_row (sh hX hY : Nat → Int32) (hc S : Nat) : Nat → Nat → Int32
  | 0 => sh
  | k + 1 => if S.testBit k = true then mw_row sh hX hY hc S k else upd (mw_row sh hX hY hc S k) (S * hc + k) (mw_cell (mw_row sh hX hY hc S k) hX hY hc S k)
def mw_fill (sh hX hY : Nat → Int32) (hc : Nat) : Nat → Nat → Int32
  | 0 => sh
  | S + 1 => mw_row (mw_fill sh hX hY hc S) hX hY hc S hc
/-- the order's first i hits: the row, the hits left, the place -/
def mw_tk (sh hX hY : Nat → Int32) (hc : Nat) (sq : Nat → Int32) : Nat → (Nat → Int32) × Nat × Int32 × Int32
  | 0 => (sq, 2 ^ hc - 1, 0, 0)
  | i + 1 =>
    let z := mw_tk sh hX hY hc sq i
    let nx := (mw_nx sh hX hY hc z.2.1 z.2.2.1 z.2.2.2 hc).1
    if nx = -1 then z else (upd z.1 i nx, dq_df z.2.1 (2 ^ nx.toNatClampNeg), hX nx.toNatClampNeg, hY nx.toNatClampNeg)
theorem mw_tk_stop {sh hX hY : Nat → Int32} {hc : Nat} {sq : Nat → Int32} {i : Nat} (h : (mw_nx sh hX hY hc (mw_tk sh hX hY hc sq i).2.1 (mw_tk sh hX hY hc sq i).2.2.1 (mw_tk sh hX hY hc sq i).2.2.2 hc).1 = -1) (d : Nat) : mw_tk sh hX hY hc sq (i + d) = mw_tk sh hX hY hc sq i := by
  induction d with
  | zero => rfl
  | succ d ih =>
    show (if (mw_nx sh hX hY hc (mw_tk sh hX hY hc sq (i + d)).2.1 (mw_tk sh hX hY hc sq (i + d)).2.2.1 (mw_tk sh hX hY hc sq (i + d)).2.2.2 hc).1 = -1 then mw_tk sh hX hY hc sq (i + d) else _) = _
    rw [ih, if_pos h]
def mw_own (sq : Nat → Int32) (k : Nat) : Nat → Int32 := fun j => if j < k then nI j else sq j
theorem mw_own_0 (sq : Nat → Int32) : mw_own sq 0 = sq := by
  funext j
  unfold mw_own
  rw [if_neg (by omega)]
theorem mw_own_s (sq : Nat → Int32) (k : Nat) : upd (mw_own sq k) k (nI k) = mw_own sq (k + 1) := by
  funext j
  by_cases h : j = k
  · subst h
    rw [pk_us]
    unfold mw_own
    rw [if_pos (by omega)]
  · rw [pk_un h]
    unfold mw_own
    by_cases h2 : j < k
    · rw [if_pos h2, if_pos (by omega)]
    · rw [if_neg h2, if_neg (by omega)]
/-- the way's length over the first i hits, and the place then -/
def mw_len (hX hY : Nat → Int32) (sN : Nat → Nat) : Nat → Int64 × Int32 × Int32
  | 0 => (0, 0, 0)
  | i + 1 => ((mw_len hX hY sN i).1 + (mw_d hX hY (sN i) (mw_len hX hY sN i).2.1 (mw_len hX hY sN i).2.2).toInt64, hX (sN i), hY (sN i))
set_option maxHeartbeats 4000000 in
set_option maxRecDepth 100000 in
/-- Way.distance -/
theorem c_Way_distance (l : Launch) (D : va_G) (g : Nat → ClassId) (ad : Nat → Nat) (w : Nat → Option va_E) (sz : Nat) (hX hY : Nat → Int32) (hc : Nat) (k : Nat) (a0 a1 : Int32) (t18 : w 18 = some (.inr (2, [.ref (ad 19), .ref (ad 20), .ref (ad 21), .ref (ad 22), .int (nI hc)]))) (t19 : w 19 = some (.inl (g 0, 14, .inl hX))) (t20 : w 20 = some (.inl (g 0, 14, .inl hY))) (hk : k < 14) : Met l yWy_distance wsWy_distance ({ frames := 1, cells := 0, slots := 0, locals := 24 } : Room) (va_Pc [.ref (ad 18), .int (nI k), .int a0, .int a1] (dq_S D vwCl (dq_t g) ad w sz)) (va_Qi (fun r u => r = mw_d hX hY k a0 a1 ∧ u = w) (dq_B D vwCl (dq_t g) ad (dq_A ad w sz)) (dq_A ad w sz)) 0 0 (dq_A ad w sz) := by
  refine dq_ofi (cc := cWy_distance) (maxL := 4) (by decide) rfl (Nat.le_of_ble_eq_true rfl) ?_
  intro p e s m below meth c A Q ls ⟨hx, hb, hml, hown, hts⟩ hnm hA hW hK hZ hl hret
  have hS : va_S A s.heap s.heap [] := va_S.rf
  have hl : lv_has ls 4 [(0, .ref (ad 18)), (1, .int (nI k)), (2, .int a0), (3, .int a1)] := hl
  have hf41 := hts _ (List.mem_cons_of_mem _ tw1_163)
  have hf44 := hts _ (List.mem_cons_of_mem _ tw1_166)
  have hinHt : ∀ w ∈ u_ws RHt THt 5, w ∈ wsWy_distance := fun w h => List.mem_cons_of_mem _ (inHt w h)
  refine lv_aload_n hx hb dWy_distance_0 rfl (lv_at hl 0 rfl) ?_
  refine dq_get (D := D) (ci := 2) (v := .ref (ad 19)) (C := RHt) (T := THt) (N := 5) hx hb hts hinHt hown hK hW 18 t18 rfl 0 (by decide) hf41 (fun _ h9 => h9) rfl dWy_distance_1 ?_
  refine lv_iload_n hx hb dWy_distance_4 rfl (lv_at hl 1 rfl) ?_
  refine dq_ialdN hx hb hK hW 19 0 t19 rfl k (by omega) (by omega) dWy_distance_5 ?_
  refine lv_iload_n hx hb dWy_distance_6 rfl (lv_at hl 2 rfl) ?_
  refine lv_isub hx hb dWy_distance_7 ?_
  refine va_mabs hx hb (by rw [hml]; exact hl.1.symm) hown (hts _ (List.mem_cons_of_mem _ tw2_98)) (hts _ (List.mem_cons_of_mem _ tw2_99)) (hts _ (List.mem_cons_of_mem _ tw1_3)) (hts _ (List.mem_cons_of_mem _ tw2_100)) (Nat.le_of_ble_eq_true rfl) (Nat.le_of_ble_eq_true rfl) (Nat.zero_le _) (Nat.zero_le _) dWy_distance_8 ?_
  refine dq_top (y := mw_abs (hX k - a0)) rfl ?_
  refine lv_aload_n hx hb dWy_distance_11 rfl (lv_at hl 0 rfl) ?_
  refine dq_get (D := D) (ci := 2) (v := .ref (ad 20)) (C := RHt) (T := THt) (N := 5) hx hb hts hinHt hown hK hW 18 t18 rfl 1 (by decide) hf44 (fun _ h9 => h9) rfl dWy_distance_12 ?_
  refine lv_iload_n hx hb dWy_distance_15 rfl (lv_at hl 1 rfl) ?_
  refine dq_ialdN hx hb hK hW 20 0 t20 rfl k (by omega) (by omega) dWy_distance_16 ?_
  refine lv_iload_n hx hb dWy_distance_17 rfl (lv_at hl 3 rfl) ?_
  refine lv_isub hx hb dWy_distance_18 ?_
  refine va_mabs hx hb (by rw [hml]; exact hl.1.symm) hown (hts _ (List.mem_cons_of_mem _ tw2_98)) (hts _ (List.mem_cons_of_mem _ tw2_99)) (hts _ (List.mem_cons_of_mem _ tw1_3)) (hts _ (List.mem_cons_of_mem _ tw2_100)) (Nat.le_of_ble_eq_true rfl) (Nat.le_of_ble_eq_true rfl) (Nat.zero_le _) (Nat.zero_le _) dWy_distance_19 ?_
  refine dq_top (y := mw_abs (hY k - a1)) rfl ?_
  refine lv_iadd hx hb dWy_distance_22 ?_
  exact hret _ _ _ _ _ _ ⟨rfl, rfl⟩ hW hS dWy_distance_23
set_option maxHeartbeats 4000000 in
set_option maxRecDepth 100000 in
/-- Way.wayOver -/
theorem c_Way_wayOver (l : Launch) (D : va_G) (g : Nat → ClassId) (ad : Nat → Nat) (w : Nat → Option va_E) (sz : Nat) (hX hY : Nat → Int32) (hc : Nat) (wl : Int64) (sq sh : Nat → Int32) (sl : Nat) (k S : Nat) (a0 a1 : Int32) (t18 : w 18 = some (.inr (2, [.ref (ad 19), .ref (ad 20), .ref (ad 21), .ref (ad 22), .int (nI hc)]))) (t19 : w 19 = some (.inl (g 0, 14, .inl hX))) (t20 : w 20 = some (.inl (g 0, 14, .inl hY))) (y25 : w 25 = some (.inr (6, [.ref (ad 26), .long wl, .ref (ad 27)]))) (y27 : w 27 = some (.inl (g 0, sl, .inl sh))) (hk : k < hc) (hc10 : hc ≤ 10) (hS9 : S < 2 ^ hc) (hsl : 2 ^ hc * hc ≤ sl) (hsl2 : sl ≤ 10240) : Met l yWy_wayOver wsWy_wayOver ({ frames := 2, cells := 0, slots := 0, locals := 50 } : Room) (va_Pc [.ref (ad 25), .ref (ad 18), .int (nI k), .int (nI S), .int a0, .int a1] (dq_S D vwCl (dq_t g) ad w sz)) (va_Qi (fun r u => r = mw_o sh hX hY hc k S a0 a1 ∧ u = w) (dq_B D vwCl (dq_t g) ad (dq_A ad w sz)) (dq_A ad w sz)) 0 0 (dq_A ad w sz) := by
  refine dq_ofi (cc := cWy_wayOver) (maxL := 6) (by decide) rfl (Nat.le_of_ble_eq_true rfl) ?_
  intro p e s m below meth c A Q ls ⟨hx, hb, hml, hown, hts⟩ hnm hA hW hK hZ hl hret
  have hS : va_S A s.heap s.heap [] := va_S.rf
  have hl : lv_has ls 6 [(0, .ref (ad 25)), (1, .ref (ad 18)), (2, .int (nI k)), (3, .int (nI S)), (4, .int a0), (5, .int a1)] := hl
  have hf15 := hts _ (List.mem_cons_of_mem _ tw1_206)
  have hf18 := hts _ (List.mem_cons_of_mem _ tw1_173)
  have hinHt : ∀ w ∈ u_ws RHt THt 5, w ∈ wsWy_wayOver := fun w h => List.mem_cons_of_mem _ (inHt w h)
  have hinWy : ∀ w ∈ u_ws RWy TWy 3, w ∈ wsWy_wayOver := fun w h => List.mem_cons_of_mem _ (inWy w h)
  refine lv_aload_n hx hb dWy_wayOver_0 rfl (lv_at hl 1 rfl) ?_
  refine lv_iload_n hx hb dWy_wayOver_1 rfl (lv_at hl 2 rfl) ?_
  refine lv_iload hx hb dWy_wayOver_2 (lv_at hl 4 rfl) ?_
  refine lv_iload hx hb dWy_wayOver_4 (lv_at hl 5 rfl) ?_
  refine dq_calli (va_runS (As := [.ref (ad 18), .int (nI k), .int a0, .int a1]) (rest := []) ⟨hx, hb, hml, hown, hts⟩ (c_Way_distance l D g ad (w) _ hX hY hc k a0 a1 t18 t19 t20 (by omega)) (cwS 4 hts (dq_giS2 tw2_95 tw2_96 tw1_9 tw2_97) rfl rfl rfl (by decide +kernel) ⟨Nat.le_of_ble_eq_true rfl, Nat.le_of_ble_eq_true rfl⟩) (dq_preS hW hS hA hK hZ) rfl rfl hl.1 rfl (lv_room (Nat.le_of_ble_eq_true rfl)) dWy_wayOver_6 ⟨Nat.zero_le _, Nat.zero_le _⟩) hW hS hA (fun r1 u_9 H locs hp1 hW hS hz9 => ?_)
  obtain ⟨hr1, hu9⟩ := hp1
  rw [hu9] at hW
  subst hr1
  refine lv_aload_n hx hb dWy_wayOver_9 rfl (lv_at hl 0 rfl) ?_
  refine dq_get (D := D) (ci := 6) (v := .ref (ad 27)) (C := RWy) (T := TWy) (N := 3) hx hb hts hinWy hown hK hW 25 y25 rfl 2 (by decide) hf15 (fun _ h9 => h9) rfl dWy_wayOver_10 ?_
  refine lv_iload_n hx hb dWy_wayOver_13 rfl (lv_at hl 3 rfl) ?_
  refine lv_iload_n hx hb dWy_wayOver_14 rfl (lv_at hl 2 rfl) ?_
  refine dq_calli (va_runSN (As := [.int (nI S), .int (nI k)]) (rest := [.ref (ad 27), .int (mw_d hX hY k a0 a1)]) ⟨hx, hb, hml, hown, hts⟩ (c_without l D g ad (w) _ S k  (by omega)) ⟨va_cnB 2 hts (dq_gi tw2_103) rfl rfl rfl (hZ.n8) (hts _ (List.mem_cons_of_mem _ tw1_1)) (by decide +kernel) ⟨Nat.le_of_ble_eq_true rfl, Nat.le_of_ble_eq_true rfl⟩, (hts _ (List.mem_cons_of_mem _ tw2_102)), trivial⟩ (dq_preS hW hS hA hK hZ) rfl rfl hl.1 rfl (lv_room (Nat.le_of_ble_eq_true rfl)) dWy_wayOver_15 ⟨Nat.zero_le _, Nat.zero_le _⟩) hW hS hA (fun r2 u_9 H locs hp2 hW hS hz9 => ?_)
  obtain ⟨hr2, hu9⟩ := hp2
  rw [hu9] at hW
  subst hr2
  refine lv_aload_n hx hb dWy_wayOver_18 rfl (lv_at hl 1 rfl) ?_
  refine dq_get (D := D) (ci := 2) (v := .int (nI hc)) (C := RHt) (T := THt) (N := 5) hx hb hts hinHt hown hK hW 18 t18 rfl 4 (by decide) hf18 (fun _ h9 => h9) rfl dWy_wayOver_19 ?_
  refine lv_imul hx hb dWy_wayOver_22 ?_
  refine dq_top (y := nI (dq_df S (2 ^ k) * hc)) (pk_mul _ _) ?_
  refine lv_iload_n hx hb dWy_wayOver_23 rfl (lv_at hl 2 rfl) ?_
  refine lv_iadd hx hb dWy_wayOver_24 ?_
  refine dq_top (y := nI (dq_df S (2 ^ k) * hc + k)) (nI_add _ _) ?_
  refine dq_ialdN hx hb hK hW 27 0 y27 rfl (dq_df S (2 ^ k) * hc + k) (Nat.lt_of_lt_of_le (mw_ix (Nat.lt_of_le_of_lt (dq_df_le _ _) hS9) hk) hsl) (by omega) dWy_wayOver_25 ?_
  refine lv_iadd hx hb dWy_wayOver_26 ?_
  exact hret _ _ _ _ _ _ ⟨rfl, rfl⟩ hW hS dWy_wayOver_27
set_option maxHeartbeats 4000000 in
set_option maxRecDepth 100000 in
/-- Way.nextHit -/
theorem c_Way_nextHit (l : Launch) (D : va_G) (g : Nat → ClassId) (ad : Nat → Nat) (w : Nat → Option va_E) (sz : Nat) (hX hY : Nat → Int32) (hc : Nat) (wl : Int64) (sq sh : Nat → Int32) (sl : Nat) (S : Nat) (a0 a1 : Int32) (t18 : w 18 = some (.inr (2, [.ref (ad 19), .ref (ad 20), .ref (ad 21), .ref (ad 22), .int (nI hc)]))) (t19 : w 19 = some (.inl (g 0, 14, .inl hX))) (t20 : w 20 = some (.inl (g 0, 14, .inl hY))) (y25 : w 25 = some (.inr (6, [.ref (ad 26), .long wl, .ref (ad 27)]))) (y27 : w 27 = some (.inl (g 0, sl, .inl sh))) (hc10 : hc ≤ 10) (hS9 : S < 2 ^ hc) (hsl : 2 ^ hc * hc ≤ sl) (hsl2 : sl ≤ 10240) : Met l yWy_nextHit wsWy_nextHit ({ frames := 3, cells := 0, slots := 0, locals := 80 } : Room) (va_Pc [.ref (ad 25), .ref (ad 18), .int (nI S), .int a0, .int a1] (dq_S D vwCl (dq_t g) ad w sz)) (va_Qi (fun r u => r = (mw_nx sh hX hY hc S a0 a1 hc).1 ∧ u = w) (dq_B D vwCl (dq_t g) ad (dq_A ad w sz)) (dq_A ad w sz)) 0 0 (dq_A ad w sz) := by
  refine dq_ofi (cc := cWy_nextHit) (maxL := 9) (by decide) rfl (Nat.le_of_ble_eq_true rfl) ?_
  intro p e s m below meth c A Q ls ⟨hx, hb, hml, hown, hts⟩ hnm hA hW hK hZ hl hret
  have hS : va_S A s.heap s.heap [] := va_S.rf
  have hl : lv_has ls 9 [(0, .ref (ad 25)), (1, .ref (ad 18)), (2, .int (nI S)), (3, .int a0), (4, .int a1)] := hl
  have hf18 := hts _ (List.mem_cons_of_mem _ tw1_173)
  have hinHt : ∀ w ∈ u_ws RHt THt 5, w ∈ wsWy_nextHit := fun w h => List.mem_cons_of_mem _ (inHt w h)
  have hp9 : 2 ^ hc ≤ 1024 := Nat.le_trans (Nat.pow_le_pow_right (by omega) hc10) (Nat.le_refl 1024)
  refine lv_iconst (v := (-1)) hx hb dWy_nextHit_0 (by decide) ?_
  refine lv_istore (lv' := [(5, .int (-1)), (0, .ref (ad 25)), (1, .ref (ad 18)), (2, .int (nI S)), (3, .int a0), (4, .int a1)]) hx hb dWy_nextHit_1 hl (by decide) rfl (fun ls hl => ?_)
  refine lv_iconst (v := (0)) hx hb dWy_nextHit_3 (by decide) ?_
  refine lv_istore (lv' := [(6, .int (0)), (5, .int (-1)), (0, .ref (ad 25)), (1, .ref (ad 18)), (2, .int (nI S)), (3, .int a0), (4, .int a1)]) hx hb dWy_nextHit_4 hl (by decide) rfl (fun ls hl => ?_)
  refine lv_iconst (v := (nI 0)) hx hb dWy_nextHit_6 (by decide) ?_
  refine lv_istore (lv' := [(7, .int (nI 0)), (6, .int (0)), (5, .int (-1)), (0, .ref (ad 25)), (1, .ref (ad 18)), (2, .int (nI S)), (3, .int a0), (4, .int a1)]) hx hb dWy_nextHit_7 hl (by decide) rfl (fun ls hl => ?_)
  have loop : ∀ (j : Nat) (k : Nat) (H : Heap) (locs : List Loc) (ls : Array Slot), hc < k + j → k ≤ hc → dq_W D vwCl ad (w) A H → va_S A s.heap H locs → lv_has ls 9 [(0, .ref (ad 25)), (1, .ref (ad 18)), (2, .int (nI S)), (3, .int a0), (4, .int a1), (5, .int (mw_nx sh hX hY hc S a0 a1 k).1), (6, .int (mw_nx sh hX hY hc S a0 a1 k).2), (7, .int (nI k))] → W p l e ({ frames := 3, cells := 0, slots := 0, locals := 80 } : Room) s m ([.ref (ad 25), .ref (ad 18), .int (nI S), .int a0, .int a1] : List Value).toArray below meth c H locs 0 0 Q (F0 m 9 ls []) := by
    intro j
    induction j with
    | zero => intro k H locs ls hj hk hW hS hl; exact absurd hj (by omega)
    | succ j ih =>
      intro k H locs ls hj hk hW hS hl
      refine lv_iload hx hb dWy_nextHit_9 (lv_at hl 7 rfl) ?_
      refine lv_aload_n hx hb dWy_nextHit_11 rfl (lv_at hl 1 rfl) ?_
      refine dq_get (D := D) (ci := 2) (v := .int (nI hc)) (C := RHt) (T := THt) (N := 5) hx hb hts hinHt hown hK hW 18 t18 rfl 4 (by decide) hf18 (fun _ h9 => h9) rfl dWy_nextHit_12 ?_
      refine lv_icmp_ge (tgt := 67) hx hb dWy_nextHit_15 (by decide) (fun c1 => ?_) (fun c1 => ?_)
      · have hkn : k = hc := by have q := (nI_leI (by omega) (by omega)).mp c1; omega
        refine lv_iload hx hb dWy_nextHit_67 (lv_at hl 5 rfl) ?_
        exact hret _ _ _ _ _ _ ⟨by rw [hkn], rfl⟩ hW hS dWy_nextHit_69
      · have hkn : k < hc := by rcases Nat.lt_or_ge k hc with q | q; exact q; exact absurd (nI_le q (by omega)) c1
        refine lv_iload_n hx hb dWy_nextHit_18 rfl (lv_at hl 2 rfl) ?_
        refine lv_iload hx hb dWy_nextHit_19 (lv_at hl 7 rfl) ?_
        refine dq_calli (va_runSN (As := [.int (nI S), .int (nI k)]) (rest := []) ⟨hx, hb, hml, hown, hts⟩ (c_holds l D g ad (w) _ S k  (by omega) (by omega)) ⟨va_cnB 2 hts (dq_gi tw2_86) rfl rfl rfl (hZ.n7) (hts _ (List.mem_cons_of_mem _ tw1_1)) (by decide +kernel) ⟨Nat.le_of_ble_eq_true rfl, Nat.le_of_ble_eq_true rfl⟩, (hts _ (List.mem_cons_of_mem _ tw2_85)), trivial⟩ (dq_preS hW hS hA hK hZ) rfl rfl hl.1 rfl (lv_room (Nat.le_of_ble_eq_true rfl)) dWy_nextHit_21 ⟨Nat.zero_le _, Nat.zero_le _⟩) hW hS hA (fun r1 u_9 H locs hp1 hW hS hz9 => ?_)
        obtain ⟨hr1, hu9⟩ := hp1
        rw [hu9] at hW
        refine lv_if_eq (tgt := 61) hx hb dWy_nextHit_24 (by decide) (fun c2 => ?_) (fun c2 => ?_)
        · have e5 : (mw_nx sh hX hY hc S a0 a1 (k + 1)) = (mw_nx sh hX hY hc S a0 a1 k) := if_neg (by rw [dq_b_f (b := S.testBit k) (by rw [← hr1]; exact c2)]; decide)
          refine lv_iinc (v := (nI (k + 1))) (lv' := [(7, .int (nI (k + 1))), (0, .ref (ad 25)), (1, .ref (ad 18)), (2, .int (nI S)), (3, .int a0), (4, .int a1), (5, .int (mw_nx sh hX hY hc S a0 a1 k).1), (6, .int (mw_nx sh hX hY hc S a0 a1 k).2)]) hx hb dWy_nextHit_61 hl (k := 7) rfl (by show nI k + 1 = _; exact nI_1 _) (by decide) rfl (fun ls hl => ?_)
          refine lv_goto (tgt := 9) hx hb dWy_nextHit_64 (by decide) ?_
          exact ih (k + 1) _ _ _ (by omega) (by omega) hW hS (by rw [e5]; exact (lv_sub hl [1, 2, 3, 4, 5, 6, 7, 0] rfl))
        · have hbt : S.testBit k = true := dq_b_t (by rw [← hr1]; exact c2)
          refine lv_aload_n hx hb dWy_nextHit_27 rfl (lv_at hl 0 rfl) ?_
          refine lv_aload_n hx hb dWy_nextHit_28 rfl (lv_at hl 1 rfl) ?_
          refine lv_iload hx hb dWy_nextHit_29 (lv_at hl 7 rfl) ?_
          refine lv_iload_n hx hb dWy_nextHit_31 rfl (lv_at hl 2 rfl) ?_
          refine lv_iload_n hx hb dWy_nextHit_32 rfl (lv_at hl 3 rfl) ?_
          refine lv_iload hx hb dWy_nextHit_33 (lv_at hl 4 rfl) ?_
          refine dq_calli (va_runV (As := [.ref (ad 18), .int (nI k), .int (nI S), .int a0, .int a1]) (rest := []) ⟨hx, hb, hml, hown, hts⟩ (c_Way_wayOver l D g ad (w) _ hX hY hc wl sq sh sl k S a0 a1 t18 t19 t20 y25 y27 hkn hc10 hS9 hsl hsl2) (cwV 5 hts (dq_giV tw2_91 tw2_93 twp_7 tw1_9 tw2_94) rfl rfl rfl (by decide +kernel) ⟨Nat.le_of_ble_eq_true rfl, Nat.le_of_ble_eq_true rfl⟩) (dq_preV (ci := 6) hW hS hA hK hZ y25 rfl rfl) rfl rfl hl.1 rfl (lv_room (Nat.le_of_ble_eq_true rfl)) dWy_nextHit_35 ⟨Nat.zero_le _, Nat.zero_le _⟩) hW hS hA (fun r2 u_9 H locs hp2 hW hS hz9 => ?_)
          obtain ⟨hr2, hu9⟩ := hp2
          rw [hu9] at hW
          subst hr2
          refine lv_istore (lv' := [(8, .int (mw_o sh hX hY hc k S a0 a1)), (0, .ref (ad 25)), (1, .ref (ad 18)), (2, .int (nI S)), (3, .int a0), (4, .int a1), (5, .int (mw_nx sh hX hY hc S a0 a1 k).1), (6, .int (mw_nx sh hX hY hc S a0 a1 k).2), (7, .int (nI k))]) hx hb dWy_nextHit_38 hl (by decide) rfl (fun ls hl => ?_)
          refine lv_iload hx hb dWy_nextHit_40 (lv_at hl 6 rfl) ?_
          refine lv_iconst (v := (-1)) hx hb dWy_nextHit_42 (by decide) ?_
          refine lv_icmp_eq (tgt := 53) hx hb dWy_nextHit_43 (by decide) (fun c3 => ?_) (fun c3 => ?_)
          · have e5 : (mw_nx sh hX hY hc S a0 a1 (k + 1)) = (nI k, (mw_o sh hX hY hc k S a0 a1)) := by show (if _ then (if _ then _ else _) else _) = _; rw [if_pos hbt, if_pos (Or.inl c3)]
            refine lv_iload hx hb dWy_nextHit_53 (lv_at hl 8 rfl) ?_
            refine lv_istore (lv' := [(5, .int (nI k)), (8, .int (mw_o sh hX hY hc k S a0 a1)), (0, .ref (ad 25)), (1, .ref (ad 18)), (2, .int (nI S)), (3, .int a0), (4, .int a1), (6, .int (mw_nx sh hX hY hc S a0 a1 k).2), (7, .int (nI k))]) hx hb dWy_nextHit_55 hl (by decide) rfl (fun ls hl => ?_)
            refine lv_iload hx hb dWy_nextHit_57 (lv_at hl 1 rfl) ?_
            refine lv_istore (lv' := [(6, .int (mw_o sh hX hY hc k S a0 a1)), (5, .int (nI k)), (8, .int (mw_o sh hX hY hc k S a0 a1)), (0, .ref (ad 25)), (1, .ref (ad 18)), (2, .int (nI S)), (3, .int a0), (4, .int a1), (7, .int (nI k))]) hx hb dWy_nextHit_59 hl (by decide) rfl (fun ls hl => ?_)
            refine lv_iinc (v := (nI (k + 1))) (lv' := [(7, .int (nI (k + 1))), (6, .int (mw_o sh hX hY hc k S a0 a1)), (5, .int (nI k)), (8, .int (mw_o sh hX hY hc k S a0 a1)), (0, .ref (ad 25)), (1, .ref (ad 18)), (2, .int (nI S)), (3, .int a0), (4, .int a1)]) hx hb dWy_nextHit_61 hl (k := 8) rfl (by show nI k + 1 = _; exact nI_1 _) (by decide) rfl (fun ls hl => ?_)
            refine lv_goto (tgt := 9) hx hb dWy_nextHit_64 (by decide) ?_
            exact ih (k + 1) _ _ _ (by omega) (by omega) hW hS (by rw [e5]; exact (lv_sub hl [4, 5, 6, 7, 8, 2, 1, 0] rfl))
          · refine lv_iload hx hb dWy_nextHit_46 (lv_at hl 0 rfl) ?_
            refine lv_iload hx hb dWy_nextHit_48 (lv_at hl 7 rfl) ?_
            refine lv_icmp_ge (tgt := 61) hx hb dWy_nextHit_50 (by decide) (fun c4 => ?_) (fun c4 => ?_)
            · have e5 : (mw_nx sh hX hY hc S a0 a1 (k + 1)) = (mw_nx sh hX hY hc S a0 a1 k) := by show (if _ then (if _ then _ else _) else _) = _; rw [if_pos hbt, if_neg (fun h9 => h9.elim c3 (fun h8 => absurd c4 (Int32.not_le.mpr h8)))]
              refine lv_iinc (v := (nI (k + 1))) (lv' := [(7, .int (nI (k + 1))), (8, .int (mw_o sh hX hY hc k S a0 a1)), (0, .ref (ad 25)), (1, .ref (ad 18)), (2, .int (nI S)), (3, .int a0), (4, .int a1), (5, .int (mw_nx sh hX hY hc S a0 a1 k).1), (6, .int (mw_nx sh hX hY hc S a0 a1 k).2)]) hx hb dWy_nextHit_61 hl (k := 8) rfl (by show nI k + 1 = _; exact nI_1 _) (by decide) rfl (fun ls hl => ?_)
              refine lv_goto (tgt := 9) hx hb dWy_nextHit_64 (by decide) ?_
              exact ih (k + 1) _ _ _ (by omega) (by omega) hW hS (by rw [e5]; exact (lv_sub hl [2, 3, 4, 5, 6, 7, 8, 0] rfl))
            · have e5 : (mw_nx sh hX hY hc S a0 a1 (k + 1)) = (nI k, (mw_o sh hX hY hc k S a0 a1)) := by show (if _ then (if _ then _ else _) else _) = _; rw [if_pos hbt, if_pos (Or.inr (Int32.not_le.mp c4))]
              refine lv_iload hx hb dWy_nextHit_53 (lv_at hl 8 rfl) ?_
              refine lv_istore (lv' := [(5, .int (nI k)), (8, .int (mw_o sh hX hY hc k S a0 a1)), (0, .ref (ad 25)), (1, .ref (ad 18)), (2, .int (nI S)), (3, .int a0), (4, .int a1), (6, .int (mw_nx sh hX hY hc S a0 a1 k).2), (7, .int (nI k))]) hx hb dWy_nextHit_55 hl (by decide) rfl (fun ls hl => ?_)
              refine lv_iload hx hb dWy_nextHit_57 (lv_at hl 1 rfl) ?_
              refine lv_istore (lv' := [(6, .int (mw_o sh hX hY hc k S a0 a1)), (5, .int (nI k)), (8, .int (mw_o sh hX hY hc k S a0 a1)), (0, .ref (ad 25)), (1, .ref (ad 18)), (2, .int (nI S)), (3, .int a0), (4, .int a1), (7, .int (nI k))]) hx hb dWy_nextHit_59 hl (by decide) rfl (fun ls hl => ?_)
              refine lv_iinc (v := (nI (k + 1))) (lv' := [(7, .int (nI (k + 1))), (6, .int (mw_o sh hX hY hc k S a0 a1)), (5, .int (nI k)), (8, .int (mw_o sh hX hY hc k S a0 a1)), (0, .ref (ad 25)), (1, .ref (ad 18)), (2, .int (nI S)), (3, .int a0), (4, .int a1)]) hx hb dWy_nextHit_61 hl (k := 8) rfl (by show nI k + 1 = _; exact nI_1 _) (by decide) rfl (fun ls hl => ?_)
              refine lv_goto (tgt := 9) hx hb dWy_nextHit_64 (by decide) ?_
              exact ih (k + 1) _ _ _ (by omega) (by omega) hW hS (by rw [e5]; exact (lv_sub hl [4, 5, 6, 7, 8, 2, 1, 0] rfl))
  exact loop (hc + 1) 0 _ _ _ (by omega) (Nat.zero_le _) hW hS (lv_sub hl [3, 4, 5, 6, 7, 2, 1, 0] rfl)
set_option maxHeartbeats 4000000 in
set_option maxRecDepth 100000 in
/-- Way.takeOwnOrder -/
theorem c_Way_takeOwn (l : Launch) (D : va_G) (g : Nat → ClassId) (ad : Nat → Nat) (w : Nat → Option va_E) (sz : Nat) (hc : Nat) (wl : Int64) (sq sh : Nat → Int32) (sl : Nat) (t18 : w 18 = some (.inr (2, [.ref (ad 19), .ref (ad 20), .ref (ad 21), .ref (ad 22), .int (nI hc)]))) (y25 : w 25 = some (.inr (6, [.ref (ad 26), .long wl, .ref (ad 27)]))) (y26 : w 26 = some (.inl (g 0, 14, .inl sq))) (hc14 : hc ≤ 14) : Met l yWy_takeOwnOrder wsWy_takeOwnOrder ({ frames := 0, cells := 0, slots := 0, locals := 0 } : Room) (va_Pc [.ref (ad 25), .ref (ad 18)] (dq_S D vwCl (dq_t g) ad w sz)) (va_Qv (fun u => u = dq_U w 26 (.inl (g 0, 14, .inl (mw_own sq hc)))) (dq_B D vwCl (dq_t g) ad (dq_A ad w sz)) (dq_A ad w sz)) 0 0 (dq_A ad w sz) := by
  refine dq_ofv (cc := cWy_takeOwnOrder) (maxL := 3) (by decide) rfl (Nat.le_of_ble_eq_true rfl) ?_
  intro p e s m below meth c A Q ls ⟨hx, hb, hml, hown, hts⟩ hnm hA hW hK hZ hl hret
  have hS : va_S A s.heap s.heap [] := va_S.rf
  have hl : lv_has ls 3 [(0, .ref (ad 25)), (1, .ref (ad 18))] := hl
  have hf9 := hts _ (List.mem_cons_of_mem _ tw1_202)
  have hf18 := hts _ (List.mem_cons_of_mem _ tw1_173)
  have hinHt : ∀ w ∈ u_ws RHt THt 5, w ∈ wsWy_takeOwnOrder := fun w h => List.mem_cons_of_mem _ (inHt w h)
  have hinWy : ∀ w ∈ u_ws RWy TWy 3, w ∈ wsWy_takeOwnOrder := fun w h => List.mem_cons_of_mem _ (inWy w h)
  refine lv_iconst (v := (nI 0)) hx hb dWy_takeOwnOrder_0 (by decide) ?_
  refine lv_istore_n (lv' := [(2, .int (nI 0)), (0, .ref (ad 25)), (1, .ref (ad 18))]) hx hb dWy_takeOwnOrder_1 rfl hl (by decide) rfl (fun ls hl => ?_)
  have loop : ∀ (j : Nat) (k : Nat) (H : Heap) (locs : List Loc) (ls : Array Slot), hc < k + j → k ≤ hc → dq_W D vwCl ad (dq_U w 26 (.inl (g 0, 14, .inl (mw_own sq k)))) A H → va_S A s.heap H locs → lv_has ls 3 [(0, .ref (ad 25)), (1, .ref (ad 18)), (2, .int (nI k))] → W p l e ({ frames := 0, cells := 0, slots := 0, locals := 0 } : Room) s m ([.ref (ad 25), .ref (ad 18)] : List Value).toArray below meth c H locs 0 0 Q (F0 m 2 ls []) := by
    intro j
    induction j with
    | zero => intro k H locs ls hj hk hW hS hl; exact absurd hj (by omega)
    | succ j ih =>
      intro k H locs ls hj hk hW hS hl
      refine lv_iload_n hx hb dWy_takeOwnOrder_2 rfl (lv_at hl 2 rfl) ?_
      refine lv_aload_n hx hb dWy_takeOwnOrder_3 rfl (lv_at hl 1 rfl) ?_
      refine dq_get (D := D) (ci := 2) (v := .int (nI hc)) (C := RHt) (T := THt) (N := 5) hx hb hts hinHt hown hK hW 18 ((dq_Un (by decide)).trans t18) rfl 4 (by decide) hf18 (fun _ h9 => h9) rfl dWy_takeOwnOrder_4 ?_
      refine lv_icmp_ge (tgt := 23) hx hb dWy_takeOwnOrder_7 (by decide) (fun c1 => ?_) (fun c1 => ?_)
      · have hkn : hc = k := by have q9 := (nI_leI (by omega) (by omega)).mp c1; omega
        subst hkn
        exact hret _ _ _ _ _ rfl hW hS dWy_takeOwnOrder_23
      · have hkn : k < hc := by rcases Nat.lt_or_ge k hc with q | q; exact q; exact absurd (nI_le q (by omega)) c1
        refine lv_aload_n hx hb dWy_takeOwnOrder_10 rfl (lv_at hl 0 rfl) ?_
        refine dq_get (D := D) (ci := 6) (v := .ref (ad 26)) (C := RWy) (T := TWy) (N := 3) hx hb hts hinWy hown hK hW 25 ((dq_Un (by decide)).trans y25) rfl 0 (by decide) hf9 (fun _ h9 => h9) rfl dWy_takeOwnOrder_11 ?_
        refine lv_iload_n hx hb dWy_takeOwnOrder_14 rfl (lv_at hl 2 rfl) ?_
        refine lv_iload_n hx hb dWy_takeOwnOrder_15 rfl (lv_at hl 2 rfl) ?_
        refine dq_iastN hx hb hK hW hS 26 0 dq_Us rfl k (by omega) (by omega) dWy_takeOwnOrder_16 (fun H locs hW hS => ?_)
        rw [dq_UU] at hW
        refine lv_iinc (v := (nI (k + 1))) (lv' := [(2, .int (nI (k + 1))), (0, .ref (ad 25)), (1, .ref (ad 18))]) hx hb dWy_takeOwnOrder_17 hl (k := 2) rfl (by show nI k + 1 = _; exact nI_1 _) (by decide) rfl (fun ls hl => ?_)
        refine lv_goto (tgt := 2) hx hb dWy_takeOwnOrder_20 (by decide) ?_
        exact ih (k + 1) _ _ _ (by omega) (by omega) (by rw [← mw_own_s]; exact hW) hS (lv_sub hl [1, 2, 0] rfl)
  exact loop (hc + 1) 0 _ _ _ (by omega) (Nat.zero_le _) (dq_Wc (by rw [mw_own_0, dq_Uid y26]) hW) hS (lv_sub hl [1, 2, 0] rfl)
set_option maxHeartbeats 4000000 in
set_option maxRecDepth 100000 in
/-- Way.measure -/
theorem c_Way_measure (l : Launch) (D : va_G) (g : Nat → ClassId) (ad : Nat → Nat) (w : Nat → Option va_E) (sz : Nat) (hX hY : Nat → Int32) (hc : Nat) (wl : Int64) (sq sh : Nat → Int32) (sl : Nat) (sN : Nat → Nat) (t18 : w 18 = some (.inr (2, [.ref (ad 19), .ref (ad 20), .ref (ad 21), .ref (ad 22), .int (nI hc)]))) (t19 : w 19 = some (.inl (g 0, 14, .inl hX))) (t20 : w 20 = some (.inl (g 0, 14, .inl hY))) (y25 : w 25 = some (.inr (6, [.ref (ad 26), .long wl, .ref (ad 27)]))) (y26 : w 26 = some (.inl (g 0, 14, .inl sq))) (hc14 : hc ≤ 14) (hsq : ∀ i, i < hc → sq i = nI (sN i) ∧ sN i < 14) : Met l yWy_measure wsWy_measure ({ frames := 2, cells := 0, slots := 0, locals := 50 } : Room) (va_Pc [.ref (ad 25), .ref (ad 18)] (dq_S D vwCl (dq_t g) ad w sz)) (va_Qv (fun u => u = dq_U w 25 (.inr (6, [.ref (ad 26), .long (mw_len hX hY sN hc).1, .ref (ad 27)]))) (dq_B D vwCl (dq_t g) ad (dq_A ad w sz)) (dq_A ad w sz)) 0 0 (dq_A ad w sz) := by
  refine dq_ofv (cc := cWy_measure) (maxL := 6) (by decide) rfl (Nat.le_of_ble_eq_true rfl) ?_
  intro p e s m below meth c A Q ls ⟨hx, hb, hml, hown, hts⟩ hnm hA hW hK hZ hl hret
  have hS : va_S A s.heap s.heap [] := va_S.rf
  have hl : lv_has ls 6 [(0, .ref (ad 25)), (1, .ref (ad 18))] := hl
  have hf9 := hts _ (List.mem_cons_of_mem _ tw1_202)
  have hf18 := hts _ (List.mem_cons_of_mem _ tw1_173)
  have hf41 := hts _ (List.mem_cons_of_mem _ tw1_163)
  have hf44 := hts _ (List.mem_cons_of_mem _ tw1_166)
  have hf59 := hts _ (List.mem_cons_of_mem _ tw1_204)
  have hinHt : ∀ w ∈ u_ws RHt THt 5, w ∈ wsWy_measure := fun w h => List.mem_cons_of_mem _ (inHt w h)
  have hinWy : ∀ w ∈ u_ws RWy TWy 3, w ∈ wsWy_measure := fun w h => List.mem_cons_of_mem _ (inWy w h)
  refine lv_aload_n hx hb dWy_measure_0 rfl (lv_at hl 0 rfl) ?_
  refine lv_lconst (v := 0) hx hb dWy_measure_1 (by decide) ?_
  refine dq_put (D := D) (ci := 6) (v := .long 0) (ty := .long) (C := RWy) (T := TWy) (N := 3) hx hb hts hinWy tyWy tyWy_ok nmWy hown hK hW hS 25 y25 rfl 1 (by decide) hf59 (fun _ h9 => h9) rfl (by decide +kernel) rfl rfl (Nat.le_of_ble_eq_true rfl) dWy_measure_2 (fun H locs hW hS => ?_)
  refine lv_iconst (v := (0)) hx hb dWy_measure_5 (by decide) ?_
  refine lv_istore_n (lv' := [(2, .int (0)), (0, .ref (ad 25)), (1, .ref (ad 18))]) hx hb dWy_measure_6 rfl hl (by decide) rfl (fun ls hl => ?_)
  refine lv_iconst (v := (0)) hx hb dWy_measure_7 (by decide) ?_
  refine lv_istore_n (lv' := [(3, .int (0)), (2, .int (0)), (0, .ref (ad 25)), (1, .ref (ad 18))]) hx hb dWy_measure_8 rfl hl (by decide) rfl (fun ls hl => ?_)
  refine lv_iconst (v := (nI 0)) hx hb dWy_measure_9 (by decide) ?_
  refine lv_istore (lv' := [(4, .int (nI 0)), (3, .int (0)), (2, .int (0)), (0, .ref (ad 25)), (1, .ref (ad 18))]) hx hb dWy_measure_10 hl (by decide) rfl (fun ls hl => ?_)
  have loop : ∀ (j : Nat) (k : Nat) (H : Heap) (locs : List Loc) (ls : Array Slot), hc < k + j → k ≤ hc → dq_W D vwCl ad (dq_U w 25 (.inr (6, [.ref (ad 26), .long (mw_len hX hY sN k).1, .ref (ad 27)]))) A H → va_S A s.heap H locs → lv_has ls 6 [(0, .ref (ad 25)), (1, .ref (ad 18)), (2, .int (mw_len hX hY sN k).2.1), (3, .int (mw_len hX hY sN k).2.2), (4, .int (nI k))] → W p l e ({ frames := 2, cells := 0, slots := 0, locals := 50 } : Room) s m ([.ref (ad 25), .ref (ad 18)] : List Value).toArray below meth c H locs 0 0 Q (F0 m 12 ls []) := by
    intro j
    induction j with
    | zero => intro k H locs ls hj hk hW hS hl; exact absurd hj (by omega)
    | succ j ih =>
      intro k H locs ls hj hk hW hS hl
      refine lv_iload hx hb dWy_measure_12 (lv_at hl 4 rfl) ?_
      refine lv_aload_n hx hb dWy_measure_14 rfl (lv_at hl 1 rfl) ?_
      refine dq_get (D := D) (ci := 2) (v := .int (nI hc)) (C := RHt) (T := THt) (N := 5) hx hb hts hinHt hown hK hW 18 ((dq_Un (by decide)).trans t18) rfl 4 (by decide) hf18 (fun _ h9 => h9) rfl dWy_measure_15 ?_
      refine lv_icmp_ge (tgt := 70) hx hb dWy_measure_18 (by decide) (fun c1 => ?_) (fun c1 => ?_)
      · have hkn : hc = k := by have q9 := (nI_leI (by omega) (by omega)).mp c1; omega
        subst hkn
        exact hret _ _ _ _ _ rfl hW hS dWy_measure_70
      · have hkn : k < hc := by rcases Nat.lt_or_ge k hc with q | q; exact q; exact absurd (nI_le q (by omega)) c1
        obtain ⟨hs1, hs2⟩ := hsq k hkn
        refine lv_aload_n hx hb dWy_measure_21 rfl (lv_at hl 0 rfl) ?_
        refine dq_get (D := D) (ci := 6) (v := .ref (ad 26)) (C := RWy) (T := TWy) (N := 3) hx hb hts hinWy hown hK hW 25 dq_Us rfl 0 (by decide) hf9 (fun _ h9 => h9) rfl dWy_measure_22 ?_
        refine lv_iload hx hb dWy_measure_25 (lv_at hl 4 rfl) ?_
        refine dq_ialdN hx hb hK hW 26 0 ((dq_Un (by decide)).trans y26) rfl k (by omega) (by omega) dWy_measure_27 ?_
        refine dq_top (y := nI (sN k)) hs1 ?_
        refine lv_istore (lv' := [(5, .int (nI (sN k))), (0, .ref (ad 25)), (1, .ref (ad 18)), (2, .int (mw_len hX hY sN k).2.1), (3, .int (mw_len hX hY sN k).2.2), (4, .int (nI k))]) hx hb dWy_measure_28 hl (by decide) rfl (fun ls hl => ?_)
        refine lv_aload_n hx hb dWy_measure_30 rfl (lv_at hl 1 rfl) ?_
        refine lv_dup hx hb dWy_measure_31 rfl ?_
        refine dq_get (D := D) (ci := 6) (v := .long (mw_len hX hY sN k).1) (C := RWy) (T := TWy) (N := 3) hx hb hts hinWy hown hK hW 25 dq_Us rfl 1 (by decide) hf59 (fun _ h9 => h9) rfl dWy_measure_32 ?_
        refine lv_aload_n hx hb dWy_measure_35 rfl (lv_at hl 2 rfl) ?_
        refine lv_iload hx hb dWy_measure_36 (lv_at hl 0 rfl) ?_
        refine lv_iload_n hx hb dWy_measure_38 rfl (lv_at hl 3 rfl) ?_
        refine lv_iload_n hx hb dWy_measure_39 rfl (lv_at hl 4 rfl) ?_
        refine dq_calli (va_runS (As := [.ref (ad 18), .int (nI (sN k)), .int (mw_len hX hY sN k).2.1, .int (mw_len hX hY sN k).2.2]) (rest := [.long (mw_len hX hY sN k).1, .ref (ad 25)]) ⟨hx, hb, hml, hown, hts⟩ (c_Way_distance l D g ad (dq_U w 25 (.inr (6, [.ref (ad 26), .long (mw_len hX hY sN k).1, .ref (ad 27)]))) _ hX hY hc (sN k) ((mw_len hX hY sN k).2.1) ((mw_len hX hY sN k).2.2) ((dq_Un (by decide)).trans t18) ((dq_Un (by decide)).trans t19) ((dq_Un (by decide)).trans t20) hs2) (cwS 4 hts (dq_giS2 tw2_95 tw2_96 tw1_9 tw2_97) rfl rfl rfl (by decide +kernel) ⟨Nat.le_of_ble_eq_true rfl, Nat.le_of_ble_eq_true rfl⟩) (dq_preS hW hS hA hK hZ) rfl rfl hl.1 rfl (lv_room (Nat.le_of_ble_eq_true rfl)) dWy_measure_40 ⟨Nat.zero_le _, Nat.zero_le _⟩) hW hS hA (fun r1 u_9 H locs hp1 hW hS hz9 => ?_)
        obtain ⟨hr1, hu9⟩ := hp1
        rw [hu9] at hW
        subst hr1
        refine lv_i2l hx hb dWy_measure_43 rfl ?_
        refine lv_ladd hx hb dWy_measure_44 ?_
        refine dq_put (D := D) (ci := 6) (v := .long ((mw_len hX hY sN k).1 + ((mw_d hX hY (sN k) (mw_len hX hY sN k).2.1 (mw_len hX hY sN k).2.2)).toInt64)) (ty := .long) (C := RWy) (T := TWy) (N := 3) hx hb hts hinWy tyWy tyWy_ok nmWy hown hK hW hS 25 dq_Us rfl 1 (by decide) hf59 (fun _ h9 => h9) rfl (by decide +kernel) rfl rfl (Nat.le_of_ble_eq_true rfl) dWy_measure_45 (fun H locs hW hS => ?_)
        rw [dq_UU] at hW
        refine lv_aload_n hx hb dWy_measure_48 rfl (lv_at hl 2 rfl) ?_
        refine dq_get (D := D) (ci := 2) (v := .ref (ad 19)) (C := RHt) (T := THt) (N := 5) hx hb hts hinHt hown hK hW 18 ((dq_Un (by decide)).trans t18) rfl 0 (by decide) hf41 (fun _ h9 => h9) rfl dWy_measure_49 ?_
        refine lv_iload hx hb dWy_measure_52 (lv_at hl 0 rfl) ?_
        refine dq_ialdN hx hb hK hW 19 0 ((dq_Un (by decide)).trans t19) rfl (sN k) (by omega) (by omega) dWy_measure_54 ?_
        refine lv_istore_n (lv' := [(2, .int (hX (sN k))), (5, .int (nI (sN k))), (0, .ref (ad 25)), (1, .ref (ad 18)), (3, .int (mw_len hX hY sN k).2.2), (4, .int (nI k))]) hx hb dWy_measure_55 rfl hl (by decide) rfl (fun ls hl => ?_)
        refine lv_aload_n hx hb dWy_measure_56 rfl (lv_at hl 3 rfl) ?_
        refine dq_get (D := D) (ci := 2) (v := .ref (ad 20)) (C := RHt) (T := THt) (N := 5) hx hb hts hinHt hown hK hW 18 ((dq_Un (by decide)).trans t18) rfl 1 (by decide) hf44 (fun _ h9 => h9) rfl dWy_measure_57 ?_
        refine lv_iload hx hb dWy_measure_60 (lv_at hl 1 rfl) ?_
        refine dq_ialdN hx hb hK hW 20 0 ((dq_Un (by decide)).trans t20) rfl (sN k) (by omega) (by omega) dWy_measure_62 ?_
        refine lv_istore_n (lv' := [(3, .int (hY (sN k))), (2, .int (hX (sN k))), (5, .int (nI (sN k))), (0, .ref (ad 25)), (1, .ref (ad 18)), (4, .int (nI k))]) hx hb dWy_measure_63 rfl hl (by decide) rfl (fun ls hl => ?_)
        refine lv_iinc (v := (nI (k + 1))) (lv' := [(4, .int (nI (k + 1))), (3, .int (hY (sN k))), (2, .int (hX (sN k))), (5, .int (nI (sN k))), (0, .ref (ad 25)), (1, .ref (ad 18))]) hx hb dWy_measure_64 hl (k := 5) rfl (by show nI k + 1 = _; exact nI_1 _) (by decide) rfl (fun ls hl => ?_)
        refine lv_goto (tgt := 12) hx hb dWy_measure_67 (by decide) ?_
        exact ih (k + 1) _ _ _ (by omega) (by omega) hW hS (lv_sub hl [4, 5, 2, 1, 0] rfl)
  exact loop (hc + 1) 0 _ _ _ (by omega) (Nat.zero_le _) hW hS (lv_sub hl [3, 4, 2, 1, 0] rfl)
end
section
theorem mw_tk_lt (sh hX hY : Nat → Int32) (hc : Nat) (sq : Nat → Int32) (i : Nat) : (mw_tk sh hX hY hc sq i).2.1 < 2 ^ hc := by
  induction i with
  | zero =>
    show 2 ^ hc - 1 < 2 ^ hc
    have : 0 < 2 ^ hc := Nat.two_pow_pos hc
    omega
  | succ i ih =>
    show ((if (mw_nx sh hX hY hc (mw_tk sh hX hY hc sq i).2.1 (mw_tk sh hX hY hc sq i).2.2.1 (mw_tk sh hX hY hc sq i).2.2.2 hc).1 = -1 then mw_tk sh hX hY hc sq i else _).2.1) < 2 ^ hc
    split
    · exact ih
    · exact Nat.lt_of_le_of_lt (dq_df_le _ _) ih
theorem mw_tk_s {sh hX hY : Nat → Int32} {hc : Nat} {sq : Nat → Int32} {i t : Nat} (ht : t < 2 ^ 31) (h : (mw_nx sh hX hY hc (mw_tk sh hX hY hc sq i).2.1 (mw_tk sh hX hY hc sq i).2.2.1 (mw_tk sh hX hY hc sq i).2.2.2 hc).1 = nI t) (hne : ¬ nI t = -1) : mw_tk sh hX hY hc sq (i + 1) = (upd (mw_tk sh hX hY hc sq i).1 i (nI t), dq_df (mw_tk sh hX hY hc sq i).2.1 (2 ^ t), hX t, hY t) := by
  show (if (mw_nx sh hX hY hc (mw_tk sh hX hY hc sq i).2.1 (mw_tk sh hX hY hc sq i).2.2.1 (mw_tk sh hX hY hc sq i).2.2.2 hc).1 = -1 then mw_tk sh hX hY hc sq i else _) = _
  rw [h, if_neg hne, nI_clamp ht]
theorem mw_ne1 {t : Nat} (ht : t < 2 ^ 31) : ¬ nI t = -1 := fun h => absurd (h ▸ nI_pos ht : ¬ (-1 : Int32) < 0) (by decide)
set_option maxHeartbeats 4000000 in
set_option maxRecDepth 100000 in
/-- Way.takeShortest -/
theorem c_Way_takeShortest (l : Launch) (D : va_G) (g : Nat → ClassId) (ad : Nat → Nat) (w : Nat → Option va_E) (sz : Nat) (hX hY : Nat → Int32) (hc : Nat) (wl : Int64) (sq sh : Nat → Int32) (sl : Nat) (t18 : w 18 = some (.inr (2, [.ref (ad 19), .ref (ad 20), .ref (ad 21), .ref (ad 22), .int (nI hc)]))) (t19 : w 19 = some (.inl (g 0, 14, .inl hX))) (t20 : w 20 = some (.inl (g 0, 14, .inl hY))) (y25 : w 25 = some (.inr (6, [.ref (ad 26), .long wl, .ref (ad 27)]))) (y26 : w 26 = some (.inl (g 0, 14, .inl sq))) (y27 : w 27 = some (.inl (g 0, sl, .inl sh))) (hc10 : hc ≤ 10) (hsl : 2 ^ hc * hc ≤ sl) (hsl2 : sl ≤ 10240) : Met l yWy_takeShortest wsWy_takeShortest ({ frames := 4, cells := 0, slots := 0, locals := 112 } : Room) (va_Pc [.ref (ad 25), .ref (ad 18)] (dq_S D vwCl (dq_t g) ad w sz)) (va_Qv (fun u => u = dq_U w 26 (.inl (g 0, 14, .inl ((mw_tk sh hX hY hc sq hc).1)))) (dq_B D vwCl (dq_t g) ad (dq_A ad w sz)) (dq_A ad w sz)) 0 0 (dq_A ad w sz) := by
  refine dq_ofv (cc := cWy_takeShortest) (maxL := 7) (by decide) rfl (Nat.le_of_ble_eq_true rfl) ?_
  intro p e s m below meth c A Q ls ⟨hx, hb, hml, hown, hts⟩ hnm hA hW hK hZ hl hret
  have hS : va_S A s.heap s.heap [] := va_S.rf
  have hl : lv_has ls 7 [(0, .ref (ad 25)), (1, .ref (ad 18))] := hl
  have hf9 := hts _ (List.mem_cons_of_mem _ tw1_202)
  have hf18 := hts _ (List.mem_cons_of_mem _ tw1_173)
  have hf41 := hts _ (List.mem_cons_of_mem _ tw1_163)
  have hf44 := hts _ (List.mem_cons_of_mem _ tw1_166)
  have hinHt : ∀ w ∈ u_ws RHt THt 5, w ∈ wsWy_takeShortest := fun w h => List.mem_cons_of_mem _ (inHt w h)
  have hinWy : ∀ w ∈ u_ws RWy TWy 3, w ∈ wsWy_takeShortest := fun w h => List.mem_cons_of_mem _ (inWy w h)
  have hp9 : 2 ^ hc ≤ 1024 := Nat.le_trans (Nat.pow_le_pow_right (by omega) hc10) (Nat.le_refl 1024)
  refine lv_iconst (v := (1)) hx hb dWy_takeShortest_0 (by decide) ?_
  refine lv_aload_n hx hb dWy_takeShortest_1 rfl (lv_at hl 1 rfl) ?_
  refine dq_get (D := D) (ci := 2) (v := .int (nI hc)) (C := RHt) (T := THt) (N := 5) hx hb hts hinHt hown hK hW 18 t18 rfl 4 (by decide) hf18 (fun _ h9 => h9) rfl dWy_takeShortest_2 ?_
  refine lv_ishl hx hb dWy_takeShortest_5 ?_
  refine dq_top (y := nI (2 ^ hc)) (dq_sh1 hc (by omega)) ?_
  refine lv_iconst (v := (1)) hx hb dWy_takeShortest_6 (by decide) ?_
  refine lv_isub hx hb dWy_takeShortest_7 ?_
  refine dq_top (y := nI (2 ^ hc - 1)) (pk_sub (b := 1) Nat.one_le_two_pow) ?_
  refine lv_istore_n (lv' := [(2, .int (nI (2 ^ hc - 1))), (0, .ref (ad 25)), (1, .ref (ad 18))]) hx hb dWy_takeShortest_8 rfl hl (by decide) rfl (fun ls hl => ?_)
  refine lv_iconst (v := (0)) hx hb dWy_takeShortest_9 (by decide) ?_
  refine lv_istore_n (lv' := [(3, .int (0)), (2, .int (nI (2 ^ hc - 1))), (0, .ref (ad 25)), (1, .ref (ad 18))]) hx hb dWy_takeShortest_10 rfl hl (by decide) rfl (fun ls hl => ?_)
  refine lv_iconst (v := (0)) hx hb dWy_takeShortest_11 (by decide) ?_
  refine lv_istore (lv' := [(4, .int (0)), (3, .int (0)), (2, .int (nI (2 ^ hc - 1))), (0, .ref (ad 25)), (1, .ref (ad 18))]) hx hb dWy_takeShortest_12 hl (by decide) rfl (fun ls hl => ?_)
  refine lv_iconst (v := (nI 0)) hx hb dWy_takeShortest_14 (by decide) ?_
  refine lv_istore (lv' := [(5, .int (nI 0)), (4, .int (0)), (3, .int (0)), (2, .int (nI (2 ^ hc - 1))), (0, .ref (ad 25)), (1, .ref (ad 18))]) hx hb dWy_takeShortest_15 hl (by decide) rfl (fun ls hl => ?_)
  have loop : ∀ (j : Nat) (k : Nat) (H : Heap) (locs : List Loc) (ls : Array Slot), hc < k + j → k ≤ hc → dq_W D vwCl ad (dq_U w 26 (.inl (g 0, 14, .inl ((mw_tk sh hX hY hc sq k).1)))) A H → va_S A s.heap H locs → lv_has ls 7 [(0, .ref (ad 25)), (1, .ref (ad 18)), (2, .int (nI (mw_tk sh hX hY hc sq k).2.1)), (3, .int (mw_tk sh hX hY hc sq k).2.2.1), (4, .int (mw_tk sh hX hY hc sq k).2.2.2), (5, .int (nI k))] → W p l e ({ frames := 4, cells := 0, slots := 0, locals := 112 } : Room) s m ([.ref (ad 25), .ref (ad 18)] : List Value).toArray below meth c H locs 0 0 Q (F0 m 17 ls []) := by
    intro j
    induction j with
    | zero => intro k H locs ls hj hk hW hS hl; exact absurd hj (by omega)
    | succ j ih =>
      intro k H locs ls hj hk hW hS hl
      refine lv_iload hx hb dWy_takeShortest_17 (lv_at hl 5 rfl) ?_
      refine lv_aload_n hx hb dWy_takeShortest_19 rfl (lv_at hl 1 rfl) ?_
      refine dq_get (D := D) (ci := 2) (v := .int (nI hc)) (C := RHt) (T := THt) (N := 5) hx hb hts hinHt hown hK hW 18 ((dq_Un (by decide)).trans t18) rfl 4 (by decide) hf18 (fun _ h9 => h9) rfl dWy_takeShortest_20 ?_
      refine lv_icmp_ge (tgt := 83) hx hb dWy_takeShortest_23 (by decide) (fun c1 => ?_) (fun c1 => ?_)
      · have hkn : hc = k := by have q9 := (nI_leI (by omega) (by omega)).mp c1; omega
        subst hkn
        exact hret _ _ _ _ _ rfl hW hS dWy_takeShortest_83
      · have hkn : k < hc := by rcases Nat.lt_or_ge k hc with q | q; exact q; exact absurd (nI_le q (by omega)) c1
        have hlt9 : (mw_tk sh hX hY hc sq k).2.1 < 2 ^ hc := mw_tk_lt _ _ _ _ _ _
        refine lv_aload_n hx hb dWy_takeShortest_26 rfl (lv_at hl 0 rfl) ?_
        refine lv_aload_n hx hb dWy_takeShortest_27 rfl (lv_at hl 1 rfl) ?_
        refine lv_iload_n hx hb dWy_takeShortest_28 rfl (lv_at hl 2 rfl) ?_
        refine lv_iload_n hx hb dWy_takeShortest_29 rfl (lv_at hl 3 rfl) ?_
        refine lv_iload hx hb dWy_takeShortest_30 (lv_at hl 4 rfl) ?_
        refine dq_calli (va_runV (As := [.ref (ad 18), .int (nI (mw_tk sh hX hY hc sq k).2.1), .int (mw_tk sh hX hY hc sq k).2.2.1, .int (mw_tk sh hX hY hc sq k).2.2.2]) (rest := []) ⟨hx, hb, hml, hown, hts⟩ (c_Way_nextHit l D g ad (dq_U w 26 (.inl (g 0, 14, .inl ((mw_tk sh hX hY hc sq k).1)))) _ hX hY hc wl sq sh sl ((mw_tk sh hX hY hc sq k).2.1) ((mw_tk sh hX hY hc sq k).2.2.1) ((mw_tk sh hX hY hc sq k).2.2.2) ((dq_Un (by decide)).trans t18) ((dq_Un (by decide)).trans t19) ((dq_Un (by decide)).trans t20) ((dq_Un (by decide)).trans y25) ((dq_Un (by decide)).trans y27) hc10 hlt9 hsl hsl2) (cwV 4 hts (dq_giV tw2_87 tw2_89 twp_6 tw1_9 tw2_90) rfl rfl rfl (by decide +kernel) ⟨Nat.le_of_ble_eq_true rfl, Nat.le_of_ble_eq_true rfl⟩) (dq_preV (ci := 6) hW hS hA hK hZ ((dq_Un (by decide)).trans y25) rfl rfl) rfl rfl hl.1 rfl (lv_room (Nat.le_of_ble_eq_true rfl)) dWy_takeShortest_32 ⟨Nat.zero_le _, Nat.zero_le _⟩) hW hS hA (fun r1 u_9 H locs hp1 hW hS hz9 => ?_)
        obtain ⟨hr1, hu9⟩ := hp1
        rw [hu9] at hW
        refine lv_istore (lv' := [(6, .int r1), (0, .ref (ad 25)), (1, .ref (ad 18)), (2, .int (nI (mw_tk sh hX hY hc sq k).2.1)), (3, .int (mw_tk sh hX hY hc sq k).2.2.1), (4, .int (mw_tk sh hX hY hc sq k).2.2.2), (5, .int (nI k))]) hx hb dWy_takeShortest_35 hl (by decide) rfl (fun ls hl => ?_)
        refine lv_iload hx hb dWy_takeShortest_37 (lv_at hl 0 rfl) ?_
        refine lv_iconst (v := (-1)) hx hb dWy_takeShortest_39 (by decide) ?_
        refine lv_icmp_ne (tgt := 44) hx hb dWy_takeShortest_40 (by decide) (fun c2 => ?_) (fun c2 => ?_)
        · have hex : ∃ t, t < hc ∧ r1 = nI t := by rcases mw_nx_in sh hX hY hc (mw_tk sh hX hY hc sq k).2.1 (mw_tk sh hX hY hc sq k).2.2.1 (mw_tk sh hX hY hc sq k).2.2.2 hc (by omega) with h9 | ⟨t, h7, h8, h9⟩; exact absurd (hr1.trans h9.1) c2; exact ⟨t, h7, hr1.trans h9⟩
          obtain ⟨t, ht1, rfl⟩ := hex
          have e5 := mw_tk_s (i := k) (by omega) hr1.symm c2
          refine lv_aload_n hx hb dWy_takeShortest_44 rfl (lv_at hl 1 rfl) ?_
          refine dq_get (D := D) (ci := 6) (v := .ref (ad 26)) (C := RWy) (T := TWy) (N := 3) hx hb hts hinWy hown hK hW 25 ((dq_Un (by decide)).trans y25) rfl 0 (by decide) hf9 (fun _ h9 => h9) rfl dWy_takeShortest_45 ?_
          refine lv_iload hx hb dWy_takeShortest_48 (lv_at hl 6 rfl) ?_
          refine lv_iload hx hb dWy_takeShortest_50 (lv_at hl 0 rfl) ?_
          refine dq_iastN hx hb hK hW hS 26 0 dq_Us rfl k (by omega) (by omega) dWy_takeShortest_52 (fun H locs hW hS => ?_)
          rw [dq_UU] at hW
          refine lv_iload_n hx hb dWy_takeShortest_53 rfl (lv_at hl 3 rfl) ?_
          refine lv_iload hx hb dWy_takeShortest_54 (lv_at hl 0 rfl) ?_
          refine dq_calli (va_runSN (As := [.int (nI (mw_tk sh hX hY hc sq k).2.1), .int (nI t)]) (rest := []) ⟨hx, hb, hml, hown, hts⟩ (c_without l D g ad (dq_U w 26 (.inl (g 0, 14, .inl (upd ((mw_tk sh hX hY hc sq k).1) k (nI t))))) _ ((mw_tk sh hX hY hc sq k).2.1) t  (by omega)) ⟨va_cnB 2 hts (dq_gi tw2_103) rfl rfl rfl (hZ.n8) (hts _ (List.mem_cons_of_mem _ tw1_1)) (by decide +kernel) ⟨Nat.le_of_ble_eq_true rfl, Nat.le_of_ble_eq_true rfl⟩, (hts _ (List.mem_cons_of_mem _ tw2_102)), trivial⟩ (dq_preS hW hS hA hK hZ) rfl rfl hl.1 rfl (lv_room (Nat.le_of_ble_eq_true rfl)) dWy_takeShortest_56 ⟨Nat.zero_le _, Nat.zero_le _⟩) hW hS hA (fun r2 u_9 H locs hp2 hW hS hz9 => ?_)
          obtain ⟨hr2, hu9⟩ := hp2
          rw [hu9] at hW
          subst hr2
          refine lv_istore_n (lv' := [(2, .int (nI (dq_df (mw_tk sh hX hY hc sq k).2.1 (2 ^ t)))), (6, .int (nI t)), (0, .ref (ad 25)), (1, .ref (ad 18)), (3, .int (mw_tk sh hX hY hc sq k).2.2.1), (4, .int (mw_tk sh hX hY hc sq k).2.2.2), (5, .int (nI k))]) hx hb dWy_takeShortest_59 rfl hl (by decide) rfl (fun ls hl => ?_)
          refine lv_aload_n hx hb dWy_takeShortest_60 rfl (lv_at hl 3 rfl) ?_
          refine dq_get (D := D) (ci := 2) (v := .ref (ad 19)) (C := RHt) (T := THt) (N := 5) hx hb hts hinHt hown hK hW 18 ((dq_Un (by decide)).trans t18) rfl 0 (by decide) hf41 (fun _ h9 => h9) rfl dWy_takeShortest_61 ?_
          refine lv_iload hx hb dWy_takeShortest_64 (lv_at hl 1 rfl) ?_
          refine dq_ialdN hx hb hK hW 19 0 ((dq_Un (by decide)).trans t19) rfl t (by omega) (by omega) dWy_takeShortest_66 ?_
          refine lv_istore_n (lv' := [(3, .int (hX t)), (2, .int (nI (dq_df (mw_tk sh hX hY hc sq k).2.1 (2 ^ t)))), (6, .int (nI t)), (0, .ref (ad 25)), (1, .ref (ad 18)), (4, .int (mw_tk sh hX hY hc sq k).2.2.2), (5, .int (nI k))]) hx hb dWy_takeShortest_67 rfl hl (by decide) rfl (fun ls hl => ?_)
          refine lv_aload_n hx hb dWy_takeShortest_68 rfl (lv_at hl 4 rfl) ?_
          refine dq_get (D := D) (ci := 2) (v := .ref (ad 20)) (C := RHt) (T := THt) (N := 5) hx hb hts hinHt hown hK hW 18 ((dq_Un (by decide)).trans t18) rfl 1 (by decide) hf44 (fun _ h9 => h9) rfl dWy_takeShortest_69 ?_
          refine lv_iload hx hb dWy_takeShortest_72 (lv_at hl 2 rfl) ?_
          refine dq_ialdN hx hb hK hW 20 0 ((dq_Un (by decide)).trans t20) rfl t (by omega) (by omega) dWy_takeShortest_74 ?_
          refine lv_istore (lv' := [(4, .int (hY t)), (3, .int (hX t)), (2, .int (nI (dq_df (mw_tk sh hX hY hc sq k).2.1 (2 ^ t)))), (6, .int (nI t)), (0, .ref (ad 25)), (1, .ref (ad 18)), (5, .int (nI k))]) hx hb dWy_takeShortest_75 hl (by decide) rfl (fun ls hl => ?_)
          refine lv_iinc (v := (nI (k + 1))) (lv' := [(5, .int (nI (k + 1))), (4, .int (hY t)), (3, .int (hX t)), (2, .int (nI (dq_df (mw_tk sh hX hY hc sq k).2.1 (2 ^ t)))), (6, .int (nI t)), (0, .ref (ad 25)), (1, .ref (ad 18))]) hx hb dWy_takeShortest_77 hl (k := 6) rfl (by show nI k + 1 = _; exact nI_1 _) (by decide) rfl (fun ls hl => ?_)
          refine lv_goto (tgt := 17) hx hb dWy_takeShortest_80 (by decide) ?_
          exact ih (k + 1) _ _ _ (by omega) (by omega) (by rw [e5]; exact hW) hS (by rw [e5]; exact (lv_sub hl [5, 6, 3, 2, 1, 0] rfl))
        · have e6 := mw_tk_stop (i := k) (hr1.symm.trans c2) (hc - k)
          rw [show k + (hc - k) = hc by omega] at e6
          exact hret _ _ _ _ _ (by rw [e6]) hW hS dWy_takeShortest_43
  exact loop (hc + 1) 0 _ _ _ (by omega) (Nat.zero_le _) (dq_Wc (by show _ = dq_U w 26 (.inl (g 0, 14, .inl sq)); rw [dq_Uid y26]) hW) hS (lv_sub hl [4, 5, 3, 2, 1, 0] rfl)
set_option maxHeartbeats 4000000 in
set_option maxRecDepth 100000 in
/-- Way.fillShortest -/
theorem c_Way_fillShortest (l : Launch) (D : va_G) (g : Nat → ClassId) (ad : Nat → Nat) (w : Nat → Option va_E) (sz : Nat) (hX hY : Nat → Int32) (hc : Nat) (wl : Int64) (sq sh : Nat → Int32) (sl : Nat) (t18 : w 18 = some (.inr (2, [.ref (ad 19), .ref (ad 20), .ref (ad 21), .ref (ad 22), .int (nI hc)]))) (t19 : w 19 = some (.inl (g 0, 14, .inl hX))) (t20 : w 20 = some (.inl (g 0, 14, .inl hY))) (y25 : w 25 = some (.inr (6, [.ref (ad 26), .long wl, .ref (ad 27)]))) (y27 : w 27 = some (.inl (g 0, sl, .inl sh))) (hc10 : hc ≤ 10) (hsl2 : sl ≤ 10240) : Met l yWy_fillShortest wsWy_fillShortest ({ frames := 4, cells := (if sl < 2 ^ hc * hc then 1 else 0), slots := (if sl < 2 ^ hc * hc then 2 ^ hc * hc else 0), locals := 112 } : Room) (va_Pc [.ref (ad 25), .ref (ad 18)] (dq_S D vwCl (dq_t g) ad w sz)) (va_Qv (fun u => (∀ j, j ≠ 27 → u.1 j = ad j) ∧ (∀ j, j ≠ 25 → j ≠ 27 → u.2 j = w j) ∧ u.2 25 = some (.inr (6, [.ref (u.1 26), .long wl, .ref (u.1 27)])) ∧ ∃ sh9 : Nat → Int32, u.2 27 = some (.inl (g 0, (if sl < 2 ^ hc * hc then 2 ^ hc * hc else sl), .inl (mw_fill sh9 hX hY hc (2 ^ hc))))) (dq_B2 D vwCl (dq_t g) (dq_A ad w sz)) (dq_A ad w sz)) (if sl < 2 ^ hc * hc then 1 else 0) (if sl < 2 ^ hc * hc then 2 ^ hc * hc else 0) (dq_A ad w sz) := by
  refine dq_ofv2 (cc := cWy_fillShortest) (maxL := 7) (by decide) rfl (Nat.le_of_ble_eq_true rfl) ?_
  intro p e s m below meth c A Q ls ⟨hx, hb, hml, hown, hts⟩ hnm hA hW hK hZ hl hret
  have hS : va_S A s.heap s.heap [] := va_S.rf
  have hl : lv_has ls 7 [(0, .ref (ad 25)), (1, .ref (ad 18))] := hl
  have hf15 := hts _ (List.mem_cons_of_mem _ tw1_206)
  have hf18 := hts _ (List.mem_cons_of_mem _ tw1_173)
  have hf41 := hts _ (List.mem_cons_of_mem _ tw1_163)
  have hf44 := hts _ (List.mem_cons_of_mem _ tw1_166)
  have hinHt : ∀ w ∈ u_ws RHt THt 5, w ∈ wsWy_fillShortest := fun w h => List.mem_cons_of_mem _ (inHt w h)
  have hinWy : ∀ w ∈ u_ws RWy TWy 3, w ∈ wsWy_fillShortest := fun w h => List.mem_cons_of_mem _ (inWy w h)
  have hp9 : 2 ^ hc ≤ 1024 := Nat.le_trans (Nat.pow_le_pow_right (by omega) hc10) (Nat.le_refl 1024)
  have hp8 : 2 ^ hc * hc ≤ 10240 := Nat.le_trans (Nat.mul_le_mul hp9 hc10) (Nat.le_refl 10240)
  have j33 : ∀ (ad1 : Nat → Nat) (w1 : Nat → Option va_E) (sl1 : Nat) (sh1 : Nat → Int32) (H : Heap) (locs : List Loc) (ls : Array Slot), (∀ j, j ≠ 27 → ad1 j = ad j) → (∀ j, j ≠ 25 → j ≠ 27 → w1 j = w j) → w1 25 = some (.inr (6, [.ref (ad1 26), .long wl, .ref (ad1 27)])) → w1 27 = some (.inl (g 0, sl1, .inl sh1)) → sl1 = (if sl < 2 ^ hc * hc then 2 ^ hc * hc else sl) → dq_W D vwCl ad1 w1 A H → va_S A s.heap H locs → lv_has ls 7 [(0, .ref (ad1 25)), (1, .ref (ad1 18)), (2, .int (nI (2 ^ hc)))] → W p l e ({ frames := 4, cells := (if sl < 2 ^ hc * hc then 1 else 0), slots := (if sl < 2 ^ hc * hc then 2 ^ hc * hc else 0), locals := 112 } : Room) s m ([.ref (ad 25), .ref (ad 18)] : List Value).toArray below meth c H locs (if sl < 2 ^ hc * hc then 1 else 0) (if sl < 2 ^ hc * hc then 2 ^ hc * hc else 0) Q (F0 m 33 ls []) := by
    intro ad1 w1 sl1 sh1 H locs ls hadj hfr e25 e27 hl1 hW hS hl
    have hl2 : 2 ^ hc * hc ≤ sl1 ∧ sl1 ≤ 10240 := by rw [hl1]; split <;> omega
    have e18 : w1 18 = some (.inr (2, [.ref (ad1 19), .ref (ad1 20), .ref (ad1 21), .ref (ad1 22), .int (nI hc)])) := by rw [hadj 19 (by decide), hadj 20 (by decide), hadj 21 (by decide), hadj 22 (by decide), hfr 18 (by decide) (by decide)]; exact t18
    have e19 : w1 19 = some (.inl (g 0, 14, .inl hX)) := by rw [hfr 19 (by decide) (by decide)]; exact t19
    have e20 : w1 20 = some (.inl (g 0, 14, .inl hY)) := by rw [hfr 20 (by decide) (by decide)]; exact t20
    refine lv_iconst (v := (nI 0)) hx hb dWy_fillShortest_33 (by decide) ?_
    refine lv_istore_n (lv' := [(3, .int (nI 0)), (0, .ref (ad1 25)), (1, .ref (ad1 18)), (2, .int (nI (2 ^ hc)))]) hx hb dWy_fillShortest_34 rfl hl (by decide) rfl (fun ls hl => ?_)
    have loop : ∀ (j : Nat) (S : Nat) (H : Heap) (locs : List Loc) (ls : Array Slot), 2 ^ hc < S + j → S ≤ 2 ^ hc → dq_W D vwCl ad1 (dq_U w1 27 (.inl (g 0, sl1, .inl (mw_fill sh1 hX hY hc S)))) A H → va_S A s.heap H locs → lv_has ls 7 [(0, .ref (ad1 25)), (1, .ref (ad1 18)), (2, .int (nI (2 ^ hc))), (3, .int (nI S))] → W p l e ({ frames := 4, cells := (if sl < 2 ^ hc * hc then 1 else 0), slots := (if sl < 2 ^ hc * hc then 2 ^ hc * hc else 0), locals := 112 } : Room) s m ([.ref (ad 25), .ref (ad 18)] : List Value).toArray below meth c H locs (if sl < 2 ^ hc * hc then 1 else 0) (if sl < 2 ^ hc * hc then 2 ^ hc * hc else 0) Q (F0 m 35 ls []) := by
      intro j
      induction j with
      | zero => intro S H locs ls hj hS9 hW hS hl; exact absurd hj (by omega)
      | succ j ih =>
        intro S H locs ls hj hS9 hW hS hl
        refine lv_iload_n hx hb dWy_fillShortest_35 rfl (lv_at hl 3 rfl) ?_
        refine lv_iload_n hx hb dWy_fillShortest_36 rfl (lv_at hl 2 rfl) ?_
        refine lv_icmp_ge (tgt := 145) hx hb dWy_fillShortest_37 (by decide) (fun c1 => ?_) (fun c1 => ?_)
        · have hSn : S = 2 ^ hc := by have q9 := (nI_leI (by omega) (by omega)).mp c1; omega
          obtain ⟨w2, hw2⟩ : ∃ w2, w2 = dq_U w1 27 (.inl (g 0, sl1, .inl (mw_fill sh1 hX hY hc (2 ^ hc)))) := ⟨_, rfl⟩
          have hfin : dq_W D vwCl ad1 w2 A H := by rw [hw2, ← hSn]; exact hW
          refine W.widen (k := (if sl < 2 ^ hc * hc then 1 else 0)) (n := (if sl < 2 ^ hc * hc then 2 ^ hc * hc else 0)) (Nat.le_refl _) (Nat.le_refl _) ?_
          exact hret (ad1, w2) _ _ _ _ ⟨hadj, fun j h1 h2 => by show w2 j = _; rw [hw2, dq_Un h2]; exact hfr j h1 h2, by show w2 25 = _; rw [hw2, dq_Un (by decide)]; exact e25, sh1, by show w2 27 = _; rw [hw2, dq_Us, hl1]⟩ hfin hS dWy_fillShortest_145
        · have hSn : S < 2 ^ hc := by rcases Nat.lt_or_ge S (2 ^ hc) with q9 | q9; exact q9; exact absurd (nI_le q9 (by omega)) c1
          refine lv_iconst (v := (nI 0)) hx hb dWy_fillShortest_40 (by decide) ?_
          refine lv_istore (lv' := [(4, .int (nI 0)), (0, .ref (ad1 25)), (1, .ref (ad1 18)), (2, .int (nI (2 ^ hc))), (3, .int (nI S))]) hx hb dWy_fillShortest_41 hl (by decide) rfl (fun ls hl => ?_)
          have loop4 : ∀ (j4 : Nat) (k : Nat) (H : Heap) (locs : List Loc) (ls : Array Slot), hc < k + j4 → k ≤ hc → dq_W D vwCl ad1 (dq_U w1 27 (.inl (g 0, sl1, .inl (mw_row (mw_fill sh1 hX hY hc S) hX hY hc S k)))) A H → va_S A s.heap H locs → lv_has ls 7 [(0, .ref (ad1 25)), (1, .ref (ad1 18)), (2, .int (nI (2 ^ hc))), (3, .int (nI S)), (4, .int (nI k))] → W p l e ({ frames := 4, cells := (if sl < 2 ^ hc * hc then 1 else 0), slots := (if sl < 2 ^ hc * hc then 2 ^ hc * hc else 0), locals := 112 } : Room) s m ([.ref (ad 25), .ref (ad 18)] : List Value).toArray below meth c H locs (if sl < 2 ^ hc * hc then 1 else 0) (if sl < 2 ^ hc * hc then 2 ^ hc * hc else 0) Q (F0 m 43 ls []) := by
            intro j4
            induction j4 with
            | zero => intro k H locs ls hj4 hk4 hW hS hl; exact absurd hj4 (by omega)
            | succ j4 ih4 =>
              intro k H locs ls hj4 hk4 hW hS hl
              refine lv_iload hx hb dWy_fillShortest_43 (lv_at hl 4 rfl) ?_
              refine lv_aload_n hx hb dWy_fillShortest_45 rfl (lv_at hl 1 rfl) ?_
              refine dq_get (D := D) (ci := 2) (v := .int (nI hc)) (C := RHt) (T := THt) (N := 5) hx hb hts hinHt hown hK hW 18 ((dq_Un (by decide)).trans e18) rfl 4 (by decide) hf18 (fun _ h9 => h9) rfl dWy_fillShortest_46 ?_
              refine lv_icmp_ge (tgt := 139) hx hb dWy_fillShortest_49 (by decide) (fun c2 => ?_) (fun c2 => ?_)
              · have hkn : hc = k := by have q9 := (nI_leI (by omega) (by omega)).mp c2; omega
                refine lv_iinc (v := (nI (S + 1))) (lv' := [(3, .int (nI (S + 1))), (0, .ref (ad1 25)), (1, .ref (ad1 18)), (2, .int (nI (2 ^ hc))), (4, .int (nI k))]) hx hb dWy_fillShortest_139 hl (k := 3) rfl (by show nI S + 1 = _; exact nI_1 _) (by decide) rfl (fun ls hl => ?_)
                refine lv_goto (tgt := 35) hx hb dWy_fillShortest_142 (by decide) ?_
                exact ih (S + 1) _ _ _ (by omega) (by omega) (by show dq_W D vwCl ad1 (dq_U w1 27 (.inl (g 0, sl1, .inl (mw_row (mw_fill sh1 hX hY hc S) hX hY hc S hc)))) A H; rw [hkn]; rw [← hkn]; rw [← hkn] at hW; exact hW) hS (lv_sub hl [1, 2, 3, 0] rfl)
              · have hkn : k < hc := by rcases Nat.lt_or_ge k hc with q | q; exact q; exact absurd (nI_le q (by omega)) c2
                refine lv_iload_n hx hb dWy_fillShortest_52 rfl (lv_at hl 3 rfl) ?_
                refine lv_iload hx hb dWy_fillShortest_53 (lv_at hl 4 rfl) ?_
                refine dq_calli (va_runSN (As := [.int (nI S), .int (nI k)]) (rest := []) ⟨hx, hb, hml, hown, hts⟩ (c_holds l D g ad1 (dq_U w1 27 (.inl (g 0, sl1, .inl (mw_row (mw_fill sh1 hX hY hc S) hX hY hc S k)))) _ S k  (by omega) (by omega)) ⟨va_cnB 2 hts (dq_gi tw2_86) rfl rfl rfl (hZ.n7) (hts _ (List.mem_cons_of_mem _ tw1_1)) (by decide +kernel) ⟨Nat.le_of_ble_eq_true rfl, Nat.le_of_ble_eq_true rfl⟩, (hts _ (List.mem_cons_of_mem _ tw2_85)), trivial⟩ (dq_preS hW hS hA hK hZ) rfl rfl hl.1 rfl (lv_room (Nat.le_of_ble_eq_true rfl)) dWy_fillShortest_55 ⟨Nat.le_refl _, Nat.le_refl _⟩) hW hS hA (fun r1 u_9 H locs hp1 hW hS hz9 => ?_)
                obtain ⟨hr1, hu9⟩ := hp1
                rw [hu9] at hW
                refine lv_if_ne (tgt := 133) hx hb dWy_fillShortest_58 (by decide) (fun c3 => ?_) (fun c3 => ?_)
                · have e5 : mw_row (mw_fill sh1 hX hY hc S) hX hY hc S (k + 1) = mw_row (mw_fill sh1 hX hY hc S) hX hY hc S k := if_pos (dq_b_t (by rw [← hr1]; exact c3))
                  refine lv_iinc (v := (nI (k + 1))) (lv' := [(4, .int (nI (k + 1))), (0, .ref (ad1 25)), (1, .ref (ad1 18)), (2, .int (nI (2 ^ hc))), (3, .int (nI S))]) hx hb dWy_fillShortest_133 hl (k := 4) rfl (by show nI k + 1 = _; exact nI_1 _) (by decide) rfl (fun ls hl => ?_)
                  refine lv_goto (tgt := 43) hx hb dWy_fillShortest_136 (by decide) ?_
                  exact ih4 (k + 1) _ _ _ (by omega) (by omega) (by rw [e5]; exact hW) hS (lv_sub hl [1, 2, 3, 4, 0] rfl)
                · have hbt : S.testBit k = false := dq_b_f (by rw [← hr1]; exact c3)
                  refine lv_aload_n hx hb dWy_fillShortest_61 rfl (lv_at hl 0 rfl) ?_
                  refine lv_aload_n hx hb dWy_fillShortest_62 rfl (lv_at hl 1 rfl) ?_
                  refine lv_iload_n hx hb dWy_fillShortest_63 rfl (lv_at hl 3 rfl) ?_
                  refine lv_aload_n hx hb dWy_fillShortest_64 rfl (lv_at hl 1 rfl) ?_
                  refine dq_get (D := D) (ci := 2) (v := .ref (ad1 19)) (C := RHt) (T := THt) (N := 5) hx hb hts hinHt hown hK hW 18 ((dq_Un (by decide)).trans e18) rfl 0 (by decide) hf41 (fun _ h9 => h9) rfl dWy_fillShortest_65 ?_
                  refine lv_iload hx hb dWy_fillShortest_68 (lv_at hl 4 rfl) ?_
                  refine dq_ialdN hx hb hK hW 19 0 ((dq_Un (by decide)).trans e19) rfl k (by omega) (by omega) dWy_fillShortest_70 ?_
                  refine lv_aload_n hx hb dWy_fillShortest_71 rfl (lv_at hl 1 rfl) ?_
                  refine dq_get (D := D) (ci := 2) (v := .ref (ad1 20)) (C := RHt) (T := THt) (N := 5) hx hb hts hinHt hown hK hW 18 ((dq_Un (by decide)).trans e18) rfl 1 (by decide) hf44 (fun _ h9 => h9) rfl dWy_fillShortest_72 ?_
                  refine lv_iload hx hb dWy_fillShortest_75 (lv_at hl 4 rfl) ?_
                  refine dq_ialdN hx hb hK hW 20 0 ((dq_Un (by decide)).trans e20) rfl k (by omega) (by omega) dWy_fillShortest_77 ?_
                  refine dq_calli (va_runV (As := [.ref (ad1 18), .int (nI S), .int (hX k), .int (hY k)]) (rest := []) ⟨hx, hb, hml, hown, hts⟩ (c_Way_nextHit l D g ad1 (dq_U w1 27 (.inl (g 0, sl1, .inl (mw_row (mw_fill sh1 hX hY hc S) hX hY hc S k)))) _ hX hY hc wl sq (mw_row (mw_fill sh1 hX hY hc S) hX hY hc S k) sl1 S (hX k) (hY k) ((dq_Un (by decide)).trans e18) ((dq_Un (by decide)).trans e19) ((dq_Un (by decide)).trans e20) ((dq_Un (by decide)).trans e25) dq_Us hc10 hSn hl2.1 hl2.2) (cwV 4 hts (dq_giV tw2_87 tw2_89 twp_6 tw1_9 tw2_90) rfl rfl rfl (by decide +kernel) ⟨Nat.le_of_ble_eq_true rfl, Nat.le_of_ble_eq_true rfl⟩) (dq_preV (ci := 6) hW hS hA hK hZ ((dq_Un (by decide)).trans e25) rfl rfl) rfl rfl hl.1 rfl (lv_room (Nat.le_of_ble_eq_true rfl)) dWy_fillShortest_78 ⟨Nat.le_refl _, Nat.le_refl _⟩) hW hS hA (fun r2 u_9 H locs hp2 hW hS hz9 => ?_)
                  obtain ⟨hr2, hu9⟩ := hp2
                  rw [hu9] at hW
                  refine lv_istore (lv' := [(5, .int r2), (0, .ref (ad1 25)), (1, .ref (ad1 18)), (2, .int (nI (2 ^ hc))), (3, .int (nI S)), (4, .int (nI k))]) hx hb dWy_fillShortest_81 hl (by decide) rfl (fun ls hl => ?_)
                  refine lv_iload hx hb dWy_fillShortest_83 (lv_at hl 0 rfl) ?_
                  refine lv_iconst (v := (-1)) hx hb dWy_fillShortest_85 (by decide) ?_
                  refine lv_icmp_ne (tgt := 93) hx hb dWy_fillShortest_86 (by decide) (fun c4 => ?_) (fun c4 => ?_)
                  · have hex : ∃ t, t < hc ∧ r2 = nI t := by rcases mw_nx_in (mw_row (mw_fill sh1 hX hY hc S) hX hY hc S k) hX hY hc S (hX k) (hY k) hc (by omega) with h9 | ⟨t, h7, h8, h9⟩; exact absurd (hr2.trans h9.1) c4; exact ⟨t, h7, hr2.trans h9⟩
                    obtain ⟨t, ht1, rfl⟩ := hex
                    refine lv_aload_n hx hb dWy_fillShortest_93 rfl (lv_at hl 1 rfl) ?_
                    refine lv_aload_n hx hb dWy_fillShortest_94 rfl (lv_at hl 2 rfl) ?_
                    refine lv_iload hx hb dWy_fillShortest_95 (lv_at hl 0 rfl) ?_
                    refine lv_iload_n hx hb dWy_fillShortest_97 rfl (lv_at hl 4 rfl) ?_
                    refine lv_aload_n hx hb dWy_fillShortest_98 rfl (lv_at hl 2 rfl) ?_
                    refine dq_get (D := D) (ci := 2) (v := .ref (ad1 19)) (C := RHt) (T := THt) (N := 5) hx hb hts hinHt hown hK hW 18 ((dq_Un (by decide)).trans e18) rfl 0 (by decide) hf41 (fun _ h9 => h9) rfl dWy_fillShortest_99 ?_
                    refine lv_iload hx hb dWy_fillShortest_102 (lv_at hl 5 rfl) ?_
                    refine dq_ialdN hx hb hK hW 19 0 ((dq_Un (by decide)).trans e19) rfl k (by omega) (by omega) dWy_fillShortest_104 ?_
                    refine lv_aload_n hx hb dWy_fillShortest_105 rfl (lv_at hl 2 rfl) ?_
                    refine dq_get (D := D) (ci := 2) (v := .ref (ad1 20)) (C := RHt) (T := THt) (N := 5) hx hb hts hinHt hown hK hW 18 ((dq_Un (by decide)).trans e18) rfl 1 (by decide) hf44 (fun _ h9 => h9) rfl dWy_fillShortest_106 ?_
                    refine lv_iload hx hb dWy_fillShortest_109 (lv_at hl 5 rfl) ?_
                    refine dq_ialdN hx hb hK hW 20 0 ((dq_Un (by decide)).trans e20) rfl k (by omega) (by omega) dWy_fillShortest_111 ?_
                    refine dq_calli (va_runV (As := [.ref (ad1 18), .int (nI t), .int (nI S), .int (hX k), .int (hY k)]) (rest := []) ⟨hx, hb, hml, hown, hts⟩ (c_Way_wayOver l D g ad1 (dq_U w1 27 (.inl (g 0, sl1, .inl (mw_row (mw_fill sh1 hX hY hc S) hX hY hc S k)))) _ hX hY hc wl sq (mw_row (mw_fill sh1 hX hY hc S) hX hY hc S k) sl1 t S (hX k) (hY k) ((dq_Un (by decide)).trans e18) ((dq_Un (by decide)).trans e19) ((dq_Un (by decide)).trans e20) ((dq_Un (by decide)).trans e25) dq_Us ht1 hc10 hSn hl2.1 hl2.2) (cwV 5 hts (dq_giV tw2_91 tw2_93 twp_7 tw1_9 tw2_94) rfl rfl rfl (by decide +kernel) ⟨Nat.le_of_ble_eq_true rfl, Nat.le_of_ble_eq_true rfl⟩) (dq_preV (ci := 6) hW hS hA hK hZ ((dq_Un (by decide)).trans e25) rfl rfl) rfl rfl hl.1 rfl (lv_room (Nat.le_of_ble_eq_true rfl)) dWy_fillShortest_112 ⟨Nat.le_refl _, Nat.le_refl _⟩) hW hS hA (fun r3 u_9 H locs hp3 hW hS hz9 => ?_)
                    obtain ⟨hr3, hu9⟩ := hp3
                    rw [hu9] at hW
                    subst hr3
                    have e5 : mw_row (mw_fill sh1 hX hY hc S) hX hY hc S (k + 1) = upd (mw_row (mw_fill sh1 hX hY hc S) hX hY hc S k) (S * hc + k) (mw_o (mw_row (mw_fill sh1 hX hY hc S) hX hY hc S k) hX hY hc t S (hX k) (hY k)) := by show (if S.testBit k = true then _ else _) = _; rw [if_neg (by rw [hbt]; decide), show mw_cell (mw_row (mw_fill sh1 hX hY hc S) hX hY hc S k) hX hY hc S k = mw_o (mw_row (mw_fill sh1 hX hY hc S) hX hY hc S k) hX hY hc t S (hX k) (hY k) from by unfold mw_cell; rw [← hr2, if_neg c4, nI_clamp (by omega)]]
                    refine lv_istore (lv' := [(6, .int (mw_o (mw_row (mw_fill sh1 hX hY hc S) hX hY hc S k) hX hY hc t S (hX k) (hY k))), (5, .int (nI t)), (0, .ref (ad1 25)), (1, .ref (ad1 18)), (2, .int (nI (2 ^ hc))), (3, .int (nI S)), (4, .int (nI k))]) hx hb dWy_fillShortest_115 hl (by decide) rfl (fun ls hl => ?_)
                    refine lv_aload_n hx hb dWy_fillShortest_117 rfl (lv_at hl 2 rfl) ?_
                    refine dq_get (D := D) (ci := 6) (v := .ref (ad1 27)) (C := RWy) (T := TWy) (N := 3) hx hb hts hinWy hown hK hW 25 ((dq_Un (by decide)).trans e25) rfl 2 (by decide) hf15 (fun _ h9 => h9) rfl dWy_fillShortest_118 ?_
                    refine lv_iload_n hx hb dWy_fillShortest_121 rfl (lv_at hl 5 rfl) ?_
                    refine lv_aload_n hx hb dWy_fillShortest_122 rfl (lv_at hl 3 rfl) ?_
                    refine dq_get (D := D) (ci := 2) (v := .int (nI hc)) (C := RHt) (T := THt) (N := 5) hx hb hts hinHt hown hK hW 18 ((dq_Un (by decide)).trans e18) rfl 4 (by decide) hf18 (fun _ h9 => h9) rfl dWy_fillShortest_123 ?_
                    refine lv_imul hx hb dWy_fillShortest_126 ?_
                    refine dq_top (y := nI (S * hc)) (pk_mul _ _) ?_
                    refine lv_iload hx hb dWy_fillShortest_127 (lv_at hl 6 rfl) ?_
                    refine lv_iadd hx hb dWy_fillShortest_129 ?_
                    refine dq_top (y := nI (S * hc + k)) (nI_add _ _) ?_
                    refine lv_iload hx hb dWy_fillShortest_130 (lv_at hl 0 rfl) ?_
                    refine dq_iastN hx hb hK hW hS 27 0 dq_Us rfl (S * hc + k) (Nat.lt_of_lt_of_le (mw_ix hSn hkn) hl2.1) (by omega) dWy_fillShortest_132 (fun H locs hW hS => ?_)
                    rw [dq_UU] at hW
                    refine lv_iinc (v := (nI (k + 1))) (lv' := [(4, .int (nI (k + 1))), (6, .int (mw_o (mw_row (mw_fill sh1 hX hY hc S) hX hY hc S k) hX hY hc t S (hX k) (hY k))), (5, .int (nI t)), (0, .ref (ad1 25)), (1, .ref (ad1 18)), (2, .int (nI (2 ^ hc))), (3, .int (nI S))]) hx hb dWy_fillShortest_133 hl (k := 6) rfl (by show nI k + 1 = _; exact nI_1 _) (by decide) rfl (fun ls hl => ?_)
                    refine lv_goto (tgt := 43) hx hb dWy_fillShortest_136 (by decide) ?_
                    exact ih4 (k + 1) _ _ _ (by omega) (by omega) (by rw [e5]; exact hW) hS (lv_sub hl [3, 4, 5, 6, 0] rfl)
                  · refine lv_iconst (v := (0)) hx hb dWy_fillShortest_89 (by decide) ?_
                    refine lv_goto (tgt := 115) hx hb dWy_fillShortest_90 (by decide) ?_
                    have e5 : mw_row (mw_fill sh1 hX hY hc S) hX hY hc S (k + 1) = upd (mw_row (mw_fill sh1 hX hY hc S) hX hY hc S k) (S * hc + k) 0 := by show (if S.testBit k = true then _ else _) = _; rw [if_neg (by rw [hbt]; decide), show mw_cell (mw_row (mw_fill sh1 hX hY hc S) hX hY hc S k) hX hY hc S k = 0 from if_pos (hr2.symm.trans c4)]
                    refine lv_istore (lv' := [(6, .int (0)), (5, .int r2), (0, .ref (ad1 25)), (1, .ref (ad1 18)), (2, .int (nI (2 ^ hc))), (3, .int (nI S)), (4, .int (nI k))]) hx hb dWy_fillShortest_115 hl (by decide) rfl (fun ls hl => ?_)
                    refine lv_aload_n hx hb dWy_fillShortest_117 rfl (lv_at hl 2 rfl) ?_
                    refine dq_get (D := D) (ci := 6) (v := .ref (ad1 27)) (C := RWy) (T := TWy) (N := 3) hx hb hts hinWy hown hK hW 25 ((dq_Un (by decide)).trans e25) rfl 2 (by decide) hf15 (fun _ h9 => h9) rfl dWy_fillShortest_118 ?_
                    refine lv_iload_n hx hb dWy_fillShortest_121 rfl (lv_at hl 5 rfl) ?_
                    refine lv_aload_n hx hb dWy_fillShortest_122 rfl (lv_at hl 3 rfl) ?_
                    refine dq_get (D := D) (ci := 2) (v := .int (nI hc)) (C := RHt) (T := THt) (N := 5) hx hb hts hinHt hown hK hW 18 ((dq_Un (by decide)).trans e18) rfl 4 (by decide) hf18 (fun _ h9 => h9) rfl dWy_fillShortest_123 ?_
                    refine lv_imul hx hb dWy_fillShortest_126 ?_
                    refine dq_top (y := nI (S * hc)) (pk_mul _ _) ?_
                    refine lv_iload hx hb dWy_fillShortest_127 (lv_at hl 6 rfl) ?_
                    refine lv_iadd hx hb dWy_fillShortest_129 ?_
                    refine dq_top (y := nI (S * hc + k)) (nI_add _ _) ?_
                    refine lv_iload hx hb dWy_fillShortest_130 (lv_at hl 0 rfl) ?_
                    refine dq_iastN hx hb hK hW hS 27 0 dq_Us rfl (S * hc + k) (Nat.lt_of_lt_of_le (mw_ix hSn hkn) hl2.1) (by omega) dWy_fillShortest_132 (fun H locs hW hS => ?_)
                    rw [dq_UU] at hW
                    refine lv_iinc (v := (nI (k + 1))) (lv' := [(4, .int (nI (k + 1))), (6, .int (0)), (5, .int r2), (0, .ref (ad1 25)), (1, .ref (ad1 18)), (2, .int (nI (2 ^ hc))), (3, .int (nI S))]) hx hb dWy_fillShortest_133 hl (k := 6) rfl (by show nI k + 1 = _; exact nI_1 _) (by decide) rfl (fun ls hl => ?_)
                    refine lv_goto (tgt := 43) hx hb dWy_fillShortest_136 (by decide) ?_
                    exact ih4 (k + 1) _ _ _ (by omega) (by omega) (by rw [e5]; exact hW) hS (lv_sub hl [3, 4, 5, 6, 0] rfl)
          exact loop4 (hc + 1) 0 _ _ _ (by omega) (Nat.zero_le _) hW hS (lv_sub hl [1, 2, 3, 4, 0] rfl)
    exact loop (2 ^ hc + 1) 0 _ _ _ (by omega) (Nat.zero_le _) (dq_Wc (by show _ = dq_U w1 27 (.inl (g 0, sl1, .inl sh1)); rw [dq_Uid e27]) hW) hS (lv_sub hl [1, 2, 3, 0] rfl)
  refine lv_iconst (v := (1)) hx hb dWy_fillShortest_0 (by decide) ?_
  refine lv_aload_n hx hb dWy_fillShortest_1 rfl (lv_at hl 1 rfl) ?_
  refine dq_get (D := D) (ci := 2) (v := .int (nI hc)) (C := RHt) (T := THt) (N := 5) hx hb hts hinHt hown hK hW 18 t18 rfl 4 (by decide) hf18 (fun _ h9 => h9) rfl dWy_fillShortest_2 ?_
  refine lv_ishl hx hb dWy_fillShortest_5 ?_
  refine dq_top (y := nI (2 ^ hc)) (dq_sh1 hc (by omega)) ?_
  refine lv_istore_n (lv' := [(2, .int (nI (2 ^ hc))), (0, .ref (ad 25)), (1, .ref (ad 18))]) hx hb dWy_fillShortest_6 rfl hl (by decide) rfl (fun ls hl => ?_)
  refine lv_aload_n hx hb dWy_fillShortest_7 rfl (lv_at hl 1 rfl) ?_
  refine dq_get (D := D) (ci := 6) (v := .ref (ad 27)) (C := RWy) (T := TWy) (N := 3) hx hb hts hinWy hown hK hW 25 y25 rfl 2 (by decide) hf15 (fun _ h9 => h9) rfl dWy_fillShortest_8 ?_
  refine dq_alen hx hb hK hW 27 0 y27 rfl (v := nI sl) rfl dWy_fillShortest_11 ?_
  refine lv_iload_n hx hb dWy_fillShortest_12 rfl (lv_at hl 0 rfl) ?_
  refine lv_aload_n hx hb dWy_fillShortest_13 rfl (lv_at hl 2 rfl) ?_
  refine dq_get (D := D) (ci := 2) (v := .int (nI hc)) (C := RHt) (T := THt) (N := 5) hx hb hts hinHt hown hK hW 18 t18 rfl 4 (by decide) hf18 (fun _ h9 => h9) rfl dWy_fillShortest_14 ?_
  refine lv_imul hx hb dWy_fillShortest_17 ?_
  refine dq_top (y := nI (2 ^ hc * hc)) (pk_mul _ _) ?_
  refine lv_icmp_ge (tgt := 33) hx hb dWy_fillShortest_18 (by decide) (fun c1 => ?_) (fun c1 => ?_)
  · have hge : ¬ sl < 2 ^ hc * hc := by have q9 := (nI_leI (by omega) (by omega)).mp c1; omega
    refine W.widen (k := (if sl < 2 ^ hc * hc then 1 else 0)) (n := (if sl < 2 ^ hc * hc then 2 ^ hc * hc else 0)) (Nat.zero_le _) (Nat.zero_le _) ?_
    exact j33 ad w sl sh _ _ _ (fun _ _ => rfl) (fun _ _ _ => rfl) y25 y27 (if_neg hge).symm hW hS (lv_sub hl [1, 2, 0] rfl)
  · have hlt : sl < 2 ^ hc * hc := by rcases Nat.lt_or_ge sl (2 ^ hc * hc) with q9 | q9; exact q9; exact absurd (nI_le q9 (by omega)) c1
    have hm1 : (if sl < 2 ^ hc * hc then 1 else 0) = 1 := if_pos hlt
    have hm2 : (if sl < 2 ^ hc * hc then 2 ^ hc * hc else 0) = 2 ^ hc * hc := if_pos hlt
    refine lv_aload_n hx hb dWy_fillShortest_21 rfl (lv_at hl 1 rfl) ?_
    refine lv_iload_n hx hb dWy_fillShortest_22 rfl (lv_at hl 0 rfl) ?_
    refine lv_aload_n hx hb dWy_fillShortest_23 rfl (lv_at hl 2 rfl) ?_
    refine dq_get (D := D) (ci := 2) (v := .int (nI hc)) (C := RHt) (T := THt) (N := 5) hx hb hts hinHt hown hK hW 18 t18 rfl 4 (by decide) hf18 (fun _ h9 => h9) rfl dWy_fillShortest_24 ?_
    refine lv_imul hx hb dWy_fillShortest_27 ?_
    refine dq_top (y := nI (2 ^ hc * hc)) (pk_mul _ _) ?_
    refine dq_newi (N := 2 ^ hc * hc) hx hb (hts _ (List.mem_cons_of_mem _ tw1_68)) hK hW hS hA 27 0 rfl (nI_pos (by omega)) (nI_clamp (by omega)) (by omega) (by show 0 + 1 ≤ (if sl < 2 ^ hc * hc then 1 else 0); omega) (by show 0 + 2 ^ hc * hc ≤ (if sl < 2 ^ hc * hc then 2 ^ hc * hc else 0); omega) dWy_fillShortest_28 (fun q9 H hW hS => ?_)
    have had : ∀ j, j ≠ 27 → va_up ad 27 q9 j = ad j := fun j h => va_up_ne _ _ h
    have h27 : va_up ad 27 q9 27 = q9 := va_up_self _ _ _
    generalize va_up ad 27 q9 = ad1 at hW had h27
    refine W.eq (g2 := F0 m 30 ls [.ref q9, .ref (ad1 25)]) (by rw [had 25 (by decide)]) ?_
    refine dq_put (D := D) (ci := 6) (v := .ref q9) (ty := (.array .int)) (C := RWy) (T := TWy) (N := 3) hx hb hts hinWy tyWy tyWy_ok nmWy hown hK hW hS 25 ((dq_Un (by decide)).trans y25) rfl 2 (by decide) hf15 (fun _ h9 => h9) rfl (by decide +kernel) rfl rfl (Nat.le_of_ble_eq_true rfl) dWy_fillShortest_30 (fun H locs hW hS => ?_)
    refine W.widen (k := (if sl < 2 ^ hc * hc then 1 else 0)) (n := (if sl < 2 ^ hc * hc then 2 ^ hc * hc else 0)) (by omega) (by omega) ?_
    exact j33 ad1 _ (2 ^ hc * hc) (fun _ => 0) _ _ _ had (fun j h1 h2 => (dq_Un h1).trans (dq_Un h2)) (by rw [h27, had 26 (by decide)]; exact dq_Us) ((dq_Un (by decide)).trans dq_Us) (if_pos hlt).symm hW hS (by rw [had 25 (by decide), had 18 (by decide)]; exact (lv_sub hl [1, 2, 0] rfl))
end
section
theorem dq_pc_zero {S n : Nat} (h : ∀ i, i < n → S.testBit i = false) : dq_pc S n = 0 := by
  induction n with
  | zero => rfl
  | succ n ih =>
    show (if S.testBit n = true then dq_pc S n + 1 else dq_pc S n) = 0
    rw [h n (by omega), if_neg (by decide)]
    exact ih (fun i hi => h i (by omega))
theorem dq_pc_full {c n : Nat} (h : n ≤ c) : dq_pc (2 ^ c - 1) n = n := by
  induction n with
  | zero => rfl
  | succ n ih =>
    show (if (2 ^ c - 1).testBit n = true then dq_pc (2 ^ c - 1) n + 1 else dq_pc (2 ^ c - 1) n) = n + 1
    rw [Nat.testBit_two_pow_sub_one, if_pos (decide_eq_true (by omega)), ih (by omega)]
theorem dq_df1 (S t j : Nat) (hj : j < 32) : (dq_df S (2 ^ t)).testBit j = (S.testBit j && !(decide (t = j))) := by
  rw [dq_df_bit S _ j hj, Nat.testBit_two_pow]
theorem dq_pc_df {S t : Nat} (n : Nat) (hn : n ≤ 31) (hb : S.testBit t = true) : (t < n → dq_pc (dq_df S (2 ^ t)) n + 1 = dq_pc S n) ∧ (n ≤ t → dq_pc (dq_df S (2 ^ t)) n = dq_pc S n) := by
  induction n with
  | zero => exact ⟨fun h => absurd h (by omega), fun _ => rfl⟩
  | succ n ih =>
    obtain ⟨i1, i2⟩ := ih (by omega)
    have e : (dq_df S (2 ^ t)).testBit n = (S.testBit n && !(decide (t = n))) := dq_df1 S t n (by omega)
    constructor
    · intro h
      show (if (dq_df S (2 ^ t)).testBit n = true then dq_pc (dq_df S (2 ^ t)) n + 1 else dq_pc (dq_df S (2 ^ t)) n) + 1 = (if S.testBit n = true then dq_pc S n + 1 else dq_pc S n)
      by_cases htn : t = n
      · subst htn
        rw [e, hb, if_neg (by simp), if_pos rfl, i2 (Nat.le_refl _)]
      · have i3 := i1 (by omega)
        have e2 : (dq_df S (2 ^ t)).testBit n = S.testBit n := by rw [e]; simp [htn]
        rw [e2]
        split <;> omega
    · intro h
      show (if (dq_df S (2 ^ t)).testBit n = true then dq_pc (dq_df S (2 ^ t)) n + 1 else dq_pc (dq_df S (2 ^ t)) n) = (if S.testBit n = true then dq_pc S n + 1 else dq_pc S n)
      have htn : ¬ t = n := by omega
      have e2 : (dq_df S (2 ^ t)).testBit n = S.testBit n := by rw [e]; simp [htn]
      rw [e2, i2 (by omega)]
theorem mw_tk_ok (sh hX hY : Nat → Int32) {hc : Nat} (hc10 : hc ≤ 10) (sq : Nat → Int32) (i : Nat) (hi : i ≤ hc) : dq_pc (mw_tk sh hX hY hc sq i).2.1 hc = hc - i ∧ ∀ a, a < i → ∃ t, t < hc ∧ (mw_tk sh hX hY hc sq i).1 a = nI t := by
  induction i with
  | zero => exact ⟨by show dq_pc (2 ^ hc - 1) hc = hc - 0; rw [dq_pc_full (Nat.le_refl _)]; rfl, fun a ha => absurd ha (by omega)⟩
  | succ i ih =>
    obtain ⟨h1, h2⟩ := ih (by omega)
    rcases mw_nx_in sh hX hY hc (mw_tk sh hX hY hc sq i).2.1 (mw_tk sh hX hY hc sq i).2.2.1 (mw_tk sh hX hY hc sq i).2.2.2 hc (by omega) with ⟨-, h9⟩ | ⟨t, h7, h8, h9⟩
    · rw [dq_pc_zero h9] at h1
      omega
    · have e5 := mw_tk_s (by omega) h9 (mw_ne1 (by omega))
      rw [e5]
      refine ⟨?_, fun a ha => ?_⟩
      · have := (dq_pc_df (S := (mw_tk sh hX hY hc sq i).2.1) hc (by omega) h8).1 h7
        show dq_pc (dq_df (mw_tk sh hX hY hc sq i).2.1 (2 ^ t)) hc = hc - (i + 1)
        omega
      · show ∃ t9, t9 < hc ∧ upd (mw_tk sh hX hY hc sq i).1 i (nI t) a = nI t9
        by_cases hai : a = i
        · subst hai
          exact ⟨t, h7, pk_us⟩
        · rw [pk_un hai]
          exact h2 a (by omega)
set_option maxHeartbeats 4000000 in
set_option maxRecDepth 100000 in
/-- Way.find -/
theorem c_Way_find (l : Launch) (D : va_G) (g : Nat → ClassId) (ad : Nat → Nat) (w : Nat → Option va_E) (sz : Nat) (hX hY : Nat → Int32) (hc : Nat) (wl : Int64) (sq sh : Nat → Int32) (sl : Nat) (t18 : w 18 = some (.inr (2, [.ref (ad 19), .ref (ad 20), .ref (ad 21), .ref (ad 22), .int (nI hc)]))) (t19 : w 19 = some (.inl (g 0, 14, .inl hX))) (t20 : w 20 = some (.inl (g 0, 14, .inl hY))) (y25 : w 25 = some (.inr (6, [.ref (ad 26), .long wl, .ref (ad 27)]))) (y26 : w 26 = some (.inl (g 0, 14, .inl sq))) (y27 : w 27 = some (.inl (g 0, sl, .inl sh))) (hc14 : hc ≤ 14) (hsl2 : sl ≤ 10240) : Met l yWy_find wsWy_find ({ frames := 5, cells := (if (hc ≤ 10 ∧ sl < 2 ^ hc * hc) then 1 else 0), slots := (if (hc ≤ 10 ∧ sl < 2 ^ hc * hc) then 2 ^ hc * hc else 0), locals := 140 } : Room) (va_Pc [.ref (ad 25), .ref (ad 18)] (dq_S D vwCl (dq_t g) ad w sz)) (va_Qv (fun u => (∀ j, j ≠ 27 → u.1 j = ad j) ∧ (∀ j, j ≠ 25 → j ≠ 26 → j ≠ 27 → u.2 j = w j) ∧ ∃ (SQ sh9 : Nat → Int32), ((hc ≤ 10 ∧ ∃ sh8 : Nat → Int32, SQ = (mw_tk (mw_fill sh8 hX hY hc (2 ^ hc)) hX hY hc sq hc).1) ∨ (10 < hc ∧ SQ = mw_own sq hc)) ∧ u.2 25 = some (.inr (6, [.ref (u.1 26), .long (mw_len hX hY (fun i => (SQ i).toNatClampNeg) hc).1, .ref (u.1 27)])) ∧ u.2 26 = some (.inl (g 0, 14, .inl SQ)) ∧ u.2 27 = some (.inl (g 0, (if (hc ≤ 10 ∧ sl < 2 ^ hc * hc) then 2 ^ hc * hc else sl), .inl sh9))) (dq_B2 D vwCl (dq_t g) (dq_A ad w sz)) (dq_A ad w sz)) (if (hc ≤ 10 ∧ sl < 2 ^ hc * hc) then 1 else 0) (if (hc ≤ 10 ∧ sl < 2 ^ hc * hc) then 2 ^ hc * hc else 0) (dq_A ad w sz) := by
  refine dq_ofv2 (cc := cWy_find) (maxL := 2) (by decide) rfl (Nat.le_of_ble_eq_true rfl) ?_
  intro p e s m below meth c A Q ls ⟨hx, hb, hml, hown, hts⟩ hnm hA hW hK hZ hl hret
  have hS : va_S A s.heap s.heap [] := va_S.rf
  have hl : lv_has ls 2 [(0, .ref (ad 25)), (1, .ref (ad 18))] := hl
  have hf18 := hts _ (List.mem_cons_of_mem _ tw1_173)
  have hinHt : ∀ w ∈ u_ws RHt THt 5, w ∈ wsWy_find := fun w h => List.mem_cons_of_mem _ (inHt w h)
  have j27 : ∀ (ad1 : Nat → Nat) (w1 : Nat → Option va_E) (sl1 : Nat) (SQ sh1 : Nat → Int32) (H : Heap) (locs : List Loc) (ls : Array Slot), (∀ j, j ≠ 27 → ad1 j = ad j) → (∀ j, j ≠ 25 → j ≠ 26 → j ≠ 27 → w1 j = w j) → ((hc ≤ 10 ∧ ∃ sh8 : Nat → Int32, SQ = (mw_tk (mw_fill sh8 hX hY hc (2 ^ hc)) hX hY hc sq hc).1) ∨ (10 < hc ∧ SQ = mw_own sq hc)) → w1 25 = some (.inr (6, [.ref (ad1 26), .long wl, .ref (ad1 27)])) → w1 26 = some (.inl (g 0, 14, .inl SQ)) → w1 27 = some (.inl (g 0, sl1, .inl sh1)) → sl1 = (if (hc ≤ 10 ∧ sl < 2 ^ hc * hc) then 2 ^ hc * hc else sl) → dq_W D vwCl ad1 w1 A H → va_S A s.heap H locs → lv_has ls 2 [(0, .ref (ad1 25)), (1, .ref (ad1 18))] → W p l e ({ frames := 5, cells := (if (hc ≤ 10 ∧ sl < 2 ^ hc * hc) then 1 else 0), slots := (if (hc ≤ 10 ∧ sl < 2 ^ hc * hc) then 2 ^ hc * hc else 0), locals := 140 } : Room) s m ([.ref (ad 25), .ref (ad 18)] : List Value).toArray below meth c H locs (if (hc ≤ 10 ∧ sl < 2 ^ hc * hc) then 1 else 0) (if (hc ≤ 10 ∧ sl < 2 ^ hc * hc) then 2 ^ hc * hc else 0) Q (F0 m 27 ls []) := by
    intro ad1 w1 sl1 SQ sh1 H locs ls hadj hfr hSQ e25 e26 e27 hl1 hW hS hl
    have e18 : w1 18 = some (.inr (2, [.ref (ad1 19), .ref (ad1 20), .ref (ad1 21), .ref (ad1 22), .int (nI hc)])) := by rw [hadj 19 (by decide), hadj 20 (by decide), hadj 21 (by decide), hadj 22 (by decide), hfr 18 (by decide) (by decide) (by decide)]; exact t18
    have e19 : w1 19 = some (.inl (g 0, 14, .inl hX)) := by rw [hfr 19 (by decide) (by decide) (by decide)]; exact t19
    have e20 : w1 20 = some (.inl (g 0, 14, .inl hY)) := by rw [hfr 20 (by decide) (by decide) (by decide)]; exact t20
    have hok : ∀ i, i < hc → SQ i = nI (SQ i).toNatClampNeg ∧ (SQ i).toNatClampNeg < 14 := by
      intro i hi
      have hex : ∃ t, t < hc ∧ SQ i = nI t := by
        rcases hSQ with ⟨h1, sh8, h2⟩ | ⟨h1, h2⟩
        · rw [h2]; exact (mw_tk_ok _ hX hY h1 sq hc (Nat.le_refl _)).2 i hi
        · exact ⟨i, hi, by rw [h2]; exact if_pos hi⟩
      obtain ⟨t, h1, h2⟩ := hex
      rw [h2, nI_clamp (by omega)]
      exact ⟨rfl, by omega⟩
    refine lv_aload_n hx hb dWy_find_27 rfl (lv_at hl 0 rfl) ?_
    refine lv_aload_n hx hb dWy_find_28 rfl (lv_at hl 1 rfl) ?_
    refine dq_callv (va_runV (As := [.ref (ad1 18)]) (rest := []) ⟨hx, hb, hml, hown, hts⟩ (c_Way_measure l D g ad1 (w1) _ hX hY hc wl SQ sh1 sl1 (fun i => (SQ i).toNatClampNeg) e18 e19 e20 e25 e26 hc14 hok) (cwV 1 hts (dq_giV tw2_112 tw2_114 twp_10 tw1_9 tw2_115) rfl rfl rfl (by decide +kernel) ⟨Nat.le_of_ble_eq_true rfl, Nat.le_of_ble_eq_true rfl⟩) (dq_preV (ci := 6) hW hS hA hK hZ e25 rfl rfl) rfl rfl hl.1 rfl (lv_room (Nat.le_of_ble_eq_true rfl)) dWy_find_29 ⟨Nat.le_refl _, Nat.le_refl _⟩) hW hS hA (fun u_9 H locs hp1 hW hS hz9 => ?_)
    obtain ⟨w2, hw2⟩ : ∃ w2, w2 = u_9 := ⟨_, rfl⟩
    rw [← hw2] at hp1 hW
    refine W.widen (k := (if (hc ≤ 10 ∧ sl < 2 ^ hc * hc) then 1 else 0)) (n := (if (hc ≤ 10 ∧ sl < 2 ^ hc * hc) then 2 ^ hc * hc else 0)) (Nat.le_refl _) (Nat.le_refl _) ?_
    exact hret (ad1, w2) _ _ _ _ ⟨hadj, fun j h1 h2 h3 => by show w2 j = _; rw [hp1, dq_Un h1]; exact hfr j h1 h2 h3, SQ, sh1, hSQ, by show w2 25 = _; rw [hp1, dq_Us], by show w2 26 = _; rw [hp1, dq_Un (by decide)]; exact e26, by show w2 27 = _; rw [hp1, dq_Un (by decide), e27, hl1]⟩ hW hS dWy_find_32
  refine lv_aload_n hx hb dWy_find_0 rfl (lv_at hl 1 rfl) ?_
  refine dq_get (D := D) (ci := 2) (v := .int (nI hc)) (C := RHt) (T := THt) (N := 5) hx hb hts hinHt hown hK hW 18 t18 rfl 4 (by decide) hf18 (fun _ h9 => h9) rfl dWy_find_1 ?_
  refine lv_bipush (v := (nI 10)) hx hb dWy_find_4 (by decide) ?_
  refine lv_icmp_gt (tgt := 22) hx hb dWy_find_6 (by decide) (fun c1 => ?_) (fun c1 => ?_)
  · have hbig : 10 < hc := (nI_ltI (by omega) (by omega)).mp c1
    refine lv_aload_n hx hb dWy_find_22 rfl (lv_at hl 0 rfl) ?_
    refine lv_aload_n hx hb dWy_find_23 rfl (lv_at hl 1 rfl) ?_
    refine dq_callv (va_runV (As := [.ref (ad 18)]) (rest := []) ⟨hx, hb, hml, hown, hts⟩ (c_Way_takeOwn l D g ad (w) _ hc wl sq sh sl t18 y25 y26 hc14) (cwV 1 hts (dq_giV tw2_108 tw2_110 twp_9 tw1_9 tw2_111) rfl rfl rfl (by decide +kernel) ⟨Nat.le_of_ble_eq_true rfl, Nat.le_of_ble_eq_true rfl⟩) (dq_preV (ci := 6) hW hS hA hK hZ y25 rfl rfl) rfl rfl hl.1 rfl (lv_room (Nat.le_of_ble_eq_true rfl)) dWy_find_24 ⟨Nat.zero_le _, Nat.zero_le _⟩) hW hS hA (fun u_9 H locs hp1 hW hS hz9 => ?_)
    obtain ⟨w2, hw2⟩ : ∃ w2, w2 = u_9 := ⟨_, rfl⟩
    rw [← hw2] at hp1 hW
    refine W.widen (k := (if (hc ≤ 10 ∧ sl < 2 ^ hc * hc) then 1 else 0)) (n := (if (hc ≤ 10 ∧ sl < 2 ^ hc * hc) then 2 ^ hc * hc else 0)) (Nat.zero_le _) (Nat.zero_le _) ?_
    exact j27 ad w2 sl (mw_own sq hc) sh _ _ _ (fun _ _ => rfl) (fun j h1 h2 h3 => by rw [hp1, dq_Un h2]) (Or.inr ⟨hbig, rfl⟩) (by rw [hp1, dq_Un (by decide)]; exact y25) (by rw [hp1, dq_Us]) (by rw [hp1, dq_Un (by decide)]; exact y27) (if_neg (fun h9 => absurd h9.1 (by omega))).symm hW hS (lv_sub hl [0, 1] rfl)
  · have hc10 : hc ≤ 10 := by rcases Nat.lt_or_ge 10 hc with q9 | q9; exact absurd (nI_lt q9 (by omega)) c1; exact q9
    have hm1 : ∀ a : Nat, (if (hc ≤ 10 ∧ sl < 2 ^ hc * hc) then a else 0) = (if sl < 2 ^ hc * hc then a else 0) := fun a => by simp only [hc10, true_and]
    refine lv_aload_n hx hb dWy_find_9 rfl (lv_at hl 0 rfl) ?_
    refine lv_aload_n hx hb dWy_find_10 rfl (lv_at hl 1 rfl) ?_
    refine dq_callv2 (va_runV (As := [.ref (ad 18)]) (rest := []) ⟨hx, hb, hml, hown, hts⟩ (c_Way_fillShortest l D g ad (w) _ hX hY hc wl sq sh sl t18 t19 t20 y25 y27 hc10 hsl2) (cwV 1 hts (dq_giV tw2_80 tw2_82 twp_5 tw1_9 tw2_83) rfl rfl rfl (by decide +kernel) ⟨Nat.le_of_ble_eq_true rfl, Nat.le_of_ble_eq_true rfl⟩) (dq_preV (ci := 6) hW hS hA hK hZ y25 rfl rfl) rfl rfl hl.1 rfl (lv_room (Nat.le_of_ble_eq_true rfl)) dWy_find_11 ⟨by show 0 + _ ≤ _; rw [Nat.zero_add]; exact Nat.le_of_eq (hm1 1).symm, by show 0 + _ ≤ _; rw [Nat.zero_add]; exact Nat.le_of_eq (hm1 _).symm⟩) hW hS hA (fun u_9 H locs hp1 hW hS hz9 => ?_)
    refine W.widen (k := (if (hc ≤ 10 ∧ sl < 2 ^ hc * hc) then 1 else 0)) (n := (if (hc ≤ 10 ∧ sl < 2 ^ hc * hc) then 2 ^ hc * hc else 0)) (by rw [Nat.zero_add]; exact Nat.le_of_eq (hm1 1).symm) (by rw [Nat.zero_add]; exact Nat.le_of_eq (hm1 _).symm) ?_
    obtain ⟨ad1, w1⟩ := u_9
    obtain ⟨hadj, hfr2, e25, sh8, e27⟩ := hp1
    dsimp only at hadj hfr2 e25 e27 hW
    have hfr : ∀ j, j ≠ 25 → j ≠ 26 → j ≠ 27 → w1 j = w j := fun j h1 _ h3 => hfr2 j h1 h3
    have e26 : w1 26 = some (.inl (g 0, 14, .inl sq)) := by rw [hfr2 26 (by decide) (by decide)]; exact y26
    have e18 : w1 18 = some (.inr (2, [.ref (ad1 19), .ref (ad1 20), .ref (ad1 21), .ref (ad1 22), .int (nI hc)])) := by rw [hadj 19 (by decide), hadj 20 (by decide), hadj 21 (by decide), hadj 22 (by decide), hfr 18 (by decide) (by decide) (by decide)]; exact t18
    have e19 : w1 19 = some (.inl (g 0, 14, .inl hX)) := by rw [hfr 19 (by decide) (by decide) (by decide)]; exact t19
    have e20 : w1 20 = some (.inl (g 0, 14, .inl hY)) := by rw [hfr 20 (by decide) (by decide) (by decide)]; exact t20
    have hl : lv_has ls 2 [(0, .ref (ad1 25)), (1, .ref (ad1 18))] := by rw [hadj 25 (by decide), hadj 18 (by decide)]; exact (lv_sub hl [0, 1] rfl)
    have hp9 : 2 ^ hc ≤ 1024 := Nat.le_trans (Nat.pow_le_pow_right (by omega) hc10) (Nat.le_refl 1024)
    have hp8 : 2 ^ hc * hc ≤ 10240 := Nat.le_trans (Nat.mul_le_mul hp9 hc10) (Nat.le_refl 10240)
    have hl2 : 2 ^ hc * hc ≤ (if sl < 2 ^ hc * hc then 2 ^ hc * hc else sl) ∧ (if sl < 2 ^ hc * hc then 2 ^ hc * hc else sl) ≤ 10240 := by split <;> omega
    refine lv_aload_n hx hb dWy_find_14 rfl (lv_at hl 0 rfl) ?_
    refine lv_aload_n hx hb dWy_find_15 rfl (lv_at hl 1 rfl) ?_
    refine dq_callv (va_runV (As := [.ref (ad1 18)]) (rest := []) ⟨hx, hb, hml, hown, hts⟩ (c_Way_takeShortest l D g ad1 (w1) _ hX hY hc wl sq (mw_fill sh8 hX hY hc (2 ^ hc)) (if sl < 2 ^ hc * hc then 2 ^ hc * hc else sl) e18 e19 e20 e25 e26 e27 hc10 hl2.1 hl2.2) (cwV 1 hts (dq_giV tw2_104 tw2_106 twp_8 tw1_9 tw2_107) rfl rfl rfl (by decide +kernel) ⟨Nat.le_of_ble_eq_true rfl, Nat.le_of_ble_eq_true rfl⟩) (dq_preV (ci := 6) hW hS hA hK hZ e25 rfl rfl) rfl rfl hl.1 rfl (lv_room (Nat.le_of_ble_eq_true rfl)) dWy_find_16 ⟨Nat.le_refl _, Nat.le_refl _⟩) hW hS hA (fun u_9 H locs hp1 hW hS hz9 => ?_)
    obtain ⟨w2, hw2⟩ : ∃ w2, w2 = u_9 := ⟨_, rfl⟩
    rw [← hw2] at hp1 hW
    refine lv_goto (tgt := 27) hx hb dWy_find_19 (by decide) ?_
    exact j27 ad1 w2 _ _ (mw_fill sh8 hX hY hc (2 ^ hc)) _ _ _ hadj (fun j h1 h2 h3 => by rw [hp1, dq_Un h2]; exact hfr j h1 h2 h3) (Or.inl ⟨hc10, sh8, rfl⟩) (by rw [hp1, dq_Un (by decide)]; exact e25) (by rw [hp1, dq_Us]) (by rw [hp1, dq_Un (by decide)]; exact e27) (by simp only [hc10, true_and]) hW hS (lv_sub hl [0, 1] rfl)
end
section
/-- the first k by f, the others by g -/
def dq_pw {α : Type} (k : Nat) (f g : Nat → α) : Nat → α := fun h => if h < k then f h else g h
theorem dq_pw_0 {α : Type} (f g : Nat → α) : dq_pw 0 f g = g := by
  funext h
  exact if_neg (by omega)
theorem dq_pw_k {α : Type} (k : Nat) (f g : Nat → α) : dq_pw k f g k = g k := if_neg (by omega)
theorem dq_pw_s {α : Type} (k : Nat) (f g : Nat → α) : dq_pw (k + 1) f g k = f k := if_pos (by omega)
theorem dq_pw_o {α : Type} {k h : Nat} (f g : Nat → α) (hne : h ≠ k) : dq_pw (k + 1) f g h = dq_pw k f g h := by
  unfold dq_pw
  by_cases h2 : h < k
  · rw [if_pos h2, if_pos (by omega)]
  · rw [if_neg h2, if_neg (by omega)]
/-- the holes that are SINGLE, of the first ones -/
def mf_sg (c : Nat → Nat) : Nat → Nat
  | 0 => 0
  | h + 1 => if c h = 0 then mf_sg c h ||| 2 ^ h else mf_sg c h
theorem dq_tn (x : Int32) : x = nI x.toBitVec.toNat := by
  apply Int32.toBitVec_inj.1
  show x.toBitVec = BitVec.ofNat 32 x.toBitVec.toNat
  simp
/-- bits of a row of numbers -/
def dq_N (D : Nat → Nat → Int32) : Nat → Nat → Nat := fun h p => (D h p).toBitVec.toNat
theorem dq_N_ok (D : Nat → Nat → Int32) (h p : Nat) : D h p = nI (dq_N D h p) := dq_tn _
theorem dq_U5 {w : Nat → Option va_E} {a b c d e : Nat} {x1 x2 x3 x4 x5 y1 y2 y3 y4 y5 : va_E} : dq_U (dq_U (dq_U (dq_U (dq_U (dq_U (dq_U (dq_U (dq_U (dq_U w a x1) b x2) c x3) d x4) e x5) a y1) b y2) c y3) d y4) e y5 = dq_U (dq_U (dq_U (dq_U (dq_U w a y1) b y2) c y3) d y4) e y5 := by
  funext j
  by_cases h1 : j = e
  · simp [dq_U, h1]
  · by_cases h2 : j = d
    · subst h2; simp [dq_U, h1]
    · by_cases h3 : j = c
      · subst h3; simp [dq_U, h1, h2]
      · by_cases h4 : j = b
        · subst h4; simp [dq_U, h1, h2, h3]
        · by_cases h5 : j = a
          · subst h5; simp [dq_U, h1, h2, h3, h4]
          · simp [dq_U, h1, h2, h3, h4, h5]
def mt_fN (fw : Nat → Int32) (DN : Nat → Nat) (S q : Nat) : Nat := if dq_fn (fun p => decide (fw (dq_df S (DN p)) = mt_aft fw DN S q)) q < q then dq_fn (fun p => decide (fw (dq_df S (DN p)) = mt_aft fw DN S q)) q else 0
theorem mt_first_N (fw : Nat → Int32) (DN : Nat → Nat) (S q : Nat) : mt_first fw DN S q = nI (mt_fN fw DN S q) := by
  unfold mt_first mt_fN
  split
  · rfl
  · rfl
theorem mt_fN_lt (fw : Nat → Int32) (DN : Nat → Nat) (S : Nat) {q : Nat} (hq : q ≤ 16) : mt_fN fw DN S q < 16 := by
  unfold mt_fN
  split <;> omega
theorem dq_fn_le (P : Nat → Bool) (n : Nat) : dq_fn P n ≤ n := by
  unfold dq_fn
  cases h : (List.range n).find? P with
  | none => exact Nat.le_refl n
  | some k => exact Nat.le_of_lt (List.mem_range.mp (List.mem_of_find?_eq_some h))
/-- the plan, k hits made: X, Y, face, bits, what is left -/
def mp_pl (fw : Nat → Int32) (DN : Nat → Nat → Nat) (qs : Nat → Nat) (XX YY : Nat → Nat → Int32) (pf : Nat → Int32) (z0 : (Nat → Int32) × (Nat → Int32) × (Nat → Int32) × (Nat → Int32) × Nat) : Nat → (Nat → Int32) × (Nat → Int32) × (Nat → Int32) × (Nat → Int32) × Nat
  | 0 => z0
  | k + 1 =>
    let z := mp_pl fw DN qs XX YY pf z0 k
    let t := dq_lo z.2.2.2.2
    let p := mt_fN fw (DN t) z.2.2.2.2 (qs t)
    (upd z.1 k (XX t p), upd z.2.1 k (YY t p), upd z.2.2.1 k (pf t), upd z.2.2.2.1 k (nI (DN t p &&& z.2.2.2.2)), dq_df z.2.2.2.2 (DN t p))
theorem mp_pl_le (fw : Nat → Int32) (DN : Nat → Nat → Nat) (qs : Nat → Nat) (XX YY : Nat → Nat → Int32) (pf : Nat → Int32) (z0 : (Nat → Int32) × (Nat → Int32) × (Nat → Int32) × (Nat → Int32) × Nat) (k : Nat) : (mp_pl fw DN qs XX YY pf z0 k).2.2.2.2 ≤ z0.2.2.2.2 := by
  induction k with
  | zero => exact Nat.le_refl _
  | succ k ih => exact Nat.le_trans (dq_df_le _ _) ih
/-- how many hits -/
def mp_n (fw : Nat → Int32) (DN : Nat → Nat → Nat) (qs : Nat → Nat) (XX YY : Nat → Nat → Int32) (pf : Nat → Int32) (z0 : (Nat → Int32) × (Nat → Int32) × (Nat → Int32) × (Nat → Int32) × Nat) : Nat := dq_fn (fun k => decide ((mp_pl fw DN qs XX YY pf z0 k).2.2.2.2 = 0)) 14
set_option maxHeartbeats 4000000 in
set_option maxRecDepth 100000 in
/-- DrillHeads.findPlaces() -/
theorem c_findPlaces (l : Launch) (D : va_G) (g : Nat → ClassId) (ad : Nat → Nat) (w : Nat → Option va_E) (sz : Nat) (sg pl : Int32) (n : Nat) (hx_ hy_ hw_ : Nat → Int32) (f0 f1 f2 f3 : Int32) (px py pw pd pf pt : Nat → Int32) (pc_ : Nat) (cx0 cy0 cx1 cy1 : Nat → Int32) (cc_ : Nat) (qs : Nat → Nat) (XX YY DD : Nat → Nat → Int32) (mq_ : Nat → Nat) (mX_ mY_ mD_ : Nat → Nat → Int32) (o0 : w 0 = some (.inr (7, [.ref (ad 1), .ref (ad 5), .ref (ad 12), .ref (ad 17), .ref (ad 18), .ref (ad 23), .ref (ad 25), .int sg, .int pl]))) (h1 : w 1 = some (.inr (1, [.ref (ad 2), .ref (ad 3), .ref (ad 4), .int f0, .int f1, .int f2, .int f3]))) (h2 : w 2 = some (.inl (g 0, n, .inl hx_))) (h3 : w 3 = some (.inl (g 0, n, .inl hy_))) (h4 : w 4 = some (.inl (g 0, n, .inl hw_))) (p5 : w 5 = some (.inr (3, [.ref (ad 6), .ref (ad 7), .ref (ad 8), .ref (ad 9), .ref (ad 10), .ref (ad 11), .int (nI pc_)]))) (p6 : w 6 = some (.inl (g 0, 14, .inl px))) (p7 : w 7 = some (.inl (g 0, 14, .inl py))) (p8 : w 8 = some (.inl (g 0, 14, .inl pw))) (p9 : w 9 = some (.inl (g 0, 14, .inl pd))) (p10 : w 10 = some (.inl (g 0, 14, .inl pf))) (p11 : w 11 = some (.inl (g 1, 14, .inl pt))) (k12 : w 12 = some (.inr (0, [.ref (ad 13), .ref (ad 14), .ref (ad 15), .ref (ad 16), .int (nI cc_)]))) (k13 : w 13 = some (.inl (g 0, 6, .inl cx0))) (k14 : w 14 = some (.inl (g 0, 6, .inl cy0))) (k15 : w 15 = some (.inl (g 0, 6, .inl cx1))) (k16 : w 16 = some (.inl (g 0, 6, .inl cy1))) (a17 : w 17 = some (.inl (g 3, 14, .inr (.inr (.inr (.inr (fun h => some (ad (30 + 4 * h))))))))) (hn : n ≤ 16) (hc : cc_ ≤ 6) (hpc : pc_ ≤ 14) (hq16 : ∀ h, h < 14 → qs h ≤ 16) (lp0 : ∀ h, h < 14 → w (30 + 4 * h) = some (.inr (4, [.ref (ad (31 + 4 * h)), .ref (ad (32 + 4 * h)), .ref (ad (33 + 4 * h)), .int (nI (qs h))]))) (lp1 : ∀ h, h < 14 → w (31 + 4 * h) = some (.inl (g 0, 16, .inl (XX h)))) (lp2 : ∀ h, h < 14 → w (32 + 4 * h) = some (.inl (g 0, 16, .inl (YY h)))) (lp3 : ∀ h, h < 14 → w (33 + 4 * h) = some (.inl (g 0, 16, .inl (DD h)))) (hmq : mq_ = (fun h => ((fun h => mp_find hx_ hy_ hw_ (px h) (py h) (pw h) (mc_bar cx0 cy0 cx1 cy1 cc_ f0 f1 f2 f3) (XX h) (YY h) n) h).1)) (hmX : mX_ = (fun h => ((fun h => mp_find hx_ hy_ hw_ (px h) (py h) (pw h) (mc_bar cx0 cy0 cx1 cy1 cc_ f0 f1 f2 f3) (XX h) (YY h) n) h).2.1)) (hmY : mY_ = (fun h => ((fun h => mp_find hx_ hy_ hw_ (px h) (py h) (pw h) (mc_bar cx0 cy0 cx1 cy1 cc_ f0 f1 f2 f3) (XX h) (YY h) n) h).2.2)) (hmD : mD_ = (fun h => mp_D (fun p => mp_bits (mp_F hx_ hy_ hw_ px py pw pd pf pt n h (((fun h => mp_find hx_ hy_ hw_ (px h) (py h) (pw h) (mc_bar cx0 cy0 cx1 cy1 cc_ f0 f1 f2 f3) (XX h) (YY h) n) h).2.1 p) (((fun h => mp_find hx_ hy_ hw_ (px h) (py h) (pw h) (mc_bar cx0 cy0 cx1 cy1 cc_ f0 f1 f2 f3) (XX h) (YY h) n) h).2.2 p)) h (pc_ - h)) (DD h) ((fun h => mp_find hx_ hy_ hw_ (px h) (py h) (pw h) (mc_bar cx0 cy0 cx1 cy1 cc_ f0 f1 f2 f3) (XX h) (YY h) n) h).1)) : Met l yDH_findPlaces wsDH_findPlaces ({ frames := 5, cells := 0, slots := 0, locals := 120 } : Room) (va_Pc [.ref (ad 0)] (dq_S D vwCl (dq_t g) ad w sz)) (va_Qv (fun u => (∀ j, j ≠ 0 → (j < 30 ∨ 86 ≤ j) → u j = w j) ∧ u 0 = some (.inr (7, [.ref (ad 1), .ref (ad 5), .ref (ad 12), .ref (ad 17), .ref (ad 18), .ref (ad 23), .ref (ad 25), .int (nI (mf_sg mq_ pc_)), .int pl])) ∧ (∀ h, h < 14 → u (30 + 4 * h) = some (.inr (4, [.ref (ad (31 + 4 * h)), .ref (ad (32 + 4 * h)), .ref (ad (33 + 4 * h)), .int (nI (dq_pw pc_ mq_ qs h))]))) ∧ (∀ h, h < 14 → u (31 + 4 * h) = some (.inl (g 0, 16, .inl (dq_pw pc_ mX_ XX h)))) ∧ (∀ h, h < 14 → u (32 + 4 * h) = some (.inl (g 0, 16, .inl (dq_pw pc_ mY_ YY h)))) ∧ (∀ h, h < 14 → u (33 + 4 * h) = some (.inl (g 0, 16, .inl (dq_pw pc_ mD_ DD h))))) (dq_B D vwCl (dq_t g) ad (dq_A ad w sz)) (dq_A ad w sz)) 0 0 (dq_A ad w sz) := by
  refine dq_ofv (cc := cDH_findPlaces) (maxL := 2) (by decide) rfl (Nat.le_of_ble_eq_true rfl) ?_
  intro p e s m below meth c A Q ls ⟨hx, hb, hml, hown, hts⟩ hnm hA hW hK hZ hl hret
  have hS : va_S A s.heap s.heap [] := va_S.rf
  have hl : lv_has ls 2 [(0, .ref (ad 0))] := hl
  have hf23 := hts _ (List.mem_cons_of_mem _ tw1_214)
  have hf30 := hts _ (List.mem_cons_of_mem _ tw1_215)
  have hf37 := hts _ (List.mem_cons_of_mem _ tw1_216)
  have hf43 := hts _ (List.mem_cons_of_mem _ tw1_217)
  have hf96 := hts _ (List.mem_cons_of_mem _ tw1_89)
  have hf172 := hts _ (List.mem_cons_of_mem _ tw1_221)
  have hf194 := hts _ (List.mem_cons_of_mem _ tw1_146)
  have hinDH : ∀ w ∈ u_ws RDH TDH 9, w ∈ wsDH_findPlaces := fun w h => List.mem_cons_of_mem _ (inDH w h)
  have hinPt : ∀ w ∈ u_ws RPt TPt 7, w ∈ wsDH_findPlaces := fun w h => List.mem_cons_of_mem _ (inPt w h)
  have hinPl : ∀ w ∈ u_ws RPl TPl 4, w ∈ wsDH_findPlaces := fun w h => List.mem_cons_of_mem _ (inPl w h)
  refine lv_aload_n hx hb dDH_findPlaces_0 rfl (lv_at hl 0 rfl) ?_
  refine lv_iconst (v := (nI 0)) hx hb dDH_findPlaces_1 (by decide) ?_
  refine dq_put (D := D) (ci := 7) (v := .int (nI 0)) (ty := .int) (C := RDH) (T := TDH) (N := 9) hx hb hts hinDH tyDH tyDH_ok nmDH hown hK hW hS 0 o0 rfl 7 (by decide) hf172 (fun _ h9 => h9) rfl (by decide +kernel) rfl rfl (Nat.le_of_ble_eq_true rfl) dDH_findPlaces_2 (fun H locs hW hS => ?_)
  refine lv_iconst (v := (nI 0)) hx hb dDH_findPlaces_5 (by decide) ?_
  refine lv_istore_n (lv' := [(1, .int (nI 0)), (0, .ref (ad 0))]) hx hb dDH_findPlaces_6 rfl hl (by decide) rfl (fun ls hl => ?_)
  have loop : ∀ (j k : Nat) (w1 : Nat → Option va_E) (H : Heap) (locs : List Loc) (ls : Array Slot), pc_ < k + j → k ≤ pc_ → ((∀ j, j ≠ 0 → (j < 30 ∨ 86 ≤ j) → w1 j = w j) ∧ w1 0 = some (.inr (7, [.ref (ad 1), .ref (ad 5), .ref (ad 12), .ref (ad 17), .ref (ad 18), .ref (ad 23), .ref (ad 25), .int (nI (mf_sg mq_ k)), .int pl])) ∧ (∀ h, h < 14 → w1 (30 + 4 * h) = some (.inr (4, [.ref (ad (31 + 4 * h)), .ref (ad (32 + 4 * h)), .ref (ad (33 + 4 * h)), .int (nI (dq_pw k mq_ qs h))]))) ∧ (∀ h, h < 14 → w1 (31 + 4 * h) = some (.inl (g 0, 16, .inl (dq_pw k mX_ XX h)))) ∧ (∀ h, h < 14 → w1 (32 + 4 * h) = some (.inl (g 0, 16, .inl (dq_pw k mY_ YY h)))) ∧ (∀ h, h < 14 → w1 (33 + 4 * h) = some (.inl (g 0, 16, .inl (dq_pw k mD_ DD h))))) → dq_W D vwCl ad w1 A H → va_S A s.heap H locs → lv_has ls 2 [(0, .ref (ad 0)), (1, .int (nI k))] → W p l e ({ frames := 5, cells := 0, slots := 0, locals := 120 } : Room) s m ([.ref (ad 0)] : List Value).toArray below meth c H locs 0 0 Q (F0 m 7 ls []) := by
    intro j
    induction j with
    | zero => intro k w1 H locs ls hj hk hP hW hS hl; exact absurd hj (by omega)
    | succ j ih =>
      intro k w1 H locs ls hj hk hP hW hS hl
      have hP0 := hP
      obtain ⟨hfr, o0, lp0, lp1, lp2, lp3⟩ := hP
      refine lv_iload_n hx hb dDH_findPlaces_7 rfl (lv_at hl 1 rfl) ?_
      refine lv_aload_n hx hb dDH_findPlaces_8 rfl (lv_at hl 0 rfl) ?_
      refine dq_get (D := D) (ci := 7) (v := .ref (ad 5)) (C := RDH) (T := TDH) (N := 9) hx hb hts hinDH hown hK hW 0 o0 rfl 1 (by decide) hf30 (fun _ h9 => h9) rfl dDH_findPlaces_9 ?_
      refine dq_get (D := D) (ci := 3) (v := .int (nI pc_)) (C := RPt) (T := TPt) (N := 7) hx hb hts hinPt hown hK hW 5 ((hfr 5 (by decide) (Or.inl (by decide))).trans p5) rfl 6 (by decide) hf96 (fun _ h9 => h9) rfl dDH_findPlaces_12 ?_
      refine lv_icmp_ge (tgt := 88) hx hb dDH_findPlaces_15 (by decide) (fun c1 => ?_) (fun c1 => ?_)
      · have hkn : pc_ = k := by have q9 := (nI_leI (by omega) (by omega)).mp c1; omega
        subst hkn
        exact hret _ _ _ _ _ hP0 hW hS dDH_findPlaces_88
      · have hkn : k < pc_ := by rcases Nat.lt_or_ge k pc_ with q | q; exact q; exact absurd (nI_le q (by omega)) c1
        have m0 : w1 (30 + 4 * k) = some (.inr (4, [.ref (ad (31 + 4 * k)), .ref (ad (32 + 4 * k)), .ref (ad (33 + 4 * k)), .int (nI (qs k))])) := by rw [← dq_pw_k k mq_ qs]; exact lp0 k (by omega)
        have m1 : w1 (31 + 4 * k) = some (.inl (g 0, 16, .inl (XX k))) := by rw [← dq_pw_k k mX_ XX]; exact lp1 k (by omega)
        have m2 : w1 (32 + 4 * k) = some (.inl (g 0, 16, .inl (YY k))) := by rw [← dq_pw_k k mY_ YY]; exact lp2 k (by omega)
        have m3 : w1 (33 + 4 * k) = some (.inl (g 0, 16, .inl (DD k))) := by rw [← dq_pw_k k mD_ DD]; exact lp3 k (by omega)
        refine lv_aload_n hx hb dDH_findPlaces_18 rfl (lv_at hl 0 rfl) ?_
        refine dq_get (D := D) (ci := 7) (v := .ref (ad 17)) (C := RDH) (T := TDH) (N := 9) hx hb hts hinDH hown hK hW 0 o0 rfl 3 (by decide) hf43 (fun _ h9 => h9) rfl dDH_findPlaces_19 ?_
        refine lv_iload_n hx hb dDH_findPlaces_22 rfl (lv_at hl 1 rfl) ?_
        refine dq_aaldN hx hb hK hW 17 3 ((hfr 17 (by decide) (Or.inl (by decide))).trans a17) rfl k (by omega) (by omega) (a := (ad (30 + 4 * k))) rfl dDH_findPlaces_23 ?_
        refine lv_iload_n hx hb dDH_findPlaces_24 rfl (lv_at hl 1 rfl) ?_
        refine lv_aload_n hx hb dDH_findPlaces_25 rfl (lv_at hl 0 rfl) ?_
        refine dq_get (D := D) (ci := 7) (v := .ref (ad 5)) (C := RDH) (T := TDH) (N := 9) hx hb hts hinDH hown hK hW 0 o0 rfl 1 (by decide) hf30 (fun _ h9 => h9) rfl dDH_findPlaces_26 ?_
        refine lv_aload_n hx hb dDH_findPlaces_29 rfl (lv_at hl 0 rfl) ?_
        refine dq_get (D := D) (ci := 7) (v := .ref (ad 1)) (C := RDH) (T := TDH) (N := 9) hx hb hts hinDH hown hK hW 0 o0 rfl 0 (by decide) hf23 (fun _ h9 => h9) rfl dDH_findPlaces_30 ?_
        refine lv_aload_n hx hb dDH_findPlaces_33 rfl (lv_at hl 0 rfl) ?_
        refine dq_get (D := D) (ci := 7) (v := .ref (ad 12)) (C := RDH) (T := TDH) (N := 9) hx hb hts hinDH hown hK hW 0 o0 rfl 2 (by decide) hf37 (fun _ h9 => h9) rfl dDH_findPlaces_34 ?_
        refine dq_callv (va_runV (As := [.int (nI k), .ref (ad 5), .ref (ad 1), .ref (ad 12)]) (rest := []) ⟨hx, hb, hml, hown, hts⟩ (c_Places_find l D g ad (w1) _ n hx_ hy_ hw_ f0 f1 f2 f3 px py pw pd pf pt pc_ cx0 cy0 cx1 cy1 cc_ k (qs k) (XX k) (YY k) (DD k) k ((hfr 1 (by decide) (Or.inl (by decide))).trans h1) ((hfr 2 (by decide) (Or.inl (by decide))).trans h2) ((hfr 3 (by decide) (Or.inl (by decide))).trans h3) ((hfr 4 (by decide) (Or.inl (by decide))).trans h4) ((hfr 5 (by decide) (Or.inl (by decide))).trans p5) ((hfr 6 (by decide) (Or.inl (by decide))).trans p6) ((hfr 7 (by decide) (Or.inl (by decide))).trans p7) ((hfr 8 (by decide) (Or.inl (by decide))).trans p8) ((hfr 12 (by decide) (Or.inl (by decide))).trans k12) ((hfr 13 (by decide) (Or.inl (by decide))).trans k13) ((hfr 14 (by decide) (Or.inl (by decide))).trans k14) ((hfr 15 (by decide) (Or.inl (by decide))).trans k15) ((hfr 16 (by decide) (Or.inl (by decide))).trans k16) m0 m1 m2 hn hc (by omega)) (cwV 4 hts (dq_giV tw2_10 tw2_11 tw2_12 tw1_6 tw2_13) rfl rfl rfl (by decide +kernel) ⟨Nat.le_of_ble_eq_true rfl, Nat.le_of_ble_eq_true rfl⟩) (dq_preV (ci := 4) hW hS hA hK hZ m0 rfl rfl) rfl rfl hl.1 rfl (lv_room (Nat.le_of_ble_eq_true rfl)) dDH_findPlaces_37 ⟨Nat.zero_le _, Nat.zero_le _⟩) hW hS hA (fun u_9 H locs hp1 hW hS hz9 => ?_)
        rw [hp1] at hW
        have hr16 : (mp_find hx_ hy_ hw_ (px k) (py k) (pw k) (mc_bar cx0 cy0 cx1 cy1 cc_ f0 f1 f2 f3) (XX k) (YY k) n).1 ≤ 16 := mp_find_le _ _ _ _ _ _ _ _ _ _
        refine lv_aload_n hx hb dDH_findPlaces_40 rfl (lv_at hl 0 rfl) ?_
        refine dq_get (D := D) (ci := 7) (v := .ref (ad 17)) (C := RDH) (T := TDH) (N := 9) hx hb hts hinDH hown hK hW 0 ((dq_Un (by omega)).trans ((dq_Un (by omega)).trans ((dq_Un (by omega)).trans o0))) rfl 3 (by decide) hf43 (fun _ h9 => h9) rfl dDH_findPlaces_41 ?_
        refine lv_iload_n hx hb dDH_findPlaces_44 rfl (lv_at hl 1 rfl) ?_
        refine dq_aaldN hx hb hK hW 17 3 ((dq_Un (by omega)).trans ((dq_Un (by omega)).trans ((dq_Un (by omega)).trans ((hfr 17 (by decide) (Or.inl (by decide))).trans a17)))) rfl k (by omega) (by omega) (a := (ad (30 + 4 * k))) rfl dDH_findPlaces_45 ?_
        refine lv_iload_n hx hb dDH_findPlaces_46 rfl (lv_at hl 1 rfl) ?_
        refine lv_aload_n hx hb dDH_findPlaces_47 rfl (lv_at hl 0 rfl) ?_
        refine dq_get (D := D) (ci := 7) (v := .ref (ad 5)) (C := RDH) (T := TDH) (N := 9) hx hb hts hinDH hown hK hW 0 ((dq_Un (by omega)).trans ((dq_Un (by omega)).trans ((dq_Un (by omega)).trans o0))) rfl 1 (by decide) hf30 (fun _ h9 => h9) rfl dDH_findPlaces_48 ?_
        refine lv_aload_n hx hb dDH_findPlaces_51 rfl (lv_at hl 0 rfl) ?_
        refine dq_get (D := D) (ci := 7) (v := .ref (ad 1)) (C := RDH) (T := TDH) (N := 9) hx hb hts hinDH hown hK hW 0 ((dq_Un (by omega)).trans ((dq_Un (by omega)).trans ((dq_Un (by omega)).trans o0))) rfl 0 (by decide) hf23 (fun _ h9 => h9) rfl dDH_findPlaces_52 ?_
        refine dq_callv (va_runV (As := [.int (nI k), .ref (ad 5), .ref (ad 1)]) (rest := []) ⟨hx, hb, hml, hown, hts⟩ (c_Places_findDrilled l D g ad (dq_U (dq_U (dq_U w1 (31 + 4 * k) (.inl (g 0, 16, .inl ((mp_find hx_ hy_ hw_ (px k) (py k) (pw k) (mc_bar cx0 cy0 cx1 cy1 cc_ f0 f1 f2 f3) (XX k) (YY k) n).2.1)))) (32 + 4 * k) (.inl (g 0, 16, .inl ((mp_find hx_ hy_ hw_ (px k) (py k) (pw k) (mc_bar cx0 cy0 cx1 cy1 cc_ f0 f1 f2 f3) (XX k) (YY k) n).2.2)))) (30 + 4 * k) (.inr (4, [.ref (ad (31 + 4 * k)), .ref (ad (32 + 4 * k)), .ref (ad (33 + 4 * k)), .int (nI ((mp_find hx_ hy_ hw_ (px k) (py k) (pw k) (mc_bar cx0 cy0 cx1 cy1 cc_ f0 f1 f2 f3) (XX k) (YY k) n).1))]))) _ n hx_ hy_ hw_ f0 f1 f2 f3 px py pw pd pf pt pc_ k ((mp_find hx_ hy_ hw_ (px k) (py k) (pw k) (mc_bar cx0 cy0 cx1 cy1 cc_ f0 f1 f2 f3) (XX k) (YY k) n).1) ((mp_find hx_ hy_ hw_ (px k) (py k) (pw k) (mc_bar cx0 cy0 cx1 cy1 cc_ f0 f1 f2 f3) (XX k) (YY k) n).2.1) ((mp_find hx_ hy_ hw_ (px k) (py k) (pw k) (mc_bar cx0 cy0 cx1 cy1 cc_ f0 f1 f2 f3) (XX k) (YY k) n).2.2) (DD k) k ((dq_Un (by omega)).trans ((dq_Un (by omega)).trans ((dq_Un (by omega)).trans ((hfr 1 (by decide) (Or.inl (by decide))).trans h1)))) ((dq_Un (by omega)).trans ((dq_Un (by omega)).trans ((dq_Un (by omega)).trans ((hfr 2 (by decide) (Or.inl (by decide))).trans h2)))) ((dq_Un (by omega)).trans ((dq_Un (by omega)).trans ((dq_Un (by omega)).trans ((hfr 3 (by decide) (Or.inl (by decide))).trans h3)))) ((dq_Un (by omega)).trans ((dq_Un (by omega)).trans ((dq_Un (by omega)).trans ((hfr 4 (by decide) (Or.inl (by decide))).trans h4)))) ((dq_Un (by omega)).trans ((dq_Un (by omega)).trans ((dq_Un (by omega)).trans ((hfr 5 (by decide) (Or.inl (by decide))).trans p5)))) ((dq_Un (by omega)).trans ((dq_Un (by omega)).trans ((dq_Un (by omega)).trans ((hfr 6 (by decide) (Or.inl (by decide))).trans p6)))) ((dq_Un (by omega)).trans ((dq_Un (by omega)).trans ((dq_Un (by omega)).trans ((hfr 7 (by decide) (Or.inl (by decide))).trans p7)))) ((dq_Un (by omega)).trans ((dq_Un (by omega)).trans ((dq_Un (by omega)).trans ((hfr 8 (by decide) (Or.inl (by decide))).trans p8)))) ((dq_Un (by omega)).trans ((dq_Un (by omega)).trans ((dq_Un (by omega)).trans ((hfr 9 (by decide) (Or.inl (by decide))).trans p9)))) ((dq_Un (by omega)).trans ((dq_Un (by omega)).trans ((dq_Un (by omega)).trans ((hfr 10 (by decide) (Or.inl (by decide))).trans p10)))) ((dq_Un (by omega)).trans ((dq_Un (by omega)).trans ((dq_Un (by omega)).trans ((hfr 11 (by decide) (Or.inl (by decide))).trans p11)))) dq_Us ((dq_Un (by omega)).trans ((dq_Un (by omega)).trans dq_Us)) ((dq_Un (by omega)).trans dq_Us) ((dq_Un (by omega)).trans ((dq_Un (by omega)).trans ((dq_Un (by omega)).trans m3))) hn hr16 hkn hpc) (cwV 3 hts (dq_giV tw2_27 tw2_28 tw2_29 tw1_6 tw2_30) rfl rfl rfl (by decide +kernel) ⟨Nat.le_of_ble_eq_true rfl, Nat.le_of_ble_eq_true rfl⟩) (dq_preV (ci := 4) hW hS hA hK hZ dq_Us rfl rfl) rfl rfl hl.1 rfl (lv_room (Nat.le_of_ble_eq_true rfl)) dDH_findPlaces_55 ⟨Nat.zero_le _, Nat.zero_le _⟩) hW hS hA (fun u_9 H locs hp2 hW hS hz9 => ?_)
        rw [hp2] at hW
        have q0 : mq_ k = (mp_find hx_ hy_ hw_ (px k) (py k) (pw k) (mc_bar cx0 cy0 cx1 cy1 cc_ f0 f1 f2 f3) (XX k) (YY k) n).1 := by rw [hmq]
        have q1 : mX_ k = (mp_find hx_ hy_ hw_ (px k) (py k) (pw k) (mc_bar cx0 cy0 cx1 cy1 cc_ f0 f1 f2 f3) (XX k) (YY k) n).2.1 := by rw [hmX]
        have q2 : mY_ k = (mp_find hx_ hy_ hw_ (px k) (py k) (pw k) (mc_bar cx0 cy0 cx1 cy1 cc_ f0 f1 f2 f3) (XX k) (YY k) n).2.2 := by rw [hmY]
        have q3 : mD_ k = (mp_D (fun p => mp_bits (mp_F hx_ hy_ hw_ px py pw pd pf pt n k ((mp_find hx_ hy_ hw_ (px k) (py k) (pw k) (mc_bar cx0 cy0 cx1 cy1 cc_ f0 f1 f2 f3) (XX k) (YY k) n).2.1 p) ((mp_find hx_ hy_ hw_ (px k) (py k) (pw k) (mc_bar cx0 cy0 cx1 cy1 cc_ f0 f1 f2 f3) (XX k) (YY k) n).2.2 p)) k (pc_ - k)) (DD k) (mp_find hx_ hy_ hw_ (px k) (py k) (pw k) (mc_bar cx0 cy0 cx1 cy1 cc_ f0 f1 f2 f3) (XX k) (YY k) n).1) := by rw [hmD]
        obtain ⟨w2, hw2⟩ : ∃ w2, w2 = dq_U (dq_U (dq_U (dq_U w1 (31 + 4 * k) (.inl (g 0, 16, .inl ((mp_find hx_ hy_ hw_ (px k) (py k) (pw k) (mc_bar cx0 cy0 cx1 cy1 cc_ f0 f1 f2 f3) (XX k) (YY k) n).2.1)))) (32 + 4 * k) (.inl (g 0, 16, .inl ((mp_find hx_ hy_ hw_ (px k) (py k) (pw k) (mc_bar cx0 cy0 cx1 cy1 cc_ f0 f1 f2 f3) (XX k) (YY k) n).2.2)))) (30 + 4 * k) (.inr (4, [.ref (ad (31 + 4 * k)), .ref (ad (32 + 4 * k)), .ref (ad (33 + 4 * k)), .int (nI ((mp_find hx_ hy_ hw_ (px k) (py k) (pw k) (mc_bar cx0 cy0 cx1 cy1 cc_ f0 f1 f2 f3) (XX k) (YY k) n).1))]))) (33 + 4 * k) (.inl (g 0, 16, .inl (mp_D (fun p => mp_bits (mp_F hx_ hy_ hw_ px py pw pd pf pt n k ((mp_find hx_ hy_ hw_ (px k) (py k) (pw k) (mc_bar cx0 cy0 cx1 cy1 cc_ f0 f1 f2 f3) (XX k) (YY k) n).2.1 p) ((mp_find hx_ hy_ hw_ (px k) (py k) (pw k) (mc_bar cx0 cy0 cx1 cy1 cc_ f0 f1 f2 f3) (XX k) (YY k) n).2.2 p)) k (pc_ - k)) (DD k) (mp_find hx_ hy_ hw_ (px k) (py k) (pw k) (mc_bar cx0 cy0 cx1 cy1 cc_ f0 f1 f2 f3) (XX k) (YY k) n).1))) := ⟨_, rfl⟩
        rw [← hw2] at hW
        have u1 : w2 (31 + 4 * k) = some (.inl (g 0, 16, .inl (mX_ k))) := by rw [hw2, q1]; exact ((dq_Un (by omega)).trans ((dq_Un (by omega)).trans ((dq_Un (by omega)).trans dq_Us)))
        have u2 : w2 (32 + 4 * k) = some (.inl (g 0, 16, .inl (mY_ k))) := by rw [hw2, q2]; exact ((dq_Un (by omega)).trans ((dq_Un (by omega)).trans dq_Us))
        have u0 : w2 (30 + 4 * k) = some (.inr (4, [.ref (ad (31 + 4 * k)), .ref (ad (32 + 4 * k)), .ref (ad (33 + 4 * k)), .int (nI (mq_ k))])) := by rw [hw2, q0]; exact ((dq_Un (by omega)).trans dq_Us)
        have u3 : w2 (33 + 4 * k) = some (.inl (g 0, 16, .inl (mD_ k))) := by rw [hw2, q3]; exact dq_Us
        have uo : ∀ j, j ≠ 30 + 4 * k → j ≠ 31 + 4 * k → j ≠ 32 + 4 * k → j ≠ 33 + 4 * k → w2 j = w1 j := fun j h1 h2 h3 h4 => by rw [hw2, dq_Un h4, dq_Un h1, dq_Un h3, dq_Un h2]
        have hmq16 : mq_ k ≤ 16 := by rw [q0]; exact hr16
        refine lv_aload_n hx hb dDH_findPlaces_58 rfl (lv_at hl 0 rfl) ?_
        refine dq_get (D := D) (ci := 7) (v := .ref (ad 17)) (C := RDH) (T := TDH) (N := 9) hx hb hts hinDH hown hK hW 0 ((uo 0 (by omega) (by omega) (by omega) (by omega)).trans o0) rfl 3 (by decide) hf43 (fun _ h9 => h9) rfl dDH_findPlaces_59 ?_
        refine lv_iload_n hx hb dDH_findPlaces_62 rfl (lv_at hl 1 rfl) ?_
        refine dq_aaldN hx hb hK hW 17 3 ((uo 17 (by omega) (by omega) (by omega) (by omega)).trans ((hfr 17 (by decide) (Or.inl (by decide))).trans a17)) rfl k (by omega) (by omega) (a := (ad (30 + 4 * k))) rfl dDH_findPlaces_63 ?_
        refine dq_get (D := D) (ci := 4) (v := .int (nI (mq_ k))) (C := RPl) (T := TPl) (N := 4) hx hb hts hinPl hown hK hW (30 + 4 * k) u0 rfl 3 (by decide) hf194 (fun _ h9 => h9) rfl dDH_findPlaces_64 ?_
        refine lv_if_ne (tgt := 82) hx hb dDH_findPlaces_67 (by decide) (fun c2 => ?_) (fun c2 => ?_)
        · have e5 : mf_sg mq_ (k + 1) = mf_sg mq_ k := if_neg (fun h9 => c2 (by rw [h9]; rfl))
          have hP2 : (∀ j, j ≠ 0 → (j < 30 ∨ 86 ≤ j) → w2 j = w j) ∧ w2 0 = some (.inr (7, [.ref (ad 1), .ref (ad 5), .ref (ad 12), .ref (ad 17), .ref (ad 18), .ref (ad 23), .ref (ad 25), .int (nI (mf_sg mq_ (k + 1))), .int pl])) ∧ (∀ h, h < 14 → w2 (30 + 4 * h) = some (.inr (4, [.ref (ad (31 + 4 * h)), .ref (ad (32 + 4 * h)), .ref (ad (33 + 4 * h)), .int (nI (dq_pw (k + 1) mq_ qs h))]))) ∧ (∀ h, h < 14 → w2 (31 + 4 * h) = some (.inl (g 0, 16, .inl (dq_pw (k + 1) mX_ XX h)))) ∧ (∀ h, h < 14 → w2 (32 + 4 * h) = some (.inl (g 0, 16, .inl (dq_pw (k + 1) mY_ YY h)))) ∧ (∀ h, h < 14 → w2 (33 + 4 * h) = some (.inl (g 0, 16, .inl (dq_pw (k + 1) mD_ DD h)))) := by
            refine ⟨(fun j h1 h2 => (uo j (by omega) (by omega) (by omega) (by omega)).trans (hfr j h1 h2)), (by rw [e5]; exact (uo 0 (by omega) (by omega) (by omega) (by omega)).trans o0), ?_, ?_, ?_, ?_⟩
            · intro h hh
              by_cases hhk : h = k
              · subst hhk; rw [dq_pw_s]; exact u0
              · rw [dq_pw_o mq_ qs hhk]; exact (uo (30 + 4 * h) (by omega) (by omega) (by omega) (by omega)).trans (lp0 h hh)
            · intro h hh
              by_cases hhk : h = k
              · subst hhk; rw [dq_pw_s]; exact u1
              · rw [dq_pw_o mX_ XX hhk]; exact (uo (31 + 4 * h) (by omega) (by omega) (by omega) (by omega)).trans (lp1 h hh)
            · intro h hh
              by_cases hhk : h = k
              · subst hhk; rw [dq_pw_s]; exact u2
              · rw [dq_pw_o mY_ YY hhk]; exact (uo (32 + 4 * h) (by omega) (by omega) (by omega) (by omega)).trans (lp2 h hh)
            · intro h hh
              by_cases hhk : h = k
              · subst hhk; rw [dq_pw_s]; exact u3
              · rw [dq_pw_o mD_ DD hhk]; exact (uo (33 + 4 * h) (by omega) (by omega) (by omega) (by omega)).trans (lp3 h hh)
          refine lv_iinc (v := (nI (k + 1))) (lv' := [(1, .int (nI (k + 1))), (0, .ref (ad 0))]) hx hb dDH_findPlaces_82 hl (k := 1) rfl (by show nI k + 1 = _; exact nI_1 _) (by decide) rfl (fun ls hl => ?_)
          refine lv_goto (tgt := 7) hx hb dDH_findPlaces_85 (by decide) ?_
          exact ih (k + 1) w2 _ _ _ (by omega) (by omega) hP2 hW hS (lv_sub hl [1, 0] rfl)
        · have e4 : mq_ k = 0 := (nI_eq (by omega) (by omega)).mp c2
          have e5 : mf_sg mq_ (k + 1) = mf_sg mq_ k ||| 2 ^ k := if_pos e4
          refine lv_aload_n hx hb dDH_findPlaces_70 rfl (lv_at hl 0 rfl) ?_
          refine lv_dup hx hb dDH_findPlaces_71 rfl ?_
          refine dq_get (D := D) (ci := 7) (v := .int (nI (mf_sg mq_ k))) (C := RDH) (T := TDH) (N := 9) hx hb hts hinDH hown hK hW 0 ((uo 0 (by omega) (by omega) (by omega) (by omega)).trans o0) rfl 7 (by decide) hf172 (fun _ h9 => h9) rfl dDH_findPlaces_72 ?_
          refine lv_iconst (v := (1)) hx hb dDH_findPlaces_75 (by decide) ?_
          refine lv_iload_n hx hb dDH_findPlaces_76 rfl (lv_at hl 1 rfl) ?_
          refine lv_ishl hx hb dDH_findPlaces_77 ?_
          refine dq_top (y := nI (2 ^ k)) (dq_sh1 _ (by omega)) ?_
          refine lv_ior hx hb dDH_findPlaces_78 ?_
          refine dq_top (y := nI (mf_sg mq_ (k + 1))) (by rw [e5]; exact nx_or _ _) ?_
          refine dq_put (D := D) (ci := 7) (v := .int (nI (mf_sg mq_ (k + 1)))) (ty := .int) (C := RDH) (T := TDH) (N := 9) hx hb hts hinDH tyDH tyDH_ok nmDH hown hK hW hS 0 ((uo 0 (by omega) (by omega) (by omega) (by omega)).trans o0) rfl 7 (by decide) hf172 (fun _ h9 => h9) rfl (by decide +kernel) rfl rfl (Nat.le_of_ble_eq_true rfl) dDH_findPlaces_79 (fun H locs hW hS => ?_)
          refine lv_iinc (v := (nI (k + 1))) (lv' := [(1, .int (nI (k + 1))), (0, .ref (ad 0))]) hx hb dDH_findPlaces_82 hl (k := 1) rfl (by show nI k + 1 = _; exact nI_1 _) (by decide) rfl (fun ls hl => ?_)
          refine lv_goto (tgt := 7) hx hb dDH_findPlaces_85 (by decide) ?_
          obtain ⟨w3, hw3⟩ : ∃ w3, w3 = dq_U w2 0 (.inr (7, [.ref (ad 1), .ref (ad 5), .ref (ad 12), .ref (ad 17), .ref (ad 18), .ref (ad 23), .ref (ad 25), .int (nI (mf_sg mq_ (k + 1))), .int pl])) := ⟨_, rfl⟩
          have hW : dq_W D vwCl ad w3 A H := by rw [hw3]; exact hW
          have v9 : ∀ j, j ≠ 0 → w3 j = w2 j := fun j h1 => by rw [hw3, dq_Un h1]
          have hP2 : (∀ j, j ≠ 0 → (j < 30 ∨ 86 ≤ j) → w3 j = w j) ∧ w3 0 = some (.inr (7, [.ref (ad 1), .ref (ad 5), .ref (ad 12), .ref (ad 17), .ref (ad 18), .ref (ad 23), .ref (ad 25), .int (nI (mf_sg mq_ (k + 1))), .int pl])) ∧ (∀ h, h < 14 → w3 (30 + 4 * h) = some (.inr (4, [.ref (ad (31 + 4 * h)), .ref (ad (32 + 4 * h)), .ref (ad (33 + 4 * h)), .int (nI (dq_pw (k + 1) mq_ qs h))]))) ∧ (∀ h, h < 14 → w3 (31 + 4 * h) = some (.inl (g 0, 16, .inl (dq_pw (k + 1) mX_ XX h)))) ∧ (∀ h, h < 14 → w3 (32 + 4 * h) = some (.inl (g 0, 16, .inl (dq_pw (k + 1) mY_ YY h)))) ∧ (∀ h, h < 14 → w3 (33 + 4 * h) = some (.inl (g 0, 16, .inl (dq_pw (k + 1) mD_ DD h)))) := by
            refine ⟨(fun j h1 h2 => ((v9 j h1).trans (uo j (by omega) (by omega) (by omega) (by omega))).trans (hfr j h1 h2)), (by rw [hw3]; exact dq_Us), ?_, ?_, ?_, ?_⟩
            · intro h hh
              by_cases hhk : h = k
              · subst hhk; rw [dq_pw_s]; exact (v9 (30 + 4 * h) (by omega)).trans u0
              · rw [dq_pw_o mq_ qs hhk]; exact (v9 (30 + 4 * h) (by omega)).trans ((uo (30 + 4 * h) (by omega) (by omega) (by omega) (by omega)).trans (lp0 h hh))
            · intro h hh
              by_cases hhk : h = k
              · subst hhk; rw [dq_pw_s]; exact (v9 (31 + 4 * h) (by omega)).trans u1
              · rw [dq_pw_o mX_ XX hhk]; exact (v9 (31 + 4 * h) (by omega)).trans ((uo (31 + 4 * h) (by omega) (by omega) (by omega) (by omega)).trans (lp1 h hh))
            · intro h hh
              by_cases hhk : h = k
              · subst hhk; rw [dq_pw_s]; exact (v9 (32 + 4 * h) (by omega)).trans u2
              · rw [dq_pw_o mY_ YY hhk]; exact (v9 (32 + 4 * h) (by omega)).trans ((uo (32 + 4 * h) (by omega) (by omega) (by omega) (by omega)).trans (lp2 h hh))
            · intro h hh
              by_cases hhk : h = k
              · subst hhk; rw [dq_pw_s]; exact (v9 (33 + 4 * h) (by omega)).trans u3
              · rw [dq_pw_o mD_ DD hhk]; exact (v9 (33 + 4 * h) (by omega)).trans ((uo (33 + 4 * h) (by omega) (by omega) (by omega) (by omega)).trans (lp3 h hh))
          exact ih (k + 1) w3 _ _ _ (by omega) (by omega) hP2 hW hS (lv_sub hl [1, 0] rfl)
  refine loop (pc_ + 1) 0 _ _ _ _ (by omega) (Nat.zero_le _) ⟨fun j h1 h2 => dq_Un h1, dq_Us, ?_, ?_, ?_, ?_⟩ hW hS (lv_sub hl [1, 0] rfl)
  · intro h hh; rw [dq_pw_0]; exact (dq_Un (by omega)).trans (lp0 h hh)
  · intro h hh; rw [dq_pw_0]; exact (dq_Un (by omega)).trans (lp1 h hh)
  · intro h hh; rw [dq_pw_0]; exact (dq_Un (by omega)).trans (lp2 h hh)
  · intro h hh; rw [dq_pw_0]; exact (dq_Un (by omega)).trans (lp3 h hh)
end
section
set_option maxHeartbeats 4000000 in
set_option maxRecDepth 100000 in
/-- DrillHeads.planHits() -/
theorem c_planHits (l : Launch) (D : va_G) (g : Nat → ClassId) (ad : Nat → Nat) (w : Nat → Option va_E) (sz : Nat) (sgN : Nat) (pl : Int32) (px py pw pd pf pt : Nat → Int32) (pc_ : Nat) (qs : Nat → Nat) (XX YY DD : Nat → Nat → Int32) (len : Nat) (fw : Nat → Int32) (hX hY hF hs : Nat → Int32) (hc : Nat) (o0 : w 0 = some (.inr (7, [.ref (ad 1), .ref (ad 5), .ref (ad 12), .ref (ad 17), .ref (ad 18), .ref (ad 23), .ref (ad 25), .int (nI sgN), .int pl]))) (p5 : w 5 = some (.inr (3, [.ref (ad 6), .ref (ad 7), .ref (ad 8), .ref (ad 9), .ref (ad 10), .ref (ad 11), .int (nI pc_)]))) (p10 : w 10 = some (.inl (g 0, 14, .inl pf))) (a17 : w 17 = some (.inl (g 3, 14, .inr (.inr (.inr (.inr (fun h => some (ad (30 + 4 * h))))))))) (b23 : w 23 = some (.inr (5, [.ref (ad 24)]))) (b24 : w 24 = some (.inl (g 0, len, .inl fw))) (t18 : w 18 = some (.inr (2, [.ref (ad 19), .ref (ad 20), .ref (ad 21), .ref (ad 22), .int (nI hc)]))) (t19 : w 19 = some (.inl (g 0, 14, .inl hX))) (t20 : w 20 = some (.inl (g 0, 14, .inl hY))) (t21 : w 21 = some (.inl (g 0, 14, .inl hF))) (t22 : w 22 = some (.inl (g 0, 14, .inl hs))) (hpc : pc_ ≤ 14) (hln : len ≤ 16384) (hq16 : ∀ h, h < 14 → qs h ≤ 16) (lp0 : ∀ h, h < 14 → w (30 + 4 * h) = some (.inr (4, [.ref (ad (31 + 4 * h)), .ref (ad (32 + 4 * h)), .ref (ad (33 + 4 * h)), .int (nI (qs h))]))) (lp1 : ∀ h, h < 14 → w (31 + 4 * h) = some (.inl (g 0, 16, .inl (XX h)))) (lp2 : ∀ h, h < 14 → w (32 + 4 * h) = some (.inl (g 0, 16, .inl (YY h)))) (lp3 : ∀ h, h < 14 → w (33 + 4 * h) = some (.inl (g 0, 16, .inl (DD h)))) : Met l yDH_planHits wsDH_planHits ({ frames := 4, cells := (if len < 2 ^ pc_ then 1 else 0), slots := (if len < 2 ^ pc_ then 2 ^ pc_ else 0), locals := 112 } : Room) (va_Pc [.ref (ad 0)] (dq_S D vwCl (dq_t g) ad w sz)) (va_Qv (fun u => (∀ j, j ≠ 24 → u.1 j = ad j) ∧ (∀ j, (j < 18 ∨ 24 < j) → u.2 j = w j) ∧ u.2 23 = some (.inr (5, [.ref (u.1 24)])) ∧ u.2 24 = some (.inl (g 0, (if len < 2 ^ pc_ then 2 ^ pc_ else len), .inl (mt_fill (if len < 2 ^ pc_ then (fun _ => 0) else fw) (dq_N DD) qs (dq_df (2 ^ pc_ - 1) sgN)))) ∧ u.2 18 = some (.inr (2, [.ref (u.1 19), .ref (u.1 20), .ref (u.1 21), .ref (u.1 22), .int (nI (mp_n (mt_fill (if len < 2 ^ pc_ then (fun _ => 0) else fw) (dq_N DD) qs (dq_df (2 ^ pc_ - 1) sgN)) (dq_N DD) qs XX YY pf (hX, hY, hF, hs, (dq_df (2 ^ pc_ - 1) sgN))))])) ∧ u.2 19 = some (.inl (g 0, 14, .inl ((mp_pl (mt_fill (if len < 2 ^ pc_ then (fun _ => 0) else fw) (dq_N DD) qs (dq_df (2 ^ pc_ - 1) sgN)) (dq_N DD) qs XX YY pf (hX, hY, hF, hs, (dq_df (2 ^ pc_ - 1) sgN)) (mp_n (mt_fill (if len < 2 ^ pc_ then (fun _ => 0) else fw) (dq_N DD) qs (dq_df (2 ^ pc_ - 1) sgN)) (dq_N DD) qs XX YY pf (hX, hY, hF, hs, (dq_df (2 ^ pc_ - 1) sgN)))).1))) ∧ u.2 20 = some (.inl (g 0, 14, .inl ((mp_pl (mt_fill (if len < 2 ^ pc_ then (fun _ => 0) else fw) (dq_N DD) qs (dq_df (2 ^ pc_ - 1) sgN)) (dq_N DD) qs XX YY pf (hX, hY, hF, hs, (dq_df (2 ^ pc_ - 1) sgN)) (mp_n (mt_fill (if len < 2 ^ pc_ then (fun _ => 0) else fw) (dq_N DD) qs (dq_df (2 ^ pc_ - 1) sgN)) (dq_N DD) qs XX YY pf (hX, hY, hF, hs, (dq_df (2 ^ pc_ - 1) sgN)))).2.1))) ∧ u.2 21 = some (.inl (g 0, 14, .inl ((mp_pl (mt_fill (if len < 2 ^ pc_ then (fun _ => 0) else fw) (dq_N DD) qs (dq_df (2 ^ pc_ - 1) sgN)) (dq_N DD) qs XX YY pf (hX, hY, hF, hs, (dq_df (2 ^ pc_ - 1) sgN)) (mp_n (mt_fill (if len < 2 ^ pc_ then (fun _ => 0) else fw) (dq_N DD) qs (dq_df (2 ^ pc_ - 1) sgN)) (dq_N DD) qs XX YY pf (hX, hY, hF, hs, (dq_df (2 ^ pc_ - 1) sgN)))).2.2.1))) ∧ u.2 22 = some (.inl (g 0, 14, .inl ((mp_pl (mt_fill (if len < 2 ^ pc_ then (fun _ => 0) else fw) (dq_N DD) qs (dq_df (2 ^ pc_ - 1) sgN)) (dq_N DD) qs XX YY pf (hX, hY, hF, hs, (dq_df (2 ^ pc_ - 1) sgN)) (mp_n (mt_fill (if len < 2 ^ pc_ then (fun _ => 0) else fw) (dq_N DD) qs (dq_df (2 ^ pc_ - 1) sgN)) (dq_N DD) qs XX YY pf (hX, hY, hF, hs, (dq_df (2 ^ pc_ - 1) sgN)))).2.2.2.1)))) (dq_B2 D vwCl (dq_t g) (dq_A ad w sz)) (dq_A ad w sz)) (if len < 2 ^ pc_ then 1 else 0) (if len < 2 ^ pc_ then 2 ^ pc_ else 0) (dq_A ad w sz) := by
  refine dq_ofv2 (cc := cDH_planHits) (maxL := 7) (by decide) rfl (Nat.le_of_ble_eq_true rfl) ?_
  intro p e s m below meth c A Q ls ⟨hx, hb, hml, hown, hts⟩ hnm hA hW hK hZ hl hret
  have hS : va_S A s.heap s.heap [] := va_S.rf
  have hl : lv_has ls 7 [(0, .ref (ad 0))] := hl
  have hf30 := hts _ (List.mem_cons_of_mem _ tw1_215)
  have hf43 := hts _ (List.mem_cons_of_mem _ tw1_217)
  have hf51 := hts _ (List.mem_cons_of_mem _ tw1_218)
  have hf58 := hts _ (List.mem_cons_of_mem _ tw1_219)
  have hf96 := hts _ (List.mem_cons_of_mem _ tw1_89)
  have hf140 := hts _ (List.mem_cons_of_mem _ tw1_174)
  have hf172 := hts _ (List.mem_cons_of_mem _ tw1_221)
  have hf212 := hts _ (List.mem_cons_of_mem _ tw1_138)
  have hf213 := hts _ (List.mem_cons_of_mem _ tw1_140)
  have hf214 := hts _ (List.mem_cons_of_mem _ tw1_85)
  have hf215 := hts _ (List.mem_cons_of_mem _ tw1_143)
  have hinDH : ∀ w ∈ u_ws RDH TDH 9, w ∈ wsDH_planHits := fun w h => List.mem_cons_of_mem _ (inDH w h)
  have hinHt : ∀ w ∈ u_ws RHt THt 5, w ∈ wsDH_planHits := fun w h => List.mem_cons_of_mem _ (inHt w h)
  have hinPt : ∀ w ∈ u_ws RPt TPt 7, w ∈ wsDH_planHits := fun w h => List.mem_cons_of_mem _ (inPt w h)
  have hinPl : ∀ w ∈ u_ws RPl TPl 4, w ∈ wsDH_planHits := fun w h => List.mem_cons_of_mem _ (inPl w h)
  have hp2 : 2 ^ pc_ ≤ 16384 := Nat.le_trans (Nat.pow_le_pow_right (by omega) hpc) (Nat.le_refl 16384)
  have hp1 : 0 < 2 ^ pc_ := Nat.two_pow_pos _
  have hM : (dq_df (2 ^ pc_ - 1) sgN) < 2 ^ pc_ := Nat.lt_of_le_of_lt (dq_df_le _ _) (by omega)
  refine lv_iconst (v := (1)) hx hb dDH_planHits_0 (by decide) ?_
  refine lv_aload_n hx hb dDH_planHits_1 rfl (lv_at hl 0 rfl) ?_
  refine dq_get (D := D) (ci := 7) (v := .ref (ad 5)) (C := RDH) (T := TDH) (N := 9) hx hb hts hinDH hown hK hW 0 o0 rfl 1 (by decide) hf30 (fun _ h9 => h9) rfl dDH_planHits_2 ?_
  refine dq_get (D := D) (ci := 3) (v := .int (nI pc_)) (C := RPt) (T := TPt) (N := 7) hx hb hts hinPt hown hK hW 5 p5 rfl 6 (by decide) hf96 (fun _ h9 => h9) rfl dDH_planHits_5 ?_
  refine lv_ishl hx hb dDH_planHits_8 ?_
  refine dq_top (y := nI (2 ^ pc_)) (dq_sh1 _ (by omega)) ?_
  refine lv_iconst (v := (1)) hx hb dDH_planHits_9 (by decide) ?_
  refine lv_isub hx hb dDH_planHits_10 ?_
  refine dq_top (y := nI (2 ^ pc_ - 1)) (pk_sub (b := 1) Nat.one_le_two_pow) ?_
  refine lv_aload_n hx hb dDH_planHits_11 rfl (lv_at hl 0 rfl) ?_
  refine dq_get (D := D) (ci := 7) (v := .int (nI sgN)) (C := RDH) (T := TDH) (N := 9) hx hb hts hinDH hown hK hW 0 o0 rfl 7 (by decide) hf172 (fun _ h9 => h9) rfl dDH_planHits_12 ?_
  refine lv_iconst (v := (-1)) hx hb dDH_planHits_15 (by decide) ?_
  refine lv_ixor hx hb dDH_planHits_16 ?_
  refine lv_iand hx hb dDH_planHits_17 ?_
  refine dq_top (y := nI (dq_df (2 ^ pc_ - 1) sgN)) (dq_dfI _ _) ?_
  refine lv_istore_n (lv' := [(1, .int (nI (dq_df (2 ^ pc_ - 1) sgN))), (0, .ref (ad 0))]) hx hb dDH_planHits_18 rfl hl (by decide) rfl (fun ls hl => ?_)
  refine lv_aload_n hx hb dDH_planHits_19 rfl (lv_at hl 1 rfl) ?_
  refine dq_get (D := D) (ci := 7) (v := .ref (ad 23)) (C := RDH) (T := TDH) (N := 9) hx hb hts hinDH hown hK hW 0 o0 rfl 5 (by decide) hf58 (fun _ h9 => h9) rfl dDH_planHits_20 ?_
  refine lv_aload_n hx hb dDH_planHits_23 rfl (lv_at hl 1 rfl) ?_
  refine dq_get (D := D) (ci := 7) (v := .ref (ad 17)) (C := RDH) (T := TDH) (N := 9) hx hb hts hinDH hown hK hW 0 o0 rfl 3 (by decide) hf43 (fun _ h9 => h9) rfl dDH_planHits_24 ?_
  refine lv_aload_n hx hb dDH_planHits_27 rfl (lv_at hl 1 rfl) ?_
  refine dq_get (D := D) (ci := 7) (v := .ref (ad 5)) (C := RDH) (T := TDH) (N := 9) hx hb hts hinDH hown hK hW 0 o0 rfl 1 (by decide) hf30 (fun _ h9 => h9) rfl dDH_planHits_28 ?_
  refine dq_get (D := D) (ci := 3) (v := .int (nI pc_)) (C := RPt) (T := TPt) (N := 7) hx hb hts hinPt hown hK hW 5 p5 rfl 6 (by decide) hf96 (fun _ h9 => h9) rfl dDH_planHits_31 ?_
  refine lv_iload_n hx hb dDH_planHits_34 rfl (lv_at hl 0 rfl) ?_
  refine dq_callv2 (va_runV (As := [.ref (ad 17), .int (nI pc_), .int (nI (dq_df (2 ^ pc_ - 1) sgN))]) (rest := []) ⟨hx, hb, hml, hown, hts⟩ (c_Table_fill l D g ad (w) _ len fw pc_ (dq_df (2 ^ pc_ - 1) sgN) qs DD (dq_N DD) b23 b24 a17 hM hpc hln (fun h hh => lp0 h hh) (fun h hh => lp3 h hh) hq16 (fun h _ p _ => dq_N_ok DD h p)) (cwV 3 hts (dq_giV tw2_47 tw2_48 tw2_49 tw1_8 tw2_50) rfl rfl rfl (by decide +kernel) ⟨Nat.le_of_ble_eq_true rfl, Nat.le_of_ble_eq_true rfl⟩) (dq_preV (ci := 5) hW hS hA hK hZ b23 rfl rfl) rfl rfl hl.1 rfl (lv_room (Nat.le_of_ble_eq_true rfl)) dDH_planHits_35 ⟨Nat.le_of_eq (Nat.zero_add _), Nat.le_of_eq (Nat.zero_add _)⟩) hW hS hA (fun u_9 H locs hp9 hW hS hz9 => ?_)
  refine W.widen (k := (if len < 2 ^ pc_ then 1 else 0)) (n := (if len < 2 ^ pc_ then 2 ^ pc_ else 0)) (Nat.le_of_eq (Nat.zero_add _)) (Nat.le_of_eq (Nat.zero_add _)) ?_
  obtain ⟨ad1, w1⟩ := u_9
  obtain ⟨hadj, hfr, e23, e24⟩ := hp9
  dsimp only at hadj hfr e23 e24 hW
  have e0 : w1 0 = some (.inr (7, [.ref (ad1 1), .ref (ad1 5), .ref (ad1 12), .ref (ad1 17), .ref (ad1 18), .ref (ad1 23), .ref (ad1 25), .int (nI sgN), .int pl])) := by rw [hadj 1 (by decide), hadj 5 (by decide), hadj 12 (by decide), hadj 17 (by decide), hadj 18 (by decide), hadj 23 (by decide), hadj 25 (by decide), hfr 0 (by decide) (by decide)]; exact o0
  have e5 : w1 5 = some (.inr (3, [.ref (ad1 6), .ref (ad1 7), .ref (ad1 8), .ref (ad1 9), .ref (ad1 10), .ref (ad1 11), .int (nI pc_)])) := by rw [hadj 6 (by decide), hadj 7 (by decide), hadj 8 (by decide), hadj 9 (by decide), hadj 10 (by decide), hadj 11 (by decide), hfr 5 (by decide) (by decide)]; exact p5
  have e10 : w1 10 = some (.inl (g 0, 14, .inl pf)) := by rw [hfr 10 (by decide) (by decide)]; exact p10
  have e18 : w1 18 = some (.inr (2, [.ref (ad1 19), .ref (ad1 20), .ref (ad1 21), .ref (ad1 22), .int (nI hc)])) := by rw [hadj 19 (by decide), hadj 20 (by decide), hadj 21 (by decide), hadj 22 (by decide), hfr 18 (by decide) (by decide)]; exact t18
  have e19 : w1 19 = some (.inl (g 0, 14, .inl hX)) := by rw [hfr 19 (by decide) (by decide)]; exact t19
  have e20 : w1 20 = some (.inl (g 0, 14, .inl hY)) := by rw [hfr 20 (by decide) (by decide)]; exact t20
  have e21 : w1 21 = some (.inl (g 0, 14, .inl hF)) := by rw [hfr 21 (by decide) (by decide)]; exact t21
  have e22 : w1 22 = some (.inl (g 0, 14, .inl hs)) := by rw [hfr 22 (by decide) (by decide)]; exact t22
  have hff : (fun h => some (ad1 (30 + 4 * h))) = (fun h => some (ad (30 + 4 * h))) := by funext h; rw [hadj _ (by omega)]
  have e17 : w1 17 = some (.inl (g 3, 14, .inr (.inr (.inr (.inr (fun h => some (ad1 (30 + 4 * h)))))))) := by rw [hff, hfr 17 (by decide) (by decide)]; exact a17
  have lp0 : ∀ h, h < 14 → w1 (30 + 4 * h) = some (.inr (4, [.ref (ad1 (31 + 4 * h)), .ref (ad1 (32 + 4 * h)), .ref (ad1 (33 + 4 * h)), .int (nI (qs h))])) := fun h hh => by rw [hfr _ (by omega) (by omega), hadj _ (by omega), hadj _ (by omega), hadj _ (by omega)]; exact lp0 h hh
  have lp1 : ∀ h, h < 14 → w1 (31 + 4 * h) = some (.inl (g 0, 16, .inl (XX h))) := fun h hh => by rw [hfr _ (by omega) (by omega)]; exact lp1 h hh
  have lp2 : ∀ h, h < 14 → w1 (32 + 4 * h) = some (.inl (g 0, 16, .inl (YY h))) := fun h hh => by rw [hfr _ (by omega) (by omega)]; exact lp2 h hh
  have lp3 : ∀ h, h < 14 → w1 (33 + 4 * h) = some (.inl (g 0, 16, .inl (DD h))) := fun h hh => by rw [hfr _ (by omega) (by omega)]; exact lp3 h hh
  have hl2 : 2 ^ pc_ ≤ (if len < 2 ^ pc_ then 2 ^ pc_ else len) ∧ (if len < 2 ^ pc_ then 2 ^ pc_ else len) ≤ 16384 := by split <;> omega
  have hl : lv_has ls 7 [(0, .ref (ad1 0)), (1, .int (nI (dq_df (2 ^ pc_ - 1) sgN)))] := by rw [hadj 0 (by decide)]; exact (lv_sub hl [1, 0] rfl)
  generalize hFW : (mt_fill (if len < 2 ^ pc_ then (fun _ => 0) else fw) (dq_N DD) qs (dq_df (2 ^ pc_ - 1) sgN)) = FW at e24
  generalize hLN : (if len < 2 ^ pc_ then 2 ^ pc_ else len) = ln1 at e24 hl2
  refine lv_aload_n hx hb dDH_planHits_38 rfl (lv_at hl 0 rfl) ?_
  refine dq_get (D := D) (ci := 7) (v := .ref (ad1 18)) (C := RDH) (T := TDH) (N := 9) hx hb hts hinDH hown hK hW 0 e0 rfl 4 (by decide) hf51 (fun _ h9 => h9) rfl dDH_planHits_39 ?_
  refine lv_iconst (v := (nI 0)) hx hb dDH_planHits_42 (by decide) ?_
  refine dq_put (D := D) (ci := 2) (v := .int (nI 0)) (ty := .int) (C := RHt) (T := THt) (N := 5) hx hb hts hinHt tyHt tyHt_ok nmHt hown hK hW hS 18 e18 rfl 4 (by decide) hf140 (fun _ h9 => h9) rfl (by decide +kernel) rfl rfl (Nat.le_of_ble_eq_true rfl) dDH_planHits_43 (fun H locs hW hS => ?_)
  refine lv_iload_n hx hb dDH_planHits_46 rfl (lv_at hl 1 rfl) ?_
  refine lv_istore_n (lv' := [(2, .int (nI (dq_df (2 ^ pc_ - 1) sgN))), (0, .ref (ad1 0)), (1, .int (nI (dq_df (2 ^ pc_ - 1) sgN)))]) hx hb dDH_planHits_47 rfl hl (by decide) rfl (fun ls hl => ?_)
  refine lv_iconst (v := (nI 0)) hx hb dDH_planHits_48 (by decide) ?_
  refine lv_istore_n (lv' := [(3, .int (nI 0)), (2, .int (nI (dq_df (2 ^ pc_ - 1) sgN))), (0, .ref (ad1 0)), (1, .int (nI (dq_df (2 ^ pc_ - 1) sgN)))]) hx hb dDH_planHits_49 rfl hl (by decide) rfl (fun ls hl => ?_)
  have hW : dq_W D vwCl ad1 (dq_U (dq_U (dq_U (dq_U (dq_U w1 19 (.inl (g 0, 14, .inl ((mp_pl FW (dq_N DD) qs XX YY pf (hX, hY, hF, hs, (dq_df (2 ^ pc_ - 1) sgN)) 0).1)))) 20 (.inl (g 0, 14, .inl ((mp_pl FW (dq_N DD) qs XX YY pf (hX, hY, hF, hs, (dq_df (2 ^ pc_ - 1) sgN)) 0).2.1)))) 21 (.inl (g 0, 14, .inl ((mp_pl FW (dq_N DD) qs XX YY pf (hX, hY, hF, hs, (dq_df (2 ^ pc_ - 1) sgN)) 0).2.2.1)))) 22 (.inl (g 0, 14, .inl ((mp_pl FW (dq_N DD) qs XX YY pf (hX, hY, hF, hs, (dq_df (2 ^ pc_ - 1) sgN)) 0).2.2.2.1)))) 18 (.inr (2, [.ref (ad1 19), .ref (ad1 20), .ref (ad1 21), .ref (ad1 22), .int (nI 0)]))) A H := dq_Wc (by show _ = dq_U (dq_U (dq_U (dq_U (dq_U w1 19 (.inl (g 0, 14, .inl hX))) 20 (.inl (g 0, 14, .inl hY))) 21 (.inl (g 0, 14, .inl hF))) 22 (.inl (g 0, 14, .inl hs))) 18 (.inr (2, [.ref (ad1 19), .ref (ad1 20), .ref (ad1 21), .ref (ad1 22), .int (nI 0)])); rw [dq_Uid e19, dq_Uid e20, dq_Uid e21, dq_Uid e22]; rfl) hW
  have loop : ∀ (j : Nat) (k : Nat) (H : Heap) (locs : List Loc) (ls : Array Slot), 14 < k + j → k ≤ 14 → (∀ i, i < k → decide ((mp_pl FW (dq_N DD) qs XX YY pf (hX, hY, hF, hs, (dq_df (2 ^ pc_ - 1) sgN)) i).2.2.2.2 = 0) = false) → dq_W D vwCl ad1 (dq_U (dq_U (dq_U (dq_U (dq_U w1 19 (.inl (g 0, 14, .inl ((mp_pl FW (dq_N DD) qs XX YY pf (hX, hY, hF, hs, (dq_df (2 ^ pc_ - 1) sgN)) k).1)))) 20 (.inl (g 0, 14, .inl ((mp_pl FW (dq_N DD) qs XX YY pf (hX, hY, hF, hs, (dq_df (2 ^ pc_ - 1) sgN)) k).2.1)))) 21 (.inl (g 0, 14, .inl ((mp_pl FW (dq_N DD) qs XX YY pf (hX, hY, hF, hs, (dq_df (2 ^ pc_ - 1) sgN)) k).2.2.1)))) 22 (.inl (g 0, 14, .inl ((mp_pl FW (dq_N DD) qs XX YY pf (hX, hY, hF, hs, (dq_df (2 ^ pc_ - 1) sgN)) k).2.2.2.1)))) 18 (.inr (2, [.ref (ad1 19), .ref (ad1 20), .ref (ad1 21), .ref (ad1 22), .int (nI k)]))) A H → va_S A s.heap H locs → lv_has ls 7 [(0, .ref (ad1 0)), (1, .int (nI (dq_df (2 ^ pc_ - 1) sgN))), (2, .int (nI (mp_pl FW (dq_N DD) qs XX YY pf (hX, hY, hF, hs, (dq_df (2 ^ pc_ - 1) sgN)) k).2.2.2.2)), (3, .int (nI k))] → W p l e ({ frames := 4, cells := (if len < 2 ^ pc_ then 1 else 0), slots := (if len < 2 ^ pc_ then 2 ^ pc_ else 0), locals := 112 } : Room) s m ([.ref (ad 0)] : List Value).toArray below meth c H locs (if len < 2 ^ pc_ then 1 else 0) (if len < 2 ^ pc_ then 2 ^ pc_ else 0) Q (F0 m 50 ls []) := by
    intro j
    induction j with
    | zero => intro k H locs ls hj hk hb9 hW hS hl; exact absurd hj (by omega)
    | succ j ih =>
      intro k H locs ls hj hk hb9 hW hS hl
      have hzl : (mp_pl FW (dq_N DD) qs XX YY pf (hX, hY, hF, hs, (dq_df (2 ^ pc_ - 1) sgN)) k).2.2.2.2 ≤ (dq_df (2 ^ pc_ - 1) sgN) := mp_pl_le _ _ _ _ _ _ _ _
      refine lv_iload_n hx hb dDH_planHits_50 rfl (lv_at hl 3 rfl) ?_
      refine lv_bipush (v := (nI 14)) hx hb dDH_planHits_51 (by decide) ?_
      refine lv_icmp_ge (tgt := 149) hx hb dDH_planHits_53 (by decide) (fun c1 => ?_) (fun c1 => ?_)
      · have hkn : 14 ≤ k := (nI_leI (by omega) (by omega)).mp c1
        have hnk : (mp_n FW (dq_N DD) qs XX YY pf (hX, hY, hF, hs, (dq_df (2 ^ pc_ - 1) sgN))) = k := dq_fn_eq hk hb9 (fun h9 => absurd h9 (by omega))
        obtain ⟨w2, hw2⟩ : ∃ w2, w2 = dq_U (dq_U (dq_U (dq_U (dq_U w1 19 (.inl (g 0, 14, .inl ((mp_pl FW (dq_N DD) qs XX YY pf (hX, hY, hF, hs, (dq_df (2 ^ pc_ - 1) sgN)) k).1)))) 20 (.inl (g 0, 14, .inl ((mp_pl FW (dq_N DD) qs XX YY pf (hX, hY, hF, hs, (dq_df (2 ^ pc_ - 1) sgN)) k).2.1)))) 21 (.inl (g 0, 14, .inl ((mp_pl FW (dq_N DD) qs XX YY pf (hX, hY, hF, hs, (dq_df (2 ^ pc_ - 1) sgN)) k).2.2.1)))) 22 (.inl (g 0, 14, .inl ((mp_pl FW (dq_N DD) qs XX YY pf (hX, hY, hF, hs, (dq_df (2 ^ pc_ - 1) sgN)) k).2.2.2.1)))) 18 (.inr (2, [.ref (ad1 19), .ref (ad1 20), .ref (ad1 21), .ref (ad1 22), .int (nI k)])) := ⟨_, rfl⟩
        rw [← hw2] at hW
        refine W.widen (k := (if len < 2 ^ pc_ then 1 else 0)) (n := (if len < 2 ^ pc_ then 2 ^ pc_ else 0)) (Nat.le_refl _) (Nat.le_refl _) ?_
        exact hret (ad1, w2) _ _ _ _ ⟨hadj, fun j hj9 => by show w2 j = _; rw [hw2, dq_Un (by omega), dq_Un (by omega), dq_Un (by omega), dq_Un (by omega), dq_Un (by omega)]; exact hfr j (by omega) (by omega), by show w2 23 = _; rw [hw2]; exact ((dq_Un (by decide)).trans ((dq_Un (by decide)).trans ((dq_Un (by decide)).trans ((dq_Un (by decide)).trans ((dq_Un (by decide)).trans e23))))), by show w2 24 = _; rw [hFW, hLN, hw2]; exact ((dq_Un (by decide)).trans ((dq_Un (by decide)).trans ((dq_Un (by decide)).trans ((dq_Un (by decide)).trans ((dq_Un (by decide)).trans e24))))), by show w2 18 = _; rw [hFW, hnk, hw2]; exact dq_Us, by show w2 19 = _; rw [hFW, hnk, hw2]; exact ((dq_Un (by decide)).trans ((dq_Un (by decide)).trans ((dq_Un (by decide)).trans ((dq_Un (by decide)).trans dq_Us)))), by show w2 20 = _; rw [hFW, hnk, hw2]; exact ((dq_Un (by decide)).trans ((dq_Un (by decide)).trans ((dq_Un (by decide)).trans dq_Us))), by show w2 21 = _; rw [hFW, hnk, hw2]; exact ((dq_Un (by decide)).trans ((dq_Un (by decide)).trans dq_Us)), by show w2 22 = _; rw [hFW, hnk, hw2]; exact ((dq_Un (by decide)).trans dq_Us)⟩ hW hS dDH_planHits_149
      · have hkn : k < 14 := by rcases Nat.lt_or_ge k 14 with q | q; exact q; exact absurd (nI_le q (by omega)) c1
        refine lv_iload_n hx hb dDH_planHits_56 rfl (lv_at hl 2 rfl) ?_
        refine lv_if_eq (tgt := 149) hx hb dDH_planHits_57 (by decide) (fun c2 => ?_) (fun c2 => ?_)
        · have hz : (mp_pl FW (dq_N DD) qs XX YY pf (hX, hY, hF, hs, (dq_df (2 ^ pc_ - 1) sgN)) k).2.2.2.2 = 0 := (nI_eq (by omega) (by omega)).mp c2
          have hnk : (mp_n FW (dq_N DD) qs XX YY pf (hX, hY, hF, hs, (dq_df (2 ^ pc_ - 1) sgN))) = k := dq_fn_eq hk hb9 (fun _ => decide_eq_true hz)
          obtain ⟨w2, hw2⟩ : ∃ w2, w2 = dq_U (dq_U (dq_U (dq_U (dq_U w1 19 (.inl (g 0, 14, .inl ((mp_pl FW (dq_N DD) qs XX YY pf (hX, hY, hF, hs, (dq_df (2 ^ pc_ - 1) sgN)) k).1)))) 20 (.inl (g 0, 14, .inl ((mp_pl FW (dq_N DD) qs XX YY pf (hX, hY, hF, hs, (dq_df (2 ^ pc_ - 1) sgN)) k).2.1)))) 21 (.inl (g 0, 14, .inl ((mp_pl FW (dq_N DD) qs XX YY pf (hX, hY, hF, hs, (dq_df (2 ^ pc_ - 1) sgN)) k).2.2.1)))) 22 (.inl (g 0, 14, .inl ((mp_pl FW (dq_N DD) qs XX YY pf (hX, hY, hF, hs, (dq_df (2 ^ pc_ - 1) sgN)) k).2.2.2.1)))) 18 (.inr (2, [.ref (ad1 19), .ref (ad1 20), .ref (ad1 21), .ref (ad1 22), .int (nI k)])) := ⟨_, rfl⟩
          rw [← hw2] at hW
          refine W.widen (k := (if len < 2 ^ pc_ then 1 else 0)) (n := (if len < 2 ^ pc_ then 2 ^ pc_ else 0)) (Nat.le_refl _) (Nat.le_refl _) ?_
          exact hret (ad1, w2) _ _ _ _ ⟨hadj, fun j hj9 => by show w2 j = _; rw [hw2, dq_Un (by omega), dq_Un (by omega), dq_Un (by omega), dq_Un (by omega), dq_Un (by omega)]; exact hfr j (by omega) (by omega), by show w2 23 = _; rw [hw2]; exact ((dq_Un (by decide)).trans ((dq_Un (by decide)).trans ((dq_Un (by decide)).trans ((dq_Un (by decide)).trans ((dq_Un (by decide)).trans e23))))), by show w2 24 = _; rw [hFW, hLN, hw2]; exact ((dq_Un (by decide)).trans ((dq_Un (by decide)).trans ((dq_Un (by decide)).trans ((dq_Un (by decide)).trans ((dq_Un (by decide)).trans e24))))), by show w2 18 = _; rw [hFW, hnk, hw2]; exact dq_Us, by show w2 19 = _; rw [hFW, hnk, hw2]; exact ((dq_Un (by decide)).trans ((dq_Un (by decide)).trans ((dq_Un (by decide)).trans ((dq_Un (by decide)).trans dq_Us)))), by show w2 20 = _; rw [hFW, hnk, hw2]; exact ((dq_Un (by decide)).trans ((dq_Un (by decide)).trans ((dq_Un (by decide)).trans dq_Us))), by show w2 21 = _; rw [hFW, hnk, hw2]; exact ((dq_Un (by decide)).trans ((dq_Un (by decide)).trans dq_Us)), by show w2 22 = _; rw [hFW, hnk, hw2]; exact ((dq_Un (by decide)).trans dq_Us)⟩ hW hS dDH_planHits_149
        · have hz : ¬ (mp_pl FW (dq_N DD) qs XX YY pf (hX, hY, hF, hs, (dq_df (2 ^ pc_ - 1) sgN)) k).2.2.2.2 = 0 := fun h9 => c2 (by rw [h9]; rfl)
          obtain ⟨elo, hlo, -, -⟩ := dq_lo_l2 (S := (mp_pl FW (dq_N DD) qs XX YY pf (hX, hY, hF, hs, (dq_df (2 ^ pc_ - 1) sgN)) k).2.2.2.2) (by omega) (by omega)
          refine lv_iload_n hx hb dDH_planHits_60 rfl (lv_at hl 2 rfl) ?_
          refine dq_calli (va_runS (As := [.int (nI (mp_pl FW (dq_N DD) qs XX YY pf (hX, hY, hF, hs, (dq_df (2 ^ pc_ - 1) sgN)) k).2.2.2.2)]) (rest := []) ⟨hx, hb, hml, hown, hts⟩ (c_leastOf l D g ad1 (dq_U (dq_U (dq_U (dq_U (dq_U w1 19 (.inl (g 0, 14, .inl ((mp_pl FW (dq_N DD) qs XX YY pf (hX, hY, hF, hs, (dq_df (2 ^ pc_ - 1) sgN)) k).1)))) 20 (.inl (g 0, 14, .inl ((mp_pl FW (dq_N DD) qs XX YY pf (hX, hY, hF, hs, (dq_df (2 ^ pc_ - 1) sgN)) k).2.1)))) 21 (.inl (g 0, 14, .inl ((mp_pl FW (dq_N DD) qs XX YY pf (hX, hY, hF, hs, (dq_df (2 ^ pc_ - 1) sgN)) k).2.2.1)))) 22 (.inl (g 0, 14, .inl ((mp_pl FW (dq_N DD) qs XX YY pf (hX, hY, hF, hs, (dq_df (2 ^ pc_ - 1) sgN)) k).2.2.2.1)))) 18 (.inr (2, [.ref (ad1 19), .ref (ad1 20), .ref (ad1 21), .ref (ad1 22), .int (nI k)]))) _ ((mp_pl FW (dq_N DD) qs XX YY pf (hX, hY, hF, hs, (dq_df (2 ^ pc_ - 1) sgN)) k).2.2.2.2)  (by omega) (by omega)) (cwS 1 hts (dq_giS2 tw2_67 tw2_56 tw1_1 tw2_57) rfl rfl rfl (by decide +kernel) ⟨Nat.le_of_ble_eq_true rfl, Nat.le_of_ble_eq_true rfl⟩) (dq_preS hW hS hA hK hZ) rfl rfl hl.1 rfl (lv_room (Nat.le_of_ble_eq_true rfl)) dDH_planHits_61 ⟨Nat.le_refl _, Nat.le_refl _⟩) hW hS hA (fun r1 u_9 H locs hp8 hW hS hz9 => ?_)
          obtain ⟨hr1, hu9⟩ := hp8
          rw [hu9] at hW
          subst hr1
          have hst : (mp_pl FW (dq_N DD) qs XX YY pf (hX, hY, hF, hs, (dq_df (2 ^ pc_ - 1) sgN)) (k + 1)) = (upd (mp_pl FW (dq_N DD) qs XX YY pf (hX, hY, hF, hs, (dq_df (2 ^ pc_ - 1) sgN)) k).1 k (XX (dq_lo (mp_pl FW (dq_N DD) qs XX YY pf (hX, hY, hF, hs, (dq_df (2 ^ pc_ - 1) sgN)) k).2.2.2.2) (mt_fN FW ((dq_N DD) (dq_lo (mp_pl FW (dq_N DD) qs XX YY pf (hX, hY, hF, hs, (dq_df (2 ^ pc_ - 1) sgN)) k).2.2.2.2)) (mp_pl FW (dq_N DD) qs XX YY pf (hX, hY, hF, hs, (dq_df (2 ^ pc_ - 1) sgN)) k).2.2.2.2 (qs (dq_lo (mp_pl FW (dq_N DD) qs XX YY pf (hX, hY, hF, hs, (dq_df (2 ^ pc_ - 1) sgN)) k).2.2.2.2)))), upd (mp_pl FW (dq_N DD) qs XX YY pf (hX, hY, hF, hs, (dq_df (2 ^ pc_ - 1) sgN)) k).2.1 k (YY (dq_lo (mp_pl FW (dq_N DD) qs XX YY pf (hX, hY, hF, hs, (dq_df (2 ^ pc_ - 1) sgN)) k).2.2.2.2) (mt_fN FW ((dq_N DD) (dq_lo (mp_pl FW (dq_N DD) qs XX YY pf (hX, hY, hF, hs, (dq_df (2 ^ pc_ - 1) sgN)) k).2.2.2.2)) (mp_pl FW (dq_N DD) qs XX YY pf (hX, hY, hF, hs, (dq_df (2 ^ pc_ - 1) sgN)) k).2.2.2.2 (qs (dq_lo (mp_pl FW (dq_N DD) qs XX YY pf (hX, hY, hF, hs, (dq_df (2 ^ pc_ - 1) sgN)) k).2.2.2.2)))), upd (mp_pl FW (dq_N DD) qs XX YY pf (hX, hY, hF, hs, (dq_df (2 ^ pc_ - 1) sgN)) k).2.2.1 k (pf (dq_lo (mp_pl FW (dq_N DD) qs XX YY pf (hX, hY, hF, hs, (dq_df (2 ^ pc_ - 1) sgN)) k).2.2.2.2)), upd (mp_pl FW (dq_N DD) qs XX YY pf (hX, hY, hF, hs, (dq_df (2 ^ pc_ - 1) sgN)) k).2.2.2.1 k (nI ((dq_N DD) (dq_lo (mp_pl FW (dq_N DD) qs XX YY pf (hX, hY, hF, hs, (dq_df (2 ^ pc_ - 1) sgN)) k).2.2.2.2) (mt_fN FW ((dq_N DD) (dq_lo (mp_pl FW (dq_N DD) qs XX YY pf (hX, hY, hF, hs, (dq_df (2 ^ pc_ - 1) sgN)) k).2.2.2.2)) (mp_pl FW (dq_N DD) qs XX YY pf (hX, hY, hF, hs, (dq_df (2 ^ pc_ - 1) sgN)) k).2.2.2.2 (qs (dq_lo (mp_pl FW (dq_N DD) qs XX YY pf (hX, hY, hF, hs, (dq_df (2 ^ pc_ - 1) sgN)) k).2.2.2.2))) &&& (mp_pl FW (dq_N DD) qs XX YY pf (hX, hY, hF, hs, (dq_df (2 ^ pc_ - 1) sgN)) k).2.2.2.2)), dq_df (mp_pl FW (dq_N DD) qs XX YY pf (hX, hY, hF, hs, (dq_df (2 ^ pc_ - 1) sgN)) k).2.2.2.2 ((dq_N DD) (dq_lo (mp_pl FW (dq_N DD) qs XX YY pf (hX, hY, hF, hs, (dq_df (2 ^ pc_ - 1) sgN)) k).2.2.2.2) (mt_fN FW ((dq_N DD) (dq_lo (mp_pl FW (dq_N DD) qs XX YY pf (hX, hY, hF, hs, (dq_df (2 ^ pc_ - 1) sgN)) k).2.2.2.2)) (mp_pl FW (dq_N DD) qs XX YY pf (hX, hY, hF, hs, (dq_df (2 ^ pc_ - 1) sgN)) k).2.2.2.2 (qs (dq_lo (mp_pl FW (dq_N DD) qs XX YY pf (hX, hY, hF, hs, (dq_df (2 ^ pc_ - 1) sgN)) k).2.2.2.2))))) := rfl
          generalize hb0 : dq_lo (mp_pl FW (dq_N DD) qs XX YY pf (hX, hY, hF, hs, (dq_df (2 ^ pc_ - 1) sgN)) k).2.2.2.2 = t at hlo hst
          refine lv_istore (lv' := [(4, .int (nI t)), (0, .ref (ad1 0)), (1, .int (nI (dq_df (2 ^ pc_ - 1) sgN))), (2, .int (nI (mp_pl FW (dq_N DD) qs XX YY pf (hX, hY, hF, hs, (dq_df (2 ^ pc_ - 1) sgN)) k).2.2.2.2)), (3, .int (nI k))]) hx hb dDH_planHits_64 hl (by decide) rfl (fun ls hl => ?_)
          refine lv_aload_n hx hb dDH_planHits_66 rfl (lv_at hl 1 rfl) ?_
          refine dq_get (D := D) (ci := 7) (v := .ref (ad1 17)) (C := RDH) (T := TDH) (N := 9) hx hb hts hinDH hown hK hW 0 ((dq_Un (by decide)).trans ((dq_Un (by decide)).trans ((dq_Un (by decide)).trans ((dq_Un (by decide)).trans ((dq_Un (by decide)).trans e0))))) rfl 3 (by decide) hf43 (fun _ h9 => h9) rfl dDH_planHits_67 ?_
          refine lv_iload hx hb dDH_planHits_70 (lv_at hl 0 rfl) ?_
          refine dq_aaldN hx hb hK hW 17 3 ((dq_Un (by decide)).trans ((dq_Un (by decide)).trans ((dq_Un (by decide)).trans ((dq_Un (by decide)).trans ((dq_Un (by decide)).trans e17))))) rfl t (by omega) (by omega) (a := (ad1 (30 + 4 * t))) rfl dDH_planHits_72 ?_
          refine lv_astore (lv' := [(5, .ref (ad1 (30 + 4 * t))), (4, .int (nI t)), (0, .ref (ad1 0)), (1, .int (nI (dq_df (2 ^ pc_ - 1) sgN))), (2, .int (nI (mp_pl FW (dq_N DD) qs XX YY pf (hX, hY, hF, hs, (dq_df (2 ^ pc_ - 1) sgN)) k).2.2.2.2)), (3, .int (nI k))]) hx hb dDH_planHits_73 hl (by decide) rfl (fun ls hl => ?_)
          refine lv_aload_n hx hb dDH_planHits_75 rfl (lv_at hl 2 rfl) ?_
          refine dq_get (D := D) (ci := 7) (v := .ref (ad1 23)) (C := RDH) (T := TDH) (N := 9) hx hb hts hinDH hown hK hW 0 ((dq_Un (by decide)).trans ((dq_Un (by decide)).trans ((dq_Un (by decide)).trans ((dq_Un (by decide)).trans ((dq_Un (by decide)).trans e0))))) rfl 5 (by decide) hf58 (fun _ h9 => h9) rfl dDH_planHits_76 ?_
          refine lv_aload hx hb dDH_planHits_79 (lv_at hl 0 rfl) ?_
          refine lv_iload_n hx hb dDH_planHits_81 rfl (lv_at hl 4 rfl) ?_
          refine dq_calli (va_runV (As := [.ref (ad1 (30 + 4 * t)), .int (nI (mp_pl FW (dq_N DD) qs XX YY pf (hX, hY, hF, hs, (dq_df (2 ^ pc_ - 1) sgN)) k).2.2.2.2)]) (rest := []) ⟨hx, hb, hml, hown, hts⟩ (c_Table_firstBest l D g ad1 (dq_U (dq_U (dq_U (dq_U (dq_U w1 19 (.inl (g 0, 14, .inl ((mp_pl FW (dq_N DD) qs XX YY pf (hX, hY, hF, hs, (dq_df (2 ^ pc_ - 1) sgN)) k).1)))) 20 (.inl (g 0, 14, .inl ((mp_pl FW (dq_N DD) qs XX YY pf (hX, hY, hF, hs, (dq_df (2 ^ pc_ - 1) sgN)) k).2.1)))) 21 (.inl (g 0, 14, .inl ((mp_pl FW (dq_N DD) qs XX YY pf (hX, hY, hF, hs, (dq_df (2 ^ pc_ - 1) sgN)) k).2.2.1)))) 22 (.inl (g 0, 14, .inl ((mp_pl FW (dq_N DD) qs XX YY pf (hX, hY, hF, hs, (dq_df (2 ^ pc_ - 1) sgN)) k).2.2.2.1)))) 18 (.inr (2, [.ref (ad1 19), .ref (ad1 20), .ref (ad1 21), .ref (ad1 22), .int (nI k)]))) _ ln1 FW t (qs t) ((mp_pl FW (dq_N DD) qs XX YY pf (hX, hY, hF, hs, (dq_df (2 ^ pc_ - 1) sgN)) k).2.2.2.2) (DD t) ((dq_N DD) t) ((dq_Un (by decide)).trans ((dq_Un (by decide)).trans ((dq_Un (by decide)).trans ((dq_Un (by decide)).trans ((dq_Un (by decide)).trans e23))))) ((dq_Un (by decide)).trans ((dq_Un (by decide)).trans ((dq_Un (by decide)).trans ((dq_Un (by decide)).trans ((dq_Un (by decide)).trans e24))))) ((dq_Un (by omega)).trans ((dq_Un (by omega)).trans ((dq_Un (by omega)).trans ((dq_Un (by omega)).trans ((dq_Un (by omega)).trans (lp0 t hlo)))))) ((dq_Un (by omega)).trans ((dq_Un (by omega)).trans ((dq_Un (by omega)).trans ((dq_Un (by omega)).trans ((dq_Un (by omega)).trans (lp3 t hlo)))))) (by omega) (by omega) (hq16 t hlo) (fun p _ => dq_N_ok DD t p)) (cwV 2 hts (dq_giV tw2_68 tw2_69 tw2_70 tw1_8 tw2_71) rfl rfl rfl (by decide +kernel) ⟨Nat.le_of_ble_eq_true rfl, Nat.le_of_ble_eq_true rfl⟩) (dq_preV (ci := 5) hW hS hA hK hZ ((dq_Un (by decide)).trans ((dq_Un (by decide)).trans ((dq_Un (by decide)).trans ((dq_Un (by decide)).trans ((dq_Un (by decide)).trans e23))))) rfl rfl) rfl rfl hl.1 rfl (lv_room (Nat.le_of_ble_eq_true rfl)) dDH_planHits_82 ⟨Nat.le_refl _, Nat.le_refl _⟩) hW hS hA (fun r2 u_9 H locs hp8 hW hS hz9 => ?_)
          obtain ⟨hr2, hu9⟩ := hp8
          rw [hu9] at hW
          rw [mt_first_N] at hr2
          subst hr2
          have hpl := mt_fN_lt FW ((dq_N DD) t) (mp_pl FW (dq_N DD) qs XX YY pf (hX, hY, hF, hs, (dq_df (2 ^ pc_ - 1) sgN)) k).2.2.2.2 (hq16 t hlo)
          generalize mt_fN FW ((dq_N DD) t) (mp_pl FW (dq_N DD) qs XX YY pf (hX, hY, hF, hs, (dq_df (2 ^ pc_ - 1) sgN)) k).2.2.2.2 (qs t) = p9 at hpl hst
          refine lv_istore (lv' := [(6, .int (nI p9)), (5, .ref (ad1 (30 + 4 * t))), (4, .int (nI t)), (0, .ref (ad1 0)), (1, .int (nI (dq_df (2 ^ pc_ - 1) sgN))), (2, .int (nI (mp_pl FW (dq_N DD) qs XX YY pf (hX, hY, hF, hs, (dq_df (2 ^ pc_ - 1) sgN)) k).2.2.2.2)), (3, .int (nI k))]) hx hb dDH_planHits_85 hl (by decide) rfl (fun ls hl => ?_)
          refine lv_aload_n hx hb dDH_planHits_87 rfl (lv_at hl 3 rfl) ?_
          refine dq_get (D := D) (ci := 7) (v := .ref (ad1 18)) (C := RDH) (T := TDH) (N := 9) hx hb hts hinDH hown hK hW 0 ((dq_Un (by decide)).trans ((dq_Un (by decide)).trans ((dq_Un (by decide)).trans ((dq_Un (by decide)).trans ((dq_Un (by decide)).trans e0))))) rfl 4 (by decide) hf51 (fun _ h9 => h9) rfl dDH_planHits_88 ?_
          refine lv_aload hx hb dDH_planHits_91 (lv_at hl 1 rfl) ?_
          refine dq_get (D := D) (ci := 4) (v := .ref (ad1 (31 + 4 * t))) (C := RPl) (T := TPl) (N := 4) hx hb hts hinPl hown hK hW (30 + 4 * t) ((dq_Un (by omega)).trans ((dq_Un (by omega)).trans ((dq_Un (by omega)).trans ((dq_Un (by omega)).trans ((dq_Un (by omega)).trans (lp0 t hlo)))))) rfl 0 (by decide) hf212 (fun _ h9 => h9) rfl dDH_planHits_93 ?_
          refine lv_iload hx hb dDH_planHits_96 (lv_at hl 0 rfl) ?_
          refine dq_ialdN hx hb hK hW (31 + 4 * t) 0 ((dq_Un (by omega)).trans ((dq_Un (by omega)).trans ((dq_Un (by omega)).trans ((dq_Un (by omega)).trans ((dq_Un (by omega)).trans (lp1 t hlo)))))) rfl p9 (by omega) (by omega) dDH_planHits_98 ?_
          refine lv_aload hx hb dDH_planHits_99 (lv_at hl 1 rfl) ?_
          refine dq_get (D := D) (ci := 4) (v := .ref (ad1 (32 + 4 * t))) (C := RPl) (T := TPl) (N := 4) hx hb hts hinPl hown hK hW (30 + 4 * t) ((dq_Un (by omega)).trans ((dq_Un (by omega)).trans ((dq_Un (by omega)).trans ((dq_Un (by omega)).trans ((dq_Un (by omega)).trans (lp0 t hlo)))))) rfl 1 (by decide) hf213 (fun _ h9 => h9) rfl dDH_planHits_101 ?_
          refine lv_iload hx hb dDH_planHits_104 (lv_at hl 0 rfl) ?_
          refine dq_ialdN hx hb hK hW (32 + 4 * t) 0 ((dq_Un (by omega)).trans ((dq_Un (by omega)).trans ((dq_Un (by omega)).trans ((dq_Un (by omega)).trans ((dq_Un (by omega)).trans (lp2 t hlo)))))) rfl p9 (by omega) (by omega) dDH_planHits_106 ?_
          refine lv_aload_n hx hb dDH_planHits_107 rfl (lv_at hl 3 rfl) ?_
          refine dq_get (D := D) (ci := 7) (v := .ref (ad1 5)) (C := RDH) (T := TDH) (N := 9) hx hb hts hinDH hown hK hW 0 ((dq_Un (by decide)).trans ((dq_Un (by decide)).trans ((dq_Un (by decide)).trans ((dq_Un (by decide)).trans ((dq_Un (by decide)).trans e0))))) rfl 1 (by decide) hf30 (fun _ h9 => h9) rfl dDH_planHits_108 ?_
          refine dq_get (D := D) (ci := 3) (v := .ref (ad1 10)) (C := RPt) (T := TPt) (N := 7) hx hb hts hinPt hown hK hW 5 ((dq_Un (by decide)).trans ((dq_Un (by decide)).trans ((dq_Un (by decide)).trans ((dq_Un (by decide)).trans ((dq_Un (by decide)).trans e5))))) rfl 4 (by decide) hf214 (fun _ h9 => h9) rfl dDH_planHits_111 ?_
          refine lv_iload hx hb dDH_planHits_114 (lv_at hl 2 rfl) ?_
          refine dq_ialdN hx hb hK hW 10 0 ((dq_Un (by decide)).trans ((dq_Un (by decide)).trans ((dq_Un (by decide)).trans ((dq_Un (by decide)).trans ((dq_Un (by decide)).trans e10))))) rfl t (by omega) (by omega) dDH_planHits_116 ?_
          refine lv_aload hx hb dDH_planHits_117 (lv_at hl 1 rfl) ?_
          refine dq_get (D := D) (ci := 4) (v := .ref (ad1 (33 + 4 * t))) (C := RPl) (T := TPl) (N := 4) hx hb hts hinPl hown hK hW (30 + 4 * t) ((dq_Un (by omega)).trans ((dq_Un (by omega)).trans ((dq_Un (by omega)).trans ((dq_Un (by omega)).trans ((dq_Un (by omega)).trans (lp0 t hlo)))))) rfl 2 (by decide) hf215 (fun _ h9 => h9) rfl dDH_planHits_119 ?_
          refine lv_iload hx hb dDH_planHits_122 (lv_at hl 0 rfl) ?_
          refine dq_ialdN hx hb hK hW (33 + 4 * t) 0 ((dq_Un (by omega)).trans ((dq_Un (by omega)).trans ((dq_Un (by omega)).trans ((dq_Un (by omega)).trans ((dq_Un (by omega)).trans (lp3 t hlo)))))) rfl p9 (by omega) (by omega) dDH_planHits_124 ?_
          refine dq_top (y := nI ((dq_N DD) t p9)) (dq_N_ok DD t p9) ?_
          refine lv_iload_n hx hb dDH_planHits_125 rfl (lv_at hl 5 rfl) ?_
          refine lv_iand hx hb dDH_planHits_126 ?_
          refine dq_top (y := nI ((dq_N DD) t p9 &&& (mp_pl FW (dq_N DD) qs XX YY pf (hX, hY, hF, hs, (dq_df (2 ^ pc_ - 1) sgN)) k).2.2.2.2)) (nx_and _ _) ?_
          refine dq_callv (va_runV (As := [.int ((XX t) p9), .int ((YY t) p9), .int (pf t), .int (nI ((dq_N DD) t p9 &&& (mp_pl FW (dq_N DD) qs XX YY pf (hX, hY, hF, hs, (dq_df (2 ^ pc_ - 1) sgN)) k).2.2.2.2))]) (rest := []) ⟨hx, hb, hml, hown, hts⟩ (c_Hits_add l D g ad1 (dq_U (dq_U (dq_U (dq_U (dq_U w1 19 (.inl (g 0, 14, .inl ((mp_pl FW (dq_N DD) qs XX YY pf (hX, hY, hF, hs, (dq_df (2 ^ pc_ - 1) sgN)) k).1)))) 20 (.inl (g 0, 14, .inl ((mp_pl FW (dq_N DD) qs XX YY pf (hX, hY, hF, hs, (dq_df (2 ^ pc_ - 1) sgN)) k).2.1)))) 21 (.inl (g 0, 14, .inl ((mp_pl FW (dq_N DD) qs XX YY pf (hX, hY, hF, hs, (dq_df (2 ^ pc_ - 1) sgN)) k).2.2.1)))) 22 (.inl (g 0, 14, .inl ((mp_pl FW (dq_N DD) qs XX YY pf (hX, hY, hF, hs, (dq_df (2 ^ pc_ - 1) sgN)) k).2.2.2.1)))) 18 (.inr (2, [.ref (ad1 19), .ref (ad1 20), .ref (ad1 21), .ref (ad1 22), .int (nI k)]))) _ ((mp_pl FW (dq_N DD) qs XX YY pf (hX, hY, hF, hs, (dq_df (2 ^ pc_ - 1) sgN)) k).1) ((mp_pl FW (dq_N DD) qs XX YY pf (hX, hY, hF, hs, (dq_df (2 ^ pc_ - 1) sgN)) k).2.1) ((mp_pl FW (dq_N DD) qs XX YY pf (hX, hY, hF, hs, (dq_df (2 ^ pc_ - 1) sgN)) k).2.2.1) ((mp_pl FW (dq_N DD) qs XX YY pf (hX, hY, hF, hs, (dq_df (2 ^ pc_ - 1) sgN)) k).2.2.2.1) (fun _ => 0) k (XX t p9) (YY t p9) (pf t) (nI ((dq_N DD) t p9 &&& (mp_pl FW (dq_N DD) qs XX YY pf (hX, hY, hF, hs, (dq_df (2 ^ pc_ - 1) sgN)) k).2.2.2.2)) dq_Us ((dq_Un (by decide)).trans ((dq_Un (by decide)).trans ((dq_Un (by decide)).trans ((dq_Un (by decide)).trans dq_Us)))) ((dq_Un (by decide)).trans ((dq_Un (by decide)).trans ((dq_Un (by decide)).trans dq_Us))) ((dq_Un (by decide)).trans ((dq_Un (by decide)).trans dq_Us)) ((dq_Un (by decide)).trans dq_Us) hkn) (cwV 4 hts (dq_giV tw2_72 tw2_73 tw2_74 tw1_7 tw2_75) rfl rfl rfl (by decide +kernel) ⟨Nat.le_of_ble_eq_true rfl, Nat.le_of_ble_eq_true rfl⟩) (dq_preV (ci := 2) hW hS hA hK hZ dq_Us rfl rfl) rfl rfl hl.1 rfl (lv_room (Nat.le_of_ble_eq_true rfl)) dDH_planHits_127 ⟨Nat.le_refl _, Nat.le_refl _⟩) hW hS hA (fun u_9 H locs hp8 hW hS hz9 => ?_)
          rw [hp8, dq_U5] at hW
          refine lv_iload_n hx hb dDH_planHits_130 rfl (lv_at hl 5 rfl) ?_
          refine lv_aload hx hb dDH_planHits_131 (lv_at hl 1 rfl) ?_
          refine dq_get (D := D) (ci := 4) (v := .ref (ad1 (33 + 4 * t))) (C := RPl) (T := TPl) (N := 4) hx hb hts hinPl hown hK hW (30 + 4 * t) ((dq_Un (by omega)).trans ((dq_Un (by omega)).trans ((dq_Un (by omega)).trans ((dq_Un (by omega)).trans ((dq_Un (by omega)).trans (lp0 t hlo)))))) rfl 2 (by decide) hf215 (fun _ h9 => h9) rfl dDH_planHits_133 ?_
          refine lv_iload hx hb dDH_planHits_136 (lv_at hl 0 rfl) ?_
          refine dq_ialdN hx hb hK hW (33 + 4 * t) 0 ((dq_Un (by omega)).trans ((dq_Un (by omega)).trans ((dq_Un (by omega)).trans ((dq_Un (by omega)).trans ((dq_Un (by omega)).trans (lp3 t hlo)))))) rfl p9 (by omega) (by omega) dDH_planHits_138 ?_
          refine dq_top (y := nI ((dq_N DD) t p9)) (dq_N_ok DD t p9) ?_
          refine lv_iconst (v := (-1)) hx hb dDH_planHits_139 (by decide) ?_
          refine lv_ixor hx hb dDH_planHits_140 ?_
          refine lv_iand hx hb dDH_planHits_141 ?_
          refine dq_top (y := nI (dq_df (mp_pl FW (dq_N DD) qs XX YY pf (hX, hY, hF, hs, (dq_df (2 ^ pc_ - 1) sgN)) k).2.2.2.2 ((dq_N DD) t p9))) (dq_dfI _ _) ?_
          refine lv_istore_n (lv' := [(2, .int (nI (dq_df (mp_pl FW (dq_N DD) qs XX YY pf (hX, hY, hF, hs, (dq_df (2 ^ pc_ - 1) sgN)) k).2.2.2.2 ((dq_N DD) t p9)))), (6, .int (nI p9)), (5, .ref (ad1 (30 + 4 * t))), (4, .int (nI t)), (0, .ref (ad1 0)), (1, .int (nI (dq_df (2 ^ pc_ - 1) sgN))), (3, .int (nI k))]) hx hb dDH_planHits_142 rfl hl (by decide) rfl (fun ls hl => ?_)
          refine lv_iinc (v := (nI (k + 1))) (lv' := [(3, .int (nI (k + 1))), (2, .int (nI (dq_df (mp_pl FW (dq_N DD) qs XX YY pf (hX, hY, hF, hs, (dq_df (2 ^ pc_ - 1) sgN)) k).2.2.2.2 ((dq_N DD) t p9)))), (6, .int (nI p9)), (5, .ref (ad1 (30 + 4 * t))), (4, .int (nI t)), (0, .ref (ad1 0)), (1, .int (nI (dq_df (2 ^ pc_ - 1) sgN)))]) hx hb dDH_planHits_143 hl (k := 6) rfl (by show nI k + 1 = _; exact nI_1 _) (by decide) rfl (fun ls hl => ?_)
          refine lv_goto (tgt := 50) hx hb dDH_planHits_146 (by decide) ?_
          exact ih (k + 1) _ _ _ (by omega) (by omega) (lt_s hb9 (decide_eq_false hz)) (by rw [hst]; exact hW) hS (by rw [hst]; exact (lv_sub hl [5, 6, 1, 0] rfl))
  exact loop 15 0 _ _ _ (by omega) (by omega) lt_0 hW hS (lv_sub hl [2, 3, 1, 0] rfl)
end
section
set_option maxHeartbeats 4000000 in
set_option maxRecDepth 100000 in
/-- run(), planned already -/
theorem c_run_no (l : Launch) (D : va_G) (g : Nat → ClassId) (ad : Nat → Nat) (w : Nat → Option va_E) (sz : Nat) (sg pl : Int32) (hX hY hF hs : Nat → Int32) (hc : Nat) (o0 : w 0 = some (.inr (7, [.ref (ad 1), .ref (ad 5), .ref (ad 12), .ref (ad 17), .ref (ad 18), .ref (ad 23), .ref (ad 25), .int sg, .int pl]))) (t18 : w 18 = some (.inr (2, [.ref (ad 19), .ref (ad 20), .ref (ad 21), .ref (ad 22), .int (nI hc)]))) (hpl : ¬ pl = 0) : Met l yDH_run wsDH_run ({ frames := 7, cells := 0, slots := 0, locals := 200 } : Room) (va_Pc [.ref (ad 0)] (dq_S D vwCl (dq_t g) ad w sz)) (va_Qi (fun r u => r = nI hc ∧ u = w) (dq_B D vwCl (dq_t g) ad (dq_A ad w sz)) (dq_A ad w sz)) 0 0 (dq_A ad w sz) := by
  refine dq_ofi (cc := cDH_run) (maxL := 1) (by decide) rfl (Nat.le_of_ble_eq_true rfl) ?_
  intro p e s m below meth c A Q ls ⟨hx, hb, hml, hown, hts⟩ hnm hA hW hK hZ hl hret
  have hS : va_S A s.heap s.heap [] := va_S.rf
  have hl : lv_has ls 1 [(0, .ref (ad 0))] := hl
  have hf51 := hts _ (List.mem_cons_of_mem _ tw1_218)
  have hf65 := hts _ (List.mem_cons_of_mem _ tw1_220)
  have hf92 := hts _ (List.mem_cons_of_mem _ tw1_222)
  have hf140 := hts _ (List.mem_cons_of_mem _ tw1_174)
  have hinDH : ∀ w ∈ u_ws RDH TDH 9, w ∈ wsDH_run := fun w h => List.mem_cons_of_mem _ (inDH w h)
  have hinHt : ∀ w ∈ u_ws RHt THt 5, w ∈ wsDH_run := fun w h => List.mem_cons_of_mem _ (inHt w h)
  refine lv_aload_n hx hb dDH_run_0 rfl (lv_at hl 0 rfl) ?_
  refine dq_get (D := D) (ci := 7) (v := .int pl) (C := RDH) (T := TDH) (N := 9) hx hb hts hinDH hown hK hW 0 o0 rfl 8 (by decide) hf92 (fun _ h9 => h9) rfl dDH_run_1 ?_
  refine lv_if_ne (tgt := 31) hx hb dDH_run_4 (by decide) (fun c1 => ?_) (fun c1 => ?_)
  · refine lv_aload_n hx hb dDH_run_31 rfl (lv_at hl 0 rfl) ?_
    refine dq_get (D := D) (ci := 7) (v := .ref (ad 18)) (C := RDH) (T := TDH) (N := 9) hx hb hts hinDH hown hK hW 0 o0 rfl 4 (by decide) hf51 (fun _ h9 => h9) rfl dDH_run_32 ?_
    refine dq_get (D := D) (ci := 2) (v := .int (nI hc)) (C := RHt) (T := THt) (N := 5) hx hb hts hinHt hown hK hW 18 t18 rfl 4 (by decide) hf140 (fun _ h9 => h9) rfl dDH_run_35 ?_
    exact hret _ _ _ _ _ _ ⟨rfl, rfl⟩ hW hS dDH_run_38
  · exact absurd c1 hpl
set_option maxHeartbeats 4000000 in
set_option maxRecDepth 100000 in
/-- run() -/
theorem c_run (l : Launch) (D : va_G) (g : Nat → ClassId) (ad : Nat → Nat) (w : Nat → Option va_E) (sz : Nat) (sg pl : Int32) (n : Nat) (hx_ hy_ hw_ : Nat → Int32) (f0 f1 f2 f3 : Int32) (px py pw pd pf pt : Nat → Int32) (pc_ : Nat) (cx0 cy0 cx1 cy1 : Nat → Int32) (cc_ : Nat) (qs : Nat → Nat) (XX YY DD : Nat → Nat → Int32) (hX hY hF hs : Nat → Int32) (hc : Nat) (len : Nat) (fw : Nat → Int32) (wl : Int64) (sq sh : Nat → Int32) (sl : Nat) (mq_ : Nat → Nat) (mX_ mY_ mD_ : Nat → Nat → Int32) (q2 : Nat → Nat) (X2 Y2 D2 : Nat → Nat → Int32) (FW : Nat → Int32) (nh : Nat) (zz : (Nat → Int32) × (Nat → Int32) × (Nat → Int32) × (Nat → Int32) × Nat) (o0 : w 0 = some (.inr (7, [.ref (ad 1), .ref (ad 5), .ref (ad 12), .ref (ad 17), .ref (ad 18), .ref (ad 23), .ref (ad 25), .int sg, .int pl]))) (h1 : w 1 = some (.inr (1, [.ref (ad 2), .ref (ad 3), .ref (ad 4), .int f0, .int f1, .int f2, .int f3]))) (h2 : w 2 = some (.inl (g 0, n, .inl hx_))) (h3 : w 3 = some (.inl (g 0, n, .inl hy_))) (h4 : w 4 = some (.inl (g 0, n, .inl hw_))) (p5 : w 5 = some (.inr (3, [.ref (ad 6), .ref (ad 7), .ref (ad 8), .ref (ad 9), .ref (ad 10), .ref (ad 11), .int (nI pc_)]))) (p6 : w 6 = some (.inl (g 0, 14, .inl px))) (p7 : w 7 = some (.inl (g 0, 14, .inl py))) (p8 : w 8 = some (.inl (g 0, 14, .inl pw))) (p9 : w 9 = some (.inl (g 0, 14, .inl pd))) (p10 : w 10 = some (.inl (g 0, 14, .inl pf))) (p11 : w 11 = some (.inl (g 1, 14, .inl pt))) (k12 : w 12 = some (.inr (0, [.ref (ad 13), .ref (ad 14), .ref (ad 15), .ref (ad 16), .int (nI cc_)]))) (k13 : w 13 = some (.inl (g 0, 6, .inl cx0))) (k14 : w 14 = some (.inl (g 0, 6, .inl cy0))) (k15 : w 15 = some (.inl (g 0, 6, .inl cx1))) (k16 : w 16 = some (.inl (g 0, 6, .inl cy1))) (a17 : w 17 = some (.inl (g 3, 14, .inr (.inr (.inr (.inr (fun h => some (ad (30 + 4 * h))))))))) (t18 : w 18 = some (.inr (2, [.ref (ad 19), .ref (ad 20), .ref (ad 21), .ref (ad 22), .int (nI hc)]))) (t19 : w 19 = some (.inl (g 0, 14, .inl hX))) (t20 : w 20 = some (.inl (g 0, 14, .inl hY))) (t21 : w 21 = some (.inl (g 0, 14, .inl hF))) (t22 : w 22 = some (.inl (g 0, 14, .inl hs))) (b23 : w 23 = some (.inr (5, [.ref (ad 24)]))) (b24 : w 24 = some (.inl (g 0, len, .inl fw))) (y25 : w 25 = some (.inr (6, [.ref (ad 26), .long wl, .ref (ad 27)]))) (y26 : w 26 = some (.inl (g 0, 14, .inl sq))) (y27 : w 27 = some (.inl (g 0, sl, .inl sh))) (hpl : pl = 0) (hn : n ≤ 16) (hc6 : cc_ ≤ 6) (hpc : pc_ ≤ 14) (hln : len ≤ 16384) (hsl2 : sl ≤ 10240) (hq16 : ∀ h, h < 14 → qs h ≤ 16) (lp0 : ∀ h, h < 14 → w (30 + 4 * h) = some (.inr (4, [.ref (ad (31 + 4 * h)), .ref (ad (32 + 4 * h)), .ref (ad (33 + 4 * h)), .int (nI (qs h))]))) (lp1 : ∀ h, h < 14 → w (31 + 4 * h) = some (.inl (g 0, 16, .inl (XX h)))) (lp2 : ∀ h, h < 14 → w (32 + 4 * h) = some (.inl (g 0, 16, .inl (YY h)))) (lp3 : ∀ h, h < 14 → w (33 + 4 * h) = some (.inl (g 0, 16, .inl (DD h)))) (hmq : mq_ = (fun h => ((fun h => mp_find hx_ hy_ hw_ (px h) (py h) (pw h) (mc_bar cx0 cy0 cx1 cy1 cc_ f0 f1 f2 f3) (XX h) (YY h) n) h).1)) (hmX : mX_ = (fun h => ((fun h => mp_find hx_ hy_ hw_ (px h) (py h) (pw h) (mc_bar cx0 cy0 cx1 cy1 cc_ f0 f1 f2 f3) (XX h) (YY h) n) h).2.1)) (hmY : mY_ = (fun h => ((fun h => mp_find hx_ hy_ hw_ (px h) (py h) (pw h) (mc_bar cx0 cy0 cx1 cy1 cc_ f0 f1 f2 f3) (XX h) (YY h) n) h).2.2)) (hmD : mD_ = (fun h => mp_D (fun p => mp_bits (mp_F hx_ hy_ hw_ px py pw pd pf pt n h (((fun h => mp_find hx_ hy_ hw_ (px h) (py h) (pw h) (mc_bar cx0 cy0 cx1 cy1 cc_ f0 f1 f2 f3) (XX h) (YY h) n) h).2.1 p) (((fun h => mp_find hx_ hy_ hw_ (px h) (py h) (pw h) (mc_bar cx0 cy0 cx1 cy1 cc_ f0 f1 f2 f3) (XX h) (YY h) n) h).2.2 p)) h (pc_ - h)) (DD h) ((fun h => mp_find hx_ hy_ hw_ (px h) (py h) (pw h) (mc_bar cx0 cy0 cx1 cy1 cc_ f0 f1 f2 f3) (XX h) (YY h) n) h).1)) (hq2 : q2 = dq_pw pc_ mq_ qs) (hX2 : X2 = dq_pw pc_ mX_ XX) (hY2 : Y2 = dq_pw pc_ mY_ YY) (hD2 : D2 = dq_pw pc_ mD_ DD) (hFW : FW = (mt_fill (if len < 2 ^ pc_ then (fun _ => 0) else fw) (dq_N D2) q2 (dq_df (2 ^ pc_ - 1) (mf_sg mq_ pc_)))) (hnh : nh = (mp_n FW (dq_N D2) q2 X2 Y2 pf (hX, hY, hF, hs, (dq_df (2 ^ pc_ - 1) (mf_sg mq_ pc_))))) (hzz : zz = (mp_pl FW (dq_N D2) q2 X2 Y2 pf (hX, hY, hF, hs, (dq_df (2 ^ pc_ - 1) (mf_sg mq_ pc_))) nh)) : Met l yDH_run wsDH_run ({ frames := 7, cells := ((if len < 2 ^ pc_ then 1 else 0) + (if (nh ≤ 10 ∧ sl < 2 ^ nh * nh) then 1 else 0)), slots := ((if len < 2 ^ pc_ then 2 ^ pc_ else 0) + (if (nh ≤ 10 ∧ sl < 2 ^ nh * nh) then 2 ^ nh * nh else 0)), locals := 200 } : Room) (va_Pc [.ref (ad 0)] (dq_S D vwCl (dq_t g) ad w sz)) (va_Qi (fun r u => r = nI nh ∧ (∀ j, j ≠ 24 → j ≠ 27 → u.1 j = ad j) ∧ (∀ j, j ≠ 0 → (j < 18 ∨ 86 ≤ j) → u.2 j = w j) ∧ u.2 0 = some (.inr (7, [.ref (u.1 1), .ref (u.1 5), .ref (u.1 12), .ref (u.1 17), .ref (u.1 18), .ref (u.1 23), .ref (u.1 25), .int (nI (mf_sg mq_ pc_)), .int 1])) ∧ (∀ h, h < 14 → u.2 (30 + 4 * h) = some (.inr (4, [.ref (u.1 (31 + 4 * h)), .ref (u.1 (32 + 4 * h)), .ref (u.1 (33 + 4 * h)), .int (nI (q2 h))]))) ∧ (∀ h, h < 14 → u.2 (31 + 4 * h) = some (.inl (g 0, 16, .inl (X2 h)))) ∧ (∀ h, h < 14 → u.2 (32 + 4 * h) = some (.inl (g 0, 16, .inl (Y2 h)))) ∧ (∀ h, h < 14 → u.2 (33 + 4 * h) = some (.inl (g 0, 16, .inl (D2 h)))) ∧ u.2 18 = some (.inr (2, [.ref (u.1 19), .ref (u.1 20), .ref (u.1 21), .ref (u.1 22), .int (nI nh)])) ∧ u.2 19 = some (.inl (g 0, 14, .inl zz.1)) ∧ u.2 20 = some (.inl (g 0, 14, .inl zz.2.1)) ∧ u.2 21 = some (.inl (g 0, 14, .inl zz.2.2.1)) ∧ u.2 22 = some (.inl (g 0, 14, .inl zz.2.2.2.1)) ∧ u.2 23 = some (.inr (5, [.ref (u.1 24)])) ∧ u.2 24 = some (.inl (g 0, (if len < 2 ^ pc_ then 2 ^ pc_ else len), .inl FW)) ∧ ∃ (SQ sh9 : Nat → Int32), ((nh ≤ 10 ∧ ∃ sh8 : Nat → Int32, SQ = (mw_tk (mw_fill sh8 zz.1 zz.2.1 nh (2 ^ nh)) zz.1 zz.2.1 nh sq nh).1) ∨ (10 < nh ∧ SQ = mw_own sq nh)) ∧ u.2 25 = some (.inr (6, [.ref (u.1 26), .long (mw_len zz.1 zz.2.1 (fun i => (SQ i).toNatClampNeg) nh).1, .ref (u.1 27)])) ∧ u.2 26 = some (.inl (g 0, 14, .inl SQ)) ∧ u.2 27 = some (.inl (g 0, (if (nh ≤ 10 ∧ sl < 2 ^ nh * nh) then 2 ^ nh * nh else sl), .inl sh9))) (dq_B2 D vwCl (dq_t g) (dq_A ad w sz)) (dq_A ad w sz)) ((if len < 2 ^ pc_ then 1 else 0) + (if (nh ≤ 10 ∧ sl < 2 ^ nh * nh) then 1 else 0)) ((if len < 2 ^ pc_ then 2 ^ pc_ else 0) + (if (nh ≤ 10 ∧ sl < 2 ^ nh * nh) then 2 ^ nh * nh else 0)) (dq_A ad w sz) := by
  refine dq_ofi2 (cc := cDH_run) (maxL := 1) (by decide) rfl (Nat.le_of_ble_eq_true rfl) ?_
  intro p e s m below meth c A Q ls ⟨hx, hb, hml, hown, hts⟩ hnm hA hW hK hZ hl hret
  have hS : va_S A s.heap s.heap [] := va_S.rf
  have hl : lv_has ls 1 [(0, .ref (ad 0))] := hl
  have hf51 := hts _ (List.mem_cons_of_mem _ tw1_218)
  have hf65 := hts _ (List.mem_cons_of_mem _ tw1_220)
  have hf92 := hts _ (List.mem_cons_of_mem _ tw1_222)
  have hf140 := hts _ (List.mem_cons_of_mem _ tw1_174)
  have hinDH : ∀ w ∈ u_ws RDH TDH 9, w ∈ wsDH_run := fun w h => List.mem_cons_of_mem _ (inDH w h)
  have hinHt : ∀ w ∈ u_ws RHt THt 5, w ∈ wsDH_run := fun w h => List.mem_cons_of_mem _ (inHt w h)
  refine lv_aload_n hx hb dDH_run_0 rfl (lv_at hl 0 rfl) ?_
  refine dq_get (D := D) (ci := 7) (v := .int pl) (C := RDH) (T := TDH) (N := 9) hx hb hts hinDH hown hK hW 0 o0 rfl 8 (by decide) hf92 (fun _ h9 => h9) rfl dDH_run_1 ?_
  refine lv_if_ne (tgt := 31) hx hb dDH_run_4 (by decide) (fun c1 => ?_) (fun c1 => ?_)
  · exact absurd hpl c1
  · refine lv_aload_n hx hb dDH_run_7 rfl (lv_at hl 0 rfl) ?_
    refine dq_callv (va_runV (As := []) (rest := []) ⟨hx, hb, hml, hown, hts⟩ (c_findPlaces l D g ad (w) _ sg pl n hx_ hy_ hw_ f0 f1 f2 f3 px py pw pd pf pt pc_ cx0 cy0 cx1 cy1 cc_ qs XX YY DD mq_ mX_ mY_ mD_ o0 h1 h2 h3 h4 p5 p6 p7 p8 p9 p10 p11 k12 k13 k14 k15 k16 a17 hn hc6 hpc hq16 lp0 lp1 lp2 lp3 hmq hmX hmY hmD) (cwV 0 hts (dq_giV tw2_6 tw2_8 twp_0 tw1_1 tw2_9) rfl rfl rfl (by decide +kernel) ⟨Nat.le_of_ble_eq_true rfl, Nat.le_of_ble_eq_true rfl⟩) (dq_preV (ci := 7) hW hS hA hK hZ o0 rfl rfl) rfl rfl hl.1 rfl (lv_room (Nat.le_of_ble_eq_true rfl)) dDH_run_8 ⟨Nat.zero_le _, Nat.zero_le _⟩) hW hS hA (fun u_9 H locs hp1 hW hS hz9 => ?_)
    obtain ⟨w1, hw1⟩ : ∃ w1, w1 = u_9 := ⟨_, rfl⟩
    rw [← hw1] at hp1 hW
    obtain ⟨hfr1, b0, m0, m1, m2, m3⟩ := hp1
    have m0 : ∀ h, h < 14 → w1 (30 + 4 * h) = some (.inr (4, [.ref (ad (31 + 4 * h)), .ref (ad (32 + 4 * h)), .ref (ad (33 + 4 * h)), .int (nI (q2 h))])) := by rw [hq2]; exact m0
    have m1 : ∀ h, h < 14 → w1 (31 + 4 * h) = some (.inl (g 0, 16, .inl (X2 h))) := by rw [hX2]; exact m1
    have m2 : ∀ h, h < 14 → w1 (32 + 4 * h) = some (.inl (g 0, 16, .inl (Y2 h))) := by rw [hY2]; exact m2
    have m3 : ∀ h, h < 14 → w1 (33 + 4 * h) = some (.inl (g 0, 16, .inl (D2 h))) := by rw [hD2]; exact m3
    have hq16b : ∀ h, h < 14 → q2 h ≤ 16 := by intro h hh; rw [hq2]; unfold dq_pw; split; (rw [hmq]; exact mp_find_le _ _ _ _ _ _ _ _ _ _); exact hq16 h hh
    have hnh9 : nh ≤ 14 := by rw [hnh]; exact dq_fn_le _ _
    refine lv_aload_n hx hb dDH_run_11 rfl (lv_at hl 0 rfl) ?_
    refine dq_callv2 (va_runV (As := []) (rest := []) ⟨hx, hb, hml, hown, hts⟩ (c_planHits l D g ad (w1) _ (mf_sg mq_ pc_) pl px py pw pd pf pt pc_ q2 X2 Y2 D2 len fw hX hY hF hs hc b0 ((hfr1 5 (by decide) (Or.inl (by decide))).trans p5) ((hfr1 10 (by decide) (Or.inl (by decide))).trans p10) ((hfr1 17 (by decide) (Or.inl (by decide))).trans a17) ((hfr1 23 (by decide) (Or.inl (by decide))).trans b23) ((hfr1 24 (by decide) (Or.inl (by decide))).trans b24) ((hfr1 18 (by decide) (Or.inl (by decide))).trans t18) ((hfr1 19 (by decide) (Or.inl (by decide))).trans t19) ((hfr1 20 (by decide) (Or.inl (by decide))).trans t20) ((hfr1 21 (by decide) (Or.inl (by decide))).trans t21) ((hfr1 22 (by decide) (Or.inl (by decide))).trans t22) hpc hln hq16b m0 m1 m2 m3) (cwV 0 hts (dq_giV tw2_43 tw2_45 twp_2 tw1_1 tw2_46) rfl rfl rfl (by decide +kernel) ⟨Nat.le_of_ble_eq_true rfl, Nat.le_of_ble_eq_true rfl⟩) (dq_preV (ci := 7) hW hS hA hK hZ b0 rfl rfl) rfl rfl hl.1 rfl (lv_room (Nat.le_of_ble_eq_true rfl)) dDH_run_12 ⟨by show 0 + 0 + _ ≤ _ + _; omega, by show 0 + 0 + _ ≤ _ + _; omega⟩) hW hS hA (fun u_9 H locs hp2 hW hS hz9 => ?_)
    obtain ⟨ad1, w2⟩ := u_9
    obtain ⟨hadj, hfr2, e23, e24, e18, e19, e20, e21, e22⟩ := hp2
    dsimp only at hadj hfr2 e23 e24 e18 e19 e20 e21 e22 hW
    rw [← hFW] at e24 e18 e19 e20 e21 e22
    rw [← hnh] at e18 e19 e20 e21 e22
    rw [← hzz] at e19 e20 e21 e22
    have hl : lv_has ls 1 [(0, .ref (ad1 0))] := by rw [hadj 0 (by decide)]; exact hl
    have e0 : w2 0 = some (.inr (7, [.ref (ad1 1), .ref (ad1 5), .ref (ad1 12), .ref (ad1 17), .ref (ad1 18), .ref (ad1 23), .ref (ad1 25), .int (nI (mf_sg mq_ pc_)), .int pl])) := by rw [hadj 1 (by decide), hadj 5 (by decide), hadj 12 (by decide), hadj 17 (by decide), hadj 18 (by decide), hadj 23 (by decide), hadj 25 (by decide), hfr2 0 (by decide)]; exact b0
    have e25 : w2 25 = some (.inr (6, [.ref (ad1 26), .long wl, .ref (ad1 27)])) := by rw [hadj 26 (by decide), hadj 27 (by decide), hfr2 25 (by decide)]; exact ((hfr1 25 (by decide) (Or.inl (by decide))).trans y25)
    have e26 : w2 26 = some (.inl (g 0, 14, .inl sq)) := by rw [hfr2 26 (by decide)]; exact ((hfr1 26 (by decide) (Or.inl (by decide))).trans y26)
    have e27 : w2 27 = some (.inl (g 0, sl, .inl sh)) := by rw [hfr2 27 (by decide)]; exact ((hfr1 27 (by decide) (Or.inl (by decide))).trans y27)
    refine lv_aload_n hx hb dDH_run_15 rfl (lv_at hl 0 rfl) ?_
    refine dq_get (D := D) (ci := 7) (v := .ref (ad1 25)) (C := RDH) (T := TDH) (N := 9) hx hb hts hinDH hown hK hW 0 e0 rfl 6 (by decide) hf65 (fun _ h9 => h9) rfl dDH_run_16 ?_
    refine lv_aload_n hx hb dDH_run_19 rfl (lv_at hl 0 rfl) ?_
    refine dq_get (D := D) (ci := 7) (v := .ref (ad1 18)) (C := RDH) (T := TDH) (N := 9) hx hb hts hinDH hown hK hW 0 e0 rfl 4 (by decide) hf51 (fun _ h9 => h9) rfl dDH_run_20 ?_
    refine dq_callv2 (va_runV (As := [.ref (ad1 18)]) (rest := []) ⟨hx, hb, hml, hown, hts⟩ (c_Way_find l D g ad1 (w2) _ zz.1 zz.2.1 nh wl sq sh sl e18 e19 e20 e25 e26 e27 hnh9 hsl2) (cwV 1 hts (dq_giV tw2_76 tw2_77 tw2_78 tw1_9 tw2_79) rfl rfl rfl (by decide +kernel) ⟨Nat.le_of_ble_eq_true rfl, Nat.le_of_ble_eq_true rfl⟩) (dq_preV (ci := 6) hW hS hA hK hZ e25 rfl rfl) rfl rfl hl.1 rfl (lv_room (Nat.le_of_ble_eq_true rfl)) dDH_run_23 ⟨by show 0 + 0 + _ + _ ≤ _ + _; omega, by show 0 + 0 + _ + _ ≤ _ + _; omega⟩) hW hS hA (fun u_9 H locs hp3 hW hS hz9 => ?_)
    obtain ⟨ad2, w3⟩ := u_9
    obtain ⟨hadk, hfr3, SQ, sh9, hSQ, k25, k26, k27⟩ := hp3
    dsimp only at hadk hfr3 k25 k26 k27 hW
    have hl : lv_has ls 1 [(0, .ref (ad2 0))] := by rw [hadk 0 (by decide)]; exact hl
    have k0 : w3 0 = some (.inr (7, [.ref (ad2 1), .ref (ad2 5), .ref (ad2 12), .ref (ad2 17), .ref (ad2 18), .ref (ad2 23), .ref (ad2 25), .int (nI (mf_sg mq_ pc_)), .int pl])) := by rw [hadk 1 (by decide), hadk 5 (by decide), hadk 12 (by decide), hadk 17 (by decide), hadk 18 (by decide), hadk 23 (by decide), hadk 25 (by decide), hfr3 0 (by decide) (by decide) (by decide)]; exact e0
    have k18 : w3 18 = some (.inr (2, [.ref (ad2 19), .ref (ad2 20), .ref (ad2 21), .ref (ad2 22), .int (nI nh)])) := by rw [hadk 19 (by decide), hadk 20 (by decide), hadk 21 (by decide), hadk 22 (by decide), hfr3 18 (by decide) (by decide) (by decide)]; exact e18
    refine lv_aload_n hx hb dDH_run_26 rfl (lv_at hl 0 rfl) ?_
    refine lv_iconst (v := (1)) hx hb dDH_run_27 (by decide) ?_
    refine dq_put (D := D) (ci := 7) (v := .int (1)) (ty := .boolean) (C := RDH) (T := TDH) (N := 9) hx hb hts hinDH tyDH tyDH_ok nmDH hown hK hW hS 0 k0 rfl 8 (by decide) hf92 (fun _ h9 => h9) rfl (by decide +kernel) rfl rfl (Nat.le_of_ble_eq_true rfl) dDH_run_28 (fun H locs hW hS => ?_)
    refine lv_aload_n hx hb dDH_run_31 rfl (lv_at hl 0 rfl) ?_
    refine dq_get (D := D) (ci := 7) (v := .ref (ad2 18)) (C := RDH) (T := TDH) (N := 9) hx hb hts hinDH hown hK hW 0 dq_Us rfl 4 (by decide) hf51 (fun _ h9 => h9) rfl dDH_run_32 ?_
    refine dq_get (D := D) (ci := 2) (v := .int (nI nh)) (C := RHt) (T := THt) (N := 5) hx hb hts hinHt hown hK hW 18 ((dq_Un (by decide)).trans k18) rfl 4 (by decide) hf140 (fun _ h9 => h9) rfl dDH_run_35 ?_
    refine W.widen (k := ((if len < 2 ^ pc_ then 1 else 0) + (if (nh ≤ 10 ∧ sl < 2 ^ nh * nh) then 1 else 0))) (n := ((if len < 2 ^ pc_ then 2 ^ pc_ else 0) + (if (nh ≤ 10 ∧ sl < 2 ^ nh * nh) then 2 ^ nh * nh else 0))) (by omega) (by omega) ?_
    obtain ⟨w4, hw4⟩ : ∃ w4, w4 = dq_U w3 0 (.inr (7, [.ref (ad2 1), .ref (ad2 5), .ref (ad2 12), .ref (ad2 17), .ref (ad2 18), .ref (ad2 23), .ref (ad2 25), .int (nI (mf_sg mq_ pc_)), .int (1)])) := ⟨_, rfl⟩
    have hW : dq_W D vwCl ad2 w4 A H := by rw [hw4]; exact hW
    have v9 : ∀ j, j ≠ 0 → w4 j = w3 j := fun j h1 => by rw [hw4, dq_Un h1]
    have a9 : ∀ j, j ≠ 24 → j ≠ 27 → ad2 j = ad j := fun j h1 h2 => (hadk j h2).trans (hadj j h1)
    have f9 : ∀ j, j ≠ 0 → j ≠ 25 → j ≠ 26 → j ≠ 27 → w4 j = w2 j := fun j h0 h1 h2 h3 => (v9 j h0).trans (hfr3 j h1 h2 h3)
    exact hret _ (ad2, w4) _ _ _ _ ⟨rfl,
      a9,
      fun j h0 h1 => by show w4 j = _; rw [f9 j h0 (by omega) (by omega) (by omega), hfr2 j (by omega)]; exact hfr1 j h0 (by omega),
      by show w4 0 = _; rw [hw4]; exact dq_Us,
      fun h hh => by show w4 _ = _; dsimp only; rw [f9 _ (by omega) (by omega) (by omega) (by omega), hfr2 _ (by omega), a9 _ (by omega) (by omega), a9 _ (by omega) (by omega), a9 _ (by omega) (by omega)]; exact m0 h hh,
      fun h hh => by show w4 _ = _; rw [f9 _ (by omega) (by omega) (by omega) (by omega), hfr2 _ (by omega)]; exact m1 h hh,
      fun h hh => by show w4 _ = _; rw [f9 _ (by omega) (by omega) (by omega) (by omega), hfr2 _ (by omega)]; exact m2 h hh,
      fun h hh => by show w4 _ = _; rw [f9 _ (by omega) (by omega) (by omega) (by omega), hfr2 _ (by omega)]; exact m3 h hh,
      by show w4 18 = _; rw [v9 18 (by decide)]; exact k18,
      by show w4 19 = _; rw [f9 19 (by decide) (by decide) (by decide) (by decide)]; exact e19,
      by show w4 20 = _; rw [f9 20 (by decide) (by decide) (by decide) (by decide)]; exact e20,
      by show w4 21 = _; rw [f9 21 (by decide) (by decide) (by decide) (by decide)]; exact e21,
      by show w4 22 = _; rw [f9 22 (by decide) (by decide) (by decide) (by decide)]; exact e22,
      by show w4 23 = _; dsimp only; rw [f9 23 (by decide) (by decide) (by decide) (by decide), hadk 24 (by decide)]; exact e23,
      by show w4 24 = _; rw [f9 24 (by decide) (by decide) (by decide) (by decide)]; exact e24,
      SQ,
      sh9,
      hSQ,
      by show w4 25 = _; rw [v9 25 (by decide)]; exact k25,
      by show w4 26 = _; rw [v9 26 (by decide)]; exact k26,
      by show w4 27 = _; rw [v9 27 (by decide)]; exact k27⟩ hW hS dDH_run_38
end
section
theorem dx_io {c0 : Cond} {A : Nat → Prop} {s : State} {args : Array Value} (hts : ∀ w ∈ c0 :: dq_G, w.before args s = true) (hZ : dq_Z A s s.heap) : ∀ w ∈ Bundle.ownAtoms RDH 77 "java/lang/IndexOutOfBoundsException" ["java/lang/RuntimeException", "java/lang/Exception"], w.before args s = true := by
  simp only [Bundle.ownAtoms, Bundle.throwableAtoms, Bundle.throwableSAtoms, Bundle.chainSAtoms, Bundle.passSAtoms, List.cons_append, List.nil_append]
  refine List.forall_mem_cons.mpr ⟨(hts _ (List.mem_cons_of_mem _ (dq_in1 11 rfl rfl))), ?_⟩
  refine List.forall_mem_cons.mpr ⟨(hts _ (List.mem_cons_of_mem _ (dq_in2 150 rfl rfl))), ?_⟩
  refine List.forall_mem_cons.mpr ⟨(hts _ (List.mem_cons_of_mem _ (dq_in2 159 rfl rfl))), ?_⟩
  refine List.forall_mem_cons.mpr ⟨(hts _ (List.mem_cons_of_mem _ (dq_in2 163 rfl rfl))), ?_⟩
  refine List.forall_mem_cons.mpr ⟨(hts _ (List.mem_cons_of_mem _ (dq_in2 166 rfl rfl))), ?_⟩
  refine List.forall_mem_cons.mpr ⟨(hts _ (List.mem_cons_of_mem _ (dq_in2 168 rfl rfl))), ?_⟩
  refine List.forall_mem_cons.mpr ⟨(hts _ (List.mem_cons_of_mem _ (dq_in2 151 rfl rfl))), ?_⟩
  refine List.forall_mem_cons.mpr ⟨(hts _ (List.mem_cons_of_mem _ (dq_in2 152 rfl rfl))), ?_⟩
  refine List.forall_mem_cons.mpr ⟨(hts _ (List.mem_cons_of_mem _ (dq_in1 24 rfl rfl))), ?_⟩
  refine List.forall_mem_cons.mpr ⟨(hts _ (List.mem_cons_of_mem _ (dq_in1 25 rfl rfl))), ?_⟩
  refine List.forall_mem_cons.mpr ⟨(hts _ (List.mem_cons_of_mem _ (dq_in2 153 rfl rfl))), ?_⟩
  refine List.forall_mem_cons.mpr ⟨(hts _ (List.mem_cons_of_mem _ (dq_in2 158 rfl rfl))), ?_⟩
  refine List.forall_mem_cons.mpr ⟨(hts _ (List.mem_cons_of_mem _ (dq_in2 164 rfl rfl))), ?_⟩
  refine List.forall_mem_cons.mpr ⟨(hts _ (List.mem_cons_of_mem _ (dq_in2 184 rfl rfl))), ?_⟩
  refine List.forall_mem_cons.mpr ⟨(hts _ (List.mem_cons_of_mem _ (dq_in2 140 rfl rfl))), ?_⟩
  refine List.forall_mem_cons.mpr ⟨(hts _ (List.mem_cons_of_mem _ (dq_in2 185 rfl rfl))), ?_⟩
  refine List.forall_mem_cons.mpr ⟨(hts _ (List.mem_cons_of_mem _ (dq_in2 142 rfl rfl))), ?_⟩
  refine List.forall_mem_cons.mpr ⟨(hts _ (List.mem_cons_of_mem _ (dq_in2 186 rfl rfl))), ?_⟩
  refine List.forall_mem_cons.mpr ⟨(hts _ (List.mem_cons_of_mem _ (dq_in2 144 rfl rfl))), ?_⟩
  refine List.forall_mem_cons.mpr ⟨(hts _ (List.mem_cons_of_mem _ (dq_in2 154 rfl rfl))), ?_⟩
  refine List.forall_mem_cons.mpr ⟨hZ.l0.word, ?_⟩
  refine List.forall_mem_cons.mpr ⟨(hts _ (List.mem_cons_of_mem _ (dq_in2 156 rfl rfl))), ?_⟩
  refine List.forall_mem_cons.mpr ⟨hZ.l1.word, ?_⟩
  refine List.forall_mem_cons.mpr ⟨(hts _ (List.mem_cons_of_mem _ (dq_in2 146 rfl rfl))), ?_⟩
  refine List.forall_mem_cons.mpr ⟨(hts _ (List.mem_cons_of_mem _ (dq_in2 180 rfl rfl))), ?_⟩
  refine List.forall_mem_cons.mpr ⟨(hts _ (List.mem_cons_of_mem _ (dq_in2 181 rfl rfl))), ?_⟩
  refine List.forall_mem_cons.mpr ⟨(hts _ (List.mem_cons_of_mem _ (dq_in2 183 rfl rfl))), ?_⟩
  refine List.forall_mem_cons.mpr ⟨(hts _ (List.mem_cons_of_mem _ (dq_in2 146 rfl rfl))), ?_⟩
  refine List.forall_mem_cons.mpr ⟨(hts _ (List.mem_cons_of_mem _ (dq_in2 171 rfl rfl))), ?_⟩
  refine List.forall_mem_cons.mpr ⟨(hts _ (List.mem_cons_of_mem _ (dq_in2 172 rfl rfl))), ?_⟩
  refine List.forall_mem_cons.mpr ⟨(hts _ (List.mem_cons_of_mem _ (dq_in2 173 rfl rfl))), ?_⟩
  refine List.forall_mem_cons.mpr ⟨(hts _ (List.mem_cons_of_mem _ (dq_in2 174 rfl rfl))), ?_⟩
  refine List.forall_mem_cons.mpr ⟨(va_Nw.use rfl hZ.d0), ?_⟩
  refine List.forall_mem_cons.mpr ⟨(hts _ (List.mem_cons_of_mem _ (dq_in2 174 rfl rfl))), ?_⟩
  refine List.forall_mem_cons.mpr ⟨(hts _ (List.mem_cons_of_mem _ (dq_in2 175 rfl rfl))), ?_⟩
  refine List.forall_mem_cons.mpr ⟨(hts _ (List.mem_cons_of_mem _ (dq_in2 176 rfl rfl))), ?_⟩
  refine List.forall_mem_cons.mpr ⟨(hts _ (List.mem_cons_of_mem _ (dq_in2 177 rfl rfl))), ?_⟩
  refine List.forall_mem_cons.mpr ⟨(va_Nw.use rfl hZ.d1), ?_⟩
  refine List.forall_mem_cons.mpr ⟨(hts _ (List.mem_cons_of_mem _ (dq_in2 177 rfl rfl))), ?_⟩
  refine List.forall_mem_cons.mpr ⟨(hts _ (List.mem_cons_of_mem _ (dq_in2 178 rfl rfl))), ?_⟩
  refine List.forall_mem_cons.mpr ⟨(hts _ (List.mem_cons_of_mem _ (dq_in2 179 rfl rfl))), ?_⟩
  refine List.forall_mem_cons.mpr ⟨(hts _ (List.mem_cons_of_mem _ (dq_in2 180 rfl rfl))), ?_⟩
  refine List.forall_mem_cons.mpr ⟨(va_Nw.use rfl hZ.d2), ?_⟩
  refine List.forall_mem_cons.mpr ⟨(hts _ (List.mem_cons_of_mem _ (dq_in2 170 rfl rfl))), ?_⟩
  refine List.forall_mem_cons.mpr ⟨(hts _ (List.mem_cons_of_mem _ (dq_in2 129 rfl rfl))), ?_⟩
  refine List.forall_mem_cons.mpr ⟨(va_Nw.use rfl hZ.c0), ?_⟩
  refine List.forall_mem_cons.mpr ⟨(hts _ (List.mem_cons_of_mem _ (dq_in2 137 rfl rfl))), ?_⟩
  refine List.forall_mem_cons.mpr ⟨(hts _ (List.mem_cons_of_mem _ (dq_in2 138 rfl rfl))), ?_⟩
  refine List.forall_mem_cons.mpr ⟨(hts _ (List.mem_cons_of_mem _ (dq_in2 139 rfl rfl))), ?_⟩
  refine List.forall_mem_cons.mpr ⟨(hts _ (List.mem_cons_of_mem _ (dq_in2 141 rfl rfl))), ?_⟩
  refine List.forall_mem_cons.mpr ⟨(hts _ (List.mem_cons_of_mem _ (dq_in2 143 rfl rfl))), ?_⟩
  refine List.forall_mem_cons.mpr ⟨(hts _ (List.mem_cons_of_mem _ (dq_in2 145 rfl rfl))), ?_⟩
  refine List.forall_mem_cons.mpr ⟨(dx_ref hZ.q0), ?_⟩
  refine List.forall_mem_cons.mpr ⟨(dx_ref hZ.q1), ?_⟩
  refine List.forall_mem_cons.mpr ⟨(hts _ (List.mem_cons_of_mem _ (dq_in2 149 rfl rfl))), ?_⟩
  refine List.forall_mem_cons.mpr ⟨(hts _ (List.mem_cons_of_mem _ (dq_in2 148 rfl rfl))), ?_⟩
  refine List.forall_mem_cons.mpr ⟨(hts _ (List.mem_cons_of_mem _ (dq_in2 147 rfl rfl))), ?_⟩
  exact fun _ h => absurd h List.not_mem_nil
theorem dx_ia {c0 : Cond} {A : Nat → Prop} {s : State} {args : Array Value} (hts : ∀ w ∈ c0 :: dq_G, w.before args s = true) (hZ : dq_Z A s s.heap) : ∀ w ∈ Bundle.ownAtoms RDH 159 "java/lang/IllegalArgumentException" ["java/lang/RuntimeException", "java/lang/Exception"], w.before args s = true := by
  simp only [Bundle.ownAtoms, Bundle.throwableAtoms, Bundle.throwableSAtoms, Bundle.chainSAtoms, Bundle.passSAtoms, List.cons_append, List.nil_append]
  refine List.forall_mem_cons.mpr ⟨(hts _ (List.mem_cons_of_mem _ (dq_in1 11 rfl rfl))), ?_⟩
  refine List.forall_mem_cons.mpr ⟨(hts _ (List.mem_cons_of_mem _ (dq_in2 150 rfl rfl))), ?_⟩
  refine List.forall_mem_cons.mpr ⟨(hts _ (List.mem_cons_of_mem _ (dq_in2 159 rfl rfl))), ?_⟩
  refine List.forall_mem_cons.mpr ⟨(hts _ (List.mem_cons_of_mem _ (dq_in2 163 rfl rfl))), ?_⟩
  refine List.forall_mem_cons.mpr ⟨(hts _ (List.mem_cons_of_mem _ (dq_in2 166 rfl rfl))), ?_⟩
  refine List.forall_mem_cons.mpr ⟨(hts _ (List.mem_cons_of_mem _ (dq_in2 168 rfl rfl))), ?_⟩
  refine List.forall_mem_cons.mpr ⟨(hts _ (List.mem_cons_of_mem _ (dq_in2 151 rfl rfl))), ?_⟩
  refine List.forall_mem_cons.mpr ⟨(hts _ (List.mem_cons_of_mem _ (dq_in2 152 rfl rfl))), ?_⟩
  refine List.forall_mem_cons.mpr ⟨(hts _ (List.mem_cons_of_mem _ (dq_in1 24 rfl rfl))), ?_⟩
  refine List.forall_mem_cons.mpr ⟨(hts _ (List.mem_cons_of_mem _ (dq_in1 25 rfl rfl))), ?_⟩
  refine List.forall_mem_cons.mpr ⟨(hts _ (List.mem_cons_of_mem _ (dq_in2 153 rfl rfl))), ?_⟩
  refine List.forall_mem_cons.mpr ⟨(hts _ (List.mem_cons_of_mem _ (dq_in2 158 rfl rfl))), ?_⟩
  refine List.forall_mem_cons.mpr ⟨(hts _ (List.mem_cons_of_mem _ (dq_in2 164 rfl rfl))), ?_⟩
  refine List.forall_mem_cons.mpr ⟨(hts _ (List.mem_cons_of_mem _ (dq_in2 184 rfl rfl))), ?_⟩
  refine List.forall_mem_cons.mpr ⟨(hts _ (List.mem_cons_of_mem _ (dq_in2 140 rfl rfl))), ?_⟩
  refine List.forall_mem_cons.mpr ⟨(hts _ (List.mem_cons_of_mem _ (dq_in2 185 rfl rfl))), ?_⟩
  refine List.forall_mem_cons.mpr ⟨(hts _ (List.mem_cons_of_mem _ (dq_in2 142 rfl rfl))), ?_⟩
  refine List.forall_mem_cons.mpr ⟨(hts _ (List.mem_cons_of_mem _ (dq_in2 186 rfl rfl))), ?_⟩
  refine List.forall_mem_cons.mpr ⟨(hts _ (List.mem_cons_of_mem _ (dq_in2 144 rfl rfl))), ?_⟩
  refine List.forall_mem_cons.mpr ⟨(hts _ (List.mem_cons_of_mem _ (dq_in2 154 rfl rfl))), ?_⟩
  refine List.forall_mem_cons.mpr ⟨hZ.l0.word, ?_⟩
  refine List.forall_mem_cons.mpr ⟨(hts _ (List.mem_cons_of_mem _ (dq_in2 156 rfl rfl))), ?_⟩
  refine List.forall_mem_cons.mpr ⟨hZ.l1.word, ?_⟩
  refine List.forall_mem_cons.mpr ⟨(hts _ (List.mem_cons_of_mem _ (dq_in2 146 rfl rfl))), ?_⟩
  refine List.forall_mem_cons.mpr ⟨(hts _ (List.mem_cons_of_mem _ (dq_in2 180 rfl rfl))), ?_⟩
  refine List.forall_mem_cons.mpr ⟨(hts _ (List.mem_cons_of_mem _ (dq_in2 181 rfl rfl))), ?_⟩
  refine List.forall_mem_cons.mpr ⟨(hts _ (List.mem_cons_of_mem _ (dq_in2 183 rfl rfl))), ?_⟩
  refine List.forall_mem_cons.mpr ⟨(hts _ (List.mem_cons_of_mem _ (dq_in2 146 rfl rfl))), ?_⟩
  refine List.forall_mem_cons.mpr ⟨(hts _ (List.mem_cons_of_mem _ (dq_in2 213 rfl rfl))), ?_⟩
  refine List.forall_mem_cons.mpr ⟨(hts _ (List.mem_cons_of_mem _ (dq_in2 214 rfl rfl))), ?_⟩
  refine List.forall_mem_cons.mpr ⟨(hts _ (List.mem_cons_of_mem _ (dq_in2 215 rfl rfl))), ?_⟩
  refine List.forall_mem_cons.mpr ⟨(hts _ (List.mem_cons_of_mem _ (dq_in2 174 rfl rfl))), ?_⟩
  refine List.forall_mem_cons.mpr ⟨(va_Nw.use rfl hZ.d0), ?_⟩
  refine List.forall_mem_cons.mpr ⟨(hts _ (List.mem_cons_of_mem _ (dq_in2 174 rfl rfl))), ?_⟩
  refine List.forall_mem_cons.mpr ⟨(hts _ (List.mem_cons_of_mem _ (dq_in2 175 rfl rfl))), ?_⟩
  refine List.forall_mem_cons.mpr ⟨(hts _ (List.mem_cons_of_mem _ (dq_in2 176 rfl rfl))), ?_⟩
  refine List.forall_mem_cons.mpr ⟨(hts _ (List.mem_cons_of_mem _ (dq_in2 177 rfl rfl))), ?_⟩
  refine List.forall_mem_cons.mpr ⟨(va_Nw.use rfl hZ.d1), ?_⟩
  refine List.forall_mem_cons.mpr ⟨(hts _ (List.mem_cons_of_mem _ (dq_in2 177 rfl rfl))), ?_⟩
  refine List.forall_mem_cons.mpr ⟨(hts _ (List.mem_cons_of_mem _ (dq_in2 178 rfl rfl))), ?_⟩
  refine List.forall_mem_cons.mpr ⟨(hts _ (List.mem_cons_of_mem _ (dq_in2 179 rfl rfl))), ?_⟩
  refine List.forall_mem_cons.mpr ⟨(hts _ (List.mem_cons_of_mem _ (dq_in2 180 rfl rfl))), ?_⟩
  refine List.forall_mem_cons.mpr ⟨(va_Nw.use rfl hZ.d2), ?_⟩
  refine List.forall_mem_cons.mpr ⟨(hts _ (List.mem_cons_of_mem _ (dq_in2 212 rfl rfl))), ?_⟩
  refine List.forall_mem_cons.mpr ⟨(hts _ (List.mem_cons_of_mem _ (dq_in2 203 rfl rfl))), ?_⟩
  refine List.forall_mem_cons.mpr ⟨(va_Nw.use rfl hZ.c1), ?_⟩
  refine List.forall_mem_cons.mpr ⟨(hts _ (List.mem_cons_of_mem _ (dq_in2 205 rfl rfl))), ?_⟩
  refine List.forall_mem_cons.mpr ⟨(hts _ (List.mem_cons_of_mem _ (dq_in2 161 rfl rfl))), ?_⟩
  refine List.forall_mem_cons.mpr ⟨(hts _ (List.mem_cons_of_mem _ (dq_in2 206 rfl rfl))), ?_⟩
  refine List.forall_mem_cons.mpr ⟨(hts _ (List.mem_cons_of_mem _ (dq_in2 207 rfl rfl))), ?_⟩
  refine List.forall_mem_cons.mpr ⟨(hts _ (List.mem_cons_of_mem _ (dq_in2 208 rfl rfl))), ?_⟩
  refine List.forall_mem_cons.mpr ⟨(hts _ (List.mem_cons_of_mem _ (dq_in2 209 rfl rfl))), ?_⟩
  refine List.forall_mem_cons.mpr ⟨(dx_ref hZ.q0), ?_⟩
  refine List.forall_mem_cons.mpr ⟨(dx_ref hZ.q1), ?_⟩
  refine List.forall_mem_cons.mpr ⟨(hts _ (List.mem_cons_of_mem _ (dq_in2 149 rfl rfl))), ?_⟩
  refine List.forall_mem_cons.mpr ⟨(hts _ (List.mem_cons_of_mem _ (dq_in2 148 rfl rfl))), ?_⟩
  refine List.forall_mem_cons.mpr ⟨(hts _ (List.mem_cons_of_mem _ (dq_in2 210 rfl rfl))), ?_⟩
  exact fun _ h => absurd h List.not_mem_nil
theorem dx_is {c0 : Cond} {A : Nat → Prop} {s : State} {args : Array Value} (hts : ∀ w ∈ c0 :: dq_G, w.before args s = true) (hZ : dq_Z A s s.heap) : ∀ w ∈ Bundle.ownAtoms RDH 104 "java/lang/IllegalStateException" ["java/lang/RuntimeException", "java/lang/Exception"], w.before args s = true := by
  simp only [Bundle.ownAtoms, Bundle.throwableAtoms, Bundle.throwableSAtoms, Bundle.chainSAtoms, Bundle.passSAtoms, List.cons_append, List.nil_append]
  refine List.forall_mem_cons.mpr ⟨(hts _ (List.mem_cons_of_mem _ (dq_in1 11 rfl rfl))), ?_⟩
  refine List.forall_mem_cons.mpr ⟨(hts _ (List.mem_cons_of_mem _ (dq_in2 150 rfl rfl))), ?_⟩
  refine List.forall_mem_cons.mpr ⟨(hts _ (List.mem_cons_of_mem _ (dq_in2 159 rfl rfl))), ?_⟩
  refine List.forall_mem_cons.mpr ⟨(hts _ (List.mem_cons_of_mem _ (dq_in2 163 rfl rfl))), ?_⟩
  refine List.forall_mem_cons.mpr ⟨(hts _ (List.mem_cons_of_mem _ (dq_in2 166 rfl rfl))), ?_⟩
  refine List.forall_mem_cons.mpr ⟨(hts _ (List.mem_cons_of_mem _ (dq_in2 168 rfl rfl))), ?_⟩
  refine List.forall_mem_cons.mpr ⟨(hts _ (List.mem_cons_of_mem _ (dq_in2 151 rfl rfl))), ?_⟩
  refine List.forall_mem_cons.mpr ⟨(hts _ (List.mem_cons_of_mem _ (dq_in2 152 rfl rfl))), ?_⟩
  refine List.forall_mem_cons.mpr ⟨(hts _ (List.mem_cons_of_mem _ (dq_in1 24 rfl rfl))), ?_⟩
  refine List.forall_mem_cons.mpr ⟨(hts _ (List.mem_cons_of_mem _ (dq_in1 25 rfl rfl))), ?_⟩
  refine List.forall_mem_cons.mpr ⟨(hts _ (List.mem_cons_of_mem _ (dq_in2 153 rfl rfl))), ?_⟩
  refine List.forall_mem_cons.mpr ⟨(hts _ (List.mem_cons_of_mem _ (dq_in2 158 rfl rfl))), ?_⟩
  refine List.forall_mem_cons.mpr ⟨(hts _ (List.mem_cons_of_mem _ (dq_in2 164 rfl rfl))), ?_⟩
  refine List.forall_mem_cons.mpr ⟨(hts _ (List.mem_cons_of_mem _ (dq_in2 184 rfl rfl))), ?_⟩
  refine List.forall_mem_cons.mpr ⟨(hts _ (List.mem_cons_of_mem _ (dq_in2 140 rfl rfl))), ?_⟩
  refine List.forall_mem_cons.mpr ⟨(hts _ (List.mem_cons_of_mem _ (dq_in2 185 rfl rfl))), ?_⟩
  refine List.forall_mem_cons.mpr ⟨(hts _ (List.mem_cons_of_mem _ (dq_in2 142 rfl rfl))), ?_⟩
  refine List.forall_mem_cons.mpr ⟨(hts _ (List.mem_cons_of_mem _ (dq_in2 186 rfl rfl))), ?_⟩
  refine List.forall_mem_cons.mpr ⟨(hts _ (List.mem_cons_of_mem _ (dq_in2 144 rfl rfl))), ?_⟩
  refine List.forall_mem_cons.mpr ⟨(hts _ (List.mem_cons_of_mem _ (dq_in2 154 rfl rfl))), ?_⟩
  refine List.forall_mem_cons.mpr ⟨hZ.l0.word, ?_⟩
  refine List.forall_mem_cons.mpr ⟨(hts _ (List.mem_cons_of_mem _ (dq_in2 156 rfl rfl))), ?_⟩
  refine List.forall_mem_cons.mpr ⟨hZ.l1.word, ?_⟩
  refine List.forall_mem_cons.mpr ⟨(hts _ (List.mem_cons_of_mem _ (dq_in2 146 rfl rfl))), ?_⟩
  refine List.forall_mem_cons.mpr ⟨(hts _ (List.mem_cons_of_mem _ (dq_in2 180 rfl rfl))), ?_⟩
  refine List.forall_mem_cons.mpr ⟨(hts _ (List.mem_cons_of_mem _ (dq_in2 181 rfl rfl))), ?_⟩
  refine List.forall_mem_cons.mpr ⟨(hts _ (List.mem_cons_of_mem _ (dq_in2 183 rfl rfl))), ?_⟩
  refine List.forall_mem_cons.mpr ⟨(hts _ (List.mem_cons_of_mem _ (dq_in2 146 rfl rfl))), ?_⟩
  refine List.forall_mem_cons.mpr ⟨(hts _ (List.mem_cons_of_mem _ (dq_in3 7 rfl rfl))), ?_⟩
  refine List.forall_mem_cons.mpr ⟨(hts _ (List.mem_cons_of_mem _ (dq_in3 8 rfl rfl))), ?_⟩
  refine List.forall_mem_cons.mpr ⟨(hts _ (List.mem_cons_of_mem _ (dq_in3 9 rfl rfl))), ?_⟩
  refine List.forall_mem_cons.mpr ⟨(hts _ (List.mem_cons_of_mem _ (dq_in2 174 rfl rfl))), ?_⟩
  refine List.forall_mem_cons.mpr ⟨(va_Nw.use rfl hZ.d0), ?_⟩
  refine List.forall_mem_cons.mpr ⟨(hts _ (List.mem_cons_of_mem _ (dq_in2 174 rfl rfl))), ?_⟩
  refine List.forall_mem_cons.mpr ⟨(hts _ (List.mem_cons_of_mem _ (dq_in2 175 rfl rfl))), ?_⟩
  refine List.forall_mem_cons.mpr ⟨(hts _ (List.mem_cons_of_mem _ (dq_in2 176 rfl rfl))), ?_⟩
  refine List.forall_mem_cons.mpr ⟨(hts _ (List.mem_cons_of_mem _ (dq_in2 177 rfl rfl))), ?_⟩
  refine List.forall_mem_cons.mpr ⟨(va_Nw.use rfl hZ.d1), ?_⟩
  refine List.forall_mem_cons.mpr ⟨(hts _ (List.mem_cons_of_mem _ (dq_in2 177 rfl rfl))), ?_⟩
  refine List.forall_mem_cons.mpr ⟨(hts _ (List.mem_cons_of_mem _ (dq_in2 178 rfl rfl))), ?_⟩
  refine List.forall_mem_cons.mpr ⟨(hts _ (List.mem_cons_of_mem _ (dq_in2 179 rfl rfl))), ?_⟩
  refine List.forall_mem_cons.mpr ⟨(hts _ (List.mem_cons_of_mem _ (dq_in2 180 rfl rfl))), ?_⟩
  refine List.forall_mem_cons.mpr ⟨(va_Nw.use rfl hZ.d2), ?_⟩
  refine List.forall_mem_cons.mpr ⟨(hts _ (List.mem_cons_of_mem _ (dq_in3 6 rfl rfl))), ?_⟩
  refine List.forall_mem_cons.mpr ⟨(hts _ (List.mem_cons_of_mem _ (dq_in2 237 rfl rfl))), ?_⟩
  refine List.forall_mem_cons.mpr ⟨(va_Nw.use rfl hZ.c2), ?_⟩
  refine List.forall_mem_cons.mpr ⟨(hts _ (List.mem_cons_of_mem _ (dq_in2 239 rfl rfl))), ?_⟩
  refine List.forall_mem_cons.mpr ⟨(hts _ (List.mem_cons_of_mem _ (dq_in2 162 rfl rfl))), ?_⟩
  refine List.forall_mem_cons.mpr ⟨(hts _ (List.mem_cons_of_mem _ (dq_in3 0 rfl rfl))), ?_⟩
  refine List.forall_mem_cons.mpr ⟨(hts _ (List.mem_cons_of_mem _ (dq_in3 1 rfl rfl))), ?_⟩
  refine List.forall_mem_cons.mpr ⟨(hts _ (List.mem_cons_of_mem _ (dq_in3 2 rfl rfl))), ?_⟩
  refine List.forall_mem_cons.mpr ⟨(hts _ (List.mem_cons_of_mem _ (dq_in3 3 rfl rfl))), ?_⟩
  refine List.forall_mem_cons.mpr ⟨(dx_ref hZ.q0), ?_⟩
  refine List.forall_mem_cons.mpr ⟨(dx_ref hZ.q1), ?_⟩
  refine List.forall_mem_cons.mpr ⟨(hts _ (List.mem_cons_of_mem _ (dq_in2 149 rfl rfl))), ?_⟩
  refine List.forall_mem_cons.mpr ⟨(hts _ (List.mem_cons_of_mem _ (dq_in2 148 rfl rfl))), ?_⟩
  refine List.forall_mem_cons.mpr ⟨(hts _ (List.mem_cons_of_mem _ (dq_in3 4 rfl rfl))), ?_⟩
  exact fun _ h => absurd h List.not_mem_nil
/-! OWN LAYER: throwing. A contract of this kind says that under its premises the method THROWS; what it throws, and that its world is as it was -/
section DX
/-- q thrown over the method's frame g -/
def dx_W (p : Program) (l : Launch) (e : Env) (R : Room) (s : State) (m : MethodId) (args : Array Value) (below : List Frame) (meth : Method) (c : Code) (H : Heap) (locs : List Loc) (cells slots : Nat) (Q : State → Prop) (g : JFrame) (q : Addr) : Prop :=
  ∀ T : State, T.heap = H → Stand p l e R s m args below meth c T locs cells slots → ∃ t, Steps p.tables e below ((T.setTop g).pushFrame (.throwing q)) t ∧ Q t
/-- the state behind a throw of q: the class of it, its cell, the world, what may have been written -/
def dx_T (X : String → State → Prop) (A : Nat → Prop) (mc ms : Nat) (st : State) (q : Addr) (t : State) : Prop :=
  ∃ (E : String) (ce : Cell) (L : List Loc), X E t ∧ va_F A st t ∧ t.heap[q]? = some ce ∧ ce.vm = .none ∧ st.vm.findClass E = some ce.cls ∧ st.WarmedH t.vm ∧ st.sameButNew ({ t with vm := st.vm } : State) L mc ms ∧ ∀ z ∈ L, A z.base
def dx_M (l : Launch) (y : MethodName) (ws : List Cond) (rm : Room) (Pc : Array Value → State → Prop) (X : String → State → Prop) (A : Nat → Prop) (mc ms : Nat) : Prop :=
  MetFree l y (headSpec ws rm) Pc (fun _ _ _ _ _ => True) (fun _ st o t => ∃ q, o = .threw q ∧ dx_T X A mc ms st q t)
def dx_Q (below : List Frame) (X : String → State → Prop) (A : Nat → Prop) (s : State) (mc ms : Nat) : State → Prop := fun t => ∃ q, t.status = .running ∧ Ended t below (.threw q) ∧ dx_T X A mc ms s q t
/-- the world of a throw: nothing changed -/
def dx_X (D : va_G) (cl : List vw_C) (tys : List (ClassId × FieldType)) (ad : Nat → Nat) (w : Nat → Option va_E) (A : Nat → Prop) (ex : String → Prop) : String → State → Prop := fun E t => ex E ∧ dq_W D cl ad w A t.heap ∧ va_K D cl tys t
variable {p : Program} {l : Launch} {e : Env} {R : Room} {s : State} {m : MethodId} {args : Array Value} {below : List Frame} {meth : Method} {c : Code} {H : Heap} {locs : List Loc} {cells slots : Nat} {Q : State → Prop}
variable {y : MethodName} {bytes cc : ByteArray} {maxL nL mc ms n index : Nat} {ret : Option FieldType} {ws Ts : List Cond} {rm : Room} {Pc : Array Value → State → Prop} {X : String → State → Prop} {A A0 : Nat → Prop} {own C : String} {b : Addr} {As rest st0 : List Value} {g : JFrame} {a : Array Value} {pc : Nat} {ls : Array Slot} {T : State}
/-- the call itself: from the invocation to the note over the caller's frame -/
theorem dx_go (hM : dx_M l y ws rm Pc X A mc ms) (hrc : rm.cells = mc) (hrs : rm.slots = ms) (hframes : rm.frames + 1 ≤ R.frames) (hlocals : 8 + (maxL + 11) + rm.locals ≤ R.locals)
    (hws : ∀ w ∈ ws, ∀ (a' : Array Value) (U : State), s.WarmedH U.vm → w.before a' U = true) (hcode : Cond.code y bytes maxL ret ∈ ws) (hini : (Cond.initialized y.cls).before args s = true)
    (S : Stand p l e R s m args below meth c T locs cells slots) (hg : g.method = m) (hsize : g.locals.size = c.maxLocals) {ig : Instr} {len : Nat} (hdg : decode c.code g.pc = .ok (ig, len)) (hW : 2 * g.monitorRoom + (g.stack.map fun v => v.category).sum ≤ 8)
    {mk : MethodId} (hn : T.methodNamed? y = some mk) (hc : cells + mc ≤ R.cells) (hs : slots + ms ≤ R.slots) (hP : Pc a (T.calling g mk a)) :
    ∃ (q : Addr) (t T' : State) (L : List Loc) (E : String) (ce : Cell), Stand p l e R s m args below meth c T' (locs ++ L) (cells + mc) (slots + ms) ∧ (∀ z ∈ L, A z.base) ∧ T'.heap = t.heap ∧ T'.vm = t.vm ∧ X E t ∧ va_F A (T.calling g mk a) t ∧ t.heap[q]? = some ce ∧ ce.vm = .none ∧ T.vm.findClass E = some ce.cls ∧
      Steps p.tables e below (doInvoke e (T.setTop g) [] mk a).1 ((T'.setTop g).pushFrame (.throwing q)) := by
  have w1 : (headSpec ws rm).pre.before a T = true := atoms_intro fun w hw => hws w hw _ _ S.warmed
  have w2 : (Cond.code y bytes maxL ret).before a T = true := hws _ hcode _ _ S.warmed
  have w3 : (Cond.initialized y.cls).before a T = true := word_at S.warmed (Or.inl (by first | rfl | simp [Cond.onTables, Cond.keeps, Cond.steady])) hini
  obtain ⟨methY, cY, hmY, hcY, -, hlY, -, -, -, -⟩ := Cond.code_spec hn w2
  obtain ⟨kY, hkY, -⟩ := className_of_methodNamed hn
  have hat : At T g.method c below := by rw [hg]; exact S.here
  have hroom := S.room_calling (args' := a) (g := g) (R' := rm) hsize hmY hcY hframes (by rw [hlY]; omega) (by rw [hrc]; exact hc) (by rw [hrs]; exact hs)
  have happ := Spec.appliesLoose_calling (S := headSpec ws rm) (g := g) hat hdg hn hkY (Cond.initialized_spec (findClass_of_methodNamed hn) hkY w3) hroom w1
  obtain ⟨mid, hmid⟩ := hat.above
  have hfr : (T.setTop g).frames = (.java g :: mid) ++ below := by rw [State.frames_setTop' g hat.top, hmid]; rfl
  obtain ⟨o, t, hst, -, hend, q, rfl, E, ce, L, hX, hF, hce, hcv, hcl, hw, hsm, hL⟩ := Steps.callFree hM p S.admits S.cas S.clock (acts := []) hfr happ hP trivial
  rw [State.frames_setTop' g hat.top] at hend
  have hft : t.frames = .throwing q :: .java g :: T.frames.tail := hend
  obtain ⟨g₀, hg0⟩ := Option.isSome_iff_exists.mp hat.top
  obtain ⟨r, hr⟩ := State.topJava?_eq_some.mp hg0
  obtain ⟨z1, z2, z3, z4, z5, z6⟩ := id hsm
  have hw' : T.WarmedH t.vm := hw
  have et : t = ({ (T.calling g mk a).setFrames t.frames with heap := t.heap, slotsUsed := t.slotsUsed } : State).setVm t.vm := by
    exact (show t = ({ t with vm := (T.calling g mk a).vm } : State).setVm t.vm from rfl).trans (congrArg (fun z : State => z.setVm t.vm) z1)
  have hr' : (({ T with heap := t.heap, slotsUsed := t.slotsUsed } : State).setVm t.vm).frames = .java g₀ :: r := hr
  have e1 : t = ((({ T with heap := t.heap, slotsUsed := t.slotsUsed } : State).setVm t.vm).setTop g).pushFrame (.throwing q) := by
    refine et.trans ?_
    rw [hft, State.calling_eq hat.top, State.setFrames_setFrames, State.pushFrame, State.frames_setTop _ hr', State.setTop_of_frames _ hr', State.setFrames_setFrames, hr]
    rfl
  have e2 : T.sameButNew ({ T with heap := t.heap, slotsUsed := t.slotsUsed } : State) L mc ms := by
    refine ⟨?_, z2, z3, z4, z5, z6⟩
    obtain ⟨th, hth, -⟩ := State.frames_cons hr
    show ({ T with heap := t.heap, slotsUsed := t.slotsUsed } : State) = { T.setFrames T.frames with heap := t.heap, slotsUsed := t.slotsUsed }
    rw [State.setFrames_self hth]
  subst hg
  refine ⟨q, t, (({ T with heap := t.heap, slotsUsed := t.slotsUsed } : State).setVm t.vm), L, E, ce, ⟨S.admits, S.cas, S.clock, S.frames, S.room, S.hears, S.method, S.code, (S.here.setHeapUsed t.heap t.slotsUsed).setVm hw'.alike, S.tail, State.WarmedH.trans S.warmed hw', S.limits, S.bytes, S.same.trans (e2.setVm s.vm)⟩, hL, rfl, rfl, hX, hF, hce, hcv, hcl, ?_⟩
  show Steps p.tables e below _ (((({ T with heap := t.heap, slotsUsed := t.slotsUsed } : State).setVm t.vm).setTop g).pushFrame (.throwing q))
  rw [← e1]
  exact hst
/-- what the caller has behind a call that threw -/
def dx_K (p : Program) (l : Launch) (e : Env) (R : Room) (s : State) (m : MethodId) (args : Array Value) (below : List Frame) (meth : Method) (c : Code) (H : Heap) (mc' ms' : Nat) (Q : State → Prop) (g : JFrame) (X : String → State → Prop) (A A0 : Nat → Prop) : Prop :=
  ∀ (q : Addr) (E : String) (ce : Cell) (t : State) (H1 : Heap) (locs1 : List Loc), t.heap = H1 → s.vm.Alike t.vm → X E t → H.size ≤ H1.size → (∀ z : Nat, z < H.size → ¬ A z → H1[z]? = H[z]?) → va_S A0 s.heap H1 locs1 → H1[q]? = some ce → ce.vm = .none → s.vm.findClass E = some ce.cls → dx_W p l e R s m args below meth c H1 locs1 mc' ms' Q g q
theorem dx_step (hS : va_S A0 s.heap H locs) (hA : ∀ q, A q → A0 q) {vm₁ : Vm} {g' : JFrame} {mk : MethodId} (hT : T.heap = H) (hw₁ : s.WarmedH vm₁)
    (kx : dx_K p l e R s m args below meth c H (cells + mc) (slots + ms) Q (F0 m pc ls rest) X A A0)
    (h : ∃ (q : Addr) (t T' : State) (L : List Loc) (E : String) (ce : Cell), Stand p l e R s m args below meth c T' (locs ++ L) (cells + mc) (slots + ms) ∧ (∀ z ∈ L, A z.base) ∧ T'.heap = t.heap ∧ T'.vm = t.vm ∧ X E t ∧ va_F A ((T.setVm vm₁).calling g' mk a) t ∧ t.heap[q]? = some ce ∧ ce.vm = .none ∧ (T.setVm vm₁).vm.findClass E = some ce.cls ∧
      Steps p.tables e below (doInvoke e ((T.setVm vm₁).setTop (F0 m pc ls rest)) [] mk a).1 ((T'.setTop (F0 m pc ls rest)).pushFrame (.throwing q))) :
    ∃ t, Steps p.tables e below (doInvoke e ((T.setVm vm₁).setTop (F0 m pc ls rest)) [] mk a).1 t ∧ Q t := by
  obtain ⟨q, t, T', L, E, ce, S', hL, e1, e2, hX, hF, hce, hcv, hcl, hst⟩ := h
  have hz : H.size ≤ t.heap.size := by have := hF.1; rw [← hT]; exact this
  have hk : ∀ z : Nat, z < H.size → ¬ A z → t.heap[z]? = H[z]? := fun z h1 h2 => by have := hF.2 z (by show z < T.heap.size; rw [hT]; exact h1) h2; rw [← hT]; exact this
  have hcl' : s.vm.findClass E = some ce.cls := by rw [← hw₁.alike.findClass]; exact hcl
  obtain ⟨t2, a1, b1⟩ := kx q E ce t T'.heap (locs ++ L) e1.symm (by rw [← e2]; exact S'.warmed.alike) hX (by rw [e1]; exact hz) (fun z h1 h2 => by rw [e1]; exact hk z h1 h2)
    ⟨Nat.le_trans hS.1 (by rw [e1]; exact hz), fun z h1 h2 => by rw [e1, hk z (Nat.lt_of_lt_of_le h1 hS.1) (fun h3 => h2 (hA z h3))]; exact hS.2.1 z h1 h2, fun z hz' => by
      rcases List.mem_append.mp hz' with h1 | h1
      · exact hS.2.2 z h1
      · exact hA _ (hL z h1)⟩ (by rw [e1]; exact hce) hcv hcl' T' rfl S'
  exact ⟨t2, hst.trans a1, b1⟩
theorem dx_callV (F : CallFix p m c cc nL s args Ts own) (hM : dx_M l y ws rm Pc X A mc ms) (cw : CallW R s args own C index y bytes maxL ret ws rm mc ms n) (hp : PreV s H C b Pc As)
    (hn : As.length = n) (hsize : ls.size = nL) (hstack : st0 = As.reverse ++ .ref b :: rest) (hW : 2 * (F0 m pc ls rest).monitorRoom + (rest.map fun v => v.category).sum ≤ 8) (hdg : decode cc pc = .ok (.invokevirtual index, 3)) (hf : cells + mc ≤ R.cells ∧ slots + ms ≤ R.slots) (hS : va_S A0 s.heap H locs) (hA : ∀ q, A q → A0 q)
    (kx : dx_K p l e R s m args below meth c H (cells + mc) (slots + ms) Q (F0 m pc ls rest) X A A0) : W p l e R s m args below meth c H locs cells slots Q (F0 m pc ls st0) := by
  obtain ⟨⟨hrc, hrs, hfr, hlo, hws, hcw, hcode, hini, hy, hlen, hl⟩, hin, hse⟩ := cw
  obtain ⟨hx, hb, hml, ho, -⟩ := F
  obtain ⟨hbl, ⟨cellB, hcB, hoB, hclB⟩, hPc⟩ := hp
  subst hstack
  intro T hT S
  obtain ⟨mk, methM, hnamed, hmethM, hstM, habM⟩ := Cond.instanceMethod_spec hin
  obtain ⟨methM', cM, hmethM', -, -, -, -, -, -, hsigM⟩ := Cond.code_spec hnamed hcode
  cases hmethM.symm.trans hmethM'
  obtain ⟨c2, r2, m2, q1, q2, q3, q4, kP, hkP, hkPi⟩ := Cond.selects_spec hse
  cases hclB.symm.trans q1
  cases (State.methodFound?_of_named hnamed hy).symm.trans q2
  cases hnamed.symm.trans q3
  have hselP : selectMethod e.platform s.vm cellB.cls mk = .method mk := by rw [Launch.admits_selectMethod S.admits]; exact q4
  obtain ⟨vm₁, S₁, hstep₁⟩ := S.invokevirtual hx ho hl hnamed hmethM hstM hkP hkPi hy (a := b) (cell := cellB) (by rw [hT]; exact hcB) (fun z h => by rw [h] at hoB; cases hoB) hselP hmethM habM hkP hkPi (g := F0 m pc ls (As.reverse ++ .ref b :: rest)) rfl (argsL := As) (rest := rest) (hn.trans (hlen _ hsigM)) rfl (by rw [hb]; exact hdg)
  obtain ⟨t, a1, b1⟩ := dx_step (T := T) (g' := F0 m pc ls rest) hS hA hT S₁.warmed kx (dx_go (a := (Value.ref b :: As).toArray) hM hrc hrs hfr hlo hws hcw hini S₁ (g := F0 m pc ls rest) rfl (hsize.trans hml.symm) (by rw [hb]; exact hdg) hW (S₁.named hnamed) hf.1 hf.2 (hbl _ _ _ _ (hPc (T.setVm vm₁) hT S₁.warmed)))
  exact ⟨t, hstep₁ _ fun acts => by rw [doInvoke_state]; exact a1, b1⟩
theorem dx_callS (F : CallFix p m c cc nL s args Ts own) (hM : dx_M l y ws rm Pc X A mc ms) (cw : CallB R s args own index y bytes maxL ret ws rm mc ms n ∧ (Cond.static y).before args s = true) (hp : PreS s H Pc As)
    (hn : As.length = n) (hsize : ls.size = nL) (hstack : st0 = As.reverse ++ rest) (hW : 2 * (F0 m pc ls rest).monitorRoom + (rest.map fun v => v.category).sum ≤ 8) (hdg : decode cc pc = .ok (.invokestatic index, 3)) (hf : cells + mc ≤ R.cells ∧ slots + ms ≤ R.slots) (hS : va_S A0 s.heap H locs) (hA : ∀ q, A q → A0 q)
    (kx : dx_K p l e R s m args below meth c H (cells + mc) (slots + ms) Q (F0 m pc ls rest) X A A0) : W p l e R s m args below meth c H locs cells slots Q (F0 m pc ls st0) := by
  obtain ⟨⟨hrc, hrs, hfr, hlo, hws, hcw, hcode, hini, hy, hlen, hl⟩, hstt⟩ := cw
  obtain ⟨hx, hb, hml, ho, -⟩ := F
  subst hstack
  intro T hT S
  obtain ⟨mk, hnamed⟩ := Cond.code_named hcode
  obtain ⟨methM, cM, hmethM, -, -, -, -, -, -, hsigM⟩ := Cond.code_spec hnamed hcode
  have hstatic : methM.isStatic = true := Cond.static_spec hnamed hmethM hstt
  obtain ⟨kP, hkP, -⟩ := className_of_methodNamed hnamed
  obtain ⟨vm₁, S₁, hstep₁⟩ := S.invokestatic hx ho hl hnamed hmethM hstatic hkP (Cond.initialized_spec (findClass_of_methodNamed hnamed) hkP hini) hy (g := F0 m pc ls (As.reverse ++ rest)) rfl (argsL := As) (rest := rest) (hn.trans (hlen _ hsigM)) rfl (by rw [hb]; exact hdg)
  obtain ⟨t, a1, b1⟩ := dx_step (T := T) (g' := F0 m pc ls rest) hS hA hT S₁.warmed kx (dx_go (a := As.toArray) hM hrc hrs hfr hlo hws hcw hini S₁ (g := F0 m pc ls rest) rfl (hsize.trans hml.symm) (by rw [hb]; exact hdg) hW (S₁.named hnamed) hf.1 hf.2 (hp.1 _ _ _ _ (hp.2 (T.setVm vm₁) hT S₁.warmed)))
  exact ⟨t, hstep₁ _ fun acts => by rw [doInvoke_state]; exact a1, b1⟩
/-- it goes on to the caller -/
theorem dx_out {E : String} {ce : Cell} {q : Addr} (hout : ∀ x ∈ c.exceptionTable.toList, False) (hlocks : meth.locks = false) (hcell : H[q]? = some ce) (hv : ce.vm = .none) (hcl : s.vm.findClass E = some ce.cls)
    (hX : ∀ t : State, t.heap = H → s.vm.Alike t.vm → X E t) (hS : va_S A s.heap H locs) (hc : cells ≤ mc) (hs : slots ≤ ms) : dx_W p l e R s m args below meth c H locs cells slots (dx_Q below X A s mc ms) (F0 m pc ls rest) q := by
  intro T hT S
  obtain ⟨st1, hrun, hend, hw, hsm⟩ := S.leaveThrown q (g := F0 m pc ls rest) rfl rfl rfl (fun x hx => (hout x hx).elim) hlocks
  have hh : (T.setFrames (.throwing q :: below)).heap = H := hT
  exact ⟨_, st1, q, hrun, hend, E, ce, locs, hX _ hh hw.alike, hS.F hh, by rw [hh]; exact hcell, hv, hcl, hw, hsm.mono hc hs, hS.2.2⟩
end DX
end
section
/-! OWN LAYER: the throw itself, and contracts out of a walk that ends in one -/
theorem dx_same {s U : State} {cells slots : Nat} (h : s.sameButNew ({ U with vm := s.vm } : State) [] cells slots) : s.heap.size ≤ U.heap.size ∧ ∀ x : Nat, x < s.heap.size → U.heap[x]? = s.heap[x]? := by
  obtain ⟨z1, z2, z3, z4, z5, z6⟩ := h
  have key : ∀ x : Nat, x < s.heap.size → U.heap[x]? = s.heap[x]? := by
    intro x hx
    have e0 : s.heap[x]? = some s.heap[x] := Array.getElem?_eq_getElem hx
    obtain ⟨c', h1, h2, h3, h4⟩ := z6 x _ e0
    have h1' : U.heap[x]? = some c' := h1
    have e1 : c'.slots = s.heap[x].slots := Array.ext_getElem? fun i => h4 i (by simp)
    rw [h1', e0, h2, e1]
  refine ⟨?_, key⟩
  by_cases h0 : s.heap.size = 0
  · omega
  · have hk := key (s.heap.size - 1) (by omega)
    rw [Array.getElem?_eq_getElem (show s.heap.size - 1 < s.heap.size by omega)] at hk
    have := (Array.getElem?_eq_some_iff.mp hk).1
    omega
section DX2
variable {p : Program} {l : Launch} {e : Env} {R : Room} {s : State} {m : MethodId} {args : Array Value} {below : List Frame} {meth : Method} {c : Code} {H : Heap} {locs : List Loc} {cells slots : Nat} {Q : State → Prop}
variable {y : MethodName} {cc : ByteArray} {nL mc ms : Nat} {X : String → State → Prop} {A : Nat → Prop} {own cls tx : String} {pc : Nat} {ls : Array Slot}
/-- 'throw new E(text)' where nothing was changed yet -/
theorem dx_throw {names : List String} {ix ik ic : Nat} (htr : l.stackTraces = false) (hx : p.tables.exec = Jvm.exec) (hb : c.code = cc) (hml : c.maxLocals = nL) (hown : s.vm.findClass own = some m.cls)
    (hlink : (Cond.classLink own ix cls).before args s = true) (hinst : (Cond.instantiable cls 6).before args s = true) (hini : (Cond.initialized cls).before args s = true) (hZ : ∃ sa : Nat, vk_R own ik tx sa s)
    (hat : ∀ w ∈ Bundle.ownAtoms own ic cls names, w.before args s = true) (hcls : Bundle.fit cls = true) (hnames : ∀ n ∈ names, Bundle.fit n = true) (hsize : ls.size = nL)
    (d0 : decode cc pc = .ok (.new ix, 3)) (d1 : decode cc (pc + 3) = .ok (.dup, 1)) (d2 : decode cc (pc + 4) = .ok (.ldc ik, 2)) (d3 : decode cc (pc + 6) = .ok (.invokespecial ic, 3)) (d4 : decode cc (pc + 9) = .ok (.athrow, 1))
    (hout : ∀ x ∈ c.exceptionTable.toList, False) (hlocks : meth.locks = false) (hR : names.length + 3 < R.frames ∧ 1 + (13 * (names.length + 1) + 42) ≤ R.locals ∧ 1 ≤ R.cells ∧ 6 ≤ R.slots) (hm : 1 ≤ mc ∧ 6 ≤ ms)
    (hX : ∀ t : State, (∀ x : Nat, x < s.heap.size → t.heap[x]? = s.heap[x]?) → s.vm.Alike t.vm → X cls t) : W p l e R s m args below meth c s.heap [] 0 0 (dx_Q below X A s mc ms) (F0 m pc ls []) := by
  subst hb
  intro T hT S
  obtain ⟨sa, hs1, hs2⟩ := hZ
  have htr' : e.platform.stackTraces = false := by rw [S.admits.platform]; exact htr
  obtain ⟨vm₁, cX, kX, hfX, hkX, -, -, X₁, st1⟩ := S.newCold hx (own := own) (C := cls) (index := ix) (n := 6) hown hlink hinst hini (g := F0 m pc ls []) rfl d0 (by omega) (by omega)
  generalize hT1 : (T.setVm vm₁).pushCell { cls := cX, slots := kX.instanceTypes.map defaultValue, vm := .none } = T1 at X₁ st1
  have hcellA : T1.heap[T.heap.size]? = some (freshCell cX kX) := by rw [← hT1]; exact State.heap_pushCell_size _ _
  have st2 := X₁.ldcString hx (own := own) (text := tx) (index := ik) (a := sa) hown hs1 hs2 (g := F0 m (pc + 4) ls [.ref T.heap.size, .ref T.heap.size]) rfl d2
  obtain ⟨U, hsteps, hrun, hend, hW, hsame, ce, hce, K⟩ := X₁.ctorThrowS hx htr' (own := own) (cls := cls) (names := names) (ic := ic) hown hcls hnames hat (fun y hy => by cases hy) hfX hkX hcellA (by rw [hT]; exact Nat.le_refl _) (msg := .ref sa) rfl
    (g := F0 m (pc + 6) ls [.ref sa, .ref T.heap.size, .ref T.heap.size]) rfl (hsize.trans hml.symm) rfl rfl (rest := []) rfl d3 d4 (fun x hx => (hout x hx).elim) hR.1 (by simpa [JFrame.monitorRoom, F0, Value.category] using hR.2.1) hlocks
  obtain ⟨hz, hk⟩ := dx_same hsame
  refine ⟨U, ?_, T.heap.size, hrun, hend, cls, ce, [], hX U hk hW.alike, ⟨hz, fun z h1 _ => hk z h1⟩, hce, K.vm, K.cls, hW, hsame.mono (by omega) (by omega), fun z hz => by cases hz⟩
  refine st1 _ ?_
  show Steps p.tables e below (T1.setTop (F0 m (pc + 3) ls [.ref T.heap.size])) U
  unfold F0
  jvm_step X₁.here [X₁.here.top, hx, d1, Value.category]
  exact st2 _ hsteps
end DX2
theorem dx_of {l : Launch} {y : MethodName} {ws ws' : List Cond} {rm : Room} {D : va_G} {cl : List vw_C} {tys : List (ClassId × FieldType)} {ad : Nat → Nat} {w : Nat → Option va_E} {sz : Nat} {av : List Value} {ex : String → Prop} {mc ms : Nat} {cc : ByteArray} {maxL : Nat} {ret : Option FieldType} (hy : plainName y.cls = true) (hw : ws = Cond.code y cc maxL ret :: ws') (hav : (lg_sl av).length ≤ maxL)
    (body : ∀ (p : Program) (e : Env) (s : State) (m : MethodId) (below : List Frame) (meth : Method) (c : Code) (A : Nat → Prop) (ls : Array Slot), CallFix p m c cc maxL s av.toArray ws y.cls → meth.name = y.name → (∀ q, s.heap.size ≤ q → A q) → dq_W D cl ad w A s.heap → va_K D cl tys s → dq_Z A s s.heap → lv_has ls maxL (lv_args 0 av) → (∀ x ∈ c.exceptionTable.toList, False) → meth.locks = false →
      W p l e rm s m av.toArray below meth c s.heap [] 0 0 (dx_Q below (dx_X D cl tys ad w A ex) A s mc ms) (F0 m 0 ls [])) : dx_M l y ws rm (va_Pc av (dq_S D cl tys ad w sz)) (dx_X D cl tys ad w (dq_A ad w sz) ex) (dq_A ad w sz) mc ms := by
  refine MetFree.of_bodyS (code := cc) (maxLocals := maxL) (ret := ret) hy ?_ ?_
  · intro args s m h hn
    obtain ⟨meth, c, h1, h2, h3, h4, h5, h6, -, -⟩ := Cond.code_spec hn (atoms_spec (ws := ws) h _ (by rw [hw]; exact List.mem_cons_self))
    exact ⟨meth, c, h1, h2, h3, h4, h5, h6⟩
  · intro p e s m args below meth c s₁ B hml hv _
    obtain ⟨rfl, rfl, hW0, hK, hZ⟩ := hv
    have hlocks := B.notSynchronized
    have hts := atoms_spec (ws := ws) B.pre
    have hown : s.vm.findClass y.cls = some m.cls := findClass_of_methodNamed B.named
    have hemp : c.exceptionTable.isEmpty = true := B.noHandlers (hts _ (by rw [hw]; exact List.mem_cons_self))
    have hout : ∀ x ∈ c.exceptionTable.toList, False := fun x hx => by
      have : c.exceptionTable = #[] := by simpa using hemp
      rw [this] at hx
      exact absurd hx (by simp)
    have hh0 : s₁.heap = s.heap := by rw [B.state]; rfl
    have K := body p e s m below meth c (dq_A ad w s.heap.size) _ ⟨B.exec, B.bytes, hml, hown, hts⟩ (name_of_methodNamed B.named B.method).1 (fun q h => Or.inr h) hW0.self hK hZ (lv_entry av hav) hout hlocks
    obtain ⟨t, a1, q, b1, b2, b3⟩ := K s₁ hh0 (Stand.of_body B)
    rw [← lg_entry_eq] at a1
    exact ⟨t, .threw q, a1, b1, b2, q, rfl, b3⟩
/-- a method that only reads and returns nothing -/
theorem dx_ofR {l : Launch} {y : MethodName} {ws ws' : List Cond} {rm : Room} {D : va_G} {cl : List vw_C} {tys : List (ClassId × FieldType)} {ad : Nat → Nat} {w : Nat → Option va_E} {sz : Nat} {av : List Value} {cc : ByteArray} {maxL : Nat} (hy : plainName y.cls = true) (hw : ws = Cond.code y cc maxL none :: ws') (hav : (lg_sl av).length ≤ maxL)
    (body : ∀ (p : Program) (e : Env) (s : State) (m : MethodId) (below : List Frame) (meth : Method) (c : Code) (A : Nat → Prop) (Q : State → Prop) (ls : Array Slot), CallFix p m c cc maxL s av.toArray ws y.cls → meth.name = y.name → (∀ q, s.heap.size ≤ q → A q) → dq_W D cl ad w A s.heap → va_K D cl tys s → dq_Z A s s.heap → lv_has ls maxL (lv_args 0 av) →
      (∀ (pc : Nat) (ls : Array Slot), decode cc pc = .ok (.return_, 1) → W p l e rm s m av.toArray below meth c s.heap [] 0 0 Q (F0 m pc ls [])) →
      W p l e rm s m av.toArray below meth c s.heap [] 0 0 Q (F0 m 0 ls [])) : Met l y ws rm (va_Pc av (dq_S D cl tys ad w sz)) (va_Sv (fun _ => True)) 0 0 (fun _ => False) := by
  refine Met.ofW (cc := cc) (maxL := maxL) (ret := none) hy hw ?_
  intro p e s m args below meth c s₁ B hml hv
  obtain ⟨rfl, rfl, hW0, hK, hZ⟩ := hv
  have hlocks := B.notSynchronized
  have hts := atoms_spec (ws := ws) B.pre
  have hown : s.vm.findClass y.cls = some m.cls := findClass_of_methodNamed B.named
  rw [lg_entry_eq]
  refine body p e s m below meth c (dq_A ad w s.heap.size) _ _ ⟨B.exec, B.bytes, hml, hown, hts⟩ (name_of_methodNamed B.named B.method).1 (fun q h => Or.inr h) hW0.self hK hZ (lv_entry av hav) ?_
  intro pc ls hd
  exact W.vret B.exec B.bytes B.returns (fun t ht hw9 => ⟨rfl, trivial, ht⟩) (fun q h => by cases h) hd
/-- a number in its range -/
def mr_in (v a b : Int32) : Bool := decide (a ≤ v) && decide (v ≤ b)
theorem mr_in_t {v a b : Int32} (h1 : ¬ v < a) (h2 : v ≤ b) : mr_in v a b = true := by
  unfold mr_in
  rw [decide_eq_true (Int32.not_lt.mp h1), decide_eq_true h2]
  rfl
theorem mr_in_a {v a b : Int32} (h : v < a) : mr_in v a b = false := by
  unfold mr_in
  rw [decide_eq_false (Int32.not_le.mpr h)]
  rfl
theorem mr_in_b {v a b : Int32} (h : ¬ v ≤ b) : mr_in v a b = false := by
  unfold mr_in
  rw [decide_eq_false h, Bool.and_false]
end
section
/-! OWN LAYER: the catch. A row of the table that covers the pc and names a class: it takes the thrown object (b) or lets it pass -/
def dx_row (pl : Platform) (s₀ : State) (d : ClassId) (pc : Nat) (k : ClassId) (b : Bool) (y : ExceptionTableEntry) : Prop := covers y pc = true ∧ y.catchType ≠ 0 ∧ ∃ t, s₀.vm.ClassLinks pl d y.catchType t ∧ s₀.vm.assignable k t = b
theorem dx_rowgo {E : CtlPost} {e : Env} {d : Bool} {acts : List Action} {S : State} {f : JFrame} {a : Addr} {Q : Handler → Pre} {y : ExceptionTableEntry} {t : List ExceptionTableEntry} {ct : ClassId} {cell : Cell} {b : Bool} (hx : covers y f.pc = true) (h0 : y.catchType ≠ 0)
    (hl : S.vm.ClassLinks e.platform f.method.cls y.catchType ct) (hcell : S.heap[a]? = some cell) (hobj : cell.vm = .none) (hk : ∃ k, S.vm.classes[cell.cls]? = some k) (hc : ∃ k, S.vm.classes[ct]? = some k) (hb : S.vm.assignable cell.cls ct = b) :
    wp (findHandler.go f a (y :: t)) Q E e d acts S ↔ if b = true then Q (.found y.handlerPc) d acts (S.setVm (S.vm.noted f.method.cls y.catchType (.cls ct))) else wp (findHandler.go f a t) Q E e d acts (S.setVm (S.vm.noted f.method.cls y.catchType (.cls ct))) := by
  have hal : S.vm.Alike (S.vm.noted f.method.cls y.catchType (.cls ct)) := (Vm.Alike.refl S.vm).noted _ _ _
  obtain ⟨k1, hk1⟩ := hk
  obtain ⟨k2, hk2⟩ := hc
  obtain ⟨q1, hq1, -⟩ := hal.2.2 _ _ hk1
  obtain ⟨q2, hq2, -⟩ := hal.2.2 _ _ hk2
  have hb' : (S.vm.noted f.method.cls y.catchType (.cls ct)).assignable cell.cls ct = b := by rw [hal.assignable]; exact hb
  obtain ⟨r1, r2⟩ := (resolveClass_links e.toSetting hl).op (op := VmOp.resolveClass f.method.cls y.catchType) rfl
  have hobj' : ∀ k, cell.vm ≠ .statics k := fun k h => by rw [hobj] at h; cases h
  simp only [covers] at hx
  cases b <;> simp [findHandler.go, hx, h0, r1, r2, hcell, hobj', hq1, hq2, hb', VmOp.dirties, VmOp.acts]
theorem dx_find {e : Env} {s₀ : State} {f : JFrame} {a : Addr} {cell : Cell} (hobj : cell.vm = .none) {k0 : Class} (hk0 : s₀.vm.classes[cell.cls]? = some k0) {x : ExceptionTableEntry} {rest : List ExceptionTableEntry} (hx : dx_row e.platform s₀ f.method.cls f.pc cell.cls true x)
    (Q : Handler → Pre) (E : CtlPost) (d : Bool) (acts : List Action) : ∀ (pre : List ExceptionTableEntry) (S : State), s₀.WarmedH S.vm → S.heap[a]? = some cell → (∀ y ∈ pre, dx_row e.platform s₀ f.method.cls f.pc cell.cls false y) →
      (∀ vm', s₀.WarmedH vm' → Q (.found x.handlerPc) d acts (S.setVm vm')) → wp (findHandler.go f a (pre ++ x :: rest)) Q E e d acts S := by
  have one : ∀ (b : Bool) (y : ExceptionTableEntry) (t : List ExceptionTableEntry) (S : State), dx_row e.platform s₀ f.method.cls f.pc cell.cls b y → s₀.WarmedH S.vm → S.heap[a]? = some cell →
      (∀ vm', s₀.WarmedH vm' → if b = true then Q (.found y.handlerPc) d acts (S.setVm vm') else wp (findHandler.go f a t) Q E e d acts (S.setVm vm')) → wp (findHandler.go f a (y :: t)) Q E e d acts S := by
    intro b y t S ⟨c1, c2, ct, hl, hb⟩ hW hcell hq
    obtain ⟨dk, _, _, kt, hd, _, _, _, _, hkt, _, hopen⟩ := hl.here
    obtain ⟨k0', hk0', -⟩ := hW.alike.2.2 _ _ hk0
    obtain ⟨kt', hkt', -⟩ := hW.alike.2.2 _ _ hkt
    exact (dx_rowgo (b := b) c1 c2 (hW.classLinks hl) hcell hobj ⟨k0', hk0'⟩ ⟨kt', hkt'⟩ (by rw [hW.alike.assignable]; exact hb)).mpr (hq _ (hW.noted hd hopen (State.rightAt_cls hl)))
  intro pre
  induction pre with
  | nil => intro S hW hcell _ hq; exact one true x rest S hx hW hcell (fun vm' h => by simpa using hq vm' h)
  | cons y ys ih =>
    intro S hW hcell hp hq
    refine one false y (ys ++ x :: rest) S (hp y List.mem_cons_self) hW hcell (fun vm' h => ?_)
    simp only [Bool.false_eq_true, if_false]
    exact ih (S.setVm vm') h hcell (fun z hz => hp z (List.mem_cons_of_mem _ hz)) (fun vm2 h2 => hq vm2 h2)
theorem dx_list {tb : List ExceptionTableEntry} {hh : List (Nat × Nat × Nat × Nat)} (h : tb.map (fun h => (h.startPc, h.endPc, h.handlerPc, h.catchType)) = hh) : tb = hh.map (fun q => ⟨q.1, q.2.1, q.2.2.1, q.2.2.2⟩) := by
  subst h
  rw [List.map_map]
  exact (List.map_id tb).symm.trans (List.map_congr_left fun x _ => rfl)
section DX3
variable {p : Program} {l : Launch} {e : Env} {R : Room} {s : State} {m : MethodId} {args : Array Value} {below : List Frame} {meth : Method} {c : Code} {H : Heap} {locs : List Loc} {cells slots : Nat} {Q : State → Prop}
variable {cc : ByteArray} {nL mc ms : Nat} {A : Nat → Prop} {own E : String} {pc : Nat} {ls : Array Slot} {rest : List Value} {q : Addr} {ce : Cell}
/-- a row by the words: she names nm; E is no nm, or E is nm -/
def dx_pass (own : String) (E : String) (args : Array Value) (s : State) (pc : Nat) (b : Bool) (y : Nat × Nat × Nat × Nat) : Prop := (y.1 ≤ pc ∧ pc < y.2.1 ∧ y.2.2.2 ≠ 0) ∧ ∃ nm : String, (Cond.classLink own y.2.2.2 nm).before args s = true ∧ ∃ c t : ClassId, s.vm.findClass E = some c ∧ s.vm.findClass nm = some t ∧ s.vm.assignable c t = b
theorem dx_catch {pre post : List (Nat × Nat × Nat × Nat)} {x : Nat × Nat × Nat × Nat} (hown : s.vm.findClass own = some m.cls) (htab : c.exceptionTable.toList.map (fun h => (h.startPc, h.endPc, h.handlerPc, h.catchType)) = pre ++ x :: post)
    (hpre : ∀ y ∈ pre, dx_pass own E args s pc false y) (hx : dx_pass own E args s pc true x) (hcell : H[q]? = some ce) (hv : ce.vm = .none) (hcl : s.vm.findClass E = some ce.cls)
    (k : W p l e R s m args below meth c H locs cells slots Q (F0 m x.2.2.1 ls [.ref q])) : dx_W p l e R s m args below meth c H locs cells slots Q (F0 m pc ls rest) q := by
  intro T hT S
  have hpl : e.platform.magicAccessors = ({} : Platform).magicAccessors := by rw [S.admits.platform]
  have hrow : ∀ (b : Bool) (y : Nat × Nat × Nat × Nat), dx_pass own E args s pc b y → dx_row e.platform s m.cls pc ce.cls b ⟨y.1, y.2.1, y.2.2.1, y.2.2.2⟩ := by
    intro b y ⟨⟨h1, h2, h3⟩, nm, h4, c1, t, h5, h6, h7⟩
    obtain ⟨c', hc', hl⟩ := Cond.classLink_spec hown h4 e.platform hpl
    cases h6.symm.trans hc'
    cases hcl.symm.trans h5
    exact ⟨by simp [covers, h1, h2], h3, t, hl, h7⟩
  have hlist := dx_list htab
  rw [List.map_append, List.map_cons] at hlist
  obtain ⟨k0, hk0⟩ := Vm.classAt_of_findClass hcl
  have hcell' : ((T.setTop (F0 m pc ls rest)).pushFrame (.throwing q)).heap[q]? = some ce := by rw [Stand.throwing_heap, hT]; exact hcell
  have hvm : ((T.setTop (F0 m pc ls rest)).pushFrame (.throwing q)).vm = T.vm := Stand.throwing_vm _ _ _
  have hm : ((T.setTop (F0 m pc ls rest)).pushFrame (.throwing q)).vm.method? m = some meth := by rw [hvm]; exact S.method'
  have hstep : ∃ vm', s.WarmedH vm' ∧ (stepThrowing e ((T.setTop (F0 m pc ls rest)).pushFrame (.throwing q)) q (.java (F0 m pc ls rest) :: T.frames.tail)).1 = ((((T.setTop (F0 m pc ls rest)).pushFrame (.throwing q)).setVm vm').setFrames (.java { F0 m pc ls rest with pc := x.2.2.1, stack := [.ref q] } :: T.frames.tail)) := by
    simp only [stepThrowing, searchFrame, vmDo]
    generalize hr : Sem.go _ e false [] ((T.setTop (F0 m pc ls rest)).pushFrame (.throwing q)) = res
    have hwp : ∀ (Q : Handler → Pre) (E : CtlPost), (∀ vm', s.WarmedH vm' → Q (.found x.2.2.1) false [] (((T.setTop (F0 m pc ls rest)).pushFrame (.throwing q)).setVm vm')) → wp (findHandler (F0 m pc ls rest) q) Q E e false [] ((T.setTop (F0 m pc ls rest)).pushFrame (.throwing q)) := by
      intro Q E hq
      rw [W.findHandler_eq (s := (T.setTop (F0 m pc ls rest)).pushFrame (.throwing q)) (f := F0 m pc ls rest) hm S.code, hlist]
      exact dx_find (e := e) (s₀ := s) (f := F0 m pc ls rest) hv hk0 (hrow true x hx) _ _ _ _ _ _ (by rw [hvm]; exact S.warmed) hcell' (fun y hy => by
        obtain ⟨z, hz, rfl⟩ := List.mem_map.mp hy
        exact hrow false z (hpre z hz)) hq
    obtain ⟨h9, s9, as, rfl, vm', hW', rfl, rfl⟩ := Jvm.First.eq_ok_of' (P := fun h S' => ∃ vm', s.WarmedH vm' ∧ h = .found x.2.2.1 ∧ S' = ((T.setTop (F0 m pc ls rest)).pushFrame (.throwing q)).setVm vm') hr (by
      rw [wp_bind']
      refine hwp _ _ (fun vm' h => ?_)
      simp
      exact ⟨vm', h, rfl⟩)
    exact ⟨vm', hW', rfl⟩
  obtain ⟨vm', hW', hstep⟩ := hstep
  have S' := S.noted hW'
  obtain ⟨t, a1, b1⟩ := k (T.setVm vm') hT S'
  refine ⟨t, ?_, b1⟩
  obtain ⟨hgo, hw⟩ := (show At T (F0 m pc ls rest).method c below from S.here).throwing q
  refine Steps.head hgo hw ?_
  rw [stepThread_throwing (frames_entered S.here.top _), hstep]
  obtain ⟨g₀, hg⟩ := Option.isSome_iff_exists.mp S.here.top
  obtain ⟨r, hr⟩ := State.topJava?_eq_some.mp hg
  have hr' : (T.setVm vm').frames = .java g₀ :: r := hr
  rw [State.setTop_of_frames _ hr'] at a1
  have e1 : (((T.setTop (F0 m pc ls rest)).pushFrame (.throwing q)).setVm vm').setFrames (.java { F0 m pc ls rest with pc := x.2.2.1, stack := [.ref q] } :: T.frames.tail) = (T.setVm vm').setFrames (.java (F0 m x.2.2.1 ls [.ref q]) :: r) := by
    rw [hr, List.tail_cons, State.pushFrame, State.setTop_of_frames _ hr]
    rw [State.setFrames_setFrames]
    show (((T.setVm vm').setFrames _).setFrames _) = _
    rw [State.setFrames_setFrames]
  rw [e1]
  exact a1
end DX3
/-! OWN LAYER: a method with handlers: its contract (it returns), and a call of it -/
theorem dx_ofiW {l : Launch} {y : MethodName} {ws ws' : List Cond} {rm : Room} {D : va_G} {cl : List vw_C} {tys : List (ClassId × FieldType)} {ad : Nat → Nat} {w : Nat → Option va_E} {sz : Nat} {av : List Value} {post : Int32 → (Nat → Option va_E) → Prop} {mc ms : Nat} {cc : ByteArray} {maxL : Nat} {hh : List (Nat × Nat × Nat × Nat)} (hy : plainName y.cls = true) (hw : ws = Cond.codeWith y cc maxL (some .int) hh :: ws') (hav : (lg_sl av).length ≤ maxL)
    (body : ∀ (p : Program) (e : Env) (s : State) (m : MethodId) (below : List Frame) (meth : Method) (c : Code) (A : Nat → Prop) (Q : State → Prop) (ls : Array Slot), CallFix p m c cc maxL s av.toArray ws y.cls → meth.name = y.name → (∀ q, s.heap.size ≤ q → A q) → dq_W D cl ad w A s.heap → va_K D cl tys s → dq_Z A s s.heap → lv_has ls maxL (lv_args 0 av) → c.exceptionTable.toList.map (fun h => (h.startPc, h.endPc, h.handlerPc, h.catchType)) = hh →
      (∀ (v : Int32) (u : (Nat → Option va_E)) (H : Heap) (locs : List Loc) (pc : Nat) (ls : Array Slot), post v u → dq_W D cl ad u A H → va_S A s.heap H locs → decode cc pc = .ok (.ireturn, 1) → W p l e rm s m av.toArray below meth c H locs mc ms Q (F0 m pc ls [.int v])) →
      W p l e rm s m av.toArray below meth c s.heap [] 0 0 Q (F0 m 0 ls [])) : Met l y ws rm (va_Pc av (dq_S D cl tys ad w sz)) (va_Qi post (dq_B D cl tys ad (dq_A ad w sz)) (dq_A ad w sz)) mc ms (dq_A ad w sz) := by
  refine va_MetW (cc := cc) (maxL := maxL) (ret := (some .int)) (hh := hh) hy hw ?_
  intro p e s m args below meth c s₁ B hml hv
  obtain ⟨rfl, rfl, hW0, hK, hZ⟩ := hv
  have hlocks := B.notSynchronized
  have hts := atoms_spec (ws := ws) B.pre
  have hown : s.vm.findClass y.cls = some m.cls := findClass_of_methodNamed B.named
  obtain ⟨m9, meth9, c9, hn9, h1, h2, -, -, htab, -⟩ := Cond.codeWith_spec (hts _ (by rw [hw]; exact List.mem_cons_self))
  cases B.named.symm.trans hn9
  cases B.method.symm.trans h1
  cases (Stand.of_body B).code.symm.trans h2
  rw [lg_entry_eq]
  refine body p e s m below meth c (dq_A ad w s.heap.size) _ _ ⟨B.exec, B.bytes, hml, hown, hts⟩ (name_of_methodNamed B.named B.method).1 (fun q h => Or.inr h) hW0.self hK hZ (lv_entry av hav) htab ?_
  intro v u H locs pc ls hp hW hS hd
  exact W.iret (v := v) B.exec B.bytes B.returns (fun t ht hw9 => ⟨⟨v, u, rfl, hp, by rw [ht]; exact hW, va_K.moved hw9.alike hK⟩, hS.F ht⟩) hS.2.2 hd
abbrev dx_CB (R : Room) (s : State) (args : Array Value) (own : String) (index : Nat) (y : MethodName) (bytes : ByteArray) (maxL : Nat) (ret : Option FieldType) (hh : List (Nat × Nat × Nat × Nat)) (ws : List Cond) (rm : Room) (mc ms n : Nat) : Prop :=
  rm.cells = mc ∧ rm.slots = ms ∧ rm.frames + 1 ≤ R.frames ∧ 8 + (maxL + 11) + rm.locals ≤ R.locals ∧ (∀ w ∈ ws, ∀ (a' : Array Value) (U : State), s.WarmedH U.vm → w.before a' U = true) ∧ Cond.codeWith y bytes maxL ret hh ∈ ws ∧
  (Cond.codeWith y bytes maxL ret hh).before args s = true ∧ (Cond.initialized y.cls).before args s = true ∧ (y.cls ≠ "java/lang/invoke/MethodHandle" ∧ y.cls ≠ "java/lang/invoke/VarHandle") ∧ (∀ sig, parseMethodDescriptor y.desc = some sig → n = sig.parameters.length) ∧ (Cond.methodLink own index y).before args s = true ∧ (Cond.static y).before args s = true
theorem dx_cwS {R : Room} {s : State} {args : Array Value} {own : String} {index : Nat} {y : MethodName} {bytes : ByteArray} {maxL : Nat} {ret : Option FieldType} {hh : List (Nat × Nat × Nat × Nat)} {Ts ws ws' : List Cond} {rm : Room} {mc ms : Nat} (n : Nat) (ht : ∀ w ∈ Ts, w.before args s = true) (hT : GoodIn Ts (wsS own index y ws)) (hw : ws = Cond.codeWith y bytes maxL ret hh :: ws') (hrc : rm.cells = mc) (hrs : rm.slots = ms)
    (hd : y.cls = own ∧ y.cls ≠ "java/lang/invoke/MethodHandle" ∧ y.cls ≠ "java/lang/invoke/VarHandle" ∧ (parseMethodDescriptor y.desc).map (fun d => d.parameters.length) = some n) (hR : rm.frames + 1 ≤ R.frames ∧ 8 + (maxL + 11) + rm.locals ≤ R.locals) :
    dx_CB R s args own index y bytes maxL ret hh ws rm mc ms n := by
  obtain ⟨hC, hd1, hd2, hd3⟩ := hd
  have ok : ∀ w ∈ wsS own index y ws, w.before args s = true := fun w h => ht w (hT w h).1
  have hG : GoodIn Ts ws := fun w h => hT w (by unfold wsS; exact List.mem_append_right _ h)
  have hc : Cond.codeWith y bytes maxL ret hh ∈ ws := by rw [hw]; exact List.mem_cons_self
  refine ⟨hrc, hrs, hR.1, hR.2, pay_in ht hG, hc, ht _ (hG _ hc).1, by rw [hC]; exact ok _ (by simp [wsS]), ⟨hd1, hd2⟩, fun sig h => ?_, ok _ (by simp [wsS]), ok _ (by simp [wsS])⟩
  rw [h] at hd3
  exact (Option.some.inj hd3).symm
section DX4
variable {p : Program} {l : Launch} {e : Env} {R : Room} {s : State} {m : MethodId} {args : Array Value} {below : List Frame} {meth : Method} {c : Code} {H : Heap} {locs : List Loc} {cells slots : Nat}
theorem dx_runSW {y : MethodName} {bytes cc : ByteArray} {maxL nL mc ms n index : Nat} {ret : Option FieldType} {hh : List (Nat × Nat × Nat × Nat)} {ws Ts : List Cond} {rm : Room} {Pc : Array Value → State → Prop} {Qc : Array Value → State → Outcome → State → Prop} {free : Addr → Prop} {own : String} {As rest : List Value} {g : JFrame}
    (S : CallFix p m c cc nL s args Ts own) (hM : Met l y ws rm Pc Qc mc ms free) (cw : dx_CB R s args own index y bytes maxL ret hh ws rm mc ms n) (hp : PreS s H Pc As)
    (hg : g.method = m) (hn : As.length = n) (hsize : g.locals.size = nL) (hstack : g.stack = As.reverse ++ rest) (hW : 2 * g.monitorRoom + (rest.map fun v => v.category).sum ≤ 8) (hdg : decode cc g.pc = .ok (.invokestatic index, 3)) (hf : cells + mc ≤ R.cells ∧ slots + ms ≤ R.slots) :
    va_Run p l e R s m args below meth c H locs cells slots mc ms g rest (Qc As.toArray) (free) := by
  obtain ⟨hrc, hrs, hfr, hlo, hws, hcw, hcode, hini, hy, hlen, hl, hstt⟩ := cw
  have hK : Back l R p e below s args y 3 8 (PreOf R mc ms Pc) (PostOf Qc mc ms free) := va_backW (bytes := bytes) (maxL := maxL) (ret := ret) (hh := hh) hM hp.1 hrc hrs hfr hlo hws hcw (fun a' U hW => word_at hW (Or.inl (by first | rfl | simp [Cond.onTables, Cond.keeps, Cond.steady])) hini)
  obtain ⟨hx, hb, hml, ho, -⟩ := S
  intro T hT X
  obtain ⟨mk, methM, cM, hnamed, hmethM, -, -, -, -, -, -, hsigM⟩ := Cond.codeWith_spec hcode
  have hstatic : methM.isStatic = true := Cond.static_spec hnamed hmethM hstt
  obtain ⟨kP, hkP, -⟩ := className_of_methodNamed hnamed
  obtain ⟨vm₁, X₁, hstep₁⟩ := X.invokestatic hx ho hl hnamed hmethM hstatic hkP (Cond.initialized_spec (findClass_of_methodNamed hnamed) hkP hini) hy (g := g) hg (argsL := As) (rest := rest) (hn.trans (hlen _ hsigM)) hstack (by rw [hb]; exact hdg)
  obtain ⟨v, ⟨U', l2, c2, s2⟩, X', ⟨g', mk', t, L, e1, e2, hq, h1, hL, h2, h3⟩, st⟩ := hK m meth c ⟨T.setVm vm₁, locs, cells, slots⟩ { g with stack := rest } (.invokestatic index) mk As.toArray X₁ hg (hsize.trans hml.symm) (by rw [hb]; exact hdg) hW (X₁.named hnamed) ⟨hf.1, hf.2, hp.2 (T.setVm vm₁) hT X₁.warmed⟩
  dsimp only [Pt.U, Pt.locs, Pt.cells, Pt.slots] at X' e1 e2 h1 h2 h3 st
  subst h1; subst h2; subst h3
  exact ⟨v, (T.setVm vm₁).calling g' mk' As.toArray, t, U', L, hT, X', hL, e1, e2, hq, fun target h => hstep₁ _ fun acts => by rw [doInvoke_state]; exact st.trans h⟩
end DX4
end
section
set_option maxHeartbeats 4000000 in
set_option maxRecDepth 100000 in
/-- requireWithin, it is -/
theorem c_within (l : Launch) (D : va_G) (g : Nat → ClassId) (ad : Nat → Nat) (w : Nat → Option va_E) (sz : Nat) (a0 a1 a2 : Int32)  (hin : mr_in a0 a1 a2 = true) : Met l yDH_requireWithin wsDH_requireWithin ({ frames := 0, cells := 0, slots := 0, locals := 0 } : Room) (va_Pc [.int a0, .int a1, .int a2] (dq_S D vwCl (dq_t g) ad w sz)) (va_Sv (fun _ => True)) 0 0 (fun _ => False) := by
  refine dx_ofR (cc := cDH_requireWithin) (maxL := 3) (by decide) rfl (Nat.le_of_ble_eq_true rfl) ?_
  intro p e s m below meth c A Q ls ⟨hx, hb, hml, hown, hts⟩ hnm hA hW hK hZ hl hret
  have hS : va_S A s.heap s.heap [] := va_S.rf
  have hl : lv_has ls 3 [(0, .int a0), (1, .int a1), (2, .int a2)] := hl
  refine lv_iload_n hx hb dDH_requireWithin_0 rfl (lv_at hl 0 rfl) ?_
  refine lv_iload_n hx hb dDH_requireWithin_1 rfl (lv_at hl 1 rfl) ?_
  refine lv_icmp_lt (tgt := 10) hx hb dDH_requireWithin_2 (by decide) (fun c1 => ?_) (fun c1 => ?_)
  · exact absurd hin (by rw [mr_in_a c1]; decide)
  · refine lv_iload_n hx hb dDH_requireWithin_5 rfl (lv_at hl 0 rfl) ?_
    refine lv_iload_n hx hb dDH_requireWithin_6 rfl (lv_at hl 2 rfl) ?_
    refine lv_icmp_le (tgt := 20) hx hb dDH_requireWithin_7 (by decide) (fun c2 => ?_) (fun c2 => ?_)
    · exact hret _ _ dDH_requireWithin_20
    · exact absurd hin (by rw [mr_in_b c2]; decide)

set_option maxHeartbeats 4000000 in
set_option maxRecDepth 100000 in
/-- requireWithin, it is not -/
theorem t_within (l : Launch) (htr : l.stackTraces = false) (D : va_G) (g : Nat → ClassId) (ad : Nat → Nat) (w : Nat → Option va_E) (sz : Nat) (a0 a1 a2 : Int32)  (hin : mr_in a0 a1 a2 = false) : dx_M l yDH_requireWithin wsDH_requireWithin ({ frames := 6, cells := 1, slots := 6, locals := 82 } : Room) (va_Pc [.int a0, .int a1, .int a2] (dq_S D vwCl (dq_t g) ad w sz)) (dx_X D vwCl (dq_t g) ad w (dq_A ad w sz) (fun E => E = "java/lang/IllegalArgumentException")) (dq_A ad w sz) 1 6 := by
  refine dx_of (cc := cDH_requireWithin) (maxL := 3) (by decide) rfl (Nat.le_of_ble_eq_true rfl) ?_
  intro p e s m below meth c A ls ⟨hx, hb, hml, hown, hts⟩ hnm hA hW hK hZ hl hout hlocks
  have hS : va_S A s.heap s.heap [] := va_S.rf
  have hl : lv_has ls 3 [(0, .int a0), (1, .int a1), (2, .int a2)] := hl
  refine lv_iload_n hx hb dDH_requireWithin_0 rfl (lv_at hl 0 rfl) ?_
  refine lv_iload_n hx hb dDH_requireWithin_1 rfl (lv_at hl 1 rfl) ?_
  refine lv_icmp_lt (tgt := 10) hx hb dDH_requireWithin_2 (by decide) (fun c1 => ?_) (fun c1 => ?_)
  · exact dx_throw htr hx hb hml hown (hts _ (List.mem_cons_of_mem _ (dq_in2 202 rfl rfl))) (hts _ (List.mem_cons_of_mem _ (dq_in2 203 rfl rfl))) (hts _ (List.mem_cons_of_mem _ (dq_in1 15 rfl rfl))) hZ.s225 (dx_ia hts hZ) (by decide +kernel) (by decide +kernel) hl.1 dDH_requireWithin_10 dDH_requireWithin_13 dDH_requireWithin_14 dDH_requireWithin_16 dDH_requireWithin_19 hout hlocks ⟨Nat.le_of_ble_eq_true rfl, Nat.le_of_ble_eq_true rfl, Nat.le_refl _, Nat.le_refl _⟩ ⟨Nat.le_refl _, Nat.le_refl _⟩ (fun t9 hk9 hal9 => ⟨rfl, hW.kept hk9, va_K.moved hal9 hK⟩)
  · refine lv_iload_n hx hb dDH_requireWithin_5 rfl (lv_at hl 0 rfl) ?_
    refine lv_iload_n hx hb dDH_requireWithin_6 rfl (lv_at hl 2 rfl) ?_
    refine lv_icmp_le (tgt := 20) hx hb dDH_requireWithin_7 (by decide) (fun c2 => ?_) (fun c2 => ?_)
    · exact absurd hin (by rw [mr_in_t c1 c2]; decide)
    · exact dx_throw htr hx hb hml hown (hts _ (List.mem_cons_of_mem _ (dq_in2 202 rfl rfl))) (hts _ (List.mem_cons_of_mem _ (dq_in2 203 rfl rfl))) (hts _ (List.mem_cons_of_mem _ (dq_in1 15 rfl rfl))) hZ.s225 (dx_ia hts hZ) (by decide +kernel) (by decide +kernel) hl.1 dDH_requireWithin_10 dDH_requireWithin_13 dDH_requireWithin_14 dDH_requireWithin_16 dDH_requireWithin_19 hout hlocks ⟨Nat.le_of_ble_eq_true rfl, Nat.le_of_ble_eq_true rfl, Nat.le_refl _, Nat.le_refl _⟩ ⟨Nat.le_refl _, Nat.le_refl _⟩ (fun t9 hk9 hal9 => ⟨rfl, hW.kept hk9, va_K.moved hal9 hK⟩)

set_option maxHeartbeats 4000000 in
set_option maxRecDepth 100000 in
/-- requirePlace, it is -/
theorem c_place (l : Launch) (D : va_G) (g : Nat → ClassId) (ad : Nat → Nat) (w : Nat → Option va_E) (sz : Nat) (a0 a1 : Int32)  (h0 : mr_in a0 (-10000) 10000 = true) (h1 : mr_in a1 (-10000) 10000 = true) : Met l yDH_requirePlace wsDH_requirePlace ({ frames := 1, cells := 0, slots := 0, locals := 24 } : Room) (va_Pc [.int a0, .int a1] (dq_S D vwCl (dq_t g) ad w sz)) (va_Sv (fun _ => True)) 0 0 (fun _ => False) := by
  refine dx_ofR (cc := cDH_requirePlace) (maxL := 2) (by decide) rfl (Nat.le_of_ble_eq_true rfl) ?_
  intro p e s m below meth c A Q ls ⟨hx, hb, hml, hown, hts⟩ hnm hA hW hK hZ hl hret
  have hS : va_S A s.heap s.heap [] := va_S.rf
  have hl : lv_has ls 2 [(0, .int a0), (1, .int a1)] := hl
  refine lv_iload_n hx hb dDH_requirePlace_0 rfl (lv_at hl 0 rfl) ?_
  refine lv_sipush (v := (-10000)) hx hb dDH_requirePlace_1 (by decide) ?_
  refine lv_sipush (v := (10000)) hx hb dDH_requirePlace_4 (by decide) ?_
  refine va_csv (W.runS (As := [.int a0, .int (-10000), .int (10000)]) (rest := []) ⟨hx, hb, hml, hown, hts⟩ (c_within l D g ad (w) _ a0 (-10000) 10000  h0) (cwS 3 hts (dq_giS2 tw2_199 tw2_200 tw1_1 tw2_201) rfl rfl rfl (by decide +kernel) ⟨Nat.le_of_ble_eq_true rfl, Nat.le_of_ble_eq_true rfl⟩) (dq_preS hW hS hA hK hZ) rfl rfl hl.1 rfl (lv_room (Nat.le_of_ble_eq_true rfl)) dDH_requirePlace_7 ⟨Nat.zero_le _, Nat.zero_le _⟩) (fun _ => ?_)
  refine lv_iload_n hx hb dDH_requirePlace_10 rfl (lv_at hl 1 rfl) ?_
  refine lv_sipush (v := (-10000)) hx hb dDH_requirePlace_11 (by decide) ?_
  refine lv_sipush (v := (10000)) hx hb dDH_requirePlace_14 (by decide) ?_
  refine va_csv (W.runS (As := [.int a1, .int (-10000), .int (10000)]) (rest := []) ⟨hx, hb, hml, hown, hts⟩ (c_within l D g ad (w) _ a1 (-10000) 10000  h1) (cwS 3 hts (dq_giS2 tw2_199 tw2_200 tw1_1 tw2_201) rfl rfl rfl (by decide +kernel) ⟨Nat.le_of_ble_eq_true rfl, Nat.le_of_ble_eq_true rfl⟩) (dq_preS hW hS hA hK hZ) rfl rfl hl.1 rfl (lv_room (Nat.le_of_ble_eq_true rfl)) dDH_requirePlace_17 ⟨Nat.zero_le _, Nat.zero_le _⟩) (fun _ => ?_)
  exact hret _ _ dDH_requirePlace_20

set_option maxHeartbeats 4000000 in
set_option maxRecDepth 100000 in
/-- requirePlace, it is not -/
theorem t_place (l : Launch) (htr : l.stackTraces = false) (D : va_G) (g : Nat → ClassId) (ad : Nat → Nat) (w : Nat → Option va_E) (sz : Nat) (a0 a1 : Int32)  (h0 : (mr_in a0 (-10000) 10000 && mr_in a1 (-10000) 10000) = false) : dx_M l yDH_requirePlace wsDH_requirePlace ({ frames := 7, cells := 1, slots := 6, locals := 104 } : Room) (va_Pc [.int a0, .int a1] (dq_S D vwCl (dq_t g) ad w sz)) (dx_X D vwCl (dq_t g) ad w (dq_A ad w sz) (fun E => E = "java/lang/IllegalArgumentException")) (dq_A ad w sz) 1 6 := by
  refine dx_of (cc := cDH_requirePlace) (maxL := 2) (by decide) rfl (Nat.le_of_ble_eq_true rfl) ?_
  intro p e s m below meth c A ls ⟨hx, hb, hml, hown, hts⟩ hnm hA hW hK hZ hl hout hlocks
  have hS : va_S A s.heap s.heap [] := va_S.rf
  have hl : lv_has ls 2 [(0, .int a0), (1, .int a1)] := hl
  refine lv_iload_n hx hb dDH_requirePlace_0 rfl (lv_at hl 0 rfl) ?_
  refine lv_sipush (v := (-10000)) hx hb dDH_requirePlace_1 (by decide) ?_
  refine lv_sipush (v := (10000)) hx hb dDH_requirePlace_4 (by decide) ?_
  cases hq : mr_in a0 (-10000) 10000 with
  | false =>
    refine dx_callS (As := [.int a0, .int (-10000), .int (10000)]) (rest := []) ⟨hx, hb, hml, hown, hts⟩ (t_within l htr D g ad (w) _ a0 (-10000) 10000  hq) (cwS 3 hts (dq_giS2 tw2_199 tw2_200 tw1_1 tw2_201) rfl rfl rfl (by decide +kernel) ⟨Nat.le_of_ble_eq_true rfl, Nat.le_of_ble_eq_true rfl⟩) (dq_preS hW hS hA hK hZ) rfl hl.1 rfl (lv_room (Nat.le_of_ble_eq_true rfl)) dDH_requirePlace_7 ⟨Nat.le_of_ble_eq_true rfl, Nat.le_of_ble_eq_true rfl⟩ hS (dq_A.sub hW hS hA) (fun q9 E9 ce9 t9 H locs ht9 hal9 hX9 hz9 hk9 hS9 hce9 hcv9 hcl9 => ?_)
    obtain ⟨hE9, hW9, hK9⟩ := hX9
    rw [ht9] at hW9
    exact dx_out hout hlocks hce9 hcv9 hcl9 (fun t h1 h2 => ⟨hE9, by rw [h1]; exact hW9.weaken (dq_A.sub hW hS hA), va_K.moved h2 hK⟩) hS9 (Nat.le_of_ble_eq_true rfl) (Nat.le_of_ble_eq_true rfl)
  | true =>
    rw [hq, Bool.true_and] at h0
    refine va_csv (W.runS (As := [.int a0, .int (-10000), .int (10000)]) (rest := []) ⟨hx, hb, hml, hown, hts⟩ (c_within l D g ad (w) _ a0 (-10000) 10000  hq) (cwS 3 hts (dq_giS2 tw2_199 tw2_200 tw1_1 tw2_201) rfl rfl rfl (by decide +kernel) ⟨Nat.le_of_ble_eq_true rfl, Nat.le_of_ble_eq_true rfl⟩) (dq_preS hW hS hA hK hZ) rfl rfl hl.1 rfl (lv_room (Nat.le_of_ble_eq_true rfl)) dDH_requirePlace_7 ⟨Nat.zero_le _, Nat.zero_le _⟩) (fun _ => ?_)
    refine lv_iload_n hx hb dDH_requirePlace_10 rfl (lv_at hl 1 rfl) ?_
    refine lv_sipush (v := (-10000)) hx hb dDH_requirePlace_11 (by decide) ?_
    refine lv_sipush (v := (10000)) hx hb dDH_requirePlace_14 (by decide) ?_
    refine dx_callS (As := [.int a1, .int (-10000), .int (10000)]) (rest := []) ⟨hx, hb, hml, hown, hts⟩ (t_within l htr D g ad (w) _ a1 (-10000) 10000  h0) (cwS 3 hts (dq_giS2 tw2_199 tw2_200 tw1_1 tw2_201) rfl rfl rfl (by decide +kernel) ⟨Nat.le_of_ble_eq_true rfl, Nat.le_of_ble_eq_true rfl⟩) (dq_preS hW hS hA hK hZ) rfl hl.1 rfl (lv_room (Nat.le_of_ble_eq_true rfl)) dDH_requirePlace_17 ⟨Nat.le_of_ble_eq_true rfl, Nat.le_of_ble_eq_true rfl⟩ hS (dq_A.sub hW hS hA) (fun q9 E9 ce9 t9 H locs ht9 hal9 hX9 hz9 hk9 hS9 hce9 hcv9 hcl9 => ?_)
    obtain ⟨hE9, hW9, hK9⟩ := hX9
    rw [ht9] at hW9
    exact dx_out hout hlocks hce9 hcv9 hcl9 (fun t h1 h2 => ⟨hE9, by rw [h1]; exact hW9.weaken (dq_A.sub hW hS hA), va_K.moved h2 hK⟩) hS9 (Nat.le_of_ble_eq_true rfl) (Nat.le_of_ble_eq_true rfl)

set_option maxHeartbeats 4000000 in
set_option maxRecDepth 100000 in
/-- requirePlanned, it is -/
theorem c_planned (l : Launch) (D : va_G) (g : Nat → ClassId) (ad : Nat → Nat) (w : Nat → Option va_E) (sz : Nat) (sg pl : Int32) (o0 : w 0 = some (.inr (7, [.ref (ad 1), .ref (ad 5), .ref (ad 12), .ref (ad 17), .ref (ad 18), .ref (ad 23), .ref (ad 25), .int sg, .int pl]))) (hpl : ¬ pl = 0) : Met l yDH_requirePlanned wsDH_requirePlanned ({ frames := 0, cells := 0, slots := 0, locals := 0 } : Room) (va_Pc [.ref (ad 0)] (dq_S D vwCl (dq_t g) ad w sz)) (va_Sv (fun _ => True)) 0 0 (fun _ => False) := by
  refine dx_ofR (cc := cDH_requirePlanned) (maxL := 1) (by decide) rfl (Nat.le_of_ble_eq_true rfl) ?_
  intro p e s m below meth c A Q ls ⟨hx, hb, hml, hown, hts⟩ hnm hA hW hK hZ hl hret
  have hS : va_S A s.heap s.heap [] := va_S.rf
  have hl : lv_has ls 1 [(0, .ref (ad 0))] := hl
  have hf92 := hts _ (List.mem_cons_of_mem _ tw1_222)
  have hinDH : ∀ w ∈ u_ws RDH TDH 9, w ∈ wsDH_requirePlanned := fun w h => List.mem_cons_of_mem _ (inDH w h)
  refine lv_aload_n hx hb dDH_requirePlanned_0 rfl (lv_at hl 0 rfl) ?_
  refine dq_get (D := D) (ci := 7) (v := .int pl) (C := RDH) (T := TDH) (N := 9) hx hb hts hinDH hown hK hW 0 o0 rfl 8 (by decide) hf92 (fun _ h9 => h9) rfl dDH_requirePlanned_1 ?_
  refine lv_if_ne (tgt := 17) hx hb dDH_requirePlanned_4 (by decide) (fun c1 => ?_) (fun c1 => ?_)
  · exact hret _ _ dDH_requirePlanned_17
  · exact absurd c1 hpl

set_option maxHeartbeats 4000000 in
set_option maxRecDepth 100000 in
/-- requirePlanned, it is not -/
theorem t_planned (l : Launch) (htr : l.stackTraces = false) (D : va_G) (g : Nat → ClassId) (ad : Nat → Nat) (w : Nat → Option va_E) (sz : Nat) (sg pl : Int32) (o0 : w 0 = some (.inr (7, [.ref (ad 1), .ref (ad 5), .ref (ad 12), .ref (ad 17), .ref (ad 18), .ref (ad 23), .ref (ad 25), .int sg, .int pl]))) (hpl : pl = 0) : dx_M l yDH_requirePlanned wsDH_requirePlanned ({ frames := 6, cells := 1, slots := 6, locals := 82 } : Room) (va_Pc [.ref (ad 0)] (dq_S D vwCl (dq_t g) ad w sz)) (dx_X D vwCl (dq_t g) ad w (dq_A ad w sz) (fun E => E = "java/lang/IllegalStateException")) (dq_A ad w sz) 1 6 := by
  refine dx_of (cc := cDH_requirePlanned) (maxL := 1) (by decide) rfl (Nat.le_of_ble_eq_true rfl) ?_
  intro p e s m below meth c A ls ⟨hx, hb, hml, hown, hts⟩ hnm hA hW hK hZ hl hout hlocks
  have hS : va_S A s.heap s.heap [] := va_S.rf
  have hl : lv_has ls 1 [(0, .ref (ad 0))] := hl
  have hf92 := hts _ (List.mem_cons_of_mem _ tw1_222)
  have hinDH : ∀ w ∈ u_ws RDH TDH 9, w ∈ wsDH_requirePlanned := fun w h => List.mem_cons_of_mem _ (inDH w h)
  refine lv_aload_n hx hb dDH_requirePlanned_0 rfl (lv_at hl 0 rfl) ?_
  refine dq_get (D := D) (ci := 7) (v := .int pl) (C := RDH) (T := TDH) (N := 9) hx hb hts hinDH hown hK hW 0 o0 rfl 8 (by decide) hf92 (fun _ h9 => h9) rfl dDH_requirePlanned_1 ?_
  refine lv_if_ne (tgt := 17) hx hb dDH_requirePlanned_4 (by decide) (fun c1 => ?_) (fun c1 => ?_)
  · exact absurd hpl c1
  · exact dx_throw htr hx hb hml hown (hts _ (List.mem_cons_of_mem _ (dq_in2 236 rfl rfl))) (hts _ (List.mem_cons_of_mem _ (dq_in2 237 rfl rfl))) (hts _ (List.mem_cons_of_mem _ (dq_in1 16 rfl rfl))) hZ.s219 (dx_is hts hZ) (by decide +kernel) (by decide +kernel) hl.1 dDH_requirePlanned_7 dDH_requirePlanned_10 dDH_requirePlanned_11 dDH_requirePlanned_13 dDH_requirePlanned_16 hout hlocks ⟨Nat.le_of_ble_eq_true rfl, Nat.le_of_ble_eq_true rfl, Nat.le_refl _, Nat.le_refl _⟩ ⟨Nat.le_refl _, Nat.le_refl _⟩ (fun t9 hk9 hal9 => ⟨rfl, hW.kept hk9, va_K.moved hal9 hK⟩)

set_option maxHeartbeats 4000000 in
set_option maxRecDepth 100000 in
/-- DH_requireHole, it is -/
theorem c_qhole (l : Launch) (D : va_G) (g : Nat → ClassId) (ad : Nat → Nat) (w : Nat → Option va_E) (sz : Nat) (sg pl : Int32) (pc_ : Nat) (a0 : Int32) (o0 : w 0 = some (.inr (7, [.ref (ad 1), .ref (ad 5), .ref (ad 12), .ref (ad 17), .ref (ad 18), .ref (ad 23), .ref (ad 25), .int sg, .int pl]))) (p5 : w 5 = some (.inr (3, [.ref (ad 6), .ref (ad 7), .ref (ad 8), .ref (ad 9), .ref (ad 10), .ref (ad 11), .int (nI pc_)]))) (h0 : ¬ a0 < 0) (h1 : a0 < nI pc_) : Met l yDH_requireHole wsDH_requireHole ({ frames := 0, cells := 0, slots := 0, locals := 0 } : Room) (va_Pc [.ref (ad 0), .int a0] (dq_S D vwCl (dq_t g) ad w sz)) (va_Sv (fun _ => True)) 0 0 (fun _ => False) := by
  refine dx_ofR (cc := cDH_requireHole) (maxL := 2) (by decide) rfl (Nat.le_of_ble_eq_true rfl) ?_
  intro p e s m below meth c A Q ls ⟨hx, hb, hml, hown, hts⟩ hnm hA hW hK hZ hl hret
  have hS : va_S A s.heap s.heap [] := va_S.rf
  have hl : lv_has ls 2 [(0, .ref (ad 0)), (1, .int a0)] := hl
  have hf30 := hts _ (List.mem_cons_of_mem _ tw1_215)
  have hf96 := hts _ (List.mem_cons_of_mem _ tw1_89)
  have hinDH : ∀ w ∈ u_ws RDH TDH 9, w ∈ wsDH_requireHole := fun w h => List.mem_cons_of_mem _ (inDH w h)
  have hinPt : ∀ w ∈ u_ws RPt TPt 7, w ∈ wsDH_requireHole := fun w h => List.mem_cons_of_mem _ (inPt w h)
  refine lv_iload_n hx hb dDH_requireHole_0 rfl (lv_at hl 1 rfl) ?_
  refine lv_if_lt (tgt := 15) hx hb dDH_requireHole_1 (by decide) (fun c1 => ?_) (fun c1 => ?_)
  · exact absurd c1 h0
  · refine lv_iload_n hx hb dDH_requireHole_4 rfl (lv_at hl 1 rfl) ?_
    refine lv_aload_n hx hb dDH_requireHole_5 rfl (lv_at hl 0 rfl) ?_
    refine dq_get (D := D) (ci := 7) (v := .ref (ad 5)) (C := RDH) (T := TDH) (N := 9) hx hb hts hinDH hown hK hW 0 o0 rfl 1 (by decide) hf30 (fun _ h9 => h9) rfl dDH_requireHole_6 ?_
    refine dq_get (D := D) (ci := 3) (v := .int (nI pc_)) (C := RPt) (T := TPt) (N := 7) hx hb hts hinPt hown hK hW 5 p5 rfl 6 (by decide) hf96 (fun _ h9 => h9) rfl dDH_requireHole_9 ?_
    refine lv_icmp_lt (tgt := 25) hx hb dDH_requireHole_12 (by decide) (fun c2 => ?_) (fun c2 => ?_)
    · exact hret _ _ dDH_requireHole_25
    · exact absurd h1 c2

set_option maxHeartbeats 4000000 in
set_option maxRecDepth 100000 in
/-- DH_requireHole, it is not -/
theorem t_qhole (l : Launch) (htr : l.stackTraces = false) (D : va_G) (g : Nat → ClassId) (ad : Nat → Nat) (w : Nat → Option va_E) (sz : Nat) (sg pl : Int32) (pc_ : Nat) (a0 : Int32) (o0 : w 0 = some (.inr (7, [.ref (ad 1), .ref (ad 5), .ref (ad 12), .ref (ad 17), .ref (ad 18), .ref (ad 23), .ref (ad 25), .int sg, .int pl]))) (p5 : w 5 = some (.inr (3, [.ref (ad 6), .ref (ad 7), .ref (ad 8), .ref (ad 9), .ref (ad 10), .ref (ad 11), .int (nI pc_)]))) (h0 : a0 < 0 ∨ ¬ a0 < nI pc_) : dx_M l yDH_requireHole wsDH_requireHole ({ frames := 6, cells := 1, slots := 6, locals := 82 } : Room) (va_Pc [.ref (ad 0), .int a0] (dq_S D vwCl (dq_t g) ad w sz)) (dx_X D vwCl (dq_t g) ad w (dq_A ad w sz) (fun E => E = "java/lang/IndexOutOfBoundsException")) (dq_A ad w sz) 1 6 := by
  refine dx_of (cc := cDH_requireHole) (maxL := 2) (by decide) rfl (Nat.le_of_ble_eq_true rfl) ?_
  intro p e s m below meth c A ls ⟨hx, hb, hml, hown, hts⟩ hnm hA hW hK hZ hl hout hlocks
  have hS : va_S A s.heap s.heap [] := va_S.rf
  have hl : lv_has ls 2 [(0, .ref (ad 0)), (1, .int a0)] := hl
  have hf30 := hts _ (List.mem_cons_of_mem _ tw1_215)
  have hf96 := hts _ (List.mem_cons_of_mem _ tw1_89)
  have hinDH : ∀ w ∈ u_ws RDH TDH 9, w ∈ wsDH_requireHole := fun w h => List.mem_cons_of_mem _ (inDH w h)
  have hinPt : ∀ w ∈ u_ws RPt TPt 7, w ∈ wsDH_requireHole := fun w h => List.mem_cons_of_mem _ (inPt w h)
  refine lv_iload_n hx hb dDH_requireHole_0 rfl (lv_at hl 1 rfl) ?_
  refine lv_if_lt (tgt := 15) hx hb dDH_requireHole_1 (by decide) (fun c1 => ?_) (fun c1 => ?_)
  · exact dx_throw htr hx hb hml hown (hts _ (List.mem_cons_of_mem _ (dq_in2 128 rfl rfl))) (hts _ (List.mem_cons_of_mem _ (dq_in2 129 rfl rfl))) (hts _ (List.mem_cons_of_mem _ (dq_in1 14 rfl rfl))) hZ.s221 (dx_io hts hZ) (by decide +kernel) (by decide +kernel) hl.1 dDH_requireHole_15 dDH_requireHole_18 dDH_requireHole_19 dDH_requireHole_21 dDH_requireHole_24 hout hlocks ⟨Nat.le_of_ble_eq_true rfl, Nat.le_of_ble_eq_true rfl, Nat.le_refl _, Nat.le_refl _⟩ ⟨Nat.le_refl _, Nat.le_refl _⟩ (fun t9 hk9 hal9 => ⟨rfl, hW.kept hk9, va_K.moved hal9 hK⟩)
  · refine lv_iload_n hx hb dDH_requireHole_4 rfl (lv_at hl 1 rfl) ?_
    refine lv_aload_n hx hb dDH_requireHole_5 rfl (lv_at hl 0 rfl) ?_
    refine dq_get (D := D) (ci := 7) (v := .ref (ad 5)) (C := RDH) (T := TDH) (N := 9) hx hb hts hinDH hown hK hW 0 o0 rfl 1 (by decide) hf30 (fun _ h9 => h9) rfl dDH_requireHole_6 ?_
    refine dq_get (D := D) (ci := 3) (v := .int (nI pc_)) (C := RPt) (T := TPt) (N := 7) hx hb hts hinPt hown hK hW 5 p5 rfl 6 (by decide) hf96 (fun _ h9 => h9) rfl dDH_requireHole_9 ?_
    refine lv_icmp_lt (tgt := 25) hx hb dDH_requireHole_12 (by decide) (fun c2 => ?_) (fun c2 => ?_)
    · exact (h0.elim c1 (fun h => absurd c2 h)).elim
    · exact dx_throw htr hx hb hml hown (hts _ (List.mem_cons_of_mem _ (dq_in2 128 rfl rfl))) (hts _ (List.mem_cons_of_mem _ (dq_in2 129 rfl rfl))) (hts _ (List.mem_cons_of_mem _ (dq_in1 14 rfl rfl))) hZ.s221 (dx_io hts hZ) (by decide +kernel) (by decide +kernel) hl.1 dDH_requireHole_15 dDH_requireHole_18 dDH_requireHole_19 dDH_requireHole_21 dDH_requireHole_24 hout hlocks ⟨Nat.le_of_ble_eq_true rfl, Nat.le_of_ble_eq_true rfl, Nat.le_refl _, Nat.le_refl _⟩ ⟨Nat.le_refl _, Nat.le_refl _⟩ (fun t9 hk9 hal9 => ⟨rfl, hW.kept hk9, va_K.moved hal9 hK⟩)

set_option maxHeartbeats 4000000 in
set_option maxRecDepth 100000 in
/-- DH_requireHit, it is -/
theorem c_qhit (l : Launch) (D : va_G) (g : Nat → ClassId) (ad : Nat → Nat) (w : Nat → Option va_E) (sz : Nat) (sg pl : Int32) (hc : Nat) (a0 : Int32) (o0 : w 0 = some (.inr (7, [.ref (ad 1), .ref (ad 5), .ref (ad 12), .ref (ad 17), .ref (ad 18), .ref (ad 23), .ref (ad 25), .int sg, .int pl]))) (t18 : w 18 = some (.inr (2, [.ref (ad 19), .ref (ad 20), .ref (ad 21), .ref (ad 22), .int (nI hc)]))) (h0 : ¬ a0 < 0) (h1 : a0 < nI hc) : Met l yDH_requireHit wsDH_requireHit ({ frames := 0, cells := 0, slots := 0, locals := 0 } : Room) (va_Pc [.ref (ad 0), .int a0] (dq_S D vwCl (dq_t g) ad w sz)) (va_Sv (fun _ => True)) 0 0 (fun _ => False) := by
  refine dx_ofR (cc := cDH_requireHit) (maxL := 2) (by decide) rfl (Nat.le_of_ble_eq_true rfl) ?_
  intro p e s m below meth c A Q ls ⟨hx, hb, hml, hown, hts⟩ hnm hA hW hK hZ hl hret
  have hS : va_S A s.heap s.heap [] := va_S.rf
  have hl : lv_has ls 2 [(0, .ref (ad 0)), (1, .int a0)] := hl
  have hf51 := hts _ (List.mem_cons_of_mem _ tw1_218)
  have hf140 := hts _ (List.mem_cons_of_mem _ tw1_174)
  have hinDH : ∀ w ∈ u_ws RDH TDH 9, w ∈ wsDH_requireHit := fun w h => List.mem_cons_of_mem _ (inDH w h)
  have hinHt : ∀ w ∈ u_ws RHt THt 5, w ∈ wsDH_requireHit := fun w h => List.mem_cons_of_mem _ (inHt w h)
  refine lv_iload_n hx hb dDH_requireHit_0 rfl (lv_at hl 1 rfl) ?_
  refine lv_if_lt (tgt := 15) hx hb dDH_requireHit_1 (by decide) (fun c1 => ?_) (fun c1 => ?_)
  · exact absurd c1 h0
  · refine lv_iload_n hx hb dDH_requireHit_4 rfl (lv_at hl 1 rfl) ?_
    refine lv_aload_n hx hb dDH_requireHit_5 rfl (lv_at hl 0 rfl) ?_
    refine dq_get (D := D) (ci := 7) (v := .ref (ad 18)) (C := RDH) (T := TDH) (N := 9) hx hb hts hinDH hown hK hW 0 o0 rfl 4 (by decide) hf51 (fun _ h9 => h9) rfl dDH_requireHit_6 ?_
    refine dq_get (D := D) (ci := 2) (v := .int (nI hc)) (C := RHt) (T := THt) (N := 5) hx hb hts hinHt hown hK hW 18 t18 rfl 4 (by decide) hf140 (fun _ h9 => h9) rfl dDH_requireHit_9 ?_
    refine lv_icmp_lt (tgt := 25) hx hb dDH_requireHit_12 (by decide) (fun c2 => ?_) (fun c2 => ?_)
    · exact hret _ _ dDH_requireHit_25
    · exact absurd h1 c2

set_option maxHeartbeats 4000000 in
set_option maxRecDepth 100000 in
/-- DH_requireHit, it is not -/
theorem t_qhit (l : Launch) (htr : l.stackTraces = false) (D : va_G) (g : Nat → ClassId) (ad : Nat → Nat) (w : Nat → Option va_E) (sz : Nat) (sg pl : Int32) (hc : Nat) (a0 : Int32) (o0 : w 0 = some (.inr (7, [.ref (ad 1), .ref (ad 5), .ref (ad 12), .ref (ad 17), .ref (ad 18), .ref (ad 23), .ref (ad 25), .int sg, .int pl]))) (t18 : w 18 = some (.inr (2, [.ref (ad 19), .ref (ad 20), .ref (ad 21), .ref (ad 22), .int (nI hc)]))) (h0 : a0 < 0 ∨ ¬ a0 < nI hc) : dx_M l yDH_requireHit wsDH_requireHit ({ frames := 6, cells := 1, slots := 6, locals := 82 } : Room) (va_Pc [.ref (ad 0), .int a0] (dq_S D vwCl (dq_t g) ad w sz)) (dx_X D vwCl (dq_t g) ad w (dq_A ad w sz) (fun E => E = "java/lang/IndexOutOfBoundsException")) (dq_A ad w sz) 1 6 := by
  refine dx_of (cc := cDH_requireHit) (maxL := 2) (by decide) rfl (Nat.le_of_ble_eq_true rfl) ?_
  intro p e s m below meth c A ls ⟨hx, hb, hml, hown, hts⟩ hnm hA hW hK hZ hl hout hlocks
  have hS : va_S A s.heap s.heap [] := va_S.rf
  have hl : lv_has ls 2 [(0, .ref (ad 0)), (1, .int a0)] := hl
  have hf51 := hts _ (List.mem_cons_of_mem _ tw1_218)
  have hf140 := hts _ (List.mem_cons_of_mem _ tw1_174)
  have hinDH : ∀ w ∈ u_ws RDH TDH 9, w ∈ wsDH_requireHit := fun w h => List.mem_cons_of_mem _ (inDH w h)
  have hinHt : ∀ w ∈ u_ws RHt THt 5, w ∈ wsDH_requireHit := fun w h => List.mem_cons_of_mem _ (inHt w h)
  refine lv_iload_n hx hb dDH_requireHit_0 rfl (lv_at hl 1 rfl) ?_
  refine lv_if_lt (tgt := 15) hx hb dDH_requireHit_1 (by decide) (fun c1 => ?_) (fun c1 => ?_)
  · exact dx_throw htr hx hb hml hown (hts _ (List.mem_cons_of_mem _ (dq_in2 128 rfl rfl))) (hts _ (List.mem_cons_of_mem _ (dq_in2 129 rfl rfl))) (hts _ (List.mem_cons_of_mem _ (dq_in1 14 rfl rfl))) hZ.s223 (dx_io hts hZ) (by decide +kernel) (by decide +kernel) hl.1 dDH_requireHit_15 dDH_requireHit_18 dDH_requireHit_19 dDH_requireHit_21 dDH_requireHit_24 hout hlocks ⟨Nat.le_of_ble_eq_true rfl, Nat.le_of_ble_eq_true rfl, Nat.le_refl _, Nat.le_refl _⟩ ⟨Nat.le_refl _, Nat.le_refl _⟩ (fun t9 hk9 hal9 => ⟨rfl, hW.kept hk9, va_K.moved hal9 hK⟩)
  · refine lv_iload_n hx hb dDH_requireHit_4 rfl (lv_at hl 1 rfl) ?_
    refine lv_aload_n hx hb dDH_requireHit_5 rfl (lv_at hl 0 rfl) ?_
    refine dq_get (D := D) (ci := 7) (v := .ref (ad 18)) (C := RDH) (T := TDH) (N := 9) hx hb hts hinDH hown hK hW 0 o0 rfl 4 (by decide) hf51 (fun _ h9 => h9) rfl dDH_requireHit_6 ?_
    refine dq_get (D := D) (ci := 2) (v := .int (nI hc)) (C := RHt) (T := THt) (N := 5) hx hb hts hinHt hown hK hW 18 t18 rfl 4 (by decide) hf140 (fun _ h9 => h9) rfl dDH_requireHit_9 ?_
    refine lv_icmp_lt (tgt := 25) hx hb dDH_requireHit_12 (by decide) (fun c2 => ?_) (fun c2 => ?_)
    · exact (h0.elim c1 (fun h => absurd c2 h)).elim
    · exact dx_throw htr hx hb hml hown (hts _ (List.mem_cons_of_mem _ (dq_in2 128 rfl rfl))) (hts _ (List.mem_cons_of_mem _ (dq_in2 129 rfl rfl))) (hts _ (List.mem_cons_of_mem _ (dq_in1 14 rfl rfl))) hZ.s223 (dx_io hts hZ) (by decide +kernel) (by decide +kernel) hl.1 dDH_requireHit_15 dDH_requireHit_18 dDH_requireHit_19 dDH_requireHit_21 dDH_requireHit_24 hout hlocks ⟨Nat.le_of_ble_eq_true rfl, Nat.le_of_ble_eq_true rfl, Nat.le_refl _, Nat.le_refl _⟩ ⟨Nat.le_refl _, Nat.le_refl _⟩ (fun t9 hk9 hal9 => ⟨rfl, hW.kept hk9, va_K.moved hal9 hK⟩)
end
