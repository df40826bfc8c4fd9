/-! the state: int cells, long cells, references (as numbers of things), by thing and place -/
/-- the machine's side: array classes, addresses, texts' addresses -/
abbrev hG : Type := (Nat → ClassId) × (Nat → Nat) × (Nat → Nat)
def tysG (G : hG) : List (ClassId × FieldType) := [(G.1 0, .int), (G.1 1, .long), (G.1 2, .byte), (G.1 3, .object "java/lang/Object"), (G.1 4, .array .long)]
/-- links to private members of a nest mate -/
def nestF : List (String × Nat × String × String × String) := [(RX11, 109, "LiarHall$Tape", "length", "I"), (RX5, 28, "LiarHall$Tape", "faultAt", "I"), (RX10, 38, "LiarHall$Tape", "faultAt", "I"), (RX10, 58, "LiarHall$Tape", "written", "I"), (RX11, 177, "LiarHall$Reckoner", "corner", "[J"), (RX11, 220, "LiarHall$Course", "talk", "LLiarHall$Talk;"), (RX11, 224, "LiarHall$Course", "firstClaim", "J"), (RX11, 231, "LiarHall$Course", "claim", "J"), (RX11, 228, "LiarHall$Course", "gaveUp", "I"), (RX11, 234, "LiarHall$Course", "drawn", "I"), (RX3, 44, "LiarHall$Saying", "code", "[I"), (RX1, 53, "LiarHall$Saying", "names", "I"), (RX0, 50, "LiarHall$Saying", "names", "I"), (RX11, 150, "LiarHall$Saying", "names", "I"), (RX3, 56, "LiarHall$Saying", "names", "I"), (RX11, 153, "LiarHall$Saying", "work", "I"), (RX1, 131, "LiarHall$Saying", "corners", "I"), (RX11, 139, "LiarHall$Saying", "corners", "I"), (RX3, 82, "LiarHall$Text", "code", "[I"), (RX1, 47, "LiarHall$Talk", "saying", "LLiarHall$Saying;"), (RX11, 255, "LiarHall$Talk", "saying", "LLiarHall$Saying;"), (RX1, 108, "LiarHall$Talk", "prime", "I"), (RX11, 263, "LiarHall$Talk", "prime", "I"), (RX1, 104, "LiarHall$Talk", "law", "LLiarHall$Text;"), (RX11, 259, "LiarHall$Talk", "law", "LLiarHall$Text;"), (RX1, 147, "LiarHall$Talk", "giant", "LLiarHall$Text;"), (RX11, 334, "LiarHall$Net", "points", "I")]
def nestM : List (String × Nat × MethodName) := [(RX11, 9, yX8_init), (RX11, 47, yX3_init), (RX11, 284, yX1_believedFrom), (RX11, 316, yX3_gameWorth)]
/-- classes that may be stored, an array that may be cloned -/
def castL : List (String × String) := [("[I", "java/lang/Cloneable"), ("LiarHall$Saying", "java/lang/Object"), ("LiarHall$Text", "java/lang/Object"), ("LiarHall$Talk", "java/lang/Object"), ("LiarHall$Net", "java/lang/Object")]
/-- the texts that are loaded -/
def strL : List (String × Nat × String × Nat) := [(RX11, 27, "cde", 0), (RX11, 29, "inkp", 1), (RX11, 38, "sv", 2), (RX11, 40, "tcwlijnpy", 3), (RX10, 115, "tcwlijnpyk", 4), (RX12, 54, "cde", 0), (RX12, 60, "inkp", 1), (RX12, 298, "sv", 2), (RX12, 300, "tcwlijnpy", 3), (RX11, 243, "no such value was said", 5)]
def nE (G : hG) (U : State) : Prop := (∀ q ∈ nestF, va_Nw (.fieldLinkNest q.1 q.2.1 q.2.2.1 q.2.2.2.1 q.2.2.2.2 "LiarHall") U) ∧ (∀ q ∈ nestM, va_Nw (.methodLinkNest q.1 q.2.1 q.2.2 "LiarHall") U) ∧ (∀ q ∈ strL, vk_R q.1 q.2.1 q.2.2.1 (G.2.2 q.2.2.2) U) ∧ (Cond.arrayOver (.array .long)).before #[] U = true ∧ va_AO "java/lang/Object" U ∧ (∀ q ∈ castL, va_Nw (.castable q.1 q.2) U) ∧ va_Nw (.declares ⟨"java/lang/Object", "getClass", "()Ljava/lang/Class;"⟩) U ∧ va_Mi "[Ljava/lang/Object;" (G.2.2 201) U
theorem nE.warm {G : hG} {s U : State} (hW : s.WarmedH U.vm) (h : nE G s) : nE G U := ⟨fun q hq => va_Nw.warmF hW (h.1 q hq), fun q hq => va_Nw.warmM hW (h.2.1 q hq), fun q hq => vk_R.warm hW (h.2.2.1 q hq), over_moved hW.alike h.2.2.2.1, va_AO.moved hW.alike h.2.2.2.2.1, fun q hq => va_Nw.warmC hW (h.2.2.2.2.2.1 q hq), va_Nw.warmD hW h.2.2.2.2.2.2.1, va_Mi.moved hW.alike h.2.2.2.2.2.2.2⟩
theorem nE.same {G : hG} {s U : State} (hv : s.vm = U.vm) (h : nE G s) : nE G U := ⟨fun q hq => va_Nw.same rfl hv (h.1 q hq), fun q hq => va_Nw.same rfl hv (h.2.1 q hq), fun q hq => vk_R.same hv.symm (h.2.2.1 q hq), over_moved (hv ▸ Vm.Alike.refl s.vm) h.2.2.2.1, va_AO.moved (hv ▸ Vm.Alike.refl s.vm) h.2.2.2.2.1, fun q hq => va_Nw.same rfl hv (h.2.2.2.2.2.1 q hq), va_Nw.same rfl hv h.2.2.2.2.2.2.1, va_Mi.moved (hv ▸ Vm.Alike.refl s.vm) h.2.2.2.2.2.2.2⟩
/-- what lies outside both worlds: the texts, two statics, the empty row of the lists -/
def sE (G : hG) (A : Nat → Prop) (U : State) (H : Heap) : Prop :=
  vk_S 5 sLen sByt (fun i => G.2.2 i) (fun i => G.2.2 (100 + i)) A U H ∧ va_Z "java/lang/String" "COMPACT_STRINGS" "Z" (.int 1) A U H ∧ va_Z "java/util/ArrayList" "DEFAULTCAPACITY_EMPTY_ELEMENTDATA" "[Ljava/lang/Object;" (.ref (G.2.2 200)) A U H ∧ va_T (.object "java/lang/Object") (G.2.2 200) 0 (fun _ => .null) A U H ∧ nE G U
theorem sE.warm {G : hG} {A : Nat → Prop} {u U : State} {H : Heap} (hW : u.WarmedH U.vm) (h : sE G A u H) : sE G A U H := ⟨vk_S.moved hW.alike h.1, va_Z.moved hW.alike h.2.1, va_Z.moved hW.alike h.2.2.1, va_T.moved hW.alike h.2.2.2.1, nE.warm hW h.2.2.2.2⟩
theorem sE.same {G : hG} {A : Nat → Prop} {u U : State} {H : Heap} (hv : u.vm = U.vm) (h : sE G A u H) : sE G A U H := ⟨vk_S.moved (hv ▸ Vm.Alike.refl u.vm) h.1, va_Z.moved (hv ▸ Vm.Alike.refl u.vm) h.2.1, va_Z.moved (hv ▸ Vm.Alike.refl u.vm) h.2.2.1, va_T.moved (hv ▸ Vm.Alike.refl u.vm) h.2.2.2.1, nE.same hv h.2.2.2.2⟩
theorem sE.kept {G : hG} {A : Nat → Prop} {U : State} {H H1 : Heap} (h : sE G A U H) (hq : ∀ a : Nat, a < H.size → ¬ A a → H1[a]? = H[a]?) : sE G A U H1 := ⟨vk_S.kept h.1 hq, va_Z.kept h.2.1 hq, va_Z.kept h.2.2.1 hq, va_T.kept h.2.2.2.1 hq, h.2.2.2.2⟩
theorem sE.narrow {G : hG} {A B : Nat → Prop} {U : State} {H : Heap} (h : sE G A U H) (hAB : ∀ q, B q → A q) : sE G B U H := ⟨vk_S.narrow h.1 hAB, va_Z.narrow h.2.1 hAB, va_Z.narrow h.2.2.1 hAB, va_T.narrow h.2.2.2.1 hAB, h.2.2.2.2⟩
theorem f_t {c : Prop} [Decidable c] {α : Type} {A B x : α} (hc : c) (h : (if c then A else B) = x) : A = x := by rw [if_pos hc] at h; exact h
theorem f_f {c : Prop} [Decidable c] {α : Type} {A B x : α} (hc : ¬ c) (h : (if c then A else B) = x) : B = x := by rw [if_neg hc] at h; exact h
theorem f_n {c : Prop} [Decidable c] {α : Type} {B : Option α} {x : α} (h : (if c then none else B) = some x) : ¬ c ∧ B = some x := by
  by_cases hc : c
  · rw [if_pos hc] at h; cases h
  · rw [if_neg hc] at h; exact ⟨hc, h⟩
theorem f_c {c : Prop} [Decidable c] {α : Type} {B : Option α} {x : α} (h : (if c then B else none) = some x) : c ∧ B = some x := by
  by_cases hc : c
  · rw [if_pos hc] at h; exact ⟨hc, h⟩
  · rw [if_neg hc] at h; cases h
theorem f_b {α β : Type} {o : Option α} {k : α → Option β} {x : β} (h : o.bind k = some x) : ∃ q, o = some q ∧ k q = some x := by
  cases o with
  | none => cases h
  | some q => exact ⟨q, rfl, h⟩
theorem wrP {D : va_G} {cl : List vw_C} {w w' : va_W} {H : Heap} (e : w = w') (h : va_P D cl w H) : va_P D cl w' H := e ▸ h
theorem wrD {A : Nat → Prop} {w w' : va_W} (e : w = w') (h : va_D A w) : va_D A w' := e ▸ h
def Qg (rv : Option Value) (D : va_G) (tys : List (ClassId × FieldType)) (w' : va_W) (A : Nat → Prop) : Array Value → State → Outcome → State → Prop := fun _ st oc t => (oc = .returned rv ∧ va_P D vwCl w' t.heap ∧ va_K D vwCl tys t ∧ va_D A w') ∧ va_F A st t
def Pg (av : List Value) (D : va_G) (G : hG) (w : va_W) (sz : Nat) : Array Value → State → Prop := va_Pc av (fun U => U.heap.size = sz ∧ va_P D vwCl w U.heap ∧ va_K D vwCl (tysG G) U ∧ va_D (fun _ => True) w ∧ sE G (va_A w sz) U U.heap)
abbrev wU (y : MethodName) (cc : ByteArray) (maxL : Nat) (ret : Option FieldType) : List Cond := Cond.code y cc maxL ret :: hU
theorem gwU {y : MethodName} {cc : ByteArray} {n : Nat} {r : Option FieldType} (hc : Cond.code y cc n r ∈ hU) : GoodIn hU (wU y cc n r) := fun w hw => (List.mem_cons.mp hw).elim (fun e => e ▸ ⟨hc, hU_good hc⟩) (fun h => ⟨h, hU_good h⟩)
theorem gwV {own C : String} {i : Nat} {y : MethodName} {cc : ByteArray} {n : Nat} {r : Option FieldType} (h1 : Cond.methodLink own i y ∈ hU) (h2 : Cond.instanceMethod y ∈ hU) (h3 : Cond.selects C y y ∈ hU) (h4 : Cond.initialized C ∈ hU) (hc : Cond.code y cc n r ∈ hU) : GoodIn hU (wsV own i C y (wU y cc n r)) := by
  intro w hw
  rcases List.mem_append.mp hw with h | h
  · simp only [List.mem_cons, List.not_mem_nil, or_false] at h
    rcases h with rfl | rfl | rfl | rfl
    · exact ⟨h1, hU_good h1⟩
    · exact ⟨h2, hU_good h2⟩
    · exact ⟨h3, hU_good h3⟩
    · exact ⟨h4, hU_good h4⟩
  · exact gwU hc w h
theorem gwS {own : String} {i : Nat} {y : MethodName} {cc : ByteArray} {n : Nat} {r : Option FieldType} (h1 : Cond.methodLink own i y ∈ hU) (h2 : Cond.static y ∈ hU) (h4 : Cond.initialized own ∈ hU) (hc : Cond.code y cc n r ∈ hU) : GoodIn hU (wsS own i y (wU y cc n r)) := by
  intro w hw
  rcases List.mem_append.mp hw with h | h
  · simp only [List.mem_cons, List.not_mem_nil, or_false] at h
    rcases h with rfl | rfl | rfl
    · exact ⟨h1, hU_good h1⟩
    · exact ⟨h2, hU_good h2⟩
    · exact ⟨h4, hU_good h4⟩
  · exact gwU hc w h
theorem mkS {R : Room} {s : State} {args : Array Value} {own C : String} {i n : Nat} {y : MethodName} {bytes : ByteArray} {maxL : Nat} {ret : Option FieldType} {rm : Room} (hts : ∀ w ∈ hU, w.before args s = true) (h1 : Cond.methodLink own i y ∈ hU) (h2 : Cond.static y ∈ hU) (h4 : Cond.initialized y.cls ∈ hU) (hc : Cond.code y bytes maxL ret ∈ hU) (hrc : rm.cells = 0) (hrs : rm.slots = 0)
    (hd : y.cls = C ∧ y.cls ≠ "java/lang/invoke/MethodHandle" ∧ y.cls ≠ "java/lang/invoke/VarHandle" ∧ (parseMethodDescriptor y.desc).map (fun d => d.parameters.length) = some n) (hR : rm.frames + 1 ≤ R.frames ∧ 8 + (maxL + 11) + rm.locals ≤ R.locals) : CallB R s args own i y bytes maxL ret (wU y bytes maxL ret) rm 0 0 n ∧ (Cond.static y).before args s = true :=
  ⟨callB_of n hts (gwU hc) rfl hrc hrs (hts _ h4) (hts _ h1) hd.2 hR, hts _ h2⟩
theorem mkVN {R : Room} {s : State} {args : Array Value} {own C host : String} {i n : Nat} {y : MethodName} {bytes : ByteArray} {maxL : Nat} {ret : Option FieldType} {rm : Room} (hts : ∀ w ∈ hU, w.before args s = true) (h1 : va_Nw (.methodLinkNest own i y host) s) (h2 : Cond.instanceMethod y ∈ hU) (h3 : Cond.selects C y y ∈ hU) (h4 : Cond.initialized y.cls ∈ hU) (hc : Cond.code y bytes maxL ret ∈ hU) (hrc : rm.cells = 0) (hrs : rm.slots = 0)
    (hd : y.cls = C ∧ y.cls ≠ "java/lang/invoke/MethodHandle" ∧ y.cls ≠ "java/lang/invoke/VarHandle" ∧ (parseMethodDescriptor y.desc).map (fun d => d.parameters.length) = some n) (hR : rm.frames + 1 ≤ R.frames ∧ 8 + (maxL + 11) + rm.locals ≤ R.locals) : va_CN R s args own i y host bytes maxL ret (wU y bytes maxL ret) rm 0 0 n ∧ (Cond.instanceMethod y).before args s = true ∧ (Cond.selects C y y).before args s = true :=
  ⟨va_cnB n hts (gwU hc) rfl hrc hrs h1 (hts _ h4) hd.2 hR, hts _ h2, hts _ h3⟩
theorem nF_use {G : hG} {A : Nat → Prop} {s : State} {H : Heap} {args : Array Value} {own ref n d : String} {i : Nat} (k : Nat) (hE : sE G A s H) (hk : nestF[k]? = some (own, i, ref, n, d)) : (Cond.fieldLinkNest own i ref n d "LiarHall").before args s = true := va_Nw.use rfl (hE.2.2.2.2.1 _ (List.mem_of_getElem? hk))
/-- a contract: from the world w the method answers rv, the world is w' -/
def CT (l : Launch) (y : MethodName) (cc : ByteArray) (maxL : Nat) (ret : Option FieldType) (rm : Room) (D : va_G) (G : hG) (mc ms : Nat) (av : List Value) (w w' : va_W) (rv : Option Value) : Prop :=
  ∀ sz : Nat, Met l y (wU y cc maxL ret) rm (Pg av D G w sz) (Qg rv D (tysG G) w' (va_A w sz)) mc ms (va_A w sz)
def Cx (p : Program) (s : State) (m : MethodId) (args : Array Value) (meth : Method) (c : Code) (cc : ByteArray) (ret : Option FieldType) (own : String) (nL : Nat) (D : va_G) (G : hG) (A : Nat → Prop) : Prop :=
  p.tables.exec = Jvm.exec ∧ c.code = cc ∧ meth.sig.returnType = ret ∧ c.maxLocals = nL ∧ s.vm.findClass own = some m.cls ∧ (∀ w ∈ hU, w.before args s = true) ∧ meth.locks = false ∧ va_K D vwCl (tysG G) s ∧ sE G A s s.heap
/-- Met.ofW for a class some of whose other methods are rows of the machine's own (java.lang.Math) -/
theorem q_ofF {l : Launch} {y : MethodName} {ws ws' : List Cond} {rm : Room} {Pc : Array Value → State → Prop} {Qc : Array Value → State → Outcome → State → Prop} {mc ms : Nat} {free : Addr → Prop} {cc : ByteArray} {maxL : Nat} {ret : Option FieldType}
    (hy : plainFor y = true) (hw : ws = Cond.code y cc maxL ret :: ws')
    (body : ∀ p e s m args below meth c s₁, BodyLoose p l y (headSpec ws rm) cc maxL ret e s m args below meth c s₁ → c.maxLocals = maxL → Pc args s →
      W p l e (headSpec ws rm).room s m args below meth c s.heap [] 0 0 (MQ below Qc args s mc ms free) (entryFrame m args maxL)) : Met l y ws rm Pc Qc mc ms free := by
  refine MetFree.of_bodySF (code := cc) (maxLocals := maxL) (ret := ret) hy ?_ ?_
  · intro args s m h hn
    obtain ⟨meth, c, h1, h2, h3, h4, h5, h6, -, -⟩ := Cond.code_spec hn (atoms_spec (ws := ws) h _ (by rw [hw]; exact List.mem_cons_self))
    exact ⟨meth, c, h1, h2, h3, h4, h5, h6⟩
  · intro p e s m args below meth c s₁ B hml hP _
    have hh0 : s₁.heap = s.heap := by rw [B.state]; rfl
    obtain ⟨t, a1, o, b1, b2, b3⟩ := body p e s m args below meth c s₁ B hml hP s₁ hh0 (Stand.of_body B)
    exact ⟨t, o, a1, b1, b2, ⟨b3.1, b3.2⟩⟩
def q_fd : List String := ["(D)D", "(DD)D", "(DDD)D", "(F)F", "(FF)F", "(FFF)F"]
theorem q_rows : (Jvm.natives.all fun r => r.cls != "java/lang/Math" || q_fd.contains r.desc) = true := by decide +kernel
theorem q_math {x : MethodName} (hc : x.cls = "java/lang/Math") (hd : q_fd.contains x.desc = false) : plainFor x = true := by
  unfold plainFor
  rw [Bool.or_eq_true]; right
  rw [Option.isNone_iff_eq_none, NativeRow.find?, List.find?_eq_none]
  intro r hr h
  have := List.all_eq_true.mp q_rows r hr
  simp only [Bool.and_eq_true, beq_iff_eq] at h
  rw [h.1.2, h.2, hc, hd] at this
  simp at this
theorem Pg.blind {av : List Value} {D : va_G} {G : hG} {w : va_W} {sz : Nat} : FrameBlind (Pg av D G w sz) := fun a U g mk q => by
  obtain ⟨q0, q1, qP, qK, qD, qE⟩ := q
  exact ⟨q0, q1, qP, va_K.moved (u := U) (U := U.calling g mk a) (Vm.Alike.refl U.vm) qK, qD, sE.same (u := U) (U := U.calling g mk a) rfl qE⟩
theorem CT.mk {l : Launch} {y : MethodName} {rm : Room} {D : va_G} {G : hG} {mc ms : Nat} {av : List Value} {w w' : va_W} {rv : Option Value} {cc : ByteArray} {maxL : Nat} {ret : Option FieldType} {own : String}
    (hy : plainFor y = true) (hown : y.cls = own) (hlen : (lg_sl av).length ≤ maxL)
    (body : ∀ (p : Program) (e : Env) (s : State) (m : MethodId) (args : Array Value) (below : List Frame) (meth : Method) (c : Code) (A : Nat → Prop) (ls : Array Slot), Cx p s m args meth c cc ret own maxL D G A → (meth.name = y.name) → (∀ q : Nat, s.heap.size ≤ q → A q) → va_P D vwCl w s.heap → va_D A w → lv_has ls maxL (lv_args 0 av) →
      W p l e rm s m args below meth c s.heap [] 0 0 (MQ below (Qg rv D (tysG G) w' A) args s mc ms A) (F0 m 0 ls [])) : CT l y cc maxL ret rm D G mc ms av w w' rv := by
  intro sz
  refine q_ofF (cc := cc) (maxL := maxL) (ret := ret) hy rfl ?_
  intro p e s m args below meth c s₁ B hml hv
  obtain ⟨rfl, hsz, hP, hK, hD0, hE⟩ := hv
  subst hsz
  have hl := lv_entry av (n := maxL) hlen
  rw [lg_entry_eq]
  exact body p e s m _ below meth c _ _ ⟨B.exec, B.bytes, B.returns, hml, by rw [← hown]; exact findClass_of_methodNamed B.named, fun w hw => atoms_spec (ws := wU y cc maxL ret) B.pre w (List.mem_cons_of_mem _ hw), B.notSynchronized, hK, hE⟩ (name_of_methodNamed B.named B.method).1 (fun q h => Or.inr h) hP hD0.self hl
section CLG
variable {p : Program} {l : Launch} {e : Env} {R : Room} {s : State} {m : MethodId} {args : Array Value} {below : List Frame} {meth : Method} {c : Code} {H : Heap} {locs : List Loc} {cells slots : Nat} {Q : State → Prop}
variable {pc : Nat} {ls : Array Slot} {rest st0 stk : List Value} {a : Array Value} {A0 A1 : Nat → Prop} {H0 : Heap} {mc ms : Nat} {free : Addr → Prop} {D : va_G} {tys : List (ClassId × FieldType)} {G : hG} {w w' : va_W} {rv : Option Value}
theorem cl_go (hr : va_Run p l e R s m args below meth c H locs cells slots mc ms (F0 m pc ls st0) rest (Qg rv D tys w' A1 a) free) (hS : va_S A0 H0 H locs) (hA : ∀ q, q < H.size → A1 q → A0 q) (hf : ∀ q, free q → A0 q) (hstk : rv.toList ++ rest = stk)
    (kk : ∀ (H1 : Heap) (locs1 : List Loc), va_P D vwCl w' H1 → va_D A1 w' → va_S A0 H0 H1 locs1 → (∀ q : Nat, q < H.size → ¬ A1 q → H1[q]? = H[q]?) → W p l e R s m args below meth c H1 locs1 (cells + mc) (slots + ms) Q (F0 m (pc + 3) ls stk)) : W p l e R s m args below meth c H locs cells slots Q (F0 m pc ls st0) := by
  intro T hT X
  obtain ⟨v, st₀, t, T', L, h0, X', hL, e1, e2, ⟨⟨hv, hp, -, hd⟩, hz, hk⟩, st⟩ := hr T hT X
  cases hv
  subst hstk
  rw [h0] at hz hk
  obtain ⟨t2, a1, b1⟩ := kk T'.heap (locs ++ L) (by rw [e1]; exact hp) hd
    ⟨Nat.le_trans hS.1 (by rw [e1]; exact hz), fun q h1 h2 => by rw [e1, hk q (Nat.lt_of_lt_of_le h1 hS.1) (fun z => h2 (hA q (Nat.lt_of_lt_of_le h1 hS.1) z))]; exact hS.2.1 q h1 h2, fun q hq => by
      rcases List.mem_append.mp hq with h | h
      · exact hS.2.2 q h
      · exact hf _ (hL q h)⟩ (fun q h1 h2 => by rw [e1]; exact hk q h1 h2) T' rfl X'
  exact ⟨t2, st t2 a1, b1⟩
theorem cl_in (hD : va_D A0 w) (hS : va_S A0 H0 H locs) (hA : ∀ q : Nat, H0.size ≤ q → A0 q) : ∀ q, va_A w H.size q → A0 q := fun q h => h.elim (fun ⟨k, e, hk⟩ => hD.2 k (q, e) hk) (fun h => hA q (Nat.le_trans hS.1 h))
variable {y : MethodName} {bytes cc : ByteArray} {maxL nL n index : Nat} {ret : Option FieldType} {rm : Room} {own C : String} {b : Addr} {As : List Value} {ci q0 : Nat} {fs : List Value} {qc : vw_C}
theorem cl_V (S5 : CallFix p m c cc nL s args hU own) (hK : va_K D vwCl (tysG G) s) (hE : sE G A0 s s.heap) (hA : ∀ q : Nat, s.heap.size ≤ q → A0 q) (hP : va_P D vwCl w H) (hD : va_D A0 w) (hS : va_S A0 s.heap H locs) (hM : CT l y bytes maxL ret rm D G 0 0 (.ref b :: As) w w' rv)
    (cw : CallW R s args own C index y bytes maxL ret (wU y bytes maxL ret) rm 0 0 n) (he : w[q0]? = some (b, .inr (ci, fs))) (hc : vwCl[ci]? = some qc) (hC : qc.1 = C) (hn : As.length = n) (hsize : ls.size = nL) (hst : st0 = As.reverse ++ .ref b :: rest) (hW : (rest.map fun v => v.category).sum ≤ 8) (hdg : decode cc pc = .ok (.invokevirtual index, 3)) (hf : cells ≤ R.cells ∧ slots ≤ R.slots) (hstk : rv.toList ++ rest = stk)
    (kk : ∀ (H1 : Heap) (locs1 : List Loc), va_P D vwCl w' H1 → va_D A0 w' → va_S A0 s.heap H1 locs1 → W p l e R s m args below meth c H1 locs1 cells slots Q (F0 m (pc + 3) ls stk)) : W p l e R s m args below meth c H locs cells slots Q (F0 m pc ls st0) := by
  have hin := cl_in hD hS hA
  refine cl_go (va_runV (As := As) (rest := rest) S5 (hM H.size) cw ⟨Pg.blind, ?_, fun U hU hW => ⟨rfl, by rw [hU], by rw [hU]; exact hP, va_K.moved hW.alike hK, hD.weaken (fun _ _ _ _ => trivial), by rw [hU]; exact sE.warm hW ((hE.kept hS.2.1).narrow hin)⟩⟩ rfl hn hsize hst (lv_room hW) hdg hf) hS (fun q _ h => hin q h) hin hstk (fun H1 locs1 hP1 hD1 hS1 _ => kk H1 locs1 hP1 (hD1.weaken (fun _ q _ h => hin q.1 h)) hS1)
  obtain ⟨cell, c1, c2, c3⟩ := va_recv hK hP hc he
  exact ⟨cell, c1, c2, by rw [← hC]; exact c3⟩
theorem cl_VN {host : String} (S5 : CallFix p m c cc nL s args hU own) (hK : va_K D vwCl (tysG G) s) (hE : sE G A0 s s.heap) (hA : ∀ q : Nat, s.heap.size ≤ q → A0 q) (hP : va_P D vwCl w H) (hD : va_D A0 w) (hS : va_S A0 s.heap H locs) (hM : CT l y bytes maxL ret rm D G 0 0 (.ref b :: As) w w' rv)
    (cw : va_CN R s args own index y host bytes maxL ret (wU y bytes maxL ret) rm 0 0 n ∧ (Cond.instanceMethod y).before args s = true ∧ (Cond.selects C y y).before args s = true) (he : w[q0]? = some (b, .inr (ci, fs))) (hc : vwCl[ci]? = some qc) (hC : qc.1 = C) (hn : As.length = n) (hsize : ls.size = nL) (hst : st0 = As.reverse ++ .ref b :: rest) (hW : (rest.map fun v => v.category).sum ≤ 8) (hdg : decode cc pc = .ok (.invokevirtual index, 3)) (hf : cells ≤ R.cells ∧ slots ≤ R.slots) (hstk : rv.toList ++ rest = stk)
    (kk : ∀ (H1 : Heap) (locs1 : List Loc), va_P D vwCl w' H1 → va_D A0 w' → va_S A0 s.heap H1 locs1 → W p l e R s m args below meth c H1 locs1 cells slots Q (F0 m (pc + 3) ls stk)) : W p l e R s m args below meth c H locs cells slots Q (F0 m pc ls st0) := by
  have hin := cl_in hD hS hA
  refine cl_go (va_runVN (As := As) (rest := rest) S5 (hM H.size) cw ⟨Pg.blind, ?_, fun U hU hW => ⟨rfl, by rw [hU], by rw [hU]; exact hP, va_K.moved hW.alike hK, hD.weaken (fun _ _ _ _ => trivial), by rw [hU]; exact sE.warm hW ((hE.kept hS.2.1).narrow hin)⟩⟩ rfl hn hsize hst (lv_room hW) hdg hf) hS (fun q _ h => hin q h) hin hstk (fun H1 locs1 hP1 hD1 hS1 _ => kk H1 locs1 hP1 (hD1.weaken (fun _ q _ h => hin q.1 h)) hS1)
  obtain ⟨cell, c1, c2, c3⟩ := va_recv hK hP hc he
  exact ⟨cell, c1, c2, by rw [← hC]; exact c3⟩
theorem cl_S (S5 : CallFix p m c cc nL s args hU own) (hK : va_K D vwCl (tysG G) s) (hE : sE G A0 s s.heap) (hA : ∀ q : Nat, s.heap.size ≤ q → A0 q) (hP : va_P D vwCl w H) (hD : va_D A0 w) (hS : va_S A0 s.heap H locs) (hM : CT l y bytes maxL ret rm D G 0 0 As w w' rv)
    (cw : CallB R s args own index y bytes maxL ret (wU y bytes maxL ret) rm 0 0 n ∧ (Cond.static y).before args s = true) (hn : As.length = n) (hsize : ls.size = nL) (hst : st0 = As.reverse ++ rest) (hW : (rest.map fun v => v.category).sum ≤ 8) (hdg : decode cc pc = .ok (.invokestatic index, 3)) (hf : cells ≤ R.cells ∧ slots ≤ R.slots) (hstk : rv.toList ++ rest = stk)
    (kk : ∀ (H1 : Heap) (locs1 : List Loc), va_P D vwCl w' H1 → va_D A0 w' → va_S A0 s.heap H1 locs1 → W p l e R s m args below meth c H1 locs1 cells slots Q (F0 m (pc + 3) ls stk)) : W p l e R s m args below meth c H locs cells slots Q (F0 m pc ls st0) := by
  have hin := cl_in hD hS hA
  exact cl_go (va_runS (As := As) (rest := rest) S5 (hM H.size) cw ⟨Pg.blind, fun U hU hW => ⟨rfl, by rw [hU], by rw [hU]; exact hP, va_K.moved hW.alike hK, hD.weaken (fun _ _ _ _ => trivial), by rw [hU]; exact sE.warm hW ((hE.kept hS.2.1).narrow hin)⟩⟩ rfl hn hsize hst (lv_room hW) hdg hf) hS (fun q _ h => hin q h) hin hstk (fun H1 locs1 hP1 hD1 hS1 _ => kk H1 locs1 hP1 (hD1.weaken (fun _ q _ h => hin q.1 h)) hS1)
theorem q_end (hK : va_K D vwCl tys s) (hP : va_P D vwCl w' H) (hD : va_D A0 w') (hS : va_S A0 s.heap H locs) : ∀ t : State, t.heap = H → s.WarmedH t.vm → Qg rv D tys w' A0 args s (.returned rv) t := fun t ht hW => ⟨⟨rfl, by rw [ht]; exact hP, va_K.moved hW.alike hK, hD⟩, hS.F ht⟩
end CLG
theorem i32ne {x k : Int32} {z : Int} (hk : k.toInt = z) (h : ¬ x = k) : x.toInt ≠ z := fun e => h (Int32.toInt_inj.mp (e.trans hk.symm))
theorem bn {r : Int32} (h : r = 0 ∨ r = 1) : narrow .boolean (.int r) = .int r := by rcases h with rfl | rfl <;> rfl
theorem va_aldg {p : Program} {l : Launch} {e : Env} {R : Room} {s : State} {m : MethodId} {args : Array Value} {below : List Frame} {meth : Method} {c : Code} {H : Heap} {locs : List Loc} {cells slots : Nat} {Q : State → Prop} {cc : ByteArray} {pc : Nat} {ls : Array Slot} {rest : List Value} {D : va_G} {cl : List vw_C} {a : Nat} {tys : List (ClassId × FieldType)} {ws : va_W} (hexec : p.tables.exec = Jvm.exec) (hb : c.code = cc) (hK : va_K D cl tys s) (hP : va_P D cl ws H) (q0 t0 : Nat) {cA : ClassId} {ty : FieldType} {n : Nat} {f : Nat → Option Nat} (ha : ws[q0]? = some (a, .inl (cA, n, .inr (.inr (.inr (.inr f)))))) (ht : tys[t0]? = some (cA, ty)) (hty : ty.isReference = true) {i : Int32} (hin : vp_in i n) (hdg : decode cc pc = .ok (.aaload, 1))
    {v : Value} (hv : va_rf (f i.toNatClampNeg) = v) (kk : W p l e R s m args below meth c H locs cells slots Q (F0 m (pc + 1) ls (v :: rest))) : W p l e R s m args below meth c H locs cells slots Q (F0 m pc ls (.int i :: .ref a :: rest)) := by
  have hlt : i.toNatClampNeg < n := Nat.not_le.mp fun q => hin (Or.inr q)
  subst hv
  exact W.aald (v := va_rf (f i.toNatClampNeg)) (ty := ty) hexec hb (hP q0 _ ha) ((hK.2 t0 _ ht).1 n (fun j => va_rf (f j))) hty (fun q => by cases q) (by show ¬ (i < 0 ∨ (arrV _ _ _).slots.size ≤ _); rw [arrV_size]; exact hin) (by show (arrV _ _ _).slots[_]? = _; rw [arrV_read _ _ hlt]) rfl rfl hdg kk
theorem vin_lt {i : Int32} {n : Nat} (h : ¬ (i < 0 ∨ n ≤ i.toNatClampNeg)) : i.toNatClampNeg < n := Nat.not_le.mp fun q => h (Or.inr q)
theorem va_ialdE {p : Program} {l : Launch} {e : Env} {R : Room} {s : State} {m : MethodId} {args : Array Value} {below : List Frame} {meth : Method} {c : Code} {H : Heap} {locs : List Loc} {cells slots : Nat} {Q : State → Prop} {cc : ByteArray} {pc : Nat} {ls : Array Slot} {rest : List Value} {D : va_G} {cl : List vw_C} {a : Nat} {tys : List (ClassId × FieldType)} {ws : va_W} (hexec : p.tables.exec = Jvm.exec) (hb : c.code = cc) (hK : va_K D cl tys s) (hP : va_P D cl ws H) (q0 t0 : Nat) {cA : ClassId} {n : Nat} {f : Nat → Int32} (ha : ws[q0]? = some (a, .inl (cA, n, .inl f))) (ht : tys[t0]? = some (cA, .int)) {i : Int32} (hin : vp_in i n) (hdg : decode cc pc = .ok (.iaload, 1)) {v : Int32} (hv : f i.toNatClampNeg = v)
    (kk : W p l e R s m args below meth c H locs cells slots Q (F0 m (pc + 1) ls (.int v :: rest))) : W p l e R s m args below meth c H locs cells slots Q (F0 m pc ls (.int i :: .ref a :: rest)) := by
  subst hv
  exact va_iald hexec hb hK hP q0 t0 ha ht hin hdg kk
theorem va_baldE {p : Program} {l : Launch} {e : Env} {R : Room} {s : State} {m : MethodId} {args : Array Value} {below : List Frame} {meth : Method} {c : Code} {H : Heap} {locs : List Loc} {cells slots : Nat} {Q : State → Prop} {cc : ByteArray} {pc : Nat} {ls : Array Slot} {rest : List Value} {D : va_G} {cl : List vw_C} {a : Nat} {tys : List (ClassId × FieldType)} {ws : va_W} (hexec : p.tables.exec = Jvm.exec) (hb : c.code = cc) (hK : va_K D cl tys s) (hP : va_P D cl ws H) (q0 t0 : Nat) {cA : ClassId} {n : Nat} {f : Nat → Int32} (ha : ws[q0]? = some (a, .inl (cA, n, .inl f))) (ht : tys[t0]? = some (cA, .byte)) {i : Int32} (hin : vp_in i n) (hdg : decode cc pc = .ok (.baload, 1)) {v : Int32} (hv : f i.toNatClampNeg = v)
    (kk : W p l e R s m args below meth c H locs cells slots Q (F0 m (pc + 1) ls (.int v :: rest))) : W p l e R s m args below meth c H locs cells slots Q (F0 m pc ls (.int i :: .ref a :: rest)) := by
  subst hv
  exact va_bald hexec hb hK hP q0 t0 ha ht hin hdg kk
theorem va_laldE {p : Program} {l : Launch} {e : Env} {R : Room} {s : State} {m : MethodId} {args : Array Value} {below : List Frame} {meth : Method} {c : Code} {H : Heap} {locs : List Loc} {cells slots : Nat} {Q : State → Prop} {cc : ByteArray} {pc : Nat} {ls : Array Slot} {rest : List Value} {D : va_G} {cl : List vw_C} {a : Nat} {tys : List (ClassId × FieldType)} {ws : va_W} (hexec : p.tables.exec = Jvm.exec) (hb : c.code = cc) (hK : va_K D cl tys s) (hP : va_P D cl ws H) (q0 t0 : Nat) {cA : ClassId} {n : Nat} {f : Nat → Int64} (ha : ws[q0]? = some (a, .inl (cA, n, .inr (.inl f)))) (ht : tys[t0]? = some (cA, .long)) {i : Int32} (hin : vp_in i n) (hdg : decode cc pc = .ok (.laload, 1)) {v : Int64} (hv : f i.toNatClampNeg = v)
    (kk : W p l e R s m args below meth c H locs cells slots Q (F0 m (pc + 1) ls (.long v :: rest))) : W p l e R s m args below meth c H locs cells slots Q (F0 m pc ls (.int i :: .ref a :: rest)) := by
  subst hv
  exact va_lald hexec hb hK hP q0 t0 ha ht hin hdg kk
theorem strL_use {G : hG} {A : Nat → Prop} {s : State} {H : Heap} {own tx : String} {i j : Nat} (k : Nat) (hE : sE G A s H) (hk : strL[k]? = some (own, i, tx, j)) : vk_R own i tx (G.2.2 j) s := hE.2.2.2.2.2.2.1 _ (List.mem_of_getElem? hk)
theorem cl_Vs {p : Program} {l : Launch} {e : Env} {R : Room} {s : State} {m : MethodId} {args : Array Value} {below : List Frame} {meth : Method} {c : Code} {H : Heap} {locs : List Loc} {cells slots : Nat} {Q : State → Prop} {pc : Nat} {ls : Array Slot} {rest st0 stk : List Value} {A0 : Nat → Prop} {D : va_G} {G : hG} {w w' : va_W} {rv : Option Value} {y : MethodName} {bytes cc : ByteArray} {maxL nL n index : Nat} {ret : Option FieldType} {rm : Room} {own C : String} {As : List Value} {k : Nat}
    (S5 : CallFix p m c cc nL s args hU own) (hK : va_K D vwCl (tysG G) s) (hE : sE G A0 s s.heap) (hA : ∀ q : Nat, s.heap.size ≤ q → A0 q) (hP : va_P D vwCl w H) (hD : va_D A0 w) (hS : va_S A0 s.heap H locs) (hM : CT l y bytes maxL ret rm D G 0 0 (.ref (G.2.2 k) :: As) w w' rv)
    (cw : CallW R s args own C index y bytes maxL ret (wU y bytes maxL ret) rm 0 0 n) (hk : k < 5) (hC : "java/lang/String" = C) (hn : As.length = n) (hsize : ls.size = nL) (hst : st0 = As.reverse ++ .ref (G.2.2 k) :: rest) (hW : (rest.map fun v => v.category).sum ≤ 8) (hdg : decode cc pc = .ok (.invokevirtual index, 3)) (hf : cells ≤ R.cells ∧ slots ≤ R.slots) (hstk : rv.toList ++ rest = stk)
    (kk : ∀ (H1 : Heap) (locs1 : List Loc), va_P D vwCl w' H1 → va_D A0 w' → va_S A0 s.heap H1 locs1 → W p l e R s m args below meth c H1 locs1 cells slots Q (F0 m (pc + 3) ls stk)) : W p l e R s m args below meth c H locs cells slots Q (F0 m pc ls st0) := by
  have hin := cl_in hD hS hA
  refine cl_go (va_runV (As := As) (rest := rest) S5 (hM H.size) cw ⟨Pg.blind, ?_, fun U hU hW => ⟨rfl, by rw [hU], by rw [hU]; exact hP, va_K.moved hW.alike hK, hD.weaken (fun _ _ _ _ => trivial), by rw [hU]; exact sE.warm hW ((hE.kept hS.2.1).narrow hin)⟩⟩ rfl hn hsize hst (lv_room hW) hdg hf) hS (fun q _ h => hin q h) hin hstk (fun H1 locs1 hP1 hD1 hS1 _ => kk H1 locs1 hP1 (hD1.weaken (fun _ q _ h => hin q.1 h)) hS1)
  rw [← hC]
  exact vk_recv hE.1 hk hS
theorem vrf_or (x : Option Nat) : va_rf x = .null ∨ ∃ a, va_rf x = .ref a := by cases x <;> simp [va_rf]
theorem va_ldcSW {p : Program} {l : Launch} {e : Env} {R : Room} {s : State} {m : MethodId} {args : Array Value} {below : List Frame} {meth : Method} {c : Code} {H : Heap} {locs : List Loc} {cells slots : Nat} {Q : State → Prop} {cc : ByteArray} {pc : Nat} {ls : Array Slot} {rest : List Value} (hexec : p.tables.exec = Jvm.exec) (hb : c.code = cc) {own tx : String} {index q : Nat} (hown : s.vm.findClass own = some m.cls) (hZ : vk_R own index tx q s) (hdg : decode cc pc = .ok (.ldc_w index, 3))
    (k : W p l e R s m args below meth c H locs cells slots Q (F0 m (pc + 3) ls (.ref q :: rest))) : W p l e R s m args below meth c H locs cells slots Q (F0 m pc ls rest) := by
  intro T hT X
  obtain ⟨t, a1, b1⟩ := k T hT X
  exact ⟨t, X.ldcStringW hexec hown (text := tx) (a := q) hZ.1 hZ.2 (g := F0 m pc ls rest) rfl (by rw [hb]; exact hdg) t a1, b1⟩
