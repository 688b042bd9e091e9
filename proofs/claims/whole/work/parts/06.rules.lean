abbrev Kp : Type := Nat × Nat × (Nat → Nat) × (Nat → Nat)
abbrev Cx : Type := Launch × Nat × va_G × (Nat → ClassId) × Kp
def duL : List Int32 := [9, 6, 3, 0]
def nuL : List Int32 := [1, 2, 3, 2, 2, 3]
def slen : List Nat := [5, 4, 5, 5, 5, 3]
def sbyt : List (List Int32) := [[119, 97, 116, 101, 114], [100, 97, 114, 107], [99, 97, 110, 97, 108], [114, 111, 119, 101, 114], [103, 117, 101, 115, 116], [114, 111, 119]]
def sIdx : List Nat := [116, 122, 124, 126, 128, 130]
def sTxt : List String := ["water", "dark", "canal", "rower", "guest", "row"]
/-- the links to nest mates' private members -/
def Ns (U : State) : Prop := ∀ q ∈ nestL, va_Nw (.methodLinkNest q.1 q.2.1 q.2.2 "GondolaTold") U
/-- what lies outside the world and is read: two static arrays, a static flag, six texts -/
def Ks (b : Nat) (κ : Kp) (U : State) : Prop :=
  va_Z "GondolaTold$Lamps" "DARK_UNDER" "[I" (.ref κ.1) (fun q => b ≤ q) U U.heap ∧ va_T .int κ.1 4 (fun j => .int (duL.getD j 0)) (fun q => b ≤ q) U U.heap ∧
  va_Z "GondolaTold$Reader" "NUMBERS" "[I" (.ref κ.2.1) (fun q => b ≤ q) U U.heap ∧ va_T .int κ.2.1 6 (fun j => .int (nuL.getD j 0)) (fun q => b ≤ q) U U.heap ∧
  va_Z "java/lang/String" "COMPACT_STRINGS" "Z" (.int 1) (fun q => b ≤ q) U U.heap ∧
  vk_S 6 slen sbyt κ.2.2.1 κ.2.2.2 (fun q => b ≤ q) U U.heap ∧ (∀ i, i < 6 → vk_R "GondolaTold$Reader" (sIdx.getD i 0) (sTxt.getD i "") (κ.2.2.1 i) U) ∧ Ns U ∧ va_Zq "jdk/internal/util/Preconditions" "SIOOBE_FORMATTER" "Ljava/util/function/BiFunction;" (fun q => b ≤ q) U U.heap
theorem Ks.go {b : Nat} {κ : Kp} {s U : State} {H : Heap} {locs : List Loc} (h : Ks b κ s) (hS : va_S (fun q => b ≤ q) s.heap H locs) (hU : U.heap = H) (hW : s.WarmedH U.vm) : Ks b κ U := by
  obtain ⟨h1, h2, h3, h4, h5, h6, h7, h8, h9⟩ := h
  subst hU
  exact ⟨(va_Z.moved hW.alike h1).kept hS.2.1, (va_T.moved hW.alike h2).kept hS.2.1, (va_Z.moved hW.alike h3).kept hS.2.1, (va_T.moved hW.alike h4).kept hS.2.1, (va_Z.moved hW.alike h5).kept hS.2.1, (vk_S.moved hW.alike h6).kept hS.2.1, fun i hi => vk_R.warm hW (h7 i hi), fun q hq => va_Nw.warmM hW (h8 q hq), (va_Zq.moved hW.alike h9).kept hS.2.1⟩
theorem Ks.calling {b : Nat} {κ : Kp} {U : State} (h : Ks b κ U) (g : JFrame) (mk : MethodId) (a : Array Value) : Ks b κ (U.calling g mk a) := by
  obtain ⟨h1, h2, h3, h4, h5, h6, h7, h8, h9⟩ := h
  have hA : U.vm.Alike (U.calling g mk a).vm := Vm.Alike.refl U.vm
  exact ⟨va_Z.moved hA h1, va_T.moved hA h2, va_Z.moved hA h3, va_T.moved hA h4, va_Z.moved hA h5, vk_S.moved hA h6, fun i hi => vk_R.same rfl (h7 i hi), fun q hq => va_Nw.same rfl rfl (h8 q hq), va_Zq.moved hA h9⟩
/-- a method's world -/
def Ent (X : Cx) (σ : St) (U : State) : Prop := va_P X.2.2.1 vwCl (wsOf X.2.1 X.2.2.2.1 σ) U.heap ∧ va_K X.2.2.1 vwCl (tysOf X.2.2.2.1) U ∧ Ks X.2.1 X.2.2.2.2 U
def rvN (rt : Option FieldType) (rv : Option Value) : Prop := ∀ (ty : FieldType) (v : Int32), rt = some ty → rv = some (.int v) → narrow ty (.int v) = .int v
theorem rvN_int (v : Int32) : rvN (some .int) (some (.int v)) := fun ty w h1 h2 => by cases h1; cases h2; rfl
theorem rvN_long (v : Int64) : rvN (some .long) (some (.long v)) := fun ty w h1 h2 => by cases h2
theorem rvN_none (rv : Option Value) : rvN none rv := fun ty w h1 h2 => by cases h1
theorem rvN_b0 : rvN (some .boolean) (some (.int 0)) := fun ty w h1 h2 => by cases h1; cases h2; decide
theorem rvN_b1 : rvN (some .boolean) (some (.int 1)) := fun ty w h1 h2 => by cases h1; cases h2; decide
theorem rvN_ite {rt : Option FieldType} {cc : Prop} [Decidable cc] {a b : Int32} (ha : rvN rt (some (.int a))) (hb : rvN rt (some (.int b))) : rvN rt (some (.int (if cc then a else b))) := by
  by_cases h : cc
  · rw [if_pos h]; exact ha
  · rw [if_neg h]; exact hb
def rmd (d : Nat) : Room := { frames := d, cells := 0, slots := 0, locals := 64 * d }
def QcO (X : Cx) (rt : Option FieldType) (rv : Option Value) (σ' : St) : Array Value → State → Outcome → State → Prop := fun _ st oc t => (oc = .returned rv ∧ rvN rt rv ∧ Ent X σ' t) ∧ va_F (fun q => X.2.1 ≤ q) st t
/-- a method's contract at these arguments and this store: it returns rv, the store behind it is σ' -/
def Ctr (X : Cx) (y : MethodName) (cw : ByteArray) (nL : Nat) (rt : Option FieldType) (d : Nat) (av : List Value) (σ : St) (rv : Option Value) (σ' : St) : Prop :=
  Met X.1 y (.code y cw nL rt :: gT) (rmd d) (va_Pc av (Ent X σ)) (QcO X rt rv σ') 0 0 (fun q => X.2.1 ≤ q)
abbrev GT (ρ : Type) : Type := Option ρ → St → Nat → List (Nat × Value) → List Value → Prop
def IsG (X : Cx) (own : String) (cw : ByteArray) (nL d : Nat) (rt : Option FieldType) {ρ : Type} (out : ρ → Option Value × St) (G : GT ρ) : Prop :=
  ∃ (p : Program) (e : Env) (s : State) (m : MethodId) (args : Array Value) (below : List Frame) (meth : Method) (c : Code),
    p.tables.exec = Jvm.exec ∧ c.code = cw ∧ c.maxLocals = nL ∧ meth.sig.returnType = rt ∧ meth.locks = false ∧ s.vm.findClass own = some m.cls ∧ (∀ w ∈ gT, w.before args s = true) ∧ va_K X.2.2.1 vwCl (tysOf X.2.2.2.1) s ∧ Ks X.2.1 X.2.2.2.2 s ∧
    G = fun E σ pc lv st => ∀ r, E = some r → ∀ (H : Heap) (locs : List Loc) (ls : Array Slot), va_P X.2.2.1 vwCl (wsOf X.2.1 X.2.2.2.1 σ) H → va_S (fun q => X.2.1 ≤ q) s.heap H locs → lv_has ls nL lv →
      W p X.1 e (rmd d) s m args below meth c H locs 0 0 (MQ below (QcO X rt (out r).1 (out r).2) args s 0 0 (fun q => X.2.1 ≤ q)) (F0 m pc ls st)
theorem Ctr.of {X : Cx} {y : MethodName} {cw : ByteArray} {nL d : Nat} {rt : Option FieldType} {av : List Value} {σ : St} {ρ : Type} {out : ρ → Option Value × St} {E : Option ρ} (hy : plainName y.cls = true) (hav : (lg_sl av).length ≤ nL)
    (h : ∀ G : GT ρ, IsG X y.cls cw nL d rt out G → G E σ 0 (lv_args 0 av) []) (r : ρ) (hE : E = some r) : Ctr X y cw nL rt d av σ (out r).1 (out r).2 := by
  refine Met.ofW (cc := cw) (maxL := nL) (ret := rt) hy rfl ?_
  intro p e s m args below meth c s₁ B hml hv
  obtain ⟨rfl, hP, hK, hKs⟩ := hv
  have hts : ∀ w ∈ gT, w.before av.toArray s = true := fun w hw => atoms_spec (ws := .code y cw nL rt :: gT) B.pre w (List.mem_cons_of_mem _ hw)
  have hown : s.vm.findClass y.cls = some m.cls := findClass_of_methodNamed B.named
  have hl := lv_entry av (n := nL) hav
  rw [lg_entry_eq]
  exact h _ ⟨p, e, s, m, av.toArray, below, meth, c, B.exec, B.bytes, hml, B.returns, B.notSynchronized, hown, hts, hK, hKs, rfl⟩ r hE s.heap [] _ hP va_S.rf hl
section GR
variable {X : Cx} {own : String} {cw : ByteArray} {nL d : Nat} {rt : Option FieldType} {ρ : Type} {out : ρ → Option Value × St} {G : GT ρ} {E E1 E2 : Option ρ} {σ σ1 : St} {pc tgt : Nat} {lv lv' : List (Nat × Value)} {st : List Value}
theorem r_iadd {x y : Int32} (hG : IsG X own cw nL d rt out G) (hd : decode cw pc = .ok (.iadd, 1)) (k : G E σ (pc + 1) lv (.int (x + y) :: st)) : G E σ pc lv (.int y :: .int x :: st) := by
  obtain ⟨p, e, s, m, args, below, meth, c, hx, hb, hml, hr, hlk, hown, hts, hK, hKs, rfl⟩ := hG
  intro r hE H locs ls hP hS hl
  exact lv_iadd hx hb hd (k r hE H locs ls hP hS hl)
theorem r_isub {x y : Int32} (hG : IsG X own cw nL d rt out G) (hd : decode cw pc = .ok (.isub, 1)) (k : G E σ (pc + 1) lv (.int (x - y) :: st)) : G E σ pc lv (.int y :: .int x :: st) := by
  obtain ⟨p, e, s, m, args, below, meth, c, hx, hb, hml, hr, hlk, hown, hts, hK, hKs, rfl⟩ := hG
  intro r hE H locs ls hP hS hl
  exact lv_isub hx hb hd (k r hE H locs ls hP hS hl)
theorem r_imul {x y : Int32} (hG : IsG X own cw nL d rt out G) (hd : decode cw pc = .ok (.imul, 1)) (k : G E σ (pc + 1) lv (.int (x * y) :: st)) : G E σ pc lv (.int y :: .int x :: st) := by
  obtain ⟨p, e, s, m, args, below, meth, c, hx, hb, hml, hr, hlk, hown, hts, hK, hKs, rfl⟩ := hG
  intro r hE H locs ls hP hS hl
  exact lv_imul hx hb hd (k r hE H locs ls hP hS hl)
theorem r_iand {x y : Int32} (hG : IsG X own cw nL d rt out G) (hd : decode cw pc = .ok (.iand, 1)) (k : G E σ (pc + 1) lv (.int (x &&& y) :: st)) : G E σ pc lv (.int y :: .int x :: st) := by
  obtain ⟨p, e, s, m, args, below, meth, c, hx, hb, hml, hr, hlk, hown, hts, hK, hKs, rfl⟩ := hG
  intro r hE H locs ls hP hS hl
  exact lv_iand hx hb hd (k r hE H locs ls hP hS hl)
theorem r_ior {x y : Int32} (hG : IsG X own cw nL d rt out G) (hd : decode cw pc = .ok (.ior, 1)) (k : G E σ (pc + 1) lv (.int (x ||| y) :: st)) : G E σ pc lv (.int y :: .int x :: st) := by
  obtain ⟨p, e, s, m, args, below, meth, c, hx, hb, hml, hr, hlk, hown, hts, hK, hKs, rfl⟩ := hG
  intro r hE H locs ls hP hS hl
  exact lv_ior hx hb hd (k r hE H locs ls hP hS hl)
theorem r_ixor {x y : Int32} (hG : IsG X own cw nL d rt out G) (hd : decode cw pc = .ok (.ixor, 1)) (k : G E σ (pc + 1) lv (.int (x ^^^ y) :: st)) : G E σ pc lv (.int y :: .int x :: st) := by
  obtain ⟨p, e, s, m, args, below, meth, c, hx, hb, hml, hr, hlk, hown, hts, hK, hKs, rfl⟩ := hG
  intro r hE H locs ls hP hS hl
  exact lv_ixor hx hb hd (k r hE H locs ls hP hS hl)
theorem r_ishl {x y : Int32} (hG : IsG X own cw nL d rt out G) (hd : decode cw pc = .ok (.ishl, 1)) (k : G E σ (pc + 1) lv (.int (x <<< (y &&& 31)) :: st)) : G E σ pc lv (.int y :: .int x :: st) := by
  obtain ⟨p, e, s, m, args, below, meth, c, hx, hb, hml, hr, hlk, hown, hts, hK, hKs, rfl⟩ := hG
  intro r hE H locs ls hP hS hl
  exact lv_ishl hx hb hd (k r hE H locs ls hP hS hl)
theorem r_ishr {x y : Int32} (hG : IsG X own cw nL d rt out G) (hd : decode cw pc = .ok (.ishr, 1)) (k : G E σ (pc + 1) lv (.int (x >>> (y &&& 31)) :: st)) : G E σ pc lv (.int y :: .int x :: st) := by
  obtain ⟨p, e, s, m, args, below, meth, c, hx, hb, hml, hr, hlk, hown, hts, hK, hKs, rfl⟩ := hG
  intro r hE H locs ls hP hS hl
  exact lv_ishr hx hb hd (k r hE H locs ls hP hS hl)
theorem r_iushr {x y : Int32} (hG : IsG X own cw nL d rt out G) (hd : decode cw pc = .ok (.iushr, 1)) (k : G E σ (pc + 1) lv (.int ((x.toUInt32 >>> (y.toUInt32 &&& Int32.toUInt32 31)).toInt32) :: st)) : G E σ pc lv (.int y :: .int x :: st) := by
  obtain ⟨p, e, s, m, args, below, meth, c, hx, hb, hml, hr, hlk, hown, hts, hK, hKs, rfl⟩ := hG
  intro r hE H locs ls hP hS hl
  exact lv_iushr hx hb hd rfl (k r hE H locs ls hP hS hl)
theorem r_ineg {x : Int32} (hG : IsG X own cw nL d rt out G) (hd : decode cw pc = .ok (.ineg, 1)) (k : G E σ (pc + 1) lv (.int (-x) :: st)) : G E σ pc lv (.int x :: st) := by
  obtain ⟨p, e, s, m, args, below, meth, c, hx, hb, hml, hr, hlk, hown, hts, hK, hKs, rfl⟩ := hG
  intro r hE H locs ls hP hS hl
  exact lv_ineg hx hb hd (k r hE H locs ls hP hS hl)
theorem r_idiv {x y : Int32} (hne : ¬ y = 0) (hG : IsG X own cw nL d rt out G) (hd : decode cw pc = .ok (.idiv, 1)) (k : G E σ (pc + 1) lv (.int (x / y) :: st)) : G E σ pc lv (.int y :: .int x :: st) := by
  obtain ⟨p, e, s, m, args, below, meth, c, hx, hb, hml, hr, hlk, hown, hts, hK, hKs, rfl⟩ := hG
  intro r hE H locs ls hP hS hl
  exact lv_idiv hx hb hd hne (k r hE H locs ls hP hS hl)
theorem r_irem {x y : Int32} (hne : ¬ y = 0) (hG : IsG X own cw nL d rt out G) (hd : decode cw pc = .ok (.irem, 1)) (k : G E σ (pc + 1) lv (.int (x - x / y * y) :: st)) : G E σ pc lv (.int y :: .int x :: st) := by
  obtain ⟨p, e, s, m, args, below, meth, c, hx, hb, hml, hr, hlk, hown, hts, hK, hKs, rfl⟩ := hG
  intro r hE H locs ls hP hS hl
  exact lv_irem hx hb hd hne (k r hE H locs ls hP hS hl)
theorem r_ladd {x y : Int64} (hG : IsG X own cw nL d rt out G) (hd : decode cw pc = .ok (.ladd, 1)) (k : G E σ (pc + 1) lv (.long (x + y) :: st)) : G E σ pc lv (.long y :: .long x :: st) := by
  obtain ⟨p, e, s, m, args, below, meth, c, hx, hb, hml, hr, hlk, hown, hts, hK, hKs, rfl⟩ := hG
  intro r hE H locs ls hP hS hl
  exact lv_ladd hx hb hd (k r hE H locs ls hP hS hl)
theorem r_lsub {x y : Int64} (hG : IsG X own cw nL d rt out G) (hd : decode cw pc = .ok (.lsub, 1)) (k : G E σ (pc + 1) lv (.long (x - y) :: st)) : G E σ pc lv (.long y :: .long x :: st) := by
  obtain ⟨p, e, s, m, args, below, meth, c, hx, hb, hml, hr, hlk, hown, hts, hK, hKs, rfl⟩ := hG
  intro r hE H locs ls hP hS hl
  exact lv_lsub hx hb hd (k r hE H locs ls hP hS hl)
theorem r_lmul {x y : Int64} (hG : IsG X own cw nL d rt out G) (hd : decode cw pc = .ok (.lmul, 1)) (k : G E σ (pc + 1) lv (.long (x * y) :: st)) : G E σ pc lv (.long y :: .long x :: st) := by
  obtain ⟨p, e, s, m, args, below, meth, c, hx, hb, hml, hr, hlk, hown, hts, hK, hKs, rfl⟩ := hG
  intro r hE H locs ls hP hS hl
  exact lv_lmul hx hb hd (k r hE H locs ls hP hS hl)
theorem r_ldiv {x y : Int64} (hne : ¬ y = 0) (hG : IsG X own cw nL d rt out G) (hd : decode cw pc = .ok (.ldiv, 1)) (k : G E σ (pc + 1) lv (.long (x / y) :: st)) : G E σ pc lv (.long y :: .long x :: st) := by
  obtain ⟨p, e, s, m, args, below, meth, c, hx, hb, hml, hr, hlk, hown, hts, hK, hKs, rfl⟩ := hG
  intro r hE H locs ls hP hS hl
  exact lv_ldiv hx hb hd hne (k r hE H locs ls hP hS hl)
theorem r_lrem {x y : Int64} (hne : ¬ y = 0) (hG : IsG X own cw nL d rt out G) (hd : decode cw pc = .ok (.lrem, 1)) (k : G E σ (pc + 1) lv (.long (x - x / y * y) :: st)) : G E σ pc lv (.long y :: .long x :: st) := by
  obtain ⟨p, e, s, m, args, below, meth, c, hx, hb, hml, hr, hlk, hown, hts, hK, hKs, rfl⟩ := hG
  intro r hE H locs ls hP hS hl
  exact lv_lrem hx hb hd hne (k r hE H locs ls hP hS hl)
theorem r_i2l {x : Int32} (hG : IsG X own cw nL d rt out G) (hd : decode cw pc = .ok (.i2l, 1)) (k : G E σ (pc + 1) lv (.long x.toInt64 :: st)) : G E σ pc lv (.int x :: st) := by
  obtain ⟨p, e, s, m, args, below, meth, c, hx, hb, hml, hr, hlk, hown, hts, hK, hKs, rfl⟩ := hG
  intro r hE H locs ls hP hS hl
  exact lv_i2l hx hb hd rfl (k r hE H locs ls hP hS hl)
theorem r_l2i {x : Int64} (hG : IsG X own cw nL d rt out G) (hd : decode cw pc = .ok (.l2i, 1)) (k : G E σ (pc + 1) lv (.int x.toInt32 :: st)) : G E σ pc lv (.long x :: st) := by
  obtain ⟨p, e, s, m, args, below, meth, c, hx, hb, hml, hr, hlk, hown, hts, hK, hKs, rfl⟩ := hG
  intro r hE H locs ls hP hS hl
  exact lv_l2i hx hb hd rfl (k r hE H locs ls hP hS hl)
theorem r_i2b {x : Int32} (hG : IsG X own cw nL d rt out G) (hd : decode cw pc = .ok (.i2b, 1)) (k : G E σ (pc + 1) lv (.int x.toInt8.toInt32 :: st)) : G E σ pc lv (.int x :: st) := by
  obtain ⟨p, e, s, m, args, below, meth, c, hx, hb, hml, hr, hlk, hown, hts, hK, hKs, rfl⟩ := hG
  intro r hE H locs ls hP hS hl
  exact lv_i2b hx hb hd rfl (k r hE H locs ls hP hS hl)
theorem r_lcmp {x y : Int64} (hG : IsG X own cw nL d rt out G) (hd : decode cw pc = .ok (.lcmp, 1)) (k : G E σ (pc + 1) lv (.int (lg_cmp x y) :: st)) : G E σ pc lv (.long y :: .long x :: st) := by
  obtain ⟨p, e, s, m, args, below, meth, c, hx, hb, hml, hr, hlk, hown, hts, hK, hKs, rfl⟩ := hG
  intro r hE H locs ls hP hS hl
  exact W.lcmp hx hb hd (k r hE H locs ls hP hS hl)
theorem r_dup {va : Value} (hva : va.category = 1) (hG : IsG X own cw nL d rt out G) (hd : decode cw pc = .ok (.dup, 1)) (k : G E σ (pc + 1) lv (va :: va :: st)) : G E σ pc lv (va :: st) := by
  obtain ⟨p, e, s, m, args, below, meth, c, hx, hb, hml, hr, hlk, hown, hts, hK, hKs, rfl⟩ := hG
  intro r hE H locs ls hP hS hl
  exact lv_dup hx hb hd hva (k r hE H locs ls hP hS hl)
theorem r_pop {va : Value} (hva : va.category = 1) (hG : IsG X own cw nL d rt out G) (hd : decode cw pc = .ok (.pop, 1)) (k : G E σ (pc + 1) lv (st)) : G E σ pc lv (va :: st) := by
  obtain ⟨p, e, s, m, args, below, meth, c, hx, hb, hml, hr, hlk, hown, hts, hK, hKs, rfl⟩ := hG
  intro r hE H locs ls hP hS hl
  exact lv_pop hx hb hd hva (k r hE H locs ls hP hS hl)
theorem r_dup2 {va vb : Value} (hva : va.category = 1) (hvb : vb.category = 1) (hG : IsG X own cw nL d rt out G) (hd : decode cw pc = .ok (.dup2, 1)) (k : G E σ (pc + 1) lv (va :: vb :: va :: vb :: st)) : G E σ pc lv (va :: vb :: st) := by
  obtain ⟨p, e, s, m, args, below, meth, c, hx, hb, hml, hr, hlk, hown, hts, hK, hKs, rfl⟩ := hG
  intro r hE H locs ls hP hS hl
  exact lv_dup2_11 hx hb hd hva hvb (k r hE H locs ls hP hS hl)
theorem r_iconst {n : Int} {v : Int32} (hv : Int32.ofInt n = v) (hG : IsG X own cw nL d rt out G) (hd : decode cw pc = .ok (.iconst n, 1)) (k : G E σ (pc + 1) lv (.int v :: st)) : G E σ pc lv (st) := by
  obtain ⟨p, e, s, m, args, below, meth, c, hx, hb, hml, hr, hlk, hown, hts, hK, hKs, rfl⟩ := hG
  intro r hE H locs ls hP hS hl
  exact lv_iconst hx hb hd hv (k r hE H locs ls hP hS hl)
theorem r_bipush {n : Int} {v : Int32} (hv : (Int8.ofInt n).toInt32 = v) (hG : IsG X own cw nL d rt out G) (hd : decode cw pc = .ok (.bipush n, 2)) (k : G E σ (pc + 2) lv (.int v :: st)) : G E σ pc lv (st) := by
  obtain ⟨p, e, s, m, args, below, meth, c, hx, hb, hml, hr, hlk, hown, hts, hK, hKs, rfl⟩ := hG
  intro r hE H locs ls hP hS hl
  exact lv_bipush hx hb hd hv (k r hE H locs ls hP hS hl)
theorem r_sipush {n : Int} {v : Int32} (hv : (Int16.ofInt n).toInt32 = v) (hG : IsG X own cw nL d rt out G) (hd : decode cw pc = .ok (.sipush n, 3)) (k : G E σ (pc + 3) lv (.int v :: st)) : G E σ pc lv (st) := by
  obtain ⟨p, e, s, m, args, below, meth, c, hx, hb, hml, hr, hlk, hown, hts, hK, hKs, rfl⟩ := hG
  intro r hE H locs ls hP hS hl
  exact lv_sipush hx hb hd hv (k r hE H locs ls hP hS hl)
theorem r_lconst {n : Fin 2} {v : Int64} (hv : Int64.ofNat (n : Nat) = v) (hG : IsG X own cw nL d rt out G) (hd : decode cw pc = .ok (.lconst n, 1)) (k : G E σ (pc + 1) lv (.long v :: st)) : G E σ pc lv (st) := by
  obtain ⟨p, e, s, m, args, below, meth, c, hx, hb, hml, hr, hlk, hown, hts, hK, hKs, rfl⟩ := hG
  intro r hE H locs ls hP hS hl
  exact lv_lconst hx hb hd hv (k r hE H locs ls hP hS hl)
theorem r_ldc {index : Nat} {v : Int32} (hc : Cond.constant own index v ∈ gT) (hG : IsG X own cw nL d rt out G) (hd : decode cw pc = .ok (.ldc index, 2)) (k : G E σ (pc + 2) lv (.int v :: st)) : G E σ pc lv (st) := by
  obtain ⟨p, e, s, m, args, below, meth, c, hx, hb, hml, hr, hlk, hown, hts, hK, hKs, rfl⟩ := hG
  intro r hE H locs ls hP hS hl
  exact lv_ldc hx hb hown (hts _ hc) hd (k r hE H locs ls hP hS hl)
theorem r_ldcw {index : Nat} {v : Int32} (hc : Cond.constant own index v ∈ gT) (hG : IsG X own cw nL d rt out G) (hd : decode cw pc = .ok (.ldc_w index, 3)) (k : G E σ (pc + 3) lv (.int v :: st)) : G E σ pc lv (st) := by
  obtain ⟨p, e, s, m, args, below, meth, c, hx, hb, hml, hr, hlk, hown, hts, hK, hKs, rfl⟩ := hG
  intro r hE H locs ls hP hS hl
  exact lv_ldcw hx hb hown (hts _ hc) hd (k r hE H locs ls hP hS hl)
theorem r_ldc2 {index : Nat} {v : Int64} (hc : Cond.constantLong own index v ∈ gT) (hG : IsG X own cw nL d rt out G) (hd : decode cw pc = .ok (.ldc2_w index, 3)) (k : G E σ (pc + 3) lv (.long v :: st)) : G E σ pc lv (st) := by
  obtain ⟨p, e, s, m, args, below, meth, c, hx, hb, hml, hr, hlk, hown, hts, hK, hKs, rfl⟩ := hG
  intro r hE H locs ls hP hS hl
  exact lv_ldc2 hx hb hown (hts _ hc) hd (k r hE H locs ls hP hS hl)
theorem r_iload_n {j : Fin 4} {x : Int32} (q i : Nat) (hq : lv[q]? = some (i, .int x)) (hi : (j : Nat) = i) (hG : IsG X own cw nL d rt out G) (hd : decode cw pc = .ok (.iload_n j, 1)) (k : G E σ (pc + 1) lv (.int x :: st)) : G E σ pc lv (st) := by
  obtain ⟨p, e, s, m, args, below, meth, c, hx, hb, hml, hr, hlk, hown, hts, hK, hKs, rfl⟩ := hG
  intro r hE H locs ls hP hS hl
  exact lv_iload_n hx hb hd hi (lv_at hl q hq) (k r hE H locs ls hP hS hl)
theorem r_iload {x : Int32} (q : Nat) {i : Nat} (hq : lv[q]? = some (i, .int x)) (hG : IsG X own cw nL d rt out G) (hd : decode cw pc = .ok (.iload i, 2)) (k : G E σ (pc + 2) lv (.int x :: st)) : G E σ pc lv (st) := by
  obtain ⟨p, e, s, m, args, below, meth, c, hx, hb, hml, hr, hlk, hown, hts, hK, hKs, rfl⟩ := hG
  intro r hE H locs ls hP hS hl
  exact lv_iload hx hb hd (lv_at hl q hq) (k r hE H locs ls hP hS hl)
theorem r_istore_n {j : Fin 4} {x : Int32} (i : Nat) (hi : (j : Nat) = i) (hn : i < nL) (hv : (i, Value.int x) :: lv.filter (fun q => !(q.1 == i) && !(q.1 + 1 == i && q.2.category == 2)) = lv') (hG : IsG X own cw nL d rt out G) (hd : decode cw pc = .ok (.istore_n j, 1)) (k : G E σ (pc + 1) lv' st) : G E σ pc lv (.int x :: st) := by
  obtain ⟨p, e, s, m, args, below, meth, c, hx, hb, hml, hr, hlk, hown, hts, hK, hKs, rfl⟩ := hG
  intro r hE H locs ls hP hS hl
  exact lv_istore_n hx hb hd hi hl hn hv (fun ls' hl' => k r hE H locs ls' hP hS hl')
theorem r_istore {x : Int32} {i : Nat} (hn : i < nL) (hv : (i, Value.int x) :: lv.filter (fun q => !(q.1 == i) && !(q.1 + 1 == i && q.2.category == 2)) = lv') (hG : IsG X own cw nL d rt out G) (hd : decode cw pc = .ok (.istore i, 2)) (k : G E σ (pc + 2) lv' st) : G E σ pc lv (.int x :: st) := by
  obtain ⟨p, e, s, m, args, below, meth, c, hx, hb, hml, hr, hlk, hown, hts, hK, hKs, rfl⟩ := hG
  intro r hE H locs ls hP hS hl
  exact lv_istore hx hb hd hl hn hv (fun ls' hl' => k r hE H locs ls' hP hS hl')
theorem r_lload_n {j : Fin 4} {x : Int64} (q i : Nat) (hq : lv[q]? = some (i, .long x)) (hi : (j : Nat) = i) (hG : IsG X own cw nL d rt out G) (hd : decode cw pc = .ok (.lload_n j, 1)) (k : G E σ (pc + 1) lv (.long x :: st)) : G E σ pc lv (st) := by
  obtain ⟨p, e, s, m, args, below, meth, c, hx, hb, hml, hr, hlk, hown, hts, hK, hKs, rfl⟩ := hG
  intro r hE H locs ls hP hS hl
  exact lv_lload_n hx hb hd hi (lv_at hl q hq) (k r hE H locs ls hP hS hl)
theorem r_lload {x : Int64} (q : Nat) {i : Nat} (hq : lv[q]? = some (i, .long x)) (hG : IsG X own cw nL d rt out G) (hd : decode cw pc = .ok (.lload i, 2)) (k : G E σ (pc + 2) lv (.long x :: st)) : G E σ pc lv (st) := by
  obtain ⟨p, e, s, m, args, below, meth, c, hx, hb, hml, hr, hlk, hown, hts, hK, hKs, rfl⟩ := hG
  intro r hE H locs ls hP hS hl
  exact lv_lload hx hb hd (lv_at hl q hq) (k r hE H locs ls hP hS hl)
theorem r_lstore_n {j : Fin 4} {x : Int64} (i : Nat) (hi : (j : Nat) = i) (hn : i + 1 < nL) (hv : (i, Value.long x) :: lv.filter (fun q => !(q.1 == i) && (!(q.1 == i + 1) && !(q.1 + 1 == i && q.2.category == 2))) = lv') (hG : IsG X own cw nL d rt out G) (hd : decode cw pc = .ok (.lstore_n j, 1)) (k : G E σ (pc + 1) lv' st) : G E σ pc lv (.long x :: st) := by
  obtain ⟨p, e, s, m, args, below, meth, c, hx, hb, hml, hr, hlk, hown, hts, hK, hKs, rfl⟩ := hG
  intro r hE H locs ls hP hS hl
  exact lv_lstore_n hx hb hd hi hl hn hv (fun ls' hl' => k r hE H locs ls' hP hS hl')
theorem r_lstore {x : Int64} {i : Nat} (hn : i + 1 < nL) (hv : (i, Value.long x) :: lv.filter (fun q => !(q.1 == i) && (!(q.1 == i + 1) && !(q.1 + 1 == i && q.2.category == 2))) = lv') (hG : IsG X own cw nL d rt out G) (hd : decode cw pc = .ok (.lstore i, 2)) (k : G E σ (pc + 2) lv' st) : G E σ pc lv (.long x :: st) := by
  obtain ⟨p, e, s, m, args, below, meth, c, hx, hb, hml, hr, hlk, hown, hts, hK, hKs, rfl⟩ := hG
  intro r hE H locs ls hP hS hl
  exact lv_lstore hx hb hd hl hn hv (fun ls' hl' => k r hE H locs ls' hP hS hl')
theorem r_aload_n {j : Fin 4} {x : Nat} (q i : Nat) (hq : lv[q]? = some (i, .ref x)) (hi : (j : Nat) = i) (hG : IsG X own cw nL d rt out G) (hd : decode cw pc = .ok (.aload_n j, 1)) (k : G E σ (pc + 1) lv (.ref x :: st)) : G E σ pc lv (st) := by
  obtain ⟨p, e, s, m, args, below, meth, c, hx, hb, hml, hr, hlk, hown, hts, hK, hKs, rfl⟩ := hG
  intro r hE H locs ls hP hS hl
  exact lv_aload_n hx hb hd hi (lv_at hl q hq) (k r hE H locs ls hP hS hl)
theorem r_aload {x : Nat} (q : Nat) {i : Nat} (hq : lv[q]? = some (i, .ref x)) (hG : IsG X own cw nL d rt out G) (hd : decode cw pc = .ok (.aload i, 2)) (k : G E σ (pc + 2) lv (.ref x :: st)) : G E σ pc lv (st) := by
  obtain ⟨p, e, s, m, args, below, meth, c, hx, hb, hml, hr, hlk, hown, hts, hK, hKs, rfl⟩ := hG
  intro r hE H locs ls hP hS hl
  exact lv_aload hx hb hd (lv_at hl q hq) (k r hE H locs ls hP hS hl)
theorem r_astore_n {j : Fin 4} {x : Nat} (i : Nat) (hi : (j : Nat) = i) (hn : i < nL) (hv : (i, Value.ref x) :: lv.filter (fun q => !(q.1 == i) && !(q.1 + 1 == i && q.2.category == 2)) = lv') (hG : IsG X own cw nL d rt out G) (hd : decode cw pc = .ok (.astore_n j, 1)) (k : G E σ (pc + 1) lv' st) : G E σ pc lv (.ref x :: st) := by
  obtain ⟨p, e, s, m, args, below, meth, c, hx, hb, hml, hr, hlk, hown, hts, hK, hKs, rfl⟩ := hG
  intro r hE H locs ls hP hS hl
  exact lv_astore_n hx hb hd hi hl hn hv (fun ls' hl' => k r hE H locs ls' hP hS hl')
theorem r_astore {x : Nat} {i : Nat} (hn : i < nL) (hv : (i, Value.ref x) :: lv.filter (fun q => !(q.1 == i) && !(q.1 + 1 == i && q.2.category == 2)) = lv') (hG : IsG X own cw nL d rt out G) (hd : decode cw pc = .ok (.astore i, 2)) (k : G E σ (pc + 2) lv' st) : G E σ pc lv (.ref x :: st) := by
  obtain ⟨p, e, s, m, args, below, meth, c, hx, hb, hml, hr, hlk, hown, hts, hK, hKs, rfl⟩ := hG
  intro r hE H locs ls hP hS hl
  exact lv_astore hx hb hd hl hn hv (fun ls' hl' => k r hE H locs ls' hP hS hl')
theorem r_iinc {i : Nat} {n : Int} {x v : Int32} (q : Nat) (hq : lv[q]? = some (i, .int x)) (hv : x + Int32.ofInt n = v) (hn : i < nL) (hv2 : (i, Value.int v) :: lv.filter (fun q => !(q.1 == i) && !(q.1 + 1 == i && q.2.category == 2)) = lv') (hG : IsG X own cw nL d rt out G) (hd : decode cw pc = .ok (.iinc i n, 3)) (k : G E σ (pc + 3) lv' st) : G E σ pc lv st := by
  obtain ⟨p, e, s, m, args, below, meth, c, hx, hb, hml, hr, hlk, hown, hts, hK, hKs, rfl⟩ := hG
  intro r hE H locs ls hP hS hl
  exact lv_iinc hx hb hd hl hq hv hn hv2 (fun ls' hl' => k r hE H locs ls' hP hS hl')
theorem r_sub (ks : List Nat) (h : lv_pick lv ks = lv') (hG : IsG X own cw nL d rt out G) (k : G E σ pc lv' st) : G E σ pc lv st := by
  obtain ⟨p, e, s, m, args, below, meth, c, hx, hb, hml, hr, hlk, hown, hts, hK, hKs, rfl⟩ := hG
  intro r hE H locs ls hP hS hl
  exact k r hE H locs ls hP hS (lv_sub hl ks h)
theorem r_goto {off : Int} (ht : (pc : Int) + off = (tgt : Int)) (hG : IsG X own cw nL d rt out G) (hd : decode cw pc = .ok (.goto off, 3)) (k : G E σ tgt lv st) : G E σ pc lv st := by
  obtain ⟨p, e, s, m, args, below, meth, c, hx, hb, hml, hr, hlk, hown, hts, hK, hKs, rfl⟩ := hG
  intro r hE H locs ls hP hS hl
  exact lv_goto hx hb hd ht (k r hE H locs ls hP hS hl)
theorem r_if_eq {x : Int32} {off : Int} (ht : (pc : Int) + off = (tgt : Int)) (hG : IsG X own cw nL d rt out G) (hd : decode cw pc = .ok (.ifCond .eq off, 3)) (k1 : x = 0 → G (E1) σ tgt lv st) (k2 : ¬ x = 0 → G (E2) σ (pc + 3) lv st) : G (if x = 0 then E1 else E2) σ pc lv (.int x :: st) := by
  obtain ⟨p, e, s, m, args, below, meth, c, hx, hb, hml, hr, hlk, hown, hts, hK, hKs, rfl⟩ := hG
  intro r hE H locs ls hP hS hl
  exact lv_if_eq hx hb hd ht (fun h => k1 h r (by rw [if_pos h] at hE; exact hE) H locs ls hP hS hl) (fun h => k2 h r (by rw [if_neg h] at hE; exact hE) H locs ls hP hS hl)
theorem r_if_eqS {x : Int32} {e1 e2 : ρ} {off : Int} (ht : (pc : Int) + off = (tgt : Int)) (hG : IsG X own cw nL d rt out G) (hd : decode cw pc = .ok (.ifCond .eq off, 3)) (k1 : x = 0 → G (some e1) σ tgt lv st) (k2 : ¬ x = 0 → G (some e2) σ (pc + 3) lv st) : G (some (if x = 0 then e1 else e2)) σ pc lv (.int x :: st) := by
  obtain ⟨p, e, s, m, args, below, meth, c, hx, hb, hml, hr, hlk, hown, hts, hK, hKs, rfl⟩ := hG
  intro r hE H locs ls hP hS hl
  exact lv_if_eq hx hb hd ht (fun h => k1 h r (by rw [if_pos h] at hE; exact hE) H locs ls hP hS hl) (fun h => k2 h r (by rw [if_neg h] at hE; exact hE) H locs ls hP hS hl)
theorem r_if_eqT {x : Int32} {off : Int} (hc : x = 0) (ht : (pc : Int) + off = (tgt : Int)) (hG : IsG X own cw nL d rt out G) (hd : decode cw pc = .ok (.ifCond .eq off, 3)) (k1 : G E σ tgt lv st) : G E σ pc lv (.int x :: st) := by
  obtain ⟨p, e, s, m, args, below, meth, c, hx, hb, hml, hr, hlk, hown, hts, hK, hKs, rfl⟩ := hG
  intro r hE H locs ls hP hS hl
  exact lv_if_eq hx hb hd ht (fun h => k1 r hE H locs ls hP hS hl) (fun h => absurd hc h)
theorem r_if_ne {x : Int32} {off : Int} (ht : (pc : Int) + off = (tgt : Int)) (hG : IsG X own cw nL d rt out G) (hd : decode cw pc = .ok (.ifCond .ne off, 3)) (k1 : ¬ x = 0 → G (E1) σ tgt lv st) (k2 : x = 0 → G (E2) σ (pc + 3) lv st) : G (if x = 0 then E2 else E1) σ pc lv (.int x :: st) := by
  obtain ⟨p, e, s, m, args, below, meth, c, hx, hb, hml, hr, hlk, hown, hts, hK, hKs, rfl⟩ := hG
  intro r hE H locs ls hP hS hl
  exact lv_if_ne hx hb hd ht (fun h => k1 h r (by rw [if_neg h] at hE; exact hE) H locs ls hP hS hl) (fun h => k2 h r (by rw [if_pos h] at hE; exact hE) H locs ls hP hS hl)
theorem r_if_neS {x : Int32} {e1 e2 : ρ} {off : Int} (ht : (pc : Int) + off = (tgt : Int)) (hG : IsG X own cw nL d rt out G) (hd : decode cw pc = .ok (.ifCond .ne off, 3)) (k1 : ¬ x = 0 → G (some e1) σ tgt lv st) (k2 : x = 0 → G (some e2) σ (pc + 3) lv st) : G (some (if x = 0 then e2 else e1)) σ pc lv (.int x :: st) := by
  obtain ⟨p, e, s, m, args, below, meth, c, hx, hb, hml, hr, hlk, hown, hts, hK, hKs, rfl⟩ := hG
  intro r hE H locs ls hP hS hl
  exact lv_if_ne hx hb hd ht (fun h => k1 h r (by rw [if_neg h] at hE; exact hE) H locs ls hP hS hl) (fun h => k2 h r (by rw [if_pos h] at hE; exact hE) H locs ls hP hS hl)
theorem r_if_neT {x : Int32} {off : Int} (hc : ¬ x = 0) (ht : (pc : Int) + off = (tgt : Int)) (hG : IsG X own cw nL d rt out G) (hd : decode cw pc = .ok (.ifCond .ne off, 3)) (k1 : G E σ tgt lv st) : G E σ pc lv (.int x :: st) := by
  obtain ⟨p, e, s, m, args, below, meth, c, hx, hb, hml, hr, hlk, hown, hts, hK, hKs, rfl⟩ := hG
  intro r hE H locs ls hP hS hl
  exact lv_if_ne hx hb hd ht (fun h => k1 r hE H locs ls hP hS hl) (fun h => absurd h hc)
theorem r_if_lt {x : Int32} {off : Int} (ht : (pc : Int) + off = (tgt : Int)) (hG : IsG X own cw nL d rt out G) (hd : decode cw pc = .ok (.ifCond .lt off, 3)) (k1 : x < 0 → G (E1) σ tgt lv st) (k2 : ¬ x < 0 → G (E2) σ (pc + 3) lv st) : G (if x < 0 then E1 else E2) σ pc lv (.int x :: st) := by
  obtain ⟨p, e, s, m, args, below, meth, c, hx, hb, hml, hr, hlk, hown, hts, hK, hKs, rfl⟩ := hG
  intro r hE H locs ls hP hS hl
  exact lv_if_lt hx hb hd ht (fun h => k1 h r (by rw [if_pos h] at hE; exact hE) H locs ls hP hS hl) (fun h => k2 h r (by rw [if_neg h] at hE; exact hE) H locs ls hP hS hl)
theorem r_if_ltS {x : Int32} {e1 e2 : ρ} {off : Int} (ht : (pc : Int) + off = (tgt : Int)) (hG : IsG X own cw nL d rt out G) (hd : decode cw pc = .ok (.ifCond .lt off, 3)) (k1 : x < 0 → G (some e1) σ tgt lv st) (k2 : ¬ x < 0 → G (some e2) σ (pc + 3) lv st) : G (some (if x < 0 then e1 else e2)) σ pc lv (.int x :: st) := by
  obtain ⟨p, e, s, m, args, below, meth, c, hx, hb, hml, hr, hlk, hown, hts, hK, hKs, rfl⟩ := hG
  intro r hE H locs ls hP hS hl
  exact lv_if_lt hx hb hd ht (fun h => k1 h r (by rw [if_pos h] at hE; exact hE) H locs ls hP hS hl) (fun h => k2 h r (by rw [if_neg h] at hE; exact hE) H locs ls hP hS hl)
theorem r_if_ltT {x : Int32} {off : Int} (hc : x < 0) (ht : (pc : Int) + off = (tgt : Int)) (hG : IsG X own cw nL d rt out G) (hd : decode cw pc = .ok (.ifCond .lt off, 3)) (k1 : G E σ tgt lv st) : G E σ pc lv (.int x :: st) := by
  obtain ⟨p, e, s, m, args, below, meth, c, hx, hb, hml, hr, hlk, hown, hts, hK, hKs, rfl⟩ := hG
  intro r hE H locs ls hP hS hl
  exact lv_if_lt hx hb hd ht (fun h => k1 r hE H locs ls hP hS hl) (fun h => absurd hc h)
theorem r_if_ge {x : Int32} {off : Int} (ht : (pc : Int) + off = (tgt : Int)) (hG : IsG X own cw nL d rt out G) (hd : decode cw pc = .ok (.ifCond .ge off, 3)) (k1 : 0 ≤ x → G (E1) σ tgt lv st) (k2 : ¬ 0 ≤ x → G (E2) σ (pc + 3) lv st) : G (if 0 ≤ x then E1 else E2) σ pc lv (.int x :: st) := by
  obtain ⟨p, e, s, m, args, below, meth, c, hx, hb, hml, hr, hlk, hown, hts, hK, hKs, rfl⟩ := hG
  intro r hE H locs ls hP hS hl
  exact lv_if_ge hx hb hd ht (fun h => k1 h r (by rw [if_pos h] at hE; exact hE) H locs ls hP hS hl) (fun h => k2 h r (by rw [if_neg h] at hE; exact hE) H locs ls hP hS hl)
theorem r_if_geS {x : Int32} {e1 e2 : ρ} {off : Int} (ht : (pc : Int) + off = (tgt : Int)) (hG : IsG X own cw nL d rt out G) (hd : decode cw pc = .ok (.ifCond .ge off, 3)) (k1 : 0 ≤ x → G (some e1) σ tgt lv st) (k2 : ¬ 0 ≤ x → G (some e2) σ (pc + 3) lv st) : G (some (if 0 ≤ x then e1 else e2)) σ pc lv (.int x :: st) := by
  obtain ⟨p, e, s, m, args, below, meth, c, hx, hb, hml, hr, hlk, hown, hts, hK, hKs, rfl⟩ := hG
  intro r hE H locs ls hP hS hl
  exact lv_if_ge hx hb hd ht (fun h => k1 h r (by rw [if_pos h] at hE; exact hE) H locs ls hP hS hl) (fun h => k2 h r (by rw [if_neg h] at hE; exact hE) H locs ls hP hS hl)
theorem r_if_geT {x : Int32} {off : Int} (hc : 0 ≤ x) (ht : (pc : Int) + off = (tgt : Int)) (hG : IsG X own cw nL d rt out G) (hd : decode cw pc = .ok (.ifCond .ge off, 3)) (k1 : G E σ tgt lv st) : G E σ pc lv (.int x :: st) := by
  obtain ⟨p, e, s, m, args, below, meth, c, hx, hb, hml, hr, hlk, hown, hts, hK, hKs, rfl⟩ := hG
  intro r hE H locs ls hP hS hl
  exact lv_if_ge hx hb hd ht (fun h => k1 r hE H locs ls hP hS hl) (fun h => absurd hc h)
theorem r_if_gt {x : Int32} {off : Int} (ht : (pc : Int) + off = (tgt : Int)) (hG : IsG X own cw nL d rt out G) (hd : decode cw pc = .ok (.ifCond .gt off, 3)) (k1 : 0 < x → G (E1) σ tgt lv st) (k2 : ¬ 0 < x → G (E2) σ (pc + 3) lv st) : G (if 0 < x then E1 else E2) σ pc lv (.int x :: st) := by
  obtain ⟨p, e, s, m, args, below, meth, c, hx, hb, hml, hr, hlk, hown, hts, hK, hKs, rfl⟩ := hG
  intro r hE H locs ls hP hS hl
  exact lv_if_gt hx hb hd ht (fun h => k1 h r (by rw [if_pos h] at hE; exact hE) H locs ls hP hS hl) (fun h => k2 h r (by rw [if_neg h] at hE; exact hE) H locs ls hP hS hl)
theorem r_if_gtS {x : Int32} {e1 e2 : ρ} {off : Int} (ht : (pc : Int) + off = (tgt : Int)) (hG : IsG X own cw nL d rt out G) (hd : decode cw pc = .ok (.ifCond .gt off, 3)) (k1 : 0 < x → G (some e1) σ tgt lv st) (k2 : ¬ 0 < x → G (some e2) σ (pc + 3) lv st) : G (some (if 0 < x then e1 else e2)) σ pc lv (.int x :: st) := by
  obtain ⟨p, e, s, m, args, below, meth, c, hx, hb, hml, hr, hlk, hown, hts, hK, hKs, rfl⟩ := hG
  intro r hE H locs ls hP hS hl
  exact lv_if_gt hx hb hd ht (fun h => k1 h r (by rw [if_pos h] at hE; exact hE) H locs ls hP hS hl) (fun h => k2 h r (by rw [if_neg h] at hE; exact hE) H locs ls hP hS hl)
theorem r_if_gtT {x : Int32} {off : Int} (hc : 0 < x) (ht : (pc : Int) + off = (tgt : Int)) (hG : IsG X own cw nL d rt out G) (hd : decode cw pc = .ok (.ifCond .gt off, 3)) (k1 : G E σ tgt lv st) : G E σ pc lv (.int x :: st) := by
  obtain ⟨p, e, s, m, args, below, meth, c, hx, hb, hml, hr, hlk, hown, hts, hK, hKs, rfl⟩ := hG
  intro r hE H locs ls hP hS hl
  exact lv_if_gt hx hb hd ht (fun h => k1 r hE H locs ls hP hS hl) (fun h => absurd hc h)
theorem r_if_le {x : Int32} {off : Int} (ht : (pc : Int) + off = (tgt : Int)) (hG : IsG X own cw nL d rt out G) (hd : decode cw pc = .ok (.ifCond .le off, 3)) (k1 : x ≤ 0 → G (E1) σ tgt lv st) (k2 : ¬ x ≤ 0 → G (E2) σ (pc + 3) lv st) : G (if x ≤ 0 then E1 else E2) σ pc lv (.int x :: st) := by
  obtain ⟨p, e, s, m, args, below, meth, c, hx, hb, hml, hr, hlk, hown, hts, hK, hKs, rfl⟩ := hG
  intro r hE H locs ls hP hS hl
  exact lv_if_le hx hb hd ht (fun h => k1 h r (by rw [if_pos h] at hE; exact hE) H locs ls hP hS hl) (fun h => k2 h r (by rw [if_neg h] at hE; exact hE) H locs ls hP hS hl)
theorem r_if_leS {x : Int32} {e1 e2 : ρ} {off : Int} (ht : (pc : Int) + off = (tgt : Int)) (hG : IsG X own cw nL d rt out G) (hd : decode cw pc = .ok (.ifCond .le off, 3)) (k1 : x ≤ 0 → G (some e1) σ tgt lv st) (k2 : ¬ x ≤ 0 → G (some e2) σ (pc + 3) lv st) : G (some (if x ≤ 0 then e1 else e2)) σ pc lv (.int x :: st) := by
  obtain ⟨p, e, s, m, args, below, meth, c, hx, hb, hml, hr, hlk, hown, hts, hK, hKs, rfl⟩ := hG
  intro r hE H locs ls hP hS hl
  exact lv_if_le hx hb hd ht (fun h => k1 h r (by rw [if_pos h] at hE; exact hE) H locs ls hP hS hl) (fun h => k2 h r (by rw [if_neg h] at hE; exact hE) H locs ls hP hS hl)
theorem r_if_leT {x : Int32} {off : Int} (hc : x ≤ 0) (ht : (pc : Int) + off = (tgt : Int)) (hG : IsG X own cw nL d rt out G) (hd : decode cw pc = .ok (.ifCond .le off, 3)) (k1 : G E σ tgt lv st) : G E σ pc lv (.int x :: st) := by
  obtain ⟨p, e, s, m, args, below, meth, c, hx, hb, hml, hr, hlk, hown, hts, hK, hKs, rfl⟩ := hG
  intro r hE H locs ls hP hS hl
  exact lv_if_le hx hb hd ht (fun h => k1 r hE H locs ls hP hS hl) (fun h => absurd hc h)
theorem r_icmp_eq {x y : Int32} {off : Int} (ht : (pc : Int) + off = (tgt : Int)) (hG : IsG X own cw nL d rt out G) (hd : decode cw pc = .ok (.if_icmp .eq off, 3)) (k1 : x = y → G (E1) σ tgt lv st) (k2 : ¬ x = y → G (E2) σ (pc + 3) lv st) : G (if x = y then E1 else E2) σ pc lv (.int y :: .int x :: st) := by
  obtain ⟨p, e, s, m, args, below, meth, c, hx, hb, hml, hr, hlk, hown, hts, hK, hKs, rfl⟩ := hG
  intro r hE H locs ls hP hS hl
  exact lv_icmp_eq hx hb hd ht (fun h => k1 h r (by rw [if_pos h] at hE; exact hE) H locs ls hP hS hl) (fun h => k2 h r (by rw [if_neg h] at hE; exact hE) H locs ls hP hS hl)
theorem r_icmp_eqS {x y : Int32} {e1 e2 : ρ} {off : Int} (ht : (pc : Int) + off = (tgt : Int)) (hG : IsG X own cw nL d rt out G) (hd : decode cw pc = .ok (.if_icmp .eq off, 3)) (k1 : x = y → G (some e1) σ tgt lv st) (k2 : ¬ x = y → G (some e2) σ (pc + 3) lv st) : G (some (if x = y then e1 else e2)) σ pc lv (.int y :: .int x :: st) := by
  obtain ⟨p, e, s, m, args, below, meth, c, hx, hb, hml, hr, hlk, hown, hts, hK, hKs, rfl⟩ := hG
  intro r hE H locs ls hP hS hl
  exact lv_icmp_eq hx hb hd ht (fun h => k1 h r (by rw [if_pos h] at hE; exact hE) H locs ls hP hS hl) (fun h => k2 h r (by rw [if_neg h] at hE; exact hE) H locs ls hP hS hl)
theorem r_icmp_eqT {x y : Int32} {off : Int} (hc : x = y) (ht : (pc : Int) + off = (tgt : Int)) (hG : IsG X own cw nL d rt out G) (hd : decode cw pc = .ok (.if_icmp .eq off, 3)) (k1 : G E σ tgt lv st) : G E σ pc lv (.int y :: .int x :: st) := by
  obtain ⟨p, e, s, m, args, below, meth, c, hx, hb, hml, hr, hlk, hown, hts, hK, hKs, rfl⟩ := hG
  intro r hE H locs ls hP hS hl
  exact lv_icmp_eq hx hb hd ht (fun h => k1 r hE H locs ls hP hS hl) (fun h => absurd hc h)
theorem r_icmp_ne {x y : Int32} {off : Int} (ht : (pc : Int) + off = (tgt : Int)) (hG : IsG X own cw nL d rt out G) (hd : decode cw pc = .ok (.if_icmp .ne off, 3)) (k1 : ¬ x = y → G (E1) σ tgt lv st) (k2 : x = y → G (E2) σ (pc + 3) lv st) : G (if x = y then E2 else E1) σ pc lv (.int y :: .int x :: st) := by
  obtain ⟨p, e, s, m, args, below, meth, c, hx, hb, hml, hr, hlk, hown, hts, hK, hKs, rfl⟩ := hG
  intro r hE H locs ls hP hS hl
  exact lv_icmp_ne hx hb hd ht (fun h => k1 h r (by rw [if_neg h] at hE; exact hE) H locs ls hP hS hl) (fun h => k2 h r (by rw [if_pos h] at hE; exact hE) H locs ls hP hS hl)
theorem r_icmp_neS {x y : Int32} {e1 e2 : ρ} {off : Int} (ht : (pc : Int) + off = (tgt : Int)) (hG : IsG X own cw nL d rt out G) (hd : decode cw pc = .ok (.if_icmp .ne off, 3)) (k1 : ¬ x = y → G (some e1) σ tgt lv st) (k2 : x = y → G (some e2) σ (pc + 3) lv st) : G (some (if x = y then e2 else e1)) σ pc lv (.int y :: .int x :: st) := by
  obtain ⟨p, e, s, m, args, below, meth, c, hx, hb, hml, hr, hlk, hown, hts, hK, hKs, rfl⟩ := hG
  intro r hE H locs ls hP hS hl
  exact lv_icmp_ne hx hb hd ht (fun h => k1 h r (by rw [if_neg h] at hE; exact hE) H locs ls hP hS hl) (fun h => k2 h r (by rw [if_pos h] at hE; exact hE) H locs ls hP hS hl)
theorem r_icmp_neT {x y : Int32} {off : Int} (hc : ¬ x = y) (ht : (pc : Int) + off = (tgt : Int)) (hG : IsG X own cw nL d rt out G) (hd : decode cw pc = .ok (.if_icmp .ne off, 3)) (k1 : G E σ tgt lv st) : G E σ pc lv (.int y :: .int x :: st) := by
  obtain ⟨p, e, s, m, args, below, meth, c, hx, hb, hml, hr, hlk, hown, hts, hK, hKs, rfl⟩ := hG
  intro r hE H locs ls hP hS hl
  exact lv_icmp_ne hx hb hd ht (fun h => k1 r hE H locs ls hP hS hl) (fun h => absurd h hc)
theorem r_icmp_lt {x y : Int32} {off : Int} (ht : (pc : Int) + off = (tgt : Int)) (hG : IsG X own cw nL d rt out G) (hd : decode cw pc = .ok (.if_icmp .lt off, 3)) (k1 : x < y → G (E1) σ tgt lv st) (k2 : ¬ x < y → G (E2) σ (pc + 3) lv st) : G (if x < y then E1 else E2) σ pc lv (.int y :: .int x :: st) := by
  obtain ⟨p, e, s, m, args, below, meth, c, hx, hb, hml, hr, hlk, hown, hts, hK, hKs, rfl⟩ := hG
  intro r hE H locs ls hP hS hl
  exact lv_icmp_lt hx hb hd ht (fun h => k1 h r (by rw [if_pos h] at hE; exact hE) H locs ls hP hS hl) (fun h => k2 h r (by rw [if_neg h] at hE; exact hE) H locs ls hP hS hl)
theorem r_icmp_ltS {x y : Int32} {e1 e2 : ρ} {off : Int} (ht : (pc : Int) + off = (tgt : Int)) (hG : IsG X own cw nL d rt out G) (hd : decode cw pc = .ok (.if_icmp .lt off, 3)) (k1 : x < y → G (some e1) σ tgt lv st) (k2 : ¬ x < y → G (some e2) σ (pc + 3) lv st) : G (some (if x < y then e1 else e2)) σ pc lv (.int y :: .int x :: st) := by
  obtain ⟨p, e, s, m, args, below, meth, c, hx, hb, hml, hr, hlk, hown, hts, hK, hKs, rfl⟩ := hG
  intro r hE H locs ls hP hS hl
  exact lv_icmp_lt hx hb hd ht (fun h => k1 h r (by rw [if_pos h] at hE; exact hE) H locs ls hP hS hl) (fun h => k2 h r (by rw [if_neg h] at hE; exact hE) H locs ls hP hS hl)
theorem r_icmp_ltT {x y : Int32} {off : Int} (hc : x < y) (ht : (pc : Int) + off = (tgt : Int)) (hG : IsG X own cw nL d rt out G) (hd : decode cw pc = .ok (.if_icmp .lt off, 3)) (k1 : G E σ tgt lv st) : G E σ pc lv (.int y :: .int x :: st) := by
  obtain ⟨p, e, s, m, args, below, meth, c, hx, hb, hml, hr, hlk, hown, hts, hK, hKs, rfl⟩ := hG
  intro r hE H locs ls hP hS hl
  exact lv_icmp_lt hx hb hd ht (fun h => k1 r hE H locs ls hP hS hl) (fun h => absurd hc h)
theorem r_icmp_ge {x y : Int32} {off : Int} (ht : (pc : Int) + off = (tgt : Int)) (hG : IsG X own cw nL d rt out G) (hd : decode cw pc = .ok (.if_icmp .ge off, 3)) (k1 : y ≤ x → G (E1) σ tgt lv st) (k2 : ¬ y ≤ x → G (E2) σ (pc + 3) lv st) : G (if y ≤ x then E1 else E2) σ pc lv (.int y :: .int x :: st) := by
  obtain ⟨p, e, s, m, args, below, meth, c, hx, hb, hml, hr, hlk, hown, hts, hK, hKs, rfl⟩ := hG
  intro r hE H locs ls hP hS hl
  exact lv_icmp_ge hx hb hd ht (fun h => k1 h r (by rw [if_pos h] at hE; exact hE) H locs ls hP hS hl) (fun h => k2 h r (by rw [if_neg h] at hE; exact hE) H locs ls hP hS hl)
theorem r_icmp_geS {x y : Int32} {e1 e2 : ρ} {off : Int} (ht : (pc : Int) + off = (tgt : Int)) (hG : IsG X own cw nL d rt out G) (hd : decode cw pc = .ok (.if_icmp .ge off, 3)) (k1 : y ≤ x → G (some e1) σ tgt lv st) (k2 : ¬ y ≤ x → G (some e2) σ (pc + 3) lv st) : G (some (if y ≤ x then e1 else e2)) σ pc lv (.int y :: .int x :: st) := by
  obtain ⟨p, e, s, m, args, below, meth, c, hx, hb, hml, hr, hlk, hown, hts, hK, hKs, rfl⟩ := hG
  intro r hE H locs ls hP hS hl
  exact lv_icmp_ge hx hb hd ht (fun h => k1 h r (by rw [if_pos h] at hE; exact hE) H locs ls hP hS hl) (fun h => k2 h r (by rw [if_neg h] at hE; exact hE) H locs ls hP hS hl)
theorem r_icmp_geT {x y : Int32} {off : Int} (hc : y ≤ x) (ht : (pc : Int) + off = (tgt : Int)) (hG : IsG X own cw nL d rt out G) (hd : decode cw pc = .ok (.if_icmp .ge off, 3)) (k1 : G E σ tgt lv st) : G E σ pc lv (.int y :: .int x :: st) := by
  obtain ⟨p, e, s, m, args, below, meth, c, hx, hb, hml, hr, hlk, hown, hts, hK, hKs, rfl⟩ := hG
  intro r hE H locs ls hP hS hl
  exact lv_icmp_ge hx hb hd ht (fun h => k1 r hE H locs ls hP hS hl) (fun h => absurd hc h)
theorem r_icmp_gt {x y : Int32} {off : Int} (ht : (pc : Int) + off = (tgt : Int)) (hG : IsG X own cw nL d rt out G) (hd : decode cw pc = .ok (.if_icmp .gt off, 3)) (k1 : y < x → G (E1) σ tgt lv st) (k2 : ¬ y < x → G (E2) σ (pc + 3) lv st) : G (if y < x then E1 else E2) σ pc lv (.int y :: .int x :: st) := by
  obtain ⟨p, e, s, m, args, below, meth, c, hx, hb, hml, hr, hlk, hown, hts, hK, hKs, rfl⟩ := hG
  intro r hE H locs ls hP hS hl
  exact lv_icmp_gt hx hb hd ht (fun h => k1 h r (by rw [if_pos h] at hE; exact hE) H locs ls hP hS hl) (fun h => k2 h r (by rw [if_neg h] at hE; exact hE) H locs ls hP hS hl)
theorem r_icmp_gtS {x y : Int32} {e1 e2 : ρ} {off : Int} (ht : (pc : Int) + off = (tgt : Int)) (hG : IsG X own cw nL d rt out G) (hd : decode cw pc = .ok (.if_icmp .gt off, 3)) (k1 : y < x → G (some e1) σ tgt lv st) (k2 : ¬ y < x → G (some e2) σ (pc + 3) lv st) : G (some (if y < x then e1 else e2)) σ pc lv (.int y :: .int x :: st) := by
  obtain ⟨p, e, s, m, args, below, meth, c, hx, hb, hml, hr, hlk, hown, hts, hK, hKs, rfl⟩ := hG
  intro r hE H locs ls hP hS hl
  exact lv_icmp_gt hx hb hd ht (fun h => k1 h r (by rw [if_pos h] at hE; exact hE) H locs ls hP hS hl) (fun h => k2 h r (by rw [if_neg h] at hE; exact hE) H locs ls hP hS hl)
theorem r_icmp_gtT {x y : Int32} {off : Int} (hc : y < x) (ht : (pc : Int) + off = (tgt : Int)) (hG : IsG X own cw nL d rt out G) (hd : decode cw pc = .ok (.if_icmp .gt off, 3)) (k1 : G E σ tgt lv st) : G E σ pc lv (.int y :: .int x :: st) := by
  obtain ⟨p, e, s, m, args, below, meth, c, hx, hb, hml, hr, hlk, hown, hts, hK, hKs, rfl⟩ := hG
  intro r hE H locs ls hP hS hl
  exact lv_icmp_gt hx hb hd ht (fun h => k1 r hE H locs ls hP hS hl) (fun h => absurd hc h)
theorem r_icmp_le {x y : Int32} {off : Int} (ht : (pc : Int) + off = (tgt : Int)) (hG : IsG X own cw nL d rt out G) (hd : decode cw pc = .ok (.if_icmp .le off, 3)) (k1 : x ≤ y → G (E1) σ tgt lv st) (k2 : ¬ x ≤ y → G (E2) σ (pc + 3) lv st) : G (if x ≤ y then E1 else E2) σ pc lv (.int y :: .int x :: st) := by
  obtain ⟨p, e, s, m, args, below, meth, c, hx, hb, hml, hr, hlk, hown, hts, hK, hKs, rfl⟩ := hG
  intro r hE H locs ls hP hS hl
  exact lv_icmp_le hx hb hd ht (fun h => k1 h r (by rw [if_pos h] at hE; exact hE) H locs ls hP hS hl) (fun h => k2 h r (by rw [if_neg h] at hE; exact hE) H locs ls hP hS hl)
theorem r_icmp_leS {x y : Int32} {e1 e2 : ρ} {off : Int} (ht : (pc : Int) + off = (tgt : Int)) (hG : IsG X own cw nL d rt out G) (hd : decode cw pc = .ok (.if_icmp .le off, 3)) (k1 : x ≤ y → G (some e1) σ tgt lv st) (k2 : ¬ x ≤ y → G (some e2) σ (pc + 3) lv st) : G (some (if x ≤ y then e1 else e2)) σ pc lv (.int y :: .int x :: st) := by
  obtain ⟨p, e, s, m, args, below, meth, c, hx, hb, hml, hr, hlk, hown, hts, hK, hKs, rfl⟩ := hG
  intro r hE H locs ls hP hS hl
  exact lv_icmp_le hx hb hd ht (fun h => k1 h r (by rw [if_pos h] at hE; exact hE) H locs ls hP hS hl) (fun h => k2 h r (by rw [if_neg h] at hE; exact hE) H locs ls hP hS hl)
theorem r_icmp_leT {x y : Int32} {off : Int} (hc : x ≤ y) (ht : (pc : Int) + off = (tgt : Int)) (hG : IsG X own cw nL d rt out G) (hd : decode cw pc = .ok (.if_icmp .le off, 3)) (k1 : G E σ tgt lv st) : G E σ pc lv (.int y :: .int x :: st) := by
  obtain ⟨p, e, s, m, args, below, meth, c, hx, hb, hml, hr, hlk, hown, hts, hK, hKs, rfl⟩ := hG
  intro r hE H locs ls hP hS hl
  exact lv_icmp_le hx hb hd ht (fun h => k1 r hE H locs ls hP hS hl) (fun h => absurd hc h)
theorem r_if_eqF {x : Int32} {off : Int} (hc : ¬ x = 0) (ht : (pc : Int) + off = (tgt : Int)) (hG : IsG X own cw nL d rt out G) (hd : decode cw pc = .ok (.ifCond .eq off, 3)) (k : G E σ (pc + 3) lv st) : G E σ pc lv (.int x :: st) := by
  obtain ⟨p, e, s, m, args, below, meth, c, hx, hb, hml, hr, hlk, hown, hts, hK, hKs, rfl⟩ := hG
  intro r hE H locs ls hP hS hl
  exact lv_if_eq hx hb hd ht (fun h => absurd h hc) (fun h => k r hE H locs ls hP hS hl)
theorem r_if_neF {x : Int32} {off : Int} (hc : x = 0) (ht : (pc : Int) + off = (tgt : Int)) (hG : IsG X own cw nL d rt out G) (hd : decode cw pc = .ok (.ifCond .ne off, 3)) (k : G E σ (pc + 3) lv st) : G E σ pc lv (.int x :: st) := by
  obtain ⟨p, e, s, m, args, below, meth, c, hx, hb, hml, hr, hlk, hown, hts, hK, hKs, rfl⟩ := hG
  intro r hE H locs ls hP hS hl
  exact lv_if_ne hx hb hd ht (fun h => absurd hc h) (fun h => k r hE H locs ls hP hS hl)
theorem r_if_ltF {x : Int32} {off : Int} (hc : ¬ x < 0) (ht : (pc : Int) + off = (tgt : Int)) (hG : IsG X own cw nL d rt out G) (hd : decode cw pc = .ok (.ifCond .lt off, 3)) (k : G E σ (pc + 3) lv st) : G E σ pc lv (.int x :: st) := by
  obtain ⟨p, e, s, m, args, below, meth, c, hx, hb, hml, hr, hlk, hown, hts, hK, hKs, rfl⟩ := hG
  intro r hE H locs ls hP hS hl
  exact lv_if_lt hx hb hd ht (fun h => absurd h hc) (fun h => k r hE H locs ls hP hS hl)
theorem r_if_geF {x : Int32} {off : Int} (hc : ¬ 0 ≤ x) (ht : (pc : Int) + off = (tgt : Int)) (hG : IsG X own cw nL d rt out G) (hd : decode cw pc = .ok (.ifCond .ge off, 3)) (k : G E σ (pc + 3) lv st) : G E σ pc lv (.int x :: st) := by
  obtain ⟨p, e, s, m, args, below, meth, c, hx, hb, hml, hr, hlk, hown, hts, hK, hKs, rfl⟩ := hG
  intro r hE H locs ls hP hS hl
  exact lv_if_ge hx hb hd ht (fun h => absurd h hc) (fun h => k r hE H locs ls hP hS hl)
theorem r_if_gtF {x : Int32} {off : Int} (hc : ¬ 0 < x) (ht : (pc : Int) + off = (tgt : Int)) (hG : IsG X own cw nL d rt out G) (hd : decode cw pc = .ok (.ifCond .gt off, 3)) (k : G E σ (pc + 3) lv st) : G E σ pc lv (.int x :: st) := by
  obtain ⟨p, e, s, m, args, below, meth, c, hx, hb, hml, hr, hlk, hown, hts, hK, hKs, rfl⟩ := hG
  intro r hE H locs ls hP hS hl
  exact lv_if_gt hx hb hd ht (fun h => absurd h hc) (fun h => k r hE H locs ls hP hS hl)
theorem r_if_leF {x : Int32} {off : Int} (hc : ¬ x ≤ 0) (ht : (pc : Int) + off = (tgt : Int)) (hG : IsG X own cw nL d rt out G) (hd : decode cw pc = .ok (.ifCond .le off, 3)) (k : G E σ (pc + 3) lv st) : G E σ pc lv (.int x :: st) := by
  obtain ⟨p, e, s, m, args, below, meth, c, hx, hb, hml, hr, hlk, hown, hts, hK, hKs, rfl⟩ := hG
  intro r hE H locs ls hP hS hl
  exact lv_if_le hx hb hd ht (fun h => absurd h hc) (fun h => k r hE H locs ls hP hS hl)
theorem r_icmp_eqF {x y : Int32} {off : Int} (hc : ¬ x = y) (ht : (pc : Int) + off = (tgt : Int)) (hG : IsG X own cw nL d rt out G) (hd : decode cw pc = .ok (.if_icmp .eq off, 3)) (k : G E σ (pc + 3) lv st) : G E σ pc lv (.int y :: .int x :: st) := by
  obtain ⟨p, e, s, m, args, below, meth, c, hx, hb, hml, hr, hlk, hown, hts, hK, hKs, rfl⟩ := hG
  intro r hE H locs ls hP hS hl
  exact lv_icmp_eq hx hb hd ht (fun h => absurd h hc) (fun h => k r hE H locs ls hP hS hl)
theorem r_icmp_neF {x y : Int32} {off : Int} (hc : x = y) (ht : (pc : Int) + off = (tgt : Int)) (hG : IsG X own cw nL d rt out G) (hd : decode cw pc = .ok (.if_icmp .ne off, 3)) (k : G E σ (pc + 3) lv st) : G E σ pc lv (.int y :: .int x :: st) := by
  obtain ⟨p, e, s, m, args, below, meth, c, hx, hb, hml, hr, hlk, hown, hts, hK, hKs, rfl⟩ := hG
  intro r hE H locs ls hP hS hl
  exact lv_icmp_ne hx hb hd ht (fun h => absurd hc h) (fun h => k r hE H locs ls hP hS hl)
theorem r_icmp_ltF {x y : Int32} {off : Int} (hc : ¬ x < y) (ht : (pc : Int) + off = (tgt : Int)) (hG : IsG X own cw nL d rt out G) (hd : decode cw pc = .ok (.if_icmp .lt off, 3)) (k : G E σ (pc + 3) lv st) : G E σ pc lv (.int y :: .int x :: st) := by
  obtain ⟨p, e, s, m, args, below, meth, c, hx, hb, hml, hr, hlk, hown, hts, hK, hKs, rfl⟩ := hG
  intro r hE H locs ls hP hS hl
  exact lv_icmp_lt hx hb hd ht (fun h => absurd h hc) (fun h => k r hE H locs ls hP hS hl)
theorem r_icmp_geF {x y : Int32} {off : Int} (hc : ¬ y ≤ x) (ht : (pc : Int) + off = (tgt : Int)) (hG : IsG X own cw nL d rt out G) (hd : decode cw pc = .ok (.if_icmp .ge off, 3)) (k : G E σ (pc + 3) lv st) : G E σ pc lv (.int y :: .int x :: st) := by
  obtain ⟨p, e, s, m, args, below, meth, c, hx, hb, hml, hr, hlk, hown, hts, hK, hKs, rfl⟩ := hG
  intro r hE H locs ls hP hS hl
  exact lv_icmp_ge hx hb hd ht (fun h => absurd h hc) (fun h => k r hE H locs ls hP hS hl)
theorem r_icmp_gtF {x y : Int32} {off : Int} (hc : ¬ y < x) (ht : (pc : Int) + off = (tgt : Int)) (hG : IsG X own cw nL d rt out G) (hd : decode cw pc = .ok (.if_icmp .gt off, 3)) (k : G E σ (pc + 3) lv st) : G E σ pc lv (.int y :: .int x :: st) := by
  obtain ⟨p, e, s, m, args, below, meth, c, hx, hb, hml, hr, hlk, hown, hts, hK, hKs, rfl⟩ := hG
  intro r hE H locs ls hP hS hl
  exact lv_icmp_gt hx hb hd ht (fun h => absurd h hc) (fun h => k r hE H locs ls hP hS hl)
theorem r_icmp_leF {x y : Int32} {off : Int} (hc : ¬ x ≤ y) (ht : (pc : Int) + off = (tgt : Int)) (hG : IsG X own cw nL d rt out G) (hd : decode cw pc = .ok (.if_icmp .le off, 3)) (k : G E σ (pc + 3) lv st) : G E σ pc lv (.int y :: .int x :: st) := by
  obtain ⟨p, e, s, m, args, below, meth, c, hx, hb, hml, hr, hlk, hown, hts, hK, hKs, rfl⟩ := hG
  intro r hE H locs ls hP hS hl
  exact lv_icmp_le hx hb hd ht (fun h => absurd h hc) (fun h => k r hE H locs ls hP hS hl)
theorem r_ite {cc : Prop} [Decidable cc] (hG : IsG X own cw nL d rt out G) (k1 : cc → G E1 σ pc lv st) (k2 : ¬ cc → G E2 σ pc lv st) : G (if cc then E1 else E2) σ pc lv st := by
  obtain ⟨p, e, s, m, args, below, meth, c, hx, hb, hml, hr, hlk, hown, hts, hK, hKs, rfl⟩ := hG
  intro r hE H locs ls hP hS hl
  by_cases h : cc
  · exact k1 h r (by rw [if_pos h] at hE; exact hE) H locs ls hP hS hl
  · exact k2 h r (by rw [if_neg h] at hE; exact hE) H locs ls hP hS hl
theorem r_iteS {cc : Prop} [Decidable cc] {e1 e2 : ρ} (hG : IsG X own cw nL d rt out G) (k1 : cc → G (some e1) σ pc lv st) (k2 : ¬ cc → G (some e2) σ pc lv st) : G (some (if cc then e1 else e2)) σ pc lv st := by
  obtain ⟨p, e, s, m, args, below, meth, c, hx, hb, hml, hr, hlk, hown, hts, hK, hKs, rfl⟩ := hG
  intro r hE H locs ls hP hS hl
  by_cases h : cc
  · exact k1 h r (by rw [if_pos h] at hE; exact hE) H locs ls hP hS hl
  · exact k2 h r (by rw [if_neg h] at hE; exact hE) H locs ls hP hS hl
theorem r_chk {c : Prop} [Decidable c] (hG : IsG X own cw nL d rt out G) (k1 : c → G E1 σ pc lv st) : G (if c then E1 else none) σ pc lv st := r_ite hG k1 (fun _ => by
  obtain ⟨p, e, s, m, args, below, meth, c, hx, hb, hml, hr, hlk, hown, hts, hK, hKs, rfl⟩ := hG
  intro r hE
  cases hE)
theorem r_none (hG : IsG X own cw nL d rt out G) : G none σ pc lv st := by
  obtain ⟨p, e, s, m, args, below, meth, c, hx, hb, hml, hr, hlk, hown, hts, hK, hKs, rfl⟩ := hG
  intro r hE
  cases hE
theorem r_tableIn {dflt lo hi : Int} {offs : Array Int} {len : Nat} {x : Int32} {off : Int} (h1 : ¬ x.toInt < lo) (h2 : ¬ hi < x.toInt) (ho : offs[(x.toInt - lo).toNat]? = some off) (ht : (pc : Int) + off = (tgt : Int)) (hG : IsG X own cw nL d rt out G) (hd : decode cw pc = .ok (.tableswitch dflt lo hi offs, len)) (k : G E σ tgt lv st) : G E σ pc lv (.int x :: st) := by
  obtain ⟨p, e, s, m, args, below, meth, c, hx, hb, hml, hr, hlk, hown, hts, hK, hKs, rfl⟩ := hG
  intro r hE H locs ls hP hS hl
  exact lv_tableIn hx hb hd h1 h2 ho ht (k r hE H locs ls hP hS hl)
theorem r_tableOut {dflt lo hi : Int} {offs : Array Int} {len : Nat} {x : Int32} (h : x.toInt < lo ∨ hi < x.toInt) (ht : (pc : Int) + dflt = (tgt : Int)) (hG : IsG X own cw nL d rt out G) (hd : decode cw pc = .ok (.tableswitch dflt lo hi offs, len)) (k : G E σ tgt lv st) : G E σ pc lv (.int x :: st) := by
  obtain ⟨p, e, s, m, args, below, meth, c, hx, hb, hml, hr, hlk, hown, hts, hK, hKs, rfl⟩ := hG
  intro r hE H locs ls hP hS hl
  exact lv_tableOut hx hb hd h ht (k r hE H locs ls hP hS hl)
theorem r_lookup {dflt : Int} {ps : Array (Int × Int)} {len : Nat} {x : Int32} {off : Int} (hp : (ps.toList.zip (ps.toList.drop 1)).all (fun (a, next) => a.1 < next.1) = true) (ho : Op.lookupswitch.offset ps.toList dflt x.toInt = off) (ht : (pc : Int) + off = (tgt : Int)) (hG : IsG X own cw nL d rt out G) (hd : decode cw pc = .ok (.lookupswitch dflt ps, len)) (k : G E σ tgt lv st) : G E σ pc lv (.int x :: st) := by
  obtain ⟨p, e, s, m, args, below, meth, c, hx, hb, hml, hr, hlk, hown, hts, hK, hKs, rfl⟩ := hG
  intro r hE H locs ls hP hS hl
  exact lv_lookup hx hb hd hp ho ht (k r hE H locs ls hP hS hl)
theorem r_tret {r0 : ρ} {v : Int32} {ty : FieldType} (hn : rvN (some ty) (some (.int v))) (ho : out r0 = (some (.int v), σ)) (hG : IsG X own cw nL d (some ty) out G) (hd : decode cw pc = .ok (.ireturn, 1)) : G (some r0) σ pc lv [.int v] := by
  obtain ⟨p, e, s, m, args, below, meth, c, hx, hb, hml, hr, hlk, hown, hts, hK, hKs, rfl⟩ := hG
  intro r hE H locs ls hP hS hl
  cases hE
  exact W.zret hx hb hr (hn _ _ rfl rfl) (fun t ht hW => ⟨⟨congrArg (fun z => Outcome.returned z) (by rw [ho]), by rw [ho]; exact hn, by rw [ho]; exact ⟨by rw [ht]; exact hP, va_K.moved hW.alike hK, hKs.go hS ht hW⟩⟩, hS.F ht⟩) hS.2.2 hd hlk
theorem r_iret {r0 : ρ} {v : Int32} (ho : out r0 = (some (.int v), σ)) (hG : IsG X own cw nL d (some .int) out G) (hd : decode cw pc = .ok (.ireturn, 1)) : G (some r0) σ pc lv [.int v] := by
  obtain ⟨p, e, s, m, args, below, meth, c, hx, hb, hml, hr, hlk, hown, hts, hK, hKs, rfl⟩ := hG
  intro r hE H locs ls hP hS hl
  cases hE
  exact W.iret hx hb hr (fun t ht hW => ⟨⟨congrArg (fun z => Outcome.returned z) (by rw [ho]), by rw [ho]; exact rvN_int v, by rw [ho]; exact ⟨by rw [ht]; exact hP, va_K.moved hW.alike hK, hKs.go hS ht hW⟩⟩, hS.F ht⟩) hS.2.2 hd hlk
theorem r_zret {r0 : ρ} {v : Int32} (hn : rvN (some .boolean) (some (.int v))) (ho : out r0 = (some (.int v), σ)) (hG : IsG X own cw nL d (some .boolean) out G) (hd : decode cw pc = .ok (.ireturn, 1)) : G (some r0) σ pc lv [.int v] := by
  obtain ⟨p, e, s, m, args, below, meth, c, hx, hb, hml, hr, hlk, hown, hts, hK, hKs, rfl⟩ := hG
  intro r hE H locs ls hP hS hl
  cases hE
  exact W.zret hx hb hr (hn _ _ rfl rfl) (fun t ht hW => ⟨⟨congrArg (fun z => Outcome.returned z) (by rw [ho]), by rw [ho]; exact hn, by rw [ho]; exact ⟨by rw [ht]; exact hP, va_K.moved hW.alike hK, hKs.go hS ht hW⟩⟩, hS.F ht⟩) hS.2.2 hd hlk
theorem r_lret {r0 : ρ} {v : Int64} (ho : out r0 = (some (.long v), σ)) (hG : IsG X own cw nL d (some .long) out G) (hd : decode cw pc = .ok (.lreturn, 1)) : G (some r0) σ pc lv [.long v] := by
  obtain ⟨p, e, s, m, args, below, meth, c, hx, hb, hml, hr, hlk, hown, hts, hK, hKs, rfl⟩ := hG
  intro r hE H locs ls hP hS hl
  cases hE
  exact W.lret hx hb hr (fun t ht hW => ⟨⟨congrArg (fun z => Outcome.returned z) (by rw [ho]), by rw [ho]; exact rvN_long v, by rw [ho]; exact ⟨by rw [ht]; exact hP, va_K.moved hW.alike hK, hKs.go hS ht hW⟩⟩, hS.F ht⟩) hS.2.2 hd hlk
theorem r_vret {r0 : ρ} (ho : out r0 = (none, σ)) (hG : IsG X own cw nL d none out G) (hd : decode cw pc = .ok (.return_, 1)) : G (some r0) σ pc lv [] := by
  obtain ⟨p, e, s, m, args, below, meth, c, hx, hb, hml, hr, hlk, hown, hts, hK, hKs, rfl⟩ := hG
  intro r hE H locs ls hP hS hl
  cases hE
  exact W.vret hx hb hr (fun t ht hW => ⟨⟨congrArg (fun z => Outcome.returned z) (by rw [ho]), by rw [ho]; exact rvN_none _, by rw [ho]; exact ⟨by rw [ht]; exact hP, va_K.moved hW.alike hK, hKs.go hS ht hW⟩⟩, hS.F ht⟩) hS.2.2 hd hlk
end GR
