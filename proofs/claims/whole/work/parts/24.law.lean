/-! THE CLAIM OUT OF ONE WALK OF THE LAW'S BODY. Your part is whole_start (and what it stands on); all else here is the same for every law, but numbers. -/
def R_law : String := "GondolaToldLaw"
def lw_P (b : Addr) (xs : List Int32) (args : Array Value) (s : State) : Prop := args = #[.ref b] ∧ s.IntsAt b xs ∧ xs.length ≤ 3584 ∧ (Jvm.Cond.and given_1 narrow_1).before args s = true
def lw_Q (_ : Array Value) (s : State) (o : Outcome) (t : State) : Prop := o = .returned (some (.int 1)) ∧ Framed s o t [] 600000 7302250
def lw_Z (below : List Frame) (a : Array Value) (s : State) : State → Prop := fun t => ∃ o, t.status = .running ∧ Ended t below o ∧ lw_Q a s o t
/-- the law's own end, with 1 on the stack, nothing written that was there before, its room as the claim has it -/
theorem lw_ret {p : Program} {l : Launch} {e : Env} {s : State} {m : MethodId} {below : List Frame} {meth : Method} {c : Code} {b : Nat} (hx : p.tables.exec = Jvm.exec) (hb : c.code = code) (hr : meth.sig.returnType = ret) (hlocks : meth.locks = false) {pc : Nat} {H : Heap} {ls : Array Slot} (hdg : decode code pc = .ok (.ireturn, 1)) : W p l e room_1 s m #[Value.ref b] below meth c H [] 600000 7302250 (lw_Z below #[Value.ref b] s) (F0 m pc ls [.int 1]) := by
  intro T hT X
  obtain ⟨fs, hret, hrun, hended, hW, hframe⟩ := X.leave (v := some (.int 1)) (hlocks := hlocks) (fun h => by rw [hr] at h; cases h)
  have hmeth' : T.vm.method? m = some meth := X.method'
  refine ⟨T.setFrames fs, ?_, .returned (some (.int 1)), hrun, hended, rfl, ⟨_, rfl⟩, hW, hframe⟩
  jvm_step X.here [X.here.top, hx, hb, hdg, hmeth', hr, ret, narrow_b1]
  (try refine ⟨rfl, ?_⟩); (try refine ⟨rfl, ?_⟩)
  first | (intro acts; rw [hret _ acts rfl rfl rfl]) | rw [hret _ _ rfl rfl rfl]
  exact Steps.refl _
/-- what holds at the law's entry: the machine, the code, the tables' words (any of lw_tbl by 'hts w (by decide +kernel)'), the script of L ints xs at the cell b, what the Statement gives of the start (any of its parts by flat_of_before) -/
def lw_At (p : Program) (s : State) (m : MethodId) (meth : Method) (c : Code) (b L : Nat) (xs : Nat → Int32) : Prop :=
  p.tables.exec = Jvm.exec ∧ c.code = code ∧ meth.sig.returnType = ret ∧ c.maxLocals = 4 ∧ s.vm.findClass R_law = some m.cls ∧ (∀ w ∈ lw_tbl, w.before #[Value.ref b] s = true) ∧ va_X b L xs s s.heap ∧ b < s.heap.size ∧ meth.locks = false ∧ (Jvm.Cond.and given_1 narrow_1).before #[Value.ref b] s = true
def IsL (X : Cx) (b0 L : Nat) (xs : Nat → Int32) (G : St → Nat → List (Nat × Value) → List Value → Prop) : Prop :=
  ∃ (p : Program) (e : Env) (s : State) (m : MethodId) (below : List Frame) (meth : Method) (c : Code),
    p.tables.exec = Jvm.exec ∧ c.code = code ∧ c.maxLocals = 4 ∧ meth.sig.returnType = ret ∧ meth.locks = false ∧ s.vm.findClass R_law = some m.cls ∧ (∀ w ∈ gT, w.before #[Value.ref b0] s = true) ∧ va_K X.2.2.1 vwCl (tysOf X.2.2.2.1) s ∧ Ks X.2.1 X.2.2.2.2 s ∧ va_X b0 L xs s s.heap ∧ b0 < s.heap.size ∧ X.2.1 = s.heap.size ∧
    G = fun σ pc lv st => ∀ (H : Heap) (locs : List Loc) (ls : Array Slot), va_P X.2.2.1 vwCl (wsOf X.2.1 X.2.2.2.1 σ) H → va_S (fun q => X.2.1 ≤ q) s.heap H locs → lv_has ls 4 lv →
      W p X.1 e room_1 s m #[Value.ref b0] below meth c H locs 133 3341 (lw_Z below #[Value.ref b0] s) (F0 m pc ls st)
section LW
variable {X : Cx} {b0 L : Nat} {xs : Nat → Int32} {G : St → Nat → List (Nat × Value) → List Value → Prop} {σ σ1 : St} {pc tgt : Nat} {lv lv' : List (Nat × Value)} {st : List Value} {i index : Nat}
theorem q_iconst {z : Int} {v : Int32} (hv : Int32.ofInt z = v) (hG : IsL X b0 L xs G) (hd : decode code pc = .ok (.iconst z, 1)) (k : G σ (pc + 1) lv (.int v :: st)) : G σ pc lv (st) := by
  obtain ⟨p, e, s, m, below, meth, c, hx, hb, hml, hr, hlk, hown, hts, hK, hKs, hX, hbl, hbs, rfl⟩ := hG
  intro H locs ls hP hS hl
  exact lv_iconst hx hb hd hv (k H locs ls hP hS hl)
theorem q_bipush {z : Int} {v : Int32} (hv : (Int8.ofInt z).toInt32 = v) (hG : IsL X b0 L xs G) (hd : decode code pc = .ok (.bipush z, 2)) (k : G σ (pc + 2) lv (.int v :: st)) : G σ pc lv (st) := by
  obtain ⟨p, e, s, m, below, meth, c, hx, hb, hml, hr, hlk, hown, hts, hK, hKs, hX, hbl, hbs, rfl⟩ := hG
  intro H locs ls hP hS hl
  exact lv_bipush hx hb hd hv (k H locs ls hP hS hl)
theorem q_iadd {x y : Int32} (hG : IsL X b0 L xs G) (hd : decode code pc = .ok (.iadd, 1)) (k : G σ (pc + 1) lv (.int (x + y) :: st)) : G σ pc lv (.int y :: .int x :: st) := by
  obtain ⟨p, e, s, m, below, meth, c, hx, hb, hml, hr, hlk, hown, hts, hK, hKs, hX, hbl, hbs, rfl⟩ := hG
  intro H locs ls hP hS hl
  exact lv_iadd hx hb hd (k H locs ls hP hS hl)
theorem q_isub {x y : Int32} (hG : IsL X b0 L xs G) (hd : decode code pc = .ok (.isub, 1)) (k : G σ (pc + 1) lv (.int (x - y) :: st)) : G σ pc lv (.int y :: .int x :: st) := by
  obtain ⟨p, e, s, m, below, meth, c, hx, hb, hml, hr, hlk, hown, hts, hK, hKs, hX, hbl, hbs, rfl⟩ := hG
  intro H locs ls hP hS hl
  exact lv_isub hx hb hd (k H locs ls hP hS hl)
theorem q_iand {x y : Int32} (hG : IsL X b0 L xs G) (hd : decode code pc = .ok (.iand, 1)) (k : G σ (pc + 1) lv (.int (x &&& y) :: st)) : G σ pc lv (.int y :: .int x :: st) := by
  obtain ⟨p, e, s, m, below, meth, c, hx, hb, hml, hr, hlk, hown, hts, hK, hKs, hX, hbl, hbs, rfl⟩ := hG
  intro H locs ls hP hS hl
  exact lv_iand hx hb hd (k H locs ls hP hS hl)
theorem q_lcmp {x y : Int64} (hG : IsL X b0 L xs G) (hd : decode code pc = .ok (.lcmp, 1)) (k : G σ (pc + 1) lv (.int (lg_cmp x y) :: st)) : G σ pc lv (.long y :: .long x :: st) := by
  obtain ⟨p, e, s, m, below, meth, c, hx, hb, hml, hr, hlk, hown, hts, hK, hKs, hX, hbl, hbs, rfl⟩ := hG
  intro H locs ls hP hS hl
  exact W.lcmp hx hb hd (k H locs ls hP hS hl)
theorem q_iload_n {jj : Fin 4} {x : Int32} (q i : Nat) (hq : lv[q]? = some (i, .int x)) (hi : (jj : Nat) = i) (hG : IsL X b0 L xs G) (hd : decode code pc = .ok (.iload_n jj, 1)) (k : G σ (pc + 1) lv (.int x :: st)) : G σ pc lv (st) := by
  obtain ⟨p, e, s, m, below, meth, c, hx, hb, hml, hr, hlk, hown, hts, hK, hKs, hX, hbl, hbs, rfl⟩ := hG
  intro H locs ls hP hS hl
  exact lv_iload_n hx hb hd hi (lv_at hl q hq) (k H locs ls hP hS hl)
theorem q_aload_n {jj : Fin 4} {x : Nat} (q i : Nat) (hq : lv[q]? = some (i, .ref x)) (hi : (jj : Nat) = i) (hG : IsL X b0 L xs G) (hd : decode code pc = .ok (.aload_n jj, 1)) (k : G σ (pc + 1) lv (.ref x :: st)) : G σ pc lv (st) := by
  obtain ⟨p, e, s, m, below, meth, c, hx, hb, hml, hr, hlk, hown, hts, hK, hKs, hX, hbl, hbs, rfl⟩ := hG
  intro H locs ls hP hS hl
  exact lv_aload_n hx hb hd hi (lv_at hl q hq) (k H locs ls hP hS hl)
theorem q_sld {j : Int32} (hj : inB j L = true) (hG : IsL X b0 L xs G) (hd : decode code pc = .ok (.iaload, 1)) (k : G σ (pc + 1) lv (.int (xs j.toNatClampNeg) :: st)) : G σ pc lv (.int j :: .ref b0 :: st) := by
  obtain ⟨p, e, s, m, below, meth, c, hx, hb, hml, hr, hlk, hown, hts, hK, hKs, hX, hbl, hbs, rfl⟩ := hG
  intro H locs ls hP hS hl
  exact va_sld hx hb hX hbl (by show ¬ X.2.1 ≤ b0; omega) hS (inB_vp hj) hd (k H locs ls hP hS hl)
theorem q_slen  (hG : IsL X b0 L xs G) (hd : decode code pc = .ok (.arraylength, 1)) (k : G σ (pc + 1) lv (.int (Int32.ofNat L) :: st)) : G σ pc lv (.ref b0 :: st) := by
  obtain ⟨p, e, s, m, below, meth, c, hx, hb, hml, hr, hlk, hown, hts, hK, hKs, hX, hbl, hbs, rfl⟩ := hG
  intro H locs ls hP hS hl
  exact va_slen hx hb hX hbl (by show ¬ X.2.1 ≤ b0; omega) hS hd (k H locs ls hP hS hl)
theorem q_iinc {i : Nat} {z : Int} {x v : Int32} (q : Nat) (hq : lv[q]? = some (i, .int x)) (hv : x + Int32.ofInt z = v) (hn : i < 4) (hv2 : (i, Value.int v) :: lv.filter (fun q => !(q.1 == i) && !(q.1 + 1 == i && q.2.category == 2)) = lv') (hG : IsL X b0 L xs G) (hd : decode code pc = .ok (.iinc i z, 3)) (k : G σ (pc + 3) lv' st) : G σ pc lv st := by
  obtain ⟨p, e, s, m, below, meth, c, hx, hb, hml, hr, hlk, hown, hts, hK, hKs, hX, hbl, hbs, rfl⟩ := hG
  intro H locs ls hP hS hl
  exact lv_iinc hx hb hd hl hq hv hn hv2 (fun ls' hl' => k H locs ls' hP hS hl')
theorem q_goto {off : Int} (ht : (pc : Int) + off = (tgt : Int)) (hG : IsL X b0 L xs G) (hd : decode code pc = .ok (.goto off, 3)) (k : G σ tgt lv st) : G σ pc lv st := by
  obtain ⟨p, e, s, m, below, meth, c, hx, hb, hml, hr, hlk, hown, hts, hK, hKs, hX, hbl, hbs, rfl⟩ := hG
  intro H locs ls hP hS hl
  exact lv_goto hx hb hd ht (k H locs ls hP hS hl)
theorem q_sub (ps : List Nat) (h : lv_pick lv ps = lv') (hG : IsL X b0 L xs G) (k : G σ pc lv' st) : G σ pc lv st := by
  obtain ⟨p, e, s, m, below, meth, c, hx, hb, hml, hr, hlk, hown, hts, hK, hKs, hX, hbl, hbs, rfl⟩ := hG
  intro H locs ls hP hS hl
  exact k H locs ls hP hS (lv_sub hl ps h)
theorem q_gt {x y : Int32} {off : Int} (ht : (pc : Int) + off = (tgt : Int)) (hG : IsL X b0 L xs G) (hd : decode code pc = .ok (.if_icmp .gt off, 3)) (k1 : y < x → G σ tgt lv st) (k2 : ¬ y < x → G σ (pc + 3) lv st) : G σ pc lv (.int y :: .int x :: st) := by
  obtain ⟨p, e, s, m, below, meth, c, hx, hb, hml, hr, hlk, hown, hts, hK, hKs, hX, hbl, hbs, rfl⟩ := hG
  intro H locs ls hP hS hl
  exact lv_icmp_gt hx hb hd ht (fun h => k1 h H locs ls hP hS hl) (fun h => k2 h H locs ls hP hS hl)
theorem q_eqT {x : Int32} {off : Int} (ht : (pc : Int) + off = (tgt : Int)) (hG : IsL X b0 L xs G) (hd : decode code pc = .ok (.if_icmp .eq off, 3)) (k : G σ tgt lv st) : G σ pc lv (.int x :: .int x :: st) := by
  obtain ⟨p, e, s, m, below, meth, c, hx, hb, hml, hr, hlk, hown, hts, hK, hKs, hX, hbl, hbs, rfl⟩ := hG
  intro H locs ls hP hS hl
  exact lv_icmp_eq hx hb hd ht (fun h => k H locs ls hP hS hl) (fun h => absurd rfl h)
theorem q_zT {x : Int32} {off : Int} (h0 : x = 0) (ht : (pc : Int) + off = (tgt : Int)) (hG : IsL X b0 L xs G) (hd : decode code pc = .ok (.ifCond .eq off, 3)) (k : G σ tgt lv st) : G σ pc lv (.int x :: st) := by
  obtain ⟨p, e, s, m, below, meth, c, hx, hb, hml, hr, hlk, hown, hts, hK, hKs, hX, hbl, hbs, rfl⟩ := hG
  intro H locs ls hP hS hl
  exact lv_if_eq hx hb hd ht (fun h => k H locs ls hP hS hl) (fun h => absurd h0 h)
theorem q_tabIn {dflt lo hi : Int} {offs : Array Int} {len : Nat} {x : Int32} {off : Int} (h1 : ¬ x.toInt < lo) (h2 : ¬ hi < x.toInt) (ho : offs[(x.toInt - lo).toNat]? = some off) (ht : (pc : Int) + off = (tgt : Int)) (hG : IsL X b0 L xs G) (hd : decode code pc = .ok (.tableswitch dflt lo hi offs, len)) (k : G σ tgt lv st) : G σ pc lv (.int x :: st) := by
  obtain ⟨p, e, s, m, below, meth, c, hx, hb, hml, hr, hlk, hown, hts, hK, hKs, hX, hbl, hbs, rfl⟩ := hG
  intro H locs ls hP hS hl
  exact lv_tableIn hx hb hd h1 h2 ho ht (k H locs ls hP hS hl)
theorem q_tabOut {dflt lo hi : Int} {offs : Array Int} {len : Nat} {x : Int32} (h : x.toInt < lo ∨ hi < x.toInt) (ht : (pc : Int) + dflt = (tgt : Int)) (hG : IsL X b0 L xs G) (hd : decode code pc = .ok (.tableswitch dflt lo hi offs, len)) (k : G σ tgt lv st) : G σ pc lv (.int x :: st) := by
  obtain ⟨p, e, s, m, below, meth, c, hx, hb, hml, hr, hlk, hown, hts, hK, hKs, hX, hbl, hbs, rfl⟩ := hG
  intro H locs ls hP hS hl
  exact lv_tableOut hx hb hd h ht (k H locs ls hP hS hl)
theorem q_ret (hG : IsL X b0 L xs G) (hd : decode code pc = .ok (.ireturn, 1)) : G σ pc lv [.int 1] := by
  obtain ⟨p, e, s, m, below, meth, c, hx, hb, hml, hr, hlk, hown, hts, hK, hKs, hX, hbl, hbs, rfl⟩ := hG
  intro H locs ls hP hS hl
  refine va_forget (fun q hq => by rw [← hbs]; exact hS.2.2 q hq) ?_
  refine W.widen (k := 600000) (n := 7302250) (by decide) (by decide) ?_
  exact lw_ret hx hb hr hlk hd
theorem q_call {y : MethodName} {cw1 : ByteArray} {nL1 d1 n ci : Nat} {rt1 : Option FieldType} {As : List Value} {rv : Option Value} {T : u_T} {N : Nat} {fs : List Value}
    (hC : Ctr X y cw1 nL1 rt1 d1 (.ref (X.2.1 + i) :: As) σ rv σ1) (hws : (wsOf X.2.1 X.2.2.2.1 σ)[i]? = some (X.2.1 + i, .inr (ci, fs))) (hcl : vwCl[ci]? = some (y.cls, T, N))
    (hm : Cond.methodLink R_law index y ∈ gT ∧ Cond.instanceMethod y ∈ gT ∧ Cond.selects y.cls y y ∈ gT ∧ Cond.initialized y.cls ∈ gT ∧ Cond.code y cw1 nL1 rt1 ∈ gT)
    (hy : y.cls = y.cls ∧ y.cls ≠ "java/lang/invoke/MethodHandle" ∧ y.cls ≠ "java/lang/invoke/VarHandle" ∧ (parseMethodDescriptor y.desc).map (fun d => d.parameters.length) = some n) (hdl : d1 ≤ 60) (hnl : nL1 ≤ 40) (hn : As.length = n) (hst : (st.map fun v => v.category).sum ≤ 8)
    (hG : IsL X b0 L xs G) (hd : decode code pc = .ok (.invokevirtual index, 3)) {st0 : List Value} (hs0 : st0 = As.reverse ++ .ref (X.2.1 + i) :: st) (k : G σ1 (pc + 3) lv (rv.toList ++ st)) : G σ pc lv st0 := by
  obtain ⟨p, e, s, m, below, meth, c, hx, hb, hml, hr, hlk, hown, hts, hK, hKs, hX, hbl, hbs, rfl⟩ := hG
  intro H locs ls hP hS hl
  subst hs0
  have hG1 : GoodIn gT (wsV R_law index y.cls y (.code y cw1 nL1 rt1 :: gT)) := fun w hw => by
    rcases List.mem_append.mp hw with hw | hw
    · have hw2 : w ∈ gT := by
        simp only [List.mem_cons, List.not_mem_nil, or_false] at hw
        rcases hw with rfl | rfl | rfl | rfl
        · exact hm.1
        · exact hm.2.1
        · exact hm.2.2.1
        · exact hm.2.2.2.1
      exact ⟨hw2, good_of_word (List.all_eq_true.mp goodAll _ hw2)⟩
    · exact goodTbl hm.2.2.2.2 goodAll w hw
  have hroom : (rmd d1).frames + 1 ≤ room_1.frames ∧ 8 + (nL1 + 11) + (rmd d1).locals ≤ room_1.locals := by
    unfold rmd room_1
    dsimp only
    omega
  refine callGo (va_runV (As := As) (rest := st) ⟨hx, hb, hml, hown, hts⟩ hC (cwV n hts hG1 rfl rfl rfl hy hroom) ⟨Ent.blind, va_recv hK hP hcl hws, fun U hU hW => ⟨rfl, Ent.go hP hK hKs hS hU hW⟩⟩ rfl hn hl.1 rfl (lv_room hst) hd ⟨by decide, by decide⟩) hS (fun _ H1 locs1 hP1 hS1 => k H1 locs1 ls hP1 hS1 hl)
theorem q_Goi {y : MethodName} {cw1 : ByteArray} {nL1 d1 n : Nat} {rt1 : Option FieldType} {As : List Value} {x : Int32} (hyc : y.cls = RX11) (hC : Ctr X y cw1 nL1 rt1 d1 (.ref (X.2.1 + 0) :: As) σ (some (.int x)) σ1) (hm : Cond.methodLink R_law index y ∈ gT ∧ Cond.instanceMethod y ∈ gT ∧ Cond.selects y.cls y y ∈ gT ∧ Cond.initialized y.cls ∈ gT ∧ Cond.code y cw1 nL1 rt1 ∈ gT) (hy : y.cls ≠ "java/lang/invoke/MethodHandle" ∧ y.cls ≠ "java/lang/invoke/VarHandle" ∧ (parseMethodDescriptor y.desc).map (fun d => d.parameters.length) = some n) (hdl : d1 ≤ 60) (hnl : nL1 ≤ 40) (hn : As.length = n) (hst : (st.map fun v => v.category).sum ≤ 8) (hG : IsL X b0 L xs G) (hd : decode code pc = .ok (.invokevirtual index, 3)) {st0 : List Value} (hs0 : st0 = As.reverse ++ .ref (X.2.1 + 0) :: st) (k : G σ1 (pc + 3) lv (.int x :: st)) : G σ pc lv st0 :=
  q_call (ci := 11) (T := TX11) (N := 15) hC (wsOf_at (rfl : shp 0 = 11) (by decide) rfl) (by rw [hyc]; rfl) hm ⟨rfl, hy⟩ hdl hnl hn hst hG hd hs0 k
theorem q_Gol {y : MethodName} {cw1 : ByteArray} {nL1 d1 n : Nat} {rt1 : Option FieldType} {As : List Value} {x : Int64} (hyc : y.cls = RX11) (hC : Ctr X y cw1 nL1 rt1 d1 (.ref (X.2.1 + 0) :: As) σ (some (.long x)) σ1) (hm : Cond.methodLink R_law index y ∈ gT ∧ Cond.instanceMethod y ∈ gT ∧ Cond.selects y.cls y y ∈ gT ∧ Cond.initialized y.cls ∈ gT ∧ Cond.code y cw1 nL1 rt1 ∈ gT) (hy : y.cls ≠ "java/lang/invoke/MethodHandle" ∧ y.cls ≠ "java/lang/invoke/VarHandle" ∧ (parseMethodDescriptor y.desc).map (fun d => d.parameters.length) = some n) (hdl : d1 ≤ 60) (hnl : nL1 ≤ 40) (hn : As.length = n) (hst : (st.map fun v => v.category).sum ≤ 8) (hG : IsL X b0 L xs G) (hd : decode code pc = .ok (.invokevirtual index, 3)) {st0 : List Value} (hs0 : st0 = As.reverse ++ .ref (X.2.1 + 0) :: st) (k : G σ1 (pc + 3) lv (.long x :: st)) : G σ pc lv st0 :=
  q_call (ci := 11) (T := TX11) (N := 15) hC (wsOf_at (rfl : shp 0 = 11) (by decide) rfl) (by rw [hyc]; rfl) hm ⟨rfl, hy⟩ hdl hnl hn hst hG hd hs0 k
theorem q_Moi {y : MethodName} {cw1 : ByteArray} {nL1 d1 n : Nat} {rt1 : Option FieldType} {As : List Value} {x : Int32} (hyc : y.cls = RX12) (hC : Ctr X y cw1 nL1 rt1 d1 (.ref (X.2.1 + 114) :: As) σ (some (.int x)) σ1) (hm : Cond.methodLink R_law index y ∈ gT ∧ Cond.instanceMethod y ∈ gT ∧ Cond.selects y.cls y y ∈ gT ∧ Cond.initialized y.cls ∈ gT ∧ Cond.code y cw1 nL1 rt1 ∈ gT) (hy : y.cls ≠ "java/lang/invoke/MethodHandle" ∧ y.cls ≠ "java/lang/invoke/VarHandle" ∧ (parseMethodDescriptor y.desc).map (fun d => d.parameters.length) = some n) (hdl : d1 ≤ 60) (hnl : nL1 ≤ 40) (hn : As.length = n) (hst : (st.map fun v => v.category).sum ≤ 8) (hG : IsL X b0 L xs G) (hd : decode code pc = .ok (.invokevirtual index, 3)) {st0 : List Value} (hs0 : st0 = As.reverse ++ .ref (X.2.1 + 114) :: st) (k : G σ1 (pc + 3) lv (.int x :: st)) : G σ pc lv st0 :=
  q_call (ci := 12) (T := TX12) (N := 34) hC (wsOf_at (rfl : shp 114 = 12) (by decide) rfl) (by rw [hyc]; rfl) hm ⟨rfl, hy⟩ hdl hnl hn hst hG hd hs0 k
theorem q_Mol {y : MethodName} {cw1 : ByteArray} {nL1 d1 n : Nat} {rt1 : Option FieldType} {As : List Value} {x : Int64} (hyc : y.cls = RX12) (hC : Ctr X y cw1 nL1 rt1 d1 (.ref (X.2.1 + 114) :: As) σ (some (.long x)) σ1) (hm : Cond.methodLink R_law index y ∈ gT ∧ Cond.instanceMethod y ∈ gT ∧ Cond.selects y.cls y y ∈ gT ∧ Cond.initialized y.cls ∈ gT ∧ Cond.code y cw1 nL1 rt1 ∈ gT) (hy : y.cls ≠ "java/lang/invoke/MethodHandle" ∧ y.cls ≠ "java/lang/invoke/VarHandle" ∧ (parseMethodDescriptor y.desc).map (fun d => d.parameters.length) = some n) (hdl : d1 ≤ 60) (hnl : nL1 ≤ 40) (hn : As.length = n) (hst : (st.map fun v => v.category).sum ≤ 8) (hG : IsL X b0 L xs G) (hd : decode code pc = .ok (.invokevirtual index, 3)) {st0 : List Value} (hs0 : st0 = As.reverse ++ .ref (X.2.1 + 114) :: st) (k : G σ1 (pc + 3) lv (.long x :: st)) : G σ pc lv st0 :=
  q_call (ci := 12) (T := TX12) (N := 34) hC (wsOf_at (rfl : shp 114 = 12) (by decide) rfl) (by rw [hyc]; rfl) hm ⟨rfl, hy⟩ hdl hnl hn hst hG hd hs0 k
end LW
def Sim_water (N : Nat) (Inv : St → Prop) : Prop := ∀ σ : St, Inv σ → ∀ v1 : Int32, ∃ (r : Int32) (σ1 : St) (σ2 : St), Go_water N v1 σ = some (r, σ1) ∧ Mo_water N v1 σ1 = some (r, σ2) ∧ Inv σ2
def Sim_dark (N : Nat) (Inv : St → Prop) : Prop := ∀ σ : St, Inv σ → ∀ v1 v2 : Int32, ∃ (r : Int32) (σ1 : St) (σ2 : St), Go_dark N v1 v2 σ = some (r, σ1) ∧ Mo_dark N v1 v2 σ1 = some (r, σ2) ∧ Inv σ2
def Sim_canal (N : Nat) (Inv : St → Prop) : Prop := ∀ σ : St, Inv σ → ∀ v1 v2 v3 : Int32, ∃ (r : Int32) (σ1 : St) (σ2 : St), Go_canal N v1 v2 v3 σ = some (r, σ1) ∧ Mo_canal N v1 v2 v3 σ1 = some (r, σ2) ∧ Inv σ2
def Sim_rower (N : Nat) (Inv : St → Prop) : Prop := ∀ σ : St, Inv σ → ∀ v1 v2 : Int32, ∃ (r : Int32) (σ1 : St) (σ2 : St), Go_rower N v1 v2 σ = some (r, σ1) ∧ Mo_rower N v1 v2 σ1 = some (r, σ2) ∧ Inv σ2
def Sim_guest (N : Nat) (Inv : St → Prop) : Prop := ∀ σ : St, Inv σ → ∀ v1 v2 : Int32, ∃ (r : Int32) (σ1 : St) (σ2 : St), Go_guest N v1 v2 σ = some (r, σ1) ∧ Mo_guest N v1 v2 σ1 = some (r, σ2) ∧ Inv σ2
def Sim_type (N : Nat) (Inv : St → Prop) : Prop := ∀ σ : St, Inv σ → ∀ v1 : Int32, ∃ (r : Int32) (σ1 : St) (σ2 : St), Go_type N v1 σ = some (r, σ1) ∧ Mo_type N v1 σ1 = some (r, σ2) ∧ Inv σ2
def Sim_clear (N : Nat) (Inv : St → Prop) : Prop := ∀ σ : St, Inv σ → ∃ (r : Int32) (σ1 : St) (σ2 : St), Go_clear N σ = some (r, σ1) ∧ Mo_clear N σ1 = some (r, σ2) ∧ Inv σ2
def Sim_read (N : Nat) (Inv : St → Prop) : Prop := ∀ σ : St, Inv σ → ∃ (r : Int32) (σ1 : St) (σ2 : St), Go_read N σ = some (r, σ1) ∧ Mo_read N σ1 = some (r, σ2) ∧ Inv σ2
def Sim_rows (N : Nat) (Inv : St → Prop) : Prop := ∀ σ : St, Inv σ → ∀ v1 v2 v3 : Int32, ∃ (r : Int32) (σ1 : St) (σ2 : St), Go_rows N v1 v2 v3 σ = some (r, σ1) ∧ Mo_rows N v1 v2 v3 σ1 = some (r, σ2) ∧ Inv σ2
def Sim_enters (N : Nat) (Inv : St → Prop) : Prop := ∀ σ : St, Inv σ → ∀ v1 : Int32, ∃ (r : Int32) (σ1 : St) (σ2 : St), Go_enters N v1 σ = some (r, σ1) ∧ Mo_enters N v1 σ1 = some (r, σ2) ∧ Inv σ2
def Sim_undo (N : Nat) (Inv : St → Prop) : Prop := ∀ σ : St, Inv σ → ∃ (r : Int32) (σ1 : St) (σ2 : St), Go_undo N σ = some (r, σ1) ∧ Mo_undo N σ1 = some (r, σ2) ∧ Inv σ2
def Sim_of (N : Nat) (Inv : St → Prop) : Prop := ∀ σ : St, Inv σ → ∀ v1 v2 : Int32, ∃ (r : Int32) (σ1 : St) (σ2 : St), Go_of N v1 v2 σ = some (r, σ1) ∧ Mo_of N v1 v2 σ1 = some (r, σ2) ∧ Inv σ2
def Sim_who (N : Nat) (Inv : St → Prop) : Prop := ∀ σ : St, Inv σ → ∀ v1 v2 : Int32, ∃ (r : Int32) (σ1 : St) (σ2 : St), Go_who N v1 v2 σ = some (r, σ1) ∧ Mo_who N v1 v2 σ1 = some (r, σ2) ∧ Inv σ2
def Sim_about (N : Nat) (Inv : St → Prop) : Prop := ∀ σ : St, Inv σ → ∀ v1 v2 : Int32, ∃ (r : Int32) (σ1 : St) (σ2 : St), Go_about N v1 v2 σ = some (r, σ1) ∧ Mo_about N v1 v2 σ1 = some (r, σ2) ∧ Inv σ2
def Sim_strokes (N : Nat) (Inv : St → Prop) : Prop := ∀ σ : St, Inv σ → ∀ v1 v2 : Int32, ∃ (r : Int32) (σ1 : St) (σ2 : St), Go_strokes N v1 v2 σ = some (r, σ1) ∧ Mo_strokes N v1 v2 σ1 = some (r, σ2) ∧ Inv σ2
def Sim_far (N : Nat) (Inv : St → Prop) : Prop := ∀ σ : St, Inv σ → ∀ v1 v2 : Int32, ∃ (r : Int32) (σ1 : St) (σ2 : St), Go_far N v1 v2 σ = some (r, σ1) ∧ Mo_far N v1 v2 σ1 = some (r, σ2) ∧ Inv σ2
def Sim_would (N : Nat) (Inv : St → Prop) : Prop := ∀ σ : St, Inv σ → ∀ v1 v2 v3 v4 : Int32, ∃ (r : Int32) (σ1 : St) (σ2 : St), Go_would N v1 v2 v3 v4 σ = some (r, σ1) ∧ Mo_would N v1 v2 v3 v4 σ1 = some (r, σ2) ∧ Inv σ2
def Sim_way (N : Nat) (Inv : St → Prop) : Prop := ∀ σ : St, Inv σ → ∀ v1 v2 v3 : Int32, ∃ (r : Int32) (σ1 : St) (σ2 : St), Go_way N v1 v2 v3 σ = some (r, σ1) ∧ Mo_way N v1 v2 v3 σ1 = some (r, σ2) ∧ Inv σ2
def Sim_gentle (N : Nat) (Inv : St → Prop) : Prop := ∀ σ : St, Inv σ → ∀ v1 v2 : Int32, ∃ (r : Int32) (σ1 : St) (σ2 : St), Go_gentle N v1 v2 σ = some (r, σ1) ∧ Mo_gentle N v1 v2 σ1 = some (r, σ2) ∧ Inv σ2
def Sim_where (N : Nat) (Inv : St → Prop) : Prop := ∀ σ : St, Inv σ → ∀ v1 v2 : Int32, ∃ (r : Int32) (σ1 : St) (σ2 : St), Go_where N v1 v2 σ = some (r, σ1) ∧ Mo_where N v1 v2 σ1 = some (r, σ2) ∧ Inv σ2
def Sim_share (N : Nat) (Inv : St → Prop) : Prop := ∀ σ : St, Inv σ → ∀ v1 : Int32, ∃ (r : Int32) (σ1 : St) (σ2 : St), Go_share N v1 σ = some (r, σ1) ∧ Mo_share N v1 σ1 = some (r, σ2) ∧ Inv σ2
def Sim_seen (N : Nat) (Inv : St → Prop) : Prop := ∀ σ : St, Inv σ → ∀ v1 v2 v3 v4 : Int32, ∃ (r : Int32) (σ1 : St) (σ2 : St), Go_seen N v1 v2 v3 v4 σ = some (r, σ1) ∧ Mo_seen N v1 v2 v3 v4 σ1 = some (r, σ2) ∧ Inv σ2
def Sim_tongues (N : Nat) (Inv : St → Prop) : Prop := ∀ σ : St, Inv σ → ∀ v1 : Int32, ∃ (r : Int32) (σ1 : St) (σ2 : St), Go_tongues N v1 σ = some (r, σ1) ∧ Mo_tongues N v1 σ1 = some (r, σ2) ∧ Inv σ2
def Sim_tell (N : Nat) (Inv : St → Prop) : Prop := ∀ σ : St, Inv σ → ∀ v1 : Int32, ∃ (r : Int32) (σ1 : St) (σ2 : St), Go_tell N v1 σ = some (r, σ1) ∧ Mo_tell N v1 σ1 = some (r, σ2) ∧ Inv σ2
def Sim_note (N : Nat) (Inv : St → Prop) : Prop := ∀ σ : St, Inv σ → ∀ v1 v2 v3 v4 v5 v6 : Int32, ∃ (r : Int32) (σ1 : St) (σ2 : St), Go_note N v1 v2 v3 v4 v5 v6 σ = some (r, σ1) ∧ Mo_note N v1 v2 v3 v4 v5 v6 σ1 = some (r, σ2) ∧ Inv σ2
def Sim_mark (N : Nat) (Inv : St → Prop) : Prop := ∀ σ : St, Inv σ → ∀ v1 v2 v3 v4 v5 : Int32, ∃ (r : Int32) (σ1 : St) (σ2 : St), Go_mark N v1 v2 v3 v4 v5 σ = some (r, σ1) ∧ Mo_mark N v1 v2 v3 v4 v5 σ1 = some (r, σ2) ∧ Inv σ2
def Sim_forget (N : Nat) (Inv : St → Prop) : Prop := ∀ σ : St, Inv σ → ∀ v1 : Int32, ∃ (r : Int32) (σ1 : St) (σ2 : St), Go_forget N v1 σ = some (r, σ1) ∧ Mo_forget N v1 σ1 = some (r, σ2) ∧ Inv σ2
def Sim_is (N : Nat) (Inv : St → Prop) : Prop := ∀ σ : St, Inv σ → ∀ v1 : Int32, ∃ (r : Int32) (σ1 : St) (σ2 : St), Go_is N v1 σ = some (r, σ1) ∧ Mo_is N v1 σ1 = some (r, σ2) ∧ Inv σ2
def Sim_look (N : Nat) (Inv : St → Prop) : Prop := ∀ σ : St, Inv σ → ∀ v1 : Int32, ∃ (r : Int32) (σ1 : St) (σ2 : St), Go_look N v1 σ = some (r, σ1) ∧ Mo_look N v1 σ1 = some (r, σ2) ∧ Inv σ2
def Sim_kinds (N : Nat) (Inv : St → Prop) : Prop := ∀ σ : St, Inv σ → ∀ v1 : Int32, ∃ (r : Int32) (σ1 : St) (σ2 : St), Go_kinds N v1 σ = some (r, σ1) ∧ Mo_kinds N v1 σ1 = some (r, σ2) ∧ Inv σ2
def Sim_ask (N : Nat) (Inv : St → Prop) : Prop := ∀ σ : St, Inv σ → ∀ v1 : Int32, ∃ (r : Int32) (σ1 : St) (σ2 : St), Go_ask N v1 σ = some (r, σ1) ∧ Mo_ask N v1 σ1 = some (r, σ2) ∧ Inv σ2
def Sim_lamp (N : Nat) (Inv : St → Prop) : Prop := ∀ σ : St, Inv σ → ∀ v1 v2 v3 : Int32, ∃ (r : Int32) (σ1 : St) (σ2 : St), Go_lamp N v1 v2 v3 σ = some (r, σ1) ∧ Mo_lamp N v1 v2 v3 σ1 = some (r, σ2) ∧ Inv σ2
def Sim_odds (N : Nat) (Inv : St → Prop) : Prop := ∀ σ : St, Inv σ → ∀ v1 v2 v3 v4 : Int32, ∃ (r : Int32) (σ1 : St) (σ2 : St), Go_odds N v1 v2 v3 v4 σ = some (r, σ1) ∧ Mo_odds N v1 v2 v3 v4 σ1 = some (r, σ2) ∧ Inv σ2
def Sim_mean (N : Nat) (Inv : St → Prop) : Prop := ∀ σ : St, Inv σ → ∀ v1 v2 v3 : Int32, ∃ (r : Int32) (σ1 : St) (σ2 : St), Go_mean N v1 v2 v3 σ = some (r, σ1) ∧ Mo_mean N v1 v2 v3 σ1 = some (r, σ2) ∧ Inv σ2
def Sim_nights (N : Nat) (Inv : St → Prop) : Prop := ∀ σ : St, Inv σ → ∀ v1 v2 : Int32, ∃ (r : Int32) (σ1 : St) (σ2 : St), Go_nights N v1 v2 σ = some (r, σ1) ∧ Mo_nights N v1 v2 σ1 = some (r, σ2) ∧ Inv σ2
def Sim_part (N : Nat) (Inv : St → Prop) : Prop := ∀ σ : St, Inv σ → ∀ v1 : Int32, ∃ (r : Int64) (σ1 : St) (σ2 : St), Go_part N v1 σ = some (r, σ1) ∧ Mo_part N v1 σ1 = some (r, σ2) ∧ Inv σ2
def Sim_image (N : Nat) (Inv : St → Prop) : Prop := ∀ σ : St, Inv σ → ∀ v1 : Int32, ∃ (r : Int32) (σ1 : St) (σ2 : St), Go_image N v1 σ = some (r, σ1) ∧ Mo_image N v1 σ1 = some (r, σ2) ∧ Inv σ2
def Sim_from (N : Nat) (Inv : St → Prop) : Prop := ∀ σ : St, Inv σ → ∀ v1 : Int32, ∃ (r : Int32) (σ1 : St) (σ2 : St), Go_from N v1 σ = some (r, σ1) ∧ Mo_from N v1 σ1 = some (r, σ2) ∧ Inv σ2
def Sim_status (N : Nat) (Inv : St → Prop) : Prop := ∀ σ : St, Inv σ → ∀ v1 : Int32, ∃ (r : Int32) (σ1 : St) (σ2 : St), Go_status N v1 σ = some (r, σ1) ∧ Mo_status N v1 σ1 = some (r, σ2) ∧ Inv σ2
def Sim_count (N : Nat) (Inv : St → Prop) : Prop := ∀ σ : St, Inv σ → ∀ v1 : Int32, ∃ (r : Int32) (σ1 : St) (σ2 : St), Go_count N v1 σ = some (r, σ1) ∧ Mo_count N v1 σ1 = some (r, σ2) ∧ Inv σ2
def Sim_digest (N : Nat) (Inv : St → Prop) : Prop := ∀ σ : St, Inv σ → ∃ (r : Int64) (σ1 : St), Go_digest N σ = some (r, σ1) ∧ Mo_digest N σ1 = some r ∧ Inv σ1
def Sim (N : Nat) (Inv : St → Prop) : Prop := Sim_water N Inv ∧ Sim_dark N Inv ∧ Sim_canal N Inv ∧ Sim_rower N Inv ∧ Sim_guest N Inv ∧ Sim_type N Inv ∧ Sim_clear N Inv ∧ Sim_read N Inv ∧ Sim_rows N Inv ∧ Sim_enters N Inv ∧ Sim_undo N Inv ∧ Sim_of N Inv ∧ Sim_who N Inv ∧ Sim_about N Inv ∧ Sim_strokes N Inv ∧ Sim_far N Inv ∧ Sim_would N Inv ∧ Sim_way N Inv ∧ Sim_gentle N Inv ∧ Sim_where N Inv ∧ Sim_share N Inv ∧ Sim_seen N Inv ∧ Sim_tongues N Inv ∧ Sim_tell N Inv ∧ Sim_note N Inv ∧ Sim_mark N Inv ∧ Sim_forget N Inv ∧ Sim_is N Inv ∧ Sim_look N Inv ∧ Sim_kinds N Inv ∧ Sim_ask N Inv ∧ Sim_lamp N Inv ∧ Sim_odds N Inv ∧ Sim_mean N Inv ∧ Sim_nights N Inv ∧ Sim_part N Inv ∧ Sim_image N Inv ∧ Sim_from N Inv ∧ Sim_status N Inv ∧ Sim_count N Inv ∧ Sim_digest N Inv
theorem ml_13 : Cond.methodLink R_law 13 yX11_water ∈ gT ∧ Cond.instanceMethod yX11_water ∈ gT ∧ Cond.selects yX11_water.cls yX11_water yX11_water ∈ gT ∧ Cond.initialized yX11_water.cls ∈ gT ∧ Cond.code yX11_water cX11_water 3 (some .int) ∈ gT := ⟨inL2 173 (by decide +kernel) rfl, inL2 174 (by decide +kernel) rfl, inL2 175 (by decide +kernel) rfl, inL1 1 (by decide +kernel) rfl, inL2 176 (by decide +kernel) rfl⟩
theorem my_13 : yX11_water.cls ≠ "java/lang/invoke/MethodHandle" ∧ yX11_water.cls ≠ "java/lang/invoke/VarHandle" ∧ (parseMethodDescriptor yX11_water.desc).map (fun d => d.parameters.length) = some 1 := by decide +kernel
theorem ml_17 : Cond.methodLink R_law 17 yX12_water ∈ gT ∧ Cond.instanceMethod yX12_water ∈ gT ∧ Cond.selects yX12_water.cls yX12_water yX12_water ∈ gT ∧ Cond.initialized yX12_water.cls ∈ gT ∧ Cond.code yX12_water cX12_water 3 (some .int) ∈ gT := ⟨inL5 201 (by decide +kernel) rfl, inL5 202 (by decide +kernel) rfl, inL5 203 (by decide +kernel) rfl, inL1 13 (by decide +kernel) rfl, inL5 204 (by decide +kernel) rfl⟩
theorem my_17 : yX12_water.cls ≠ "java/lang/invoke/MethodHandle" ∧ yX12_water.cls ≠ "java/lang/invoke/VarHandle" ∧ (parseMethodDescriptor yX12_water.desc).map (fun d => d.parameters.length) = some 1 := by decide +kernel
theorem ml_18 : Cond.methodLink R_law 18 yX11_dark ∈ gT ∧ Cond.instanceMethod yX11_dark ∈ gT ∧ Cond.selects yX11_dark.cls yX11_dark yX11_dark ∈ gT ∧ Cond.initialized yX11_dark.cls ∈ gT ∧ Cond.code yX11_dark cX11_dark 4 (some .int) ∈ gT := ⟨inL2 184 (by decide +kernel) rfl, inL2 185 (by decide +kernel) rfl, inL2 186 (by decide +kernel) rfl, inL1 1 (by decide +kernel) rfl, inL2 187 (by decide +kernel) rfl⟩
theorem my_18 : yX11_dark.cls ≠ "java/lang/invoke/MethodHandle" ∧ yX11_dark.cls ≠ "java/lang/invoke/VarHandle" ∧ (parseMethodDescriptor yX11_dark.desc).map (fun d => d.parameters.length) = some 2 := by decide +kernel
theorem ml_22 : Cond.methodLink R_law 22 yX12_dark ∈ gT ∧ Cond.instanceMethod yX12_dark ∈ gT ∧ Cond.selects yX12_dark.cls yX12_dark yX12_dark ∈ gT ∧ Cond.initialized yX12_dark.cls ∈ gT ∧ Cond.code yX12_dark cX12_dark 4 (some .int) ∈ gT := ⟨inL5 217 (by decide +kernel) rfl, inL5 218 (by decide +kernel) rfl, inL5 219 (by decide +kernel) rfl, inL1 13 (by decide +kernel) rfl, inL5 220 (by decide +kernel) rfl⟩
theorem my_22 : yX12_dark.cls ≠ "java/lang/invoke/MethodHandle" ∧ yX12_dark.cls ≠ "java/lang/invoke/VarHandle" ∧ (parseMethodDescriptor yX12_dark.desc).map (fun d => d.parameters.length) = some 2 := by decide +kernel
theorem ml_23 : Cond.methodLink R_law 23 yX11_canal ∈ gT ∧ Cond.instanceMethod yX11_canal ∈ gT ∧ Cond.selects yX11_canal.cls yX11_canal yX11_canal ∈ gT ∧ Cond.initialized yX11_canal.cls ∈ gT ∧ Cond.code yX11_canal cX11_canal 5 (some .int) ∈ gT := ⟨inL2 191 (by decide +kernel) rfl, inL2 192 (by decide +kernel) rfl, inL2 193 (by decide +kernel) rfl, inL1 1 (by decide +kernel) rfl, inL2 194 (by decide +kernel) rfl⟩
theorem my_23 : yX11_canal.cls ≠ "java/lang/invoke/MethodHandle" ∧ yX11_canal.cls ≠ "java/lang/invoke/VarHandle" ∧ (parseMethodDescriptor yX11_canal.desc).map (fun d => d.parameters.length) = some 3 := by decide +kernel
theorem ml_27 : Cond.methodLink R_law 27 yX12_canal ∈ gT ∧ Cond.instanceMethod yX12_canal ∈ gT ∧ Cond.selects yX12_canal.cls yX12_canal yX12_canal ∈ gT ∧ Cond.initialized yX12_canal.cls ∈ gT ∧ Cond.code yX12_canal cX12_canal 5 (some .int) ∈ gT := ⟨inL5 225 (by decide +kernel) rfl, inL5 226 (by decide +kernel) rfl, inL5 227 (by decide +kernel) rfl, inL1 13 (by decide +kernel) rfl, inL5 228 (by decide +kernel) rfl⟩
theorem my_27 : yX12_canal.cls ≠ "java/lang/invoke/MethodHandle" ∧ yX12_canal.cls ≠ "java/lang/invoke/VarHandle" ∧ (parseMethodDescriptor yX12_canal.desc).map (fun d => d.parameters.length) = some 3 := by decide +kernel
theorem ml_28 : Cond.methodLink R_law 28 yX11_rower ∈ gT ∧ Cond.instanceMethod yX11_rower ∈ gT ∧ Cond.selects yX11_rower.cls yX11_rower yX11_rower ∈ gT ∧ Cond.initialized yX11_rower.cls ∈ gT ∧ Cond.code yX11_rower cX11_rower 3 (some .int) ∈ gT := ⟨inL2 203 (by decide +kernel) rfl, inL2 204 (by decide +kernel) rfl, inL2 205 (by decide +kernel) rfl, inL1 1 (by decide +kernel) rfl, inL2 206 (by decide +kernel) rfl⟩
theorem my_28 : yX11_rower.cls ≠ "java/lang/invoke/MethodHandle" ∧ yX11_rower.cls ≠ "java/lang/invoke/VarHandle" ∧ (parseMethodDescriptor yX11_rower.desc).map (fun d => d.parameters.length) = some 2 := by decide +kernel
theorem ml_31 : Cond.methodLink R_law 31 yX12_rower ∈ gT ∧ Cond.instanceMethod yX12_rower ∈ gT ∧ Cond.selects yX12_rower.cls yX12_rower yX12_rower ∈ gT ∧ Cond.initialized yX12_rower.cls ∈ gT ∧ Cond.code yX12_rower cX12_rower 3 (some .int) ∈ gT := ⟨inL5 239 (by decide +kernel) rfl, inL6 0 (by decide +kernel) rfl, inL6 1 (by decide +kernel) rfl, inL1 13 (by decide +kernel) rfl, inL6 2 (by decide +kernel) rfl⟩
theorem my_31 : yX12_rower.cls ≠ "java/lang/invoke/MethodHandle" ∧ yX12_rower.cls ≠ "java/lang/invoke/VarHandle" ∧ (parseMethodDescriptor yX12_rower.desc).map (fun d => d.parameters.length) = some 2 := by decide +kernel
theorem ml_32 : Cond.methodLink R_law 32 yX11_guest ∈ gT ∧ Cond.instanceMethod yX11_guest ∈ gT ∧ Cond.selects yX11_guest.cls yX11_guest yX11_guest ∈ gT ∧ Cond.initialized yX11_guest.cls ∈ gT ∧ Cond.code yX11_guest cX11_guest 3 (some .int) ∈ gT := ⟨inL2 215 (by decide +kernel) rfl, inL2 216 (by decide +kernel) rfl, inL2 217 (by decide +kernel) rfl, inL1 1 (by decide +kernel) rfl, inL2 218 (by decide +kernel) rfl⟩
theorem my_32 : yX11_guest.cls ≠ "java/lang/invoke/MethodHandle" ∧ yX11_guest.cls ≠ "java/lang/invoke/VarHandle" ∧ (parseMethodDescriptor yX11_guest.desc).map (fun d => d.parameters.length) = some 2 := by decide +kernel
theorem ml_35 : Cond.methodLink R_law 35 yX12_guest ∈ gT ∧ Cond.instanceMethod yX12_guest ∈ gT ∧ Cond.selects yX12_guest.cls yX12_guest yX12_guest ∈ gT ∧ Cond.initialized yX12_guest.cls ∈ gT ∧ Cond.code yX12_guest cX12_guest 3 (some .int) ∈ gT := ⟨inL6 12 (by decide +kernel) rfl, inL6 13 (by decide +kernel) rfl, inL6 14 (by decide +kernel) rfl, inL1 13 (by decide +kernel) rfl, inL6 15 (by decide +kernel) rfl⟩
theorem my_35 : yX12_guest.cls ≠ "java/lang/invoke/MethodHandle" ∧ yX12_guest.cls ≠ "java/lang/invoke/VarHandle" ∧ (parseMethodDescriptor yX12_guest.desc).map (fun d => d.parameters.length) = some 2 := by decide +kernel
theorem ml_36 : Cond.methodLink R_law 36 yX11_type ∈ gT ∧ Cond.instanceMethod yX11_type ∈ gT ∧ Cond.selects yX11_type.cls yX11_type yX11_type ∈ gT ∧ Cond.initialized yX11_type.cls ∈ gT ∧ Cond.code yX11_type cX11_type 2 (some .int) ∈ gT := ⟨inL2 231 (by decide +kernel) rfl, inL2 232 (by decide +kernel) rfl, inL2 233 (by decide +kernel) rfl, inL1 1 (by decide +kernel) rfl, inL2 234 (by decide +kernel) rfl⟩
theorem my_36 : yX11_type.cls ≠ "java/lang/invoke/MethodHandle" ∧ yX11_type.cls ≠ "java/lang/invoke/VarHandle" ∧ (parseMethodDescriptor yX11_type.desc).map (fun d => d.parameters.length) = some 1 := by decide +kernel
theorem ml_39 : Cond.methodLink R_law 39 yX12_type ∈ gT ∧ Cond.instanceMethod yX12_type ∈ gT ∧ Cond.selects yX12_type.cls yX12_type yX12_type ∈ gT ∧ Cond.initialized yX12_type.cls ∈ gT ∧ Cond.code yX12_type cX12_type 2 (some .int) ∈ gT := ⟨inL6 21 (by decide +kernel) rfl, inL6 22 (by decide +kernel) rfl, inL6 23 (by decide +kernel) rfl, inL1 13 (by decide +kernel) rfl, inL6 24 (by decide +kernel) rfl⟩
theorem my_39 : yX12_type.cls ≠ "java/lang/invoke/MethodHandle" ∧ yX12_type.cls ≠ "java/lang/invoke/VarHandle" ∧ (parseMethodDescriptor yX12_type.desc).map (fun d => d.parameters.length) = some 1 := by decide +kernel
theorem ml_40 : Cond.methodLink R_law 40 yX11_clear ∈ gT ∧ Cond.instanceMethod yX11_clear ∈ gT ∧ Cond.selects yX11_clear.cls yX11_clear yX11_clear ∈ gT ∧ Cond.initialized yX11_clear.cls ∈ gT ∧ Cond.code yX11_clear cX11_clear 2 (some .int) ∈ gT := ⟨inL2 235 (by decide +kernel) rfl, inL2 236 (by decide +kernel) rfl, inL2 237 (by decide +kernel) rfl, inL1 1 (by decide +kernel) rfl, inL2 238 (by decide +kernel) rfl⟩
theorem my_40 : yX11_clear.cls ≠ "java/lang/invoke/MethodHandle" ∧ yX11_clear.cls ≠ "java/lang/invoke/VarHandle" ∧ (parseMethodDescriptor yX11_clear.desc).map (fun d => d.parameters.length) = some 0 := by decide +kernel
theorem ml_44 : Cond.methodLink R_law 44 yX12_clear ∈ gT ∧ Cond.instanceMethod yX12_clear ∈ gT ∧ Cond.selects yX12_clear.cls yX12_clear yX12_clear ∈ gT ∧ Cond.initialized yX12_clear.cls ∈ gT ∧ Cond.code yX12_clear cX12_clear 2 (some .int) ∈ gT := ⟨inL6 26 (by decide +kernel) rfl, inL6 27 (by decide +kernel) rfl, inL6 28 (by decide +kernel) rfl, inL1 13 (by decide +kernel) rfl, inL6 29 (by decide +kernel) rfl⟩
theorem my_44 : yX12_clear.cls ≠ "java/lang/invoke/MethodHandle" ∧ yX12_clear.cls ≠ "java/lang/invoke/VarHandle" ∧ (parseMethodDescriptor yX12_clear.desc).map (fun d => d.parameters.length) = some 0 := by decide +kernel
theorem ml_45 : Cond.methodLink R_law 45 yX11_read ∈ gT ∧ Cond.instanceMethod yX11_read ∈ gT ∧ Cond.selects yX11_read.cls yX11_read yX11_read ∈ gT ∧ Cond.initialized yX11_read.cls ∈ gT ∧ Cond.code yX11_read cX11_read 2 (some .int) ∈ gT := ⟨inL2 239 (by decide +kernel) rfl, inL3 0 (by decide +kernel) rfl, inL3 1 (by decide +kernel) rfl, inL1 1 (by decide +kernel) rfl, inL3 2 (by decide +kernel) rfl⟩
theorem my_45 : yX11_read.cls ≠ "java/lang/invoke/MethodHandle" ∧ yX11_read.cls ≠ "java/lang/invoke/VarHandle" ∧ (parseMethodDescriptor yX11_read.desc).map (fun d => d.parameters.length) = some 0 := by decide +kernel
theorem ml_48 : Cond.methodLink R_law 48 yX12_read ∈ gT ∧ Cond.instanceMethod yX12_read ∈ gT ∧ Cond.selects yX12_read.cls yX12_read yX12_read ∈ gT ∧ Cond.initialized yX12_read.cls ∈ gT ∧ Cond.code yX12_read cX12_read 1 (some .int) ∈ gT := ⟨inL6 30 (by decide +kernel) rfl, inL6 31 (by decide +kernel) rfl, inL6 32 (by decide +kernel) rfl, inL1 13 (by decide +kernel) rfl, inL6 33 (by decide +kernel) rfl⟩
theorem my_48 : yX12_read.cls ≠ "java/lang/invoke/MethodHandle" ∧ yX12_read.cls ≠ "java/lang/invoke/VarHandle" ∧ (parseMethodDescriptor yX12_read.desc).map (fun d => d.parameters.length) = some 0 := by decide +kernel
theorem ml_49 : Cond.methodLink R_law 49 yX11_rows ∈ gT ∧ Cond.instanceMethod yX11_rows ∈ gT ∧ Cond.selects yX11_rows.cls yX11_rows yX11_rows ∈ gT ∧ Cond.initialized yX11_rows.cls ∈ gT ∧ Cond.code yX11_rows cX11_rows 5 (some .int) ∈ gT := ⟨inL3 176 (by decide +kernel) rfl, inL3 177 (by decide +kernel) rfl, inL3 178 (by decide +kernel) rfl, inL1 1 (by decide +kernel) rfl, inL3 179 (by decide +kernel) rfl⟩
theorem my_49 : yX11_rows.cls ≠ "java/lang/invoke/MethodHandle" ∧ yX11_rows.cls ≠ "java/lang/invoke/VarHandle" ∧ (parseMethodDescriptor yX11_rows.desc).map (fun d => d.parameters.length) = some 3 := by decide +kernel
theorem ml_52 : Cond.methodLink R_law 52 yX12_rows ∈ gT ∧ Cond.instanceMethod yX12_rows ∈ gT ∧ Cond.selects yX12_rows.cls yX12_rows yX12_rows ∈ gT ∧ Cond.initialized yX12_rows.cls ∈ gT ∧ Cond.code yX12_rows cX12_rows 4 (some .int) ∈ gT := ⟨inL6 87 (by decide +kernel) rfl, inL6 88 (by decide +kernel) rfl, inL6 89 (by decide +kernel) rfl, inL1 13 (by decide +kernel) rfl, inL6 90 (by decide +kernel) rfl⟩
theorem my_52 : yX12_rows.cls ≠ "java/lang/invoke/MethodHandle" ∧ yX12_rows.cls ≠ "java/lang/invoke/VarHandle" ∧ (parseMethodDescriptor yX12_rows.desc).map (fun d => d.parameters.length) = some 3 := by decide +kernel
theorem ml_53 : Cond.methodLink R_law 53 yX11_enters ∈ gT ∧ Cond.instanceMethod yX11_enters ∈ gT ∧ Cond.selects yX11_enters.cls yX11_enters yX11_enters ∈ gT ∧ Cond.initialized yX11_enters.cls ∈ gT ∧ Cond.code yX11_enters cX11_enters 4 (some .int) ∈ gT := ⟨inL3 198 (by decide +kernel) rfl, inL3 199 (by decide +kernel) rfl, inL3 200 (by decide +kernel) rfl, inL1 1 (by decide +kernel) rfl, inL3 201 (by decide +kernel) rfl⟩
theorem my_53 : yX11_enters.cls ≠ "java/lang/invoke/MethodHandle" ∧ yX11_enters.cls ≠ "java/lang/invoke/VarHandle" ∧ (parseMethodDescriptor yX11_enters.desc).map (fun d => d.parameters.length) = some 1 := by decide +kernel
theorem ml_56 : Cond.methodLink R_law 56 yX12_enters ∈ gT ∧ Cond.instanceMethod yX12_enters ∈ gT ∧ Cond.selects yX12_enters.cls yX12_enters yX12_enters ∈ gT ∧ Cond.initialized yX12_enters.cls ∈ gT ∧ Cond.code yX12_enters cX12_enters 3 (some .int) ∈ gT := ⟨inL6 107 (by decide +kernel) rfl, inL6 108 (by decide +kernel) rfl, inL6 109 (by decide +kernel) rfl, inL1 13 (by decide +kernel) rfl, inL6 110 (by decide +kernel) rfl⟩
theorem my_56 : yX12_enters.cls ≠ "java/lang/invoke/MethodHandle" ∧ yX12_enters.cls ≠ "java/lang/invoke/VarHandle" ∧ (parseMethodDescriptor yX12_enters.desc).map (fun d => d.parameters.length) = some 1 := by decide +kernel
theorem ml_57 : Cond.methodLink R_law 57 yX11_undo ∈ gT ∧ Cond.instanceMethod yX11_undo ∈ gT ∧ Cond.selects yX11_undo.cls yX11_undo yX11_undo ∈ gT ∧ Cond.initialized yX11_undo.cls ∈ gT ∧ Cond.code yX11_undo cX11_undo 1 (some .int) ∈ gT := ⟨inL3 203 (by decide +kernel) rfl, inL3 204 (by decide +kernel) rfl, inL3 205 (by decide +kernel) rfl, inL1 1 (by decide +kernel) rfl, inL3 206 (by decide +kernel) rfl⟩
theorem my_57 : yX11_undo.cls ≠ "java/lang/invoke/MethodHandle" ∧ yX11_undo.cls ≠ "java/lang/invoke/VarHandle" ∧ (parseMethodDescriptor yX11_undo.desc).map (fun d => d.parameters.length) = some 0 := by decide +kernel
theorem ml_60 : Cond.methodLink R_law 60 yX12_undo ∈ gT ∧ Cond.instanceMethod yX12_undo ∈ gT ∧ Cond.selects yX12_undo.cls yX12_undo yX12_undo ∈ gT ∧ Cond.initialized yX12_undo.cls ∈ gT ∧ Cond.code yX12_undo cX12_undo 1 (some .int) ∈ gT := ⟨inL6 111 (by decide +kernel) rfl, inL6 112 (by decide +kernel) rfl, inL6 113 (by decide +kernel) rfl, inL1 13 (by decide +kernel) rfl, inL6 114 (by decide +kernel) rfl⟩
theorem my_60 : yX12_undo.cls ≠ "java/lang/invoke/MethodHandle" ∧ yX12_undo.cls ≠ "java/lang/invoke/VarHandle" ∧ (parseMethodDescriptor yX12_undo.desc).map (fun d => d.parameters.length) = some 0 := by decide +kernel
theorem ml_61 : Cond.methodLink R_law 61 yX11_of ∈ gT ∧ Cond.instanceMethod yX11_of ∈ gT ∧ Cond.selects yX11_of.cls yX11_of yX11_of ∈ gT ∧ Cond.initialized yX11_of.cls ∈ gT ∧ Cond.code yX11_of cX11_of 3 (some .int) ∈ gT := ⟨inL3 211 (by decide +kernel) rfl, inL3 212 (by decide +kernel) rfl, inL3 213 (by decide +kernel) rfl, inL1 1 (by decide +kernel) rfl, inL3 214 (by decide +kernel) rfl⟩
theorem my_61 : yX11_of.cls ≠ "java/lang/invoke/MethodHandle" ∧ yX11_of.cls ≠ "java/lang/invoke/VarHandle" ∧ (parseMethodDescriptor yX11_of.desc).map (fun d => d.parameters.length) = some 2 := by decide +kernel
theorem ml_64 : Cond.methodLink R_law 64 yX12_of ∈ gT ∧ Cond.instanceMethod yX12_of ∈ gT ∧ Cond.selects yX12_of.cls yX12_of yX12_of ∈ gT ∧ Cond.initialized yX12_of.cls ∈ gT ∧ Cond.code yX12_of cX12_of 3 (some .int) ∈ gT := ⟨inL6 115 (by decide +kernel) rfl, inL6 116 (by decide +kernel) rfl, inL6 117 (by decide +kernel) rfl, inL1 13 (by decide +kernel) rfl, inL6 118 (by decide +kernel) rfl⟩
theorem my_64 : yX12_of.cls ≠ "java/lang/invoke/MethodHandle" ∧ yX12_of.cls ≠ "java/lang/invoke/VarHandle" ∧ (parseMethodDescriptor yX12_of.desc).map (fun d => d.parameters.length) = some 2 := by decide +kernel
theorem ml_65 : Cond.methodLink R_law 65 yX11_who ∈ gT ∧ Cond.instanceMethod yX11_who ∈ gT ∧ Cond.selects yX11_who.cls yX11_who yX11_who ∈ gT ∧ Cond.initialized yX11_who.cls ∈ gT ∧ Cond.code yX11_who cX11_who 4 (some .int) ∈ gT := ⟨inL3 219 (by decide +kernel) rfl, inL3 220 (by decide +kernel) rfl, inL3 221 (by decide +kernel) rfl, inL1 1 (by decide +kernel) rfl, inL3 222 (by decide +kernel) rfl⟩
theorem my_65 : yX11_who.cls ≠ "java/lang/invoke/MethodHandle" ∧ yX11_who.cls ≠ "java/lang/invoke/VarHandle" ∧ (parseMethodDescriptor yX11_who.desc).map (fun d => d.parameters.length) = some 2 := by decide +kernel
theorem ml_68 : Cond.methodLink R_law 68 yX12_who ∈ gT ∧ Cond.instanceMethod yX12_who ∈ gT ∧ Cond.selects yX12_who.cls yX12_who yX12_who ∈ gT ∧ Cond.initialized yX12_who.cls ∈ gT ∧ Cond.code yX12_who cX12_who 3 (some .int) ∈ gT := ⟨inL6 119 (by decide +kernel) rfl, inL6 120 (by decide +kernel) rfl, inL6 121 (by decide +kernel) rfl, inL1 13 (by decide +kernel) rfl, inL6 122 (by decide +kernel) rfl⟩
theorem my_68 : yX12_who.cls ≠ "java/lang/invoke/MethodHandle" ∧ yX12_who.cls ≠ "java/lang/invoke/VarHandle" ∧ (parseMethodDescriptor yX12_who.desc).map (fun d => d.parameters.length) = some 2 := by decide +kernel
theorem ml_69 : Cond.methodLink R_law 69 yX11_about ∈ gT ∧ Cond.instanceMethod yX11_about ∈ gT ∧ Cond.selects yX11_about.cls yX11_about yX11_about ∈ gT ∧ Cond.initialized yX11_about.cls ∈ gT ∧ Cond.code yX11_about cX11_about 3 (some .int) ∈ gT := ⟨inL3 223 (by decide +kernel) rfl, inL3 224 (by decide +kernel) rfl, inL3 225 (by decide +kernel) rfl, inL1 1 (by decide +kernel) rfl, inL3 226 (by decide +kernel) rfl⟩
theorem my_69 : yX11_about.cls ≠ "java/lang/invoke/MethodHandle" ∧ yX11_about.cls ≠ "java/lang/invoke/VarHandle" ∧ (parseMethodDescriptor yX11_about.desc).map (fun d => d.parameters.length) = some 2 := by decide +kernel
theorem ml_72 : Cond.methodLink R_law 72 yX12_about ∈ gT ∧ Cond.instanceMethod yX12_about ∈ gT ∧ Cond.selects yX12_about.cls yX12_about yX12_about ∈ gT ∧ Cond.initialized yX12_about.cls ∈ gT ∧ Cond.code yX12_about cX12_about 5 (some .int) ∈ gT := ⟨inL6 123 (by decide +kernel) rfl, inL6 124 (by decide +kernel) rfl, inL6 125 (by decide +kernel) rfl, inL1 13 (by decide +kernel) rfl, inL6 126 (by decide +kernel) rfl⟩
theorem my_72 : yX12_about.cls ≠ "java/lang/invoke/MethodHandle" ∧ yX12_about.cls ≠ "java/lang/invoke/VarHandle" ∧ (parseMethodDescriptor yX12_about.desc).map (fun d => d.parameters.length) = some 2 := by decide +kernel
theorem ml_73 : Cond.methodLink R_law 73 yX11_strokes ∈ gT ∧ Cond.instanceMethod yX11_strokes ∈ gT ∧ Cond.selects yX11_strokes.cls yX11_strokes yX11_strokes ∈ gT ∧ Cond.initialized yX11_strokes.cls ∈ gT ∧ Cond.code yX11_strokes cX11_strokes 3 (some .int) ∈ gT := ⟨inL3 235 (by decide +kernel) rfl, inL3 236 (by decide +kernel) rfl, inL3 237 (by decide +kernel) rfl, inL1 1 (by decide +kernel) rfl, inL3 238 (by decide +kernel) rfl⟩
theorem my_73 : yX11_strokes.cls ≠ "java/lang/invoke/MethodHandle" ∧ yX11_strokes.cls ≠ "java/lang/invoke/VarHandle" ∧ (parseMethodDescriptor yX11_strokes.desc).map (fun d => d.parameters.length) = some 2 := by decide +kernel
theorem ml_76 : Cond.methodLink R_law 76 yX12_strokes ∈ gT ∧ Cond.instanceMethod yX12_strokes ∈ gT ∧ Cond.selects yX12_strokes.cls yX12_strokes yX12_strokes ∈ gT ∧ Cond.initialized yX12_strokes.cls ∈ gT ∧ Cond.code yX12_strokes cX12_strokes 3 (some .int) ∈ gT := ⟨inL6 132 (by decide +kernel) rfl, inL6 133 (by decide +kernel) rfl, inL6 134 (by decide +kernel) rfl, inL1 13 (by decide +kernel) rfl, inL6 135 (by decide +kernel) rfl⟩
theorem my_76 : yX12_strokes.cls ≠ "java/lang/invoke/MethodHandle" ∧ yX12_strokes.cls ≠ "java/lang/invoke/VarHandle" ∧ (parseMethodDescriptor yX12_strokes.desc).map (fun d => d.parameters.length) = some 2 := by decide +kernel
theorem ml_77 : Cond.methodLink R_law 77 yX11_far ∈ gT ∧ Cond.instanceMethod yX11_far ∈ gT ∧ Cond.selects yX11_far.cls yX11_far yX11_far ∈ gT ∧ Cond.initialized yX11_far.cls ∈ gT ∧ Cond.code yX11_far cX11_far 3 (some .int) ∈ gT := ⟨inL3 239 (by decide +kernel) rfl, inL4 0 (by decide +kernel) rfl, inL4 1 (by decide +kernel) rfl, inL1 1 (by decide +kernel) rfl, inL4 2 (by decide +kernel) rfl⟩
theorem my_77 : yX11_far.cls ≠ "java/lang/invoke/MethodHandle" ∧ yX11_far.cls ≠ "java/lang/invoke/VarHandle" ∧ (parseMethodDescriptor yX11_far.desc).map (fun d => d.parameters.length) = some 2 := by decide +kernel
theorem ml_80 : Cond.methodLink R_law 80 yX12_far ∈ gT ∧ Cond.instanceMethod yX12_far ∈ gT ∧ Cond.selects yX12_far.cls yX12_far yX12_far ∈ gT ∧ Cond.initialized yX12_far.cls ∈ gT ∧ Cond.code yX12_far cX12_far 7 (some .int) ∈ gT := ⟨inL6 136 (by decide +kernel) rfl, inL6 137 (by decide +kernel) rfl, inL6 138 (by decide +kernel) rfl, inL1 13 (by decide +kernel) rfl, inL6 139 (by decide +kernel) rfl⟩
theorem my_80 : yX12_far.cls ≠ "java/lang/invoke/MethodHandle" ∧ yX12_far.cls ≠ "java/lang/invoke/VarHandle" ∧ (parseMethodDescriptor yX12_far.desc).map (fun d => d.parameters.length) = some 2 := by decide +kernel
theorem ml_81 : Cond.methodLink R_law 81 yX11_would ∈ gT ∧ Cond.instanceMethod yX11_would ∈ gT ∧ Cond.selects yX11_would.cls yX11_would yX11_would ∈ gT ∧ Cond.initialized yX11_would.cls ∈ gT ∧ Cond.code yX11_would cX11_would 5 (some .int) ∈ gT := ⟨inL4 11 (by decide +kernel) rfl, inL4 12 (by decide +kernel) rfl, inL4 13 (by decide +kernel) rfl, inL1 1 (by decide +kernel) rfl, inL4 14 (by decide +kernel) rfl⟩
theorem my_81 : yX11_would.cls ≠ "java/lang/invoke/MethodHandle" ∧ yX11_would.cls ≠ "java/lang/invoke/VarHandle" ∧ (parseMethodDescriptor yX11_would.desc).map (fun d => d.parameters.length) = some 4 := by decide +kernel
theorem ml_85 : Cond.methodLink R_law 85 yX12_would ∈ gT ∧ Cond.instanceMethod yX12_would ∈ gT ∧ Cond.selects yX12_would.cls yX12_would yX12_would ∈ gT ∧ Cond.initialized yX12_would.cls ∈ gT ∧ Cond.code yX12_would cX12_would 6 (some .int) ∈ gT := ⟨inL6 140 (by decide +kernel) rfl, inL6 141 (by decide +kernel) rfl, inL6 142 (by decide +kernel) rfl, inL1 13 (by decide +kernel) rfl, inL6 143 (by decide +kernel) rfl⟩
theorem my_85 : yX12_would.cls ≠ "java/lang/invoke/MethodHandle" ∧ yX12_would.cls ≠ "java/lang/invoke/VarHandle" ∧ (parseMethodDescriptor yX12_would.desc).map (fun d => d.parameters.length) = some 4 := by decide +kernel
theorem ml_86 : Cond.methodLink R_law 86 yX11_way ∈ gT ∧ Cond.instanceMethod yX11_way ∈ gT ∧ Cond.selects yX11_way.cls yX11_way yX11_way ∈ gT ∧ Cond.initialized yX11_way.cls ∈ gT ∧ Cond.code yX11_way cX11_way 4 (some .int) ∈ gT := ⟨inL4 16 (by decide +kernel) rfl, inL4 17 (by decide +kernel) rfl, inL4 18 (by decide +kernel) rfl, inL1 1 (by decide +kernel) rfl, inL4 19 (by decide +kernel) rfl⟩
theorem my_86 : yX11_way.cls ≠ "java/lang/invoke/MethodHandle" ∧ yX11_way.cls ≠ "java/lang/invoke/VarHandle" ∧ (parseMethodDescriptor yX11_way.desc).map (fun d => d.parameters.length) = some 3 := by decide +kernel
theorem ml_89 : Cond.methodLink R_law 89 yX12_way ∈ gT ∧ Cond.instanceMethod yX12_way ∈ gT ∧ Cond.selects yX12_way.cls yX12_way yX12_way ∈ gT ∧ Cond.initialized yX12_way.cls ∈ gT ∧ Cond.code yX12_way cX12_way 4 (some .int) ∈ gT := ⟨inL6 144 (by decide +kernel) rfl, inL6 145 (by decide +kernel) rfl, inL6 146 (by decide +kernel) rfl, inL1 13 (by decide +kernel) rfl, inL6 147 (by decide +kernel) rfl⟩
theorem my_89 : yX12_way.cls ≠ "java/lang/invoke/MethodHandle" ∧ yX12_way.cls ≠ "java/lang/invoke/VarHandle" ∧ (parseMethodDescriptor yX12_way.desc).map (fun d => d.parameters.length) = some 3 := by decide +kernel
theorem ml_90 : Cond.methodLink R_law 90 yX11_gentle ∈ gT ∧ Cond.instanceMethod yX11_gentle ∈ gT ∧ Cond.selects yX11_gentle.cls yX11_gentle yX11_gentle ∈ gT ∧ Cond.initialized yX11_gentle.cls ∈ gT ∧ Cond.code yX11_gentle cX11_gentle 3 (some .int) ∈ gT := ⟨inL4 47 (by decide +kernel) rfl, inL4 48 (by decide +kernel) rfl, inL4 49 (by decide +kernel) rfl, inL1 1 (by decide +kernel) rfl, inL4 50 (by decide +kernel) rfl⟩
theorem my_90 : yX11_gentle.cls ≠ "java/lang/invoke/MethodHandle" ∧ yX11_gentle.cls ≠ "java/lang/invoke/VarHandle" ∧ (parseMethodDescriptor yX11_gentle.desc).map (fun d => d.parameters.length) = some 2 := by decide +kernel
theorem ml_93 : Cond.methodLink R_law 93 yX12_gentle ∈ gT ∧ Cond.instanceMethod yX12_gentle ∈ gT ∧ Cond.selects yX12_gentle.cls yX12_gentle yX12_gentle ∈ gT ∧ Cond.initialized yX12_gentle.cls ∈ gT ∧ Cond.code yX12_gentle cX12_gentle 3 (some .int) ∈ gT := ⟨inL6 171 (by decide +kernel) rfl, inL6 172 (by decide +kernel) rfl, inL6 173 (by decide +kernel) rfl, inL1 13 (by decide +kernel) rfl, inL6 174 (by decide +kernel) rfl⟩
theorem my_93 : yX12_gentle.cls ≠ "java/lang/invoke/MethodHandle" ∧ yX12_gentle.cls ≠ "java/lang/invoke/VarHandle" ∧ (parseMethodDescriptor yX12_gentle.desc).map (fun d => d.parameters.length) = some 2 := by decide +kernel
theorem ml_94 : Cond.methodLink R_law 94 yX11_where ∈ gT ∧ Cond.instanceMethod yX11_where ∈ gT ∧ Cond.selects yX11_where.cls yX11_where yX11_where ∈ gT ∧ Cond.initialized yX11_where.cls ∈ gT ∧ Cond.code yX11_where cX11_where 5 (some .int) ∈ gT := ⟨inL4 51 (by decide +kernel) rfl, inL4 52 (by decide +kernel) rfl, inL4 53 (by decide +kernel) rfl, inL1 1 (by decide +kernel) rfl, inL4 54 (by decide +kernel) rfl⟩
theorem my_94 : yX11_where.cls ≠ "java/lang/invoke/MethodHandle" ∧ yX11_where.cls ≠ "java/lang/invoke/VarHandle" ∧ (parseMethodDescriptor yX11_where.desc).map (fun d => d.parameters.length) = some 2 := by decide +kernel
theorem ml_97 : Cond.methodLink R_law 97 yX12_where ∈ gT ∧ Cond.instanceMethod yX12_where ∈ gT ∧ Cond.selects yX12_where.cls yX12_where yX12_where ∈ gT ∧ Cond.initialized yX12_where.cls ∈ gT ∧ Cond.code yX12_where cX12_where 4 (some .int) ∈ gT := ⟨inL6 175 (by decide +kernel) rfl, inL6 176 (by decide +kernel) rfl, inL6 177 (by decide +kernel) rfl, inL1 13 (by decide +kernel) rfl, inL6 178 (by decide +kernel) rfl⟩
theorem my_97 : yX12_where.cls ≠ "java/lang/invoke/MethodHandle" ∧ yX12_where.cls ≠ "java/lang/invoke/VarHandle" ∧ (parseMethodDescriptor yX12_where.desc).map (fun d => d.parameters.length) = some 2 := by decide +kernel
theorem ml_98 : Cond.methodLink R_law 98 yX11_share ∈ gT ∧ Cond.instanceMethod yX11_share ∈ gT ∧ Cond.selects yX11_share.cls yX11_share yX11_share ∈ gT ∧ Cond.initialized yX11_share.cls ∈ gT ∧ Cond.code yX11_share cX11_share 2 (some .int) ∈ gT := ⟨inL4 56 (by decide +kernel) rfl, inL4 57 (by decide +kernel) rfl, inL4 58 (by decide +kernel) rfl, inL1 1 (by decide +kernel) rfl, inL4 59 (by decide +kernel) rfl⟩
theorem my_98 : yX11_share.cls ≠ "java/lang/invoke/MethodHandle" ∧ yX11_share.cls ≠ "java/lang/invoke/VarHandle" ∧ (parseMethodDescriptor yX11_share.desc).map (fun d => d.parameters.length) = some 1 := by decide +kernel
theorem ml_101 : Cond.methodLink R_law 101 yX12_share ∈ gT ∧ Cond.instanceMethod yX12_share ∈ gT ∧ Cond.selects yX12_share.cls yX12_share yX12_share ∈ gT ∧ Cond.initialized yX12_share.cls ∈ gT ∧ Cond.code yX12_share cX12_share 3 (some .int) ∈ gT := ⟨inL6 179 (by decide +kernel) rfl, inL6 180 (by decide +kernel) rfl, inL6 181 (by decide +kernel) rfl, inL1 13 (by decide +kernel) rfl, inL6 182 (by decide +kernel) rfl⟩
theorem my_101 : yX12_share.cls ≠ "java/lang/invoke/MethodHandle" ∧ yX12_share.cls ≠ "java/lang/invoke/VarHandle" ∧ (parseMethodDescriptor yX12_share.desc).map (fun d => d.parameters.length) = some 1 := by decide +kernel
theorem ml_102 : Cond.methodLink R_law 102 yX11_seen ∈ gT ∧ Cond.instanceMethod yX11_seen ∈ gT ∧ Cond.selects yX11_seen.cls yX11_seen yX11_seen ∈ gT ∧ Cond.initialized yX11_seen.cls ∈ gT ∧ Cond.code yX11_seen cX11_seen 6 (some .int) ∈ gT := ⟨inL4 74 (by decide +kernel) rfl, inL4 75 (by decide +kernel) rfl, inL4 76 (by decide +kernel) rfl, inL1 1 (by decide +kernel) rfl, inL4 77 (by decide +kernel) rfl⟩
theorem my_102 : yX11_seen.cls ≠ "java/lang/invoke/MethodHandle" ∧ yX11_seen.cls ≠ "java/lang/invoke/VarHandle" ∧ (parseMethodDescriptor yX11_seen.desc).map (fun d => d.parameters.length) = some 4 := by decide +kernel
theorem ml_105 : Cond.methodLink R_law 105 yX12_seen ∈ gT ∧ Cond.instanceMethod yX12_seen ∈ gT ∧ Cond.selects yX12_seen.cls yX12_seen yX12_seen ∈ gT ∧ Cond.initialized yX12_seen.cls ∈ gT ∧ Cond.code yX12_seen cX12_seen 6 (some .int) ∈ gT := ⟨inL6 195 (by decide +kernel) rfl, inL6 196 (by decide +kernel) rfl, inL6 197 (by decide +kernel) rfl, inL1 13 (by decide +kernel) rfl, inL6 198 (by decide +kernel) rfl⟩
theorem my_105 : yX12_seen.cls ≠ "java/lang/invoke/MethodHandle" ∧ yX12_seen.cls ≠ "java/lang/invoke/VarHandle" ∧ (parseMethodDescriptor yX12_seen.desc).map (fun d => d.parameters.length) = some 4 := by decide +kernel
theorem ml_106 : Cond.methodLink R_law 106 yX11_tongues ∈ gT ∧ Cond.instanceMethod yX11_tongues ∈ gT ∧ Cond.selects yX11_tongues.cls yX11_tongues yX11_tongues ∈ gT ∧ Cond.initialized yX11_tongues.cls ∈ gT ∧ Cond.code yX11_tongues cX11_tongues 2 (some .int) ∈ gT := ⟨inL4 90 (by decide +kernel) rfl, inL4 91 (by decide +kernel) rfl, inL4 92 (by decide +kernel) rfl, inL1 1 (by decide +kernel) rfl, inL4 93 (by decide +kernel) rfl⟩
theorem my_106 : yX11_tongues.cls ≠ "java/lang/invoke/MethodHandle" ∧ yX11_tongues.cls ≠ "java/lang/invoke/VarHandle" ∧ (parseMethodDescriptor yX11_tongues.desc).map (fun d => d.parameters.length) = some 1 := by decide +kernel
theorem ml_109 : Cond.methodLink R_law 109 yX12_tongues ∈ gT ∧ Cond.instanceMethod yX12_tongues ∈ gT ∧ Cond.selects yX12_tongues.cls yX12_tongues yX12_tongues ∈ gT ∧ Cond.initialized yX12_tongues.cls ∈ gT ∧ Cond.code yX12_tongues cX12_tongues 2 (some .int) ∈ gT := ⟨inL6 200 (by decide +kernel) rfl, inL6 201 (by decide +kernel) rfl, inL6 202 (by decide +kernel) rfl, inL1 13 (by decide +kernel) rfl, inL6 203 (by decide +kernel) rfl⟩
theorem my_109 : yX12_tongues.cls ≠ "java/lang/invoke/MethodHandle" ∧ yX12_tongues.cls ≠ "java/lang/invoke/VarHandle" ∧ (parseMethodDescriptor yX12_tongues.desc).map (fun d => d.parameters.length) = some 1 := by decide +kernel
theorem ml_110 : Cond.methodLink R_law 110 yX11_tell ∈ gT ∧ Cond.instanceMethod yX11_tell ∈ gT ∧ Cond.selects yX11_tell.cls yX11_tell yX11_tell ∈ gT ∧ Cond.initialized yX11_tell.cls ∈ gT ∧ Cond.code yX11_tell cX11_tell 2 (some .int) ∈ gT := ⟨inL4 107 (by decide +kernel) rfl, inL4 108 (by decide +kernel) rfl, inL4 109 (by decide +kernel) rfl, inL1 1 (by decide +kernel) rfl, inL4 110 (by decide +kernel) rfl⟩
theorem my_110 : yX11_tell.cls ≠ "java/lang/invoke/MethodHandle" ∧ yX11_tell.cls ≠ "java/lang/invoke/VarHandle" ∧ (parseMethodDescriptor yX11_tell.desc).map (fun d => d.parameters.length) = some 1 := by decide +kernel
theorem ml_113 : Cond.methodLink R_law 113 yX12_tell ∈ gT ∧ Cond.instanceMethod yX12_tell ∈ gT ∧ Cond.selects yX12_tell.cls yX12_tell yX12_tell ∈ gT ∧ Cond.initialized yX12_tell.cls ∈ gT ∧ Cond.code yX12_tell cX12_tell 8 (some .int) ∈ gT := ⟨inL6 208 (by decide +kernel) rfl, inL6 209 (by decide +kernel) rfl, inL6 210 (by decide +kernel) rfl, inL1 13 (by decide +kernel) rfl, inL6 211 (by decide +kernel) rfl⟩
theorem my_113 : yX12_tell.cls ≠ "java/lang/invoke/MethodHandle" ∧ yX12_tell.cls ≠ "java/lang/invoke/VarHandle" ∧ (parseMethodDescriptor yX12_tell.desc).map (fun d => d.parameters.length) = some 1 := by decide +kernel
theorem ml_114 : Cond.methodLink R_law 114 yX11_note ∈ gT ∧ Cond.instanceMethod yX11_note ∈ gT ∧ Cond.selects yX11_note.cls yX11_note yX11_note ∈ gT ∧ Cond.initialized yX11_note.cls ∈ gT ∧ Cond.code yX11_note cX11_note 8 (some .int) ∈ gT := ⟨inL4 136 (by decide +kernel) rfl, inL4 137 (by decide +kernel) rfl, inL4 138 (by decide +kernel) rfl, inL1 1 (by decide +kernel) rfl, inL4 139 (by decide +kernel) rfl⟩
theorem my_114 : yX11_note.cls ≠ "java/lang/invoke/MethodHandle" ∧ yX11_note.cls ≠ "java/lang/invoke/VarHandle" ∧ (parseMethodDescriptor yX11_note.desc).map (fun d => d.parameters.length) = some 6 := by decide +kernel
theorem ml_118 : Cond.methodLink R_law 118 yX12_note ∈ gT ∧ Cond.instanceMethod yX12_note ∈ gT ∧ Cond.selects yX12_note.cls yX12_note yX12_note ∈ gT ∧ Cond.initialized yX12_note.cls ∈ gT ∧ Cond.code yX12_note cX12_note 8 (some .int) ∈ gT := ⟨inL6 216 (by decide +kernel) rfl, inL6 217 (by decide +kernel) rfl, inL6 218 (by decide +kernel) rfl, inL1 13 (by decide +kernel) rfl, inL6 219 (by decide +kernel) rfl⟩
theorem my_118 : yX12_note.cls ≠ "java/lang/invoke/MethodHandle" ∧ yX12_note.cls ≠ "java/lang/invoke/VarHandle" ∧ (parseMethodDescriptor yX12_note.desc).map (fun d => d.parameters.length) = some 6 := by decide +kernel
theorem ml_119 : Cond.methodLink R_law 119 yX11_mark ∈ gT ∧ Cond.instanceMethod yX11_mark ∈ gT ∧ Cond.selects yX11_mark.cls yX11_mark yX11_mark ∈ gT ∧ Cond.initialized yX11_mark.cls ∈ gT ∧ Cond.code yX11_mark cX11_mark 7 (some .int) ∈ gT := ⟨inL4 140 (by decide +kernel) rfl, inL4 141 (by decide +kernel) rfl, inL4 142 (by decide +kernel) rfl, inL1 1 (by decide +kernel) rfl, inL4 143 (by decide +kernel) rfl⟩
theorem my_119 : yX11_mark.cls ≠ "java/lang/invoke/MethodHandle" ∧ yX11_mark.cls ≠ "java/lang/invoke/VarHandle" ∧ (parseMethodDescriptor yX11_mark.desc).map (fun d => d.parameters.length) = some 5 := by decide +kernel
theorem ml_123 : Cond.methodLink R_law 123 yX12_mark ∈ gT ∧ Cond.instanceMethod yX12_mark ∈ gT ∧ Cond.selects yX12_mark.cls yX12_mark yX12_mark ∈ gT ∧ Cond.initialized yX12_mark.cls ∈ gT ∧ Cond.code yX12_mark cX12_mark 7 (some .int) ∈ gT := ⟨inL6 222 (by decide +kernel) rfl, inL6 223 (by decide +kernel) rfl, inL6 224 (by decide +kernel) rfl, inL1 13 (by decide +kernel) rfl, inL6 225 (by decide +kernel) rfl⟩
theorem my_123 : yX12_mark.cls ≠ "java/lang/invoke/MethodHandle" ∧ yX12_mark.cls ≠ "java/lang/invoke/VarHandle" ∧ (parseMethodDescriptor yX12_mark.desc).map (fun d => d.parameters.length) = some 5 := by decide +kernel
theorem ml_124 : Cond.methodLink R_law 124 yX11_forget ∈ gT ∧ Cond.instanceMethod yX11_forget ∈ gT ∧ Cond.selects yX11_forget.cls yX11_forget yX11_forget ∈ gT ∧ Cond.initialized yX11_forget.cls ∈ gT ∧ Cond.code yX11_forget cX11_forget 4 (some .int) ∈ gT := ⟨inL4 144 (by decide +kernel) rfl, inL4 145 (by decide +kernel) rfl, inL4 146 (by decide +kernel) rfl, inL1 1 (by decide +kernel) rfl, inL4 147 (by decide +kernel) rfl⟩
theorem my_124 : yX11_forget.cls ≠ "java/lang/invoke/MethodHandle" ∧ yX11_forget.cls ≠ "java/lang/invoke/VarHandle" ∧ (parseMethodDescriptor yX11_forget.desc).map (fun d => d.parameters.length) = some 1 := by decide +kernel
theorem ml_127 : Cond.methodLink R_law 127 yX12_forget ∈ gT ∧ Cond.instanceMethod yX12_forget ∈ gT ∧ Cond.selects yX12_forget.cls yX12_forget yX12_forget ∈ gT ∧ Cond.initialized yX12_forget.cls ∈ gT ∧ Cond.code yX12_forget cX12_forget 4 (some .int) ∈ gT := ⟨inL6 226 (by decide +kernel) rfl, inL6 227 (by decide +kernel) rfl, inL6 228 (by decide +kernel) rfl, inL1 13 (by decide +kernel) rfl, inL6 229 (by decide +kernel) rfl⟩
theorem my_127 : yX12_forget.cls ≠ "java/lang/invoke/MethodHandle" ∧ yX12_forget.cls ≠ "java/lang/invoke/VarHandle" ∧ (parseMethodDescriptor yX12_forget.desc).map (fun d => d.parameters.length) = some 1 := by decide +kernel
theorem ml_128 : Cond.methodLink R_law 128 yX11_is ∈ gT ∧ Cond.instanceMethod yX11_is ∈ gT ∧ Cond.selects yX11_is.cls yX11_is yX11_is ∈ gT ∧ Cond.initialized yX11_is.cls ∈ gT ∧ Cond.code yX11_is cX11_is 2 (some .int) ∈ gT := ⟨inL4 148 (by decide +kernel) rfl, inL4 149 (by decide +kernel) rfl, inL4 150 (by decide +kernel) rfl, inL1 1 (by decide +kernel) rfl, inL4 151 (by decide +kernel) rfl⟩
theorem my_128 : yX11_is.cls ≠ "java/lang/invoke/MethodHandle" ∧ yX11_is.cls ≠ "java/lang/invoke/VarHandle" ∧ (parseMethodDescriptor yX11_is.desc).map (fun d => d.parameters.length) = some 1 := by decide +kernel
theorem ml_131 : Cond.methodLink R_law 131 yX12_is ∈ gT ∧ Cond.instanceMethod yX12_is ∈ gT ∧ Cond.selects yX12_is.cls yX12_is yX12_is ∈ gT ∧ Cond.initialized yX12_is.cls ∈ gT ∧ Cond.code yX12_is cX12_is 2 (some .int) ∈ gT := ⟨inL6 230 (by decide +kernel) rfl, inL6 231 (by decide +kernel) rfl, inL6 232 (by decide +kernel) rfl, inL1 13 (by decide +kernel) rfl, inL6 233 (by decide +kernel) rfl⟩
theorem my_131 : yX12_is.cls ≠ "java/lang/invoke/MethodHandle" ∧ yX12_is.cls ≠ "java/lang/invoke/VarHandle" ∧ (parseMethodDescriptor yX12_is.desc).map (fun d => d.parameters.length) = some 1 := by decide +kernel
theorem ml_132 : Cond.methodLink R_law 132 yX11_look ∈ gT ∧ Cond.instanceMethod yX11_look ∈ gT ∧ Cond.selects yX11_look.cls yX11_look yX11_look ∈ gT ∧ Cond.initialized yX11_look.cls ∈ gT ∧ Cond.code yX11_look cX11_look 2 (some .int) ∈ gT := ⟨inL4 161 (by decide +kernel) rfl, inL4 162 (by decide +kernel) rfl, inL4 163 (by decide +kernel) rfl, inL1 1 (by decide +kernel) rfl, inL4 164 (by decide +kernel) rfl⟩
theorem my_132 : yX11_look.cls ≠ "java/lang/invoke/MethodHandle" ∧ yX11_look.cls ≠ "java/lang/invoke/VarHandle" ∧ (parseMethodDescriptor yX11_look.desc).map (fun d => d.parameters.length) = some 1 := by decide +kernel
theorem ml_135 : Cond.methodLink R_law 135 yX12_look ∈ gT ∧ Cond.instanceMethod yX12_look ∈ gT ∧ Cond.selects yX12_look.cls yX12_look yX12_look ∈ gT ∧ Cond.initialized yX12_look.cls ∈ gT ∧ Cond.code yX12_look cX12_look 8 (some .int) ∈ gT := ⟨inL6 238 (by decide +kernel) rfl, inL6 239 (by decide +kernel) rfl, inL7 0 (by decide +kernel) rfl, inL1 13 (by decide +kernel) rfl, inL7 1 (by decide +kernel) rfl⟩
theorem my_135 : yX12_look.cls ≠ "java/lang/invoke/MethodHandle" ∧ yX12_look.cls ≠ "java/lang/invoke/VarHandle" ∧ (parseMethodDescriptor yX12_look.desc).map (fun d => d.parameters.length) = some 1 := by decide +kernel
theorem ml_136 : Cond.methodLink R_law 136 yX11_kinds ∈ gT ∧ Cond.instanceMethod yX11_kinds ∈ gT ∧ Cond.selects yX11_kinds.cls yX11_kinds yX11_kinds ∈ gT ∧ Cond.initialized yX11_kinds.cls ∈ gT ∧ Cond.code yX11_kinds cX11_kinds 2 (some .int) ∈ gT := ⟨inL4 170 (by decide +kernel) rfl, inL4 171 (by decide +kernel) rfl, inL4 172 (by decide +kernel) rfl, inL1 1 (by decide +kernel) rfl, inL4 173 (by decide +kernel) rfl⟩
theorem my_136 : yX11_kinds.cls ≠ "java/lang/invoke/MethodHandle" ∧ yX11_kinds.cls ≠ "java/lang/invoke/VarHandle" ∧ (parseMethodDescriptor yX11_kinds.desc).map (fun d => d.parameters.length) = some 1 := by decide +kernel
theorem ml_139 : Cond.methodLink R_law 139 yX12_kinds ∈ gT ∧ Cond.instanceMethod yX12_kinds ∈ gT ∧ Cond.selects yX12_kinds.cls yX12_kinds yX12_kinds ∈ gT ∧ Cond.initialized yX12_kinds.cls ∈ gT ∧ Cond.code yX12_kinds cX12_kinds 2 (some .int) ∈ gT := ⟨inL7 2 (by decide +kernel) rfl, inL7 3 (by decide +kernel) rfl, inL7 4 (by decide +kernel) rfl, inL1 13 (by decide +kernel) rfl, inL7 5 (by decide +kernel) rfl⟩
theorem my_139 : yX12_kinds.cls ≠ "java/lang/invoke/MethodHandle" ∧ yX12_kinds.cls ≠ "java/lang/invoke/VarHandle" ∧ (parseMethodDescriptor yX12_kinds.desc).map (fun d => d.parameters.length) = some 1 := by decide +kernel
theorem ml_140 : Cond.methodLink R_law 140 yX11_ask ∈ gT ∧ Cond.instanceMethod yX11_ask ∈ gT ∧ Cond.selects yX11_ask.cls yX11_ask yX11_ask ∈ gT ∧ Cond.initialized yX11_ask.cls ∈ gT ∧ Cond.code yX11_ask cX11_ask 2 (some .int) ∈ gT := ⟨inL4 182 (by decide +kernel) rfl, inL4 183 (by decide +kernel) rfl, inL4 184 (by decide +kernel) rfl, inL1 1 (by decide +kernel) rfl, inL4 185 (by decide +kernel) rfl⟩
theorem my_140 : yX11_ask.cls ≠ "java/lang/invoke/MethodHandle" ∧ yX11_ask.cls ≠ "java/lang/invoke/VarHandle" ∧ (parseMethodDescriptor yX11_ask.desc).map (fun d => d.parameters.length) = some 1 := by decide +kernel
theorem ml_143 : Cond.methodLink R_law 143 yX12_ask ∈ gT ∧ Cond.instanceMethod yX12_ask ∈ gT ∧ Cond.selects yX12_ask.cls yX12_ask yX12_ask ∈ gT ∧ Cond.initialized yX12_ask.cls ∈ gT ∧ Cond.code yX12_ask cX12_ask 8 (some .int) ∈ gT := ⟨inL7 10 (by decide +kernel) rfl, inL7 11 (by decide +kernel) rfl, inL7 12 (by decide +kernel) rfl, inL1 13 (by decide +kernel) rfl, inL7 13 (by decide +kernel) rfl⟩
theorem my_143 : yX12_ask.cls ≠ "java/lang/invoke/MethodHandle" ∧ yX12_ask.cls ≠ "java/lang/invoke/VarHandle" ∧ (parseMethodDescriptor yX12_ask.desc).map (fun d => d.parameters.length) = some 1 := by decide +kernel
theorem ml_144 : Cond.methodLink R_law 144 yX11_lamp ∈ gT ∧ Cond.instanceMethod yX11_lamp ∈ gT ∧ Cond.selects yX11_lamp.cls yX11_lamp yX11_lamp ∈ gT ∧ Cond.initialized yX11_lamp.cls ∈ gT ∧ Cond.code yX11_lamp cX11_lamp 4 (some .int) ∈ gT := ⟨inL4 191 (by decide +kernel) rfl, inL4 192 (by decide +kernel) rfl, inL4 193 (by decide +kernel) rfl, inL1 1 (by decide +kernel) rfl, inL4 194 (by decide +kernel) rfl⟩
theorem my_144 : yX11_lamp.cls ≠ "java/lang/invoke/MethodHandle" ∧ yX11_lamp.cls ≠ "java/lang/invoke/VarHandle" ∧ (parseMethodDescriptor yX11_lamp.desc).map (fun d => d.parameters.length) = some 3 := by decide +kernel
theorem ml_147 : Cond.methodLink R_law 147 yX12_lamp ∈ gT ∧ Cond.instanceMethod yX12_lamp ∈ gT ∧ Cond.selects yX12_lamp.cls yX12_lamp yX12_lamp ∈ gT ∧ Cond.initialized yX12_lamp.cls ∈ gT ∧ Cond.code yX12_lamp cX12_lamp 7 (some .int) ∈ gT := ⟨inL7 14 (by decide +kernel) rfl, inL7 15 (by decide +kernel) rfl, inL7 16 (by decide +kernel) rfl, inL1 13 (by decide +kernel) rfl, inL7 17 (by decide +kernel) rfl⟩
theorem my_147 : yX12_lamp.cls ≠ "java/lang/invoke/MethodHandle" ∧ yX12_lamp.cls ≠ "java/lang/invoke/VarHandle" ∧ (parseMethodDescriptor yX12_lamp.desc).map (fun d => d.parameters.length) = some 3 := by decide +kernel
theorem ml_148 : Cond.methodLink R_law 148 yX11_odds ∈ gT ∧ Cond.instanceMethod yX11_odds ∈ gT ∧ Cond.selects yX11_odds.cls yX11_odds yX11_odds ∈ gT ∧ Cond.initialized yX11_odds.cls ∈ gT ∧ Cond.code yX11_odds cX11_odds 5 (some .int) ∈ gT := ⟨inL4 217 (by decide +kernel) rfl, inL4 218 (by decide +kernel) rfl, inL4 219 (by decide +kernel) rfl, inL1 1 (by decide +kernel) rfl, inL4 220 (by decide +kernel) rfl⟩
theorem my_148 : yX11_odds.cls ≠ "java/lang/invoke/MethodHandle" ∧ yX11_odds.cls ≠ "java/lang/invoke/VarHandle" ∧ (parseMethodDescriptor yX11_odds.desc).map (fun d => d.parameters.length) = some 4 := by decide +kernel
theorem ml_151 : Cond.methodLink R_law 151 yX12_odds ∈ gT ∧ Cond.instanceMethod yX12_odds ∈ gT ∧ Cond.selects yX12_odds.cls yX12_odds yX12_odds ∈ gT ∧ Cond.initialized yX12_odds.cls ∈ gT ∧ Cond.code yX12_odds cX12_odds 5 (some .int) ∈ gT := ⟨inL7 26 (by decide +kernel) rfl, inL7 27 (by decide +kernel) rfl, inL7 28 (by decide +kernel) rfl, inL1 13 (by decide +kernel) rfl, inL7 29 (by decide +kernel) rfl⟩
theorem my_151 : yX12_odds.cls ≠ "java/lang/invoke/MethodHandle" ∧ yX12_odds.cls ≠ "java/lang/invoke/VarHandle" ∧ (parseMethodDescriptor yX12_odds.desc).map (fun d => d.parameters.length) = some 4 := by decide +kernel
theorem ml_152 : Cond.methodLink R_law 152 yX11_mean ∈ gT ∧ Cond.instanceMethod yX11_mean ∈ gT ∧ Cond.selects yX11_mean.cls yX11_mean yX11_mean ∈ gT ∧ Cond.initialized yX11_mean.cls ∈ gT ∧ Cond.code yX11_mean cX11_mean 4 (some .int) ∈ gT := ⟨inL5 4 (by decide +kernel) rfl, inL5 5 (by decide +kernel) rfl, inL5 6 (by decide +kernel) rfl, inL1 1 (by decide +kernel) rfl, inL5 7 (by decide +kernel) rfl⟩
theorem my_152 : yX11_mean.cls ≠ "java/lang/invoke/MethodHandle" ∧ yX11_mean.cls ≠ "java/lang/invoke/VarHandle" ∧ (parseMethodDescriptor yX11_mean.desc).map (fun d => d.parameters.length) = some 3 := by decide +kernel
theorem ml_155 : Cond.methodLink R_law 155 yX12_mean ∈ gT ∧ Cond.instanceMethod yX12_mean ∈ gT ∧ Cond.selects yX12_mean.cls yX12_mean yX12_mean ∈ gT ∧ Cond.initialized yX12_mean.cls ∈ gT ∧ Cond.code yX12_mean cX12_mean 4 (some .int) ∈ gT := ⟨inL7 39 (by decide +kernel) rfl, inL7 40 (by decide +kernel) rfl, inL7 41 (by decide +kernel) rfl, inL1 13 (by decide +kernel) rfl, inL7 42 (by decide +kernel) rfl⟩
theorem my_155 : yX12_mean.cls ≠ "java/lang/invoke/MethodHandle" ∧ yX12_mean.cls ≠ "java/lang/invoke/VarHandle" ∧ (parseMethodDescriptor yX12_mean.desc).map (fun d => d.parameters.length) = some 3 := by decide +kernel
theorem ml_156 : Cond.methodLink R_law 156 yX11_nights ∈ gT ∧ Cond.instanceMethod yX11_nights ∈ gT ∧ Cond.selects yX11_nights.cls yX11_nights yX11_nights ∈ gT ∧ Cond.initialized yX11_nights.cls ∈ gT ∧ Cond.code yX11_nights cX11_nights 6 (some .int) ∈ gT := ⟨inL5 12 (by decide +kernel) rfl, inL5 13 (by decide +kernel) rfl, inL5 14 (by decide +kernel) rfl, inL1 1 (by decide +kernel) rfl, inL5 15 (by decide +kernel) rfl⟩
theorem my_156 : yX11_nights.cls ≠ "java/lang/invoke/MethodHandle" ∧ yX11_nights.cls ≠ "java/lang/invoke/VarHandle" ∧ (parseMethodDescriptor yX11_nights.desc).map (fun d => d.parameters.length) = some 2 := by decide +kernel
theorem ml_159 : Cond.methodLink R_law 159 yX12_nights ∈ gT ∧ Cond.instanceMethod yX12_nights ∈ gT ∧ Cond.selects yX12_nights.cls yX12_nights yX12_nights ∈ gT ∧ Cond.initialized yX12_nights.cls ∈ gT ∧ Cond.code yX12_nights cX12_nights 9 (some .int) ∈ gT := ⟨inL7 43 (by decide +kernel) rfl, inL7 44 (by decide +kernel) rfl, inL7 45 (by decide +kernel) rfl, inL1 13 (by decide +kernel) rfl, inL7 46 (by decide +kernel) rfl⟩
theorem my_159 : yX12_nights.cls ≠ "java/lang/invoke/MethodHandle" ∧ yX12_nights.cls ≠ "java/lang/invoke/VarHandle" ∧ (parseMethodDescriptor yX12_nights.desc).map (fun d => d.parameters.length) = some 2 := by decide +kernel
theorem ml_160 : Cond.methodLink R_law 160 yX11_part ∈ gT ∧ Cond.instanceMethod yX11_part ∈ gT ∧ Cond.selects yX11_part.cls yX11_part yX11_part ∈ gT ∧ Cond.initialized yX11_part.cls ∈ gT ∧ Cond.code yX11_part cX11_part 2 (some .long) ∈ gT := ⟨inL5 44 (by decide +kernel) rfl, inL5 45 (by decide +kernel) rfl, inL5 46 (by decide +kernel) rfl, inL1 1 (by decide +kernel) rfl, inL5 47 (by decide +kernel) rfl⟩
theorem my_160 : yX11_part.cls ≠ "java/lang/invoke/MethodHandle" ∧ yX11_part.cls ≠ "java/lang/invoke/VarHandle" ∧ (parseMethodDescriptor yX11_part.desc).map (fun d => d.parameters.length) = some 1 := by decide +kernel
theorem ml_164 : Cond.methodLink R_law 164 yX12_part ∈ gT ∧ Cond.instanceMethod yX12_part ∈ gT ∧ Cond.selects yX12_part.cls yX12_part yX12_part ∈ gT ∧ Cond.initialized yX12_part.cls ∈ gT ∧ Cond.code yX12_part cX12_part 2 (some .long) ∈ gT := ⟨inL7 57 (by decide +kernel) rfl, inL7 58 (by decide +kernel) rfl, inL7 59 (by decide +kernel) rfl, inL1 13 (by decide +kernel) rfl, inL7 60 (by decide +kernel) rfl⟩
theorem my_164 : yX12_part.cls ≠ "java/lang/invoke/MethodHandle" ∧ yX12_part.cls ≠ "java/lang/invoke/VarHandle" ∧ (parseMethodDescriptor yX12_part.desc).map (fun d => d.parameters.length) = some 1 := by decide +kernel
theorem ml_165 : Cond.methodLink R_law 165 yX11_image ∈ gT ∧ Cond.instanceMethod yX11_image ∈ gT ∧ Cond.selects yX11_image.cls yX11_image yX11_image ∈ gT ∧ Cond.initialized yX11_image.cls ∈ gT ∧ Cond.code yX11_image cX11_image 2 (some .int) ∈ gT := ⟨inL5 48 (by decide +kernel) rfl, inL5 49 (by decide +kernel) rfl, inL5 50 (by decide +kernel) rfl, inL1 1 (by decide +kernel) rfl, inL5 51 (by decide +kernel) rfl⟩
theorem my_165 : yX11_image.cls ≠ "java/lang/invoke/MethodHandle" ∧ yX11_image.cls ≠ "java/lang/invoke/VarHandle" ∧ (parseMethodDescriptor yX11_image.desc).map (fun d => d.parameters.length) = some 1 := by decide +kernel
theorem ml_168 : Cond.methodLink R_law 168 yX12_image ∈ gT ∧ Cond.instanceMethod yX12_image ∈ gT ∧ Cond.selects yX12_image.cls yX12_image yX12_image ∈ gT ∧ Cond.initialized yX12_image.cls ∈ gT ∧ Cond.code yX12_image cX12_image 2 (some .int) ∈ gT := ⟨inL7 61 (by decide +kernel) rfl, inL7 62 (by decide +kernel) rfl, inL7 63 (by decide +kernel) rfl, inL1 13 (by decide +kernel) rfl, inL7 64 (by decide +kernel) rfl⟩
theorem my_168 : yX12_image.cls ≠ "java/lang/invoke/MethodHandle" ∧ yX12_image.cls ≠ "java/lang/invoke/VarHandle" ∧ (parseMethodDescriptor yX12_image.desc).map (fun d => d.parameters.length) = some 1 := by decide +kernel
theorem ml_169 : Cond.methodLink R_law 169 yX11_from ∈ gT ∧ Cond.instanceMethod yX11_from ∈ gT ∧ Cond.selects yX11_from.cls yX11_from yX11_from ∈ gT ∧ Cond.initialized yX11_from.cls ∈ gT ∧ Cond.code yX11_from cX11_from 2 (some .int) ∈ gT := ⟨inL5 52 (by decide +kernel) rfl, inL5 53 (by decide +kernel) rfl, inL5 54 (by decide +kernel) rfl, inL1 1 (by decide +kernel) rfl, inL5 55 (by decide +kernel) rfl⟩
theorem my_169 : yX11_from.cls ≠ "java/lang/invoke/MethodHandle" ∧ yX11_from.cls ≠ "java/lang/invoke/VarHandle" ∧ (parseMethodDescriptor yX11_from.desc).map (fun d => d.parameters.length) = some 1 := by decide +kernel
theorem ml_172 : Cond.methodLink R_law 172 yX12_from ∈ gT ∧ Cond.instanceMethod yX12_from ∈ gT ∧ Cond.selects yX12_from.cls yX12_from yX12_from ∈ gT ∧ Cond.initialized yX12_from.cls ∈ gT ∧ Cond.code yX12_from cX12_from 2 (some .int) ∈ gT := ⟨inL7 65 (by decide +kernel) rfl, inL7 66 (by decide +kernel) rfl, inL7 67 (by decide +kernel) rfl, inL1 13 (by decide +kernel) rfl, inL7 68 (by decide +kernel) rfl⟩
theorem my_172 : yX12_from.cls ≠ "java/lang/invoke/MethodHandle" ∧ yX12_from.cls ≠ "java/lang/invoke/VarHandle" ∧ (parseMethodDescriptor yX12_from.desc).map (fun d => d.parameters.length) = some 1 := by decide +kernel
theorem ml_173 : Cond.methodLink R_law 173 yX11_status ∈ gT ∧ Cond.instanceMethod yX11_status ∈ gT ∧ Cond.selects yX11_status.cls yX11_status yX11_status ∈ gT ∧ Cond.initialized yX11_status.cls ∈ gT ∧ Cond.code yX11_status cX11_status 2 (some .int) ∈ gT := ⟨inL5 56 (by decide +kernel) rfl, inL5 57 (by decide +kernel) rfl, inL5 58 (by decide +kernel) rfl, inL1 1 (by decide +kernel) rfl, inL5 59 (by decide +kernel) rfl⟩
theorem my_173 : yX11_status.cls ≠ "java/lang/invoke/MethodHandle" ∧ yX11_status.cls ≠ "java/lang/invoke/VarHandle" ∧ (parseMethodDescriptor yX11_status.desc).map (fun d => d.parameters.length) = some 1 := by decide +kernel
theorem ml_176 : Cond.methodLink R_law 176 yX12_status ∈ gT ∧ Cond.instanceMethod yX12_status ∈ gT ∧ Cond.selects yX12_status.cls yX12_status yX12_status ∈ gT ∧ Cond.initialized yX12_status.cls ∈ gT ∧ Cond.code yX12_status cX12_status 2 (some .int) ∈ gT := ⟨inL7 69 (by decide +kernel) rfl, inL7 70 (by decide +kernel) rfl, inL7 71 (by decide +kernel) rfl, inL1 13 (by decide +kernel) rfl, inL7 72 (by decide +kernel) rfl⟩
theorem my_176 : yX12_status.cls ≠ "java/lang/invoke/MethodHandle" ∧ yX12_status.cls ≠ "java/lang/invoke/VarHandle" ∧ (parseMethodDescriptor yX12_status.desc).map (fun d => d.parameters.length) = some 1 := by decide +kernel
theorem ml_177 : Cond.methodLink R_law 177 yX11_count ∈ gT ∧ Cond.instanceMethod yX11_count ∈ gT ∧ Cond.selects yX11_count.cls yX11_count yX11_count ∈ gT ∧ Cond.initialized yX11_count.cls ∈ gT ∧ Cond.code yX11_count cX11_count 2 (some .int) ∈ gT := ⟨inL5 60 (by decide +kernel) rfl, inL5 61 (by decide +kernel) rfl, inL5 62 (by decide +kernel) rfl, inL1 1 (by decide +kernel) rfl, inL5 63 (by decide +kernel) rfl⟩
theorem my_177 : yX11_count.cls ≠ "java/lang/invoke/MethodHandle" ∧ yX11_count.cls ≠ "java/lang/invoke/VarHandle" ∧ (parseMethodDescriptor yX11_count.desc).map (fun d => d.parameters.length) = some 1 := by decide +kernel
theorem ml_180 : Cond.methodLink R_law 180 yX12_count ∈ gT ∧ Cond.instanceMethod yX12_count ∈ gT ∧ Cond.selects yX12_count.cls yX12_count yX12_count ∈ gT ∧ Cond.initialized yX12_count.cls ∈ gT ∧ Cond.code yX12_count cX12_count 2 (some .int) ∈ gT := ⟨inL7 73 (by decide +kernel) rfl, inL7 74 (by decide +kernel) rfl, inL7 75 (by decide +kernel) rfl, inL1 13 (by decide +kernel) rfl, inL7 76 (by decide +kernel) rfl⟩
theorem my_180 : yX12_count.cls ≠ "java/lang/invoke/MethodHandle" ∧ yX12_count.cls ≠ "java/lang/invoke/VarHandle" ∧ (parseMethodDescriptor yX12_count.desc).map (fun d => d.parameters.length) = some 1 := by decide +kernel
theorem ml_181 : Cond.methodLink R_law 181 yX11_digest ∈ gT ∧ Cond.instanceMethod yX11_digest ∈ gT ∧ Cond.selects yX11_digest.cls yX11_digest yX11_digest ∈ gT ∧ Cond.initialized yX11_digest.cls ∈ gT ∧ Cond.code yX11_digest cX11_digest 4 (some .long) ∈ gT := ⟨inL5 75 (by decide +kernel) rfl, inL5 76 (by decide +kernel) rfl, inL5 77 (by decide +kernel) rfl, inL1 1 (by decide +kernel) rfl, inL5 78 (by decide +kernel) rfl⟩
theorem my_181 : yX11_digest.cls ≠ "java/lang/invoke/MethodHandle" ∧ yX11_digest.cls ≠ "java/lang/invoke/VarHandle" ∧ (parseMethodDescriptor yX11_digest.desc).map (fun d => d.parameters.length) = some 0 := by decide +kernel
theorem ml_185 : Cond.methodLink R_law 185 yX12_digest ∈ gT ∧ Cond.instanceMethod yX12_digest ∈ gT ∧ Cond.selects yX12_digest.cls yX12_digest yX12_digest ∈ gT ∧ Cond.initialized yX12_digest.cls ∈ gT ∧ Cond.code yX12_digest cX12_digest 5 (some .long) ∈ gT := ⟨inL7 85 (by decide +kernel) rfl, inL7 86 (by decide +kernel) rfl, inL7 87 (by decide +kernel) rfl, inL1 13 (by decide +kernel) rfl, inL7 88 (by decide +kernel) rfl⟩
theorem my_185 : yX12_digest.cls ≠ "java/lang/invoke/MethodHandle" ∧ yX12_digest.cls ≠ "java/lang/invoke/VarHandle" ∧ (parseMethodDescriptor yX12_digest.desc).map (fun d => d.parameters.length) = some 0 := by decide +kernel
theorem q_case_water {X : Cx} {b0 L : Nat} {xs : Nat → Int32} {G : St → Nat → List (Nat × Value) → List Value → Prop} (hG : IsL X b0 L xs G) (N : Nat) {Inv : St → Prop} (x3 : Int32) (hb : ∀ c : Nat, c < 7 → inB (x3 + nI c) L = true) (σ : St) (hI : Inv σ) (hK : ∀ σ, Inv σ → G σ 1509 [(0, .ref b0), (1, .ref (X.2.1 + 0)), (2, .ref (X.2.1 + 114)), (3, .int x3)] []) (hs : Sim_water N Inv) : G σ 212 [(0, .ref b0), (1, .ref (X.2.1 + 0)), (2, .ref (X.2.1 + 114)), (3, .int x3)] [] := by
  obtain ⟨r, σ1, σ2, e1, e2, hI2⟩ := hs σ hI (xs (x3 + 1).toNatClampNeg)
  refine q_aload_n (pc := 212) 1 1 rfl rfl hG dL_law_212 ?_
  refine q_aload_n (pc := 213) 0 0 rfl rfl hG dL_law_213 ?_
  refine q_iload_n (pc := 214) 3 3 rfl rfl hG dL_law_214 ?_
  refine q_iconst (pc := 215) (v := 1) (by decide) hG dL_law_215 ?_
  refine q_iadd (pc := 216) hG dL_law_216 ?_
  refine q_sld (pc := 217) (hb 1 (by decide)) hG dL_law_217 ?_
  refine q_Goi (pc := 218) (As := [.int (xs (x3 + 1).toNatClampNeg)]) rfl (c_Go_water X N (xs (x3 + 1).toNatClampNeg) σ r σ1 e1) ml_13 my_13 (by decide) (by decide) rfl (Nat.le_of_ble_eq_true rfl) hG dL_law_218 rfl ?_
  refine q_aload_n (pc := 221) 2 2 rfl rfl hG dL_law_221 ?_
  refine q_aload_n (pc := 222) 0 0 rfl rfl hG dL_law_222 ?_
  refine q_iload_n (pc := 223) 3 3 rfl rfl hG dL_law_223 ?_
  refine q_iconst (pc := 224) (v := 1) (by decide) hG dL_law_224 ?_
  refine q_iadd (pc := 225) hG dL_law_225 ?_
  refine q_sld (pc := 226) (hb 1 (by decide)) hG dL_law_226 ?_
  refine q_Moi (pc := 227) (As := [.int (xs (x3 + 1).toNatClampNeg)]) rfl (c_Mo_water X N (xs (x3 + 1).toNatClampNeg) σ1 r σ2 e2) ml_17 my_17 (by decide) (by decide) rfl (Nat.le_of_ble_eq_true rfl) hG dL_law_227 rfl ?_
  refine q_eqT (pc := 230) (tgt := 1509) (by decide) hG dL_law_230 ?_
  exact hK _ hI2
theorem q_case_dark {X : Cx} {b0 L : Nat} {xs : Nat → Int32} {G : St → Nat → List (Nat × Value) → List Value → Prop} (hG : IsL X b0 L xs G) (N : Nat) {Inv : St → Prop} (x3 : Int32) (hb : ∀ c : Nat, c < 7 → inB (x3 + nI c) L = true) (σ : St) (hI : Inv σ) (hK : ∀ σ, Inv σ → G σ 1509 [(0, .ref b0), (1, .ref (X.2.1 + 0)), (2, .ref (X.2.1 + 114)), (3, .int x3)] []) (hs : Sim_dark N Inv) : G σ 235 [(0, .ref b0), (1, .ref (X.2.1 + 0)), (2, .ref (X.2.1 + 114)), (3, .int x3)] [] := by
  obtain ⟨r, σ1, σ2, e1, e2, hI2⟩ := hs σ hI (xs (x3 + 1).toNatClampNeg) (xs (x3 + 2).toNatClampNeg)
  refine q_aload_n (pc := 235) 1 1 rfl rfl hG dL_law_235 ?_
  refine q_aload_n (pc := 236) 0 0 rfl rfl hG dL_law_236 ?_
  refine q_iload_n (pc := 237) 3 3 rfl rfl hG dL_law_237 ?_
  refine q_iconst (pc := 238) (v := 1) (by decide) hG dL_law_238 ?_
  refine q_iadd (pc := 239) hG dL_law_239 ?_
  refine q_sld (pc := 240) (hb 1 (by decide)) hG dL_law_240 ?_
  refine q_aload_n (pc := 241) 0 0 rfl rfl hG dL_law_241 ?_
  refine q_iload_n (pc := 242) 3 3 rfl rfl hG dL_law_242 ?_
  refine q_iconst (pc := 243) (v := 2) (by decide) hG dL_law_243 ?_
  refine q_iadd (pc := 244) hG dL_law_244 ?_
  refine q_sld (pc := 245) (hb 2 (by decide)) hG dL_law_245 ?_
  refine q_Goi (pc := 246) (As := [.int (xs (x3 + 1).toNatClampNeg), .int (xs (x3 + 2).toNatClampNeg)]) rfl (c_Go_dark X N (xs (x3 + 1).toNatClampNeg) (xs (x3 + 2).toNatClampNeg) σ r σ1 e1) ml_18 my_18 (by decide) (by decide) rfl (Nat.le_of_ble_eq_true rfl) hG dL_law_246 rfl ?_
  refine q_aload_n (pc := 249) 2 2 rfl rfl hG dL_law_249 ?_
  refine q_aload_n (pc := 250) 0 0 rfl rfl hG dL_law_250 ?_
  refine q_iload_n (pc := 251) 3 3 rfl rfl hG dL_law_251 ?_
  refine q_iconst (pc := 252) (v := 1) (by decide) hG dL_law_252 ?_
  refine q_iadd (pc := 253) hG dL_law_253 ?_
  refine q_sld (pc := 254) (hb 1 (by decide)) hG dL_law_254 ?_
  refine q_aload_n (pc := 255) 0 0 rfl rfl hG dL_law_255 ?_
  refine q_iload_n (pc := 256) 3 3 rfl rfl hG dL_law_256 ?_
  refine q_iconst (pc := 257) (v := 2) (by decide) hG dL_law_257 ?_
  refine q_iadd (pc := 258) hG dL_law_258 ?_
  refine q_sld (pc := 259) (hb 2 (by decide)) hG dL_law_259 ?_
  refine q_Moi (pc := 260) (As := [.int (xs (x3 + 1).toNatClampNeg), .int (xs (x3 + 2).toNatClampNeg)]) rfl (c_Mo_dark X N (xs (x3 + 1).toNatClampNeg) (xs (x3 + 2).toNatClampNeg) σ1 r σ2 e2) ml_22 my_22 (by decide) (by decide) rfl (Nat.le_of_ble_eq_true rfl) hG dL_law_260 rfl ?_
  refine q_eqT (pc := 263) (tgt := 1509) (by decide) hG dL_law_263 ?_
  exact hK _ hI2
theorem q_case_canal {X : Cx} {b0 L : Nat} {xs : Nat → Int32} {G : St → Nat → List (Nat × Value) → List Value → Prop} (hG : IsL X b0 L xs G) (N : Nat) {Inv : St → Prop} (x3 : Int32) (hb : ∀ c : Nat, c < 7 → inB (x3 + nI c) L = true) (σ : St) (hI : Inv σ) (hK : ∀ σ, Inv σ → G σ 1509 [(0, .ref b0), (1, .ref (X.2.1 + 0)), (2, .ref (X.2.1 + 114)), (3, .int x3)] []) (hs : Sim_canal N Inv) : G σ 268 [(0, .ref b0), (1, .ref (X.2.1 + 0)), (2, .ref (X.2.1 + 114)), (3, .int x3)] [] := by
  obtain ⟨r, σ1, σ2, e1, e2, hI2⟩ := hs σ hI (xs (x3 + 1).toNatClampNeg) (xs (x3 + 2).toNatClampNeg) (xs (x3 + 3).toNatClampNeg)
  refine q_aload_n (pc := 268) 1 1 rfl rfl hG dL_law_268 ?_
  refine q_aload_n (pc := 269) 0 0 rfl rfl hG dL_law_269 ?_
  refine q_iload_n (pc := 270) 3 3 rfl rfl hG dL_law_270 ?_
  refine q_iconst (pc := 271) (v := 1) (by decide) hG dL_law_271 ?_
  refine q_iadd (pc := 272) hG dL_law_272 ?_
  refine q_sld (pc := 273) (hb 1 (by decide)) hG dL_law_273 ?_
  refine q_aload_n (pc := 274) 0 0 rfl rfl hG dL_law_274 ?_
  refine q_iload_n (pc := 275) 3 3 rfl rfl hG dL_law_275 ?_
  refine q_iconst (pc := 276) (v := 2) (by decide) hG dL_law_276 ?_
  refine q_iadd (pc := 277) hG dL_law_277 ?_
  refine q_sld (pc := 278) (hb 2 (by decide)) hG dL_law_278 ?_
  refine q_aload_n (pc := 279) 0 0 rfl rfl hG dL_law_279 ?_
  refine q_iload_n (pc := 280) 3 3 rfl rfl hG dL_law_280 ?_
  refine q_iconst (pc := 281) (v := 3) (by decide) hG dL_law_281 ?_
  refine q_iadd (pc := 282) hG dL_law_282 ?_
  refine q_sld (pc := 283) (hb 3 (by decide)) hG dL_law_283 ?_
  refine q_Goi (pc := 284) (As := [.int (xs (x3 + 1).toNatClampNeg), .int (xs (x3 + 2).toNatClampNeg), .int (xs (x3 + 3).toNatClampNeg)]) rfl (c_Go_canal X N (xs (x3 + 1).toNatClampNeg) (xs (x3 + 2).toNatClampNeg) (xs (x3 + 3).toNatClampNeg) σ r σ1 e1) ml_23 my_23 (by decide) (by decide) rfl (Nat.le_of_ble_eq_true rfl) hG dL_law_284 rfl ?_
  refine q_aload_n (pc := 287) 2 2 rfl rfl hG dL_law_287 ?_
  refine q_aload_n (pc := 288) 0 0 rfl rfl hG dL_law_288 ?_
  refine q_iload_n (pc := 289) 3 3 rfl rfl hG dL_law_289 ?_
  refine q_iconst (pc := 290) (v := 1) (by decide) hG dL_law_290 ?_
  refine q_iadd (pc := 291) hG dL_law_291 ?_
  refine q_sld (pc := 292) (hb 1 (by decide)) hG dL_law_292 ?_
  refine q_aload_n (pc := 293) 0 0 rfl rfl hG dL_law_293 ?_
  refine q_iload_n (pc := 294) 3 3 rfl rfl hG dL_law_294 ?_
  refine q_iconst (pc := 295) (v := 2) (by decide) hG dL_law_295 ?_
  refine q_iadd (pc := 296) hG dL_law_296 ?_
  refine q_sld (pc := 297) (hb 2 (by decide)) hG dL_law_297 ?_
  refine q_aload_n (pc := 298) 0 0 rfl rfl hG dL_law_298 ?_
  refine q_iload_n (pc := 299) 3 3 rfl rfl hG dL_law_299 ?_
  refine q_iconst (pc := 300) (v := 3) (by decide) hG dL_law_300 ?_
  refine q_iadd (pc := 301) hG dL_law_301 ?_
  refine q_sld (pc := 302) (hb 3 (by decide)) hG dL_law_302 ?_
  refine q_Moi (pc := 303) (As := [.int (xs (x3 + 1).toNatClampNeg), .int (xs (x3 + 2).toNatClampNeg), .int (xs (x3 + 3).toNatClampNeg)]) rfl (c_Mo_canal X N (xs (x3 + 1).toNatClampNeg) (xs (x3 + 2).toNatClampNeg) (xs (x3 + 3).toNatClampNeg) σ1 r σ2 e2) ml_27 my_27 (by decide) (by decide) rfl (Nat.le_of_ble_eq_true rfl) hG dL_law_303 rfl ?_
  refine q_eqT (pc := 306) (tgt := 1509) (by decide) hG dL_law_306 ?_
  exact hK _ hI2
theorem q_case_rower {X : Cx} {b0 L : Nat} {xs : Nat → Int32} {G : St → Nat → List (Nat × Value) → List Value → Prop} (hG : IsL X b0 L xs G) (N : Nat) {Inv : St → Prop} (x3 : Int32) (hb : ∀ c : Nat, c < 7 → inB (x3 + nI c) L = true) (σ : St) (hI : Inv σ) (hK : ∀ σ, Inv σ → G σ 1509 [(0, .ref b0), (1, .ref (X.2.1 + 0)), (2, .ref (X.2.1 + 114)), (3, .int x3)] []) (hs : Sim_rower N Inv) : G σ 311 [(0, .ref b0), (1, .ref (X.2.1 + 0)), (2, .ref (X.2.1 + 114)), (3, .int x3)] [] := by
  obtain ⟨r, σ1, σ2, e1, e2, hI2⟩ := hs σ hI (xs (x3 + 1).toNatClampNeg) (xs (x3 + 2).toNatClampNeg)
  refine q_aload_n (pc := 311) 1 1 rfl rfl hG dL_law_311 ?_
  refine q_aload_n (pc := 312) 0 0 rfl rfl hG dL_law_312 ?_
  refine q_iload_n (pc := 313) 3 3 rfl rfl hG dL_law_313 ?_
  refine q_iconst (pc := 314) (v := 1) (by decide) hG dL_law_314 ?_
  refine q_iadd (pc := 315) hG dL_law_315 ?_
  refine q_sld (pc := 316) (hb 1 (by decide)) hG dL_law_316 ?_
  refine q_aload_n (pc := 317) 0 0 rfl rfl hG dL_law_317 ?_
  refine q_iload_n (pc := 318) 3 3 rfl rfl hG dL_law_318 ?_
  refine q_iconst (pc := 319) (v := 2) (by decide) hG dL_law_319 ?_
  refine q_iadd (pc := 320) hG dL_law_320 ?_
  refine q_sld (pc := 321) (hb 2 (by decide)) hG dL_law_321 ?_
  refine q_Goi (pc := 322) (As := [.int (xs (x3 + 1).toNatClampNeg), .int (xs (x3 + 2).toNatClampNeg)]) rfl (c_Go_rower X N (xs (x3 + 1).toNatClampNeg) (xs (x3 + 2).toNatClampNeg) σ r σ1 e1) ml_28 my_28 (by decide) (by decide) rfl (Nat.le_of_ble_eq_true rfl) hG dL_law_322 rfl ?_
  refine q_aload_n (pc := 325) 2 2 rfl rfl hG dL_law_325 ?_
  refine q_aload_n (pc := 326) 0 0 rfl rfl hG dL_law_326 ?_
  refine q_iload_n (pc := 327) 3 3 rfl rfl hG dL_law_327 ?_
  refine q_iconst (pc := 328) (v := 1) (by decide) hG dL_law_328 ?_
  refine q_iadd (pc := 329) hG dL_law_329 ?_
  refine q_sld (pc := 330) (hb 1 (by decide)) hG dL_law_330 ?_
  refine q_aload_n (pc := 331) 0 0 rfl rfl hG dL_law_331 ?_
  refine q_iload_n (pc := 332) 3 3 rfl rfl hG dL_law_332 ?_
  refine q_iconst (pc := 333) (v := 2) (by decide) hG dL_law_333 ?_
  refine q_iadd (pc := 334) hG dL_law_334 ?_
  refine q_sld (pc := 335) (hb 2 (by decide)) hG dL_law_335 ?_
  refine q_Moi (pc := 336) (As := [.int (xs (x3 + 1).toNatClampNeg), .int (xs (x3 + 2).toNatClampNeg)]) rfl (c_Mo_rower X N (xs (x3 + 1).toNatClampNeg) (xs (x3 + 2).toNatClampNeg) σ1 r σ2 e2) ml_31 my_31 (by decide) (by decide) rfl (Nat.le_of_ble_eq_true rfl) hG dL_law_336 rfl ?_
  refine q_eqT (pc := 339) (tgt := 1509) (by decide) hG dL_law_339 ?_
  exact hK _ hI2
theorem q_case_guest {X : Cx} {b0 L : Nat} {xs : Nat → Int32} {G : St → Nat → List (Nat × Value) → List Value → Prop} (hG : IsL X b0 L xs G) (N : Nat) {Inv : St → Prop} (x3 : Int32) (hb : ∀ c : Nat, c < 7 → inB (x3 + nI c) L = true) (σ : St) (hI : Inv σ) (hK : ∀ σ, Inv σ → G σ 1509 [(0, .ref b0), (1, .ref (X.2.1 + 0)), (2, .ref (X.2.1 + 114)), (3, .int x3)] []) (hs : Sim_guest N Inv) : G σ 344 [(0, .ref b0), (1, .ref (X.2.1 + 0)), (2, .ref (X.2.1 + 114)), (3, .int x3)] [] := by
  obtain ⟨r, σ1, σ2, e1, e2, hI2⟩ := hs σ hI (xs (x3 + 1).toNatClampNeg) (xs (x3 + 2).toNatClampNeg)
  refine q_aload_n (pc := 344) 1 1 rfl rfl hG dL_law_344 ?_
  refine q_aload_n (pc := 345) 0 0 rfl rfl hG dL_law_345 ?_
  refine q_iload_n (pc := 346) 3 3 rfl rfl hG dL_law_346 ?_
  refine q_iconst (pc := 347) (v := 1) (by decide) hG dL_law_347 ?_
  refine q_iadd (pc := 348) hG dL_law_348 ?_
  refine q_sld (pc := 349) (hb 1 (by decide)) hG dL_law_349 ?_
  refine q_aload_n (pc := 350) 0 0 rfl rfl hG dL_law_350 ?_
  refine q_iload_n (pc := 351) 3 3 rfl rfl hG dL_law_351 ?_
  refine q_iconst (pc := 352) (v := 2) (by decide) hG dL_law_352 ?_
  refine q_iadd (pc := 353) hG dL_law_353 ?_
  refine q_sld (pc := 354) (hb 2 (by decide)) hG dL_law_354 ?_
  refine q_Goi (pc := 355) (As := [.int (xs (x3 + 1).toNatClampNeg), .int (xs (x3 + 2).toNatClampNeg)]) rfl (c_Go_guest X N (xs (x3 + 1).toNatClampNeg) (xs (x3 + 2).toNatClampNeg) σ r σ1 e1) ml_32 my_32 (by decide) (by decide) rfl (Nat.le_of_ble_eq_true rfl) hG dL_law_355 rfl ?_
  refine q_aload_n (pc := 358) 2 2 rfl rfl hG dL_law_358 ?_
  refine q_aload_n (pc := 359) 0 0 rfl rfl hG dL_law_359 ?_
  refine q_iload_n (pc := 360) 3 3 rfl rfl hG dL_law_360 ?_
  refine q_iconst (pc := 361) (v := 1) (by decide) hG dL_law_361 ?_
  refine q_iadd (pc := 362) hG dL_law_362 ?_
  refine q_sld (pc := 363) (hb 1 (by decide)) hG dL_law_363 ?_
  refine q_aload_n (pc := 364) 0 0 rfl rfl hG dL_law_364 ?_
  refine q_iload_n (pc := 365) 3 3 rfl rfl hG dL_law_365 ?_
  refine q_iconst (pc := 366) (v := 2) (by decide) hG dL_law_366 ?_
  refine q_iadd (pc := 367) hG dL_law_367 ?_
  refine q_sld (pc := 368) (hb 2 (by decide)) hG dL_law_368 ?_
  refine q_Moi (pc := 369) (As := [.int (xs (x3 + 1).toNatClampNeg), .int (xs (x3 + 2).toNatClampNeg)]) rfl (c_Mo_guest X N (xs (x3 + 1).toNatClampNeg) (xs (x3 + 2).toNatClampNeg) σ1 r σ2 e2) ml_35 my_35 (by decide) (by decide) rfl (Nat.le_of_ble_eq_true rfl) hG dL_law_369 rfl ?_
  refine q_eqT (pc := 372) (tgt := 1509) (by decide) hG dL_law_372 ?_
  exact hK _ hI2
theorem q_case_type {X : Cx} {b0 L : Nat} {xs : Nat → Int32} {G : St → Nat → List (Nat × Value) → List Value → Prop} (hG : IsL X b0 L xs G) (N : Nat) {Inv : St → Prop} (x3 : Int32) (hb : ∀ c : Nat, c < 7 → inB (x3 + nI c) L = true) (σ : St) (hI : Inv σ) (hK : ∀ σ, Inv σ → G σ 1509 [(0, .ref b0), (1, .ref (X.2.1 + 0)), (2, .ref (X.2.1 + 114)), (3, .int x3)] []) (hs : Sim_type N Inv) : G σ 377 [(0, .ref b0), (1, .ref (X.2.1 + 0)), (2, .ref (X.2.1 + 114)), (3, .int x3)] [] := by
  obtain ⟨r, σ1, σ2, e1, e2, hI2⟩ := hs σ hI (xs (x3 + 1).toNatClampNeg)
  refine q_aload_n (pc := 377) 1 1 rfl rfl hG dL_law_377 ?_
  refine q_aload_n (pc := 378) 0 0 rfl rfl hG dL_law_378 ?_
  refine q_iload_n (pc := 379) 3 3 rfl rfl hG dL_law_379 ?_
  refine q_iconst (pc := 380) (v := 1) (by decide) hG dL_law_380 ?_
  refine q_iadd (pc := 381) hG dL_law_381 ?_
  refine q_sld (pc := 382) (hb 1 (by decide)) hG dL_law_382 ?_
  refine q_Goi (pc := 383) (As := [.int (xs (x3 + 1).toNatClampNeg)]) rfl (c_Go_type X N (xs (x3 + 1).toNatClampNeg) σ r σ1 e1) ml_36 my_36 (by decide) (by decide) rfl (Nat.le_of_ble_eq_true rfl) hG dL_law_383 rfl ?_
  refine q_aload_n (pc := 386) 2 2 rfl rfl hG dL_law_386 ?_
  refine q_aload_n (pc := 387) 0 0 rfl rfl hG dL_law_387 ?_
  refine q_iload_n (pc := 388) 3 3 rfl rfl hG dL_law_388 ?_
  refine q_iconst (pc := 389) (v := 1) (by decide) hG dL_law_389 ?_
  refine q_iadd (pc := 390) hG dL_law_390 ?_
  refine q_sld (pc := 391) (hb 1 (by decide)) hG dL_law_391 ?_
  refine q_Moi (pc := 392) (As := [.int (xs (x3 + 1).toNatClampNeg)]) rfl (c_Mo_type X N (xs (x3 + 1).toNatClampNeg) σ1 r σ2 e2) ml_39 my_39 (by decide) (by decide) rfl (Nat.le_of_ble_eq_true rfl) hG dL_law_392 rfl ?_
  refine q_eqT (pc := 395) (tgt := 1509) (by decide) hG dL_law_395 ?_
  exact hK _ hI2
theorem q_case_clear {X : Cx} {b0 L : Nat} {xs : Nat → Int32} {G : St → Nat → List (Nat × Value) → List Value → Prop} (hG : IsL X b0 L xs G) (N : Nat) {Inv : St → Prop} (x3 : Int32) (hb : ∀ c : Nat, c < 7 → inB (x3 + nI c) L = true) (σ : St) (hI : Inv σ) (hK : ∀ σ, Inv σ → G σ 1509 [(0, .ref b0), (1, .ref (X.2.1 + 0)), (2, .ref (X.2.1 + 114)), (3, .int x3)] []) (hs : Sim_clear N Inv) : G σ 400 [(0, .ref b0), (1, .ref (X.2.1 + 0)), (2, .ref (X.2.1 + 114)), (3, .int x3)] [] := by
  obtain ⟨r, σ1, σ2, e1, e2, hI2⟩ := hs σ hI 
  refine q_aload_n (pc := 400) 1 1 rfl rfl hG dL_law_400 ?_
  refine q_Goi (pc := 401) (As := []) rfl (c_Go_clear X N  σ r σ1 e1) ml_40 my_40 (by decide) (by decide) rfl (Nat.le_of_ble_eq_true rfl) hG dL_law_401 rfl ?_
  refine q_aload_n (pc := 404) 2 2 rfl rfl hG dL_law_404 ?_
  refine q_Moi (pc := 405) (As := []) rfl (c_Mo_clear X N  σ1 r σ2 e2) ml_44 my_44 (by decide) (by decide) rfl (Nat.le_of_ble_eq_true rfl) hG dL_law_405 rfl ?_
  refine q_eqT (pc := 408) (tgt := 1509) (by decide) hG dL_law_408 ?_
  exact hK _ hI2
theorem q_case_read {X : Cx} {b0 L : Nat} {xs : Nat → Int32} {G : St → Nat → List (Nat × Value) → List Value → Prop} (hG : IsL X b0 L xs G) (N : Nat) {Inv : St → Prop} (x3 : Int32) (hb : ∀ c : Nat, c < 7 → inB (x3 + nI c) L = true) (σ : St) (hI : Inv σ) (hK : ∀ σ, Inv σ → G σ 1509 [(0, .ref b0), (1, .ref (X.2.1 + 0)), (2, .ref (X.2.1 + 114)), (3, .int x3)] []) (hs : Sim_read N Inv) : G σ 413 [(0, .ref b0), (1, .ref (X.2.1 + 0)), (2, .ref (X.2.1 + 114)), (3, .int x3)] [] := by
  obtain ⟨r, σ1, σ2, e1, e2, hI2⟩ := hs σ hI 
  refine q_aload_n (pc := 413) 1 1 rfl rfl hG dL_law_413 ?_
  refine q_Goi (pc := 414) (As := []) rfl (c_Go_read X N  σ r σ1 e1) ml_45 my_45 (by decide) (by decide) rfl (Nat.le_of_ble_eq_true rfl) hG dL_law_414 rfl ?_
  refine q_aload_n (pc := 417) 2 2 rfl rfl hG dL_law_417 ?_
  refine q_Moi (pc := 418) (As := []) rfl (c_Mo_read X N  σ1 r σ2 e2) ml_48 my_48 (by decide) (by decide) rfl (Nat.le_of_ble_eq_true rfl) hG dL_law_418 rfl ?_
  refine q_eqT (pc := 421) (tgt := 1509) (by decide) hG dL_law_421 ?_
  exact hK _ hI2
theorem q_case_rows {X : Cx} {b0 L : Nat} {xs : Nat → Int32} {G : St → Nat → List (Nat × Value) → List Value → Prop} (hG : IsL X b0 L xs G) (N : Nat) {Inv : St → Prop} (x3 : Int32) (hb : ∀ c : Nat, c < 7 → inB (x3 + nI c) L = true) (σ : St) (hI : Inv σ) (hK : ∀ σ, Inv σ → G σ 1509 [(0, .ref b0), (1, .ref (X.2.1 + 0)), (2, .ref (X.2.1 + 114)), (3, .int x3)] []) (hs : Sim_rows N Inv) : G σ 426 [(0, .ref b0), (1, .ref (X.2.1 + 0)), (2, .ref (X.2.1 + 114)), (3, .int x3)] [] := by
  obtain ⟨r, σ1, σ2, e1, e2, hI2⟩ := hs σ hI (xs (x3 + 1).toNatClampNeg) (xs (x3 + 2).toNatClampNeg) (xs (x3 + 3).toNatClampNeg)
  refine q_aload_n (pc := 426) 1 1 rfl rfl hG dL_law_426 ?_
  refine q_aload_n (pc := 427) 0 0 rfl rfl hG dL_law_427 ?_
  refine q_iload_n (pc := 428) 3 3 rfl rfl hG dL_law_428 ?_
  refine q_iconst (pc := 429) (v := 1) (by decide) hG dL_law_429 ?_
  refine q_iadd (pc := 430) hG dL_law_430 ?_
  refine q_sld (pc := 431) (hb 1 (by decide)) hG dL_law_431 ?_
  refine q_aload_n (pc := 432) 0 0 rfl rfl hG dL_law_432 ?_
  refine q_iload_n (pc := 433) 3 3 rfl rfl hG dL_law_433 ?_
  refine q_iconst (pc := 434) (v := 2) (by decide) hG dL_law_434 ?_
  refine q_iadd (pc := 435) hG dL_law_435 ?_
  refine q_sld (pc := 436) (hb 2 (by decide)) hG dL_law_436 ?_
  refine q_aload_n (pc := 437) 0 0 rfl rfl hG dL_law_437 ?_
  refine q_iload_n (pc := 438) 3 3 rfl rfl hG dL_law_438 ?_
  refine q_iconst (pc := 439) (v := 3) (by decide) hG dL_law_439 ?_
  refine q_iadd (pc := 440) hG dL_law_440 ?_
  refine q_sld (pc := 441) (hb 3 (by decide)) hG dL_law_441 ?_
  refine q_Goi (pc := 442) (As := [.int (xs (x3 + 1).toNatClampNeg), .int (xs (x3 + 2).toNatClampNeg), .int (xs (x3 + 3).toNatClampNeg)]) rfl (c_Go_rows X N (xs (x3 + 1).toNatClampNeg) (xs (x3 + 2).toNatClampNeg) (xs (x3 + 3).toNatClampNeg) σ r σ1 e1) ml_49 my_49 (by decide) (by decide) rfl (Nat.le_of_ble_eq_true rfl) hG dL_law_442 rfl ?_
  refine q_aload_n (pc := 445) 2 2 rfl rfl hG dL_law_445 ?_
  refine q_aload_n (pc := 446) 0 0 rfl rfl hG dL_law_446 ?_
  refine q_iload_n (pc := 447) 3 3 rfl rfl hG dL_law_447 ?_
  refine q_iconst (pc := 448) (v := 1) (by decide) hG dL_law_448 ?_
  refine q_iadd (pc := 449) hG dL_law_449 ?_
  refine q_sld (pc := 450) (hb 1 (by decide)) hG dL_law_450 ?_
  refine q_aload_n (pc := 451) 0 0 rfl rfl hG dL_law_451 ?_
  refine q_iload_n (pc := 452) 3 3 rfl rfl hG dL_law_452 ?_
  refine q_iconst (pc := 453) (v := 2) (by decide) hG dL_law_453 ?_
  refine q_iadd (pc := 454) hG dL_law_454 ?_
  refine q_sld (pc := 455) (hb 2 (by decide)) hG dL_law_455 ?_
  refine q_aload_n (pc := 456) 0 0 rfl rfl hG dL_law_456 ?_
  refine q_iload_n (pc := 457) 3 3 rfl rfl hG dL_law_457 ?_
  refine q_iconst (pc := 458) (v := 3) (by decide) hG dL_law_458 ?_
  refine q_iadd (pc := 459) hG dL_law_459 ?_
  refine q_sld (pc := 460) (hb 3 (by decide)) hG dL_law_460 ?_
  refine q_Moi (pc := 461) (As := [.int (xs (x3 + 1).toNatClampNeg), .int (xs (x3 + 2).toNatClampNeg), .int (xs (x3 + 3).toNatClampNeg)]) rfl (c_Mo_rows X N (xs (x3 + 1).toNatClampNeg) (xs (x3 + 2).toNatClampNeg) (xs (x3 + 3).toNatClampNeg) σ1 r σ2 e2) ml_52 my_52 (by decide) (by decide) rfl (Nat.le_of_ble_eq_true rfl) hG dL_law_461 rfl ?_
  refine q_eqT (pc := 464) (tgt := 1509) (by decide) hG dL_law_464 ?_
  exact hK _ hI2
theorem q_case_enters {X : Cx} {b0 L : Nat} {xs : Nat → Int32} {G : St → Nat → List (Nat × Value) → List Value → Prop} (hG : IsL X b0 L xs G) (N : Nat) {Inv : St → Prop} (x3 : Int32) (hb : ∀ c : Nat, c < 7 → inB (x3 + nI c) L = true) (σ : St) (hI : Inv σ) (hK : ∀ σ, Inv σ → G σ 1509 [(0, .ref b0), (1, .ref (X.2.1 + 0)), (2, .ref (X.2.1 + 114)), (3, .int x3)] []) (hs : Sim_enters N Inv) : G σ 469 [(0, .ref b0), (1, .ref (X.2.1 + 0)), (2, .ref (X.2.1 + 114)), (3, .int x3)] [] := by
  obtain ⟨r, σ1, σ2, e1, e2, hI2⟩ := hs σ hI (xs (x3 + 1).toNatClampNeg)
  refine q_aload_n (pc := 469) 1 1 rfl rfl hG dL_law_469 ?_
  refine q_aload_n (pc := 470) 0 0 rfl rfl hG dL_law_470 ?_
  refine q_iload_n (pc := 471) 3 3 rfl rfl hG dL_law_471 ?_
  refine q_iconst (pc := 472) (v := 1) (by decide) hG dL_law_472 ?_
  refine q_iadd (pc := 473) hG dL_law_473 ?_
  refine q_sld (pc := 474) (hb 1 (by decide)) hG dL_law_474 ?_
  refine q_Goi (pc := 475) (As := [.int (xs (x3 + 1).toNatClampNeg)]) rfl (c_Go_enters X N (xs (x3 + 1).toNatClampNeg) σ r σ1 e1) ml_53 my_53 (by decide) (by decide) rfl (Nat.le_of_ble_eq_true rfl) hG dL_law_475 rfl ?_
  refine q_aload_n (pc := 478) 2 2 rfl rfl hG dL_law_478 ?_
  refine q_aload_n (pc := 479) 0 0 rfl rfl hG dL_law_479 ?_
  refine q_iload_n (pc := 480) 3 3 rfl rfl hG dL_law_480 ?_
  refine q_iconst (pc := 481) (v := 1) (by decide) hG dL_law_481 ?_
  refine q_iadd (pc := 482) hG dL_law_482 ?_
  refine q_sld (pc := 483) (hb 1 (by decide)) hG dL_law_483 ?_
  refine q_Moi (pc := 484) (As := [.int (xs (x3 + 1).toNatClampNeg)]) rfl (c_Mo_enters X N (xs (x3 + 1).toNatClampNeg) σ1 r σ2 e2) ml_56 my_56 (by decide) (by decide) rfl (Nat.le_of_ble_eq_true rfl) hG dL_law_484 rfl ?_
  refine q_eqT (pc := 487) (tgt := 1509) (by decide) hG dL_law_487 ?_
  exact hK _ hI2
theorem q_case_undo {X : Cx} {b0 L : Nat} {xs : Nat → Int32} {G : St → Nat → List (Nat × Value) → List Value → Prop} (hG : IsL X b0 L xs G) (N : Nat) {Inv : St → Prop} (x3 : Int32) (hb : ∀ c : Nat, c < 7 → inB (x3 + nI c) L = true) (σ : St) (hI : Inv σ) (hK : ∀ σ, Inv σ → G σ 1509 [(0, .ref b0), (1, .ref (X.2.1 + 0)), (2, .ref (X.2.1 + 114)), (3, .int x3)] []) (hs : Sim_undo N Inv) : G σ 492 [(0, .ref b0), (1, .ref (X.2.1 + 0)), (2, .ref (X.2.1 + 114)), (3, .int x3)] [] := by
  obtain ⟨r, σ1, σ2, e1, e2, hI2⟩ := hs σ hI 
  refine q_aload_n (pc := 492) 1 1 rfl rfl hG dL_law_492 ?_
  refine q_Goi (pc := 493) (As := []) rfl (c_Go_undo X N  σ r σ1 e1) ml_57 my_57 (by decide) (by decide) rfl (Nat.le_of_ble_eq_true rfl) hG dL_law_493 rfl ?_
  refine q_aload_n (pc := 496) 2 2 rfl rfl hG dL_law_496 ?_
  refine q_Moi (pc := 497) (As := []) rfl (c_Mo_undo X N  σ1 r σ2 e2) ml_60 my_60 (by decide) (by decide) rfl (Nat.le_of_ble_eq_true rfl) hG dL_law_497 rfl ?_
  refine q_eqT (pc := 500) (tgt := 1509) (by decide) hG dL_law_500 ?_
  exact hK _ hI2
theorem q_case_of {X : Cx} {b0 L : Nat} {xs : Nat → Int32} {G : St → Nat → List (Nat × Value) → List Value → Prop} (hG : IsL X b0 L xs G) (N : Nat) {Inv : St → Prop} (x3 : Int32) (hb : ∀ c : Nat, c < 7 → inB (x3 + nI c) L = true) (σ : St) (hI : Inv σ) (hK : ∀ σ, Inv σ → G σ 1509 [(0, .ref b0), (1, .ref (X.2.1 + 0)), (2, .ref (X.2.1 + 114)), (3, .int x3)] []) (hs : Sim_of N Inv) : G σ 505 [(0, .ref b0), (1, .ref (X.2.1 + 0)), (2, .ref (X.2.1 + 114)), (3, .int x3)] [] := by
  obtain ⟨r, σ1, σ2, e1, e2, hI2⟩ := hs σ hI (xs (x3 + 1).toNatClampNeg) (xs (x3 + 2).toNatClampNeg)
  refine q_aload_n (pc := 505) 1 1 rfl rfl hG dL_law_505 ?_
  refine q_aload_n (pc := 506) 0 0 rfl rfl hG dL_law_506 ?_
  refine q_iload_n (pc := 507) 3 3 rfl rfl hG dL_law_507 ?_
  refine q_iconst (pc := 508) (v := 1) (by decide) hG dL_law_508 ?_
  refine q_iadd (pc := 509) hG dL_law_509 ?_
  refine q_sld (pc := 510) (hb 1 (by decide)) hG dL_law_510 ?_
  refine q_aload_n (pc := 511) 0 0 rfl rfl hG dL_law_511 ?_
  refine q_iload_n (pc := 512) 3 3 rfl rfl hG dL_law_512 ?_
  refine q_iconst (pc := 513) (v := 2) (by decide) hG dL_law_513 ?_
  refine q_iadd (pc := 514) hG dL_law_514 ?_
  refine q_sld (pc := 515) (hb 2 (by decide)) hG dL_law_515 ?_
  refine q_Goi (pc := 516) (As := [.int (xs (x3 + 1).toNatClampNeg), .int (xs (x3 + 2).toNatClampNeg)]) rfl (c_Go_of X N (xs (x3 + 1).toNatClampNeg) (xs (x3 + 2).toNatClampNeg) σ r σ1 e1) ml_61 my_61 (by decide) (by decide) rfl (Nat.le_of_ble_eq_true rfl) hG dL_law_516 rfl ?_
  refine q_aload_n (pc := 519) 2 2 rfl rfl hG dL_law_519 ?_
  refine q_aload_n (pc := 520) 0 0 rfl rfl hG dL_law_520 ?_
  refine q_iload_n (pc := 521) 3 3 rfl rfl hG dL_law_521 ?_
  refine q_iconst (pc := 522) (v := 1) (by decide) hG dL_law_522 ?_
  refine q_iadd (pc := 523) hG dL_law_523 ?_
  refine q_sld (pc := 524) (hb 1 (by decide)) hG dL_law_524 ?_
  refine q_aload_n (pc := 525) 0 0 rfl rfl hG dL_law_525 ?_
  refine q_iload_n (pc := 526) 3 3 rfl rfl hG dL_law_526 ?_
  refine q_iconst (pc := 527) (v := 2) (by decide) hG dL_law_527 ?_
  refine q_iadd (pc := 528) hG dL_law_528 ?_
  refine q_sld (pc := 529) (hb 2 (by decide)) hG dL_law_529 ?_
  refine q_Moi (pc := 530) (As := [.int (xs (x3 + 1).toNatClampNeg), .int (xs (x3 + 2).toNatClampNeg)]) rfl (c_Mo_of X N (xs (x3 + 1).toNatClampNeg) (xs (x3 + 2).toNatClampNeg) σ1 r σ2 e2) ml_64 my_64 (by decide) (by decide) rfl (Nat.le_of_ble_eq_true rfl) hG dL_law_530 rfl ?_
  refine q_eqT (pc := 533) (tgt := 1509) (by decide) hG dL_law_533 ?_
  exact hK _ hI2
theorem q_case_who {X : Cx} {b0 L : Nat} {xs : Nat → Int32} {G : St → Nat → List (Nat × Value) → List Value → Prop} (hG : IsL X b0 L xs G) (N : Nat) {Inv : St → Prop} (x3 : Int32) (hb : ∀ c : Nat, c < 7 → inB (x3 + nI c) L = true) (σ : St) (hI : Inv σ) (hK : ∀ σ, Inv σ → G σ 1509 [(0, .ref b0), (1, .ref (X.2.1 + 0)), (2, .ref (X.2.1 + 114)), (3, .int x3)] []) (hs : Sim_who N Inv) : G σ 538 [(0, .ref b0), (1, .ref (X.2.1 + 0)), (2, .ref (X.2.1 + 114)), (3, .int x3)] [] := by
  obtain ⟨r, σ1, σ2, e1, e2, hI2⟩ := hs σ hI (xs (x3 + 1).toNatClampNeg) (xs (x3 + 2).toNatClampNeg)
  refine q_aload_n (pc := 538) 1 1 rfl rfl hG dL_law_538 ?_
  refine q_aload_n (pc := 539) 0 0 rfl rfl hG dL_law_539 ?_
  refine q_iload_n (pc := 540) 3 3 rfl rfl hG dL_law_540 ?_
  refine q_iconst (pc := 541) (v := 1) (by decide) hG dL_law_541 ?_
  refine q_iadd (pc := 542) hG dL_law_542 ?_
  refine q_sld (pc := 543) (hb 1 (by decide)) hG dL_law_543 ?_
  refine q_aload_n (pc := 544) 0 0 rfl rfl hG dL_law_544 ?_
  refine q_iload_n (pc := 545) 3 3 rfl rfl hG dL_law_545 ?_
  refine q_iconst (pc := 546) (v := 2) (by decide) hG dL_law_546 ?_
  refine q_iadd (pc := 547) hG dL_law_547 ?_
  refine q_sld (pc := 548) (hb 2 (by decide)) hG dL_law_548 ?_
  refine q_Goi (pc := 549) (As := [.int (xs (x3 + 1).toNatClampNeg), .int (xs (x3 + 2).toNatClampNeg)]) rfl (c_Go_who X N (xs (x3 + 1).toNatClampNeg) (xs (x3 + 2).toNatClampNeg) σ r σ1 e1) ml_65 my_65 (by decide) (by decide) rfl (Nat.le_of_ble_eq_true rfl) hG dL_law_549 rfl ?_
  refine q_aload_n (pc := 552) 2 2 rfl rfl hG dL_law_552 ?_
  refine q_aload_n (pc := 553) 0 0 rfl rfl hG dL_law_553 ?_
  refine q_iload_n (pc := 554) 3 3 rfl rfl hG dL_law_554 ?_
  refine q_iconst (pc := 555) (v := 1) (by decide) hG dL_law_555 ?_
  refine q_iadd (pc := 556) hG dL_law_556 ?_
  refine q_sld (pc := 557) (hb 1 (by decide)) hG dL_law_557 ?_
  refine q_aload_n (pc := 558) 0 0 rfl rfl hG dL_law_558 ?_
  refine q_iload_n (pc := 559) 3 3 rfl rfl hG dL_law_559 ?_
  refine q_iconst (pc := 560) (v := 2) (by decide) hG dL_law_560 ?_
  refine q_iadd (pc := 561) hG dL_law_561 ?_
  refine q_sld (pc := 562) (hb 2 (by decide)) hG dL_law_562 ?_
  refine q_Moi (pc := 563) (As := [.int (xs (x3 + 1).toNatClampNeg), .int (xs (x3 + 2).toNatClampNeg)]) rfl (c_Mo_who X N (xs (x3 + 1).toNatClampNeg) (xs (x3 + 2).toNatClampNeg) σ1 r σ2 e2) ml_68 my_68 (by decide) (by decide) rfl (Nat.le_of_ble_eq_true rfl) hG dL_law_563 rfl ?_
  refine q_eqT (pc := 566) (tgt := 1509) (by decide) hG dL_law_566 ?_
  exact hK _ hI2
theorem q_case_about {X : Cx} {b0 L : Nat} {xs : Nat → Int32} {G : St → Nat → List (Nat × Value) → List Value → Prop} (hG : IsL X b0 L xs G) (N : Nat) {Inv : St → Prop} (x3 : Int32) (hb : ∀ c : Nat, c < 7 → inB (x3 + nI c) L = true) (σ : St) (hI : Inv σ) (hK : ∀ σ, Inv σ → G σ 1509 [(0, .ref b0), (1, .ref (X.2.1 + 0)), (2, .ref (X.2.1 + 114)), (3, .int x3)] []) (hs : Sim_about N Inv) : G σ 571 [(0, .ref b0), (1, .ref (X.2.1 + 0)), (2, .ref (X.2.1 + 114)), (3, .int x3)] [] := by
  obtain ⟨r, σ1, σ2, e1, e2, hI2⟩ := hs σ hI (xs (x3 + 1).toNatClampNeg) (xs (x3 + 2).toNatClampNeg)
  refine q_aload_n (pc := 571) 1 1 rfl rfl hG dL_law_571 ?_
  refine q_aload_n (pc := 572) 0 0 rfl rfl hG dL_law_572 ?_
  refine q_iload_n (pc := 573) 3 3 rfl rfl hG dL_law_573 ?_
  refine q_iconst (pc := 574) (v := 1) (by decide) hG dL_law_574 ?_
  refine q_iadd (pc := 575) hG dL_law_575 ?_
  refine q_sld (pc := 576) (hb 1 (by decide)) hG dL_law_576 ?_
  refine q_aload_n (pc := 577) 0 0 rfl rfl hG dL_law_577 ?_
  refine q_iload_n (pc := 578) 3 3 rfl rfl hG dL_law_578 ?_
  refine q_iconst (pc := 579) (v := 2) (by decide) hG dL_law_579 ?_
  refine q_iadd (pc := 580) hG dL_law_580 ?_
  refine q_sld (pc := 581) (hb 2 (by decide)) hG dL_law_581 ?_
  refine q_Goi (pc := 582) (As := [.int (xs (x3 + 1).toNatClampNeg), .int (xs (x3 + 2).toNatClampNeg)]) rfl (c_Go_about X N (xs (x3 + 1).toNatClampNeg) (xs (x3 + 2).toNatClampNeg) σ r σ1 e1) ml_69 my_69 (by decide) (by decide) rfl (Nat.le_of_ble_eq_true rfl) hG dL_law_582 rfl ?_
  refine q_aload_n (pc := 585) 2 2 rfl rfl hG dL_law_585 ?_
  refine q_aload_n (pc := 586) 0 0 rfl rfl hG dL_law_586 ?_
  refine q_iload_n (pc := 587) 3 3 rfl rfl hG dL_law_587 ?_
  refine q_iconst (pc := 588) (v := 1) (by decide) hG dL_law_588 ?_
  refine q_iadd (pc := 589) hG dL_law_589 ?_
  refine q_sld (pc := 590) (hb 1 (by decide)) hG dL_law_590 ?_
  refine q_aload_n (pc := 591) 0 0 rfl rfl hG dL_law_591 ?_
  refine q_iload_n (pc := 592) 3 3 rfl rfl hG dL_law_592 ?_
  refine q_iconst (pc := 593) (v := 2) (by decide) hG dL_law_593 ?_
  refine q_iadd (pc := 594) hG dL_law_594 ?_
  refine q_sld (pc := 595) (hb 2 (by decide)) hG dL_law_595 ?_
  refine q_Moi (pc := 596) (As := [.int (xs (x3 + 1).toNatClampNeg), .int (xs (x3 + 2).toNatClampNeg)]) rfl (c_Mo_about X N (xs (x3 + 1).toNatClampNeg) (xs (x3 + 2).toNatClampNeg) σ1 r σ2 e2) ml_72 my_72 (by decide) (by decide) rfl (Nat.le_of_ble_eq_true rfl) hG dL_law_596 rfl ?_
  refine q_eqT (pc := 599) (tgt := 1509) (by decide) hG dL_law_599 ?_
  exact hK _ hI2
theorem q_case_strokes {X : Cx} {b0 L : Nat} {xs : Nat → Int32} {G : St → Nat → List (Nat × Value) → List Value → Prop} (hG : IsL X b0 L xs G) (N : Nat) {Inv : St → Prop} (x3 : Int32) (hb : ∀ c : Nat, c < 7 → inB (x3 + nI c) L = true) (σ : St) (hI : Inv σ) (hK : ∀ σ, Inv σ → G σ 1509 [(0, .ref b0), (1, .ref (X.2.1 + 0)), (2, .ref (X.2.1 + 114)), (3, .int x3)] []) (hs : Sim_strokes N Inv) : G σ 604 [(0, .ref b0), (1, .ref (X.2.1 + 0)), (2, .ref (X.2.1 + 114)), (3, .int x3)] [] := by
  obtain ⟨r, σ1, σ2, e1, e2, hI2⟩ := hs σ hI (xs (x3 + 1).toNatClampNeg) (xs (x3 + 2).toNatClampNeg)
  refine q_aload_n (pc := 604) 1 1 rfl rfl hG dL_law_604 ?_
  refine q_aload_n (pc := 605) 0 0 rfl rfl hG dL_law_605 ?_
  refine q_iload_n (pc := 606) 3 3 rfl rfl hG dL_law_606 ?_
  refine q_iconst (pc := 607) (v := 1) (by decide) hG dL_law_607 ?_
  refine q_iadd (pc := 608) hG dL_law_608 ?_
  refine q_sld (pc := 609) (hb 1 (by decide)) hG dL_law_609 ?_
  refine q_aload_n (pc := 610) 0 0 rfl rfl hG dL_law_610 ?_
  refine q_iload_n (pc := 611) 3 3 rfl rfl hG dL_law_611 ?_
  refine q_iconst (pc := 612) (v := 2) (by decide) hG dL_law_612 ?_
  refine q_iadd (pc := 613) hG dL_law_613 ?_
  refine q_sld (pc := 614) (hb 2 (by decide)) hG dL_law_614 ?_
  refine q_Goi (pc := 615) (As := [.int (xs (x3 + 1).toNatClampNeg), .int (xs (x3 + 2).toNatClampNeg)]) rfl (c_Go_strokes X N (xs (x3 + 1).toNatClampNeg) (xs (x3 + 2).toNatClampNeg) σ r σ1 e1) ml_73 my_73 (by decide) (by decide) rfl (Nat.le_of_ble_eq_true rfl) hG dL_law_615 rfl ?_
  refine q_aload_n (pc := 618) 2 2 rfl rfl hG dL_law_618 ?_
  refine q_aload_n (pc := 619) 0 0 rfl rfl hG dL_law_619 ?_
  refine q_iload_n (pc := 620) 3 3 rfl rfl hG dL_law_620 ?_
  refine q_iconst (pc := 621) (v := 1) (by decide) hG dL_law_621 ?_
  refine q_iadd (pc := 622) hG dL_law_622 ?_
  refine q_sld (pc := 623) (hb 1 (by decide)) hG dL_law_623 ?_
  refine q_aload_n (pc := 624) 0 0 rfl rfl hG dL_law_624 ?_
  refine q_iload_n (pc := 625) 3 3 rfl rfl hG dL_law_625 ?_
  refine q_iconst (pc := 626) (v := 2) (by decide) hG dL_law_626 ?_
  refine q_iadd (pc := 627) hG dL_law_627 ?_
  refine q_sld (pc := 628) (hb 2 (by decide)) hG dL_law_628 ?_
  refine q_Moi (pc := 629) (As := [.int (xs (x3 + 1).toNatClampNeg), .int (xs (x3 + 2).toNatClampNeg)]) rfl (c_Mo_strokes X N (xs (x3 + 1).toNatClampNeg) (xs (x3 + 2).toNatClampNeg) σ1 r σ2 e2) ml_76 my_76 (by decide) (by decide) rfl (Nat.le_of_ble_eq_true rfl) hG dL_law_629 rfl ?_
  refine q_eqT (pc := 632) (tgt := 1509) (by decide) hG dL_law_632 ?_
  exact hK _ hI2
theorem q_case_far {X : Cx} {b0 L : Nat} {xs : Nat → Int32} {G : St → Nat → List (Nat × Value) → List Value → Prop} (hG : IsL X b0 L xs G) (N : Nat) {Inv : St → Prop} (x3 : Int32) (hb : ∀ c : Nat, c < 7 → inB (x3 + nI c) L = true) (σ : St) (hI : Inv σ) (hK : ∀ σ, Inv σ → G σ 1509 [(0, .ref b0), (1, .ref (X.2.1 + 0)), (2, .ref (X.2.1 + 114)), (3, .int x3)] []) (hs : Sim_far N Inv) : G σ 637 [(0, .ref b0), (1, .ref (X.2.1 + 0)), (2, .ref (X.2.1 + 114)), (3, .int x3)] [] := by
  obtain ⟨r, σ1, σ2, e1, e2, hI2⟩ := hs σ hI (xs (x3 + 1).toNatClampNeg) (xs (x3 + 2).toNatClampNeg)
  refine q_aload_n (pc := 637) 1 1 rfl rfl hG dL_law_637 ?_
  refine q_aload_n (pc := 638) 0 0 rfl rfl hG dL_law_638 ?_
  refine q_iload_n (pc := 639) 3 3 rfl rfl hG dL_law_639 ?_
  refine q_iconst (pc := 640) (v := 1) (by decide) hG dL_law_640 ?_
  refine q_iadd (pc := 641) hG dL_law_641 ?_
  refine q_sld (pc := 642) (hb 1 (by decide)) hG dL_law_642 ?_
  refine q_aload_n (pc := 643) 0 0 rfl rfl hG dL_law_643 ?_
  refine q_iload_n (pc := 644) 3 3 rfl rfl hG dL_law_644 ?_
  refine q_iconst (pc := 645) (v := 2) (by decide) hG dL_law_645 ?_
  refine q_iadd (pc := 646) hG dL_law_646 ?_
  refine q_sld (pc := 647) (hb 2 (by decide)) hG dL_law_647 ?_
  refine q_Goi (pc := 648) (As := [.int (xs (x3 + 1).toNatClampNeg), .int (xs (x3 + 2).toNatClampNeg)]) rfl (c_Go_far X N (xs (x3 + 1).toNatClampNeg) (xs (x3 + 2).toNatClampNeg) σ r σ1 e1) ml_77 my_77 (by decide) (by decide) rfl (Nat.le_of_ble_eq_true rfl) hG dL_law_648 rfl ?_
  refine q_aload_n (pc := 651) 2 2 rfl rfl hG dL_law_651 ?_
  refine q_aload_n (pc := 652) 0 0 rfl rfl hG dL_law_652 ?_
  refine q_iload_n (pc := 653) 3 3 rfl rfl hG dL_law_653 ?_
  refine q_iconst (pc := 654) (v := 1) (by decide) hG dL_law_654 ?_
  refine q_iadd (pc := 655) hG dL_law_655 ?_
  refine q_sld (pc := 656) (hb 1 (by decide)) hG dL_law_656 ?_
  refine q_aload_n (pc := 657) 0 0 rfl rfl hG dL_law_657 ?_
  refine q_iload_n (pc := 658) 3 3 rfl rfl hG dL_law_658 ?_
  refine q_iconst (pc := 659) (v := 2) (by decide) hG dL_law_659 ?_
  refine q_iadd (pc := 660) hG dL_law_660 ?_
  refine q_sld (pc := 661) (hb 2 (by decide)) hG dL_law_661 ?_
  refine q_Moi (pc := 662) (As := [.int (xs (x3 + 1).toNatClampNeg), .int (xs (x3 + 2).toNatClampNeg)]) rfl (c_Mo_far X N (xs (x3 + 1).toNatClampNeg) (xs (x3 + 2).toNatClampNeg) σ1 r σ2 e2) ml_80 my_80 (by decide) (by decide) rfl (Nat.le_of_ble_eq_true rfl) hG dL_law_662 rfl ?_
  refine q_eqT (pc := 665) (tgt := 1509) (by decide) hG dL_law_665 ?_
  exact hK _ hI2
theorem q_case_would {X : Cx} {b0 L : Nat} {xs : Nat → Int32} {G : St → Nat → List (Nat × Value) → List Value → Prop} (hG : IsL X b0 L xs G) (N : Nat) {Inv : St → Prop} (x3 : Int32) (hb : ∀ c : Nat, c < 7 → inB (x3 + nI c) L = true) (σ : St) (hI : Inv σ) (hK : ∀ σ, Inv σ → G σ 1509 [(0, .ref b0), (1, .ref (X.2.1 + 0)), (2, .ref (X.2.1 + 114)), (3, .int x3)] []) (hs : Sim_would N Inv) : G σ 670 [(0, .ref b0), (1, .ref (X.2.1 + 0)), (2, .ref (X.2.1 + 114)), (3, .int x3)] [] := by
  obtain ⟨r, σ1, σ2, e1, e2, hI2⟩ := hs σ hI (xs (x3 + 1).toNatClampNeg) (xs (x3 + 2).toNatClampNeg) (xs (x3 + 3).toNatClampNeg) (xs (x3 + 4).toNatClampNeg)
  refine q_aload_n (pc := 670) 1 1 rfl rfl hG dL_law_670 ?_
  refine q_aload_n (pc := 671) 0 0 rfl rfl hG dL_law_671 ?_
  refine q_iload_n (pc := 672) 3 3 rfl rfl hG dL_law_672 ?_
  refine q_iconst (pc := 673) (v := 1) (by decide) hG dL_law_673 ?_
  refine q_iadd (pc := 674) hG dL_law_674 ?_
  refine q_sld (pc := 675) (hb 1 (by decide)) hG dL_law_675 ?_
  refine q_aload_n (pc := 676) 0 0 rfl rfl hG dL_law_676 ?_
  refine q_iload_n (pc := 677) 3 3 rfl rfl hG dL_law_677 ?_
  refine q_iconst (pc := 678) (v := 2) (by decide) hG dL_law_678 ?_
  refine q_iadd (pc := 679) hG dL_law_679 ?_
  refine q_sld (pc := 680) (hb 2 (by decide)) hG dL_law_680 ?_
  refine q_aload_n (pc := 681) 0 0 rfl rfl hG dL_law_681 ?_
  refine q_iload_n (pc := 682) 3 3 rfl rfl hG dL_law_682 ?_
  refine q_iconst (pc := 683) (v := 3) (by decide) hG dL_law_683 ?_
  refine q_iadd (pc := 684) hG dL_law_684 ?_
  refine q_sld (pc := 685) (hb 3 (by decide)) hG dL_law_685 ?_
  refine q_aload_n (pc := 686) 0 0 rfl rfl hG dL_law_686 ?_
  refine q_iload_n (pc := 687) 3 3 rfl rfl hG dL_law_687 ?_
  refine q_iconst (pc := 688) (v := 4) (by decide) hG dL_law_688 ?_
  refine q_iadd (pc := 689) hG dL_law_689 ?_
  refine q_sld (pc := 690) (hb 4 (by decide)) hG dL_law_690 ?_
  refine q_Goi (pc := 691) (As := [.int (xs (x3 + 1).toNatClampNeg), .int (xs (x3 + 2).toNatClampNeg), .int (xs (x3 + 3).toNatClampNeg), .int (xs (x3 + 4).toNatClampNeg)]) rfl (c_Go_would X N (xs (x3 + 1).toNatClampNeg) (xs (x3 + 2).toNatClampNeg) (xs (x3 + 3).toNatClampNeg) (xs (x3 + 4).toNatClampNeg) σ r σ1 e1) ml_81 my_81 (by decide) (by decide) rfl (Nat.le_of_ble_eq_true rfl) hG dL_law_691 rfl ?_
  refine q_aload_n (pc := 694) 2 2 rfl rfl hG dL_law_694 ?_
  refine q_aload_n (pc := 695) 0 0 rfl rfl hG dL_law_695 ?_
  refine q_iload_n (pc := 696) 3 3 rfl rfl hG dL_law_696 ?_
  refine q_iconst (pc := 697) (v := 1) (by decide) hG dL_law_697 ?_
  refine q_iadd (pc := 698) hG dL_law_698 ?_
  refine q_sld (pc := 699) (hb 1 (by decide)) hG dL_law_699 ?_
  refine q_aload_n (pc := 700) 0 0 rfl rfl hG dL_law_700 ?_
  refine q_iload_n (pc := 701) 3 3 rfl rfl hG dL_law_701 ?_
  refine q_iconst (pc := 702) (v := 2) (by decide) hG dL_law_702 ?_
  refine q_iadd (pc := 703) hG dL_law_703 ?_
  refine q_sld (pc := 704) (hb 2 (by decide)) hG dL_law_704 ?_
  refine q_aload_n (pc := 705) 0 0 rfl rfl hG dL_law_705 ?_
  refine q_iload_n (pc := 706) 3 3 rfl rfl hG dL_law_706 ?_
  refine q_iconst (pc := 707) (v := 3) (by decide) hG dL_law_707 ?_
  refine q_iadd (pc := 708) hG dL_law_708 ?_
  refine q_sld (pc := 709) (hb 3 (by decide)) hG dL_law_709 ?_
  refine q_aload_n (pc := 710) 0 0 rfl rfl hG dL_law_710 ?_
  refine q_iload_n (pc := 711) 3 3 rfl rfl hG dL_law_711 ?_
  refine q_iconst (pc := 712) (v := 4) (by decide) hG dL_law_712 ?_
  refine q_iadd (pc := 713) hG dL_law_713 ?_
  refine q_sld (pc := 714) (hb 4 (by decide)) hG dL_law_714 ?_
  refine q_Moi (pc := 715) (As := [.int (xs (x3 + 1).toNatClampNeg), .int (xs (x3 + 2).toNatClampNeg), .int (xs (x3 + 3).toNatClampNeg), .int (xs (x3 + 4).toNatClampNeg)]) rfl (c_Mo_would X N (xs (x3 + 1).toNatClampNeg) (xs (x3 + 2).toNatClampNeg) (xs (x3 + 3).toNatClampNeg) (xs (x3 + 4).toNatClampNeg) σ1 r σ2 e2) ml_85 my_85 (by decide) (by decide) rfl (Nat.le_of_ble_eq_true rfl) hG dL_law_715 rfl ?_
  refine q_eqT (pc := 718) (tgt := 1509) (by decide) hG dL_law_718 ?_
  exact hK _ hI2
theorem q_case_way {X : Cx} {b0 L : Nat} {xs : Nat → Int32} {G : St → Nat → List (Nat × Value) → List Value → Prop} (hG : IsL X b0 L xs G) (N : Nat) {Inv : St → Prop} (x3 : Int32) (hb : ∀ c : Nat, c < 7 → inB (x3 + nI c) L = true) (σ : St) (hI : Inv σ) (hK : ∀ σ, Inv σ → G σ 1509 [(0, .ref b0), (1, .ref (X.2.1 + 0)), (2, .ref (X.2.1 + 114)), (3, .int x3)] []) (hs : Sim_way N Inv) : G σ 723 [(0, .ref b0), (1, .ref (X.2.1 + 0)), (2, .ref (X.2.1 + 114)), (3, .int x3)] [] := by
  obtain ⟨r, σ1, σ2, e1, e2, hI2⟩ := hs σ hI (xs (x3 + 1).toNatClampNeg) (xs (x3 + 2).toNatClampNeg) (xs (x3 + 3).toNatClampNeg)
  refine q_aload_n (pc := 723) 1 1 rfl rfl hG dL_law_723 ?_
  refine q_aload_n (pc := 724) 0 0 rfl rfl hG dL_law_724 ?_
  refine q_iload_n (pc := 725) 3 3 rfl rfl hG dL_law_725 ?_
  refine q_iconst (pc := 726) (v := 1) (by decide) hG dL_law_726 ?_
  refine q_iadd (pc := 727) hG dL_law_727 ?_
  refine q_sld (pc := 728) (hb 1 (by decide)) hG dL_law_728 ?_
  refine q_aload_n (pc := 729) 0 0 rfl rfl hG dL_law_729 ?_
  refine q_iload_n (pc := 730) 3 3 rfl rfl hG dL_law_730 ?_
  refine q_iconst (pc := 731) (v := 2) (by decide) hG dL_law_731 ?_
  refine q_iadd (pc := 732) hG dL_law_732 ?_
  refine q_sld (pc := 733) (hb 2 (by decide)) hG dL_law_733 ?_
  refine q_aload_n (pc := 734) 0 0 rfl rfl hG dL_law_734 ?_
  refine q_iload_n (pc := 735) 3 3 rfl rfl hG dL_law_735 ?_
  refine q_iconst (pc := 736) (v := 3) (by decide) hG dL_law_736 ?_
  refine q_iadd (pc := 737) hG dL_law_737 ?_
  refine q_sld (pc := 738) (hb 3 (by decide)) hG dL_law_738 ?_
  refine q_Goi (pc := 739) (As := [.int (xs (x3 + 1).toNatClampNeg), .int (xs (x3 + 2).toNatClampNeg), .int (xs (x3 + 3).toNatClampNeg)]) rfl (c_Go_way X N (xs (x3 + 1).toNatClampNeg) (xs (x3 + 2).toNatClampNeg) (xs (x3 + 3).toNatClampNeg) σ r σ1 e1) ml_86 my_86 (by decide) (by decide) rfl (Nat.le_of_ble_eq_true rfl) hG dL_law_739 rfl ?_
  refine q_aload_n (pc := 742) 2 2 rfl rfl hG dL_law_742 ?_
  refine q_aload_n (pc := 743) 0 0 rfl rfl hG dL_law_743 ?_
  refine q_iload_n (pc := 744) 3 3 rfl rfl hG dL_law_744 ?_
  refine q_iconst (pc := 745) (v := 1) (by decide) hG dL_law_745 ?_
  refine q_iadd (pc := 746) hG dL_law_746 ?_
  refine q_sld (pc := 747) (hb 1 (by decide)) hG dL_law_747 ?_
  refine q_aload_n (pc := 748) 0 0 rfl rfl hG dL_law_748 ?_
  refine q_iload_n (pc := 749) 3 3 rfl rfl hG dL_law_749 ?_
  refine q_iconst (pc := 750) (v := 2) (by decide) hG dL_law_750 ?_
  refine q_iadd (pc := 751) hG dL_law_751 ?_
  refine q_sld (pc := 752) (hb 2 (by decide)) hG dL_law_752 ?_
  refine q_aload_n (pc := 753) 0 0 rfl rfl hG dL_law_753 ?_
  refine q_iload_n (pc := 754) 3 3 rfl rfl hG dL_law_754 ?_
  refine q_iconst (pc := 755) (v := 3) (by decide) hG dL_law_755 ?_
  refine q_iadd (pc := 756) hG dL_law_756 ?_
  refine q_sld (pc := 757) (hb 3 (by decide)) hG dL_law_757 ?_
  refine q_Moi (pc := 758) (As := [.int (xs (x3 + 1).toNatClampNeg), .int (xs (x3 + 2).toNatClampNeg), .int (xs (x3 + 3).toNatClampNeg)]) rfl (c_Mo_way X N (xs (x3 + 1).toNatClampNeg) (xs (x3 + 2).toNatClampNeg) (xs (x3 + 3).toNatClampNeg) σ1 r σ2 e2) ml_89 my_89 (by decide) (by decide) rfl (Nat.le_of_ble_eq_true rfl) hG dL_law_758 rfl ?_
  refine q_eqT (pc := 761) (tgt := 1509) (by decide) hG dL_law_761 ?_
  exact hK _ hI2
theorem q_case_gentle {X : Cx} {b0 L : Nat} {xs : Nat → Int32} {G : St → Nat → List (Nat × Value) → List Value → Prop} (hG : IsL X b0 L xs G) (N : Nat) {Inv : St → Prop} (x3 : Int32) (hb : ∀ c : Nat, c < 7 → inB (x3 + nI c) L = true) (σ : St) (hI : Inv σ) (hK : ∀ σ, Inv σ → G σ 1509 [(0, .ref b0), (1, .ref (X.2.1 + 0)), (2, .ref (X.2.1 + 114)), (3, .int x3)] []) (hs : Sim_gentle N Inv) : G σ 766 [(0, .ref b0), (1, .ref (X.2.1 + 0)), (2, .ref (X.2.1 + 114)), (3, .int x3)] [] := by
  obtain ⟨r, σ1, σ2, e1, e2, hI2⟩ := hs σ hI (xs (x3 + 1).toNatClampNeg) (xs (x3 + 2).toNatClampNeg)
  refine q_aload_n (pc := 766) 1 1 rfl rfl hG dL_law_766 ?_
  refine q_aload_n (pc := 767) 0 0 rfl rfl hG dL_law_767 ?_
  refine q_iload_n (pc := 768) 3 3 rfl rfl hG dL_law_768 ?_
  refine q_iconst (pc := 769) (v := 1) (by decide) hG dL_law_769 ?_
  refine q_iadd (pc := 770) hG dL_law_770 ?_
  refine q_sld (pc := 771) (hb 1 (by decide)) hG dL_law_771 ?_
  refine q_aload_n (pc := 772) 0 0 rfl rfl hG dL_law_772 ?_
  refine q_iload_n (pc := 773) 3 3 rfl rfl hG dL_law_773 ?_
  refine q_iconst (pc := 774) (v := 2) (by decide) hG dL_law_774 ?_
  refine q_iadd (pc := 775) hG dL_law_775 ?_
  refine q_sld (pc := 776) (hb 2 (by decide)) hG dL_law_776 ?_
  refine q_Goi (pc := 777) (As := [.int (xs (x3 + 1).toNatClampNeg), .int (xs (x3 + 2).toNatClampNeg)]) rfl (c_Go_gentle X N (xs (x3 + 1).toNatClampNeg) (xs (x3 + 2).toNatClampNeg) σ r σ1 e1) ml_90 my_90 (by decide) (by decide) rfl (Nat.le_of_ble_eq_true rfl) hG dL_law_777 rfl ?_
  refine q_aload_n (pc := 780) 2 2 rfl rfl hG dL_law_780 ?_
  refine q_aload_n (pc := 781) 0 0 rfl rfl hG dL_law_781 ?_
  refine q_iload_n (pc := 782) 3 3 rfl rfl hG dL_law_782 ?_
  refine q_iconst (pc := 783) (v := 1) (by decide) hG dL_law_783 ?_
  refine q_iadd (pc := 784) hG dL_law_784 ?_
  refine q_sld (pc := 785) (hb 1 (by decide)) hG dL_law_785 ?_
  refine q_aload_n (pc := 786) 0 0 rfl rfl hG dL_law_786 ?_
  refine q_iload_n (pc := 787) 3 3 rfl rfl hG dL_law_787 ?_
  refine q_iconst (pc := 788) (v := 2) (by decide) hG dL_law_788 ?_
  refine q_iadd (pc := 789) hG dL_law_789 ?_
  refine q_sld (pc := 790) (hb 2 (by decide)) hG dL_law_790 ?_
  refine q_Moi (pc := 791) (As := [.int (xs (x3 + 1).toNatClampNeg), .int (xs (x3 + 2).toNatClampNeg)]) rfl (c_Mo_gentle X N (xs (x3 + 1).toNatClampNeg) (xs (x3 + 2).toNatClampNeg) σ1 r σ2 e2) ml_93 my_93 (by decide) (by decide) rfl (Nat.le_of_ble_eq_true rfl) hG dL_law_791 rfl ?_
  refine q_eqT (pc := 794) (tgt := 1509) (by decide) hG dL_law_794 ?_
  exact hK _ hI2
theorem q_case_where {X : Cx} {b0 L : Nat} {xs : Nat → Int32} {G : St → Nat → List (Nat × Value) → List Value → Prop} (hG : IsL X b0 L xs G) (N : Nat) {Inv : St → Prop} (x3 : Int32) (hb : ∀ c : Nat, c < 7 → inB (x3 + nI c) L = true) (σ : St) (hI : Inv σ) (hK : ∀ σ, Inv σ → G σ 1509 [(0, .ref b0), (1, .ref (X.2.1 + 0)), (2, .ref (X.2.1 + 114)), (3, .int x3)] []) (hs : Sim_where N Inv) : G σ 799 [(0, .ref b0), (1, .ref (X.2.1 + 0)), (2, .ref (X.2.1 + 114)), (3, .int x3)] [] := by
  obtain ⟨r, σ1, σ2, e1, e2, hI2⟩ := hs σ hI (xs (x3 + 1).toNatClampNeg) (xs (x3 + 2).toNatClampNeg)
  refine q_aload_n (pc := 799) 1 1 rfl rfl hG dL_law_799 ?_
  refine q_aload_n (pc := 800) 0 0 rfl rfl hG dL_law_800 ?_
  refine q_iload_n (pc := 801) 3 3 rfl rfl hG dL_law_801 ?_
  refine q_iconst (pc := 802) (v := 1) (by decide) hG dL_law_802 ?_
  refine q_iadd (pc := 803) hG dL_law_803 ?_
  refine q_sld (pc := 804) (hb 1 (by decide)) hG dL_law_804 ?_
  refine q_aload_n (pc := 805) 0 0 rfl rfl hG dL_law_805 ?_
  refine q_iload_n (pc := 806) 3 3 rfl rfl hG dL_law_806 ?_
  refine q_iconst (pc := 807) (v := 2) (by decide) hG dL_law_807 ?_
  refine q_iadd (pc := 808) hG dL_law_808 ?_
  refine q_sld (pc := 809) (hb 2 (by decide)) hG dL_law_809 ?_
  refine q_Goi (pc := 810) (As := [.int (xs (x3 + 1).toNatClampNeg), .int (xs (x3 + 2).toNatClampNeg)]) rfl (c_Go_where X N (xs (x3 + 1).toNatClampNeg) (xs (x3 + 2).toNatClampNeg) σ r σ1 e1) ml_94 my_94 (by decide) (by decide) rfl (Nat.le_of_ble_eq_true rfl) hG dL_law_810 rfl ?_
  refine q_aload_n (pc := 813) 2 2 rfl rfl hG dL_law_813 ?_
  refine q_aload_n (pc := 814) 0 0 rfl rfl hG dL_law_814 ?_
  refine q_iload_n (pc := 815) 3 3 rfl rfl hG dL_law_815 ?_
  refine q_iconst (pc := 816) (v := 1) (by decide) hG dL_law_816 ?_
  refine q_iadd (pc := 817) hG dL_law_817 ?_
  refine q_sld (pc := 818) (hb 1 (by decide)) hG dL_law_818 ?_
  refine q_aload_n (pc := 819) 0 0 rfl rfl hG dL_law_819 ?_
  refine q_iload_n (pc := 820) 3 3 rfl rfl hG dL_law_820 ?_
  refine q_iconst (pc := 821) (v := 2) (by decide) hG dL_law_821 ?_
  refine q_iadd (pc := 822) hG dL_law_822 ?_
  refine q_sld (pc := 823) (hb 2 (by decide)) hG dL_law_823 ?_
  refine q_Moi (pc := 824) (As := [.int (xs (x3 + 1).toNatClampNeg), .int (xs (x3 + 2).toNatClampNeg)]) rfl (c_Mo_where X N (xs (x3 + 1).toNatClampNeg) (xs (x3 + 2).toNatClampNeg) σ1 r σ2 e2) ml_97 my_97 (by decide) (by decide) rfl (Nat.le_of_ble_eq_true rfl) hG dL_law_824 rfl ?_
  refine q_eqT (pc := 827) (tgt := 1509) (by decide) hG dL_law_827 ?_
  exact hK _ hI2
theorem q_case_share {X : Cx} {b0 L : Nat} {xs : Nat → Int32} {G : St → Nat → List (Nat × Value) → List Value → Prop} (hG : IsL X b0 L xs G) (N : Nat) {Inv : St → Prop} (x3 : Int32) (hb : ∀ c : Nat, c < 7 → inB (x3 + nI c) L = true) (σ : St) (hI : Inv σ) (hK : ∀ σ, Inv σ → G σ 1509 [(0, .ref b0), (1, .ref (X.2.1 + 0)), (2, .ref (X.2.1 + 114)), (3, .int x3)] []) (hs : Sim_share N Inv) : G σ 832 [(0, .ref b0), (1, .ref (X.2.1 + 0)), (2, .ref (X.2.1 + 114)), (3, .int x3)] [] := by
  obtain ⟨r, σ1, σ2, e1, e2, hI2⟩ := hs σ hI (xs (x3 + 1).toNatClampNeg)
  refine q_aload_n (pc := 832) 1 1 rfl rfl hG dL_law_832 ?_
  refine q_aload_n (pc := 833) 0 0 rfl rfl hG dL_law_833 ?_
  refine q_iload_n (pc := 834) 3 3 rfl rfl hG dL_law_834 ?_
  refine q_iconst (pc := 835) (v := 1) (by decide) hG dL_law_835 ?_
  refine q_iadd (pc := 836) hG dL_law_836 ?_
  refine q_sld (pc := 837) (hb 1 (by decide)) hG dL_law_837 ?_
  refine q_Goi (pc := 838) (As := [.int (xs (x3 + 1).toNatClampNeg)]) rfl (c_Go_share X N (xs (x3 + 1).toNatClampNeg) σ r σ1 e1) ml_98 my_98 (by decide) (by decide) rfl (Nat.le_of_ble_eq_true rfl) hG dL_law_838 rfl ?_
  refine q_aload_n (pc := 841) 2 2 rfl rfl hG dL_law_841 ?_
  refine q_aload_n (pc := 842) 0 0 rfl rfl hG dL_law_842 ?_
  refine q_iload_n (pc := 843) 3 3 rfl rfl hG dL_law_843 ?_
  refine q_iconst (pc := 844) (v := 1) (by decide) hG dL_law_844 ?_
  refine q_iadd (pc := 845) hG dL_law_845 ?_
  refine q_sld (pc := 846) (hb 1 (by decide)) hG dL_law_846 ?_
  refine q_Moi (pc := 847) (As := [.int (xs (x3 + 1).toNatClampNeg)]) rfl (c_Mo_share X N (xs (x3 + 1).toNatClampNeg) σ1 r σ2 e2) ml_101 my_101 (by decide) (by decide) rfl (Nat.le_of_ble_eq_true rfl) hG dL_law_847 rfl ?_
  refine q_eqT (pc := 850) (tgt := 1509) (by decide) hG dL_law_850 ?_
  exact hK _ hI2
theorem q_case_seen {X : Cx} {b0 L : Nat} {xs : Nat → Int32} {G : St → Nat → List (Nat × Value) → List Value → Prop} (hG : IsL X b0 L xs G) (N : Nat) {Inv : St → Prop} (x3 : Int32) (hb : ∀ c : Nat, c < 7 → inB (x3 + nI c) L = true) (σ : St) (hI : Inv σ) (hK : ∀ σ, Inv σ → G σ 1509 [(0, .ref b0), (1, .ref (X.2.1 + 0)), (2, .ref (X.2.1 + 114)), (3, .int x3)] []) (hs : Sim_seen N Inv) : G σ 855 [(0, .ref b0), (1, .ref (X.2.1 + 0)), (2, .ref (X.2.1 + 114)), (3, .int x3)] [] := by
  obtain ⟨r, σ1, σ2, e1, e2, hI2⟩ := hs σ hI (xs (x3 + 1).toNatClampNeg) (xs (x3 + 2).toNatClampNeg) (xs (x3 + 3).toNatClampNeg) (xs (x3 + 4).toNatClampNeg)
  refine q_aload_n (pc := 855) 1 1 rfl rfl hG dL_law_855 ?_
  refine q_aload_n (pc := 856) 0 0 rfl rfl hG dL_law_856 ?_
  refine q_iload_n (pc := 857) 3 3 rfl rfl hG dL_law_857 ?_
  refine q_iconst (pc := 858) (v := 1) (by decide) hG dL_law_858 ?_
  refine q_iadd (pc := 859) hG dL_law_859 ?_
  refine q_sld (pc := 860) (hb 1 (by decide)) hG dL_law_860 ?_
  refine q_aload_n (pc := 861) 0 0 rfl rfl hG dL_law_861 ?_
  refine q_iload_n (pc := 862) 3 3 rfl rfl hG dL_law_862 ?_
  refine q_iconst (pc := 863) (v := 2) (by decide) hG dL_law_863 ?_
  refine q_iadd (pc := 864) hG dL_law_864 ?_
  refine q_sld (pc := 865) (hb 2 (by decide)) hG dL_law_865 ?_
  refine q_aload_n (pc := 866) 0 0 rfl rfl hG dL_law_866 ?_
  refine q_iload_n (pc := 867) 3 3 rfl rfl hG dL_law_867 ?_
  refine q_iconst (pc := 868) (v := 3) (by decide) hG dL_law_868 ?_
  refine q_iadd (pc := 869) hG dL_law_869 ?_
  refine q_sld (pc := 870) (hb 3 (by decide)) hG dL_law_870 ?_
  refine q_aload_n (pc := 871) 0 0 rfl rfl hG dL_law_871 ?_
  refine q_iload_n (pc := 872) 3 3 rfl rfl hG dL_law_872 ?_
  refine q_iconst (pc := 873) (v := 4) (by decide) hG dL_law_873 ?_
  refine q_iadd (pc := 874) hG dL_law_874 ?_
  refine q_sld (pc := 875) (hb 4 (by decide)) hG dL_law_875 ?_
  refine q_Goi (pc := 876) (As := [.int (xs (x3 + 1).toNatClampNeg), .int (xs (x3 + 2).toNatClampNeg), .int (xs (x3 + 3).toNatClampNeg), .int (xs (x3 + 4).toNatClampNeg)]) rfl (c_Go_seen X N (xs (x3 + 1).toNatClampNeg) (xs (x3 + 2).toNatClampNeg) (xs (x3 + 3).toNatClampNeg) (xs (x3 + 4).toNatClampNeg) σ r σ1 e1) ml_102 my_102 (by decide) (by decide) rfl (Nat.le_of_ble_eq_true rfl) hG dL_law_876 rfl ?_
  refine q_aload_n (pc := 879) 2 2 rfl rfl hG dL_law_879 ?_
  refine q_aload_n (pc := 880) 0 0 rfl rfl hG dL_law_880 ?_
  refine q_iload_n (pc := 881) 3 3 rfl rfl hG dL_law_881 ?_
  refine q_iconst (pc := 882) (v := 1) (by decide) hG dL_law_882 ?_
  refine q_iadd (pc := 883) hG dL_law_883 ?_
  refine q_sld (pc := 884) (hb 1 (by decide)) hG dL_law_884 ?_
  refine q_aload_n (pc := 885) 0 0 rfl rfl hG dL_law_885 ?_
  refine q_iload_n (pc := 886) 3 3 rfl rfl hG dL_law_886 ?_
  refine q_iconst (pc := 887) (v := 2) (by decide) hG dL_law_887 ?_
  refine q_iadd (pc := 888) hG dL_law_888 ?_
  refine q_sld (pc := 889) (hb 2 (by decide)) hG dL_law_889 ?_
  refine q_aload_n (pc := 890) 0 0 rfl rfl hG dL_law_890 ?_
  refine q_iload_n (pc := 891) 3 3 rfl rfl hG dL_law_891 ?_
  refine q_iconst (pc := 892) (v := 3) (by decide) hG dL_law_892 ?_
  refine q_iadd (pc := 893) hG dL_law_893 ?_
  refine q_sld (pc := 894) (hb 3 (by decide)) hG dL_law_894 ?_
  refine q_aload_n (pc := 895) 0 0 rfl rfl hG dL_law_895 ?_
  refine q_iload_n (pc := 896) 3 3 rfl rfl hG dL_law_896 ?_
  refine q_iconst (pc := 897) (v := 4) (by decide) hG dL_law_897 ?_
  refine q_iadd (pc := 898) hG dL_law_898 ?_
  refine q_sld (pc := 899) (hb 4 (by decide)) hG dL_law_899 ?_
  refine q_Moi (pc := 900) (As := [.int (xs (x3 + 1).toNatClampNeg), .int (xs (x3 + 2).toNatClampNeg), .int (xs (x3 + 3).toNatClampNeg), .int (xs (x3 + 4).toNatClampNeg)]) rfl (c_Mo_seen X N (xs (x3 + 1).toNatClampNeg) (xs (x3 + 2).toNatClampNeg) (xs (x3 + 3).toNatClampNeg) (xs (x3 + 4).toNatClampNeg) σ1 r σ2 e2) ml_105 my_105 (by decide) (by decide) rfl (Nat.le_of_ble_eq_true rfl) hG dL_law_900 rfl ?_
  refine q_eqT (pc := 903) (tgt := 1509) (by decide) hG dL_law_903 ?_
  exact hK _ hI2
theorem q_case_tongues {X : Cx} {b0 L : Nat} {xs : Nat → Int32} {G : St → Nat → List (Nat × Value) → List Value → Prop} (hG : IsL X b0 L xs G) (N : Nat) {Inv : St → Prop} (x3 : Int32) (hb : ∀ c : Nat, c < 7 → inB (x3 + nI c) L = true) (σ : St) (hI : Inv σ) (hK : ∀ σ, Inv σ → G σ 1509 [(0, .ref b0), (1, .ref (X.2.1 + 0)), (2, .ref (X.2.1 + 114)), (3, .int x3)] []) (hs : Sim_tongues N Inv) : G σ 908 [(0, .ref b0), (1, .ref (X.2.1 + 0)), (2, .ref (X.2.1 + 114)), (3, .int x3)] [] := by
  obtain ⟨r, σ1, σ2, e1, e2, hI2⟩ := hs σ hI (xs (x3 + 1).toNatClampNeg)
  refine q_aload_n (pc := 908) 1 1 rfl rfl hG dL_law_908 ?_
  refine q_aload_n (pc := 909) 0 0 rfl rfl hG dL_law_909 ?_
  refine q_iload_n (pc := 910) 3 3 rfl rfl hG dL_law_910 ?_
  refine q_iconst (pc := 911) (v := 1) (by decide) hG dL_law_911 ?_
  refine q_iadd (pc := 912) hG dL_law_912 ?_
  refine q_sld (pc := 913) (hb 1 (by decide)) hG dL_law_913 ?_
  refine q_Goi (pc := 914) (As := [.int (xs (x3 + 1).toNatClampNeg)]) rfl (c_Go_tongues X N (xs (x3 + 1).toNatClampNeg) σ r σ1 e1) ml_106 my_106 (by decide) (by decide) rfl (Nat.le_of_ble_eq_true rfl) hG dL_law_914 rfl ?_
  refine q_aload_n (pc := 917) 2 2 rfl rfl hG dL_law_917 ?_
  refine q_aload_n (pc := 918) 0 0 rfl rfl hG dL_law_918 ?_
  refine q_iload_n (pc := 919) 3 3 rfl rfl hG dL_law_919 ?_
  refine q_iconst (pc := 920) (v := 1) (by decide) hG dL_law_920 ?_
  refine q_iadd (pc := 921) hG dL_law_921 ?_
  refine q_sld (pc := 922) (hb 1 (by decide)) hG dL_law_922 ?_
  refine q_Moi (pc := 923) (As := [.int (xs (x3 + 1).toNatClampNeg)]) rfl (c_Mo_tongues X N (xs (x3 + 1).toNatClampNeg) σ1 r σ2 e2) ml_109 my_109 (by decide) (by decide) rfl (Nat.le_of_ble_eq_true rfl) hG dL_law_923 rfl ?_
  refine q_eqT (pc := 926) (tgt := 1509) (by decide) hG dL_law_926 ?_
  exact hK _ hI2
theorem q_case_tell {X : Cx} {b0 L : Nat} {xs : Nat → Int32} {G : St → Nat → List (Nat × Value) → List Value → Prop} (hG : IsL X b0 L xs G) (N : Nat) {Inv : St → Prop} (x3 : Int32) (hb : ∀ c : Nat, c < 7 → inB (x3 + nI c) L = true) (σ : St) (hI : Inv σ) (hK : ∀ σ, Inv σ → G σ 1509 [(0, .ref b0), (1, .ref (X.2.1 + 0)), (2, .ref (X.2.1 + 114)), (3, .int x3)] []) (hs : Sim_tell N Inv) : G σ 931 [(0, .ref b0), (1, .ref (X.2.1 + 0)), (2, .ref (X.2.1 + 114)), (3, .int x3)] [] := by
  obtain ⟨r, σ1, σ2, e1, e2, hI2⟩ := hs σ hI (xs (x3 + 1).toNatClampNeg)
  refine q_aload_n (pc := 931) 1 1 rfl rfl hG dL_law_931 ?_
  refine q_aload_n (pc := 932) 0 0 rfl rfl hG dL_law_932 ?_
  refine q_iload_n (pc := 933) 3 3 rfl rfl hG dL_law_933 ?_
  refine q_iconst (pc := 934) (v := 1) (by decide) hG dL_law_934 ?_
  refine q_iadd (pc := 935) hG dL_law_935 ?_
  refine q_sld (pc := 936) (hb 1 (by decide)) hG dL_law_936 ?_
  refine q_Goi (pc := 937) (As := [.int (xs (x3 + 1).toNatClampNeg)]) rfl (c_Go_tell X N (xs (x3 + 1).toNatClampNeg) σ r σ1 e1) ml_110 my_110 (by decide) (by decide) rfl (Nat.le_of_ble_eq_true rfl) hG dL_law_937 rfl ?_
  refine q_aload_n (pc := 940) 2 2 rfl rfl hG dL_law_940 ?_
  refine q_aload_n (pc := 941) 0 0 rfl rfl hG dL_law_941 ?_
  refine q_iload_n (pc := 942) 3 3 rfl rfl hG dL_law_942 ?_
  refine q_iconst (pc := 943) (v := 1) (by decide) hG dL_law_943 ?_
  refine q_iadd (pc := 944) hG dL_law_944 ?_
  refine q_sld (pc := 945) (hb 1 (by decide)) hG dL_law_945 ?_
  refine q_Moi (pc := 946) (As := [.int (xs (x3 + 1).toNatClampNeg)]) rfl (c_Mo_tell X N (xs (x3 + 1).toNatClampNeg) σ1 r σ2 e2) ml_113 my_113 (by decide) (by decide) rfl (Nat.le_of_ble_eq_true rfl) hG dL_law_946 rfl ?_
  refine q_eqT (pc := 949) (tgt := 1509) (by decide) hG dL_law_949 ?_
  exact hK _ hI2
theorem q_case_note {X : Cx} {b0 L : Nat} {xs : Nat → Int32} {G : St → Nat → List (Nat × Value) → List Value → Prop} (hG : IsL X b0 L xs G) (N : Nat) {Inv : St → Prop} (x3 : Int32) (hb : ∀ c : Nat, c < 7 → inB (x3 + nI c) L = true) (σ : St) (hI : Inv σ) (hK : ∀ σ, Inv σ → G σ 1509 [(0, .ref b0), (1, .ref (X.2.1 + 0)), (2, .ref (X.2.1 + 114)), (3, .int x3)] []) (hs : Sim_note N Inv) : G σ 954 [(0, .ref b0), (1, .ref (X.2.1 + 0)), (2, .ref (X.2.1 + 114)), (3, .int x3)] [] := by
  obtain ⟨r, σ1, σ2, e1, e2, hI2⟩ := hs σ hI (xs (x3 + 1).toNatClampNeg) (xs (x3 + 2).toNatClampNeg) (xs (x3 + 3).toNatClampNeg) (xs (x3 + 4).toNatClampNeg) (xs (x3 + 5).toNatClampNeg) (xs (x3 + 6).toNatClampNeg)
  refine q_aload_n (pc := 954) 1 1 rfl rfl hG dL_law_954 ?_
  refine q_aload_n (pc := 955) 0 0 rfl rfl hG dL_law_955 ?_
  refine q_iload_n (pc := 956) 3 3 rfl rfl hG dL_law_956 ?_
  refine q_iconst (pc := 957) (v := 1) (by decide) hG dL_law_957 ?_
  refine q_iadd (pc := 958) hG dL_law_958 ?_
  refine q_sld (pc := 959) (hb 1 (by decide)) hG dL_law_959 ?_
  refine q_aload_n (pc := 960) 0 0 rfl rfl hG dL_law_960 ?_
  refine q_iload_n (pc := 961) 3 3 rfl rfl hG dL_law_961 ?_
  refine q_iconst (pc := 962) (v := 2) (by decide) hG dL_law_962 ?_
  refine q_iadd (pc := 963) hG dL_law_963 ?_
  refine q_sld (pc := 964) (hb 2 (by decide)) hG dL_law_964 ?_
  refine q_aload_n (pc := 965) 0 0 rfl rfl hG dL_law_965 ?_
  refine q_iload_n (pc := 966) 3 3 rfl rfl hG dL_law_966 ?_
  refine q_iconst (pc := 967) (v := 3) (by decide) hG dL_law_967 ?_
  refine q_iadd (pc := 968) hG dL_law_968 ?_
  refine q_sld (pc := 969) (hb 3 (by decide)) hG dL_law_969 ?_
  refine q_aload_n (pc := 970) 0 0 rfl rfl hG dL_law_970 ?_
  refine q_iload_n (pc := 971) 3 3 rfl rfl hG dL_law_971 ?_
  refine q_iconst (pc := 972) (v := 4) (by decide) hG dL_law_972 ?_
  refine q_iadd (pc := 973) hG dL_law_973 ?_
  refine q_sld (pc := 974) (hb 4 (by decide)) hG dL_law_974 ?_
  refine q_aload_n (pc := 975) 0 0 rfl rfl hG dL_law_975 ?_
  refine q_iload_n (pc := 976) 3 3 rfl rfl hG dL_law_976 ?_
  refine q_iconst (pc := 977) (v := 5) (by decide) hG dL_law_977 ?_
  refine q_iadd (pc := 978) hG dL_law_978 ?_
  refine q_sld (pc := 979) (hb 5 (by decide)) hG dL_law_979 ?_
  refine q_aload_n (pc := 980) 0 0 rfl rfl hG dL_law_980 ?_
  refine q_iload_n (pc := 981) 3 3 rfl rfl hG dL_law_981 ?_
  refine q_bipush (pc := 982) (v := 6) (by decide) hG dL_law_982 ?_
  refine q_iadd (pc := 984) hG dL_law_984 ?_
  refine q_sld (pc := 985) (hb 6 (by decide)) hG dL_law_985 ?_
  refine q_Goi (pc := 986) (As := [.int (xs (x3 + 1).toNatClampNeg), .int (xs (x3 + 2).toNatClampNeg), .int (xs (x3 + 3).toNatClampNeg), .int (xs (x3 + 4).toNatClampNeg), .int (xs (x3 + 5).toNatClampNeg), .int (xs (x3 + 6).toNatClampNeg)]) rfl (c_Go_note X N (xs (x3 + 1).toNatClampNeg) (xs (x3 + 2).toNatClampNeg) (xs (x3 + 3).toNatClampNeg) (xs (x3 + 4).toNatClampNeg) (xs (x3 + 5).toNatClampNeg) (xs (x3 + 6).toNatClampNeg) σ r σ1 e1) ml_114 my_114 (by decide) (by decide) rfl (Nat.le_of_ble_eq_true rfl) hG dL_law_986 rfl ?_
  refine q_aload_n (pc := 989) 2 2 rfl rfl hG dL_law_989 ?_
  refine q_aload_n (pc := 990) 0 0 rfl rfl hG dL_law_990 ?_
  refine q_iload_n (pc := 991) 3 3 rfl rfl hG dL_law_991 ?_
  refine q_iconst (pc := 992) (v := 1) (by decide) hG dL_law_992 ?_
  refine q_iadd (pc := 993) hG dL_law_993 ?_
  refine q_sld (pc := 994) (hb 1 (by decide)) hG dL_law_994 ?_
  refine q_aload_n (pc := 995) 0 0 rfl rfl hG dL_law_995 ?_
  refine q_iload_n (pc := 996) 3 3 rfl rfl hG dL_law_996 ?_
  refine q_iconst (pc := 997) (v := 2) (by decide) hG dL_law_997 ?_
  refine q_iadd (pc := 998) hG dL_law_998 ?_
  refine q_sld (pc := 999) (hb 2 (by decide)) hG dL_law_999 ?_
  refine q_aload_n (pc := 1000) 0 0 rfl rfl hG dL_law_1000 ?_
  refine q_iload_n (pc := 1001) 3 3 rfl rfl hG dL_law_1001 ?_
  refine q_iconst (pc := 1002) (v := 3) (by decide) hG dL_law_1002 ?_
  refine q_iadd (pc := 1003) hG dL_law_1003 ?_
  refine q_sld (pc := 1004) (hb 3 (by decide)) hG dL_law_1004 ?_
  refine q_aload_n (pc := 1005) 0 0 rfl rfl hG dL_law_1005 ?_
  refine q_iload_n (pc := 1006) 3 3 rfl rfl hG dL_law_1006 ?_
  refine q_iconst (pc := 1007) (v := 4) (by decide) hG dL_law_1007 ?_
  refine q_iadd (pc := 1008) hG dL_law_1008 ?_
  refine q_sld (pc := 1009) (hb 4 (by decide)) hG dL_law_1009 ?_
  refine q_aload_n (pc := 1010) 0 0 rfl rfl hG dL_law_1010 ?_
  refine q_iload_n (pc := 1011) 3 3 rfl rfl hG dL_law_1011 ?_
  refine q_iconst (pc := 1012) (v := 5) (by decide) hG dL_law_1012 ?_
  refine q_iadd (pc := 1013) hG dL_law_1013 ?_
  refine q_sld (pc := 1014) (hb 5 (by decide)) hG dL_law_1014 ?_
  refine q_aload_n (pc := 1015) 0 0 rfl rfl hG dL_law_1015 ?_
  refine q_iload_n (pc := 1016) 3 3 rfl rfl hG dL_law_1016 ?_
  refine q_bipush (pc := 1017) (v := 6) (by decide) hG dL_law_1017 ?_
  refine q_iadd (pc := 1019) hG dL_law_1019 ?_
  refine q_sld (pc := 1020) (hb 6 (by decide)) hG dL_law_1020 ?_
  refine q_Moi (pc := 1021) (As := [.int (xs (x3 + 1).toNatClampNeg), .int (xs (x3 + 2).toNatClampNeg), .int (xs (x3 + 3).toNatClampNeg), .int (xs (x3 + 4).toNatClampNeg), .int (xs (x3 + 5).toNatClampNeg), .int (xs (x3 + 6).toNatClampNeg)]) rfl (c_Mo_note X N (xs (x3 + 1).toNatClampNeg) (xs (x3 + 2).toNatClampNeg) (xs (x3 + 3).toNatClampNeg) (xs (x3 + 4).toNatClampNeg) (xs (x3 + 5).toNatClampNeg) (xs (x3 + 6).toNatClampNeg) σ1 r σ2 e2) ml_118 my_118 (by decide) (by decide) rfl (Nat.le_of_ble_eq_true rfl) hG dL_law_1021 rfl ?_
  refine q_eqT (pc := 1024) (tgt := 1509) (by decide) hG dL_law_1024 ?_
  exact hK _ hI2
theorem q_case_mark {X : Cx} {b0 L : Nat} {xs : Nat → Int32} {G : St → Nat → List (Nat × Value) → List Value → Prop} (hG : IsL X b0 L xs G) (N : Nat) {Inv : St → Prop} (x3 : Int32) (hb : ∀ c : Nat, c < 7 → inB (x3 + nI c) L = true) (σ : St) (hI : Inv σ) (hK : ∀ σ, Inv σ → G σ 1509 [(0, .ref b0), (1, .ref (X.2.1 + 0)), (2, .ref (X.2.1 + 114)), (3, .int x3)] []) (hs : Sim_mark N Inv) : G σ 1029 [(0, .ref b0), (1, .ref (X.2.1 + 0)), (2, .ref (X.2.1 + 114)), (3, .int x3)] [] := by
  obtain ⟨r, σ1, σ2, e1, e2, hI2⟩ := hs σ hI (xs (x3 + 1).toNatClampNeg) (xs (x3 + 2).toNatClampNeg) (xs (x3 + 3).toNatClampNeg) (xs (x3 + 4).toNatClampNeg) (xs (x3 + 5).toNatClampNeg)
  refine q_aload_n (pc := 1029) 1 1 rfl rfl hG dL_law_1029 ?_
  refine q_aload_n (pc := 1030) 0 0 rfl rfl hG dL_law_1030 ?_
  refine q_iload_n (pc := 1031) 3 3 rfl rfl hG dL_law_1031 ?_
  refine q_iconst (pc := 1032) (v := 1) (by decide) hG dL_law_1032 ?_
  refine q_iadd (pc := 1033) hG dL_law_1033 ?_
  refine q_sld (pc := 1034) (hb 1 (by decide)) hG dL_law_1034 ?_
  refine q_aload_n (pc := 1035) 0 0 rfl rfl hG dL_law_1035 ?_
  refine q_iload_n (pc := 1036) 3 3 rfl rfl hG dL_law_1036 ?_
  refine q_iconst (pc := 1037) (v := 2) (by decide) hG dL_law_1037 ?_
  refine q_iadd (pc := 1038) hG dL_law_1038 ?_
  refine q_sld (pc := 1039) (hb 2 (by decide)) hG dL_law_1039 ?_
  refine q_aload_n (pc := 1040) 0 0 rfl rfl hG dL_law_1040 ?_
  refine q_iload_n (pc := 1041) 3 3 rfl rfl hG dL_law_1041 ?_
  refine q_iconst (pc := 1042) (v := 3) (by decide) hG dL_law_1042 ?_
  refine q_iadd (pc := 1043) hG dL_law_1043 ?_
  refine q_sld (pc := 1044) (hb 3 (by decide)) hG dL_law_1044 ?_
  refine q_aload_n (pc := 1045) 0 0 rfl rfl hG dL_law_1045 ?_
  refine q_iload_n (pc := 1046) 3 3 rfl rfl hG dL_law_1046 ?_
  refine q_iconst (pc := 1047) (v := 4) (by decide) hG dL_law_1047 ?_
  refine q_iadd (pc := 1048) hG dL_law_1048 ?_
  refine q_sld (pc := 1049) (hb 4 (by decide)) hG dL_law_1049 ?_
  refine q_aload_n (pc := 1050) 0 0 rfl rfl hG dL_law_1050 ?_
  refine q_iload_n (pc := 1051) 3 3 rfl rfl hG dL_law_1051 ?_
  refine q_iconst (pc := 1052) (v := 5) (by decide) hG dL_law_1052 ?_
  refine q_iadd (pc := 1053) hG dL_law_1053 ?_
  refine q_sld (pc := 1054) (hb 5 (by decide)) hG dL_law_1054 ?_
  refine q_Goi (pc := 1055) (As := [.int (xs (x3 + 1).toNatClampNeg), .int (xs (x3 + 2).toNatClampNeg), .int (xs (x3 + 3).toNatClampNeg), .int (xs (x3 + 4).toNatClampNeg), .int (xs (x3 + 5).toNatClampNeg)]) rfl (c_Go_mark X N (xs (x3 + 1).toNatClampNeg) (xs (x3 + 2).toNatClampNeg) (xs (x3 + 3).toNatClampNeg) (xs (x3 + 4).toNatClampNeg) (xs (x3 + 5).toNatClampNeg) σ r σ1 e1) ml_119 my_119 (by decide) (by decide) rfl (Nat.le_of_ble_eq_true rfl) hG dL_law_1055 rfl ?_
  refine q_aload_n (pc := 1058) 2 2 rfl rfl hG dL_law_1058 ?_
  refine q_aload_n (pc := 1059) 0 0 rfl rfl hG dL_law_1059 ?_
  refine q_iload_n (pc := 1060) 3 3 rfl rfl hG dL_law_1060 ?_
  refine q_iconst (pc := 1061) (v := 1) (by decide) hG dL_law_1061 ?_
  refine q_iadd (pc := 1062) hG dL_law_1062 ?_
  refine q_sld (pc := 1063) (hb 1 (by decide)) hG dL_law_1063 ?_
  refine q_aload_n (pc := 1064) 0 0 rfl rfl hG dL_law_1064 ?_
  refine q_iload_n (pc := 1065) 3 3 rfl rfl hG dL_law_1065 ?_
  refine q_iconst (pc := 1066) (v := 2) (by decide) hG dL_law_1066 ?_
  refine q_iadd (pc := 1067) hG dL_law_1067 ?_
  refine q_sld (pc := 1068) (hb 2 (by decide)) hG dL_law_1068 ?_
  refine q_aload_n (pc := 1069) 0 0 rfl rfl hG dL_law_1069 ?_
  refine q_iload_n (pc := 1070) 3 3 rfl rfl hG dL_law_1070 ?_
  refine q_iconst (pc := 1071) (v := 3) (by decide) hG dL_law_1071 ?_
  refine q_iadd (pc := 1072) hG dL_law_1072 ?_
  refine q_sld (pc := 1073) (hb 3 (by decide)) hG dL_law_1073 ?_
  refine q_aload_n (pc := 1074) 0 0 rfl rfl hG dL_law_1074 ?_
  refine q_iload_n (pc := 1075) 3 3 rfl rfl hG dL_law_1075 ?_
  refine q_iconst (pc := 1076) (v := 4) (by decide) hG dL_law_1076 ?_
  refine q_iadd (pc := 1077) hG dL_law_1077 ?_
  refine q_sld (pc := 1078) (hb 4 (by decide)) hG dL_law_1078 ?_
  refine q_aload_n (pc := 1079) 0 0 rfl rfl hG dL_law_1079 ?_
  refine q_iload_n (pc := 1080) 3 3 rfl rfl hG dL_law_1080 ?_
  refine q_iconst (pc := 1081) (v := 5) (by decide) hG dL_law_1081 ?_
  refine q_iadd (pc := 1082) hG dL_law_1082 ?_
  refine q_sld (pc := 1083) (hb 5 (by decide)) hG dL_law_1083 ?_
  refine q_Moi (pc := 1084) (As := [.int (xs (x3 + 1).toNatClampNeg), .int (xs (x3 + 2).toNatClampNeg), .int (xs (x3 + 3).toNatClampNeg), .int (xs (x3 + 4).toNatClampNeg), .int (xs (x3 + 5).toNatClampNeg)]) rfl (c_Mo_mark X N (xs (x3 + 1).toNatClampNeg) (xs (x3 + 2).toNatClampNeg) (xs (x3 + 3).toNatClampNeg) (xs (x3 + 4).toNatClampNeg) (xs (x3 + 5).toNatClampNeg) σ1 r σ2 e2) ml_123 my_123 (by decide) (by decide) rfl (Nat.le_of_ble_eq_true rfl) hG dL_law_1084 rfl ?_
  refine q_eqT (pc := 1087) (tgt := 1509) (by decide) hG dL_law_1087 ?_
  exact hK _ hI2
theorem q_case_forget {X : Cx} {b0 L : Nat} {xs : Nat → Int32} {G : St → Nat → List (Nat × Value) → List Value → Prop} (hG : IsL X b0 L xs G) (N : Nat) {Inv : St → Prop} (x3 : Int32) (hb : ∀ c : Nat, c < 7 → inB (x3 + nI c) L = true) (σ : St) (hI : Inv σ) (hK : ∀ σ, Inv σ → G σ 1509 [(0, .ref b0), (1, .ref (X.2.1 + 0)), (2, .ref (X.2.1 + 114)), (3, .int x3)] []) (hs : Sim_forget N Inv) : G σ 1092 [(0, .ref b0), (1, .ref (X.2.1 + 0)), (2, .ref (X.2.1 + 114)), (3, .int x3)] [] := by
  obtain ⟨r, σ1, σ2, e1, e2, hI2⟩ := hs σ hI (xs (x3 + 1).toNatClampNeg)
  refine q_aload_n (pc := 1092) 1 1 rfl rfl hG dL_law_1092 ?_
  refine q_aload_n (pc := 1093) 0 0 rfl rfl hG dL_law_1093 ?_
  refine q_iload_n (pc := 1094) 3 3 rfl rfl hG dL_law_1094 ?_
  refine q_iconst (pc := 1095) (v := 1) (by decide) hG dL_law_1095 ?_
  refine q_iadd (pc := 1096) hG dL_law_1096 ?_
  refine q_sld (pc := 1097) (hb 1 (by decide)) hG dL_law_1097 ?_
  refine q_Goi (pc := 1098) (As := [.int (xs (x3 + 1).toNatClampNeg)]) rfl (c_Go_forget X N (xs (x3 + 1).toNatClampNeg) σ r σ1 e1) ml_124 my_124 (by decide) (by decide) rfl (Nat.le_of_ble_eq_true rfl) hG dL_law_1098 rfl ?_
  refine q_aload_n (pc := 1101) 2 2 rfl rfl hG dL_law_1101 ?_
  refine q_aload_n (pc := 1102) 0 0 rfl rfl hG dL_law_1102 ?_
  refine q_iload_n (pc := 1103) 3 3 rfl rfl hG dL_law_1103 ?_
  refine q_iconst (pc := 1104) (v := 1) (by decide) hG dL_law_1104 ?_
  refine q_iadd (pc := 1105) hG dL_law_1105 ?_
  refine q_sld (pc := 1106) (hb 1 (by decide)) hG dL_law_1106 ?_
  refine q_Moi (pc := 1107) (As := [.int (xs (x3 + 1).toNatClampNeg)]) rfl (c_Mo_forget X N (xs (x3 + 1).toNatClampNeg) σ1 r σ2 e2) ml_127 my_127 (by decide) (by decide) rfl (Nat.le_of_ble_eq_true rfl) hG dL_law_1107 rfl ?_
  refine q_eqT (pc := 1110) (tgt := 1509) (by decide) hG dL_law_1110 ?_
  exact hK _ hI2
theorem q_case_is {X : Cx} {b0 L : Nat} {xs : Nat → Int32} {G : St → Nat → List (Nat × Value) → List Value → Prop} (hG : IsL X b0 L xs G) (N : Nat) {Inv : St → Prop} (x3 : Int32) (hb : ∀ c : Nat, c < 7 → inB (x3 + nI c) L = true) (σ : St) (hI : Inv σ) (hK : ∀ σ, Inv σ → G σ 1509 [(0, .ref b0), (1, .ref (X.2.1 + 0)), (2, .ref (X.2.1 + 114)), (3, .int x3)] []) (hs : Sim_is N Inv) : G σ 1115 [(0, .ref b0), (1, .ref (X.2.1 + 0)), (2, .ref (X.2.1 + 114)), (3, .int x3)] [] := by
  obtain ⟨r, σ1, σ2, e1, e2, hI2⟩ := hs σ hI (xs (x3 + 1).toNatClampNeg)
  refine q_aload_n (pc := 1115) 1 1 rfl rfl hG dL_law_1115 ?_
  refine q_aload_n (pc := 1116) 0 0 rfl rfl hG dL_law_1116 ?_
  refine q_iload_n (pc := 1117) 3 3 rfl rfl hG dL_law_1117 ?_
  refine q_iconst (pc := 1118) (v := 1) (by decide) hG dL_law_1118 ?_
  refine q_iadd (pc := 1119) hG dL_law_1119 ?_
  refine q_sld (pc := 1120) (hb 1 (by decide)) hG dL_law_1120 ?_
  refine q_Goi (pc := 1121) (As := [.int (xs (x3 + 1).toNatClampNeg)]) rfl (c_Go_is X N (xs (x3 + 1).toNatClampNeg) σ r σ1 e1) ml_128 my_128 (by decide) (by decide) rfl (Nat.le_of_ble_eq_true rfl) hG dL_law_1121 rfl ?_
  refine q_aload_n (pc := 1124) 2 2 rfl rfl hG dL_law_1124 ?_
  refine q_aload_n (pc := 1125) 0 0 rfl rfl hG dL_law_1125 ?_
  refine q_iload_n (pc := 1126) 3 3 rfl rfl hG dL_law_1126 ?_
  refine q_iconst (pc := 1127) (v := 1) (by decide) hG dL_law_1127 ?_
  refine q_iadd (pc := 1128) hG dL_law_1128 ?_
  refine q_sld (pc := 1129) (hb 1 (by decide)) hG dL_law_1129 ?_
  refine q_Moi (pc := 1130) (As := [.int (xs (x3 + 1).toNatClampNeg)]) rfl (c_Mo_is X N (xs (x3 + 1).toNatClampNeg) σ1 r σ2 e2) ml_131 my_131 (by decide) (by decide) rfl (Nat.le_of_ble_eq_true rfl) hG dL_law_1130 rfl ?_
  refine q_eqT (pc := 1133) (tgt := 1509) (by decide) hG dL_law_1133 ?_
  exact hK _ hI2
theorem q_case_look {X : Cx} {b0 L : Nat} {xs : Nat → Int32} {G : St → Nat → List (Nat × Value) → List Value → Prop} (hG : IsL X b0 L xs G) (N : Nat) {Inv : St → Prop} (x3 : Int32) (hb : ∀ c : Nat, c < 7 → inB (x3 + nI c) L = true) (σ : St) (hI : Inv σ) (hK : ∀ σ, Inv σ → G σ 1509 [(0, .ref b0), (1, .ref (X.2.1 + 0)), (2, .ref (X.2.1 + 114)), (3, .int x3)] []) (hs : Sim_look N Inv) : G σ 1138 [(0, .ref b0), (1, .ref (X.2.1 + 0)), (2, .ref (X.2.1 + 114)), (3, .int x3)] [] := by
  obtain ⟨r, σ1, σ2, e1, e2, hI2⟩ := hs σ hI (xs (x3 + 1).toNatClampNeg)
  refine q_aload_n (pc := 1138) 1 1 rfl rfl hG dL_law_1138 ?_
  refine q_aload_n (pc := 1139) 0 0 rfl rfl hG dL_law_1139 ?_
  refine q_iload_n (pc := 1140) 3 3 rfl rfl hG dL_law_1140 ?_
  refine q_iconst (pc := 1141) (v := 1) (by decide) hG dL_law_1141 ?_
  refine q_iadd (pc := 1142) hG dL_law_1142 ?_
  refine q_sld (pc := 1143) (hb 1 (by decide)) hG dL_law_1143 ?_
  refine q_Goi (pc := 1144) (As := [.int (xs (x3 + 1).toNatClampNeg)]) rfl (c_Go_look X N (xs (x3 + 1).toNatClampNeg) σ r σ1 e1) ml_132 my_132 (by decide) (by decide) rfl (Nat.le_of_ble_eq_true rfl) hG dL_law_1144 rfl ?_
  refine q_aload_n (pc := 1147) 2 2 rfl rfl hG dL_law_1147 ?_
  refine q_aload_n (pc := 1148) 0 0 rfl rfl hG dL_law_1148 ?_
  refine q_iload_n (pc := 1149) 3 3 rfl rfl hG dL_law_1149 ?_
  refine q_iconst (pc := 1150) (v := 1) (by decide) hG dL_law_1150 ?_
  refine q_iadd (pc := 1151) hG dL_law_1151 ?_
  refine q_sld (pc := 1152) (hb 1 (by decide)) hG dL_law_1152 ?_
  refine q_Moi (pc := 1153) (As := [.int (xs (x3 + 1).toNatClampNeg)]) rfl (c_Mo_look X N (xs (x3 + 1).toNatClampNeg) σ1 r σ2 e2) ml_135 my_135 (by decide) (by decide) rfl (Nat.le_of_ble_eq_true rfl) hG dL_law_1153 rfl ?_
  refine q_eqT (pc := 1156) (tgt := 1509) (by decide) hG dL_law_1156 ?_
  exact hK _ hI2
theorem q_case_kinds {X : Cx} {b0 L : Nat} {xs : Nat → Int32} {G : St → Nat → List (Nat × Value) → List Value → Prop} (hG : IsL X b0 L xs G) (N : Nat) {Inv : St → Prop} (x3 : Int32) (hb : ∀ c : Nat, c < 7 → inB (x3 + nI c) L = true) (σ : St) (hI : Inv σ) (hK : ∀ σ, Inv σ → G σ 1509 [(0, .ref b0), (1, .ref (X.2.1 + 0)), (2, .ref (X.2.1 + 114)), (3, .int x3)] []) (hs : Sim_kinds N Inv) : G σ 1161 [(0, .ref b0), (1, .ref (X.2.1 + 0)), (2, .ref (X.2.1 + 114)), (3, .int x3)] [] := by
  obtain ⟨r, σ1, σ2, e1, e2, hI2⟩ := hs σ hI (xs (x3 + 1).toNatClampNeg)
  refine q_aload_n (pc := 1161) 1 1 rfl rfl hG dL_law_1161 ?_
  refine q_aload_n (pc := 1162) 0 0 rfl rfl hG dL_law_1162 ?_
  refine q_iload_n (pc := 1163) 3 3 rfl rfl hG dL_law_1163 ?_
  refine q_iconst (pc := 1164) (v := 1) (by decide) hG dL_law_1164 ?_
  refine q_iadd (pc := 1165) hG dL_law_1165 ?_
  refine q_sld (pc := 1166) (hb 1 (by decide)) hG dL_law_1166 ?_
  refine q_Goi (pc := 1167) (As := [.int (xs (x3 + 1).toNatClampNeg)]) rfl (c_Go_kinds X N (xs (x3 + 1).toNatClampNeg) σ r σ1 e1) ml_136 my_136 (by decide) (by decide) rfl (Nat.le_of_ble_eq_true rfl) hG dL_law_1167 rfl ?_
  refine q_aload_n (pc := 1170) 2 2 rfl rfl hG dL_law_1170 ?_
  refine q_aload_n (pc := 1171) 0 0 rfl rfl hG dL_law_1171 ?_
  refine q_iload_n (pc := 1172) 3 3 rfl rfl hG dL_law_1172 ?_
  refine q_iconst (pc := 1173) (v := 1) (by decide) hG dL_law_1173 ?_
  refine q_iadd (pc := 1174) hG dL_law_1174 ?_
  refine q_sld (pc := 1175) (hb 1 (by decide)) hG dL_law_1175 ?_
  refine q_Moi (pc := 1176) (As := [.int (xs (x3 + 1).toNatClampNeg)]) rfl (c_Mo_kinds X N (xs (x3 + 1).toNatClampNeg) σ1 r σ2 e2) ml_139 my_139 (by decide) (by decide) rfl (Nat.le_of_ble_eq_true rfl) hG dL_law_1176 rfl ?_
  refine q_eqT (pc := 1179) (tgt := 1509) (by decide) hG dL_law_1179 ?_
  exact hK _ hI2
theorem q_case_ask {X : Cx} {b0 L : Nat} {xs : Nat → Int32} {G : St → Nat → List (Nat × Value) → List Value → Prop} (hG : IsL X b0 L xs G) (N : Nat) {Inv : St → Prop} (x3 : Int32) (hb : ∀ c : Nat, c < 7 → inB (x3 + nI c) L = true) (σ : St) (hI : Inv σ) (hK : ∀ σ, Inv σ → G σ 1509 [(0, .ref b0), (1, .ref (X.2.1 + 0)), (2, .ref (X.2.1 + 114)), (3, .int x3)] []) (hs : Sim_ask N Inv) : G σ 1184 [(0, .ref b0), (1, .ref (X.2.1 + 0)), (2, .ref (X.2.1 + 114)), (3, .int x3)] [] := by
  obtain ⟨r, σ1, σ2, e1, e2, hI2⟩ := hs σ hI (xs (x3 + 1).toNatClampNeg)
  refine q_aload_n (pc := 1184) 1 1 rfl rfl hG dL_law_1184 ?_
  refine q_aload_n (pc := 1185) 0 0 rfl rfl hG dL_law_1185 ?_
  refine q_iload_n (pc := 1186) 3 3 rfl rfl hG dL_law_1186 ?_
  refine q_iconst (pc := 1187) (v := 1) (by decide) hG dL_law_1187 ?_
  refine q_iadd (pc := 1188) hG dL_law_1188 ?_
  refine q_sld (pc := 1189) (hb 1 (by decide)) hG dL_law_1189 ?_
  refine q_Goi (pc := 1190) (As := [.int (xs (x3 + 1).toNatClampNeg)]) rfl (c_Go_ask X N (xs (x3 + 1).toNatClampNeg) σ r σ1 e1) ml_140 my_140 (by decide) (by decide) rfl (Nat.le_of_ble_eq_true rfl) hG dL_law_1190 rfl ?_
  refine q_aload_n (pc := 1193) 2 2 rfl rfl hG dL_law_1193 ?_
  refine q_aload_n (pc := 1194) 0 0 rfl rfl hG dL_law_1194 ?_
  refine q_iload_n (pc := 1195) 3 3 rfl rfl hG dL_law_1195 ?_
  refine q_iconst (pc := 1196) (v := 1) (by decide) hG dL_law_1196 ?_
  refine q_iadd (pc := 1197) hG dL_law_1197 ?_
  refine q_sld (pc := 1198) (hb 1 (by decide)) hG dL_law_1198 ?_
  refine q_Moi (pc := 1199) (As := [.int (xs (x3 + 1).toNatClampNeg)]) rfl (c_Mo_ask X N (xs (x3 + 1).toNatClampNeg) σ1 r σ2 e2) ml_143 my_143 (by decide) (by decide) rfl (Nat.le_of_ble_eq_true rfl) hG dL_law_1199 rfl ?_
  refine q_eqT (pc := 1202) (tgt := 1509) (by decide) hG dL_law_1202 ?_
  exact hK _ hI2
theorem q_case_lamp {X : Cx} {b0 L : Nat} {xs : Nat → Int32} {G : St → Nat → List (Nat × Value) → List Value → Prop} (hG : IsL X b0 L xs G) (N : Nat) {Inv : St → Prop} (x3 : Int32) (hb : ∀ c : Nat, c < 7 → inB (x3 + nI c) L = true) (σ : St) (hI : Inv σ) (hK : ∀ σ, Inv σ → G σ 1509 [(0, .ref b0), (1, .ref (X.2.1 + 0)), (2, .ref (X.2.1 + 114)), (3, .int x3)] []) (hs : Sim_lamp N Inv) : G σ 1207 [(0, .ref b0), (1, .ref (X.2.1 + 0)), (2, .ref (X.2.1 + 114)), (3, .int x3)] [] := by
  obtain ⟨r, σ1, σ2, e1, e2, hI2⟩ := hs σ hI (xs (x3 + 1).toNatClampNeg) (xs (x3 + 2).toNatClampNeg) (xs (x3 + 3).toNatClampNeg)
  refine q_aload_n (pc := 1207) 1 1 rfl rfl hG dL_law_1207 ?_
  refine q_aload_n (pc := 1208) 0 0 rfl rfl hG dL_law_1208 ?_
  refine q_iload_n (pc := 1209) 3 3 rfl rfl hG dL_law_1209 ?_
  refine q_iconst (pc := 1210) (v := 1) (by decide) hG dL_law_1210 ?_
  refine q_iadd (pc := 1211) hG dL_law_1211 ?_
  refine q_sld (pc := 1212) (hb 1 (by decide)) hG dL_law_1212 ?_
  refine q_aload_n (pc := 1213) 0 0 rfl rfl hG dL_law_1213 ?_
  refine q_iload_n (pc := 1214) 3 3 rfl rfl hG dL_law_1214 ?_
  refine q_iconst (pc := 1215) (v := 2) (by decide) hG dL_law_1215 ?_
  refine q_iadd (pc := 1216) hG dL_law_1216 ?_
  refine q_sld (pc := 1217) (hb 2 (by decide)) hG dL_law_1217 ?_
  refine q_aload_n (pc := 1218) 0 0 rfl rfl hG dL_law_1218 ?_
  refine q_iload_n (pc := 1219) 3 3 rfl rfl hG dL_law_1219 ?_
  refine q_iconst (pc := 1220) (v := 3) (by decide) hG dL_law_1220 ?_
  refine q_iadd (pc := 1221) hG dL_law_1221 ?_
  refine q_sld (pc := 1222) (hb 3 (by decide)) hG dL_law_1222 ?_
  refine q_Goi (pc := 1223) (As := [.int (xs (x3 + 1).toNatClampNeg), .int (xs (x3 + 2).toNatClampNeg), .int (xs (x3 + 3).toNatClampNeg)]) rfl (c_Go_lamp X N (xs (x3 + 1).toNatClampNeg) (xs (x3 + 2).toNatClampNeg) (xs (x3 + 3).toNatClampNeg) σ r σ1 e1) ml_144 my_144 (by decide) (by decide) rfl (Nat.le_of_ble_eq_true rfl) hG dL_law_1223 rfl ?_
  refine q_aload_n (pc := 1226) 2 2 rfl rfl hG dL_law_1226 ?_
  refine q_aload_n (pc := 1227) 0 0 rfl rfl hG dL_law_1227 ?_
  refine q_iload_n (pc := 1228) 3 3 rfl rfl hG dL_law_1228 ?_
  refine q_iconst (pc := 1229) (v := 1) (by decide) hG dL_law_1229 ?_
  refine q_iadd (pc := 1230) hG dL_law_1230 ?_
  refine q_sld (pc := 1231) (hb 1 (by decide)) hG dL_law_1231 ?_
  refine q_aload_n (pc := 1232) 0 0 rfl rfl hG dL_law_1232 ?_
  refine q_iload_n (pc := 1233) 3 3 rfl rfl hG dL_law_1233 ?_
  refine q_iconst (pc := 1234) (v := 2) (by decide) hG dL_law_1234 ?_
  refine q_iadd (pc := 1235) hG dL_law_1235 ?_
  refine q_sld (pc := 1236) (hb 2 (by decide)) hG dL_law_1236 ?_
  refine q_aload_n (pc := 1237) 0 0 rfl rfl hG dL_law_1237 ?_
  refine q_iload_n (pc := 1238) 3 3 rfl rfl hG dL_law_1238 ?_
  refine q_iconst (pc := 1239) (v := 3) (by decide) hG dL_law_1239 ?_
  refine q_iadd (pc := 1240) hG dL_law_1240 ?_
  refine q_sld (pc := 1241) (hb 3 (by decide)) hG dL_law_1241 ?_
  refine q_Moi (pc := 1242) (As := [.int (xs (x3 + 1).toNatClampNeg), .int (xs (x3 + 2).toNatClampNeg), .int (xs (x3 + 3).toNatClampNeg)]) rfl (c_Mo_lamp X N (xs (x3 + 1).toNatClampNeg) (xs (x3 + 2).toNatClampNeg) (xs (x3 + 3).toNatClampNeg) σ1 r σ2 e2) ml_147 my_147 (by decide) (by decide) rfl (Nat.le_of_ble_eq_true rfl) hG dL_law_1242 rfl ?_
  refine q_eqT (pc := 1245) (tgt := 1509) (by decide) hG dL_law_1245 ?_
  exact hK _ hI2
theorem q_case_odds {X : Cx} {b0 L : Nat} {xs : Nat → Int32} {G : St → Nat → List (Nat × Value) → List Value → Prop} (hG : IsL X b0 L xs G) (N : Nat) {Inv : St → Prop} (x3 : Int32) (hb : ∀ c : Nat, c < 7 → inB (x3 + nI c) L = true) (σ : St) (hI : Inv σ) (hK : ∀ σ, Inv σ → G σ 1509 [(0, .ref b0), (1, .ref (X.2.1 + 0)), (2, .ref (X.2.1 + 114)), (3, .int x3)] []) (hs : Sim_odds N Inv) : G σ 1250 [(0, .ref b0), (1, .ref (X.2.1 + 0)), (2, .ref (X.2.1 + 114)), (3, .int x3)] [] := by
  obtain ⟨r, σ1, σ2, e1, e2, hI2⟩ := hs σ hI (xs (x3 + 1).toNatClampNeg) (xs (x3 + 2).toNatClampNeg) (xs (x3 + 3).toNatClampNeg) (xs (x3 + 4).toNatClampNeg)
  refine q_aload_n (pc := 1250) 1 1 rfl rfl hG dL_law_1250 ?_
  refine q_aload_n (pc := 1251) 0 0 rfl rfl hG dL_law_1251 ?_
  refine q_iload_n (pc := 1252) 3 3 rfl rfl hG dL_law_1252 ?_
  refine q_iconst (pc := 1253) (v := 1) (by decide) hG dL_law_1253 ?_
  refine q_iadd (pc := 1254) hG dL_law_1254 ?_
  refine q_sld (pc := 1255) (hb 1 (by decide)) hG dL_law_1255 ?_
  refine q_aload_n (pc := 1256) 0 0 rfl rfl hG dL_law_1256 ?_
  refine q_iload_n (pc := 1257) 3 3 rfl rfl hG dL_law_1257 ?_
  refine q_iconst (pc := 1258) (v := 2) (by decide) hG dL_law_1258 ?_
  refine q_iadd (pc := 1259) hG dL_law_1259 ?_
  refine q_sld (pc := 1260) (hb 2 (by decide)) hG dL_law_1260 ?_
  refine q_aload_n (pc := 1261) 0 0 rfl rfl hG dL_law_1261 ?_
  refine q_iload_n (pc := 1262) 3 3 rfl rfl hG dL_law_1262 ?_
  refine q_iconst (pc := 1263) (v := 3) (by decide) hG dL_law_1263 ?_
  refine q_iadd (pc := 1264) hG dL_law_1264 ?_
  refine q_sld (pc := 1265) (hb 3 (by decide)) hG dL_law_1265 ?_
  refine q_aload_n (pc := 1266) 0 0 rfl rfl hG dL_law_1266 ?_
  refine q_iload_n (pc := 1267) 3 3 rfl rfl hG dL_law_1267 ?_
  refine q_iconst (pc := 1268) (v := 4) (by decide) hG dL_law_1268 ?_
  refine q_iadd (pc := 1269) hG dL_law_1269 ?_
  refine q_sld (pc := 1270) (hb 4 (by decide)) hG dL_law_1270 ?_
  refine q_Goi (pc := 1271) (As := [.int (xs (x3 + 1).toNatClampNeg), .int (xs (x3 + 2).toNatClampNeg), .int (xs (x3 + 3).toNatClampNeg), .int (xs (x3 + 4).toNatClampNeg)]) rfl (c_Go_odds X N (xs (x3 + 1).toNatClampNeg) (xs (x3 + 2).toNatClampNeg) (xs (x3 + 3).toNatClampNeg) (xs (x3 + 4).toNatClampNeg) σ r σ1 e1) ml_148 my_148 (by decide) (by decide) rfl (Nat.le_of_ble_eq_true rfl) hG dL_law_1271 rfl ?_
  refine q_aload_n (pc := 1274) 2 2 rfl rfl hG dL_law_1274 ?_
  refine q_aload_n (pc := 1275) 0 0 rfl rfl hG dL_law_1275 ?_
  refine q_iload_n (pc := 1276) 3 3 rfl rfl hG dL_law_1276 ?_
  refine q_iconst (pc := 1277) (v := 1) (by decide) hG dL_law_1277 ?_
  refine q_iadd (pc := 1278) hG dL_law_1278 ?_
  refine q_sld (pc := 1279) (hb 1 (by decide)) hG dL_law_1279 ?_
  refine q_aload_n (pc := 1280) 0 0 rfl rfl hG dL_law_1280 ?_
  refine q_iload_n (pc := 1281) 3 3 rfl rfl hG dL_law_1281 ?_
  refine q_iconst (pc := 1282) (v := 2) (by decide) hG dL_law_1282 ?_
  refine q_iadd (pc := 1283) hG dL_law_1283 ?_
  refine q_sld (pc := 1284) (hb 2 (by decide)) hG dL_law_1284 ?_
  refine q_aload_n (pc := 1285) 0 0 rfl rfl hG dL_law_1285 ?_
  refine q_iload_n (pc := 1286) 3 3 rfl rfl hG dL_law_1286 ?_
  refine q_iconst (pc := 1287) (v := 3) (by decide) hG dL_law_1287 ?_
  refine q_iadd (pc := 1288) hG dL_law_1288 ?_
  refine q_sld (pc := 1289) (hb 3 (by decide)) hG dL_law_1289 ?_
  refine q_aload_n (pc := 1290) 0 0 rfl rfl hG dL_law_1290 ?_
  refine q_iload_n (pc := 1291) 3 3 rfl rfl hG dL_law_1291 ?_
  refine q_iconst (pc := 1292) (v := 4) (by decide) hG dL_law_1292 ?_
  refine q_iadd (pc := 1293) hG dL_law_1293 ?_
  refine q_sld (pc := 1294) (hb 4 (by decide)) hG dL_law_1294 ?_
  refine q_Moi (pc := 1295) (As := [.int (xs (x3 + 1).toNatClampNeg), .int (xs (x3 + 2).toNatClampNeg), .int (xs (x3 + 3).toNatClampNeg), .int (xs (x3 + 4).toNatClampNeg)]) rfl (c_Mo_odds X N (xs (x3 + 1).toNatClampNeg) (xs (x3 + 2).toNatClampNeg) (xs (x3 + 3).toNatClampNeg) (xs (x3 + 4).toNatClampNeg) σ1 r σ2 e2) ml_151 my_151 (by decide) (by decide) rfl (Nat.le_of_ble_eq_true rfl) hG dL_law_1295 rfl ?_
  refine q_eqT (pc := 1298) (tgt := 1509) (by decide) hG dL_law_1298 ?_
  exact hK _ hI2
theorem q_case_mean {X : Cx} {b0 L : Nat} {xs : Nat → Int32} {G : St → Nat → List (Nat × Value) → List Value → Prop} (hG : IsL X b0 L xs G) (N : Nat) {Inv : St → Prop} (x3 : Int32) (hb : ∀ c : Nat, c < 7 → inB (x3 + nI c) L = true) (σ : St) (hI : Inv σ) (hK : ∀ σ, Inv σ → G σ 1509 [(0, .ref b0), (1, .ref (X.2.1 + 0)), (2, .ref (X.2.1 + 114)), (3, .int x3)] []) (hs : Sim_mean N Inv) : G σ 1303 [(0, .ref b0), (1, .ref (X.2.1 + 0)), (2, .ref (X.2.1 + 114)), (3, .int x3)] [] := by
  obtain ⟨r, σ1, σ2, e1, e2, hI2⟩ := hs σ hI (xs (x3 + 1).toNatClampNeg) (xs (x3 + 2).toNatClampNeg) (xs (x3 + 3).toNatClampNeg)
  refine q_aload_n (pc := 1303) 1 1 rfl rfl hG dL_law_1303 ?_
  refine q_aload_n (pc := 1304) 0 0 rfl rfl hG dL_law_1304 ?_
  refine q_iload_n (pc := 1305) 3 3 rfl rfl hG dL_law_1305 ?_
  refine q_iconst (pc := 1306) (v := 1) (by decide) hG dL_law_1306 ?_
  refine q_iadd (pc := 1307) hG dL_law_1307 ?_
  refine q_sld (pc := 1308) (hb 1 (by decide)) hG dL_law_1308 ?_
  refine q_aload_n (pc := 1309) 0 0 rfl rfl hG dL_law_1309 ?_
  refine q_iload_n (pc := 1310) 3 3 rfl rfl hG dL_law_1310 ?_
  refine q_iconst (pc := 1311) (v := 2) (by decide) hG dL_law_1311 ?_
  refine q_iadd (pc := 1312) hG dL_law_1312 ?_
  refine q_sld (pc := 1313) (hb 2 (by decide)) hG dL_law_1313 ?_
  refine q_aload_n (pc := 1314) 0 0 rfl rfl hG dL_law_1314 ?_
  refine q_iload_n (pc := 1315) 3 3 rfl rfl hG dL_law_1315 ?_
  refine q_iconst (pc := 1316) (v := 3) (by decide) hG dL_law_1316 ?_
  refine q_iadd (pc := 1317) hG dL_law_1317 ?_
  refine q_sld (pc := 1318) (hb 3 (by decide)) hG dL_law_1318 ?_
  refine q_Goi (pc := 1319) (As := [.int (xs (x3 + 1).toNatClampNeg), .int (xs (x3 + 2).toNatClampNeg), .int (xs (x3 + 3).toNatClampNeg)]) rfl (c_Go_mean X N (xs (x3 + 1).toNatClampNeg) (xs (x3 + 2).toNatClampNeg) (xs (x3 + 3).toNatClampNeg) σ r σ1 e1) ml_152 my_152 (by decide) (by decide) rfl (Nat.le_of_ble_eq_true rfl) hG dL_law_1319 rfl ?_
  refine q_aload_n (pc := 1322) 2 2 rfl rfl hG dL_law_1322 ?_
  refine q_aload_n (pc := 1323) 0 0 rfl rfl hG dL_law_1323 ?_
  refine q_iload_n (pc := 1324) 3 3 rfl rfl hG dL_law_1324 ?_
  refine q_iconst (pc := 1325) (v := 1) (by decide) hG dL_law_1325 ?_
  refine q_iadd (pc := 1326) hG dL_law_1326 ?_
  refine q_sld (pc := 1327) (hb 1 (by decide)) hG dL_law_1327 ?_
  refine q_aload_n (pc := 1328) 0 0 rfl rfl hG dL_law_1328 ?_
  refine q_iload_n (pc := 1329) 3 3 rfl rfl hG dL_law_1329 ?_
  refine q_iconst (pc := 1330) (v := 2) (by decide) hG dL_law_1330 ?_
  refine q_iadd (pc := 1331) hG dL_law_1331 ?_
  refine q_sld (pc := 1332) (hb 2 (by decide)) hG dL_law_1332 ?_
  refine q_aload_n (pc := 1333) 0 0 rfl rfl hG dL_law_1333 ?_
  refine q_iload_n (pc := 1334) 3 3 rfl rfl hG dL_law_1334 ?_
  refine q_iconst (pc := 1335) (v := 3) (by decide) hG dL_law_1335 ?_
  refine q_iadd (pc := 1336) hG dL_law_1336 ?_
  refine q_sld (pc := 1337) (hb 3 (by decide)) hG dL_law_1337 ?_
  refine q_Moi (pc := 1338) (As := [.int (xs (x3 + 1).toNatClampNeg), .int (xs (x3 + 2).toNatClampNeg), .int (xs (x3 + 3).toNatClampNeg)]) rfl (c_Mo_mean X N (xs (x3 + 1).toNatClampNeg) (xs (x3 + 2).toNatClampNeg) (xs (x3 + 3).toNatClampNeg) σ1 r σ2 e2) ml_155 my_155 (by decide) (by decide) rfl (Nat.le_of_ble_eq_true rfl) hG dL_law_1338 rfl ?_
  refine q_eqT (pc := 1341) (tgt := 1509) (by decide) hG dL_law_1341 ?_
  exact hK _ hI2
theorem q_case_nights {X : Cx} {b0 L : Nat} {xs : Nat → Int32} {G : St → Nat → List (Nat × Value) → List Value → Prop} (hG : IsL X b0 L xs G) (N : Nat) {Inv : St → Prop} (x3 : Int32) (hb : ∀ c : Nat, c < 7 → inB (x3 + nI c) L = true) (σ : St) (hI : Inv σ) (hK : ∀ σ, Inv σ → G σ 1509 [(0, .ref b0), (1, .ref (X.2.1 + 0)), (2, .ref (X.2.1 + 114)), (3, .int x3)] []) (hs : Sim_nights N Inv) : G σ 1346 [(0, .ref b0), (1, .ref (X.2.1 + 0)), (2, .ref (X.2.1 + 114)), (3, .int x3)] [] := by
  obtain ⟨r, σ1, σ2, e1, e2, hI2⟩ := hs σ hI (xs (x3 + 1).toNatClampNeg) (xs (x3 + 2).toNatClampNeg)
  refine q_aload_n (pc := 1346) 1 1 rfl rfl hG dL_law_1346 ?_
  refine q_aload_n (pc := 1347) 0 0 rfl rfl hG dL_law_1347 ?_
  refine q_iload_n (pc := 1348) 3 3 rfl rfl hG dL_law_1348 ?_
  refine q_iconst (pc := 1349) (v := 1) (by decide) hG dL_law_1349 ?_
  refine q_iadd (pc := 1350) hG dL_law_1350 ?_
  refine q_sld (pc := 1351) (hb 1 (by decide)) hG dL_law_1351 ?_
  refine q_aload_n (pc := 1352) 0 0 rfl rfl hG dL_law_1352 ?_
  refine q_iload_n (pc := 1353) 3 3 rfl rfl hG dL_law_1353 ?_
  refine q_iconst (pc := 1354) (v := 2) (by decide) hG dL_law_1354 ?_
  refine q_iadd (pc := 1355) hG dL_law_1355 ?_
  refine q_sld (pc := 1356) (hb 2 (by decide)) hG dL_law_1356 ?_
  refine q_Goi (pc := 1357) (As := [.int (xs (x3 + 1).toNatClampNeg), .int (xs (x3 + 2).toNatClampNeg)]) rfl (c_Go_nights X N (xs (x3 + 1).toNatClampNeg) (xs (x3 + 2).toNatClampNeg) σ r σ1 e1) ml_156 my_156 (by decide) (by decide) rfl (Nat.le_of_ble_eq_true rfl) hG dL_law_1357 rfl ?_
  refine q_aload_n (pc := 1360) 2 2 rfl rfl hG dL_law_1360 ?_
  refine q_aload_n (pc := 1361) 0 0 rfl rfl hG dL_law_1361 ?_
  refine q_iload_n (pc := 1362) 3 3 rfl rfl hG dL_law_1362 ?_
  refine q_iconst (pc := 1363) (v := 1) (by decide) hG dL_law_1363 ?_
  refine q_iadd (pc := 1364) hG dL_law_1364 ?_
  refine q_sld (pc := 1365) (hb 1 (by decide)) hG dL_law_1365 ?_
  refine q_aload_n (pc := 1366) 0 0 rfl rfl hG dL_law_1366 ?_
  refine q_iload_n (pc := 1367) 3 3 rfl rfl hG dL_law_1367 ?_
  refine q_iconst (pc := 1368) (v := 2) (by decide) hG dL_law_1368 ?_
  refine q_iadd (pc := 1369) hG dL_law_1369 ?_
  refine q_sld (pc := 1370) (hb 2 (by decide)) hG dL_law_1370 ?_
  refine q_Moi (pc := 1371) (As := [.int (xs (x3 + 1).toNatClampNeg), .int (xs (x3 + 2).toNatClampNeg)]) rfl (c_Mo_nights X N (xs (x3 + 1).toNatClampNeg) (xs (x3 + 2).toNatClampNeg) σ1 r σ2 e2) ml_159 my_159 (by decide) (by decide) rfl (Nat.le_of_ble_eq_true rfl) hG dL_law_1371 rfl ?_
  refine q_eqT (pc := 1374) (tgt := 1509) (by decide) hG dL_law_1374 ?_
  exact hK _ hI2
theorem q_case_part {X : Cx} {b0 L : Nat} {xs : Nat → Int32} {G : St → Nat → List (Nat × Value) → List Value → Prop} (hG : IsL X b0 L xs G) (N : Nat) {Inv : St → Prop} (x3 : Int32) (hb : ∀ c : Nat, c < 7 → inB (x3 + nI c) L = true) (σ : St) (hI : Inv σ) (hK : ∀ σ, Inv σ → G σ 1509 [(0, .ref b0), (1, .ref (X.2.1 + 0)), (2, .ref (X.2.1 + 114)), (3, .int x3)] []) (hs : Sim_part N Inv) : G σ 1379 [(0, .ref b0), (1, .ref (X.2.1 + 0)), (2, .ref (X.2.1 + 114)), (3, .int x3)] [] := by
  obtain ⟨r, σ1, σ2, e1, e2, hI2⟩ := hs σ hI (xs (x3 + 1).toNatClampNeg)
  refine q_aload_n (pc := 1379) 1 1 rfl rfl hG dL_law_1379 ?_
  refine q_aload_n (pc := 1380) 0 0 rfl rfl hG dL_law_1380 ?_
  refine q_iload_n (pc := 1381) 3 3 rfl rfl hG dL_law_1381 ?_
  refine q_iconst (pc := 1382) (v := 1) (by decide) hG dL_law_1382 ?_
  refine q_iadd (pc := 1383) hG dL_law_1383 ?_
  refine q_sld (pc := 1384) (hb 1 (by decide)) hG dL_law_1384 ?_
  refine q_Gol (pc := 1385) (As := [.int (xs (x3 + 1).toNatClampNeg)]) rfl (c_Go_part X N (xs (x3 + 1).toNatClampNeg) σ r σ1 e1) ml_160 my_160 (by decide) (by decide) rfl (Nat.le_of_ble_eq_true rfl) hG dL_law_1385 rfl ?_
  refine q_aload_n (pc := 1388) 2 2 rfl rfl hG dL_law_1388 ?_
  refine q_aload_n (pc := 1389) 0 0 rfl rfl hG dL_law_1389 ?_
  refine q_iload_n (pc := 1390) 3 3 rfl rfl hG dL_law_1390 ?_
  refine q_iconst (pc := 1391) (v := 1) (by decide) hG dL_law_1391 ?_
  refine q_iadd (pc := 1392) hG dL_law_1392 ?_
  refine q_sld (pc := 1393) (hb 1 (by decide)) hG dL_law_1393 ?_
  refine q_Mol (pc := 1394) (As := [.int (xs (x3 + 1).toNatClampNeg)]) rfl (c_Mo_part X N (xs (x3 + 1).toNatClampNeg) σ1 r σ2 e2) ml_164 my_164 (by decide) (by decide) rfl (Nat.le_of_ble_eq_true rfl) hG dL_law_1394 rfl ?_
  refine q_lcmp (pc := 1397) hG dL_law_1397 ?_
  refine q_zT (pc := 1398) (tgt := 1509) (by simp [lg_cmp]) (by decide) hG dL_law_1398 ?_
  exact hK _ hI2
theorem q_case_image {X : Cx} {b0 L : Nat} {xs : Nat → Int32} {G : St → Nat → List (Nat × Value) → List Value → Prop} (hG : IsL X b0 L xs G) (N : Nat) {Inv : St → Prop} (x3 : Int32) (hb : ∀ c : Nat, c < 7 → inB (x3 + nI c) L = true) (σ : St) (hI : Inv σ) (hK : ∀ σ, Inv σ → G σ 1509 [(0, .ref b0), (1, .ref (X.2.1 + 0)), (2, .ref (X.2.1 + 114)), (3, .int x3)] []) (hs : Sim_image N Inv) : G σ 1403 [(0, .ref b0), (1, .ref (X.2.1 + 0)), (2, .ref (X.2.1 + 114)), (3, .int x3)] [] := by
  obtain ⟨r, σ1, σ2, e1, e2, hI2⟩ := hs σ hI (xs (x3 + 1).toNatClampNeg)
  refine q_aload_n (pc := 1403) 1 1 rfl rfl hG dL_law_1403 ?_
  refine q_aload_n (pc := 1404) 0 0 rfl rfl hG dL_law_1404 ?_
  refine q_iload_n (pc := 1405) 3 3 rfl rfl hG dL_law_1405 ?_
  refine q_iconst (pc := 1406) (v := 1) (by decide) hG dL_law_1406 ?_
  refine q_iadd (pc := 1407) hG dL_law_1407 ?_
  refine q_sld (pc := 1408) (hb 1 (by decide)) hG dL_law_1408 ?_
  refine q_Goi (pc := 1409) (As := [.int (xs (x3 + 1).toNatClampNeg)]) rfl (c_Go_image X N (xs (x3 + 1).toNatClampNeg) σ r σ1 e1) ml_165 my_165 (by decide) (by decide) rfl (Nat.le_of_ble_eq_true rfl) hG dL_law_1409 rfl ?_
  refine q_aload_n (pc := 1412) 2 2 rfl rfl hG dL_law_1412 ?_
  refine q_aload_n (pc := 1413) 0 0 rfl rfl hG dL_law_1413 ?_
  refine q_iload_n (pc := 1414) 3 3 rfl rfl hG dL_law_1414 ?_
  refine q_iconst (pc := 1415) (v := 1) (by decide) hG dL_law_1415 ?_
  refine q_iadd (pc := 1416) hG dL_law_1416 ?_
  refine q_sld (pc := 1417) (hb 1 (by decide)) hG dL_law_1417 ?_
  refine q_Moi (pc := 1418) (As := [.int (xs (x3 + 1).toNatClampNeg)]) rfl (c_Mo_image X N (xs (x3 + 1).toNatClampNeg) σ1 r σ2 e2) ml_168 my_168 (by decide) (by decide) rfl (Nat.le_of_ble_eq_true rfl) hG dL_law_1418 rfl ?_
  refine q_eqT (pc := 1421) (tgt := 1509) (by decide) hG dL_law_1421 ?_
  exact hK _ hI2
theorem q_case_from {X : Cx} {b0 L : Nat} {xs : Nat → Int32} {G : St → Nat → List (Nat × Value) → List Value → Prop} (hG : IsL X b0 L xs G) (N : Nat) {Inv : St → Prop} (x3 : Int32) (hb : ∀ c : Nat, c < 7 → inB (x3 + nI c) L = true) (σ : St) (hI : Inv σ) (hK : ∀ σ, Inv σ → G σ 1509 [(0, .ref b0), (1, .ref (X.2.1 + 0)), (2, .ref (X.2.1 + 114)), (3, .int x3)] []) (hs : Sim_from N Inv) : G σ 1426 [(0, .ref b0), (1, .ref (X.2.1 + 0)), (2, .ref (X.2.1 + 114)), (3, .int x3)] [] := by
  obtain ⟨r, σ1, σ2, e1, e2, hI2⟩ := hs σ hI (xs (x3 + 1).toNatClampNeg)
  refine q_aload_n (pc := 1426) 1 1 rfl rfl hG dL_law_1426 ?_
  refine q_aload_n (pc := 1427) 0 0 rfl rfl hG dL_law_1427 ?_
  refine q_iload_n (pc := 1428) 3 3 rfl rfl hG dL_law_1428 ?_
  refine q_iconst (pc := 1429) (v := 1) (by decide) hG dL_law_1429 ?_
  refine q_iadd (pc := 1430) hG dL_law_1430 ?_
  refine q_sld (pc := 1431) (hb 1 (by decide)) hG dL_law_1431 ?_
  refine q_Goi (pc := 1432) (As := [.int (xs (x3 + 1).toNatClampNeg)]) rfl (c_Go_from X N (xs (x3 + 1).toNatClampNeg) σ r σ1 e1) ml_169 my_169 (by decide) (by decide) rfl (Nat.le_of_ble_eq_true rfl) hG dL_law_1432 rfl ?_
  refine q_aload_n (pc := 1435) 2 2 rfl rfl hG dL_law_1435 ?_
  refine q_aload_n (pc := 1436) 0 0 rfl rfl hG dL_law_1436 ?_
  refine q_iload_n (pc := 1437) 3 3 rfl rfl hG dL_law_1437 ?_
  refine q_iconst (pc := 1438) (v := 1) (by decide) hG dL_law_1438 ?_
  refine q_iadd (pc := 1439) hG dL_law_1439 ?_
  refine q_sld (pc := 1440) (hb 1 (by decide)) hG dL_law_1440 ?_
  refine q_Moi (pc := 1441) (As := [.int (xs (x3 + 1).toNatClampNeg)]) rfl (c_Mo_from X N (xs (x3 + 1).toNatClampNeg) σ1 r σ2 e2) ml_172 my_172 (by decide) (by decide) rfl (Nat.le_of_ble_eq_true rfl) hG dL_law_1441 rfl ?_
  refine q_eqT (pc := 1444) (tgt := 1509) (by decide) hG dL_law_1444 ?_
  exact hK _ hI2
theorem q_case_status {X : Cx} {b0 L : Nat} {xs : Nat → Int32} {G : St → Nat → List (Nat × Value) → List Value → Prop} (hG : IsL X b0 L xs G) (N : Nat) {Inv : St → Prop} (x3 : Int32) (hb : ∀ c : Nat, c < 7 → inB (x3 + nI c) L = true) (σ : St) (hI : Inv σ) (hK : ∀ σ, Inv σ → G σ 1509 [(0, .ref b0), (1, .ref (X.2.1 + 0)), (2, .ref (X.2.1 + 114)), (3, .int x3)] []) (hs : Sim_status N Inv) : G σ 1449 [(0, .ref b0), (1, .ref (X.2.1 + 0)), (2, .ref (X.2.1 + 114)), (3, .int x3)] [] := by
  obtain ⟨r, σ1, σ2, e1, e2, hI2⟩ := hs σ hI (xs (x3 + 1).toNatClampNeg)
  refine q_aload_n (pc := 1449) 1 1 rfl rfl hG dL_law_1449 ?_
  refine q_aload_n (pc := 1450) 0 0 rfl rfl hG dL_law_1450 ?_
  refine q_iload_n (pc := 1451) 3 3 rfl rfl hG dL_law_1451 ?_
  refine q_iconst (pc := 1452) (v := 1) (by decide) hG dL_law_1452 ?_
  refine q_iadd (pc := 1453) hG dL_law_1453 ?_
  refine q_sld (pc := 1454) (hb 1 (by decide)) hG dL_law_1454 ?_
  refine q_Goi (pc := 1455) (As := [.int (xs (x3 + 1).toNatClampNeg)]) rfl (c_Go_status X N (xs (x3 + 1).toNatClampNeg) σ r σ1 e1) ml_173 my_173 (by decide) (by decide) rfl (Nat.le_of_ble_eq_true rfl) hG dL_law_1455 rfl ?_
  refine q_aload_n (pc := 1458) 2 2 rfl rfl hG dL_law_1458 ?_
  refine q_aload_n (pc := 1459) 0 0 rfl rfl hG dL_law_1459 ?_
  refine q_iload_n (pc := 1460) 3 3 rfl rfl hG dL_law_1460 ?_
  refine q_iconst (pc := 1461) (v := 1) (by decide) hG dL_law_1461 ?_
  refine q_iadd (pc := 1462) hG dL_law_1462 ?_
  refine q_sld (pc := 1463) (hb 1 (by decide)) hG dL_law_1463 ?_
  refine q_Moi (pc := 1464) (As := [.int (xs (x3 + 1).toNatClampNeg)]) rfl (c_Mo_status X N (xs (x3 + 1).toNatClampNeg) σ1 r σ2 e2) ml_176 my_176 (by decide) (by decide) rfl (Nat.le_of_ble_eq_true rfl) hG dL_law_1464 rfl ?_
  refine q_eqT (pc := 1467) (tgt := 1509) (by decide) hG dL_law_1467 ?_
  exact hK _ hI2
theorem q_case_count {X : Cx} {b0 L : Nat} {xs : Nat → Int32} {G : St → Nat → List (Nat × Value) → List Value → Prop} (hG : IsL X b0 L xs G) (N : Nat) {Inv : St → Prop} (x3 : Int32) (hb : ∀ c : Nat, c < 7 → inB (x3 + nI c) L = true) (σ : St) (hI : Inv σ) (hK : ∀ σ, Inv σ → G σ 1509 [(0, .ref b0), (1, .ref (X.2.1 + 0)), (2, .ref (X.2.1 + 114)), (3, .int x3)] []) (hs : Sim_count N Inv) : G σ 1472 [(0, .ref b0), (1, .ref (X.2.1 + 0)), (2, .ref (X.2.1 + 114)), (3, .int x3)] [] := by
  obtain ⟨r, σ1, σ2, e1, e2, hI2⟩ := hs σ hI (xs (x3 + 1).toNatClampNeg)
  refine q_aload_n (pc := 1472) 1 1 rfl rfl hG dL_law_1472 ?_
  refine q_aload_n (pc := 1473) 0 0 rfl rfl hG dL_law_1473 ?_
  refine q_iload_n (pc := 1474) 3 3 rfl rfl hG dL_law_1474 ?_
  refine q_iconst (pc := 1475) (v := 1) (by decide) hG dL_law_1475 ?_
  refine q_iadd (pc := 1476) hG dL_law_1476 ?_
  refine q_sld (pc := 1477) (hb 1 (by decide)) hG dL_law_1477 ?_
  refine q_Goi (pc := 1478) (As := [.int (xs (x3 + 1).toNatClampNeg)]) rfl (c_Go_count X N (xs (x3 + 1).toNatClampNeg) σ r σ1 e1) ml_177 my_177 (by decide) (by decide) rfl (Nat.le_of_ble_eq_true rfl) hG dL_law_1478 rfl ?_
  refine q_aload_n (pc := 1481) 2 2 rfl rfl hG dL_law_1481 ?_
  refine q_aload_n (pc := 1482) 0 0 rfl rfl hG dL_law_1482 ?_
  refine q_iload_n (pc := 1483) 3 3 rfl rfl hG dL_law_1483 ?_
  refine q_iconst (pc := 1484) (v := 1) (by decide) hG dL_law_1484 ?_
  refine q_iadd (pc := 1485) hG dL_law_1485 ?_
  refine q_sld (pc := 1486) (hb 1 (by decide)) hG dL_law_1486 ?_
  refine q_Moi (pc := 1487) (As := [.int (xs (x3 + 1).toNatClampNeg)]) rfl (c_Mo_count X N (xs (x3 + 1).toNatClampNeg) σ1 r σ2 e2) ml_180 my_180 (by decide) (by decide) rfl (Nat.le_of_ble_eq_true rfl) hG dL_law_1487 rfl ?_
  refine q_eqT (pc := 1490) (tgt := 1509) (by decide) hG dL_law_1490 ?_
  exact hK _ hI2
theorem q_case_digest {X : Cx} {b0 L : Nat} {xs : Nat → Int32} {G : St → Nat → List (Nat × Value) → List Value → Prop} (hG : IsL X b0 L xs G) (N : Nat) {Inv : St → Prop} (x3 : Int32) (hb : ∀ c : Nat, c < 7 → inB (x3 + nI c) L = true) (σ : St) (hI : Inv σ) (hK : ∀ σ, Inv σ → G σ 1509 [(0, .ref b0), (1, .ref (X.2.1 + 0)), (2, .ref (X.2.1 + 114)), (3, .int x3)] []) (hs : Sim_digest N Inv) : G σ 1495 [(0, .ref b0), (1, .ref (X.2.1 + 0)), (2, .ref (X.2.1 + 114)), (3, .int x3)] [] := by
  obtain ⟨r, σ1, e1, e2, hI2⟩ := hs σ hI 
  refine q_aload_n (pc := 1495) 1 1 rfl rfl hG dL_law_1495 ?_
  refine q_Gol (pc := 1496) (As := []) rfl (c_Go_digest X N  σ r σ1 e1) ml_181 my_181 (by decide) (by decide) rfl (Nat.le_of_ble_eq_true rfl) hG dL_law_1496 rfl ?_
  refine q_aload_n (pc := 1499) 2 2 rfl rfl hG dL_law_1499 ?_
  refine q_Mol (pc := 1500) (As := []) rfl (c_Mo_digest X N  σ1 r e2) ml_185 my_185 (by decide) (by decide) rfl (Nat.le_of_ble_eq_true rfl) hG dL_law_1500 rfl ?_
  refine q_lcmp (pc := 1503) hG dL_law_1503 ?_
  refine q_zT (pc := 1504) (tgt := 1509) (by simp [lg_cmp]) (by decide) hG dL_law_1504 ?_
  exact hK _ hI2
theorem q_body {X : Cx} {b0 L : Nat} {xs : Nat → Int32} {G : St → Nat → List (Nat × Value) → List Value → Prop} (hG : IsL X b0 L xs G) (N : Nat) {Inv : St → Prop} (x3 : Int32) (hb : ∀ c : Nat, c < 7 → inB (x3 + nI c) L = true) (σ : St) (hI : Inv σ) (hK : ∀ σ, Inv σ → G σ 1509 [(0, .ref b0), (1, .ref (X.2.1 + 0)), (2, .ref (X.2.1 + 114)), (3, .int x3)] []) (hsim : Sim N Inv) : G σ 27 [(0, .ref b0), (1, .ref (X.2.1 + 0)), (2, .ref (X.2.1 + 114)), (3, .int x3)] [] := by
  obtain ⟨s_water, s_dark, s_canal, s_rower, s_guest, s_type, s_clear, s_read, s_rows, s_enters, s_undo, s_of, s_who, s_about, s_strokes, s_far, s_would, s_way, s_gentle, s_where, s_share, s_seen, s_tongues, s_tell, s_note, s_mark, s_forget, s_is, s_look, s_kinds, s_ask, s_lamp, s_odds, s_mean, s_nights, s_part, s_image, s_from, s_status, s_count, s_digest⟩ := hsim
  refine q_aload_n (pc := 27) 0 0 rfl rfl hG dL_law_27 ?_
  refine q_iload_n (pc := 28) 3 3 rfl rfl hG dL_law_28 ?_
  refine q_sld (pc := 29) (by have := hb 0 (by decide); rw [show x3 + nI 0 = x3 from by rw [nI_0]; exact Int32.add_zero x3] at this; exact this) hG dL_law_29 ?_
  refine q_bipush (pc := 30) (v := 63) (by decide) hG dL_law_30 ?_
  refine q_iand (pc := 32) hG dL_law_32 ?_
  obtain ⟨j, hj, ej⟩ := pk_andE (xs x3.toNatClampNeg) (m := 63) 6 (by decide)
  rw [ej]
  have hjt : (nI j).toInt = (j : Int) := nI_toInt (by omega)
  by_cases h41 : j < 41
  · match j, hj, h41, hjt with
    | 0, _, _, _ => exact q_tabIn (pc := 33) (tgt := 212) (off := 179) (by decide) (by decide) (by decide) (by decide) hG dL_law_33 (q_case_water hG N x3 hb σ hI hK s_water)
    | 1, _, _, _ => exact q_tabIn (pc := 33) (tgt := 235) (off := 202) (by decide) (by decide) (by decide) (by decide) hG dL_law_33 (q_case_dark hG N x3 hb σ hI hK s_dark)
    | 2, _, _, _ => exact q_tabIn (pc := 33) (tgt := 268) (off := 235) (by decide) (by decide) (by decide) (by decide) hG dL_law_33 (q_case_canal hG N x3 hb σ hI hK s_canal)
    | 3, _, _, _ => exact q_tabIn (pc := 33) (tgt := 311) (off := 278) (by decide) (by decide) (by decide) (by decide) hG dL_law_33 (q_case_rower hG N x3 hb σ hI hK s_rower)
    | 4, _, _, _ => exact q_tabIn (pc := 33) (tgt := 344) (off := 311) (by decide) (by decide) (by decide) (by decide) hG dL_law_33 (q_case_guest hG N x3 hb σ hI hK s_guest)
    | 5, _, _, _ => exact q_tabIn (pc := 33) (tgt := 377) (off := 344) (by decide) (by decide) (by decide) (by decide) hG dL_law_33 (q_case_type hG N x3 hb σ hI hK s_type)
    | 6, _, _, _ => exact q_tabIn (pc := 33) (tgt := 400) (off := 367) (by decide) (by decide) (by decide) (by decide) hG dL_law_33 (q_case_clear hG N x3 hb σ hI hK s_clear)
    | 7, _, _, _ => exact q_tabIn (pc := 33) (tgt := 413) (off := 380) (by decide) (by decide) (by decide) (by decide) hG dL_law_33 (q_case_read hG N x3 hb σ hI hK s_read)
    | 8, _, _, _ => exact q_tabIn (pc := 33) (tgt := 426) (off := 393) (by decide) (by decide) (by decide) (by decide) hG dL_law_33 (q_case_rows hG N x3 hb σ hI hK s_rows)
    | 9, _, _, _ => exact q_tabIn (pc := 33) (tgt := 469) (off := 436) (by decide) (by decide) (by decide) (by decide) hG dL_law_33 (q_case_enters hG N x3 hb σ hI hK s_enters)
    | 10, _, _, _ => exact q_tabIn (pc := 33) (tgt := 492) (off := 459) (by decide) (by decide) (by decide) (by decide) hG dL_law_33 (q_case_undo hG N x3 hb σ hI hK s_undo)
    | 11, _, _, _ => exact q_tabIn (pc := 33) (tgt := 505) (off := 472) (by decide) (by decide) (by decide) (by decide) hG dL_law_33 (q_case_of hG N x3 hb σ hI hK s_of)
    | 12, _, _, _ => exact q_tabIn (pc := 33) (tgt := 538) (off := 505) (by decide) (by decide) (by decide) (by decide) hG dL_law_33 (q_case_who hG N x3 hb σ hI hK s_who)
    | 13, _, _, _ => exact q_tabIn (pc := 33) (tgt := 571) (off := 538) (by decide) (by decide) (by decide) (by decide) hG dL_law_33 (q_case_about hG N x3 hb σ hI hK s_about)
    | 14, _, _, _ => exact q_tabIn (pc := 33) (tgt := 604) (off := 571) (by decide) (by decide) (by decide) (by decide) hG dL_law_33 (q_case_strokes hG N x3 hb σ hI hK s_strokes)
    | 15, _, _, _ => exact q_tabIn (pc := 33) (tgt := 637) (off := 604) (by decide) (by decide) (by decide) (by decide) hG dL_law_33 (q_case_far hG N x3 hb σ hI hK s_far)
    | 16, _, _, _ => exact q_tabIn (pc := 33) (tgt := 670) (off := 637) (by decide) (by decide) (by decide) (by decide) hG dL_law_33 (q_case_would hG N x3 hb σ hI hK s_would)
    | 17, _, _, _ => exact q_tabIn (pc := 33) (tgt := 723) (off := 690) (by decide) (by decide) (by decide) (by decide) hG dL_law_33 (q_case_way hG N x3 hb σ hI hK s_way)
    | 18, _, _, _ => exact q_tabIn (pc := 33) (tgt := 766) (off := 733) (by decide) (by decide) (by decide) (by decide) hG dL_law_33 (q_case_gentle hG N x3 hb σ hI hK s_gentle)
    | 19, _, _, _ => exact q_tabIn (pc := 33) (tgt := 799) (off := 766) (by decide) (by decide) (by decide) (by decide) hG dL_law_33 (q_case_where hG N x3 hb σ hI hK s_where)
    | 20, _, _, _ => exact q_tabIn (pc := 33) (tgt := 832) (off := 799) (by decide) (by decide) (by decide) (by decide) hG dL_law_33 (q_case_share hG N x3 hb σ hI hK s_share)
    | 21, _, _, _ => exact q_tabIn (pc := 33) (tgt := 855) (off := 822) (by decide) (by decide) (by decide) (by decide) hG dL_law_33 (q_case_seen hG N x3 hb σ hI hK s_seen)
    | 22, _, _, _ => exact q_tabIn (pc := 33) (tgt := 908) (off := 875) (by decide) (by decide) (by decide) (by decide) hG dL_law_33 (q_case_tongues hG N x3 hb σ hI hK s_tongues)
    | 23, _, _, _ => exact q_tabIn (pc := 33) (tgt := 931) (off := 898) (by decide) (by decide) (by decide) (by decide) hG dL_law_33 (q_case_tell hG N x3 hb σ hI hK s_tell)
    | 24, _, _, _ => exact q_tabIn (pc := 33) (tgt := 954) (off := 921) (by decide) (by decide) (by decide) (by decide) hG dL_law_33 (q_case_note hG N x3 hb σ hI hK s_note)
    | 25, _, _, _ => exact q_tabIn (pc := 33) (tgt := 1029) (off := 996) (by decide) (by decide) (by decide) (by decide) hG dL_law_33 (q_case_mark hG N x3 hb σ hI hK s_mark)
    | 26, _, _, _ => exact q_tabIn (pc := 33) (tgt := 1092) (off := 1059) (by decide) (by decide) (by decide) (by decide) hG dL_law_33 (q_case_forget hG N x3 hb σ hI hK s_forget)
    | 27, _, _, _ => exact q_tabIn (pc := 33) (tgt := 1115) (off := 1082) (by decide) (by decide) (by decide) (by decide) hG dL_law_33 (q_case_is hG N x3 hb σ hI hK s_is)
    | 28, _, _, _ => exact q_tabIn (pc := 33) (tgt := 1138) (off := 1105) (by decide) (by decide) (by decide) (by decide) hG dL_law_33 (q_case_look hG N x3 hb σ hI hK s_look)
    | 29, _, _, _ => exact q_tabIn (pc := 33) (tgt := 1161) (off := 1128) (by decide) (by decide) (by decide) (by decide) hG dL_law_33 (q_case_kinds hG N x3 hb σ hI hK s_kinds)
    | 30, _, _, _ => exact q_tabIn (pc := 33) (tgt := 1184) (off := 1151) (by decide) (by decide) (by decide) (by decide) hG dL_law_33 (q_case_ask hG N x3 hb σ hI hK s_ask)
    | 31, _, _, _ => exact q_tabIn (pc := 33) (tgt := 1207) (off := 1174) (by decide) (by decide) (by decide) (by decide) hG dL_law_33 (q_case_lamp hG N x3 hb σ hI hK s_lamp)
    | 32, _, _, _ => exact q_tabIn (pc := 33) (tgt := 1250) (off := 1217) (by decide) (by decide) (by decide) (by decide) hG dL_law_33 (q_case_odds hG N x3 hb σ hI hK s_odds)
    | 33, _, _, _ => exact q_tabIn (pc := 33) (tgt := 1303) (off := 1270) (by decide) (by decide) (by decide) (by decide) hG dL_law_33 (q_case_mean hG N x3 hb σ hI hK s_mean)
    | 34, _, _, _ => exact q_tabIn (pc := 33) (tgt := 1346) (off := 1313) (by decide) (by decide) (by decide) (by decide) hG dL_law_33 (q_case_nights hG N x3 hb σ hI hK s_nights)
    | 35, _, _, _ => exact q_tabIn (pc := 33) (tgt := 1379) (off := 1346) (by decide) (by decide) (by decide) (by decide) hG dL_law_33 (q_case_part hG N x3 hb σ hI hK s_part)
    | 36, _, _, _ => exact q_tabIn (pc := 33) (tgt := 1403) (off := 1370) (by decide) (by decide) (by decide) (by decide) hG dL_law_33 (q_case_image hG N x3 hb σ hI hK s_image)
    | 37, _, _, _ => exact q_tabIn (pc := 33) (tgt := 1426) (off := 1393) (by decide) (by decide) (by decide) (by decide) hG dL_law_33 (q_case_from hG N x3 hb σ hI hK s_from)
    | 38, _, _, _ => exact q_tabIn (pc := 33) (tgt := 1449) (off := 1416) (by decide) (by decide) (by decide) (by decide) hG dL_law_33 (q_case_status hG N x3 hb σ hI hK s_status)
    | 39, _, _, _ => exact q_tabIn (pc := 33) (tgt := 1472) (off := 1439) (by decide) (by decide) (by decide) (by decide) hG dL_law_33 (q_case_count hG N x3 hb σ hI hK s_count)
    | 40, _, _, _ => exact q_tabIn (pc := 33) (tgt := 1495) (off := 1462) (by decide) (by decide) (by decide) (by decide) hG dL_law_33 (q_case_digest hG N x3 hb σ hI hK s_digest)
    | q + 41, _, h, _ => exact absurd h (by omega)
  · exact q_tabOut (pc := 33) (tgt := 1509) (by rw [hjt]; omega) (by decide) hG dL_law_33 (hK σ hI)
theorem q_cmp {L i : Nat} (hL : L ≤ 3584) (hi : i ≤ 4000) : (Int32.ofNat L - 7 < nI i) ↔ L < i + 7 := by
  rw [Int32.lt_iff_toInt_lt, show (Int32.ofNat L - 7 : Int32) = nI L - nI 7 from rfl, pk_sub_toInt (by omega) (by decide), nI_toInt (by omega)]
  omega
theorem q_loop {X : Cx} {b0 L : Nat} {xs : Nat → Int32} {G : St → Nat → List (Nat × Value) → List Value → Prop} (hG : IsL X b0 L xs G) (hL : L ≤ 3584) (N : Nat) {Inv : St → Prop} (hsim : Sim N Inv) : ∀ (f i : Nat) (σ : St), L + 7 ≤ i + f → i ≤ L → Inv σ → G σ 18 [(0, .ref b0), (1, .ref (X.2.1 + 0)), (2, .ref (X.2.1 + 114)), (3, .int (nI i))] [] := by
  intro f
  induction f with
  | zero => intro i σ h1 h2; omega
  | succ f ih =>
    intro i σ h1 h2 hI
    refine q_iload_n (pc := 18) 3 3 rfl rfl hG dL_law_18 ?_
    refine q_aload_n (pc := 19) 0 0 rfl rfl hG dL_law_19 ?_
    refine q_slen (pc := 20) hG dL_law_20 ?_
    refine q_bipush (pc := 21) (v := 7) (by decide) hG dL_law_21 ?_
    refine q_isub (pc := 23) hG dL_law_23 ?_
    refine q_gt (pc := 24) (tgt := 1515) (by decide) hG dL_law_24 (fun h => ?_) (fun h => ?_)
    · refine q_iconst (pc := 1515) (v := 1) (by decide) hG dL_law_1515 ?_
      exact q_ret (pc := 1516) hG dL_law_1516
    · have hle : i + 7 ≤ L := by
        have := mt (q_cmp hL (by omega)).mpr h
        omega
      refine q_body hG N (nI i) (fun c hc => by rw [nI_add]; exact inB_nI (by omega) (by omega)) σ hI (fun σ hI => ?_) hsim
      refine q_iinc (pc := 1509) (v := nI (i + 7)) (lv' := [(3, .int (nI (i + 7))), (0, .ref b0), (1, .ref (X.2.1 + 0)), (2, .ref (X.2.1 + 114))]) 3 rfl (by rw [show Int32.ofInt 7 = nI 7 from by decide, nI_add]) (by decide) rfl hG dL_law_1509 ?_
      refine q_goto (pc := 1512) (tgt := 18) (by decide) hG dL_law_1512 ?_
      exact q_sub [1, 2, 3, 0] rfl hG (ih (i + 7) σ (by omega) hle hI)
