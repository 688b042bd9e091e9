def gw (b : Nat) (cs : List va_E) : va_W := cs.zipIdx.map (fun q => (b + q.2, q.1))
theorem gw_get {b i : Nat} {cs : List va_E} : (gw b cs)[i]? = cs[i]?.map (fun e => (b + i, e)) := by
  unfold gw
  rw [List.getElem?_map, List.getElem?_zipIdx]
  cases cs[i]? with
  | none => rfl
  | some e => simp
theorem gw_at {b i : Nat} {cs : List va_E} {e : va_E} (h : cs[i]? = some e) : (gw b cs)[i]? = some (b + i, e) := by rw [gw_get, h]; rfl
theorem gw_len (b : Nat) (cs : List va_E) : (gw b cs).length = cs.length := by simp [gw]
theorem gw_set (b i : Nat) (cs : List va_E) (e : va_E) : (gw b cs).set i (b + i, e) = gw b (cs.set i e) := by
  apply List.ext_getElem?
  intro k
  rw [gw_get]
  by_cases hk : k = i
  · subst hk
    by_cases hl : k < cs.length
    · rw [List.getElem?_set_self (by rw [gw_len]; exact hl), List.getElem?_set_self hl]; rfl
    · rw [List.getElem?_eq_none (by rw [List.length_set, gw_len]; omega), List.getElem?_eq_none (by rw [List.length_set]; omega)]; rfl
  · rw [List.getElem?_set_ne (Ne.symm hk), List.getElem?_set_ne (Ne.symm hk), gw_get]
theorem gw_push (b : Nat) (cs : List va_E) (e : va_E) : gw b cs ++ [(b + cs.length, e)] = gw b (cs ++ [e]) := by
  apply List.ext_getElem?
  intro k
  rw [gw_get]
  by_cases hk : k < cs.length
  · rw [List.getElem?_append_left (by rw [gw_len]; exact hk), List.getElem?_append_left hk, gw_get]
  · rw [List.getElem?_append_right (by rw [gw_len]; omega), List.getElem?_append_right (by omega), gw_len]
    by_cases he : k = cs.length
    · subst he; simp
    · rw [List.getElem?_eq_none (by simp; omega), List.getElem?_eq_none (by simp; omega)]; rfl
theorem gw_D (b : Nat) (cs : List va_E) : va_D (fun q => b ≤ q) (gw b cs) := by
  have key : ∀ (k : Nat) (q : Nat × va_E), (gw b cs)[k]? = some q → q.1 = b + k := by
    intro k q hk
    rw [gw_get] at hk
    cases he : cs[k]? with
    | none => rw [he] at hk; cases hk
    | some e => rw [he] at hk; cases hk; rfl
  refine ⟨fun i j p q hi hj hpq => ?_, fun k q hk => ?_⟩
  · have h1 := key i p hi
    have h2 := key j q hj
    omega
  · have h1 := key k q hk
    show b ≤ q.1
    omega
def AOs (U : State) : Prop := va_AO RX7 U ∧ va_AO RX1 U ∧ va_AO RX4 U
theorem AOs.moved {u U : State} (hvm : u.vm.Alike U.vm) (h : AOs u) : AOs U := ⟨va_AO.moved hvm h.1, va_AO.moved hvm h.2.1, va_AO.moved hvm h.2.2⟩
def EntC (X : Cx) (cs : List va_E) (U : State) : Prop := va_P X.2.2.1 vwCl (gw X.2.1 cs) U.heap ∧ U.heap.size = X.2.1 + cs.length ∧ va_K X.2.2.1 vwCl (tysOf X.2.2.2.1) U ∧ Ks X.2.1 X.2.2.2.2 U ∧ AOs U
def rmc (d kc ks : Nat) : Room := { frames := d, cells := kc, slots := ks, locals := 64 * d }
def QcC (X : Cx) (cs' : List va_E) : Array Value → State → Outcome → State → Prop := fun _ st oc t => (oc = .returned none ∧ EntC X cs' t) ∧ va_F (fun q => X.2.1 ≤ q) st t
/-- a constructor's contract: the cells cs become cs', kc cells of ks slots are new -/
def CtrC (X : Cx) (y : MethodName) (cw : ByteArray) (nL d kc ks : Nat) (av : List Value) (cs cs' : List va_E) : Prop :=
  Met X.1 y (.code y cw nL none :: gT) (rmc d kc ks) (va_Pc av (EntC X cs)) (QcC X cs') kc ks (fun q => X.2.1 ≤ q)
abbrev GCT : Type := List va_E → Nat → Nat → Nat → List (Nat × Value) → List Value → Prop
def IsC (X : Cx) (own nm : String) (cw : ByteArray) (nL d kc ks : Nat) (cs0 cs' : List va_E) (G : GCT) : Prop :=
  ∃ (p : Program) (e : Env) (s : State) (m : MethodId) (args : Array Value) (below : List Frame) (meth : Method) (c : Code),
    p.tables.exec = Jvm.exec ∧ c.code = cw ∧ c.maxLocals = nL ∧ meth.sig.returnType = none ∧ meth.locks = false ∧ s.vm.findClass own = some m.cls ∧ meth.name = nm ∧ (∀ w ∈ gT, w.before args s = true) ∧ va_K X.2.2.1 vwCl (tysOf X.2.2.2.1) s ∧ Ks X.2.1 X.2.2.2.2 s ∧ AOs s ∧ X.2.1 ≤ s.heap.size ∧
    G = fun cs k n pc lv st => ∀ (H : Heap) (locs : List Loc) (ls : Array Slot), va_P X.2.2.1 vwCl (gw X.2.1 (cs0 ++ cs)) H → H.size = X.2.1 + (cs0 ++ cs).length → va_S (fun q => X.2.1 ≤ q) s.heap H locs → lv_has ls nL lv →
      W p X.1 e (rmc d kc ks) s m args below meth c H locs k n (MQ below (QcC X cs') args s kc ks (fun q => X.2.1 ≤ q)) (F0 m pc ls st)
theorem CtrC.of {X : Cx} {y : MethodName} {cw : ByteArray} {nL d kc ks : Nat} {av : List Value} {cs0 cs cs' : List va_E} (hy : plainName y.cls = true) (hav : (lg_sl av).length ≤ nL)
    (h : ∀ G : GCT, IsC X y.cls y.name cw nL d kc ks cs0 cs' G → G cs 0 0 0 (lv_args 0 av) []) : CtrC X y cw nL d kc ks av (cs0 ++ cs) cs' := by
  refine Met.ofW (cc := cw) (maxL := nL) (ret := none) hy rfl ?_
  intro p e s m args below meth c s₁ B hml hv
  obtain ⟨rfl, hP, hz, hK, hKs, hAO⟩ := hv
  have hts : ∀ w ∈ gT, w.before av.toArray s = true := fun w hw => atoms_spec (ws := .code y cw nL none :: gT) B.pre w (List.mem_cons_of_mem _ hw)
  have hown : s.vm.findClass y.cls = some m.cls := findClass_of_methodNamed B.named
  have hl := lv_entry av (n := nL) hav
  rw [lg_entry_eq]
  exact h _ ⟨p, e, s, m, av.toArray, below, meth, c, B.exec, B.bytes, hml, B.returns, B.notSynchronized, hown, (name_of_methodNamed B.named B.method).1, hts, hK, hKs, hAO, by omega, rfl⟩ s.heap [] _ hP hz va_S.rf hl
section KZ
variable {p : Program} {l : Launch} {e : Env} {R : Room} {s : State} {m : MethodId} {args : Array Value} {below : List Frame} {meth : Method} {c : Code} {H : Heap} {locs : List Loc} {cells slots : Nat} {Q : State → Prop}
variable {cc : ByteArray} {pc : Nat} {ls : Array Slot} {rest : List Value} {D : va_G} {cl : List vw_C} {A : Nat → Prop} {a : Nat} {tys : List (ClassId × FieldType)} {ws : va_W} {H0 : Heap}
theorem kz_put (hexec : p.tables.exec = Jvm.exec) (hb : c.code = cc) {own ref C : String} {T : u_T} {N ci index : Nat} {Ts : List Cond} (hts : ∀ w ∈ Ts, w.before args s = true) (hin : ∀ w ∈ u_ws C T N, w ∈ Ts) (ty0 : Nat → FieldType) (hty : ∀ k, k < N → parseFieldDescriptor (T k).2.2.1 = some (ty0 k)) (hnm : ∀ a, a < N → ∀ b, b < N → a ≠ b → (T a).2.1 ≠ (T b).2.1) (hown : s.vm.findClass own = some m.cls) (hK : va_K D cl tys s) (hP : va_P D cl ws H) (hD : va_D A ws) (hS0 : va_S A H0 H locs) (q0 : Nat) {fs : List Value} (he : ws[q0]? = some (a, .inr (ci, fs))) (hc : cl[ci]? = some (C, T, N)) (k : Nat) (hk : k < N) (hlink : (Cond.fieldLink own index ref (T k).2.1 (T k).2.2.1).before args s = true) (hsame : ∀ x, s.fieldFound? (T k).1 (T k).2.1 (T k).2.2.1 = some x → s.fieldFound? ref (T k).2.1 (T k).2.2.1 = some x) (hfin : (T k).2.2.2 = false) {ty : FieldType} {v : Value} (hd : parseFieldDescriptor (T k).2.2.1 = some ty) (hn : narrow ty v = v) (hfit : fits ty v = true) (hl : k < fs.length)
    (hdg : decode cc pc = .ok (.putfield index, 3)) (kk : ∀ (H1 : Heap) (locs1 : List Loc), va_P D cl (ws.set q0 (a, .inr (ci, fs.set k v))) H1 → va_D A (ws.set q0 (a, .inr (ci, fs.set k v))) → va_S A H0 H1 locs1 → H1.size = H.size → W p l e R s m args below meth c H1 locs1 cells slots Q (F0 m (pc + 3) ls rest)) : W p l e R s m args below meth c H locs cells slots Q (F0 m pc ls (v :: .ref a :: rest)) := by
  have hap := va_apart (own := own) hts hin ty0 hty hnm hK hc
  obtain ⟨r, h1, cell, q1, q2, q3, q4⟩ := hP q0 _ he
  have hr : r = (C, T, N) := Option.some.inj (h1.symm.trans hc)
  subst hr
  obtain ⟨hS, hfc, kC, hkC, hkind⟩ := hK.1 ci _ hc
  obtain ⟨cf, kf, fi, f, hi, hsl⟩ := hS k hk
  have hlay := hts _ (hin _ (u_in_lay hk))
  unfold u_lay at hlay
  rw [if_neg (by rw [hfin]; decide)] at hlay
  have hst := (u_facts hfc hkC (u_lays hts hin hk) hi).1
  have h6 := u_store hfc hkC hkind hlay hi hd hn hfit
  refine W.putK hexec hb (f := f) ⟨hown, hlink, ⟨_, _, _, hsame _ hi⟩, hst⟩ (by rw [q2]; exact h6) q1 q3 (by rw [hsl]; exact k2_hasslot (q4 k hk)) rfl rfl hdg fun H' e1 e2 e3 => ?_
  rw [hsl] at e1 ⊢
  exact kk H' _ (hP.set hD he ⟨_, hc, t_OB.to (V := updV (vp_V fs) k v) ⟨_, e1, q2, q3, t_set q4 hap hk v⟩ (fun j _ => vp_updV_set hl v j)⟩ e3) (hD.set he) (hS0.put e2 e3 (hD.2 q0 _ he)) e2
theorem kz_putF (hexec : p.tables.exec = Jvm.exec) (hb : c.code = cc) {own ref C : String} {T : u_T} {N ci index : Nat} {Ts : List Cond} (hts : ∀ w ∈ Ts, w.before args s = true) (hin : ∀ w ∈ u_ws C T N, w ∈ Ts) (ty0 : Nat → FieldType) (hty : ∀ k, k < N → parseFieldDescriptor (T k).2.2.1 = some (ty0 k)) (hnm : ∀ a, a < N → ∀ b, b < N → a ≠ b → (T a).2.1 ≠ (T b).2.1) (hown : s.vm.findClass own = some m.cls) (hK : va_K D cl tys s) (hP : va_P D cl ws H) (hD : va_D A ws) (hS0 : va_S A H0 H locs) (q0 : Nat) {fs : List Value} (he : ws[q0]? = some (a, .inr (ci, fs))) (hc : cl[ci]? = some (C, T, N)) (k : Nat) (hk : k < N) (hlink : (Cond.fieldLink own index ref (T k).2.1 (T k).2.2.1).before args s = true) (hsame : ∀ x, s.fieldFound? (T k).1 (T k).2.1 (T k).2.2.1 = some x → s.fieldFound? ref (T k).2.1 (T k).2.2.1 = some x) (hfin : (T k).2.2.2 = true) (hin2 : meth.name = "<init>") (hdecl : (T k).1 = own) {ty : FieldType} {v : Value} (hd : parseFieldDescriptor (T k).2.2.1 = some ty) (hn : narrow ty v = v) (hfit : fits ty v = true) (hl : k < fs.length)
    (hdg : decode cc pc = .ok (.putfield index, 3)) (kk : ∀ (H1 : Heap) (locs1 : List Loc), va_P D cl (ws.set q0 (a, .inr (ci, fs.set k v))) H1 → va_D A (ws.set q0 (a, .inr (ci, fs.set k v))) → va_S A H0 H1 locs1 → H1.size = H.size → W p l e R s m args below meth c H1 locs1 cells slots Q (F0 m (pc + 3) ls rest)) : W p l e R s m args below meth c H locs cells slots Q (F0 m pc ls (v :: .ref a :: rest)) := by
  have hap := va_apart (own := own) hts hin ty0 hty hnm hK hc
  obtain ⟨r, h1, cell, q1, q2, q3, q4⟩ := hP q0 _ he
  have hr : r = (C, T, N) := Option.some.inj (h1.symm.trans hc)
  subst hr
  obtain ⟨hS, hfc, kC, hkC, hkind⟩ := hK.1 ci _ hc
  obtain ⟨cf, kf, fi, f, hi, hsl⟩ := hS k hk
  have hlay := hts _ (hin _ (u_in_lay hk))
  unfold u_lay at hlay
  rw [if_pos hfin] at hlay
  have hst := (u_facts hfc hkC (u_lays hts hin hk) hi).1
  have hcf : m.cls = cf := by
    obtain ⟨_, _, c', _, _, _, -, -, hf', -, -, -, hown2, -⟩ := Cond.laysFinal_spec hlay
    have e1 : c' = cf := by have := hi.symm.trans hf'; simp at this; exact this.1.symm
    rw [hdecl] at hown2
    rw [← e1]; exact Option.some.inj (hown.symm.trans hown2)
  have h6 := u_fits hfc hkC hkind (Or.inr hlay) hi hd hn hfit
  refine W.putFinK hexec hb hown hlink (hsame _ hi) hst hcf hin2 (by rw [q2]; exact h6) q1 q3 (by rw [hsl]; exact k2_hasslot (q4 k hk)) rfl rfl hdg fun H' e1 e2 e3 => ?_
  rw [hsl] at e1 ⊢
  exact kk H' _ (hP.set hD he ⟨_, hc, t_OB.to (V := updV (vp_V fs) k v) ⟨_, e1, q2, q3, t_set q4 hap hk v⟩ (fun j _ => vp_updV_set hl v j)⟩ e3) (hD.set he) (hS0.put e2 e3 (hD.2 q0 _ he)) e2
theorem kz_iast (hexec : p.tables.exec = Jvm.exec) (hb : c.code = cc) (hK : va_K D cl tys s) (hP : va_P D cl ws H) (hD : va_D A ws) (hS : va_S A H0 H locs) (q0 t0 : Nat) {cA : ClassId} {n : Nat} {f : Nat → Int32} (ha : ws[q0]? = some (a, .inl (cA, n, .inl f))) (ht : tys[t0]? = some (cA, .int)) {i : Int32} {x : Int32} (hin : vp_in i n) (hdg : decode cc pc = .ok (.iastore, 1))
    (kk : ∀ (H1 : Heap) (locs1 : List Loc), va_P D cl (ws.set q0 (a, .inl (cA, n, .inl (upd f i.toNatClampNeg x)))) H1 → va_D A (ws.set q0 (a, .inl (cA, n, .inl (upd f i.toNatClampNeg x)))) → va_S A H0 H1 locs1 → H1.size = H.size → W p l e R s m args below meth c H1 locs1 cells slots Q (F0 m (pc + 1) ls rest)) : W p l e R s m args below meth c H locs cells slots Q (F0 m pc ls (.int x :: .int i :: .ref a :: rest)) := by
  refine W.iast hexec hb (hP q0 _ ha) ((hK.2 t0 _ ht).1 n (fun j => .int (f j))) (fun q => by cases q) (by show ¬ (i < 0 ∨ (arrV _ _ _).slots.size ≤ _); rw [arrV_size]; exact hin) rfl rfl hdg fun H1 e z oq => ?_
  refine kk H1 _ (hP.set hD ha ?_ oq) (hD.set ha) (hS.put z oq (hD.2 q0 _ ha)) z
  show H1[a]? = some (vp_cell _ _)
  rw [e]
  rw [vp_cell_i, vp_cell_i, arrV_store]
  congr 2
  funext q
  by_cases hq : q = i.toNatClampNeg
  · subst hq
    simp [updV, upd]
    
  · simp [updV, upd, hq]
theorem kz_astq (hexec : p.tables.exec = Jvm.exec) (hb : c.code = cc) (hK : va_K D cl tys s) (hP : va_P D cl ws H) (hD : va_D A ws) (hS : va_S A H0 H locs) (q0 t0 qk ci : Nat) {cA : ClassId} {r : vw_C} {n v : Nat} {vs : List Value} {f : Nat → Option Nat} (ha : ws[q0]? = some (a, .inl (cA, n, .inr (.inr (.inr (.inr f)))))) (ht : tys[t0]? = some (cA, .object r.1)) (hv : ws[qk]? = some (v, .inr (ci, vs))) (hc : cl[ci]? = some r) {i : Int32} (hin : vp_in i n) (hdg : decode cc pc = .ok (.aastore, 1))
    (kk : ∀ (H1 : Heap) (locs1 : List Loc), va_P D cl (ws.set q0 (a, .inl (cA, n, .inr (.inr (.inr (.inr (va_up f i.toNatClampNeg (some v)))))))) H1 → va_D A (ws.set q0 (a, .inl (cA, n, .inr (.inr (.inr (.inr (va_up f i.toNatClampNeg (some v)))))))) → va_S A H0 H1 locs1 → H1.size = H.size → W p l e R s m args below meth c H1 locs1 cells slots Q (F0 m (pc + 1) ls rest)) : W p l e R s m args below meth c H locs cells slots Q (F0 m pc ls (.ref v :: .int i :: .ref a :: rest)) := by
  have hlt : i.toNatClampNeg < n := Nat.not_le.mp fun q => hin (Or.inr q)
  have h0 : ¬ i < 0 := fun q => hin (Or.inl q)
  obtain ⟨r', hr', cellV, g1, g2, g3, -⟩ := hP qk _ hv
  have hcls := (hK.1 ci r hc).2
  obtain ⟨kA, comp, k1, k2, k3, -⟩ := (hK.2 t0 _ ht).2
  have hcomp : comp = D.1 ci := Option.some.inj (k3.symm.trans hcls.1)
  subst hcomp
  obtain ⟨kC, hkC, -⟩ := hcls.2
  refine W.aast hexec hb (hP q0 _ ha) (fun q h => by cases h) (fun h => by cases h) k1 k2 rfl hkC ⟨h0, by show _ < (arrV _ _ _).slots.size; rw [arrV_size]; exact hlt⟩ g1 (fun q h => by rw [g3] at h; cases h) (by rw [g2]; exact hkC) (by rw [g2]; exact va_assign hcls) rfl rfl hdg fun H1 e z oq => ?_
  refine kk H1 _ (hP.set hD ha ?_ oq) (hD.set ha) (hS.put z oq (hD.2 q0 _ ha)) z
  show H1[a]? = some (vp_cell _ _)
  rw [e]
  rw [vp_cell_q, vp_cell_q, arrV_store]
  congr 2
  funext q
  by_cases hq : q = i.toNatClampNeg
  · subst hq
    simp [updV, va_up, va_rf]
  · simp [updV, va_up, hq]
end KZ
section GC
variable {X : Cx} {own nm : String} {cw : ByteArray} {nL d kc ks : Nat} {cs0 cs' : List va_E} {G : GCT} {tl tl' : List va_E} {k n pc tgt : Nat} {lv lv' : List (Nat × Value)} {st : List Value} {i j index : Nat}
theorem app_get {n j : Nat} {cs0 tl : List va_E} {e : va_E} (hn : cs0.length = n) (h : tl[j]? = some e) : (cs0 ++ tl)[n + j]? = some e := by
  rw [List.getElem?_append_right (by omega), show n + j - cs0.length = j by omega]; exact h
theorem app_set {n j : Nat} {cs0 tl : List va_E} {e : va_E} (hn : cs0.length = n) : (cs0 ++ tl).set (n + j) e = cs0 ++ tl.set j e := by
  rw [List.set_append_right _ _ (by omega), show n + j - cs0.length = j by omega]
theorem k_iconst {z : Int} {v : Int32} (hv : Int32.ofInt z = v) (hG : IsC X own nm cw nL d kc ks cs0 cs' G) (hd : decode cw pc = .ok (.iconst z, 1)) (kk : G tl k n (pc + 1) lv (.int v :: st)) : G tl k n pc lv (st) := by
  obtain ⟨p, e, s, m, args, below, meth, c, hx, hb, hml, hr, hlk, hown, hnm, hts, hK, hKs, hAO, hbs, rfl⟩ := hG
  intro H locs ls hP hz hS hl
  exact lv_iconst hx hb hd hv (kk H locs ls hP hz hS hl)
theorem k_bipush {z : Int} {v : Int32} (hv : (Int8.ofInt z).toInt32 = v) (hG : IsC X own nm cw nL d kc ks cs0 cs' G) (hd : decode cw pc = .ok (.bipush z, 2)) (kk : G tl k n (pc + 2) lv (.int v :: st)) : G tl k n pc lv (st) := by
  obtain ⟨p, e, s, m, args, below, meth, c, hx, hb, hml, hr, hlk, hown, hnm, hts, hK, hKs, hAO, hbs, rfl⟩ := hG
  intro H locs ls hP hz hS hl
  exact lv_bipush hx hb hd hv (kk H locs ls hP hz hS hl)
theorem k_sipush {z : Int} {v : Int32} (hv : (Int16.ofInt z).toInt32 = v) (hG : IsC X own nm cw nL d kc ks cs0 cs' G) (hd : decode cw pc = .ok (.sipush z, 3)) (kk : G tl k n (pc + 3) lv (.int v :: st)) : G tl k n pc lv (st) := by
  obtain ⟨p, e, s, m, args, below, meth, c, hx, hb, hml, hr, hlk, hown, hnm, hts, hK, hKs, hAO, hbs, rfl⟩ := hG
  intro H locs ls hP hz hS hl
  exact lv_sipush hx hb hd hv (kk H locs ls hP hz hS hl)
theorem k_lconst {z : Fin 2} {v : Int64} (hv : Int64.ofNat (z : Nat) = v) (hG : IsC X own nm cw nL d kc ks cs0 cs' G) (hd : decode cw pc = .ok (.lconst z, 1)) (kk : G tl k n (pc + 1) lv (.long v :: st)) : G tl k n pc lv (st) := by
  obtain ⟨p, e, s, m, args, below, meth, c, hx, hb, hml, hr, hlk, hown, hnm, hts, hK, hKs, hAO, hbs, rfl⟩ := hG
  intro H locs ls hP hz hS hl
  exact lv_lconst hx hb hd hv (kk H locs ls hP hz hS hl)
theorem k_dup {va : Value} (hva : va.category = 1) (hG : IsC X own nm cw nL d kc ks cs0 cs' G) (hd : decode cw pc = .ok (.dup, 1)) (kk : G tl k n (pc + 1) lv (va :: va :: st)) : G tl k n pc lv (va :: st) := by
  obtain ⟨p, e, s, m, args, below, meth, c, hx, hb, hml, hr, hlk, hown, hnm, hts, hK, hKs, hAO, hbs, rfl⟩ := hG
  intro H locs ls hP hz hS hl
  exact lv_dup hx hb hd hva (kk H locs ls hP hz hS hl)
theorem k_imul {x y v : Int32} (hv : x * y = v) (hG : IsC X own nm cw nL d kc ks cs0 cs' G) (hd : decode cw pc = .ok (.imul, 1)) (kk : G tl k n (pc + 1) lv (.int v :: st)) : G tl k n pc lv (.int y :: .int x :: st) := by
  obtain ⟨p, e, s, m, args, below, meth, c, hx, hb, hml, hr, hlk, hown, hnm, hts, hK, hKs, hAO, hbs, rfl⟩ := hG
  intro H locs ls hP hz hS hl
  exact lv_imul hx hb hd (by rw [hv]; exact kk H locs ls hP hz hS hl)
theorem k_iadd {x y v : Int32} (hv : x + y = v) (hG : IsC X own nm cw nL d kc ks cs0 cs' G) (hd : decode cw pc = .ok (.iadd, 1)) (kk : G tl k n (pc + 1) lv (.int v :: st)) : G tl k n pc lv (.int y :: .int x :: st) := by
  obtain ⟨p, e, s, m, args, below, meth, c, hx, hb, hml, hr, hlk, hown, hnm, hts, hK, hKs, hAO, hbs, rfl⟩ := hG
  intro H locs ls hP hz hS hl
  exact lv_iadd hx hb hd (by rw [hv]; exact kk H locs ls hP hz hS hl)
theorem k_iload_n {jj : Fin 4} {x : Int32} (q i : Nat) (hq : lv[q]? = some (i, .int x)) (hi : (jj : Nat) = i) (hG : IsC X own nm cw nL d kc ks cs0 cs' G) (hd : decode cw pc = .ok (.iload_n jj, 1)) (kk : G tl k n (pc + 1) lv (.int x :: st)) : G tl k n pc lv (st) := by
  obtain ⟨p, e, s, m, args, below, meth, c, hx, hb, hml, hr, hlk, hown, hnm, hts, hK, hKs, hAO, hbs, rfl⟩ := hG
  intro H locs ls hP hz hS hl
  exact lv_iload_n hx hb hd hi (lv_at hl q hq) (kk H locs ls hP hz hS hl)
theorem k_aload_n {jj : Fin 4} {x : Nat} (q i : Nat) (hq : lv[q]? = some (i, .ref x)) (hi : (jj : Nat) = i) (hG : IsC X own nm cw nL d kc ks cs0 cs' G) (hd : decode cw pc = .ok (.aload_n jj, 1)) (kk : G tl k n (pc + 1) lv (.ref x :: st)) : G tl k n pc lv (st) := by
  obtain ⟨p, e, s, m, args, below, meth, c, hx, hb, hml, hr, hlk, hown, hnm, hts, hK, hKs, hAO, hbs, rfl⟩ := hG
  intro H locs ls hP hz hS hl
  exact lv_aload_n hx hb hd hi (lv_at hl q hq) (kk H locs ls hP hz hS hl)
theorem k_istore_n {jj : Fin 4} {x : Int32} (i : Nat) (hi : (jj : Nat) = i) (hn : i < nL) (hv : (i, Value.int x) :: lv.filter (fun q => !(q.1 == i) && !(q.1 + 1 == i && q.2.category == 2)) = lv') (hG : IsC X own nm cw nL d kc ks cs0 cs' G) (hd : decode cw pc = .ok (.istore_n jj, 1)) (kk : G tl k n (pc + 1) lv' st) : G tl k n pc lv (.int x :: st) := by
  obtain ⟨p, e, s, m, args, below, meth, c, hx, hb, hml, hr, hlk, hown, hnm, hts, hK, hKs, hAO, hbs, rfl⟩ := hG
  intro H locs ls hP hz hS hl
  exact lv_istore_n hx hb hd hi hl hn hv (fun ls' hl' => kk H locs ls' hP hz hS hl')
theorem k_iinc {i : Nat} {z : Int} {x v : Int32} (q : Nat) (hq : lv[q]? = some (i, .int x)) (hv : x + Int32.ofInt z = v) (hn : i < nL) (hv2 : (i, Value.int v) :: lv.filter (fun q => !(q.1 == i) && !(q.1 + 1 == i && q.2.category == 2)) = lv') (hG : IsC X own nm cw nL d kc ks cs0 cs' G) (hd : decode cw pc = .ok (.iinc i z, 3)) (kk : G tl k n (pc + 3) lv' st) : G tl k n pc lv st := by
  obtain ⟨p, e, s, m, args, below, meth, c, hx, hb, hml, hr, hlk, hown, hnm, hts, hK, hKs, hAO, hbs, rfl⟩ := hG
  intro H locs ls hP hz hS hl
  exact lv_iinc hx hb hd hl hq hv hn hv2 (fun ls' hl' => kk H locs ls' hP hz hS hl')
theorem k_goto {off : Int} (ht : (pc : Int) + off = (tgt : Int)) (hG : IsC X own nm cw nL d kc ks cs0 cs' G) (hd : decode cw pc = .ok (.goto off, 3)) (kk : G tl k n tgt lv st) : G tl k n pc lv st := by
  obtain ⟨p, e, s, m, args, below, meth, c, hx, hb, hml, hr, hlk, hown, hnm, hts, hK, hKs, hAO, hbs, rfl⟩ := hG
  intro H locs ls hP hz hS hl
  exact lv_goto hx hb hd ht (kk H locs ls hP hz hS hl)
theorem k_geT {x y : Int32} {off : Int} (hc : y ≤ x) (ht : (pc : Int) + off = (tgt : Int)) (hG : IsC X own nm cw nL d kc ks cs0 cs' G) (hd : decode cw pc = .ok (.if_icmp .ge off, 3)) (kk : G tl k n tgt lv st) : G tl k n pc lv (.int y :: .int x :: st) := by
  obtain ⟨p, e, s, m, args, below, meth, c, hx, hb, hml, hr, hlk, hown, hnm, hts, hK, hKs, hAO, hbs, rfl⟩ := hG
  intro H locs ls hP hz hS hl
  exact lv_icmp_ge hx hb hd ht (fun h => kk H locs ls hP hz hS hl) (fun h => absurd hc h)
theorem k_geF {x y : Int32} {off : Int} (hc : ¬ y ≤ x) (ht : (pc : Int) + off = (tgt : Int)) (hG : IsC X own nm cw nL d kc ks cs0 cs' G) (hd : decode cw pc = .ok (.if_icmp .ge off, 3)) (kk : G tl k n (pc + 3) lv st) : G tl k n pc lv (.int y :: .int x :: st) := by
  obtain ⟨p, e, s, m, args, below, meth, c, hx, hb, hml, hr, hlk, hown, hnm, hts, hK, hKs, hAO, hbs, rfl⟩ := hG
  intro H locs ls hP hz hS hl
  exact lv_icmp_ge hx hb hd ht (fun h => absurd h hc) (fun h => kk H locs ls hP hz hS hl)
theorem k_sub (ps : List Nat) (h : lv_pick lv ps = lv') (hG : IsC X own nm cw nL d kc ks cs0 cs' G) (kk : G tl k n pc lv' st) : G tl k n pc lv st := by
  obtain ⟨p, e, s, m, args, below, meth, c, hx, hb, hml, hr, hlk, hown, hnm, hts, hK, hKs, hAO, hbs, rfl⟩ := hG
  intro H locs ls hP hz hS hl
  exact kk H locs ls hP hz hS (lv_sub hl ps h)
theorem k_obj {a : Nat} (hm : Cond.methodLink own index objectInit ∈ gT) (hdp : 0 < d) (hst : (st.map fun v => v.category).sum ≤ 8) (hG : IsC X own nm cw nL d kc ks cs0 cs' G) (hd : decode cw pc = .ok (.invokespecial index, 3)) (kk : G tl k n (pc + 3) lv st) : G tl k n pc lv (.ref a :: st) := by
  obtain ⟨p, e, s, m, args, below, meth, c, hx, hb, hml, hr, hlk, hown, hnm, hts, hK, hKs, hAO, hbs, rfl⟩ := hG
  intro H locs ls hP hz hS hl
  exact W.objInit hx hb hown (hts _ hm) (hts (.instanceMethod objectInit) (by decide +kernel)) (hts (.code objectInit ⟨#[0xb1]⟩ 1 none) (by decide +kernel)) rfl (by rw [hml]; exact hl.1) rfl hd (by unfold rmc; exact hdp) (by unfold rmc; show 2 * 0 + _ + 12 ≤ 64 * d; omega) (kk H locs ls hP hz hS hl)
theorem k_grow {e0 : va_E} {H H1 : Heap} {cs : List va_E} (hP : va_P X.2.2.1 vwCl (gw X.2.1 cs) H) (hz : H.size = X.2.1 + cs.length) (z1 : H1.size = X.2.1 + cs.length + 1) (o1 : ∀ q, q < X.2.1 + cs.length → H1[q]? = H[q]?) (he : va_at X.2.2.1 vwCl (X.2.1 + cs.length, e0) H1) : va_P X.2.2.1 vwCl (gw X.2.1 (cs ++ [e0])) H1 ∧ H1.size = X.2.1 + (cs ++ [e0]).length := by
  refine ⟨?_, by rw [z1, List.length_append]; rfl⟩
  rw [← gw_push]
  have hk : ∀ (k : Nat) (x : Nat × va_E), (gw X.2.1 cs)[k]? = some x → H1[x.1]? = H[x.1]? := fun k x hx => o1 x.1 (by have := (hP k x hx).lt; omega)
  refine (hP.kept hk).app (fun k x hx => ?_)
  have hz0 : k < 1 := (List.getElem?_eq_some_iff.mp hx).1
  rw [show k = 0 by omega] at hx
  cases hx
  exact he
theorem va_Sgrow {s : State} {H H1 : Heap} {locs : List Loc} {b z : Nat} (hS : va_S (fun q => b ≤ q) s.heap H locs) (hz : H.size = z) (z1 : H1.size = z + 1) (o1 : ∀ q, q < z → H1[q]? = H[q]?) : va_S (fun q => b ≤ q) s.heap H1 locs :=
  ⟨Nat.le_trans hS.1 (by omega), fun x h1 h2 => (o1 x (by have := hS.1; omega)).trans (hS.2.1 x h1 h2), hS.2.2⟩
theorem k_new {C : String} {T : u_T} {N ci : Nat} {fs : List Value} (ty : Nat → FieldType) (hin : ∀ w ∈ u_ws C T N, w ∈ gT) (hty : ∀ k, k < N → parseFieldDescriptor (T k).2.2.1 = some (ty k)) (hcl : Cond.classLink own index C ∈ gT) (hinst : Cond.instantiable C N ∈ gT) (hini : Cond.initialized C ∈ gT) (hc : vwCl[ci]? = some (C, T, N)) (hfs : ∀ j, j < N → defaultValue (ty j) = vp_V fs j) (hk1 : k + 1 ≤ kc) (hk2 : n + N ≤ ks) (hn : cs0.length = i) (ht : tl.length = j) (hG : IsC X own nm cw nL d kc ks cs0 cs' G) (hd : decode cw pc = .ok (.new index, 3)) (kk : G (tl ++ [.inr (ci, fs)]) (k + 1) (n + N) (pc + 3) lv (.ref (X.2.1 + (i + j)) :: st)) : G tl k n pc lv st := by
  obtain ⟨p, e, s, m, args, below, meth, c, hx, hb, hml, hr, hlk, hown, hnm, hts, hK, hKs, hAO, hbs, rfl⟩ := hG
  intro H locs ls hP hz hS hl
  have hij : (cs0 ++ tl).length = i + j := by rw [List.length_append, hn, ht]
  have hKn := hK.1 ci _ hc
  refine W.newcK hx hb hown (hts _ hcl) (hts _ hinst) (hts _ hini) rfl hd hk1 hk2 hKn.2.1 hz fun H1 kC hkC e1 z1 o1 => ?_
  have hq := k_grow (e0 := .inr (ci, fs)) hP hz z1 o1 ⟨_, hc, (u_born ty hts hin hKn hkC e1 hty).to hfs⟩
  rw [List.append_assoc] at hq
  rw [hij] at z1 o1 ⊢
  exact kk H1 locs ls hq.1 hq.2 (va_Sgrow hS (by rw [hz, hij]) z1 o1) hl
theorem k_newa {atype : ArrayType} {ty : FieldType} {t0 : Nat} {z : Int32} {N : Nat} {a0 : vp_A} (hty : newarray.typeOf atype = ty) (ht0 : ∀ cy, (tysOf cy)[t0]? = some (cy t0, ty)) (hra : ∀ (U : State) (cA : ClassId), va_RA U cA ty → U.vm.findClass ("[" ++ ty.toString) = some cA) (harr : Cond.arrayClass ty ∈ gT) (ha : ∀ cA : ClassId, vp_cell cA a0 = arrV cA N (fun _ => defaultValue ty)) (hz0 : ¬ z < 0) (hN : z.toNatClampNeg = N) (hby : N * componentBytes ty ≤ 536870912) (hk1 : k + 1 ≤ kc) (hk2 : n + N ≤ ks) (hn : cs0.length = i) (ht : tl.length = j) (hG : IsC X own nm cw nL d kc ks cs0 cs' G) (hd : decode cw pc = .ok (.newarray atype, 2)) (kk : G (tl ++ [.inl (X.2.2.2.1 t0, a0)]) (k + 1) (n + N) (pc + 2) lv (.ref (X.2.1 + (i + j)) :: st)) : G tl k n pc lv (.int z :: st) := by
  obtain ⟨p, e, s, m, args, below, meth, c, hx, hb, hml, hr, hlk, hown, hnm, hts, hK, hKs, hAO, hbs, rfl⟩ := hG
  intro H locs ls hP hz hS hl
  subst hty
  have hij : (cs0 ++ tl).length = i + j := by rw [List.length_append, hn, ht]
  refine va_newaK hx hb (hts _ harr) rfl hd rfl hz0 hN hby hk1 hk2 hz fun H1 cA e1 z1 o1 hAr hNm => ?_
  have hcA : cA = X.2.2.2.1 t0 := Option.some.inj (hNm.symm.trans (hra _ _ (hK.2 t0 _ (ht0 _)).2))
  subst hcA
  have hq := k_grow (e0 := .inl (X.2.2.2.1 t0, a0)) hP hz z1 o1 (by show H1[_]? = some (vp_cell _ _); rw [ha]; exact e1)
  rw [List.append_assoc] at hq
  rw [hij] at z1 o1 ⊢
  exact kk H1 locs ls hq.1 hq.2 (va_Sgrow hS (by rw [hz, hij]) z1 o1) hl
theorem k_newq {C : String} {t0 : Nat} {z : Int32} {N : Nat} (ht0 : ∀ cy, (tysOf cy)[t0]? = some (cy t0, .object C)) (hcl : Cond.classLink own index C ∈ gT) (hao : ∀ U, AOs U → va_AO C U) (hz0 : ¬ z < 0) (hN : z.toNatClampNeg = N) (hby : N * 4 ≤ 536870912) (hk1 : k + 1 ≤ kc) (hk2 : n + N ≤ ks) (hn : cs0.length = i) (ht : tl.length = j) (hG : IsC X own nm cw nL d kc ks cs0 cs' G) (hd : decode cw pc = .ok (.anewarray index, 3)) (kk : G (tl ++ [.inl (X.2.2.2.1 t0, N, .inr (.inr (.inr (.inr (fun _ => none)))))]) (k + 1) (n + N) (pc + 3) lv (.ref (X.2.1 + (i + j)) :: st)) : G tl k n pc lv (.int z :: st) := by
  obtain ⟨p, e, s, m, args, below, meth, c, hx, hb, hml, hr, hlk, hown, hnm, hts, hK, hKs, hAO, hbs, rfl⟩ := hG
  intro H locs ls hP hz hS hl
  subst hN
  have hij : (cs0 ++ tl).length = i + j := by rw [List.length_append, hn, ht]
  refine W.anew hx hb hown (hts _ hcl) (va_AO.use (hao _ hAO)) rfl hd rfl hz0 hby hk1 hk2 fun cA kA comp f1 f2 f3 f4 => ?_
  have hcA : cA = X.2.2.2.1 t0 := by
    obtain ⟨kA', comp', g1, g2, g3, g4⟩ := (hK.2 t0 _ (ht0 _)).2
    exact Option.some.inj (f1.symm.trans g4)
  subst hcA
  generalize hH1 : H.push ({ cls := X.2.2.2.1 t0, slots := Array.replicate z.toNatClampNeg .null, vm := .none } : Cell) = H1
  have z1 : H1.size = X.2.1 + (cs0 ++ tl).length + 1 := by rw [← hH1, Array.size_push, hz]
  have e1 : H1[H.size]? = some (arrV (X.2.2.2.1 t0) z.toNatClampNeg (fun _ => .null)) := by rw [← hH1, Array.getElem?_push_size, ← arrV_new]
  have o1 : ∀ q : Nat, q < X.2.1 + (cs0 ++ tl).length → H1[q]? = H[q]? := fun q hq => by rw [← hH1, Array.getElem?_push, if_neg (by omega)]
  have hq := k_grow (e0 := .inl (X.2.2.2.1 t0, z.toNatClampNeg, .inr (.inr (.inr (.inr (fun _ => none)))))) hP hz z1 o1 (by show H1[_]? = some (vp_cell _ _); rw [vp_cell_q, ← hz]; exact e1)
  rw [List.append_assoc] at hq
  rw [hij] at z1 o1
  have hS1 := va_Sgrow hS (by rw [hz, hij]) z1 o1
  have := kk H1 locs ls hq.1 hq.2 hS1 hl
  rw [← hij, ← hz] at this
  exact this
/-- a final field is set in its constructor -/
theorem k_putF {C : String} {T : u_T} {N ci q i j : Nat} {fs : List Value} {v : Value} {ty : FieldType} (ty0 : Nat → FieldType) (hin : ∀ w ∈ u_ws C T N, w ∈ gT) (hty : ∀ k, k < N → parseFieldDescriptor (T k).2.2.1 = some (ty0 k)) (hnm0 : ∀ a, a < N → ∀ b, b < N → a ≠ b → (T a).2.1 ≠ (T b).2.1) (hc : vwCl[ci]? = some (C, T, N)) (hq : q < N) (hl0 : Cond.fieldLink own index (T q).1 (T q).2.1 (T q).2.2.1 ∈ gT) (hfin : (T q).2.2.2 = true) (hdecl : (T q).1 = own) (hnmi : nm = "<init>") (hd0 : parseFieldDescriptor (T q).2.2.1 = some ty) (hnar : narrow ty v = v) (hfit : fits ty v = true) (hle : q < fs.length) (hn : cs0.length = i) (htl : tl[j]? = some (.inr (ci, fs))) (htl' : tl.set j (.inr (ci, fs.set q v)) = tl') (hG : IsC X own nm cw nL d kc ks cs0 cs' G) (hd : decode cw pc = .ok (.putfield index, 3)) (kk : G tl' k n (pc + 3) lv st) : G tl k n pc lv (v :: .ref (X.2.1 + (i + j)) :: st) := by
  obtain ⟨p, e, s, m, args, below, meth, c, hx, hb, hml, hr, hlk, hown, hnm, hts, hK, hKs, hAO, hbs, rfl⟩ := hG
  intro H locs ls hP hz hS hl
  refine kz_putF (D := X.2.2.1) (ci := ci) (v := v) (ty := ty) (C := C) (T := T) (N := N) hx hb hts hin ty0 hty hnm0 hown hK hP (gw_D _ _) hS (i + j) (fs := fs) (gw_at (app_get hn htl)) hc q hq (hts _ hl0) (fun _ h9 => h9) hfin (hnm.trans hnmi) hdecl hd0 hnar hfit hle hd (fun H1 locs1 hP1 _ hS1 hz1 => ?_)
  rw [gw_set, app_set hn, htl'] at hP1
  exact kk H1 locs1 ls hP1 (by rw [hz1, hz, ← htl', List.length_append, List.length_append, List.length_set]) hS1 hl
theorem k_put {C : String} {T : u_T} {N ci q i j : Nat} {fs : List Value} {v : Value} {ty : FieldType} (ty0 : Nat → FieldType) (hin : ∀ w ∈ u_ws C T N, w ∈ gT) (hty : ∀ k, k < N → parseFieldDescriptor (T k).2.2.1 = some (ty0 k)) (hnm0 : ∀ a, a < N → ∀ b, b < N → a ≠ b → (T a).2.1 ≠ (T b).2.1) (hc : vwCl[ci]? = some (C, T, N)) (hq : q < N) (hl0 : Cond.fieldLink own index (T q).1 (T q).2.1 (T q).2.2.1 ∈ gT) (hfin : (T q).2.2.2 = false) (hd0 : parseFieldDescriptor (T q).2.2.1 = some ty) (hnar : narrow ty v = v) (hfit : fits ty v = true) (hle : q < fs.length) (hn : cs0.length = i) (htl : tl[j]? = some (.inr (ci, fs))) (htl' : tl.set j (.inr (ci, fs.set q v)) = tl') (hG : IsC X own nm cw nL d kc ks cs0 cs' G) (hd : decode cw pc = .ok (.putfield index, 3)) (kk : G tl' k n (pc + 3) lv st) : G tl k n pc lv (v :: .ref (X.2.1 + (i + j)) :: st) := by
  obtain ⟨p, e, s, m, args, below, meth, c, hx, hb, hml, hr, hlk, hown, hnm, hts, hK, hKs, hAO, hbs, rfl⟩ := hG
  intro H locs ls hP hz hS hl
  refine kz_put (D := X.2.2.1) (ci := ci) (v := v) (ty := ty) (C := C) (T := T) (N := N) hx hb hts hin ty0 hty hnm0 hown hK hP (gw_D _ _) hS (i + j) (fs := fs) (gw_at (app_get hn htl)) hc q hq (hts _ hl0) (fun _ h9 => h9) hfin hd0 hnar hfit hle hd (fun H1 locs1 hP1 _ hS1 hz1 => ?_)
  rw [gw_set, app_set hn, htl'] at hP1
  exact kk H1 locs1 ls hP1 (by rw [hz1, hz, ← htl', List.length_append, List.length_append, List.length_set]) hS1 hl
theorem k_get {C : String} {T : u_T} {N ci q i j : Nat} {fs : List Value} {v : Value} (hin : ∀ w ∈ u_ws C T N, w ∈ gT) (hc : vwCl[ci]? = some (C, T, N)) (hq : q < N) (hl0 : Cond.fieldLink own index (T q).1 (T q).2.1 (T q).2.2.1 ∈ gT) (hv : fs[q]? = some v) (hn : cs0.length = i) (htl : tl[j]? = some (.inr (ci, fs))) (hG : IsC X own nm cw nL d kc ks cs0 cs' G) (hd : decode cw pc = .ok (.getfield index, 3)) (kk : G tl k n (pc + 3) lv (v :: st)) : G tl k n pc lv (.ref (X.2.1 + (i + j)) :: st) := by
  obtain ⟨p, e, s, m, args, below, meth, c, hx, hb, hml, hr, hlk, hown, hnm, hts, hK, hKs, hAO, hbs, rfl⟩ := hG
  intro H locs ls hP hz hS hl
  exact va_get (D := X.2.2.1) (ci := ci) (v := v) (C := C) (T := T) (N := N) hx hb hts hin hown hK hP (i + j) (fs := fs) (gw_at (app_get hn htl)) hc q hq (hts _ hl0) (fun _ h9 => h9) hv hd (kk H locs ls hP hz hS hl)
theorem k_aast {t0 ci i j j2 N : Nat} {r : vw_C} {vs : List Value} {f : Nat → Option Nat} {z : Int32} (ht0 : ∀ cy, (tysOf cy)[t0]? = some (cy t0, .object r.1)) (hc : vwCl[ci]? = some r) (hz0 : inB z N = true) (hn : cs0.length = i) (htl : tl[j]? = some (.inl (X.2.2.2.1 t0, N, .inr (.inr (.inr (.inr f)))))) (htl2 : tl[j2]? = some (.inr (ci, vs))) (htl' : tl.set j (.inl (X.2.2.2.1 t0, N, .inr (.inr (.inr (.inr (va_up f z.toNatClampNeg (some (X.2.1 + (i + j2))))))))) = tl') (hG : IsC X own nm cw nL d kc ks cs0 cs' G) (hd : decode cw pc = .ok (.aastore, 1)) (kk : G tl' k n (pc + 1) lv st) : G tl k n pc lv (.ref (X.2.1 + (i + j2)) :: .int z :: .ref (X.2.1 + (i + j)) :: st) := by
  obtain ⟨p, e, s, m, args, below, meth, c, hx, hb, hml, hr, hlk, hown, hnm, hts, hK, hKs, hAO, hbs, rfl⟩ := hG
  intro H locs ls hP hz hS hl
  refine kz_astq (D := X.2.2.1) hx hb hK hP (gw_D _ _) hS (i + j) t0 (i + j2) ci (gw_at (app_get hn htl)) (ht0 _) (gw_at (app_get hn htl2)) hc (inB_vp hz0) hd (fun H1 locs1 hP1 _ hS1 hz1 => ?_)
  rw [gw_set, app_set hn, htl'] at hP1
  exact kk H1 locs1 ls hP1 (by rw [hz1, hz, ← htl', List.length_append, List.length_append, List.length_set]) hS1 hl
theorem k_iast {i j N : Nat} {f : Nat → Int32} {z v : Int32} (hz0 : inB z N = true) (hn : cs0.length = i) (htl : tl[j]? = some (.inl (X.2.2.2.1 1, N, .inl f))) (htl' : tl.set j (.inl (X.2.2.2.1 1, N, .inl (upd f z.toNatClampNeg v))) = tl') (hG : IsC X own nm cw nL d kc ks cs0 cs' G) (hd : decode cw pc = .ok (.iastore, 1)) (kk : G tl' k n (pc + 1) lv st) : G tl k n pc lv (.int v :: .int z :: .ref (X.2.1 + (i + j)) :: st) := by
  obtain ⟨p, e, s, m, args, below, meth, c, hx, hb, hml, hr, hlk, hown, hnm, hts, hK, hKs, hAO, hbs, rfl⟩ := hG
  intro H locs ls hP hz hS hl
  refine kz_iast (D := X.2.2.1) hx hb hK hP (gw_D _ _) hS (i + j) 1 (gw_at (app_get hn htl)) rfl (inB_vp hz0) hd (fun H1 locs1 hP1 _ hS1 hz1 => ?_)
  rw [gw_set, app_set hn, htl'] at hP1
  exact kk H1 locs1 ls hP1 (by rw [hz1, hz, ← htl', List.length_append, List.length_append, List.length_set]) hS1 hl
theorem k_alen {i j N : Nat} {f : Nat → Int32} (hn : cs0.length = i) (htl : tl[j]? = some (.inl (X.2.2.2.1 1, N, .inl f))) (hG : IsC X own nm cw nL d kc ks cs0 cs' G) (hd : decode cw pc = .ok (.arraylength, 1)) (kk : G tl k n (pc + 1) lv (.int (Int32.ofNat N) :: st)) : G tl k n pc lv (.ref (X.2.1 + (i + j)) :: st) := by
  obtain ⟨p, e, s, m, args, below, meth, c, hx, hb, hml, hr, hlk, hown, hnm, hts, hK, hKs, hAO, hbs, rfl⟩ := hG
  intro H locs ls hP hz hS hl
  exact va_alen (D := X.2.2.1) hx hb hK hP (i + j) 1 (gw_at (app_get hn htl)) rfl rfl hd (kk H locs ls hP hz hS hl)
theorem k_ret (hk1 : k = kc) (hk2 : n = ks) (he : cs0 ++ tl = cs') (hG : IsC X own nm cw nL d kc ks cs0 cs' G) (hd : decode cw pc = .ok (.return_, 1)) : G tl k n pc lv [] := by
  obtain ⟨p, e, s, m, args, below, meth, c, hx, hb, hml, hr, hlk, hown, hnm, hts, hK, hKs, hAO, hbs, rfl⟩ := hG
  intro H locs ls hP hz hS hl
  subst hk1; subst hk2; subst he
  exact W.vret hx hb hr (fun t ht hW => ⟨⟨rfl, by rw [ht]; exact hP, by rw [ht]; exact hz, va_K.moved hW.alike hK, hKs.go hS ht hW, hAO.moved hW.alike⟩, hS.F ht⟩) hS.2.2 hd hlk
theorem EntC.blind {av : List Value} {cs : List va_E} : FrameBlind (va_Pc av (EntC X cs)) := fun a U g mk q => by
  obtain ⟨q0, qP, qz, qK, qS, qA⟩ := q
  exact ⟨q0, qP, qz, va_K.moved (u := U) (U := U.calling g mk a) (Vm.Alike.refl U.vm) qK, qS.calling g mk a, AOs.moved (u := U) (U := U.calling g mk a) (Vm.Alike.refl U.vm) qA⟩
theorem callGoC {p : Program} {e : Env} {R : Room} {s : State} {m : MethodId} {args a : Array Value} {below : List Frame} {meth : Method} {c : Code} {H : Heap} {locs : List Loc} {cells slots kc1 ks1 : Nat} {Q : State → Prop} {ls : Array Slot} {st0 : List Value} {cs1 : List va_E}
    (hr : va_Run p X.1 e R s m args below meth c H locs cells slots kc1 ks1 (F0 m pc ls st0) st (QcC X cs1 a) (fun q => X.2.1 ≤ q)) (hS : va_S (fun q => X.2.1 ≤ q) s.heap H locs)
    (kk : ∀ (H1 : Heap) (locs1 : List Loc), va_P X.2.2.1 vwCl (gw X.2.1 cs1) H1 → H1.size = X.2.1 + cs1.length → va_S (fun q => X.2.1 ≤ q) s.heap H1 locs1 → W p X.1 e R s m args below meth c H1 locs1 (cells + kc1) (slots + ks1) Q (F0 m (pc + 3) ls st)) : W p X.1 e R s m args below meth c H locs cells slots Q (F0 m pc ls st0) := by
  intro T hT Y
  obtain ⟨v, st₀, t, T', L, h0, Y', hL, e1, e2, ⟨⟨hv, hP1, hz1, -, -, -⟩, hz, hk⟩, stp⟩ := hr T hT Y
  cases hv
  rw [h0] at hz hk
  obtain ⟨t2, a1, b1⟩ := kk T'.heap (locs ++ L) (by rw [e1]; exact hP1) (by rw [e1]; exact hz1)
    ⟨Nat.le_trans hS.1 (by rw [e1]; exact hz), fun q h1 h2 => by rw [e1, hk q (Nat.lt_of_lt_of_le h1 hS.1) h2]; exact hS.2.1 q h1 h2, fun q hq => by
      rcases List.mem_append.mp hq with h | h
      · exact hS.2.2 q h
      · exact hL q h⟩ T' rfl Y'
  exact ⟨t2, stp t2 a1, b1⟩
theorem callRC {d1 nL1 kc1 ks1 : Nat} (h1 : d1 < d) (h2 : nL1 ≤ 40) : (rmc d1 kc1 ks1).frames + 1 ≤ (rmc d kc ks).frames ∧ 8 + (nL1 + 11) + (rmc d1 kc1 ks1).locals ≤ (rmc d kc ks).locals := by
  unfold rmc
  dsimp only
  omega
theorem k_callI {y : MethodName} {cw1 : ByteArray} {nL1 d1 kc1 ks1 n1 : Nat} {As : List Value} {T0 blk : List va_E} {bl : va_E}
    (hC : CtrC X y cw1 nL1 d1 kc1 ks1 (.ref (X.2.1 + (i + j)) :: As) ((cs0 ++ T0) ++ [bl]) ((cs0 ++ T0) ++ blk))
    (hm : Cond.methodLink own index y ∈ gT ∧ Cond.instanceMethod y ∈ gT ∧ Cond.initialized y.cls ∈ gT ∧ Cond.code y cw1 nL1 none ∈ gT) (hnm1 : y.name = "<init>")
    (hy : y.cls ≠ "java/lang/invoke/MethodHandle" ∧ y.cls ≠ "java/lang/invoke/VarHandle" ∧ (parseMethodDescriptor y.desc).map (fun d => d.parameters.length) = some n1) (hdl : d1 < d) (hnl : nL1 ≤ 40) (hk1 : k + kc1 ≤ kc) (hk2 : n + ks1 ≤ ks) (hn1 : As.length = n1) (hst : (st.map fun v => v.category).sum ≤ 8) (htl : tl = T0 ++ [bl]) (htl' : T0 ++ blk = tl')
    (hG : IsC X own nm cw nL d kc ks cs0 cs' G) (hd : decode cw pc = .ok (.invokespecial index, 3)) {st0 : List Value} (hs0 : st0 = As.reverse ++ .ref (X.2.1 + (i + j)) :: st) (kk : G tl' (k + kc1) (n + ks1) (pc + 3) lv st) : G tl k n pc lv st0 := by
  obtain ⟨p, e, s, m, args, below, meth, c, hx, hb, hml, hr, hlk, hown, hnm, hts, hK, hKs, hAO, hbs, rfl⟩ := hG
  intro H locs ls hP hz hS hl
  subst hs0; subst htl; subst htl'
  rw [← List.append_assoc] at hP hz
  refine callGoC (va_runI (As := As) (rest := st) ⟨hx, hb, hml, hown, hts⟩ hC (cwI n1 hts (goodTbl hm.2.2.2 goodAll) rfl rfl rfl (hts _ hm.2.2.1) (hts _ hm.1) (hts _ hm.2.1) hnm1 hy (callRC hdl hnl)) ⟨EntC.blind, fun U hU hW => ⟨rfl, by rw [hU]; exact hP, by rw [hU]; exact hz, va_K.moved hW.alike hK, hKs.go hS hU hW, hAO.moved hW.alike⟩⟩ rfl hn1 hl.1 rfl (lv_room hst) hd ⟨hk1, hk2⟩) hS (fun H1 locs1 hP1 hz1 hS1 => kk H1 locs1 ls (by rw [← List.append_assoc]; exact hP1) (by rw [← List.append_assoc]; exact hz1) hS1 hl)
theorem k_callIN {y : MethodName} {cw1 : ByteArray} {nL1 d1 kc1 ks1 n1 : Nat} {As : List Value} {T0 blk : List va_E} {bl : va_E}
    (hC : CtrC X y cw1 nL1 d1 kc1 ks1 (.ref (X.2.1 + (i + j)) :: As) ((cs0 ++ T0) ++ [bl]) ((cs0 ++ T0) ++ blk))
    (hm : (own, index, y) ∈ nestL ∧ Cond.instanceMethod y ∈ gT ∧ Cond.initialized y.cls ∈ gT ∧ Cond.code y cw1 nL1 none ∈ gT) (hnm1 : y.name = "<init>")
    (hy : y.cls ≠ "java/lang/invoke/MethodHandle" ∧ y.cls ≠ "java/lang/invoke/VarHandle" ∧ (parseMethodDescriptor y.desc).map (fun d => d.parameters.length) = some n1) (hdl : d1 < d) (hnl : nL1 ≤ 40) (hk1 : k + kc1 ≤ kc) (hk2 : n + ks1 ≤ ks) (hn1 : As.length = n1) (hst : (st.map fun v => v.category).sum ≤ 8) (htl : tl = T0 ++ [bl]) (htl' : T0 ++ blk = tl')
    (hG : IsC X own nm cw nL d kc ks cs0 cs' G) (hd : decode cw pc = .ok (.invokespecial index, 3)) {st0 : List Value} (hs0 : st0 = As.reverse ++ .ref (X.2.1 + (i + j)) :: st) (kk : G tl' (k + kc1) (n + ks1) (pc + 3) lv st) : G tl k n pc lv st0 := by
  obtain ⟨p, e, s, m, args, below, meth, c, hx, hb, hml, hr, hlk, hown, hnm, hts, hK, hKs, hAO, hbs, rfl⟩ := hG
  intro H locs ls hP hz hS hl
  subst hs0; subst htl; subst htl'
  rw [← List.append_assoc] at hP hz
  refine callGoC (va_runIN (As := As) (rest := st) ⟨hx, hb, hml, hown, hts⟩ hC ⟨va_cnB n1 hts (goodTbl hm.2.2.2 goodAll) rfl rfl rfl (hKs.2.2.2.2.2.2.2.1 _ hm.1) (hts _ hm.2.2.1) hy (callRC hdl hnl), hnm1, hts _ hm.2.1⟩ ⟨EntC.blind, fun U hU hW => ⟨rfl, by rw [hU]; exact hP, by rw [hU]; exact hz, va_K.moved hW.alike hK, hKs.go hS hU hW, hAO.moved hW.alike⟩⟩ rfl hn1 hl.1 rfl (lv_room hst) hd ⟨hk1, hk2⟩) hS (fun H1 locs1 hP1 hz1 hS1 => kk H1 locs1 ls (by rw [← List.append_assoc]; exact hP1) (by rw [← List.append_assoc]; exact hz1) hS1 hl)
theorem k_callV {y : MethodName} {cw1 : ByteArray} {nL1 d1 kc1 ks1 n1 ci N : Nat} {T : u_T} {As : List Value} {fs : List Value}
    (hC : CtrC X y cw1 nL1 d1 kc1 ks1 (.ref (X.2.1 + (i + j)) :: As) (cs0 ++ tl) (cs0 ++ tl')) (hi0 : cs0.length = i) (htl : tl[j]? = some (.inr (ci, fs))) (hcl : vwCl[ci]? = some (y.cls, T, N))
    (hm : Cond.methodLink own index y ∈ gT ∧ Cond.instanceMethod y ∈ gT ∧ Cond.selects y.cls y y ∈ gT ∧ Cond.initialized y.cls ∈ gT ∧ Cond.code y cw1 nL1 none ∈ gT)
    (hy : y.cls = y.cls ∧ y.cls ≠ "java/lang/invoke/MethodHandle" ∧ y.cls ≠ "java/lang/invoke/VarHandle" ∧ (parseMethodDescriptor y.desc).map (fun d => d.parameters.length) = some n1) (hdl : d1 < d) (hnl : nL1 ≤ 40) (hk1 : k + kc1 ≤ kc) (hk2 : n + ks1 ≤ ks) (hn1 : As.length = n1) (hst : (st.map fun v => v.category).sum ≤ 8)
    (hG : IsC X own nm cw nL d kc ks cs0 cs' G) (hd : decode cw pc = .ok (.invokevirtual index, 3)) {st0 : List Value} (hs0 : st0 = As.reverse ++ .ref (X.2.1 + (i + j)) :: st) (kk : G tl' (k + kc1) (n + ks1) (pc + 3) lv st) : G tl k n pc lv st0 := by
  obtain ⟨p, e, s, m, args, below, meth, c, hx, hb, hml, hr, hlk, hown, hnm, hts, hK, hKs, hAO, hbs, rfl⟩ := hG
  intro H locs ls hP hz hS hl
  subst hs0
  have hG1 : GoodIn gT (wsV own index y.cls y (.code y cw1 nL1 none :: gT)) := fun w hw => by
    rcases List.mem_append.mp hw with hw | hw
    · have hw2 : w ∈ gT := by
        simp only [List.mem_cons, List.not_mem_nil, or_false] at hw
        rcases hw with rfl | rfl | rfl | rfl
        · exact hm.1
        · exact hm.2.1
        · exact hm.2.2.1
        · exact hm.2.2.2.1
      exact ⟨hw2, good_of_word (List.all_eq_true.mp goodAll _ hw2)⟩
    · exact goodTbl hm.2.2.2.2 goodAll w hw
  refine callGoC (va_runV (As := As) (rest := st) ⟨hx, hb, hml, hown, hts⟩ hC (cwV n1 hts hG1 rfl rfl rfl hy (callRC hdl hnl)) ⟨EntC.blind, va_recv hK hP hcl (gw_at (app_get hi0 htl)), fun U hU hW => ⟨rfl, by rw [hU]; exact hP, by rw [hU]; exact hz, va_K.moved hW.alike hK, hKs.go hS hU hW, hAO.moved hW.alike⟩⟩ rfl hn1 hl.1 rfl (lv_room hst) hd ⟨hk1, hk2⟩) hS (fun H1 locs1 hP1 hz1 hS1 => kk H1 locs1 ls hP1 hz1 hS1 hl)
theorem k_newai {z : Int32} {N : Nat} (harr : Cond.arrayClass .int ∈ gT) (hz0 : ¬ z < 0) (hN : z.toNatClampNeg = N) (hby : N * componentBytes .int ≤ 536870912) (hk1 : k + 1 ≤ kc) (hk2 : n + N ≤ ks) (hn : cs0.length = i) (ht : tl.length = j) (htl : tl ++ [.inl (X.2.2.2.1 1, N, .inl (fun _ => 0))] = tl') (hG : IsC X own nm cw nL d kc ks cs0 cs' G) (hd : decode cw pc = .ok (.newarray .int, 2)) (kk : G tl' (k + 1) (n + N) (pc + 2) lv (.ref (X.2.1 + (i + j)) :: st)) : G tl k n pc lv (.int z :: st) := by
  subst htl
  exact k_newa (atype := .int) (ty := .int) (t0 := 1) (a0 := (N, .inl (fun _ => 0))) rfl (fun _ => rfl) (fun _ _ h => h) harr (fun _ => rfl) hz0 hN hby hk1 hk2 hn ht hG hd kk
theorem k_newab {z : Int32} {N : Nat} (harr : Cond.arrayClass .byte ∈ gT) (hz0 : ¬ z < 0) (hN : z.toNatClampNeg = N) (hby : N * componentBytes .byte ≤ 536870912) (hk1 : k + 1 ≤ kc) (hk2 : n + N ≤ ks) (hn : cs0.length = i) (ht : tl.length = j) (htl : tl ++ [.inl (X.2.2.2.1 0, N, .inl (fun _ => 0))] = tl') (hG : IsC X own nm cw nL d kc ks cs0 cs' G) (hd : decode cw pc = .ok (.newarray .byte, 2)) (kk : G tl' (k + 1) (n + N) (pc + 2) lv (.ref (X.2.1 + (i + j)) :: st)) : G tl k n pc lv (.int z :: st) := by
  subst htl
  exact k_newa (atype := .byte) (ty := .byte) (t0 := 0) (a0 := (N, .inl (fun _ => 0))) rfl (fun _ => rfl) (fun _ _ h => h) harr (fun _ => rfl) hz0 hN hby hk1 hk2 hn ht hG hd kk
theorem k_newaz {z : Int32} {N : Nat} (harr : Cond.arrayClass .boolean ∈ gT) (hz0 : ¬ z < 0) (hN : z.toNatClampNeg = N) (hby : N * componentBytes .boolean ≤ 536870912) (hk1 : k + 1 ≤ kc) (hk2 : n + N ≤ ks) (hn : cs0.length = i) (ht : tl.length = j) (htl : tl ++ [.inl (X.2.2.2.1 2, N, .inl (fun _ => 0))] = tl') (hG : IsC X own nm cw nL d kc ks cs0 cs' G) (hd : decode cw pc = .ok (.newarray .boolean, 2)) (kk : G tl' (k + 1) (n + N) (pc + 2) lv (.ref (X.2.1 + (i + j)) :: st)) : G tl k n pc lv (.int z :: st) := by
  subst htl
  exact k_newa (atype := .boolean) (ty := .boolean) (t0 := 2) (a0 := (N, .inl (fun _ => 0))) rfl (fun _ => rfl) (fun _ _ h => h) harr (fun _ => rfl) hz0 hN hby hk1 hk2 hn ht hG hd kk
theorem k_newT {C : String} {T : u_T} {N ci : Nat} {fs : List Value} (ty : Nat → FieldType) (hin : ∀ w ∈ u_ws C T N, w ∈ gT) (hty : ∀ k, k < N → parseFieldDescriptor (T k).2.2.1 = some (ty k)) (hcl : Cond.classLink own index C ∈ gT) (hinst : Cond.instantiable C N ∈ gT) (hini : Cond.initialized C ∈ gT) (hc : vwCl[ci]? = some (C, T, N)) (hfs : ∀ j, j < N → defaultValue (ty j) = vp_V fs j) (hk1 : k + 1 ≤ kc) (hk2 : n + N ≤ ks) (hn : cs0.length = i) (ht : tl.length = j) (htl : tl ++ [.inr (ci, fs)] = tl') (hG : IsC X own nm cw nL d kc ks cs0 cs' G) (hd : decode cw pc = .ok (.new index, 3)) (kk : G tl' (k + 1) (n + N) (pc + 3) lv (.ref (X.2.1 + (i + j)) :: st)) : G tl k n pc lv st := by
  subst htl
  exact k_new ty hin hty hcl hinst hini hc hfs hk1 hk2 hn ht hG hd kk
theorem k_newqT {C : String} {t0 : Nat} {z : Int32} {N : Nat} (ht0 : ∀ cy, (tysOf cy)[t0]? = some (cy t0, .object C)) (hcl : Cond.classLink own index C ∈ gT) (hao : ∀ U, AOs U → va_AO C U) (hz0 : ¬ z < 0) (hN : z.toNatClampNeg = N) (hby : N * 4 ≤ 536870912) (hk1 : k + 1 ≤ kc) (hk2 : n + N ≤ ks) (hn : cs0.length = i) (ht : tl.length = j) (htl : tl ++ [.inl (X.2.2.2.1 t0, N, .inr (.inr (.inr (.inr (fun _ => none)))))] = tl') (hG : IsC X own nm cw nL d kc ks cs0 cs' G) (hd : decode cw pc = .ok (.anewarray index, 3)) (kk : G tl' (k + 1) (n + N) (pc + 3) lv (.ref (X.2.1 + (i + j)) :: st)) : G tl k n pc lv (.int z :: st) := by
  subst htl
  exact k_newq ht0 hcl hao hz0 hN hby hk1 hk2 hn ht hG hd kk
end GC
