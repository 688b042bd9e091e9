def bI {ρ : Type} (x : Int32) (k : Int32 → Option ρ) : Option ρ := k x
def bL {ρ : Type} (x : Int64) (k : Int64 → Option ρ) : Option ρ := k x
def bS {ρ : Type} (s : St) (k : St → Option ρ) : Option ρ := k s
def ck {ρ : Type} (c : Bool) (e : Option ρ) : Option ρ := if c = true then e else none
abbrev oI (σ : St) : Int32 → Option Value × St := fun v => (some (.int v), σ)
abbrev oL (σ : St) : Int64 → Option Value × St := fun v => (some (.long v), σ)
abbrev oWI : Int32 × St → Option Value × St := fun x => (some (.int x.1), x.2)
abbrev oWL : Int64 × St → Option Value × St := fun x => (some (.long x.1), x.2)
abbrev oWV : St → Option Value × St := fun x => (none, x)
theorem sh4_1 {n : Nat} (h : shp n = 4) : shp (n + 1) = 14 := by
  have q : ∀ n, n < 133 → shp n = 4 → shp (n + 1) = 14 := by decide +kernel
  exact q n (shp_lt (by omega)) h
theorem sh4_2 {n : Nat} (h : shp n = 4) : shp (n + 2) = 14 := by
  have q : ∀ n, n < 133 → shp n = 4 → shp (n + 2) = 14 := by decide +kernel
  exact q n (shp_lt (by omega)) h
theorem sh4_3 {n : Nat} (h : shp n = 4) : shp (n + 3) = 18 := by
  have q : ∀ n, n < 133 → shp n = 4 → shp (n + 3) = 18 := by decide +kernel
  exact q n (shp_lt (by omega)) h
theorem sh4_4 {n : Nat} (h : shp n = 4) : shp (n + 4) = 16 := by
  have q : ∀ n, n < 133 → shp n = 4 → shp (n + 4) = 16 := by decide +kernel
  exact q n (shp_lt (by omega)) h
theorem sh4_5 {n : Nat} (h : shp n = 4) : shp (n + 5) = 9 := by
  have q : ∀ n, n < 133 → shp n = 4 → shp (n + 5) = 9 := by decide +kernel
  exact q n (shp_lt (by omega)) h
theorem sh4_7 {n : Nat} (h : shp n = 4) : shp (n + 7) = 9 := by
  have q : ∀ n, n < 133 → shp n = 4 → shp (n + 7) = 9 := by decide +kernel
  exact q n (shp_lt (by omega)) h
theorem sh4_9 {n : Nat} (h : shp n = 4) : shp (n + 9) = 9 := by
  have q : ∀ n, n < 133 → shp n = 4 → shp (n + 9) = 9 := by decide +kernel
  exact q n (shp_lt (by omega)) h
theorem sh4_11 {n : Nat} (h : shp n = 4) : shp (n + 11) = 5 := by
  have q : ∀ n, n < 133 → shp n = 4 → shp (n + 11) = 5 := by decide +kernel
  exact q n (shp_lt (by omega)) h
theorem ln4_1 {n : Nat} (h : shp n = 4) : lnn (n + 1) = 8 := by
  have q : ∀ n, n < 133 → shp n = 4 → lnn (n + 1) = 8 := by decide +kernel
  exact q n (shp_lt (by omega)) h
theorem ln4_2 {n : Nat} (h : shp n = 4) : lnn (n + 2) = 64 := by
  have q : ∀ n, n < 133 → shp n = 4 → lnn (n + 2) = 64 := by decide +kernel
  exact q n (shp_lt (by omega)) h
theorem ln4_3 {n : Nat} (h : shp n = 4) : lnn (n + 3) = 3 := by
  have q : ∀ n, n < 133 → shp n = 4 → lnn (n + 3) = 3 := by decide +kernel
  exact q n (shp_lt (by omega)) h
theorem ln4_4 {n : Nat} (h : shp n = 4) : lnn (n + 4) = 4 := by
  have q : ∀ n, n < 133 → shp n = 4 → lnn (n + 4) = 4 := by decide +kernel
  exact q n (shp_lt (by omega)) h
theorem sh5_1 {n : Nat} (h : shp n = 5) : shp (n + 1) = 14 := by
  have q : ∀ n, n < 133 → shp n = 5 → shp (n + 1) = 14 := by decide +kernel
  exact q n (shp_lt (by omega)) h
theorem ln5_1 {n : Nat} (h : shp n = 5) : lnn (n + 1) = 128 := by
  have q : ∀ n, n < 133 → shp n = 5 → lnn (n + 1) = 128 := by decide +kernel
  exact q n (shp_lt (by omega)) h
theorem sh9_1 {n : Nat} (h : shp n = 9) : shp (n + 1) = 14 := by
  have q : ∀ n, n < 133 → shp n = 9 → shp (n + 1) = 14 := by decide +kernel
  exact q n (shp_lt (by omega)) h
theorem inB_lt {j : Int32} {n : Nat} (h : inB j n = true) : j.toNatClampNeg < n := Nat.not_le.mp fun q => inB_vp h (Or.inr q)
theorem shGu {n : Nat} {j : Int32} (h : shp n = 4) (hj : inB j 4 = true) : shp (n + 16 + j.toNatClampNeg) = 1 := by
  have q : ∀ n, n < 133 → ∀ k, k < 4 → shp n = 4 → shp (n + 16 + k) = 1 := by decide +kernel
  exact q n (shp_lt (by omega)) _ (inB_lt hj) h
theorem shRo {n : Nat} {j : Int32} (h : shp n = 4) (hj : inB j 3 = true) : shp (n + 13 + j.toNatClampNeg) = 7 := by
  have q : ∀ n, n < 133 → ∀ k, k < 3 → shp n = 4 → shp (n + 13 + k) = 7 := by decide +kernel
  exact q n (shp_lt (by omega)) _ (inB_lt hj) h
theorem shIm {j : Int32} (hj : inB j 2 = true) : shp (74 + 20 * j.toNatClampNeg) = 4 := by
  have q : ∀ k, k < 2 → shp (74 + 20 * k) = 4 := by decide +kernel
  exact q _ (inB_lt hj)
theorem shTr {j : Int32} (hj : inB j 8 = true) : shp (50 + j.toNatClampNeg) = 1 := by
  have q : ∀ k, k < 8 → shp (50 + k) = 1 := by decide +kernel
  exact q _ (inB_lt hj)
section GB
variable {X : Cx} {own : String} {cw : ByteArray} {nL d : Nat} {rt : Option FieldType} {ρ : Type} {out : ρ → Option Value × St} {G : GT ρ} {E E1 E2 : Option ρ} {σ σ1 : St} {pc tgt : Nat} {lv : List (Nat × Value)} {st : List Value} {i index : Nat}
theorem r_bI {x : Int32} {K : Int32 → Option ρ} (hG : IsG X own cw nL d rt out G) (k : ∀ y, G (K y) σ pc lv (.int y :: st)) : G (bI x K) σ pc lv (.int x :: st) := k x
theorem r_bL {x : Int64} {K : Int64 → Option ρ} (hG : IsG X own cw nL d rt out G) (k : ∀ y, G (K y) σ pc lv (.long y :: st)) : G (bL x K) σ pc lv (.long x :: st) := k x
theorem r_bS {K : St → Option ρ} (hG : IsG X own cw nL d rt out G) (k : ∀ s, G (K s) s pc lv st) : G (bS σ K) σ pc lv st := k σ
theorem r_ck {c : Bool} (hG : IsG X own cw nL d rt out G) (k : c = true → G E σ pc lv st) : G (ck c E) σ pc lv st := r_chk hG k
theorem r_chkN {x : Int64} (hG : IsG X own cw nL d rt out G) (k : ¬ x = 0 → G E σ pc lv st) : G (if x = 0 then none else E) σ pc lv st := r_ite hG (fun _ => r_none hG) k
theorem r_bR {α : Type} {e : Option α} {K : α → Option ρ} (hG : IsG X own cw nL d rt out G) (k : ∀ a, e = some a → G (K a) σ pc lv st) : G (bR e K) σ pc lv st := by
  cases he : e with
  | none => exact r_none hG
  | some a => exact k a he
theorem r_bW {α : Type} {e : Option (α × St)} {K : α → St → Option ρ} (hG : IsG X own cw nL d rt out G) (k : ∀ a s, e = some (a, s) → G (K a s) σ pc lv st) : G (bW e K) σ pc lv st := by
  cases he : e with
  | none => exact r_none hG
  | some a => exact k a.1 a.2 he
theorem r_bIinc {i : Nat} {n : Int} {x v : Int32} {lv' : Int32 → List (Nat × Value)} {K : Int32 → Option ρ} (q : Nat) (hq : lv[q]? = some (i, .int x)) (hv : x + Int32.ofInt n = v) (hn : i < nL) (hl2 : ∀ y, (i, Value.int y) :: lv.filter (fun q => !(q.1 == i) && !(q.1 + 1 == i && q.2.category == 2)) = lv' y) (hG : IsG X own cw nL d rt out G) (hd : decode cw pc = .ok (.iinc i n, 3)) (k : ∀ y, G (K y) σ (pc + 3) (lv' y) st) : G (bI v K) σ pc lv st := r_iinc q hq hv hn (hl2 v) hG hd (k v)
theorem r_callVi {y : MethodName} {cw1 : ByteArray} {nL1 d1 n ci : Nat} {rt1 : Option FieldType} {As : List Value} {x : Int32} {T : u_T} {N : Nat} {fs : List Value} (hC : Ctr X y cw1 nL1 rt1 d1 (.ref (X.2.1 + i) :: As) σ (some (.int x)) σ1) (hws : (wsOf X.2.1 X.2.2.2.1 σ)[i]? = some (X.2.1 + i, .inr (ci, fs))) (hcl : vwCl[ci]? = some (y.cls, T, N)) (hm : Cond.methodLink own index y ∈ gT ∧ Cond.instanceMethod y ∈ gT ∧ Cond.selects y.cls y y ∈ gT ∧ Cond.initialized y.cls ∈ gT ∧ Cond.code y cw1 nL1 rt1 ∈ gT) (hy : y.cls = y.cls ∧ y.cls ≠ "java/lang/invoke/MethodHandle" ∧ y.cls ≠ "java/lang/invoke/VarHandle" ∧ (parseMethodDescriptor y.desc).map (fun d => d.parameters.length) = some n) (hdl : d1 < d) (hnl : nL1 ≤ 40) (hn : As.length = n) (hst : (st.map fun v => v.category).sum ≤ 8) (hG : IsG X own cw nL d rt out G) (hd : decode cw pc = .ok (.invokevirtual index, 3)) {st0 : List Value} (hs0 : st0 = As.reverse ++ .ref (X.2.1 + i) :: st) (k : rvN rt1 (some (.int x)) → G E σ1 (pc + 3) lv (.int x :: st)) : G E σ pc lv st0 := r_callV hC hws hcl hm hy hdl hnl hn hst hG hd hs0 k
theorem r_callVl {y : MethodName} {cw1 : ByteArray} {nL1 d1 n ci : Nat} {rt1 : Option FieldType} {As : List Value} {x : Int64} {T : u_T} {N : Nat} {fs : List Value} (hC : Ctr X y cw1 nL1 rt1 d1 (.ref (X.2.1 + i) :: As) σ (some (.long x)) σ1) (hws : (wsOf X.2.1 X.2.2.2.1 σ)[i]? = some (X.2.1 + i, .inr (ci, fs))) (hcl : vwCl[ci]? = some (y.cls, T, N)) (hm : Cond.methodLink own index y ∈ gT ∧ Cond.instanceMethod y ∈ gT ∧ Cond.selects y.cls y y ∈ gT ∧ Cond.initialized y.cls ∈ gT ∧ Cond.code y cw1 nL1 rt1 ∈ gT) (hy : y.cls = y.cls ∧ y.cls ≠ "java/lang/invoke/MethodHandle" ∧ y.cls ≠ "java/lang/invoke/VarHandle" ∧ (parseMethodDescriptor y.desc).map (fun d => d.parameters.length) = some n) (hdl : d1 < d) (hnl : nL1 ≤ 40) (hn : As.length = n) (hst : (st.map fun v => v.category).sum ≤ 8) (hG : IsG X own cw nL d rt out G) (hd : decode cw pc = .ok (.invokevirtual index, 3)) {st0 : List Value} (hs0 : st0 = As.reverse ++ .ref (X.2.1 + i) :: st) (k : rvN rt1 (some (.long x)) → G E σ1 (pc + 3) lv (.long x :: st)) : G E σ pc lv st0 := r_callV hC hws hcl hm hy hdl hnl hn hst hG hd hs0 k
theorem r_callVv {y : MethodName} {cw1 : ByteArray} {nL1 d1 n ci : Nat} {rt1 : Option FieldType} {As : List Value}  {T : u_T} {N : Nat} {fs : List Value} (hC : Ctr X y cw1 nL1 rt1 d1 (.ref (X.2.1 + i) :: As) σ none σ1) (hws : (wsOf X.2.1 X.2.2.2.1 σ)[i]? = some (X.2.1 + i, .inr (ci, fs))) (hcl : vwCl[ci]? = some (y.cls, T, N)) (hm : Cond.methodLink own index y ∈ gT ∧ Cond.instanceMethod y ∈ gT ∧ Cond.selects y.cls y y ∈ gT ∧ Cond.initialized y.cls ∈ gT ∧ Cond.code y cw1 nL1 rt1 ∈ gT) (hy : y.cls = y.cls ∧ y.cls ≠ "java/lang/invoke/MethodHandle" ∧ y.cls ≠ "java/lang/invoke/VarHandle" ∧ (parseMethodDescriptor y.desc).map (fun d => d.parameters.length) = some n) (hdl : d1 < d) (hnl : nL1 ≤ 40) (hn : As.length = n) (hst : (st.map fun v => v.category).sum ≤ 8) (hG : IsG X own cw nL d rt out G) (hd : decode cw pc = .ok (.invokevirtual index, 3)) {st0 : List Value} (hs0 : st0 = As.reverse ++ .ref (X.2.1 + i) :: st) (k : rvN rt1 none → G E σ1 (pc + 3) lv (st)) : G E σ pc lv st0 := r_callV hC hws hcl hm hy hdl hnl hn hst hG hd hs0 k
theorem r_callSi {y : MethodName} {cw1 : ByteArray} {nL1 d1 n : Nat} {rt1 : Option FieldType} {As : List Value} {x : Int32}  (hC : Ctr X y cw1 nL1 rt1 d1 As σ (some (.int x)) σ1) (hm : Cond.methodLink own index y ∈ gT ∧ Cond.static y ∈ gT ∧ Cond.initialized y.cls ∈ gT ∧ Cond.code y cw1 nL1 rt1 ∈ gT) (hy : y.cls ≠ "java/lang/invoke/MethodHandle" ∧ y.cls ≠ "java/lang/invoke/VarHandle" ∧ (parseMethodDescriptor y.desc).map (fun d => d.parameters.length) = some n) (hdl : d1 < d) (hnl : nL1 ≤ 40) (hn : As.length = n) (hst : (st.map fun v => v.category).sum ≤ 8) (hG : IsG X own cw nL d rt out G) (hd : decode cw pc = .ok (.invokestatic index, 3)) {st0 : List Value} (hs0 : st0 = As.reverse ++ st) (k : rvN rt1 (some (.int x)) → G E σ1 (pc + 3) lv (.int x :: st)) : G E σ pc lv st0 := r_callS hC hm hy hdl hnl hn hst hG hd hs0 k
theorem r_callSl {y : MethodName} {cw1 : ByteArray} {nL1 d1 n : Nat} {rt1 : Option FieldType} {As : List Value} {x : Int64}  (hC : Ctr X y cw1 nL1 rt1 d1 As σ (some (.long x)) σ1) (hm : Cond.methodLink own index y ∈ gT ∧ Cond.static y ∈ gT ∧ Cond.initialized y.cls ∈ gT ∧ Cond.code y cw1 nL1 rt1 ∈ gT) (hy : y.cls ≠ "java/lang/invoke/MethodHandle" ∧ y.cls ≠ "java/lang/invoke/VarHandle" ∧ (parseMethodDescriptor y.desc).map (fun d => d.parameters.length) = some n) (hdl : d1 < d) (hnl : nL1 ≤ 40) (hn : As.length = n) (hst : (st.map fun v => v.category).sum ≤ 8) (hG : IsG X own cw nL d rt out G) (hd : decode cw pc = .ok (.invokestatic index, 3)) {st0 : List Value} (hs0 : st0 = As.reverse ++ st) (k : rvN rt1 (some (.long x)) → G E σ1 (pc + 3) lv (.long x :: st)) : G E σ pc lv st0 := r_callS hC hm hy hdl hnl hn hst hG hd hs0 k
theorem r_callSv {y : MethodName} {cw1 : ByteArray} {nL1 d1 n : Nat} {rt1 : Option FieldType} {As : List Value}   (hC : Ctr X y cw1 nL1 rt1 d1 As σ none σ1) (hm : Cond.methodLink own index y ∈ gT ∧ Cond.static y ∈ gT ∧ Cond.initialized y.cls ∈ gT ∧ Cond.code y cw1 nL1 rt1 ∈ gT) (hy : y.cls ≠ "java/lang/invoke/MethodHandle" ∧ y.cls ≠ "java/lang/invoke/VarHandle" ∧ (parseMethodDescriptor y.desc).map (fun d => d.parameters.length) = some n) (hdl : d1 < d) (hnl : nL1 ≤ 40) (hn : As.length = n) (hst : (st.map fun v => v.category).sum ≤ 8) (hG : IsG X own cw nL d rt out G) (hd : decode cw pc = .ok (.invokestatic index, 3)) {st0 : List Value} (hs0 : st0 = As.reverse ++ st) (k : rvN rt1 none → G E σ1 (pc + 3) lv (st)) : G E σ pc lv st0 := r_callS hC hm hy hdl hnl hn hst hG hd hs0 k
theorem r_callSNi {y : MethodName} {cw1 : ByteArray} {nL1 d1 n : Nat} {rt1 : Option FieldType} {As : List Value} {x : Int32}  (hC : Ctr X y cw1 nL1 rt1 d1 As σ (some (.int x)) σ1) (hm : (own, index, y) ∈ nestL ∧ Cond.static y ∈ gT ∧ Cond.initialized y.cls ∈ gT ∧ Cond.code y cw1 nL1 rt1 ∈ gT) (hy : y.cls ≠ "java/lang/invoke/MethodHandle" ∧ y.cls ≠ "java/lang/invoke/VarHandle" ∧ (parseMethodDescriptor y.desc).map (fun d => d.parameters.length) = some n) (hdl : d1 < d) (hnl : nL1 ≤ 40) (hn : As.length = n) (hst : (st.map fun v => v.category).sum ≤ 8) (hG : IsG X own cw nL d rt out G) (hd : decode cw pc = .ok (.invokestatic index, 3)) {st0 : List Value} (hs0 : st0 = As.reverse ++ st) (k : rvN rt1 (some (.int x)) → G E σ1 (pc + 3) lv (.int x :: st)) : G E σ pc lv st0 := r_callSN hC hm hy hdl hnl hn hst hG hd hs0 k
theorem r_callSNl {y : MethodName} {cw1 : ByteArray} {nL1 d1 n : Nat} {rt1 : Option FieldType} {As : List Value} {x : Int64}  (hC : Ctr X y cw1 nL1 rt1 d1 As σ (some (.long x)) σ1) (hm : (own, index, y) ∈ nestL ∧ Cond.static y ∈ gT ∧ Cond.initialized y.cls ∈ gT ∧ Cond.code y cw1 nL1 rt1 ∈ gT) (hy : y.cls ≠ "java/lang/invoke/MethodHandle" ∧ y.cls ≠ "java/lang/invoke/VarHandle" ∧ (parseMethodDescriptor y.desc).map (fun d => d.parameters.length) = some n) (hdl : d1 < d) (hnl : nL1 ≤ 40) (hn : As.length = n) (hst : (st.map fun v => v.category).sum ≤ 8) (hG : IsG X own cw nL d rt out G) (hd : decode cw pc = .ok (.invokestatic index, 3)) {st0 : List Value} (hs0 : st0 = As.reverse ++ st) (k : rvN rt1 (some (.long x)) → G E σ1 (pc + 3) lv (.long x :: st)) : G E σ pc lv st0 := r_callSN hC hm hy hdl hnl hn hst hG hd hs0 k
theorem r_callSNv {y : MethodName} {cw1 : ByteArray} {nL1 d1 n : Nat} {rt1 : Option FieldType} {As : List Value}   (hC : Ctr X y cw1 nL1 rt1 d1 As σ none σ1) (hm : (own, index, y) ∈ nestL ∧ Cond.static y ∈ gT ∧ Cond.initialized y.cls ∈ gT ∧ Cond.code y cw1 nL1 rt1 ∈ gT) (hy : y.cls ≠ "java/lang/invoke/MethodHandle" ∧ y.cls ≠ "java/lang/invoke/VarHandle" ∧ (parseMethodDescriptor y.desc).map (fun d => d.parameters.length) = some n) (hdl : d1 < d) (hnl : nL1 ≤ 40) (hn : As.length = n) (hst : (st.map fun v => v.category).sum ≤ 8) (hG : IsG X own cw nL d rt out G) (hd : decode cw pc = .ok (.invokestatic index, 3)) {st0 : List Value} (hs0 : st0 = As.reverse ++ st) (k : rvN rt1 none → G E σ1 (pc + 3) lv (st)) : G E σ pc lv st0 := r_callSN hC hm hy hdl hnl hn hst hG hd hs0 k
end GB
