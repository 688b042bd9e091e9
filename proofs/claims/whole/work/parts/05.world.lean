/-! the store: what each cell holds, by its number and its place: ints, longs -/
abbrev St : Type := (Nat → Nat → Int32) × (Nat → Nat → Int64)
def sR (s : St) (i : Nat) (f : Nat → Int32) : St := (fun a => if a = i then f else s.1 a, s.2)
def sI (s : St) (i k : Nat) (v : Int32) : St := sR s i (upd (s.1 i) k v)
def sL (s : St) (i k : Nat) (v : Int64) : St := (s.1, fun a => if a = i then vp_updL (s.2 a) k v else s.2 a)
def inB (i : Int32) (n : Nat) : Bool := !(decide (i < 0) || decide (n ≤ i.toNatClampNeg))
theorem inB_vp {i : Int32} {n : Nat} (h : inB i n = true) : vp_in i n := by
  unfold inB at h; unfold vp_in; simpa using h
def bW {α ρ : Type} (e : Option (α × St)) (k : α → St → Option ρ) : Option ρ := match e with
  | some x => k x.1 x.2
  | none => none
def bR {α ρ : Type} (e : Option α) (k : α → Option ρ) : Option ρ := match e with
  | some x => k x
  | none => none
theorem bW_some {α ρ : Type} {e : Option (α × St)} {k : α → St → Option ρ} {r : ρ} (h : bW e k = some r) : ∃ a s, e = some (a, s) ∧ k a s = some r := by
  cases e with
  | none => cases h
  | some x => exact ⟨x.1, x.2, rfl, h⟩
theorem bR_some {α ρ : Type} {e : Option α} {k : α → Option ρ} {r : ρ} (h : bR e k = some r) : ∃ a, e = some a ∧ k a = some r := by
  cases e with
  | none => cases h
  | some x => exact ⟨x, rfl, h⟩
/-! the shapes: 0 .. 12 the classes; 13 byte[], 14 int[], 15 boolean[], 16 Guest[] of a Night, 17 Night[], 18 Rower[], 19 Guest[] of the Ways -/
def shL : List Nat := [11, 4, 14, 14, 18, 16, 9, 14, 9, 14, 9, 14, 5, 14, 7, 7, 7, 1, 1, 1, 1, 4, 14, 14, 18, 16, 9, 14, 9, 14, 9, 14, 5, 14, 7, 7, 7, 1, 1, 1, 1, 17, 15, 13, 14, 14, 1, 10, 19, 14, 1, 1, 1, 1, 1, 1, 1, 1, 8, 14, 14, 14, 14, 14, 0, 14, 3, 14, 14, 2, 1, 6, 14, 14, 4, 14, 14, 18, 16, 9, 14, 9, 14, 9, 14, 5, 14, 7, 7, 7, 1, 1, 1, 1, 4, 14, 14, 18, 16, 9, 14, 9, 14, 9, 14, 5, 14, 7, 7, 7, 1, 1, 1, 1, 12, 14, 14, 14, 15, 14, 14, 14, 14, 14, 14, 14, 14, 14, 14, 14, 14, 14, 14]
def lnL : List Nat := [0, 0, 8, 64, 3, 4, 0, 20, 0, 36, 0, 30, 0, 128, 0, 0, 0, 0, 0, 0, 0, 0, 8, 64, 3, 4, 0, 20, 0, 36, 0, 30, 0, 128, 0, 0, 0, 0, 0, 0, 0, 2, 2, 150, 3, 8, 0, 0, 8, 8, 0, 0, 0, 0, 0, 0, 0, 0, 0, 12, 12, 3, 4, 4, 0, 10, 0, 4, 16, 0, 0, 0, 150, 3, 0, 8, 64, 3, 4, 0, 20, 0, 36, 0, 30, 0, 128, 0, 0, 0, 0, 0, 0, 0, 0, 8, 64, 3, 4, 0, 20, 0, 36, 0, 30, 0, 128, 0, 0, 0, 0, 0, 0, 0, 0, 286, 286, 572, 2, 150, 3, 3, 8, 9, 9, 9, 9, 9, 9, 8, 16, 16, 10]
def shp (i : Nat) : Nat := shL.getD i 99
def lnn (i : Nat) : Nat := lnL.getD i 0
theorem shp_lt {i : Nat} (h : shp i < 99) : i < 133 := by
  unfold shp at h
  rcases Nat.lt_or_ge i 133 with q | q
  · exact q
  · rw [List.getD_eq_getElem?_getD, List.getElem?_eq_none (by exact q)] at h; exact absurd h (by decide)
def cellC (code : Nat) (b : Nat) (cy : Nat → ClassId) (i : Nat) (f : Nat → Int32) (g : Nat → Int64) : va_E := match code with
  | 0 => .inr (0, [.ref (b + 65), .int (f 1), .int (f 2)])
  | 1 => .inr (1, [.int (f 0), .int (f 1), .int (f 2), .int (f 3), .int (f 4), .int (f 5)])
  | 2 => .inr (2, [.ref (b + 70), .long (g 1), .long (g 2)])
  | 3 => .inr (3, [.ref (b + 67), .ref (b + 68), .int (f 2)])
  | 4 => .inr (4, [.ref (b + (i + 1)), .ref (b + (i + 2)), .ref (b + (i + 3)), .ref (b + (i + 4)), .int (f 4), .int (f 5), .ref (b + (i + 5)), .ref (b + (i + 7)), .ref (b + (i + 9)), .ref (b + (i + 11))])
  | 5 => .inr (5, [.ref (b + (i + 1)), .int (f 1)])
  | 6 => .inr (6, [.ref (b + 72), .int (f 1), .int (f 2), .int (f 3), .int (f 4), .int (f 5), .ref (b + 73)])
  | 7 => .inr (7, [.int (f 0), .int (f 1)])
  | 8 => .inr (8, [.ref (b + 59), .ref (b + 60), .ref (b + 61), .ref (b + 62), .ref (b + 63), .int (f 5), .int (f 6), .int (f 7)])
  | 9 => .inr (9, [.int (f 0), .int (f 1), .ref (b + (i + 1)), .int (f 3)])
  | 10 => .inr (10, [.ref (b + 48), .ref (b + 49), .int (f 2), .int (f 3), .int (f 4), .int (f 5), .int (f 6)])
  | 11 => .inr (11, [.ref (b + 1), .ref (b + 21), .ref (b + 41), .ref (b + 42), .ref (b + 43), .int (f 5), .ref (b + 44), .ref (b + 45), .ref (b + 46), .ref (b + 47), .ref (b + 58), .ref (b + 64), .ref (b + 66), .ref (b + 69), .ref (b + 71)])
  | 12 => .inr (12, [.ref (b + 115), .ref (b + 116), .ref (b + 117), .ref (b + 118), .ref (b + 119), .int (f 5), .long (g 6), .long (g 7), .ref (b + 120), .int (f 9), .int (f 10), .int (f 11), .int (f 12), .ref (b + 121), .int (f 14), .ref (b + 122), .ref (b + 123), .ref (b + 124), .ref (b + 125), .ref (b + 126), .ref (b + 127), .ref (b + 128), .int (f 22), .ref (b + 129), .int (f 24), .int (f 25), .int (f 26), .int (f 27), .ref (b + 130), .ref (b + 131), .int (f 30), .int (f 31), .int (f 32), .ref (b + 132)])
  | 13 => .inl (cy 0, lnn i, .inl f)
  | 14 => .inl (cy 1, lnn i, .inl f)
  | 15 => .inl (cy 2, lnn i, .inl f)
  | 16 => .inl (cy 3, lnn i, .inr (.inr (.inr (.inr (fun j => some (b + (i + 12 + j)))))))
  | 17 => .inl (cy 4, lnn i, .inr (.inr (.inr (.inr (fun j => some (b + (74 + 20 * j)))))))
  | 18 => .inl (cy 5, lnn i, .inr (.inr (.inr (.inr (fun j => some (b + (i + 10 + j)))))))
  | _ => .inl (cy 3, lnn i, .inr (.inr (.inr (.inr (fun j => some (b + (50 + j)))))))
def wsOf (b : Nat) (cy : Nat → ClassId) (s : St) : va_W := (List.range 133).map (fun i => (b + i, cellC (shp i) b cy i (s.1 i) (s.2 i)))
def tysOf (cy : Nat → ClassId) : List (ClassId × FieldType) := [(cy 0, .byte), (cy 1, .int), (cy 2, .boolean), (cy 3, .object RX1), (cy 4, .object RX4), (cy 5, .object RX7)]
theorem wsOf_get {b : Nat} {cy : Nat → ClassId} {s : St} {i : Nat} (h : i < 133) : (wsOf b cy s)[i]? = some (b + i, cellC (shp i) b cy i (s.1 i) (s.2 i)) := by
  unfold wsOf
  rw [List.getElem?_map, List.getElem?_range h]; rfl
theorem wsOf_at {b c : Nat} {cy : Nat → ClassId} {s : St} {i : Nat} {e : va_E} (h : shp i = c) (hc : c < 99) (he : cellC c b cy i (s.1 i) (s.2 i) = e) : (wsOf b cy s)[i]? = some (b + i, e) := by
  subst h
  rw [wsOf_get (shp_lt hc), he]
theorem wsOf_D (b : Nat) (cy : Nat → ClassId) (s : St) : va_D (fun q => b ≤ q) (wsOf b cy s) := by
  have key : ∀ (k : Nat) (q : Nat × va_E), (wsOf b cy s)[k]? = some q → q.1 = b + k := by
    intro k q hk
    have hl : k < 133 := by
      have := (List.getElem?_eq_some_iff.mp hk).1
      unfold wsOf at this
      simpa using this
    rw [wsOf_get hl] at hk
    cases hk
    rfl
  refine ⟨fun i j p q hi hj hpq => ?_, fun k q hk => ?_⟩
  · have h1 := key i p hi
    have h2 := key j q hj
    omega
  · have h1 := key k q hk
    show b ≤ q.1
    omega
theorem wsOf_set {b : Nat} {cy : Nat → ClassId} {s s' : St} {i : Nat} {e : va_E} (h : shp i < 99) (he : cellC (shp i) b cy i (s'.1 i) (s'.2 i) = e) (h1 : ∀ a, a ≠ i → s'.1 a = s.1 a) (h2 : ∀ a, a ≠ i → s'.2 a = s.2 a) : (wsOf b cy s).set i (b + i, e) = wsOf b cy s' := by
  apply List.ext_getElem?
  intro k
  by_cases hk : k < 133
  · by_cases hki : k = i
    · subst hki
      rw [wsOf_get hk, he, List.getElem?_set_self (by unfold wsOf; simpa using hk)]
    · rw [List.getElem?_set_ne (Ne.symm hki), wsOf_get hk, wsOf_get hk, h1 k hki, h2 k hki]
  · rw [List.getElem?_eq_none (by unfold wsOf; simpa using hk), List.getElem?_eq_none (by unfold wsOf; simpa using hk)]
theorem sR_at (s : St) (i : Nat) (f : Nat → Int32) : (sR s i f).1 i = f := by simp [sR]
theorem sR_ne (s : St) (i : Nat) (f : Nat → Int32) {a : Nat} (h : a ≠ i) : (sR s i f).1 a = s.1 a := by simp [sR, h]
theorem sR_2 (s : St) (i : Nat) (f : Nat → Int32) : (sR s i f).2 = s.2 := rfl
theorem sL_at (s : St) (i k : Nat) (v : Int64) : (sL s i k v).2 i = vp_updL (s.2 i) k v := by simp [sL]
theorem sL_ne (s : St) (i k : Nat) (v : Int64) {a : Nat} (h : a ≠ i) : (sL s i k v).2 a = s.2 a := by simp [sL, h]
theorem wsOf_R {b c : Nat} {cy : Nat → ClassId} {s : St} {i : Nat} {f : Nat → Int32} {e : va_E} (h : shp i = c) (hc : c < 99) (he : cellC c b cy i f (s.2 i) = e) : (wsOf b cy s).set i (b + i, e) = wsOf b cy (sR s i f) := by
  subst h
  exact wsOf_set hc (by rw [sR_at, sR_2]; exact he) (fun a ha => sR_ne s i f ha) (fun a _ => rfl)
theorem wsOf_L {b c : Nat} {cy : Nat → ClassId} {s : St} {i k : Nat} {v : Int64} {e : va_E} (h : shp i = c) (hc : c < 99) (he : cellC c b cy i (s.1 i) (vp_updL (s.2 i) k v) = e) : (wsOf b cy s).set i (b + i, e) = wsOf b cy (sL s i k v) := by
  subst h
  exact wsOf_set hc (by rw [sL_at]; exact he) (fun a _ => rfl) (fun a ha => sL_ne s i k v ha)
