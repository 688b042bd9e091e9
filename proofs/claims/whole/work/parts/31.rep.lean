/-! the abstract water q: 286 naturals in the order of the reference's row; where the class keeps each -/
abbrev QS : Type := Nat → Nat
def updQ (q : QS) (k v : Nat) : QS := fun j => if j = k then v else q j
theorem updQ_s (q : QS) (k v : Nat) : updQ q k v k = v := if_pos rfl
theorem updQ_n (q : QS) {k j : Nat} (v : Nat) (h : j ≠ k) : updQ q k v j = q j := if_neg h
/-- the class's cell (from its Night on) and place of the k-th number; canals (8 .. 35) lie apart -/
def cC (k : Nat) : Nat :=
  if k < 8 then 1 else if k < 36 then 2 else if k < 38 then 0 else if k < 41 then 13 + (k - 38) else if k < 44 then 13 + (k - 41)
  else if k < 68 then 16 + (k - 44) % 4 else if k < 69 then 5 else if k < 89 then 6 else if k < 90 then 7 else if k < 126 then 8
  else if k < 127 then 9 else if k < 157 then 10 else if k < 158 then 11 else 12
def sC (k : Nat) : Nat :=
  if k < 8 then k else if k < 36 then 64 + k else if k < 38 then k - 32 else if k < 41 then 0 else if k < 44 then 1
  else if k < 68 then (k - 44) / 4 else if k < 69 then 3 else if k < 89 then k - 69 else if k < 90 then 3 else if k < 126 then k - 90
  else if k < 127 then 3 else if k < 157 then k - 127 else if k < 158 then 1 else 16 * ((k - 158) / 16) + 4 * ((k - 158) % 4) + (k - 158) % 16 / 4
def live (q : QS) (k : Nat) : Prop :=
  if k < 8 then True else if k < 36 then False else if k < 38 then True else if k < 41 then k - 38 < q 36 else if k < 44 then k - 41 < q 36
  else if k < 68 then (k - 44) % 4 < q 37 else if k < 69 then True else if k < 89 then k - 69 < 4 * q 68 else if k < 90 then True else if k < 126 then k - 90 < 6 * q 89
  else if k < 127 then True else if k < 157 then k - 127 < 5 * q 126 else if k < 158 then True else (k - 158) / 16 < q 157 ∧ (k - 158) % 4 < q 37
def enc (k : Nat) : Nat := 200 * cC k + sC k
/-- no two numbers share a place: each place's code is met once -/
theorem enc_inj : ∀ i, i < 286 → ∀ j, j < 286 → enc i = enc j → i = j := by decide +kernel
theorem sC_lt : ∀ i, i < 286 → sC i < 200 := by decide +kernel
theorem cs_inj {i j : Nat} (hi : i < 286) (hj : j < 286) (h1 : cC i = cC j) (h2 : sC i = sC j) : i = j := enc_inj i hi j hj (by unfold enc; rw [h1, h2])
theorem cC_ne2 : ∀ i, i < 286 → (i < 8 ∨ 36 ≤ i) → cC i ≠ 2 := by decide +kernel
theorem cC_lt : ∀ i, i < 286 → cC i < 20 := by decide +kernel
def RepL (n : Nat) (P : Nat → Prop) (q : QS) (σ : St) : Prop := ∀ k, k < 286 → P k → σ.1 (n + cC k) (sC k) = nI (q k)
theorem RepL.mono {n : Nat} {P P' : Nat → Prop} {q : QS} {σ : St} (h : RepL n P q σ) (hp : ∀ k, k < 286 → P' k → P k) : RepL n P' q σ := fun k hk hP => h k hk (hp k hk hP)
theorem RepL.frame {n : Nat} {P : Nat → Prop} {q : QS} {σ σ' : St} (h : RepL n P q σ) (hf : ∀ c, c < 20 → σ'.1 (n + c) = σ.1 (n + c)) : RepL n P q σ' := fun k hk hP => by rw [hf _ (cC_lt k hk)]; exact h k hk hP
theorem RepL.set {n : Nat} {P : Nat → Prop} {q : QS} {σ : St} (h : RepL n P q σ) {k : Nat} (hk : k < 286) (v : Nat) : RepL n (fun j => P j ∨ j = k) (updQ q k v) (sI σ (n + cC k) (sC k) (nI v)) := by
  intro j hj hP
  rw [rdI]
  by_cases e : j = k
  · subst e; rw [if_pos ⟨rfl, rfl⟩, updQ_s]
  · rw [if_neg (fun z => e (cs_inj hj hk (by omega) z.2)), updQ_n _ _ e]
    exact h j hj (hP.resolve_right e)
/-- the canal's place in the reference's row -/
def cnl (a b : Nat) : Nat := if a < b then 8 + a * (15 - a) / 2 + b - a - 1 else 8 + b * (15 - b) / 2 + a - b - 1
def stq (q : QS) (a b : Nat) : Nat := if a = b then 0 else q (cnl a b)
theorem cnl_rng : ∀ a, a < 8 → ∀ b, b < 8 → a ≠ b → 8 ≤ cnl a b ∧ cnl a b < 36 := by decide +kernel
def invL : List Nat := [1, 2, 3, 4, 5, 6, 7, 10, 11, 12, 13, 14, 15, 19, 20, 21, 22, 23, 28, 29, 30, 31, 37, 38, 39, 46, 47, 55]
def key2 (a b : Nat) : Nat := if a < b then 8 * a + b else 8 * b + a
theorem cnl_inv : ∀ a, a < 8 → ∀ b, b < 8 → a ≠ b → invL.getD (cnl a b - 8) 0 = key2 a b := by decide +kernel
theorem cnl_inj {a b c d : Nat} (ha : a < 8) (hb : b < 8) (hab : a ≠ b) (hc : c < 8) (hd : d < 8) (hcd : c ≠ d) (h : cnl a b = cnl c d) : (a = c ∧ b = d) ∨ (a = d ∧ b = c) := by
  have h1 := cnl_inv a ha b hb hab
  have h2 := cnl_inv c hc d hd hcd
  rw [h, h2] at h1
  unfold key2 at h1
  by_cases e1 : c < d <;> by_cases e2 : a < b <;> simp only [e1, e2, if_true, if_false] at h1 <;> omega
theorem cnl_sym : ∀ a, a < 8 → ∀ b, b < 8 → cnl a b = cnl b a := by decide +kernel
theorem stq_sym (q : QS) {a b : Nat} (ha : a < 8) (hb : b < 8) : stq q a b = stq q b a := by
  unfold stq
  rw [cnl_sym a ha b hb]
  by_cases h : a = b
  · rw [if_pos h, if_pos h.symm]
  · rw [if_neg h, if_neg (Ne.symm h)]
def CanC (n : Nat) (q : QS) (σ : St) : Prop := ∀ a b, a < 8 → b < 8 → σ.1 (n + 2) (a * 8 + b) = nI (stq q a b)
theorem stq_upd {q : QS} {k v : Nat} (hk : k < 8 ∨ 36 ≤ k) {a b : Nat} (ha : a < 8) (hb : b < 8) : stq (updQ q k v) a b = stq q a b := by
  unfold stq
  by_cases h : a = b
  · rw [if_pos h, if_pos h]
  · have := cnl_rng a ha b hb h
    rw [if_neg h, if_neg h, updQ_n _ _ (by omega)]
theorem CanC.frame {n : Nat} {q q' : QS} {σ σ' : St} (h : CanC n q σ) (hf : σ'.1 (n + 2) = σ.1 (n + 2)) (hq : ∀ a b, a < 8 → b < 8 → stq q' a b = stq q a b) : CanC n q' σ' := fun a b ha hb => by rw [hf, hq a b ha hb]; exact h a b ha hb
def RepC (n : Nat) (q : QS) (σ : St) : Prop := RepL n (live q) q σ ∧ CanC n q σ
theorem RepC.frame {n : Nat} {q : QS} {σ σ' : St} (h : RepC n q σ) (hf : ∀ c, c < 20 → σ'.1 (n + c) = σ.1 (n + c)) : RepC n q σ' := ⟨h.1.frame hf, h.2.frame (hf 2 (by decide)) (fun _ _ _ _ => rfl)⟩
def RepM (a o : Nat) (q : QS) (σ : St) : Prop := ∀ k, k < 286 → σ.1 a (o + k) = nI (q k)
theorem RepM.frame {a o : Nat} {q : QS} {σ σ' : St} (h : RepM a o q σ) (hf : σ'.1 a = σ.1 a) : RepM a o q σ' := fun k hk => by rw [hf]; exact h k hk
theorem RepM.set {a o : Nat} {q : QS} {σ : St} (h : RepM a o q σ) (k : Nat) (v : Nat) : RepM a o (updQ q k v) (sI σ a (o + k) (nI v)) := by
  intro j hj
  rw [rdI]
  by_cases e : j = k
  · subst e; rw [if_pos ⟨rfl, rfl⟩, updQ_s]
  · rw [if_neg (by omega), updQ_n _ _ e]
    exact h j hj
/-- the widths of a Night's tables -/
def TW (n : Nat) (σ : St) : Prop := (σ.1 (n + 5) 0 = nI 4 ∧ σ.1 (n + 5) 1 = nI 5) ∧ (σ.1 (n + 7) 0 = nI 6 ∧ σ.1 (n + 7) 1 = nI 6) ∧ (σ.1 (n + 9) 0 = nI 5 ∧ σ.1 (n + 9) 1 = nI 6)
/-- what every water keeps -/
def Okq (q : QS) : Prop :=
  (∀ k, k < 36 → q k ≤ 9) ∧ q 36 ≤ 3 ∧ q 37 ≤ 4 ∧ (∀ r, r < q 36 → q (38 + r) ≤ 5 ∧ q (41 + r) ≤ 9) ∧
  (∀ g, g < q 37 → q (44 + g) ≤ 5 ∧ 1 ≤ q (48 + g) ∧ q (48 + g) ≤ 40 ∧ q (52 + g) ≤ q (48 + g) ∧ q (56 + g) ≤ 999 ∧ q (60 + g) ≤ 7 ∧ q (64 + g) ≤ 999) ∧
  (∀ g, g < 4 → q 37 ≤ g → q (52 + g) = 0 ∧ q (56 + g) = 0 ∧ q (60 + g) = 0 ∧ q (64 + g) = 0) ∧
  q 68 ≤ 5 ∧ (∀ k, k < q 68 → q (69 + 4 * k) ≤ 2 ∧ q (70 + 4 * k) ≤ 9 ∧ q (71 + 4 * k) ≤ 99 ∧ q (72 + 4 * k) ≤ 99) ∧
  q 89 ≤ 6 ∧ (∀ k, k < q 89 → q (90 + 6 * k) ≤ 3 ∧ q (91 + 6 * k) ≤ 40 ∧ q (92 + 6 * k) ≤ q (91 + 6 * k) ∧ q (93 + 6 * k) ≤ 20 ∧ q (94 + 6 * k) ≤ 9 ∧ q (95 + 6 * k) ≤ 60) ∧
  q 126 ≤ 6 ∧ (∀ k, k < q 126 → q (127 + 5 * k) ≤ 2 ∧ q (128 + 5 * k) ≤ 9 ∧ q (129 + 5 * k) ≤ 9 ∧ q (130 + 5 * k) ≤ 99 ∧ q (131 + 5 * k) ≤ 99) ∧
  q 157 ≤ 8 ∧ (∀ u, u < q 157 → ∀ g, g < 4 → q (158 + 16 * u + g) ≤ q (48 + g) ∧ q (162 + 16 * u + g) ≤ 999 ∧ q (166 + 16 * u + g) ≤ 7 ∧ q (170 + 16 * u + g) ≤ 999 ∧
    (q 37 ≤ g → q (158 + 16 * u + g) = 0 ∧ q (162 + 16 * u + g) = 0 ∧ q (166 + 16 * u + g) = 0 ∧ q (170 + 16 * u + g) = 0))
abbrev Ab : Type := QS × (Nat → QS) × (Nat → Bool) × (Nat × (Nat → Nat)) × (Nat → Int32) × (Int64 × Int64)
/-- the class's cells spell the abstract state -/
def CI (A : Ab) (σ : St) : Prop :=
  RepC 1 A.1 σ ∧ (TW 1 σ ∧ TW 21 σ ∧ TW 74 σ ∧ TW 94 σ) ∧ (∀ i, i < 2 → σ.1 42 i = if A.2.2.1 i then 1 else 0) ∧ (∀ i, i < 2 → A.2.2.1 i = true → RepC (74 + 20 * i) (A.2.1 i) σ) ∧
  (σ.1 0 5 = nI A.2.2.2.1.1 ∧ ∀ j, j < A.2.2.2.1.1 → σ.1 43 j = nI (A.2.2.2.1.2 j)) ∧ (∀ i, i < 3 → σ.1 44 i = A.2.2.2.2.1 i) ∧ (σ.2 69 1 = A.2.2.2.2.2.1 ∧ σ.2 69 2 = A.2.2.2.2.2.2)
/-- so do the reference's -/
def MI (A : Ab) (σ : St) : Prop :=
  RepM 115 0 A.1 σ ∧ (∀ i, i < 2 → σ.1 118 i = if A.2.2.1 i then 1 else 0) ∧ (∀ i, i < 2 → A.2.2.1 i = true → RepM 117 (286 * i) (A.2.1 i) σ) ∧
  (σ.1 114 5 = nI A.2.2.2.1.1 ∧ ∀ j, j < A.2.2.2.1.1 → σ.1 119 j = nI (A.2.2.2.1.2 j)) ∧ (∀ i, i < 3 → σ.1 120 i = A.2.2.2.2.1 i) ∧ (σ.2 114 6 = A.2.2.2.2.2.1 ∧ σ.2 114 7 = A.2.2.2.2.2.2)
def OkA (A : Ab) : Prop := Okq A.1 ∧ (∀ i, i < 2 → A.2.2.1 i = true → Okq (A.2.1 i)) ∧ A.2.2.2.1.1 ≤ 150 ∧ ∀ j, j < A.2.2.2.1.1 → A.2.2.2.1.2 j ≤ 127
def Inv (σ : St) : Prop := ∃ A : Ab, OkA A ∧ CI A σ ∧ MI A σ
def Low (σ σ' : St) : Prop := ∀ i, 114 ≤ i → σ'.1 i = σ.1 i ∧ σ'.2 i = σ.2 i
def High (σ σ' : St) : Prop := ∀ i, i < 114 → σ'.1 i = σ.1 i ∧ σ'.2 i = σ.2 i
theorem TW.frame {n : Nat} {σ σ' : St} (h : TW n σ) (h5 : σ'.1 (n + 5) = σ.1 (n + 5)) (h7 : σ'.1 (n + 7) = σ.1 (n + 7)) (h9 : σ'.1 (n + 9) = σ.1 (n + 9)) : TW n σ' := by
  unfold TW; rw [h5, h7, h9]; exact h
theorem MI.low {A : Ab} {σ σ' : St} (h : MI A σ) (hl : Low σ σ') : MI A σ' := by
  obtain ⟨h1, h2, h3, h4, h5, h6⟩ := h
  exact ⟨h1.frame (hl 115 (by decide)).1, fun i hi => by rw [(hl 118 (by decide)).1]; exact h2 i hi, fun i hi hk => (h3 i hi hk).frame (hl 117 (by decide)).1, ⟨by rw [(hl 114 (by decide)).1]; exact h4.1, fun j hj => by rw [(hl 119 (by decide)).1]; exact h4.2 j hj⟩, fun i hi => by rw [(hl 120 (by decide)).1]; exact h5 i hi, by rw [(hl 114 (by decide)).2]; exact h6⟩
theorem CI.high {A : Ab} {σ σ' : St} (h : CI A σ) (hl : High σ σ') : CI A σ' := by
  obtain ⟨h1, ⟨t1, t2, t3, t4⟩, h2, h3, h4, h5, h6⟩ := h
  exact ⟨h1.frame (fun c hc => (hl _ (by omega)).1), ⟨t1.frame (hl _ (by decide)).1 (hl _ (by decide)).1 (hl _ (by decide)).1, t2.frame (hl _ (by decide)).1 (hl _ (by decide)).1 (hl _ (by decide)).1, t3.frame (hl _ (by decide)).1 (hl _ (by decide)).1 (hl _ (by decide)).1, t4.frame (hl _ (by decide)).1 (hl _ (by decide)).1 (hl _ (by decide)).1⟩, fun i hi => by rw [(hl 42 (by decide)).1]; exact h2 i hi, fun i hi hk => (h3 i hi hk).frame (fun c hc => (hl _ (by omega)).1), ⟨by rw [(hl 0 (by decide)).1]; exact h4.1, fun j hj => by rw [(hl 43 (by decide)).1]; exact h4.2 j hj⟩, fun i hi => by rw [(hl 44 (by decide)).1]; exact h5 i hi, by rw [(hl 69 (by decide)).2]; exact h6⟩
theorem Low.rfl' {σ : St} : Low σ σ := fun _ _ => ⟨rfl, rfl⟩
theorem High.rfl' {σ : St} : High σ σ := fun _ _ => ⟨rfl, rfl⟩
theorem Low.trans {σ σ1 σ2 : St} (h : Low σ σ1) (h2 : Low σ1 σ2) : Low σ σ2 := fun i hi => ⟨(h2 i hi).1.trans (h i hi).1, (h2 i hi).2.trans (h i hi).2⟩
theorem High.trans {σ σ1 σ2 : St} (h : High σ σ1) (h2 : High σ1 σ2) : High σ σ2 := fun i hi => ⟨(h2 i hi).1.trans (h i hi).1, (h2 i hi).2.trans (h i hi).2⟩
theorem Low.sI {σ : St} {i k : Nat} {v : Int32} (h : i < 114) : Low σ (sI σ i k v) := fun a ha => ⟨rdI_ne σ i k v (by omega), rfl⟩
theorem High.sI {σ : St} {i k : Nat} {v : Int32} (h : 114 ≤ i) : High σ (sI σ i k v) := fun a ha => ⟨rdI_ne σ i k v (by omega), rfl⟩
/-- one call of both sides: the class's, then the reference's -/
theorem sim_of {ρ : Type} {A : Ab} {σ : St} {f : St → Option (ρ × St)} {g : St → Option (ρ × St)} (hC : CI A σ) (hM : MI A σ)
    (h1 : ∃ (r : ρ) (A' : Ab), OkA A' ∧ (∃ σ1, f σ = some (r, σ1) ∧ CI A' σ1 ∧ Low σ σ1) ∧ ∀ σ1, MI A σ1 → ∃ σ2, g σ1 = some (r, σ2) ∧ MI A' σ2 ∧ High σ1 σ2) :
    ∃ (r : ρ) (σ1 σ2 : St), f σ = some (r, σ1) ∧ g σ1 = some (r, σ2) ∧ Inv σ2 := by
  obtain ⟨r, A', hO, ⟨σ1, e1, c1, l1⟩, h2⟩ := h1
  obtain ⟨σ2, e2, m2, l2⟩ := h2 σ1 (hM.low l1)
  exact ⟨r, σ1, σ2, e1, e2, A', hO, c1.high l2, m2⟩
/-- a refusal -/
def refA (A : Ab) (k : Nat) : Ab := (A.1, A.2.1, A.2.2.1, A.2.2.2.1, (fun i => if i = k then A.2.2.2.2.1 i + 1 else A.2.2.2.2.1 i), A.2.2.2.2.2)
theorem CI.ref {A : Ab} {σ : St} (h : CI A σ) {k : Nat} (hk : k < 3) : CI (refA A k) (sI σ 44 k (σ.1 44 k + 1)) := by
  obtain ⟨h1, ⟨t1, t2, t3, t4⟩, h2, h3, h4, h5, h6⟩ := h
  have F : ∀ a, a ≠ 44 → (sI σ 44 k (σ.1 44 k + 1)).1 a = σ.1 a := fun a ha => rdI_ne _ _ _ _ ha
  refine ⟨h1.frame (fun c hc => F _ (by omega)), ⟨t1.frame (F _ (by decide)) (F _ (by decide)) (F _ (by decide)), t2.frame (F _ (by decide)) (F _ (by decide)) (F _ (by decide)), t3.frame (F _ (by decide)) (F _ (by decide)) (F _ (by decide)), t4.frame (F _ (by decide)) (F _ (by decide)) (F _ (by decide))⟩, fun i hi => by rw [F 42 (by decide)]; exact h2 i hi, fun i hi hk => (h3 i hi hk).frame (fun c hc => F _ (by omega)), ⟨by rw [F 0 (by decide)]; exact h4.1, fun j hj => by rw [F 43 (by decide)]; exact h4.2 j hj⟩, fun i hi => ?_, h6⟩
  rw [rdI]
  show _ = if i = k then A.2.2.2.2.1 i + 1 else A.2.2.2.2.1 i
  by_cases e : i = k
  · subst e; rw [if_pos ⟨rfl, rfl⟩, if_pos rfl, h5 i hi]
  · rw [if_neg (by omega), if_neg e]; exact h5 i hi
theorem MI.ref {A : Ab} {σ : St} (h : MI A σ) {k : Nat} (hk : k < 3) : MI (refA A k) (sI σ 120 k (σ.1 120 k + 1)) := by
  obtain ⟨h1, h2, h3, h4, h5, h6⟩ := h
  have F : ∀ a, a ≠ 120 → (sI σ 120 k (σ.1 120 k + 1)).1 a = σ.1 a := fun a ha => rdI_ne _ _ _ _ ha
  refine ⟨h1.frame (F _ (by decide)), fun i hi => by rw [F 118 (by decide)]; exact h2 i hi, fun i hi hk => (h3 i hi hk).frame (F _ (by decide)), ⟨by rw [F 114 (by decide)]; exact h4.1, fun j hj => by rw [F 119 (by decide)]; exact h4.2 j hj⟩, fun i hi => ?_, h6⟩
  rw [rdI]
  show _ = if i = k then A.2.2.2.2.1 i + 1 else A.2.2.2.2.1 i
  by_cases e : i = k
  · subst e; rw [if_pos ⟨rfl, rfl⟩, if_pos rfl, h5 i hi]
  · rw [if_neg (by omega), if_neg e]; exact h5 i hi
theorem OkA.ref {A : Ab} (h : OkA A) (k : Nat) : OkA (refA A k) := h
/-- the water changes: only cells of the first Night have changed -/
theorem CI.setq {A : Ab} {σ σ' : St} {q' : QS} (h : CI A σ) (hq : RepC 1 q' σ') (ht : TW 1 σ') (hf : ∀ i, i < 114 → (i = 0 ∨ 21 ≤ i) → σ'.1 i = σ.1 i) (hf2 : σ'.2 = σ.2) : CI (q', A.2) σ' := by
  obtain ⟨h1, ⟨t1, t2, t3, t4⟩, h2, h3, h4, h5, h6⟩ := h
  have F : ∀ i, 21 ≤ i → i < 114 → σ'.1 i = σ.1 i := fun i h9 h8 => hf i h8 (Or.inr h9)
  exact ⟨hq, ⟨ht, t2.frame (F _ (by decide) (by decide)) (F _ (by decide) (by decide)) (F _ (by decide) (by decide)), t3.frame (F _ (by decide) (by decide)) (F _ (by decide) (by decide)) (F _ (by decide) (by decide)), t4.frame (F _ (by decide) (by decide)) (F _ (by decide) (by decide)) (F _ (by decide) (by decide))⟩, fun i hi => by rw [F 42 (by decide) (by decide)]; exact h2 i hi, fun i hi hk => (h3 i hi hk).frame (fun c hc => F _ (by omega) (by omega)), ⟨by rw [hf 0 (by decide) (Or.inl rfl)]; exact h4.1, fun j hj => by rw [F 43 (by decide) (by decide)]; exact h4.2 j hj⟩, fun i hi => by rw [F 44 (by decide) (by decide)]; exact h5 i hi, by rw [hf2]; exact h6⟩
theorem MI.setq {A : Ab} {σ σ' : St} {q' : QS} (h : MI A σ) (hq : RepM 115 0 q' σ') (hf : ∀ i, 117 ≤ i → i ≤ 120 → σ'.1 i = σ.1 i) (h5 : σ'.1 114 5 = σ.1 114 5) (hf2 : σ'.2 114 = σ.2 114) : MI (q', A.2) σ' := by
  obtain ⟨h1, h2, h3, h4, h6, h7⟩ := h
  exact ⟨hq, fun i hi => by rw [hf 118 (by decide) (by decide)]; exact h2 i hi, fun i hi hk => (h3 i hi hk).frame (hf 117 (by decide) (by decide)), ⟨by rw [h5]; exact h4.1, fun j hj => by rw [hf 119 (by decide) (by decide)]; exact h4.2 j hj⟩, fun i hi => by rw [hf 120 (by decide) (by decide)]; exact h6 i hi, by rw [hf2]; exact h7⟩
