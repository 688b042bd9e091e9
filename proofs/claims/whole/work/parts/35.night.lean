/-! a Night's cells, from n on: what they spell, what else is left as it was -/
def Fr (n : Nat) (σ σ' : St) : Prop := (∀ i, (i < n ∨ n + 20 ≤ i) → σ'.1 i = σ.1 i) ∧ σ'.2 = σ.2
theorem Fr.rfl' {n : Nat} {σ : St} : Fr n σ σ := ⟨fun _ _ => rfl, rfl⟩
theorem Fr.trans {n : Nat} {σ σ1 σ2 : St} (h : Fr n σ σ1) (h2 : Fr n σ1 σ2) : Fr n σ σ2 := ⟨fun i hi => (h2.1 i hi).trans (h.1 i hi), h2.2.trans h.2⟩
theorem Fr.wr {n : Nat} {σ : St} {i k : Nat} {v : Int32} (h : n ≤ i ∧ i < n + 20) : Fr n σ (sI σ i k v) := ⟨fun a ha => rdI_ne σ i k v (by omega), rfl⟩
theorem Fr.low {σ σ' : St} (h : Fr 1 σ σ') : Low σ σ' := fun i hi => ⟨h.1 i (Or.inr (by omega)), by rw [h.2]⟩
theorem wd_ne : ∀ k, k < 286 → (cC k = 5 ∨ cC k = 7 ∨ cC k = 9) → sC k = 3 := by decide +kernel
def NP (n : Nat) (P : Nat → Prop) (q : QS) (σ : St) : Prop := RepL n P q σ ∧ CanC n q σ ∧ TW n σ
def NR (n : Nat) (q : QS) (σ : St) : Prop := RepC n q σ ∧ TW n σ
theorem NR.np {n : Nat} {q : QS} {σ : St} (h : NR n q σ) : NP n (live q) q σ := ⟨h.1.1, h.1.2, h.2⟩
theorem NP.nr {n : Nat} {q : QS} {P : Nat → Prop} {σ : St} (h : NP n P q σ) (hl : ∀ k, k < 286 → live q k → P k) : NR n q σ := ⟨⟨h.1.mono hl, h.2.1⟩, h.2.2⟩
theorem NP.set {n : Nat} {q : QS} {P : Nat → Prop} {σ : St} (h : NP n P q σ) {k : Nat} (hk : k < 286) (hk2 : k < 8 ∨ 36 ≤ k) (v : Nat) : NP n (fun j => P j ∨ j = k) (updQ q k v) (sI σ (n + cC k) (sC k) (nI v)) := by
  refine ⟨h.1.set hk v, h.2.1.set hk2 (by have := cC_ne2 k hk hk2; omega), ?_⟩
  have w := wd_ne k hk
  obtain ⟨⟨t1, t2⟩, ⟨t3, t4⟩, ⟨t5, t6⟩⟩ := h.2.2
  refine ⟨⟨?_, ?_⟩, ⟨?_, ?_⟩, ⟨?_, ?_⟩⟩ <;> rw [rdI, if_neg (by intro z; have := w (by omega); omega)] <;> assumption
/-- the same, with cell and place named -/
theorem NP.put {n : Nat} {q : QS} {P : Nat → Prop} {σ : St} (h : NP n P q σ) {k c s v : Nat} (hk : k < 286) (hk2 : k < 8 ∨ 36 ≤ k) (hc : c = n + cC k) (hs : s = sC k) : NP n (fun j => P j ∨ j = k) (updQ q k v) (sI σ c s (nI v)) := by
  rw [hc, hs]; exact h.set hk hk2 v
theorem NP.mono {n : Nat} {q : QS} {P P' : Nat → Prop} {σ : St} (h : NP n P q σ) (hl : ∀ k, k < 286 → P' k → P k) : NP n P' q σ := ⟨h.1.mono hl, h.2.1, h.2.2⟩
/-- which numbers are live that weren't -/
theorem live_new {q q' : QS} {P : Nat → Prop} (hs : ∀ k, live q k → P k) (hR : ∀ r, r < 3 → q 36 ≤ r → r < q' 36 → P (38 + r) ∧ P (41 + r)) (hG : ∀ g f, g < 4 → f < 6 → q 37 ≤ g → g < q' 37 → P (44 + 4 * f + g)) (hS : ∀ j, j < 20 → 4 * q 68 ≤ j → j < 4 * q' 68 → P (69 + j)) (hN : ∀ j, j < 36 → 6 * q 89 ≤ j → j < 6 * q' 89 → P (90 + j)) (hM : ∀ j, j < 30 → 5 * q 126 ≤ j → j < 5 * q' 126 → P (127 + j)) (hU : ∀ u g f, u < 8 → g < 4 → f < 4 → u < q' 157 → g < q' 37 → ¬ (u < q 157 ∧ g < q 37) → P (158 + 16 * u + 4 * f + g)) : ∀ k, k < 286 → live q' k → P k := by
  apply live_cases
  · intro p hp; exact hs p (by rw [lvD hp]; trivial)
  · exact ⟨hs 36 (by simp [live]), hs 37 (by simp [live]), hs 68 (by simp [live]), hs 89 (by simp [live]), hs 126 (by simp [live]), hs 157 (by simp [live])⟩
  · intro r hr h
    rcases Nat.lt_or_ge r (q 36) with c | c
    · exact ⟨hs _ (by rw [lvK hr]; exact c), hs _ (by rw [lvT hr]; exact c)⟩
    · exact hR r hr c h
  · intro g f hg hf h
    rcases Nat.lt_or_ge g (q 37) with c | c
    · exact hs _ (by rw [lvG hg hf]; exact c)
    · exact hG g f hg hf c h
  · intro j hj h
    rcases Nat.lt_or_ge j (4 * q 68) with c | c
    · exact hs _ (by rw [lvS hj]; exact c)
    · exact hS j hj c h
  · intro j hj h
    rcases Nat.lt_or_ge j (6 * q 89) with c | c
    · exact hs _ (by rw [lvN hj]; exact c)
    · exact hN j hj c h
  · intro j hj h
    rcases Nat.lt_or_ge j (5 * q 126) with c | c
    · exact hs _ (by rw [lvM hj]; exact c)
    · exact hM j hj c h
  · intro u g f hu hg hf h1 h2
    by_cases c : u < q 157 ∧ g < q 37
    · exact hs _ (by rw [lvU hu hg hf]; exact c)
    · exact hU u g f hu hg hf h1 h2 c
/-! what a water keeps, by blocks -/
def BD (q : QS) : Prop := ∀ k, k < 36 → q k ≤ 9
def BR (q : QS) : Prop := q 36 ≤ 3 ∧ ∀ r, r < q 36 → q (38 + r) ≤ 5 ∧ q (41 + r) ≤ 9
def BG (q : QS) : Prop := q 37 ≤ 4 ∧ (∀ g, g < q 37 → q (44 + g) ≤ 5 ∧ 1 ≤ q (48 + g) ∧ q (48 + g) ≤ 40 ∧ q (52 + g) ≤ q (48 + g) ∧ q (56 + g) ≤ 999 ∧ q (60 + g) ≤ 7 ∧ q (64 + g) ≤ 999) ∧ (∀ g, g < 4 → q 37 ≤ g → q (52 + g) = 0 ∧ q (56 + g) = 0 ∧ q (60 + g) = 0 ∧ q (64 + g) = 0)
def BS (q : QS) : Prop := q 68 ≤ 5 ∧ (∀ k, k < q 68 → q (69 + 4 * k) ≤ 2 ∧ q (70 + 4 * k) ≤ 9 ∧ q (71 + 4 * k) ≤ 99 ∧ q (72 + 4 * k) ≤ 99)
def BN (q : QS) : Prop := q 89 ≤ 6 ∧ (∀ k, k < q 89 → q (90 + 6 * k) ≤ 3 ∧ q (91 + 6 * k) ≤ 40 ∧ q (92 + 6 * k) ≤ q (91 + 6 * k) ∧ q (93 + 6 * k) ≤ 20 ∧ q (94 + 6 * k) ≤ 9 ∧ q (95 + 6 * k) ≤ 60)
def BM (q : QS) : Prop := q 126 ≤ 6 ∧ (∀ k, k < q 126 → q (127 + 5 * k) ≤ 2 ∧ q (128 + 5 * k) ≤ 9 ∧ q (129 + 5 * k) ≤ 9 ∧ q (130 + 5 * k) ≤ 99 ∧ q (131 + 5 * k) ≤ 99)
def BU (q : QS) : Prop := q 157 ≤ 8 ∧ (∀ u, u < q 157 → ∀ g, g < 4 → q (158 + 16 * u + g) ≤ q (48 + g) ∧ q (162 + 16 * u + g) ≤ 999 ∧ q (166 + 16 * u + g) ≤ 7 ∧ q (170 + 16 * u + g) ≤ 999 ∧
    (q 37 ≤ g → q (158 + 16 * u + g) = 0 ∧ q (162 + 16 * u + g) = 0 ∧ q (166 + 16 * u + g) = 0 ∧ q (170 + 16 * u + g) = 0))
theorem Okq.iff {q : QS} : Okq q ↔ BD q ∧ BR q ∧ BG q ∧ BS q ∧ BN q ∧ BM q ∧ BU q :=
  ⟨fun ⟨a1, a2, a3, a4, a5, a6, a7, a8, a9, a10, a11, a12, a13, a14⟩ => ⟨a1, ⟨a2, a4⟩, ⟨a3, a5, a6⟩, ⟨a7, a8⟩, ⟨a9, a10⟩, ⟨a11, a12⟩, a13, a14⟩, fun ⟨a1, ⟨a2, a4⟩, ⟨a3, a5, a6⟩, ⟨a7, a8⟩, ⟨a9, a10⟩, ⟨a11, a12⟩, a13, a14⟩ => ⟨a1, a2, a3, a4, a5, a6, a7, a8, a9, a10, a11, a12, a13, a14⟩⟩
theorem BD.congr {q q' : QS} (h : BD q) (e : ∀ j, j < 36 → q' j = q j) : BD q' := fun k hk => by rw [e k hk]; exact h k hk
theorem BR.congr {q q' : QS} (h : BR q) (e : ∀ j, 36 ≤ j → j < 44 → j ≠ 37 → q' j = q j) : BR q' := by
  obtain ⟨h1, h2⟩ := h
  refine ⟨by rw [e 36 (by omega) (by omega) (by omega)]; exact h1, fun r hr => ?_⟩
  rw [e 36 (by omega) (by omega) (by omega)] at hr
  rw [e (38 + r) (by omega) (by omega) (by omega), e (41 + r) (by omega) (by omega) (by omega)]; exact h2 r hr
theorem BG.congr {q q' : QS} (h : BG q) (e : ∀ j, (j = 37 ∨ 44 ≤ j) → j < 68 → q' j = q j) : BG q' := by
  obtain ⟨h1, h2, h3⟩ := h
  have e37 := e 37 (by omega) (by omega)
  refine ⟨by rw [e37]; exact h1, fun g hg => ?_, fun g hg hg2 => ?_⟩
  · rw [e37] at hg
    rw [e (44 + g) (by omega) (by omega), e (48 + g) (by omega) (by omega), e (52 + g) (by omega) (by omega), e (56 + g) (by omega) (by omega), e (60 + g) (by omega) (by omega), e (64 + g) (by omega) (by omega)]; exact h2 g hg
  · rw [e37] at hg2
    rw [e (52 + g) (by omega) (by omega), e (56 + g) (by omega) (by omega), e (60 + g) (by omega) (by omega), e (64 + g) (by omega) (by omega)]; exact h3 g hg hg2
theorem BS.congr {q q' : QS} (h : BS q) (e : ∀ j, 68 ≤ j → j < 89 → q' j = q j) : BS q' := by
  obtain ⟨h1, h2⟩ := h
  refine ⟨by rw [e 68 (by omega) (by omega)]; exact h1, fun k hk => ?_⟩
  rw [e 68 (by omega) (by omega)] at hk
  rw [e (69 + 4 * k) (by omega) (by omega), e (70 + 4 * k) (by omega) (by omega), e (71 + 4 * k) (by omega) (by omega), e (72 + 4 * k) (by omega) (by omega)]; exact h2 k hk
theorem BN.congr {q q' : QS} (h : BN q) (e : ∀ j, 89 ≤ j → j < 126 → q' j = q j) : BN q' := by
  obtain ⟨h1, h2⟩ := h
  refine ⟨by rw [e 89 (by omega) (by omega)]; exact h1, fun k hk => ?_⟩
  rw [e 89 (by omega) (by omega)] at hk
  rw [e (90 + 6 * k) (by omega) (by omega), e (91 + 6 * k) (by omega) (by omega), e (92 + 6 * k) (by omega) (by omega), e (93 + 6 * k) (by omega) (by omega), e (94 + 6 * k) (by omega) (by omega), e (95 + 6 * k) (by omega) (by omega)]; exact h2 k hk
theorem BM.congr {q q' : QS} (h : BM q) (e : ∀ j, 126 ≤ j → j < 157 → q' j = q j) : BM q' := by
  obtain ⟨h1, h2⟩ := h
  refine ⟨by rw [e 126 (by omega) (by omega)]; exact h1, fun k hk => ?_⟩
  rw [e 126 (by omega) (by omega)] at hk
  rw [e (127 + 5 * k) (by omega) (by omega), e (128 + 5 * k) (by omega) (by omega), e (129 + 5 * k) (by omega) (by omega), e (130 + 5 * k) (by omega) (by omega), e (131 + 5 * k) (by omega) (by omega)]; exact h2 k hk
theorem BU.congr {q q' : QS} (h : BU q) (e : ∀ j, j = 37 ∨ (48 ≤ j ∧ j < 52) ∨ (157 ≤ j ∧ j < 286) → q' j = q j) : BU q' := by
  obtain ⟨h1, h2⟩ := h
  refine ⟨by rw [e 157 (by omega)]; exact h1, fun u hu g hg => ?_⟩
  rw [e 157 (by omega)] at hu
  rw [e 37 (by omega), e (48 + g) (by omega), e (158 + 16 * u + g) (by omega), e (162 + 16 * u + g) (by omega), e (166 + 16 * u + g) (by omega), e (170 + 16 * u + g) (by omega)]; exact h2 u hu g hg
theorem BU.zero {q : QS} (h : q 157 = 0) : BU q := ⟨by omega, fun u hu => by omega⟩
/-- the class's side, the reference's side of a call that changes the water -/
theorem CI.night {A : Ab} {σ σ' : St} {q' : QS} (h : CI A σ) (hq : NR 1 q' σ') (hf : Fr 1 σ σ') : CI (q', A.2) σ' :=
  h.setq hq.1 hq.2 (fun i h1 h2 => hf.1 i (by omega)) hf.2
theorem CI.nr {A : Ab} {σ : St} (h : CI A σ) : NR 1 A.1 σ := ⟨h.1, h.2.1.1⟩
/-- the reference's row changes, and scratch: what else it keeps stays -/
def Gr (σ σ' : St) : Prop := (∀ i, i < 114 → σ'.1 i = σ.1 i) ∧ (∀ i, 117 ≤ i → i ≤ 120 → σ'.1 i = σ.1 i) ∧ σ'.1 114 5 = σ.1 114 5 ∧ σ'.2 = σ.2
theorem Gr.rfl' {σ : St} : Gr σ σ := ⟨fun _ _ => rfl, fun _ _ _ => rfl, rfl, rfl⟩
theorem Gr.trans {σ σ1 σ2 : St} (h : Gr σ σ1) (h2 : Gr σ1 σ2) : Gr σ σ2 := ⟨fun i hi => (h2.1 i hi).trans (h.1 i hi), fun i hi hj => (h2.2.1 i hi hj).trans (h.2.1 i hi hj), h2.2.2.1.trans h.2.2.1, h2.2.2.2.trans h.2.2.2⟩
theorem Gr.wr {σ : St} {i k : Nat} {v : Int32} (h : 115 ≤ i) (h2 : i < 117 ∨ 120 < i) : Gr σ (sI σ i k v) := ⟨fun a ha => rdI_ne σ i k v (by omega), fun a ha hb => rdI_ne σ i k v (by omega), by rw [rdI_ne σ i k v (by omega)], rfl⟩
theorem Gr.wr0 {σ : St} {k : Nat} {v : Int32} (h : k ≠ 5) : Gr σ (sI σ 114 k v) := ⟨fun a ha => rdI_ne σ 114 k v (by omega), fun a ha hb => rdI_ne σ 114 k v (by omega), by rw [rdI, if_neg (by omega)], rfl⟩
theorem Gr.high {σ σ' : St} (h : Gr σ σ') : High σ σ' := fun i hi => ⟨h.1 i hi, by rw [h.2.2.2]⟩
theorem MI.row {A : Ab} {σ σ' : St} {q' : QS} (h : MI A σ) (hq : RepM 115 0 q' σ') (hf : Gr σ σ') : MI (q', A.2) σ' :=
  h.setq hq hf.2.1 hf.2.2.1 (by rw [hf.2.2.2])
theorem RepM.put {q : QS} {σ : St} (h : RepM 115 0 q σ) {k : Nat} (v : Nat) : RepM 115 0 (updQ q k v) (sI σ 115 k (nI v)) := by
  have := h.set k v
  rwa [Nat.zero_add] at this
theorem RepM.get {q : QS} {σ : St} (h : RepM 115 0 q σ) {k : Nat} (hk : k < 286) : σ.1 115 k = nI (q k) := by
  have := h k hk
  rwa [Nat.zero_add] at this
theorem NR.get {n : Nat} {q : QS} {σ : St} (h : NR n q σ) {k c s : Nat} (hk : k < 286) (hl : live q k) (hc : c = n + cC k) (hs : s = sC k) : σ.1 c s = nI (q k) := by
  rw [hc, hs]; exact h.1.1 k hk hl
theorem NR.cnt {n : Nat} {q : QS} {σ : St} (h : NR n q σ) : σ.1 n 4 = nI (q 36) ∧ σ.1 n 5 = nI (q 37) ∧ σ.1 (n + 5) 3 = nI (q 68) ∧ σ.1 (n + 7) 3 = nI (q 89) ∧ σ.1 (n + 9) 3 = nI (q 126) ∧ σ.1 (n + 11) 1 = nI (q 157) :=
  ⟨h.1.1 36 (by decide) (by simp [live]), h.1.1 37 (by decide) (by simp [live]), h.1.1 68 (by decide) (by simp [live]), h.1.1 89 (by decide) (by simp [live]), h.1.1 126 (by decide) (by simp [live]), h.1.1 157 (by decide) (by simp [live])⟩
theorem NR.dark {n : Nat} {q : QS} {σ : St} (h : NR n q σ) {p : Nat} (hp : p < 8) : σ.1 (n + 1) p = nI (q p) := h.get (k := p) (by omega) (by rw [lvD hp]; trivial) (by rw [ccD hp]) (by rw [scD hp])
theorem NR.row {n : Nat} {q : QS} {σ : St} (h : NR n q σ) {r : Nat} (hr : r < 3) (h2 : r < q 36) : σ.1 (n + 13 + r) 0 = nI (q (38 + r)) ∧ σ.1 (n + 13 + r) 1 = nI (q (41 + r)) :=
  ⟨h.get (k := 38 + r) (by omega) (by rw [lvK hr]; exact h2) (by rw [ccK hr, Nat.add_assoc]) (by rw [scK hr]), h.get (k := 41 + r) (by omega) (by rw [lvT hr]; exact h2) (by rw [ccT hr, Nat.add_assoc]) (by rw [scT hr])⟩
theorem NR.gst {n : Nat} {q : QS} {σ : St} (h : NR n q σ) {g f : Nat} (hg : g < 4) (hf : f < 6) (h2 : g < q 37) : σ.1 (n + 16 + g) f = nI (q (44 + 4 * f + g)) :=
  h.get (k := 44 + 4 * f + g) (by omega) (by rw [lvG hg hf]; exact h2) (by rw [ccG hg hf, Nat.add_assoc]) (by rw [scG hg hf])
theorem Okq.b {q : QS} (h : Okq q) : BD q ∧ BR q ∧ BG q ∧ BS q ∧ BN q ∧ BM q ∧ BU q := Okq.iff.mp h
theorem OkA.q {A : Ab} {q' : QS} (h : OkA A) (hq : Okq q') : OkA (q', A.2) := ⟨hq, h.2⟩
