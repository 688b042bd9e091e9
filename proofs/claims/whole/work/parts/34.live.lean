theorem lvD {q : QS} {p : Nat} (hp : p < 8) : live q (p) = (True) := by
  unfold live
  simp only [show (p) < 8 by omega, if_true, if_false]
theorem ccD {p : Nat} (hp : p < 8) : cC (p) = 1 := by
  unfold cC
  simp only [show (p) < 8 by omega, if_true, if_false]
theorem scD {p : Nat} (hp : p < 8) : sC (p) = p := by
  unfold sC
  simp only [show (p) < 8 by omega, if_true]
theorem lvK {q : QS} {r : Nat} (hr : r < 3) : live q (38 + r) = (r < q 36) := by
  unfold live
  simp only [show ¬ (38 + r) < 8 by omega, show ¬ (38 + r) < 36 by omega, show ¬ (38 + r) < 38 by omega, show (38 + r) < 41 by omega, if_true, if_false]
  apply propext
  constructor <;> intro h <;> omega
theorem ccK {r : Nat} (hr : r < 3) : cC (38 + r) = 13 + r := by
  unfold cC
  simp only [show ¬ (38 + r) < 8 by omega, show ¬ (38 + r) < 36 by omega, show ¬ (38 + r) < 38 by omega, show (38 + r) < 41 by omega, if_true, if_false]
  omega
theorem scK {r : Nat} (hr : r < 3) : sC (38 + r) = 0 := by
  unfold sC
  simp only [show ¬ (38 + r) < 8 by omega, show ¬ (38 + r) < 36 by omega, show ¬ (38 + r) < 38 by omega, show (38 + r) < 41 by omega, if_true, if_false]
theorem lvT {q : QS} {r : Nat} (hr : r < 3) : live q (41 + r) = (r < q 36) := by
  unfold live
  simp only [show ¬ (41 + r) < 8 by omega, show ¬ (41 + r) < 36 by omega, show ¬ (41 + r) < 38 by omega, show ¬ (41 + r) < 41 by omega, show (41 + r) < 44 by omega, if_true, if_false]
  apply propext
  constructor <;> intro h <;> omega
theorem ccT {r : Nat} (hr : r < 3) : cC (41 + r) = 13 + r := by
  unfold cC
  simp only [show ¬ (41 + r) < 8 by omega, show ¬ (41 + r) < 36 by omega, show ¬ (41 + r) < 38 by omega, show ¬ (41 + r) < 41 by omega, show (41 + r) < 44 by omega, if_true, if_false]
  omega
theorem scT {r : Nat} (hr : r < 3) : sC (41 + r) = 1 := by
  unfold sC
  simp only [show ¬ (41 + r) < 8 by omega, show ¬ (41 + r) < 36 by omega, show ¬ (41 + r) < 38 by omega, show ¬ (41 + r) < 41 by omega, show (41 + r) < 44 by omega, if_true, if_false]
theorem lvG {q : QS} {g f : Nat} (hg : g < 4) (hf : f < 6) : live q (44 + 4 * f + g) = (g < q 37) := by
  unfold live
  simp only [show ¬ (44 + 4 * f + g) < 8 by omega, show ¬ (44 + 4 * f + g) < 36 by omega, show ¬ (44 + 4 * f + g) < 38 by omega, show ¬ (44 + 4 * f + g) < 41 by omega, show ¬ (44 + 4 * f + g) < 44 by omega, show (44 + 4 * f + g) < 68 by omega, if_true, if_false]
  apply propext
  constructor <;> intro h <;> omega
theorem ccG {g f : Nat} (hg : g < 4) (hf : f < 6) : cC (44 + 4 * f + g) = 16 + g := by
  unfold cC
  simp only [show ¬ (44 + 4 * f + g) < 8 by omega, show ¬ (44 + 4 * f + g) < 36 by omega, show ¬ (44 + 4 * f + g) < 38 by omega, show ¬ (44 + 4 * f + g) < 41 by omega, show ¬ (44 + 4 * f + g) < 44 by omega, show (44 + 4 * f + g) < 68 by omega, if_true, if_false]
  omega
theorem scG {g f : Nat} (hg : g < 4) (hf : f < 6) : sC (44 + 4 * f + g) = f := by
  unfold sC
  simp only [show ¬ (44 + 4 * f + g) < 8 by omega, show ¬ (44 + 4 * f + g) < 36 by omega, show ¬ (44 + 4 * f + g) < 38 by omega, show ¬ (44 + 4 * f + g) < 41 by omega, show ¬ (44 + 4 * f + g) < 44 by omega, show (44 + 4 * f + g) < 68 by omega, if_true, if_false]
  omega
theorem lvS {q : QS} {j : Nat} (hj : j < 20) : live q (69 + j) = (j < 4 * q 68) := by
  unfold live
  simp only [show ¬ (69 + j) < 8 by omega, show ¬ (69 + j) < 36 by omega, show ¬ (69 + j) < 38 by omega, show ¬ (69 + j) < 41 by omega, show ¬ (69 + j) < 44 by omega, show ¬ (69 + j) < 68 by omega, show ¬ (69 + j) < 69 by omega, show (69 + j) < 89 by omega, if_true, if_false]
  apply propext
  constructor <;> intro h <;> omega
theorem ccS {j : Nat} (hj : j < 20) : cC (69 + j) = 6 := by
  unfold cC
  simp only [show ¬ (69 + j) < 8 by omega, show ¬ (69 + j) < 36 by omega, show ¬ (69 + j) < 38 by omega, show ¬ (69 + j) < 41 by omega, show ¬ (69 + j) < 44 by omega, show ¬ (69 + j) < 68 by omega, show ¬ (69 + j) < 69 by omega, show (69 + j) < 89 by omega, if_true, if_false]
theorem scS {j : Nat} (hj : j < 20) : sC (69 + j) = j := by
  unfold sC
  simp only [show ¬ (69 + j) < 8 by omega, show ¬ (69 + j) < 36 by omega, show ¬ (69 + j) < 38 by omega, show ¬ (69 + j) < 41 by omega, show ¬ (69 + j) < 44 by omega, show ¬ (69 + j) < 68 by omega, show ¬ (69 + j) < 69 by omega, show (69 + j) < 89 by omega, if_true, if_false]
  omega
theorem lvN {q : QS} {j : Nat} (hj : j < 36) : live q (90 + j) = (j < 6 * q 89) := by
  unfold live
  simp only [show ¬ (90 + j) < 8 by omega, show ¬ (90 + j) < 36 by omega, show ¬ (90 + j) < 38 by omega, show ¬ (90 + j) < 41 by omega, show ¬ (90 + j) < 44 by omega, show ¬ (90 + j) < 68 by omega, show ¬ (90 + j) < 69 by omega, show ¬ (90 + j) < 89 by omega, show ¬ (90 + j) < 90 by omega, show (90 + j) < 126 by omega, if_true, if_false]
  apply propext
  constructor <;> intro h <;> omega
theorem ccN {j : Nat} (hj : j < 36) : cC (90 + j) = 8 := by
  unfold cC
  simp only [show ¬ (90 + j) < 8 by omega, show ¬ (90 + j) < 36 by omega, show ¬ (90 + j) < 38 by omega, show ¬ (90 + j) < 41 by omega, show ¬ (90 + j) < 44 by omega, show ¬ (90 + j) < 68 by omega, show ¬ (90 + j) < 69 by omega, show ¬ (90 + j) < 89 by omega, show ¬ (90 + j) < 90 by omega, show (90 + j) < 126 by omega, if_true, if_false]
theorem scN {j : Nat} (hj : j < 36) : sC (90 + j) = j := by
  unfold sC
  simp only [show ¬ (90 + j) < 8 by omega, show ¬ (90 + j) < 36 by omega, show ¬ (90 + j) < 38 by omega, show ¬ (90 + j) < 41 by omega, show ¬ (90 + j) < 44 by omega, show ¬ (90 + j) < 68 by omega, show ¬ (90 + j) < 69 by omega, show ¬ (90 + j) < 89 by omega, show ¬ (90 + j) < 90 by omega, show (90 + j) < 126 by omega, if_true, if_false]
  omega
theorem lvM {q : QS} {j : Nat} (hj : j < 30) : live q (127 + j) = (j < 5 * q 126) := by
  unfold live
  simp only [show ¬ (127 + j) < 8 by omega, show ¬ (127 + j) < 36 by omega, show ¬ (127 + j) < 38 by omega, show ¬ (127 + j) < 41 by omega, show ¬ (127 + j) < 44 by omega, show ¬ (127 + j) < 68 by omega, show ¬ (127 + j) < 69 by omega, show ¬ (127 + j) < 89 by omega, show ¬ (127 + j) < 90 by omega, show ¬ (127 + j) < 126 by omega, show ¬ (127 + j) < 127 by omega, show (127 + j) < 157 by omega, if_true, if_false]
  apply propext
  constructor <;> intro h <;> omega
theorem ccM {j : Nat} (hj : j < 30) : cC (127 + j) = 10 := by
  unfold cC
  simp only [show ¬ (127 + j) < 8 by omega, show ¬ (127 + j) < 36 by omega, show ¬ (127 + j) < 38 by omega, show ¬ (127 + j) < 41 by omega, show ¬ (127 + j) < 44 by omega, show ¬ (127 + j) < 68 by omega, show ¬ (127 + j) < 69 by omega, show ¬ (127 + j) < 89 by omega, show ¬ (127 + j) < 90 by omega, show ¬ (127 + j) < 126 by omega, show ¬ (127 + j) < 127 by omega, show (127 + j) < 157 by omega, if_true, if_false]
theorem scM {j : Nat} (hj : j < 30) : sC (127 + j) = j := by
  unfold sC
  simp only [show ¬ (127 + j) < 8 by omega, show ¬ (127 + j) < 36 by omega, show ¬ (127 + j) < 38 by omega, show ¬ (127 + j) < 41 by omega, show ¬ (127 + j) < 44 by omega, show ¬ (127 + j) < 68 by omega, show ¬ (127 + j) < 69 by omega, show ¬ (127 + j) < 89 by omega, show ¬ (127 + j) < 90 by omega, show ¬ (127 + j) < 126 by omega, show ¬ (127 + j) < 127 by omega, show (127 + j) < 157 by omega, if_true, if_false]
  omega
theorem lvU {q : QS} {u g f : Nat} (hu : u < 8) (hg : g < 4) (hf : f < 4) : live q (158 + 16 * u + 4 * f + g) = (u < q 157 ∧ g < q 37) := by
  unfold live
  simp only [show ¬ (158 + 16 * u + 4 * f + g) < 8 by omega, show ¬ (158 + 16 * u + 4 * f + g) < 36 by omega, show ¬ (158 + 16 * u + 4 * f + g) < 38 by omega, show ¬ (158 + 16 * u + 4 * f + g) < 41 by omega, show ¬ (158 + 16 * u + 4 * f + g) < 44 by omega, show ¬ (158 + 16 * u + 4 * f + g) < 68 by omega, show ¬ (158 + 16 * u + 4 * f + g) < 69 by omega, show ¬ (158 + 16 * u + 4 * f + g) < 89 by omega, show ¬ (158 + 16 * u + 4 * f + g) < 90 by omega, show ¬ (158 + 16 * u + 4 * f + g) < 126 by omega, show ¬ (158 + 16 * u + 4 * f + g) < 127 by omega, show ¬ (158 + 16 * u + 4 * f + g) < 157 by omega, show ¬ (158 + 16 * u + 4 * f + g) < 158 by omega, if_true, if_false]
  apply propext
  constructor <;> intro h <;> omega
theorem ccU {u g f : Nat} (hu : u < 8) (hg : g < 4) (hf : f < 4) : cC (158 + 16 * u + 4 * f + g) = 12 := by
  unfold cC
  simp only [show ¬ (158 + 16 * u + 4 * f + g) < 8 by omega, show ¬ (158 + 16 * u + 4 * f + g) < 36 by omega, show ¬ (158 + 16 * u + 4 * f + g) < 38 by omega, show ¬ (158 + 16 * u + 4 * f + g) < 41 by omega, show ¬ (158 + 16 * u + 4 * f + g) < 44 by omega, show ¬ (158 + 16 * u + 4 * f + g) < 68 by omega, show ¬ (158 + 16 * u + 4 * f + g) < 69 by omega, show ¬ (158 + 16 * u + 4 * f + g) < 89 by omega, show ¬ (158 + 16 * u + 4 * f + g) < 90 by omega, show ¬ (158 + 16 * u + 4 * f + g) < 126 by omega, show ¬ (158 + 16 * u + 4 * f + g) < 127 by omega, show ¬ (158 + 16 * u + 4 * f + g) < 157 by omega, show ¬ (158 + 16 * u + 4 * f + g) < 158 by omega, if_true, if_false]
theorem scU {u g f : Nat} (hu : u < 8) (hg : g < 4) (hf : f < 4) : sC (158 + 16 * u + 4 * f + g) = 16 * u + 4 * g + f := by
  unfold sC
  simp only [show ¬ (158 + 16 * u + 4 * f + g) < 8 by omega, show ¬ (158 + 16 * u + 4 * f + g) < 36 by omega, show ¬ (158 + 16 * u + 4 * f + g) < 38 by omega, show ¬ (158 + 16 * u + 4 * f + g) < 41 by omega, show ¬ (158 + 16 * u + 4 * f + g) < 44 by omega, show ¬ (158 + 16 * u + 4 * f + g) < 68 by omega, show ¬ (158 + 16 * u + 4 * f + g) < 69 by omega, show ¬ (158 + 16 * u + 4 * f + g) < 89 by omega, show ¬ (158 + 16 * u + 4 * f + g) < 90 by omega, show ¬ (158 + 16 * u + 4 * f + g) < 126 by omega, show ¬ (158 + 16 * u + 4 * f + g) < 127 by omega, show ¬ (158 + 16 * u + 4 * f + g) < 157 by omega, show ¬ (158 + 16 * u + 4 * f + g) < 158 by omega, if_true, if_false]
  omega
theorem live_cases {q : QS} {P : Nat → Prop} (hD : ∀ p, p < 8 → P p) (hc : P 36 ∧ P 37 ∧ P 68 ∧ P 89 ∧ P 126 ∧ P 157) (hR : ∀ r, r < 3 → r < q 36 → P (38 + r) ∧ P (41 + r)) (hG : ∀ g f, g < 4 → f < 6 → g < q 37 → P (44 + 4 * f + g)) (hS : ∀ j, j < 20 → j < 4 * q 68 → P (69 + j)) (hN : ∀ j, j < 36 → j < 6 * q 89 → P (90 + j)) (hM : ∀ j, j < 30 → j < 5 * q 126 → P (127 + j)) (hU : ∀ u g f, u < 8 → g < 4 → f < 4 → u < q 157 → g < q 37 → P (158 + 16 * u + 4 * f + g)) : ∀ k, k < 286 → live q k → P k := by
  intro k hk h
  unfold live at h
  by_cases c1 : k < 8
  · exact hD k c1
  rw [if_neg c1] at h
  by_cases c2 : k < 36
  · rw [if_pos c2] at h; exact h.elim
  rw [if_neg c2] at h
  by_cases c3 : k < 38
  · rcases (show k = 36 ∨ k = 37 by omega) with e | e <;> rw [e]
    · exact hc.1
    · exact hc.2.1
  rw [if_neg c3] at h
  by_cases c4 : k < 41
  · rw [if_pos c4] at h
    have := (hR (k - 38) (by omega) h).1
    rwa [show 38 + (k - 38) = k by omega] at this
  rw [if_neg c4] at h
  by_cases c5 : k < 44
  · rw [if_pos c5] at h
    have := (hR (k - 41) (by omega) h).2
    rwa [show 41 + (k - 41) = k by omega] at this
  rw [if_neg c5] at h
  by_cases c6 : k < 68
  · rw [if_pos c6] at h
    have := hG ((k - 44) % 4) ((k - 44) / 4) (by omega) (by omega) h
    rwa [show 44 + 4 * ((k - 44) / 4) + (k - 44) % 4 = k by omega] at this
  rw [if_neg c6] at h
  by_cases c7 : k < 69
  · rw [show k = 68 by omega]; exact hc.2.2.1
  rw [if_neg c7] at h
  by_cases c8 : k < 89
  · rw [if_pos c8] at h
    have := hS (k - 69) (by omega) h
    rwa [show 69 + (k - 69) = k by omega] at this
  rw [if_neg c8] at h
  by_cases c9 : k < 90
  · rw [show k = 89 by omega]; exact hc.2.2.2.1
  rw [if_neg c9] at h
  by_cases c10 : k < 126
  · rw [if_pos c10] at h
    have := hN (k - 90) (by omega) h
    rwa [show 90 + (k - 90) = k by omega] at this
  rw [if_neg c10] at h
  by_cases c11 : k < 127
  · rw [show k = 126 by omega]; exact hc.2.2.2.2.1
  rw [if_neg c11] at h
  by_cases c12 : k < 157
  · rw [if_pos c12] at h
    have := hM (k - 127) (by omega) h
    rwa [show 127 + (k - 127) = k by omega] at this
  rw [if_neg c12] at h
  by_cases c13 : k < 158
  · rw [show k = 157 by omega]; exact hc.2.2.2.2.2
  rw [if_neg c13] at h
  have := hU ((k - 158) / 16) ((k - 158) % 4) ((k - 158) % 16 / 4) (by omega) (by omega) (by omega) h.1 h.2
  rwa [show 158 + 16 * ((k - 158) / 16) + 4 * ((k - 158) % 16 / 4) + (k - 158) % 4 = k by omega] at this
/-- a water with its numbers as they are but k, of which the class keeps the new one -/
theorem RepC.canal {n : Nat} {q : QS} {σ : St} (h : RepC n q σ) {a b : Nat} (ha : a < 8) (hb : b < 8) (hab : a ≠ b) (v : Nat) : RepC n (updQ q (cnl a b) v) (sI (sI σ (n + 2) (a * 8 + b) (nI v)) (n + 2) (b * 8 + a) (nI v)) := by
  have hr := cnl_rng a ha b hb hab
  constructor
  · intro k hk hl
    have hl2 : live q k := by
      have e : ∀ j, 36 ≤ j → updQ q (cnl a b) v j = q j := fun j hj => updQ_n _ _ (by omega)
      exact live_sub (e 36 (by omega)) (e 37 (by omega)) (Nat.le_of_eq (e 68 (by omega))) (Nat.le_of_eq (e 89 (by omega))) (Nat.le_of_eq (e 126 (by omega))) (Nat.le_of_eq (e 157 (by omega))) hl
    have hkn : k < 8 ∨ 36 ≤ k := by
      by_cases c1 : k < 8
      · exact Or.inl c1
      · by_cases c2 : k < 36
        · unfold live at hl2; rw [if_neg c1, if_pos c2] at hl2; exact hl2.elim
        · exact Or.inr (by omega)
    have hc2 := cC_ne2 k hk hkn
    rw [rdI, rdI, if_neg (by omega), if_neg (by omega), updQ_n _ _ (by omega)]
    exact h.1 k hk hl2
  · intro c d hc hd
    rw [rdI, rdI]
    by_cases e1 : c = b ∧ d = a
    · rw [if_pos ⟨rfl, by rw [e1.1, e1.2]⟩]
      obtain ⟨rfl, rfl⟩ := e1
      unfold stq
      rw [if_neg (Ne.symm hab), cnl_sym c hc d hd, updQ_s]
    · rw [if_neg (by omega)]
      by_cases e2 : c = a ∧ d = b
      · rw [if_pos ⟨rfl, by rw [e2.1, e2.2]⟩]
        obtain ⟨rfl, rfl⟩ := e2
        unfold stq
        rw [if_neg hab, updQ_s]
      · rw [if_neg (by omega), h.2 c d hc hd]
        unfold stq
        by_cases e3 : c = d
        · rw [if_pos e3, if_pos e3]
        · rw [if_neg e3, if_neg e3, updQ_n]
          intro z
          rcases cnl_inj hc hd e3 ha hb hab z with q1 | q1
          · exact e2 q1
          · exact e1 q1
theorem RepC.of {n : Nat} {q : QS} {P : Nat → Prop} {σ : St} (h : RepL n P q σ) (hc : CanC n q σ) (hl : ∀ k, k < 286 → live q k → P k) : RepC n q σ := ⟨h.mono hl, hc⟩
theorem CanC.set {n : Nat} {q : QS} {σ : St} (h : CanC n q σ) {k v c s : Nat} {x : Int32} (hk : k < 8 ∨ 36 ≤ k) (hc : c ≠ n + 2) : CanC n (updQ q k v) (sI σ c s x) := h.frame (rdI_ne _ _ _ _ (Ne.symm hc)) (fun _ _ ha hb => stq_upd hk ha hb)
theorem RepM.congr {a o : Nat} {q q' : QS} {σ : St} (h : RepM a o q σ) (he : ∀ k, k < 286 → q k = q' k) : RepM a o q' σ := fun k hk => by rw [← he k hk]; exact h k hk
/-- what may be undone is forgotten: the last number of the four kinds of counts -/
theorem Okq.low {q : QS} (h : Okq q) {p d : Nat} (hp : p < 36) (hd : d ≤ 9) : Okq (updQ (updQ q p d) 157 0) := by
  have e : ∀ j, 36 ≤ j → j ≠ 157 → updQ (updQ q p d) 157 0 j = q j := fun j h1 h2 => by rw [updQ_n _ _ h2, updQ_n _ _ (by omega)]
  have e0 : updQ (updQ q p d) 157 0 157 = 0 := updQ_s _ _ _
  obtain ⟨a1, a2, a3, a4, a5, a6, a7, a8, a9, a10, a11, a12, a13, a14⟩ := h
  refine ⟨fun k hk => ?_, ?_, ?_, fun r hr => ?_, fun g hg => ?_, fun g hg hg2 => ?_, ?_, fun k hk => ?_, ?_, fun k hk => ?_, ?_, fun k hk => ?_, ?_, fun u hu => ?_⟩
  · rw [updQ_n _ _ (by omega)]
    unfold updQ
    by_cases z : k = p
    · rw [if_pos z]; exact hd
    · rw [if_neg z]; exact a1 k hk
  · rw [e 36 (by omega) (by omega)]; exact a2
  · rw [e 37 (by omega) (by omega)]; exact a3
  · rw [e 36 (by omega) (by omega)] at hr
    rw [e (38 + r) (by omega) (by omega), e (41 + r) (by omega) (by omega)]; exact a4 r hr
  · rw [e 37 (by omega) (by omega)] at hg
    rw [e (44 + g) (by omega) (by omega), e (48 + g) (by omega) (by omega), e (52 + g) (by omega) (by omega), e (56 + g) (by omega) (by omega), e (60 + g) (by omega) (by omega), e (64 + g) (by omega) (by omega)]; exact a5 g hg
  · rw [e 37 (by omega) (by omega)] at hg2
    rw [e (52 + g) (by omega) (by omega), e (56 + g) (by omega) (by omega), e (60 + g) (by omega) (by omega), e (64 + g) (by omega) (by omega)]; exact a6 g hg hg2
  · rw [e 68 (by omega) (by omega)]; exact a7
  · rw [e 68 (by omega) (by omega)] at hk
    rw [e (69 + 4 * k) (by omega) (by omega), e (70 + 4 * k) (by omega) (by omega), e (71 + 4 * k) (by omega) (by omega), e (72 + 4 * k) (by omega) (by omega)]; exact a8 k hk
  · rw [e 89 (by omega) (by omega)]; exact a9
  · rw [e 89 (by omega) (by omega)] at hk
    rw [e (90 + 6 * k) (by omega) (by omega), e (91 + 6 * k) (by omega) (by omega), e (92 + 6 * k) (by omega) (by omega), e (93 + 6 * k) (by omega) (by omega), e (94 + 6 * k) (by omega) (by omega), e (95 + 6 * k) (by omega) (by omega)]; exact a10 k hk
  · rw [e 126 (by omega) (by omega)]; exact a11
  · rw [e 126 (by omega) (by omega)] at hk
    rw [e (127 + 5 * k) (by omega) (by omega), e (128 + 5 * k) (by omega) (by omega), e (129 + 5 * k) (by omega) (by omega), e (130 + 5 * k) (by omega) (by omega), e (131 + 5 * k) (by omega) (by omega)]; exact a12 k hk
  · rw [e0]; exact Nat.zero_le _
  · rw [e0] at hu; exact absurd hu (Nat.not_lt_zero u)
