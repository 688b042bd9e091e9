theorem live_sub {q q' : QS} (h36 : q' 36 = q 36) (h37 : q' 37 = q 37) (h68 : q' 68 ≤ q 68) (h89 : q' 89 ≤ q 89) (h126 : q' 126 ≤ q 126) (h157 : q' 157 ≤ q 157) {k : Nat} (h : live q' k) : live q k := by
  unfold live at h ⊢
  rw [h36, h37] at h
  by_cases c1 : k < 8
  · rw [if_pos c1]; trivial
  rw [if_neg c1] at h ⊢
  by_cases c2 : k < 36
  · rw [if_pos c2] at h; exact h.elim
  rw [if_neg c2] at h ⊢
  by_cases c3 : k < 38
  · rw [if_pos c3]; trivial
  rw [if_neg c3] at h ⊢
  by_cases c4 : k < 41
  · rw [if_pos c4] at h ⊢; exact h
  rw [if_neg c4] at h ⊢
  by_cases c5 : k < 44
  · rw [if_pos c5] at h ⊢; exact h
  rw [if_neg c5] at h ⊢
  by_cases c6 : k < 68
  · rw [if_pos c6] at h ⊢; exact h
  rw [if_neg c6] at h ⊢
  by_cases c7 : k < 69
  · rw [if_pos c7]; trivial
  rw [if_neg c7] at h ⊢
  by_cases c8 : k < 89
  · rw [if_pos c8] at h ⊢; omega
  rw [if_neg c8] at h ⊢
  by_cases c9 : k < 90
  · rw [if_pos c9]; trivial
  rw [if_neg c9] at h ⊢
  by_cases c10 : k < 126
  · rw [if_pos c10] at h ⊢; omega
  rw [if_neg c10] at h ⊢
  by_cases c11 : k < 127
  · rw [if_pos c11]; trivial
  rw [if_neg c11] at h ⊢
  by_cases c12 : k < 157
  · rw [if_pos c12] at h ⊢; omega
  rw [if_neg c12] at h ⊢
  by_cases c13 : k < 158
  · rw [if_pos c13]; trivial
  rw [if_neg c13] at h ⊢
  omega
/-- the class's canals, the reference's -/
theorem gSt {N n : Nat} {q : QS} {σ : St} (hc : CanC n q σ) {a b : Nat} (ha : a < 8) (hb : b < 8) : Ni_strokesBetween N n (nI a) (nI b) σ = some (nI (stq q a b)) := by
  unfold Ni_strokesBetween
  simp (disch := omega) only [litI, clI, subI, mulI, addI, eqI, leI, ltI, inI, ck_t, bS_e, bI_e, bL_e, bR_e, bW_e]
  rw [hc a b ha hb]
theorem mCn : ∀ a, a < 8 → ∀ b, b < 8 → a ≠ b → Mo_canalOf (nI a) (nI b) = nI (cnl a b) := by decide +kernel
theorem mSt {N : Nat} {A : Ab} {σ : St} (hM : MI A σ) {a b : Nat} (ha : a < 8) (hb : b < 8) : Mo_strokesOf N (nI a) (nI b) σ = some (nI (stq A.1 a b)) := by
  unfold Mo_strokesOf stq
  by_cases h : a = b
  · subst h; rw [if_pos rfl, if_pos rfl]; rfl
  · have hr := cnl_rng a ha b hb h
    rw [if_neg (fun e => h ((nI_eq (by omega) (by omega)).mp e)), if_neg h, mCn a ha b hb h]
    simp (disch := omega) only [litI, clI, subI, mulI, addI, eqI, leI, ltI, inI, ck_t, bS_e, bI_e, bL_e, bR_e, bW_e, mr hM]
theorem sim_strokes (N : Nat) : Sim_strokes N Inv := by
  intro σ hI v1 v2
  obtain ⟨A, hO, hC, hM⟩ := hI
  by_cases h1 : (0 : Int) ≤ v1.toInt ∧ v1.toInt ≤ 7
  · by_cases h2 : (0 : Int) ≤ v2.toInt ∧ v2.toInt ≤ 7
    · obtain ⟨a, -, ha, rfl⟩ := wv_nat (hi := 7) (by decide) h1
      obtain ⟨b, -, hb, rfl⟩ := wv_nat (hi := 7) (by decide) h2
      refine sim_rd (f := fun σ => Go_strokes N (nI a) (nI b) σ) (g := fun σ => Mo_strokes N (nI a) (nI b) σ) (r := nI (stq A.1 a b)) hO hC hM ?_ (fun σ1 m1 => ?_)
      · show Go_strokes N (nI a) (nI b) σ = _
        unfold Go_strokes
        rw [gPl, gPl, wv_1 h1, wv_1 h2, if_neg one_ne, if_neg one_ne, gSt hC.1.2 (by omega) (by omega), bR_e]
      · show Mo_strokes N (nI a) (nI b) σ1 = _
        unfold Mo_strokes
        rw [mPl, mPl, wv_1 h1, wv_1 h2, if_neg one_ne, if_neg one_ne, mSt m1 (by omega) (by omega), bR_e]
    · refine sim_ref (f := fun σ => Go_strokes N v1 v2 σ) (g := fun σ => Mo_strokes N v1 v2 σ) (r := -2) 0 (by decide) hO hC hM ?_ (fun σ1 m1 => ?_)
      · show Go_strokes N v1 v2 σ = _
        unfold Go_strokes Go_strokes_J14
        rw [gPl, gPl, wv_1 h1, wv_0 h2, if_neg one_ne, if_pos rfl, gBad, bW_e]
      · show Mo_strokes N v1 v2 σ1 = _
        unfold Mo_strokes Mo_strokes_J23
        rw [mPl, mPl, wv_1 h1, wv_0 h2, if_neg one_ne, if_pos rfl, mBad, bW_e]
  · refine sim_ref (f := fun σ => Go_strokes N v1 v2 σ) (g := fun σ => Mo_strokes N v1 v2 σ) (r := -2) 0 (by decide) hO hC hM ?_ (fun σ1 m1 => ?_)
    · show Go_strokes N v1 v2 σ = _
      unfold Go_strokes Go_strokes_J14
      rw [gPl, wv_0 h1, if_pos rfl, gBad, bW_e]
    · show Mo_strokes N v1 v2 σ1 = _
      unfold Mo_strokes Mo_strokes_J23
      rw [mPl, wv_0 h1, if_pos rfl, mBad, bW_e]
theorem sim_of' (N : Nat) : Sim_of N Inv := by
  intro σ hI v1 v2
  obtain ⟨A, hO, hC, hM⟩ := hI
  have h37 := hO.1.2.2.1
  by_cases h1 : (0 : Int) ≤ v1.toInt ∧ v1.toInt ≤ (A.1 37 : Int) - 1
  · by_cases h2 : (0 : Int) ≤ v2.toInt ∧ v2.toInt ≤ 5
    · obtain ⟨g, hg, rfl⟩ := wv_lt h1
      obtain ⟨k, -, hk, rfl⟩ := wv_nat (hi := 5) (by decide) h2
      refine sim_rd (f := fun σ => Go_of N (nI g) (nI k) σ) (g := fun σ => Mo_of N (nI g) (nI k) σ) (r := nI (A.1 (44 + 4 * k + g))) hO hC hM ?_ (fun σ1 m1 => ?_)
      · show Go_of N (nI g) (nI k) σ = _
        unfold Go_of
        rw [gGu hO hC, bR_e, wv_1 h1, if_neg one_ne, gW5, wv_1 h2, if_neg one_ne]
        simp (disch := omega) only [litI, clI, subI, mulI, addI, eqI, leI, ltI, inI, ck_t, bS_e, bI_e, bL_e, bR_e, bW_e]
        have e : Gu_fact N (1 + 16 + g) (nI k) σ = some (nI (A.1 (44 + 4 * k + g))) := by
          rw [← cG hC hg h37 (by omega : k < 6)]
          unfold Gu_fact
          match k, hk with
          | 0, _ => rw [if_pos (by decide)]
          | 1, _ => rw [if_neg (by decide), if_pos (by decide)]
          | 2, _ => rw [if_neg (by decide), if_neg (by decide), if_pos (by decide)]
          | 3, _ => rw [if_neg (by decide), if_neg (by decide), if_neg (by decide), if_pos (by decide)]
          | 4, _ => rw [if_neg (by decide), if_neg (by decide), if_neg (by decide), if_neg (by decide), if_pos (by decide)]
          | 5, _ => rw [if_neg (by decide), if_neg (by decide), if_neg (by decide), if_neg (by decide), if_neg (by decide)]
        rw [e, bR_e]
      · show Mo_of N (nI g) (nI k) σ1 = _
        unfold Mo_of
        rw [mGu hO m1, bR_e, wv_1 h1, if_neg one_ne, mW5, wv_1 h2, if_neg one_ne]
        simp (disch := omega) only [litI, clI, subI, mulI, addI, eqI, leI, ltI, inI, ck_t, bS_e, bI_e, bL_e, bR_e, bW_e, mr m1]
    · refine sim_ref (f := fun σ => Go_of N v1 v2 σ) (g := fun σ => Mo_of N v1 v2 σ) (r := -2) 0 (by decide) hO hC hM ?_ (fun σ1 m1 => ?_)
      · show Go_of N v1 v2 σ = _
        unfold Go_of Go_of_J17
        rw [gGu hO hC, bR_e, wv_1 h1, if_neg one_ne, gW5, wv_0 h2, if_pos rfl, gBad, bW_e]
      · show Mo_of N v1 v2 σ1 = _
        unfold Mo_of Mo_of_J36
        rw [mGu hO m1, bR_e, wv_1 h1, if_neg one_ne, mW5, wv_0 h2, if_pos rfl, mBad, bW_e]
  · refine sim_ref (f := fun σ => Go_of N v1 v2 σ) (g := fun σ => Mo_of N v1 v2 σ) (r := -2) 0 (by decide) hO hC hM ?_ (fun σ1 m1 => ?_)
    · show Go_of N v1 v2 σ = _
      unfold Go_of Go_of_J17
      rw [gGu hO hC, bR_e, wv_0 h1, if_pos rfl, gBad, bW_e]
    · show Mo_of N v1 v2 σ1 = _
      unfold Mo_of Mo_of_J36
      rw [mGu hO m1, bR_e, wv_0 h1, if_pos rfl, mBad, bW_e]
