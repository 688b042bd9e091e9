theorem sim_rows (N : Nat) (hN : 300 < N) : Sim_rows N Inv := by
  intro σ hI v1 v2 v3
  obtain ⟨A, hO, hC, hM⟩ := hI
  have hq := hO.1
  have h36 := hO.1.2.1
  have h37 := hO.1.2.2.1
  by_cases h1 : (0 : Int) ≤ v1.toInt ∧ v1.toInt ≤ (A.1 37 : Int) - 1
  rotate_left
  · refine sim_ref (f := fun σ => Go_rows N v1 v2 v3 σ) (g := fun σ => Mo_rows N v1 v2 v3 σ) (r := -2) 0 (by decide) hO hC hM ?_ (fun σ1 m1 => ?_)
    · show Go_rows N v1 v2 v3 σ = _
      simp only [Go_rows_J23, Go_rows, gGu hO hC, gRo hO hC, gPl, bR_e, bW_e, gBad, gFarBad, eq_self, one_ne, if_true, if_false, not_false_eq_true, not_true_eq_false, wv_0 h1]
    · show Mo_rows N v1 v2 v3 σ1 = _
      simp only [Mo_rows_J23, Mo_rows, mGu hO m1, mRo hO m1, mPl, bR_e, bW_e, mBad, eq_self, one_ne, if_true, if_false, not_false_eq_true, not_true_eq_false, wv_0 h1]
  by_cases h2 : (0 : Int) ≤ v2.toInt ∧ v2.toInt ≤ (A.1 36 : Int) - 1
  rotate_left
  · refine sim_ref (f := fun σ => Go_rows N v1 v2 v3 σ) (g := fun σ => Mo_rows N v1 v2 v3 σ) (r := -2) 0 (by decide) hO hC hM ?_ (fun σ1 m1 => ?_)
    · show Go_rows N v1 v2 v3 σ = _
      simp only [Go_rows_J23, Go_rows, gGu hO hC, gRo hO hC, gPl, bR_e, bW_e, gBad, gFarBad, eq_self, one_ne, if_true, if_false, not_false_eq_true, not_true_eq_false, wv_1 h1, wv_0 h2]
    · show Mo_rows N v1 v2 v3 σ1 = _
      simp only [Mo_rows_J23, Mo_rows, mGu hO m1, mRo hO m1, mPl, bR_e, bW_e, mBad, eq_self, one_ne, if_true, if_false, not_false_eq_true, not_true_eq_false, wv_1 h1, wv_0 h2]
  by_cases h3 : (0 : Int) ≤ v3.toInt ∧ v3.toInt ≤ 7
  rotate_left
  · refine sim_ref (f := fun σ => Go_rows N v1 v2 v3 σ) (g := fun σ => Mo_rows N v1 v2 v3 σ) (r := -2) 0 (by decide) hO hC hM ?_ (fun σ1 m1 => ?_)
    · show Go_rows N v1 v2 v3 σ = _
      simp only [Go_rows_J23, Go_rows, gGu hO hC, gRo hO hC, gPl, bR_e, bW_e, gBad, gFarBad, eq_self, one_ne, if_true, if_false, not_false_eq_true, not_true_eq_false, wv_1 h1, wv_1 h2, wv_0 h3]
    · show Mo_rows N v1 v2 v3 σ1 = _
      simp only [Mo_rows_J23, Mo_rows, mGu hO m1, mRo hO m1, mPl, bR_e, bW_e, mBad, eq_self, one_ne, if_true, if_false, not_false_eq_true, not_true_eq_false, wv_1 h1, wv_1 h2, wv_0 h3]
  obtain ⟨a1, b1, rfl⟩ := wv_lt h1
  obtain ⟨a2, b2, rfl⟩ := wv_lt h2
  obtain ⟨a3, -, b3, rfl⟩ := wv_nat (hi := 7) (by decide) h3
  obtain ⟨q1, q2, q3, q4, q5, q6, q7⟩ := hq.b
  have hx := q3.2.1 a1 b1
  have cc := cCan (N := N) (n := 1) (gc := 1 + 16 + a1) (p := a3) q1 hC.1.2 (hC.nr.gst (f := 4) (by omega) (by decide) b1) hx.2.2.2.2.2.1 (by omega)
  by_cases hcan : canN A.1 (A.1 (60 + a1)) a3 = true
  · obtain ⟨s1, g1, n1, f1⟩ := cKeep (N := N) hN hq hC.nr
    have k37 : qKeep A.1 37 = A.1 37 := qKeep_lo _ (by decide)
    have k36 : qKeep A.1 36 = A.1 36 := qKeep_lo _ (by decide)
    obtain ⟨s2, g2, n2, f2⟩ := cRow (N := N) hq.keep n1 (g := a1) (r := a2) (p := a3) (by omega) (by omega) (by omega)
    have e52 := n2.gst (g := a1) (f := 2) (by omega) (by decide) (by unfold qRow; simp (disch := omega) only [updQ_n]; omega)
    refine sim_of (f := fun σ => Go_rows N (nI a1) (nI a2) (nI a3) σ) (g := fun σ => Mo_rows N (nI a1) (nI a2) (nI a3) σ) hC hM ⟨nI (qRow (qKeep A.1) a1 a2 a3 (52 + a1)), (qRow (qKeep A.1) a1 a2 a3, A.2), hO.q (hq.keep.row (by omega) (by omega)), ⟨s2, ?_, hC.night n2 (f1.trans f2), (f1.trans f2).low⟩, fun σ1 m1 => ?_⟩
    · show Go_rows N (nI a1) (nI a2) (nI a3) σ = _
      simp only [Go_rows, gGu hO hC, gRo hO hC, gPl, bR_e, bW_e, gBad, gFarBad, eq_self, one_ne, if_true, if_false, not_false_eq_true, not_true_eq_false, wv_1 h1, wv_1 h2, wv_1 h3]
      rw [inI (n := 4) (by omega) (by decide), ck_t, clI (by omega), cc, bR_e]
      erw [if_pos hcan]
      rw [if_neg one_ne, g1, bR_e, inI (n := 3) (by omega) (by decide), ck_t, clI (by omega), g2, bR_e, e52]
    · obtain ⟨s3, g3, n3, f3⟩ := mNotes (N := N) hN hq m1.1
      obtain ⟨s4, g4, n4, f4⟩ := mRowed (N := N) hq.keep n3 (g := a1) (r := a2) (p := a3) (by omega) (by omega) (by omega)
      refine ⟨s4, ?_, m1.row n4 (f3.trans f4), (f3.trans f4).high⟩
      show Mo_rows N (nI a1) (nI a2) (nI a3) σ1 = _
      simp only [Mo_rows, mGu hO m1, mRo hO m1, mPl, bR_e, bW_e, mBad, eq_self, one_ne, if_true, if_false, not_false_eq_true, not_true_eq_false, wv_1 h1, wv_1 h2, wv_1 h3]
      rw [mCan q1 m1.1 (by omega) hx.2.2.2.2.2.1 (by omega), bR_e, if_pos hcan, if_neg one_ne, g3, bR_e, g4, bR_e, show (52 : Int32) = nI 52 from rfl, addI, inI (by omega) (by decide), ck_t, clI (by omega), n4.get (by omega)]
  · refine sim_ref (f := fun σ => Go_rows N (nI a1) (nI a2) (nI a3) σ) (g := fun σ => Mo_rows N (nI a1) (nI a2) (nI a3) σ) (r := -3) 1 (by decide) hO hC hM ?_ (fun σ1 m1 => ?_)
    · show Go_rows N (nI a1) (nI a2) (nI a3) σ = _
      simp only [Go_rows, gGu hO hC, gRo hO hC, gPl, bR_e, bW_e, gBad, gFarBad, eq_self, one_ne, if_true, if_false, not_false_eq_true, not_true_eq_false, wv_1 h1, wv_1 h2, wv_1 h3]
      rw [inI (n := 4) (by omega) (by decide), ck_t, clI (by omega), cc, bR_e]
      erw [if_neg hcan]
      rw [if_pos rfl, gNo, bW_e]
    · show Mo_rows N (nI a1) (nI a2) (nI a3) σ1 = _
      simp only [Mo_rows, mGu hO m1, mRo hO m1, mPl, bR_e, bW_e, mBad, eq_self, one_ne, if_true, if_false, not_false_eq_true, not_true_eq_false, wv_1 h1, wv_1 h2, wv_1 h3]
      rw [mCan q1 m1.1 (by omega) hx.2.2.2.2.2.1 (by omega), bR_e, if_neg hcan, if_pos rfl, mNo, bW_e]
def qEnter (q : QS) (g : Nat) : QS := updQ (updQ q (60 + g) 0) (64 + g) 0
theorem cEnter {N n : Nat} {q : QS} {σ : St} (h : NR n q σ) {g : Nat} (hg : g < 4) : ∃ σ', Gu_getIn N (n + 16 + g) σ = some σ' ∧ NR n (qEnter q g) σ' ∧ Fr n σ σ' := by
  refine ⟨sI (sI σ (n + 16 + g) 4 0) (n + 16 + g) 5 0, rfl, ?_, (Fr.wr (by omega)).trans (Fr.wr (by omega))⟩
  unfold qEnter
  refine ((h.np.putG (g := g) (f := 4) (k := 60 + g) (v := 0) hg (by decide) rfl).putG (g := g) (f := 5) (k := 64 + g) (v := 0) hg (by decide) rfl).nr ?_
  apply live_ge (q := q) (fun k hk => Or.inl (Or.inl hk)) <;> simp (disch := omega) only [updQ_n] <;> exact Nat.le_refl _
theorem Okq.enter {q : QS} (h : Okq q) {g : Nat} (hg : g < q 37) : Okq (qEnter q g) := by
  obtain ⟨b1, b2, b3, b4, b5, b6, b7⟩ := h.b
  have hg4 := b3.1
  unfold qEnter
  refine Okq.iff.mpr ⟨b1.congr ?_, b2.congr ?_, ⟨?_, fun g' hg' => ?_, fun g' h1 h2 => ?_⟩, b4.congr ?_, b5.congr ?_, b6.congr ?_, b7.congr ?_⟩
  · intros; simp (disch := omega) only [updQ_n]
  · intros; simp (disch := omega) only [updQ_n]
  · simp (disch := omega) only [updQ_n]; exact b3.1
  · rw [updQ_n _ _ (by omega), updQ_n _ _ (by omega)] at hg'
    obtain ⟨c1, c2, c3, c4, c5, c6, c7⟩ := b3.2.1 g' hg'
    by_cases z : g' = g
    · subst z
      simp (disch := omega) only [updQ_s, updQ_n]
      exact ⟨c1, c2, c3, c4, c5, by omega, by omega⟩
    · simp (disch := omega) only [updQ_n]; exact ⟨c1, c2, c3, c4, c5, c6, c7⟩
  · rw [updQ_n _ _ (by omega), updQ_n _ _ (by omega)] at h2
    simp (disch := omega) only [updQ_n]; exact b3.2.2 g' h1 h2
  all_goals intros; simp (disch := omega) only [updQ_n]
theorem sim_enters (N : Nat) (hN : 300 < N) : Sim_enters N Inv := by
  intro σ hI v1
  obtain ⟨A, hO, hC, hM⟩ := hI
  have hq := hO.1
  have h36 := hO.1.2.1
  have h37 := hO.1.2.2.1
  by_cases h1 : (0 : Int) ≤ v1.toInt ∧ v1.toInt ≤ (A.1 37 : Int) - 1
  rotate_left
  · refine sim_ref (f := fun σ => Go_enters N v1 σ) (g := fun σ => Mo_enters N v1 σ) (r := -2) 0 (by decide) hO hC hM ?_ (fun σ1 m1 => ?_)
    · show Go_enters N v1 σ = _
      simp only [Go_enters, gGu hO hC, gRo hO hC, gPl, bR_e, bW_e, gBad, gFarBad, eq_self, one_ne, if_true, if_false, not_false_eq_true, not_true_eq_false, wv_0 h1]
    · show Mo_enters N v1 σ1 = _
      simp only [Mo_enters, mGu hO m1, mRo hO m1, mPl, bR_e, bW_e, mBad, eq_self, one_ne, if_true, if_false, not_false_eq_true, not_true_eq_false, wv_0 h1]
  obtain ⟨a1, b1, rfl⟩ := wv_lt h1
  obtain ⟨q1, q2, q3, q4, q5, q6, q7⟩ := hq.b
  have hx := q3.2.1 a1 b1
  have e4 := hC.nr.gst (g := a1) (f := 4) (by omega) (by decide) b1
  by_cases hz : A.1 (60 + a1) = 0
  · refine sim_ref (f := fun σ => Go_enters N (nI a1) σ) (g := fun σ => Mo_enters N (nI a1) σ) (r := -3) 1 (by decide) hO hC hM ?_ (fun σ1 m1 => ?_)
    · show Go_enters N (nI a1) σ = _
      simp only [Go_enters, gGu hO hC, gRo hO hC, gPl, bR_e, bW_e, gBad, gFarBad, eq_self, one_ne, if_true, if_false, not_false_eq_true, not_true_eq_false, wv_1 h1]
      rw [inI (n := 4) (by omega) (by decide), ck_t, clI (by omega), e4, if_pos (by rw [show A.1 (44 + 4 * 4 + a1) = 0 from hz]; rfl), gNo, bW_e]
    · show Mo_enters N (nI a1) σ1 = _
      simp only [Mo_enters, mGu hO m1, mRo hO m1, mPl, bR_e, bW_e, mBad, eq_self, one_ne, if_true, if_false, not_false_eq_true, not_true_eq_false, wv_1 h1]
      rw [show (60 : Int32) = nI 60 from rfl, addI, inI (by omega) (by decide), ck_t, clI (by omega), mr m1 (by omega), if_pos (by rw [hz]; rfl), mNo, bW_e]
  · obtain ⟨s1, g1, n1, f1⟩ := cKeep (N := N) hN hq hC.nr
    have k37 : qKeep A.1 37 = A.1 37 := qKeep_lo _ (by decide)
    obtain ⟨s2, g2, n2, f2⟩ := cEnter (N := N) n1 (g := a1) (by omega)
    refine sim_of (f := fun σ => Go_enters N (nI a1) σ) (g := fun σ => Mo_enters N (nI a1) σ) hC hM ⟨nI (A.1 (60 + a1)), (qEnter (qKeep A.1) a1, A.2), hO.q (hq.keep.enter (by omega)), ⟨s2, ?_, hC.night n2 (f1.trans f2), (f1.trans f2).low⟩, fun σ1 m1 => ?_⟩
    · show Go_enters N (nI a1) σ = _
      simp only [Go_enters, gGu hO hC, gRo hO hC, gPl, bR_e, bW_e, gBad, gFarBad, eq_self, one_ne, if_true, if_false, not_false_eq_true, not_true_eq_false, wv_1 h1]
      rw [inI (n := 4) (by omega) (by decide), ck_t, clI (by omega), e4, if_neg (show ¬ nI (A.1 (44 + 4 * 4 + a1)) = 0 from neI (b := 0) (show A.1 (44 + 4 * 4 + a1) ≠ 0 from hz) (by have := hx.2.2.2.2.2.1; show A.1 (60 + a1) < _; omega) (by decide)), bI_e, g1, bR_e, g2, bR_e]
    · obtain ⟨s3, g3, n3, f3⟩ := mNotes (N := N) hN hq m1.1
      have F : Gr s3 (sI (sI s3 115 (60 + a1) 0) 115 (64 + a1) 0) := (Gr.wr (by omega) (by omega)).trans (Gr.wr (by omega) (by omega))
      refine ⟨sI (sI s3 115 (60 + a1) 0) 115 (64 + a1) 0, ?_, m1.row ((n3.put 0).put 0) (f3.trans F), (f3.trans F).high⟩
      show Mo_enters N (nI a1) σ1 = _
      simp only [Mo_enters, mGu hO m1, mRo hO m1, mPl, bR_e, bW_e, mBad, eq_self, one_ne, if_true, if_false, not_false_eq_true, not_true_eq_false, wv_1 h1]
      rw [show (60 : Int32) = nI 60 from rfl, addI, inI (by omega) (by decide), ck_t, clI (by omega), mr m1 (by omega), if_neg (show ¬ nI (A.1 (60 + a1)) = 0 from neI (b := 0) hz (by have := hx.2.2.2.2.2.1; omega) (by decide)), g3, bR_e, ck_t, n3.get (by omega), bI_e, ck_t, bS_e, show (64 : Int32) = nI 64 from rfl, addI, inI (by omega) (by decide), ck_t, clI (by omega), bS_e, qKeep_lo _ (by omega)]
theorem sim_undo (N : Nat) (hN : 300 < N) : Sim_undo N Inv := by
  intro σ hI
  obtain ⟨A, hO, hC, hM⟩ := hI
  have hq := hO.1
  have h157 := hq.b.2.2.2.2.2.2.1
  have e157 : σ.1 12 1 = nI (A.1 157) := hC.nr.cnt.2.2.2.2.2
  by_cases hz : A.1 157 = 0
  · refine sim_ref (f := fun σ => Go_undo N σ) (g := fun σ => Mo_undo N σ) (r := -3) 1 (by decide) hO hC hM ?_ (fun σ1 m1 => ?_)
    · show Go_undo N σ = _
      unfold Go_undo
      rw [e157, hz, if_neg (by decide), gNo, bW_e]
    · show Mo_undo N σ1 = _
      unfold Mo_undo
      rw [show (157 : Int32).toNatClampNeg = 157 from rfl, mr m1 (by decide), hz, if_pos (show nI 0 = 0 from rfl), mNo, bW_e]
  · obtain ⟨s1, g1, n1, f1⟩ := cBack (N := N) hN hq (by omega) hC.nr
    refine sim_of (f := fun σ => Go_undo N σ) (g := fun σ => Mo_undo N σ) hC hM ⟨nI (A.1 157 - 1), (qBack A.1, A.2), hO.q (hq.back (by omega)), ⟨s1, ?_, hC.night n1 f1, f1.low⟩, fun σ1 m1 => ?_⟩
    · show Go_undo N σ = _
      unfold Go_undo
      have e : s1.1 12 1 = nI (A.1 157 - 1) := n1.cnt.2.2.2.2.2
      rw [e157, show (0 : Int32) = nI 0 from rfl, if_pos (ltP (by omega) (by omega) (by omega)), g1, bR_e, e]
    · obtain ⟨s2, g2, c1, c2, c3, c4⟩ := mCopies (N := N) (σ := sI σ1 115 157 (nI (A.1 157 - 1))) (v0 := 115) (v2 := 115) (i := 158 + 16 * (A.1 157 - 1)) (j := 52) (n := 16) (by omega) (Or.inr (by omega)) (by show 158 + 16 * (A.1 157 - 1) + 16 ≤ 286; omega) (by decide) (by decide) (by decide)
      have G : Gr σ1 s2 := ⟨fun i hi => by rw [c2 i (by omega), rdI_ne _ _ _ _ (by omega)], fun i ha hb => by rw [c2 i (by omega), rdI_ne _ _ _ _ (by omega)], by rw [c2 114 (by decide), rdI_ne _ _ _ _ (by decide)], by rw [c4, rdI_2]⟩
      refine ⟨s2, ?_, m1.row (q' := qBack A.1) (fun k hk => ?_) G, G.high⟩
      · show Mo_undo N σ1 = _
        unfold Mo_undo
        rw [show (157 : Int32).toNatClampNeg = 157 from rfl, mr m1 (by decide), show (0 : Int32) = nI 0 from rfl, if_neg (neI hz (by omega) (by decide)), show (1 : Int32) = nI 1 from rfl, subI (by omega), bS_e, rdI_eq, show (16 : Int32) = nI 16 from rfl, mulI, show (158 : Int32) = nI 158 from rfl, addI, show (52 : Int32) = nI 52 from rfl, g2, bR_e, c3 157 (by omega), rdI_eq]
      · rw [Nat.zero_add]
        unfold qBack
        by_cases z : k = 157
        · subst z; rw [if_pos rfl, c3 157 (by omega), rdI_eq]
        · rw [if_neg z]
          by_cases y : 52 ≤ k ∧ k < 68
          · have e : k = 52 + (k - 52) := by omega
            have := c1 (k - 52) (by omega)
            rw [← e] at this
            rw [if_pos y, this, rdI_nk _ _ _ _ (by omega)]
            exact mr m1 (by omega)
          · rw [if_neg y, c3 k (by omega), rdI_nk _ _ _ _ z]; exact mr m1 hk
/-- a guest's cell takes another's -/
theorem gTake {N t c : Nat} {σ : St} {x : QS} (hx : ∀ f, f < 6 → σ.1 c f = nI (x f)) (hc : c ≠ t) : ∃ σ', Gu_take N t c σ = some σ' ∧ (∀ f, f < 6 → σ'.1 t f = nI (x f)) ∧ (∀ i, i ≠ t → σ'.1 i = σ.1 i) ∧ σ'.2 = σ.2 := by
  refine ⟨sI (sI (sI (sI (sI (sI σ t 0 (nI (x 0))) t 1 (nI (x 1))) t 2 (nI (x 2))) t 3 (nI (x 3))) t 4 (nI (x 4))) t 5 (nI (x 5)), ?_, fun f hf => ?_, fun i hi => by simp (disch := omega) only [rdI_ne], rfl⟩
  · unfold Gu_take
    simp (disch := omega) only [bS_e, rdI_ne]
    rw [hx 0 (by decide), hx 1 (by decide), hx 2 (by decide), hx 3 (by decide), hx 4 (by decide), hx 5 (by decide)]
  · rcases (show f = 0 ∨ f = 1 ∨ f = 2 ∨ f = 3 ∨ f = 4 ∨ f = 5 by omega) with rfl | rfl | rfl | rfl | rfl | rfl <;> simp (disch := omega) only [rdI_nk, rdI_eq]
/-- carried: only the guest's cell changes -/
theorem carryX {N n gc rc : Nat} {q x : QS} {σ : St} {kd tg p : Nat} (hb : BD q) (hc : CanC n q σ) (hd : ∀ p, p < 8 → σ.1 (n + 1) p = nI (q p)) (hr : σ.1 rc 0 = nI kd ∧ σ.1 rc 1 = nI tg) (hkd : kd ≤ 5) (htg : tg ≤ 9) (hx : OkX x) (hg : ∀ f, f < 6 → σ.1 gc f = nI (x f)) (h1 : gc ≠ n + 1) (h2 : gc ≠ rc) (hp : p < 8) :
    ∃ σ', Ni_carry N n gc rc (nI p) σ = some σ' ∧ (∀ f, f < 6 → σ'.1 gc f = nI (rowX q kd tg x p f)) ∧ (∀ i, i ≠ gc → σ'.1 i = σ.1 i) ∧ σ'.2 = σ.2 := by
  refine ⟨_, cCarry hb hc hd hr hkd htg hx hg h1 h2 hp, fun f hf => ?_, fun i hi => by simp (disch := omega) only [rdI_ne], rfl⟩
  unfold rowX
  rcases (show f = 0 ∨ f = 1 ∨ f = 2 ∨ f = 3 ∨ f = 4 ∨ f = 5 by omega) with rfl | rfl | rfl | rfl | rfl | rfl <;> simp (disch := omega) only [rdI_nk, rdI_eq, updQ_s, updQ_n] <;> exact hg _ (by decide)
theorem qRow_x {q : QS} {g r p : Nat} (hg : g < 4) {f : Nat} (hf : f < 6) : qRow q g r p (44 + 4 * f + g) = rowX q (q (38 + r)) (q (41 + r)) (qX q g) p f := by
  unfold qRow rowX updQ
  rcases (show f = 0 ∨ f = 1 ∨ f = 2 ∨ f = 3 ∨ f = 4 ∨ f = 5 by omega) with rfl | rfl | rfl | rfl | rfl | rfl
  · simp only [show ¬ 44 + 4 * 0 + g = 52 + g by omega, show ¬ 44 + 4 * 0 + g = 56 + g by omega, show ¬ 44 + 4 * 0 + g = 60 + g by omega, show ¬ 44 + 4 * 0 + g = 64 + g by omega, if_false]; rfl
  · simp only [show ¬ 44 + 4 * 1 + g = 52 + g by omega, show ¬ 44 + 4 * 1 + g = 56 + g by omega, show ¬ 44 + 4 * 1 + g = 60 + g by omega, show ¬ 44 + 4 * 1 + g = 64 + g by omega, if_false]; rfl
  · rw [if_pos (show 44 + 4 * 2 + g = 52 + g by omega)]; rfl
  · rw [if_neg (show ¬ 44 + 4 * 3 + g = 52 + g by omega), if_pos (show 44 + 4 * 3 + g = 56 + g by omega)]; rfl
  · rw [if_neg (show ¬ 44 + 4 * 4 + g = 52 + g by omega), if_neg (show ¬ 44 + 4 * 4 + g = 56 + g by omega), if_pos (show 44 + 4 * 4 + g = 60 + g by omega)]; rfl
  · rw [if_neg (show ¬ 44 + 4 * 5 + g = 52 + g by omega), if_neg (show ¬ 44 + 4 * 5 + g = 56 + g by omega), if_neg (show ¬ 44 + 4 * 5 + g = 60 + g by omega), if_pos (show 44 + 4 * 5 + g = 64 + g by omega)]; rfl
theorem sim_would (N : Nat) (hN : 300 < N) : Sim_would N Inv := by
  intro σ hI v1 v2 v3 v4
  obtain ⟨A, hO, hC, hM⟩ := hI
  have hq := hO.1
  have h36 := hO.1.2.1
  have h37 := hO.1.2.2.1
  by_cases h1 : (0 : Int) ≤ v1.toInt ∧ v1.toInt ≤ (A.1 37 : Int) - 1
  rotate_left
  · refine sim_ref (f := fun σ => Go_would N v1 v2 v3 v4 σ) (g := fun σ => Mo_would N v1 v2 v3 v4 σ) (r := -2) 0 (by decide) hO hC hM ?_ (fun σ1 m1 => ?_)
    · show Go_would N v1 v2 v3 v4 σ = _
      simp only [Go_would_J33, Go_would, gGu hO hC, gRo hO hC, gPl, bR_e, bW_e, gBad, gFarBad, eq_self, one_ne, if_true, if_false, not_false_eq_true, not_true_eq_false, wv_0 h1]
    · show Mo_would N v1 v2 v3 v4 σ1 = _
      simp only [Mo_would_J34, Mo_would_J91, Mo_would, mGu hO m1, mRo hO m1, mPl, bR_e, bW_e, mBad, eq_self, one_ne, if_true, if_false, not_false_eq_true, not_true_eq_false, wv_0 h1]
  by_cases h2 : (0 : Int) ≤ v2.toInt ∧ v2.toInt ≤ (A.1 36 : Int) - 1
  rotate_left
  · refine sim_ref (f := fun σ => Go_would N v1 v2 v3 v4 σ) (g := fun σ => Mo_would N v1 v2 v3 v4 σ) (r := -2) 0 (by decide) hO hC hM ?_ (fun σ1 m1 => ?_)
    · show Go_would N v1 v2 v3 v4 σ = _
      simp only [Go_would_J33, Go_would, gGu hO hC, gRo hO hC, gPl, bR_e, bW_e, gBad, gFarBad, eq_self, one_ne, if_true, if_false, not_false_eq_true, not_true_eq_false, wv_1 h1, wv_0 h2]
    · show Mo_would N v1 v2 v3 v4 σ1 = _
      simp only [Mo_would_J34, Mo_would_J91, Mo_would, mGu hO m1, mRo hO m1, mPl, bR_e, bW_e, mBad, eq_self, one_ne, if_true, if_false, not_false_eq_true, not_true_eq_false, wv_1 h1, wv_0 h2]
  by_cases h3 : (0 : Int) ≤ v3.toInt ∧ v3.toInt ≤ 7
  rotate_left
  · refine sim_ref (f := fun σ => Go_would N v1 v2 v3 v4 σ) (g := fun σ => Mo_would N v1 v2 v3 v4 σ) (r := -2) 0 (by decide) hO hC hM ?_ (fun σ1 m1 => ?_)
    · show Go_would N v1 v2 v3 v4 σ = _
      simp only [Go_would_J33, Go_would, gGu hO hC, gRo hO hC, gPl, bR_e, bW_e, gBad, gFarBad, eq_self, one_ne, if_true, if_false, not_false_eq_true, not_true_eq_false, wv_1 h1, wv_1 h2, wv_0 h3]
    · show Mo_would N v1 v2 v3 v4 σ1 = _
      simp only [Mo_would_J34, Mo_would_J91, Mo_would, mGu hO m1, mRo hO m1, mPl, bR_e, bW_e, mBad, eq_self, one_ne, if_true, if_false, not_false_eq_true, not_true_eq_false, wv_1 h1, wv_1 h2, wv_0 h3]
  by_cases h4 : (0 : Int) ≤ v4.toInt ∧ v4.toInt ≤ 1
  rotate_left
  · refine sim_ref (f := fun σ => Go_would N v1 v2 v3 v4 σ) (g := fun σ => Mo_would N v1 v2 v3 v4 σ) (r := -2) 0 (by decide) hO hC hM ?_ (fun σ1 m1 => ?_)
    · show Go_would N v1 v2 v3 v4 σ = _
      simp only [Go_would_J33, Go_would, gGu hO hC, gRo hO hC, gPl, bR_e, bW_e, gBad, gFarBad, eq_self, one_ne, if_true, if_false, not_false_eq_true, not_true_eq_false, wv_1 h1, wv_1 h2, wv_1 h3, gW1, wv_0 h4]
    · show Mo_would N v1 v2 v3 v4 σ1 = _
      simp only [Mo_would_J34, Mo_would_J91, Mo_would, mGu hO m1, mRo hO m1, mPl, bR_e, bW_e, mBad, eq_self, one_ne, if_true, if_false, not_false_eq_true, not_true_eq_false, wv_1 h1, wv_1 h2, wv_1 h3, mW1, wv_0 h4]
  obtain ⟨a1, b1, rfl⟩ := wv_lt h1
  obtain ⟨a2, b2, rfl⟩ := wv_lt h2
  obtain ⟨a3, -, b3, rfl⟩ := wv_nat (hi := 7) (by decide) h3
  obtain ⟨a4, c4, b4, rfl⟩ := wv_nat (hi := 1) (by decide) h4
  obtain ⟨q1, q2, q3, q4, q5, q6, q7⟩ := hq.b
  have hx := q3.2.1 a1 b1
  have cc := cCan (N := N) (n := 1) (gc := 1 + 16 + a1) (p := a3) q1 hC.1.2 (hC.nr.gst (f := 4) (by omega) (by decide) b1) hx.2.2.2.2.2.1 (by omega)
  by_cases hcan : canN A.1 (A.1 (60 + a1)) a3 = true
  rotate_left
  · refine sim_rd (f := fun σ => Go_would N (nI a1) (nI a2) (nI a3) (nI a4) σ) (g := fun σ => Mo_would N (nI a1) (nI a2) (nI a3) (nI a4) σ) (r := -1) hO hC hM ?_ (fun σ1 m1 => ?_)
    · show Go_would N (nI a1) (nI a2) (nI a3) (nI a4) σ = _
      simp only [Go_would, gGu hO hC, gRo hO hC, gPl, bR_e, bW_e, gBad, gFarBad, eq_self, one_ne, if_true, if_false, not_false_eq_true, not_true_eq_false, wv_1 h1, wv_1 h2, wv_1 h3, gW1, wv_1 h4]
      rw [inI (n := 4) (by omega) (by decide), ck_t, clI (by omega), cc, bR_e]
      erw [if_neg hcan]
      rw [if_pos rfl]
    · show Mo_would N (nI a1) (nI a2) (nI a3) (nI a4) σ1 = _
      simp only [Mo_would, mGu hO m1, mRo hO m1, mPl, bR_e, bW_e, mBad, eq_self, one_ne, if_true, if_false, not_false_eq_true, not_true_eq_false, wv_1 h1, wv_1 h2, wv_1 h3, mW1, wv_1 h4]
      rw [mCan q1 m1.1 (by omega) hx.2.2.2.2.2.1 (by omega), bR_e, if_neg hcan, if_pos rfl]
  · refine sim_scr (f := fun σ => Go_would N (nI a1) (nI a2) (nI a3) (nI a4) σ) (g := fun σ => Mo_would N (nI a1) (nI a2) (nI a3) (nI a4) σ) (r := nI (rowX A.1 (A.1 (38 + a2)) (A.1 (41 + a2)) (qX A.1 a1) a3 (2 + a4))) hO hC hM ?_ (fun σ1 m1 => ?_)
    · obtain ⟨s1, g1, k1, k2, k3⟩ := gTake (N := N) (t := 46) (c := 1 + 16 + a1) (σ := σ) (x := qX A.1 a1) (fun f hf => hC.nr.gst (by omega) hf b1) (by omega)
      obtain ⟨s2, g2, l1, l2, l3⟩ := carryX (N := N) (n := 1) (gc := 46) (rc := 1 + 13 + a2) (q := A.1) (x := qX A.1 a1) (σ := s1) (p := a3) q1 (hC.1.2.frame (k2 _ (by decide)) (fun _ _ _ _ => rfl)) (fun p hp => by rw [k2 _ (by decide)]; exact hC.nr.dark hp) (by rw [k2 _ (by omega)]; exact hC.nr.row (by omega) b2) (q2.2 a2 b2).1 (q2.2 a2 b2).2 (q3.x b1) k1 (by decide) (by omega) (by omega)
      refine ⟨s2, ?_, ⟨fun i hi => (l2 i (by omega)).trans (k2 i (by omega)), l3.trans k3⟩⟩
      show Go_would N (nI a1) (nI a2) (nI a3) (nI a4) σ = _
      simp only [Go_would, gGu hO hC, gRo hO hC, gPl, bR_e, bW_e, gBad, gFarBad, eq_self, one_ne, if_true, if_false, not_false_eq_true, not_true_eq_false, wv_1 h1, wv_1 h2, wv_1 h3, gW1, wv_1 h4]
      rw [inI (n := 4) (by omega) (by decide), ck_t, clI (by omega), cc, bR_e]
      erw [if_pos hcan]
      rw [if_neg one_ne, ck_t, g1, bR_e, inI (n := 3) (by omega) (by decide), ck_t, clI (by omega), g2, bR_e]
      rcases (show a4 = 0 ∨ a4 = 1 by omega) with rfl | rfl
      · rw [if_pos (show nI 0 = 0 from rfl), l1 2 (by decide)]
      · rw [if_neg (by decide), l1 3 (by decide)]
    · obtain ⟨s1, g1, c1, c2, c3, c4⟩ := mCopies (N := N) (σ := σ1) (v0 := 115) (v2 := 116) (i := 52) (j := 0) (n := 16) (by omega) (Or.inl (by decide)) (by decide) (by decide) (by decide) (by decide)
      have r1 : RepM 115 0 A.1 s1 := m1.1.frame (c2 _ (by decide))
      obtain ⟨s2, g2, n2, f2, f3, f4⟩ := mRowedX (N := N) hq r1 (g := a1) (r := a2) (p := a3) b1 b2 (by omega)
      obtain ⟨s3, g3, d1, d2, d3, d4⟩ := mCopies (N := N) (σ := s2) (v0 := 116) (v2 := 115) (i := 0) (j := 52) (n := 16) (by omega) (Or.inl (by decide)) (by decide) (by decide) (by decide) (by decide)
      have G : Gr σ1 s3 := ⟨fun i hi => by rw [d2 i (by omega), f2 i (by omega), c2 i (by omega)], fun i ha hb => by rw [d2 i (by omega), f2 i (by omega), c2 i (by omega)], by rw [d2 114 (by decide), f2 114 (by decide), c2 114 (by decide)], by rw [d4, f4, c4]⟩
      refine ⟨s3, ?_, fun k hk => ?_, G⟩
      · show Mo_would N (nI a1) (nI a2) (nI a3) (nI a4) σ1 = _
        simp only [Mo_would, mGu hO m1, mRo hO m1, mPl, bR_e, bW_e, mBad, eq_self, one_ne, if_true, if_false, not_false_eq_true, not_true_eq_false, wv_1 h1, wv_1 h2, wv_1 h3, mW1, wv_1 h4]
        rw [mCan q1 m1.1 (by omega) hx.2.2.2.2.2.1 (by omega), bR_e, if_pos hcan, if_neg one_ne, show (52 : Int32) = nI 52 from rfl, show (0 : Int32) = nI 0 from rfl, show (16 : Int32) = nI 16 from rfl, g1, bR_e, g2, bR_e]
        have e : ∀ k w, k = 44 + 4 * (2 + a4) + a1 → w + a1 = k → w < 100 → Mo_would_J91 N (nI a1) (nI w) s2 = some (nI (rowX A.1 (A.1 (38 + a2)) (A.1 (41 + a2)) (qX A.1 a1) a3 (2 + a4)), s3) := by
          intro k w hk hw hw2
          unfold Mo_would_J91
          rw [addI, hw, inI (by omega) (by decide), ck_t, clI (by omega), n2.get (by omega), bI_e, show (52 : Int32) = nI 52 from rfl, show (0 : Int32) = nI 0 from rfl, show (16 : Int32) = nI 16 from rfl, g3, bR_e, hk, qRow_x (by omega) (by omega)]
        rcases (show a4 = 0 ∨ a4 = 1 by omega) with rfl | rfl
        · rw [if_pos rfl]; exact e (52 + a1) 52 (by omega) rfl (by decide)
        · rw [if_neg (by decide)]; exact e (56 + a1) 56 (by omega) rfl (by decide)
      · rw [Nat.zero_add]
        by_cases z : 52 ≤ k ∧ k < 68
        · have e := d1 (k - 52) (by omega)
          rw [show 52 + (k - 52) = k by omega] at e
          rw [e, f2 116 (by decide), c1 (k - 52) (by omega), show 52 + (k - 52) = k by omega]; exact mr m1 hk
        · rw [d3 k (by omega), f3 k (by omega), c2 115 (by decide)]; exact mr m1 hk
