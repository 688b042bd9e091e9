/-! calls that change one thing of the water -/
theorem rdI_eq (s : St) (i k : Nat) (v : Int32) : (sI s i k v).1 i k = v := by rw [rdI, if_pos ⟨rfl, rfl⟩]
theorem rdI_nk (s : St) (i k : Nat) (v : Int32) {j : Nat} (h : j ≠ k) : (sI s i k v).1 i j = s.1 i j := by rw [rdI, if_neg (fun z => h z.2)]
theorem z0 : (0 : Int32) = nI 0 := rfl
theorem live_ge {q q' : QS} {P : Nat → Prop} (hs : ∀ k, live q k → P k) (h36 : q' 36 ≤ q 36) (h37 : q' 37 ≤ q 37) (h68 : q' 68 ≤ q 68) (h89 : q' 89 ≤ q 89) (h126 : q' 126 ≤ q 126) (h157 : q' 157 ≤ q 157) : ∀ k, k < 286 → live q' k → P k :=
  live_new hs (by intros; omega) (by intros; omega) (by intros; omega) (by intros; omega) (by intros; omega) (by intros; omega)
theorem cUndo0 {n : Nat} {q : QS} {σ : St} (h : NR n q σ) : NR n (updQ q 157 0) (sI σ (n + 11) 1 0) := by
  refine (h.np.put (k := 157) (v := 0) (by decide) (by decide) rfl rfl).nr ?_
  apply live_ge (q := q) (fun k hk => Or.inl hk) <;> simp (disch := omega) only [updQ_s, updQ_n] <;> omega
theorem cDark {n : Nat} {q : QS} {σ : St} (h : NR n q σ) {p : Nat} (hp : p < 8) (d : Nat) : NR n (updQ q p d) (sI σ (n + 1) p (nI d)) := by
  refine (h.np.put (k := p) (v := d) (by omega) (by omega) (by rw [ccD hp]) (by rw [scD hp])).nr ?_
  apply live_ge (q := q) (fun k hk => Or.inl hk) <;> rw [updQ_n _ _ (by omega)] <;> omega
theorem Okq.dark {q : QS} (h : Okq q) {p d : Nat} (hp : p < 36) (hd : d ≤ 9) : Okq (updQ q p d) := by
  obtain ⟨b1, b2, b3, b4, b5, b6, b7⟩ := h.b
  refine Okq.iff.mpr ⟨fun k hk => ?_, b2.congr ?_, b3.congr ?_, b4.congr ?_, b5.congr ?_, b6.congr ?_, b7.congr ?_⟩
  · unfold updQ
    by_cases z : k = p
    · rw [if_pos z]; exact hd
    · rw [if_neg z]; exact b1 k hk
  all_goals intros; rw [updQ_n _ _ (by omega)]
theorem Okq.undo0 {q : QS} (h : Okq q) : Okq (updQ q 157 0) := by
  obtain ⟨b1, b2, b3, b4, b5, b6, b7⟩ := h.b
  refine Okq.iff.mpr ⟨b1.congr ?_, b2.congr ?_, b3.congr ?_, b4.congr ?_, b5.congr ?_, b6.congr ?_, BU.zero (updQ_s _ _ _)⟩
  all_goals intros; rw [updQ_n _ _ (by omega)]
theorem CanTW.dig {n : Nat} {q : QS} {σ : St} (h : NR n q σ) {a b : Nat} (ha : a < 8) (hb : b < 8) (hab : a ≠ b) (v : Nat) : NR n (updQ q (cnl a b) v) (sI (sI σ (n + 2) (a * 8 + b) (nI v)) (n + 2) (b * 8 + a) (nI v)) := by
  refine ⟨h.1.canal ha hb hab v, h.2.frame ?_ ?_ ?_⟩ <;> rw [rdI_ne _ _ _ _ (by omega), rdI_ne _ _ _ _ (by omega)]
theorem cDig {N n : Nat} {q : QS} {σ : St} (h : NR n q σ) {a b : Nat} (ha : a < 8) (hb : b < 8) (hab : a ≠ b) (v : Nat) : ∃ σ', Ni_dig N n (nI a) (nI b) (nI v) σ = some σ' ∧ NR n (updQ q (cnl a b) v) σ' ∧ Fr n σ σ' := by
  refine ⟨_, ?_, CanTW.dig h ha hb hab v, (Fr.wr (by omega)).trans (Fr.wr (by omega))⟩
  unfold Ni_dig
  simp (disch := omega) only [litI, clI, subI, mulI, addI, eqI, leI, ltI, inI, ck_t, bS_e, bI_e, bL_e, bR_e, bW_e]
/-- dark -/
theorem sim_dark (N : Nat) : Sim_dark N Inv := by
  intro σ hI v1 v2
  obtain ⟨A, hO, hC, hM⟩ := hI
  have hq := hO.1
  have h36 := hO.1.2.1
  have h37 := hO.1.2.2.1
  by_cases h1 : (0 : Int) ≤ v1.toInt ∧ v1.toInt ≤ 7
  rotate_left
  · refine sim_ref (f := fun σ => Go_dark N v1 v2 σ) (g := fun σ => Mo_dark N v1 v2 σ) (r := -2) 0 (by decide) hO hC hM ?_ (fun σ1 m1 => ?_)
    · show Go_dark N v1 v2 σ = _
      simp only [Go_dark_J17, Go_dark, gGu hO hC, gRo hO hC, gPl, bR_e, bW_e, gBad, gFarBad, eq_self, one_ne, if_true, if_false, not_false_eq_true, not_true_eq_false, wv_0 h1]
    · show Mo_dark N v1 v2 σ1 = _
      simp only [Mo_dark_J19, Mo_dark, mGu hO m1, mRo hO m1, mPl, bR_e, bW_e, mBad, eq_self, one_ne, if_true, if_false, not_false_eq_true, not_true_eq_false, wv_0 h1]
  by_cases h2 : (0 : Int) ≤ v2.toInt ∧ v2.toInt ≤ 9
  rotate_left
  · refine sim_ref (f := fun σ => Go_dark N v1 v2 σ) (g := fun σ => Mo_dark N v1 v2 σ) (r := -2) 0 (by decide) hO hC hM ?_ (fun σ1 m1 => ?_)
    · show Go_dark N v1 v2 σ = _
      simp only [Go_dark_J17, Go_dark, gGu hO hC, gRo hO hC, gPl, bR_e, bW_e, gBad, gFarBad, eq_self, one_ne, if_true, if_false, not_false_eq_true, not_true_eq_false, wv_1 h1, gW9, wv_0 h2]
    · show Mo_dark N v1 v2 σ1 = _
      simp only [Mo_dark_J19, Mo_dark, mGu hO m1, mRo hO m1, mPl, bR_e, bW_e, mBad, eq_self, one_ne, if_true, if_false, not_false_eq_true, not_true_eq_false, wv_1 h1, mW9, wv_0 h2]
  obtain ⟨a1, -, b1, rfl⟩ := wv_nat (hi := 7) (by decide) h1
  obtain ⟨a2, c2, b2, rfl⟩ := wv_nat (hi := 9) (by decide) h2
  have hok := (hq.dark (p := a1) (d := a2) (by omega) b2).undo0
  refine sim_of (f := fun σ => Go_dark N (nI a1) (nI a2) σ) (g := fun σ => Mo_dark N (nI a1) (nI a2) σ) hC hM ⟨nI (A.1 a1), (updQ (updQ A.1 a1 a2) 157 0, A.2), hO.q hok, ⟨sI (sI σ 2 a1 (nI a2)) 12 1 0, ?_, hC.night (cUndo0 (cDark hC.nr (by omega) a2)) ((Fr.wr (by omega)).trans (Fr.wr (by omega))), (Low.sI (by omega)).trans (Low.sI (by omega))⟩, fun σ1 m1 => ⟨sI (sI σ1 115 a1 (nI a2)) 115 157 0, ?_, ?_, (High.sI (by omega)).trans (High.sI (by omega))⟩⟩
  · show Go_dark N (nI a1) (nI a2) σ = _
    have e := hC.nr.dark (p := a1) (by omega)
    simp only [Go_dark, gGu hO hC, gRo hO hC, gPl, bR_e, bW_e, gBad, gFarBad, eq_self, one_ne, if_true, if_false, not_false_eq_true, not_true_eq_false, wv_1 h1, gW9, wv_1 h2]
    simp (disch := omega) only [litI, clI, subI, mulI, addI, eqI, leI, ltI, inI, ck_t, bS_e, bI_e, bL_e, bR_e, bW_e, e]
  · show Mo_dark N (nI a1) (nI a2) σ1 = _
    simp only [Mo_dark, mGu hO m1, mRo hO m1, mPl, bR_e, bW_e, mBad, eq_self, one_ne, if_true, if_false, not_false_eq_true, not_true_eq_false, wv_1 h1, mW9, wv_1 h2]
    simp (disch := omega) only [litI, clI, subI, mulI, addI, eqI, leI, ltI, inI, ck_t, bS_e, bI_e, bL_e, bR_e, bW_e, Nat.zero_add, mr m1]
  · exact m1.row ((m1.1.put a2).put 0) ((Gr.wr (by omega) (by omega)).trans (Gr.wr (by omega) (by omega)))
/-- canal -/
theorem sim_canal (N : Nat) : Sim_canal N Inv := by
  intro σ hI v1 v2 v3
  obtain ⟨A, hO, hC, hM⟩ := hI
  have hq := hO.1
  have h36 := hO.1.2.1
  have h37 := hO.1.2.2.1
  by_cases h1 : (0 : Int) ≤ v1.toInt ∧ v1.toInt ≤ 7
  rotate_left
  · refine sim_ref (f := fun σ => Go_canal N v1 v2 v3 σ) (g := fun σ => Mo_canal N v1 v2 v3 σ) (r := -2) 0 (by decide) hO hC hM ?_ (fun σ1 m1 => ?_)
    · show Go_canal N v1 v2 v3 σ = _
      simp only [Go_canal_J29, Go_canal, gGu hO hC, gRo hO hC, gPl, bR_e, bW_e, gBad, gFarBad, eq_self, one_ne, if_true, if_false, not_false_eq_true, not_true_eq_false, wv_0 h1]
    · show Mo_canal N v1 v2 v3 σ1 = _
      simp only [Mo_canal_J31, Mo_canal, mGu hO m1, mRo hO m1, mPl, bR_e, bW_e, mBad, eq_self, one_ne, if_true, if_false, not_false_eq_true, not_true_eq_false, wv_0 h1]
  by_cases h2 : (0 : Int) ≤ v2.toInt ∧ v2.toInt ≤ 7
  rotate_left
  · refine sim_ref (f := fun σ => Go_canal N v1 v2 v3 σ) (g := fun σ => Mo_canal N v1 v2 v3 σ) (r := -2) 0 (by decide) hO hC hM ?_ (fun σ1 m1 => ?_)
    · show Go_canal N v1 v2 v3 σ = _
      simp only [Go_canal_J29, Go_canal, gGu hO hC, gRo hO hC, gPl, bR_e, bW_e, gBad, gFarBad, eq_self, one_ne, if_true, if_false, not_false_eq_true, not_true_eq_false, wv_1 h1, wv_0 h2]
    · show Mo_canal N v1 v2 v3 σ1 = _
      simp only [Mo_canal_J31, Mo_canal, mGu hO m1, mRo hO m1, mPl, bR_e, bW_e, mBad, eq_self, one_ne, if_true, if_false, not_false_eq_true, not_true_eq_false, wv_1 h1, wv_0 h2]
  by_cases h3 : ¬ v1 = v2
  rotate_left
  · refine sim_ref (f := fun σ => Go_canal N v1 v2 v3 σ) (g := fun σ => Mo_canal N v1 v2 v3 σ) (r := -2) 0 (by decide) hO hC hM ?_ (fun σ1 m1 => ?_)
    · show Go_canal N v1 v2 v3 σ = _
      simp only [Go_canal_J29, Go_canal, gGu hO hC, gRo hO hC, gPl, bR_e, bW_e, gBad, gFarBad, eq_self, one_ne, if_true, if_false, not_false_eq_true, not_true_eq_false, wv_1 h1, wv_1 h2, (eq_true (Classical.not_not.mp h3))]
    · show Mo_canal N v1 v2 v3 σ1 = _
      simp only [Mo_canal_J31, Mo_canal, mGu hO m1, mRo hO m1, mPl, bR_e, bW_e, mBad, eq_self, one_ne, if_true, if_false, not_false_eq_true, not_true_eq_false, wv_1 h1, wv_1 h2, (eq_true (Classical.not_not.mp h3))]
  by_cases h4 : (0 : Int) ≤ v3.toInt ∧ v3.toInt ≤ 9
  rotate_left
  · refine sim_ref (f := fun σ => Go_canal N v1 v2 v3 σ) (g := fun σ => Mo_canal N v1 v2 v3 σ) (r := -2) 0 (by decide) hO hC hM ?_ (fun σ1 m1 => ?_)
    · show Go_canal N v1 v2 v3 σ = _
      simp only [Go_canal_J29, Go_canal, gGu hO hC, gRo hO hC, gPl, bR_e, bW_e, gBad, gFarBad, eq_self, one_ne, if_true, if_false, not_false_eq_true, not_true_eq_false, wv_1 h1, wv_1 h2, h3, gW9, wv_0 h4]
    · show Mo_canal N v1 v2 v3 σ1 = _
      simp only [Mo_canal_J31, Mo_canal, mGu hO m1, mRo hO m1, mPl, bR_e, bW_e, mBad, eq_self, one_ne, if_true, if_false, not_false_eq_true, not_true_eq_false, wv_1 h1, wv_1 h2, h3, mW9, wv_0 h4]
  obtain ⟨a1, -, b1, rfl⟩ := wv_nat (hi := 7) (by decide) h1
  obtain ⟨a2, -, b2, rfl⟩ := wv_nat (hi := 7) (by decide) h2
  obtain ⟨a3, c3, b3, rfl⟩ := wv_nat (hi := 9) (by decide) h4
  have hab : a1 ≠ a2 := fun e => h3 (by rw [e])
  have hr := cnl_rng a1 (by omega) a2 (by omega) hab
  obtain ⟨s1, e1, n1, f1⟩ := cDig (N := N) hC.nr (by omega) (by omega) hab a3
  refine sim_of (f := fun σ => Go_canal N (nI a1) (nI a2) (nI a3) σ) (g := fun σ => Mo_canal N (nI a1) (nI a2) (nI a3) σ) hC hM ⟨nI (stq A.1 a1 a2), (updQ (updQ A.1 (cnl a1 a2) a3) 157 0, A.2), hO.q (hq.dark hr.2 b3).undo0, ⟨sI s1 12 1 0, ?_, hC.night (cUndo0 n1) (f1.trans (Fr.wr (by omega))), f1.low.trans (Low.sI (by omega))⟩, fun σ1 m1 => ⟨sI (sI σ1 115 (cnl a1 a2) (nI a3)) 115 157 0, ?_, ?_, (High.sI (by omega)).trans (High.sI (by omega))⟩⟩
  · show Go_canal N (nI a1) (nI a2) (nI a3) σ = _
    simp only [Go_canal, gGu hO hC, gRo hO hC, gPl, bR_e, bW_e, gBad, gFarBad, eq_self, one_ne, if_true, if_false, not_false_eq_true, not_true_eq_false, wv_1 h1, wv_1 h2, h3, gW9, wv_1 h4, gSt hC.1.2 (show a1 < 8 by omega) (show a2 < 8 by omega), e1, bS_e]
  · show Mo_canal N (nI a1) (nI a2) (nI a3) σ1 = _
    simp only [Mo_canal, mGu hO m1, mRo hO m1, mPl, bR_e, bW_e, mBad, eq_self, one_ne, if_true, if_false, not_false_eq_true, not_true_eq_false, wv_1 h1, wv_1 h2, h3, mW9, wv_1 h4, mSt m1 (show a1 < 8 by omega) (show a2 < 8 by omega), mCn a1 (show a1 < 8 by omega) a2 (show a2 < 8 by omega) hab]
    simp (disch := omega) only [litI, clI, subI, mulI, addI, eqI, leI, ltI, inI, ck_t, bS_e, bI_e, bL_e, bR_e, bW_e]
  · exact m1.row ((m1.1.put a3).put 0) ((Gr.wr (by omega) (by omega)).trans (Gr.wr (by omega) (by omega)))
/-- a rower, a guest more -/
def qRower (q : QS) (kd tg : Nat) : QS := updQ (updQ (updQ q (38 + q 36) kd) (41 + q 36) tg) 36 (q 36 + 1)
theorem cAddRower {N n : Nat} {q : QS} {σ : St} (h : NR n q σ) (hR : q 36 < 3) (kd tg : Nat) : ∃ σ', Ni_addRower N n (nI kd) (nI tg) σ = some σ' ∧ NR n (qRower q kd tg) σ' ∧ Fr n σ σ' := by
  have e := h.cnt.1
  have hn : ¬ 3 ≤ q 36 := by omega
  refine ⟨sI (sI (sI σ (n + 13 + q 36) 0 (nI kd)) (n + 13 + q 36) 1 (nI tg)) n 4 (nI (q 36 + 1)), ?_, ?_, ((Fr.wr (by omega)).trans (Fr.wr (by omega))).trans (Fr.wr (by omega))⟩
  · unfold Ni_addRower
    simp (disch := omega) only [litI, clI, subI, mulI, addI, eqI, leI, ltI, inI, ck_t, bS_e, bI_e, bL_e, bR_e, bW_e, e, rdI_ne, hn, if_false]
  · unfold qRower
    refine (((h.np.put (k := 38 + q 36) (v := kd) (by omega) (by omega) (by rw [ccK hR, Nat.add_assoc]) (by rw [scK hR])).put (k := 41 + q 36) (v := tg) (by omega) (by omega) (by rw [ccT hR, Nat.add_assoc]) (by rw [scT hR])).put (k := 36) (v := q 36 + 1) (by omega) (by omega) rfl rfl).nr ?_
    apply live_new (q := q) (fun k hk => Or.inl (Or.inl (Or.inl hk))) <;> simp (disch := omega) only [updQ_s, updQ_n]
    · intro r h1 h2 h3
      have : r = q 36 := by omega
      subst this
      exact ⟨Or.inl (Or.inl (Or.inr rfl)), Or.inl (Or.inr rfl)⟩
    all_goals intros; omega
theorem mAddRower {N : Nat} {q : QS} {σ : St} (h : RepM 115 0 q σ) (hR : q 36 < 3) (kd tg : Nat) : ∃ σ', Mo_addRower N (nI kd) (nI tg) σ = some σ' ∧ RepM 115 0 (updQ (qRower q kd tg) 157 0) σ' ∧ Gr σ σ' := by
  have e := h.get (k := 36) (by decide)
  refine ⟨sI (sI (sI (sI σ 115 (38 + q 36) (nI kd)) 115 (41 + q 36) (nI tg)) 115 36 (nI (q 36 + 1))) 115 157 0, ?_, (((h.put kd).put tg).put _).put 0, (((Gr.wr (by omega) (by omega)).trans (Gr.wr (by omega) (by omega))).trans (Gr.wr (by omega) (by omega))).trans (Gr.wr (by omega) (by omega))⟩
  unfold Mo_addRower
  simp (disch := omega) only [litI, clI, subI, mulI, addI, eqI, leI, ltI, inI, ck_t, bS_e, bI_e, bL_e, bR_e, bW_e, e, rdI_nk]
theorem Okq.rower {q : QS} (h : Okq q) (hR : q 36 < 3) {kd tg : Nat} (h1 : kd ≤ 5) (h2 : tg ≤ 9) : Okq (qRower q kd tg) := by
  obtain ⟨b1, b2, b3, b4, b5, b6, b7⟩ := h.b
  unfold qRower
  refine Okq.iff.mpr ⟨b1.congr ?_, ⟨?_, fun r hr => ?_⟩, b3.congr ?_, b4.congr ?_, b5.congr ?_, b6.congr ?_, b7.congr ?_⟩
  · intros; simp (disch := omega) only [updQ_n]
  · rw [updQ_s]; omega
  · rw [updQ_s] at hr
    by_cases z : r = q 36
    · subst z
      simp (disch := omega) only [updQ_s, updQ_n]; exact ⟨h1, h2⟩
    · simp (disch := omega) only [updQ_n]; exact b2.2 r (by omega)
  all_goals intros; simp (disch := omega) only [updQ_n]
theorem sim_rower (N : Nat) : Sim_rower N Inv := by
  intro σ hI v1 v2
  obtain ⟨A, hO, hC, hM⟩ := hI
  have hq := hO.1
  have h36 := hO.1.2.1
  have h37 := hO.1.2.2.1
  by_cases h1 : (0 : Int) ≤ v1.toInt ∧ v1.toInt ≤ 5
  rotate_left
  · refine sim_ref (f := fun σ => Go_rower N v1 v2 σ) (g := fun σ => Mo_rower N v1 v2 σ) (r := -2) 0 (by decide) hO hC hM ?_ (fun σ1 m1 => ?_)
    · show Go_rower N v1 v2 σ = _
      simp only [Go_rower_J19, Go_rower, gGu hO hC, gRo hO hC, gPl, bR_e, bW_e, gBad, gFarBad, eq_self, one_ne, if_true, if_false, not_false_eq_true, not_true_eq_false, gW5, wv_0 h1]
    · show Mo_rower N v1 v2 σ1 = _
      simp only [Mo_rower_J24, Mo_rower, mGu hO m1, mRo hO m1, mPl, bR_e, bW_e, mBad, eq_self, one_ne, if_true, if_false, not_false_eq_true, not_true_eq_false, mW5, wv_0 h1]
  by_cases h2 : (0 : Int) ≤ v2.toInt ∧ v2.toInt ≤ 9
  rotate_left
  · refine sim_ref (f := fun σ => Go_rower N v1 v2 σ) (g := fun σ => Mo_rower N v1 v2 σ) (r := -2) 0 (by decide) hO hC hM ?_ (fun σ1 m1 => ?_)
    · show Go_rower N v1 v2 σ = _
      simp only [Go_rower_J19, Go_rower, gGu hO hC, gRo hO hC, gPl, bR_e, bW_e, gBad, gFarBad, eq_self, one_ne, if_true, if_false, not_false_eq_true, not_true_eq_false, gW5, wv_1 h1, gW9, wv_0 h2]
    · show Mo_rower N v1 v2 σ1 = _
      simp only [Mo_rower_J24, Mo_rower, mGu hO m1, mRo hO m1, mPl, bR_e, bW_e, mBad, eq_self, one_ne, if_true, if_false, not_false_eq_true, not_true_eq_false, mW5, wv_1 h1, mW9, wv_0 h2]
  obtain ⟨a1, c1, b1, rfl⟩ := wv_nat (hi := 5) (by decide) h1
  obtain ⟨a2, c2, b2, rfl⟩ := wv_nat (hi := 9) (by decide) h2
  have e1 := hC.nr.cnt.1
  by_cases hR : A.1 36 < 3
  · obtain ⟨s1, g1, n1, f1⟩ := cAddRower (N := N) hC.nr hR a1 a2
    refine sim_of (f := fun σ => Go_rower N (nI a1) (nI a2) σ) (g := fun σ => Mo_rower N (nI a1) (nI a2) σ) hC hM ⟨nI (A.1 36), (updQ (qRower A.1 a1 a2) 157 0, A.2), hO.q (hq.rower hR b1 b2).undo0, ⟨sI s1 12 1 0, ?_, hC.night (cUndo0 n1) (f1.trans (Fr.wr (by omega))), f1.low.trans (Low.sI (by omega))⟩, fun σ1 m1 => ?_⟩
    · show Go_rower N (nI a1) (nI a2) σ = _
      have e2 := n1.cnt.1
      simp only [Go_rower, gGu hO hC, gRo hO hC, gPl, bR_e, bW_e, gBad, gFarBad, eq_self, one_ne, if_true, if_false, not_false_eq_true, not_true_eq_false, gW5, wv_1 h1, gW9, wv_1 h2, e1, g1, bS_e]
      simp (disch := omega) only [litI, clI, subI, mulI, addI, eqI, leI, ltI, inI, ck_t, bS_e, bI_e, bL_e, bR_e, bW_e, hR, if_true, rdI_ne, e2]
      rw [show qRower A.1 a1 a2 36 = A.1 36 + 1 from updQ_s _ _ _, subI (by omega)]; rfl
    · obtain ⟨s2, g2, n2, f2⟩ := mAddRower (N := N) m1.1 hR a1 a2
      refine ⟨s2, ?_, m1.row n2 f2, f2.high⟩
      show Mo_rower N (nI a1) (nI a2) σ1 = _
      have e2 := n2.get (k := 36) (by decide)
      have hn : ¬ A.1 36 = 3 := by omega
      simp only [Mo_rower, mGu hO m1, mRo hO m1, mPl, bR_e, bW_e, mBad, eq_self, one_ne, if_true, if_false, not_false_eq_true, not_true_eq_false, mW5, wv_1 h1, mW9, wv_1 h2, g2]
      simp (disch := omega) only [litI, clI, subI, mulI, addI, eqI, leI, ltI, inI, ck_t, bS_e, bI_e, bL_e, bR_e, bW_e, mr m1, hn, if_false, e2]
      rw [updQ_n _ _ (by decide), show qRower A.1 a1 a2 36 = A.1 36 + 1 from updQ_s _ _ _, subI (by omega)]; rfl
  · have hR3 : A.1 36 = 3 := by omega
    refine sim_ref (f := fun σ => Go_rower N (nI a1) (nI a2) σ) (g := fun σ => Mo_rower N (nI a1) (nI a2) σ) (r := -4) 2 (by decide) hO hC hM ?_ (fun σ1 m1 => ?_)
    · show Go_rower N (nI a1) (nI a2) σ = _
      simp only [Go_rower, gGu hO hC, gRo hO hC, gPl, bR_e, bW_e, gBad, gFarBad, eq_self, one_ne, if_true, if_false, not_false_eq_true, not_true_eq_false, gW5, wv_1 h1, gW9, wv_1 h2, e1, gFull]
      simp (disch := omega) only [litI, clI, subI, mulI, addI, eqI, leI, ltI, inI, ck_t, bS_e, bI_e, bL_e, bR_e, bW_e, hR, if_false]
    · show Mo_rower N (nI a1) (nI a2) σ1 = _
      simp only [Mo_rower, mGu hO m1, mRo hO m1, mPl, bR_e, bW_e, mBad, eq_self, one_ne, if_true, if_false, not_false_eq_true, not_true_eq_false, mW5, wv_1 h1, mW9, wv_1 h2, mFull]
      simp (disch := omega) only [litI, clI, subI, mulI, addI, eqI, leI, ltI, inI, ck_t, bS_e, bI_e, bL_e, bR_e, bW_e, mr m1, hR3, if_true]
