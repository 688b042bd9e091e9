theorem NP.putG {n : Nat} {q : QS} {P : Nat → Prop} {σ : St} (h : NP n P q σ) {g f k v : Nat} (hg : g < 4) (hf : f < 6) (hk : k = 44 + 4 * f + g) : NP n (fun j => P j ∨ j = k) (updQ q k v) (sI σ (n + 16 + g) f (nI v)) :=
  h.put (by omega) (by omega) (by rw [hk, ccG hg hf, Nat.add_assoc]) (by rw [hk, scG hg hf])
def qGuest (q : QS) (kd hp : Nat) : QS := updQ (updQ (updQ q (44 + q 37) kd) (48 + q 37) hp) 37 (q 37 + 1)
theorem cAddGuest {N n : Nat} {q : QS} {σ : St} (hq : Okq q) (h : NR n q σ) (hG : q 37 < 4) (kd hp : Nat) : ∃ σ', Ni_addGuest N n (nI kd) (nI hp) σ = some σ' ∧ NR n (updQ (qGuest q kd hp) 157 0) (sI σ' (n + 11) 1 0) ∧ Fr n σ σ' ∧ (q 157 = 0 → NR n (qGuest q kd hp) σ') ∧ σ'.1 n 5 = nI (q 37 + 1) := by
  have e := h.cnt.2.1
  have hn : ¬ 4 ≤ q 37 := by omega
  obtain ⟨z1, z2, z3, z4⟩ := hq.b.2.2.1.2.2 (q 37) hG (Nat.le_refl _)
  have F : Fr n σ (sI (sI (sI (sI (sI (sI (sI σ (n + 16 + q 37) 0 (nI kd)) (n + 16 + q 37) 1 (nI hp)) (n + 16 + q 37) 2 0) (n + 16 + q 37) 3 0) (n + 16 + q 37) 4 0) (n + 16 + q 37) 5 0) n 5 (nI (q 37 + 1))) := ((((((Fr.wr (by omega)).trans (Fr.wr (by omega))).trans (Fr.wr (by omega))).trans (Fr.wr (by omega))).trans (Fr.wr (by omega))).trans (Fr.wr (by omega))).trans (Fr.wr (by omega))
  have K := ((((((h.np.putG (g := q 37) (f := 0) (k := 44 + q 37) (v := kd) hG (by decide) rfl).putG (g := q 37) (f := 1) (k := 48 + q 37) (v := hp) hG (by decide) rfl).putG (g := q 37) (f := 2) (k := 52 + q 37) (v := 0) hG (by decide) rfl).putG (g := q 37) (f := 3) (k := 56 + q 37) (v := 0) hG (by decide) rfl).putG (g := q 37) (f := 4) (k := 60 + q 37) (v := 0) hG (by decide) rfl).putG (g := q 37) (f := 5) (k := 64 + q 37) (v := 0) hG (by decide) rfl).put (k := 37) (v := q 37 + 1) (c := n) (s := 5) (by omega) (by omega) rfl rfl
  rw [updQ_id (k := 52 + q 37) (by simp (disch := omega) only [updQ_n]; exact z1), updQ_id (k := 56 + q 37) (by simp (disch := omega) only [updQ_n]; exact z2), updQ_id (k := 60 + q 37) (by simp (disch := omega) only [updQ_n]; exact z3), updQ_id (k := 64 + q 37) (by simp (disch := omega) only [updQ_n]; exact z4)] at K
  have L : ∀ g f, g < 4 → f < 6 → q 37 ≤ g → g < q 37 + 1 → ((((((((live q (44 + 4 * f + g) ∨ (44 + 4 * f + g) = 44 + q 37) ∨ (44 + 4 * f + g) = 48 + q 37) ∨ (44 + 4 * f + g) = 52 + q 37) ∨ (44 + 4 * f + g) = 56 + q 37) ∨ (44 + 4 * f + g) = 60 + q 37) ∨ (44 + 4 * f + g) = 64 + q 37) ∨ (44 + 4 * f + g) = 37)) := by
    intro g f h1 h2 h3 h4
    have : g = q 37 := by omega
    subst this
    match f, h2 with
    | 0, _ => exact Or.inl (Or.inl (Or.inl (Or.inl (Or.inl (Or.inl (Or.inr rfl))))))
    | 1, _ => exact Or.inl (Or.inl (Or.inl (Or.inl (Or.inl (Or.inr rfl)))))
    | 2, _ => exact Or.inl (Or.inl (Or.inl (Or.inl (Or.inr rfl))))
    | 3, _ => exact Or.inl (Or.inl (Or.inl (Or.inr rfl)))
    | 4, _ => exact Or.inl (Or.inl (Or.inr rfl))
    | 5, _ => exact Or.inl (Or.inr rfl)
  refine ⟨sI (sI (sI (sI (sI (sI (sI σ (n + 16 + q 37) 0 (nI kd)) (n + 16 + q 37) 1 (nI hp)) (n + 16 + q 37) 2 0) (n + 16 + q 37) 3 0) (n + 16 + q 37) 4 0) (n + 16 + q 37) 5 0) n 5 (nI (q 37 + 1)), ?_, ?_, F, fun hz => ?_, rdI_eq _ _ _ _⟩
  · simp only [Ni_addGuest, Gu_come, Gu_getIn]
    simp (disch := omega) only [litI, clI, subI, mulI, addI, eqI, leI, ltI, inI, ck_t, bS_e, bI_e, bL_e, bR_e, bW_e, e, rdI_ne, hn, if_false]
  · refine (K.put (k := 157) (v := 0) (by decide) (by decide) rfl rfl).nr ?_
    apply live_new (q := q) (fun k hk => Or.inl (Or.inl (Or.inl (Or.inl (Or.inl (Or.inl (Or.inl (Or.inl hk)))))))) <;> simp (disch := omega) only [updQ_s, updQ_n]
    · intros; omega
    · exact fun g f h1 h2 h3 h4 => Or.inl (L g f h1 h2 h3 h4)
    all_goals intros; omega
  · refine K.nr ?_
    apply live_new (q := q) (fun k hk => Or.inl (Or.inl (Or.inl (Or.inl (Or.inl (Or.inl (Or.inl hk))))))) <;> simp (disch := omega) only [updQ_s, updQ_n]
    · intros; omega
    · exact L
    all_goals intros; omega
theorem mAddGuest {N : Nat} {q : QS} {σ : St} (h : RepM 115 0 q σ) (hG : q 37 < 4) (kd hp : Nat) : ∃ σ', Mo_addGuest N (nI kd) (nI hp) σ = some σ' ∧ RepM 115 0 (updQ (qGuest q kd hp) 157 0) σ' ∧ Gr σ σ' := by
  have e := h.get (k := 37) (by decide)
  refine ⟨sI (sI (sI (sI σ 115 (44 + q 37) (nI kd)) 115 (48 + q 37) (nI hp)) 115 37 (nI (q 37 + 1))) 115 157 0, ?_, (((h.put kd).put hp).put _).put 0, (((Gr.wr (by omega) (by omega)).trans (Gr.wr (by omega) (by omega))).trans (Gr.wr (by omega) (by omega))).trans (Gr.wr (by omega) (by omega))⟩
  unfold Mo_addGuest
  simp (disch := omega) only [litI, clI, subI, mulI, addI, eqI, leI, ltI, inI, ck_t, bS_e, bI_e, bL_e, bR_e, bW_e, e, rdI_nk]
theorem Okq.guest0 {q : QS} (h : Okq q) (hG : q 37 < 4) {kd hp : Nat} (h1 : kd ≤ 5) (h2 : 1 ≤ hp ∧ hp ≤ 40) (hz : q 157 = 0) : Okq (qGuest q kd hp) := by
  obtain ⟨b1, b2, b3, b4, b5, b6, b7⟩ := h.b
  unfold qGuest
  refine Okq.iff.mpr ⟨b1.congr ?_, b2.congr ?_, ⟨?_, fun g hg => ?_, fun g hg hg2 => ?_⟩, b4.congr ?_, b5.congr ?_, b6.congr ?_, BU.zero ?_⟩
  · intros; simp (disch := omega) only [updQ_n]
  · intros; simp (disch := omega) only [updQ_n]
  · rw [updQ_s]; omega
  · rw [updQ_s] at hg
    by_cases z : g = q 37
    · subst z
      obtain ⟨z1, z2, z3, z4⟩ := b3.2.2 (q 37) hG (Nat.le_refl _)
      simp (disch := omega) only [updQ_s, updQ_n]
      rw [z1, z2, z3, z4]
      exact ⟨h1, h2.1, h2.2, by omega, by omega, by omega, by omega⟩
    · simp (disch := omega) only [updQ_n]; exact b3.2.1 g (by omega)
  · rw [updQ_s] at hg2
    simp (disch := omega) only [updQ_n]; exact b3.2.2 g hg (by omega)
  · intros; simp (disch := omega) only [updQ_n]
  · intros; simp (disch := omega) only [updQ_n]
  · intros; simp (disch := omega) only [updQ_n]
  · simp (disch := omega) only [updQ_n]; exact hz
theorem qGuest_157 (q : QS) (kd hp : Nat) (h : q 37 < 4) : updQ (qGuest q kd hp) 157 0 = qGuest (updQ q 157 0) kd hp := by
  unfold qGuest
  rw [updQ_n q 0 (by decide : (37 : Nat) ≠ 157)]
  funext j
  unfold updQ
  by_cases z : j = 157
  · subst z
    rw [if_pos rfl, if_neg (by omega), if_neg (by omega), if_neg (by omega), if_pos rfl]
  · rw [if_neg z, if_neg z]
theorem sim_guest (N : Nat) : Sim_guest N Inv := by
  intro σ hI v1 v2
  obtain ⟨A, hO, hC, hM⟩ := hI
  have hq := hO.1
  have h36 := hO.1.2.1
  have h37 := hO.1.2.2.1
  by_cases h1 : (0 : Int) ≤ v1.toInt ∧ v1.toInt ≤ 5
  rotate_left
  · refine sim_ref (f := fun σ => Go_guest N v1 v2 σ) (g := fun σ => Mo_guest N v1 v2 σ) (r := -2) 0 (by decide) hO hC hM ?_ (fun σ1 m1 => ?_)
    · show Go_guest N v1 v2 σ = _
      simp only [Go_guest_J19, Go_guest, gGu hO hC, gRo hO hC, gPl, bR_e, bW_e, gBad, gFarBad, eq_self, one_ne, if_true, if_false, not_false_eq_true, not_true_eq_false, gW5, wv_0 h1]
    · show Mo_guest N v1 v2 σ1 = _
      simp only [Mo_guest_J24, Mo_guest, mGu hO m1, mRo hO m1, mPl, bR_e, bW_e, mBad, eq_self, one_ne, if_true, if_false, not_false_eq_true, not_true_eq_false, mW5, wv_0 h1]
  by_cases h2 : (1 : Int) ≤ v2.toInt ∧ v2.toInt ≤ 40
  rotate_left
  · refine sim_ref (f := fun σ => Go_guest N v1 v2 σ) (g := fun σ => Mo_guest N v1 v2 σ) (r := -2) 0 (by decide) hO hC hM ?_ (fun σ1 m1 => ?_)
    · show Go_guest N v1 v2 σ = _
      simp only [Go_guest_J19, Go_guest, gGu hO hC, gRo hO hC, gPl, bR_e, bW_e, gBad, gFarBad, eq_self, one_ne, if_true, if_false, not_false_eq_true, not_true_eq_false, gW5, wv_1 h1, gW140, wv_0 h2]
    · show Mo_guest N v1 v2 σ1 = _
      simp only [Mo_guest_J24, Mo_guest, mGu hO m1, mRo hO m1, mPl, bR_e, bW_e, mBad, eq_self, one_ne, if_true, if_false, not_false_eq_true, not_true_eq_false, mW5, wv_1 h1, mW140, wv_0 h2]
  obtain ⟨a1, c1, b1, rfl⟩ := wv_nat (hi := 5) (by decide) h1
  obtain ⟨a2, c2, b2, rfl⟩ := wv_nat (hi := 40) (by decide) h2
  have e1 := hC.nr.cnt.2.1
  by_cases hR : A.1 37 < 4
  · obtain ⟨s1, g1, n1, f1, -, w1⟩ := cAddGuest (N := N) hq hC.nr hR a1 a2
    refine sim_of (f := fun σ => Go_guest N (nI a1) (nI a2) σ) (g := fun σ => Mo_guest N (nI a1) (nI a2) σ) hC hM ⟨nI (A.1 37), (updQ (qGuest A.1 a1 a2) 157 0, A.2), hO.q ?_, ⟨sI s1 12 1 0, ?_, hC.night n1 (f1.trans (Fr.wr (by omega))), f1.low.trans (Low.sI (by omega))⟩, fun σ1 m1 => ?_⟩
    · rw [qGuest_157 _ _ _ hR]
      exact hq.undo0.guest0 (by rw [updQ_n _ _ (by decide)]; exact hR) b1 ⟨by omega, b2⟩ (updQ_s _ _ _)
    · show Go_guest N (nI a1) (nI a2) σ = _
      simp only [Go_guest, gGu hO hC, gRo hO hC, gPl, bR_e, bW_e, gBad, gFarBad, eq_self, one_ne, if_true, if_false, not_false_eq_true, not_true_eq_false, gW5, wv_1 h1, gW140, wv_1 h2, e1, g1, bS_e]
      simp (disch := omega) only [litI, clI, subI, mulI, addI, eqI, leI, ltI, inI, ck_t, bS_e, bI_e, bL_e, bR_e, bW_e, hR, if_true, rdI_ne, w1]
      rw [Nat.add_sub_cancel]
    · obtain ⟨s2, g2, n2, f2⟩ := mAddGuest (N := N) m1.1 hR a1 a2
      refine ⟨s2, ?_, m1.row n2 f2, f2.high⟩
      show Mo_guest N (nI a1) (nI a2) σ1 = _
      have e2 := n2.get (k := 37) (by decide)
      have hn : ¬ A.1 37 = 4 := by omega
      simp only [Mo_guest, mGu hO m1, mRo hO m1, mPl, bR_e, bW_e, mBad, eq_self, one_ne, if_true, if_false, not_false_eq_true, not_true_eq_false, mW5, wv_1 h1, mW140, wv_1 h2, g2]
      simp (disch := omega) only [litI, clI, subI, mulI, addI, eqI, leI, ltI, inI, ck_t, bS_e, bI_e, bL_e, bR_e, bW_e, mr m1, hn, if_false, e2]
      rw [updQ_n _ _ (by decide), show qGuest A.1 a1 a2 37 = A.1 37 + 1 from updQ_s _ _ _, subI (by omega)]; rfl
  · have hR3 : A.1 37 = 4 := by omega
    refine sim_ref (f := fun σ => Go_guest N (nI a1) (nI a2) σ) (g := fun σ => Mo_guest N (nI a1) (nI a2) σ) (r := -4) 2 (by decide) hO hC hM ?_ (fun σ1 m1 => ?_)
    · show Go_guest N (nI a1) (nI a2) σ = _
      simp only [Go_guest, gGu hO hC, gRo hO hC, gPl, bR_e, bW_e, gBad, gFarBad, eq_self, one_ne, if_true, if_false, not_false_eq_true, not_true_eq_false, gW5, wv_1 h1, gW140, wv_1 h2, e1, gFull]
      simp (disch := omega) only [litI, clI, subI, mulI, addI, eqI, leI, ltI, inI, ck_t, bS_e, bI_e, bL_e, bR_e, bW_e, hR, if_false]
    · show Mo_guest N (nI a1) (nI a2) σ1 = _
      simp only [Mo_guest, mGu hO m1, mRo hO m1, mPl, bR_e, bW_e, mBad, eq_self, one_ne, if_true, if_false, not_false_eq_true, not_true_eq_false, mW5, wv_1 h1, mW140, wv_1 h2, mFull]
      simp (disch := omega) only [litI, clI, subI, mulI, addI, eqI, leI, ltI, inI, ck_t, bS_e, bI_e, bL_e, bR_e, bW_e, mr m1, hR3, if_true]
theorem sim_who (N : Nat) : Sim_who N Inv := by
  intro σ hI v1 v2
  obtain ⟨A, hO, hC, hM⟩ := hI
  have hq := hO.1
  have h36 := hO.1.2.1
  have h37 := hO.1.2.2.1
  by_cases h1 : (0 : Int) ≤ v1.toInt ∧ v1.toInt ≤ (A.1 36 : Int) - 1
  rotate_left
  · refine sim_ref (f := fun σ => Go_who N v1 v2 σ) (g := fun σ => Mo_who N v1 v2 σ) (r := -2) 0 (by decide) hO hC hM ?_ (fun σ1 m1 => ?_)
    · show Go_who N v1 v2 σ = _
      simp only [Go_who_J17, Go_who, gGu hO hC, gRo hO hC, gPl, bR_e, bW_e, gBad, gFarBad, eq_self, one_ne, if_true, if_false, not_false_eq_true, not_true_eq_false, wv_0 h1]
    · show Mo_who N v1 v2 σ1 = _
      simp only [Mo_who_J34, Mo_who, mGu hO m1, mRo hO m1, mPl, bR_e, bW_e, mBad, eq_self, one_ne, if_true, if_false, not_false_eq_true, not_true_eq_false, wv_0 h1]
  by_cases h2 : (0 : Int) ≤ v2.toInt ∧ v2.toInt ≤ 1
  rotate_left
  · refine sim_ref (f := fun σ => Go_who N v1 v2 σ) (g := fun σ => Mo_who N v1 v2 σ) (r := -2) 0 (by decide) hO hC hM ?_ (fun σ1 m1 => ?_)
    · show Go_who N v1 v2 σ = _
      simp only [Go_who_J17, Go_who, gGu hO hC, gRo hO hC, gPl, bR_e, bW_e, gBad, gFarBad, eq_self, one_ne, if_true, if_false, not_false_eq_true, not_true_eq_false, wv_1 h1, gW1, wv_0 h2]
    · show Mo_who N v1 v2 σ1 = _
      simp only [Mo_who_J34, Mo_who, mGu hO m1, mRo hO m1, mPl, bR_e, bW_e, mBad, eq_self, one_ne, if_true, if_false, not_false_eq_true, not_true_eq_false, wv_1 h1, mW1, wv_0 h2]
  obtain ⟨a1, b1, rfl⟩ := wv_lt h1
  obtain ⟨a2, c2, b2, rfl⟩ := wv_nat (hi := 1) (by decide) h2
  have hr3 : a1 < 3 := by omega
  have e1 := hC.nr.row hr3 b1
  refine sim_rd (f := fun σ => Go_who N (nI a1) (nI a2) σ) (g := fun σ => Mo_who N (nI a1) (nI a2) σ) (r := nI (A.1 (38 + 3 * a2 + a1))) hO hC hM ?_ (fun σ1 m1 => ?_)
  · show Go_who N (nI a1) (nI a2) σ = _
    simp only [Go_who, gGu hO hC, gRo hO hC, gPl, bR_e, bW_e, gBad, gFarBad, eq_self, one_ne, if_true, if_false, not_false_eq_true, not_true_eq_false, wv_1 h1, gW1, wv_1 h2]
    match a2, b2 with
    | 0, _ => simp (disch := omega) only [litI, clI, subI, mulI, addI, eqI, leI, ltI, inI, ck_t, bS_e, bI_e, bL_e, bR_e, bW_e, e1.1, if_true]
    | 1, _ => simp (disch := omega) only [litI, clI, subI, mulI, addI, eqI, leI, ltI, inI, ck_t, bS_e, bI_e, bL_e, bR_e, bW_e, e1.2, if_false, show ¬ 1 = 0 by decide, show 38 + 3 * 1 + a1 = 41 + a1 by omega]
  · show Mo_who N (nI a1) (nI a2) σ1 = _
    simp only [Mo_who, mGu hO m1, mRo hO m1, mPl, bR_e, bW_e, mBad, eq_self, one_ne, if_true, if_false, not_false_eq_true, not_true_eq_false, wv_1 h1, mW1, wv_1 h2]
    simp (disch := omega) only [litI, clI, subI, mulI, addI, eqI, leI, ltI, inI, ck_t, bS_e, bI_e, bL_e, bR_e, bW_e, mr m1]
theorem Okq.cut {q : QS} (h : Okq q) {k : Nat} (hk : k = 68 ∨ k = 89 ∨ k = 126) : Okq (updQ q k 0) := by
  obtain ⟨b1, b2, b3, b4, b5, b6, b7⟩ := h.b
  refine Okq.iff.mpr ⟨b1.congr ?_, b2.congr ?_, b3.congr ?_, ?_, ?_, ?_, b7.congr ?_⟩
  · intros; rw [updQ_n _ _ (by omega)]
  · intros; rw [updQ_n _ _ (by omega)]
  · intros; rw [updQ_n _ _ (by omega)]
  · by_cases z : k = 68
    · subst z; exact ⟨by rw [updQ_s]; omega, fun k hk => by rw [updQ_s] at hk; omega⟩
    · exact b4.congr (by intros; rw [updQ_n _ _ (by omega)])
  · by_cases z : k = 89
    · subst z; exact ⟨by rw [updQ_s]; omega, fun k hk => by rw [updQ_s] at hk; omega⟩
    · exact b5.congr (by intros; rw [updQ_n _ _ (by omega)])
  · by_cases z : k = 126
    · subst z; exact ⟨by rw [updQ_s]; omega, fun k hk => by rw [updQ_s] at hk; omega⟩
    · exact b6.congr (by intros; rw [updQ_n _ _ (by omega)])
  · intros; rw [updQ_n _ _ (by omega)]
theorem cCut {n : Nat} {q : QS} {σ : St} (h : NR n q σ) {k c : Nat} (hk : (k = 68 ∧ c = n + 5) ∨ (k = 89 ∧ c = n + 7) ∨ (k = 126 ∧ c = n + 9)) : NR n (updQ q k 0) (sI σ c 3 0) := by
  have K : NP n (fun j => live q j ∨ j = k) (updQ q k 0) (sI σ c 3 (nI 0)) := by
    rcases hk with ⟨rfl, rfl⟩ | ⟨rfl, rfl⟩ | ⟨rfl, rfl⟩ <;> exact h.np.put (by decide) (by decide) rfl rfl
  have le : ∀ j, updQ q k 0 j ≤ q j := fun j => by
    unfold updQ
    by_cases z : j = k
    · rw [if_pos z]; omega
    · rw [if_neg z]; omega
  exact K.nr (live_ge (q := q) (fun k hk => Or.inl hk) (le _) (le _) (le _) (le _) (le _) (le _))
theorem sim_forget (N : Nat) : Sim_forget N Inv := by
  intro σ hI v1
  obtain ⟨A, hO, hC, hM⟩ := hI
  have hq := hO.1
  have h36 := hO.1.2.1
  have h37 := hO.1.2.2.1
  by_cases h1 : (0 : Int) ≤ v1.toInt ∧ v1.toInt ≤ 2
  rotate_left
  · refine sim_ref (f := fun σ => Go_forget N v1 σ) (g := fun σ => Mo_forget N v1 σ) (r := -2) 0 (by decide) hO hC hM ?_ (fun σ1 m1 => ?_)
    · show Go_forget N v1 σ = _
      simp only [Go_forget_J50, Go_forget, gGu hO hC, gRo hO hC, gPl, bR_e, bW_e, gBad, gFarBad, eq_self, one_ne, if_true, if_false, not_false_eq_true, not_true_eq_false, gW2, wv_0 h1]
    · show Mo_forget N v1 σ1 = _
      simp only [Mo_forget_J40, Mo_forget, mGu hO m1, mRo hO m1, mPl, bR_e, bW_e, mBad, eq_self, one_ne, if_true, if_false, not_false_eq_true, not_true_eq_false, mW2, wv_0 h1]
  obtain ⟨a1, c1, b1, rfl⟩ := wv_nat (hi := 2) (by decide) h1
  have K : ∀ k c, (k = 68 ∧ c = 6) ∨ (k = 89 ∧ c = 8) ∨ (k = 126 ∧ c = 10) → Go_forget N (nI a1) σ = Go_forget_J50 N c σ → (∀ σ1, Mo_forget N (nI a1) σ1 = Mo_forget_J40 N (nI k) σ1) → ∃ (r : Int32) (σ1 σ2 : St), Go_forget N (nI a1) σ = some (r, σ1) ∧ Mo_forget N (nI a1) σ1 = some (r, σ2) ∧ Inv σ2 := by
    intro k c hk eg em
    have hg : σ.1 c 3 = nI (A.1 k) := by
      have := hC.nr.cnt
      rcases hk with ⟨rfl, rfl⟩ | ⟨rfl, rfl⟩ | ⟨rfl, rfl⟩
      · exact this.2.2.1
      · exact this.2.2.2.1
      · exact this.2.2.2.2.1
    have F : Fr 1 σ (sI σ c 3 0) := Fr.wr (by omega)
    refine sim_of (f := fun σ => Go_forget N (nI a1) σ) (g := fun σ => Mo_forget N (nI a1) σ) hC hM ⟨nI (A.1 k), (updQ A.1 k 0, A.2), hO.q (hq.cut (by omega)), ⟨sI σ c 3 0, ?_, hC.night (cCut hC.nr (by omega)) F, F.low⟩, fun σ1 m1 => ⟨sI σ1 115 k 0, ?_, m1.row (m1.1.put 0) (Gr.wr (by omega) (by omega)), High.sI (by omega)⟩⟩
    · show Go_forget N (nI a1) σ = _
      rw [eg]; unfold Go_forget_J50
      rw [hg, bI_e, bS_e]
    · show Mo_forget N (nI a1) σ1 = _
      rw [em]; unfold Mo_forget_J40
      simp (disch := omega) only [litI, clI, subI, mulI, addI, eqI, leI, ltI, inI, ck_t, bS_e, bI_e, bL_e, bR_e, bW_e, mr m1]
  match a1, b1, h1 with
  | 0, _, h1 => exact K 68 6 (by omega) (by simp only [Go_forget, gW2, wv_1 h1, one_ne, if_false]; rfl) (fun σ1 => by simp only [Mo_forget, mW2, wv_1 h1, one_ne, if_false]; rfl)
  | 1, _, h1 => exact K 89 8 (by omega) (by simp only [Go_forget, gW2, wv_1 h1, one_ne, if_false]; rfl) (fun σ1 => by simp only [Mo_forget, mW2, wv_1 h1, one_ne, if_false]; rfl)
  | 2, _, h1 => exact K 126 10 (by omega) (by simp only [Go_forget, gW2, wv_1 h1, one_ne, if_false]; rfl) (fun σ1 => by simp only [Mo_forget, mW2, wv_1 h1, one_ne, if_false]; rfl)
