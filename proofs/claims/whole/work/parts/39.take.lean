theorem narB : ∀ c, c < 128 → vp_nar .byte ((nI c).toInt8.toInt32) = nI c := by decide +kernel
theorem narZ : vp_nar .boolean 1 = 1 := by decide +kernel
/-- the class's text, the reference's: a letter more -/
theorem sim_type (N : Nat) : Sim_type N Inv := by
  intro σ hI v1
  obtain ⟨A, hO, hC, hM⟩ := hI
  have hq := hO.1
  have h36 := hO.1.2.1
  have h37 := hO.1.2.2.1
  by_cases h1 : (0 : Int) ≤ v1.toInt ∧ v1.toInt ≤ 127
  rotate_left
  · refine sim_ref (f := fun σ => Go_type N v1 σ) (g := fun σ => Mo_type N v1 σ) (r := -2) 0 (by decide) hO hC hM ?_ (fun σ1 m1 => ?_)
    · show Go_type N v1 σ = _
      simp only [Go_type, gGu hO hC, gRo hO hC, gPl, bR_e, bW_e, gBad, gFarBad, eq_self, one_ne, if_true, if_false, not_false_eq_true, not_true_eq_false, gW127, wv_0 h1]
    · show Mo_type N v1 σ1 = _
      simp only [Mo_type, mGu hO m1, mRo hO m1, mPl, bR_e, bW_e, mBad, eq_self, one_ne, if_true, if_false, not_false_eq_true, not_true_eq_false, mW127, wv_0 h1]
  obtain ⟨a1, c1, b1, rfl⟩ := wv_nat (hi := 127) (by decide) h1
  have e1 := hC.2.2.2.2.1
  by_cases hR : A.2.2.2.1.1 < 150
  · refine sim_of (f := fun σ => Go_type N (nI a1) σ) (g := fun σ => Mo_type N (nI a1) σ) hC hM ⟨nI (A.2.2.2.1.1 + 1), (A.1, A.2.1, A.2.2.1, (A.2.2.2.1.1 + 1, updQ A.2.2.2.1.2 A.2.2.2.1.1 a1), A.2.2.2.2), ⟨hO.1, hO.2.1, hR, fun j hj => ?_⟩, ⟨sI (sI σ 43 A.2.2.2.1.1 (nI a1)) 0 5 (nI (A.2.2.2.1.1 + 1)), ?_, ?_, (Low.sI (by decide)).trans (Low.sI (by decide))⟩, fun σ1 m1 => ⟨sI (sI σ1 119 A.2.2.2.1.1 (nI a1)) 114 5 (nI (A.2.2.2.1.1 + 1)), ?_, ?_, (High.sI (by decide)).trans (High.sI (by decide))⟩⟩
    · show updQ A.2.2.2.1.2 A.2.2.2.1.1 a1 j ≤ 127
      unfold updQ
      by_cases z : j = A.2.2.2.1.1
      · rw [if_pos z]; exact b1
      · rw [if_neg z]; exact hO.2.2.2 j (by have : j < A.2.2.2.1.1 + 1 := hj; omega)
    · show Go_type N (nI a1) σ = _
      simp only [Go_type, gGu hO hC, gRo hO hC, gPl, bR_e, bW_e, gBad, gFarBad, eq_self, one_ne, if_true, if_false, not_false_eq_true, not_true_eq_false, gW127, wv_1 h1, e1.1, narB a1 (by omega)]
      simp (disch := omega) only [litI, clI, subI, mulI, addI, eqI, leI, ltI, inI, ck_t, bS_e, bI_e, bL_e, bR_e, bW_e, hR, if_true, rdI_ne, rdI_eq, e1.1]
    · obtain ⟨h1, ⟨t1, t2, t3, t4⟩, h2, h3, h4, h5, h6⟩ := hC
      have F : ∀ a, a ≠ 0 → a ≠ 43 → (sI (sI σ 43 A.2.2.2.1.1 (nI a1)) 0 5 (nI (A.2.2.2.1.1 + 1))).1 a = σ.1 a := fun a ha hb => by rw [rdI_ne _ _ _ _ ha, rdI_ne _ _ _ _ hb]
      refine ⟨h1.frame (fun c hc => F _ (by omega) (by omega)), ⟨t1.frame (F _ (by decide) (by decide)) (F _ (by decide) (by decide)) (F _ (by decide) (by decide)), t2.frame (F _ (by decide) (by decide)) (F _ (by decide) (by decide)) (F _ (by decide) (by decide)), t3.frame (F _ (by decide) (by decide)) (F _ (by decide) (by decide)) (F _ (by decide) (by decide)), t4.frame (F _ (by decide) (by decide)) (F _ (by decide) (by decide)) (F _ (by decide) (by decide))⟩, fun i hi => by rw [F 42 (by decide) (by decide)]; exact h2 i hi, fun i hi hk => (h3 i hi hk).frame (fun c hc => F _ (by omega) (by omega)), ⟨rdI_eq _ _ _ _, fun j hj => ?_⟩, fun i hi => by rw [F 44 (by decide) (by decide)]; exact h5 i hi, h6⟩
      show _ = nI (updQ A.2.2.2.1.2 A.2.2.2.1.1 a1 j)
      rw [rdI_ne _ _ _ _ (by decide), rdI]
      unfold updQ
      by_cases z : j = A.2.2.2.1.1
      · rw [if_pos z, if_pos ⟨rfl, z⟩]
      · rw [if_neg z, if_neg (fun y => z y.2)]; exact h4.2 j (by have : j < A.2.2.2.1.1 + 1 := hj; omega)
    · show Mo_type N (nI a1) σ1 = _
      have hn : ¬ A.2.2.2.1.1 = 150 := by omega
      simp only [Mo_type, mGu hO m1, mRo hO m1, mPl, bR_e, bW_e, mBad, eq_self, one_ne, if_true, if_false, not_false_eq_true, not_true_eq_false, mW127, wv_1 h1, m1.2.2.2.1.1]
      simp (disch := omega) only [litI, clI, subI, mulI, addI, eqI, leI, ltI, inI, ck_t, bS_e, bI_e, bL_e, bR_e, bW_e, hn, if_false, rdI_ne, rdI_eq, m1.2.2.2.1.1]
    · obtain ⟨h1, h2, h3, h4, h5, h6⟩ := m1
      have F : ∀ a, a ≠ 114 → a ≠ 119 → (sI (sI σ1 119 A.2.2.2.1.1 (nI a1)) 114 5 (nI (A.2.2.2.1.1 + 1))).1 a = σ1.1 a := fun a ha hb => by rw [rdI_ne _ _ _ _ ha, rdI_ne _ _ _ _ hb]
      refine ⟨h1.frame (F _ (by decide) (by decide)), fun i hi => by rw [F 118 (by decide) (by decide)]; exact h2 i hi, fun i hi hk => (h3 i hi hk).frame (F _ (by decide) (by decide)), ⟨rdI_eq _ _ _ _, fun j hj => ?_⟩, fun i hi => by rw [F 120 (by decide) (by decide)]; exact h5 i hi, h6⟩
      show _ = nI (updQ A.2.2.2.1.2 A.2.2.2.1.1 a1 j)
      rw [rdI_ne _ _ _ _ (by decide), rdI]
      unfold updQ
      by_cases z : j = A.2.2.2.1.1
      · rw [if_pos z, if_pos ⟨rfl, z⟩]
      · rw [if_neg z, if_neg (fun y => z y.2)]; exact h4.2 j (by have : j < A.2.2.2.1.1 + 1 := hj; omega)
  · have hR3 : A.2.2.2.1.1 = 150 := by have := hO.2.2.1; omega
    refine sim_ref (f := fun σ => Go_type N (nI a1) σ) (g := fun σ => Mo_type N (nI a1) σ) (r := -4) 2 (by decide) hO hC hM ?_ (fun σ1 m1 => ?_)
    · show Go_type N (nI a1) σ = _
      simp only [Go_type, gGu hO hC, gRo hO hC, gPl, bR_e, bW_e, gBad, gFarBad, eq_self, one_ne, if_true, if_false, not_false_eq_true, not_true_eq_false, gW127, wv_1 h1, e1.1, gFull]
      simp (disch := omega) only [litI, clI, subI, mulI, addI, eqI, leI, ltI, inI, ck_t, bS_e, bI_e, bL_e, bR_e, bW_e, hR, if_false]
    · show Mo_type N (nI a1) σ1 = _
      simp only [Mo_type, mGu hO m1, mRo hO m1, mPl, bR_e, bW_e, mBad, eq_self, one_ne, if_true, if_false, not_false_eq_true, not_true_eq_false, mW127, wv_1 h1, mFull, m1.2.2.2.1.1]
      simp (disch := omega) only [litI, clI, subI, mulI, addI, eqI, leI, ltI, inI, ck_t, bS_e, bI_e, bL_e, bR_e, bW_e, hR3, if_true]
/-- a loop that counts up -/
theorem loop_at {α ρ : Type} (L : Nat → Nat → α → Option ρ) (n : Nat) (I : Nat → α → Prop) (Q : Option ρ → Prop)
    (step : ∀ f i a, i < n → I i a → ∃ a', L (f + 1) i a = L f (i + 1) a' ∧ I (i + 1) a') (fin : ∀ f a, I n a → Q (L (f + 1) n a)) :
    ∀ (d i fuel : Nat) (a : α), i + d = n → d < fuel → I i a → Q (L fuel i a) := by
  intro d
  induction d with
  | zero =>
    intro i fuel a h1 h2 h3
    obtain ⟨f, rfl⟩ : ∃ f, fuel = f + 1 := ⟨fuel - 1, by omega⟩
    obtain rfl : i = n := by omega
    exact fin f a h3
  | succ d ih =>
    intro i fuel a h1 h2 h3
    obtain ⟨f, rfl⟩ : ∃ f, fuel = f + 1 := ⟨fuel - 1, by omega⟩
    obtain ⟨a', e, h4⟩ := step f i a (by omega) h3
    rw [e]
    exact ih (i + 1) f a' (by omega) (by omega) h4
theorem loop_up {α ρ : Type} (L : Nat → Nat → α → Option ρ) (n : Nat) (I : Nat → α → Prop) (Q : Option ρ → Prop)
    (step : ∀ f i a, i < n → I i a → ∃ a', L (f + 1) i a = L f (i + 1) a' ∧ I (i + 1) a') (fin : ∀ f a, I n a → Q (L (f + 1) n a)) {fuel : Nat} {a : α} (hf : n < fuel) (h0 : I 0 a) : Q (L fuel 0 a) :=
  loop_at L n I Q step fin n 0 fuel a (by omega) hf h0
def qBegin (d : Nat) : QS := fun k => if k < 8 then d else 0
theorem Okq.begin {d : Nat} (h : d ≤ 9) : Okq (qBegin d) := by
  have e : ∀ k, 8 ≤ k → qBegin d k = 0 := fun k hk => if_neg (by omega)
  refine Okq.iff.mpr ⟨fun k hk => ?_, ⟨?_, fun r hr => ?_⟩, ⟨?_, fun g hg => ?_, fun g hg hg2 => ?_⟩, ⟨?_, fun r hr => ?_⟩, ⟨?_, fun r hr => ?_⟩, ⟨?_, fun r hr => ?_⟩, BU.zero (e _ (by omega))⟩
  · unfold qBegin
    by_cases z : k < 8
    · rw [if_pos z]; exact h
    · rw [if_neg z]; omega
  · rw [e _ (by omega)]; omega
  · rw [e _ (by omega)] at hr; omega
  · rw [e _ (by omega)]; omega
  · rw [e _ (by omega)] at hg; omega
  · rw [e _ (by omega), e _ (by omega), e _ (by omega), e _ (by omega)]; exact ⟨rfl, rfl, rfl, rfl⟩
  · rw [e _ (by omega)]; omega
  · rw [e _ (by omega)] at hr; omega
  · rw [e _ (by omega)]; omega
  · rw [e _ (by omega)] at hr; omega
  · rw [e _ (by omega)]; omega
  · rw [e _ (by omega)] at hr; omega
theorem cBegin {N n : Nat} (hN : 300 < N) {σ : St} (ht : TW n σ) (d : Nat) : ∃ σ', Ni_begin N n (nI d) σ = some σ' ∧ NR n (qBegin d) σ' ∧ Fr n σ σ' := by
  unfold Ni_begin
  refine loop_up (fun f i σ => Ni_begin_L2 N f n (nI d) (nI i) σ) 8 (fun i s => Fr n σ s ∧ TW n s ∧ ∀ p, p < i → s.1 (n + 1) p = nI d) (fun o => ∃ σ', o = some σ' ∧ NR n (qBegin d) σ' ∧ Fr n σ σ') ?_ ?_ (by omega) ⟨Fr.rfl', ht, by intros; omega⟩
  · intro f i s hi ⟨h1, h2, h3⟩
    refine ⟨sI s (n + 1) i (nI d), ?_, h1.trans (Fr.wr (by omega)), h2.frame (rdI_ne _ _ _ _ (by omega)) (rdI_ne _ _ _ _ (by omega)) (rdI_ne _ _ _ _ (by omega)), fun p hp => ?_⟩
    · have hn : ¬ 8 ≤ i := by omega
      simp only [Ni_begin_L2, Ni_begin_L2B]
      simp (disch := omega) only [litI, clI, subI, mulI, addI, eqI, leI, ltI, inI, ck_t, bS_e, bI_e, bL_e, bR_e, bW_e, hn, if_false]
    · rw [rdI]
      by_cases z : p = i
      · rw [if_pos ⟨rfl, z⟩]
      · rw [if_neg (fun y => z y.2)]; exact h3 p (by omega)
  · intro f s ⟨h1, h2, h3⟩
    simp only [Ni_begin_L2, Ni_begin_L2B]
    simp (disch := omega) only [litI, clI, subI, mulI, addI, eqI, leI, ltI, inI, ck_t, bS_e, bI_e, bL_e, bR_e, bW_e, show 8 ≤ 8 by decide, if_true]
    unfold Ni_begin_J21
    refine loop_up (fun f i σ => Ni_begin_L23 N f n (nI i) σ) 64 (fun i s' => Fr n s s' ∧ (∀ c, c ≠ n + 2 → s'.1 c = s.1 c) ∧ ∀ p, p < i → s'.1 (n + 2) p = 0) (fun o => ∃ σ', o = some σ' ∧ NR n (qBegin d) σ' ∧ Fr n σ σ') ?_ ?_ (by omega) ⟨Fr.rfl', fun _ _ => rfl, by intros; omega⟩
    · intro f i s' hi ⟨g1, g2, g3⟩
      refine ⟨sI s' (n + 2) i 0, ?_, g1.trans (Fr.wr (by omega)), fun c hc => by rw [rdI_ne _ _ _ _ hc]; exact g2 c hc, fun p hp => ?_⟩
      · have hn : ¬ 64 ≤ i := by omega
        simp only [Ni_begin_L23, Ni_begin_L23B]
        simp (disch := omega) only [litI, clI, subI, mulI, addI, eqI, leI, ltI, inI, ck_t, bS_e, bI_e, bL_e, bR_e, bW_e, hn, if_false]
      · rw [rdI]
        by_cases z : p = i
        · rw [if_pos ⟨rfl, z⟩]
        · rw [if_neg (fun y => z y.2)]; exact g3 p (by omega)
    · intro f s' ⟨g1, g2, g3⟩
      simp only [Ni_begin_L23, Ni_begin_L23B]
      simp (disch := omega) only [litI, clI, subI, mulI, addI, eqI, leI, ltI, inI, ck_t, bS_e, bI_e, bL_e, bR_e, bW_e, show 64 ≤ 64 by decide, if_true]
      unfold Ni_begin_J45
      simp only [bS_e]
      refine ⟨_, rfl, ⟨⟨?_, fun a b ha hb => ?_⟩, ?_⟩, h1.trans (g1.trans ((((((Fr.wr (by omega)).trans (Fr.wr (by omega))).trans (Fr.wr (by omega))).trans (Fr.wr (by omega))).trans (Fr.wr (by omega))).trans (Fr.wr (by omega))))⟩
      · have e : ∀ k, 8 ≤ k → qBegin d k = 0 := fun k hk => if_neg (by omega)
        refine live_cases (q := qBegin d) (P := fun k => _ = nI (qBegin d k)) ?_ ⟨?_, ?_, ?_, ?_, ?_, ?_⟩ ?_ ?_ ?_ ?_ ?_ ?_
        · intro p hp
          rw [ccD hp, scD hp]
          simp (disch := omega) only [rdI_ne]
          rw [g2 _ (by omega), h3 p hp]
          show _ = nI (if p < 8 then d else 0)
          rw [if_pos hp]
        · rw [e _ (by omega)]; show _ = nI 0
          show (sI _ _ _ _).1 (n + 0) 4 = _
          simp (disch := omega) only [rdI_ne, rdI_nk, rdI_eq, Nat.add_zero]; rfl
        · rw [e _ (by omega)]; show (sI _ _ _ _).1 (n + 0) 5 = _
          simp (disch := omega) only [rdI_ne, rdI_nk, rdI_eq, Nat.add_zero]; rfl
        · rw [e _ (by omega)]; show (sI _ _ _ _).1 (n + 5) 3 = _
          simp (disch := omega) only [rdI_ne, rdI_nk, rdI_eq, Nat.add_zero]; rfl
        · rw [e _ (by omega)]; show (sI _ _ _ _).1 (n + 7) 3 = _
          simp (disch := omega) only [rdI_ne, rdI_nk, rdI_eq, Nat.add_zero]; rfl
        · rw [e _ (by omega)]; show (sI _ _ _ _).1 (n + 9) 3 = _
          simp (disch := omega) only [rdI_ne, rdI_nk, rdI_eq, Nat.add_zero]; rfl
        · rw [e _ (by omega)]; show (sI _ _ _ _).1 (n + 11) 1 = _
          simp (disch := omega) only [rdI_ne, rdI_nk, rdI_eq, Nat.add_zero]; rfl
        · intro r _ hr; rw [e _ (by omega)] at hr; omega
        · intro g f _ _ hr; rw [e _ (by omega)] at hr; omega
        · intro j _ hr; rw [e _ (by omega)] at hr; omega
        · intro j _ hr; rw [e _ (by omega)] at hr; omega
        · intro j _ hr; rw [e _ (by omega)] at hr; omega
        · intro u g f _ _ _ hr; rw [e _ (by omega)] at hr; omega
      · simp (disch := omega) only [rdI_ne]
        rw [g3 _ (by omega)]
        unfold stq
        by_cases z : a = b
        · rw [if_pos z]; rfl
        · have := cnl_rng a ha b hb z
          rw [if_neg z, show qBegin d (cnl a b) = 0 from if_neg (by omega)]; rfl
      · unfold TW at h2 ⊢
        simp (disch := omega) only [rdI_ne, rdI_nk]
        rw [g2 _ (by omega), g2 _ (by omega), g2 _ (by omega)]; exact h2
theorem mBegin {N : Nat} (hN : 300 < N) {σ : St} (d : Nat) : ∃ σ', Mo_begins N (nI d) σ = some σ' ∧ RepM 115 0 (qBegin d) σ' ∧ Gr σ σ' := by
  unfold Mo_begins
  refine loop_up (fun f i σ => Mo_begins_L2 N f (nI d) (nI i) σ) 286 (fun i s => Gr σ s ∧ ∀ p, p < i → s.1 115 p = 0) (fun o => ∃ σ', o = some σ' ∧ RepM 115 0 (qBegin d) σ' ∧ Gr σ σ') ?_ ?_ (by omega) ⟨Gr.rfl', by intros; omega⟩
  · intro f i s hi ⟨h1, h3⟩
    refine ⟨sI s 115 i 0, ?_, h1.trans (Gr.wr (by omega) (by omega)), fun p hp => ?_⟩
    · have hn : ¬ 286 ≤ i := by omega
      simp only [Mo_begins_L2, Mo_begins_L2B]
      simp (disch := omega) only [litI, clI, subI, mulI, addI, eqI, leI, ltI, inI, ck_t, bS_e, bI_e, bL_e, bR_e, bW_e, hn, if_false]
    · rw [rdI]
      by_cases z : p = i
      · rw [if_pos ⟨rfl, z⟩]
      · rw [if_neg (fun y => z y.2)]; exact h3 p (by omega)
  · intro f s ⟨h1, h3⟩
    simp only [Mo_begins_L2, Mo_begins_L2B]
    simp (disch := omega) only [litI, clI, subI, mulI, addI, eqI, leI, ltI, inI, ck_t, bS_e, bI_e, bL_e, bR_e, bW_e, show 286 ≤ 286 by decide, if_true]
    unfold Mo_begins_J22
    refine loop_up (fun f i σ => Mo_begins_L24 N f (nI d) (nI i) σ) 8 (fun i s' => Gr s s' ∧ (∀ p, p < i → s'.1 115 p = nI d) ∧ ∀ p, i ≤ p → p < 286 → s'.1 115 p = 0) (fun o => ∃ σ', o = some σ' ∧ RepM 115 0 (qBegin d) σ' ∧ Gr σ σ') ?_ ?_ (by omega) ⟨Gr.rfl', by intros; omega, fun p _ hp => h3 p hp⟩
    · intro f i s' hi ⟨g1, g2, g3⟩
      refine ⟨sI s' 115 i (nI d), ?_, g1.trans (Gr.wr (by omega) (by omega)), fun p hp => ?_, fun p hp hp2 => ?_⟩
      · have hn : ¬ 8 ≤ i := by omega
        simp only [Mo_begins_L24, Mo_begins_L24B]
        simp (disch := omega) only [litI, clI, subI, mulI, addI, eqI, leI, ltI, inI, ck_t, bS_e, bI_e, bL_e, bR_e, bW_e, hn, if_false, Nat.zero_add]
      · rw [rdI]
        by_cases z : p = i
        · rw [if_pos ⟨rfl, z⟩]
        · rw [if_neg (fun y => z y.2)]; exact g2 p (by omega)
      · rw [rdI, if_neg (by omega)]; exact g3 p (by omega) hp2
    · intro f s' ⟨g1, g2, g3⟩
      simp only [Mo_begins_L24, Mo_begins_L24B]
      simp (disch := omega) only [litI, clI, subI, mulI, addI, eqI, leI, ltI, inI, ck_t, bS_e, bI_e, bL_e, bR_e, bW_e, show 8 ≤ 8 by decide, if_true]
      refine ⟨s', rfl, fun k hk => ?_, h1.trans g1⟩
      rw [Nat.zero_add]
      show _ = nI (if k < 8 then d else 0)
      by_cases z : k < 8
      · rw [if_pos z]; exact g2 k z
      · rw [if_neg z]; exact g3 k (by omega) hk
theorem sim_water (N : Nat) (hN : 300 < N) : Sim_water N Inv := by
  intro σ hI v1
  obtain ⟨A, hO, hC, hM⟩ := hI
  have hq := hO.1
  have h36 := hO.1.2.1
  have h37 := hO.1.2.2.1
  by_cases h1 : (0 : Int) ≤ v1.toInt ∧ v1.toInt ≤ 9
  rotate_left
  · refine sim_ref (f := fun σ => Go_water N v1 σ) (g := fun σ => Mo_water N v1 σ) (r := -2) 0 (by decide) hO hC hM ?_ (fun σ1 m1 => ?_)
    · show Go_water N v1 σ = _
      simp only [Go_water, gGu hO hC, gRo hO hC, gPl, bR_e, bW_e, gBad, gFarBad, eq_self, one_ne, if_true, if_false, not_false_eq_true, not_true_eq_false, gW9, wv_0 h1]
    · show Mo_water N v1 σ1 = _
      simp only [Mo_water, mGu hO m1, mRo hO m1, mPl, bR_e, bW_e, mBad, eq_self, one_ne, if_true, if_false, not_false_eq_true, not_true_eq_false, mW9, wv_0 h1]
  obtain ⟨a1, c1, b1, rfl⟩ := wv_nat (hi := 9) (by decide) h1
  obtain ⟨s1, g1, n1, f1⟩ := cBegin (N := N) hN (d := a1) hC.nr.2
  refine sim_of (f := fun σ => Go_water N (nI a1) σ) (g := fun σ => Mo_water N (nI a1) σ) hC hM ⟨nI (A.1 37), (qBegin a1, A.2), hO.q (Okq.begin b1), ⟨s1, ?_, hC.night n1 f1, f1.low⟩, fun σ1 m1 => ?_⟩
  · show Go_water N (nI a1) σ = _
    simp only [Go_water, gGu hO hC, gRo hO hC, gPl, bR_e, bW_e, gBad, gFarBad, eq_self, one_ne, if_true, if_false, not_false_eq_true, not_true_eq_false, gW9, wv_1 h1, hC.nr.cnt.2.1, g1, bI_e]
  · obtain ⟨s2, g2, n2, f2⟩ := mBegin (N := N) hN (σ := σ1) a1
    refine ⟨s2, ?_, m1.row n2 f2, f2.high⟩
    show Mo_water N (nI a1) σ1 = _
    simp only [Mo_water, mGu hO m1, mRo hO m1, mPl, bR_e, bW_e, mBad, eq_self, one_ne, if_true, if_false, not_false_eq_true, not_true_eq_false, mW9, wv_1 h1, g2]
    simp (disch := omega) only [litI, clI, subI, mulI, addI, eqI, leI, ltI, inI, ck_t, bS_e, bI_e, bL_e, bR_e, bW_e, mr m1]
