def imgA (A : Ab) (i : Nat) : Ab := (A.1, (fun j => if j = i then A.1 else A.2.1 j), (fun j => if j = i then true else A.2.2.1 j), A.2.2.2)
theorem sim_image (N : Nat) (hN : 300 < N) : Sim_image N Inv := by
  intro σ hI v1
  obtain ⟨A, hO, hC, hM⟩ := hI
  have hq := hO.1
  have h36 := hO.1.2.1
  have h37 := hO.1.2.2.1
  by_cases h1 : (0 : Int) ≤ v1.toInt ∧ v1.toInt ≤ 1
  rotate_left
  · refine sim_ref (f := fun σ => Go_image N v1 σ) (g := fun σ => Mo_image N v1 σ) (r := -2) 0 (by decide) hO hC hM ?_ (fun σ1 m1 => ?_)
    · show Go_image N v1 σ = _
      simp only [Go_image, gGu hO hC, gRo hO hC, gPl, bR_e, bW_e, gBad, gFarBad, eq_self, one_ne, if_true, if_false, not_false_eq_true, not_true_eq_false, gW1, wv_0 h1]
    · show Mo_image N v1 σ1 = _
      simp only [Mo_image, mGu hO m1, mRo hO m1, mPl, bR_e, bW_e, mBad, eq_self, one_ne, if_true, if_false, not_false_eq_true, not_true_eq_false, mW1, wv_0 h1]
  obtain ⟨a1, c1, b1, rfl⟩ := wv_nat (hi := 1) (by decide) h1
  have hi : a1 = 0 ∨ a1 = 1 := by omega
  have l1 : LN (74 + 20 * a1) := by rcases hi with rfl | rfl; exact LN_all.2.2.1; exact LN_all.2.2.2
  have tw : TW (74 + 20 * a1) σ := by rcases hi with rfl | rfl; exact hC.2.1.2.2.1; exact hC.2.1.2.2.2
  obtain ⟨s1, g1, n1, f1⟩ := cTake (N := N) hN hC.nr tw (Or.inr (by omega)) l1 LN_all.1
  refine sim_of (f := fun σ => Go_image N (nI a1) σ) (g := fun σ => Mo_image N (nI a1) σ) hC hM ⟨1, imgA A a1, ⟨hO.1, fun i hi hk => ?_, hO.2.2⟩, ⟨sI s1 42 a1 1, ?_, ?_, fun i hi => ⟨by rw [rdI_ne _ _ _ _ (by omega)]; exact f1.1 i (by omega), by rw [rdI_2, f1.2]⟩⟩, fun σ1 m1 => ?_⟩
  · show Okq (if i = a1 then A.1 else A.2.1 i)
    by_cases z : i = a1
    · rw [if_pos z]; exact hO.1
    · rw [if_neg z]
      refine hO.2.1 i hi ?_
      have : (if i = a1 then true else A.2.2.1 i) = true := hk
      rwa [if_neg z] at this
  · show Go_image N (nI a1) σ = _
    simp only [Go_image, gGu hO hC, gRo hO hC, gPl, bR_e, bW_e, gBad, gFarBad, eq_self, one_ne, if_true, if_false, not_false_eq_true, not_true_eq_false, gW1, wv_1 h1, narZ]
    simp (disch := omega) only [litI, clI, subI, mulI, addI, eqI, leI, ltI, inI, ck_t, bS_e, bI_e, bL_e, bR_e, bW_e, g1]
  · obtain ⟨h1, ⟨t1, t2, t3, t4⟩, h2, h3, h4, h5, h6⟩ := hC
    have F : ∀ c, c < 74 → c ≠ 42 → (sI s1 42 a1 1).1 c = σ.1 c := fun c hc hn => by rw [rdI_ne _ _ _ _ hn]; exact f1.1 c (by omega)
    have T : ∀ m, m = 74 ∨ m = 94 → TW m σ → TW m (sI s1 42 a1 1) := by
      intro m hm ht
      by_cases z : m = 74 + 20 * a1
      · subst z
        exact n1.2.frame (rdI_ne _ _ _ _ (by omega)) (rdI_ne _ _ _ _ (by omega)) (rdI_ne _ _ _ _ (by omega))
      · refine ht.frame ?_ ?_ ?_ <;> rw [rdI_ne _ _ _ _ (by omega)] <;> exact f1.1 _ (by omega)
    refine ⟨h1.frame (fun c hc => F _ (by omega) (by omega)), ⟨t1.frame (F _ (by decide) (by decide)) (F _ (by decide) (by decide)) (F _ (by decide) (by decide)), t2.frame (F _ (by decide) (by decide)) (F _ (by decide) (by decide)) (F _ (by decide) (by decide)), T 74 (Or.inl rfl) t3, T 94 (Or.inr rfl) t4⟩, fun i hi => ?_, fun i hi hk => ?_, ⟨by rw [F 0 (by decide) (by decide)]; exact h4.1, fun j hj => by rw [F 43 (by decide) (by decide)]; exact h4.2 j hj⟩, fun i hi => by rw [F 44 (by decide) (by decide)]; exact h5 i hi, by rw [rdI_2, f1.2]; exact h6⟩
    · show _ = if (if i = a1 then true else A.2.2.1 i) then (1 : Int32) else 0
      rw [rdI]
      by_cases z : i = a1
      · rw [if_pos z, if_pos ⟨rfl, z⟩]; rfl
      · rw [if_neg z, if_neg (fun y => z y.2), f1.1 42 (by omega)]; exact h2 i hi
    · show RepC (74 + 20 * i) (if i = a1 then A.1 else A.2.1 i) _
      by_cases z : i = a1
      · rw [if_pos z]; subst z
        exact n1.1.frame (fun c hc => rdI_ne _ _ _ _ (by omega))
      · rw [if_neg z]
        have hk' : (if i = a1 then true else A.2.2.1 i) = true := hk
        rw [if_neg z] at hk'
        exact (h3 i hi hk').frame (fun c hc => by rw [rdI_ne _ _ _ _ (by omega)]; exact f1.1 _ (by omega))
  · obtain ⟨s2, g2, c1, c2, c3, c4⟩ := mCopies (N := N) (σ := σ1) (v0 := 115) (v2 := 117) (i := 0) (j := 286 * a1) (n := 286) (by omega) (Or.inl (by decide)) (by decide) (by show 286 * a1 + 286 ≤ 572; omega) (by decide) (by decide)
    refine ⟨sI s2 118 a1 1, ?_, ?_, fun i hi => ⟨by rw [rdI_ne _ _ _ _ (by omega)]; exact c2 i (by omega), by rw [rdI_2, c4]⟩⟩
    · show Mo_image N (nI a1) σ1 = _
      simp only [Mo_image, mGu hO m1, mRo hO m1, mPl, bR_e, bW_e, mBad, eq_self, one_ne, if_true, if_false, not_false_eq_true, not_true_eq_false, mW1, wv_1 h1, narZ]
      rw [show (286 : Int32) = nI 286 from rfl, mulI, show (0 : Int32) = nI 0 from rfl, g2]
      simp (disch := omega) only [litI, clI, subI, mulI, addI, eqI, leI, ltI, inI, ck_t, bS_e, bI_e, bL_e, bR_e, bW_e]
    · have hm1 := m1.1
      obtain ⟨h1, h2, h3, h4, h5, h6⟩ := m1
      have F : ∀ c, c ≠ 117 → c ≠ 118 → (sI s2 118 a1 1).1 c = σ1.1 c := fun c hc hn => by rw [rdI_ne _ _ _ _ hn]; exact c2 c hc
      refine ⟨h1.frame (F _ (by decide) (by decide)), fun i hi => ?_, fun i hi hk => ?_, ⟨by rw [F 114 (by decide) (by decide)]; exact h4.1, fun j hj => by rw [F 119 (by decide) (by decide)]; exact h4.2 j hj⟩, fun i hi => by rw [F 120 (by decide) (by decide)]; exact h5 i hi, by rw [rdI_2, c4]; exact h6⟩
      · show _ = if (if i = a1 then true else A.2.2.1 i) then (1 : Int32) else 0
        rw [rdI]
        by_cases z : i = a1
        · rw [if_pos z, if_pos ⟨rfl, z⟩]; rfl
        · rw [if_neg z, if_neg (fun y => z y.2), c2 118 (by decide)]; exact h2 i hi
      · show RepM 117 (286 * i) (if i = a1 then A.1 else A.2.1 i) _
        by_cases z : i = a1
        · rw [if_pos z]; subst z
          intro k hk
          rw [rdI_ne _ _ _ _ (by decide), c1 k hk]; exact hm1 k hk
        · rw [if_neg z]
          have hk' : (if i = a1 then true else A.2.2.1 i) = true := hk
          rw [if_neg z] at hk'
          intro k hk
          rw [rdI_ne _ _ _ _ (by decide), c3 _ (by omega)]; exact h3 i hi hk' k hk
theorem sim_from (N : Nat) (hN : 300 < N) : Sim_from N Inv := by
  intro σ hI v1
  obtain ⟨A, hO, hC, hM⟩ := hI
  have hq := hO.1
  have h36 := hO.1.2.1
  have h37 := hO.1.2.2.1
  by_cases h1 : (0 : Int) ≤ v1.toInt ∧ v1.toInt ≤ 1
  rotate_left
  · refine sim_ref (f := fun σ => Go_from N v1 σ) (g := fun σ => Mo_from N v1 σ) (r := -2) 0 (by decide) hO hC hM ?_ (fun σ1 m1 => ?_)
    · show Go_from N v1 σ = _
      simp only [Go_from, gGu hO hC, gRo hO hC, gPl, bR_e, bW_e, gBad, gFarBad, eq_self, one_ne, if_true, if_false, not_false_eq_true, not_true_eq_false, gW1, wv_0 h1]
    · show Mo_from N v1 σ1 = _
      simp only [Mo_from, mGu hO m1, mRo hO m1, mPl, bR_e, bW_e, mBad, eq_self, one_ne, if_true, if_false, not_false_eq_true, not_true_eq_false, mW1, wv_0 h1]
  obtain ⟨a1, c1, b1, rfl⟩ := wv_nat (hi := 1) (by decide) h1
  have hi : a1 = 0 ∨ a1 = 1 := by omega
  have l1 : LN (74 + 20 * a1) := by rcases hi with rfl | rfl; exact LN_all.2.2.1; exact LN_all.2.2.2
  have tw : TW (74 + 20 * a1) σ := by rcases hi with rfl | rfl; exact hC.2.1.2.2.1; exact hC.2.1.2.2.2
  by_cases hk : A.2.2.1 a1 = true
  · have hck := hC.2.2.1 a1 (by omega)
    rw [hk, if_pos rfl] at hck
    have hr := hC.2.2.2.1 a1 (by omega) hk
    obtain ⟨s1, g1, n1, f1⟩ := cTake (N := N) hN (⟨hr, tw⟩ : NR (74 + 20 * a1) (A.2.1 a1) σ) hC.nr.2 (Or.inl (by omega)) LN_all.1 l1
    refine sim_of (f := fun σ => Go_from N (nI a1) σ) (g := fun σ => Mo_from N (nI a1) σ) hC hM ⟨1, (A.2.1 a1, A.2), hO.q (hO.2.1 a1 (by omega) hk), ⟨s1, ?_, hC.night n1 f1, f1.low⟩, fun σ1 m1 => ?_⟩
    · show Go_from N (nI a1) σ = _
      simp only [Go_from, gGu hO hC, gRo hO hC, gPl, bR_e, bW_e, gBad, gFarBad, eq_self, one_ne, if_true, if_false, not_false_eq_true, not_true_eq_false, gW1, wv_1 h1]
      rw [inI (by omega) (by decide), ck_t, clI (by omega), hck, if_neg one_ne, ck_t, g1, bR_e]
    · have hmk := m1.2.1 a1 (by omega)
      rw [hk, if_pos rfl] at hmk
      have hmr := m1.2.2.1 a1 (by omega) hk
      obtain ⟨s2, g2, c1, c2, c3, c4⟩ := mCopies (N := N) (σ := σ1) (v0 := 117) (v2 := 115) (i := 286 * a1) (j := 0) (n := 286) (by omega) (Or.inl (by decide)) (by show 286 * a1 + 286 ≤ 572; omega) (by decide) (by decide) (by decide)
      refine ⟨s2, ?_, m1.row (q' := A.2.1 a1) (fun k hk => by rw [c1 k hk]; exact hmr k hk) ⟨fun i hi => c2 i (by omega), fun i h1 h2 => c2 i (by omega), by rw [c2 114 (by decide)], c4⟩, fun i hi => ⟨c2 i (by omega), by rw [c4]⟩⟩
      show Mo_from N (nI a1) σ1 = _
      simp only [Mo_from, mGu hO m1, mRo hO m1, mPl, bR_e, bW_e, mBad, eq_self, one_ne, if_true, if_false, not_false_eq_true, not_true_eq_false, mW1, wv_1 h1]
      rw [inI (by omega) (by decide), ck_t, clI (by omega), hmk, if_neg one_ne, show (286 : Int32) = nI 286 from rfl, mulI, show (0 : Int32) = nI 0 from rfl, g2, bR_e]
  · have hck := hC.2.2.1 a1 (by omega)
    rw [if_neg hk] at hck
    refine sim_ref (f := fun σ => Go_from N (nI a1) σ) (g := fun σ => Mo_from N (nI a1) σ) (r := -3) 1 (by decide) hO hC hM ?_ (fun σ1 m1 => ?_)
    · show Go_from N (nI a1) σ = _
      simp only [Go_from, gGu hO hC, gRo hO hC, gPl, bR_e, bW_e, gBad, gFarBad, eq_self, one_ne, if_true, if_false, not_false_eq_true, not_true_eq_false, gW1, wv_1 h1, gNo]
      rw [inI (by omega) (by decide), ck_t, clI (by omega), hck, if_pos rfl]
    · have hmk := m1.2.1 a1 (by omega)
      rw [if_neg hk] at hmk
      show Mo_from N (nI a1) σ1 = _
      simp only [Mo_from, mGu hO m1, mRo hO m1, mPl, bR_e, bW_e, mBad, eq_self, one_ne, if_true, if_false, not_false_eq_true, not_true_eq_false, mW1, wv_1 h1, mNo]
      rw [inI (by omega) (by decide), ck_t, clI (by omega), hmk, if_pos rfl]
