theorem gBad (N : Nat) (σ : St) : Go_refuseBad N σ = some (-2, sI σ 44 0 (σ.1 44 0 + 1)) := rfl
theorem gFarBad (N : Nat) (σ : St) : Go_refuseFarBad N σ = some (-10, sI σ 44 0 (σ.1 44 0 + 1)) := rfl
theorem gNo (N : Nat) (σ : St) : Go_refuseNo N σ = some (-3, sI σ 44 1 (σ.1 44 1 + 1)) := rfl
theorem gFull (N : Nat) (σ : St) : Go_refuseFull N σ = some (-4, sI σ 44 2 (σ.1 44 2 + 1)) := rfl
theorem mBad (N : Nat) (v : Int32) (σ : St) : Mo_bad N v σ = some (v, sI σ 120 0 (σ.1 120 0 + 1)) := rfl
theorem mNo (N : Nat) (σ : St) : Mo_no N σ = some (-3, sI σ 120 1 (σ.1 120 1 + 1)) := rfl
theorem mFull (N : Nat) (σ : St) : Mo_full N σ = some (-4, sI σ 120 2 (σ.1 120 2 + 1)) := rfl
theorem sim_ref {ρ : Type} {A : Ab} {σ : St} {f g : St → Option (ρ × St)} {r : ρ} (k : Nat) (hk : k < 3) (hO : OkA A) (hC : CI A σ) (hM : MI A σ) (h1 : f σ = some (r, sI σ 44 k (σ.1 44 k + 1))) (h2 : ∀ σ1, MI A σ1 → g σ1 = some (r, sI σ1 120 k (σ1.1 120 k + 1))) :
    ∃ (r : ρ) (σ1 σ2 : St), f σ = some (r, σ1) ∧ g σ1 = some (r, σ2) ∧ Inv σ2 :=
  sim_of hC hM ⟨r, refA A k, hO.ref k, ⟨_, h1, hC.ref hk, Low.sI (by decide)⟩, fun σ1 m1 => ⟨_, h2 σ1 m1, m1.ref hk, High.sI (by decide)⟩⟩
/-- nothing changes -/
theorem sim_rd {ρ : Type} {A : Ab} {σ : St} {f g : St → Option (ρ × St)} {r : ρ} (hO : OkA A) (hC : CI A σ) (hM : MI A σ) (h1 : f σ = some (r, σ)) (h2 : ∀ σ1, MI A σ1 → g σ1 = some (r, σ1)) :
    ∃ (r : ρ) (σ1 σ2 : St), f σ = some (r, σ1) ∧ g σ1 = some (r, σ2) ∧ Inv σ2 :=
  sim_of hC hM ⟨r, A, hO, ⟨_, h1, hC, Low.rfl'⟩, fun σ1 m1 => ⟨_, h2 σ1 m1, m1, High.rfl'⟩⟩
theorem gPl (v : Int32) : Go_isPlace v = wv 0 7 v := gw_wv v 0 7
theorem gW1 (v : Int32) : Go_within v 0 1 = wv 0 1 v := gw_wv v 0 1
theorem gW2 (v : Int32) : Go_within v 0 2 = wv 0 2 v := gw_wv v 0 2
theorem gW5 (v : Int32) : Go_within v 0 5 = wv 0 5 v := gw_wv v 0 5
theorem gW9 (v : Int32) : Go_within v 0 9 = wv 0 9 v := gw_wv v 0 9
theorem gW10 (v : Int32) : Go_within v 0 10 = wv 0 10 v := gw_wv v 0 10
theorem gW20 (v : Int32) : Go_within v 0 20 = wv 0 20 v := gw_wv v 0 20
theorem gW40 (v : Int32) : Go_within v 0 40 = wv 0 40 v := gw_wv v 0 40
theorem gW60 (v : Int32) : Go_within v 0 60 = wv 0 60 v := gw_wv v 0 60
theorem gW99 (v : Int32) : Go_within v 0 99 = wv 0 99 v := gw_wv v 0 99
theorem gW127 (v : Int32) : Go_within v 0 127 = wv 0 127 v := gw_wv v 0 127
theorem gW999999 (v : Int32) : Go_within v 0 999999 = wv 0 999999 v := gw_wv v 0 999999
theorem gW140 (v : Int32) : Go_within v 1 40 = wv 1 40 v := gw_wv v 1 40
theorem mPl (v : Int32) : Mo_isPlace v = wv 0 7 v := mo_wvI v 0 7
theorem mW1 (v : Int32) : Mo_in v.toInt64 0 1 = wv 0 1 v := mo_wvI v 0 1
theorem mW2 (v : Int32) : Mo_in v.toInt64 0 2 = wv 0 2 v := mo_wvI v 0 2
theorem mW5 (v : Int32) : Mo_in v.toInt64 0 5 = wv 0 5 v := mo_wvI v 0 5
theorem mW9 (v : Int32) : Mo_in v.toInt64 0 9 = wv 0 9 v := mo_wvI v 0 9
theorem mW10 (v : Int32) : Mo_in v.toInt64 0 10 = wv 0 10 v := mo_wvI v 0 10
theorem mW20 (v : Int32) : Mo_in v.toInt64 0 20 = wv 0 20 v := mo_wvI v 0 20
theorem mW40 (v : Int32) : Mo_in v.toInt64 0 40 = wv 0 40 v := mo_wvI v 0 40
theorem mW60 (v : Int32) : Mo_in v.toInt64 0 60 = wv 0 60 v := mo_wvI v 0 60
theorem mW99 (v : Int32) : Mo_in v.toInt64 0 99 = wv 0 99 v := mo_wvI v 0 99
theorem mW127 (v : Int32) : Mo_in v.toInt64 0 127 = wv 0 127 v := mo_wvI v 0 127
theorem mW999999 (v : Int32) : Mo_in v.toInt64 0 999999 = wv 0 999999 v := mo_wvI v 0 999999
theorem mW140 (v : Int32) : Mo_in v.toInt64 1 40 = wv 1 40 v := mo_wvI v 1 40
theorem one_ne : ¬ (1 : Int32) = 0 := by decide
/-- a guest's, a rower's number -/
theorem gm1 {G : Nat} (hG : G < 100) : (nI G - 1).toInt = (G : Int) - 1 := by
  rw [show (1 : Int32) = nI 1 from rfl, pk_sub_toInt (by omega) (by decide)]; rfl
theorem gGu {N : Nat} {A : Ab} {σ : St} (hO : OkA A) (hC : CI A σ) (v : Int32) : Go_isGuest N v σ = some (wv 0 ((A.1 37 : Int) - 1) v) := by
  have h : σ.1 1 5 = nI (A.1 37) := hC.1.1 37 (by decide) (by simp [live])
  unfold Go_isGuest
  rw [h, gw_wv, gm1 (by have := hO.1.2.2.1; omega)]; rfl
theorem gRo {N : Nat} {A : Ab} {σ : St} (hO : OkA A) (hC : CI A σ) (v : Int32) : Go_isRower N v σ = some (wv 0 ((A.1 36 : Int) - 1) v) := by
  have h : σ.1 1 4 = nI (A.1 36) := hC.1.1 36 (by decide) (by simp [live])
  unfold Go_isRower
  rw [h, gw_wv, gm1 (by have := hO.1.2.1; omega)]; rfl
theorem mr {A : Ab} {σ : St} (hM : MI A σ) {k : Nat} (hk : k < 286) : σ.1 115 k = nI (A.1 k) := by
  have := hM.1 k hk
  rwa [Nat.zero_add] at this
theorem mGu {N : Nat} {A : Ab} {σ : St} (hO : OkA A) (hM : MI A σ) (v : Int32) : Mo_isGuest N v σ = some (wv 0 ((A.1 37 : Int) - 1) v) := by
  have h : σ.1 115 (37 : Int32).toNatClampNeg = nI (A.1 37) := mr hM (by decide)
  unfold Mo_isGuest
  rw [h, mo_wvI, Int32.toInt_toInt64, gm1 (by have := hO.1.2.2.1; omega)]; rfl
theorem mRo {N : Nat} {A : Ab} {σ : St} (hO : OkA A) (hM : MI A σ) (v : Int32) : Mo_isRower N v σ = some (wv 0 ((A.1 36 : Int) - 1) v) := by
  have h : σ.1 115 (36 : Int32).toNatClampNeg = nI (A.1 36) := mr hM (by decide)
  unfold Mo_isRower
  rw [h, mo_wvI, Int32.toInt_toInt64, gm1 (by have := hO.1.2.1; omega)]; rfl
theorem wv_lt {G : Nat} {v : Int32} (h : 0 ≤ v.toInt ∧ v.toInt ≤ (G : Int) - 1) : ∃ g : Nat, g < G ∧ v = nI g := by
  obtain ⟨g, h1, h2, h3⟩ := wv_nat (lo := 0) (hi := G - 1) (by decide) ⟨h.1, by omega⟩
  exact ⟨g, by omega, h3⟩
/-- clear -/
theorem sim_clear (N : Nat) : Sim_clear N Inv := by
  intro σ hI
  obtain ⟨A, hO, hC, hM⟩ := hI
  refine sim_of (f := fun σ => Go_clear N σ) (g := fun σ => Mo_clear N σ) hC hM ⟨nI A.2.2.2.1.1, (A.1, A.2.1, A.2.2.1, (0, A.2.2.2.1.2), A.2.2.2.2), ⟨hO.1, hO.2.1, Nat.zero_le _, fun j hj => absurd hj (Nat.not_lt_zero j)⟩, ⟨sI σ 0 5 0, ?_, ?_, Low.sI (by decide)⟩, fun σ1 m1 => ⟨sI σ1 114 5 0, ?_, ?_, High.sI (by decide)⟩⟩
  · show some (σ.1 0 5, sI σ 0 5 0) = _
    rw [hC.2.2.2.2.1.1]
  · obtain ⟨h1, ⟨t1, t2, t3, t4⟩, h2, h3, h4, h5, h6⟩ := hC
    have F : ∀ a, a ≠ 0 → (sI σ 0 5 0).1 a = σ.1 a := fun a ha => rdI_ne _ _ _ _ ha
    exact ⟨h1.frame (fun c hc => F _ (by omega)), ⟨t1.frame (F _ (by decide)) (F _ (by decide)) (F _ (by decide)), t2.frame (F _ (by decide)) (F _ (by decide)) (F _ (by decide)), t3.frame (F _ (by decide)) (F _ (by decide)) (F _ (by decide)), t4.frame (F _ (by decide)) (F _ (by decide)) (F _ (by decide))⟩, fun i hi => by rw [F 42 (by decide)]; exact h2 i hi, fun i hi hk => (h3 i hi hk).frame (fun c hc => F _ (by omega)), ⟨by rw [rdI, if_pos ⟨rfl, rfl⟩]; rfl, fun j hj => absurd hj (Nat.not_lt_zero j)⟩, fun i hi => by rw [F 44 (by decide)]; exact h5 i hi, h6⟩
  · show some (σ1.1 114 5, sI σ1 114 5 0) = _
    rw [m1.2.2.2.1.1]
  · obtain ⟨h1, h2, h3, h4, h5, h6⟩ := m1
    have F : ∀ a, a ≠ 114 → (sI σ1 114 5 0).1 a = σ1.1 a := fun a ha => rdI_ne _ _ _ _ ha
    exact ⟨h1.frame (F _ (by decide)), fun i hi => by rw [F 118 (by decide)]; exact h2 i hi, fun i hi hk => (h3 i hi hk).frame (F _ (by decide)), ⟨by rw [rdI, if_pos ⟨rfl, rfl⟩]; rfl, fun j hj => absurd hj (Nat.not_lt_zero j)⟩, fun i hi => by rw [F 120 (by decide)]; exact h5 i hi, h6⟩
theorem sim_status (N : Nat) : Sim_status N Inv := by
  intro σ hI v1
  obtain ⟨A, hO, hC, hM⟩ := hI
  by_cases h1 : (0 : Int) ≤ v1.toInt ∧ v1.toInt ≤ 2
  · obtain ⟨j, -, hj, rfl⟩ := wv_nat (hi := 2) (by decide) h1
    refine sim_rd (f := fun σ => Go_status N (nI j) σ) (g := fun σ => Mo_status N (nI j) σ) (r := A.2.2.2.2.1 j) hO hC hM ?_ (fun σ1 m1 => ?_)
    · show Go_status N (nI j) σ = _
      unfold Go_status
      rw [gW2, wv_1 h1, if_neg one_ne, inI (by omega) (by decide), ck_t, clI (by omega), hC.2.2.2.2.2.1 j (by omega)]
    · show Mo_status N (nI j) σ1 = _
      unfold Mo_status
      rw [mW2, wv_1 h1, if_neg one_ne, inI (by omega) (by decide), ck_t, clI (by omega), m1.2.2.2.2.1 j (by omega)]
  · refine sim_ref (f := fun σ => Go_status N v1 σ) (g := fun σ => Mo_status N v1 σ) (r := -1) 0 (by decide) hO hC hM ?_ (fun σ1 m1 => ?_)
    · show Go_status N v1 σ = _
      unfold Go_status
      rw [gW2, wv_0 h1, if_pos rfl, gBad, bW_e]
    · show Mo_status N v1 σ1 = _
      unfold Mo_status
      rw [mW2, wv_0 h1, if_pos rfl, mBad, bW_e]
theorem sim_part (N : Nat) : Sim_part N Inv := by
  intro σ hI v1
  obtain ⟨A, hO, hC, hM⟩ := hI
  by_cases h1 : (0 : Int) ≤ v1.toInt ∧ v1.toInt ≤ 1
  · obtain ⟨j, -, hj, rfl⟩ := wv_nat (hi := 1) (by decide) h1
    match j, hj with
    | 0, _ =>
      refine sim_rd (f := fun σ => Go_part N (nI 0) σ) (g := fun σ => Mo_part N (nI 0) σ) (r := A.2.2.2.2.2.1) hO hC hM ?_ (fun σ1 m1 => ?_)
      · show Go_part N (nI 0) σ = _
        unfold Go_part
        rw [gW1, wv_1 h1, if_neg one_ne, if_pos (by decide), hC.2.2.2.2.2.2.1]
      · show Mo_part N (nI 0) σ1 = _
        unfold Mo_part
        rw [if_pos (by decide), m1.2.2.2.2.2.1]
    | 1, _ =>
      refine sim_rd (f := fun σ => Go_part N (nI 1) σ) (g := fun σ => Mo_part N (nI 1) σ) (r := A.2.2.2.2.2.2) hO hC hM ?_ (fun σ1 m1 => ?_)
      · show Go_part N (nI 1) σ = _
        unfold Go_part
        rw [gW1, wv_1 h1, if_neg one_ne, if_neg (by decide), hC.2.2.2.2.2.2.2]
      · show Mo_part N (nI 1) σ1 = _
        unfold Mo_part
        rw [if_neg (by decide), if_pos (by decide), m1.2.2.2.2.2.2]
  · refine sim_ref (f := fun σ => Go_part N v1 σ) (g := fun σ => Mo_part N v1 σ) (r := (-2 : Int32).toInt64) 0 (by decide) hO hC hM ?_ (fun σ1 m1 => ?_)
    · show Go_part N v1 σ = _
      unfold Go_part
      rw [gW1, wv_0 h1, if_pos rfl, gBad, bW_e]
    · show Mo_part N v1 σ1 = _
      unfold Mo_part
      rw [if_neg (fun e => h1 (by rw [e]; decide)), if_neg (fun e => h1 (by rw [e]; decide)), mBad, bW_e]
/-- where the class keeps a guest's, a rower's facts -/
theorem cG {A : Ab} {σ : St} (hC : CI A σ) {g k : Nat} (hg : g < A.1 37) (h4 : A.1 37 ≤ 4) (hk : k < 6) : σ.1 (1 + 16 + g) k = nI (A.1 (44 + 4 * k + g)) := by
  have h := hC.1.1 (44 + 4 * k + g) (by omega) (by unfold live; simp only [show ¬ 44 + 4 * k + g < 8 by omega, show ¬ 44 + 4 * k + g < 36 by omega, show ¬ 44 + 4 * k + g < 38 by omega, show ¬ 44 + 4 * k + g < 41 by omega, show ¬ 44 + 4 * k + g < 44 by omega, show 44 + 4 * k + g < 68 by omega, if_true, if_false]; omega)
  have e1 : cC (44 + 4 * k + g) = 16 + g := by unfold cC; simp only [show ¬ 44 + 4 * k + g < 8 by omega, show ¬ 44 + 4 * k + g < 36 by omega, show ¬ 44 + 4 * k + g < 38 by omega, show ¬ 44 + 4 * k + g < 41 by omega, show ¬ 44 + 4 * k + g < 44 by omega, show 44 + 4 * k + g < 68 by omega, if_true, if_false]; omega
  have e2 : sC (44 + 4 * k + g) = k := by unfold sC; simp only [show ¬ 44 + 4 * k + g < 8 by omega, show ¬ 44 + 4 * k + g < 36 by omega, show ¬ 44 + 4 * k + g < 38 by omega, show ¬ 44 + 4 * k + g < 41 by omega, show ¬ 44 + 4 * k + g < 44 by omega, show 44 + 4 * k + g < 68 by omega, if_true, if_false]; omega
  rw [e1, e2] at h
  rw [Nat.add_assoc]; exact h
