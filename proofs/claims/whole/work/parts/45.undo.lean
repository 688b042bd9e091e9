def CScr (σ σ' : St) : Prop := (∀ i, (i < 45 ∨ 74 ≤ i) → σ'.1 i = σ.1 i) ∧ σ'.2 = σ.2
theorem CScr.rfl' {σ : St} : CScr σ σ := ⟨fun _ _ => rfl, rfl⟩
theorem CScr.trans {σ σ1 σ2 : St} (h : CScr σ σ1) (h2 : CScr σ1 σ2) : CScr σ σ2 := ⟨fun i hi => (h2.1 i hi).trans (h.1 i hi), h2.2.trans h.2⟩
theorem CScr.wr {σ : St} {i k : Nat} {v : Int32} (h : 45 ≤ i ∧ i < 74) : CScr σ (sI σ i k v) := ⟨fun a ha => rdI_ne σ i k v (by omega), rfl⟩
theorem CScr.low {σ σ' : St} (h : CScr σ σ') : Low σ σ' := fun i hi => ⟨h.1 i (Or.inr (by omega)), by rw [h.2]⟩
theorem CI.scr {A : Ab} {σ σ' : St} (h : CI A σ) (hf : CScr σ σ') : CI A σ' := by
  obtain ⟨h1, ⟨t1, t2, t3, t4⟩, h2, h3, h4, h5, h6⟩ := h
  have F := hf.1
  exact ⟨h1.frame (fun c hc => F _ (by omega)), ⟨t1.frame (F _ (by omega)) (F _ (by omega)) (F _ (by omega)), t2.frame (F _ (by omega)) (F _ (by omega)) (F _ (by omega)), t3.frame (F _ (by omega)) (F _ (by omega)) (F _ (by omega)), t4.frame (F _ (by omega)) (F _ (by omega)) (F _ (by omega))⟩, fun i hi => by rw [F 42 (by omega)]; exact h2 i hi, fun i hi hk => (h3 i hi hk).frame (fun c hc => F _ (by omega)), ⟨by rw [F 0 (by omega)]; exact h4.1, fun j hj => by rw [F 43 (by omega)]; exact h4.2 j hj⟩, fun i hi => by rw [F 44 (by omega)]; exact h5 i hi, by rw [hf.2]; exact h6⟩
/-- nothing lasting changes -/
theorem sim_scr {ρ : Type} {A : Ab} {σ : St} {f g : St → Option (ρ × St)} {r : ρ} (hO : OkA A) (hC : CI A σ) (hM : MI A σ) (h1 : ∃ σ', f σ = some (r, σ') ∧ CScr σ σ') (h2 : ∀ σ1, MI A σ1 → ∃ σ2, g σ1 = some (r, σ2) ∧ RepM 115 0 A.1 σ2 ∧ Gr σ1 σ2) :
    ∃ (r : ρ) (σ1 σ2 : St), f σ = some (r, σ1) ∧ g σ1 = some (r, σ2) ∧ Inv σ2 := by
  obtain ⟨σ', e, s⟩ := h1
  exact sim_of hC hM ⟨r, A, hO, ⟨σ', e, hC.scr s, s.low⟩, fun σ1 m1 => by obtain ⟨σ2, e2, r2, g2⟩ := h2 σ1 m1; exact ⟨σ2, e2, m1.row r2 g2, g2.high⟩⟩
def qBack (q : QS) : QS := fun k => if k = 157 then q 157 - 1 else if 52 ≤ k ∧ k < 68 then q (158 + 16 * (q 157 - 1) + (k - 52)) else q k
theorem Okq.back {q : QS} (h : Okq q) (h0 : 0 < q 157) : Okq (qBack q) := by
  obtain ⟨b1, b2, b3, b4, b5, b6, b7⟩ := h.b
  have e : ∀ k, k ≠ 157 → (k < 52 ∨ 68 ≤ k) → qBack q k = q k := fun k h1 h2 => by unfold qBack; rw [if_neg h1, if_neg (by omega)]
  have e5 : ∀ j, j < 16 → qBack q (52 + j) = q (158 + 16 * (q 157 - 1) + j) := fun j hj => by unfold qBack; rw [if_neg (by omega), if_pos (by omega), show 52 + j - 52 = j by omega]
  have e7 : qBack q 157 = q 157 - 1 := if_pos rfl
  have e37 := e 37 (by omega) (by omega)
  refine Okq.iff.mpr ⟨b1.congr ?_, b2.congr ?_, ⟨by rw [e37]; exact b3.1, fun g hg => ?_, fun g hg hg2 => ?_⟩, b4.congr ?_, b5.congr ?_, b6.congr ?_, ⟨by rw [e7]; have := b7.1; omega, fun u hu g hg => ?_⟩⟩
  · intros; exact e _ (by omega) (by omega)
  · intros; exact e _ (by omega) (by omega)
  · rw [e37] at hg
    have hg4 := b3.1
    obtain ⟨c1, c2, c3, c4, c5, c6, c7⟩ := b3.2.1 g hg
    obtain ⟨d1, d2, d3, d4, d5⟩ := b7.2 (q 157 - 1) (by omega) g (by omega)
    rw [e (44 + g) (by omega) (by omega), e (48 + g) (by omega) (by omega), e5 g (by omega), show 56 + g = 52 + (4 + g) by omega, show 60 + g = 52 + (8 + g) by omega, show 64 + g = 52 + (12 + g) by omega, e5 (4 + g) (by omega), e5 (8 + g) (by omega), e5 (12 + g) (by omega)]
    rw [show 162 + 16 * (q 157 - 1) + g = 158 + 16 * (q 157 - 1) + (4 + g) by omega] at d2
    rw [show 166 + 16 * (q 157 - 1) + g = 158 + 16 * (q 157 - 1) + (8 + g) by omega] at d3
    rw [show 170 + 16 * (q 157 - 1) + g = 158 + 16 * (q 157 - 1) + (12 + g) by omega] at d4
    exact ⟨c1, c2, c3, d1, d2, d3, d4⟩
  · rw [e37] at hg2
    obtain ⟨d1, d2, d3, d4, d5⟩ := b7.2 (q 157 - 1) (by omega) g (by omega)
    obtain ⟨f1, f2, f3, f4⟩ := d5 hg2
    rw [e5 g (by omega), show 56 + g = 52 + (4 + g) by omega, show 60 + g = 52 + (8 + g) by omega, show 64 + g = 52 + (12 + g) by omega, e5 (4 + g) (by omega), e5 (8 + g) (by omega), e5 (12 + g) (by omega)]
    rw [show 162 + 16 * (q 157 - 1) + g = 158 + 16 * (q 157 - 1) + (4 + g) by omega] at f2
    rw [show 166 + 16 * (q 157 - 1) + g = 158 + 16 * (q 157 - 1) + (8 + g) by omega] at f3
    rw [show 170 + 16 * (q 157 - 1) + g = 158 + 16 * (q 157 - 1) + (12 + g) by omega] at f4
    exact ⟨f1, f2, f3, f4⟩
  · intros; exact e _ (by omega) (by omega)
  · intros; exact e _ (by omega) (by omega)
  · intros; exact e _ (by omega) (by omega)
  · rw [e7] at hu
    rw [e37, e (48 + g) (by omega) (by omega), e _ (by omega) (by omega), e _ (by omega) (by omega), e _ (by omega) (by omega), e _ (by omega) (by omega)]
    exact b7.2 u (by omega) g hg
theorem backS {N : Nat} {s' : St} {u i fu : Nat} (hu : u < 8) (hi : i < 4) (e12 : s'.1 12 1 = nI u) : Pa_giveBack_L20 N (fu + 1) 12 1 (nI i) s' = Pa_giveBack_L20 N fu 12 1 (nI (i + 1)) (sI (sI (sI (sI s' (1 + 16 + i) 2 (s'.1 (12 + 1) (u * 16 + i * 4))) (1 + 16 + i) 3 (s'.1 (12 + 1) (u * 16 + i * 4 + 1))) (1 + 16 + i) 4 (s'.1 (12 + 1) (u * 16 + i * 4 + 2))) (1 + 16 + i) 5 (s'.1 (12 + 1) (u * 16 + i * 4 + 3))) := by
  have hn : ¬ 4 ≤ i := by omega
  show Pa_giveBack_L20B N (Pa_giveBack_L20 N fu) 12 1 (nI i) s' = _
  unfold Pa_giveBack_L20B
  rw [show (4 : Int32) = nI 4 from rfl, if_neg (leN hn (by omega) (by omega)), e12, show (16 : Int32) = nI 16 from rfl, mulI, mulI, addI, bI_e, inI (n := 4) hi (by decide), ck_t, clI (a := i) (by omega), inI (n := 128) (by omega) (by decide), ck_t, clI (by omega), bS_e, show (1 : Int32) = nI 1 from rfl, addI, inI (n := 128) (by omega) (by decide), ck_t, clI (by omega), bS_e, show (2 : Int32) = nI 2 from rfl, addI, inI (n := 128) (by omega) (by decide), ck_t, clI (by omega), bS_e, show (3 : Int32) = nI 3 from rfl, addI, inI (n := 128) (by omega) (by decide), ck_t, clI (by omega), bS_e, addI, bI_e]
  simp (disch := omega) only [rdI_ne]
theorem cBack {N : Nat} (hN : 300 < N) {q : QS} {σ : St} (hq : Okq q) (h0 : 0 < q 157) (h : NR 1 q σ) : ∃ σ', Pa_giveBack N 12 1 σ = some σ' ∧ NR 1 (qBack q) σ' ∧ Fr 1 σ σ' := by
  have h157 := hq.b.2.2.2.2.2.2.1
  have h37 := hq.b.2.2.1.1
  have e157 : σ.1 12 1 = nI (q 157) := h.cnt.2.2.2.2.2
  unfold Pa_giveBack
  rw [e157, show (0 : Int32) = nI 0 from rfl, if_pos (ltP h0 (by omega) (by omega)), show (1 : Int32) = nI 1 from rfl, subI (by omega), bS_e]
  refine loop_up (fun f i s => Pa_giveBack_L20 N f 12 1 (nI i) s) 4 (fun i s => Fr 1 σ s ∧ s.1 12 1 = nI (q 157 - 1) ∧ (∀ c, c ≠ 12 → (c < 17 ∨ 21 ≤ c) → s.1 c = σ.1 c) ∧ (∀ g, g < 4 → s.1 (1 + 16 + g) 0 = σ.1 (1 + 16 + g) 0 ∧ s.1 (1 + 16 + g) 1 = σ.1 (1 + 16 + g) 1) ∧ (∀ g f, g < i → f < 4 → s.1 (1 + 16 + g) (2 + f) = σ.1 13 (16 * (q 157 - 1) + 4 * g + f))) (fun o => ∃ σ', o = some σ' ∧ NR 1 (qBack q) σ' ∧ Fr 1 σ σ') ?_ ?_ (by omega) ⟨Fr.wr (by omega), rdI_eq _ _ _ _, fun c hc _ => rdI_ne _ _ _ _ hc, fun g _ => by rw [rdI_ne _ _ _ _ (by omega)]; exact ⟨rfl, rfl⟩, by intros; omega⟩
  · intro f i s hi ⟨h1, h2, h3, h4, h5⟩
    refine ⟨_, backS (by omega) hi h2, h1.trans ((((Fr.wr (by omega)).trans (Fr.wr (by omega))).trans (Fr.wr (by omega))).trans (Fr.wr (by omega))), ?_, fun c hc hc2 => ?_, fun g hg => ?_, fun g f hg hf => ?_⟩
    · simp (disch := omega) only [rdI_ne]; exact h2
    · simp (disch := omega) only [rdI_ne]; exact h3 c hc hc2
    · by_cases z : g = i
      · subst z; simp (disch := omega) only [rdI_nk]; exact h4 g hg
      · simp (disch := omega) only [rdI_ne]; exact h4 g hg
    · by_cases z : g = i
      · subst z
        rw [← h3 13 (by decide) (by decide)]
        rcases (show f = 0 ∨ f = 1 ∨ f = 2 ∨ f = 3 by omega) with rfl | rfl | rfl | rfl
        · simp (disch := omega) only [rdI_nk, rdI_eq]; rw [show (q 157 - 1) * 16 + g * 4 = 16 * (q 157 - 1) + 4 * g + 0 by omega]
        · simp (disch := omega) only [rdI_nk, rdI_eq]; rw [show (q 157 - 1) * 16 + g * 4 + 1 = 16 * (q 157 - 1) + 4 * g + 1 by omega]
        · simp (disch := omega) only [rdI_nk, rdI_eq]; rw [show (q 157 - 1) * 16 + g * 4 + 2 = 16 * (q 157 - 1) + 4 * g + 2 by omega]
        · simp (disch := omega) only [rdI_nk, rdI_eq]; rw [show (q 157 - 1) * 16 + g * 4 + 3 = 16 * (q 157 - 1) + 4 * g + 3 by omega]
      · simp (disch := omega) only [rdI_ne]; exact h5 g f (by omega) hf
  · intro f s ⟨h1, h2, h3, h4, h5⟩
    refine ⟨s, ?_, ⟨⟨?_, h.1.2.frame (h3 _ (by omega) (by omega)) (fun a b ha hb => ?_)⟩, h.2.frame (h3 _ (by omega) (by omega)) (h3 _ (by omega) (by omega)) (h3 _ (by omega) (by omega))⟩, h1⟩
    · show Pa_giveBack_L20B N (Pa_giveBack_L20 N f) 12 1 (nI 4) s = _
      unfold Pa_giveBack_L20B
      rw [show (4 : Int32) = nI 4 from rfl, if_pos (Int32.le_refl _)]
    · have e : ∀ k, k ≠ 157 → (k < 52 ∨ 68 ≤ k) → qBack q k = q k := fun k h1 h2 => by unfold qBack; rw [if_neg h1, if_neg (by omega)]
      have e5 : ∀ j, j < 16 → qBack q (52 + j) = q (158 + 16 * (q 157 - 1) + j) := fun j hj => by unfold qBack; rw [if_neg (by omega), if_pos (by omega), show 52 + j - 52 = j by omega]
      have e7 : qBack q 157 = q 157 - 1 := if_pos rfl
      have e37 := e 37 (by omega) (by omega)
      have old : ∀ k c s', k < 286 → k ≠ 157 → (k < 52 ∨ 68 ≤ k) → live q k → 1 + cC k = c → sC k = s' → s.1 c s' = σ.1 c s' → s.1 (1 + cC k) (sC k) = nI (qBack q k) := by
        intro k c s' k1 k2 k3 k4 k5 k6 k7
        rw [e k k2 k3, k5, k6, k7, ← k5, ← k6]; exact h.1.1 k k1 k4
      refine live_cases (q := qBack q) ?_ ⟨?_, ?_, ?_, ?_, ?_, ?_⟩ ?_ ?_ ?_ ?_ ?_ ?_
      · intro p hp; exact old p 2 p (by omega) (by omega) (by omega) (by rw [lvD hp]; trivial) (by rw [ccD hp]) (scD hp) (by rw [h3 2 (by omega) (by omega)])
      · exact old 36 1 4 (by omega) (by omega) (by omega) (by simp [live]) rfl rfl (by rw [h3 1 (by omega) (by omega)])
      · exact old 37 1 5 (by omega) (by omega) (by omega) (by simp [live]) rfl rfl (by rw [h3 1 (by omega) (by omega)])
      · exact old 68 6 3 (by omega) (by omega) (by omega) (by simp [live]) rfl rfl (by rw [h3 6 (by omega) (by omega)])
      · exact old 89 8 3 (by omega) (by omega) (by omega) (by simp [live]) rfl rfl (by rw [h3 8 (by omega) (by omega)])
      · exact old 126 10 3 (by omega) (by omega) (by omega) (by simp [live]) rfl rfl (by rw [h3 10 (by omega) (by omega)])
      · rw [e7]; exact h2
      · intro r hr hr2
        rw [e 36 (by omega) (by omega)] at hr2
        exact ⟨old (38 + r) (1 + (13 + r)) 0 (by omega) (by omega) (by omega) (by rw [lvK hr]; exact hr2) (by rw [ccK hr]) (scK hr) (by rw [h3 _ (by omega) (by omega)]), old (41 + r) (1 + (13 + r)) 1 (by omega) (by omega) (by omega) (by rw [lvT hr]; exact hr2) (by rw [ccT hr]) (scT hr) (by rw [h3 _ (by omega) (by omega)])⟩
      · intro g f hg hf hg2
        rw [e37] at hg2
        by_cases z : f < 2
        · refine old (44 + 4 * f + g) (1 + (16 + g)) f (by omega) (by omega) (by omega) (by rw [lvG hg hf]; exact hg2) (by rw [ccG hg hf]) (scG hg hf) ?_
          rw [← Nat.add_assoc]
          rcases (show f = 0 ∨ f = 1 by omega) with rfl | rfl
          · exact (h4 g hg).1
          · exact (h4 g hg).2
        · have hh := h5 g (f - 2) hg (by omega)
          rw [show 2 + (f - 2) = f by omega, h.und (by omega) hg (by omega) (by omega) hg2] at hh
          rw [ccG hg hf, scG hg hf, ← Nat.add_assoc, hh, show 44 + 4 * f + g = 52 + (4 * (f - 2) + g) by omega, e5 _ (by omega), show 158 + 16 * (q 157 - 1) + 4 * (f - 2) + g = 158 + 16 * (q 157 - 1) + (4 * (f - 2) + g) by omega]
      · intro j hj hj2
        rw [e 68 (by omega) (by omega)] at hj2
        exact old (69 + j) 7 j (by omega) (by omega) (by omega) (by rw [lvS hj]; exact hj2) (by rw [ccS hj]) (scS hj) (by rw [h3 7 (by omega) (by omega)])
      · intro j hj hj2
        rw [e 89 (by omega) (by omega)] at hj2
        exact old (90 + j) 9 j (by omega) (by omega) (by omega) (by rw [lvN hj]; exact hj2) (by rw [ccN hj]) (scN hj) (by rw [h3 9 (by omega) (by omega)])
      · intro j hj hj2
        rw [e 126 (by omega) (by omega)] at hj2
        exact old (127 + j) 11 j (by omega) (by omega) (by omega) (by rw [lvM hj]; exact hj2) (by rw [ccM hj]) (scM hj) (by rw [h3 11 (by omega) (by omega)])
      · intro u g f hu hg hf hu2 hg2
        rw [e37] at hg2
        rw [e7] at hu2
        exact old (158 + 16 * u + 4 * f + g) 13 (16 * u + 4 * g + f) (by omega) (by omega) (by omega) (by rw [lvU hu hg hf]; exact ⟨by omega, hg2⟩) (by rw [ccU hu hg hf]) (scU hu hg hf) (by rw [h3 13 (by omega) (by omega)])
    · unfold stq
      by_cases z : a = b
      · rw [if_pos z, if_pos z]
      · have := cnl_rng a ha b hb z
        rw [if_neg z, if_neg z]
        unfold qBack
        rw [if_neg (by omega), if_neg (by omega)]
