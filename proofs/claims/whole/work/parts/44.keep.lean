theorem cC_ne11 : ∀ k, k < 157 → cC k ≠ 11 ∧ cC k ≠ 12 := by decide +kernel
theorem live_ne {q : QS} {k : Nat} (h : live q k) : k < 8 ∨ 36 ≤ k := by
  by_cases c1 : k < 8
  · exact Or.inl c1
  · by_cases c2 : k < 36
    · unfold live at h; rw [if_neg c1, if_pos c2] at h; exact h.elim
    · exact Or.inr (by omega)
/-- only the counts and rows of what may be undone have changed -/
theorem NR.past {q q' : QS} {σ σ' : St} (h : NR 1 q σ) (hc : ∀ c, c ≠ 12 → c ≠ 13 → σ'.1 c = σ.1 c) (hq : ∀ k, k < 157 → q' k = q k) (hn : σ'.1 12 1 = nI (q' 157)) (hu : ∀ u g f, u < 8 → g < 4 → f < 4 → u < q' 157 → g < q 37 → σ'.1 13 (16 * u + 4 * g + f) = nI (q' (158 + 16 * u + 4 * f + g))) : NR 1 q' σ' := by
  refine ⟨⟨fun k hk hl => ?_, h.1.2.frame (hc _ (by decide) (by decide)) (fun a b ha hb => ?_)⟩, h.2.frame (hc _ (by decide) (by decide)) (hc _ (by decide) (by decide)) (hc _ (by decide) (by decide))⟩
  · by_cases c : k < 157
    · have := cC_ne11 k c
      rw [hc _ (by omega) (by omega), hq k c]
      refine h.1.1 k hk ?_
      by_cases c1 : k < 8
      · rw [lvD c1]; trivial
      unfold live at hl ⊢
      rw [if_neg c1] at hl ⊢
      by_cases c2 : k < 36
      · rw [if_pos c2] at hl; exact hl.elim
      rw [hq 36 (by omega), hq 37 (by omega), hq 68 (by omega), hq 89 (by omega), hq 126 (by omega)] at hl
      by_cases c3 : k < 158
      · simp only [c3, if_true] at hl ⊢; exact hl
      · omega
    · by_cases c3 : k = 157
      · subst c3; exact hn
      · unfold live at hl
        simp only [show ¬ k < 8 by omega, show ¬ k < 36 by omega, show ¬ k < 38 by omega, show ¬ k < 41 by omega, show ¬ k < 44 by omega, show ¬ k < 68 by omega, show ¬ k < 69 by omega, show ¬ k < 89 by omega, show ¬ k < 90 by omega, show ¬ k < 126 by omega, show ¬ k < 127 by omega, show ¬ k < 157 by omega, show ¬ k < 158 by omega, if_false] at hl
        rw [hq 37 (by omega)] at hl
        have e : k = 158 + 16 * ((k - 158) / 16) + 4 * ((k - 158) % 16 / 4) + (k - 158) % 4 := by omega
        rw [e, ccU (by omega) (by omega) (by omega), scU (by omega) (by omega) (by omega)]
        exact hu _ _ _ (by omega) (by omega) (by omega) hl.1 hl.2
  · unfold stq
    by_cases z : a = b
    · rw [if_pos z, if_pos z]
    · have := cnl_rng a ha b hb z
      rw [if_neg z, if_neg z, hq _ (by omega)]
theorem NR.und {q : QS} {σ : St} (h : NR 1 q σ) {u g f : Nat} (hu : u < 8) (hg : g < 4) (hf : f < 4) (h1 : u < q 157) (h2 : g < q 37) : σ.1 13 (16 * u + 4 * g + f) = nI (q (158 + 16 * u + 4 * f + g)) :=
  h.get (k := 158 + 16 * u + 4 * f + g) (by omega) (by rw [lvU hu hg hf]; exact ⟨h1, h2⟩) (by rw [ccU hu hg hf]) (by rw [scU hu hg hf])
theorem cKeep {N : Nat} (hN : 300 < N) {q : QS} {σ : St} (hq : Okq q) (h : NR 1 q σ) : ∃ σ', Pa_keep N 12 1 σ = some σ' ∧ NR 1 (qKeep q) σ' ∧ Fr 1 σ σ' := by
  have h157 := hq.b.2.2.2.2.2.2.1
  have h37 := hq.b.2.2.1.1
  have e157 : σ.1 12 1 = nI (q 157) := h.cnt.2.2.2.2.2
  have fin : ∀ s σ' : St, (∀ c, c ≠ 12 → c ≠ 13 → s.1 c = σ.1 c) → s.2 = σ.2 → (∀ u g f, u < uK q → g < 4 → f < 4 → s.1 13 (16 * u + 4 * g + f) = if q 157 = 8 then σ.1 13 (16 * (u + 1) + 4 * g + f) else σ.1 13 (16 * u + 4 * g + f)) → (∀ c, c ≠ 12 → c ≠ 13 → σ'.1 c = s.1 c) ∧ σ'.1 12 1 = nI (uK q + 1) ∧ (∀ g f, g < 4 → f < 4 → σ'.1 13 (16 * uK q + 4 * g + f) = s.1 (1 + 16 + g) (2 + f)) ∧ (∀ x, x < 16 * uK q → σ'.1 13 x = s.1 13 x) ∧ σ'.2 = s.2 → NR 1 (qKeep q) σ' ∧ Fr 1 σ σ' := by
    intro s σ' a1 a2 a3 ⟨k1, k2, k3, k4, k5⟩
    have hu7 : uK q ≤ 7 := by unfold uK; split <;> omega
    refine ⟨h.past (fun c x y => (k1 c x y).trans (a1 c x y)) (fun k hk => qKeep_lo q hk) (by rw [qKeep_57]; exact k2) (fun u g f hu hg hf h1 h2 => ?_), ⟨fun i hi => (k1 i (by omega) (by omega)).trans (a1 i (by omega) (by omega)), k5.trans a2⟩⟩
    rw [qKeep_57] at h1
    rw [show 158 + 16 * u + 4 * f + g = 158 + 16 * u + (4 * f + g) by omega]
    by_cases z : u = uK q
    · subst z
      rw [qKeep_new q (by omega), k3 g f hg hf, a1 _ (by omega) (by omega), h.gst hg (by omega) h2, show 44 + 4 * (2 + f) + g = 52 + (4 * f + g) by omega]
    · have hlt : u < uK q := by omega
      rw [qKeep_old q hlt (by omega), k4 _ (by omega), a3 u g f hlt hg hf]
      by_cases y : q 157 = 8
      · rw [if_pos y, if_pos y, h.und (by omega) hg hf (by omega) h2, show 158 + 16 * (u + 1) + 4 * f + g = 158 + 16 * (u + 1) + (4 * f + g) by omega]
      · have e : uK q = q 157 := if_neg y
        rw [if_neg y, if_neg y, h.und (by omega) hg hf (by omega) h2, show 158 + 16 * u + 4 * f + g = 158 + 16 * u + (4 * f + g) by omega]
  unfold Pa_keep
  rw [e157, show (8 : Int32) = nI 8 from rfl]
  by_cases z : q 157 < 8
  · have e : uK q = q 157 := if_neg (by omega)
    rw [if_pos (ltP z (by omega) (by omega))]
    obtain ⟨σ', g1, g2⟩ := keepL hN z e157
    refine ⟨σ', g1, fin σ σ' (fun _ _ _ => rfl) rfl (fun u g f _ _ _ => by rw [if_neg (by omega)]) ?_⟩
    rw [e]; exact g2
  · have e8 : q 157 = 8 := by omega
    have e : uK q = 7 := if_pos e8
    rw [if_neg (ltN z (by omega) (by omega)), show inC 16 0 (128 - 16) 128 128 = true from rfl, ck_t, bS_e, bS_e]
    obtain ⟨σ', g1, g2⟩ := keepL (N := N) hN (u := 7) (s := sI (sR σ (12 + 1) (va_cpy (σ.1 (12 + 1)) (σ.1 (12 + 1)) (16 : Int32).toNatClampNeg (0 : Int32).toNatClampNeg ((128 - 16) : Int32).toNatClampNeg)) 12 1 7) (by decide) (rdI_eq _ _ _ _)
    refine ⟨σ', g1, fin (sI (sR σ (12 + 1) (va_cpy (σ.1 (12 + 1)) (σ.1 (12 + 1)) (16 : Int32).toNatClampNeg (0 : Int32).toNatClampNeg ((128 - 16) : Int32).toNatClampNeg)) 12 1 7) σ' (fun c x y => ?_) rfl (fun u g f hu _ _ => ?_) (by rw [e]; exact g2)⟩
    · rw [rdI_ne _ _ _ _ x, sR_ne _ _ _ (show c ≠ 12 + 1 from y)]
    · rw [if_pos e8, rdI_ne _ _ _ _ (by decide), show (13 : Nat) = 12 + 1 from rfl, rdR, if_pos rfl]
      unfold va_cpy
      rw [show (16 : Int32).toNatClampNeg = 16 from rfl, show (0 : Int32).toNatClampNeg = 0 from rfl, show ((128 - 16) : Int32).toNatClampNeg = 112 from rfl, if_pos (by omega), show 16 + (16 * u + 4 * g + f - 0) = 16 * (u + 1) + 4 * g + f by omega]
/-- the reference keeps -/
theorem mNotes {N : Nat} (hN : 300 < N) {q : QS} {σ : St} (hq : Okq q) (h : RepM 115 0 q σ) : ∃ σ', Mo_notes N σ = some σ' ∧ RepM 115 0 (qKeep q) σ' ∧ Gr σ σ' := by
  have h157 := hq.b.2.2.2.2.2.2.1
  have J : ∀ s : St, Gr σ s → s.1 115 157 = nI (uK q) → (∀ k, k < 157 → s.1 115 k = nI (q k)) → (∀ k, 158 ≤ k → k < 286 → (k < 158 + 16 * uK q ∨ 158 + 16 * uK q + 16 ≤ k) → s.1 115 k = nI (qKeep q k)) → ∃ σ', Mo_notes_J59 N s = some σ' ∧ RepM 115 0 (qKeep q) σ' ∧ Gr σ σ' := by
    intro s hg h1 h2 h3
    have hu7 : uK q ≤ 7 := by unfold uK; split <;> omega
    obtain ⟨s2, g2, c1, c2, c3, c4⟩ := mCopies (N := N) (σ := s) (v0 := 115) (v2 := 115) (i := 52) (j := 158 + 16 * uK q) (n := 16) (by omega) (Or.inr (by omega)) (by decide) (by show 158 + 16 * uK q + 16 ≤ 286; omega) (by decide) (by decide)
    have G : Gr s (sI s2 115 157 (nI (uK q + 1))) := ⟨fun i hi => by rw [rdI_ne _ _ _ _ (by omega)]; exact c2 i (by omega), fun i ha hb => by rw [rdI_ne _ _ _ _ (by omega)]; exact c2 i (by omega), by rw [rdI_ne _ _ _ _ (by omega), c2 114 (by decide)], by rw [rdI_2, c4]⟩
    refine ⟨sI s2 115 157 (nI (uK q + 1)), ?_, fun k hk => ?_, hg.trans G⟩
    · unfold Mo_notes_J59
      rw [show (157 : Int32).toNatClampNeg = 157 from rfl, h1, show (16 : Int32) = nI 16 from rfl, mulI, show (158 : Int32) = nI 158 from rfl, addI, show (52 : Int32) = nI 52 from rfl, g2, bR_e, c3 157 (by omega), h1, show (1 : Int32) = nI 1 from rfl, addI, bS_e]
    · rw [Nat.zero_add]
      by_cases z : k = 157
      · subst z; rw [rdI_eq, qKeep_57]
      · rw [rdI_nk _ _ _ _ z]
        by_cases y : k < 157
        · rw [c3 _ (by omega), h2 k y, qKeep_lo q y]
        · by_cases x : k < 158 + 16 * uK q ∨ 158 + 16 * uK q + 16 ≤ k
          · rw [c3 _ x]; exact h3 k (by omega) hk x
          · have e : k = 158 + 16 * uK q + (k - (158 + 16 * uK q)) := by omega
            rw [e, c1 _ (by omega), qKeep_new q (by omega), h2 _ (by omega)]
  unfold Mo_notes
  rw [show (157 : Int32).toNatClampNeg = 157 from rfl, h.get (by decide), show (8 : Int32) = nI 8 from rfl]
  by_cases z : q 157 = 8
  · have e : uK q = 7 := if_pos z
    rw [if_pos (by rw [z])]
    refine loop_up (fun f i s => Mo_notes_L15 N f (nI i) s) 112 (fun i s => Gr σ s ∧ (∀ k, k < 158 → s.1 115 k = nI (q k)) ∧ (∀ k, k < i → s.1 115 (158 + k) = nI (q (174 + k))) ∧ (∀ k, i ≤ k → k < 128 → s.1 115 (158 + k) = nI (q (158 + k)))) (fun o => ∃ σ', o = some σ' ∧ RepM 115 0 (qKeep q) σ' ∧ Gr σ σ') ?_ ?_ (by omega) ⟨Gr.rfl', fun k hk => h.get (by omega), by intros; omega, fun k _ hk => h.get (by omega)⟩
    · intro f i s hi ⟨h1, h2, h3, h4⟩
      refine ⟨sI s 115 (158 + i) (nI (q (174 + i))), ?_, h1.trans (Gr.wr (by omega) (by omega)), fun k hk => by rw [rdI_nk _ _ _ _ (by omega)]; exact h2 k hk, fun k hk => ?_, fun k hk hk2 => by rw [rdI_nk _ _ _ _ (by omega)]; exact h4 k (by omega) hk2⟩
      · have e4 : s.1 115 (174 + i) = nI (q (174 + i)) := by
          have := h4 (16 + i) (by omega) (by omega)
          rwa [show 158 + (16 + i) = 174 + i by omega] at this
        have hn : ¬ 112 ≤ i := by omega
        show Mo_notes_L15B N (Mo_notes_L15 N f) (nI i) s = _
        unfold Mo_notes_L15B
        rw [show (112 : Int32) = nI 112 from rfl, if_neg (leN hn (by omega) (by omega)), show (174 : Int32) = nI 174 from rfl, addI, inI (by omega) (by decide), ck_t, show (158 : Int32) = nI 158 from rfl, addI, inI (by omega) (by decide), ck_t, clI (by omega), clI (by omega), e4, bS_e, show (1 : Int32) = nI 1 from rfl, addI, bI_e]
      · by_cases y : k = i
        · subst y; rw [rdI_eq]
        · rw [rdI_nk _ _ _ _ (by omega)]; exact h3 k (by omega)
    · intro f s ⟨h1, h2, h3, h4⟩
      show ∃ σ', Mo_notes_L15B N (Mo_notes_L15 N f) (nI 112) s = some σ' ∧ _
      unfold Mo_notes_L15B
      rw [show (112 : Int32) = nI 112 from rfl, if_pos (Int32.le_refl _)]
      unfold Mo_notes_J47
      rw [show (157 : Int32).toNatClampNeg = 157 from rfl, h2 157 (by decide), z, show (1 : Int32) = nI 1 from rfl, subI (by decide), bS_e]
      refine J _ (h1.trans (Gr.wr (by omega) (by omega))) (by rw [rdI_eq, e]) (fun k hk => by rw [rdI_nk _ _ _ _ (by omega)]; exact h2 k (by omega)) (fun k k1 k2 k3 => ?_)
      rw [rdI_nk _ _ _ _ (by omega)]
      have h5 := h3 (k - 158) (by omega)
      rw [show 158 + (k - 158) = k by omega, show 174 + (k - 158) = k + 16 by omega] at h5
      rw [h5]
      unfold qKeep
      rw [if_neg (by omega), if_neg (by omega), if_pos (by omega)]
  · have e : uK q = q 157 := if_neg z
    rw [if_neg (neI z (by omega) (by omega))]
    refine J σ Gr.rfl' (by rw [e]; exact h.get (by decide)) (fun k hk => h.get (by omega)) (fun k k1 k2 k3 => ?_)
    unfold qKeep
    rw [if_neg (by omega), if_neg (by omega), if_neg (fun y => z y.1)]; exact h.get k2
