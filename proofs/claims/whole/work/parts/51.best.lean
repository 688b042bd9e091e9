/-! the next try: tell, ask, look -/
def valT (q : QS) (r : Nat) : Nat → Nat → Nat → Nat := fun d s t => toldN (q (38 + r)) t d s
theorem valT_lt {q : QS} (hq : Okq q) {r d s t : Nat} (hr : r < q 36) (hd : d < 10) (hs : s < 31) (ht : t < 10) : valT q r d s t < 100000 := by
  have := (hq.b.2.1.2 r hr).1
  have := toldN_lt (kd := q (38 + r)) (tg := t) (d := d) (s := s) (by omega) (by omega)
  unfold valT; omega
theorem cFillT {N : Nat} (hN : 300 < N) {q : QS} {σ0 σ : St} (hq : Okq q) (h : NR 1 q σ0) {r d s : Nat} (hr : r < q 36) (hd : d < 10) (hs : s < 31) {a : Int32 × Nat} (hR : Rl σ0 a σ) (K1 : _) (K2 : _) : ∃ σ', Gs_bestTelling_L59 N K1 K2 N (mskI (fitT q r) 10) (nI (q (38 + r))) (nI d) (nI s) 0 σ = K2 (mskI (fitT q r) 10) (nI (q (38 + r))) (nI d) (nI (s + 1)) σ' ∧ Rl σ0 (st1 (crw (fitT q r) (valT q r d s) 10) (nI (100 * d + s)) a) σ' := by
  refine loop_up (fun f t σ => Gs_bestTelling_L59 N K1 K2 f (mskI (fitT q r) 10) (nI (q (38 + r))) (nI d) (nI s) (nI t) σ) 10 (fun t σ => Rl σ0 a σ ∧ ∀ t', t' < t → σ.1 65 t' = ans (fitT q r) (valT q r d s) t') (fun o => ∃ σ', o = K2 (mskI (fitT q r) 10) (nI (q (38 + r))) (nI d) (nI (s + 1)) σ' ∧ Rl σ0 (st1 (crw (fitT q r) (valT q r d s) 10) (nI (100 * d + s)) a) σ') ?_ ?_ (by omega) ⟨hR, by intros; omega⟩
  · intro f t σ ht ⟨i1, i2⟩
    have hn : ¬ 10 ≤ t := by omega
    refine ⟨sI σ 65 t (ans (fitT q r) (valT q r d s) t), ?_, i1.fill, fun t' ht' => ?_⟩
    · show Gs_bestTelling_L59B N K1 K2 (Gs_bestTelling_L59 N K1 K2 f) (mskI (fitT q r) 10) (nI (q (38 + r))) (nI d) (nI s) (nI t) σ = _
      unfold Gs_bestTelling_L59B Gs_bestTelling_J96 Gs_isIn
      rw [show (10 : Int32) = nI 10 from rfl, if_neg (leN hn (by omega) (by omega)), inI (by omega) (by decide), ck_t, ck_t, clI (by omega), nI_1, bS_e, bS_e, bI_e, bI_e]
      have hm := msk_in (fitT q r) (n := 10) (t := t) (by decide) ht
      unfold bitI at hm
      rw [told_c (by have := (hq.b.2.1.2 r hr).1; omega) (by omega) (by omega) (by omega)]
      unfold ans
      by_cases z : fitT q r t = true
      · rw [if_neg (show ¬ mskI (fitT q r) 10 &&& 1 <<< (nI t &&& 31) = 0 by rw [hm, z]; decide), if_neg one_ne, if_pos z]; rfl
      · rw [if_pos (show mskI (fitT q r) 10 &&& 1 <<< (nI t &&& 31) = 0 by rw [hm]; simpa using z), if_pos rfl, if_neg z]
    · by_cases e : t' = t
      · subst e; rw [rdI_eq]
      · rw [rdI_nk _ _ _ _ e]; exact i2 t' (by omega)
  · intro f σ ⟨i1, i2⟩
    obtain ⟨σ', e, R⟩ := cWeigh (N := N) hN (v := valT q r d s) (n := 10) (by decide) (fun t ht => valT_lt hq hr hd (by omega) (by omega)) i2 i1 (nI (100 * d + s))
    refine ⟨σ', ?_, R⟩
    show Gs_bestTelling_L59B N K1 K2 (Gs_bestTelling_L59 N K1 K2 f) (mskI (fitT q r) 10) (nI (q (38 + r))) (nI d) (nI s) (nI 10) σ = _
    unfold Gs_bestTelling_L59B Gs_bestTelling_J103
    rw [show (10 : Int32) = nI 10 from rfl, if_pos (Int32.le_refl _), show (100 : Int32) = nI 100 from rfl, mulI, addI, e, bR_e, nI_1, bI_e]
theorem cBestT {N : Nat} (hN : 300 < N) {q : QS} {σ : St} (hq : Okq q) (h : NR 1 q σ) {r S D : Nat} {cr : Nat → Nat → Nat} (hcr : ∀ d s, cr d s = crw (fitT q r) (valT q r d s) 10) (hS : S = 31) (hD : D = 10) (hr : r < q 36) : ∃ σ', Gs_bestTelling N 1 (nI r) σ = some ((srD cr S D).1, σ') ∧ CScr σ σ' := by
  have h36 := hq.b.2.1.1
  have h37 := hq.b.2.2.1.1
  have R0 : Rl σ (srD cr S 0) (sI (sI σ 64 1 (-1)) 64 2 11) := ⟨fun i h1 h2 => by simp (disch := omega) only [rdI_ne], rfl, by rw [rdI_nk _ _ _ _ (by decide), rdI_eq]; rfl, by rw [rdI_eq]; rfl, Or.inl rfl⟩
  unfold Gs_bestTelling Gs_startOver
  rw [cLeftT hN hq h LN1 hr (by omega), bR_e, inI (by omega) (by decide), ck_t, clI (by omega), (h.row (r := r) (by omega) hr).1, bI_e, bS_e, bS_e, bR_e]
  have fin : ∀ d s', d ≤ D → Rl σ (srD cr S d) s' → srD cr S D = srD cr S d → ∃ σ', Gs_bestTelling_J129 N s' = some ((srD cr S D).1, σ') ∧ CScr σ σ' := by
    intro d s' _ R e
    refine ⟨s', ?_, ⟨fun i hi => R.1 i (by omega) (by omega), R.2.1⟩⟩
    unfold Gs_bestTelling_J129
    rw [R.2.2.1, e]
  refine loop_ex (fun f d σ => Gs_bestTelling_L25 N f (mskI (fitT q r) 10) (nI (q (38 + r))) (nI d) σ) D (fun d s' => Rl σ (srD cr S d) s') (fun o => ∃ σ', o = some ((srD cr S D).1, σ') ∧ CScr σ σ') ?_ ?_ (by omega) R0
  · intro f d s' hd R
    have hn : ¬ 9 < d := by omega
    have e1 : Gs_bestTelling_L25 N (f + 1) (mskI (fitT q r) 10) (nI (q (38 + r))) (nI d) s' = if (srD cr S d).2 ≤ 1 then Gs_bestTelling_J129 N s' else Gs_bestTelling_L42 N (Gs_bestTelling_L25 N f) N (mskI (fitT q r) 10) (nI (q (38 + r))) (nI d) 0 s' := by
      show Gs_bestTelling_L25B N (Gs_bestTelling_L25 N f) (mskI (fitT q r) 10) (nI (q (38 + r))) (nI d) s' = _
      unfold Gs_bestTelling_L25B
      rw [show (9 : Int32) = nI 9 from rfl, if_neg (ltN hn (by omega) (by omega)), cOpen R, bR_e]
      by_cases z : (srD cr S d).2 ≤ 1
      · rw [if_pos z, if_pos rfl, if_pos z]
      · rw [if_neg z, if_neg one_ne, if_neg z]
    by_cases z : (srD cr S d).2 ≤ 1
    · left
      obtain ⟨σ', g1, g2⟩ := fin d s' (by omega) R (srD_stop (by omega) z)
      exact ⟨σ', by rw [e1, if_pos z, g1], g2⟩
    · right
      rw [e1, if_neg z]
      refine loop_ex (fun f' s σ => Gs_bestTelling_L42 N (Gs_bestTelling_L25 N f) f' (mskI (fitT q r) 10) (nI (q (38 + r))) (nI d) (nI s) σ) S (fun s s' => Rl σ (srS cr d s (srD cr S d)) s') (fun o => ∃ a', o = Gs_bestTelling_L25 N f (mskI (fitT q r) 10) (nI (q (38 + r))) (nI (d + 1)) a' ∧ Rl σ (srD cr S (d + 1)) a') ?_ ?_ (by omega) R
      · intro f' s s2 hs R2
        have hn2 : ¬ 30 < s := by omega
        have e2 : Gs_bestTelling_L42 N (Gs_bestTelling_L25 N f) (f' + 1) (mskI (fitT q r) 10) (nI (q (38 + r))) (nI d) (nI s) s2 = if (srS cr d s (srD cr S d)).2 ≤ 1 then Gs_bestTelling_L25 N f (mskI (fitT q r) 10) (nI (q (38 + r))) (nI (d + 1)) s2 else Gs_bestTelling_L59 N (Gs_bestTelling_L25 N f) (Gs_bestTelling_L42 N (Gs_bestTelling_L25 N f) f') N (mskI (fitT q r) 10) (nI (q (38 + r))) (nI d) (nI s) 0 s2 := by
          show Gs_bestTelling_L42B N (Gs_bestTelling_L25 N f) (Gs_bestTelling_L42 N (Gs_bestTelling_L25 N f) f') (mskI (fitT q r) 10) (nI (q (38 + r))) (nI d) (nI s) s2 = _
          unfold Gs_bestTelling_L42B Gs_bestTelling_J123
          rw [show (30 : Int32) = nI 30 from rfl, if_neg (ltN hn2 (by omega) (by omega)), cOpen R2, bR_e, nI_1, bI_e]
          by_cases y : (srS cr d s (srD cr S d)).2 ≤ 1
          · rw [if_pos y, if_pos rfl, if_pos y]
          · rw [if_neg y, if_neg one_ne, if_neg y]
        by_cases y : (srS cr d s (srD cr S d)).2 ≤ 1
        · left
          refine ⟨s2, by rw [e2, if_pos y], ?_⟩
          rw [srD_s, srS_it (by omega) y]; exact R2
        · right
          obtain ⟨σ', g1, g2⟩ := cFillT hN hq h hr (show d < 10 by omega) (show s < 31 by omega) R2 (Gs_bestTelling_L25 N f) (Gs_bestTelling_L42 N (Gs_bestTelling_L25 N f) f')
          rw [← hcr, ← srS_s] at g2
          exact ⟨σ', by rw [e2, if_neg y, g1], g2⟩
      · intro f' s2 R2
        refine ⟨s2, ?_, by rw [srD_s]; exact R2⟩
        show Gs_bestTelling_L42B N (Gs_bestTelling_L25 N f) (Gs_bestTelling_L42 N (Gs_bestTelling_L25 N f) f') (mskI (fitT q r) 10) (nI (q (38 + r))) (nI d) (nI S) s2 = _
        unfold Gs_bestTelling_L42B Gs_bestTelling_J123
        rw [hS, if_pos (by decide), nI_1, bI_e]
  · intro f s' R
    obtain ⟨σ', g1, g2⟩ := fin D s' (by omega) R rfl
    refine ⟨σ', ?_, g2⟩
    show Gs_bestTelling_L25B N (Gs_bestTelling_L25 N f) (mskI (fitT q r) 10) (nI (q (38 + r))) (nI D) s' = _
    unfold Gs_bestTelling_L25B
    rw [hD] at g1 ⊢
    rw [if_pos (by decide), g1]
def MrT (σ σ' : St) : Prop := (∀ i, i ≠ 132 → σ'.1 i = σ.1 i) ∧ σ'.2 = σ.2
theorem mFillT {N : Nat} (hN : 300 < N) {q : QS} {σ0 σ : St} (hq : Okq q) (h : RepM 115 0 q σ0) {r d s : Nat} (hr : r < q 36) (hd : d < 10) (hs : s < 31) {a : Int32 × Nat} (ha : Ok1 a) (hR : MrT σ0 σ) (hc : 1 ≤ crw (fitT q r) (valT q r d s) 10) (K1 : _) (K2 : _) : ∃ σ', Mo_tell_L54 N K1 K2 N (nI r) (mskI (fitT q r) 10) a.1 (nI a.2) (nI d) (nI s) 0 σ = K2 (nI r) (mskI (fitT q r) 10) (st1 (crw (fitT q r) (valT q r d s) 10) (nI (100 * d + s)) a).1 (nI (st1 (crw (fitT q r) (valT q r d s) 10) (nI (100 * d + s)) a).2) (nI d) (nI (s + 1)) σ' ∧ MrT σ0 σ' := by
  have h36 := hq.b.2.1.1
  have h37 := hq.b.2.2.1.1
  have hle := crw_le (fitT q r) (valT q r d s) 10
  have hal := ha.le
  refine loop_up (fun f t σ => Mo_tell_L54 N K1 K2 f (nI r) (mskI (fitT q r) 10) a.1 (nI a.2) (nI d) (nI s) (nI t) σ) 10 (fun t σ => MrT σ0 σ ∧ ∀ t', t' < t → σ.1 132 t' = nI (valT q r d s t')) (fun o => ∃ σ', o = K2 (nI r) (mskI (fitT q r) 10) (st1 (crw (fitT q r) (valT q r d s) 10) (nI (100 * d + s)) a).1 (nI (st1 (crw (fitT q r) (valT q r d s) 10) (nI (100 * d + s)) a).2) (nI d) (nI (s + 1)) σ' ∧ MrT σ0 σ') ?_ ?_ (by omega) ⟨hR, by intros; omega⟩
  · intro f t σ ht ⟨i1, i2⟩
    have hn : ¬ 10 ≤ t := by omega
    refine ⟨sI σ 132 t (nI (valT q r d s t)), ?_, ⟨fun i hi => by rw [rdI_ne _ _ _ _ hi]; exact i1.1 i hi, i1.2⟩, fun t' ht' => ?_⟩
    · show Mo_tell_L54B N K1 K2 (Mo_tell_L54 N K1 K2 f) (nI r) (mskI (fitT q r) 10) a.1 (nI a.2) (nI d) (nI s) (nI t) σ = _
      unfold Mo_tell_L54B
      rw [show (10 : Int32) = nI 10 from rfl, if_neg (leN hn (by omega) (by omega))]
      rw [show (38 : Int32) = nI 38 from rfl, addI, inI (by omega) (by decide), ck_t, inI (by omega) (by decide), ck_t, clI (by omega), clI (by omega), i1.1 115 (by decide), h.get (by omega), told_m (by have := (hq.b.2.1.2 r hr).1; omega) (by omega) (by omega) (by omega), bS_e, nI_1, bI_e]; rfl
    · by_cases e : t' = t
      · subst e; rw [rdI_eq]
      · rw [rdI_nk _ _ _ _ e]; exact i2 t' (by omega)
  · intro f σ ⟨i1, i2⟩
    refine ⟨σ, ?_, i1⟩
    show Mo_tell_L54B N K1 K2 (Mo_tell_L54 N K1 K2 f) (nI r) (mskI (fitT q r) 10) a.1 (nI a.2) (nI d) (nI s) (nI 10) σ = _
    unfold Mo_tell_L54B Mo_tell_J92 Mo_tell_J120
    rw [show (10 : Int32) = nI 10 from rfl, if_pos (Int32.le_refl _), mAlike hN (v := valT q r d s) (by decide) (fun t ht => valT_lt hq hr hd (by omega) (by omega)) i2, bR_e, less_e (by omega) (by omega), show (100 : Int32) = nI 100 from rfl, mulI, addI, nI_1, bI_e, bI_e, bI_e, bI_e]
    unfold st1
    by_cases z : a.2 ≤ crw (fitT q r) (valT q r d s) 10
    · rw [if_pos (leP z (by omega) (by omega)), if_neg (by omega), Nat.min_eq_left z]
    · rw [if_neg (leN z (by omega) (by omega)), if_pos (by omega), Nat.min_eq_right (by omega)]
theorem mBestT {N : Nat} (hN : 300 < N) {q : QS} {σ : St} (hq : Okq q) (h : RepM 115 0 q σ) {r S D : Nat} {cr : Nat → Nat → Nat} (hcr : ∀ d s, cr d s = crw (fitT q r) (valT q r d s) 10) (hS : S = 31) (hD : D = 10) (hr : r < q 36) : ∃ σ', Mo_tell_L30 N N (nI r) (mskI (fitT q r) 10) (-1) 99 0 σ = some ((srD cr S D).1, σ') ∧ MrT σ σ' := by
  by_cases z : (mskI (fitT q r) 10) = 0
  · have z' := z
    rw [msk_zero _ (by decide)] at z'
    obtain ⟨m, rfl⟩ : ∃ m, N = m + 1 := ⟨N - 1, by omega⟩
    refine ⟨σ, ?_, fun _ _ => rfl, rfl⟩
    show Mo_tell_L30B (m + 1) (Mo_tell_L30 (m + 1) m) (nI r) (mskI (fitT q r) 10) (-1) 99 0 σ = _
    unfold Mo_tell_L30B
    rw [if_neg (by decide), if_pos z, srD_0 (fun d s => by rw [hcr]; exact crw_zero z')]
  · obtain ⟨t0, ht0, hb0⟩ : ∃ t, t < 10 ∧ fitT q r t = true := by
      refine Classical.byContradiction (fun hh => z ?_)
      rw [msk_zero _ (by decide)]
      intro t ht
      cases e : fitT q r t
      · rfl
      · exact absurd ⟨t, ht, e⟩ hh
    have hpo : ∀ d s, 1 ≤ crw (fitT q r) (valT q r d s) 10 := fun d s => crw_pos ht0 hb0
    refine loop_up (fun f d (x : (Int32 × Nat) × St) => Mo_tell_L30 N f (nI r) (mskI (fitT q r) 10) x.1.1 (nI x.1.2) (nI d) x.2) D (fun d x => x.1 = srD cr S d ∧ Ok1 x.1 ∧ MrT σ x.2) (fun o => ∃ σ', o = some ((srD cr S D).1, σ') ∧ MrT σ σ') ?_ ?_ (a := ((-1, 99), σ)) (by omega) ⟨rfl, Or.inl rfl, fun _ _ => rfl, rfl⟩
    · intro f d x hd ⟨x1, x2, x3⟩
      have hn : ¬ 10 ≤ d := by omega
      show ∃ a' : (Int32 × Nat) × St, Mo_tell_L30B N (Mo_tell_L30 N f) (nI r) (mskI (fitT q r) 10) x.1.1 (nI x.1.2) (nI d) x.2 = _ ∧ _
      unfold Mo_tell_L30B
      rw [show (10 : Int32) = nI 10 from rfl, if_neg (leN hn (by omega) (by omega)), if_neg z]
      refine loop_up (fun f' s (y : (Int32 × Nat) × St) => Mo_tell_L44 N (Mo_tell_L30 N f) f' (nI r) (mskI (fitT q r) 10) y.1.1 (nI y.1.2) (nI d) (nI s) y.2) S (fun s y => y.1 = srS cr d s x.1 ∧ Ok1 y.1 ∧ MrT σ y.2) (fun o => ∃ a' : (Int32 × Nat) × St, o = Mo_tell_L30 N f (nI r) (mskI (fitT q r) 10) a'.1.1 (nI a'.1.2) (nI (d + 1)) a'.2 ∧ a'.1 = srD cr S (d + 1) ∧ Ok1 a'.1 ∧ MrT σ a'.2) ?_ ?_ (a := x) (by omega) ⟨rfl, x2, x3⟩
      · intro f' s y hs ⟨y1, y2, y3⟩
        have hn2 : ¬ 31 ≤ s := by omega
        obtain ⟨σ', g1, g2⟩ := mFillT hN hq h hr (show d < 10 by omega) (show s < 31 by omega) y2 y3 (hpo d s) (Mo_tell_L30 N f) (Mo_tell_L44 N (Mo_tell_L30 N f) f')
        have hc10 : cr d s ≤ 10 := by rw [hcr]; exact Nat.le_trans (crw_le _ _ _) (by decide)
        rw [← hcr] at g1
        refine ⟨(st1 (cr d s) (nI (100 * d + s)) y.1, σ'), ?_, by rw [srS_s, y1], y2.st hc10, g2⟩
        show Mo_tell_L44B N (Mo_tell_L30 N f) (Mo_tell_L44 N (Mo_tell_L30 N f) f') (nI r) (mskI (fitT q r) 10) y.1.1 (nI y.1.2) (nI d) (nI s) y.2 = _
        unfold Mo_tell_L44B
        rw [show (31 : Int32) = nI 31 from rfl, if_neg (leN hn2 (by omega) (by omega)), g1]
      · intro f' y ⟨y1, y2, y3⟩
        refine ⟨y, ?_, by rw [srD_s, y1, x1], y2, y3⟩
        show Mo_tell_L44B N (Mo_tell_L30 N f) (Mo_tell_L44 N (Mo_tell_L30 N f) f') (nI r) (mskI (fitT q r) 10) y.1.1 (nI y.1.2) (nI d) (nI S) y.2 = _
        unfold Mo_tell_L44B Mo_tell_J136
        rw [hS, if_pos (by decide), nI_1, bI_e]
    · intro f x ⟨x1, x2, x3⟩
      refine ⟨x.2, ?_, x3⟩
      show Mo_tell_L30B N (Mo_tell_L30 N f) (nI r) (mskI (fitT q r) 10) x.1.1 (nI x.1.2) (nI D) x.2 = _
      unfold Mo_tell_L30B
      rw [if_pos (by rw [hD]; decide), x1]
theorem sim_tell (N : Nat) (hN : 300 < N) : Sim_tell N Inv := by
  intro σ hI v1
  obtain ⟨A, hO, hC, hM⟩ := hI
  have hq := hO.1
  have h36 := hO.1.2.1
  have h37 := hO.1.2.2.1
  by_cases h1 : (0 : Int) ≤ v1.toInt ∧ v1.toInt ≤ (A.1 36 : Int) - 1
  rotate_left
  · refine sim_ref (f := fun σ => Go_tell N v1 σ) (g := fun σ => Mo_tell N v1 σ) (r := -2) 0 (by decide) hO hC hM ?_ (fun σ1 m1 => ?_)
    · show Go_tell N v1 σ = _
      simp only [Go_tell, gGu hO hC, gRo hO hC, gPl, bR_e, bW_e, gBad, gFarBad, eq_self, one_ne, if_true, if_false, not_false_eq_true, not_true_eq_false, wv_0 h1]
    · show Mo_tell N v1 σ1 = _
      simp only [Mo_tell_J136, Mo_tell_J120, Mo_tell_J92, Mo_tell, mGu hO m1, mRo hO m1, mPl, bR_e, bW_e, mBad, eq_self, one_ne, if_true, if_false, not_false_eq_true, not_true_eq_false, wv_0 h1]
  obtain ⟨a1, b1, rfl⟩ := wv_lt h1
  obtain ⟨S, hS⟩ : ∃ S : Nat, S = 31 := ⟨_, rfl⟩
  obtain ⟨D, hD⟩ : ∃ D : Nat, D = 10 := ⟨_, rfl⟩
  obtain ⟨cr, hcr⟩ : ∃ cr : Nat → Nat → Nat, ∀ d s, cr d s = crw (fitT A.1 a1) (valT A.1 a1 d s) 10 := ⟨_, fun _ _ => rfl⟩
  refine sim_scr (f := fun σ => Go_tell N (nI a1) σ) (g := fun σ => Mo_tell N (nI a1) σ) (r := (srD cr S D).1) hO hC hM ?_ (fun σ1 m1 => ?_)
  · obtain ⟨σ', e, s⟩ := cBestT hN hq hC.nr hcr hS hD b1
    refine ⟨σ', ?_, s⟩
    show Go_tell N (nI a1) σ = _
    simp only [Go_tell, gGu hO hC, gRo hO hC, gPl, bR_e, bW_e, gBad, gFarBad, eq_self, one_ne, if_true, if_false, not_false_eq_true, not_true_eq_false, wv_1 h1]
    rw [e, bW_e]
  · obtain ⟨σ', e, s⟩ := mBestT hN hq m1.1 hcr hS hD b1
    refine ⟨σ', ?_, m1.1.frame (s.1 _ (by decide)), ⟨fun i hi => s.1 i (by omega), fun i _ _ => s.1 i (by omega), by rw [s.1 _ (by decide)], s.2⟩⟩
    show Mo_tell N (nI a1) σ1 = _
    simp only [Mo_tell, mGu hO m1, mRo hO m1, mPl, bR_e, bW_e, mBad, eq_self, one_ne, if_true, if_false, not_false_eq_true, not_true_eq_false, wv_1 h1]
    rw [mLeftT hN hq m1.1 b1, bR_e, e]
def valR (q : QS) (r : Nat) : Nat → Nat → Nat → Nat := fun d s t => toldN t (q (41 + r)) d s
theorem valR_lt {q : QS} (hq : Okq q) {r d s t : Nat} (hr : r < q 36) (hd : d < 10) (hs : s < 31) (ht : t < 10) : valR q r d s t < 100000 := by
  have := (hq.b.2.1.2 r hr).2
  have := toldN_lt (kd := t) (tg := q (41 + r)) (d := d) (s := s) (by omega) (by omega)
  unfold valR; omega
theorem cFillR {N : Nat} (hN : 300 < N) {q : QS} {σ0 σ : St} (hq : Okq q) (h : NR 1 q σ0) {r d s : Nat} (hr : r < q 36) (hd : d < 10) (hs : s < 31) {a : Int32 × Nat} (hR : Rl σ0 a σ) (K1 : _) (K2 : _) : ∃ σ', Gs_bestAsking_L59 N K1 K2 N (mskI (fitR q r) 6) (nI (q (41 + r))) (nI d) (nI s) 0 σ = K2 (mskI (fitR q r) 6) (nI (q (41 + r))) (nI d) (nI (s + 1)) σ' ∧ Rl σ0 (st1 (crw (fitR q r) (valR q r d s) 6) (nI (100 * d + s)) a) σ' := by
  refine loop_up (fun f t σ => Gs_bestAsking_L59 N K1 K2 f (mskI (fitR q r) 6) (nI (q (41 + r))) (nI d) (nI s) (nI t) σ) 6 (fun t σ => Rl σ0 a σ ∧ ∀ t', t' < t → σ.1 65 t' = ans (fitR q r) (valR q r d s) t') (fun o => ∃ σ', o = K2 (mskI (fitR q r) 6) (nI (q (41 + r))) (nI d) (nI (s + 1)) σ' ∧ Rl σ0 (st1 (crw (fitR q r) (valR q r d s) 6) (nI (100 * d + s)) a) σ') ?_ ?_ (by omega) ⟨hR, by intros; omega⟩
  · intro f t σ ht ⟨i1, i2⟩
    have hn : ¬ 6 ≤ t := by omega
    refine ⟨sI σ 65 t (ans (fitR q r) (valR q r d s) t), ?_, i1.fill, fun t' ht' => ?_⟩
    · show Gs_bestAsking_L59B N K1 K2 (Gs_bestAsking_L59 N K1 K2 f) (mskI (fitR q r) 6) (nI (q (41 + r))) (nI d) (nI s) (nI t) σ = _
      unfold Gs_bestAsking_L59B Gs_bestAsking_J96 Gs_isIn
      rw [show (6 : Int32) = nI 6 from rfl, if_neg (leN hn (by omega) (by omega)), inI (by omega) (by decide), ck_t, ck_t, clI (by omega), nI_1, bS_e, bS_e, bI_e, bI_e]
      have hm := msk_in (fitR q r) (n := 6) (t := t) (by decide) ht
      unfold bitI at hm
      rw [told_c (by omega) (by have := (hq.b.2.1.2 r hr).2; omega) (by omega) (by omega)]
      unfold ans
      by_cases z : fitR q r t = true
      · rw [if_neg (show ¬ mskI (fitR q r) 6 &&& 1 <<< (nI t &&& 31) = 0 by rw [hm, z]; decide), if_neg one_ne, if_pos z]; rfl
      · rw [if_pos (show mskI (fitR q r) 6 &&& 1 <<< (nI t &&& 31) = 0 by rw [hm]; simpa using z), if_pos rfl, if_neg z]
    · by_cases e : t' = t
      · subst e; rw [rdI_eq]
      · rw [rdI_nk _ _ _ _ e]; exact i2 t' (by omega)
  · intro f σ ⟨i1, i2⟩
    obtain ⟨σ', e, R⟩ := cWeigh (N := N) hN (v := valR q r d s) (n := 6) (by decide) (fun t ht => valR_lt hq hr hd (by omega) (by omega)) i2 i1 (nI (100 * d + s))
    refine ⟨σ', ?_, R⟩
    show Gs_bestAsking_L59B N K1 K2 (Gs_bestAsking_L59 N K1 K2 f) (mskI (fitR q r) 6) (nI (q (41 + r))) (nI d) (nI s) (nI 6) σ = _
    unfold Gs_bestAsking_L59B Gs_bestAsking_J103
    rw [show (6 : Int32) = nI 6 from rfl, if_pos (Int32.le_refl _), show (100 : Int32) = nI 100 from rfl, mulI, addI, e, bR_e, nI_1, bI_e]
theorem cBestR {N : Nat} (hN : 300 < N) {q : QS} {σ : St} (hq : Okq q) (h : NR 1 q σ) {r S D : Nat} {cr : Nat → Nat → Nat} (hcr : ∀ d s, cr d s = crw (fitR q r) (valR q r d s) 6) (hS : S = 31) (hD : D = 10) (hr : r < q 36) : ∃ σ', Gs_bestAsking N 1 (nI r) σ = some ((srD cr S D).1, σ') ∧ CScr σ σ' := by
  have h36 := hq.b.2.1.1
  have h37 := hq.b.2.2.1.1
  have R0 : Rl σ (srD cr S 0) (sI (sI σ 64 1 (-1)) 64 2 11) := ⟨fun i h1 h2 => by simp (disch := omega) only [rdI_ne], rfl, by rw [rdI_nk _ _ _ _ (by decide), rdI_eq]; rfl, by rw [rdI_eq]; rfl, Or.inl rfl⟩
  unfold Gs_bestAsking Gs_startOver
  rw [cLeftR hN hq h LN1 (by omega), bR_e, inI (by omega) (by decide), ck_t, clI (by omega), (h.row (r := r) (by omega) hr).2, bI_e, bS_e, bS_e, bR_e]
  have fin : ∀ d s', d ≤ D → Rl σ (srD cr S d) s' → srD cr S D = srD cr S d → ∃ σ', Gs_bestAsking_J129 N s' = some ((srD cr S D).1, σ') ∧ CScr σ σ' := by
    intro d s' _ R e
    refine ⟨s', ?_, ⟨fun i hi => R.1 i (by omega) (by omega), R.2.1⟩⟩
    unfold Gs_bestAsking_J129
    rw [R.2.2.1, e]
  refine loop_ex (fun f d σ => Gs_bestAsking_L25 N f (mskI (fitR q r) 6) (nI (q (41 + r))) (nI d) σ) D (fun d s' => Rl σ (srD cr S d) s') (fun o => ∃ σ', o = some ((srD cr S D).1, σ') ∧ CScr σ σ') ?_ ?_ (by omega) R0
  · intro f d s' hd R
    have hn : ¬ 9 < d := by omega
    have e1 : Gs_bestAsking_L25 N (f + 1) (mskI (fitR q r) 6) (nI (q (41 + r))) (nI d) s' = if (srD cr S d).2 ≤ 1 then Gs_bestAsking_J129 N s' else Gs_bestAsking_L42 N (Gs_bestAsking_L25 N f) N (mskI (fitR q r) 6) (nI (q (41 + r))) (nI d) 0 s' := by
      show Gs_bestAsking_L25B N (Gs_bestAsking_L25 N f) (mskI (fitR q r) 6) (nI (q (41 + r))) (nI d) s' = _
      unfold Gs_bestAsking_L25B
      rw [show (9 : Int32) = nI 9 from rfl, if_neg (ltN hn (by omega) (by omega)), cOpen R, bR_e]
      by_cases z : (srD cr S d).2 ≤ 1
      · rw [if_pos z, if_pos rfl, if_pos z]
      · rw [if_neg z, if_neg one_ne, if_neg z]
    by_cases z : (srD cr S d).2 ≤ 1
    · left
      obtain ⟨σ', g1, g2⟩ := fin d s' (by omega) R (srD_stop (by omega) z)
      exact ⟨σ', by rw [e1, if_pos z, g1], g2⟩
    · right
      rw [e1, if_neg z]
      refine loop_ex (fun f' s σ => Gs_bestAsking_L42 N (Gs_bestAsking_L25 N f) f' (mskI (fitR q r) 6) (nI (q (41 + r))) (nI d) (nI s) σ) S (fun s s' => Rl σ (srS cr d s (srD cr S d)) s') (fun o => ∃ a', o = Gs_bestAsking_L25 N f (mskI (fitR q r) 6) (nI (q (41 + r))) (nI (d + 1)) a' ∧ Rl σ (srD cr S (d + 1)) a') ?_ ?_ (by omega) R
      · intro f' s s2 hs R2
        have hn2 : ¬ 30 < s := by omega
        have e2 : Gs_bestAsking_L42 N (Gs_bestAsking_L25 N f) (f' + 1) (mskI (fitR q r) 6) (nI (q (41 + r))) (nI d) (nI s) s2 = if (srS cr d s (srD cr S d)).2 ≤ 1 then Gs_bestAsking_L25 N f (mskI (fitR q r) 6) (nI (q (41 + r))) (nI (d + 1)) s2 else Gs_bestAsking_L59 N (Gs_bestAsking_L25 N f) (Gs_bestAsking_L42 N (Gs_bestAsking_L25 N f) f') N (mskI (fitR q r) 6) (nI (q (41 + r))) (nI d) (nI s) 0 s2 := by
          show Gs_bestAsking_L42B N (Gs_bestAsking_L25 N f) (Gs_bestAsking_L42 N (Gs_bestAsking_L25 N f) f') (mskI (fitR q r) 6) (nI (q (41 + r))) (nI d) (nI s) s2 = _
          unfold Gs_bestAsking_L42B Gs_bestAsking_J123
          rw [show (30 : Int32) = nI 30 from rfl, if_neg (ltN hn2 (by omega) (by omega)), cOpen R2, bR_e, nI_1, bI_e]
          by_cases y : (srS cr d s (srD cr S d)).2 ≤ 1
          · rw [if_pos y, if_pos rfl, if_pos y]
          · rw [if_neg y, if_neg one_ne, if_neg y]
        by_cases y : (srS cr d s (srD cr S d)).2 ≤ 1
        · left
          refine ⟨s2, by rw [e2, if_pos y], ?_⟩
          rw [srD_s, srS_it (by omega) y]; exact R2
        · right
          obtain ⟨σ', g1, g2⟩ := cFillR hN hq h hr (show d < 10 by omega) (show s < 31 by omega) R2 (Gs_bestAsking_L25 N f) (Gs_bestAsking_L42 N (Gs_bestAsking_L25 N f) f')
          rw [← hcr, ← srS_s] at g2
          exact ⟨σ', by rw [e2, if_neg y, g1], g2⟩
      · intro f' s2 R2
        refine ⟨s2, ?_, by rw [srD_s]; exact R2⟩
        show Gs_bestAsking_L42B N (Gs_bestAsking_L25 N f) (Gs_bestAsking_L42 N (Gs_bestAsking_L25 N f) f') (mskI (fitR q r) 6) (nI (q (41 + r))) (nI d) (nI S) s2 = _
        unfold Gs_bestAsking_L42B Gs_bestAsking_J123
        rw [hS, if_pos (by decide), nI_1, bI_e]
  · intro f s' R
    obtain ⟨σ', g1, g2⟩ := fin D s' (by omega) R rfl
    refine ⟨σ', ?_, g2⟩
    show Gs_bestAsking_L25B N (Gs_bestAsking_L25 N f) (mskI (fitR q r) 6) (nI (q (41 + r))) (nI D) s' = _
    unfold Gs_bestAsking_L25B
    rw [hD] at g1 ⊢
    rw [if_pos (by decide), g1]
def MrR (σ σ' : St) : Prop := (∀ i, i ≠ 132 → σ'.1 i = σ.1 i) ∧ σ'.2 = σ.2
theorem mFillR {N : Nat} (hN : 300 < N) {q : QS} {σ0 σ : St} (hq : Okq q) (h : RepM 115 0 q σ0) {r d s : Nat} (hr : r < q 36) (hd : d < 10) (hs : s < 31) {a : Int32 × Nat} (ha : Ok1 a) (hR : MrR σ0 σ) (hc : 1 ≤ crw (fitR q r) (valR q r d s) 6) (K1 : _) (K2 : _) : ∃ σ', Mo_ask_L54 N K1 K2 N (nI r) (mskI (fitR q r) 6) a.1 (nI a.2) (nI d) (nI s) 0 σ = K2 (nI r) (mskI (fitR q r) 6) (st1 (crw (fitR q r) (valR q r d s) 6) (nI (100 * d + s)) a).1 (nI (st1 (crw (fitR q r) (valR q r d s) 6) (nI (100 * d + s)) a).2) (nI d) (nI (s + 1)) σ' ∧ MrR σ0 σ' := by
  have h36 := hq.b.2.1.1
  have h37 := hq.b.2.2.1.1
  have hle := crw_le (fitR q r) (valR q r d s) 6
  have hal := ha.le
  refine loop_up (fun f t σ => Mo_ask_L54 N K1 K2 f (nI r) (mskI (fitR q r) 6) a.1 (nI a.2) (nI d) (nI s) (nI t) σ) 6 (fun t σ => MrR σ0 σ ∧ ∀ t', t' < t → σ.1 132 t' = nI (valR q r d s t')) (fun o => ∃ σ', o = K2 (nI r) (mskI (fitR q r) 6) (st1 (crw (fitR q r) (valR q r d s) 6) (nI (100 * d + s)) a).1 (nI (st1 (crw (fitR q r) (valR q r d s) 6) (nI (100 * d + s)) a).2) (nI d) (nI (s + 1)) σ' ∧ MrR σ0 σ') ?_ ?_ (by omega) ⟨hR, by intros; omega⟩
  · intro f t σ ht ⟨i1, i2⟩
    have hn : ¬ 6 ≤ t := by omega
    refine ⟨sI σ 132 t (nI (valR q r d s t)), ?_, ⟨fun i hi => by rw [rdI_ne _ _ _ _ hi]; exact i1.1 i hi, i1.2⟩, fun t' ht' => ?_⟩
    · show Mo_ask_L54B N K1 K2 (Mo_ask_L54 N K1 K2 f) (nI r) (mskI (fitR q r) 6) a.1 (nI a.2) (nI d) (nI s) (nI t) σ = _
      unfold Mo_ask_L54B
      rw [show (6 : Int32) = nI 6 from rfl, if_neg (leN hn (by omega) (by omega))]
      rw [show (41 : Int32) = nI 41 from rfl, addI, inI (by omega) (by decide), ck_t, inI (by omega) (by decide), ck_t, clI (by omega), clI (by omega), i1.1 115 (by decide), h.get (by omega), told_m (by omega) (by have := (hq.b.2.1.2 r hr).2; omega) (by omega) (by omega), bS_e, nI_1, bI_e]; rfl
    · by_cases e : t' = t
      · subst e; rw [rdI_eq]
      · rw [rdI_nk _ _ _ _ e]; exact i2 t' (by omega)
  · intro f σ ⟨i1, i2⟩
    refine ⟨σ, ?_, i1⟩
    show Mo_ask_L54B N K1 K2 (Mo_ask_L54 N K1 K2 f) (nI r) (mskI (fitR q r) 6) a.1 (nI a.2) (nI d) (nI s) (nI 6) σ = _
    unfold Mo_ask_L54B Mo_ask_J92 Mo_ask_J120
    rw [show (6 : Int32) = nI 6 from rfl, if_pos (Int32.le_refl _), mAlike hN (v := valR q r d s) (by decide) (fun t ht => valR_lt hq hr hd (by omega) (by omega)) i2, bR_e, less_e (by omega) (by omega), show (100 : Int32) = nI 100 from rfl, mulI, addI, nI_1, bI_e, bI_e, bI_e, bI_e]
    unfold st1
    by_cases z : a.2 ≤ crw (fitR q r) (valR q r d s) 6
    · rw [if_pos (leP z (by omega) (by omega)), if_neg (by omega), Nat.min_eq_left z]
    · rw [if_neg (leN z (by omega) (by omega)), if_pos (by omega), Nat.min_eq_right (by omega)]
theorem mBestR {N : Nat} (hN : 300 < N) {q : QS} {σ : St} (hq : Okq q) (h : RepM 115 0 q σ) {r S D : Nat} {cr : Nat → Nat → Nat} (hcr : ∀ d s, cr d s = crw (fitR q r) (valR q r d s) 6) (hS : S = 31) (hD : D = 10) (hr : r < q 36) : ∃ σ', Mo_ask_L30 N N (nI r) (mskI (fitR q r) 6) (-1) 99 0 σ = some ((srD cr S D).1, σ') ∧ MrR σ σ' := by
  by_cases z : (mskI (fitR q r) 6) = 0
  · have z' := z
    rw [msk_zero _ (by decide)] at z'
    obtain ⟨m, rfl⟩ : ∃ m, N = m + 1 := ⟨N - 1, by omega⟩
    refine ⟨σ, ?_, fun _ _ => rfl, rfl⟩
    show Mo_ask_L30B (m + 1) (Mo_ask_L30 (m + 1) m) (nI r) (mskI (fitR q r) 6) (-1) 99 0 σ = _
    unfold Mo_ask_L30B
    rw [if_neg (by decide), if_pos z, srD_0 (fun d s => by rw [hcr]; exact crw_zero z')]
  · obtain ⟨t0, ht0, hb0⟩ : ∃ t, t < 6 ∧ fitR q r t = true := by
      refine Classical.byContradiction (fun hh => z ?_)
      rw [msk_zero _ (by decide)]
      intro t ht
      cases e : fitR q r t
      · rfl
      · exact absurd ⟨t, ht, e⟩ hh
    have hpo : ∀ d s, 1 ≤ crw (fitR q r) (valR q r d s) 6 := fun d s => crw_pos ht0 hb0
    refine loop_up (fun f d (x : (Int32 × Nat) × St) => Mo_ask_L30 N f (nI r) (mskI (fitR q r) 6) x.1.1 (nI x.1.2) (nI d) x.2) D (fun d x => x.1 = srD cr S d ∧ Ok1 x.1 ∧ MrR σ x.2) (fun o => ∃ σ', o = some ((srD cr S D).1, σ') ∧ MrR σ σ') ?_ ?_ (a := ((-1, 99), σ)) (by omega) ⟨rfl, Or.inl rfl, fun _ _ => rfl, rfl⟩
    · intro f d x hd ⟨x1, x2, x3⟩
      have hn : ¬ 10 ≤ d := by omega
      show ∃ a' : (Int32 × Nat) × St, Mo_ask_L30B N (Mo_ask_L30 N f) (nI r) (mskI (fitR q r) 6) x.1.1 (nI x.1.2) (nI d) x.2 = _ ∧ _
      unfold Mo_ask_L30B
      rw [show (10 : Int32) = nI 10 from rfl, if_neg (leN hn (by omega) (by omega)), if_neg z]
      refine loop_up (fun f' s (y : (Int32 × Nat) × St) => Mo_ask_L44 N (Mo_ask_L30 N f) f' (nI r) (mskI (fitR q r) 6) y.1.1 (nI y.1.2) (nI d) (nI s) y.2) S (fun s y => y.1 = srS cr d s x.1 ∧ Ok1 y.1 ∧ MrR σ y.2) (fun o => ∃ a' : (Int32 × Nat) × St, o = Mo_ask_L30 N f (nI r) (mskI (fitR q r) 6) a'.1.1 (nI a'.1.2) (nI (d + 1)) a'.2 ∧ a'.1 = srD cr S (d + 1) ∧ Ok1 a'.1 ∧ MrR σ a'.2) ?_ ?_ (a := x) (by omega) ⟨rfl, x2, x3⟩
      · intro f' s y hs ⟨y1, y2, y3⟩
        have hn2 : ¬ 31 ≤ s := by omega
        obtain ⟨σ', g1, g2⟩ := mFillR hN hq h hr (show d < 10 by omega) (show s < 31 by omega) y2 y3 (hpo d s) (Mo_ask_L30 N f) (Mo_ask_L44 N (Mo_ask_L30 N f) f')
        have hc10 : cr d s ≤ 10 := by rw [hcr]; exact Nat.le_trans (crw_le _ _ _) (by decide)
        rw [← hcr] at g1
        refine ⟨(st1 (cr d s) (nI (100 * d + s)) y.1, σ'), ?_, by rw [srS_s, y1], y2.st hc10, g2⟩
        show Mo_ask_L44B N (Mo_ask_L30 N f) (Mo_ask_L44 N (Mo_ask_L30 N f) f') (nI r) (mskI (fitR q r) 6) y.1.1 (nI y.1.2) (nI d) (nI s) y.2 = _
        unfold Mo_ask_L44B
        rw [show (31 : Int32) = nI 31 from rfl, if_neg (leN hn2 (by omega) (by omega)), g1]
      · intro f' y ⟨y1, y2, y3⟩
        refine ⟨y, ?_, by rw [srD_s, y1, x1], y2, y3⟩
        show Mo_ask_L44B N (Mo_ask_L30 N f) (Mo_ask_L44 N (Mo_ask_L30 N f) f') (nI r) (mskI (fitR q r) 6) y.1.1 (nI y.1.2) (nI d) (nI S) y.2 = _
        unfold Mo_ask_L44B Mo_ask_J136
        rw [hS, if_pos (by decide), nI_1, bI_e]
    · intro f x ⟨x1, x2, x3⟩
      refine ⟨x.2, ?_, x3⟩
      show Mo_ask_L30B N (Mo_ask_L30 N f) (nI r) (mskI (fitR q r) 6) x.1.1 (nI x.1.2) (nI D) x.2 = _
      unfold Mo_ask_L30B
      rw [if_pos (by rw [hD]; decide), x1]
theorem sim_ask (N : Nat) (hN : 300 < N) : Sim_ask N Inv := by
  intro σ hI v1
  obtain ⟨A, hO, hC, hM⟩ := hI
  have hq := hO.1
  have h36 := hO.1.2.1
  have h37 := hO.1.2.2.1
  by_cases h1 : (0 : Int) ≤ v1.toInt ∧ v1.toInt ≤ (A.1 36 : Int) - 1
  rotate_left
  · refine sim_ref (f := fun σ => Go_ask N v1 σ) (g := fun σ => Mo_ask N v1 σ) (r := -2) 0 (by decide) hO hC hM ?_ (fun σ1 m1 => ?_)
    · show Go_ask N v1 σ = _
      simp only [Go_ask, gGu hO hC, gRo hO hC, gPl, bR_e, bW_e, gBad, gFarBad, eq_self, one_ne, if_true, if_false, not_false_eq_true, not_true_eq_false, wv_0 h1]
    · show Mo_ask N v1 σ1 = _
      simp only [Mo_ask_J136, Mo_ask_J120, Mo_ask_J92, Mo_ask, mGu hO m1, mRo hO m1, mPl, bR_e, bW_e, mBad, eq_self, one_ne, if_true, if_false, not_false_eq_true, not_true_eq_false, wv_0 h1]
  obtain ⟨a1, b1, rfl⟩ := wv_lt h1
  obtain ⟨S, hS⟩ : ∃ S : Nat, S = 31 := ⟨_, rfl⟩
  obtain ⟨D, hD⟩ : ∃ D : Nat, D = 10 := ⟨_, rfl⟩
  obtain ⟨cr, hcr⟩ : ∃ cr : Nat → Nat → Nat, ∀ d s, cr d s = crw (fitR A.1 a1) (valR A.1 a1 d s) 6 := ⟨_, fun _ _ => rfl⟩
  refine sim_scr (f := fun σ => Go_ask N (nI a1) σ) (g := fun σ => Mo_ask N (nI a1) σ) (r := (srD cr S D).1) hO hC hM ?_ (fun σ1 m1 => ?_)
  · obtain ⟨σ', e, s⟩ := cBestR hN hq hC.nr hcr hS hD b1
    refine ⟨σ', ?_, s⟩
    show Go_ask N (nI a1) σ = _
    simp only [Go_ask, gGu hO hC, gRo hO hC, gPl, bR_e, bW_e, gBad, gFarBad, eq_self, one_ne, if_true, if_false, not_false_eq_true, not_true_eq_false, wv_1 h1]
    rw [e, bW_e]
  · obtain ⟨σ', e, s⟩ := mBestR hN hq m1.1 hcr hS hD b1
    refine ⟨σ', ?_, m1.1.frame (s.1 _ (by decide)), ⟨fun i hi => s.1 i (by omega), fun i _ _ => s.1 i (by omega), by rw [s.1 _ (by decide)], s.2⟩⟩
    show Mo_ask N (nI a1) σ1 = _
    simp only [Mo_ask, mGu hO m1, mRo hO m1, mPl, bR_e, bW_e, mBad, eq_self, one_ne, if_true, if_false, not_false_eq_true, not_true_eq_false, wv_1 h1]
    rw [mLeftR hN hq m1.1 b1, bR_e, e]
def valG (q : QS) (r : Nat) : Nat → Nat → Nat → Nat := fun d s t => hurtN t (q (48 + r)) (q (52 + r)) s d
theorem valG_lt {q : QS} (hq : Okq q) {r d s t : Nat} (hr : r < q 37) (hd : d < 10) (hs : s < 31) (ht : t < 10) : valG q r d s t < 100000 := by
  obtain ⟨c1, c2, c3, c4, -⟩ := hq.b.2.2.1.2.1 r hr
  have := hurtN_lt (kd := t) (h := q (48 + r)) (k := q (52 + r)) (m := s) (d := d) (by omega) (by omega)
  unfold valG; omega
theorem cFillG {N : Nat} (hN : 300 < N) {q : QS} {σ0 σ : St} (hq : Okq q) (h : NR 1 q σ0) {r d s : Nat} (hr : r < q 37) (hd : d < 10) (hs : s < 21) {a : Int32 × Nat} (hR : Rl σ0 a σ) (K1 : _) (K2 : _) : ∃ σ', Gs_bestLook_L56 N K1 K2 N (mskI (fitG q r) 6) (1 + 16 + r) (nI d) (nI s) 0 σ = K2 (mskI (fitG q r) 6) (1 + 16 + r) (nI d) (nI (s + 1)) σ' ∧ Rl σ0 (st1 (crw (fitG q r) (valG q r d s) 6) (nI (100 * d + s)) a) σ' := by
  refine loop_up (fun f t σ => Gs_bestLook_L56 N K1 K2 f (mskI (fitG q r) 6) (1 + 16 + r) (nI d) (nI s) (nI t) σ) 6 (fun t σ => Rl σ0 a σ ∧ ∀ t', t' < t → σ.1 65 t' = ans (fitG q r) (valG q r d s) t') (fun o => ∃ σ', o = K2 (mskI (fitG q r) 6) (1 + 16 + r) (nI d) (nI (s + 1)) σ' ∧ Rl σ0 (st1 (crw (fitG q r) (valG q r d s) 6) (nI (100 * d + s)) a) σ') ?_ ?_ (by omega) ⟨hR, by intros; omega⟩
  · intro f t σ ht ⟨i1, i2⟩
    have hn : ¬ 6 ≤ t := by omega
    refine ⟨sI σ 65 t (ans (fitG q r) (valG q r d s) t), ?_, i1.fill, fun t' ht' => ?_⟩
    · show Gs_bestLook_L56B N K1 K2 (Gs_bestLook_L56 N K1 K2 f) (mskI (fitG q r) 6) (1 + 16 + r) (nI d) (nI s) (nI t) σ = _
      unfold Gs_bestLook_L56B Gs_bestLook_J101 Gs_isIn
      rw [show (6 : Int32) = nI 6 from rfl, if_neg (leN hn (by omega) (by omega)), inI (by omega) (by decide), ck_t, ck_t, clI (by omega), nI_1, bS_e, bS_e, bI_e, bI_e]
      have hm := msk_in (fitG q r) (n := 6) (t := t) (by decide) ht
      unfold bitI at hm
      obtain ⟨c1, c2, c3, c4, -⟩ := hq.b.2.2.1.2.1 r hr
      have h37 := hq.b.2.2.1.1
      rw [i1.1 _ (by omega) (by omega), h.gst (g := r) (f := 1) (by omega) (by decide) hr, h.gst (g := r) (f := 2) (by omega) (by decide) hr, show 44 + 4 * 1 + r = 48 + r by omega, show 44 + 4 * 2 + r = 52 + r by omega, hurt_c (by omega) (by omega) (by omega) (by omega) (by omega)]
      unfold ans
      by_cases z : fitG q r t = true
      · rw [if_neg (show ¬ mskI (fitG q r) 6 &&& 1 <<< (nI t &&& 31) = 0 by rw [hm, z]; decide), if_neg one_ne, if_pos z]; rfl
      · rw [if_pos (show mskI (fitG q r) 6 &&& 1 <<< (nI t &&& 31) = 0 by rw [hm]; simpa using z), if_pos rfl, if_neg z]
    · by_cases e : t' = t
      · subst e; rw [rdI_eq]
      · rw [rdI_nk _ _ _ _ e]; exact i2 t' (by omega)
  · intro f σ ⟨i1, i2⟩
    obtain ⟨σ', e, R⟩ := cWeigh (N := N) hN (v := valG q r d s) (n := 6) (by decide) (fun t ht => valG_lt hq hr hd (by omega) (by omega)) i2 i1 (nI (100 * d + s))
    refine ⟨σ', ?_, R⟩
    show Gs_bestLook_L56B N K1 K2 (Gs_bestLook_L56 N K1 K2 f) (mskI (fitG q r) 6) (1 + 16 + r) (nI d) (nI s) (nI 6) σ = _
    unfold Gs_bestLook_L56B Gs_bestLook_J108
    rw [show (6 : Int32) = nI 6 from rfl, if_pos (Int32.le_refl _), show (100 : Int32) = nI 100 from rfl, mulI, addI, e, bR_e, nI_1, bI_e]
theorem cBestG {N : Nat} (hN : 300 < N) {q : QS} {σ : St} (hq : Okq q) (h : NR 1 q σ) {r S D : Nat} {cr : Nat → Nat → Nat} (hcr : ∀ d s, cr d s = crw (fitG q r) (valG q r d s) 6) (hS : S = 21) (hD : D = 10) (hr : r < q 37) : ∃ σ', Gs_bestLook N 1 (nI r) σ = some ((srD cr S D).1, σ') ∧ CScr σ σ' := by
  have h36 := hq.b.2.1.1
  have h37 := hq.b.2.2.1.1
  have R0 : Rl σ (srD cr S 0) (sI (sI σ 64 1 (-1)) 64 2 11) := ⟨fun i h1 h2 => by simp (disch := omega) only [rdI_ne], rfl, by rw [rdI_nk _ _ _ _ (by decide), rdI_eq]; rfl, by rw [rdI_eq]; rfl, Or.inl rfl⟩
  unfold Gs_bestLook Gs_startOver
  rw [cLeftG hN hq h LN1 (by omega), bR_e, inI (by omega) (by decide), ck_t, clI (by omega), bS_e, bS_e, bR_e]
  have fin : ∀ d s', d ≤ D → Rl σ (srD cr S d) s' → srD cr S D = srD cr S d → ∃ σ', Gs_bestLook_J134 N s' = some ((srD cr S D).1, σ') ∧ CScr σ σ' := by
    intro d s' _ R e
    refine ⟨s', ?_, ⟨fun i hi => R.1 i (by omega) (by omega), R.2.1⟩⟩
    unfold Gs_bestLook_J134
    rw [R.2.2.1, e]
  refine loop_ex (fun f d σ => Gs_bestLook_L22 N f (mskI (fitG q r) 6) (1 + 16 + r) (nI d) σ) D (fun d s' => Rl σ (srD cr S d) s') (fun o => ∃ σ', o = some ((srD cr S D).1, σ') ∧ CScr σ σ') ?_ ?_ (by omega) R0
  · intro f d s' hd R
    have hn : ¬ 9 < d := by omega
    have e1 : Gs_bestLook_L22 N (f + 1) (mskI (fitG q r) 6) (1 + 16 + r) (nI d) s' = if (srD cr S d).2 ≤ 1 then Gs_bestLook_J134 N s' else Gs_bestLook_L39 N (Gs_bestLook_L22 N f) N (mskI (fitG q r) 6) (1 + 16 + r) (nI d) 0 s' := by
      show Gs_bestLook_L22B N (Gs_bestLook_L22 N f) (mskI (fitG q r) 6) (1 + 16 + r) (nI d) s' = _
      unfold Gs_bestLook_L22B
      rw [show (9 : Int32) = nI 9 from rfl, if_neg (ltN hn (by omega) (by omega)), cOpen R, bR_e]
      by_cases z : (srD cr S d).2 ≤ 1
      · rw [if_pos z, if_pos rfl, if_pos z]
      · rw [if_neg z, if_neg one_ne, if_neg z]
    by_cases z : (srD cr S d).2 ≤ 1
    · left
      obtain ⟨σ', g1, g2⟩ := fin d s' (by omega) R (srD_stop (by omega) z)
      exact ⟨σ', by rw [e1, if_pos z, g1], g2⟩
    · right
      rw [e1, if_neg z]
      refine loop_ex (fun f' s σ => Gs_bestLook_L39 N (Gs_bestLook_L22 N f) f' (mskI (fitG q r) 6) (1 + 16 + r) (nI d) (nI s) σ) S (fun s s' => Rl σ (srS cr d s (srD cr S d)) s') (fun o => ∃ a', o = Gs_bestLook_L22 N f (mskI (fitG q r) 6) (1 + 16 + r) (nI (d + 1)) a' ∧ Rl σ (srD cr S (d + 1)) a') ?_ ?_ (by omega) R
      · intro f' s s2 hs R2
        have hn2 : ¬ 20 < s := by omega
        have e2 : Gs_bestLook_L39 N (Gs_bestLook_L22 N f) (f' + 1) (mskI (fitG q r) 6) (1 + 16 + r) (nI d) (nI s) s2 = if (srS cr d s (srD cr S d)).2 ≤ 1 then Gs_bestLook_L22 N f (mskI (fitG q r) 6) (1 + 16 + r) (nI (d + 1)) s2 else Gs_bestLook_L56 N (Gs_bestLook_L22 N f) (Gs_bestLook_L39 N (Gs_bestLook_L22 N f) f') N (mskI (fitG q r) 6) (1 + 16 + r) (nI d) (nI s) 0 s2 := by
          show Gs_bestLook_L39B N (Gs_bestLook_L22 N f) (Gs_bestLook_L39 N (Gs_bestLook_L22 N f) f') (mskI (fitG q r) 6) (1 + 16 + r) (nI d) (nI s) s2 = _
          unfold Gs_bestLook_L39B Gs_bestLook_J128
          rw [show (20 : Int32) = nI 20 from rfl, if_neg (ltN hn2 (by omega) (by omega)), cOpen R2, bR_e, nI_1, bI_e]
          by_cases y : (srS cr d s (srD cr S d)).2 ≤ 1
          · rw [if_pos y, if_pos rfl, if_pos y]
          · rw [if_neg y, if_neg one_ne, if_neg y]
        by_cases y : (srS cr d s (srD cr S d)).2 ≤ 1
        · left
          refine ⟨s2, by rw [e2, if_pos y], ?_⟩
          rw [srD_s, srS_it (by omega) y]; exact R2
        · right
          obtain ⟨σ', g1, g2⟩ := cFillG hN hq h hr (show d < 10 by omega) (show s < 21 by omega) R2 (Gs_bestLook_L22 N f) (Gs_bestLook_L39 N (Gs_bestLook_L22 N f) f')
          rw [← hcr, ← srS_s] at g2
          exact ⟨σ', by rw [e2, if_neg y, g1], g2⟩
      · intro f' s2 R2
        refine ⟨s2, ?_, by rw [srD_s]; exact R2⟩
        show Gs_bestLook_L39B N (Gs_bestLook_L22 N f) (Gs_bestLook_L39 N (Gs_bestLook_L22 N f) f') (mskI (fitG q r) 6) (1 + 16 + r) (nI d) (nI S) s2 = _
        unfold Gs_bestLook_L39B Gs_bestLook_J128
        rw [hS, if_pos (by decide), nI_1, bI_e]
  · intro f s' R
    obtain ⟨σ', g1, g2⟩ := fin D s' (by omega) R rfl
    refine ⟨σ', ?_, g2⟩
    show Gs_bestLook_L22B N (Gs_bestLook_L22 N f) (mskI (fitG q r) 6) (1 + 16 + r) (nI D) s' = _
    unfold Gs_bestLook_L22B
    rw [hD] at g1 ⊢
    rw [if_pos (by decide), g1]
def MrG (σ σ' : St) : Prop := (∀ i, i ≠ 132 → σ'.1 i = σ.1 i) ∧ σ'.2 = σ.2
theorem mFillG {N : Nat} (hN : 300 < N) {q : QS} {σ0 σ : St} (hq : Okq q) (h : RepM 115 0 q σ0) {r d s : Nat} (hr : r < q 37) (hd : d < 10) (hs : s < 21) {a : Int32 × Nat} (ha : Ok1 a) (hR : MrG σ0 σ) (hc : 1 ≤ crw (fitG q r) (valG q r d s) 6) (K1 : _) (K2 : _) : ∃ σ', Mo_look_L54 N K1 K2 N (nI r) (mskI (fitG q r) 6) a.1 (nI a.2) (nI d) (nI s) 0 σ = K2 (nI r) (mskI (fitG q r) 6) (st1 (crw (fitG q r) (valG q r d s) 6) (nI (100 * d + s)) a).1 (nI (st1 (crw (fitG q r) (valG q r d s) 6) (nI (100 * d + s)) a).2) (nI d) (nI (s + 1)) σ' ∧ MrG σ0 σ' := by
  have h36 := hq.b.2.1.1
  have h37 := hq.b.2.2.1.1
  have hle := crw_le (fitG q r) (valG q r d s) 6
  have hal := ha.le
  refine loop_up (fun f t σ => Mo_look_L54 N K1 K2 f (nI r) (mskI (fitG q r) 6) a.1 (nI a.2) (nI d) (nI s) (nI t) σ) 6 (fun t σ => MrG σ0 σ ∧ ∀ t', t' < t → σ.1 132 t' = nI (valG q r d s t')) (fun o => ∃ σ', o = K2 (nI r) (mskI (fitG q r) 6) (st1 (crw (fitG q r) (valG q r d s) 6) (nI (100 * d + s)) a).1 (nI (st1 (crw (fitG q r) (valG q r d s) 6) (nI (100 * d + s)) a).2) (nI d) (nI (s + 1)) σ' ∧ MrG σ0 σ') ?_ ?_ (by omega) ⟨hR, by intros; omega⟩
  · intro f t σ ht ⟨i1, i2⟩
    have hn : ¬ 6 ≤ t := by omega
    refine ⟨sI σ 132 t (nI (valG q r d s t)), ?_, ⟨fun i hi => by rw [rdI_ne _ _ _ _ hi]; exact i1.1 i hi, i1.2⟩, fun t' ht' => ?_⟩
    · show Mo_look_L54B N K1 K2 (Mo_look_L54 N K1 K2 f) (nI r) (mskI (fitG q r) 6) a.1 (nI a.2) (nI d) (nI s) (nI t) σ = _
      unfold Mo_look_L54B
      rw [show (6 : Int32) = nI 6 from rfl, if_neg (leN hn (by omega) (by omega))]
      obtain ⟨c1, c2, c3, c4, -⟩ := hq.b.2.2.1.2.1 r hr
      rw [show (48 : Int32) = nI 48 from rfl, show (52 : Int32) = nI 52 from rfl, addI, addI, inI (by omega) (by decide), ck_t, inI (by omega) (by decide), ck_t, inI (by omega) (by decide), ck_t, clI (by omega), clI (by omega), clI (by omega), i1.1 115 (by decide), h.get (by omega), h.get (by omega), hurt_m (by omega) (by omega) (by omega) (by omega) (by omega), bS_e, nI_1, bI_e]; rfl
    · by_cases e : t' = t
      · subst e; rw [rdI_eq]
      · rw [rdI_nk _ _ _ _ e]; exact i2 t' (by omega)
  · intro f σ ⟨i1, i2⟩
    refine ⟨σ, ?_, i1⟩
    show Mo_look_L54B N K1 K2 (Mo_look_L54 N K1 K2 f) (nI r) (mskI (fitG q r) 6) a.1 (nI a.2) (nI d) (nI s) (nI 6) σ = _
    unfold Mo_look_L54B Mo_look_J101 Mo_look_J129
    rw [show (6 : Int32) = nI 6 from rfl, if_pos (Int32.le_refl _), mAlike hN (v := valG q r d s) (by decide) (fun t ht => valG_lt hq hr hd (by omega) (by omega)) i2, bR_e, less_e (by omega) (by omega), show (100 : Int32) = nI 100 from rfl, mulI, addI, nI_1, bI_e, bI_e, bI_e, bI_e]
    unfold st1
    by_cases z : a.2 ≤ crw (fitG q r) (valG q r d s) 6
    · rw [if_pos (leP z (by omega) (by omega)), if_neg (by omega), Nat.min_eq_left z]
    · rw [if_neg (leN z (by omega) (by omega)), if_pos (by omega), Nat.min_eq_right (by omega)]
theorem mBestG {N : Nat} (hN : 300 < N) {q : QS} {σ : St} (hq : Okq q) (h : RepM 115 0 q σ) {r S D : Nat} {cr : Nat → Nat → Nat} (hcr : ∀ d s, cr d s = crw (fitG q r) (valG q r d s) 6) (hS : S = 21) (hD : D = 10) (hr : r < q 37) : ∃ σ', Mo_look_L30 N N (nI r) (mskI (fitG q r) 6) (-1) 99 0 σ = some ((srD cr S D).1, σ') ∧ MrG σ σ' := by
  by_cases z : (mskI (fitG q r) 6) = 0
  · have z' := z
    rw [msk_zero _ (by decide)] at z'
    obtain ⟨m, rfl⟩ : ∃ m, N = m + 1 := ⟨N - 1, by omega⟩
    refine ⟨σ, ?_, fun _ _ => rfl, rfl⟩
    show Mo_look_L30B (m + 1) (Mo_look_L30 (m + 1) m) (nI r) (mskI (fitG q r) 6) (-1) 99 0 σ = _
    unfold Mo_look_L30B
    rw [if_neg (by decide), if_pos z, srD_0 (fun d s => by rw [hcr]; exact crw_zero z')]
  · obtain ⟨t0, ht0, hb0⟩ : ∃ t, t < 6 ∧ fitG q r t = true := by
      refine Classical.byContradiction (fun hh => z ?_)
      rw [msk_zero _ (by decide)]
      intro t ht
      cases e : fitG q r t
      · rfl
      · exact absurd ⟨t, ht, e⟩ hh
    have hpo : ∀ d s, 1 ≤ crw (fitG q r) (valG q r d s) 6 := fun d s => crw_pos ht0 hb0
    refine loop_up (fun f d (x : (Int32 × Nat) × St) => Mo_look_L30 N f (nI r) (mskI (fitG q r) 6) x.1.1 (nI x.1.2) (nI d) x.2) D (fun d x => x.1 = srD cr S d ∧ Ok1 x.1 ∧ MrG σ x.2) (fun o => ∃ σ', o = some ((srD cr S D).1, σ') ∧ MrG σ σ') ?_ ?_ (a := ((-1, 99), σ)) (by omega) ⟨rfl, Or.inl rfl, fun _ _ => rfl, rfl⟩
    · intro f d x hd ⟨x1, x2, x3⟩
      have hn : ¬ 10 ≤ d := by omega
      show ∃ a' : (Int32 × Nat) × St, Mo_look_L30B N (Mo_look_L30 N f) (nI r) (mskI (fitG q r) 6) x.1.1 (nI x.1.2) (nI d) x.2 = _ ∧ _
      unfold Mo_look_L30B
      rw [show (10 : Int32) = nI 10 from rfl, if_neg (leN hn (by omega) (by omega)), if_neg z]
      refine loop_up (fun f' s (y : (Int32 × Nat) × St) => Mo_look_L44 N (Mo_look_L30 N f) f' (nI r) (mskI (fitG q r) 6) y.1.1 (nI y.1.2) (nI d) (nI s) y.2) S (fun s y => y.1 = srS cr d s x.1 ∧ Ok1 y.1 ∧ MrG σ y.2) (fun o => ∃ a' : (Int32 × Nat) × St, o = Mo_look_L30 N f (nI r) (mskI (fitG q r) 6) a'.1.1 (nI a'.1.2) (nI (d + 1)) a'.2 ∧ a'.1 = srD cr S (d + 1) ∧ Ok1 a'.1 ∧ MrG σ a'.2) ?_ ?_ (a := x) (by omega) ⟨rfl, x2, x3⟩
      · intro f' s y hs ⟨y1, y2, y3⟩
        have hn2 : ¬ 21 ≤ s := by omega
        obtain ⟨σ', g1, g2⟩ := mFillG hN hq h hr (show d < 10 by omega) (show s < 21 by omega) y2 y3 (hpo d s) (Mo_look_L30 N f) (Mo_look_L44 N (Mo_look_L30 N f) f')
        have hc10 : cr d s ≤ 10 := by rw [hcr]; exact Nat.le_trans (crw_le _ _ _) (by decide)
        rw [← hcr] at g1
        refine ⟨(st1 (cr d s) (nI (100 * d + s)) y.1, σ'), ?_, by rw [srS_s, y1], y2.st hc10, g2⟩
        show Mo_look_L44B N (Mo_look_L30 N f) (Mo_look_L44 N (Mo_look_L30 N f) f') (nI r) (mskI (fitG q r) 6) y.1.1 (nI y.1.2) (nI d) (nI s) y.2 = _
        unfold Mo_look_L44B
        rw [show (21 : Int32) = nI 21 from rfl, if_neg (leN hn2 (by omega) (by omega)), g1]
      · intro f' y ⟨y1, y2, y3⟩
        refine ⟨y, ?_, by rw [srD_s, y1, x1], y2, y3⟩
        show Mo_look_L44B N (Mo_look_L30 N f) (Mo_look_L44 N (Mo_look_L30 N f) f') (nI r) (mskI (fitG q r) 6) y.1.1 (nI y.1.2) (nI d) (nI S) y.2 = _
        unfold Mo_look_L44B Mo_look_J145
        rw [hS, if_pos (by decide), nI_1, bI_e]
    · intro f x ⟨x1, x2, x3⟩
      refine ⟨x.2, ?_, x3⟩
      show Mo_look_L30B N (Mo_look_L30 N f) (nI r) (mskI (fitG q r) 6) x.1.1 (nI x.1.2) (nI D) x.2 = _
      unfold Mo_look_L30B
      rw [if_pos (by rw [hD]; decide), x1]
theorem sim_look (N : Nat) (hN : 300 < N) : Sim_look N Inv := by
  intro σ hI v1
  obtain ⟨A, hO, hC, hM⟩ := hI
  have hq := hO.1
  have h36 := hO.1.2.1
  have h37 := hO.1.2.2.1
  by_cases h1 : (0 : Int) ≤ v1.toInt ∧ v1.toInt ≤ (A.1 37 : Int) - 1
  rotate_left
  · refine sim_ref (f := fun σ => Go_look N v1 σ) (g := fun σ => Mo_look N v1 σ) (r := -2) 0 (by decide) hO hC hM ?_ (fun σ1 m1 => ?_)
    · show Go_look N v1 σ = _
      simp only [Go_look, gGu hO hC, gRo hO hC, gPl, bR_e, bW_e, gBad, gFarBad, eq_self, one_ne, if_true, if_false, not_false_eq_true, not_true_eq_false, wv_0 h1]
    · show Mo_look N v1 σ1 = _
      simp only [Mo_look_J145, Mo_look_J129, Mo_look_J101, Mo_look, mGu hO m1, mRo hO m1, mPl, bR_e, bW_e, mBad, eq_self, one_ne, if_true, if_false, not_false_eq_true, not_true_eq_false, wv_0 h1]
  obtain ⟨a1, b1, rfl⟩ := wv_lt h1
  obtain ⟨S, hS⟩ : ∃ S : Nat, S = 21 := ⟨_, rfl⟩
  obtain ⟨D, hD⟩ : ∃ D : Nat, D = 10 := ⟨_, rfl⟩
  obtain ⟨cr, hcr⟩ : ∃ cr : Nat → Nat → Nat, ∀ d s, cr d s = crw (fitG A.1 a1) (valG A.1 a1 d s) 6 := ⟨_, fun _ _ => rfl⟩
  refine sim_scr (f := fun σ => Go_look N (nI a1) σ) (g := fun σ => Mo_look N (nI a1) σ) (r := (srD cr S D).1) hO hC hM ?_ (fun σ1 m1 => ?_)
  · obtain ⟨σ', e, s⟩ := cBestG hN hq hC.nr hcr hS hD b1
    refine ⟨σ', ?_, s⟩
    show Go_look N (nI a1) σ = _
    simp only [Go_look, gGu hO hC, gRo hO hC, gPl, bR_e, bW_e, gBad, gFarBad, eq_self, one_ne, if_true, if_false, not_false_eq_true, not_true_eq_false, wv_1 h1]
    rw [e, bW_e]
  · obtain ⟨σ', e, s⟩ := mBestG hN hq m1.1 hcr hS hD b1
    refine ⟨σ', ?_, m1.1.frame (s.1 _ (by decide)), ⟨fun i hi => s.1 i (by omega), fun i _ _ => s.1 i (by omega), by rw [s.1 _ (by decide)], s.2⟩⟩
    show Mo_look N (nI a1) σ1 = _
    simp only [Mo_look, mGu hO m1, mRo hO m1, mPl, bR_e, bW_e, mBad, eq_self, one_ne, if_true, if_false, not_false_eq_true, not_true_eq_false, wv_1 h1]
    rw [mLeftG hN hq m1.1 b1, bR_e, e]
