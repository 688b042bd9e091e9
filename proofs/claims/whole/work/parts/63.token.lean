/-! read: tokens -/
def rn (P : Nat → Bool) : Nat → Nat → Nat
  | 0, p => p
  | m + 1, p => if P p = true then rn P m (p + 1) else p
def rnE (P : Nat → Bool) (L p : Nat) : Nat := rn P (L - p) p
theorem rnE_go {P : Nat → Bool} {L p : Nat} (h : p < L) (hp : P p = true) : rnE P L p = rnE P L (p + 1) := by
  unfold rnE
  rw [show L - p = (L - (p + 1)) + 1 by omega]
  exact if_pos hp
theorem rnE_no {P : Nat → Bool} {L p : Nat} (h : ¬ (p < L ∧ P p = true)) : rnE P L p = p := by
  unfold rnE
  by_cases z : p < L
  · rw [show L - p = (L - (p + 1)) + 1 by omega]
    exact if_neg (fun y => h ⟨z, y⟩)
  · rw [show L - p = 0 by omega]; rfl
theorem rnE_b (P : Nat → Bool) {L : Nat} (m : Nat) : ∀ {p : Nat}, p + m = L → p ≤ rnE P L p ∧ rnE P L p ≤ L := by
  induction m with
  | zero =>
    intro p h
    rw [rnE_no (fun y => absurd y.1 (by omega))]; omega
  | succ m ih =>
    intro p h
    by_cases z : P p = true
    · rw [rnE_go (by omega) z]
      have := ih (p := p + 1) (by omega)
      omega
    · rw [rnE_no (fun y => z y.2)]; omega
theorem rnE_le (P : Nat → Bool) {L p : Nat} (h : p ≤ L) : p ≤ rnE P L p ∧ rnE P L p ≤ L := rnE_b P (L - p) (by omega)
theorem run_loop {ρ : Type} (K : Nat → St → Option ρ) (P : Nat → Bool) (L : Nat) (I : Nat → St → Prop) (R : St → Option ρ) (step : ∀ F j σ, j < L → P j = true → I j σ → ∃ σ', K (F + 1) σ = K F σ' ∧ I (j + 1) σ') (fin : ∀ F j σ, j ≤ L → ¬ (j < L ∧ P j = true) → I j σ → K (F + 1) σ = R σ) : ∀ (m j F : Nat) (σ : St), j + m = L → m < F → I j σ → ∃ σ', K F σ = R σ' ∧ I (rnE P L j) σ' := by
  intro m
  induction m with
  | zero =>
    intro j F σ h1 h2 h3
    obtain ⟨f, rfl⟩ : ∃ f, F = f + 1 := ⟨F - 1, by omega⟩
    have hn : ¬ (j < L ∧ P j = true) := fun y => absurd y.1 (by omega)
    exact ⟨σ, fin f j σ (by omega) hn h3, by rw [rnE_no hn]; exact h3⟩
  | succ m ih =>
    intro j F σ h1 h2 h3
    obtain ⟨f, rfl⟩ : ∃ f, F = f + 1 := ⟨F - 1, by omega⟩
    by_cases z : P j = true
    · obtain ⟨s, e, h4⟩ := step f j σ (by omega) z h3
      obtain ⟨s', e', h5⟩ := ih (j + 1) f s (by omega) (by omega) h4
      exact ⟨s', e.trans e', by rw [rnE_go (by omega) z]; exact h5⟩
    · have hn : ¬ (j < L ∧ P j = true) := fun y => z y.2
      exact ⟨σ, fin f j σ (by omega) hn h3, by rw [rnE_no hn]; exact h3⟩
def isB (T : Nat → Nat) (p : Nat) : Bool := decide (T p = 32)
def isL (T : Nat → Nat) (p : Nat) : Bool := decide (97 ≤ T p ∧ T p ≤ 122)
def isF (T : Nat → Nat) (p : Nat) : Bool := decide (48 ≤ T p ∧ T p ≤ 57)
def tkS (T : Nat → Nat) (L p : Nat) : Nat := rnE (isB T) L p
def fgE (T : Nat → Nat) (L p : Nat) : Nat := rnE (isF T) L (tkS T L p)
def tkT (T : Nat → Nat) (L p : Nat) : Nat := if L ≤ tkS T L p then 0 else if isL T (tkS T L p) = true then 1 else if isF T (tkS T L p) = true then (if fgE T L p - tkS T L p ≤ 2 then 2 else 4) else if T (tkS T L p) = 59 then 3 else 4
def tkA (T : Nat → Nat) (L p : Nat) : Nat := if L ≤ tkS T L p then tkS T L p else if isL T (tkS T L p) = true then rnE (isL T) L (tkS T L p) else if isF T (tkS T L p) = true then fgE T L p else tkS T L p + 1
def vN (T : Nat → Nat) (s k : Nat) : Nat := itN (fun i v => min 1000 (10 * v + (T (s + i) - 48))) k 0
theorem vN_s (T : Nat → Nat) (s k : Nat) : vN T s (k + 1) = min 1000 (10 * vN T s k + (T (s + k) - 48)) := rfl
theorem vN_le (T : Nat → Nat) (s k : Nat) : vN T s k ≤ 1000 := by
  cases k with
  | zero => exact Nat.zero_le _
  | succ k => rw [vN_s]; omega
def tkV (T : Nat → Nat) (L p : Nat) : Nat := vN T (tkS T L p) (fgE T L p - tkS T L p)
theorem tk0 {T : Nat → Nat} {L p : Nat} (h : L ≤ tkS T L p) : tkT T L p = 0 ∧ tkA T L p = tkS T L p := ⟨if_pos h, if_pos h⟩
theorem tk1 {T : Nat → Nat} {L p : Nat} (h : ¬ L ≤ tkS T L p) (h1 : isL T (tkS T L p) = true) : tkT T L p = 1 ∧ tkA T L p = rnE (isL T) L (tkS T L p) := by
  unfold tkT tkA
  rw [if_neg h, if_pos h1, if_neg h, if_pos h1]; exact ⟨rfl, rfl⟩
theorem tk2 {T : Nat → Nat} {L p : Nat} (h : ¬ L ≤ tkS T L p) (h1 : isL T (tkS T L p) = false) (h2 : isF T (tkS T L p) = true) : tkT T L p = (if fgE T L p - tkS T L p ≤ 2 then 2 else 4) ∧ tkA T L p = fgE T L p := by
  unfold tkT tkA
  have n1 : ¬ isL T (tkS T L p) = true := by rw [h1]; decide
  rw [if_neg h, if_neg n1, if_pos h2, if_neg h, if_neg n1, if_pos h2]; exact ⟨rfl, rfl⟩
theorem tk3 {T : Nat → Nat} {L p : Nat} (h : ¬ L ≤ tkS T L p) (h1 : isL T (tkS T L p) = false) (h2 : isF T (tkS T L p) = false) : tkT T L p = (if T (tkS T L p) = 59 then 3 else 4) ∧ tkA T L p = tkS T L p + 1 := by
  unfold tkT tkA
  have n1 : ¬ isL T (tkS T L p) = true := by rw [h1]; decide
  have n2 : ¬ isF T (tkS T L p) = true := by rw [h2]; decide
  rw [if_neg h, if_neg n1, if_neg n2, if_neg h, if_neg n1, if_neg n2]; exact ⟨rfl, rfl⟩
theorem tkS_le (T : Nat → Nat) {L p : Nat} (h : p ≤ L) : p ≤ tkS T L p ∧ tkS T L p ≤ L := rnE_le (isB T) h
theorem tk_adv {T : Nat → Nat} {L p : Nat} (h : p ≤ L) (h0 : tkT T L p ≠ 0) : tkS T L p < L ∧ tkS T L p + 1 ≤ tkA T L p ∧ tkA T L p ≤ L := by
  have hs := tkS_le T h
  have z : ¬ L ≤ tkS T L p := fun y => h0 (tk0 y).1
  have hl : tkS T L p < L := by omega
  refine ⟨hl, ?_⟩
  cases e1 : isL T (tkS T L p)
  · cases e2 : isF T (tkS T L p)
    · rw [(tk3 z e1 e2).2]; omega
    · rw [(tk2 z e1 e2).2]
      unfold fgE
      rw [rnE_go hl e2]
      exact rnE_le (isF T) hl
  · rw [(tk1 z e1).2, rnE_go hl e1]
    exact rnE_le (isL T) hl
theorem tkA_le {T : Nat → Nat} {L p : Nat} (h : p ≤ L) : tkA T L p ≤ L := by
  by_cases z : tkT T L p = 0
  · have hs := tkS_le T h
    by_cases y : L ≤ tkS T L p
    · rw [(tk0 y).2]; exact hs.2
    · exfalso
      cases e1 : isL T (tkS T L p)
      · cases e2 : isF T (tkS T L p)
        · rw [(tk3 y e1 e2).1] at z
          split at z <;> omega
        · rw [(tk2 y e1 e2).1] at z
          split at z <;> omega
      · rw [(tk1 y e1).1] at z; omega
  · exact (tk_adv h z).2.2
def TX (T : Nat → Nat) (L : Nat) : Prop := L ≤ 150 ∧ ∀ j, j < L → T j ≤ 127
def CT (T : Nat → Nat) (L : Nat) (σ : St) : Prop := σ.1 71 1 = nI L ∧ ∀ j, j < L → σ.1 72 j = nI (T j)
def F71 (σ s : St) : Prop := (∀ i, i ≠ 71 → s.1 i = σ.1 i) ∧ s.1 71 1 = σ.1 71 1 ∧ s.2 = σ.2
theorem F71.rfl' {σ : St} : F71 σ σ := ⟨fun _ _ => rfl, rfl, rfl⟩
theorem F71.wr {σ s : St} (h : F71 σ s) {k : Nat} {v : Int32} (hk : k ≠ 1) : F71 σ (sI s 71 k v) := ⟨fun i hi => by rw [rdI_ne _ _ _ _ hi]; exact h.1 i hi, by rw [rdI_nk _ _ _ _ (Ne.symm hk)]; exact h.2.1, h.2.2⟩
theorem CT.f {T : Nat → Nat} {L : Nat} {σ s : St} (h : CT T L σ) (f : F71 σ s) : CT T L s := ⟨f.2.1.trans h.1, fun j hj => by rw [f.1 72 (by decide)]; exact h.2 j hj⟩
def CH (T : Nat → Nat) (L p : Nat) (σ : St) : Prop := σ.1 71 3 = nI (tkS T L p) ∧ σ.1 71 4 = nI (tkT T L p) ∧ (tkT T L p ≠ 4 → σ.1 71 2 = nI (tkA T L p)) ∧ (tkT T L p = 2 → σ.1 71 5 = nI (tkV T L p))
theorem w97 (v : Int32) : Re_isLetter v = wv 97 122 v := gw_wv v 97 122
theorem w48 (v : Int32) : Re_isFigure v = wv 48 57 v := gw_wv v 48 57
theorem cLet {T : Nat → Nat} {j : Nat} (h : T j ≤ 127) : Re_isLetter (nI (T j)) = if isL T j = true then 1 else 0 := by
  rw [w97, wv_nI (by omega)]
  unfold isL
  by_cases z : 97 ≤ T j ∧ T j ≤ 122
  · rw [if_pos (by omega), if_pos (decide_eq_true z)]
  · rw [if_neg (by omega), if_neg (by simpa using z)]
theorem cFig {T : Nat → Nat} {j : Nat} (h : T j ≤ 127) : Re_isFigure (nI (T j)) = if isF T j = true then 1 else 0 := by
  rw [w48, wv_nI (by omega)]
  unfold isF
  by_cases z : 48 ≤ T j ∧ T j ≤ 57
  · rw [if_pos (by omega), if_pos (decide_eq_true z)]
  · rw [if_neg (by omega), if_neg (by simpa using z)]
theorem cAdv {N : Nat} (hN : 300 < N) {T : Nat → Nat} {L p : Nat} {σ : St} (hT : TX T L) (hc : CT T L σ) (hp : p ≤ L) (h2 : σ.1 71 2 = nI p) : ∃ s, Re_advance N σ = some s ∧ CH T L p s ∧ F71 σ s := by
  have hL := hT.1
  have sk : ∃ s, Re_advance_L0 N N σ = Re_advance_J38 N s ∧ (s.1 71 2 = nI (tkS T L p) ∧ F71 σ s) := by
    refine run_loop (fun F s => Re_advance_L0 N F s) (isB T) L (fun j s => s.1 71 2 = nI j ∧ F71 σ s) (fun s => Re_advance_J38 N s) ?_ ?_ (L - p) p N σ (by omega) (by omega) ⟨h2, F71.rfl'⟩
    · intro F j s hj hP ⟨e2, f⟩
      have ht := hT.2 j hj
      have hP' : T j = 32 := of_decide_eq_true hP
      refine ⟨sI s 71 2 (nI (j + 1)), ?_, rdI_eq _ _ _ _, f.wr (by decide)⟩
      show Re_advance_L0B N (Re_advance_L0 N F) s = _
      unfold Re_advance_L0B
      rw [(hc.f f).1, e2, if_neg (leN (by omega) (by omega) (by omega)), inI (n := 150) (by omega) (by decide), ck_t, clI (by omega), (hc.f f).2 j hj, if_pos (show nI (T j) = 32 by rw [hP']; rfl), bS_e, nI_1]
    · intro F j s hj hn ⟨e2, f⟩
      show Re_advance_L0B N (Re_advance_L0 N F) s = _
      unfold Re_advance_L0B
      rw [(hc.f f).1, e2]
      by_cases z : j < L
      · have ht := hT.2 j z
        have hP' : ¬ T j = 32 := fun y => hn ⟨z, decide_eq_true y⟩
        rw [if_neg (leN (by omega) (by omega) (by omega)), inI (n := 150) (by omega) (by decide), ck_t, clI (by omega), (hc.f f).2 j z, if_neg (show ¬ nI (T j) = 32 from neI (b := 32) hP' (by omega) (by decide))]
      · rw [if_pos (leP (by omega) (by omega) (by omega))]
  obtain ⟨s1, g1, e1, f1⟩ := sk
  have hs := tkS_le T hp
  obtain ⟨s0, hs0⟩ : ∃ s0, s0 = tkS T L p := ⟨_, rfl⟩
  have f2 : F71 σ (sI s1 71 3 (nI s0)) := f1.wr (by decide)
  have e2 : (sI s1 71 3 (nI s0)).1 71 2 = nI s0 := by rw [rdI_nk _ _ _ _ (by decide), e1, hs0]
  have e3 : (sI s1 71 3 (nI s0)).1 71 3 = nI s0 := rdI_eq _ _ _ _
  rw [← hs0] at hs
  obtain ⟨s2, hs2⟩ : ∃ s2, s2 = sI s1 71 3 (nI s0) := ⟨_, rfl⟩
  rw [← hs2] at f2 e2 e3
  have c2 := hc.f f2
  unfold Re_advance
  rw [g1]
  unfold Re_advance_J38
  rw [e1, ← hs0, bS_e, ← hs2, c2.1, e2]
  by_cases z : L ≤ s0
  · obtain ⟨t1, t2⟩ := tk0 (T := T) (L := L) (p := p) (by rw [← hs0]; exact z)
    rw [if_neg (ltN (by omega) (by omega) (by omega)), bS_e]
    refine ⟨_, rfl, ⟨by rw [rdI_nk _ _ _ _ (by decide), e3, hs0], by rw [rdI_eq, t1]; rfl, fun _ => by rw [rdI_nk _ _ _ _ (by decide), e2, t2, hs0], fun y => by rw [t1] at y; exact absurd y (by decide)⟩, f2.wr (by decide)⟩
  · have hl : s0 < L := by omega
    have ht := hT.2 s0 hl
    have hz : ¬ L ≤ tkS T L p := by rw [← hs0]; exact z
    rw [if_pos (ltP hl (by omega) (by omega)), inI (n := 150) (by omega) (by decide), ck_t, clI (by omega), c2.2 s0 hl, ck_t, ck_t, cLet ht, cFig ht]
    by_cases z59 : T s0 = 59
    · have n1 : isL T (tkS T L p) = false := by rw [← hs0]; exact decide_eq_false (by omega)
      have n2 : isF T (tkS T L p) = false := by rw [← hs0]; exact decide_eq_false (by omega)
      obtain ⟨t1, t2⟩ := tk3 hz n1 n2
      rw [if_pos (show T (tkS T L p) = 59 by rw [← hs0]; exact z59)] at t1
      rw [if_pos (show nI (T s0) = 59 by rw [z59]; rfl), bS_e, rdI_nk _ _ _ _ (by decide), e2, nI_1, bS_e]
      refine ⟨_, rfl, ⟨by rw [rdI_nk _ _ _ _ (by decide), rdI_nk _ _ _ _ (by decide), e3, hs0], by rw [rdI_nk _ _ _ _ (by decide), rdI_eq, t1]; rfl, fun _ => by rw [rdI_eq, t2, hs0], fun y => by rw [t1] at y; exact absurd y (by decide)⟩, (f2.wr (by decide)).wr (by decide)⟩
    · rw [if_neg (show ¬ nI (T s0) = 59 from neI (b := 59) z59 (by omega) (by decide))]
      by_cases zl : isL T s0 = true
      · obtain ⟨t1, t2⟩ := tk1 hz (by rw [← hs0]; exact zl)
        rw [if_pos zl, if_neg one_ne, bS_e]
        have lp : ∃ s, Re_advance_L117 N N (sI s2 71 4 1) = some s ∧ (s.1 71 2 = nI (rnE (isL T) L s0) ∧ s.1 71 3 = nI s0 ∧ s.1 71 4 = 1 ∧ F71 σ s) := by
          refine run_loop (fun F s => Re_advance_L117 N F s) (isL T) L (fun j s => s.1 71 2 = nI j ∧ s.1 71 3 = nI s0 ∧ s.1 71 4 = 1 ∧ F71 σ s) (fun s => some s) ?_ ?_ (L - s0) s0 N _ (by omega) (by omega) ⟨by rw [rdI_nk _ _ _ _ (by decide)]; exact e2, by rw [rdI_nk _ _ _ _ (by decide)]; exact e3, rdI_eq _ _ _ _, f2.wr (by decide)⟩
          · intro F j s hj hP ⟨i2, i3, i4, f⟩
            have ht := hT.2 j hj
            refine ⟨sI s 71 2 (nI (j + 1)), ?_, rdI_eq _ _ _ _, by rw [rdI_nk _ _ _ _ (by decide)]; exact i3, by rw [rdI_nk _ _ _ _ (by decide)]; exact i4, f.wr (by decide)⟩
            show Re_advance_L117B N (Re_advance_L117 N F) s = _
            unfold Re_advance_L117B
            rw [(hc.f f).1, i2, if_neg (leN (by omega) (by omega) (by omega)), inI (n := 150) (by omega) (by decide), ck_t, clI (by omega), (hc.f f).2 j hj, cLet ht, if_pos hP, if_neg one_ne, bS_e, nI_1]
          · intro F j s hj hn ⟨i2, i3, i4, f⟩
            show Re_advance_L117B N (Re_advance_L117 N F) s = _
            unfold Re_advance_L117B
            rw [(hc.f f).1, i2]
            by_cases z : j < L
            · have ht := hT.2 j z
              rw [if_neg (leN (by omega) (by omega) (by omega)), inI (n := 150) (by omega) (by decide), ck_t, clI (by omega), (hc.f f).2 j z, cLet ht, if_neg (fun y => hn ⟨z, y⟩), if_pos rfl]
            · rw [if_pos (leP (by omega) (by omega) (by omega))]
        obtain ⟨s3, g3, i2, i3, i4, f3⟩ := lp
        refine ⟨s3, g3, ⟨by rw [i3, hs0], by rw [i4, t1]; rfl, fun _ => by rw [i2, t2, hs0], fun y => by rw [t1] at y; exact absurd y (by decide)⟩, f3⟩
      · have zl' : isL T (tkS T L p) = false := by rw [← hs0]; simpa using zl
        rw [if_neg zl, if_pos rfl]
        by_cases zf : isF T s0 = true
        · obtain ⟨t1, t2⟩ := tk2 hz zl' (by rw [← hs0]; exact zf)
          rw [if_pos zf, if_neg one_ne]
          unfold Re_takeNumber
          rw [bS_e]
          have lp : ∃ s, Re_takeNumber_L5 N N (sI s2 71 5 0) = Re_takeNumber_J74 N s ∧ (s.1 71 2 = nI (rnE (isF T) L s0) ∧ s.1 71 3 = nI s0 ∧ s0 ≤ rnE (isF T) L s0 ∧ s.1 71 5 = nI (vN T s0 (rnE (isF T) L s0 - s0)) ∧ F71 σ s) := by
            refine run_loop (fun F s => Re_takeNumber_L5 N F s) (isF T) L (fun j s => s.1 71 2 = nI j ∧ s.1 71 3 = nI s0 ∧ s0 ≤ j ∧ s.1 71 5 = nI (vN T s0 (j - s0)) ∧ F71 σ s) (fun s => Re_takeNumber_J74 N s) ?_ ?_ (L - s0) s0 N _ (by omega) (by omega) ⟨by rw [rdI_nk _ _ _ _ (by decide)]; exact e2, by rw [rdI_nk _ _ _ _ (by decide)]; exact e3, Nat.le_refl _, by rw [rdI_eq, Nat.sub_self]; rfl, f2.wr (by decide)⟩
            · intro F j s hj hP ⟨i2, i3, i4, i5, f⟩
              have ht := hT.2 j hj
              have hf : 48 ≤ T j ∧ T j ≤ 57 := of_decide_eq_true hP
              have hv := vN_le T s0 (j - s0)
              refine ⟨sI (sI s 71 5 (nI (vN T s0 (j + 1 - s0)))) 71 2 (nI (j + 1)), ?_, rdI_eq _ _ _ _, by rw [rdI_nk _ _ _ _ (by decide), rdI_nk _ _ _ _ (by decide)]; exact i3, by omega, by rw [rdI_nk _ _ _ _ (by decide), rdI_eq], (f.wr (by decide)).wr (by decide)⟩
              show Re_takeNumber_L5B N (Re_takeNumber_L5 N F) s = _
              unfold Re_takeNumber_L5B
              rw [(hc.f f).1, i2, if_neg (leN (by omega) (by omega) (by omega)), inI (n := 150) (by omega) (by decide), ck_t, clI (by omega), (hc.f f).2 j hj, cFig ht, if_pos hP, if_neg one_ne, ck_t, i5, show (10 : Int32) = nI 10 from rfl, mulI, addI, show (48 : Int32) = nI 48 from rfl, subI (by omega), show (1000 : Int32) = nI 1000 from rfl, mnI_e (by decide) (by omega), bS_e, rdI_nk _ _ _ _ (by decide), i2, nI_1, bS_e, show j + 1 - s0 = (j - s0) + 1 by omega, vN_s, show s0 + (j - s0) = j by omega, show 10 * vN T s0 (j - s0) + T j - 48 = 10 * vN T s0 (j - s0) + (T j - 48) by omega]
            · intro F j s hj hn ⟨i2, i3, i4, i5, f⟩
              show Re_takeNumber_L5B N (Re_takeNumber_L5 N F) s = _
              unfold Re_takeNumber_L5B
              rw [(hc.f f).1, i2]
              by_cases z : j < L
              · have ht := hT.2 j z
                rw [if_neg (leN (by omega) (by omega) (by omega)), inI (n := 150) (by omega) (by decide), ck_t, clI (by omega), (hc.f f).2 j z, cFig ht, if_neg (fun y => hn ⟨z, y⟩), if_pos rfl]
              · rw [if_pos (leP (by omega) (by omega) (by omega))]
          obtain ⟨s3, g3, i2, i3, i4, i5, f3⟩ := lp
          have hfl := (rnE_le (isF T) (show s0 ≤ L by omega)).2
          have fe : fgE T L p = rnE (isF T) L s0 := by unfold fgE; rw [hs0]
          rw [g3]
          unfold Re_takeNumber_J74 Re_takeNumber_J93
          rw [i2, i3, subI i4, bS_e, bS_e]
          rw [fe, ← hs0] at t1
          by_cases y2 : rnE (isF T) L s0 - s0 ≤ 2
          · rw [if_pos y2] at t1
            rw [if_neg (show ¬ (2 : Int32) < nI (rnE (isF T) L s0 - s0) from ltN (a := 2) (by omega) (by decide) (by omega)), bR_e]
            refine ⟨_, rfl, ⟨by rw [rdI_nk _ _ _ _ (by decide), i3, hs0], by rw [rdI_eq, t1]; rfl, fun _ => by rw [rdI_nk _ _ _ _ (by decide), i2, t2, fe], fun _ => by unfold tkV; rw [rdI_nk _ _ _ _ (by decide), i5, fe, hs0]⟩, f3.wr (by decide)⟩
          · rw [if_neg y2] at t1
            rw [if_pos (show (2 : Int32) < nI (rnE (isF T) L s0 - s0) from ltP (a := 2) (by omega) (by decide) (by omega)), bR_e]
            refine ⟨_, rfl, ⟨by rw [rdI_nk _ _ _ _ (by decide), i3, hs0], by rw [rdI_eq, t1]; rfl, fun y => absurd t1 y, fun y => by rw [t1] at y; exact absurd y (by decide)⟩, f3.wr (by decide)⟩
        · have zf' : isF T (tkS T L p) = false := by rw [← hs0]; simpa using zf
          obtain ⟨t1, t2⟩ := tk3 hz zl' zf'
          rw [if_neg (show ¬ T (tkS T L p) = 59 by rw [← hs0]; exact z59)] at t1
          rw [if_neg zf, if_pos rfl, bS_e]
          refine ⟨_, rfl, ⟨by rw [rdI_nk _ _ _ _ (by decide), e3, hs0], by rw [rdI_eq, t1]; rfl, fun y => absurd t1 y, fun y => by rw [t1] at y; exact absurd y (by decide)⟩, f2.wr (by decide)⟩
/-- the reference's -/
def MX (T : Nat → Nat) (L : Nat) (σ : St) : Prop := σ.1 114 5 = nI L ∧ ∀ j, j < L → σ.1 119 j = nI (T j)
def F14 (σ s : St) : Prop := (∀ i, i ≠ 114 → s.1 i = σ.1 i) ∧ (∀ k, (k < 9 ∨ 12 < k) → s.1 114 k = σ.1 114 k) ∧ s.2 = σ.2
theorem F14.rfl' {σ : St} : F14 σ σ := ⟨fun _ _ => rfl, fun _ _ => rfl, rfl⟩
theorem F14.wr {σ s : St} (h : F14 σ s) {k : Nat} {v : Int32} (hk : 9 ≤ k ∧ k ≤ 12) : F14 σ (sI s 114 k v) := ⟨fun i hi => by rw [rdI_ne _ _ _ _ hi]; exact h.1 i hi, fun j hj => by rw [rdI_nk _ _ _ _ (by omega)]; exact h.2.1 j hj, h.2.2⟩
theorem MX.f {T : Nat → Nat} {L : Nat} {σ s : St} (h : MX T L σ) (f : F14 σ s) : MX T L s := ⟨(f.2.1 5 (by decide)).trans h.1, fun j hj => by rw [f.1 119 (by decide)]; exact h.2 j hj⟩
def MH (T : Nat → Nat) (L p : Nat) (σ : St) : Prop := σ.1 114 10 = nI (tkS T L p) ∧ σ.1 114 11 = nI (tkT T L p) ∧ (tkT T L p ≠ 4 → σ.1 114 9 = nI (tkA T L p)) ∧ (tkT T L p = 2 → σ.1 114 12 = nI (tkV T L p))
def ltr (T : Nat → Nat) (L j : Nat) : Int32 := if j < L then nI (T j) else -1
theorem mLetter {N : Nat} {T : Nat → Nat} {L : Nat} {σ : St} (hT : TX T L) (h : MX T L σ) {j : Nat} (hj : j < 1000) : Mo_letter N (nI j) σ = some (ltr T L j) := by
  have hL := hT.1
  unfold Mo_letter ltr
  rw [h.1]
  by_cases z : j < L
  · rw [if_neg (leN (by omega) (by omega) (by omega)), if_pos z, inI (n := 150) (by omega) (by decide), ck_t, clI (by omega), h.2 j z]
  · rw [if_pos (leP (by omega) (by omega) (by omega)), if_neg z]
theorem m97 (v : Int32) : Mo_in v.toInt64 97 122 = wv 97 122 v := mo_wvI v 97 122
theorem m48 (v : Int32) : Mo_in v.toInt64 48 57 = wv 48 57 v := mo_wvI v 48 57
theorem ltrL {T : Nat → Nat} {L : Nat} (hT : TX T L) (j : Nat) : Mo_in (ltr T L j).toInt64 97 122 = if j < L ∧ isL T j = true then 1 else 0 := by
  rw [m97]
  unfold ltr isL
  by_cases z : j < L
  · have := hT.2 j z
    rw [if_pos z, wv_nI (by omega)]
    by_cases y : 97 ≤ T j ∧ T j ≤ 122
    · rw [if_pos (by omega), if_pos ⟨z, decide_eq_true y⟩]
    · rw [if_neg (by omega), if_neg (fun x => y (of_decide_eq_true x.2))]
  · rw [if_neg z, if_neg (fun x => z x.1)]; decide
theorem ltrF {T : Nat → Nat} {L : Nat} (hT : TX T L) (j : Nat) : Mo_in (ltr T L j).toInt64 48 57 = if j < L ∧ isF T j = true then 1 else 0 := by
  rw [m48]
  unfold ltr isF
  by_cases z : j < L
  · have := hT.2 j z
    rw [if_pos z, wv_nI (by omega)]
    by_cases y : 48 ≤ T j ∧ T j ≤ 57
    · rw [if_pos (by omega), if_pos ⟨z, decide_eq_true y⟩]
    · rw [if_neg (by omega), if_neg (fun x => y (of_decide_eq_true x.2))]
  · rw [if_neg z, if_neg (fun x => z x.1)]; decide
def vM (T : Nat → Nat) (s k : Nat) : Nat := itN (fun i v => if i < 2 then 10 * v + (T (s + i) - 48) else v) k 0
theorem vM_s (T : Nat → Nat) (s k : Nat) : vM T s (k + 1) = if k < 2 then 10 * vM T s k + (T (s + k) - 48) else vM T s k := rfl
theorem vMN {T : Nat → Nat} {s k : Nat} (hk : k ≤ 2) (h : ∀ i, i < k → T (s + i) ≤ 127) : vM T s k = vN T s k := by
  rcases (show k = 0 ∨ k = 1 ∨ k = 2 by omega) with e | e | e <;> subst e
  · rfl
  · have h0 := h 0 (by decide)
    rw [vM_s, vN_s, if_pos (by decide)]
    show 10 * 0 + (T (s + 0) - 48) = min 1000 (10 * 0 + (T (s + 0) - 48))
    omega
  · have h0 := h 0 (by decide)
    have h1 := h 1 (by decide)
    rw [vM_s, vN_s, vM_s, vN_s, if_pos (by decide), if_pos (by decide)]
    show 10 * (10 * 0 + (T (s + 0) - 48)) + (T (s + 1) - 48) = min 1000 (10 * min 1000 (10 * 0 + (T (s + 0) - 48)) + (T (s + 1) - 48))
    omega
theorem mStep {N : Nat} (hN : 300 < N) {T : Nat → Nat} {L p : Nat} {σ : St} (hT : TX T L) (hc : MX T L σ) (hp : p ≤ L) (h2 : σ.1 114 9 = nI p) : ∃ s, Mo_step N σ = some s ∧ MH T L p s ∧ F14 σ s := by
  have hL := hT.1
  have sk : ∃ s, Mo_step_L0 N N σ = Mo_step_J26 N s ∧ (s.1 114 9 = nI (tkS T L p) ∧ F14 σ s) := by
    refine run_loop (fun F s => Mo_step_L0 N F s) (isB T) L (fun j s => s.1 114 9 = nI j ∧ F14 σ s) (fun s => Mo_step_J26 N s) ?_ ?_ (L - p) p N σ (by omega) (by omega) ⟨h2, F14.rfl'⟩
    · intro F j s hj hP ⟨e2, f⟩
      have hP' : T j = 32 := of_decide_eq_true hP
      refine ⟨sI s 114 9 (nI (j + 1)), ?_, rdI_eq _ _ _ _, f.wr (by decide)⟩
      show Mo_step_L0B N (Mo_step_L0 N F) s = _
      unfold Mo_step_L0B
      rw [e2, mLetter hT (hc.f f) (by omega), bR_e]
      unfold ltr
      rw [if_pos hj, if_pos (show nI (T j) = 32 by rw [hP']; rfl), bS_e, nI_1]
    · intro F j s hj hn ⟨e2, f⟩
      show Mo_step_L0B N (Mo_step_L0 N F) s = _
      unfold Mo_step_L0B
      rw [e2, mLetter hT (hc.f f) (by omega), bR_e]
      unfold ltr
      by_cases z : j < L
      · have ht := hT.2 j z
        have hP' : ¬ T j = 32 := fun y => hn ⟨z, decide_eq_true y⟩
        rw [if_pos z, if_neg (show ¬ nI (T j) = 32 from neI (b := 32) hP' (by omega) (by decide))]
      · rw [if_neg z, if_neg (by decide)]
  obtain ⟨s1, g1, e1, f1⟩ := sk
  have hs := tkS_le T hp
  obtain ⟨s0, hs0⟩ : ∃ s0, s0 = tkS T L p := ⟨_, rfl⟩
  have f2 : F14 σ (sI (sI s1 114 10 (nI s0)) 114 12 0) := (f1.wr (by decide)).wr (by decide)
  have e2 : (sI (sI s1 114 10 (nI s0)) 114 12 0).1 114 9 = nI s0 := by rw [rdI_nk _ _ _ _ (by decide), rdI_nk _ _ _ _ (by decide), e1, hs0]
  have e3 : (sI (sI s1 114 10 (nI s0)) 114 12 0).1 114 10 = nI s0 := by rw [rdI_nk _ _ _ _ (by decide), rdI_eq]
  have e4 : (sI (sI s1 114 10 (nI s0)) 114 12 0).1 114 12 = 0 := rdI_eq _ _ _ _
  rw [← hs0] at hs
  unfold Mo_step
  rw [g1]
  unfold Mo_step_J26
  rw [e1, ← hs0, bS_e, rdI_nk _ _ _ _ (by decide), e1, ← hs0, mLetter hT (hc.f (f1.wr (by decide))) (by omega), bR_e, bS_e]
  obtain ⟨s2, hs2⟩ : ∃ s2, s2 = sI (sI s1 114 10 (nI s0)) 114 12 0 := ⟨_, rfl⟩
  rw [← hs2] at f2 e2 e3 e4 ⊢
  rw [ltrL hT, ltrF hT]
  unfold ltr
  by_cases z : L ≤ s0
  · obtain ⟨t1, t2⟩ := tk0 (T := T) (L := L) (p := p) (by rw [← hs0]; exact z)
    rw [if_neg (show ¬ s0 < L by omega), if_neg (by decide)]
    unfold Mo_step_J104 Mo_step_J276
    rw [bS_e, rdI_eq, if_neg (by decide), if_neg (by decide), if_pos rfl, bS_e, rdI_nk _ _ _ _ (by decide), e2, show (0 : Int32) = nI 0 from rfl, addI, Nat.add_zero]
    refine ⟨_, rfl, ⟨by rw [rdI_nk _ _ _ _ (by decide), rdI_nk _ _ _ _ (by decide), e3, hs0], by rw [rdI_nk _ _ _ _ (by decide), rdI_eq, t1], fun _ => by rw [rdI_eq, t2, hs0], fun y => by rw [t1] at y; exact absurd y (by decide)⟩, (f2.wr (by decide)).wr (by decide)⟩
  · have hl : s0 < L := by omega
    have ht := hT.2 s0 hl
    have hz : ¬ L ≤ tkS T L p := by rw [← hs0]; exact z
    rw [if_pos hl, if_pos (nI_pos' (by omega))]
    by_cases zl : isL T s0 = true
    · obtain ⟨t1, t2⟩ := tk1 hz (by rw [← hs0]; exact zl)
      rw [if_pos (show s0 < L ∧ isL T s0 = true from ⟨hl, zl⟩), if_neg one_ne]
      unfold Mo_step_J104
      rw [bS_e, rdI_eq, if_pos rfl]
      have lp : ∃ s, Mo_step_L115 N N (sI s2 114 11 1) = some s ∧ (s.1 114 9 = nI (rnE (isL T) L s0) ∧ s.1 114 10 = nI s0 ∧ s.1 114 11 = 1 ∧ F14 σ s) := by
        refine run_loop (fun F s => Mo_step_L115 N F s) (isL T) L (fun j s => s.1 114 9 = nI j ∧ s.1 114 10 = nI s0 ∧ s.1 114 11 = 1 ∧ F14 σ s) (fun s => some s) ?_ ?_ (L - s0) s0 N _ (by omega) (by omega) ⟨by rw [rdI_nk _ _ _ _ (by decide)]; exact e2, by rw [rdI_nk _ _ _ _ (by decide)]; exact e3, rdI_eq _ _ _ _, f2.wr (by decide)⟩
        · intro F j s hj hP ⟨i2, i3, i4, f⟩
          refine ⟨sI s 114 9 (nI (j + 1)), ?_, rdI_eq _ _ _ _, by rw [rdI_nk _ _ _ _ (by decide)]; exact i3, by rw [rdI_nk _ _ _ _ (by decide)]; exact i4, f.wr (by decide)⟩
          show Mo_step_L115B N (Mo_step_L115 N F) s = _
          unfold Mo_step_L115B
          rw [i2, mLetter hT (hc.f f) (by omega), bR_e, ltrL hT, if_pos (show j < L ∧ isL T j = true from ⟨hj, hP⟩), if_neg one_ne, bS_e, nI_1]
        · intro F j s hj hn ⟨i2, i3, i4, f⟩
          show Mo_step_L115B N (Mo_step_L115 N F) s = _
          unfold Mo_step_L115B
          rw [i2, mLetter hT (hc.f f) (by omega), bR_e, ltrL hT, if_neg hn, if_pos rfl]
      obtain ⟨s3, g3, i2, i3, i4, f3⟩ := lp
      refine ⟨s3, g3, ⟨by rw [i3, hs0], by rw [i4, t1]; rfl, fun _ => by rw [i2, t2, hs0], fun y => by rw [t1] at y; exact absurd y (by decide)⟩, f3⟩
    · have zl' : isL T (tkS T L p) = false := by rw [← hs0]; simpa using zl
      rw [if_neg (show ¬ (s0 < L ∧ isL T s0 = true) from fun y => zl y.2), if_pos rfl]
      by_cases zf : isF T s0 = true
      · obtain ⟨t1, t2⟩ := tk2 hz zl' (by rw [← hs0]; exact zf)
        rw [if_pos (show s0 < L ∧ isF T s0 = true from ⟨hl, zf⟩), if_neg one_ne]
        unfold Mo_step_J104
        rw [bS_e, rdI_eq, if_neg (by decide), if_pos rfl]
        have lp : ∃ s, Mo_step_L157 N N (sI s2 114 11 2) = Mo_step_J234 N s ∧ (s.1 114 9 = nI (rnE (isF T) L s0) ∧ s.1 114 10 = nI s0 ∧ s0 ≤ rnE (isF T) L s0 ∧ s.1 114 12 = nI (vM T s0 (rnE (isF T) L s0 - s0)) ∧ F14 σ s) := by
          refine run_loop (fun F s => Mo_step_L157 N F s) (isF T) L (fun j s => s.1 114 9 = nI j ∧ s.1 114 10 = nI s0 ∧ s0 ≤ j ∧ s.1 114 12 = nI (vM T s0 (j - s0)) ∧ F14 σ s) (fun s => Mo_step_J234 N s) ?_ ?_ (L - s0) s0 N _ (by omega) (by omega) ⟨by rw [rdI_nk _ _ _ _ (by decide)]; exact e2, by rw [rdI_nk _ _ _ _ (by decide)]; exact e3, Nat.le_refl _, by rw [rdI_nk _ _ _ _ (by decide), e4, Nat.sub_self]; rfl, f2.wr (by decide)⟩
          · intro F j s hj hP ⟨i2, i3, i4, i5, f⟩
            have hf : 48 ≤ T j ∧ T j ≤ 57 := of_decide_eq_true hP
            refine ⟨sI (sI s 114 12 (nI (vM T s0 (j + 1 - s0)))) 114 9 (nI (j + 1)), ?_, rdI_eq _ _ _ _, by rw [rdI_nk _ _ _ _ (by decide), rdI_nk _ _ _ _ (by decide)]; exact i3, by omega, by rw [rdI_nk _ _ _ _ (by decide), rdI_eq], (f.wr (by decide)).wr (by decide)⟩
            show Mo_step_L157B N (Mo_step_L157 N F) s = _
            unfold Mo_step_L157B Mo_step_J218
            rw [i2, mLetter hT (hc.f f) (by omega), bR_e, bR_e, ltrF hT, if_pos (show j < L ∧ isF T j = true from ⟨hj, hP⟩), if_neg one_ne, i3, subI i4, i5, bS_e, bS_e, bS_e, bS_e, rdI_nk _ _ _ _ (by decide), rdI_nk _ _ _ _ (by decide), i2, nI_1, show j + 1 - s0 = (j - s0) + 1 by omega, vM_s, show s0 + (j - s0) = j by omega]
            unfold ltr
            by_cases y : j - s0 < 2
            · rw [if_neg (show ¬ (2 : Int32) ≤ nI (j - s0) from leN (a := 2) (by omega) (by decide) (by omega)), if_pos y, if_pos hj, show (10 : Int32) = nI 10 from rfl, mulI, addI, show (48 : Int32) = nI 48 from rfl, subI (by omega), show 10 * vM T s0 (j - s0) + T j - 48 = 10 * vM T s0 (j - s0) + (T j - 48) by omega]
            · rw [if_pos (show (2 : Int32) ≤ nI (j - s0) from leP (a := 2) (by omega) (by decide) (by omega)), if_neg y]
          · intro F j s hj hn ⟨i2, i3, i4, i5, f⟩
            show Mo_step_L157B N (Mo_step_L157 N F) s = _
            unfold Mo_step_L157B
            rw [i2, mLetter hT (hc.f f) (by omega), bR_e, ltrF hT, if_neg hn, if_pos rfl]
        obtain ⟨s3, g3, i2, i3, i4, i5, f3⟩ := lp
        have hfl := (rnE_le (isF T) (show s0 ≤ L by omega)).2
        have fe : fgE T L p = rnE (isF T) L s0 := by unfold fgE; rw [hs0]
        rw [g3]
        unfold Mo_step_J234 Mo_step_J253
        rw [i2, i3, subI i4, bS_e, bS_e]
        rw [fe, ← hs0] at t1
        by_cases y2 : rnE (isF T) L s0 - s0 ≤ 2
        · rw [if_pos y2] at t1
          rw [if_pos (show nI (rnE (isF T) L s0 - s0) ≤ 2 from leP (b := 2) y2 (by omega) (by decide))]
          refine ⟨_, rfl, ⟨by rw [rdI_nk _ _ _ _ (by decide), i3, hs0], by rw [rdI_eq, t1]; rfl, fun _ => by rw [rdI_nk _ _ _ _ (by decide), i2, t2, fe], fun _ => by unfold tkV; rw [rdI_nk _ _ _ _ (by decide), i5, fe, ← hs0, vMN y2 (fun i hi => hT.2 _ (by omega))]⟩, f3.wr (by decide)⟩
        · rw [if_neg y2] at t1
          rw [if_neg (show ¬ nI (rnE (isF T) L s0 - s0) ≤ 2 from leN (b := 2) y2 (by omega) (by decide))]
          refine ⟨_, rfl, ⟨by rw [rdI_nk _ _ _ _ (by decide), i3, hs0], by rw [rdI_eq, t1]; rfl, fun y => absurd t1 y, fun y => by rw [t1] at y; exact absurd y (by decide)⟩, f3.wr (by decide)⟩
      · have zf' : isF T (tkS T L p) = false := by rw [← hs0]; simpa using zf
        obtain ⟨t1, t2⟩ := tk3 hz zl' zf'
        rw [if_neg (show ¬ (s0 < L ∧ isF T s0 = true) from fun y => zf y.2), if_pos rfl]
        unfold Mo_step_J104 Mo_step_J276
        by_cases z59 : T s0 = 59
        · rw [if_pos (show T (tkS T L p) = 59 by rw [← hs0]; exact z59)] at t1
          rw [if_pos (show nI (T s0) = 59 by rw [z59]; rfl), bS_e, rdI_eq, if_neg (by decide), if_neg (by decide), if_neg (by decide), bS_e, rdI_nk _ _ _ _ (by decide), e2, nI_1]
          refine ⟨_, rfl, ⟨by rw [rdI_nk _ _ _ _ (by decide), rdI_nk _ _ _ _ (by decide), e3, hs0], by rw [rdI_nk _ _ _ _ (by decide), rdI_eq, t1]; rfl, fun _ => by rw [rdI_eq, t2, hs0], fun y => by rw [t1] at y; exact absurd y (by decide)⟩, (f2.wr (by decide)).wr (by decide)⟩
        · rw [if_neg (show ¬ T (tkS T L p) = 59 by rw [← hs0]; exact z59)] at t1
          rw [if_neg (show ¬ nI (T s0) = 59 from neI (b := 59) z59 (by omega) (by decide)), bS_e, rdI_eq, if_neg (by decide), if_neg (by decide), if_neg (by decide), bS_e, rdI_nk _ _ _ _ (by decide), e2, nI_1]
          refine ⟨_, rfl, ⟨by rw [rdI_nk _ _ _ _ (by decide), rdI_nk _ _ _ _ (by decide), e3, hs0], by rw [rdI_nk _ _ _ _ (by decide), rdI_eq, t1]; rfl, fun y => absurd t1 y, fun y => by rw [t1] at y; exact absurd y (by decide)⟩, (f2.wr (by decide)).wr (by decide)⟩
