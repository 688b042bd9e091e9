/-! all ways: the search as a pure function; the class's -/
abbrev WS : Type := (Nat × Nat × Nat × Nat) × (Nat → Nat) × Nat
def btr (w : WS) (x : QS) : Bool := decide (w.1.1 = 0 ∨ w.1.2.1 < x 2 ∨ (x 2 = w.1.2.1 ∧ (x 3 < w.1.2.2.1 ∨ (x 3 = w.1.2.2.1 ∧ x 5 < w.1.2.2.2))))
def arrB (w : WS) (x : QS) (d : Nat) (P : Nat → Nat) : WS := if btr w x = true then ((d, x 2, x 3, x 5), P, w.2.2) else w
def arrG (w : WS) (x : QS) : WS := (w.1, w.2.1, if x 2 = x 1 ∧ (w.2.2 = 0 ∨ x 3 + 1 < w.2.2) then x 3 + 1 else w.2.2)
def arrW (w : WS) (x : QS) (d : Nat) (P : Nat → Nat) : WS := arrB (arrG w x) x d P
theorem arrW_c (w : WS) (x : QS) (d : Nat) (P : Nat → Nat) : arrG (arrB w x d P) x = arrW w x d P := by
  unfold arrW arrB
  rw [show btr (arrG w x) x = btr w x from rfl]
  cases btr w x <;> rfl
theorem arrG_le {w : WS} {x : QS} (h : w.2.2 ≤ 1000) (hx : x 3 ≤ 999) : (arrG w x).2.2 ≤ 1000 := by
  unfold arrG
  show (if x 2 = x 1 ∧ (w.2.2 = 0 ∨ x 3 + 1 < w.2.2) then x 3 + 1 else w.2.2) ≤ 1000
  split
  · exact Nat.succ_le_succ hx
  · exact h
def updT (T : Nat → QS) (k : Nat) (x : QS) : Nat → QS := fun i => if i = k then x else T i
theorem updT_s (T : Nat → QS) (k : Nat) (x : QS) : updT T k x k = x := if_pos rfl
theorem updT_n (T : Nat → QS) {k i : Nat} (x : QS) (h : i ≠ k) : updT T k x i = T i := if_neg h
def addB (b : Nat → Bool) (p : Nat) : Nat → Bool := fun i => b i || decide (p = i)
def xpl (q : QS) (kd tg : Nat) : Nat → (Nat → QS) → Nat → (Nat → Bool) → WS → WS
  | 0, _, _, _, w => w
  | f + 1, T, d, b, w => if T d 4 = 7 then arrW w (T d) d (fun i => T (i + 1) 4) else itN (fun p w => if b p = false ∧ canN q (T d 4) p = true then xpl q kd tg f (updT T (d + 1) (rowX q kd tg (T d) p)) (d + 1) (addB b p) w else w) 8 w
theorem xpl_7 {q : QS} {kd tg f : Nat} {T : Nat → QS} {d : Nat} {b : Nat → Bool} {w : WS} (h : T d 4 = 7) : xpl q kd tg (f + 1) T d b w = arrW w (T d) d (fun i => T (i + 1) 4) := if_pos h
theorem xpl_n {q : QS} {kd tg f : Nat} {T : Nat → QS} {d : Nat} {b : Nat → Bool} {w : WS} (h : ¬ T d 4 = 7) : xpl q kd tg (f + 1) T d b w = itN (fun p w => if b p = false ∧ canN q (T d 4) p = true then xpl q kd tg f (updT T (d + 1) (rowX q kd tg (T d) p)) (d + 1) (addB b p) w else w) 8 w := if_neg h
/-- what a search keeps -/
def WOk (w : WS) : Prop := w.1.1 ≤ 7 ∧ (w.1.2.1 ≤ 40 ∧ w.1.2.2.1 ≤ 999 ∧ w.1.2.2.2 ≤ 999) ∧ (∀ i, i < w.1.1 → w.2.1 i < 8) ∧ w.2.2 ≤ 1000
def XOk (T : Nat → QS) (d : Nat) (b : Nat → Bool) : Prop := (∀ i, i ≤ d → OkX (T i)) ∧ cnN b 8 = d + 1 ∧ b (T d 4) = true ∧ (b 7 = true → T d 4 = 7)
theorem XOk.d {T : Nat → QS} {d : Nat} {b : Nat → Bool} (h : XOk T d b) : d ≤ 7 := by
  have := cnN_le b 8
  rw [h.2.1] at this; omega
theorem XOk.d6 {T : Nat → QS} {d : Nat} {b : Nat → Bool} (h : XOk T d b) (h7 : ¬ T d 4 = 7) : d ≤ 6 := by
  have h2 : b 7 = false := by
    cases e : b 7
    · rfl
    · exact absurd (h.2.2.2 e) h7
  have := cnN_le b 7
  have e : cnN b 8 = cnN b 7 + (b 7).toNat := rfl
  rw [h.2.1, h2] at e
  have : (false : Bool).toNat = 0 := rfl
  omega
theorem cnN_add {b : Nat → Bool} {p n : Nat} (hp : p < n) (h : b p = false) : cnN (addB b p) n = cnN b n + 1 := by
  induction n with
  | zero => omega
  | succ n ih =>
    show cnN (addB b p) n + (addB b p n).toNat = cnN b n + (b n).toNat + 1
    by_cases e : p = n
    · subst e
      have : cnN (addB b p) p = cnN b p := cnN_congr (fun i hi => by unfold addB; rw [decide_eq_false (by omega), Bool.or_false])
      rw [this, show addB b p p = true by simp [addB], h]; rfl
    · rw [ih (by omega), show addB b p n = b n by simp [addB, e]]; omega
theorem XOk.go {q : QS} {kd tg : Nat} {T : Nat → QS} {d : Nat} {b : Nat → Bool} (h : XOk T d b) (h7 : ¬ T d 4 = 7) {p : Nat} (hp : p < 8) (hb : b p = false) : XOk (updT T (d + 1) (rowX q kd tg (T d) p)) (d + 1) (addB b p) := by
  have e4 : rowX q kd tg (T d) p 4 = p := by unfold rowX; simp (disch := omega) only [updQ_s, updQ_n]
  refine ⟨fun i hi => ?_, ?_, ?_, ?_⟩
  · by_cases e : i = d + 1
    · subst e; rw [updT_s]; exact (h.1 d (Nat.le_refl _)).row hp
    · rw [updT_n _ _ e]; exact h.1 i (by omega)
  · rw [cnN_add hp hb, h.2.1]
  · rw [updT_s, e4]; simp [addB]
  · rw [updT_s, e4]
    intro z
    unfold addB at z
    cases e : b 7
    · rw [e, Bool.false_or] at z; exact of_decide_eq_true z
    · exact absurd (h.2.2.2 e) h7
theorem WOk.arr {w : WS} (h : WOk w) {T : Nat → QS} {d : Nat} {b : Nat → Bool} (hx : XOk T d b) : WOk (arrW w (T d) d (fun i => T (i + 1) 4)) := by
  obtain ⟨h1, h2, h3, h4⟩ := h
  obtain ⟨x0, x1, x2, x3, x4, x5⟩ := hx.1 d (Nat.le_refl _)
  have hd := hx.d
  have hg : (arrG w (T d)).2.2 ≤ 1000 := arrG_le h4 x3
  unfold arrW arrB
  by_cases c : btr (arrG w (T d)) (T d) = true
  · rw [if_pos c]
    exact ⟨hd, ⟨by show T d 2 ≤ 40; omega, x3, x5⟩, fun i hi => by have := (hx.1 (i + 1) (by have : i < d := hi; omega)).2.2.2.2.1; show T (i + 1) 4 < 8; omega, hg⟩
  · rw [if_neg c]
    exact ⟨h1, h2, h3, hg⟩
theorem WOk.xpl {q : QS} {kd tg : Nat} {f : Nat} : ∀ {T : Nat → QS} {d : Nat} {b : Nat → Bool} {w : WS}, WOk w → XOk T d b → WOk (xpl q kd tg f T d b w) := by
  induction f with
  | zero => intro T d b w h _; exact h
  | succ f ih =>
    intro T d b w h hx
    by_cases c : T d 4 = 7
    · rw [xpl_7 c]; exact h.arr hx
    · rw [xpl_n c]
      have : ∀ n, n ≤ 8 → WOk (itN (fun p w => if b p = false ∧ canN q (T d 4) p = true then _root_.Jvm.Pilot.CGondolaToldLaw_law_r4683_15f44e.xpl q kd tg f (updT T (d + 1) (rowX q kd tg (T d) p)) (d + 1) (addB b p) w else w) n w) := by
        intro n hn
        induction n with
        | zero => exact h
        | succ n ihn =>
          show WOk (if _ then _ else _)
          split
          · rename_i c2
            exact ih (ihn (by omega)) (hx.go c (by omega) c2.1)
          · exact ihn (by omega)
      exact this 8 (Nat.le_refl _)
def gnI (n : Nat) : Int32 := if n = 0 then -1 else nI (n - 1)
def CW (w : WS) (σ : St) : Prop := σ.1 47 2 = nI w.1.1 ∧ (w.1.1 ≠ 0 → σ.1 47 3 = nI w.1.2.1 ∧ σ.1 47 4 = nI w.1.2.2.1 ∧ σ.1 47 5 = nI w.1.2.2.2) ∧ (∀ i, i < w.1.1 → σ.1 49 i = nI (w.2.1 i)) ∧ σ.1 47 6 = gnI w.2.2
theorem CW.frame {w : WS} {σ σ' : St} (h : CW w σ) (h1 : σ'.1 47 = σ.1 47) (h2 : σ'.1 49 = σ.1 49) : CW w σ' := by
  unfold CW; rw [h1, h2]; exact h
theorem cBtr {N : Nat} {σ : St} {w : WS} {x : QS} {c : Nat} (hw : WOk w) (hC : CW w σ) (hx : OkX x) (hc : ∀ f, f < 6 → σ.1 c f = nI (x f)) (h0 : w.1.1 ≠ 0) : Wy_isBetter N c σ = some (if btr w x = true then 1 else 0) := by
  obtain ⟨w1, ⟨w2, w3, w4⟩, w5, w6⟩ := hw
  obtain ⟨x0, x1, x2, x3, x4, x5⟩ := hx
  obtain ⟨k1, k2, k3⟩ := hC.2.1 h0
  unfold Wy_isBetter btr
  rw [hc 2 (by decide), hc 3 (by decide), hc 5 (by decide), k1, k2, k3]
  by_cases a : x 2 = w.1.2.1
  · rw [if_pos (by rw [a])]
    by_cases b : x 3 = w.1.2.2.1
    · rw [if_pos (by rw [b])]
      by_cases e : w.1.2.2.2 ≤ x 5
      · rw [if_pos (leP e (by omega) (by omega)), if_neg (by simp only [decide_eq_true_eq]; omega)]
      · rw [if_neg (leN e (by omega) (by omega)), if_pos (by simp only [decide_eq_true_eq]; omega)]
    · rw [if_neg (neI b (by omega) (by omega))]
      by_cases e : w.1.2.2.1 ≤ x 3
      · rw [if_pos (leP e (by omega) (by omega)), if_neg (by simp only [decide_eq_true_eq]; omega)]
      · rw [if_neg (leN e (by omega) (by omega)), if_pos (by simp only [decide_eq_true_eq]; omega)]
  · rw [if_neg (neI a (by omega) (by omega))]
    by_cases e : x 2 ≤ w.1.2.1
    · rw [if_pos (leP e (by omega) (by omega)), if_neg (by simp only [decide_eq_true_eq]; omega)]
    · rw [if_neg (leN e (by omega) (by omega)), if_pos (by simp only [decide_eq_true_eq]; omega)]
def Fw (σ σ' : St) : Prop := (∀ i, i ≠ 47 → i ≠ 49 → σ'.1 i = σ.1 i) ∧ σ'.2 = σ.2
theorem cArr50 {N : Nat} (hN : 300 < N) {σ : St} {w : WS} {T : Nat → QS} {d : Nat} (hd : d ≤ 7) (hg : σ.1 47 6 = gnI w.2.2) (hT : ∀ i f, i ≤ d → f < 6 → σ.1 (50 + i) f = nI (T i f)) : ∃ σ', Wy_arrive_J50 N (50 + d) (nI d) σ = some σ' ∧ CW ((d, T d 2, T d 3, T d 5), fun i => T (i + 1) 4, w.2.2) σ' ∧ Fw σ σ' := by
  unfold Wy_arrive_J50
  rw [bS_e, bS_e, bS_e, bS_e]
  simp (disch := omega) only [rdI_ne, hT d 2 (Nat.le_refl _) (by decide), hT d 3 (Nat.le_refl _) (by decide), hT d 5 (Nat.le_refl _) (by decide)]
  refine loop_up (fun f i s => Wy_arrive_L81 N f (nI d) (nI i) s) d (fun i s => s.1 47 2 = nI d ∧ s.1 47 3 = nI (T d 2) ∧ s.1 47 4 = nI (T d 3) ∧ s.1 47 5 = nI (T d 5) ∧ s.1 47 6 = gnI w.2.2 ∧ (∀ j, j < i → s.1 49 j = nI (T (j + 1) 4)) ∧ Fw σ s) (fun o => ∃ σ', o = some σ' ∧ CW ((d, T d 2, T d 3, T d 5), fun i => T (i + 1) 4, w.2.2) σ' ∧ Fw σ σ') ?_ ?_ (by omega) ⟨?_, ?_, ?_, ?_, ?_, by intros; omega, fun i h1 h2 => by simp (disch := omega) only [rdI_ne], rfl⟩
  · intro f i s hi ⟨e1, e2, e3, e4, e5, e6, e7⟩
    have hn : ¬ d ≤ i := by omega
    refine ⟨sI s 49 i (nI (T (i + 1) 4)), ?_, by rw [rdI_ne _ _ _ _ (by decide)]; exact e1, by rw [rdI_ne _ _ _ _ (by decide)]; exact e2, by rw [rdI_ne _ _ _ _ (by decide)]; exact e3, by rw [rdI_ne _ _ _ _ (by decide)]; exact e4, by rw [rdI_ne _ _ _ _ (by decide)]; exact e5, fun j hj => ?_, fun a h1 h2 => by rw [rdI_ne _ _ _ _ h2]; exact e7.1 a h1 h2, e7.2⟩
    · show Wy_arrive_L81B N (Wy_arrive_L81 N f) (nI d) (nI i) s = _
      unfold Wy_arrive_L81B
      rw [if_neg (leN hn (by omega) (by omega)), nI_1, inI (by omega) (by decide), ck_t, inI (by omega) (by decide), ck_t, clI (by omega), clI (by omega), bS_e, bI_e, e7.1 _ (by omega) (by omega), hT (i + 1) 4 (by omega) (by decide)]
    · by_cases e : j = i
      · subst e; rw [rdI_eq]
      · rw [rdI_nk _ _ _ _ e]; exact e6 j (by omega)
  · intro f s ⟨e1, e2, e3, e4, e5, e6, e7⟩
    refine ⟨s, ?_, ⟨e1, fun _ => ⟨e2, e3, e4⟩, e6, e5⟩, e7⟩
    show Wy_arrive_L81B N (Wy_arrive_L81 N f) (nI d) (nI d) s = _
    unfold Wy_arrive_L81B
    rw [if_pos (Int32.le_refl _)]
  all_goals (simp (disch := omega) only [rdI_nk, rdI_eq]) <;> first | exact hg | rfl
theorem cArrive {N : Nat} (hN : 300 < N) {σ : St} {w : WS} {T : Nat → QS} {d : Nat} {b : Nat → Bool} (hw : WOk w) (hX : XOk T d b) (hC : CW w σ) (hT : ∀ i f, i ≤ d → f < 6 → σ.1 (50 + i) f = nI (T i f)) : ∃ σ', Wy_arrive N (50 + d) (nI d) σ = some σ' ∧ CW (arrW w (T d) d (fun i => T (i + 1) 4)) σ' ∧ Fw σ σ' := by
  have hd := hX.d
  have hx := hX.1 d (Nat.le_refl _)
  obtain ⟨x0, x1, x2, x3, x4, x5⟩ := hx
  have J34 : ∀ (v : WS) (s : St), WOk v → CW v s → Fw σ s → ∃ σ', Wy_arrive_J34 N (50 + d) (nI d) s = some σ' ∧ CW (arrB v (T d) d (fun i => T (i + 1) 4)) σ' ∧ Fw σ σ' := by
    intro v s hv hc hf
    have hT' : ∀ i f, i ≤ d → f < 6 → s.1 (50 + i) f = nI (T i f) := fun i f hi hf' => by rw [hf.1 _ (by omega) (by omega)]; exact hT i f hi hf'
    obtain ⟨s5, g5, c5, f5⟩ := cArr50 (N := N) hN (w := v) hd hc.2.2.2 hT'
    have f5' : Fw σ s5 := ⟨fun i h1 h2 => (f5.1 i h1 h2).trans (hf.1 i h1 h2), f5.2.trans hf.2⟩
    unfold Wy_arrive_J34
    rw [hc.1]
    by_cases z : v.1.1 = 0
    · refine ⟨s5, by rw [if_pos (show nI v.1.1 = 0 by rw [z]; rfl), g5], ?_, f5'⟩
      unfold arrB
      rw [if_pos (by unfold btr; exact decide_eq_true (Or.inl z))]; exact c5
    · rw [if_neg (show ¬ nI v.1.1 = 0 from neI (b := 0) z (by have := hv.1; omega) (by decide)), cBtr hv hc (hX.1 d (Nat.le_refl _)) (fun f hf' => hT' d f (Nat.le_refl _) hf') z, bR_e]
      unfold arrB
      by_cases y : btr v (T d) = true
      · exact ⟨s5, by rw [if_pos y, if_neg one_ne, g5], by rw [if_pos y]; exact c5, f5'⟩
      · exact ⟨s, by rw [if_neg y, if_pos rfl], by rw [if_neg y]; exact hc, hf⟩
  have J26 : x3 = x3 → T d 2 = T d 1 → (w.2.2 = 0 ∨ T d 3 + 1 < w.2.2) → ∃ σ', Wy_arrive_J26 N (50 + d) (nI d) σ = some σ' ∧ CW (arrW w (T d) d (fun i => T (i + 1) 4)) σ' ∧ Fw σ σ' := by
    intro _ h1 h2
    unfold Wy_arrive_J26
    rw [bS_e, hT d 3 (Nat.le_refl _) (by decide)]
    refine J34 (arrG w (T d)) (sI σ 47 6 (nI (T d 3))) ⟨hw.1, hw.2.1, hw.2.2.1, ?_⟩ ⟨?_, fun h0 => ⟨?_, ?_, ?_⟩, fun i hi => ?_, ?_⟩ ⟨fun i h3 h4 => by rw [rdI_ne _ _ _ _ h3], rfl⟩
    · exact arrG_le hw.2.2.2 x3
    · rw [rdI_nk _ _ _ _ (by decide)]; exact hC.1
    · rw [rdI_nk _ _ _ _ (by decide)]; exact (hC.2.1 h0).1
    · rw [rdI_nk _ _ _ _ (by decide)]; exact (hC.2.1 h0).2.1
    · rw [rdI_nk _ _ _ _ (by decide)]; exact (hC.2.1 h0).2.2
    · rw [rdI_ne _ _ _ _ (by decide)]; exact hC.2.2.1 i hi
    · rw [rdI_eq]
      show _ = gnI (if T d 2 = T d 1 ∧ (w.2.2 = 0 ∨ T d 3 + 1 < w.2.2) then T d 3 + 1 else w.2.2)
      rw [if_pos ⟨h1, h2⟩]
      unfold gnI
      rw [if_neg (by omega), Nat.add_sub_cancel]
  have same : ¬ (T d 2 = T d 1 ∧ (w.2.2 = 0 ∨ T d 3 + 1 < w.2.2)) → ∃ σ', Wy_arrive_J34 N (50 + d) (nI d) σ = some σ' ∧ CW (arrW w (T d) d (fun i => T (i + 1) 4)) σ' ∧ Fw σ σ' := by
    intro h
    have e : arrG w (T d) = w := by
      unfold arrG
      rw [if_neg h]
    unfold arrW
    rw [e]
    exact J34 w σ hw hC ⟨fun _ _ _ => rfl, rfl⟩
  unfold Wy_arrive Gu_isTold
  rw [hT d 2 (Nat.le_refl _) (by decide), hT d 1 (Nat.le_refl _) (by decide)]
  by_cases a : T d 2 < T d 1
  · rw [if_pos (ltP a (by omega) (by omega)), bR_e, if_pos rfl]
    exact same (fun z => by omega)
  · rw [if_neg (ltN a (by omega) (by omega)), bR_e, if_neg one_ne, hC.2.2.2]
    by_cases g0 : w.2.2 = 0
    · rw [if_pos (by unfold gnI; rw [if_pos g0])]
      exact J26 rfl (by omega) (Or.inl g0)
    · have h6 := hw.2.2.2
      rw [show gnI w.2.2 = nI (w.2.2 - 1) from if_neg g0, if_neg (m1_ne _ (by omega)), hT d 3 (Nat.le_refl _) (by decide)]
      by_cases y : w.2.2 - 1 ≤ T d 3
      · rw [if_pos (leP y (by omega) (by omega))]
        exact same (fun z => by omega)
      · rw [if_neg (leN y (by omega) (by omega))]
        exact J26 rfl (by omega) (Or.inr (by omega))
theorem msk_add (b : Nat → Bool) {n p : Nat} (hn : n ≤ 31) (hp : p < n) : mskI b n ||| bitI p = mskI (addB b p) n := gB_ext (fun j _ => by
  rw [gB_or, gB_msk _ (by omega), gB_msk _ (by omega), gB_bit (by omega)]
  unfold addB
  by_cases e : p = j
  · subst e; simp [hp]
  · simp [e])
theorem msk_one {n p : Nat} (hn : n ≤ 31) (hp : p < n) : bitI p = mskI (fun i => decide (p = i)) n := gB_ext (fun j _ => by
  rw [gB_msk _ (by omega), gB_bit (by omega)]
  by_cases e : p = j
  · subst e; simp [hp]
  · simp [e])
/-- what the class's search may change -/
def Fx (σ σ' : St) : Prop := (∀ i, (i < 47 ∨ 57 < i) → σ'.1 i = σ.1 i) ∧ σ'.2 = σ.2
theorem Fx.rfl' {σ : St} : Fx σ σ := ⟨fun _ _ => rfl, rfl⟩
theorem Fx.trans {σ σ1 σ2 : St} (h : Fx σ σ1) (h2 : Fx σ1 σ2) : Fx σ σ2 := ⟨fun i hi => (h2.1 i hi).trans (h.1 i hi), h2.2.trans h.2⟩
theorem cXpl {N : Nat} (hN : 300 < N) {q : QS} {σ0 : St} (hq : Okq q) (h : NR 1 q σ0) {r : Nat} (hr : r < q 36) (f : Nat) : ∀ {T : Nat → QS} {d : Nat} {b : Nat → Bool} {w : WS} {σ : St}, d + f = 10 → WOk w → XOk T d b → CW w σ → (∀ i k, i ≤ d → k < 6 → σ.1 (50 + i) k = nI (T i k)) → Fx σ0 σ → ∃ σ', Wy_explore N f 1 (1 + 13 + r) (nI d) (mskI b 8) σ = some σ' ∧ CW (xpl q (q (38 + r)) (q (41 + r)) f T d b w) σ' ∧ (∀ i, i ≤ d → σ'.1 (50 + i) = σ.1 (50 + i)) ∧ Fx σ0 σ' := by
  obtain ⟨b1, b2, b3, b4, b5, b6, b7⟩ := hq.b
  have h36 := b2.1
  obtain ⟨kd1, tg1⟩ := b2.2 r hr
  induction f with
  | zero => intro T d b w σ hd _ hX; have := hX.d; omega
  | succ f ih =>
    intro T d b w σ hdf hW hX hC hT hF
    have hd := hX.d
    show ∃ σ', Wy_exploreB N (Wy_explore N f) 1 (1 + 13 + r) (nI d) (mskI b 8) σ = some σ' ∧ _
    unfold Wy_exploreB
    rw [inI (n := 8) (by omega) (by decide), ck_t, clI (by omega), hT d 4 (Nat.le_refl _) (by decide), show (7 : Int32) = nI 7 from rfl]
    obtain ⟨x0, x1, x2, x3, x4, x5⟩ := hX.1 d (Nat.le_refl _)
    by_cases z : T d 4 = 7
    · obtain ⟨s, g1, g2, g3⟩ := cArrive (N := N) hN hW hX hC hT
      refine ⟨s, by rw [if_pos (by rw [z]), g1, bR_e], by rw [xpl_7 z]; exact g2, fun i hi => g3.1 _ (by omega) (by omega), hF.trans ⟨fun i hi => g3.1 i (by omega) (by omega), g3.2⟩⟩
    · have hd6 := hX.d6 z
      rw [if_neg (neI z (by omega) (by omega)), nI_1, if_pos (show nI (d + 1) < 8 from ltP (b := 8) (by omega) (by omega) (by decide)), inI (n := 8) (by omega) (by decide), ck_t, clI (by omega), xpl_n z]
      obtain ⟨M, hM⟩ : ∃ M : Nat, M = 8 := ⟨_, rfl⟩
      obtain ⟨st, hst⟩ : ∃ st : Nat → WS → WS, ∀ p w, st p w = if b p = false ∧ canN q (T d 4) p = true then xpl q (q (38 + r)) (q (41 + r)) f (updT T (d + 1) (rowX q (q (38 + r)) (q (41 + r)) (T d) p)) (d + 1) (addB b p) w else w := ⟨_, fun _ _ => rfl⟩
      rw [itN_congr (st' := st) (fun i b _ => (hst i b).symm), ← hM]
      refine loop_up (fun fu p s => Wy_explore_L48 N (Wy_explore N f) fu 1 (1 + 13 + r) (nI d) (mskI b M) (50 + d) (50 + (d + 1)) (nI p) s) M (fun p s => WOk (itN st p w) ∧ CW (itN st p w) s ∧ (∀ i, i ≤ d → s.1 (50 + i) = σ.1 (50 + i)) ∧ Fx σ0 s) (fun o => ∃ σ', o = some σ' ∧ CW (itN st M w) σ' ∧ (∀ i, i ≤ d → σ'.1 (50 + i) = σ.1 (50 + i)) ∧ Fx σ0 σ') ?_ ?_ (by omega) ⟨hW, hC, fun _ _ => rfl, hF⟩
      · intro fu p s hp ⟨w1, c1, t1, f1⟩
        have hp8 : p < 8 := by omega
        have hn : ¬ 8 ≤ p := by omega
        have hTd : ∀ k, k < 6 → s.1 (50 + d) k = nI (T d k) := fun k hk => by rw [t1 d (Nat.le_refl _)]; exact hT d k (Nat.le_refl _) hk
        have hcn : CanC 1 q s := h.1.2.frame (f1.1 _ (by omega)) (fun _ _ _ _ => rfl)
        have cc := cCan (N := N) (n := 1) (gc := 50 + d) (a := T d 4) (p := p) b1 hcn (hTd 4 (by decide)) x4 hp8
        have mi := msk_in b (n := M) (t := p) (by omega) hp
        unfold bitI at mi
        show ∃ a', Wy_explore_L48B N (Wy_explore N f) (Wy_explore_L48 N (Wy_explore N f) fu) 1 (1 + 13 + r) (nI d) (mskI b M) (50 + d) (50 + (d + 1)) (nI p) s = Wy_explore_L48 N (Wy_explore N f) fu 1 (1 + 13 + r) (nI d) (mskI b M) (50 + d) (50 + (d + 1)) (nI (p + 1)) a' ∧ WOk (st p (itN st p w)) ∧ CW (st p (itN st p w)) a' ∧ _
        rw [hst p (itN st p w)]
        unfold Wy_explore_L48B Wy_explore_J108
        rw [show (8 : Int32) = nI 8 from rfl, if_neg (leN hn (by omega) (by omega)), cc, bR_e]
        by_cases y : b p = false
        · rw [if_pos (by rw [mi]; exact y)]
          by_cases c : canN q (T d 4) p = true
          · obtain ⟨s1, g1, k1, k2, k3⟩ := gTake (N := N) (t := 50 + (d + 1)) (c := 50 + d) (σ := s) (x := T d) hTd (by omega)
            have hcn1 : CanC 1 q s1 := hcn.frame (k2 _ (by omega)) (fun _ _ _ _ => rfl)
            obtain ⟨s2, g2, l1, l2, l3⟩ := carryX (N := N) (n := 1) (gc := 50 + (d + 1)) (rc := 1 + 13 + r) (q := q) (x := T d) (σ := s1) (p := p) b1 hcn1 (fun p hp => by rw [k2 _ (by omega), f1.1 _ (by omega)]; exact h.dark hp) (by rw [k2 _ (by omega), f1.1 _ (by omega)]; exact h.row (by omega) hr) kd1 tg1 (hX.1 d (Nat.le_refl _)) k1 (by omega) (by omega) hp8
            have hX2 := hX.go (q := q) (kd := q (38 + r)) (tg := q (41 + r)) z hp8 y
            have Fs : ∀ i, i ≠ 50 + (d + 1) → s2.1 i = s.1 i := fun i hi => (l2 i hi).trans (k2 i hi)
            obtain ⟨s3, g3, c3, t3, f3⟩ := ih (d := d + 1) (T := updT T (d + 1) (rowX q (q (38 + r)) (q (41 + r)) (T d) p)) (b := addB b p) (σ := s2) (by omega) w1 hX2 (c1.frame (Fs _ (by omega)) (Fs _ (by omega))) (fun i k hi hk => by
              by_cases e : i = d + 1
              · subst e; rw [updT_s]; exact l1 k hk
              · rw [updT_n _ _ e, Fs _ (by omega), t1 i (by omega)]; exact hT i k (by omega) hk) ⟨fun i hi => by rw [Fs i (by omega)]; exact f1.1 i hi, by rw [l3, k3]; exact f1.2⟩
            refine ⟨s3, ?_, ?_, ?_, fun i hi => by rw [t3 i (by omega), Fs _ (by omega)]; exact t1 i hi, f3⟩
            · have ma := msk_add b (n := M) (p := p) (by omega) hp
              unfold bitI at ma
              rw [if_pos c, if_neg one_ne, g1, bR_e, g2, bR_e, ma, nI_1, hM, g3, bR_e, nI_1, bI_e]
            · rw [if_pos ⟨y, c⟩]; exact WOk.xpl w1 hX2
            · rw [if_pos ⟨y, c⟩]; exact c3
          · refine ⟨s, by rw [if_neg c, if_pos rfl, nI_1, bI_e], ?_, ?_, t1, f1⟩
            · rw [if_neg (fun e => c e.2)]; exact w1
            · rw [if_neg (fun e => c e.2)]; exact c1
        · refine ⟨s, by rw [if_neg (by rw [mi]; exact y), nI_1, bI_e], ?_, ?_, t1, f1⟩
          · rw [if_neg (fun e => y e.1)]; exact w1
          · rw [if_neg (fun e => y e.1)]; exact c1
      · intro fu s ⟨w1, c1, t1, f1⟩
        refine ⟨s, ?_, c1, t1, f1⟩
        show Wy_explore_L48B N (Wy_explore N f) (Wy_explore_L48 N (Wy_explore N f) fu) 1 (1 + 13 + r) (nI d) (mskI b M) (50 + d) (50 + (d + 1)) (nI M) s = _
        unfold Wy_explore_L48B
        rw [if_pos (by rw [hM]; decide)]
def w00 : WS := ((0, 0, 0, 0), fun _ => 0, 0)
def wayW (q : QS) (g r : Nat) : WS := if q (60 + g) = 7 then w00 else xpl q (q (38 + r)) (q (41 + r)) 10 (fun _ => qX q g) 0 (fun i => decide (q (60 + g) = i)) w00
theorem w00_ok : WOk w00 := ⟨by decide, ⟨by decide, by decide, by decide⟩, fun i hi => absurd hi (Nat.not_lt_zero i), by decide⟩
theorem cnN_one {a n : Nat} (h : a < n) : cnN (fun i => decide (a = i)) n = 1 := by
  induction n with
  | zero => omega
  | succ n ih =>
    show cnN (fun i => decide (a = i)) n + (decide (a = n)).toNat = 1
    by_cases e : a = n
    · subst e
      rw [cnN_zero (fun i hi => decide_eq_false (by omega)), decide_eq_true rfl]; rfl
    · rw [ih (by omega), decide_eq_false e]; rfl
theorem xok0 {q : QS} (hq : Okq q) {g : Nat} (hg : g < q 37) : XOk (fun _ => qX q g) 0 (fun i => decide (q (60 + g) = i)) := by
  have hx := hq.b.2.2.1.x hg
  refine ⟨fun _ _ => hx, cnN_one (by have := hx.2.2.2.2.1; show q (60 + g) < 8; have : q (60 + g) ≤ 7 := this; omega), decide_eq_true rfl, fun z => of_decide_eq_true z⟩
theorem wayW_ok {q : QS} (hq : Okq q) {g : Nat} (hg : g < q 37) (r : Nat) : WOk (wayW q g r) := by
  unfold wayW
  split
  · exact w00_ok
  · exact WOk.xpl w00_ok (xok0 hq hg)
theorem cSearch {N : Nat} (hN : 300 < N) {q : QS} {σ : St} (hq : Okq q) (h : NR 1 q σ) {g r : Nat} (hg : g < q 37) (hr : r < q 36) : ∃ σ', Wy_search N 1 (1 + 16 + g) (1 + 13 + r) σ = some σ' ∧ CW (wayW q g r) σ' ∧ Fx σ σ' := by
  have h37 := hq.b.2.2.1.1
  have hx := hq.b.2.2.1.x hg
  have hx4 : q (60 + g) ≤ 7 := hx.2.2.2.2.1
  have F0 : Fx σ (sI (sI σ 47 2 0) 47 6 (-1)) := ⟨fun i hi => by simp (disch := omega) only [rdI_ne], rfl⟩
  have C0 : CW w00 (sI (sI σ 47 2 0) 47 6 (-1)) := ⟨by rw [rdI_nk _ _ _ _ (by decide), rdI_eq]; rfl, fun z => absurd rfl z, fun i hi => absurd hi (Nat.not_lt_zero i), by rw [rdI_eq]; rfl⟩
  have e4 : (sI (sI σ 47 2 0) 47 6 (-1)).1 (1 + 16 + g) 4 = nI (q (60 + g)) := by rw [F0.1 _ (by omega), h.gst (by omega) (by decide) hg]
  unfold Wy_search wayW
  rw [bS_e, bS_e, e4, show (7 : Int32) = nI 7 from rfl]
  by_cases z : q (60 + g) = 7
  · refine ⟨_, by rw [if_pos (by rw [z])], ?_, F0⟩
    rw [if_pos z]; exact C0
  · obtain ⟨s1, g1, k1, k2, k3⟩ := gTake (N := N) (t := 50) (c := 1 + 16 + g) (σ := sI (sI σ 47 2 0) 47 6 (-1)) (x := qX q g) (fun f hf => by rw [F0.1 _ (by omega)]; exact h.gst (by omega) hf hg) (by omega)
    have F1 : Fx σ s1 := F0.trans ⟨fun i hi => k2 i (by omega), k3⟩
    obtain ⟨s2, g2, c2, t2, f2⟩ := cXpl (N := N) hN hq h hr 10 (T := fun _ => qX q g) (d := 0) (b := fun i => decide (q (60 + g) = i)) (w := w00) (σ := s1) rfl w00_ok (xok0 hq hg) (C0.frame (k2 _ (by decide)) (k2 _ (by decide))) (fun i k hi hk => by rw [show i = 0 by omega]; exact k1 k hk) F1
    refine ⟨s2, ?_, by rw [if_neg z]; exact c2, f2⟩
    have mo := msk_one (n := 8) (p := q (60 + g)) (by decide) (by omega)
    unfold bitI at mo
    rw [if_neg (neI z (by omega) (by decide)), show (50 + (0 : Int32).toNatClampNeg) = 50 from rfl, g1, bR_e, k2 _ (by omega), e4, mo, show (0 : Int32) = nI 0 from rfl, g2, bR_e]
