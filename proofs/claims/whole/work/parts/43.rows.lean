def qX (q : QS) (g : Nat) : QS := fun f => q (44 + 4 * f + g)
theorem BG.x {q : QS} (h : BG q) {g : Nat} (hg : g < q 37) : OkX (qX q g) := by
  obtain ⟨a, b, c, d, e, f, i⟩ := h.2.1 g hg
  exact ⟨a, ⟨b, c⟩, d, e, f, i⟩
def qRow (q : QS) (g r p : Nat) : QS := updQ (updQ (updQ (updQ q (64 + g) (gonN q (qX q g) p)) (60 + g) p) (56 + g) (hrtN q (q (38 + r)) (q (41 + r)) (qX q g) p)) (52 + g) (knwN q (q (38 + r)) (q (41 + r)) (qX q g) p)
theorem cRow {N n : Nat} {q : QS} {σ : St} (hq : Okq q) (h : NR n q σ) {g r p : Nat} (hg : g < q 37) (hr : r < q 36) (hp : p < 8) : ∃ σ', Ni_carry N n (n + 16 + g) (n + 13 + r) (nI p) σ = some σ' ∧ NR n (qRow q g r p) σ' ∧ Fr n σ σ' := by
  obtain ⟨b1, b2, b3, b4, b5, b6, b7⟩ := hq.b
  have hg4 : g < 4 := by have := b3.1; omega
  have hr3 : r < 3 := by have := b2.1; omega
  have e := cCarry (N := N) (n := n) (gc := n + 16 + g) (rc := n + 13 + r) (x := qX q g) (p := p) b1 h.1.2 (fun p hp => h.dark hp) (h.row hr3 hr) (b2.2 r hr).1 (b2.2 r hr).2 (b3.x hg) (fun f hf => h.gst hg4 hf hg) (by omega) (by omega) hp
  refine ⟨_, e, ?_, (((Fr.wr (by omega)).trans (Fr.wr (by omega))).trans (Fr.wr (by omega))).trans (Fr.wr (by omega))⟩
  unfold qRow
  refine ((((h.np.putG (g := g) (f := 5) (k := 64 + g) hg4 (by decide) rfl).putG (g := g) (f := 4) (k := 60 + g) hg4 (by decide) rfl).putG (g := g) (f := 3) (k := 56 + g) hg4 (by decide) rfl).putG (g := g) (f := 2) (k := 52 + g) hg4 (by decide) rfl).nr ?_
  apply live_ge (q := q) (fun k hk => Or.inl (Or.inl (Or.inl (Or.inl hk)))) <;> simp (disch := omega) only [updQ_n] <;> exact Nat.le_refl _
theorem Okq.row {q : QS} (h : Okq q) {g r p : Nat} (hg : g < q 37) (hp : p < 8) : Okq (qRow q g r p) := by
  obtain ⟨b1, b2, b3, b4, b5, b6, b7⟩ := h.b
  have hg4 := b3.1
  have ox := (b3.x hg).row (q := q) (kd := q (38 + r)) (tg := q (41 + r)) hp
  unfold rowX at ox
  obtain ⟨-, -, o2, o3, o4, o5⟩ := ox
  simp (disch := omega) only [updQ_s, updQ_n] at o2 o3 o4 o5
  have o2' : knwN q (q (38 + r)) (q (41 + r)) (qX q g) p ≤ q (48 + g) := o2
  unfold qRow
  refine Okq.iff.mpr ⟨b1.congr ?_, b2.congr ?_, ⟨?_, fun g' hg' => ?_, fun g' h1 h2 => ?_⟩, b4.congr ?_, b5.congr ?_, b6.congr ?_, b7.congr ?_⟩
  · intros; simp (disch := omega) only [updQ_n]
  · intros; simp (disch := omega) only [updQ_n]
  · simp (disch := omega) only [updQ_n]; exact b3.1
  · rw [updQ_n _ _ (by omega), updQ_n _ _ (by omega), updQ_n _ _ (by omega), updQ_n _ _ (by omega)] at hg'
    by_cases z : g' = g
    · subst z
      obtain ⟨c1, c2, c3, c4, c5, c6, c7⟩ := b3.2.1 g' hg
      simp (disch := omega) only [updQ_s, updQ_n]
      exact ⟨c1, c2, c3, o2', o3, o4, o5⟩
    · simp (disch := omega) only [updQ_n]; exact b3.2.1 g' hg'
  · rw [updQ_n _ _ (by omega), updQ_n _ _ (by omega), updQ_n _ _ (by omega), updQ_n _ _ (by omega)] at h2
    simp (disch := omega) only [updQ_n]; exact b3.2.2 g' h1 h2
  all_goals intros; simp (disch := omega) only [updQ_n]
theorem mSt' {N : Nat} {q : QS} {σ : St} (hM : RepM 115 0 q σ) {a b : Nat} (ha : a < 8) (hb : b < 8) : Mo_strokesOf N (nI a) (nI b) σ = some (nI (stq q a b)) := by
  unfold Mo_strokesOf stq
  by_cases h : a = b
  · subst h; rw [if_pos rfl, if_pos rfl]; rfl
  · have hr := cnl_rng a ha b hb h
    rw [if_neg (fun e => h ((nI_eq (by omega) (by omega)).mp e)), if_neg h, mCn a ha b hb h]
    simp (disch := omega) only [litI, clI, subI, mulI, addI, eqI, leI, ltI, inI, ck_t, bS_e, bI_e, bL_e, bR_e, bW_e, hM.get]
theorem mRowedX {N : Nat} {q : QS} {σ : St} (hq : Okq q) (h : RepM 115 0 q σ) {g r p : Nat} (hg : g < q 37) (hr : r < q 36) (hp : p < 8) : ∃ σ', Mo_rowed N (nI g) (nI r) (nI p) σ = some σ' ∧ RepM 115 0 (qRow q g r p) σ' ∧ (∀ i, i ≠ 115 → σ'.1 i = σ.1 i) ∧ (∀ k, k < 52 ∨ 68 ≤ k → σ'.1 115 k = σ.1 115 k) ∧ σ'.2 = σ.2 := by
  obtain ⟨b1, b2, b3, b4, b5, b6, b7⟩ := hq.b
  have hg4 := b3.1
  have hr3 := b2.1
  obtain ⟨x0, x1, x2, x3, x4, x5⟩ := b3.x hg
  have hs := stq_le b1 (a := qX q g 4) (b := p) (by omega) hp
  have hqp : q p ≤ 9 := b1 p (by omega)
  have hk := b2.2 r hr
  have hgo : gonN q (qX q g) p ≤ 999 := by unfold gonN; omega
  have ht := toldN_lt (kd := q (38 + r)) (tg := q (41 + r)) (d := q p) (s := gonN q (qX q g) p) (by omega) (by omega)
  have hh : heaN q (q (38 + r)) (q (41 + r)) (qX q g) p ≤ 40 := by unfold heaN; omega
  have hu := hurtN_lt (kd := qX q g 0) (h := qX q g 1) (k := qX q g 2) (m := heaN q (q (38 + r)) (q (41 + r)) (qX q g) p) (d := q p) (by omega) (by omega)
  refine ⟨sI (sI (sI (sI σ 115 (64 + g) (nI (gonN q (qX q g) p))) 115 (60 + g) (nI p)) 115 (56 + g) (nI (hrtN q (q (38 + r)) (q (41 + r)) (qX q g) p))) 115 (52 + g) (nI (knwN q (q (38 + r)) (q (41 + r)) (qX q g) p)), ?_, (((h.put _).put _).put _).put _, fun i hi => by simp (disch := omega) only [rdI_ne], fun k hk => by simp (disch := omega) only [rdI_nk], rfl⟩
  have e60 : q (60 + g) = qX q g 4 := rfl
  have e64 : q (64 + g) = qX q g 5 := rfl
  have e56 : q (56 + g) = qX q g 3 := rfl
  have e52 : q (52 + g) = qX q g 2 := rfl
  have e48 : q (48 + g) = qX q g 1 := rfl
  have e44 : q (44 + g) = qX q g 0 := rfl
  unfold Mo_rowed
  simp (disch := omega) only [litI, clI, subI, mulI, addI, eqI, leI, ltI, inI, ck_t, bS_e, bI_e, bL_e, bR_e, bW_e, h.get, Nat.zero_add]
  rw [e60, e64, mSt' h (by omega) hp, bR_e, addI, less_e (by omega) (by omega), show min 999 (qX q g 5 + stq q (qX q g 4) p) = gonN q (qX q g) p from rfl]
  simp (disch := omega) only [rdI_eq, rdI_nk, h.get]
  rw [e48, e52, e56, e44, told_m (by omega) (by omega) (by omega) (by omega), subI x2, less_e (by omega) (by omega), show min (toldN (q (38 + r)) (q (41 + r)) (q p) (gonN q (qX q g) p)) (qX q g 1 - qX q g 2) = heaN q (q (38 + r)) (q (41 + r)) (qX q g) p from rfl]
  rw [hurt_m (by omega) (by omega) (by omega) (by omega) (by omega), addI, less_e (by omega) (by omega), addI]
  rfl
theorem mRowed {N : Nat} {q : QS} {σ : St} (hq : Okq q) (h : RepM 115 0 q σ) {g r p : Nat} (hg : g < q 37) (hr : r < q 36) (hp : p < 8) : ∃ σ', Mo_rowed N (nI g) (nI r) (nI p) σ = some σ' ∧ RepM 115 0 (qRow q g r p) σ' ∧ Gr σ σ' := by
  obtain ⟨σ', e, r1, f, -, f2⟩ := mRowedX (N := N) hq h hg hr hp
  exact ⟨σ', e, r1, ⟨fun i hi => f i (by omega), fun i h1 h2 => f i (by omega), by rw [f 114 (by decide)], f2⟩⟩
/-- whether one may be rowed there -/
def canN (q : QS) (a p : Nat) : Bool := decide (a ≠ 7 ∧ 0 < stq q a p)
theorem cCan {N n gc : Nat} {q : QS} {σ : St} {a p : Nat} (hb : BD q) (hc : CanC n q σ) (ha : σ.1 gc 4 = nI a) (ha7 : a ≤ 7) (hp : p < 8) : Ni_canRow N n gc (nI p) σ = some (if canN q a p then 1 else 0) := by
  have hs := stq_le hb (a := a) (b := p) (by omega) hp
  unfold Ni_canRow
  rw [ha, show (7 : Int32) = nI 7 from rfl]
  by_cases z : a = 7
  · subst z; rw [if_pos rfl]; rfl
  · rw [if_neg (neI z (by omega) (by omega)), gSt hc (by omega) hp, bR_e, show (0 : Int32) = nI 0 from rfl]
    by_cases y : stq q a p = 0
    · rw [if_pos (by rw [y]; exact Int32.le_refl _), if_neg (by simp [canN, y])]
    · rw [if_neg (leN (by omega) (by omega) (by omega)), if_pos (by simp [canN, z]; omega)]
theorem mCan {N : Nat} {q : QS} {σ : St} {g p : Nat} (hb : BD q) (h : RepM 115 0 q σ) (hg : g < 4) (ha7 : q (60 + g) ≤ 7) (hp : p < 8) : Mo_can N (nI g) (nI p) σ = some (if canN q (q (60 + g)) p then 1 else 0) := by
  have hs := stq_le hb (a := q (60 + g)) (b := p) (by omega) hp
  unfold Mo_can
  rw [show (60 : Int32) = nI 60 from rfl, addI, inI (by omega) (by decide), ck_t, clI (by omega), h.get (by omega), show (7 : Int32) = nI 7 from rfl, ck_t]
  by_cases z : q (60 + g) = 7
  · rw [if_pos (by rw [z]), if_neg (by simp [canN, z])]
  · rw [if_neg (neI z (by omega) (by omega)), mSt' h (by omega) hp, bR_e, show (0 : Int32) = nI 0 from rfl]
    by_cases y : stq q (q (60 + g)) p = 0
    · rw [if_pos (by rw [y]; exact Int32.le_refl _), if_neg (by simp [canN, y])]
    · rw [if_neg (leN (by omega) (by omega) (by omega)), if_pos (by simp [canN, z]; omega)]
/-! what may be undone: kept, given back -/
def uK (q : QS) : Nat := if q 157 = 8 then 7 else q 157
def qKeep (q : QS) : QS := fun k => if k = 157 then uK q + 1 else if 158 + 16 * uK q ≤ k ∧ k < 158 + 16 * uK q + 16 then q (52 + (k - (158 + 16 * uK q))) else if q 157 = 8 ∧ 158 ≤ k ∧ k < 270 then q (k + 16) else q k
theorem qKeep_lo (q : QS) {k : Nat} (h : k < 157) : qKeep q k = q k := by
  unfold qKeep
  rw [if_neg (by omega), if_neg (by omega), if_neg (by omega)]
theorem qKeep_57 (q : QS) : qKeep q 157 = uK q + 1 := if_pos rfl
theorem qKeep_new (q : QS) {j : Nat} (h : j < 16) : qKeep q (158 + 16 * uK q + j) = q (52 + j) := by
  unfold qKeep
  rw [if_neg (by omega), if_pos (by omega), show 158 + 16 * uK q + j - (158 + 16 * uK q) = j by omega]
theorem qKeep_old (q : QS) {u j : Nat} (hu : u < uK q) (h : j < 16) : qKeep q (158 + 16 * u + j) = if q 157 = 8 then q (158 + 16 * (u + 1) + j) else q (158 + 16 * u + j) := by
  unfold qKeep
  rw [if_neg (by omega), if_neg (by omega)]
  by_cases z : q 157 = 8
  · have : uK q = 7 := if_pos z
    rw [if_pos z, if_pos (by omega), show 158 + 16 * u + j + 16 = 158 + 16 * (u + 1) + j by omega]
  · rw [if_neg z, if_neg (fun y => z y.1)]
theorem Okq.keep {q : QS} (h : Okq q) : Okq (qKeep q) := by
  obtain ⟨b1, b2, b3, b4, b5, b6, b7⟩ := h.b
  have hu : uK q ≤ 7 := by have := b7.1; unfold uK; split <;> omega
  refine Okq.iff.mpr ⟨b1.congr ?_, b2.congr ?_, b3.congr ?_, b4.congr ?_, b5.congr ?_, b6.congr ?_, ⟨by rw [qKeep_57]; omega, fun u hu2 g hg => ?_⟩⟩
  iterate 6 (· intros; exact qKeep_lo q (by omega))
  rw [qKeep_57] at hu2
  rw [qKeep_lo q (k := 37) (by omega), qKeep_lo q (k := 48 + g) (by omega), show 162 + 16 * u + g = 158 + 16 * u + (4 + g) by omega, show 166 + 16 * u + g = 158 + 16 * u + (8 + g) by omega, show 170 + 16 * u + g = 158 + 16 * u + (12 + g) by omega]
  by_cases z : u = uK q
  · subst z
    rw [qKeep_new q (by omega), qKeep_new q (by omega), qKeep_new q (by omega), qKeep_new q (by omega), show 52 + (4 + g) = 56 + g by omega, show 52 + (8 + g) = 60 + g by omega, show 52 + (12 + g) = 64 + g by omega]
    by_cases y : g < q 37
    · obtain ⟨c1, c2, c3, c4, c5, c6, c7⟩ := b3.2.1 g y
      exact ⟨c4, c5, c6, c7, fun w => absurd w (by omega)⟩
    · obtain ⟨c1, c2, c3, c4⟩ := b3.2.2 g hg (by omega)
      exact ⟨by omega, by omega, by omega, by omega, fun _ => ⟨c1, c2, c3, c4⟩⟩
  · have hu3 : u < uK q := by omega
    rw [qKeep_old q hu3 (by omega), qKeep_old q hu3 (by omega), qKeep_old q hu3 (by omega), qKeep_old q hu3 (by omega)]
    by_cases y : q 157 = 8
    · rw [if_pos y, if_pos y, if_pos y, if_pos y]
      have := b7.2 (u + 1) (by omega) g hg
      rwa [show 162 + 16 * (u + 1) + g = 158 + 16 * (u + 1) + (4 + g) by omega, show 166 + 16 * (u + 1) + g = 158 + 16 * (u + 1) + (8 + g) by omega, show 170 + 16 * (u + 1) + g = 158 + 16 * (u + 1) + (12 + g) by omega] at this
    · rw [if_neg y, if_neg y, if_neg y, if_neg y]
      have e : uK q = q 157 := if_neg y
      have := b7.2 u (by omega) g hg
      rwa [show 162 + 16 * u + g = 158 + 16 * u + (4 + g) by omega, show 166 + 16 * u + g = 158 + 16 * u + (8 + g) by omega, show 170 + 16 * u + g = 158 + 16 * u + (12 + g) by omega] at this
theorem keepS {N n : Nat} {s s' : St} {u i fu : Nat} (hu : u < 8) (hi : i < 4) (e12 : s'.1 (n + 11) 1 = nI u) (eg : s'.1 (n + 16 + i) = s.1 (n + 16 + i)) : Pa_keep_L39 N (fu + 1) (n + 11) n (nI i) s' = Pa_keep_L39 N fu (n + 11) n (nI (i + 1)) (sI (sI (sI (sI s' (n + 11 + 1) (u * 16 + i * 4) (s.1 (n + 16 + i) 2)) (n + 11 + 1) (u * 16 + i * 4 + 1) (s.1 (n + 16 + i) 3)) (n + 11 + 1) (u * 16 + i * 4 + 2) (s.1 (n + 16 + i) 4)) (n + 11 + 1) (u * 16 + i * 4 + 3) (s.1 (n + 16 + i) 5)) := by
  have hn : ¬ 4 ≤ i := by omega
  show Pa_keep_L39B N (Pa_keep_L39 N fu) (n + 11) n (nI i) s' = _
  unfold Pa_keep_L39B
  rw [show (4 : Int32) = nI 4 from rfl, if_neg (leN hn (by omega) (by omega)), e12, show (16 : Int32) = nI 16 from rfl, mulI, mulI, addI, bI_e, inI (n := 4) hi (by decide), ck_t, clI (a := i) (by omega), inI (n := 128) (by omega) (by decide), ck_t, clI (by omega), bS_e, show (1 : Int32) = nI 1 from rfl, addI, inI (n := 128) (by omega) (by decide), ck_t, clI (by omega), bS_e, show (2 : Int32) = nI 2 from rfl, addI, inI (n := 128) (by omega) (by decide), ck_t, clI (by omega), bS_e, show (3 : Int32) = nI 3 from rfl, addI, inI (n := 128) (by omega) (by decide), ck_t, clI (by omega), bS_e, addI, bI_e]
  simp (disch := omega) only [rdI_ne, eg]
theorem keepV {s s' : St} {u i g f : Nat} (hf : f < 4) (z : g = i) : (sI (sI (sI (sI s' 13 (u * 16 + i * 4) (s.1 (1 + 16 + i) 2)) 13 (u * 16 + i * 4 + 1) (s.1 (1 + 16 + i) 3)) 13 (u * 16 + i * 4 + 2) (s.1 (1 + 16 + i) 4)) 13 (u * 16 + i * 4 + 3) (s.1 (1 + 16 + i) 5)).1 13 (16 * u + 4 * g + f) = s.1 (1 + 16 + g) (2 + f) := by
  subst z
  rcases (show f = 0 ∨ f = 1 ∨ f = 2 ∨ f = 3 by omega) with rfl | rfl | rfl | rfl
  · rw [show 16 * u + 4 * g + 0 = u * 16 + g * 4 by omega]; simp (disch := omega) only [rdI_nk, rdI_eq]
  · rw [show 16 * u + 4 * g + 1 = u * 16 + g * 4 + 1 by omega]; simp (disch := omega) only [rdI_nk, rdI_eq]
  · rw [show 16 * u + 4 * g + 2 = u * 16 + g * 4 + 2 by omega]; simp (disch := omega) only [rdI_nk, rdI_eq]
  · rw [show 16 * u + 4 * g + 3 = u * 16 + g * 4 + 3 by omega]; simp (disch := omega) only [rdI_nk, rdI_eq]
theorem keepL {N : Nat} (hN : 300 < N) {s : St} {u : Nat} (hu : u < 8) (hs : s.1 12 1 = nI u) : ∃ σ', Pa_keep_J37 N 12 1 s = some σ' ∧ (∀ c, c ≠ 12 → c ≠ 13 → σ'.1 c = s.1 c) ∧ σ'.1 12 1 = nI (u + 1) ∧ (∀ g f, g < 4 → f < 4 → σ'.1 13 (16 * u + 4 * g + f) = s.1 (1 + 16 + g) (2 + f)) ∧ (∀ x, x < 16 * u → σ'.1 13 x = s.1 13 x) ∧ σ'.2 = s.2 := by
  unfold Pa_keep_J37
  refine loop_up (fun f i s => Pa_keep_L39 N f 12 1 (nI i) s) 4 (fun i s' => (∀ c, c ≠ 13 → s'.1 c = s.1 c) ∧ (∀ g f, g < i → f < 4 → s'.1 13 (16 * u + 4 * g + f) = s.1 (1 + 16 + g) (2 + f)) ∧ (∀ x, x < 16 * u → s'.1 13 x = s.1 13 x) ∧ s'.2 = s.2) (fun o => ∃ σ', o = some σ' ∧ (∀ c, c ≠ 12 → c ≠ 13 → σ'.1 c = s.1 c) ∧ σ'.1 12 1 = nI (u + 1) ∧ (∀ g f, g < 4 → f < 4 → σ'.1 13 (16 * u + 4 * g + f) = s.1 (1 + 16 + g) (2 + f)) ∧ (∀ x, x < 16 * u → σ'.1 13 x = s.1 13 x) ∧ σ'.2 = s.2) ?_ ?_ (by omega) ⟨fun _ _ => rfl, by intros; omega, fun _ _ => rfl, rfl⟩
  · intro fu i s' hi ⟨h1, h2, h3, h4⟩
    refine ⟨sI (sI (sI (sI s' 13 (u * 16 + i * 4) (s.1 (1 + 16 + i) 2)) 13 (u * 16 + i * 4 + 1) (s.1 (1 + 16 + i) 3)) 13 (u * 16 + i * 4 + 2) (s.1 (1 + 16 + i) 4)) 13 (u * 16 + i * 4 + 3) (s.1 (1 + 16 + i) 5), ?_, fun c hc => ?_, fun g f hg hf => ?_, fun x hx => ?_, h4⟩
    · exact keepS (n := 1) hu hi (by rw [h1 12 (by decide)]; exact hs) (h1 (1 + 16 + i) (by omega))
    · simp (disch := omega) only [rdI_ne]; exact h1 c hc
    · by_cases z : g = i
      · exact keepV hf z
      · simp (disch := omega) only [rdI_nk]; exact h2 g f (by omega) hf
    · simp (disch := omega) only [rdI_nk]; exact h3 x hx
  · intro f s' ⟨h1, h2, h3, h4⟩
    simp only [Pa_keep_L39, Pa_keep_L39B, Pa_keep_J120]
    simp (disch := omega) only [litI, clI, subI, mulI, addI, eqI, leI, ltI, inI, ck_t, bS_e, bI_e, bL_e, bR_e, bW_e, show 4 ≤ 4 by decide, if_true, h1 12 (by decide), hs]
    refine ⟨_, rfl, fun c ha hb => by rw [rdI_ne _ _ _ _ ha]; exact h1 c hb, rdI_eq _ _ _ _, fun g f hg hf => by rw [rdI_ne _ _ _ _ (by decide)]; exact h2 g f hg hf, fun x hx => by rw [rdI_ne _ _ _ _ (by decide)]; exact h3 x hx, h4⟩
