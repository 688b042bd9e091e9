/-! loops as folds; bits -/
def itN {α : Type} (st : Nat → α → α) : Nat → α → α
  | 0, a => a
  | n + 1, a => st n (itN st n a)
theorem itN_congr {α : Type} {st st' : Nat → α → α} {n : Nat} {a : α} (h : ∀ i b, i < n → st i b = st' i b) : itN st n a = itN st' n a := by
  induction n with
  | zero => rfl
  | succ n ih =>
    show st n (itN st n a) = st' n (itN st' n a)
    rw [ih (fun i b hi => h i b (by omega)), h n _ (by omega)]
theorem loop_it {α ρ : Type} (L : Nat → Nat → α → Option ρ) (n : Nat) (st : Nat → α → α) (R : α → Option ρ) (step : ∀ f i a, i < n → L (f + 1) i a = L f (i + 1) (st i a)) (fin : ∀ f a, L (f + 1) n a = R a) {fuel : Nat} {a : α} (hf : n < fuel) : L fuel 0 a = R (itN st n a) :=
  loop_up L n (fun i b => b = itN st i a) (fun o => o = R (itN st n a)) (fun f i b hi hb => ⟨st i b, step f i b hi, by rw [hb]; rfl⟩) (fun f b hb => by rw [fin, hb]) hf rfl
def bitI (i : Nat) : Int32 := 1 <<< (nI i &&& 31)
def mskI (b : Nat → Bool) (n : Nat) : Int32 := itN (fun i acc => if b i = true then acc ||| bitI i else acc) n 0
theorem mskI_congr {b b' : Nat → Bool} {n : Nat} (h : ∀ i, i < n → b i = b' i) : mskI b n = mskI b' n := itN_congr (fun i a hi => by rw [h i hi])
theorem or0 (x : Int32) : x ||| 0 = x := by simp
theorem cNeigh {N n : Nat} (hN : 300 < N) {q : QS} {σ : St} (hb : BD q) (hc : CanC n q σ) {p : Nat} (hp : p < 8) : Ni_neighbours N n (nI p) σ = some (mskI (fun i => decide (0 < stq q p i)) 8) := by
  unfold Ni_neighbours mskI
  refine loop_it (fun f i a => Ni_neighbours_L4 N f n (nI p) a (nI i) σ) 8 _ some ?_ ?_ (by omega)
  · intro f i a hi
    have hs := stq_le hb hp hi
    have hn : ¬ 8 ≤ i := by omega
    show Ni_neighbours_L4B N (Ni_neighbours_L4 N f) n (nI p) a (nI i) σ = Ni_neighbours_L4 N f n (nI p) (if decide (0 < stq q p i) = true then a ||| bitI i else a) (nI (i + 1)) σ
    unfold Ni_neighbours_L4B Ni_neighbours_J25
    rw [show (8 : Int32) = nI 8 from rfl, if_neg (leN hn (by omega) (by omega)), gSt hc hp hi, bR_e, show (0 : Int32) = nI 0 from rfl, nI_1, bI_e, bI_e, bI_e]
    by_cases z : 0 < stq q p i
    · have hz : ¬ stq q p i ≤ 0 := by omega
      rw [if_neg (leN hz (by omega) (by omega)), if_pos (decide_eq_true z)]; rfl
    · have hz : stq q p i ≤ 0 := by omega
      rw [if_pos (leP hz (by omega) (by omega)), if_neg (by simpa using z)]
  · intro f a
    show Ni_neighbours_L4B N (Ni_neighbours_L4 N f) n (nI p) a (nI 8) σ = _
    unfold Ni_neighbours_L4B
    rw [show (8 : Int32) = nI 8 from rfl, if_pos (Int32.le_refl _)]
theorem mBeside {N : Nat} (hN : 300 < N) {q : QS} {σ : St} (hb : BD q) (h : RepM 115 0 q σ) {p : Nat} (hp : p < 8) : Mo_beside N (nI p) σ = some (mskI (fun i => decide (0 < stq q p i)) 8) := by
  unfold Mo_beside mskI
  refine loop_it (fun f i a => Mo_beside_L4 N f (nI p) a (nI i) σ) 8 _ some ?_ ?_ (by omega)
  · intro f i a hi
    have hs := stq_le hb hp hi
    have hn : ¬ 8 ≤ i := by omega
    show Mo_beside_L4B N (Mo_beside_L4 N f) (nI p) a (nI i) σ = Mo_beside_L4 N f (nI p) (if decide (0 < stq q p i) = true then a ||| bitI i else a) (nI (i + 1)) σ
    unfold Mo_beside_L4B Mo_beside_J27
    rw [show (8 : Int32) = nI 8 from rfl, if_neg (leN hn (by omega) (by omega)), mSt' h hp hi, bR_e, or0, nI_1, bI_e, bI_e, bI_e, bI_e, show (0 : Int32) = nI 0 from rfl]
    by_cases z : 0 < stq q p i
    · have hz : ¬ stq q p i ≤ 0 := by omega
      rw [if_neg (leN hz (by omega) (by omega)), if_pos (decide_eq_true z)]; rfl
    · have hz : stq q p i ≤ 0 := by omega
      rw [if_pos (leP hz (by omega) (by omega)), if_neg (by simpa using z)]
  · intro f a
    show Mo_beside_L4B N (Mo_beside_L4 N f) (nI p) a (nI 8) σ = _
    unfold Mo_beside_L4B
    rw [show (8 : Int32) = nI 8 from rfl, if_pos (Int32.le_refl _)]
theorem cGAt {N n : Nat} (hN : 300 < N) {q : QS} {σ : St} (hq : Okq q) (h : NR n q σ) {p : Nat} (hp : p < 8) : Ni_guestsAt N n (nI p) σ = some (mskI (fun i => decide (q (60 + i) = p)) (q 37)) := by
  have h37 := hq.b.2.2.1.1
  have e37 := h.cnt.2.1
  unfold Ni_guestsAt mskI
  refine loop_it (fun f i a => Ni_guestsAt_L4 N f n (nI p) a (nI i) σ) (q 37) _ some ?_ ?_ (by omega)
  · intro f i a hi
    have hx := (hq.b.2.2.1.2.1 i hi).2.2.2.2.2.1
    have hn : ¬ q 37 ≤ i := by omega
    show Ni_guestsAt_L4B N (Ni_guestsAt_L4 N f) n (nI p) a (nI i) σ = Ni_guestsAt_L4 N f n (nI p) (if decide (q (60 + i) = p) = true then a ||| bitI i else a) (nI (i + 1)) σ
    unfold Ni_guestsAt_L4B Ni_guestsAt_J31
    rw [e37, if_neg (leN hn (by omega) (by omega)), inI (by omega) (by decide), ck_t, clI (by omega), h.gst (by omega) (by decide) hi, nI_1, bI_e, bI_e, bI_e, show 44 + 4 * 4 + i = 60 + i by omega]
    by_cases z : q (60 + i) = p
    · rw [if_pos (by rw [z]), if_pos (decide_eq_true z)]; rfl
    · rw [if_neg (neI z (by omega) (by omega)), if_neg (by simpa using z)]
  · intro f a
    show Ni_guestsAt_L4B N (Ni_guestsAt_L4 N f) n (nI p) a (nI (q 37)) σ = _
    unfold Ni_guestsAt_L4B
    rw [e37, if_pos (Int32.le_refl _)]
theorem mGAt {N : Nat} (hN : 300 < N) {q : QS} {σ : St} (hq : Okq q) (h : RepM 115 0 q σ) {p : Nat} (hp : p < 8) : Mo_about_L57 N N (nI p) 0 0 σ = some (mskI (fun i => decide (q (60 + i) = p)) (q 37), σ) := by
  have h37 := hq.b.2.2.1.1
  have e37 : σ.1 115 (37 : Int32).toNatClampNeg = nI (q 37) := h.get (by decide)
  unfold mskI
  refine loop_it (fun f i a => Mo_about_L57 N f (nI p) a (nI i) σ) (q 37) _ (fun a => some (a, σ)) ?_ ?_ (by omega)
  · intro f i a hi
    have hx := (hq.b.2.2.1.2.1 i hi).2.2.2.2.2.1
    have hn : ¬ q 37 ≤ i := by omega
    show Mo_about_L57B N (Mo_about_L57 N f) (nI p) a (nI i) σ = Mo_about_L57 N f (nI p) (if decide (q (60 + i) = p) = true then a ||| bitI i else a) (nI (i + 1)) σ
    unfold Mo_about_L57B Mo_about_J92
    rw [e37, if_neg (leN hn (by omega) (by omega)), show (60 : Int32) = nI 60 from rfl, addI, inI (by omega) (by decide), ck_t, clI (by omega), h.get (by omega), nI_1, or0, bI_e, bI_e, bI_e, bI_e]
    by_cases z : q (60 + i) = p
    · rw [if_pos (by rw [z]), if_pos (decide_eq_true z)]; rfl
    · rw [if_neg (neI z (by omega) (by omega)), if_neg (by simpa using z)]
  · intro f a
    show Mo_about_L57B N (Mo_about_L57 N f) (nI p) a (nI (q 37)) σ = _
    unfold Mo_about_L57B
    rw [e37, if_pos (Int32.le_refl _)]
def tolB (q : QS) (i : Nat) : Bool := decide (q (52 + i) = q (48 + i))
theorem cTold {N n : Nat} (hN : 300 < N) {q : QS} {σ : St} (hq : Okq q) (h : NR n q σ) : Ni_toldBits N n σ = some (mskI (tolB q) (q 37)) := by
  have h37 := hq.b.2.2.1.1
  have e37 := h.cnt.2.1
  unfold Ni_toldBits mskI
  refine loop_it (fun f i a => Ni_toldBits_L4 N f n a (nI i) σ) (q 37) _ some ?_ ?_ (by omega)
  · intro f i a hi
    obtain ⟨c1, c2, c3, c4, -⟩ := hq.b.2.2.1.2.1 i hi
    have hn : ¬ q 37 ≤ i := by omega
    show Ni_toldBits_L4B N (Ni_toldBits_L4 N f) n a (nI i) σ = Ni_toldBits_L4 N f n (if tolB q i = true then a ||| bitI i else a) (nI (i + 1)) σ
    unfold Ni_toldBits_L4B Ni_toldBits_J30 Gu_isTold tolB
    rw [e37, if_neg (leN hn (by omega) (by omega)), inI (by omega) (by decide), ck_t, clI (by omega), h.gst (by omega) (by decide) hi, h.gst (by omega) (by decide) hi, nI_1, show 44 + 4 * 2 + i = 52 + i by omega, show 44 + 4 * 1 + i = 48 + i by omega]
    by_cases z : q (52 + i) = q (48 + i)
    · have hz : ¬ q (52 + i) < q (48 + i) := by omega
      rw [if_neg (ltN hz (by omega) (by omega)), bR_e, if_neg one_ne, bI_e, bI_e, if_pos (decide_eq_true z)]; rfl
    · have hz : q (52 + i) < q (48 + i) := by omega
      rw [if_pos (ltP hz (by omega) (by omega)), bR_e, if_pos rfl, bI_e, if_neg (by simpa using z)]
  · intro f a
    show Ni_toldBits_L4B N (Ni_toldBits_L4 N f) n a (nI (q 37)) σ = _
    unfold Ni_toldBits_L4B
    rw [e37, if_pos (Int32.le_refl _)]
theorem mTold {N : Nat} (hN : 300 < N) {q : QS} {σ : St} (hq : Okq q) (h : RepM 115 0 q σ) : Mo_counted_L110 N N 0 0 σ = some (mskI (tolB q) (q 37)) := by
  have h37 := hq.b.2.2.1.1
  have e37 : σ.1 115 (37 : Int32).toNatClampNeg = nI (q 37) := h.get (by decide)
  unfold mskI
  refine loop_it (fun f i a => Mo_counted_L110 N f a (nI i) σ) (q 37) _ some ?_ ?_ (by omega)
  · intro f i a hi
    obtain ⟨c1, c2, c3, c4, -⟩ := hq.b.2.2.1.2.1 i hi
    have hn : ¬ q 37 ≤ i := by omega
    show Mo_counted_L110B N (Mo_counted_L110 N f) a (nI i) σ = Mo_counted_L110 N f (if tolB q i = true then a ||| bitI i else a) (nI (i + 1)) σ
    unfold Mo_counted_L110B Mo_counted_J150 tolB
    rw [e37, if_neg (leN hn (by omega) (by omega)), show (52 : Int32) = nI 52 from rfl, show (48 : Int32) = nI 48 from rfl, addI, addI, inI (by omega) (by decide), ck_t, inI (by omega) (by decide), ck_t, clI (by omega), clI (by omega), h.get (by omega), h.get (by omega), nI_1, or0, bI_e, bI_e, bI_e, bI_e]
    by_cases z : q (52 + i) = q (48 + i)
    · rw [if_pos (by rw [z]), if_pos (decide_eq_true z)]; rfl
    · rw [if_neg (neI z (by omega) (by omega)), if_neg (by simpa using z)]
  · intro f a
    show Mo_counted_L110B N (Mo_counted_L110 N f) a (nI (q 37)) σ = _
    unfold Mo_counted_L110B
    rw [e37, if_pos (Int32.le_refl _)]
def sumI (q : QS) (w : Nat) : Int32 := itN (fun i acc => acc + nI (q (44 + 4 * w + i))) (q 37) 0
theorem factE {N c : Nat} {σ : St} {x : QS} (hx : ∀ f, f < 6 → σ.1 c f = nI (x f)) {k : Nat} (hk : k < 6) : Gu_fact N c (nI k) σ = some (nI (x k)) := by
  rw [← hx k hk]
  unfold Gu_fact
  match k, hk with
  | 0, _ => rw [if_pos (by decide)]
  | 1, _ => rw [if_neg (by decide), if_pos (by decide)]
  | 2, _ => rw [if_neg (by decide), if_neg (by decide), if_pos (by decide)]
  | 3, _ => rw [if_neg (by decide), if_neg (by decide), if_neg (by decide), if_pos (by decide)]
  | 4, _ => rw [if_neg (by decide), if_neg (by decide), if_neg (by decide), if_neg (by decide), if_pos (by decide)]
  | 5, _ => rw [if_neg (by decide), if_neg (by decide), if_neg (by decide), if_neg (by decide), if_neg (by decide)]
theorem cSum {N n : Nat} (hN : 300 < N) {q : QS} {σ : St} (hq : Okq q) (h : NR n q σ) {w : Nat} (hw : w < 6) : Ni_sum N n (nI w) σ = some (sumI q w) := by
  have h37 := hq.b.2.2.1.1
  have e37 := h.cnt.2.1
  unfold Ni_sum sumI
  refine loop_it (fun f i a => Ni_sum_L4 N f n (nI w) a (nI i) σ) (q 37) _ some ?_ ?_ (by omega)
  · intro f i a hi
    have hn : ¬ q 37 ≤ i := by omega
    show Ni_sum_L4B N (Ni_sum_L4 N f) n (nI w) a (nI i) σ = Ni_sum_L4 N f n (nI w) (a + nI (q (44 + 4 * w + i))) (nI (i + 1)) σ
    unfold Ni_sum_L4B
    rw [e37, if_neg (leN hn (by omega) (by omega)), inI (by omega) (by decide), ck_t, clI (by omega), factE (x := qX q i) (fun f hf => h.gst (by omega) hf hi) hw, bR_e, bI_e, nI_1, bI_e]; rfl
  · intro f a
    show Ni_sum_L4B N (Ni_sum_L4 N f) n (nI w) a (nI (q 37)) σ = _
    unfold Ni_sum_L4B
    rw [e37, if_pos (Int32.le_refl _)]
theorem mSum {N : Nat} (hN : 300 < N) {q : QS} {σ : St} (hq : Okq q) (h : RepM 115 0 q σ) {w k : Nat} (hk : k = 44 + 4 * w) (hw : w < 6) : Mo_sum N (nI k) (nI (q 37)) σ = some (sumI q w) := by
  have h37 := hq.b.2.2.1.1
  unfold Mo_sum sumI
  refine loop_it (fun f i a => Mo_sum_L5 N f (nI k) (nI (q 37)) a (nI i) σ) (q 37) _ some ?_ ?_ (by omega)
  · intro f i a hi
    have hn : ¬ q 37 ≤ i := by omega
    show Mo_sum_L5B N (Mo_sum_L5 N f) (nI k) (nI (q 37)) a (nI i) σ = Mo_sum_L5 N f (nI k) (nI (q 37)) (a + nI (q (44 + 4 * w + i))) (nI (i + 1)) σ
    unfold Mo_sum_L5B
    rw [if_neg (leN hn (by omega) (by omega)), addI, inI (by omega) (by decide), ck_t, clI (by omega), h.get (by omega), bI_e, nI_1, bI_e, hk]
  · intro f a
    show Mo_sum_L5B N (Mo_sum_L5 N f) (nI k) (nI (q 37)) a (nI (q 37)) σ = _
    unfold Mo_sum_L5B
    rw [if_pos (Int32.le_refl _)]
theorem sim_about (N : Nat) (hN : 300 < N) : Sim_about N Inv := by
  intro σ hI v1 v2
  obtain ⟨A, hO, hC, hM⟩ := hI
  have hq := hO.1
  have h36 := hO.1.2.1
  have h37 := hO.1.2.2.1
  by_cases h1 : (0 : Int) ≤ v1.toInt ∧ v1.toInt ≤ 7
  rotate_left
  · refine sim_ref (f := fun σ => Go_about N v1 v2 σ) (g := fun σ => Mo_about N v1 v2 σ) (r := -2) 0 (by decide) hO hC hM ?_ (fun σ1 m1 => ?_)
    · show Go_about N v1 v2 σ = _
      simp only [Go_about_J16, Go_about, gGu hO hC, gRo hO hC, gPl, bR_e, bW_e, gBad, gFarBad, eq_self, one_ne, if_true, if_false, not_false_eq_true, not_true_eq_false, wv_0 h1]
    · show Mo_about N v1 v2 σ1 = _
      simp only [Mo_about_J19, Mo_about_J92, Mo_about, mGu hO m1, mRo hO m1, mPl, bR_e, bW_e, mBad, eq_self, one_ne, if_true, if_false, not_false_eq_true, not_true_eq_false, wv_0 h1]
  by_cases h2 : (0 : Int) ≤ v2.toInt ∧ v2.toInt ≤ 2
  rotate_left
  · refine sim_ref (f := fun σ => Go_about N v1 v2 σ) (g := fun σ => Mo_about N v1 v2 σ) (r := -2) 0 (by decide) hO hC hM ?_ (fun σ1 m1 => ?_)
    · show Go_about N v1 v2 σ = _
      simp only [Go_about_J16, Go_about, gGu hO hC, gRo hO hC, gPl, bR_e, bW_e, gBad, gFarBad, eq_self, one_ne, if_true, if_false, not_false_eq_true, not_true_eq_false, wv_1 h1, gW2, wv_0 h2]
    · show Mo_about N v1 v2 σ1 = _
      simp only [Mo_about_J19, Mo_about_J92, Mo_about, mGu hO m1, mRo hO m1, mPl, bR_e, bW_e, mBad, eq_self, one_ne, if_true, if_false, not_false_eq_true, not_true_eq_false, wv_1 h1, mW2, wv_0 h2]
  obtain ⟨a1, -, b1, rfl⟩ := wv_nat (hi := 7) (by decide) h1
  obtain ⟨a2, c2, b2, rfl⟩ := wv_nat (hi := 2) (by decide) h2
  rcases (show a2 = 0 ∨ a2 = 1 ∨ a2 = 2 by omega) with rfl | rfl | rfl
  · refine sim_rd (f := fun σ => Go_about N (nI a1) (nI 0) σ) (g := fun σ => Mo_about N (nI a1) (nI 0) σ) (r := nI (A.1 a1)) hO hC hM ?_ (fun σ1 m1 => ?_)
    · show Go_about N (nI a1) (nI 0) σ = _
      simp only [Go_about, gGu hO hC, gRo hO hC, gPl, bR_e, bW_e, gBad, gFarBad, eq_self, one_ne, if_true, if_false, not_false_eq_true, not_true_eq_false, wv_1 h1, gW2, wv_1 h2]
      rw [if_pos (by decide), inI (by omega) (by decide), ck_t, clI (by omega)]
      rw [show σ.1 2 a1 = _ from hC.nr.dark (by omega)]
    · show Mo_about N (nI a1) (nI 0) σ1 = _
      simp only [Mo_about, mGu hO m1, mRo hO m1, mPl, bR_e, bW_e, mBad, eq_self, one_ne, if_true, if_false, not_false_eq_true, not_true_eq_false, wv_1 h1, mW2, wv_1 h2]
      rw [if_neg (by decide), if_pos (by decide), show (0 : Int32) = nI 0 from rfl, addI, Nat.zero_add, inI (by omega) (by decide), ck_t, clI (by omega), mr m1 (by omega)]
  · refine sim_rd (f := fun σ => Go_about N (nI a1) (nI 1) σ) (g := fun σ => Mo_about N (nI a1) (nI 1) σ) (r := mskI (fun i => decide (0 < stq A.1 a1 i)) 8) hO hC hM ?_ (fun σ1 m1 => ?_)
    · show Go_about N (nI a1) (nI 1) σ = _
      simp only [Go_about, gGu hO hC, gRo hO hC, gPl, bR_e, bW_e, gBad, gFarBad, eq_self, one_ne, if_true, if_false, not_false_eq_true, not_true_eq_false, wv_1 h1, gW2, wv_1 h2]
      rw [if_neg (by decide), if_pos (by decide), cNeigh hN hq.b.1 hC.1.2 (by omega), bR_e]
    · show Mo_about N (nI a1) (nI 1) σ1 = _
      simp only [Mo_about, mGu hO m1, mRo hO m1, mPl, bR_e, bW_e, mBad, eq_self, one_ne, if_true, if_false, not_false_eq_true, not_true_eq_false, wv_1 h1, mW2, wv_1 h2]
      rw [if_neg (by decide), if_neg (by decide), mBeside hN hq.b.1 m1.1 (by omega), bR_e]
  · refine sim_rd (f := fun σ => Go_about N (nI a1) (nI 2) σ) (g := fun σ => Mo_about N (nI a1) (nI 2) σ) (r := mskI (fun i => decide (A.1 (60 + i) = a1)) (A.1 37)) hO hC hM ?_ (fun σ1 m1 => ?_)
    · show Go_about N (nI a1) (nI 2) σ = _
      simp only [Go_about, gGu hO hC, gRo hO hC, gPl, bR_e, bW_e, gBad, gFarBad, eq_self, one_ne, if_true, if_false, not_false_eq_true, not_true_eq_false, wv_1 h1, gW2, wv_1 h2]
      rw [if_neg (by decide), if_neg (by decide), cGAt hN hq hC.nr (by omega), bR_e]
    · show Mo_about N (nI a1) (nI 2) σ1 = _
      simp only [Mo_about, mGu hO m1, mRo hO m1, mPl, bR_e, bW_e, mBad, eq_self, one_ne, if_true, if_false, not_false_eq_true, not_true_eq_false, wv_1 h1, mW2, wv_1 h2]
      rw [if_pos (by decide), mGAt hN hq m1.1 (by omega)]
