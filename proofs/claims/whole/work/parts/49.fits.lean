/-! bits of masks; what fits -/
def gB (x : Int32) (j : Nat) : Bool := x.toBitVec.getLsbD j
theorem gB_ext {x y : Int32} (h : ∀ j, j < 32 → gB x j = gB y j) : x = y := Int32.toBitVec_inj.mp (BitVec.eq_of_getLsbD_eq (fun j hj => h j hj))
theorem gB_or (x y : Int32) (j : Nat) : gB (x ||| y) j = (gB x j || gB y j) := by unfold gB; rw [Int32.toBitVec_or, BitVec.getLsbD_or]
theorem gB_and (x y : Int32) (j : Nat) : gB (x &&& y) j = (gB x j && gB y j) := by unfold gB; rw [Int32.toBitVec_and, BitVec.getLsbD_and]
theorem gB_xor (x y : Int32) (j : Nat) : gB (x ^^^ y) j = (gB x j ^^ gB y j) := by unfold gB; rw [Int32.toBitVec_xor, BitVec.getLsbD_xor]
theorem gB_m1 : ∀ j, j < 32 → gB (-1) j = true := by decide +kernel
theorem gB_0 (j : Nat) : gB 0 j = false := BitVec.getLsbD_zero
theorem bitI_tp : ∀ i, i < 32 → (bitI i).toBitVec = BitVec.twoPow 32 i := by decide +kernel
theorem gB_bit {i : Nat} (hi : i < 32) (j : Nat) : gB (bitI i) j = decide (i = j) := by
  unfold gB
  rw [bitI_tp i hi, BitVec.getLsbD_twoPow, decide_eq_true hi, Bool.true_and]
theorem gB_msk (b : Nat → Bool) {n : Nat} (hn : n ≤ 32) (j : Nat) : gB (mskI b n) j = (decide (j < n) && b j) := by
  induction n with
  | zero =>
    show gB 0 j = _
    rw [gB_0]; simp
  | succ n ih =>
    show gB (if b n = true then mskI b n ||| bitI n else mskI b n) j = _
    by_cases c : b n = true
    · rw [if_pos c, gB_or, ih (by omega), gB_bit (by omega)]
      by_cases e : n = j
      · subst e; simp [c]
      · have : (j < n + 1) = (j < n) := propext (by omega)
        simp [e, this]
    · rw [if_neg c, ih (by omega)]
      by_cases e : n = j
      · subst e; simp at c; simp [c]
      · have : (j < n + 1) = (j < n) := propext (by omega)
        simp [this]
theorem msk_keep (b : Nat → Bool) {n : Nat} (hn : n ≤ 31) : mskI b n &&& mskI (fun _ => true) n = mskI b n := gB_ext (fun j _ => by rw [gB_and, gB_msk _ (by omega), gB_msk _ (by omega)]; cases decide (j < n) <;> cases b j <;> rfl)
theorem msk_drop (b : Nat → Bool) {n t : Nat} (hn : n ≤ 31) (ht : t < n) : mskI b n &&& (bitI t ^^^ (-1)) = mskI (fun i => b i && !decide (t = i)) n :=
  gB_ext (fun j hj => by rw [gB_and, gB_xor, gB_m1 j hj, gB_msk _ (by omega), gB_msk _ (by omega), gB_bit (by omega)]; cases decide (j < n) <;> cases b j <;> cases decide (t = j) <;> rfl)
theorem msk_in (b : Nat → Bool) {n t : Nat} (hn : n ≤ 31) (ht : t < n) : (mskI b n &&& bitI t = 0) = (b t = false) := by
  apply propext
  constructor
  · intro h
    have := congrArg (fun x => gB x t) h
    simp only [gB_and, gB_0, gB_msk b (show n ≤ 32 by omega), gB_bit (show t < 32 by omega)] at this
    simpa [ht] using this
  · intro h
    refine gB_ext (fun j hj => ?_)
    rw [gB_and, gB_0, gB_msk b (by omega), gB_bit (by omega)]
    by_cases e : t = j
    · subst e; simp [h]
    · simp [e]
theorem shr_0 (x : Int32) {k : Nat} (hk : k < 31) : gB (x >>> (nI k &&& 31)) 0 = gB x k := by
  unfold gB
  rw [Int32.toBitVec_shiftRight]
  show (x.toBitVec.sshiftRight ((nI k &&& 31).toBitVec.smod 32).toNat).getLsbD 0 = _
  rw [(by decide +kernel : ∀ n, n < 31 → ((nI n &&& 31).toBitVec.smod 32).toNat = n) k hk, BitVec.getLsbD_sshiftRight]
  simp [show k < 32 by omega]
theorem and1 (x : Int32) : (x &&& 1 = 1) = (gB x 0 = true) := by
  rw [pk_and x 1 (by decide)]
  unfold gB
  rw [show x.toBitVec.getLsbD 0 = x.toBitVec.toNat.testBit 0 from rfl, Nat.testBit_zero, show (1 : Int32) = nI 1 from rfl, eqI (by omega) (by omega)]
  simp
theorem msk_two (b : Nat → Bool) {n s t : Nat} (hn : n ≤ 31) (hs : s < n) (ht : t < n) : (((mskI b n >>> (nI s &&& 31)) &&& (mskI b n >>> (nI t &&& 31))) &&& 1 = 1) = (b s = true ∧ b t = true) := by
  rw [and1, gB_and, shr_0 _ (by omega), shr_0 _ (by omega), gB_msk b (by omega), gB_msk b (by omega)]
  simp [hs, ht]
theorem msk_zero (b : Nat → Bool) {n : Nat} (hn : n ≤ 31) : (mskI b n = 0) = (∀ t, t < n → b t = false) := by
  apply propext
  constructor
  · intro h t ht
    have := congrArg (fun x => gB x t) h
    simp only [gB_0, gB_msk b (show n ≤ 32 by omega)] at this
    simpa [ht] using this
  · intro h
    refine gB_ext (fun j hj => ?_)
    rw [gB_0, gB_msk b (by omega)]
    by_cases e : j < n
    · simp [h j e]
    · simp [e]
def allB (f : Nat → Bool) : Nat → Bool
  | 0 => true
  | n + 1 => allB f n && f n
theorem allB_no {f : Nat → Bool} {n i : Nat} (hi : i < n) (h : f i = false) : allB f n = false := by
  induction n with
  | zero => omega
  | succ n ih =>
    show (allB f n && f n) = false
    by_cases e : i = n
    · subst e; rw [h, Bool.and_false]
    · rw [ih (by omega), Bool.false_and]
theorem loop_exA {α ρ : Type} (L : Nat → Nat → α → Option ρ) (n : Nat) (I : Nat → α → Prop) (Q : Option ρ → Prop)
    (step : ∀ f i a, i < n → I i a → Q (L (f + 1) i a) ∨ ∃ a', L (f + 1) i a = L f (i + 1) a' ∧ I (i + 1) a') (fin : ∀ f a, I n a → Q (L (f + 1) n a)) :
    ∀ (d i fuel : Nat) (a : α), i + d = n → d < fuel → I i a → Q (L fuel i a) := by
  intro d
  induction d with
  | zero =>
    intro i fuel a h1 h2 h3
    obtain ⟨f, rfl⟩ : ∃ f, fuel = f + 1 := ⟨fuel - 1, by omega⟩
    obtain rfl : i = n := by omega
    exact fin f a h3
  | succ d ih =>
    intro i fuel a h1 h2 h3
    obtain ⟨f, rfl⟩ : ∃ f, fuel = f + 1 := ⟨fuel - 1, by omega⟩
    rcases step f i a (by omega) h3 with e | ⟨a', e, h4⟩
    · exact e
    · rw [e]
      exact ih (i + 1) f a' (by omega) (by omega) h4
theorem loop_ex {α ρ : Type} (L : Nat → Nat → α → Option ρ) (n : Nat) (I : Nat → α → Prop) (Q : Option ρ → Prop)
    (step : ∀ f i a, i < n → I i a → Q (L (f + 1) i a) ∨ ∃ a', L (f + 1) i a = L f (i + 1) a' ∧ I (i + 1) a') (fin : ∀ f a, I n a → Q (L (f + 1) n a)) {fuel : Nat} {a : α} (hf : n < fuel) (h0 : I 0 a) : Q (L fuel 0 a) :=
  loop_exA L n I Q step fin n 0 fuel a (by omega) hf h0
theorem tCell {N t : Nat} {σ : St} {w S : Nat} {x : Nat → Nat} (hw : σ.1 t 0 = nI w) (hl : S * w ≤ lnn (t + 1)) (hb : lnn (t + 1) < 300) (hx : ∀ j, j < S * w → σ.1 (t + 1) j = nI (x j)) {k c : Nat} (hk : k < S) (hc : c < w) : Ta_cell N t (nI k) (nI c) σ = some (nI (x (k * w + c))) := by
  have h1 : (k + 1) * w ≤ S * w := Nat.mul_le_mul_right w (by omega)
  have h2 : (k + 1) * w = k * w + w := Nat.succ_mul k w
  unfold Ta_cell
  rw [hw, mulI, addI, inI (by omega) (by omega), ck_t, clI (by omega), hx _ (by omega)]
def okT (q : QS) (r t k : Nat) : Bool := decide (q (69 + 4 * k) = r → toldN (q (38 + r)) t (q (70 + 4 * k)) (q (71 + 4 * k)) = q (72 + 4 * k))
def fitT (q : QS) (r t : Nat) : Bool := allB (okT q r t) (q 68)
theorem cFitT {N n : Nat} (hN : 300 < N) {q : QS} {σ : St} (hq : Okq q) (h : NR n q σ) (hl : lnn (n + 6) = 20 ∧ lnn (n + 8) = 36 ∧ lnn (n + 10) = 30) {r t : Nat} (hr : r < q 36) (hr4 : r < 4) (ht : t < 10) : Gs_tongueFits N n (nI r) (nI t) σ = some (if fitT q r t = true then 1 else 0) := by
  obtain ⟨b1, b2, b3, b4, b5, b6, b7⟩ := hq.b
  obtain ⟨t4, t5, t6⟩ := NR.tabs hq h
  obtain ⟨w4, w5, w6⟩ := h.2
  obtain ⟨d1, d2, d4, d5, d6, d7⟩ := h.cnt
  have hS := b4.1
  have hll : lnn (n + 5 + 1) = 20 := hl.1
  have tc : ∀ k c, k < q 68 → c < 4 → Ta_cell N (n + 5) (nI k) (nI c) σ = some (nI (q (69 + (k * 4 + c)))) := fun k c hk hc => tCell (S := q 68) (x := fun j => q (69 + j)) w4.1 (by rw [hll]; omega) (by rw [hll]; decide) t4 hk hc
  have hr3 := b2.1
  obtain ⟨r1, r2⟩ := h.row (r := r) (by omega) hr
  have hkd := (b2.2 r hr).1
  unfold Gs_tongueFits
  rw [inI (by omega) (by decide), ck_t, clI (by omega), r1, bI_e]
  refine loop_ex (fun f i (_ : Unit) => Gs_tongueFits_L20 N f (nI r) (nI t) (n + 5) (nI (q (38 + r))) (nI i) σ) (q 68) (fun i _ => allB (okT q r t) i = true) (fun o => o = some (if fitT q r t = true then 1 else 0)) ?_ ?_ (a := ()) (by omega) rfl
  · intro f k u hk hI
    have hn : ¬ q 68 ≤ k := by omega
    have hrow := b4.2 k hk
    have go : okT q r t k = true → Gs_tongueFits_L20B N (Gs_tongueFits_L20 N f) (nI r) (nI t) (n + 5) (nI (q (38 + r))) (nI k) σ = Gs_tongueFits_L20 N f (nI r) (nI t) (n + 5) (nI (q (38 + r))) (nI (k + 1)) σ → (Gs_tongueFits_L20B N (Gs_tongueFits_L20 N f) (nI r) (nI t) (n + 5) (nI (q (38 + r))) (nI k) σ = some (if fitT q r t = true then 1 else 0) ∨ ∃ u : Unit, Gs_tongueFits_L20B N (Gs_tongueFits_L20 N f) (nI r) (nI t) (n + 5) (nI (q (38 + r))) (nI k) σ = Gs_tongueFits_L20 N f (nI r) (nI t) (n + 5) (nI (q (38 + r))) (nI (k + 1)) σ ∧ allB (okT q r t) (k + 1) = true) := fun h1 h2 => Or.inr ⟨(), h2, by show (allB (okT q r t) k && okT q r t k) = true; rw [hI, h1]; rfl⟩
    show Gs_tongueFits_L20B N (Gs_tongueFits_L20 N f) (nI r) (nI t) (n + 5) (nI (q (38 + r))) (nI k) σ = _ ∨ ∃ u : Unit, Gs_tongueFits_L20B N (Gs_tongueFits_L20 N f) (nI r) (nI t) (n + 5) (nI (q (38 + r))) (nI k) σ = Gs_tongueFits_L20 N f (nI r) (nI t) (n + 5) (nI (q (38 + r))) (nI (k + 1)) σ ∧ _
    have e0 : Gs_tongueFits_L20B N (Gs_tongueFits_L20 N f) (nI r) (nI t) (n + 5) (nI (q (38 + r))) (nI k) σ = if nI (q (69 + 4 * k)) = nI r then (if nI (toldN (q (38 + r)) t (q (70 + 4 * k)) (q (71 + 4 * k))) = nI (q (72 + 4 * k)) then Gs_tongueFits_L20 N f (nI r) (nI t) (n + 5) (nI (q (38 + r))) (nI (k + 1)) σ else some 0) else Gs_tongueFits_L20 N f (nI r) (nI t) (n + 5) (nI (q (38 + r))) (nI (k + 1)) σ := by
      unfold Gs_tongueFits_L20B Gs_tongueFits_J77
      rw [d4, if_neg (leN hn (by omega) (by omega))]
      simp only [(show Ta_cell N (n + 5) (nI k) 0 σ = some (nI (q (69 + 4 * k))) by rw [show (0 : Int32) = nI 0 from rfl, tc k 0 hk (by decide), show 69 + (k * 4 + 0) = 69 + 4 * k by omega]), (show Ta_cell N (n + 5) (nI k) 1 σ = some (nI (q (70 + 4 * k))) by rw [show (1 : Int32) = nI 1 from rfl, tc k 1 hk (by decide), show 69 + (k * 4 + 1) = 70 + 4 * k by omega]), (show Ta_cell N (n + 5) (nI k) 2 σ = some (nI (q (71 + 4 * k))) by rw [show (2 : Int32) = nI 2 from rfl, tc k 2 hk (by decide), show 69 + (k * 4 + 2) = 71 + 4 * k by omega]), (show Ta_cell N (n + 5) (nI k) 3 σ = some (nI (q (72 + 4 * k))) by rw [show (3 : Int32) = nI 3 from rfl, tc k 3 hk (by decide), show 69 + (k * 4 + 3) = 72 + 4 * k by omega]), bR_e, bI_e, nI_1]
      rw [told_c (by omega) (by omega) (by omega) (by omega)]
    have hv := toldN_lt (kd := q (38 + r)) (tg := t) (d := q (70 + 4 * k)) (s := q (71 + 4 * k)) (by omega) (by omega)
    by_cases z : q (69 + 4 * k) = r
    · by_cases y : toldN (q (38 + r)) t (q (70 + 4 * k)) (q (71 + 4 * k)) = q (72 + 4 * k)
      · exact go (decide_eq_true (fun _ => y)) (by rw [e0, if_pos (by rw [z]), if_pos (by rw [y])])
      · left
        rw [e0, if_pos (by rw [z]), if_neg (neI y (by omega) (by omega)), if_neg]
        unfold fitT
        rw [allB_no hk (decide_eq_false (fun w => y (w z)))]; decide
    · exact go (decide_eq_true (fun w => absurd w z)) (by rw [e0, if_neg (neI z (by omega) (by omega))])
  · intro f u hI
    show Gs_tongueFits_L20B N (Gs_tongueFits_L20 N f) (nI r) (nI t) (n + 5) (nI (q (38 + r))) (nI (q 68)) σ = _
    unfold Gs_tongueFits_L20B
    rw [d4, if_pos (Int32.le_refl _), if_pos (show fitT q r t = true from hI)]
theorem cLeftT {N n : Nat} (hN : 300 < N) {q : QS} {σ : St} (hq : Okq q) (h : NR n q σ) (hl : lnn (n + 6) = 20 ∧ lnn (n + 8) = 36 ∧ lnn (n + 10) = 30) {r : Nat} (hr : r < q 36) (hr4 : r < 4) : Gs_tonguesLeft N n (nI r) σ = some (mskI (fitT q r) 10) := by
  unfold Gs_tonguesLeft mskI
  refine loop_it (fun f i a => Gs_tonguesLeft_L5 N f n (nI r) a (nI i) σ) 10 _ some ?_ ?_ (by omega)
  · intro f i a hi
    have hn : ¬ 10 ≤ i := by omega
    show Gs_tonguesLeft_L5B N (Gs_tonguesLeft_L5 N f) n (nI r) a (nI i) σ = Gs_tonguesLeft_L5 N f n (nI r) (if fitT q r i = true then a ||| bitI i else a) (nI (i + 1)) σ
    unfold Gs_tonguesLeft_L5B Gs_tonguesLeft_J30
    rw [show (10 : Int32) = nI 10 from rfl, if_neg (leN hn (by omega) (by omega)), cFitT hN hq h hl hr hr4 (by omega), bR_e, nI_1, bI_e, bI_e, bI_e]
    by_cases z : fitT q r i = true
    · rw [if_pos z, if_neg one_ne, if_pos z]; rfl
    · rw [if_neg z, if_pos rfl, if_neg z]
  · intro f a
    show Gs_tonguesLeft_L5B N (Gs_tonguesLeft_L5 N f) n (nI r) a (nI 10) σ = _
    unfold Gs_tonguesLeft_L5B
    rw [show (10 : Int32) = nI 10 from rfl, if_pos (Int32.le_refl _)]
theorem mLeftT {N : Nat} (hN : 300 < N) {q : QS} {σ : St} (hq : Okq q) (h : RepM 115 0 q σ) {r : Nat} (hr : r < q 36) : Mo_tonguesOf N (nI r) σ = some (mskI (fitT q r) 10) := by
  obtain ⟨b1, b2, b3, b4, b5, b6, b7⟩ := hq.b
  have hS := b4.1
  have hr3 := b2.1
  have hg4 := b3.1
  have eC : σ.1 115 (68 : Int32).toNatClampNeg = nI (q 68) := h.get (by decide)
  unfold Mo_tonguesOf fitT
  rw [show (1023 : Int32) = mskI (fun _ => true) 10 by decide +kernel]
  refine loop_up (fun f i a => Mo_tonguesOf_L6 N f (nI r) a (nI i) σ) (q 68) (fun k a => a = mskI (fun t => allB (okT q r t) k) 10) (fun o => o = some (mskI (fun t => allB (okT q r t) (q 68)) 10)) ?_ ?_ (by omega) rfl
  · intro f k a hk hI
    subst hI
    have hn : ¬ q 68 ≤ k := by omega
    have hrow := b4.2 k hk
    refine ⟨mskI (fun t => allB (okT q r t) (k + 1)) 10, ?_, rfl⟩
    show Mo_tonguesOf_L6B N (Mo_tonguesOf_L6 N f) (nI r) _ (nI k) σ = _
    unfold Mo_tonguesOf_L6B
    rw [eC, if_neg (leN hn (by omega) (by omega)), show (4 : Int32) = nI 4 from rfl, mulI, show (69 : Int32) = nI 69 from rfl, addI, bI_e]
    by_cases z : q (69 + 4 * k) = r
    · refine loop_up (fun f' t a => Mo_tonguesOf_L28 N (Mo_tonguesOf_L6 N f) f' (nI r) a (nI k) (nI (69 + 4 * k)) (nI t) σ) 10 (fun t a => a = mskI (fun t' => allB (okT q r t') k && (decide (t ≤ t') || okT q r t' k)) 10) (fun o => o = Mo_tonguesOf_L6 N f (nI r) (mskI (fun t => allB (okT q r t) (k + 1)) 10) (nI (k + 1)) σ) ?_ ?_ (by omega) ?_
      · intro f' t a ht hI
        have hn2 : ¬ 10 ≤ t := by omega
        have hv := toldN_lt (kd := q (38 + r)) (tg := t) (d := q (70 + 4 * k)) (s := q (71 + 4 * k)) (by omega) (by omega)
        refine ⟨mskI (fun t' => allB (okT q r t') k && (decide (t + 1 ≤ t') || okT q r t' k)) 10, ?_, rfl⟩
        show Mo_tonguesOf_L28B N (Mo_tonguesOf_L6 N f) (Mo_tonguesOf_L28 N (Mo_tonguesOf_L6 N f) f') (nI r) a (nI k) (nI (69 + 4 * k)) (nI t) σ = Mo_tonguesOf_L28 N (Mo_tonguesOf_L6 N f) f' (nI r) _ (nI k) (nI (69 + 4 * k)) (nI (t + 1)) σ
        unfold Mo_tonguesOf_L28B Mo_tonguesOf_J103
        rw [show (10 : Int32) = nI 10 from rfl, if_neg (leN hn2 (by omega) (by omega)), inI (by omega) (by decide), ck_t, clI (by omega), h.get (by omega), if_pos (by rw [z])]
        have hkd := (b2.2 r hr).1
        rw [show (38 : Int32) = nI 38 from rfl, addI, inI (by omega) (by decide), ck_t, show (1 : Int32) = nI 1 from rfl, show (2 : Int32) = nI 2 from rfl, show (3 : Int32) = nI 3 from rfl, addI, addI, addI, inI (by omega) (by decide), ck_t, inI (by omega) (by decide), ck_t, inI (by omega) (by decide), ck_t, clI (by omega), clI (by omega), clI (by omega), clI (by omega), h.get (by omega), h.get (by omega), h.get (by omega), h.get (by omega), show 69 + 4 * k + 1 = 70 + 4 * k by omega, show 69 + 4 * k + 2 = 71 + 4 * k by omega, show 69 + 4 * k + 3 = 72 + 4 * k by omega, told_m (by omega) (by omega) (by omega) (by omega), show nI 1 = (1 : Int32) from rfl]
        by_cases y : toldN (q (38 + r)) t (q (70 + 4 * k)) (q (71 + 4 * k)) = q (72 + 4 * k)
        · rw [if_pos (by rw [y]), bI_e, nI_1, bI_e, hI, show (1023 : Int32) = mskI (fun _ => true) 10 by decide +kernel, msk_keep _ (by decide)]
          congr 1
          apply mskI_congr
          intro t' _
          congr 1
          by_cases e : t = t'
          · subst e
            rw [show okT q r t k = true from decide_eq_true (fun _ => y)]; simp
          · rw [show decide (t ≤ t') = decide (t + 1 ≤ t') from decide_eq_decide.mpr (by omega)]
        · rw [if_neg (neI y (by omega) (by omega)), bI_e, nI_1, bI_e, hI]
          have := msk_drop (fun t' => allB (okT q r t') k && (decide (t ≤ t') || okT q r t' k)) (n := 10) (t := t) (by decide) ht
          unfold bitI at this
          rw [this]
          congr 1
          apply mskI_congr
          intro t' _
          by_cases e : t = t'
          · subst e
            rw [show okT q r t k = false from decide_eq_false (fun w => y (w z))]; simp
          · rw [show decide (t ≤ t') = decide (t + 1 ≤ t') from decide_eq_decide.mpr (by omega), decide_eq_false e]; simp
      · intro f' a hI
        show Mo_tonguesOf_L28B N (Mo_tonguesOf_L6 N f) (Mo_tonguesOf_L28 N (Mo_tonguesOf_L6 N f) f') (nI r) a (nI k) (nI (69 + 4 * k)) (nI 10) σ = _
        unfold Mo_tonguesOf_L28B Mo_tonguesOf_J111
        rw [show (10 : Int32) = nI 10 from rfl, if_pos (Int32.le_refl _), nI_1, bI_e, hI]
        refine congrArg (fun z => Mo_tonguesOf_L6 N f (nI r) z (nI (k + 1)) σ) (mskI_congr (fun t' ht' => ?_))
        rw [decide_eq_false (by omega)]
        show _ = (allB (okT q r t') k && okT q r t' k)
        rw [Bool.false_or]
      · apply mskI_congr
        intro t' _
        rw [decide_eq_true (Nat.zero_le _)]; simp
    · obtain ⟨m, rfl⟩ : ∃ m, N = m + 1 := ⟨N - 1, by omega⟩
      show Mo_tonguesOf_L28B (m + 1) (Mo_tonguesOf_L6 (m + 1) f) (Mo_tonguesOf_L28 (m + 1) (Mo_tonguesOf_L6 (m + 1) f) m) (nI r) _ (nI k) (nI (69 + 4 * k)) 0 σ = _
      unfold Mo_tonguesOf_L28B Mo_tonguesOf_J111
      rw [if_neg (by decide), inI (by omega) (by decide), ck_t, clI (by omega), h.get (by omega), if_neg (neI z (by omega) (by omega)), nI_1, bI_e]
      congr 1
      apply mskI_congr
      intro t' _
      show _ = (allB (okT q r t') k && okT q r t' k)
      rw [show okT q r t' k = true from decide_eq_true (fun w => absurd w z), Bool.and_true]
  · intro f a hI
    show Mo_tonguesOf_L6B N (Mo_tonguesOf_L6 N f) (nI r) a (nI (q 68)) σ = _
    unfold Mo_tonguesOf_L6B
    rw [eC, if_pos (Int32.le_refl _), hI]
def okG (q : QS) (r t k : Nat) : Bool := decide (q (90 + 6 * k) = r → hurtN t (q (91 + 6 * k)) (q (92 + 6 * k)) (q (93 + 6 * k)) (q (94 + 6 * k)) = q (95 + 6 * k))
def fitG (q : QS) (r t : Nat) : Bool := allB (okG q r t) (q 89)
theorem cFitG {N n : Nat} (hN : 300 < N) {q : QS} {σ : St} (hq : Okq q) (h : NR n q σ) (hl : lnn (n + 6) = 20 ∧ lnn (n + 8) = 36 ∧ lnn (n + 10) = 30) {r t : Nat}  (hr4 : r < 4) (ht : t < 10) : Gs_guestKindFits N (n + 7) (nI r) (nI t) σ = some (if fitG q r t = true then 1 else 0) := by
  obtain ⟨b1, b2, b3, b4, b5, b6, b7⟩ := hq.b
  obtain ⟨t4, t5, t6⟩ := NR.tabs hq h
  obtain ⟨w4, w5, w6⟩ := h.2
  obtain ⟨d1, d2, d4, d5, d6, d7⟩ := h.cnt
  have hS := b5.1
  have hll : lnn (n + 7 + 1) = 36 := hl.2.1
  have tc : ∀ k c, k < q 89 → c < 6 → Ta_cell N (n + 7) (nI k) (nI c) σ = some (nI (q (90 + (k * 6 + c)))) := fun k c hk hc => tCell (S := q 89) (x := fun j => q (90 + j)) w5.1 (by rw [hll]; omega) (by rw [hll]; decide) t5 hk hc
  unfold Gs_guestKindFits
  refine loop_ex (fun f i (_ : Unit) => Gs_guestKindFits_L3 N f (n + 7) (nI r) (nI t) (nI i) σ) (q 89) (fun i _ => allB (okG q r t) i = true) (fun o => o = some (if fitG q r t = true then 1 else 0)) ?_ ?_ (a := ()) (by omega) rfl
  · intro f k u hk hI
    have hn : ¬ q 89 ≤ k := by omega
    have hrow := b5.2 k hk
    have go : okG q r t k = true → Gs_guestKindFits_L3B N (Gs_guestKindFits_L3 N f) (n + 7) (nI r) (nI t) (nI k) σ = Gs_guestKindFits_L3 N f (n + 7) (nI r) (nI t) (nI (k + 1)) σ → (Gs_guestKindFits_L3B N (Gs_guestKindFits_L3 N f) (n + 7) (nI r) (nI t) (nI k) σ = some (if fitG q r t = true then 1 else 0) ∨ ∃ u : Unit, Gs_guestKindFits_L3B N (Gs_guestKindFits_L3 N f) (n + 7) (nI r) (nI t) (nI k) σ = Gs_guestKindFits_L3 N f (n + 7) (nI r) (nI t) (nI (k + 1)) σ ∧ allB (okG q r t) (k + 1) = true) := fun h1 h2 => Or.inr ⟨(), h2, by show (allB (okG q r t) k && okG q r t k) = true; rw [hI, h1]; rfl⟩
    show Gs_guestKindFits_L3B N (Gs_guestKindFits_L3 N f) (n + 7) (nI r) (nI t) (nI k) σ = _ ∨ ∃ u : Unit, Gs_guestKindFits_L3B N (Gs_guestKindFits_L3 N f) (n + 7) (nI r) (nI t) (nI k) σ = Gs_guestKindFits_L3 N f (n + 7) (nI r) (nI t) (nI (k + 1)) σ ∧ _
    have e0 : Gs_guestKindFits_L3B N (Gs_guestKindFits_L3 N f) (n + 7) (nI r) (nI t) (nI k) σ = if nI (q (90 + 6 * k)) = nI r then (if nI (hurtN t (q (91 + 6 * k)) (q (92 + 6 * k)) (q (93 + 6 * k)) (q (94 + 6 * k))) = nI (q (95 + 6 * k)) then Gs_guestKindFits_L3 N f (n + 7) (nI r) (nI t) (nI (k + 1)) σ else some 0) else Gs_guestKindFits_L3 N f (n + 7) (nI r) (nI t) (nI (k + 1)) σ := by
      unfold Gs_guestKindFits_L3B Gs_guestKindFits_J74
      rw [d5, if_neg (leN hn (by omega) (by omega))]
      simp only [(show Ta_cell N (n + 7) (nI k) 0 σ = some (nI (q (90 + 6 * k))) by rw [show (0 : Int32) = nI 0 from rfl, tc k 0 hk (by decide), show 90 + (k * 6 + 0) = 90 + 6 * k by omega]), (show Ta_cell N (n + 7) (nI k) 1 σ = some (nI (q (91 + 6 * k))) by rw [show (1 : Int32) = nI 1 from rfl, tc k 1 hk (by decide), show 90 + (k * 6 + 1) = 91 + 6 * k by omega]), (show Ta_cell N (n + 7) (nI k) 2 σ = some (nI (q (92 + 6 * k))) by rw [show (2 : Int32) = nI 2 from rfl, tc k 2 hk (by decide), show 90 + (k * 6 + 2) = 92 + 6 * k by omega]), (show Ta_cell N (n + 7) (nI k) 3 σ = some (nI (q (93 + 6 * k))) by rw [show (3 : Int32) = nI 3 from rfl, tc k 3 hk (by decide), show 90 + (k * 6 + 3) = 93 + 6 * k by omega]), (show Ta_cell N (n + 7) (nI k) 4 σ = some (nI (q (94 + 6 * k))) by rw [show (4 : Int32) = nI 4 from rfl, tc k 4 hk (by decide), show 90 + (k * 6 + 4) = 94 + 6 * k by omega]), (show Ta_cell N (n + 7) (nI k) 5 σ = some (nI (q (95 + 6 * k))) by rw [show (5 : Int32) = nI 5 from rfl, tc k 5 hk (by decide), show 90 + (k * 6 + 5) = 95 + 6 * k by omega]), bR_e, bI_e, nI_1]
      rw [hurt_c (by omega) (by omega) (by omega) (by omega) (by omega)]
    have hv := hurtN_lt (kd := t) (h := q (91 + 6 * k)) (k := q (92 + 6 * k)) (m := q (93 + 6 * k)) (d := q (94 + 6 * k)) (by omega) (by omega)
    by_cases z : q (90 + 6 * k) = r
    · by_cases y : hurtN t (q (91 + 6 * k)) (q (92 + 6 * k)) (q (93 + 6 * k)) (q (94 + 6 * k)) = q (95 + 6 * k)
      · exact go (decide_eq_true (fun _ => y)) (by rw [e0, if_pos (by rw [z]), if_pos (by rw [y])])
      · left
        rw [e0, if_pos (by rw [z]), if_neg (neI y (by omega) (by omega)), if_neg]
        unfold fitG
        rw [allB_no hk (decide_eq_false (fun w => y (w z)))]; decide
    · exact go (decide_eq_true (fun w => absurd w z)) (by rw [e0, if_neg (neI z (by omega) (by omega))])
  · intro f u hI
    show Gs_guestKindFits_L3B N (Gs_guestKindFits_L3 N f) (n + 7) (nI r) (nI t) (nI (q 89)) σ = _
    unfold Gs_guestKindFits_L3B
    rw [d5, if_pos (Int32.le_refl _), if_pos (show fitG q r t = true from hI)]
theorem cLeftG {N n : Nat} (hN : 300 < N) {q : QS} {σ : St} (hq : Okq q) (h : NR n q σ) (hl : lnn (n + 6) = 20 ∧ lnn (n + 8) = 36 ∧ lnn (n + 10) = 30) {r : Nat}  (hr4 : r < 4) : Gs_guestKindsLeft N n (nI r) σ = some (mskI (fitG q r) 6) := by
  unfold Gs_guestKindsLeft mskI
  refine loop_it (fun f i a => Gs_guestKindsLeft_L5 N f n (nI r) a (nI i) σ) 6 _ some ?_ ?_ (by omega)
  · intro f i a hi
    have hn : ¬ 6 ≤ i := by omega
    show Gs_guestKindsLeft_L5B N (Gs_guestKindsLeft_L5 N f) n (nI r) a (nI i) σ = Gs_guestKindsLeft_L5 N f n (nI r) (if fitG q r i = true then a ||| bitI i else a) (nI (i + 1)) σ
    unfold Gs_guestKindsLeft_L5B Gs_guestKindsLeft_J33
    rw [show (6 : Int32) = nI 6 from rfl, if_neg (leN hn (by omega) (by omega)), cFitG hN hq h hl hr4 (by omega), bR_e, nI_1, bI_e, bI_e, bI_e]
    by_cases z : fitG q r i = true
    · rw [if_pos z, if_neg one_ne, if_pos z]; rfl
    · rw [if_neg z, if_pos rfl, if_neg z]
  · intro f a
    show Gs_guestKindsLeft_L5B N (Gs_guestKindsLeft_L5 N f) n (nI r) a (nI 6) σ = _
    unfold Gs_guestKindsLeft_L5B
    rw [show (6 : Int32) = nI 6 from rfl, if_pos (Int32.le_refl _)]
theorem mLeftG {N : Nat} (hN : 300 < N) {q : QS} {σ : St} (hq : Okq q) (h : RepM 115 0 q σ) {r : Nat} (hr : r < q 37) : Mo_guestsOf N (nI r) σ = some (mskI (fitG q r) 6) := by
  obtain ⟨b1, b2, b3, b4, b5, b6, b7⟩ := hq.b
  have hS := b5.1
  have hr3 := b2.1
  have hg4 := b3.1
  have eC : σ.1 115 (89 : Int32).toNatClampNeg = nI (q 89) := h.get (by decide)
  unfold Mo_guestsOf fitG
  rw [show (63 : Int32) = mskI (fun _ => true) 6 by decide +kernel]
  refine loop_up (fun f i a => Mo_guestsOf_L5 N f (nI r) a (nI i) σ) (q 89) (fun k a => a = mskI (fun t => allB (okG q r t) k) 6) (fun o => o = some (mskI (fun t => allB (okG q r t) (q 89)) 6)) ?_ ?_ (by omega) rfl
  · intro f k a hk hI
    subst hI
    have hn : ¬ q 89 ≤ k := by omega
    have hrow := b5.2 k hk
    refine ⟨mskI (fun t => allB (okG q r t) (k + 1)) 6, ?_, rfl⟩
    show Mo_guestsOf_L5B N (Mo_guestsOf_L5 N f) (nI r) _ (nI k) σ = _
    unfold Mo_guestsOf_L5B
    rw [eC, if_neg (leN hn (by omega) (by omega)), show (6 : Int32) = nI 6 from rfl, mulI, show (90 : Int32) = nI 90 from rfl, addI, bI_e]
    by_cases z : q (90 + 6 * k) = r
    · refine loop_up (fun f' t a => Mo_guestsOf_L28 N (Mo_guestsOf_L5 N f) f' (nI r) a (nI k) (nI (90 + 6 * k)) (nI t) σ) 6 (fun t a => a = mskI (fun t' => allB (okG q r t') k && (decide (t ≤ t') || okG q r t' k)) 6) (fun o => o = Mo_guestsOf_L5 N f (nI r) (mskI (fun t => allB (okG q r t) (k + 1)) 6) (nI (k + 1)) σ) ?_ ?_ (by omega) ?_
      · intro f' t a ht hI
        have hn2 : ¬ 6 ≤ t := by omega
        have hv := hurtN_lt (kd := t) (h := q (91 + 6 * k)) (k := q (92 + 6 * k)) (m := q (93 + 6 * k)) (d := q (94 + 6 * k)) (by omega) (by omega)
        refine ⟨mskI (fun t' => allB (okG q r t') k && (decide (t + 1 ≤ t') || okG q r t' k)) 6, ?_, rfl⟩
        show Mo_guestsOf_L28B N (Mo_guestsOf_L5 N f) (Mo_guestsOf_L28 N (Mo_guestsOf_L5 N f) f') (nI r) a (nI k) (nI (90 + 6 * k)) (nI t) σ = Mo_guestsOf_L28 N (Mo_guestsOf_L5 N f) f' (nI r) _ (nI k) (nI (90 + 6 * k)) (nI (t + 1)) σ
        unfold Mo_guestsOf_L28B Mo_guestsOf_J111
        rw [show (6 : Int32) = nI 6 from rfl, if_neg (leN hn2 (by omega) (by omega)), inI (by omega) (by decide), ck_t, clI (by omega), h.get (by omega), if_pos (by rw [z])]
        rw [show (1 : Int32) = nI 1 from rfl, show (2 : Int32) = nI 2 from rfl, show (3 : Int32) = nI 3 from rfl, show (4 : Int32) = nI 4 from rfl, show (5 : Int32) = nI 5 from rfl, addI, addI, addI, addI, addI, inI (by omega) (by decide), ck_t, inI (by omega) (by decide), ck_t, inI (by omega) (by decide), ck_t, inI (by omega) (by decide), ck_t, inI (by omega) (by decide), ck_t, clI (by omega), clI (by omega), clI (by omega), clI (by omega), clI (by omega), h.get (by omega), h.get (by omega), h.get (by omega), h.get (by omega), h.get (by omega), show 90 + 6 * k + 1 = 91 + 6 * k by omega, show 90 + 6 * k + 2 = 92 + 6 * k by omega, show 90 + 6 * k + 3 = 93 + 6 * k by omega, show 90 + 6 * k + 4 = 94 + 6 * k by omega, show 90 + 6 * k + 5 = 95 + 6 * k by omega, hurt_m (by omega) (by omega) (by omega) (by omega) (by omega), show nI 1 = (1 : Int32) from rfl]
        by_cases y : hurtN t (q (91 + 6 * k)) (q (92 + 6 * k)) (q (93 + 6 * k)) (q (94 + 6 * k)) = q (95 + 6 * k)
        · rw [if_pos (by rw [y]), bI_e, nI_1, bI_e, hI, show (63 : Int32) = mskI (fun _ => true) 6 by decide +kernel, msk_keep _ (by decide)]
          congr 1
          apply mskI_congr
          intro t' _
          congr 1
          by_cases e : t = t'
          · subst e
            rw [show okG q r t k = true from decide_eq_true (fun _ => y)]; simp
          · rw [show decide (t ≤ t') = decide (t + 1 ≤ t') from decide_eq_decide.mpr (by omega)]
        · rw [if_neg (neI y (by omega) (by omega)), bI_e, nI_1, bI_e, hI]
          have := msk_drop (fun t' => allB (okG q r t') k && (decide (t ≤ t') || okG q r t' k)) (n := 6) (t := t) (by decide) ht
          unfold bitI at this
          rw [this]
          congr 1
          apply mskI_congr
          intro t' _
          by_cases e : t = t'
          · subst e
            rw [show okG q r t k = false from decide_eq_false (fun w => y (w z))]; simp
          · rw [show decide (t ≤ t') = decide (t + 1 ≤ t') from decide_eq_decide.mpr (by omega), decide_eq_false e]; simp
      · intro f' a hI
        show Mo_guestsOf_L28B N (Mo_guestsOf_L5 N f) (Mo_guestsOf_L28 N (Mo_guestsOf_L5 N f) f') (nI r) a (nI k) (nI (90 + 6 * k)) (nI 6) σ = _
        unfold Mo_guestsOf_L28B Mo_guestsOf_J119
        rw [show (6 : Int32) = nI 6 from rfl, if_pos (Int32.le_refl _), nI_1, bI_e, hI]
        refine congrArg (fun z => Mo_guestsOf_L5 N f (nI r) z (nI (k + 1)) σ) (mskI_congr (fun t' ht' => ?_))
        rw [decide_eq_false (by omega)]
        show _ = (allB (okG q r t') k && okG q r t' k)
        rw [Bool.false_or]
      · apply mskI_congr
        intro t' _
        rw [decide_eq_true (Nat.zero_le _)]; simp
    · obtain ⟨m, rfl⟩ : ∃ m, N = m + 1 := ⟨N - 1, by omega⟩
      show Mo_guestsOf_L28B (m + 1) (Mo_guestsOf_L5 (m + 1) f) (Mo_guestsOf_L28 (m + 1) (Mo_guestsOf_L5 (m + 1) f) m) (nI r) _ (nI k) (nI (90 + 6 * k)) 0 σ = _
      unfold Mo_guestsOf_L28B Mo_guestsOf_J119
      rw [if_neg (by decide), inI (by omega) (by decide), ck_t, clI (by omega), h.get (by omega), if_neg (neI z (by omega) (by omega)), nI_1, bI_e]
      congr 1
      apply mskI_congr
      intro t' _
      show _ = (allB (okG q r t') k && okG q r t' k)
      rw [show okG q r t' k = true from decide_eq_true (fun w => absurd w z), Bool.and_true]
  · intro f a hI
    show Mo_guestsOf_L5B N (Mo_guestsOf_L5 N f) (nI r) a (nI (q 89)) σ = _
    unfold Mo_guestsOf_L5B
    rw [eC, if_pos (Int32.le_refl _), hI]
def okR (q : QS) (r t k : Nat) : Bool := decide (q (127 + 5 * k) = r → toldN t (q (128 + 5 * k)) (q (129 + 5 * k)) (q (130 + 5 * k)) = q (131 + 5 * k))
def fitR (q : QS) (r t : Nat) : Bool := allB (okR q r t) (q 126)
theorem cFitR {N n : Nat} (hN : 300 < N) {q : QS} {σ : St} (hq : Okq q) (h : NR n q σ) (hl : lnn (n + 6) = 20 ∧ lnn (n + 8) = 36 ∧ lnn (n + 10) = 30) {r t : Nat}  (hr4 : r < 4) (ht : t < 10) : Gs_rowerKindFits N (n + 9) (nI r) (nI t) σ = some (if fitR q r t = true then 1 else 0) := by
  obtain ⟨b1, b2, b3, b4, b5, b6, b7⟩ := hq.b
  obtain ⟨t4, t5, t6⟩ := NR.tabs hq h
  obtain ⟨w4, w5, w6⟩ := h.2
  obtain ⟨d1, d2, d4, d5, d6, d7⟩ := h.cnt
  have hS := b6.1
  have hll : lnn (n + 9 + 1) = 30 := hl.2.2
  have tc : ∀ k c, k < q 126 → c < 5 → Ta_cell N (n + 9) (nI k) (nI c) σ = some (nI (q (127 + (k * 5 + c)))) := fun k c hk hc => tCell (S := q 126) (x := fun j => q (127 + j)) w6.1 (by rw [hll]; omega) (by rw [hll]; decide) t6 hk hc
  unfold Gs_rowerKindFits
  refine loop_ex (fun f i (_ : Unit) => Gs_rowerKindFits_L3 N f (n + 9) (nI r) (nI t) (nI i) σ) (q 126) (fun i _ => allB (okR q r t) i = true) (fun o => o = some (if fitR q r t = true then 1 else 0)) ?_ ?_ (a := ()) (by omega) rfl
  · intro f k u hk hI
    have hn : ¬ q 126 ≤ k := by omega
    have hrow := b6.2 k hk
    have go : okR q r t k = true → Gs_rowerKindFits_L3B N (Gs_rowerKindFits_L3 N f) (n + 9) (nI r) (nI t) (nI k) σ = Gs_rowerKindFits_L3 N f (n + 9) (nI r) (nI t) (nI (k + 1)) σ → (Gs_rowerKindFits_L3B N (Gs_rowerKindFits_L3 N f) (n + 9) (nI r) (nI t) (nI k) σ = some (if fitR q r t = true then 1 else 0) ∨ ∃ u : Unit, Gs_rowerKindFits_L3B N (Gs_rowerKindFits_L3 N f) (n + 9) (nI r) (nI t) (nI k) σ = Gs_rowerKindFits_L3 N f (n + 9) (nI r) (nI t) (nI (k + 1)) σ ∧ allB (okR q r t) (k + 1) = true) := fun h1 h2 => Or.inr ⟨(), h2, by show (allB (okR q r t) k && okR q r t k) = true; rw [hI, h1]; rfl⟩
    show Gs_rowerKindFits_L3B N (Gs_rowerKindFits_L3 N f) (n + 9) (nI r) (nI t) (nI k) σ = _ ∨ ∃ u : Unit, Gs_rowerKindFits_L3B N (Gs_rowerKindFits_L3 N f) (n + 9) (nI r) (nI t) (nI k) σ = Gs_rowerKindFits_L3 N f (n + 9) (nI r) (nI t) (nI (k + 1)) σ ∧ _
    have e0 : Gs_rowerKindFits_L3B N (Gs_rowerKindFits_L3 N f) (n + 9) (nI r) (nI t) (nI k) σ = if nI (q (127 + 5 * k)) = nI r then (if nI (toldN t (q (128 + 5 * k)) (q (129 + 5 * k)) (q (130 + 5 * k))) = nI (q (131 + 5 * k)) then Gs_rowerKindFits_L3 N f (n + 9) (nI r) (nI t) (nI (k + 1)) σ else some 0) else Gs_rowerKindFits_L3 N f (n + 9) (nI r) (nI t) (nI (k + 1)) σ := by
      unfold Gs_rowerKindFits_L3B Gs_rowerKindFits_J67
      rw [d6, if_neg (leN hn (by omega) (by omega))]
      simp only [(show Ta_cell N (n + 9) (nI k) 0 σ = some (nI (q (127 + 5 * k))) by rw [show (0 : Int32) = nI 0 from rfl, tc k 0 hk (by decide), show 127 + (k * 5 + 0) = 127 + 5 * k by omega]), (show Ta_cell N (n + 9) (nI k) 1 σ = some (nI (q (128 + 5 * k))) by rw [show (1 : Int32) = nI 1 from rfl, tc k 1 hk (by decide), show 127 + (k * 5 + 1) = 128 + 5 * k by omega]), (show Ta_cell N (n + 9) (nI k) 2 σ = some (nI (q (129 + 5 * k))) by rw [show (2 : Int32) = nI 2 from rfl, tc k 2 hk (by decide), show 127 + (k * 5 + 2) = 129 + 5 * k by omega]), (show Ta_cell N (n + 9) (nI k) 3 σ = some (nI (q (130 + 5 * k))) by rw [show (3 : Int32) = nI 3 from rfl, tc k 3 hk (by decide), show 127 + (k * 5 + 3) = 130 + 5 * k by omega]), (show Ta_cell N (n + 9) (nI k) 4 σ = some (nI (q (131 + 5 * k))) by rw [show (4 : Int32) = nI 4 from rfl, tc k 4 hk (by decide), show 127 + (k * 5 + 4) = 131 + 5 * k by omega]), bR_e, bI_e, nI_1]
      rw [told_c (by omega) (by omega) (by omega) (by omega)]
    have hv := toldN_lt (kd := t) (tg := q (128 + 5 * k)) (d := q (129 + 5 * k)) (s := q (130 + 5 * k)) (by omega) (by omega)
    by_cases z : q (127 + 5 * k) = r
    · by_cases y : toldN t (q (128 + 5 * k)) (q (129 + 5 * k)) (q (130 + 5 * k)) = q (131 + 5 * k)
      · exact go (decide_eq_true (fun _ => y)) (by rw [e0, if_pos (by rw [z]), if_pos (by rw [y])])
      · left
        rw [e0, if_pos (by rw [z]), if_neg (neI y (by omega) (by omega)), if_neg]
        unfold fitR
        rw [allB_no hk (decide_eq_false (fun w => y (w z)))]; decide
    · exact go (decide_eq_true (fun w => absurd w z)) (by rw [e0, if_neg (neI z (by omega) (by omega))])
  · intro f u hI
    show Gs_rowerKindFits_L3B N (Gs_rowerKindFits_L3 N f) (n + 9) (nI r) (nI t) (nI (q 126)) σ = _
    unfold Gs_rowerKindFits_L3B
    rw [d6, if_pos (Int32.le_refl _), if_pos (show fitR q r t = true from hI)]
theorem cLeftR {N n : Nat} (hN : 300 < N) {q : QS} {σ : St} (hq : Okq q) (h : NR n q σ) (hl : lnn (n + 6) = 20 ∧ lnn (n + 8) = 36 ∧ lnn (n + 10) = 30) {r : Nat}  (hr4 : r < 4) : Gs_rowerKindsLeft N n (nI r) σ = some (mskI (fitR q r) 6) := by
  unfold Gs_rowerKindsLeft mskI
  refine loop_it (fun f i a => Gs_rowerKindsLeft_L5 N f n (nI r) a (nI i) σ) 6 _ some ?_ ?_ (by omega)
  · intro f i a hi
    have hn : ¬ 6 ≤ i := by omega
    show Gs_rowerKindsLeft_L5B N (Gs_rowerKindsLeft_L5 N f) n (nI r) a (nI i) σ = Gs_rowerKindsLeft_L5 N f n (nI r) (if fitR q r i = true then a ||| bitI i else a) (nI (i + 1)) σ
    unfold Gs_rowerKindsLeft_L5B Gs_rowerKindsLeft_J33
    rw [show (6 : Int32) = nI 6 from rfl, if_neg (leN hn (by omega) (by omega)), cFitR hN hq h hl hr4 (by omega), bR_e, nI_1, bI_e, bI_e, bI_e]
    by_cases z : fitR q r i = true
    · rw [if_pos z, if_neg one_ne, if_pos z]; rfl
    · rw [if_neg z, if_pos rfl, if_neg z]
  · intro f a
    show Gs_rowerKindsLeft_L5B N (Gs_rowerKindsLeft_L5 N f) n (nI r) a (nI 6) σ = _
    unfold Gs_rowerKindsLeft_L5B
    rw [show (6 : Int32) = nI 6 from rfl, if_pos (Int32.le_refl _)]
theorem mLeftR {N : Nat} (hN : 300 < N) {q : QS} {σ : St} (hq : Okq q) (h : RepM 115 0 q σ) {r : Nat} (hr : r < q 36) : Mo_rowersOf N (nI r) σ = some (mskI (fitR q r) 6) := by
  obtain ⟨b1, b2, b3, b4, b5, b6, b7⟩ := hq.b
  have hS := b6.1
  have hr3 := b2.1
  have hg4 := b3.1
  have eC : σ.1 115 (126 : Int32).toNatClampNeg = nI (q 126) := h.get (by decide)
  unfold Mo_rowersOf fitR
  rw [show (63 : Int32) = mskI (fun _ => true) 6 by decide +kernel]
  refine loop_up (fun f i a => Mo_rowersOf_L5 N f (nI r) a (nI i) σ) (q 126) (fun k a => a = mskI (fun t => allB (okR q r t) k) 6) (fun o => o = some (mskI (fun t => allB (okR q r t) (q 126)) 6)) ?_ ?_ (by omega) rfl
  · intro f k a hk hI
    subst hI
    have hn : ¬ q 126 ≤ k := by omega
    have hrow := b6.2 k hk
    refine ⟨mskI (fun t => allB (okR q r t) (k + 1)) 6, ?_, rfl⟩
    show Mo_rowersOf_L5B N (Mo_rowersOf_L5 N f) (nI r) _ (nI k) σ = _
    unfold Mo_rowersOf_L5B
    rw [eC, if_neg (leN hn (by omega) (by omega)), show (5 : Int32) = nI 5 from rfl, mulI, show (127 : Int32) = nI 127 from rfl, addI, bI_e]
    by_cases z : q (127 + 5 * k) = r
    · refine loop_up (fun f' t a => Mo_rowersOf_L27 N (Mo_rowersOf_L5 N f) f' (nI r) a (nI k) (nI (127 + 5 * k)) (nI t) σ) 6 (fun t a => a = mskI (fun t' => allB (okR q r t') k && (decide (t ≤ t') || okR q r t' k)) 6) (fun o => o = Mo_rowersOf_L5 N f (nI r) (mskI (fun t => allB (okR q r t) (k + 1)) 6) (nI (k + 1)) σ) ?_ ?_ (by omega) ?_
      · intro f' t a ht hI
        have hn2 : ¬ 6 ≤ t := by omega
        have hv := toldN_lt (kd := t) (tg := q (128 + 5 * k)) (d := q (129 + 5 * k)) (s := q (130 + 5 * k)) (by omega) (by omega)
        refine ⟨mskI (fun t' => allB (okR q r t') k && (decide (t + 1 ≤ t') || okR q r t' k)) 6, ?_, rfl⟩
        show Mo_rowersOf_L27B N (Mo_rowersOf_L5 N f) (Mo_rowersOf_L27 N (Mo_rowersOf_L5 N f) f') (nI r) a (nI k) (nI (127 + 5 * k)) (nI t) σ = Mo_rowersOf_L27 N (Mo_rowersOf_L5 N f) f' (nI r) _ (nI k) (nI (127 + 5 * k)) (nI (t + 1)) σ
        unfold Mo_rowersOf_L27B Mo_rowersOf_J101
        rw [show (6 : Int32) = nI 6 from rfl, if_neg (leN hn2 (by omega) (by omega)), inI (by omega) (by decide), ck_t, clI (by omega), h.get (by omega), if_pos (by rw [z])]
        rw [show (1 : Int32) = nI 1 from rfl, show (2 : Int32) = nI 2 from rfl, show (3 : Int32) = nI 3 from rfl, show (4 : Int32) = nI 4 from rfl, addI, addI, addI, addI, inI (by omega) (by decide), ck_t, inI (by omega) (by decide), ck_t, inI (by omega) (by decide), ck_t, inI (by omega) (by decide), ck_t, clI (by omega), clI (by omega), clI (by omega), clI (by omega), h.get (by omega), h.get (by omega), h.get (by omega), h.get (by omega), show 127 + 5 * k + 1 = 128 + 5 * k by omega, show 127 + 5 * k + 2 = 129 + 5 * k by omega, show 127 + 5 * k + 3 = 130 + 5 * k by omega, show 127 + 5 * k + 4 = 131 + 5 * k by omega, told_m (by omega) (by omega) (by omega) (by omega), show nI 1 = (1 : Int32) from rfl]
        by_cases y : toldN t (q (128 + 5 * k)) (q (129 + 5 * k)) (q (130 + 5 * k)) = q (131 + 5 * k)
        · rw [if_pos (by rw [y]), bI_e, nI_1, bI_e, hI, show (63 : Int32) = mskI (fun _ => true) 6 by decide +kernel, msk_keep _ (by decide)]
          congr 1
          apply mskI_congr
          intro t' _
          congr 1
          by_cases e : t = t'
          · subst e
            rw [show okR q r t k = true from decide_eq_true (fun _ => y)]; simp
          · rw [show decide (t ≤ t') = decide (t + 1 ≤ t') from decide_eq_decide.mpr (by omega)]
        · rw [if_neg (neI y (by omega) (by omega)), bI_e, nI_1, bI_e, hI]
          have := msk_drop (fun t' => allB (okR q r t') k && (decide (t ≤ t') || okR q r t' k)) (n := 6) (t := t) (by decide) ht
          unfold bitI at this
          rw [this]
          congr 1
          apply mskI_congr
          intro t' _
          by_cases e : t = t'
          · subst e
            rw [show okR q r t k = false from decide_eq_false (fun w => y (w z))]; simp
          · rw [show decide (t ≤ t') = decide (t + 1 ≤ t') from decide_eq_decide.mpr (by omega), decide_eq_false e]; simp
      · intro f' a hI
        show Mo_rowersOf_L27B N (Mo_rowersOf_L5 N f) (Mo_rowersOf_L27 N (Mo_rowersOf_L5 N f) f') (nI r) a (nI k) (nI (127 + 5 * k)) (nI 6) σ = _
        unfold Mo_rowersOf_L27B Mo_rowersOf_J109
        rw [show (6 : Int32) = nI 6 from rfl, if_pos (Int32.le_refl _), nI_1, bI_e, hI]
        refine congrArg (fun z => Mo_rowersOf_L5 N f (nI r) z (nI (k + 1)) σ) (mskI_congr (fun t' ht' => ?_))
        rw [decide_eq_false (by omega)]
        show _ = (allB (okR q r t') k && okR q r t' k)
        rw [Bool.false_or]
      · apply mskI_congr
        intro t' _
        rw [decide_eq_true (Nat.zero_le _)]; simp
    · obtain ⟨m, rfl⟩ : ∃ m, N = m + 1 := ⟨N - 1, by omega⟩
      show Mo_rowersOf_L27B (m + 1) (Mo_rowersOf_L5 (m + 1) f) (Mo_rowersOf_L27 (m + 1) (Mo_rowersOf_L5 (m + 1) f) m) (nI r) _ (nI k) (nI (127 + 5 * k)) 0 σ = _
      unfold Mo_rowersOf_L27B Mo_rowersOf_J109
      rw [if_neg (by decide), inI (by omega) (by decide), ck_t, clI (by omega), h.get (by omega), if_neg (neI z (by omega) (by omega)), nI_1, bI_e]
      congr 1
      apply mskI_congr
      intro t' _
      show _ = (allB (okR q r t') k && okR q r t' k)
      rw [show okR q r t' k = true from decide_eq_true (fun w => absurd w z), Bool.and_true]
  · intro f a hI
    show Mo_rowersOf_L5B N (Mo_rowersOf_L5 N f) (nI r) a (nI (q 126)) σ = _
    unfold Mo_rowersOf_L5B
    rw [eC, if_pos (Int32.le_refl _), hI]
theorem LN1 : lnn (1 + 6) = 20 ∧ lnn (1 + 8) = 36 ∧ lnn (1 + 10) = 30 := ⟨rfl, rfl, rfl⟩
theorem sim_tongues (N : Nat) (hN : 300 < N) : Sim_tongues N Inv := by
  intro σ hI v1
  obtain ⟨A, hO, hC, hM⟩ := hI
  have hq := hO.1
  have h36 := hO.1.2.1
  have h37 := hO.1.2.2.1
  by_cases h1 : (0 : Int) ≤ v1.toInt ∧ v1.toInt ≤ (A.1 36 : Int) - 1
  rotate_left
  · refine sim_ref (f := fun σ => Go_tongues N v1 σ) (g := fun σ => Mo_tongues N v1 σ) (r := -2) 0 (by decide) hO hC hM ?_ (fun σ1 m1 => ?_)
    · show Go_tongues N v1 σ = _
      simp only [Go_tongues, gGu hO hC, gRo hO hC, gPl, bR_e, bW_e, gBad, gFarBad, eq_self, one_ne, if_true, if_false, not_false_eq_true, not_true_eq_false, wv_0 h1]
    · show Mo_tongues N v1 σ1 = _
      simp only [Mo_tongues, mGu hO m1, mRo hO m1, mPl, bR_e, bW_e, mBad, eq_self, one_ne, if_true, if_false, not_false_eq_true, not_true_eq_false, wv_0 h1]
  obtain ⟨a1, b1, rfl⟩ := wv_lt h1
  refine sim_rd (f := fun σ => Go_tongues N (nI a1) σ) (g := fun σ => Mo_tongues N (nI a1) σ) (r := mskI (fitT A.1 a1) 10) hO hC hM ?_ (fun σ1 m1 => ?_)
  · show Go_tongues N (nI a1) σ = _
    simp only [Go_tongues, gGu hO hC, gRo hO hC, gPl, bR_e, bW_e, gBad, gFarBad, eq_self, one_ne, if_true, if_false, not_false_eq_true, not_true_eq_false, wv_1 h1]
    rw [cLeftT hN hq hC.nr LN1 b1 (by omega), bR_e]
  · show Mo_tongues N (nI a1) σ1 = _
    simp only [Mo_tongues, mGu hO m1, mRo hO m1, mPl, bR_e, bW_e, mBad, eq_self, one_ne, if_true, if_false, not_false_eq_true, not_true_eq_false, wv_1 h1]
    rw [mLeftT hN hq m1.1 b1, bR_e]
theorem sim_is (N : Nat) (hN : 300 < N) : Sim_is N Inv := by
  intro σ hI v1
  obtain ⟨A, hO, hC, hM⟩ := hI
  have hq := hO.1
  have h36 := hO.1.2.1
  have h37 := hO.1.2.2.1
  by_cases h1 : (0 : Int) ≤ v1.toInt ∧ v1.toInt ≤ (A.1 37 : Int) - 1
  rotate_left
  · refine sim_ref (f := fun σ => Go_is N v1 σ) (g := fun σ => Mo_is N v1 σ) (r := -2) 0 (by decide) hO hC hM ?_ (fun σ1 m1 => ?_)
    · show Go_is N v1 σ = _
      simp only [Go_is, gGu hO hC, gRo hO hC, gPl, bR_e, bW_e, gBad, gFarBad, eq_self, one_ne, if_true, if_false, not_false_eq_true, not_true_eq_false, wv_0 h1]
    · show Mo_is N v1 σ1 = _
      simp only [Mo_is, mGu hO m1, mRo hO m1, mPl, bR_e, bW_e, mBad, eq_self, one_ne, if_true, if_false, not_false_eq_true, not_true_eq_false, wv_0 h1]
  obtain ⟨a1, b1, rfl⟩ := wv_lt h1
  refine sim_rd (f := fun σ => Go_is N (nI a1) σ) (g := fun σ => Mo_is N (nI a1) σ) (r := mskI (fitG A.1 a1) 6) hO hC hM ?_ (fun σ1 m1 => ?_)
  · show Go_is N (nI a1) σ = _
    simp only [Go_is, gGu hO hC, gRo hO hC, gPl, bR_e, bW_e, gBad, gFarBad, eq_self, one_ne, if_true, if_false, not_false_eq_true, not_true_eq_false, wv_1 h1]
    rw [cLeftG hN hq hC.nr LN1 (by omega), bR_e]
  · show Mo_is N (nI a1) σ1 = _
    simp only [Mo_is, mGu hO m1, mRo hO m1, mPl, bR_e, bW_e, mBad, eq_self, one_ne, if_true, if_false, not_false_eq_true, not_true_eq_false, wv_1 h1]
    rw [mLeftG hN hq m1.1 b1, bR_e]
theorem sim_kinds (N : Nat) (hN : 300 < N) : Sim_kinds N Inv := by
  intro σ hI v1
  obtain ⟨A, hO, hC, hM⟩ := hI
  have hq := hO.1
  have h36 := hO.1.2.1
  have h37 := hO.1.2.2.1
  by_cases h1 : (0 : Int) ≤ v1.toInt ∧ v1.toInt ≤ (A.1 36 : Int) - 1
  rotate_left
  · refine sim_ref (f := fun σ => Go_kinds N v1 σ) (g := fun σ => Mo_kinds N v1 σ) (r := -2) 0 (by decide) hO hC hM ?_ (fun σ1 m1 => ?_)
    · show Go_kinds N v1 σ = _
      simp only [Go_kinds, gGu hO hC, gRo hO hC, gPl, bR_e, bW_e, gBad, gFarBad, eq_self, one_ne, if_true, if_false, not_false_eq_true, not_true_eq_false, wv_0 h1]
    · show Mo_kinds N v1 σ1 = _
      simp only [Mo_kinds, mGu hO m1, mRo hO m1, mPl, bR_e, bW_e, mBad, eq_self, one_ne, if_true, if_false, not_false_eq_true, not_true_eq_false, wv_0 h1]
  obtain ⟨a1, b1, rfl⟩ := wv_lt h1
  refine sim_rd (f := fun σ => Go_kinds N (nI a1) σ) (g := fun σ => Mo_kinds N (nI a1) σ) (r := mskI (fitR A.1 a1) 6) hO hC hM ?_ (fun σ1 m1 => ?_)
  · show Go_kinds N (nI a1) σ = _
    simp only [Go_kinds, gGu hO hC, gRo hO hC, gPl, bR_e, bW_e, gBad, gFarBad, eq_self, one_ne, if_true, if_false, not_false_eq_true, not_true_eq_false, wv_1 h1]
    rw [cLeftR hN hq hC.nr LN1 (by omega), bR_e]
  · show Mo_kinds N (nI a1) σ1 = _
    simp only [Mo_kinds, mGu hO m1, mRo hO m1, mPl, bR_e, bW_e, mBad, eq_self, one_ne, if_true, if_false, not_false_eq_true, not_true_eq_false, wv_1 h1]
    rw [mLeftR hN hq m1.1 b1, bR_e]
