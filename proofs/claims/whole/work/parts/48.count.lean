/-! count and digest -/
theorem bc8 : ∀ b0 b1 b2 b3 b4 b5 b6 b7 : Bool, Jn_bitCount (mskI (fun i => [b0, b1, b2, b3, b4, b5, b6, b7].getD i false) 8) = nI (b0.toNat + b1.toNat + b2.toNat + b3.toNat + b4.toNat + b5.toNat + b6.toNat + b7.toNat) := by decide +kernel
theorem bcM (b : Nat → Bool) : Jn_bitCount (mskI b 8) = nI ((b 0).toNat + (b 1).toNat + (b 2).toNat + (b 3).toNat + (b 4).toNat + (b 5).toNat + (b 6).toNat + (b 7).toNat) := by
  rw [← bc8 (b 0) (b 1) (b 2) (b 3) (b 4) (b 5) (b 6) (b 7)]
  rfl
def isC (q : QS) (k : Nat) : Nat := (decide (0 < q k)).toNat
theorem isC_le (q : QS) (k : Nat) : isC q k ≤ 1 := Bool.toNat_le _
theorem tnS (q : QS) (p i : Nat) : (decide (0 < stq q p i)).toNat = if p = i then 0 else isC q (cnl p i) := by
  unfold stq isC
  by_cases z : p = i
  · rw [if_pos z, if_pos z]; rfl
  · rw [if_neg z, if_neg z]
def cans (q : QS) : Nat := isC q 8 + isC q 9 + isC q 10 + isC q 11 + isC q 12 + isC q 13 + isC q 14 + isC q 15 + isC q 16 + isC q 17 + isC q 18 + isC q 19 + isC q 20 + isC q 21 + isC q 22 + isC q 23 + isC q 24 + isC q 25 + isC q 26 + isC q 27 + isC q 28 + isC q 29 + isC q 30 + isC q 31 + isC q 32 + isC q 33 + isC q 34 + isC q 35
theorem cCanals {N n : Nat} (hN : 300 < N) {q : QS} {σ : St} (hb : BD q) (hc : CanC n q σ) : Ni_canalCount N n σ = some (nI (cans q)) := by
  have h : Ni_canalCount N n σ = some (itN (fun p acc => acc + Jn_bitCount (mskI (fun i => decide (0 < stq q p i)) 8)) 8 0 / 2) := by
    unfold Ni_canalCount
    refine loop_it (fun f i a => Ni_canalCount_L4 N f n a (nI i) σ) 8 _ (fun a => some (a / 2)) ?_ ?_ (by omega)
    · intro f i a hi
      have hn : ¬ 8 ≤ i := by omega
      show Ni_canalCount_L4B N (Ni_canalCount_L4 N f) n a (nI i) σ = Ni_canalCount_L4 N f n (a + Jn_bitCount (mskI (fun j => decide (0 < stq q i j)) 8)) (nI (i + 1)) σ
      unfold Ni_canalCount_L4B
      rw [show (8 : Int32) = nI 8 from rfl, if_neg (leN hn (by omega) (by omega)), cNeigh hN hb hc hi, bR_e, bI_e, nI_1, bI_e]
    · intro f a
      show Ni_canalCount_L4B N (Ni_canalCount_L4 N f) n a (nI 8) σ = _
      unfold Ni_canalCount_L4B
      rw [show (8 : Int32) = nI 8 from rfl, if_pos (Int32.le_refl _)]; rfl
  rw [h]
  congr 1
  simp only [itN, bcM, tnS]
  rw [show (0 : Int32) = nI 0 from rfl, show (2 : Int32) = nI 2 from rfl]
  simp only [addI]
  simp only [cnl, Nat.reduceLT, Nat.reduceEqDiff, if_true, if_false, Nat.reduceMul, Nat.reduceAdd, Nat.reduceSub, Nat.reduceDiv, Nat.zero_add, Nat.add_zero, Nat.not_lt_zero, reduceCtorEq, Nat.lt_irrefl]
  have h8 := isC_le q 8
  have h9 := isC_le q 9
  have h10 := isC_le q 10
  have h11 := isC_le q 11
  have h12 := isC_le q 12
  have h13 := isC_le q 13
  have h14 := isC_le q 14
  have h15 := isC_le q 15
  have h16 := isC_le q 16
  have h17 := isC_le q 17
  have h18 := isC_le q 18
  have h19 := isC_le q 19
  have h20 := isC_le q 20
  have h21 := isC_le q 21
  have h22 := isC_le q 22
  have h23 := isC_le q 23
  have h24 := isC_le q 24
  have h25 := isC_le q 25
  have h26 := isC_le q 26
  have h27 := isC_le q 27
  have h28 := isC_le q 28
  have h29 := isC_le q 29
  have h30 := isC_le q 30
  have h31 := isC_le q 31
  have h32 := isC_le q 32
  have h33 := isC_le q 33
  have h34 := isC_le q 34
  have h35 := isC_le q 35
  rw [divI (by omega) (by decide) (by decide)]
  congr 1
  unfold cans
  omega
theorem mCanals {N : Nat} (hN : 300 < N) {q : QS} {σ : St} (hb : BD q) (h : RepM 115 0 q σ) : Mo_counted_L58 N N 0 0 σ = some (nI (cans q)) := by
  have h : Mo_counted_L58 N N 0 0 σ = some (itN (fun k acc => acc + nI (isC q (8 + k))) 28 0) := by
    refine loop_it (fun f i a => Mo_counted_L58 N f a (nI i) σ) 28 _ some ?_ ?_ (by omega)
    · intro f i a hi
      have hn : ¬ 28 ≤ i := by omega
      have hs := hb (8 + i) (by omega)
      show Mo_counted_L58B N (Mo_counted_L58 N f) a (nI i) σ = Mo_counted_L58 N f (a + nI (isC q (8 + i))) (nI (i + 1)) σ
      unfold Mo_counted_L58B Mo_counted_J82 isC
      rw [show (28 : Int32) = nI 28 from rfl, if_neg (leN hn (by omega) (by omega)), show (8 : Int32) = nI 8 from rfl, addI, inI (by omega) (by decide), ck_t, clI (by omega), h.get (by omega), nI_1, bI_e, bI_e, bI_e, bI_e, show (0 : Int32) = nI 0 from rfl]
      by_cases z : 0 < q (8 + i)
      · have hz : ¬ q (8 + i) ≤ 0 := by omega
        rw [if_neg (leN hz (by omega) (by omega)), decide_eq_true z]; rfl
      · have hz : q (8 + i) ≤ 0 := by omega
        rw [if_pos (leP hz (by omega) (by omega)), decide_eq_false z]; rfl
    · intro f a
      show Mo_counted_L58B N (Mo_counted_L58 N f) a (nI 28) σ = _
      unfold Mo_counted_L58B
      rw [show (28 : Int32) = nI 28 from rfl, if_pos (Int32.le_refl _)]
  rw [h]
  congr 1
  simp only [itN]
  rw [show (0 : Int32) = nI 0 from rfl]
  simp only [addI, Nat.zero_add, Nat.reduceAdd, Nat.add_zero]
  rfl
def cntI (q : QS) (len k : Nat) : Int32 := if k = 0 then nI (cans q) else if k = 1 then nI (q 36) else if k = 2 then nI (q 37) else if k = 3 then mskI (tolB q) (q 37) else if k = 4 then sumI q 2 else if k = 5 then sumI q 3 else if k = 6 then nI (q 68) else if k = 7 then nI (q 89) else if k = 8 then nI (q 126) else if k = 9 then nI (q 157) else nI len
theorem cCnt {N : Nat} (hN : 300 < N) {A : Ab} {σ : St} (hO : OkA A) (hC : CI A σ) {k : Nat} (hk : k ≤ 10) : Go_count N (nI k) σ = some (cntI A.1 A.2.2.2.1.1 k, σ) := by
  obtain ⟨d1, d2, d3, d4, d5, d6⟩ := hC.nr.cnt
  unfold Go_count
  match k, hk with
  | 0, _ => rw [if_pos (by decide), cCanals hN hO.1.b.1 hC.1.2, bR_e]; rfl
  | 1, _ => rw [if_neg (by decide), if_pos (by decide), d1]; rfl
  | 2, _ => rw [if_neg (by decide), if_neg (by decide), if_pos (by decide), d2]; rfl
  | 3, _ => rw [if_neg (by decide), if_neg (by decide), if_neg (by decide), if_pos (by decide), cTold hN hO.1 hC.nr, bR_e]; rfl
  | 4, _ => rw [if_neg (by decide), if_neg (by decide), if_neg (by decide), if_neg (by decide), if_pos (by decide), show (2 : Int32) = nI 2 from rfl, cSum hN hO.1 hC.nr (by decide), bR_e]; rfl
  | 5, _ => rw [if_neg (by decide), if_neg (by decide), if_neg (by decide), if_neg (by decide), if_neg (by decide), if_pos (by decide), show (3 : Int32) = nI 3 from rfl, cSum hN hO.1 hC.nr (by decide), bR_e]; rfl
  | 6, _ => rw [if_neg (by decide), if_neg (by decide), if_neg (by decide), if_neg (by decide), if_neg (by decide), if_neg (by decide), if_pos (by decide), show σ.1 6 3 = _ from d3]; rfl
  | 7, _ => rw [if_neg (by decide), if_neg (by decide), if_neg (by decide), if_neg (by decide), if_neg (by decide), if_neg (by decide), if_neg (by decide), if_pos (by decide), show σ.1 8 3 = _ from d4]; rfl
  | 8, _ => rw [if_neg (by decide), if_neg (by decide), if_neg (by decide), if_neg (by decide), if_neg (by decide), if_neg (by decide), if_neg (by decide), if_neg (by decide), if_pos (by decide), show σ.1 10 3 = _ from d5]; rfl
  | 9, _ => rw [if_neg (by decide), if_neg (by decide), if_neg (by decide), if_neg (by decide), if_neg (by decide), if_neg (by decide), if_neg (by decide), if_neg (by decide), if_neg (by decide), if_pos (by decide), show σ.1 12 1 = _ from d6]; rfl
  | 10, _ => rw [if_neg (by decide), if_neg (by decide), if_neg (by decide), if_neg (by decide), if_neg (by decide), if_neg (by decide), if_neg (by decide), if_neg (by decide), if_neg (by decide), if_neg (by decide), if_pos (by decide), hC.2.2.2.2.1.1]; rfl
theorem mCnt {N : Nat} (hN : 300 < N) {A : Ab} {σ : St} (hO : OkA A) (hM : MI A σ) {k : Nat} (hk : k ≤ 10) : Mo_counted N (nI k) σ = some (cntI A.1 A.2.2.2.1.1 k) := by
  unfold Mo_counted
  have e37 : σ.1 115 (37 : Int32).toNatClampNeg = nI (A.1 37) := mr hM (by decide)
  match k, hk with
  | 0, _ => rw [if_pos (by decide), mCanals hN hO.1.b.1 hM.1]; rfl
  | 1, _ => rw [if_neg (by decide), if_pos (by decide), show σ.1 115 (36 : Int32).toNatClampNeg = nI (A.1 36) from mr hM (by decide)]; rfl
  | 2, _ => rw [if_neg (by decide), if_neg (by decide), if_pos (by decide), e37]; rfl
  | 3, _ => rw [if_neg (by decide), if_neg (by decide), if_neg (by decide), if_pos (by decide), mTold hN hO.1 hM.1]; rfl
  | 4, _ => rw [if_neg (by decide), if_neg (by decide), if_neg (by decide), if_neg (by decide), if_pos (by decide), e37, show (52 : Int32) = nI 52 from rfl, mSum hN hO.1 hM.1 (w := 2) rfl (by decide), bR_e]; rfl
  | 5, _ => rw [if_neg (by decide), if_neg (by decide), if_neg (by decide), if_neg (by decide), if_neg (by decide), if_pos (by decide), e37, show (56 : Int32) = nI 56 from rfl, mSum hN hO.1 hM.1 (w := 3) rfl (by decide), bR_e]; rfl
  | 6, _ => rw [if_neg (by decide), if_neg (by decide), if_neg (by decide), if_neg (by decide), if_neg (by decide), if_neg (by decide), if_pos (by decide), show σ.1 115 (68 : Int32).toNatClampNeg = nI (A.1 68) from mr hM (by decide)]; rfl
  | 7, _ => rw [if_neg (by decide), if_neg (by decide), if_neg (by decide), if_neg (by decide), if_neg (by decide), if_neg (by decide), if_neg (by decide), if_pos (by decide), show σ.1 115 (89 : Int32).toNatClampNeg = nI (A.1 89) from mr hM (by decide)]; rfl
  | 8, _ => rw [if_neg (by decide), if_neg (by decide), if_neg (by decide), if_neg (by decide), if_neg (by decide), if_neg (by decide), if_neg (by decide), if_neg (by decide), if_pos (by decide), show σ.1 115 (126 : Int32).toNatClampNeg = nI (A.1 126) from mr hM (by decide)]; rfl
  | 9, _ => rw [if_neg (by decide), if_neg (by decide), if_neg (by decide), if_neg (by decide), if_neg (by decide), if_neg (by decide), if_neg (by decide), if_neg (by decide), if_neg (by decide), if_pos (by decide), show σ.1 115 (157 : Int32).toNatClampNeg = nI (A.1 157) from mr hM (by decide)]; rfl
  | 10, _ => rw [if_neg (by decide), if_neg (by decide), if_neg (by decide), if_neg (by decide), if_neg (by decide), if_neg (by decide), if_neg (by decide), if_neg (by decide), if_neg (by decide), if_neg (by decide), hM.2.2.2.1.1]; rfl
theorem sim_count (N : Nat) (hN : 300 < N) : Sim_count N Inv := by
  intro σ hI v1
  obtain ⟨A, hO, hC, hM⟩ := hI
  by_cases h1 : (0 : Int) ≤ v1.toInt ∧ v1.toInt ≤ 10
  · obtain ⟨k, -, hk, rfl⟩ := wv_nat (hi := 10) (by decide) h1
    refine sim_rd (f := fun σ => Go_count N (nI k) σ) (g := fun σ => Mo_count N (nI k) σ) (r := cntI A.1 A.2.2.2.1.1 k) hO hC hM (cCnt hN hO hC hk) (fun σ1 m1 => ?_)
    show Mo_count N (nI k) σ1 = _
    unfold Mo_count
    rw [mW10, wv_1 h1, if_neg one_ne, mCnt hN hO m1 hk, bR_e]
  · refine sim_ref (f := fun σ => Go_count N v1 σ) (g := fun σ => Mo_count N v1 σ) (r := -2) 0 (by decide) hO hC hM ?_ (fun σ1 m1 => ?_)
    · show Go_count N v1 σ = _
      unfold Go_count
      rw [if_neg (fun e => h1 (by rw [e]; decide)), if_neg (fun e => h1 (by rw [e]; decide)), if_neg (fun e => h1 (by rw [e]; decide)), if_neg (fun e => h1 (by rw [e]; decide)), if_neg (fun e => h1 (by rw [e]; decide)), if_neg (fun e => h1 (by rw [e]; decide)), if_neg (fun e => h1 (by rw [e]; decide)), if_neg (fun e => h1 (by rw [e]; decide)), if_neg (fun e => h1 (by rw [e]; decide)), if_neg (fun e => h1 (by rw [e]; decide)), if_neg (fun e => h1 (by rw [e]; decide)), gBad, bW_e]
    · show Mo_count N v1 σ1 = _
      unfold Mo_count
      rw [mW10, wv_0 h1, if_pos rfl, mBad, bW_e]
/-- the folds of the digest -/
def f31 (w : Nat → Int32) (n : Nat) (h : Int64) : Int64 := itN (fun i acc => 31 * acc + (w i).toInt64) n h
theorem f31_congr {w w' : Nat → Int32} {n : Nat} {h : Int64} (e : ∀ i, i < n → w i = w' i) : f31 w n h = f31 w' n h := itN_congr (fun i a hi => by rw [e i hi])
theorem mAdds {N : Nat} (hN : 300 < N) {q : QS} {σ : St} (h : RepM 115 0 q σ) {k m : Nat} (hk : k + m ≤ 286) (x : Int64) : Mo_adds N x (nI k) (nI m) σ = some (f31 (fun i => nI (q (k + i))) m x) := by
  unfold Mo_adds f31
  refine loop_it (fun f i a => Mo_adds_L6 N f (nI k) (nI m) a (nI i) σ) m _ some ?_ ?_ (by omega)
  · intro f i a hi
    have hn : ¬ m ≤ i := by omega
    show Mo_adds_L6B N (Mo_adds_L6 N f) (nI k) (nI m) a (nI i) σ = Mo_adds_L6 N f (nI k) (nI m) (31 * a + (nI (q (k + i))).toInt64) (nI (i + 1)) σ
    unfold Mo_adds_L6B
    rw [if_neg (leN hn (by omega) (by omega)), addI, inI (by omega) (by decide), ck_t, clI (by omega), h.get (by omega), bL_e, nI_1, bI_e]
  · intro f a
    show Mo_adds_L6B N (Mo_adds_L6 N f) (nI k) (nI m) a (nI m) σ = _
    unfold Mo_adds_L6B
    rw [if_pos (Int32.le_refl _)]
theorem cTFold {N t : Nat} (hN : 300 < N) {σ : St} {w S : Nat} {x : Nat → Nat} (hw : σ.1 t 0 = nI w) (hs : σ.1 t 3 = nI S) (hl : S * w ≤ lnn (t + 1)) (hb : lnn (t + 1) < 300) (hx : ∀ j, j < S * w → σ.1 (t + 1) j = nI (x j)) (y : Int64) : Ta_fold N t y σ = some (f31 (fun i => nI (x i)) (S * w) y) := by
  unfold Ta_fold f31
  refine loop_it (fun f i a => Ta_fold_L5 N f t a (nI i) σ) (S * w) _ some ?_ ?_ (by omega)
  · intro f i a hi
    have hn : ¬ S * w ≤ i := by omega
    show Ta_fold_L5B N (Ta_fold_L5 N f) t a (nI i) σ = Ta_fold_L5 N f t (31 * a + (nI (x i)).toInt64) (nI (i + 1)) σ
    unfold Ta_fold_L5B
    rw [hs, hw, mulI, if_neg (leN hn (by omega) (by omega)), inI (by omega) (by omega), ck_t, clI (by omega), hx i hi, bL_e, nI_1, bI_e]
  · intro f a
    show Ta_fold_L5B N (Ta_fold_L5 N f) t a (nI (S * w)) σ = _
    unfold Ta_fold_L5B
    rw [hs, hw, mulI, if_pos (Int32.le_refl _)]
theorem NR.tabs {n : Nat} {q : QS} {σ : St} (hq : Okq q) (h : NR n q σ) : (∀ j, j < q 68 * 4 → σ.1 (n + 6) j = nI (q (69 + j))) ∧ (∀ j, j < q 89 * 6 → σ.1 (n + 8) j = nI (q (90 + j))) ∧ (∀ j, j < q 126 * 5 → σ.1 (n + 10) j = nI (q (127 + j))) := by
  obtain ⟨b1, b2, b3, b4, b5, b6, b7⟩ := hq.b
  have := b4.1
  have := b5.1
  have := b6.1
  exact ⟨fun j hj => h.get (k := 69 + j) (by omega) (by rw [lvS (by omega)]; omega) (by rw [ccS (by omega)]) (by rw [scS (by omega)]), fun j hj => h.get (k := 90 + j) (by omega) (by rw [lvN (by omega)]; omega) (by rw [ccN (by omega)]) (by rw [scN (by omega)]), fun j hj => h.get (k := 127 + j) (by omega) (by rw [lvM (by omega)]; omega) (by rw [ccM (by omega)]) (by rw [scM (by omega)])⟩
def rowF (q : QS) (h : Int64) : Int64 := itN (fun r acc => 31 * (31 * acc + (nI (q (38 + r))).toInt64) + (nI (q (41 + r))).toInt64) (q 36) h
def gstF (q : QS) (h : Int64) : Int64 := itN (fun g acc => f31 (fun k => nI (q (44 + 4 * k + g))) 6 acc) (q 37) h
def canF (q : QS) (h : Int64) : Int64 := itN (fun a acc => f31 (fun j => nI (stq q a (a + 1 + j))) (7 - a) acc) 7 h
theorem canF_e (q : QS) (h : Int64) : canF q h = f31 (fun k => nI (q (8 + k))) 28 h := rfl
theorem loop_from {α ρ : Type} (L : Nat → Nat → α → Option ρ) (n i0 m : Nat) (st : Nat → α → α) (R : α → Option ρ) (hm : i0 + m = n) (step : ∀ f i a, i < m → L (f + 1) (i0 + i) a = L f (i0 + (i + 1)) (st i a)) (fin : ∀ f a, L (f + 1) n a = R a) {fuel : Nat} {a : α} (hf : m < fuel) : L fuel i0 a = R (itN st m a) :=
  loop_it (fun f i a => L f (i0 + i) a) m st R step (by intro f b; rw [hm]; exact fin f b) hf
theorem cFoldG {N n : Nat} (hN : 300 < N) {q : QS} {σ : St} (hq : Okq q) (h : NR n q σ) (y : Int64) : Ni_fold_J138 N n y σ = some (gstF q y) := by
  have h37 := hq.b.2.2.1.1
  have e37 := h.cnt.2.1
  unfold Ni_fold_J138 gstF
  refine loop_it (fun f i a => Ni_fold_L141 N f n a (nI i) σ) (q 37) _ some ?_ ?_ (by omega)
  · intro f i a hi
    have hn : ¬ q 37 ≤ i := by omega
    show Ni_fold_L141B N (Ni_fold_L141 N f) n a (nI i) σ = Ni_fold_L141 N f n (f31 (fun k => nI (q (44 + 4 * k + i))) 6 a) (nI (i + 1)) σ
    unfold Ni_fold_L141B
    rw [e37, if_neg (leN hn (by omega) (by omega))]
    unfold f31
    refine loop_it (fun f' j b => Ni_fold_L153 N (Ni_fold_L141 N f) f' n b (nI i) (nI j) σ) 6 _ (fun b => Ni_fold_L141 N f n b (nI (i + 1)) σ) ?_ ?_ (by omega)
    · intro f' j b hj
      have hn : ¬ 5 < j := by omega
      show Ni_fold_L153B N (Ni_fold_L141 N f) (Ni_fold_L153 N (Ni_fold_L141 N f) f') n b (nI i) (nI j) σ = Ni_fold_L153 N (Ni_fold_L141 N f) f' n (31 * b + (nI (q (44 + 4 * j + i))).toInt64) (nI i) (nI (j + 1)) σ
      unfold Ni_fold_L153B
      rw [show (5 : Int32) = nI 5 from rfl, if_neg (ltN hn (by omega) (by omega)), inI (by omega) (by decide), ck_t, clI (by omega), factE (x := qX q i) (fun f hf => h.gst (by omega) hf hi) hj, bR_e, bL_e, nI_1, bI_e]; rfl
    · intro f' b
      show Ni_fold_L153B N (Ni_fold_L141 N f) (Ni_fold_L153 N (Ni_fold_L141 N f) f') n b (nI i) (nI 6) σ = _
      unfold Ni_fold_L153B Ni_fold_J185
      rw [if_pos (by decide), nI_1, bI_e]
  · intro f a
    show Ni_fold_L141B N (Ni_fold_L141 N f) n a (nI (q 37)) σ = _
    unfold Ni_fold_L141B
    rw [e37, if_pos (Int32.le_refl _)]
theorem cFoldR {N n : Nat} (hN : 300 < N) {q : QS} {σ : St} (hq : Okq q) (h : NR n q σ) (y : Int64) : Ni_fold_J84 N n y σ = some (gstF q (rowF q y)) := by
  have h36 := hq.b.2.1.1
  have e36 := h.cnt.1
  unfold Ni_fold_J84 rowF
  refine loop_it (fun f i a => Ni_fold_L87 N f n a (nI i) σ) (q 36) _ (fun a => some (gstF q a)) ?_ ?_ (by omega)
  · intro f i a hi
    have hn : ¬ q 36 ≤ i := by omega
    show Ni_fold_L87B N (Ni_fold_L87 N f) n a (nI i) σ = Ni_fold_L87 N f n (31 * (31 * a + (nI (q (38 + i))).toInt64) + (nI (q (41 + i))).toInt64) (nI (i + 1)) σ
    obtain ⟨r1, r2⟩ := h.row (r := i) (by omega) hi
    unfold Ni_fold_L87B
    rw [e36, if_neg (leN hn (by omega) (by omega)), inI (by omega) (by decide), ck_t, clI (by omega), r1, bL_e, ck_t, r2, bL_e, nI_1, bI_e]
  · intro f a
    show Ni_fold_L87B N (Ni_fold_L87 N f) n a (nI (q 36)) σ = _
    unfold Ni_fold_L87B
    rw [e36, if_pos (Int32.le_refl _), cFoldG hN hq h]
theorem cFoldC {N n : Nat} (hN : 300 < N) {q : QS} {σ : St} (hq : Okq q) (h : NR n q σ) (y : Int64) : Ni_fold_J33 N n y σ = some (gstF q (rowF q (canF q y))) := by
  unfold Ni_fold_J33 canF
  refine loop_it (fun f i a => Ni_fold_L36 N f n a (nI i) σ) 7 _ (fun a => some (gstF q (rowF q a))) ?_ ?_ (by omega)
  · intro f i a hi
    have hn : ¬ 7 ≤ i := by omega
    show Ni_fold_L36B N (Ni_fold_L36 N f) n a (nI i) σ = Ni_fold_L36 N f n (f31 (fun j => nI (stq q i (i + 1 + j))) (7 - i) a) (nI (i + 1)) σ
    unfold Ni_fold_L36B
    rw [show (7 : Int32) = nI 7 from rfl, if_neg (leN hn (by omega) (by omega)), nI_1, bI_e]
    unfold f31
    refine loop_from (fun f' j b => Ni_fold_L49 N (Ni_fold_L36 N f) f' n b (nI i) (nI j) σ) 8 (i + 1) (7 - i) _ (fun b => Ni_fold_L36 N f n b (nI (i + 1)) σ) (by omega) ?_ ?_ (by omega)
    · intro f' j b hj
      have hn : ¬ 8 ≤ i + 1 + j := by omega
      show Ni_fold_L49B N (Ni_fold_L36 N f) (Ni_fold_L49 N (Ni_fold_L36 N f) f') n b (nI i) (nI (i + 1 + j)) σ = Ni_fold_L49 N (Ni_fold_L36 N f) f' n (31 * b + (nI (stq q i (i + 1 + j))).toInt64) (nI i) (nI (i + 1 + (j + 1))) σ
      unfold Ni_fold_L49B
      rw [show (8 : Int32) = nI 8 from rfl, if_neg (leN hn (by omega) (by omega)), gSt h.1.2 (by omega) (by omega), bR_e, bL_e, nI_1, bI_e]; rfl
    · intro f' b
      show Ni_fold_L49B N (Ni_fold_L36 N f) (Ni_fold_L49 N (Ni_fold_L36 N f) f') n b (nI i) (nI 8) σ = _
      unfold Ni_fold_L49B Ni_fold_J78
      rw [if_pos (by decide), nI_1, bI_e]
  · intro f a
    show Ni_fold_L36B N (Ni_fold_L36 N f) n a (nI 7) σ = _
    unfold Ni_fold_L36B
    rw [if_pos (by decide), cFoldR hN hq h]
theorem cFold {N n : Nat} (hN : 300 < N) {q : QS} {σ : St} (hq : Okq q) (h : NR n q σ) (y : Int64) : Ni_fold N n y σ = some (gstF q (rowF q (canF q (f31 (fun p => nI (q p)) 8 y)))) := by
  unfold Ni_fold f31
  refine loop_it (fun f i a => Ni_fold_L5 N f n a (nI i) σ) 8 _ (fun a => some (gstF q (rowF q (canF q a)))) ?_ ?_ (by omega)
  · intro f i a hi
    have hn : ¬ 8 ≤ i := by omega
    show Ni_fold_L5B N (Ni_fold_L5 N f) n a (nI i) σ = Ni_fold_L5 N f n (31 * a + (nI (q i)).toInt64) (nI (i + 1)) σ
    unfold Ni_fold_L5B
    rw [show (8 : Int32) = nI 8 from rfl, if_neg (leN hn (by omega) (by omega)), inI (by omega) (by decide), ck_t, clI (by omega), h.dark hi, bL_e, nI_1, bI_e]
  · intro f a
    show Ni_fold_L5B N (Ni_fold_L5 N f) n a (nI 8) σ = _
    unfold Ni_fold_L5B
    rw [if_pos (by decide), cFoldC hN hq h]
def digI (A : Ab) : Int64 := 31 * (31 * f31 (fun i => nI (A.1 (127 + i))) (A.1 126 * 5) (f31 (fun i => nI (A.1 (90 + i))) (A.1 89 * 6) (f31 (fun i => nI (A.1 (69 + i))) (A.1 68 * 4) (gstF A.1 (rowF A.1 (canF A.1 (f31 (fun p => nI (A.1 p)) 8 (f31 (cntI A.1 A.2.2.2.1.1) 11 1847))))))) + A.2.2.2.2.2.1) + A.2.2.2.2.2.2
theorem cDig' {N : Nat} (hN : 300 < N) {A : Ab} {σ : St} (hO : OkA A) (hC : CI A σ) : Go_digest N σ = some (digI A, σ) := by
  obtain ⟨b1, b2, b3, b4, b5, b6, b7⟩ := hO.1.b
  have := b4.1
  have := b5.1
  have := b6.1
  obtain ⟨t1, t2, t3⟩ := NR.tabs hO.1 hC.nr
  obtain ⟨w1, w2, w3⟩ := hC.nr.2
  obtain ⟨d1, d2, d3, d4, d5, d6⟩ := hC.nr.cnt
  unfold Go_digest
  refine loop_it (fun f i a => Go_digest_L6 N f a (nI i) σ) 11 (fun i acc => 31 * acc + (cntI A.1 A.2.2.2.1.1 i).toInt64) (fun a => some (31 * (31 * f31 (fun i => nI (A.1 (127 + i))) (A.1 126 * 5) (f31 (fun i => nI (A.1 (90 + i))) (A.1 89 * 6) (f31 (fun i => nI (A.1 (69 + i))) (A.1 68 * 4) (gstF A.1 (rowF A.1 (canF A.1 (f31 (fun p => nI (A.1 p)) 8 a)))))) + A.2.2.2.2.2.1) + A.2.2.2.2.2.2, σ)) ?_ ?_ (by omega)
  · intro f i a hi
    have hn : ¬ 10 < i := by omega
    show Go_digest_L6B N (Go_digest_L6 N f) a (nI i) σ = Go_digest_L6 N f (31 * a + (cntI A.1 A.2.2.2.1.1 i).toInt64) (nI (i + 1)) σ
    unfold Go_digest_L6B
    rw [show (10 : Int32) = nI 10 from rfl, if_neg (ltN hn (by omega) (by omega)), cCnt hN hO hC (by omega), bW_e, bL_e, nI_1, bI_e]
  · intro f a
    show Go_digest_L6B N (Go_digest_L6 N f) a (nI 11) σ = _
    unfold Go_digest_L6B Go_digest_J31
    rw [if_pos (by decide), cFold hN hO.1 hC.nr, bR_e, cTFold (t := 6) hN (w := 4) (S := A.1 68) (x := fun j => A.1 (69 + j)) w1.1 d3 (by show _ ≤ 20; omega) (by decide) t1, bR_e, cTFold (t := 8) hN (w := 6) (S := A.1 89) (x := fun j => A.1 (90 + j)) w2.1 d4 (by show _ ≤ 36; omega) (by decide) t2, bR_e, cTFold (t := 10) hN (w := 5) (S := A.1 126) (x := fun j => A.1 (127 + j)) w3.1 d5 (by show _ ≤ 30; omega) (by decide) t3, bR_e, bL_e, hC.2.2.2.2.2.2.1, hC.2.2.2.2.2.2.2]
theorem mDig {N : Nat} (hN : 300 < N) {A : Ab} {σ : St} (hO : OkA A) (hM : MI A σ) : Mo_digest N σ = some (digI A) := by
  obtain ⟨b1, b2, b3, b4, b5, b6, b7⟩ := hO.1.b
  have := b4.1
  have := b5.1
  have := b6.1
  have h36 := b2.1
  have h37 := b3.1
  have e37 : σ.1 115 (37 : Int32).toNatClampNeg = nI (A.1 37) := mr hM (by decide)
  have e36 : σ.1 115 (36 : Int32).toNatClampNeg = nI (A.1 36) := mr hM (by decide)
  have J : ∀ a, Mo_digest_J158 N a σ = some (31 * (31 * f31 (fun i => nI (A.1 (127 + i))) (A.1 126 * 5) (f31 (fun i => nI (A.1 (90 + i))) (A.1 89 * 6) (f31 (fun i => nI (A.1 (69 + i))) (A.1 68 * 4) a)) + A.2.2.2.2.2.1) + A.2.2.2.2.2.2) := by
    intro a
    unfold Mo_digest_J158
    rw [show σ.1 115 (68 : Int32).toNatClampNeg = nI (A.1 68) from mr hM (by decide), show σ.1 115 (89 : Int32).toNatClampNeg = nI (A.1 89) from mr hM (by decide), show σ.1 115 (126 : Int32).toNatClampNeg = nI (A.1 126) from mr hM (by decide), show (4 : Int32) = nI 4 from rfl, show (6 : Int32) = nI 6 from rfl, show (5 : Int32) = nI 5 from rfl, mulI, mulI, mulI, show (69 : Int32) = nI 69 from rfl, show (90 : Int32) = nI 90 from rfl, show (127 : Int32) = nI 127 from rfl, mAdds hN hM.1 (by omega), bR_e, mAdds hN hM.1 (by omega), bR_e, mAdds hN hM.1 (by omega), bR_e, hM.2.2.2.2.2.1, hM.2.2.2.2.2.2, Nat.mul_comm 4, Nat.mul_comm 6, Nat.mul_comm 5]
  have JG : ∀ a, Mo_digest_J101 N a σ = some (31 * (31 * f31 (fun i => nI (A.1 (127 + i))) (A.1 126 * 5) (f31 (fun i => nI (A.1 (90 + i))) (A.1 89 * 6) (f31 (fun i => nI (A.1 (69 + i))) (A.1 68 * 4) (gstF A.1 a))) + A.2.2.2.2.2.1) + A.2.2.2.2.2.2) := by
    intro a
    unfold Mo_digest_J101 gstF
    refine loop_it (fun f i a => Mo_digest_L103 N f a (nI i) σ) (A.1 37) _ (fun a => some (31 * (31 * f31 (fun i => nI (A.1 (127 + i))) (A.1 126 * 5) (f31 (fun i => nI (A.1 (90 + i))) (A.1 89 * 6) (f31 (fun i => nI (A.1 (69 + i))) (A.1 68 * 4) a)) + A.2.2.2.2.2.1) + A.2.2.2.2.2.2)) ?_ ?_ (by omega)
    · intro f i a hi
      have hn : ¬ A.1 37 ≤ i := by omega
      show Mo_digest_L103B N (Mo_digest_L103 N f) a (nI i) σ = Mo_digest_L103 N f (f31 (fun k => nI (A.1 (44 + 4 * k + i))) 6 a) (nI (i + 1)) σ
      unfold Mo_digest_L103B
      rw [e37, if_neg (leN hn (by omega) (by omega))]
      unfold f31
      refine loop_it (fun f' j b => Mo_digest_L117 N (Mo_digest_L103 N f) f' b (nI i) (nI j) σ) 6 _ (fun b => Mo_digest_L103 N f b (nI (i + 1)) σ) ?_ ?_ (by omega)
      · intro f' j b hj
        have hn : ¬ 6 ≤ j := by omega
        show Mo_digest_L117B N (Mo_digest_L103 N f) (Mo_digest_L117 N (Mo_digest_L103 N f) f') b (nI i) (nI j) σ = Mo_digest_L117 N (Mo_digest_L103 N f) f' (31 * b + (nI (A.1 (44 + 4 * j + i))).toInt64) (nI i) (nI (j + 1)) σ
        unfold Mo_digest_L117B
        rw [show (6 : Int32) = nI 6 from rfl, if_neg (leN hn (by omega) (by omega)), show (4 : Int32) = nI 4 from rfl, mulI, show (44 : Int32) = nI 44 from rfl, addI, addI, inI (by omega) (by decide), ck_t, clI (by omega), mr hM (by omega), bL_e, nI_1, bI_e]
      · intro f' b
        show Mo_digest_L117B N (Mo_digest_L103 N f) (Mo_digest_L117 N (Mo_digest_L103 N f) f') b (nI i) (nI 6) σ = _
        unfold Mo_digest_L117B Mo_digest_J152
        rw [if_pos (by decide), nI_1, bI_e]
    · intro f a
      show Mo_digest_L103B N (Mo_digest_L103 N f) a (nI (A.1 37)) σ = _
      unfold Mo_digest_L103B
      rw [e37, if_pos (Int32.le_refl _), J]
  have JR : ∀ a, Mo_digest_J31 N a σ = some (31 * (31 * f31 (fun i => nI (A.1 (127 + i))) (A.1 126 * 5) (f31 (fun i => nI (A.1 (90 + i))) (A.1 89 * 6) (f31 (fun i => nI (A.1 (69 + i))) (A.1 68 * 4) (gstF A.1 (rowF A.1 (canF A.1 (f31 (fun p => nI (A.1 p)) 8 a)))))) + A.2.2.2.2.2.1) + A.2.2.2.2.2.2) := by
    intro a
    unfold Mo_digest_J31
    rw [show (8 : Int32) = nI 8 from rfl, show (0 : Int32) = nI 0 from rfl, show (28 : Int32) = nI 28 from rfl, mAdds hN hM.1 (by omega), bR_e, mAdds hN hM.1 (by omega), bR_e, canF_e]
    simp only [Nat.zero_add]
    unfold rowF
    refine loop_it (fun f i a => Mo_digest_L52 N f a (nI i) σ) (A.1 36) _ (fun a => some (31 * (31 * f31 (fun i => nI (A.1 (127 + i))) (A.1 126 * 5) (f31 (fun i => nI (A.1 (90 + i))) (A.1 89 * 6) (f31 (fun i => nI (A.1 (69 + i))) (A.1 68 * 4) (gstF A.1 a))) + A.2.2.2.2.2.1) + A.2.2.2.2.2.2)) ?_ ?_ (by omega)
    · intro f i a hi
      have hn : ¬ A.1 36 ≤ i := by omega
      show Mo_digest_L52B N (Mo_digest_L52 N f) a (nI i) σ = Mo_digest_L52 N f (31 * (31 * a + (nI (A.1 (38 + i))).toInt64) + (nI (A.1 (41 + i))).toInt64) (nI (i + 1)) σ
      unfold Mo_digest_L52B
      rw [e36, if_neg (leN hn (by omega) (by omega)), show (38 : Int32) = nI 38 from rfl, show (41 : Int32) = nI 41 from rfl, addI, addI, inI (by omega) (by decide), ck_t, inI (by omega) (by decide), ck_t, clI (by omega), clI (by omega), mr hM (by omega), mr hM (by omega), bL_e, nI_1, bI_e]
    · intro f a
      show Mo_digest_L52B N (Mo_digest_L52 N f) a (nI (A.1 36)) σ = _
      unfold Mo_digest_L52B
      rw [e36, if_pos (Int32.le_refl _), JG]
  unfold Mo_digest
  refine loop_it (fun f i a => Mo_digest_L6 N f a (nI i) σ) 11 (fun i acc => 31 * acc + (cntI A.1 A.2.2.2.1.1 i).toInt64) (fun a => some (31 * (31 * f31 (fun i => nI (A.1 (127 + i))) (A.1 126 * 5) (f31 (fun i => nI (A.1 (90 + i))) (A.1 89 * 6) (f31 (fun i => nI (A.1 (69 + i))) (A.1 68 * 4) (gstF A.1 (rowF A.1 (canF A.1 (f31 (fun p => nI (A.1 p)) 8 a)))))) + A.2.2.2.2.2.1) + A.2.2.2.2.2.2)) ?_ ?_ (by omega)
  · intro f i a hi
    have hn : ¬ 11 ≤ i := by omega
    show Mo_digest_L6B N (Mo_digest_L6 N f) a (nI i) σ = Mo_digest_L6 N f (31 * a + (cntI A.1 A.2.2.2.1.1 i).toInt64) (nI (i + 1)) σ
    unfold Mo_digest_L6B
    rw [show (11 : Int32) = nI 11 from rfl, if_neg (leN hn (by omega) (by omega)), mCnt hN hO hM (by omega), bR_e, bL_e, nI_1, bI_e]
  · intro f a
    show Mo_digest_L6B N (Mo_digest_L6 N f) a (nI 11) σ = _
    unfold Mo_digest_L6B
    rw [if_pos (by decide), JR]
theorem sim_digest (N : Nat) (hN : 300 < N) : Sim_digest N Inv := by
  intro σ hI
  obtain ⟨A, hO, hC, hM⟩ := hI
  exact ⟨digI A, σ, cDig' hN hO hC, mDig hN hO hM, A, hO, hC, hM⟩
