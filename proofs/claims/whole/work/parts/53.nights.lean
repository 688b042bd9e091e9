/-! nights -/
theorem cnN_cut (b : Nat → Bool) {n m : Nat} (h : n ≤ m) : cnN (fun i => decide (i < n) && b i) m = cnN b n := by
  induction m with
  | zero => have : n = 0 := by omega
            subst this; rfl
  | succ m ih =>
    by_cases e : n = m + 1
    · subst e; exact cnN_congr (fun i hi => by rw [decide_eq_true hi, Bool.true_and])
    · show cnN (fun i => decide (i < n) && b i) m + (decide (m < n) && b m).toNat = _
      rw [ih (by omega), decide_eq_false (by omega), Bool.false_and]; rfl
theorem bcN (b : Nat → Bool) {n : Nat} (hn : n ≤ 8) : Jn_bitCount (mskI b n) = nI (cnN b n) := by
  have e : mskI b n = mskI (fun i => decide (i < n) && b i) 8 := gB_ext (fun j _ => by
    rw [gB_msk _ (by omega), gB_msk _ (by omega)]
    by_cases c : j < n
    · rw [decide_eq_true c, decide_eq_true (show j < 8 by omega)]; rfl
    · rw [decide_eq_false c]; simp)
  rw [e, bcM, ← cnN_cut b hn]
  congr 1
  simp only [cnN, Nat.zero_add]
theorem mGuQ {N : Nat} {q : QS} {σ : St} (hg : q 37 ≤ 4) (h : RepM 115 0 q σ) (v : Int32) : Mo_isGuest N v σ = some (wv 0 ((q 37 : Int) - 1) v) := by
  have h : σ.1 115 (37 : Int32).toNatClampNeg = nI (q 37) := h.get (by decide)
  unfold Mo_isGuest
  rw [h, mo_wvI, Int32.toInt_toInt64, gm1 (by omega)]; rfl
theorem mRoQ {N : Nat} {q : QS} {σ : St} (hg : q 36 ≤ 3) (h : RepM 115 0 q σ) (v : Int32) : Mo_isRower N v σ = some (wv 0 ((q 36 : Int) - 1) v) := by
  have h : σ.1 115 (36 : Int32).toNatClampNeg = nI (q 36) := h.get (by decide)
  unfold Mo_isRower
  rw [h, mo_wvI, Int32.toInt_toInt64, gm1 (by omega)]; rfl
theorem wv_n {G j : Nat} (hj : j < 1000) : wv 0 ((G : Int) - 1) (nI j) = if j < G then 1 else 0 := by
  rw [wv_nI (by omega)]
  by_cases c : j < G
  · rw [if_pos c, if_pos (by omega)]
  · rw [if_neg c, if_neg (by omega)]
def nst (q : QS) (g r p : Nat) : QS := if g < q 37 ∧ r < q 36 ∧ canN q (q (60 + g)) p = true then qRow q g r p else if g < q 37 ∧ q (60 + g) = 7 then qEnter q g else q
theorem Okq.nst {q : QS} (h : Okq q) {g r p : Nat} (hp : p < 8) : Okq (nst q g r p) := by
  unfold _root_.Jvm.Pilot.CGondolaToldLaw_law_r4683_15f44e.nst
  split
  · rename_i c; exact h.row c.1 hp
  · split
    · rename_i c; exact h.enter c.1
    · exact h
theorem nst_out {q : QS} {g r p k : Nat} (hg : g < 4) (hk : k < 52 ∨ 68 ≤ k) : nst q g r p k = q k := by
  unfold nst
  split
  · unfold qRow; simp (disch := omega) only [updQ_n]
  · split
    · unfold qEnter; simp (disch := omega) only [updQ_n]
    · rfl
theorem cPassJ {N n : Nat} {q : QS} {σ : St} (hq : Okq q) (h : NR n q σ) {g : Nat} (hg : g < q 37) : ∃ σ', Ni_pass_J51 N (n + 16 + g) σ = some σ' ∧ NR n (if q (60 + g) = 7 then qEnter q g else q) σ' ∧ Fr n σ σ' := by
  have h37 := hq.b.2.2.1.1
  have hx := (hq.b.2.2.1.2.1 g hg).2.2.2.2.2.1
  unfold Ni_pass_J51
  rw [h.gst (by omega) (by decide) hg, show 44 + 4 * 4 + g = 60 + g by omega, show (7 : Int32) = nI 7 from rfl]
  by_cases z : q (60 + g) = 7
  · obtain ⟨s, g1, g2, g3⟩ := cEnter (N := N) h (show g < 4 by omega)
    exact ⟨s, by rw [if_pos (by rw [z]), g1, bR_e], by rw [if_pos z]; exact g2, g3⟩
  · exact ⟨σ, by rw [if_neg (neI z (by omega) (by omega))], by rw [if_neg z]; exact h, Fr.rfl'⟩
theorem cPass {N n : Nat} {q : QS} {σ : St} (hq : Okq q) (h : NR n q σ) {g r p : Nat} (hg4 : g < 4) (hr3 : r < 3) (hp : p < 8) : ∃ σ', Ni_pass N n (nI g) (nI r) (nI p) σ = some σ' ∧ NR n (nst q g r p) σ' ∧ Fr n σ σ' := by
  have h36 := hq.b.2.1.1
  have h37 := hq.b.2.2.1.1
  unfold Ni_pass nst
  rw [h.cnt.2.1, h.cnt.1, inI (n := 4) hg4 (by decide), ck_t, clI (a := g) (by omega), inI (n := 3) hr3 (by decide), ck_t, clI (a := r) (by omega)]
  by_cases hg : g < q 37
  · rw [if_pos (ltP hg (by omega) (by omega))]
    have hx := (hq.b.2.2.1.2.1 g hg).2.2.2.2.2.1
    obtain ⟨s1, j1, j2, j3⟩ := cPassJ (N := N) hq h hg
    have cc := cCan (N := N) (n := n) (gc := n + 16 + g) (a := q (60 + g)) (p := p) hq.b.1 h.1.2 (h.gst (f := 4) (by omega) (by decide) hg) hx hp
    by_cases hr : r < q 36
    · have hr' : ¬ q 36 ≤ r := by omega
      rw [if_neg (leN hr' (by omega) (by omega)), cc, bR_e]
      by_cases c : canN q (q (60 + g)) p = true
      · obtain ⟨s2, g1, g2, g3⟩ := cRow (N := N) hq h hg hr hp
        refine ⟨s2, by rw [if_pos c, if_neg one_ne, g1, bR_e], by rw [if_pos ⟨hg, hr, c⟩]; exact g2, g3⟩
      · refine ⟨s1, by rw [if_neg c, if_pos rfl, j1], ?_, j3⟩
        rw [if_neg (fun w => c w.2.2)]
        by_cases z : q (60 + g) = 7
        · rw [if_pos ⟨hg, z⟩]; rw [if_pos z] at j2; exact j2
        · rw [if_neg (fun w => z w.2)]; rw [if_neg z] at j2; exact j2
    · rw [if_pos (leP (show q 36 ≤ r by omega) (by omega) (by omega))]
      refine ⟨s1, j1, ?_, j3⟩
      rw [if_neg (fun w => hr w.2.1)]
      by_cases z : q (60 + g) = 7
      · rw [if_pos ⟨hg, z⟩]; rw [if_pos z] at j2; exact j2
      · rw [if_neg (fun w => z w.2)]; rw [if_neg z] at j2; exact j2
  · refine ⟨σ, by rw [if_neg (ltN hg (by omega) (by omega))], ?_, Fr.rfl'⟩
    rw [if_neg (fun w => hg w.1), if_neg (fun w => hg w.1)]; exact h
def lcg (x : Nat) : Nat := (x * 1103515245 + 12345) % 2147483648
def ntS (a : QS × Nat) : QS × Nat := (nst a.1 (lcg a.2 / 65536 % 4) (lcg a.2 / 262144 % 3) (lcg a.2 / 1048576 % 8), lcg a.2)
def ntN (q : QS) (x n : Nat) : QS × Nat := itN (fun _ a => ntS a) n (q, x)
theorem ntN_ok {q : QS} (h : Okq q) {x : Nat} (hx : x < 2147483648) (n : Nat) : Okq (ntN q x n).1 ∧ (ntN q x n).2 < 2147483648 ∧ ∀ k, k < 52 ∨ 68 ≤ k → (ntN q x n).1 k = q k := by
  induction n with
  | zero => exact ⟨h, hx, fun _ _ => rfl⟩
  | succ n ih =>
    refine ⟨Okq.nst ih.1 (by omega), Nat.mod_lt _ (by decide), fun k hk => ?_⟩
    rw [← ih.2.2 k hk]
    exact nst_out (by omega) hk
theorem lcgI {x : Nat} (hx : x < 2147483648) : (lN x * 1103515245 + 12345) - (lN x * 1103515245 + 12345) / 2147483648 * 2147483648 = lN (lcg x) := by
  rw [show (1103515245 : Int64) = lN 1103515245 from rfl, show (12345 : Int64) = lN 12345 from rfl, show (2147483648 : Int64) = lN 2147483648 from rfl, lN_mul, lN_add, pk_lRem (by omega) (by decide) (by decide)]; rfl
theorem drw {x a b : Nat} {u w : Int64} (hu : u = lN a) (hw : w = lN b) (hx : x < 2147483648) (ha : 0 < a ∧ a < 2147483648) (hb : 0 < b ∧ b < 2147483648) : ((lN x / u) - (lN x / u) / w * w).toInt32 = nI (x / a % b) := by
  have := Nat.div_le_self x a
  rw [hu, hw, pk_lDiv (by omega) (by omega) (by omega), pk_lRem (by omega) (by omega) (by omega), lN_i]
theorem CI.draft {A : Ab} {σ σ' : St} (h : CI A σ) (hf : Fr 21 σ σ') (ht : TW 21 σ') : CI A σ' := by
  obtain ⟨h1, ⟨t1, t2, t3, t4⟩, h2, h3, h4, h5, h6⟩ := h
  have F := hf.1
  exact ⟨h1.frame (fun c hc => F _ (by omega)), ⟨t1.frame (F _ (by omega)) (F _ (by omega)) (F _ (by omega)), ht, t3.frame (F _ (by omega)) (F _ (by omega)) (F _ (by omega)), t4.frame (F _ (by omega)) (F _ (by omega)) (F _ (by omega))⟩, fun i hi => by rw [F 42 (by omega)]; exact h2 i hi, fun i hi hk => (h3 i hi hk).frame (fun c hc => F _ (by omega)), ⟨by rw [F 0 (by omega)]; exact h4.1, fun j hj => by rw [F 43 (by omega)]; exact h4.2 j hj⟩, fun i hi => by rw [F 44 (by omega)]; exact h5 i hi, by rw [hf.2]; exact h6⟩
theorem Fr.low21 {σ σ' : St} (h : Fr 21 σ σ') : Low σ σ' := fun i hi => ⟨h.1 i (Or.inr (by omega)), by rw [h.2]⟩
theorem cNights {N : Nat} (hN : 300 < N) {q : QS} {σ : St} (hq : Okq q) (h : NR 1 q σ) (ht : TW 21 σ) {x n : Nat} (hx : x < 1000000) (hn : n ≤ 60) : ∃ σ', (bR (Ni_take N 21 1 σ) fun s14 => bL ((nI x).toInt64) fun x17 => Go_nights_L43 N N (nI n) x17 0 s14) = some (nI (cnN (tolB (ntN q x n).1) ((ntN q x n).1 37)), σ') ∧ Fr 21 σ σ' ∧ TW 21 σ' := by
  obtain ⟨s0, g0, n0, f0⟩ := cTake (N := N) (a := 21) (b := 1) hN h ht (by omega) LN_all.2.1 LN_all.1
  rw [g0, bR_e, nI_l (by omega), bL_e]
  refine loop_up (fun f k (y : Int64 × St) => Go_nights_L43 N f (nI n) y.1 (nI k) y.2) n (fun k y => y.1 = lN (ntN q x k).2 ∧ NR 21 (ntN q x k).1 y.2 ∧ Fr 21 σ y.2) (fun o => ∃ σ', o = some (nI (cnN (tolB (ntN q x n).1) ((ntN q x n).1 37)), σ') ∧ Fr 21 σ σ' ∧ TW 21 σ') ?_ ?_ (a := (lN x, s0)) (by omega) ⟨rfl, n0, f0⟩
  · intro f k y hk ⟨y1, y2, y3⟩
    have hnk : ¬ n ≤ k := by omega
    obtain ⟨o1, o2, o3⟩ := ntN_ok hq (x := x) (by omega) k
    have ol : lcg (ntN q x k).2 < 2147483648 := Nat.mod_lt _ (by decide)
    obtain ⟨s1, g1, n1, f1⟩ := cPass (N := N) o1 y2 (g := lcg (ntN q x k).2 / 65536 % 4) (r := lcg (ntN q x k).2 / 262144 % 3) (p := lcg (ntN q x k).2 / 1048576 % 8) (by omega) (by omega) (by omega)
    refine ⟨(lN (lcg (ntN q x k).2), s1), ?_, rfl, n1, y3.trans f1⟩
    show Go_nights_L43B N (Go_nights_L43 N f) (nI n) y.1 (nI k) y.2 = _
    unfold Go_nights_L43B
    rw [if_neg (leN hnk (by omega) (by omega)), y1, lcgI o2, bL_e, drw (u := 65536) (w := 4) (a := 65536) (b := 4) rfl rfl ol (by omega) (by omega), drw (u := 262144) (w := 3) (a := 262144) (b := 3) rfl rfl ol (by omega) (by omega), drw (u := 1048576) (w := 8) (a := 1048576) (b := 8) rfl rfl ol (by omega) (by omega), g1, bR_e, nI_1, bI_e]
  · intro f y ⟨y1, y2, y3⟩
    obtain ⟨o1, o2, o3⟩ := ntN_ok hq (x := x) (by omega) n
    have h37 := o1.b.2.2.1.1
    refine ⟨y.2, ?_, y3, y2.2⟩
    show Go_nights_L43B N (Go_nights_L43 N f) (nI n) y.1 (nI n) y.2 = _
    unfold Go_nights_L43B Go_nights_J106
    rw [if_pos (Int32.le_refl _), cTold hN o1 y2, bR_e, bcN _ (by omega)]
theorem mPassJ {N : Nat} {q : QS} {σ : St} (hq : Okq q) (h : RepM 115 0 q σ) {g : Nat} (hg4 : g < 4) (K : Int32 → Int64 → Int32 → St → Option (Int32 × St)) (v2 : Int32) (v3 : Int64) (k : Nat) : ∃ σ', Mo_nights_J151 N K v2 v3 (nI k) (nI g) σ = K v2 v3 (nI (k + 1)) σ' ∧ RepM 115 0 (if g < q 37 ∧ q (60 + g) = 7 then qEnter q g else q) σ' ∧ (∀ i, i ≠ 115 → σ'.1 i = σ.1 i) ∧ σ'.2 = σ.2 := by
  have h37 := hq.b.2.2.1.1
  unfold Mo_nights_J151 Mo_nights_J197
  rw [mGuQ h37 h, wv_n (by omega), bR_e, show (60 : Int32) = nI 60 from rfl, show (64 : Int32) = nI 64 from rfl, addI, addI, inI (by omega) (by decide), ck_t, ck_t, clI (by omega), h.get (by omega), nI_1]
  by_cases hg : g < q 37
  · have hx := (hq.b.2.2.1.2.1 g hg).2.2.2.2.2.1
    rw [if_pos hg, if_neg one_ne]
    by_cases z : q (60 + g) = 7
    · rw [if_pos (show nI (q (60 + g)) = 7 by rw [z]; rfl), bS_e, inI (by omega) (by decide), ck_t, clI (by omega), bS_e, bI_e]
      refine ⟨_, rfl, ?_, fun i hi => by simp (disch := omega) only [rdI_ne], rfl⟩
      rw [if_pos ⟨hg, z⟩]
      exact (h.put 0).put 0
    · rw [if_neg (show ¬ nI (q (60 + g)) = 7 from neI (b := 7) z (by omega) (by decide)), bI_e]
      refine ⟨σ, rfl, ?_, fun _ _ => rfl, rfl⟩
      rw [if_neg (fun w => z w.2)]; exact h
  · rw [if_neg hg, if_pos rfl, bI_e]
    refine ⟨σ, rfl, ?_, fun _ _ => rfl, rfl⟩
    rw [if_neg (fun w => hg w.1)]; exact h
theorem mNights {N : Nat} (hN : 300 < N) {q : QS} {σ : St} (hq : Okq q) (h : RepM 115 0 q σ) {x n : Nat} (hx : x < 1000000) (hn : n ≤ 60) : ∃ σ', (bR (Mo_copies N 115 52 116 0 16 σ) fun s14 => bL ((nI x).toInt64) fun x17 => Mo_nights_L53 N N (nI n) x17 0 s14) = some (nI (cnN (tolB (ntN q x n).1) ((ntN q x n).1 37)), σ') ∧ RepM 115 0 q σ' ∧ (∀ i, i ≠ 115 → i ≠ 116 → σ'.1 i = σ.1 i) ∧ σ'.2 = σ.2 := by
  obtain ⟨s0, g0, c1, c2, c3, c4⟩ := mCopies (N := N) (σ := σ) (v0 := 115) (v2 := 116) (i := 52) (j := 0) (n := 16) (by omega) (Or.inl (by decide)) (by decide) (by decide) (by decide) (by decide)
  have c1' : ∀ j, j < 16 → s0.1 116 j = nI (q (52 + j)) := fun j hj => by
    have := c1 j hj
    rw [Nat.zero_add] at this
    rw [this]; exact h.get (by omega)
  rw [show (52 : Int32) = nI 52 from rfl, show (0 : Int32) = nI 0 from rfl, show (16 : Int32) = nI 16 from rfl, g0, bR_e, nI_l (by omega), bL_e]
  refine loop_up (fun f k (y : Int64 × St) => Mo_nights_L53 N f (nI n) y.1 (nI k) y.2) n (fun k y => y.1 = lN (ntN q x k).2 ∧ RepM 115 0 (ntN q x k).1 y.2 ∧ (∀ i, i ≠ 115 → y.2.1 i = s0.1 i) ∧ y.2.2 = s0.2) (fun o => ∃ σ', o = some (nI (cnN (tolB (ntN q x n).1) ((ntN q x n).1 37)), σ') ∧ RepM 115 0 q σ' ∧ (∀ i, i ≠ 115 → i ≠ 116 → σ'.1 i = σ.1 i) ∧ σ'.2 = σ.2) ?_ ?_ (a := (lN x, s0)) (by omega) ⟨rfl, h.frame (c2 _ (by decide)), fun _ _ => rfl, rfl⟩
  · intro f k y hk ⟨y1, y2, y3, y4⟩
    have hnk : ¬ n ≤ k := by omega
    obtain ⟨o1, o2, o3⟩ := ntN_ok hq (x := x) (by omega) k
    have ol : lcg (ntN q x k).2 < 2147483648 := Nat.mod_lt _ (by decide)
    have h36 := o1.b.2.1.1
    have h37 := o1.b.2.2.1.1
    have eL : ∀ (g r p : Nat), lcg (ntN q x k).2 / 65536 % 4 = g → lcg (ntN q x k).2 / 262144 % 3 = r → lcg (ntN q x k).2 / 1048576 % 8 = p → ∃ σ', Mo_nights_L53 N (f + 1) (nI n) y.1 (nI k) y.2 = Mo_nights_L53 N f (nI n) (lN (lcg (ntN q x k).2)) (nI (k + 1)) σ' ∧ RepM 115 0 (nst (ntN q x k).1 g r p) σ' ∧ (∀ i, i ≠ 115 → σ'.1 i = y.2.1 i) ∧ σ'.2 = y.2.2 := by
      intro g r p e1 e2 e3
      have hg4 : g < 4 := by omega
      have hr3 : r < 3 := by omega
      have hp8 : p < 8 := by omega
      obtain ⟨s1, j1, j2, j3, j4⟩ := mPassJ (N := N) o1 y2 hg4 (Mo_nights_L53 N f) (nI n) (lN (lcg (ntN q x k).2)) k
      show ∃ σ', Mo_nights_L53B N (Mo_nights_L53 N f) (nI n) y.1 (nI k) y.2 = _ ∧ _
      unfold Mo_nights_L53B nst
      rw [if_neg (leN hnk (by omega) (by omega)), y1, lcgI o2, bL_e, drw (u := 65536) (w := 4) (a := 65536) (b := 4) rfl rfl ol (by omega) (by omega), drw (u := 262144) (w := 3) (a := 262144) (b := 3) rfl rfl ol (by omega) (by omega), drw (u := 1048576) (w := 8) (a := 1048576) (b := 8) rfl rfl ol (by omega) (by omega), e1, e2, e3, bI_e, bI_e, bI_e, mGuQ h37 y2, wv_n (by omega), bR_e, mRoQ h36 y2, wv_n (by omega), bR_e]
      by_cases hg : g < (ntN q x k).1 37
      · have hx2 := (o1.b.2.2.1.2.1 g hg).2.2.2.2.2.1
        rw [if_pos hg, if_neg one_ne, mCan o1.b.1 y2 hg4 hx2 hp8, bR_e]
        by_cases hr : r < (ntN q x k).1 36
        · rw [if_pos hr, if_neg one_ne]
          by_cases c : canN (ntN q x k).1 ((ntN q x k).1 (60 + g)) p = true
          · obtain ⟨s2, g2, r2, f2, -, f4⟩ := mRowedX (N := N) o1 y2 hg hr hp8
            refine ⟨s2, ?_, by rw [if_pos ⟨hg, hr, c⟩]; exact r2, f2, f4⟩
            rw [if_pos c, if_neg one_ne, g2, bR_e]
            unfold Mo_nights_J197
            rw [nI_1, bI_e]
          · exact ⟨s1, by rw [if_neg c, if_pos rfl, j1], by rw [if_neg (fun w => c w.2.2)]; exact j2, j3, j4⟩
        · exact ⟨s1, by rw [if_neg hr, if_pos rfl, j1], by rw [if_neg (fun w => hr w.2.1)]; exact j2, j3, j4⟩
      · exact ⟨s1, by rw [if_neg hg, if_pos rfl, j1], by rw [if_neg (fun w => hg w.1)]; exact j2, j3, j4⟩
    obtain ⟨s1, k1, k2, k3, k4⟩ := eL _ _ _ rfl rfl rfl
    exact ⟨(lN (lcg (ntN q x k).2), s1), k1, rfl, k2, fun i hi => (k3 i hi).trans (y3 i hi), k4.trans y4⟩
  · intro f y ⟨y1, y2, y3, y4⟩
    obtain ⟨o1, o2, o3⟩ := ntN_ok hq (x := x) (by omega) n
    have h37 := o1.b.2.2.1.1
    have e37 : y.2.1 115 (37 : Int32).toNatClampNeg = nI ((ntN q x n).1 37) := y2.get (by decide)
    obtain ⟨s3, g3, d1, d2, d3, d4⟩ := mCopies (N := N) (σ := y.2) (v0 := 116) (v2 := 115) (i := 0) (j := 52) (n := 16) (by omega) (Or.inl (by decide)) (by decide) (by decide) (by decide) (by decide)
    refine ⟨s3, ?_, fun k hk => ?_, fun i h1 h2 => by rw [d2 i h1, y3 i h1, c2 i h2], by rw [d4, y4, c4]⟩
    · show Mo_nights_L53B N (Mo_nights_L53 N f) (nI n) y.1 (nI n) y.2 = _
      unfold Mo_nights_L53B Mo_nights_J203
      rw [if_pos (Int32.le_refl _)]
      refine loop_up (fun f i a => Mo_nights_L209 N f a (nI i) y.2) ((ntN q x n).1 37) (fun i a => a = nI (cnN (tolB (ntN q x n).1) i)) (fun o => o = some (nI (cnN (tolB (ntN q x n).1) ((ntN q x n).1 37)), s3)) ?_ ?_ (by omega) rfl
      · intro f i a hi ha
        obtain ⟨w1, w2, w3, w4, -⟩ := o1.b.2.2.1.2.1 i hi
        have hni : ¬ (ntN q x n).1 37 ≤ i := by omega
        refine ⟨nI (cnN (tolB (ntN q x n).1) (i + 1)), ?_, rfl⟩
        show Mo_nights_L209B N (Mo_nights_L209 N f) a (nI i) y.2 = Mo_nights_L209 N f (nI (cnN (tolB (ntN q x n).1) i + (tolB (ntN q x n).1 i).toNat)) (nI (i + 1)) y.2
        unfold Mo_nights_L209B Mo_nights_J251
        rw [e37, if_neg (leN hni (by omega) (by omega)), show (52 : Int32) = nI 52 from rfl, show (48 : Int32) = nI 48 from rfl, addI, addI, inI (by omega) (by decide), ck_t, inI (by omega) (by decide), ck_t, clI (by omega), clI (by omega), y2.get (by omega), y2.get (by omega), ha, nI_1, nI_1, show (0 : Int32) = nI 0 from rfl, addI, bI_e, bI_e, bI_e, bI_e]
        unfold tolB
        by_cases z : (ntN q x n).1 (52 + i) = (ntN q x n).1 (48 + i)
        · rw [if_pos (by rw [z]), decide_eq_true z]; rfl
        · rw [if_neg (neI z (by omega) (by omega)), decide_eq_false z]; rfl
      · intro f a ha
        show Mo_nights_L209B N (Mo_nights_L209 N f) a (nI ((ntN q x n).1 37)) y.2 = _
        unfold Mo_nights_L209B Mo_nights_J260
        rw [e37, if_pos (Int32.le_refl _), show (52 : Int32) = nI 52 from rfl, show (0 : Int32) = nI 0 from rfl, show (16 : Int32) = nI 16 from rfl, g3, bR_e, ha]
    · rw [Nat.zero_add]
      by_cases z : 52 ≤ k ∧ k < 68
      · have e := d1 (k - 52) (by omega)
        rw [show 52 + (k - 52) = k by omega, Nat.zero_add] at e
        rw [e, y3 116 (by decide), c1' (k - 52) (by omega), show 52 + (k - 52) = k by omega]
      · rw [d3 k (by omega), y2.get hk, o3 k (by omega)]
theorem sim_nights (N : Nat) (hN : 300 < N) : Sim_nights N Inv := by
  intro σ hI v1 v2
  obtain ⟨A, hO, hC, hM⟩ := hI
  have hq := hO.1
  have h36 := hO.1.2.1
  have h37 := hO.1.2.2.1
  by_cases h1 : (0 : Int) ≤ v1.toInt ∧ v1.toInt ≤ 999999
  rotate_left
  · refine sim_ref (f := fun σ => Go_nights N v1 v2 σ) (g := fun σ => Mo_nights N v1 v2 σ) (r := -2) 0 (by decide) hO hC hM ?_ (fun σ1 m1 => ?_)
    · show Go_nights N v1 v2 σ = _
      simp only [Go_nights_J21, Go_nights_J106, Go_nights, gGu hO hC, gRo hO hC, gPl, bR_e, bW_e, gBad, gFarBad, eq_self, one_ne, if_true, if_false, not_false_eq_true, not_true_eq_false, gW999999, wv_0 h1]
    · show Mo_nights N v1 v2 σ1 = _
      simp only [Mo_nights_J24, Mo_nights_J260, Mo_nights_J251, Mo_nights_J203, Mo_nights_J197, Mo_nights_J151, Mo_nights, mGu hO m1, mRo hO m1, mPl, bR_e, bW_e, mBad, eq_self, one_ne, if_true, if_false, not_false_eq_true, not_true_eq_false, mW999999, wv_0 h1]
  by_cases h2 : (0 : Int) ≤ v2.toInt ∧ v2.toInt ≤ 60
  rotate_left
  · refine sim_ref (f := fun σ => Go_nights N v1 v2 σ) (g := fun σ => Mo_nights N v1 v2 σ) (r := -2) 0 (by decide) hO hC hM ?_ (fun σ1 m1 => ?_)
    · show Go_nights N v1 v2 σ = _
      simp only [Go_nights_J21, Go_nights_J106, Go_nights, gGu hO hC, gRo hO hC, gPl, bR_e, bW_e, gBad, gFarBad, eq_self, one_ne, if_true, if_false, not_false_eq_true, not_true_eq_false, gW999999, wv_1 h1, gW60, wv_0 h2]
    · show Mo_nights N v1 v2 σ1 = _
      simp only [Mo_nights_J24, Mo_nights_J260, Mo_nights_J251, Mo_nights_J203, Mo_nights_J197, Mo_nights_J151, Mo_nights, mGu hO m1, mRo hO m1, mPl, bR_e, bW_e, mBad, eq_self, one_ne, if_true, if_false, not_false_eq_true, not_true_eq_false, mW999999, wv_1 h1, mW60, wv_0 h2]
  obtain ⟨a1, c1, b1, rfl⟩ := wv_nat (hi := 999999) (by decide) h1
  obtain ⟨a2, c2, b2, rfl⟩ := wv_nat (hi := 60) (by decide) h2
  obtain ⟨s1, g1, f1, t1⟩ := cNights (N := N) hN hq hC.nr hC.2.1.2.1 (x := a1) (n := a2) (by omega) (by omega)
  refine sim_of (f := fun σ => Go_nights N (nI a1) (nI a2) σ) (g := fun σ => Mo_nights N (nI a1) (nI a2) σ) hC hM ⟨nI (cnN (tolB (ntN A.1 a1 a2).1) ((ntN A.1 a1 a2).1 37)), A, hO, ⟨s1, ?_, hC.draft f1 t1, f1.low21⟩, fun σ1 m1 => ?_⟩
  · show Go_nights N (nI a1) (nI a2) σ = _
    simp only [Go_nights, gGu hO hC, gRo hO hC, gPl, bR_e, bW_e, gBad, gFarBad, eq_self, one_ne, if_true, if_false, not_false_eq_true, not_true_eq_false, gW999999, wv_1 h1, gW60, wv_1 h2]
    exact g1
  · obtain ⟨s2, g2, r2, f2, k2⟩ := mNights (N := N) hN hq m1.1 (x := a1) (n := a2) (by omega) (by omega)
    have G : Gr σ1 s2 := ⟨fun i hi => f2 i (by omega) (by omega), fun i h1 h2 => f2 i (by omega) (by omega), by rw [f2 114 (by decide) (by decide)], k2⟩
    refine ⟨s2, ?_, m1.row r2 G, G.high⟩
    show Mo_nights N (nI a1) (nI a2) σ1 = _
    simp only [Mo_nights, mGu hO m1, mRo hO m1, mPl, bR_e, bW_e, mBad, eq_self, one_ne, if_true, if_false, not_false_eq_true, not_true_eq_false, mW999999, wv_1 h1, mW60, wv_1 h2]
    exact g2
