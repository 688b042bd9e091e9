/-! all ways: the reference's search -/
def Go1 (σ : St) (d p : Nat) (y : QS) (σ' : St) : Prop := (σ'.1 123 (d + 1) = nI (y 4) ∧ σ'.1 124 (d + 1) = nI (y 2) ∧ σ'.1 125 (d + 1) = nI (y 3) ∧ σ'.1 126 (d + 1) = nI (y 5)) ∧ σ'.1 127 (d + 1) = 0 ∧ σ'.1 128 (d + 1) = (σ.1 128 d ||| bitI p) ∧ (∀ c k, k ≠ d + 1 → σ'.1 c k = σ.1 c k) ∧ (∀ c, (c < 123 ∨ 128 < c) → σ'.1 c = σ.1 c) ∧ σ'.2 = σ.2
theorem Go1.mk' {σ : St} {d p : Nat} {y : QS} {x1 x2 x3 x4 x5 : Int32} (h1 : x1 = nI (y 4)) (h2 : x2 = nI (y 5)) (h3 : x3 = nI (y 2)) (h4 : x4 = nI (y 3)) (h5 : x5 = (σ.1 128 d ||| bitI p)) : Go1 σ d p y (sI (sI (sI (sI (sI (sI σ 123 (d + 1) x1) 126 (d + 1) x2) 124 (d + 1) x3) 125 (d + 1) x4) 128 (d + 1) x5) 127 (d + 1) 0) := by
  refine ⟨⟨?_, ?_, ?_, ?_⟩, rdI_eq _ _ _ _, ?_, fun c k hk => ?_, fun c hc => ?_, rfl⟩
  · simp (disch := omega) only [rdI_ne, rdI_eq]; exact h1
  · simp (disch := omega) only [rdI_ne, rdI_eq]; exact h3
  · simp (disch := omega) only [rdI_ne, rdI_eq]; exact h4
  · simp (disch := omega) only [rdI_ne, rdI_eq]; exact h2
  · simp (disch := omega) only [rdI_ne, rdI_eq]; exact h5
  · rw [rdI, if_neg (fun z => hk z.2), rdI, if_neg (fun z => hk z.2), rdI, if_neg (fun z => hk z.2), rdI, if_neg (fun z => hk z.2), rdI, if_neg (fun z => hk z.2), rdI, if_neg (fun z => hk z.2)]
  · simp (disch := omega) only [rdI_ne]
def sitX (q x : QS) (p : Nat) : QS := updQ (updQ x 5 (gonN q x p)) 4 p
theorem mGoes {N : Nat} {q : QS} {σ : St} (hq : Okq q) (hM : RepM 115 0 q σ) {g r d p : Nat} {x : QS} (hg : g < q 37) (hr : r < q 36) (hd : d ≤ 7) (hp : p < 8) (hx : OkX x) (x0 : x 0 = q (44 + g)) (x1 : x 1 = q (48 + g)) (e : σ.1 123 d = nI (x 4) ∧ σ.1 124 d = nI (x 2) ∧ σ.1 125 d = nI (x 3) ∧ σ.1 126 d = nI (x 5)) : (∃ σ', Mo_goesOn N (nI g) (nI r) (nI d) (nI p) 1 σ = some σ' ∧ Go1 σ d p (rowX q (q (38 + r)) (q (41 + r)) x p) σ') ∧ (∃ σ', Mo_goesOn N (nI g) (nI r) (nI d) (nI p) 0 σ = some σ' ∧ Go1 σ d p (sitX q x p) σ') := by
  obtain ⟨b1, b2, b3, b4, b5, b6, b7⟩ := hq.b
  have h36 := b2.1
  have h37 := b3.1
  obtain ⟨kd1, tg1⟩ := b2.2 r hr
  obtain ⟨y0, y1, y2, y3, y4, y5⟩ := hx
  obtain ⟨e1, e2, e3, e4⟩ := e
  have hs := stq_le b1 (a := x 4) (b := p) (by omega) hp
  have hqp : q p ≤ 9 := b1 p (by omega)
  have hgo : gonN q x p ≤ 999 := by unfold gonN; omega
  have ht := toldN_lt (kd := q (38 + r)) (tg := q (41 + r)) (d := q p) (s := gonN q x p) (by omega) (by omega)
  have hh : heaN q (q (38 + r)) (q (41 + r)) x p ≤ 40 := by unfold heaN; omega
  have hu := hurtN_lt (kd := x 0) (h := x 1) (k := x 2) (m := heaN q (q (38 + r)) (q (41 + r)) x p) (d := q p) (by omega) (by omega)
  have k38 : (38 : Int32) + nI r = nI (38 + r) := addI 38 r
  have k41 : (41 : Int32) + nI r = nI (41 + r) := addI 41 r
  have k48 : (48 : Int32) + nI g = nI (48 + g) := addI 48 g
  have k44 : (44 : Int32) + nI g = nI (44 + g) := addI 44 g
  have k0 : (0 : Int32) + nI p = nI p := by rw [show (0 : Int32) = nI 0 from rfl, addI, Nat.zero_add]
  have k999 : (999 : Int32) = nI 999 := rfl
  constructor
  · unfold Mo_goesOn Mo_goesOn_J87 Mo_goesOn_J136
    rw [inI (a := d) (n := 9) (by omega) (by decide), ck_t, ck_t, clI (a := d) (by omega), e1, mSt' hM (by omega) hp, bR_e, e4, addI, k999, less_e (by omega) (by omega), show min 999 (x 5 + stq q (x 4) p) = gonN q x p from rfl, bI_e, if_neg one_ne, if_neg one_ne]
    simp (disch := omega) only [k38, k41, k48, k44, k0, nI_1, inI, ck_t, clI, hM.get, e2]
    rw [← x1, ← x0, told_m (by omega) (by omega) (by omega) (by omega), subI y2, less_e (by omega) (by omega), show min (toldN (q (38 + r)) (q (41 + r)) (q p) (gonN q x p)) (x 1 - x 2) = heaN q (q (38 + r)) (q (41 + r)) x p from rfl, hurt_m (by omega) (by omega) (by omega) (by omega) (by omega)]
    simp (disch := omega) only [bS_e, rdI_ne, e2, e3, addI, less_e]
    refine ⟨_, rfl, Go1.mk' ?_ ?_ ?_ ?_ rfl⟩ <;> unfold rowX <;> simp (disch := omega) only [updQ_s, updQ_n] <;> rfl
  · unfold Mo_goesOn Mo_goesOn_J87 Mo_goesOn_J136
    rw [inI (a := d) (n := 9) (by omega) (by decide), ck_t, ck_t, clI (a := d) (by omega), e1, mSt' hM (by omega) hp, bR_e, e4, addI, k999, less_e (by omega) (by omega), show min 999 (x 5 + stq q (x 4) p) = gonN q x p from rfl, bI_e, if_pos rfl, if_pos rfl, show (0 : Int32) = nI 0 from rfl]
    simp (disch := omega) only [nI_1, inI, ck_t, clI, bS_e, rdI_ne, e2, e3, addI, less_e]
    refine ⟨_, rfl, Go1.mk' ?_ ?_ ?_ ?_ rfl⟩ <;> unfold sitX <;> simp (disch := omega) only [updQ_s, updQ_n]
    · rfl
    · rw [Nat.add_zero, Nat.min_eq_right (by omega)]
def MW (w : WS) (σ : St) : Prop := σ.1 114 22 = nI w.1.1 ∧ (w.1.1 ≠ 0 → σ.1 114 24 = nI w.1.2.1 ∧ σ.1 114 25 = nI w.1.2.2.1 ∧ σ.1 114 26 = nI w.1.2.2.2) ∧ (∀ i, i < w.1.1 → σ.1 129 i = nI (w.2.1 i)) ∧ σ.1 114 27 = gnI w.2.2
def MT (T : Nat → QS) (d : Nat) (σ : St) : Prop := ∀ i, i ≤ d → σ.1 123 i = nI (T i 4) ∧ σ.1 124 i = nI (T i 2) ∧ σ.1 125 i = nI (T i 3) ∧ σ.1 126 i = nI (T i 5)
def Fm (σ σ' : St) : Prop := (∀ i, i ≠ 114 → (i < 123 ∨ 129 < i) → σ'.1 i = σ.1 i) ∧ (∀ k, (k < 22 ∨ 27 < k) → σ'.1 114 k = σ.1 114 k) ∧ σ'.2 = σ.2
theorem Fm.rfl' {σ : St} : Fm σ σ := ⟨fun _ _ _ => rfl, fun _ _ => rfl, rfl⟩
theorem Fm.trans {σ σ1 σ2 : St} (h : Fm σ σ1) (h2 : Fm σ1 σ2) : Fm σ σ2 := ⟨fun i h1 h3 => (h2.1 i h1 h3).trans (h.1 i h1 h3), fun k hk => (h2.2.1 k hk).trans (h.2.1 k hk), h2.2.2.trans h.2.2⟩
theorem Fm.wr {σ : St} {i k : Nat} {v : Int32} (h : 123 ≤ i ∧ i ≤ 129) : Fm σ (sI σ i k v) := ⟨fun a h1 h2 => rdI_ne _ _ _ _ (by omega), fun a _ => by rw [rdI_ne _ _ _ _ (by omega)], rfl⟩
theorem Fm.wr0 {σ : St} {k : Nat} {v : Int32} (h : 22 ≤ k ∧ k ≤ 27) : Fm σ (sI σ 114 k v) := ⟨fun a h1 h2 => rdI_ne _ _ _ _ h1, fun a ha => by rw [rdI_nk _ _ _ _ (by omega)], rfl⟩
theorem Fm.gr {σ σ' : St} (h : Fm σ σ') : Gr σ σ' := ⟨fun i hi => h.1 i (by omega) (by omega), fun i h1 h2 => h.1 i (by omega) (by omega), h.2.1 5 (by omega), h.2.2⟩
theorem mBtr {N : Nat} {σ : St} {w : WS} {x : QS} {d : Nat} (hd : d ≤ 7) (hw : WOk w) (hC : MW w σ) (hx : OkX x) (e : σ.1 124 d = nI (x 2) ∧ σ.1 125 d = nI (x 3) ∧ σ.1 126 d = nI (x 5)) : Mo_isBetter N (nI d) σ = some (if btr w x = true then 1 else 0) := by
  obtain ⟨w1, ⟨w2, w3, w4⟩, w5, w6⟩ := hw
  obtain ⟨x0, x1, x2, x3, x4, x5⟩ := hx
  obtain ⟨e2, e3, e4⟩ := e
  unfold Mo_isBetter Mo_isBetter_J20 Mo_isBetter_J40 btr
  rw [hC.1, inI (n := 9) (by omega) (by decide), clI (a := d) (by omega), e2, e3, e4]
  simp only [ck_t]
  by_cases z : w.1.1 = 0
  · rw [if_pos (show nI w.1.1 = 0 by rw [z]; rfl), if_pos (show nI w.1.1 = 0 by rw [z]; rfl), if_pos (by simp only [decide_eq_true_eq]; omega)]
  · obtain ⟨k1, k2, k3⟩ := hC.2.1 z
    rw [if_neg (show ¬ nI w.1.1 = 0 from neI (b := 0) z (by omega) (by decide)), if_neg (show ¬ nI w.1.1 = 0 from neI (b := 0) z (by omega) (by decide)), k1, k2, k3]
    by_cases a : x 2 = w.1.2.1
    · rw [if_pos (by rw [a])]
      by_cases b : x 3 = w.1.2.2.1
      · rw [if_pos (by rw [b])]
        by_cases e : w.1.2.2.2 ≤ x 5
        · rw [if_pos (leP e (by omega) (by omega)), if_neg (by simp only [decide_eq_true_eq]; omega)]
        · rw [if_neg (leN e (by omega) (by omega)), if_pos (by simp only [decide_eq_true_eq]; omega)]
      · rw [if_neg (neI b (by omega) (by omega))]
        by_cases e : w.1.2.2.1 ≤ x 3
        · rw [if_pos (leP e (by omega) (by omega)), if_neg (by simp only [decide_eq_true_eq]; omega)]
        · rw [if_neg (leN e (by omega) (by omega)), if_pos (by simp only [decide_eq_true_eq]; omega)]
    · rw [if_neg (neI a (by omega) (by omega))]
      by_cases e : x 2 ≤ w.1.2.1
      · rw [if_pos (leP e (by omega) (by omega)), if_neg (by simp only [decide_eq_true_eq]; omega)]
      · rw [if_neg (leN e (by omega) (by omega)), if_pos (by simp only [decide_eq_true_eq]; omega)]
theorem gn_neg {n : Nat} (h : n ≤ 1000) : (gnI n < 0) ↔ n = 0 := by
  unfold gnI
  by_cases z : n = 0
  · rw [if_pos z]; exact ⟨fun _ => z, fun _ => by decide⟩
  · rw [if_neg z]
    exact ⟨fun y => absurd y (nI_pos (by omega)), fun y => absurd y z⟩
/-- arrived: only what is kept of the best way changes -/
def Fb (σ σ' : St) : Prop := (∀ i, i ≠ 114 → i ≠ 129 → σ'.1 i = σ.1 i) ∧ (∀ k, (k < 22 ∨ 27 < k) → σ'.1 114 k = σ.1 114 k) ∧ σ'.2 = σ.2
theorem mArrive {N : Nat} (hN : 300 < N) {q : QS} {σ : St} (hM : RepM 115 0 q σ) {g : Nat} (hg4 : g < 4) {w : WS} {T : Nat → QS} {d : Nat} {b : Nat → Bool} (hw : WOk w) (hX : XOk T d b) (hx1 : T d 1 = q (48 + g)) (hC : MW w σ) (hT : MT T d σ) : ∃ σ', Mo_arrives N (nI g) (nI d) σ = some σ' ∧ MW (arrW w (T d) d (fun i => T (i + 1) 4)) σ' ∧ Fb σ σ' := by
  have hd := hX.d
  have hxx := hX.1 d (Nat.le_refl _)
  obtain ⟨x0, x1, x2, x3, x4, x5⟩ := hX.1 d (Nat.le_refl _)
  obtain ⟨e1, e2, e3, e4⟩ := hT d (Nat.le_refl _)
  have J57 : ∀ (v : WS) (s : St), WOk v → MW v s → Fb σ s → ∃ σ', Mo_arrives_J57 N (nI g) (nI d) s = some σ' ∧ MW (arrG v (T d)) σ' ∧ Fb σ σ' := by
    intro v s hv hc hf
    have h6 := hv.2.2.2
    have hM' : RepM 115 0 q s := hM.frame (hf.1 _ (by decide) (by decide))
    have set : T d 2 = T d 1 → (v.2.2 = 0 ∨ T d 3 + 1 < v.2.2) → ∃ σ', Mo_arrives_J95 N (nI d) s = some σ' ∧ MW (arrG v (T d)) σ' ∧ Fb σ σ' := by
      intro h1 h2
      unfold Mo_arrives_J95
      rw [inI (n := 9) (by omega) (by decide), ck_t, clI (by omega), hf.1 125 (by decide) (by decide), e3, bS_e]
      refine ⟨_, rfl, ⟨?_, fun h0 => ⟨?_, ?_, ?_⟩, fun i hi => ?_, ?_⟩, fun i h3 h4 => by rw [rdI_ne _ _ _ _ h3]; exact hf.1 i h3 h4, fun k hk => by rw [rdI_nk _ _ _ _ (by omega)]; exact hf.2.1 k hk, hf.2.2⟩
      · rw [rdI_nk _ _ _ _ (by decide)]; exact hc.1
      · rw [rdI_nk _ _ _ _ (by decide)]; exact (hc.2.1 h0).1
      · rw [rdI_nk _ _ _ _ (by decide)]; exact (hc.2.1 h0).2.1
      · rw [rdI_nk _ _ _ _ (by decide)]; exact (hc.2.1 h0).2.2
      · rw [rdI_ne _ _ _ _ (by decide)]; exact hc.2.2.1 i hi
      · rw [rdI_eq]
        show _ = gnI (if T d 2 = T d 1 ∧ (v.2.2 = 0 ∨ T d 3 + 1 < v.2.2) then T d 3 + 1 else v.2.2)
        rw [if_pos ⟨h1, h2⟩]
        unfold gnI
        rw [if_neg (by omega), Nat.add_sub_cancel]
    have keep : ¬ (T d 2 = T d 1 ∧ (v.2.2 = 0 ∨ T d 3 + 1 < v.2.2)) → MW (arrG v (T d)) s := by
      intro h
      have e : arrG v (T d) = v := by unfold arrG; rw [if_neg h]
      rw [e]; exact hc
    unfold Mo_arrives_J57
    rw [inI (n := 9) (a := d) (by omega) (by decide), ck_t, show (48 : Int32) = nI 48 from rfl, addI, inI (by omega) (by decide), ck_t, ck_t, clI (by omega), clI (by omega), hM'.get (by omega), hf.1 124 (by decide) (by decide), hf.1 125 (by decide) (by decide), e2, e3, ← hx1, hc.2.2.2]
    by_cases a : T d 2 = T d 1
    · rw [if_pos (by rw [a])]
      by_cases g0 : v.2.2 = 0
      · rw [if_pos ((gn_neg h6).mpr g0)]
        exact set a (Or.inl g0)
      · rw [if_neg (fun z => g0 ((gn_neg h6).mp z)), show gnI v.2.2 = nI (v.2.2 - 1) from if_neg g0]
        by_cases y : v.2.2 - 1 ≤ T d 3
        · rw [if_pos (leP y (by omega) (by omega))]
          exact ⟨s, rfl, keep (fun z => by omega), hf⟩
        · rw [if_neg (leN y (by omega) (by omega))]
          exact set a (Or.inr (by omega))
    · rw [if_neg (neI a (by omega) (by omega))]
      exact ⟨s, rfl, keep (fun z => a z.1), hf⟩
  rw [← arrW_c]
  unfold Mo_arrives
  rw [mBtr hd hw hC hxx ⟨e2, e3, e4⟩, bR_e]
  unfold arrB
  by_cases y : btr w (T d) = true
  · rw [if_pos y, if_neg one_ne, if_pos y, bS_e, inI (n := 9) (by omega) (by decide), ck_t, clI (by omega), bS_e, ck_t, bS_e, ck_t, bS_e]
    simp (disch := omega) only [rdI_ne, e2, e3, e4]
    obtain ⟨s2, g2, c1, c2, c3, c4⟩ := mCopies (N := N) (σ := sI (sI (sI (sI σ 114 22 (nI d)) 114 24 (nI (T d 2))) 114 25 (nI (T d 3))) 114 26 (nI (T d 5))) (v0 := 123) (v2 := 129) (i := 1) (j := 0) (n := d) (by omega) (Or.inl (by decide)) (by show 1 + d ≤ 9; omega) (by show 0 + d ≤ 8; omega) (by decide) (by decide)
    rw [show (1 : Int32) = nI 1 from rfl, show (0 : Int32) = nI 0 from rfl, g2, bR_e]
    refine J57 ((d, T d 2, T d 3, T d 5), (fun i => T (i + 1) 4), w.2.2) s2 ⟨hd, ⟨by show T d 2 ≤ 40; omega, x3, x5⟩, fun i hi => by have := (hX.1 (i + 1) (by have : i < d := hi; omega)).2.2.2.2.1; show T (i + 1) 4 < 8; omega, hw.2.2.2⟩ ⟨?_, fun _ => ⟨?_, ?_, ?_⟩, fun i hi => ?_, ?_⟩ ⟨fun i h1 h2 => by rw [c2 i h2]; simp (disch := omega) only [rdI_ne], fun k hk => by rw [c2 _ (by decide)]; simp (disch := omega) only [rdI_nk], by rw [c4]; rfl⟩
    · rw [c2 _ (by decide)]; simp (disch := omega) only [rdI_nk, rdI_eq]
    · rw [c2 _ (by decide)]; simp (disch := omega) only [rdI_nk, rdI_eq]
    · rw [c2 _ (by decide)]; simp (disch := omega) only [rdI_nk, rdI_eq]
    · rw [c2 _ (by decide)]; simp (disch := omega) only [rdI_nk, rdI_eq]
    · have hi' : i < d := hi
      have := c1 i hi'
      rw [Nat.zero_add] at this
      rw [this]
      simp (disch := omega) only [rdI_ne]
      rw [Nat.add_comm 1 i]
      exact (hT (i + 1) (by omega)).1
    · rw [c2 _ (by decide)]; simp (disch := omega) only [rdI_nk]; exact hC.2.2.2
  · rw [if_neg y, if_pos rfl, if_neg y]
    exact J57 w σ hw hC ⟨fun _ _ _ => rfl, fun _ _ => rfl, rfl⟩
theorem mHas (b : Nat → Bool) {n p : Nat} (hn : n ≤ 31) (hp : p < n) : Mo_has (mskI b n) (nI p) = if b p = true then 1 else 0 := by
  have e : (mskI b n >>> (nI p &&& 31) &&& 1 = 1) = (b p = true) := by
    rw [and1, shr_0 _ (by omega), gB_msk b (by omega)]; simp [hp]
  unfold Mo_has
  by_cases c : b p = true
  · rw [if_pos (by rw [e]; exact c), if_pos c]
  · rw [if_neg (by rw [e]; exact c), if_neg c]
def BX : Nat → Nat
  | 0 => 0
  | f + 1 => 8 * (BX f + 1) + 1
theorem mXpl {N : Nat} (hN : 300 < N) {q : QS} {σ0 : St} (hq : Okq q) (h : RepM 115 0 q σ0) {g r : Nat} (hg : g < q 37) (hr : r < q 36) (f : Nat) : ∀ {T : Nat → QS} {d : Nat} {b : Nat → Bool} {w : WS} {σ : St}, d + f = 10 → WOk w → XOk T d b → (∀ i, i ≤ d → T i 0 = q (44 + g) ∧ T i 1 = q (48 + g)) → MW w σ → MT T d σ → σ.1 128 d = mskI b 8 → σ.1 127 d = nI 0 → Fm σ0 σ → ∃ k σ', k ≤ BX f ∧ (∀ F, Mo_finds_L35 N (F + k) (nI g) (nI r) (nI d) σ = Mo_finds_L35 N F (nI g) (nI r) (nI d + (-1)) σ') ∧ MW (xpl q (q (38 + r)) (q (41 + r)) f T d b w) σ' ∧ (∀ c i, i < d → 123 ≤ c → c ≤ 128 → σ'.1 c i = σ.1 c i) ∧ Fm σ0 σ' := by
  obtain ⟨b1, b2, b3, b4, b5, b6, b7⟩ := hq.b
  have h36 := b2.1
  have h37 := b3.1
  obtain ⟨M, hM⟩ : ∃ M : Nat, M = 8 := ⟨_, rfl⟩
  induction f with
  | zero => intro T d b w σ hd _ hX; have := hX.d; omega
  | succ f ih =>
    intro T d b w σ hdf hW hX hQ hC hT hB hNx hF
    have hd := hX.d
    have hxx := hX.1 d (Nat.le_refl _)
    obtain ⟨x0, x1, x2, x3, x4, x5⟩ := hX.1 d (Nat.le_refl _)
    have e4 := (hT d (Nat.le_refl _)).1
    have BXs : BX (f + 1) = 8 * (BX f + 1) + 1 := rfl
    have nd0 : ¬ nI d < 0 := nI_pos (by omega)
    by_cases z : T d 4 = 7
    · obtain ⟨s, g1, g2, g3⟩ := mArrive (N := N) hN (h.frame (hF.1 115 (by decide) (by decide))) (show g < 4 by omega) hW hX (hQ d (Nat.le_refl _)).2 hC hT
      refine ⟨1, s, by omega, fun F => ?_, by rw [xpl_7 z]; exact g2, fun c i hi h1 h2 => by rw [g3.1 c (by omega) (by omega)], hF.trans ⟨fun i h1 h2 => g3.1 i h1 (by omega), g3.2.1, g3.2.2⟩⟩
      show Mo_finds_L35B N (Mo_finds_L35 N F) (nI g) (nI r) (nI d) σ = _
      unfold Mo_finds_L35B
      rw [if_neg nd0, inI (n := 9) (by omega) (by decide), ck_t, clI (by omega), e4, if_pos (show nI (T d 4) = 7 by rw [z]; rfl), g1, bR_e, bI_e]
    · have hd6 := hX.d6 z
      have n7 : ¬ nI (T d 4) = 7 := neI (b := 7) z (by omega) (by decide)
      rw [xpl_n z]
      obtain ⟨st, hst⟩ : ∃ st : Nat → WS → WS, ∀ p w, st p w = if b p = false ∧ canN q (T d 4) p = true then xpl q (q (38 + r)) (q (41 + r)) f (updT T (d + 1) (rowX q (q (38 + r)) (q (41 + r)) (T d) p)) (d + 1) (addB b p) w else w := ⟨_, fun _ _ => rfl⟩
      rw [itN_congr (st' := st) (fun i b _ => (hst i b).symm), ← hM]
      have inner : ∀ m p s, p + m = M → WOk (itN st p w) → MW (itN st p w) s → (∀ c i, i ≤ d → 123 ≤ c → c ≤ 128 → (c ≠ 127 ∨ i ≠ d) → s.1 c i = σ.1 c i) → s.1 127 d = nI p → Fm σ0 s → ∃ k σ', k ≤ m * (BX f + 1) + 1 ∧ (∀ F, Mo_finds_L35 N (F + k) (nI g) (nI r) (nI d) s = Mo_finds_L35 N F (nI g) (nI r) (nI d + (-1)) σ') ∧ MW (itN st M w) σ' ∧ (∀ c i, i < d → 123 ≤ c → c ≤ 128 → σ'.1 c i = σ.1 c i) ∧ Fm σ0 σ' := by
        intro m
        induction m with
        | zero =>
          intro p s hp w1 c1 t1 n1 f1
          have hp8 : p = M := by omega
          subst hp8
          refine ⟨1, s, by omega, fun F => ?_, c1, fun c i hi h1 h2 => t1 c i (by omega) h1 h2 (Or.inr (by omega)), f1⟩
          show Mo_finds_L35B N (Mo_finds_L35 N F) (nI g) (nI r) (nI d) s = _
          unfold Mo_finds_L35B
          rw [if_neg nd0, inI (n := 9) (by omega) (by decide), ck_t, clI (by omega), t1 123 d (Nat.le_refl _) (by decide) (by decide) (Or.inl (by decide)), e4, if_neg n7, ck_t, n1, if_neg (show ¬ nI p ≤ 7 from leN (b := 7) (by omega) (by omega) (by decide)), bI_e]
        | succ m ihm =>
          intro p s hp w1 c1 t1 n1 f1
          have hp8 : p < 8 := by omega
          have hs := stq_le b1 (a := T d 4) (b := p) (by omega) hp8
          have F18 : Fm σ0 (sI s 127 d (nI (p + 1))) := f1.trans (Fm.wr (by decide))
          have m18 : RepM 115 0 q (sI s 127 d (nI (p + 1))) := h.frame (F18.1 115 (by decide) (by decide))
          have r18 : ∀ c i, i ≤ d → 123 ≤ c → c ≤ 128 → (c ≠ 127 ∨ i ≠ d) → (sI s 127 d (nI (p + 1))).1 c i = σ.1 c i := fun c i h1 h2 h3 h4 => by rw [rdI, if_neg (by omega)]; exact t1 c i h1 h2 h3 h4
          have c18 : MW (itN st p w) (sI s 127 d (nI (p + 1))) := by
            unfold MW
            rw [rdI_ne _ _ _ _ (show (114 : Nat) ≠ 127 by decide), rdI_ne _ _ _ _ (show (129 : Nat) ≠ 127 by decide)]; exact c1
          have e0 : ∀ F, Mo_finds_L35 N (F + 1) (nI g) (nI r) (nI d) s = if b p = true then Mo_finds_L35 N F (nI g) (nI r) (nI d) (sI s 127 d (nI (p + 1))) else if nI (stq q (T d 4) p) ≤ 0 then Mo_finds_L35 N F (nI g) (nI r) (nI d) (sI s 127 d (nI (p + 1))) else bR (Mo_goesOn N (nI g) (nI r) (nI d) (nI p) 1 (sI s 127 d (nI (p + 1)))) fun s30 => Mo_finds_L35 N F (nI g) (nI r) (nI (d + 1)) s30 := by
            intro F
            show Mo_finds_L35B N (Mo_finds_L35 N F) (nI g) (nI r) (nI d) s = _
            unfold Mo_finds_L35B Mo_finds_J139
            rw [if_neg nd0, inI (n := 9) (by omega) (by decide), ck_t, clI (by omega), t1 123 d (Nat.le_refl _) (by decide) (by decide) (Or.inl (by decide)), e4, if_neg n7, ck_t, n1, if_pos (show nI p ≤ 7 from leP (b := 7) (by omega) (by omega) (by decide)), ck_t, bI_e, ck_t, ck_t, nI_1, bS_e, ck_t, r18 128 d (Nat.le_refl _) (by decide) (by decide) (Or.inl (by decide)), hB, mHas b (by decide) hp8, ck_t, r18 123 d (Nat.le_refl _) (by decide) (by decide) (Or.inl (by decide)), e4, mSt' m18 (by omega) hp8, bR_e]
            simp only [bI_e, nI_1]
            by_cases y : b p = true
            · rw [if_pos y, if_neg one_ne, if_pos y]
            · rw [if_neg y, if_pos rfl, if_neg y]
          have stay : ¬ (b p = false ∧ canN q (T d 4) p = true) → (∀ F, Mo_finds_L35 N (F + 1) (nI g) (nI r) (nI d) s = Mo_finds_L35 N F (nI g) (nI r) (nI d) (sI s 127 d (nI (p + 1)))) → ∃ k σ', k ≤ (m + 1) * (BX f + 1) + 1 ∧ (∀ F, Mo_finds_L35 N (F + k) (nI g) (nI r) (nI d) s = Mo_finds_L35 N F (nI g) (nI r) (nI d + (-1)) σ') ∧ MW (itN st M w) σ' ∧ (∀ c i, i < d → 123 ≤ c → c ≤ 128 → σ'.1 c i = σ.1 c i) ∧ Fm σ0 σ' := by
            intro hno hst1
            have es : itN st (p + 1) w = itN st p w := by
              show st p (itN st p w) = _
              rw [hst, if_neg hno]
            obtain ⟨k, σ', k1, k2, k3, k4, k5⟩ := ihm (p + 1) (sI s 127 d (nI (p + 1))) (by omega) (by rw [es]; exact w1) (by rw [es]; exact c18) r18 (rdI_eq _ _ _ _) F18
            refine ⟨k + 1, σ', ?_, fun F => ?_, k3, k4, k5⟩
            · have : (m + 1) * (BX f + 1) = m * (BX f + 1) + (BX f + 1) := Nat.succ_mul _ _
              omega
            · rw [← Nat.add_assoc, hst1, k2]
          by_cases y : b p = true
          · exact stay (fun e => by rw [y] at e; exact absurd e.1 (by decide)) (fun F => by rw [e0, if_pos y])
          · have y' : b p = false := by simpa using y
            by_cases c : 0 < stq q (T d 4) p
            · have hcan : canN q (T d 4) p = true := decide_eq_true ⟨z, c⟩
              obtain ⟨s2, g2, y1, y2, y3, y4, y5, y6⟩ := (mGoes (N := N) hq m18 (g := g) (r := r) (d := d) (p := p) (x := T d) hg hr (by omega) hp8 hxx (hQ d (Nat.le_refl _)).1 (hQ d (Nat.le_refl _)).2 ⟨by rw [r18 123 d (Nat.le_refl _) (by decide) (by decide) (Or.inl (by decide))]; exact e4, by rw [r18 124 d (Nat.le_refl _) (by decide) (by decide) (Or.inl (by decide))]; exact (hT d (Nat.le_refl _)).2.1, by rw [r18 125 d (Nat.le_refl _) (by decide) (by decide) (Or.inl (by decide))]; exact (hT d (Nat.le_refl _)).2.2.1, by rw [r18 126 d (Nat.le_refl _) (by decide) (by decide) (Or.inl (by decide))]; exact (hT d (Nat.le_refl _)).2.2.2⟩).1
              have hX2 := hX.go (q := q) (kd := q (38 + r)) (tg := q (41 + r)) z hp8 y'
              have F2 : Fm σ0 s2 := F18.trans ⟨fun i h1 h2 => by
                rcases h2 with h2 | h2
                · exact y5 i (by omega)
                · exact y5 i (by omega), fun k _ => by rw [y5 114 (by decide)], y6⟩
              have c2 : MW (itN st p w) s2 := by
                unfold MW
                rw [y5 114 (by decide), y5 129 (by decide)]; exact c18
              obtain ⟨k1, s3, l1, l2, l3, l4, l5⟩ := ih (d := d + 1) (T := updT T (d + 1) (rowX q (q (38 + r)) (q (41 + r)) (T d) p)) (b := addB b p) (w := itN st p w) (σ := s2) (by omega) w1 hX2 (fun i hi => by
                by_cases e : i = d + 1
                · subst e; rw [updT_s]
                  have := hQ d (Nat.le_refl _)
                  unfold rowX
                  simp (disch := omega) only [updQ_n]; exact this
                · rw [updT_n _ _ e]; exact hQ i (by omega)) c2 (fun i hi => by
                by_cases e : i = d + 1
                · subst e; rw [updT_s]; exact y1
                · rw [updT_n _ _ e, y4 123 i e, y4 124 i e, y4 125 i e, y4 126 i e, r18 123 i (by omega) (by decide) (by decide) (Or.inl (by decide)), r18 124 i (by omega) (by decide) (by decide) (Or.inl (by decide)), r18 125 i (by omega) (by decide) (by decide) (Or.inl (by decide)), r18 126 i (by omega) (by decide) (by decide) (Or.inl (by decide))]
                  exact hT i (by omega)) (by rw [y3, r18 128 d (Nat.le_refl _) (by decide) (by decide) (Or.inl (by decide)), hB, msk_add b (by decide) hp8]) y2 F2
              have es : itN st (p + 1) w = xpl q (q (38 + r)) (q (41 + r)) f (updT T (d + 1) (rowX q (q (38 + r)) (q (41 + r)) (T d) p)) (d + 1) (addB b p) (itN st p w) := by
                show st p (itN st p w) = _
                rw [hst, if_pos ⟨y', hcan⟩]
              obtain ⟨k2, σ', q1, q2, q3, q4, q5⟩ := ihm (p + 1) s3 (by omega) (by rw [es]; exact WOk.xpl w1 hX2) (by rw [es]; exact l3) (fun c i h1 h2 h3 h4 => by rw [l4 c i (by omega) h2 h3, y4 c i (by omega)]; exact r18 c i h1 h2 h3 h4) (by rw [l4 127 d (by omega) (by decide) (by decide), y4 127 d (by omega), rdI_eq]) l5
              refine ⟨k2 + k1 + 1, σ', ?_, fun F => ?_, q3, q4, q5⟩
              · have : (m + 1) * (BX f + 1) = m * (BX f + 1) + (BX f + 1) := Nat.succ_mul _ _
                omega
              · rw [show F + (k2 + k1 + 1) = F + k2 + k1 + 1 by omega, e0, if_neg y, if_neg (show ¬ nI (stq q (T d 4) p) ≤ 0 from leN (b := 0) (by omega) (by omega) (by decide)), g2, bR_e, l2, pk_m1, q2]
            · exact stay (fun e => c (of_decide_eq_true e.2).2) (fun F => by rw [e0, if_neg y, if_pos (show nI (stq q (T d 4) p) ≤ 0 from leP (b := 0) (by omega) (by omega) (by decide))])
      obtain ⟨k, σ', k1, k2, k3, k4, k5⟩ := inner M 0 σ (by omega) hW hC (fun _ _ _ _ _ _ => rfl) hNx hF
      exact ⟨k, σ', by rw [BXs, hM] at *; omega, k2, k3, k4, k5⟩
