/-! lamps -/
theorem sb3 {a b c : Nat} (ha : a < 1000000) (hb : b < 1000000) (hc : c < 1000000) : (nI a - nI b - nI c).toInt = (a : Int) - b - c := by
  rw [Int32.toInt_sub, pk_sub_toInt (by omega) (by omega), nI_toInt (by omega)]
  exact Int.bmod_eq_of_le (by omega) (by omega)
theorem ng2 {b c : Nat} (hb : b < 1000000) (hc : c < 1000000) : (-nI b - nI c).toInt = -(b : Int) - c := by
  rw [Int32.toInt_sub, Int32.toInt_neg, nI_toInt (by omega), nI_toInt (by omega), Int.bmod_eq_of_le (n := -(b : Int)) (by omega) (by omega)]
  exact Int.bmod_eq_of_le (by omega) (by omega)
def lmpH (q : QS) (g r l : Nat) : Nat := hurtN (q (44 + g)) (q (48 + g)) (q (52 + g)) (min (toldN (q (38 + r)) (q (41 + r)) (9 - 3 * l) (q (64 + g))) (q (48 + g) - q (52 + g))) (9 - 3 * l)
theorem lmpH_lt {q : QS} (hq : Okq q) {g : Nat} (hg : g < q 37) (r l : Nat) : lmpH q g r l < 10000 := by
  obtain ⟨c1, c2, c3, c4, c5, c6, c7⟩ := hq.b.2.2.1.2.1 g hg
  exact hurtN_lt (by omega) (by omega)
def rs1 (H : Nat → Nat) (i j e : Nat) : Bool := decide (H (min i j) + i ≤ H (min e j) + e ∧ H (min i j) + 2 * j ≤ H (min i e) + 2 * e)
def rsB (H : Nat → Nat) (i j : Nat) : Bool := allB (rs1 H i j) 4
def rsC (H : Nat → Nat) (c : Nat) : Bool := rsB H (c / 4) (c % 4)
theorem cToG {N : Nat} {σ : St} {H : Nat → Nat} (h : ∀ l, l < 4 → σ.1 67 l = nI (H l)) {i j : Nat} (hi : i < 4) (hj : j < 4) : La_toGuest N (nI i) (nI j) σ = some (nI 10 - nI (H (min i j)) - nI i) := by
  unfold La_toGuest
  rw [mnI_e (by omega) (by omega), inI (by omega) (by decide), ck_t, clI (by omega), h _ (by omega)]; rfl
theorem cToR {N : Nat} {σ : St} {H : Nat → Nat} (h : ∀ l, l < 4 → σ.1 67 l = nI (H l)) {i j : Nat} (hi : i < 4) (hj : j < 4) : La_toRower N (nI i) (nI j) σ = some (nI 10 - nI (H (min i j)) - nI (2 * j)) := by
  unfold La_toRower
  rw [mnI_e (by omega) (by omega), inI (by omega) (by decide), ck_t, clI (by omega), h _ (by omega), show (2 : Int32) = nI 2 from rfl, mulI]; rfl
theorem cRests {N : Nat} (hN : 300 < N) {σ : St} {H : Nat → Nat} (hH : ∀ l, H l < 10000) (h : ∀ l, l < 4 → σ.1 67 l = nI (H l)) {i j : Nat} (hi : i < 4) (hj : j < 4) : La_rests N (nI i) (nI j) σ = some (if rsB H i j = true then 1 else 0) := by
  unfold La_rests
  refine loop_ex (fun f e (_ : Unit) => La_rests_L2 N f (nI i) (nI j) (nI e) σ) 4 (fun e _ => allB (rs1 H i j) e = true) (fun o => o = some (if rsB H i j = true then 1 else 0)) ?_ ?_ (a := ()) (by omega) rfl
  · intro f e u he hI
    have hn : ¬ 4 ≤ e := by omega
    have a1 := hH (min i j)
    have a2 := hH (min e j)
    have a3 := hH (min i e)
    have e0 : La_rests_L2 N (f + 1) (nI i) (nI j) (nI e) σ = if H (min e j) + e < H (min i j) + i then some 0 else if H (min i j) + 2 * j ≤ H (min i e) + 2 * e then La_rests_L2 N f (nI i) (nI j) (nI (e + 1)) σ else some 0 := by
      show La_rests_L2B N (La_rests_L2 N f) (nI i) (nI j) (nI e) σ = _
      unfold La_rests_L2B
      rw [show (4 : Int32) = nI 4 from rfl, if_neg (leN hn (by omega) (by omega)), cToG h he hj, bR_e, cToG h hi hj, bR_e, cToR h hi he, bR_e, cToR h hi hj, bR_e, nI_1, bI_e]
      simp only [Int32.lt_iff_toInt_lt, Int32.le_iff_toInt_le]
      rw [sb3 (by omega) (by omega) (by omega), sb3 (by omega) (by omega) (by omega), sb3 (by omega) (by omega) (by omega), sb3 (by omega) (by omega) (by omega)]
      by_cases z : H (min e j) + e < H (min i j) + i
      · rw [if_pos z, if_pos (by omega)]
      · rw [if_neg z, if_neg (by omega)]
        by_cases y : H (min i j) + 2 * j ≤ H (min i e) + 2 * e
        · rw [if_pos y, if_pos (by omega)]
        · rw [if_neg y, if_neg (by omega)]
    by_cases z : H (min i j) + i ≤ H (min e j) + e ∧ H (min i j) + 2 * j ≤ H (min i e) + 2 * e
    · right
      refine ⟨(), ?_, ?_⟩
      · show La_rests_L2 N (f + 1) (nI i) (nI j) (nI e) σ = _
        rw [e0, if_neg (by omega), if_pos z.2]
      · show (allB (rs1 H i j) e && rs1 H i j e) = true
        rw [hI, show rs1 H i j e = true from decide_eq_true z]; rfl
    · left
      show La_rests_L2 N (f + 1) (nI i) (nI j) (nI e) σ = _
      rw [show rsB H i j = false from allB_no he (decide_eq_false z), if_neg (by decide), e0]
      by_cases y : H (min e j) + e < H (min i j) + i
      · rw [if_pos y]
      · rw [if_neg y, if_neg (fun w => z ⟨by omega, w⟩)]
  · intro f u hI
    show La_rests_L2B N (La_rests_L2 N f) (nI i) (nI j) (nI 4) σ = _
    unfold La_rests_L2B
    rw [if_pos (by decide), if_pos (show rsB H i j = true from hI)]
def prI (c : Nat) : Int32 := nI (10 * (c / 4) + c % 4)
/-- the pairs ahead of c are put down -/
def Lp (σ : St) (H : Nat → Nat) (c : Nat) (s : St) : Prop := (∀ i, i ≠ 66 → i ≠ 67 → i ≠ 68 → s.1 i = σ.1 i) ∧ s.2 = σ.2 ∧ (∀ l, l < 4 → s.1 67 l = nI (H l)) ∧ s.1 66 2 = nI (cnN (rsC H) c) ∧ ∀ c', c' < c → rsC H c' = true → s.1 68 (cnN (rsC H) c') = prI c'
theorem cLScan {N : Nat} (hN : 300 < N) {σ s0 : St} {H : Nat → Nat} (hH : ∀ l, H l < 10000) (h0 : Lp σ H 0 s0) : ∃ s', La_search_L68 N N 0 s0 = some s' ∧ Lp σ H 16 s' := by
  refine loop_up (fun f i s => La_search_L68 N f (nI i) s) 4 (fun i s => Lp σ H (4 * i) s) (fun o => ∃ s', o = some s' ∧ Lp σ H 16 s') ?_ ?_ (by omega) h0
  · intro f i s hi hL
    have hn : ¬ 4 ≤ i := by omega
    show ∃ a', La_search_L68B N (La_search_L68 N f) (nI i) s = La_search_L68 N f (nI (i + 1)) a' ∧ _
    unfold La_search_L68B
    rw [show (4 : Int32) = nI 4 from rfl, if_neg (leN hn (by omega) (by omega))]
    refine loop_up (fun f' j s => La_search_L76 N (La_search_L68 N f) f' (nI i) (nI j) s) 4 (fun j s => Lp σ H (4 * i + j) s) (fun o => ∃ a', o = La_search_L68 N f (nI (i + 1)) a' ∧ Lp σ H (4 * (i + 1)) a') ?_ ?_ (by omega) hL
    · intro f' j s hj ⟨k1, k2, k3, k4, k5⟩
      have hn2 : ¬ 4 ≤ j := by omega
      have ec : rsC H (4 * i + j) = rsB H i j := by unfold rsC; rw [show (4 * i + j) / 4 = i by omega, show (4 * i + j) % 4 = j by omega]
      have es : cnN (rsC H) (4 * i + (j + 1)) = cnN (rsC H) (4 * i + j) + (rsC H (4 * i + j)).toNat := rfl
      have hle := cnN_le (rsC H) (4 * i + j)
      show ∃ a', La_search_L76B N (La_search_L68 N f) (La_search_L76 N (La_search_L68 N f) f') (nI i) (nI j) s = La_search_L76 N (La_search_L68 N f) f' (nI i) (nI (j + 1)) a' ∧ _
      unfold La_search_L76B La_search_J118
      rw [show (4 : Int32) = nI 4 from rfl, if_neg (leN hn2 (by omega) (by omega)), cRests hN hH k3 hi hj, bR_e, nI_1, bI_e, k4, inI (by omega) (by decide), ck_t, clI (by omega), bS_e, bS_e, bI_e, rdI_ne _ _ _ _ (by decide), k4, nI_1, show (10 : Int32) = nI 10 from rfl, mulI, addI]
      by_cases z : rsB H i j = true
      · rw [if_pos z, if_neg one_ne]
        refine ⟨_, rfl, fun a h1 h2 h3 => by simp (disch := omega) only [rdI_ne]; exact k1 a h1 h2 h3, k2, fun l hl => by simp (disch := omega) only [rdI_ne]; exact k3 l hl, ?_, fun c' hc' hr => ?_⟩
        · rw [rdI_eq, es, ec, z]; rfl
        · rw [rdI_ne _ _ _ _ (by decide)]
          by_cases e : c' = 4 * i + j
          · subst e
            rw [rdI_eq]; unfold prI
            rw [show (4 * i + j) / 4 = i by omega, show (4 * i + j) % 4 = j by omega]
          · have hlt : c' < 4 * i + j := by omega
            have := cnN_mono (rsC H) (show c' + 1 ≤ 4 * i + j by omega)
            have e2 : cnN (rsC H) (c' + 1) = cnN (rsC H) c' + (rsC H c').toNat := rfl
            rw [e2, hr] at this
            have e3 : (true : Bool).toNat = 1 := rfl
            rw [rdI_nk _ _ _ _ (by omega)]; exact k5 c' hlt hr
      · have z' : rsB H i j = false := by simpa using z
        rw [if_neg z, if_pos rfl]
        refine ⟨s, rfl, k1, k2, k3, ?_, fun c' hc' hr => ?_⟩
        · rw [es, ec, z', k4]; rfl
        · have : c' ≠ 4 * i + j := fun e => by subst e; rw [ec, z'] at hr; exact absurd hr (by decide)
          exact k5 c' (by omega) hr
    · intro f' s hL
      refine ⟨s, ?_, hL⟩
      show La_search_L76B N (La_search_L68 N f) (La_search_L76 N (La_search_L68 N f) f') (nI i) (nI 4) s = _
      unfold La_search_L76B La_search_J124
      rw [if_pos (by decide), nI_1, bI_e]
  · intro f s hL
    refine ⟨s, ?_, hL⟩
    show La_search_L68B N (La_search_L68 N f) (nI 4) s = _
    unfold La_search_L68B
    rw [if_pos (by decide)]
theorem duE : ∀ l, l < 4 → duL.getD l 0 = nI (9 - 3 * l) := by decide +kernel
theorem cLamp {N : Nat} (hN : 300 < N) {q : QS} {σ : St} (hq : Okq q) (h : NR 1 q σ) {g r : Nat} (hg : g < q 37) (hr : r < q 36) : ∃ s', La_search N (1 + 16 + g) (1 + 13 + r) σ = some s' ∧ Lp σ (lmpH q g r) 16 s' := by
  obtain ⟨b1, b2, b3, b4, b5, b6, b7⟩ := hq.b
  have h36 := b2.1
  have h37 := b3.1
  obtain ⟨c1, c2, c3, c4, c5, c6, c7⟩ := b3.2.1 g hg
  obtain ⟨d1, d2⟩ := b2.2 r hr
  obtain ⟨r1, r2⟩ := h.row (r := r) (by omega) hr
  have gs : ∀ f, f < 6 → σ.1 (1 + 16 + g) f = nI (q (44 + 4 * f + g)) := fun f hf => h.gst (by omega) hf hg
  unfold La_search
  refine loop_up (fun f l s => La_search_L2 N f (1 + 16 + g) (1 + 13 + r) (nI l) s) 4 (fun l s => (∀ i, i ≠ 67 → s.1 i = σ.1 i) ∧ s.2 = σ.2 ∧ ∀ l', l' < l → s.1 67 l' = nI (lmpH q g r l')) (fun o => ∃ s', o = some s' ∧ Lp σ (lmpH q g r) 16 s') ?_ ?_ (by omega) ⟨fun _ _ => rfl, rfl, by intros; omega⟩
  · intro f l s hl ⟨k1, k2, k3⟩
    have hn : ¬ 4 ≤ l := by omega
    have ht := toldN_lt (kd := q (38 + r)) (tg := q (41 + r)) (d := 9 - 3 * l) (s := q (64 + g)) (by omega) (by omega)
    refine ⟨sI s 67 l (nI (lmpH q g r l)), ?_, fun i hi => by rw [rdI_ne _ _ _ _ hi]; exact k1 i hi, k2, fun l' hl' => ?_⟩
    · show La_search_L2B N (La_search_L2 N f) (1 + 16 + g) (1 + 13 + r) (nI l) s = _
      unfold La_search_L2B Ro_tells Gu_takenIn
      rw [show (4 : Int32) = nI 4 from rfl, if_neg (leN hn (by omega) (by omega)), inI (by omega) (by decide), ck_t, clI (by omega), duE l hl, bI_e, bR_e, bR_e, ck_t, k1 _ (by omega), k1 _ (by omega), r1, r2, gs 0 (by decide), gs 1 (by decide), gs 2 (by decide), gs 5 (by decide), show 44 + 4 * 0 + g = 44 + g by omega, show 44 + 4 * 1 + g = 48 + g by omega, show 44 + 4 * 2 + g = 52 + g by omega, show 44 + 4 * 5 + g = 64 + g by omega, told_c (by omega) (by omega) (by omega) (by omega), subI c4, mnI_e (by omega) (by omega), hurt_c (by omega) (by omega) (by omega) (by omega) (by omega), bS_e, nI_1, bI_e]; rfl
    · by_cases e : l' = l
      · subst e; rw [rdI_eq]
      · rw [rdI_nk _ _ _ _ e]; exact k3 l' (by omega)
  · intro f s ⟨k1, k2, k3⟩
    show ∃ s', La_search_L2B N (La_search_L2 N f) (1 + 16 + g) (1 + 13 + r) (nI 4) s = some s' ∧ _
    unfold La_search_L2B La_search_J61
    rw [if_pos (by decide), bS_e]
    exact cLScan hN (fun l => lmpH_lt hq hg r l) ⟨fun i h1 h2 h3 => by rw [rdI_ne _ _ _ _ h1]; exact k1 i h2, k2, fun l hl => by rw [rdI_ne _ _ _ _ (by decide)]; exact k3 l hl, by rw [rdI_eq]; rfl, by intros; omega⟩
theorem mHurtAt {N : Nat} {q : QS} {σ : St} (hq : Okq q) (h : RepM 115 0 q σ) {g r l : Nat} (hg : g < q 37) (hr : r < q 36) (hl : l < 4) : Mo_hurtAt N (nI g) (nI r) (nI l) σ = some (nI (lmpH q g r l)) := by
  obtain ⟨b1, b2, b3, b4, b5, b6, b7⟩ := hq.b
  have h36 := b2.1
  have h37 := b3.1
  obtain ⟨c1, c2, c3, c4, c5, c6, c7⟩ := b3.2.1 g hg
  obtain ⟨d1, d2⟩ := b2.2 r hr
  have ht := toldN_lt (kd := q (38 + r)) (tg := q (41 + r)) (d := 9 - 3 * l) (s := q (64 + g)) (by omega) (by omega)
  unfold Mo_hurtAt
  simp (disch := omega) only [litI, clI, subI, mulI, addI, eqI, leI, ltI, inI, ck_t, bS_e, bI_e, bL_e, bR_e, bW_e, h.get]
  rw [told_m (by omega) (by omega) (by omega) (by omega), less_e (by omega) (by omega), hurt_m (by omega) (by omega) (by omega) (by omega) (by omega)]; rfl
theorem mRests {N : Nat} (hN : 300 < N) {q : QS} {σ : St} (hq : Okq q) (h : RepM 115 0 q σ) {g r i j : Nat} (hg : g < q 37) (hr : r < q 36) (hi : i < 4) (hj : j < 4) : Mo_rests N (nI g) (nI r) (nI i) (nI j) σ = some (if rsB (lmpH q g r) i j = true then 1 else 0) := by
  unfold Mo_rests
  rw [less_e (by omega) (by omega), mHurtAt hq h hg hr (by omega), bR_e]
  refine loop_up (fun f e a => Mo_rests_L20 N f (nI g) (nI r) (nI i) (nI j) (nI (lmpH q g r (min i j))) a (nI e) σ) 4 (fun e a => a = if allB (rs1 (lmpH q g r) i j) e = true then 1 else 0) (fun o => o = some (if rsB (lmpH q g r) i j = true then 1 else 0)) ?_ ?_ (by omega) rfl
  · intro f e a he hI
    have hn : ¬ 4 ≤ e := by omega
    have a1 := lmpH_lt hq hg r (min i j)
    have a2 := lmpH_lt hq hg r (min e j)
    have a3 := lmpH_lt hq hg r (min i e)
    refine ⟨if allB (rs1 (lmpH q g r) i j) (e + 1) = true then 1 else 0, ?_, rfl⟩
    show Mo_rests_L20B N (Mo_rests_L20 N f) (nI g) (nI r) (nI i) (nI j) (nI (lmpH q g r (min i j))) a (nI e) σ = Mo_rests_L20 N f (nI g) (nI r) (nI i) (nI j) (nI (lmpH q g r (min i j))) (if (allB (rs1 (lmpH q g r) i j) e && rs1 (lmpH q g r) i j e) = true then 1 else 0) (nI (e + 1)) σ
    unfold Mo_rests_L20B Mo_rests_J89 Mo_rests_J90
    rw [show (4 : Int32) = nI 4 from rfl, if_neg (leN hn (by omega) (by omega)), less_e (by omega) (by omega), less_e (by omega) (by omega), mHurtAt hq h hg hr (by omega), bR_e, mHurtAt hq h hg hr (by omega), bR_e, show (2 : Int32) = nI 2 from rfl, mulI, mulI, nI_1, bI_e, bI_e]
    simp only [Int32.lt_iff_toInt_lt]
    rw [ng2 (by omega) (by omega), ng2 (by omega) (by omega), ng2 (by omega) (by omega), ng2 (by omega) (by omega), hI]
    by_cases y : allB (rs1 (lmpH q g r) i j) e = true
    · rw [if_pos y, if_neg one_ne, y, Bool.true_and]
      unfold rs1
      by_cases z1 : lmpH q g r (min i j) + i ≤ lmpH q g r (min e j) + e
      · rw [if_neg (by omega)]
        by_cases z2 : lmpH q g r (min i j) + 2 * j ≤ lmpH q g r (min i e) + 2 * e
        · rw [if_neg (by omega), decide_eq_true ⟨z1, z2⟩, if_pos rfl]
        · rw [if_pos (by omega), decide_eq_false (fun w => z2 w.2), if_neg (by decide)]
      · rw [if_pos (by omega), decide_eq_false (fun w => z1 w.1), if_neg (by decide)]
    · rw [if_neg y, if_pos rfl, show allB (rs1 (lmpH q g r) i j) e = false by simpa using y, Bool.false_and, if_neg (by decide)]
  · intro f a hI
    show Mo_rests_L20B N (Mo_rests_L20 N f) (nI g) (nI r) (nI i) (nI j) (nI (lmpH q g r (min i j))) a (nI 4) σ = _
    unfold Mo_rests_L20B
    rw [if_pos (by decide), hI]; rfl
theorem mLamp {N : Nat} (hN : 300 < N) {q : QS} {σ : St} (hq : Okq q) (h : RepM 115 0 q σ) {g r : Nat} (hg : g < q 37) (hr : r < q 36) {v3 : Int32} {c : Nat} (hc : c ≤ 16) (h1 : ∀ c', c' < c → rsC (lmpH q g r) c' = true → ¬ nI (cnN (rsC (lmpH q g r)) c') = v3) (h2 : c < 16 → rsC (lmpH q g r) c = true ∧ nI (cnN (rsC (lmpH q g r)) c) = v3) : Mo_lamp_L34 N N (nI g) (nI r) v3 0 0 σ = if c < 16 then some (prI c, σ) else Mo_lamp_J92 N v3 (nI (cnN (rsC (lmpH q g r)) 16)) σ := by
  refine loop_ex (fun f i a => Mo_lamp_L34 N f (nI g) (nI r) v3 a (nI i) σ) 4 (fun i a => a = nI (cnN (rsC (lmpH q g r)) (4 * i)) ∧ 4 * i ≤ c) (fun o => o = if c < 16 then some (prI c, σ) else Mo_lamp_J92 N v3 (nI (cnN (rsC (lmpH q g r)) 16)) σ) ?_ ?_ (by omega) ⟨rfl, Nat.zero_le _⟩
  · intro f i a hi ⟨ha, hic⟩
    have hn : ¬ 4 ≤ i := by omega
    show Mo_lamp_L34B N (Mo_lamp_L34 N f) (nI g) (nI r) v3 a (nI i) σ = _ ∨ ∃ a', Mo_lamp_L34B N (Mo_lamp_L34 N f) (nI g) (nI r) v3 a (nI i) σ = Mo_lamp_L34 N f (nI g) (nI r) v3 a' (nI (i + 1)) σ ∧ _
    unfold Mo_lamp_L34B
    rw [show (4 : Int32) = nI 4 from rfl, if_neg (leN hn (by omega) (by omega))]
    refine loop_ex (fun f' j a => Mo_lamp_L43 N (Mo_lamp_L34 N f) f' (nI g) (nI r) v3 a (nI i) (nI j) σ) 4 (fun j a => a = nI (cnN (rsC (lmpH q g r)) (4 * i + j)) ∧ 4 * i + j ≤ c) (fun o => (o = if c < 16 then some (prI c, σ) else Mo_lamp_J92 N v3 (nI (cnN (rsC (lmpH q g r)) 16)) σ) ∨ ∃ a', o = Mo_lamp_L34 N f (nI g) (nI r) v3 a' (nI (i + 1)) σ ∧ a' = nI (cnN (rsC (lmpH q g r)) (4 * (i + 1))) ∧ 4 * (i + 1) ≤ c) ?_ ?_ (by omega) ⟨ha, hic⟩
    · intro f' j a hj ⟨ha, hjc⟩
      have hn2 : ¬ 4 ≤ j := by omega
      have ec : rsC (lmpH q g r) (4 * i + j) = rsB (lmpH q g r) i j := by unfold rsC; rw [show (4 * i + j) / 4 = i by omega, show (4 * i + j) % 4 = j by omega]
      have es : cnN (rsC (lmpH q g r)) (4 * i + (j + 1)) = cnN (rsC (lmpH q g r)) (4 * i + j) + (rsC (lmpH q g r) (4 * i + j)).toNat := rfl
      have e0 : Mo_lamp_L43 N (Mo_lamp_L34 N f) (f' + 1) (nI g) (nI r) v3 a (nI i) (nI j) σ = if rsB (lmpH q g r) i j = true then (if a = v3 then some (nI (10 * i + j), σ) else Mo_lamp_L43 N (Mo_lamp_L34 N f) f' (nI g) (nI r) v3 (a + 1) (nI i) (nI (j + 1)) σ) else Mo_lamp_L43 N (Mo_lamp_L34 N f) f' (nI g) (nI r) v3 a (nI i) (nI (j + 1)) σ := by
        show Mo_lamp_L43B N (Mo_lamp_L34 N f) (Mo_lamp_L43 N (Mo_lamp_L34 N f) f') (nI g) (nI r) v3 a (nI i) (nI j) σ = _
        unfold Mo_lamp_L43B Mo_lamp_J68 Mo_lamp_J80
        rw [show (4 : Int32) = nI 4 from rfl, if_neg (leN hn2 (by omega) (by omega)), mRests hN hq h hg hr hi hj, bR_e, nI_1, bI_e, bI_e, bI_e, show (10 : Int32) = nI 10 from rfl, mulI, addI]
        by_cases y : rsB (lmpH q g r) i j = true
        · rw [if_pos y, if_neg one_ne, if_pos y]
        · rw [if_neg y, if_pos rfl, if_neg y]
      by_cases y : rsB (lmpH q g r) i j = true
      · by_cases e : 4 * i + j = c
        · left; left
          obtain ⟨g1, g2⟩ := h2 (by omega)
          show Mo_lamp_L43 N (Mo_lamp_L34 N f) (f' + 1) (nI g) (nI r) v3 a (nI i) (nI j) σ = _
          rw [e0, if_pos y, if_pos (by rw [ha, e]; exact g2), if_pos (by omega)]
          unfold prI
          rw [← e, show (4 * i + j) / 4 = i by omega, show (4 * i + j) % 4 = j by omega]
        · right
          refine ⟨a + 1, ?_, ?_, by omega⟩
          · show Mo_lamp_L43 N (Mo_lamp_L34 N f) (f' + 1) (nI g) (nI r) v3 a (nI i) (nI j) σ = _
            rw [e0, if_pos y, if_neg (by rw [ha]; exact h1 _ (by omega) (by rw [ec]; exact y))]
          · rw [ha, es, ec, y, nI_1]; rfl
      · right
        have y' : rsB (lmpH q g r) i j = false := by simpa using y
        have e : 4 * i + j ≠ c := fun e => by
          have := (h2 (by omega)).1
          rw [← e, ec, y'] at this; exact absurd this (by decide)
        refine ⟨a, ?_, ?_, by omega⟩
        · show Mo_lamp_L43 N (Mo_lamp_L34 N f) (f' + 1) (nI g) (nI r) v3 a (nI i) (nI j) σ = _
          rw [e0, if_neg y]
        · rw [ha, es, ec, y']; rfl
    · intro f' a ⟨ha, hjc⟩
      right
      refine ⟨a, ?_, ha, hjc⟩
      show Mo_lamp_L43B N (Mo_lamp_L34 N f) (Mo_lamp_L43 N (Mo_lamp_L34 N f) f') (nI g) (nI r) v3 a (nI i) (nI 4) σ = _
      unfold Mo_lamp_L43B Mo_lamp_J86
      rw [if_pos (by decide), nI_1, bI_e]
  · intro f a ⟨ha, hic⟩
    show Mo_lamp_L34B N (Mo_lamp_L34 N f) (nI g) (nI r) v3 a (nI 4) σ = _
    unfold Mo_lamp_L34B
    rw [if_pos (by decide), if_neg (by omega), ha]
theorem cn_nth {p : Nat → Bool} {k n : Nat} (h : k < cnN p n) : ∃ c, c < n ∧ p c = true ∧ cnN p c = k := by
  induction n with
  | zero => exact absurd h (Nat.not_lt_zero k)
  | succ n ih =>
    have e : cnN p (n + 1) = cnN p n + (p n).toNat := rfl
    by_cases z : k < cnN p n
    · obtain ⟨c, h1, h2, h3⟩ := ih z
      exact ⟨c, by omega, h2, h3⟩
    · have hp : p n = true := by
        cases hh : p n
        · rw [e, hh] at h
          have : (false : Bool).toNat = 0 := rfl
          omega
        · rfl
      have : (true : Bool).toNat = 1 := rfl
      rw [e, hp] at h
      exact ⟨n, by omega, hp, by omega⟩
theorem cn_lt {p : Nat → Bool} {c n : Nat} (hc : c < n) (h : p c = true) : cnN p c < cnN p n := by
  have := cnN_mono p (show c + 1 ≤ n by omega)
  have e : cnN p (c + 1) = cnN p c + (p c).toNat := rfl
  rw [e, h] at this
  have : (true : Bool).toNat = 1 := rfl
  omega
theorem Lp.scr {σ s : St} {H : Nat → Nat} {c : Nat} (h : Lp σ H c s) : CScr σ s := ⟨fun i hi => h.1 i (by omega) (by omega) (by omega), h.2.1⟩
theorem m1_ne (n : Nat) (h : n < 2147483648) : ¬ nI n = (-1 : Int32) := fun z => by
  have := congrArg Int32.toInt z
  rw [nI_toInt (by omega)] at this
  have e : (-1 : Int32).toInt = -1 := by decide
  omega
theorem sim_lamp (N : Nat) (hN : 300 < N) : Sim_lamp N Inv := by
  intro σ hI v1 v2 v3
  obtain ⟨A, hO, hC, hM⟩ := hI
  have hq := hO.1
  have h36 := hO.1.2.1
  have h37 := hO.1.2.2.1
  by_cases h1 : (0 : Int) ≤ v1.toInt ∧ v1.toInt ≤ (A.1 37 : Int) - 1
  rotate_left
  · refine sim_ref (f := fun σ => Go_lamp N v1 v2 v3 σ) (g := fun σ => Mo_lamp N v1 v2 v3 σ) (r := -10) 0 (by decide) hO hC hM ?_ (fun σ1 m1 => ?_)
    · show Go_lamp N v1 v2 v3 σ = _
      simp only [Go_lamp_J21, Go_lamp, gGu hO hC, gRo hO hC, gPl, bR_e, bW_e, gBad, gFarBad, eq_self, one_ne, if_true, if_false, not_false_eq_true, not_true_eq_false, wv_0 h1]
    · show Mo_lamp N v1 v2 v3 σ1 = _
      simp only [Mo_lamp_J21, Mo_lamp_J92, Mo_lamp_J86, Mo_lamp_J80, Mo_lamp_J68, Mo_lamp, mGu hO m1, mRo hO m1, mPl, bR_e, bW_e, mBad, eq_self, one_ne, if_true, if_false, not_false_eq_true, not_true_eq_false, wv_0 h1]
  by_cases h2 : (0 : Int) ≤ v2.toInt ∧ v2.toInt ≤ (A.1 36 : Int) - 1
  rotate_left
  · refine sim_ref (f := fun σ => Go_lamp N v1 v2 v3 σ) (g := fun σ => Mo_lamp N v1 v2 v3 σ) (r := -10) 0 (by decide) hO hC hM ?_ (fun σ1 m1 => ?_)
    · show Go_lamp N v1 v2 v3 σ = _
      simp only [Go_lamp_J21, Go_lamp, gGu hO hC, gRo hO hC, gPl, bR_e, bW_e, gBad, gFarBad, eq_self, one_ne, if_true, if_false, not_false_eq_true, not_true_eq_false, wv_1 h1, wv_0 h2]
    · show Mo_lamp N v1 v2 v3 σ1 = _
      simp only [Mo_lamp_J21, Mo_lamp_J92, Mo_lamp_J86, Mo_lamp_J80, Mo_lamp_J68, Mo_lamp, mGu hO m1, mRo hO m1, mPl, bR_e, bW_e, mBad, eq_self, one_ne, if_true, if_false, not_false_eq_true, not_true_eq_false, wv_1 h1, wv_0 h2]
  by_cases h3 : (-1 : Int32) ≤ v3
  rotate_left
  · refine sim_ref (f := fun σ => Go_lamp N v1 v2 v3 σ) (g := fun σ => Mo_lamp N v1 v2 v3 σ) (r := -10) 0 (by decide) hO hC hM ?_ (fun σ1 m1 => ?_)
    · show Go_lamp N v1 v2 v3 σ = _
      simp only [Go_lamp_J21, Go_lamp, gGu hO hC, gRo hO hC, gPl, bR_e, bW_e, gBad, gFarBad, eq_self, one_ne, if_true, if_false, not_false_eq_true, not_true_eq_false, wv_1 h1, wv_1 h2, h3]
    · show Mo_lamp N v1 v2 v3 σ1 = _
      simp only [Mo_lamp_J21, Mo_lamp_J92, Mo_lamp_J86, Mo_lamp_J80, Mo_lamp_J68, Mo_lamp, mGu hO m1, mRo hO m1, mPl, bR_e, bW_e, mBad, eq_self, one_ne, if_true, if_false, not_false_eq_true, not_true_eq_false, wv_1 h1, wv_1 h2, h3]
  obtain ⟨a1, b1, rfl⟩ := wv_lt h1
  obtain ⟨a2, b2, rfl⟩ := wv_lt h2
  obtain ⟨s', g1, L⟩ := cLamp (N := N) hN hq hC.nr b1 b2
  have hle := cnN_le (rsC (lmpH A.1 a1 a2)) 16
  have fin : ∀ (r : Int32) (c : Nat), c ≤ 16 → (∀ c', c' < c → rsC (lmpH A.1 a1 a2) c' = true → ¬ nI (cnN (rsC (lmpH A.1 a1 a2)) c') = v3) → (c < 16 → rsC (lmpH A.1 a1 a2) c = true ∧ nI (cnN (rsC (lmpH A.1 a1 a2)) c) = v3) → (∀ σ1 : St, (if c < 16 then some (prI c, σ1) else Mo_lamp_J92 N v3 (nI (cnN (rsC (lmpH A.1 a1 a2)) 16)) σ1) = some (r, σ1)) → ((if v3 = (-1) then some ((s'.1 66 2), s') else if (s'.1 66 2) ≤ v3 then some ((-5), s') else ck (inB v3 16) <| some ((s'.1 68 (v3).toNatClampNeg), s')) = some (r, s')) → ∃ (r : Int32) (σ1 σ2 : St), Go_lamp N (nI a1) (nI a2) v3 σ = some (r, σ1) ∧ Mo_lamp N (nI a1) (nI a2) v3 σ1 = some (r, σ2) ∧ Inv σ2 := by
    intro r c k1 k2 k3 k4 k5
    refine sim_scr (f := fun σ => Go_lamp N (nI a1) (nI a2) v3 σ) (g := fun σ => Mo_lamp N (nI a1) (nI a2) v3 σ) (r := r) hO hC hM ⟨s', ?_, L.scr⟩ (fun σ1 m1 => ⟨σ1, ?_, m1.1, Gr.rfl'⟩)
    · show Go_lamp N (nI a1) (nI a2) v3 σ = _
      simp only [Go_lamp, gGu hO hC, gRo hO hC, gPl, bR_e, bW_e, gBad, gFarBad, eq_self, one_ne, if_true, if_false, not_false_eq_true, not_true_eq_false, wv_1 h1, wv_1 h2, h3]
      rw [inI (n := 4) (by omega) (by decide), ck_t, clI (by omega), inI (n := 3) (by omega) (by decide), ck_t, clI (by omega), g1, bR_e]
      exact k5
    · show Mo_lamp N (nI a1) (nI a2) v3 σ1 = _
      simp only [Mo_lamp, mGu hO m1, mRo hO m1, mPl, bR_e, bW_e, mBad, eq_self, one_ne, if_true, if_false, not_false_eq_true, not_true_eq_false, wv_1 h1, wv_1 h2, h3]
      rw [mLamp hN hq m1.1 b1 b2 k1 k2 k3]
      exact k4 σ1
  by_cases z : v3 = -1
  · subst z
    refine fin (nI (cnN (rsC (lmpH A.1 a1 a2)) 16)) 16 (Nat.le_refl _) (fun c' _ _ => m1_ne _ (by have := cnN_le (rsC (lmpH A.1 a1 a2)) c'; omega)) (by omega) (fun σ1 => ?_) ?_
    · rw [if_neg (by omega)]; unfold Mo_lamp_J92; rw [if_neg (by decide)]
    · rw [if_pos rfl, L.2.2.2.1]
  · have hpos : ¬ v3 < 0 := by
      rw [Int32.lt_iff_toInt_lt]
      rw [Int32.le_iff_toInt_le] at h3
      have e : (-1 : Int32).toInt = -1 := by decide
      have e0 : (0 : Int32).toInt = 0 := by decide
      intro y
      exact z (Int32.toInt_inj.mp (by omega))
    obtain ⟨k, hk, rfl⟩ := nI_of hpos
    by_cases y : k < cnN (rsC (lmpH A.1 a1 a2)) 16
    · obtain ⟨c, p1, p2, p3⟩ := cn_nth y
      refine fin (prI c) c (by omega) (fun c' hc' hr => ?_) (fun _ => ⟨p2, by rw [p3]⟩) (fun σ1 => by rw [if_pos p1]) ?_
      · have := cn_lt hc' hr
        exact neI (by omega) (by omega) (by omega)
      · have y' : ¬ cnN (rsC (lmpH A.1 a1 a2)) 16 ≤ k := by omega
        rw [if_neg z, L.2.2.2.1, if_neg (leN y' (by omega) (by omega)), inI (by omega) (by decide), ck_t, clI (by omega), ← p3, L.2.2.2.2 c p1 p2]
    · refine fin (-5) 16 (Nat.le_refl _) (fun c' hc' hr => ?_) (by omega) (fun σ1 => ?_) ?_
      · have := cn_lt hc' hr
        exact neI (by omega) (by omega) (by omega)
      · rw [if_neg (by omega)]; unfold Mo_lamp_J92
        rw [if_pos (nI_pos' (by omega))]
      · rw [if_neg z, L.2.2.2.1, if_pos (leP (by omega) (by omega) (by omega))]
