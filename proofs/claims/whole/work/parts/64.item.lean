/-! read: words, numbers, items; the class's -/
def WL : List (List Nat) := [[119, 97, 116, 101, 114], [100, 97, 114, 107], [99, 97, 110, 97, 108], [114, 111, 119, 101, 114], [103, 117, 101, 115, 116], [114, 111, 119]]
def wch (k i : Nat) : Nat := (WL.getD k []).getD i 0
def wln (k : Nat) : Nat := slen.getD k 0
theorem wchE : ∀ k, k < 6 → wln k ≤ 5 ∧ 3 ≤ wln k ∧ ∀ i, i < wln k → (sbyt.getD k []).getD i 0 = nI (wch k i) ∧ wch k i < 128 := by decide +kernel
def wdB (T : Nat → Nat) (s a k : Nat) : Bool := decide (a - s = wln k) && allB (fun i => decide (T (s + i) = wch k i)) (wln k)
theorem cIsWord {N : Nat} (hN : 300 < N) {T : Nat → Nat} {L : Nat} (hT : TX T L) {σ : St} (hc : CT T L σ) {s a k : Nat} (hk : k < 6) (h2 : σ.1 71 2 = nI a) (h3 : σ.1 71 3 = nI s) (hs : s ≤ a) (ha : a ≤ L) : Re_isWord N k σ = some (if wdB T s a k = true then 1 else 0) := by
  have hL := hT.1
  obtain ⟨l5, l3, hw⟩ := wchE k hk
  unfold Re_isWord
  rw [h2, h3, subI hs, show Int32.ofNat (slen.getD k 0) = nI (wln k) from rfl]
  by_cases z : a - s = wln k
  · rw [if_pos (by rw [z])]
    refine loop_ex (fun f i (_ : Unit) => Re_isWord_L20 N f k (nI i) σ) (wln k) (fun i _ => allB (fun i => decide (T (s + i) = wch k i)) i = true) (fun o => o = some (if wdB T s a k = true then 1 else 0)) ?_ ?_ (fuel := N) (a := ()) (by omega) rfl
    · intro f i _ hi hal
      obtain ⟨w1, w2⟩ := hw i hi
      have ht := hT.2 (s + i) (by omega)
      show Re_isWord_L20B N (Re_isWord_L20 N f) k (nI i) σ = _ ∨ ∃ a', Re_isWord_L20B N (Re_isWord_L20 N f) k (nI i) σ = Re_isWord_L20 N f k (nI (i + 1)) σ ∧ _
      unfold Re_isWord_L20B
      rw [show Int32.ofNat (slen.getD k 0) = nI (wln k) from rfl, if_neg (leN (by omega) (by omega) (by omega)), h3, addI, inI (n := 150) (by omega) (by decide), ck_t, inI (n := slen.getD k 0) hi (Nat.lt_of_le_of_lt l5 (by decide)), ck_t, clI (a := s + i) (by omega), clI (a := i) (by omega), hc.2 (s + i) (by omega), w1]
      by_cases y : T (s + i) = wch k i
      · right
        refine ⟨(), by rw [if_pos (by rw [y]), nI_1, bI_e], ?_⟩
        show (allB (fun i => decide (T (s + i) = wch k i)) i && decide (T (s + i) = wch k i)) = true
        rw [hal, decide_eq_true y]; rfl
      · left
        have wf : wdB T s a k = false := by unfold wdB; rw [allB_no hi (decide_eq_false y), Bool.and_false]
        rw [if_neg (neI y (by omega) (by omega)), wf]; rfl
    · intro f _ hal
      show Re_isWord_L20B N (Re_isWord_L20 N f) k (nI (wln k)) σ = _
      unfold Re_isWord_L20B
      have wt : wdB T s a k = true := by unfold wdB; rw [hal, decide_eq_true z]; rfl
      rw [show Int32.ofNat (slen.getD k 0) = nI (wln k) from rfl, if_pos (Int32.le_refl _), wt]; rfl
  · have wf : wdB T s a k = false := by unfold wdB; rw [decide_eq_false z, Bool.false_and]
    rw [if_neg (neI z (by omega) (by omega)), wf]; rfl
def kyL : List Nat := [5119, 4100, 5099, 5114, 5103, 3114]
theorem kyI : ∀ j, j < 6 → ∀ k, k < 6 → kyL.getD j 0 = kyL.getD k 0 → j = k := by decide +kernel
theorem kyE : ∀ k, k < 6 → 1000 * wln k + wch k 0 = kyL.getD k 0 := by decide +kernel
theorem wdB_key {T : Nat → Nat} {s a k : Nat} (hk : k < 6) (h : wdB T s a k = true) : 1000 * (a - s) + T s = kyL.getD k 0 := by
  unfold wdB at h
  rw [Bool.and_eq_true] at h
  have h1 : a - s = wln k := of_decide_eq_true h.1
  have h2 : T (s + 0) = wch k 0 := of_decide_eq_true (allB_get h.2 (show 0 < wln k by have := (wchE k hk).2.1; omega))
  rw [Nat.add_zero] at h2
  rw [h1, h2]; exact kyE k hk
theorem wdB_u {T : Nat → Nat} {s a j k : Nat} (hj : j < 6) (hk : k < 6) (h1 : wdB T s a j = true) (h2 : wdB T s a k = true) : j = k := kyI j hj k hk ((wdB_key hj h1).symm.trans (wdB_key hk h2))
def wdx (T : Nat → Nat) (s a : Nat) : Nat := if wdB T s a 0 = true then 0 else if wdB T s a 1 = true then 1 else if wdB T s a 2 = true then 2 else if wdB T s a 3 = true then 3 else if wdB T s a 4 = true then 4 else if wdB T s a 5 = true then 5 else 6
theorem wdx_iff {T : Nat → Nat} {s a k : Nat} (hk : k < 6) : wdx T s a = k ↔ wdB T s a k = true := by
  unfold wdx
  by_cases b0 : wdB T s a 0 = true
  · rw [if_pos b0]; exact ⟨fun h => by subst h; exact b0, fun h => wdB_u (by decide) hk b0 h⟩
  rw [if_neg b0]
  by_cases b1 : wdB T s a 1 = true
  · rw [if_pos b1]; exact ⟨fun h => by subst h; exact b1, fun h => wdB_u (by decide) hk b1 h⟩
  rw [if_neg b1]
  by_cases b2 : wdB T s a 2 = true
  · rw [if_pos b2]; exact ⟨fun h => by subst h; exact b2, fun h => wdB_u (by decide) hk b2 h⟩
  rw [if_neg b2]
  by_cases b3 : wdB T s a 3 = true
  · rw [if_pos b3]; exact ⟨fun h => by subst h; exact b3, fun h => wdB_u (by decide) hk b3 h⟩
  rw [if_neg b3]
  by_cases b4 : wdB T s a 4 = true
  · rw [if_pos b4]; exact ⟨fun h => by subst h; exact b4, fun h => wdB_u (by decide) hk b4 h⟩
  rw [if_neg b4]
  by_cases b5 : wdB T s a 5 = true
  · rw [if_pos b5]; exact ⟨fun h => by subst h; exact b5, fun h => wdB_u (by decide) hk b5 h⟩
  rw [if_neg b5]
  refine ⟨fun h => by omega, fun h => ?_⟩
  rcases (show k = 0 ∨ k = 1 ∨ k = 2 ∨ k = 3 ∨ k = 4 ∨ k = 5 by omega) with e | e | e | e | e | e <;> subst e
  · exact absurd h b0
  · exact absurd h b1
  · exact absurd h b2
  · exact absurd h b3
  · exact absurd h b4
  · exact absurd h b5
theorem wdx_le (T : Nat → Nat) (s a : Nat) : wdx T s a ≤ 6 := by
  unfold wdx
  repeat (first | split | omega)
def wk (T : Nat → Nat) (L p : Nat) : Nat := if tkT T L p = 1 then wdx T (tkS T L p) (tkA T L p) else 6
theorem wk_le (T : Nat → Nat) (L p : Nat) : wk T L p ≤ 6 := by
  unfold wk
  split
  · exact wdx_le _ _ _
  · exact Nat.le_refl _
theorem wk_iff {T : Nat → Nat} {L p k : Nat} (hk : k < 6) : wk T L p = k ↔ (tkT T L p = 1 ∧ wdB T (tkS T L p) (tkA T L p) k = true) := by
  unfold wk
  by_cases z : tkT T L p = 1
  · rw [if_pos z, wdx_iff hk]; exact ⟨fun h => ⟨z, h⟩, fun h => h.2⟩
  · rw [if_neg z]; exact ⟨fun h => by omega, fun h => absurd h.1 z⟩
theorem cWord {N : Nat} (hN : 300 < N) {T : Nat → Nat} {L p : Nat} (hT : TX T L) {σ : St} (hc : CT T L σ) (hp : p ≤ L) (hH : CH T L p σ) : Re_wordAtHand N σ = some (if wk T L p = 6 then -1 else nI (wk T L p)) := by
  unfold Re_wordAtHand
  rw [hH.2.1]
  by_cases z : tkT T L p = 1
  · obtain ⟨a1, a2, a3⟩ := tk_adv hp (show tkT T L p ≠ 0 by omega)
    have h2 := hH.2.2.1 (show tkT T L p ≠ 4 by omega)
    have iw := fun k (hk : k < 6) => cIsWord hN hT hc (k := k) hk h2 hH.1 (by omega) a3
    have ek : wk T L p = wdx T (tkS T L p) (tkA T L p) := if_pos z
    rw [if_pos (show nI (tkT T L p) = 1 by rw [z]; rfl), iw 0 (by decide), iw 1 (by decide), iw 2 (by decide), iw 3 (by decide), iw 4 (by decide), iw 5 (by decide), ek]
    unfold wdx
    simp only [bR_e]
    by_cases b0 : wdB T (tkS T L p) (tkA T L p) 0 = true
    · simp only [if_pos b0, if_neg one_ne]; rfl
    simp only [if_neg b0, if_true]
    by_cases b1 : wdB T (tkS T L p) (tkA T L p) 1 = true
    · simp only [if_pos b1, if_neg one_ne]; rfl
    simp only [if_neg b1, if_true]
    by_cases b2 : wdB T (tkS T L p) (tkA T L p) 2 = true
    · simp only [if_pos b2, if_neg one_ne]; rfl
    simp only [if_neg b2, if_true]
    by_cases b3 : wdB T (tkS T L p) (tkA T L p) 3 = true
    · simp only [if_pos b3, if_neg one_ne]; rfl
    simp only [if_neg b3, if_true]
    by_cases b4 : wdB T (tkS T L p) (tkA T L p) 4 = true
    · simp only [if_pos b4, if_neg one_ne]; rfl
    simp only [if_neg b4, if_true]
    by_cases b5 : wdB T (tkS T L p) (tkA T L p) 5 = true
    · simp only [if_pos b5, if_neg one_ne]; rfl
    rw [if_neg b5, if_neg b5]; rfl
  · have ek : wk T L p = 6 := if_neg z
    have tb : tkT T L p ≤ 4 := by
      unfold tkT
      repeat (first | split | omega)
    rw [if_neg (show ¬ nI (tkT T L p) = 1 from neI (b := 1) z (by omega) (by decide)), ek]; rfl
def num (w : Nat) : Nat := [1, 2, 3, 2, 2, 3].getD w 0
theorem nuE : ∀ w, w < 6 → nuL.getD w 0 = nI (num w) ∧ 1 ≤ num w ∧ num w ≤ 3 := by decide +kernel
def fitB (q : QS) (w i v0 v : Nat) : Bool :=
  if w = 0 then decide (v ≤ 9) else if w = 1 then (if i = 0 then decide (v < 8) else decide (v ≤ 9)) else if w = 2 then (if i = 2 then decide (v ≤ 9) else if i = 0 then decide (v < 8) else decide (v < 8 ∧ v ≠ v0))
  else if w = 3 then (if i = 0 then decide (v ≤ 5) else decide (v ≤ 9)) else if w = 4 then (if i = 0 then decide (v ≤ 5) else decide (1 ≤ v ∧ v ≤ 40))
  else (if i = 0 then decide (v < q 37) else if i = 1 then decide (v < q 36) else decide (v < 8 ∧ canN q (q (60 + v0)) v = true))
theorem gtE {c v : Nat} (hc : c < 2147483648) (hv : v < 2147483648) : (if nI c < nI v then some (0 : Int32) else some 1) = some (if decide (v ≤ c) = true then 1 else 0) := by
  by_cases z : v ≤ c
  · rw [if_neg (ltN (by omega) hc hv), if_pos (decide_eq_true z)]
  · rw [if_pos (ltP (by omega) hc hv), if_neg (by simpa using z)]
theorem geE {c v : Nat} (hc : c < 2147483648) (hv : v < 2147483648) : (if nI c ≤ nI v then some (0 : Int32) else some 1) = some (if decide (v < c) = true then 1 else 0) := by
  by_cases z : v < c
  · rw [if_neg (leN (by omega) hc hv), if_pos (decide_eq_true z)]
  · rw [if_pos (leP (by omega) hc hv), if_neg (by simpa using z)]
theorem cFitsC {N : Nat} {σ : St} {i v0 v : Nat} (hi : i < 3) (hv : v ≤ 1000) (hv0 : i ≠ 0 → v0 ≤ 1000 ∧ σ.1 73 0 = nI v0) (h5 : σ.1 71 5 = nI v) (q : QS) : Re_fitsCanal N (nI i) σ = some (if fitB q 2 i v0 v = true then 1 else 0) := by
  unfold Re_fitsCanal Re_fitsCanal_J46
  rcases (show i = 0 ∨ i = 1 ∨ i = 2 by omega) with e | e | e <;> subst e
  · rw [if_neg (by decide), if_pos (show nI 0 = 0 by decide), h5]
    exact geE (c := 8) (by decide) (by omega)
  · obtain ⟨k1, k2⟩ := hv0 (by decide)
    have k2' : σ.1 73 (0 : Int32).toNatClampNeg = nI v0 := k2
    rw [if_neg (by decide), if_neg (show ¬ nI 1 = 0 by decide), h5, k2']
    show _ = some (if decide (v < 8 ∧ v ≠ v0) = true then 1 else 0)
    by_cases z : v < 8
    · rw [if_neg (show ¬ (8 : Int32) ≤ nI v from leN (a := 8) (by omega) (by decide) (by omega))]
      by_cases y : v = v0
      · rw [if_pos (by rw [y]), if_neg (by simp; omega)]
      · rw [if_neg (neI y (by omega) (by omega)), if_pos (decide_eq_true ⟨z, y⟩)]
    · rw [if_pos (show (8 : Int32) ≤ nI v from leP (a := 8) (by omega) (by decide) (by omega)), if_neg (by simp; omega)]
  · rw [if_pos (by decide), h5]
    exact gtE (c := 9) (by decide) (by omega)
theorem cFitsR {N : Nat} {q : QS} {σ : St} {i v0 v : Nat} (hi : i < 3) (hv : v ≤ 1000) (hv0 : i ≠ 0 → v0 ≤ 1000 ∧ σ.1 73 0 = nI v0) (h5 : σ.1 71 5 = nI v) (hq : Okq q) (hnr : NR 21 q σ) (h2 : i = 2 → v0 < q 37) : Re_fitsRow N 21 (nI i) σ = some (if fitB q 5 i v0 v = true then 1 else 0) := by
  obtain ⟨b1, b2, b3, b4, b5, b6, b7⟩ := hq.b
  have h36 := b2.1
  have h37 := b3.1
  unfold Re_fitsRow
  rcases (show i = 0 ∨ i = 1 ∨ i = 2 by omega) with e | e | e <;> subst e
  · rw [if_pos (by decide), h5, hnr.cnt.2.1]
    exact geE (by omega) (by omega)
  · rw [if_neg (by decide), if_pos (by decide), h5, hnr.cnt.1]
    exact geE (by omega) (by omega)
  · obtain ⟨k1, k2⟩ := hv0 (by decide)
    have k2' : σ.1 73 (0 : Int32).toNatClampNeg = nI v0 := k2
    have hg := h2 rfl
    rw [if_neg (by decide), if_neg (by decide), h5, k2']
    show _ = some (if decide (v < 8 ∧ canN q (q (60 + v0)) v = true) = true then 1 else 0)
    by_cases z : v < 8
    · have hx4 : q (60 + v0) ≤ 7 := (b3.2.1 v0 hg).2.2.2.2.2.1
      rw [if_neg (show ¬ (8 : Int32) ≤ nI v from leN (a := 8) (by omega) (by decide) (by omega)), inI (n := 4) (by omega) (by decide), ck_t, clI (by omega), cCan (n := 21) (gc := 21 + 16 + v0) (a := q (60 + v0)) (p := v) b1 hnr.1.2 (hnr.gst (by omega) (by decide) hg) hx4 z, bR_e]
      by_cases y : canN q (q (60 + v0)) v = true
      · rw [if_pos y, if_neg one_ne, if_pos (decide_eq_true ⟨z, y⟩)]
      · rw [if_neg y, if_pos rfl, if_neg (fun x => y (of_decide_eq_true x).2)]
    · rw [if_pos (show (8 : Int32) ≤ nI v from leP (a := 8) (by omega) (by decide) (by omega)), if_neg (fun x => z (of_decide_eq_true x).1)]
theorem cFits {N : Nat} {q : QS} {σ : St} {w i v0 v : Nat} (hw : w < 6) (hi : i < num w) (hv : v ≤ 1000) (hv0 : i ≠ 0 → v0 ≤ 1000 ∧ σ.1 73 0 = nI v0) (h5 : σ.1 71 5 = nI v) (h : w = 5 → Okq q ∧ NR 21 q σ ∧ (i = 2 → v0 < q 37)) : Re_fits N 21 (nI w) (nI i) σ = some (if fitB q w i v0 v = true then 1 else 0) := by
  unfold Re_fits
  rcases (show w = 0 ∨ w = 1 ∨ w = 2 ∨ w = 3 ∨ w = 4 ∨ w = 5 by omega) with e | e | e | e | e | e <;> subst e
  · rw [if_pos (by decide), h5]
    exact gtE (c := 9) (by decide) (by omega)
  · have hi' : i < 2 := hi
    rw [if_neg (by decide), if_pos (by decide), h5]
    rcases (show i = 0 ∨ i = 1 by omega) with e | e <;> subst e
    · rw [if_pos (by decide)]; exact geE (c := 8) (by decide) (by omega)
    · rw [if_neg (by decide)]; exact gtE (c := 9) (by decide) (by omega)
  · have hi' : i < 3 := hi
    rw [if_neg (by decide), if_neg (by decide), if_pos (by decide), cFitsC hi' hv hv0 h5 q, bR_e]
  · have hi' : i < 2 := hi
    rw [if_neg (by decide), if_neg (by decide), if_neg (by decide), if_pos (by decide), h5]
    rcases (show i = 0 ∨ i = 1 by omega) with e | e <;> subst e
    · rw [if_pos (by decide)]; exact gtE (c := 5) (by decide) (by omega)
    · rw [if_neg (by decide)]; exact gtE (c := 9) (by decide) (by omega)
  · have hi' : i < 2 := hi
    rw [if_neg (by decide), if_neg (by decide), if_neg (by decide), if_neg (by decide), if_pos (by decide), h5]
    rcases (show i = 0 ∨ i = 1 by omega) with e | e <;> subst e
    · rw [if_pos (by decide)]; exact gtE (c := 5) (by decide) (by omega)
    · rw [if_neg (by decide), gW140, wv_nI (by omega)]
      show _ = some (if decide (1 ≤ v ∧ v ≤ 40) = true then 1 else 0)
      by_cases z : 1 ≤ v ∧ v ≤ 40
      · rw [if_pos (by omega), if_pos (decide_eq_true z)]
      · rw [if_neg (by omega), if_neg (fun x => z (of_decide_eq_true x))]
  · have hi' : i < 3 := hi
    obtain ⟨k1, k2, k3⟩ := h rfl
    rw [if_neg (by decide), if_neg (by decide), if_neg (by decide), if_neg (by decide), if_neg (by decide), cFitsR hi' hv hv0 h5 k1 k2 k3, bR_e]
theorem fitB_0 (q : QS) (w a b v : Nat) : fitB q w 0 a v = fitB q w 0 b v := by
  unfold fitB
  simp only [if_neg (show ¬ (0 : Nat) = 2 by decide), if_true]
abbrev RN : Type := Bool × Nat × (Nat → Nat)
def rdN (T : Nat → Nat) (L : Nat) (fit : Nat → Nat → Nat → Bool) : Nat → Nat → (Nat → Nat) → Nat → RN
  | 0, _, vs, p => if tkT T L p = 3 then (true, tkA T L p, vs) else (false, tkS T L p, vs)
  | m + 1, i, vs, p => if tkT T L p = 2 ∧ fit i (vs 0) (tkV T L p) = true then rdN T L fit m (i + 1) (updQ vs i (tkV T L p)) (tkA T L p) else (false, tkS T L p, vs)
theorem rdN_0y {T : Nat → Nat} {L : Nat} {fit : Nat → Nat → Nat → Bool} {i : Nat} {vs : Nat → Nat} {p : Nat} (h : tkT T L p = 3) : rdN T L fit 0 i vs p = (true, tkA T L p, vs) := if_pos h
theorem rdN_0n {T : Nat → Nat} {L : Nat} {fit : Nat → Nat → Nat → Bool} {i : Nat} {vs : Nat → Nat} {p : Nat} (h : ¬ tkT T L p = 3) : rdN T L fit 0 i vs p = (false, tkS T L p, vs) := if_neg h
theorem rdN_y {T : Nat → Nat} {L : Nat} {fit : Nat → Nat → Nat → Bool} {m i : Nat} {vs : Nat → Nat} {p : Nat} (h : tkT T L p = 2 ∧ fit i (vs 0) (tkV T L p) = true) : rdN T L fit (m + 1) i vs p = rdN T L fit m (i + 1) (updQ vs i (tkV T L p)) (tkA T L p) := if_pos h
theorem rdN_n {T : Nat → Nat} {L : Nat} {fit : Nat → Nat → Nat → Bool} {m i : Nat} {vs : Nat → Nat} {p : Nat} (h : ¬ (tkT T L p = 2 ∧ fit i (vs 0) (tkV T L p) = true)) : rdN T L fit (m + 1) i vs p = (false, tkS T L p, vs) := if_neg h
theorem rdN_fit {T : Nat → Nat} {L : Nat} {fit : Nat → Nat → Nat → Bool} (m : Nat) : ∀ {i : Nat} {vs : Nat → Nat} {p : Nat}, (rdN T L fit m i vs p).1 = true → (∀ j, j < i → (rdN T L fit m i vs p).2.2 j = vs j) ∧ (∀ j, i ≤ j → j < i + m → fit j (if j = 0 then vs 0 else (rdN T L fit m i vs p).2.2 0) ((rdN T L fit m i vs p).2.2 j) = true) := by
  induction m with
  | zero =>
    intro i vs p h
    by_cases z : tkT T L p = 3
    · rw [rdN_0y z]; exact ⟨fun _ _ => rfl, fun j h1 h2 => by omega⟩
    · rw [rdN_0n z] at h; exact absurd (show false = true from h) (by decide)
  | succ m ih =>
    intro i vs p h
    by_cases z : tkT T L p = 2 ∧ fit i (vs 0) (tkV T L p) = true
    · rw [rdN_y z] at h ⊢
      obtain ⟨h1, h2⟩ := ih h
      refine ⟨fun j hj => by rw [h1 j (by omega), updQ_n _ _ (by omega)], fun j h3 h4 => ?_⟩
      by_cases e : j = i
      · subst e
        rw [h1 j (by omega), updQ_s]
        by_cases e0 : j = 0
        · rw [if_pos e0]; exact z.2
        · rw [if_neg e0, h1 0 (by omega), updQ_n _ _ (by omega)]; exact z.2
      · have h5 := h2 j (by omega) (by omega)
        rw [if_neg (by omega)] at h5 ⊢
        exact h5
    · rw [rdN_n z] at h; exact absurd (show false = true from h) (by decide)
theorem rdN_le {T : Nat → Nat} {L : Nat} {fit : Nat → Nat → Nat → Bool} (m : Nat) : ∀ {i : Nat} {vs : Nat → Nat} {p : Nat}, p ≤ L → (rdN T L fit m i vs p).1 = true → p ≤ (rdN T L fit m i vs p).2.1 ∧ (rdN T L fit m i vs p).2.1 ≤ L := by
  induction m with
  | zero =>
    intro i vs p hp h
    have hs := tkS_le T hp
    by_cases z : tkT T L p = 3
    · obtain ⟨a1, a2, a3⟩ := tk_adv hp (show tkT T L p ≠ 0 by omega)
      rw [rdN_0y z]; show p ≤ tkA T L p ∧ tkA T L p ≤ L; omega
    · rw [rdN_0n z] at h; exact absurd (show false = true from h) (by decide)
  | succ m ih =>
    intro i vs p hp h
    have hs := tkS_le T hp
    by_cases z : tkT T L p = 2 ∧ fit i (vs 0) (tkV T L p) = true
    · obtain ⟨a1, a2, a3⟩ := tk_adv hp (show tkT T L p ≠ 0 by omega)
      rw [rdN_y z] at h ⊢
      have := ih a3 h
      omega
    · rw [rdN_n z] at h; exact absurd (show false = true from h) (by decide)
def F7 (σ s : St) : Prop := (∀ i, i ≠ 71 → i ≠ 73 → s.1 i = σ.1 i) ∧ s.1 71 1 = σ.1 71 1 ∧ s.2 = σ.2
theorem F7.rfl' {σ : St} : F7 σ σ := ⟨fun _ _ _ => rfl, rfl, rfl⟩
theorem F7.f {σ s t : St} (h : F7 σ s) (f : F71 s t) : F7 σ t := ⟨fun i h1 h2 => (f.1 i h1).trans (h.1 i h1 h2), f.2.1.trans h.2.1, f.2.2.trans h.2.2⟩
theorem F7.wr {σ s : St} (h : F7 σ s) {k : Nat} {v : Int32} : F7 σ (sI s 73 k v) := ⟨fun i h1 h2 => by rw [rdI_ne _ _ _ _ h2]; exact h.1 i h1 h2, by rw [rdI_ne _ _ _ _ (by decide)]; exact h.2.1, h.2.2⟩
theorem CT.f7 {T : Nat → Nat} {L : Nat} {σ s : St} (h : CT T L σ) (f : F7 σ s) : CT T L s := ⟨f.2.1.trans h.1, fun j hj => by rw [f.1 72 (by decide) (by decide)]; exact h.2 j hj⟩
theorem cNums {N : Nat} (hN : 300 < N) {T : Nat → Nat} {L : Nat} (hT : TX T L) {w : Nat} (hw : w < 6) {fit : Nat → Nat → Nat → Bool} {σ0 : St} (hc : CT T L σ0) (hfit : ∀ i v0 v s, i < num w → v ≤ 1000 → (i ≠ 0 → v0 ≤ 1000 ∧ s.1 73 0 = nI v0 ∧ fit 0 0 v0 = true) → s.1 71 5 = nI v → F7 σ0 s → Re_fits N 21 (nI w) (nI i) s = some (if fit i v0 v = true then 1 else 0)) (hf0 : ∀ a v, fit 0 a v = fit 0 0 v) (m : Nat) : ∀ {i : Nat} {vs : Nat → Nat} {p : Nat} {σ : St} {F : Nat}, i + m = num w → m < F → p ≤ L → CH T L p σ → (∀ j, j < i → vs j ≤ 1000 ∧ σ.1 73 j = nI (vs j)) → (i ≠ 0 → fit 0 0 (vs 0) = true) → F7 σ0 σ → ((rdN T L fit m i vs p).1 = true → ∃ s, Re_readItem_L40 N F 21 (nI w) (nI i) σ = (bR (Re_apply N 21 (nI w) s) fun s23 => some (1, s23)) ∧ CH T L (rdN T L fit m i vs p).2.1 s ∧ (∀ j, j < num w → s.1 73 j = nI ((rdN T L fit m i vs p).2.2 j)) ∧ F7 σ0 s) ∧ ((rdN T L fit m i vs p).1 = false → ∃ s, Re_readItem_L40 N F 21 (nI w) (nI i) σ = some (0, s) ∧ s.1 71 3 = nI (rdN T L fit m i vs p).2.1 ∧ F7 σ0 s) := by
  have hL := hT.1
  obtain ⟨n1, n2, n3⟩ := nuE w hw
  induction m with
  | zero =>
    intro i vs p σ F hi hF hp hH hv hf f7
    obtain ⟨f, rfl⟩ : ∃ f, F = f + 1 := ⟨F - 1, by omega⟩
    have e : i = num w := by omega
    subst e
    have ev : Re_readItem_L40 N (f + 1) 21 (nI w) (nI (num w)) σ = Re_readItem_J92 N 21 (nI w) σ := by
      show Re_readItem_L40B N (Re_readItem_L40 N f) 21 (nI w) (nI (num w)) σ = _
      unfold Re_readItem_L40B
      rw [inI (n := 6) hw (by decide), ck_t, clI (by omega), n1, if_pos (Int32.le_refl _)]
    rw [ev]
    unfold Re_readItem_J92
    rw [hH.2.1]
    have tb : tkT T L p ≤ 4 := by
      unfold tkT
      repeat (first | split | omega)
    by_cases z : tkT T L p = 3
    · rw [rdN_0y z, if_pos (show nI (tkT T L p) = 3 by rw [z]; rfl)]
      refine ⟨fun _ => ?_, fun y => absurd (show true = false from y) (by decide)⟩
      obtain ⟨s, g1, c1, f1⟩ := cAdv (N := N) hN hT (hc.f7 f7) (tkA_le hp) (hH.2.2.1 (by omega))
      exact ⟨s, by rw [g1, bR_e], c1, fun j hj => by rw [f1.1 73 (by decide)]; exact (hv j hj).2, f7.f f1⟩
    · rw [rdN_0n z, if_neg (show ¬ nI (tkT T L p) = 3 from neI (b := 3) z (by omega) (by decide))]
      exact ⟨fun y => absurd (show false = true from y) (by decide), fun _ => ⟨σ, rfl, hH.1, f7⟩⟩
  | succ m ih =>
    intro i vs p σ F hi hF hp hH hv hf f7
    obtain ⟨f, rfl⟩ : ∃ f, F = f + 1 := ⟨F - 1, by omega⟩
    have tb : tkT T L p ≤ 4 := by
      unfold tkT
      repeat (first | split | omega)
    have hv9 : tkV T L p ≤ 1000 := vN_le _ _ _
    have ev : Re_readItem_L40 N (f + 1) 21 (nI w) (nI i) σ = if nI (tkT T L p) = 2 then (bR (Re_fits N 21 (nI w) (nI i) σ) fun r27 => if r27 = 0 then some (0, σ) else bR (Re_advance N (sI σ 73 i (σ.1 71 5))) fun s34 => Re_readItem_L40 N f 21 (nI w) (nI (i + 1)) s34) else some (0, σ) := by
      show Re_readItem_L40B N (Re_readItem_L40 N f) 21 (nI w) (nI i) σ = _
      unfold Re_readItem_L40B
      rw [inI (n := 6) hw (by decide), ck_t, clI (a := w) (by omega), n1, if_neg (leN (by omega) (by omega) (by omega)), hH.2.1, inI (n := 3) (by omega) (by decide), clI (a := i) (by omega), nI_1]
      simp only [ck_t, bS_e, bI_e]
    rw [ev]
    by_cases z : tkT T L p = 2
    · have h5 := hH.2.2.2 z
      have hft := hfit i (vs 0) (tkV T L p) σ (by omega) hv9 (fun h0 => ⟨(hv 0 (by omega)).1, (hv 0 (by omega)).2, hf h0⟩) h5 f7
      rw [if_pos (show nI (tkT T L p) = 2 by rw [z]; rfl), hft, bR_e]
      by_cases y : fit i (vs 0) (tkV T L p) = true
      · obtain ⟨s, g1, c1, f1⟩ := cAdv (N := N) hN hT ((hc.f7 f7).f7 (F7.wr F7.rfl' (k := i) (v := σ.1 71 5))) (tkA_le hp) (by rw [rdI_ne _ _ _ _ (by decide)]; exact hH.2.2.1 (by omega))
        rw [rdN_y ⟨z, y⟩, if_pos y, if_neg one_ne, g1, bR_e]
        refine ih (i := i + 1) (vs := updQ vs i (tkV T L p)) (p := tkA T L p) (σ := s) (F := f) (by omega) (by omega) (tkA_le hp) c1 (fun j hj => ?_) (fun _ => ?_) ((f7.wr).f f1)
        · rw [f1.1 73 (by decide)]
          by_cases e : j = i
          · subst e; rw [updQ_s, rdI_eq]; exact ⟨hv9, h5⟩
          · rw [updQ_n _ _ e, rdI_nk _ _ _ _ e]; exact hv j (by omega)
        · by_cases e : i = 0
          · subst e; rw [updQ_s, ← hf0 (vs 0)]; exact y
          · rw [updQ_n _ _ (Ne.symm e)]; exact hf e
      · rw [rdN_n (fun x => y x.2), if_neg y, if_pos rfl]
        exact ⟨fun y => absurd (show false = true from y) (by decide), fun _ => ⟨σ, rfl, hH.1, f7⟩⟩
    · rw [rdN_n (fun x => z x.1), if_neg (show ¬ nI (tkT T L p) = 2 from neI (b := 2) z (by omega) (by decide))]
      exact ⟨fun y => absurd (show false = true from y) (by decide), fun _ => ⟨σ, rfl, hH.1, f7⟩⟩
def app (q : QS) (w : Nat) (vs : Nat → Nat) : QS := if w = 0 then qBegin (vs 0) else if w = 1 then updQ q (vs 0) (vs 1) else if w = 2 then updQ q (cnl (vs 0) (vs 1)) (vs 2) else if w = 3 then qRower q (vs 0) (vs 1) else if w = 4 then qGuest q (vs 0) (vs 1) else qRow q (vs 0) (vs 1) (vs 2)
def tooB (q : QS) (w : Nat) : Bool := decide ((w = 3 ∧ 3 ≤ q 36) ∨ (w = 4 ∧ 4 ≤ q 37))
def fitA (q : QS) (w : Nat) (vs : Nat → Nat) : Prop := ∀ i, i < num w → fitB q w i (vs 0) (vs i) = true
theorem rdW_fit {T : Nat → Nat} {L : Nat} {q : QS} {w p : Nat} (h : (rdN T L (fitB q w) (num w) 0 (fun _ => 0) p).1 = true) : fitA q w (rdN T L (fitB q w) (num w) 0 (fun _ => 0) p).2.2 := by
  intro i hi
  have := (rdN_fit (num w) h).2 i (Nat.zero_le _) (by omega)
  by_cases e : i = 0
  · subst e
    rw [if_pos rfl] at this
    rw [fitB_0 q w _ 0]; exact this
  · rw [if_neg e] at this; exact this
/-- what the numbers of an item are -/
theorem fit1 {q : QS} {vs : Nat → Nat} (h : fitA q 1 vs) : vs 0 < 8 ∧ vs 1 ≤ 9 := ⟨of_decide_eq_true (h 0 (by decide)), of_decide_eq_true (h 1 (by decide))⟩
theorem fit2 {q : QS} {vs : Nat → Nat} (h : fitA q 2 vs) : vs 0 < 8 ∧ (vs 1 < 8 ∧ vs 1 ≠ vs 0) ∧ vs 2 ≤ 9 := ⟨of_decide_eq_true (h 0 (by decide)), of_decide_eq_true (h 1 (by decide)), of_decide_eq_true (h 2 (by decide))⟩
theorem fit3 {q : QS} {vs : Nat → Nat} (h : fitA q 3 vs) : vs 0 ≤ 5 ∧ vs 1 ≤ 9 := ⟨of_decide_eq_true (h 0 (by decide)), of_decide_eq_true (h 1 (by decide))⟩
theorem fit4 {q : QS} {vs : Nat → Nat} (h : fitA q 4 vs) : vs 0 ≤ 5 ∧ (1 ≤ vs 1 ∧ vs 1 ≤ 40) := ⟨of_decide_eq_true (h 0 (by decide)), of_decide_eq_true (h 1 (by decide))⟩
theorem fit5 {q : QS} {vs : Nat → Nat} (h : fitA q 5 vs) : vs 0 < q 37 ∧ vs 1 < q 36 ∧ (vs 2 < 8 ∧ canN q (q (60 + vs 0)) (vs 2) = true) := ⟨of_decide_eq_true (h 0 (by decide)), of_decide_eq_true (h 1 (by decide)), of_decide_eq_true (h 2 (by decide))⟩
theorem app_ok {q : QS} (hq : Okq q) (hz : q 157 = 0) {w : Nat} (hw : 1 ≤ w ∧ w ≤ 5) {vs : Nat → Nat} (h : fitA q w vs) (ht : tooB q w = false) : Okq (app q w vs) ∧ app q w vs 157 = 0 := by
  have h37 := hq.b.2.2.1.1
  have ht' := of_decide_eq_false ht
  rcases (show w = 1 ∨ w = 2 ∨ w = 3 ∨ w = 4 ∨ w = 5 by omega) with e | e | e | e | e <;> subst e
  · obtain ⟨f0, f1⟩ := fit1 h
    exact ⟨hq.dark (by omega) f1, by show updQ q (vs 0) (vs 1) 157 = 0; rw [updQ_n _ _ (by omega)]; exact hz⟩
  · obtain ⟨f0, ⟨f1, f2⟩, f3⟩ := fit2 h
    have hk := cnl_rng (vs 0) f0 (vs 1) f1 (Ne.symm f2)
    exact ⟨hq.dark hk.2 f3, by show updQ q (cnl (vs 0) (vs 1)) (vs 2) 157 = 0; rw [updQ_n _ _ (by omega)]; exact hz⟩
  · obtain ⟨f0, f1⟩ := fit3 h
    refine ⟨hq.rower (by omega) f0 f1, ?_⟩
    show qRower q (vs 0) (vs 1) 157 = 0
    unfold qRower
    have h36 := hq.b.2.1.1
    rw [updQ_n _ _ (by omega), updQ_n _ _ (by omega), updQ_n _ _ (by omega)]; exact hz
  · obtain ⟨f0, f1⟩ := fit4 h
    refine ⟨hq.guest0 (by omega) f0 f1 hz, ?_⟩
    show qGuest q (vs 0) (vs 1) 157 = 0
    unfold qGuest
    rw [updQ_n _ _ (by omega), updQ_n _ _ (by omega), updQ_n _ _ (by omega)]; exact hz
  · obtain ⟨f0, f1, f2, f3⟩ := fit5 h
    refine ⟨hq.row f0 f2, ?_⟩
    show qRow q (vs 0) (vs 1) (vs 2) 157 = 0
    unfold qRow
    rw [updQ_n _ _ (by omega), updQ_n _ _ (by omega), updQ_n _ _ (by omega), updQ_n _ _ (by omega)]; exact hz
theorem cApply {N : Nat} {q : QS} {σ : St} (hq : Okq q) (hz : q 157 = 0) (hnr : NR 21 q σ) {w : Nat} (hw : 1 ≤ w ∧ w ≤ 5) {vs : Nat → Nat} (h : fitA q w vs) (ht : tooB q w = false) (hv : ∀ j, j < num w → σ.1 73 j = nI (vs j)) : ∃ s, Re_apply N 21 (nI w) σ = some s ∧ NR 21 (app q w vs) s ∧ Fr 21 σ s := by
  have h36 := hq.b.2.1.1
  have h37 := hq.b.2.2.1.1
  have ht' := of_decide_eq_false ht
  unfold Re_apply
  rcases (show w = 1 ∨ w = 2 ∨ w = 3 ∨ w = 4 ∨ w = 5 by omega) with e | e | e | e | e <;> subst e
  · obtain ⟨f0, f1⟩ := fit1 h
    have v0 : σ.1 73 (0 : Int32).toNatClampNeg = nI (vs 0) := hv 0 (by decide)
    have v1 : σ.1 73 (1 : Int32).toNatClampNeg = nI (vs 1) := hv 1 (by decide)
    rw [if_neg (by decide), if_pos (by decide), v0, v1, inI (n := 8) f0 (by decide), ck_t, clI (by omega), bS_e]
    exact ⟨_, rfl, cDark hnr f0 (vs 1), Fr.wr (by omega)⟩
  · obtain ⟨f0, ⟨f1, f2⟩, f3⟩ := fit2 h
    have v0 : σ.1 73 (0 : Int32).toNatClampNeg = nI (vs 0) := hv 0 (by decide)
    have v1 : σ.1 73 (1 : Int32).toNatClampNeg = nI (vs 1) := hv 1 (by decide)
    have v2 : σ.1 73 (2 : Int32).toNatClampNeg = nI (vs 2) := hv 2 (by decide)
    obtain ⟨s, g1, n1, r1⟩ := cDig (N := N) hnr f0 f1 (Ne.symm f2) (vs 2)
    rw [if_neg (by decide), if_neg (by decide), if_pos (by decide), v0, v1, v2, g1, bR_e]
    exact ⟨s, rfl, n1, r1⟩
  · have v0 : σ.1 73 (0 : Int32).toNatClampNeg = nI (vs 0) := hv 0 (by decide)
    have v1 : σ.1 73 (1 : Int32).toNatClampNeg = nI (vs 1) := hv 1 (by decide)
    obtain ⟨s, g1, n1, r1⟩ := cAddRower (N := N) hnr (by omega) (vs 0) (vs 1)
    rw [if_neg (by decide), if_neg (by decide), if_neg (by decide), if_pos (by decide), v0, v1, g1, bR_e]
    exact ⟨s, rfl, n1, r1⟩
  · have v0 : σ.1 73 (0 : Int32).toNatClampNeg = nI (vs 0) := hv 0 (by decide)
    have v1 : σ.1 73 (1 : Int32).toNatClampNeg = nI (vs 1) := hv 1 (by decide)
    obtain ⟨s, g1, -, r1, n1, -⟩ := cAddGuest (N := N) hq hnr (by omega) (vs 0) (vs 1)
    rw [if_neg (by decide), if_neg (by decide), if_neg (by decide), if_neg (by decide), if_pos (by decide), v0, v1, g1, bR_e]
    exact ⟨s, rfl, n1 hz, r1⟩
  · obtain ⟨f0, f1, f2, f3⟩ := fit5 h
    have v0 : σ.1 73 (0 : Int32).toNatClampNeg = nI (vs 0) := hv 0 (by decide)
    have v1 : σ.1 73 (1 : Int32).toNatClampNeg = nI (vs 1) := hv 1 (by decide)
    have v2 : σ.1 73 (2 : Int32).toNatClampNeg = nI (vs 2) := hv 2 (by decide)
    obtain ⟨s, g1, n1, r1⟩ := cRow (N := N) hq hnr f0 f1 f2
    rw [if_neg (by decide), if_neg (by decide), if_neg (by decide), if_neg (by decide), if_neg (by decide), v0, v1, v2, inI (n := 4) (by omega) (by decide), ck_t, inI (n := 3) (by omega) (by decide), ck_t, clI (by omega), clI (by omega), g1, bR_e]
    exact ⟨s, rfl, n1, r1⟩
def Fc (σ s : St) : Prop := (∀ i, (i < 21 ∨ 41 ≤ i) → i ≠ 71 → i ≠ 73 → s.1 i = σ.1 i) ∧ s.1 71 1 = σ.1 71 1 ∧ s.2 = σ.2
theorem F7.c {σ s : St} (h : F7 σ s) : Fc σ s := ⟨fun i _ h1 h2 => h.1 i h1 h2, h.2⟩
theorem Fc.trans {σ s t : St} (h : Fc σ s) (h2 : Fc s t) : Fc σ t := ⟨fun i h1 h3 h4 => (h2.1 i h1 h3 h4).trans (h.1 i h1 h3 h4), h2.2.1.trans h.2.1, h2.2.2.trans h.2.2⟩
theorem Fc.r {σ s t : St} (h : Fc σ s) (h2 : Fr 21 s t) : Fc σ t := ⟨fun i h1 h3 h4 => (h2.1 i (by omega)).trans (h.1 i h1 h3 h4), by rw [h2.1 71 (by omega)]; exact h.2.1, h2.2.trans h.2.2⟩
theorem CT.c {T : Nat → Nat} {L : Nat} {σ s : St} (h : CT T L σ) (f : Fc σ s) : CT T L s := ⟨f.2.1.trans h.1, fun j hj => by rw [f.1 72 (by omega) (by decide) (by decide)]; exact h.2 j hj⟩
theorem F7.nr {q : QS} {σ s : St} (h : NR 21 q σ) (f : F7 σ s) : NR 21 q s := ⟨h.1.frame (fun c hc => f.1 _ (by omega) (by omega)), h.2.frame (f.1 _ (by decide) (by decide)) (f.1 _ (by decide) (by decide)) (f.1 _ (by decide) (by decide))⟩
theorem F7.tw {σ s : St} (h : TW 21 σ) (f : F7 σ s) : TW 21 s := h.frame (f.1 _ (by decide) (by decide)) (f.1 _ (by decide) (by decide)) (f.1 _ (by decide) (by decide))
theorem cMany {N : Nat} {q : QS} {σ : St} (hq : Okq q) (hnr : NR 21 q σ) {w : Nat} (hw : w < 6) : Re_isOneTooMany N 21 (nI w) σ = some (if tooB q w = true then 1 else 0) := by
  have h36 := hq.b.2.1.1
  have h37 := hq.b.2.2.1.1
  unfold Re_isOneTooMany Re_isOneTooMany_J13 Re_isOneTooMany_J26 tooB
  rw [hnr.cnt.1, hnr.cnt.2.1]
  by_cases e3 : w = 3
  · subst e3
    rw [if_pos (show nI 3 = 3 by decide), if_neg (show ¬ nI 3 = 4 by decide)]
    by_cases z : 3 ≤ q 36
    · rw [if_pos (show (3 : Int32) ≤ nI (q 36) from leP (a := 3) z (by decide) (by omega)), if_pos (decide_eq_true (Or.inl ⟨rfl, z⟩))]
    · rw [if_neg (show ¬ (3 : Int32) ≤ nI (q 36) from leN (a := 3) z (by decide) (by omega)), if_neg (fun x => by have := of_decide_eq_true x; omega)]
  · rw [if_neg (show ¬ nI w = 3 from neI (b := 3) e3 (by omega) (by decide))]
    by_cases e4 : w = 4
    · subst e4
      rw [if_pos (show nI 4 = 4 by decide)]
      by_cases z : 4 ≤ q 37
      · rw [if_neg (show ¬ nI (q 37) < 4 from ltN (b := 4) (by omega) (by omega) (by decide)), if_pos (decide_eq_true (Or.inr ⟨rfl, z⟩))]
      · rw [if_pos (show nI (q 37) < 4 from ltP (b := 4) (by omega) (by omega) (by decide)), if_neg (fun x => by have := of_decide_eq_true x; omega)]
    · rw [if_neg (show ¬ nI w = 4 from neI (b := 4) e4 (by omega) (by decide)), if_neg (fun x => by have := of_decide_eq_true x; omega)]
/-- an item behind the first -/
theorem cItemN {N : Nat} (hN : 300 < N) {T : Nat → Nat} {L p : Nat} (hT : TX T L) {q : QS} {σ : St} (hq : Okq q) (hnr : NR 21 q σ) (hc : CT T L σ) (hp : p ≤ L) (hH : CH T L p σ) (hb : wk T L p = 0 ∨ wk T L p = 6 ∨ tooB q (wk T L p) = true) : Re_readItem N 21 0 σ = some (0, σ) := by
  have hle := wk_le T L p
  unfold Re_readItem Re_readItem_J20
  rw [cWord hN hT hc hp hH, bR_e]
  by_cases z6 : wk T L p = 6
  · rw [if_pos z6, if_pos rfl]
  · rw [if_neg z6, if_neg (m1_ne _ (by omega)), cMany hq hnr (show wk T L p < 6 by omega)]
    by_cases z0 : wk T L p = 0
    · rw [if_pos (show nI (wk T L p) = 0 by rw [z0]; rfl), if_neg (by decide)]
    · rw [if_neg (show ¬ nI (wk T L p) = 0 from neI (b := 0) z0 (by omega) (by decide)), if_pos rfl, bR_e, if_pos (show tooB q (wk T L p) = true from (hb.resolve_left z0).resolve_left z6), if_neg one_ne]
theorem cItemY {N : Nat} (hN : 300 < N) {T : Nat → Nat} {L p w : Nat} (hT : TX T L) {q : QS} {σ : St} (hq : Okq q) (hz : q 157 = 0) (hnr : NR 21 q σ) (hc : CT T L σ) (hp : p ≤ L) (hH : CH T L p σ) (hwk : wk T L p = w) (hw : 1 ≤ w ∧ w ≤ 5) (ht : tooB q w = false) : ((rdN T L (fitB q w) (num w) 0 (fun _ => 0) (tkA T L p)).1 = true → ∃ s, Re_readItem N 21 0 σ = some (1, s) ∧ NR 21 (app q w (rdN T L (fitB q w) (num w) 0 (fun _ => 0) (tkA T L p)).2.2) s ∧ CH T L (rdN T L (fitB q w) (num w) 0 (fun _ => 0) (tkA T L p)).2.1 s ∧ Fc σ s) ∧ ((rdN T L (fitB q w) (num w) 0 (fun _ => 0) (tkA T L p)).1 = false → ∃ s, Re_readItem N 21 0 σ = some (0, s) ∧ s.1 71 3 = nI (rdN T L (fitB q w) (num w) 0 (fun _ => 0) (tkA T L p)).2.1 ∧ TW 21 s ∧ Fc σ s) := by
  have hw6 : w < 6 := by omega
  have n3 := (nuE w hw6).2.2
  have t1 : tkT T L p = 1 := ((wk_iff hw6).mp hwk).1
  obtain ⟨s, g1, c1, f1⟩ := cAdv (N := N) hN hT hc (tkA_le hp) (hH.2.2.1 (show tkT T L p ≠ 4 by omega))
  have f7 : F7 σ s := F7.rfl'.f f1
  have ev : Re_readItem N 21 0 σ = Re_readItem_L40 N N 21 (nI w) (nI 0) s := by
    unfold Re_readItem Re_readItem_J20
    rw [cWord hN hT hc hp hH, bR_e, hwk, if_neg (show ¬ w = 6 by omega), if_neg (m1_ne _ (by omega)), if_neg (show ¬ nI w = 0 from neI (b := 0) (by omega) (by omega) (by decide)), if_pos rfl, cMany hq hnr hw6, bR_e, ht, if_neg (show ¬ false = true by decide), if_pos rfl, g1, bR_e]
    rfl
  rw [ev]
  obtain ⟨y, n⟩ := cNums (N := N) hN hT hw6 (fit := fitB q w) (σ0 := σ) hc (fun i v0 v t hi hv hv0 h5 ft => cFits hw6 hi hv (fun h0 => ⟨(hv0 h0).1, (hv0 h0).2.1⟩) h5 (fun e5 => ⟨hq, F7.nr hnr ft, fun e2 => by
    have := (hv0 (by omega)).2.2
    rw [e5] at this
    exact of_decide_eq_true this⟩)) (fun a v => fitB_0 q w a 0 v) (num w) (i := 0) (vs := fun _ => 0) (p := tkA T L p) (σ := s) (F := N) (by omega) (by omega) (tkA_le hp) c1 (fun j hj => absurd hj (Nat.not_lt_zero j)) (fun h0 => absurd rfl h0) f7
  refine ⟨fun hy => ?_, fun hn => ?_⟩
  · obtain ⟨t, k1, k2, k3, k4⟩ := y hy
    obtain ⟨t2, l1, l2, l3⟩ := cApply (N := N) hq hz (F7.nr hnr k4) hw (rdW_fit hy) ht k3
    refine ⟨t2, by rw [k1, l1, bR_e], l2, ?_, k4.c.r l3⟩
    unfold CH
    rw [l3.1 71 (by omega)]; exact k2
  · obtain ⟨t, k1, k2, k3⟩ := n hn
    exact ⟨t, k1, k2, F7.tw hnr.2 k3, k3.c⟩
/-- the first item -/
theorem cFirstN {N : Nat} (hN : 300 < N) {T : Nat → Nat} {L p : Nat} (hT : TX T L) {σ : St} (hc : CT T L σ) (hp : p ≤ L) (hH : CH T L p σ) (hb : wk T L p ≠ 0) : Re_readItem N 21 1 σ = some (0, σ) := by
  have hle := wk_le T L p
  unfold Re_readItem Re_readItem_J20
  rw [cWord hN hT hc hp hH, bR_e]
  by_cases z6 : wk T L p = 6
  · rw [if_pos z6, if_pos rfl]
  · rw [if_neg z6, if_neg (m1_ne _ (by omega)), if_neg (show ¬ nI (wk T L p) = 0 from neI (b := 0) hb (by omega) (by decide)), if_neg (by decide)]
theorem cFirstY {N : Nat} (hN : 300 < N) {T : Nat → Nat} {L p : Nat} (hT : TX T L) {q : QS} {σ : St} (htw : TW 21 σ) (hc : CT T L σ) (hp : p ≤ L) (hH : CH T L p σ) (hwk : wk T L p = 0) : ((rdN T L (fitB q 0) 1 0 (fun _ => 0) (tkA T L p)).1 = true → ∃ s, Re_readItem N 21 1 σ = some (1, s) ∧ NR 21 (qBegin ((rdN T L (fitB q 0) 1 0 (fun _ => 0) (tkA T L p)).2.2 0)) s ∧ CH T L (rdN T L (fitB q 0) 1 0 (fun _ => 0) (tkA T L p)).2.1 s ∧ Fc σ s) ∧ ((rdN T L (fitB q 0) 1 0 (fun _ => 0) (tkA T L p)).1 = false → ∃ s, Re_readItem N 21 1 σ = some (0, s) ∧ s.1 71 3 = nI (rdN T L (fitB q 0) 1 0 (fun _ => 0) (tkA T L p)).2.1 ∧ TW 21 s ∧ Fc σ s) := by
  have t1 : tkT T L p = 1 := ((wk_iff (by decide)).mp hwk).1
  obtain ⟨s, g1, c1, f1⟩ := cAdv (N := N) hN hT hc (tkA_le hp) (hH.2.2.1 (show tkT T L p ≠ 4 by omega))
  have f7 : F7 σ s := F7.rfl'.f f1
  have ev : Re_readItem N 21 1 σ = Re_readItem_L40 N N 21 (nI 0) (nI 0) s := by
    unfold Re_readItem Re_readItem_J20 Re_isOneTooMany Re_isOneTooMany_J13
    rw [cWord hN hT hc hp hH, bR_e, hwk, if_neg (show ¬ (0 : Nat) = 6 by decide), if_neg (m1_ne _ (by omega)), if_pos (show nI 0 = 0 by decide), if_pos rfl, if_neg (show ¬ nI 0 = 3 by decide), if_neg (show ¬ nI 0 = 4 by decide), bR_e, if_pos rfl, g1, bR_e]
    rfl
  rw [ev]
  obtain ⟨y, n⟩ := cNums (N := N) hN hT (w := 0) (by decide) (fit := fitB q 0) (σ0 := σ) hc (fun i v0 v t hi hv hv0 h5 ft => cFits (by decide) hi hv (fun h0 => ⟨(hv0 h0).1, (hv0 h0).2.1⟩) h5 (fun e5 => absurd e5 (by decide))) (fun a v => fitB_0 q 0 a 0 v) 1 (i := 0) (vs := fun _ => 0) (p := tkA T L p) (σ := s) (F := N) rfl (by omega) (tkA_le hp) c1 (fun j hj => absurd hj (Nat.not_lt_zero j)) (fun h0 => absurd rfl h0) f7
  refine ⟨fun hy => ?_, fun hn => ?_⟩
  · obtain ⟨t, k1, k2, k3, k4⟩ := y hy
    have v0 : t.1 73 (0 : Int32).toNatClampNeg = nI ((rdN T L (fitB q 0) 1 0 (fun _ => 0) (tkA T L p)).2.2 0) := k3 0 (by decide)
    obtain ⟨t2, l1, l2, l3⟩ := cBegin (N := N) (n := 21) hN (F7.tw htw k4) ((rdN T L (fitB q 0) 1 0 (fun _ => 0) (tkA T L p)).2.2 0)
    refine ⟨t2, ?_, l2, ?_, k4.c.r l3⟩
    · rw [k1]
      unfold Re_apply
      rw [if_pos (show nI 0 = 0 by decide), v0, l1, bR_e, bR_e]
    · unfold CH
      rw [l3.1 71 (by omega)]; exact k2
  · obtain ⟨t, k1, k2, k3⟩ := n hn
    exact ⟨t, k1, k2, F7.tw htw k3, k3.c⟩
