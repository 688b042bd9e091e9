/-! read: items, the reference's -/
theorem w5E : ∀ k, k < 6 → wln k = 5 → wch k 3 ≠ 0 := by decide +kernel
theorem wd_bits {T : Nat → Nat} {s a k n : Nat} (hn : wln k = n) : wdB T s a k = true ↔ (a - s = n ∧ ∀ i, i < n → T (s + i) = wch k i) := by
  unfold wdB
  rw [hn, Bool.and_eq_true]
  constructor
  · intro h
    exact ⟨of_decide_eq_true h.1, fun i hi => of_decide_eq_true (allB_get h.2 hi)⟩
  · intro h
    exact ⟨decide_eq_true h.1, allB_yes (fun i hi => decide_eq_true (h.2 i hi))⟩
theorem ltr_in {T : Nat → Nat} {L j : Nat} (h : j < L) : ltr T L j = nI (T j) := if_pos h
theorem nI_2 (s : Nat) : nI s + 2 = nI (s + 2) := addI s 2
theorem nI_3 (s : Nat) : nI s + 3 = nI (s + 3) := addI s 3
theorem nI_4 (s : Nat) : nI s + 4 = nI (s + 4) := addI s 4
theorem zadd (n : Nat) : (0 : Int32) + nI n = nI n := by rw [show (0 : Int32) = nI 0 from rfl, addI, Nat.zero_add]
theorem tkT_le (T : Nat → Nat) (L p : Nat) : tkT T L p ≤ 4 := by
  unfold tkT
  repeat (first | split | omega)
theorem mWord5 {N : Nat} {T : Nat → Nat} {L p : Nat} (hT : TX T L) {σ : St} (hX : MX T L σ) (hp : p ≤ L) (hH : MH T L p σ) {k : Nat} (hk : k < 6) (h5 : wln k = 5) : Mo_isWord N (nI (wch k 0)) (nI (wch k 1)) (nI (wch k 2)) (nI (wch k 3)) (nI (wch k 4)) σ = some (if wk T L p = k then 1 else 0) := by
  have hL := hT.1
  have tb := tkT_le T L p
  have wb : ∀ i, i < 5 → wch k i < 128 := fun i hi => ((wchE k hk).2.2 i (by omega)).2
  have nok : ∀ i, i < 5 → ¬ T (tkS T L p + i) = wch k i → ¬ wk T L p = k := fun i hi hne e => hne (((wd_bits h5).mp ((wk_iff hk).mp e).2).2 i hi)
  unfold Mo_isWord Mo_isWord_J10 Mo_isWord_J78 Mo_isWord_J79 Mo_isWord_J122
  rw [if_neg (show ¬ nI (wch k 3) = 0 from neI (b := 0) (w5E k hk h5) (by have := wb 3 (by decide); omega) (by decide))]
  by_cases z : tkT T L p = 1
  rotate_left
  · have ek : ¬ wk T L p = k := fun e => z ((wk_iff hk).mp e).1
    rw [hH.2.1, if_neg (show ¬ nI (tkT T L p) = 1 from neI (b := 1) z (by omega) (by decide)), if_neg ek]; rfl
  obtain ⟨a1, a2, a3⟩ := tk_adv hp (show tkT T L p ≠ 0 by omega)
  rw [hH.2.1, if_pos (show nI (tkT T L p) = 1 by rw [z]; rfl), hH.2.2.1 (show tkT T L p ≠ 4 by omega), hH.1, subI (show tkS T L p ≤ tkA T L p by omega)]
  by_cases y : tkA T L p - tkS T L p = 5
  rotate_left
  · have ek : ¬ wk T L p = k := fun e => y ((wd_bits h5).mp ((wk_iff hk).mp e).2).1
    rw [if_neg (show ¬ nI (tkA T L p - tkS T L p) = 5 from neI (b := 5) y (by omega) (by decide)), if_neg ek]; rfl
  have ml : ∀ i, i < 5 → Mo_letter N (nI (tkS T L p + i)) σ = some (nI (T (tkS T L p + i))) := fun i hi => by rw [mLetter hT hX (by omega), ltr_in (by omega)]
  have m0 := ml 0 (by decide)
  rw [Nat.add_zero] at m0
  rw [if_pos (show nI (tkA T L p - tkS T L p) = 5 by rw [y]; rfl), nI_1, nI_2, nI_3, nI_4, m0, ml 1 (by decide), ml 2 (by decide), ml 3 (by decide), ml 4 (by decide)]
  simp only [bR_e]
  have tl : ∀ i, i < 5 → T (tkS T L p + i) ≤ 127 := fun i hi => hT.2 _ (by omega)
  have t0 : T (tkS T L p) ≤ 127 := tl 0 (by decide)
  by_cases c0 : T (tkS T L p + 0) = wch k 0
  rotate_left
  · have ek := nok 0 (by decide) c0
    rw [if_neg (neI (show ¬ T (tkS T L p) = wch k 0 from c0) (by omega) (by have := wb 0 (by decide); omega)), if_neg ek]; rfl
  rw [if_pos (show nI (T (tkS T L p)) = nI (wch k 0) by rw [show T (tkS T L p) = wch k 0 from c0])]
  have t1 : T (tkS T L p + 1) ≤ 127 := tl 1 (by decide)
  by_cases c1 : T (tkS T L p + 1) = wch k 1
  rotate_left
  · have ek := nok 1 (by decide) c1
    rw [if_neg (neI (show ¬ T (tkS T L p + 1) = wch k 1 from c1) (by omega) (by have := wb 1 (by decide); omega)), if_neg ek]; rfl
  rw [if_pos (show nI (T (tkS T L p + 1)) = nI (wch k 1) by rw [show T (tkS T L p + 1) = wch k 1 from c1])]
  have t2 : T (tkS T L p + 2) ≤ 127 := tl 2 (by decide)
  by_cases c2 : T (tkS T L p + 2) = wch k 2
  rotate_left
  · have ek := nok 2 (by decide) c2
    rw [if_neg (neI (show ¬ T (tkS T L p + 2) = wch k 2 from c2) (by omega) (by have := wb 2 (by decide); omega)), if_neg ek]; rfl
  rw [if_pos (show nI (T (tkS T L p + 2)) = nI (wch k 2) by rw [show T (tkS T L p + 2) = wch k 2 from c2])]
  rw [if_neg one_ne, if_neg (by decide)]
  have t3 : T (tkS T L p + 3) ≤ 127 := tl 3 (by decide)
  by_cases c3 : T (tkS T L p + 3) = wch k 3
  rotate_left
  · have ek := nok 3 (by decide) c3
    rw [if_neg (neI (show ¬ T (tkS T L p + 3) = wch k 3 from c3) (by omega) (by have := wb 3 (by decide); omega)), if_neg ek]
  rw [if_pos (show nI (T (tkS T L p + 3)) = nI (wch k 3) by rw [show T (tkS T L p + 3) = wch k 3 from c3])]
  have t4 : T (tkS T L p + 4) ≤ 127 := tl 4 (by decide)
  by_cases c4 : T (tkS T L p + 4) = wch k 4
  rotate_left
  · have ek := nok 4 (by decide) c4
    rw [if_neg (neI (show ¬ T (tkS T L p + 4) = wch k 4 from c4) (by omega) (by have := wb 4 (by decide); omega)), if_neg ek]
  rw [if_pos (show nI (T (tkS T L p + 4)) = nI (wch k 4) by rw [show T (tkS T L p + 4) = wch k 4 from c4])]
  have ek : wk T L p = k := (wk_iff hk).mpr ⟨z, (wd_bits h5).mpr ⟨y, fun i hi => by
    rcases (show i = 0 ∨ i = 1 ∨ i = 2 ∨ i = 3 ∨ i = 4 by omega) with e | e | e | e | e <;> subst e
    · exact c0
    · exact c1
    · exact c2
    · exact c3
    · exact c4⟩⟩
  rw [if_pos ek]
theorem mWord3 {N : Nat} {T : Nat → Nat} {L p : Nat} (hT : TX T L) {σ : St} (hX : MX T L σ) (hp : p ≤ L) (hH : MH T L p σ) : Mo_isWord N (nI (wch 5 0)) (nI (wch 5 1)) (nI (wch 5 2)) 0 0 σ = some (if wk T L p = 5 then 1 else 0) := by
  have hL := hT.1
  have tb := tkT_le T L p
  have h3 : wln 5 = 3 := rfl
  have wb : ∀ i, i < 3 → wch 5 i < 128 := fun i hi => ((wchE 5 (by decide)).2.2 i (by omega)).2
  have nok : ∀ i, i < 3 → ¬ T (tkS T L p + i) = wch 5 i → ¬ wk T L p = 5 := fun i hi hne e => hne (((wd_bits h3).mp ((wk_iff (by decide)).mp e).2).2 i hi)
  unfold Mo_isWord Mo_isWord_J10 Mo_isWord_J78 Mo_isWord_J79 Mo_isWord_J122
  rw [if_pos rfl]
  by_cases z : tkT T L p = 1
  rotate_left
  · have ek : ¬ wk T L p = 5 := fun e => z ((wk_iff (by decide)).mp e).1
    rw [hH.2.1, if_neg (show ¬ nI (tkT T L p) = 1 from neI (b := 1) z (by omega) (by decide)), if_neg ek]; rfl
  obtain ⟨a1, a2, a3⟩ := tk_adv hp (show tkT T L p ≠ 0 by omega)
  rw [hH.2.1, if_pos (show nI (tkT T L p) = 1 by rw [z]; rfl), hH.2.2.1 (show tkT T L p ≠ 4 by omega), hH.1, subI (show tkS T L p ≤ tkA T L p by omega)]
  by_cases y : tkA T L p - tkS T L p = 3
  rotate_left
  · have ek : ¬ wk T L p = 5 := fun e => y ((wd_bits h3).mp ((wk_iff (by decide)).mp e).2).1
    rw [if_neg (show ¬ nI (tkA T L p - tkS T L p) = 3 from neI (b := 3) y (by omega) (by decide)), if_neg ek]; rfl
  have ml : ∀ i, i < 3 → Mo_letter N (nI (tkS T L p + i)) σ = some (nI (T (tkS T L p + i))) := fun i hi => by rw [mLetter hT hX (by omega), ltr_in (by omega)]
  have m0 := ml 0 (by decide)
  rw [Nat.add_zero] at m0
  rw [if_pos (show nI (tkA T L p - tkS T L p) = 3 by rw [y]; rfl), nI_1, nI_2, m0, ml 1 (by decide), ml 2 (by decide)]
  simp only [bR_e]
  have tl : ∀ i, i < 3 → T (tkS T L p + i) ≤ 127 := fun i hi => hT.2 _ (by omega)
  have t0 : T (tkS T L p) ≤ 127 := tl 0 (by decide)
  by_cases c0 : T (tkS T L p + 0) = wch 5 0
  rotate_left
  · have ek := nok 0 (by decide) c0
    rw [if_neg (neI (show ¬ T (tkS T L p) = wch 5 0 from c0) (by omega) (by have := wb 0 (by decide); omega)), if_neg ek]; rfl
  rw [if_pos (show nI (T (tkS T L p)) = nI (wch 5 0) by rw [show T (tkS T L p) = wch 5 0 from c0])]
  have t1 : T (tkS T L p + 1) ≤ 127 := tl 1 (by decide)
  by_cases c1 : T (tkS T L p + 1) = wch 5 1
  rotate_left
  · have ek := nok 1 (by decide) c1
    rw [if_neg (neI (show ¬ T (tkS T L p + 1) = wch 5 1 from c1) (by omega) (by have := wb 1 (by decide); omega)), if_neg ek]; rfl
  rw [if_pos (show nI (T (tkS T L p + 1)) = nI (wch 5 1) by rw [show T (tkS T L p + 1) = wch 5 1 from c1])]
  have t2 : T (tkS T L p + 2) ≤ 127 := tl 2 (by decide)
  by_cases c2 : T (tkS T L p + 2) = wch 5 2
  rotate_left
  · have ek := nok 2 (by decide) c2
    rw [if_neg (neI (show ¬ T (tkS T L p + 2) = wch 5 2 from c2) (by omega) (by have := wb 2 (by decide); omega)), if_neg ek]; rfl
  rw [if_pos (show nI (T (tkS T L p + 2)) = nI (wch 5 2) by rw [show T (tkS T L p + 2) = wch 5 2 from c2])]
  rw [if_neg one_ne, if_pos trivial]
  have ek : wk T L p = 5 := (wk_iff (by decide)).mpr ⟨z, (wd_bits h3).mpr ⟨y, fun i hi => by
    rcases (show i = 0 ∨ i = 1 ∨ i = 2 by omega) with e | e | e <;> subst e
    · exact c0
    · exact c1
    · exact c2⟩⟩
  rw [if_pos ek]
theorem mDark {N : Nat} {T : Nat → Nat} {L p : Nat} (hT : TX T L) {σ : St} (hX : MX T L σ) (hp : p ≤ L) (hH : MH T L p σ) : Mo_isDark N σ = some (if wk T L p = 1 then 1 else 0) := by
  have hL := hT.1
  have tb := tkT_le T L p
  have h4 : wln 1 = 4 := rfl
  have wb : ∀ i, i < 4 → wch 1 i < 128 := fun i hi => ((wchE 1 (by decide)).2.2 i (by omega)).2
  have nok : ∀ i, i < 4 → ¬ T (tkS T L p + i) = wch 1 i → ¬ wk T L p = 1 := fun i hi hne e => hne (((wd_bits h4).mp ((wk_iff (by decide)).mp e).2).2 i hi)
  unfold Mo_isDark
  rw [show (100 : Int32) = nI (wch 1 0) from rfl, show (97 : Int32) = nI (wch 1 1) from rfl, show (114 : Int32) = nI (wch 1 2) from rfl, show (107 : Int32) = nI (wch 1 3) from rfl]
  by_cases z : tkT T L p = 1
  rotate_left
  · have ek : ¬ wk T L p = 1 := fun e => z ((wk_iff (by decide)).mp e).1
    rw [hH.2.1, if_neg (show ¬ nI (tkT T L p) = 1 from neI (b := 1) z (by omega) (by decide)), if_neg ek]
  obtain ⟨a1, a2, a3⟩ := tk_adv hp (show tkT T L p ≠ 0 by omega)
  rw [hH.2.1, if_pos (show nI (tkT T L p) = 1 by rw [z]; rfl), hH.2.2.1 (show tkT T L p ≠ 4 by omega), hH.1, subI (show tkS T L p ≤ tkA T L p by omega)]
  by_cases y : tkA T L p - tkS T L p = 4
  rotate_left
  · have ek : ¬ wk T L p = 1 := fun e => y ((wd_bits h4).mp ((wk_iff (by decide)).mp e).2).1
    rw [if_neg (show ¬ nI (tkA T L p - tkS T L p) = 4 from neI (b := 4) y (by omega) (by decide)), if_neg ek]
  have ml : ∀ i, i < 4 → Mo_letter N (nI (tkS T L p + i)) σ = some (nI (T (tkS T L p + i))) := fun i hi => by rw [mLetter hT hX (by omega), ltr_in (by omega)]
  have m0 := ml 0 (by decide)
  rw [Nat.add_zero] at m0
  rw [if_pos (show nI (tkA T L p - tkS T L p) = 4 by rw [y]; rfl), nI_1, nI_2, nI_3, m0, ml 1 (by decide), ml 2 (by decide), ml 3 (by decide)]
  simp only [bR_e]
  have tl : ∀ i, i < 4 → T (tkS T L p + i) ≤ 127 := fun i hi => hT.2 _ (by omega)
  have t0 : T (tkS T L p) ≤ 127 := tl 0 (by decide)
  by_cases c0 : T (tkS T L p + 0) = wch 1 0
  rotate_left
  · have ek := nok 0 (by decide) c0
    rw [if_neg (neI (show ¬ T (tkS T L p) = wch 1 0 from c0) (by omega) (by have := wb 0 (by decide); omega)), if_neg ek]
  rw [if_pos (show nI (T (tkS T L p)) = nI (wch 1 0) by rw [show T (tkS T L p) = wch 1 0 from c0])]
  have t1 : T (tkS T L p + 1) ≤ 127 := tl 1 (by decide)
  by_cases c1 : T (tkS T L p + 1) = wch 1 1
  rotate_left
  · have ek := nok 1 (by decide) c1
    rw [if_neg (neI (show ¬ T (tkS T L p + 1) = wch 1 1 from c1) (by omega) (by have := wb 1 (by decide); omega)), if_neg ek]
  rw [if_pos (show nI (T (tkS T L p + 1)) = nI (wch 1 1) by rw [show T (tkS T L p + 1) = wch 1 1 from c1])]
  have t2 : T (tkS T L p + 2) ≤ 127 := tl 2 (by decide)
  by_cases c2 : T (tkS T L p + 2) = wch 1 2
  rotate_left
  · have ek := nok 2 (by decide) c2
    rw [if_neg (neI (show ¬ T (tkS T L p + 2) = wch 1 2 from c2) (by omega) (by have := wb 2 (by decide); omega)), if_neg ek]
  rw [if_pos (show nI (T (tkS T L p + 2)) = nI (wch 1 2) by rw [show T (tkS T L p + 2) = wch 1 2 from c2])]
  have t3 : T (tkS T L p + 3) ≤ 127 := tl 3 (by decide)
  by_cases c3 : T (tkS T L p + 3) = wch 1 3
  rotate_left
  · have ek := nok 3 (by decide) c3
    rw [if_neg (neI (show ¬ T (tkS T L p + 3) = wch 1 3 from c3) (by omega) (by have := wb 3 (by decide); omega)), if_neg ek]
  rw [if_pos (show nI (T (tkS T L p + 3)) = nI (wch 1 3) by rw [show T (tkS T L p + 3) = wch 1 3 from c3])]
  have ek : wk T L p = 1 := (wk_iff (by decide)).mpr ⟨z, (wd_bits h4).mpr ⟨y, fun i hi => by
    rcases (show i = 0 ∨ i = 1 ∨ i = 2 ∨ i = 3 by omega) with e | e | e | e <;> subst e
    · exact c0
    · exact c1
    · exact c2
    · exact c3⟩⟩
  rw [if_pos ek]
theorem mWater {N : Nat} {T : Nat → Nat} {L p : Nat} (hT : TX T L) {σ : St} (hX : MX T L σ) (hp : p ≤ L) (hH : MH T L p σ) : Mo_isWord N 119 97 116 101 114 σ = some (if wk T L p = 0 then 1 else 0) := mWord5 hT hX hp hH (k := 0) (by decide) rfl
theorem mCanalW {N : Nat} {T : Nat → Nat} {L p : Nat} (hT : TX T L) {σ : St} (hX : MX T L σ) (hp : p ≤ L) (hH : MH T L p σ) : Mo_isWord N 99 97 110 97 108 σ = some (if wk T L p = 2 then 1 else 0) := mWord5 hT hX hp hH (k := 2) (by decide) rfl
theorem mRowerW {N : Nat} {T : Nat → Nat} {L p : Nat} (hT : TX T L) {σ : St} (hX : MX T L σ) (hp : p ≤ L) (hH : MH T L p σ) : Mo_isWord N 114 111 119 101 114 σ = some (if wk T L p = 3 then 1 else 0) := mWord5 hT hX hp hH (k := 3) (by decide) rfl
theorem mGuestW {N : Nat} {T : Nat → Nat} {L p : Nat} (hT : TX T L) {σ : St} (hX : MX T L σ) (hp : p ≤ L) (hH : MH T L p σ) : Mo_isWord N 103 117 101 115 116 σ = some (if wk T L p = 4 then 1 else 0) := mWord5 hT hX hp hH (k := 4) (by decide) rfl
theorem mRowW {N : Nat} {T : Nat → Nat} {L p : Nat} (hT : TX T L) {σ : St} (hX : MX T L σ) (hp : p ≤ L) (hH : MH T L p σ) : Mo_isWord N 114 111 119 0 0 σ = some (if wk T L p = 5 then 1 else 0) := mWord3 hT hX hp hH
def G21 (σ s : St) : Prop := (∀ i, i ≠ 114 → i ≠ 121 → s.1 i = σ.1 i) ∧ (∀ k, (k < 9 ∨ 12 < k) → s.1 114 k = σ.1 114 k) ∧ s.2 = σ.2
theorem G21.trans {σ s t : St} (h : G21 σ s) (h2 : G21 s t) : G21 σ t := ⟨fun i h1 h3 => (h2.1 i h1 h3).trans (h.1 i h1 h3), fun k hk => (h2.2.1 k hk).trans (h.2.1 k hk), h2.2.2.trans h.2.2⟩
theorem F14.g {σ s : St} (h : F14 σ s) : G21 σ s := ⟨fun i h1 _ => h.1 i h1, h.2.1, h.2.2⟩
theorem MX.g {T : Nat → Nat} {L : Nat} {σ s : St} (h : MX T L σ) (f : G21 σ s) : MX T L s := ⟨(f.2.1 5 (by decide)).trans h.1, fun j hj => by rw [f.1 119 (by decide) (by decide)]; exact h.2 j hj⟩
theorem mNum {N : Nat} (hN : 300 < N) {T : Nat → Nat} {L p k : Nat} (hT : TX T L) {σ : St} (hX : MX T L σ) (hp : p ≤ L) (h9 : σ.1 114 9 = nI p) {v1 : Int32} (v2 v3 : Int32) (h1 : v1 = nI k) (hk : k < 3) : ∃ s, Mo_number N v1 v2 v3 σ = some (if tkT T L p = 2 ∧ (v2.toInt ≤ (tkV T L p : Int) ∧ (tkV T L p : Int) ≤ v3.toInt) then 1 else 0, s) ∧ MH T L p s ∧ (tkT T L p = 2 → s.1 121 k = nI (tkV T L p)) ∧ (∀ j, j ≠ k → s.1 121 j = σ.1 121 j) ∧ G21 σ s := by
  subst h1
  have tb := tkT_le T L p
  have hv : tkV T L p ≤ 1000 := vN_le _ _ _
  obtain ⟨s, g1, c1, f1⟩ := mStep (N := N) hN hT hX hp h9
  have c2 : MH T L p (sI s 121 k (s.1 114 12)) := by unfold MH; rw [rdI_ne _ _ _ _ (by decide)]; exact c1
  refine ⟨sI s 121 k (s.1 114 12), ?_, c2, fun z => by rw [rdI_eq]; exact c1.2.2.2 z, fun j hj => by rw [rdI_nk _ _ _ _ hj, f1.1 121 (by decide)], ⟨fun i h2 h3 => by rw [rdI_ne _ _ _ _ h3]; exact f1.1 i h2, fun j hj => by rw [rdI_ne _ _ _ _ (by decide)]; exact f1.2.1 j hj, f1.2.2⟩⟩
  unfold Mo_number
  rw [g1, bR_e, inI (n := 3) hk (by decide), ck_t, clI (by omega), bS_e, c2.2.1]
  by_cases z : tkT T L p = 2
  · rw [if_pos (show nI (tkT T L p) = 2 by rw [z]; rfl), c2.2.2.2 z, mo_wvI, Int32.toInt_toInt64, Int32.toInt_toInt64, wv_nI (by omega)]
    by_cases y : v2.toInt ≤ (tkV T L p : Int) ∧ (tkV T L p : Int) ≤ v3.toInt
    · rw [if_pos y, if_neg one_ne, if_pos ⟨z, y⟩]
    · rw [if_neg y, if_pos rfl, if_neg (fun x => y x.2)]
  · rw [if_neg (show ¬ nI (tkT T L p) = 2 from neI (b := 2) z (by omega) (by decide)), if_neg (fun x => z x.1)]
theorem mEnds {N : Nat} (hN : 300 < N) {T : Nat → Nat} {L p : Nat} (hT : TX T L) {σ : St} (hX : MX T L σ) (hp : p ≤ L) (h9 : σ.1 114 9 = nI p) : ∃ s, Mo_ends N σ = some (if tkT T L p = 3 then 1 else 0, s) ∧ MH T L p s ∧ F14 σ s := by
  have tb := tkT_le T L p
  obtain ⟨s, g1, c1, f1⟩ := mStep (N := N) hN hT hX hp h9
  refine ⟨s, ?_, c1, f1⟩
  unfold Mo_ends
  rw [g1, bR_e, c1.2.1]
  by_cases z : tkT T L p = 3
  · rw [if_pos (show nI (tkT T L p) = 3 by rw [z]; rfl), if_pos z]
  · rw [if_neg (show ¬ nI (tkT T L p) = 3 from neI (b := 3) z (by omega) (by decide)), if_neg z]
def G1 (σ s : St) : Prop := (∀ i, i ≠ 115 → s.1 i = σ.1 i) ∧ s.2 = σ.2
theorem G1.rfl' {σ : St} : G1 σ σ := ⟨fun _ _ => rfl, rfl⟩
theorem G1.trans {σ s t : St} (h : G1 σ s) (h2 : G1 s t) : G1 σ t := ⟨fun i h1 => (h2.1 i h1).trans (h.1 i h1), h2.2.trans h.2⟩
theorem G1.wr {σ : St} {k : Nat} {v : Int32} : G1 σ (sI σ 115 k v) := ⟨fun i hi => rdI_ne _ _ _ _ hi, rfl⟩
def G15 (σ s : St) : Prop := (∀ i, i ≠ 114 → i ≠ 115 → i ≠ 121 → s.1 i = σ.1 i) ∧ (∀ k, (k < 9 ∨ 12 < k) → s.1 114 k = σ.1 114 k) ∧ s.2 = σ.2
theorem G21.m {σ s : St} (h : G21 σ s) : G15 σ s := ⟨fun i h1 _ h3 => h.1 i h1 h3, h.2.1, h.2.2⟩
theorem G15.a {σ s t : St} (h : G15 σ s) (h2 : G1 s t) : G15 σ t := ⟨fun i h1 h3 h4 => (h2.1 i h3).trans (h.1 i h1 h3 h4), fun k hk => by rw [h2.1 114 (by decide)]; exact h.2.1 k hk, h2.2.trans h.2.2⟩
theorem mAddRower1 {N : Nat} {q : QS} {σ : St} (h : RepM 115 0 q σ) (hR : q 36 < 3) (kd tg : Nat) : ∃ σ', Mo_addRower N (nI kd) (nI tg) σ = some σ' ∧ RepM 115 0 (updQ (qRower q kd tg) 157 0) σ' ∧ G1 σ σ' := by
  have e := h.get (k := 36) (by decide)
  refine ⟨sI (sI (sI (sI σ 115 (38 + q 36) (nI kd)) 115 (41 + q 36) (nI tg)) 115 36 (nI (q 36 + 1))) 115 157 0, ?_, (((h.put kd).put tg).put _).put 0, ((G1.wr.trans G1.wr).trans G1.wr).trans G1.wr⟩
  unfold Mo_addRower
  simp (disch := omega) only [litI, clI, subI, mulI, addI, eqI, leI, ltI, inI, ck_t, bS_e, bI_e, bL_e, bR_e, bW_e, e, rdI_nk]
theorem mAddGuest1 {N : Nat} {q : QS} {σ : St} (h : RepM 115 0 q σ) (hG : q 37 < 4) (kd hp : Nat) : ∃ σ', Mo_addGuest N (nI kd) (nI hp) σ = some σ' ∧ RepM 115 0 (updQ (qGuest q kd hp) 157 0) σ' ∧ G1 σ σ' := by
  have e := h.get (k := 37) (by decide)
  refine ⟨sI (sI (sI (sI σ 115 (44 + q 37) (nI kd)) 115 (48 + q 37) (nI hp)) 115 37 (nI (q 37 + 1))) 115 157 0, ?_, (((h.put kd).put hp).put _).put 0, ((G1.wr.trans G1.wr).trans G1.wr).trans G1.wr⟩
  unfold Mo_addGuest
  simp (disch := omega) only [litI, clI, subI, mulI, addI, eqI, leI, ltI, inI, ck_t, bS_e, bI_e, bL_e, bR_e, bW_e, e, rdI_nk]
theorem mBegin1 {N : Nat} (hN : 300 < N) {σ : St} (d : Nat) : ∃ σ', Mo_begins N (nI d) σ = some σ' ∧ RepM 115 0 (qBegin d) σ' ∧ G1 σ σ' := by
  unfold Mo_begins
  refine loop_up (fun f i σ => Mo_begins_L2 N f (nI d) (nI i) σ) 286 (fun i s => G1 σ s ∧ ∀ p, p < i → s.1 115 p = 0) (fun o => ∃ σ', o = some σ' ∧ RepM 115 0 (qBegin d) σ' ∧ G1 σ σ') ?_ ?_ (by omega) ⟨G1.rfl', by intros; omega⟩
  · intro f i s hi ⟨h1, h3⟩
    refine ⟨sI s 115 i 0, ?_, h1.trans (G1.wr), fun p hp => ?_⟩
    · have hn : ¬ 286 ≤ i := by omega
      simp only [Mo_begins_L2, Mo_begins_L2B]
      simp (disch := omega) only [litI, clI, subI, mulI, addI, eqI, leI, ltI, inI, ck_t, bS_e, bI_e, bL_e, bR_e, bW_e, hn, if_false]
    · rw [rdI]
      by_cases z : p = i
      · rw [if_pos ⟨rfl, z⟩]
      · rw [if_neg (fun y => z y.2)]; exact h3 p (by omega)
  · intro f s ⟨h1, h3⟩
    simp only [Mo_begins_L2, Mo_begins_L2B]
    simp (disch := omega) only [litI, clI, subI, mulI, addI, eqI, leI, ltI, inI, ck_t, bS_e, bI_e, bL_e, bR_e, bW_e, show 286 ≤ 286 by decide, if_true]
    unfold Mo_begins_J22
    refine loop_up (fun f i σ => Mo_begins_L24 N f (nI d) (nI i) σ) 8 (fun i s' => G1 s s' ∧ (∀ p, p < i → s'.1 115 p = nI d) ∧ ∀ p, i ≤ p → p < 286 → s'.1 115 p = 0) (fun o => ∃ σ', o = some σ' ∧ RepM 115 0 (qBegin d) σ' ∧ G1 σ σ') ?_ ?_ (by omega) ⟨G1.rfl', by intros; omega, fun p _ hp => h3 p hp⟩
    · intro f i s' hi ⟨g1, g2, g3⟩
      refine ⟨sI s' 115 i (nI d), ?_, g1.trans (G1.wr), fun p hp => ?_, fun p hp hp2 => ?_⟩
      · have hn : ¬ 8 ≤ i := by omega
        simp only [Mo_begins_L24, Mo_begins_L24B]
        simp (disch := omega) only [litI, clI, subI, mulI, addI, eqI, leI, ltI, inI, ck_t, bS_e, bI_e, bL_e, bR_e, bW_e, hn, if_false, Nat.zero_add]
      · rw [rdI]
        by_cases z : p = i
        · rw [if_pos ⟨rfl, z⟩]
        · rw [if_neg (fun y => z y.2)]; exact g2 p (by omega)
      · rw [rdI, if_neg (by omega)]; exact g3 p (by omega) hp2
    · intro f s' ⟨g1, g2, g3⟩
      simp only [Mo_begins_L24, Mo_begins_L24B]
      simp (disch := omega) only [litI, clI, subI, mulI, addI, eqI, leI, ltI, inI, ck_t, bS_e, bI_e, bL_e, bR_e, bW_e, show 8 ≤ 8 by decide, if_true]
      refine ⟨s', rfl, fun k hk => ?_, h1.trans g1⟩
      rw [Nat.zero_add]
      show _ = nI (if k < 8 then d else 0)
      by_cases z : k < 8
      · rw [if_pos z]; exact g2 k z
      · rw [if_neg z]; exact g3 k (by omega) hk
theorem mItem1 {N : Nat} (hN : 300 < N) {T : Nat → Nat} {L p : Nat} (hT : TX T L) {q : QS} {σ : St} (hq : Okq q) (hz : q 157 = 0) (hM : RepM 115 0 q σ) (hX : MX T L σ) (hp : p ≤ L) (hH : MH T L p σ) (hwk : wk T L p = 1) (ht : tooB q 1 = false) : ((rdN T L (fitB q 1) 2 0 (fun _ => 0) (tkA T L p)).1 = true → ∃ s, Mo_readsItem N σ = some (1, s) ∧ RepM 115 0 (app q 1 (rdN T L (fitB q 1) 2 0 (fun _ => 0) (tkA T L p)).2.2) s ∧ s.1 114 9 = nI (rdN T L (fitB q 1) 2 0 (fun _ => 0) (tkA T L p)).2.1 ∧ G15 σ s) ∧ ((rdN T L (fitB q 1) 2 0 (fun _ => 0) (tkA T L p)).1 = false → ∃ s, Mo_readsItem N σ = some (0, s) ∧ s.1 114 10 = nI (rdN T L (fitB q 1) 2 0 (fun _ => 0) (tkA T L p)).2.1 ∧ G15 σ s) := by
  have h36 := hq.b.2.1.1
  have h37 := hq.b.2.2.1.1
  have ht' := of_decide_eq_false ht
  have t1 : tkT T L p = 1 := ((wk_iff (by decide)).mp hwk).1
  have i0 : (0 : Int32).toInt = 0 := by decide
  have i1 : (1 : Int32).toInt = 1 := by decide
  have i5 : (5 : Int32).toInt = 5 := by decide
  have i7 : (7 : Int32).toInt = 7 := by decide
  have i9 : (9 : Int32).toInt = 9 := by decide
  have i40 : (40 : Int32).toInt = 40 := by decide
  have g37 := gm1 (show q 37 < 100 by omega)
  have g36 := gm1 (show q 36 < 100 by omega)
  have e36 : σ.1 115 (36 : Int32).toNatClampNeg = nI (q 36) := hM.get (by decide)
  have e37 : σ.1 115 (37 : Int32).toNatClampNeg = nI (q 37) := hM.get (by decide)
  have p0 : tkA T L p ≤ L := tkA_le hp
  have h9 : σ.1 114 9 = nI (tkA T L p) := hH.2.2.1 (by omega)
  obtain ⟨P0, hP0⟩ : ∃ P, P = tkA T L p := ⟨_, rfl⟩
  rw [← hP0] at p0 h9 ⊢
  have hD : Mo_isDark N σ = some (if wk T L p = 1 then 1 else 0) := mDark hT hX hp hH
  have hC : Mo_isWord N 99 97 110 97 108 σ = some (if wk T L p = 2 then 1 else 0) := mCanalW hT hX hp hH
  have hR : Mo_isWord N 114 111 119 101 114 σ = some (if wk T L p = 3 then 1 else 0) := mRowerW hT hX hp hH
  have hG : Mo_isWord N 103 117 101 115 116 σ = some (if wk T L p = 4 then 1 else 0) := mGuestW hT hX hp hH
  have hW : Mo_isWord N 114 111 119 0 0 σ = some (if wk T L p = 5 then 1 else 0) := mRowW hT hX hp hH
  rw [if_pos hwk] at hD
  rw [if_neg (show ¬ wk T L p = 2 by rw [hwk]; decide)] at hC
  rw [if_neg (show ¬ wk T L p = 3 by rw [hwk]; decide)] at hR
  rw [if_neg (show ¬ wk T L p = 4 by rw [hwk]; decide)] at hG
  rw [if_neg (show ¬ wk T L p = 5 by rw [hwk]; decide)] at hW
  unfold Mo_readsItem Mo_readsItem_J237 Mo_readsItem_J313
  rw [hD, bR_e, if_neg one_ne]
  obtain ⟨s0, x0, H0, V0, U0, f0'⟩ := mNum (N := N) hN (k := 0) hT hX p0 h9 0 7 (v1 := 0) rfl (by decide)
  have f0 : G21 σ s0 := f0'
  rw [x0, bW_e]
  by_cases c0 : tkT T L P0 = 2 ∧ fitB q 1 0 ((fun _ => 0) 0) (tkV T L P0) = true
  rotate_left
  · have d0 : ¬ (tkT T L P0 = 2 ∧ ((0 : Int32).toInt ≤ (tkV T L P0 : Int) ∧ (tkV T L P0 : Int) ≤ (7 : Int32).toInt)) := fun y => c0 ⟨y.1, decide_eq_true (show tkV T L P0 < 8 by have := y.2; omega)⟩
    rw [rdN_n c0, if_neg d0, if_pos rfl]
    exact ⟨fun y => absurd (show false = true from y) (by decide), fun _ => ⟨s0, rfl, H0.1, f0.m⟩⟩
  have b0 : tkV T L P0 < 8 := of_decide_eq_true c0.2
  rw [rdN_y c0, if_pos (show tkT T L P0 = 2 ∧ ((0 : Int32).toInt ≤ (tkV T L P0 : Int) ∧ (tkV T L P0 : Int) ≤ (7 : Int32).toInt) from ⟨c0.1, by omega, by omega⟩), if_neg one_ne]
  obtain ⟨q01, q02, p1⟩ := tk_adv p0 (show tkT T L P0 ≠ 0 by rw [c0.1]; decide)
  have h9_1 : s0.1 114 9 = nI (tkA T L P0) := H0.2.2.1 (by rw [c0.1]; decide)
  have z0 := V0 c0.1
  obtain ⟨P1, hP1⟩ : ∃ P, P = tkA T L P0 := ⟨_, rfl⟩
  rw [← hP1] at p1 h9_1 ⊢
  obtain ⟨s1, x1, H1, V1, U1, f1'⟩ := mNum (N := N) hN (k := 1) hT (hX.g f0) p1 h9_1 0 9 (v1 := 1) rfl (by decide)
  have f1 : G21 σ s1 := f0.trans f1'
  rw [x1, bW_e]
  by_cases c1 : tkT T L P1 = 2 ∧ fitB q 1 1 ((updQ (fun _ => 0) 0 (tkV T L P0)) 0) (tkV T L P1) = true
  rotate_left
  · have d1 : ¬ (tkT T L P1 = 2 ∧ ((0 : Int32).toInt ≤ (tkV T L P1 : Int) ∧ (tkV T L P1 : Int) ≤ (9 : Int32).toInt)) := fun y => c1 ⟨y.1, decide_eq_true (show tkV T L P1 ≤ 9 by have := y.2; omega)⟩
    rw [rdN_n c1, if_neg d1, if_pos rfl]
    exact ⟨fun y => absurd (show false = true from y) (by decide), fun _ => ⟨s1, rfl, H1.1, f1.m⟩⟩
  have b1 : tkV T L P1 ≤ 9 := of_decide_eq_true c1.2
  rw [rdN_y c1, if_pos (show tkT T L P1 = 2 ∧ ((0 : Int32).toInt ≤ (tkV T L P1 : Int) ∧ (tkV T L P1 : Int) ≤ (9 : Int32).toInt) from ⟨c1.1, by omega, by omega⟩), if_neg one_ne]
  obtain ⟨q11, q12, p2⟩ := tk_adv p1 (show tkT T L P1 ≠ 0 by rw [c1.1]; decide)
  have h9_2 : s1.1 114 9 = nI (tkA T L P1) := H1.2.2.1 (by rw [c1.1]; decide)
  have z1 := V1 c1.1
  obtain ⟨P2, hP2⟩ : ∃ P, P = tkA T L P1 := ⟨_, rfl⟩
  rw [← hP2] at p2 h9_2 ⊢
  obtain ⟨t, xe, He, fe⟩ := mEnds (N := N) hN hT (hX.g f1) p2 h9_2
  have ft : G21 σ t := f1.trans fe.g
  rw [xe, bW_e]
  by_cases ce : tkT T L P2 = 3
  rotate_left
  · rw [rdN_0n ce, if_neg ce, if_pos rfl]
    exact ⟨fun y => absurd (show false = true from y) (by decide), fun _ => ⟨t, rfl, He.1, ft.m⟩⟩
  rw [rdN_0y ce, if_pos ce, if_neg one_ne]
  have M9 : RepM 115 0 q t := hM.frame (ft.1 115 (by decide) (by decide))
  have h9e : t.1 114 9 = nI (tkA T L P2) := He.2.2.1 (by rw [ce]; decide)
  have y0 : t.1 121 (0 : Int32).toNatClampNeg = nI (tkV T L P0) := by show t.1 121 0 = _; rw [fe.1 121 (by decide), U1 0 (by decide)]; exact z0
  have y1 : t.1 121 (1 : Int32).toNatClampNeg = nI (tkV T L P1) := by show t.1 121 1 = _; rw [fe.1 121 (by decide)]; exact z1
  refine ⟨fun _ => ?_, fun y => absurd (show true = false from y) (by decide)⟩
  rw [y0, y1, zadd, inI (n := 286) (by omega) (by decide), ck_t, clI (by omega), bS_e]
  refine ⟨_, rfl, ?_, by rw [rdI_ne _ _ _ _ (by decide)]; exact h9e, ft.m.a G1.wr⟩
  exact M9.put _
theorem mItem2 {N : Nat} (hN : 300 < N) {T : Nat → Nat} {L p : Nat} (hT : TX T L) {q : QS} {σ : St} (hq : Okq q) (hz : q 157 = 0) (hM : RepM 115 0 q σ) (hX : MX T L σ) (hp : p ≤ L) (hH : MH T L p σ) (hwk : wk T L p = 2) (ht : tooB q 2 = false) : ((rdN T L (fitB q 2) 3 0 (fun _ => 0) (tkA T L p)).1 = true → ∃ s, Mo_readsItem N σ = some (1, s) ∧ RepM 115 0 (app q 2 (rdN T L (fitB q 2) 3 0 (fun _ => 0) (tkA T L p)).2.2) s ∧ s.1 114 9 = nI (rdN T L (fitB q 2) 3 0 (fun _ => 0) (tkA T L p)).2.1 ∧ G15 σ s) ∧ ((rdN T L (fitB q 2) 3 0 (fun _ => 0) (tkA T L p)).1 = false → ∃ s, Mo_readsItem N σ = some (0, s) ∧ s.1 114 10 = nI (rdN T L (fitB q 2) 3 0 (fun _ => 0) (tkA T L p)).2.1 ∧ G15 σ s) := by
  have h36 := hq.b.2.1.1
  have h37 := hq.b.2.2.1.1
  have ht' := of_decide_eq_false ht
  have t1 : tkT T L p = 1 := ((wk_iff (by decide)).mp hwk).1
  have i0 : (0 : Int32).toInt = 0 := by decide
  have i1 : (1 : Int32).toInt = 1 := by decide
  have i5 : (5 : Int32).toInt = 5 := by decide
  have i7 : (7 : Int32).toInt = 7 := by decide
  have i9 : (9 : Int32).toInt = 9 := by decide
  have i40 : (40 : Int32).toInt = 40 := by decide
  have g37 := gm1 (show q 37 < 100 by omega)
  have g36 := gm1 (show q 36 < 100 by omega)
  have e36 : σ.1 115 (36 : Int32).toNatClampNeg = nI (q 36) := hM.get (by decide)
  have e37 : σ.1 115 (37 : Int32).toNatClampNeg = nI (q 37) := hM.get (by decide)
  have p0 : tkA T L p ≤ L := tkA_le hp
  have h9 : σ.1 114 9 = nI (tkA T L p) := hH.2.2.1 (by omega)
  obtain ⟨P0, hP0⟩ : ∃ P, P = tkA T L p := ⟨_, rfl⟩
  rw [← hP0] at p0 h9 ⊢
  have hD : Mo_isDark N σ = some (if wk T L p = 1 then 1 else 0) := mDark hT hX hp hH
  have hC : Mo_isWord N 99 97 110 97 108 σ = some (if wk T L p = 2 then 1 else 0) := mCanalW hT hX hp hH
  have hR : Mo_isWord N 114 111 119 101 114 σ = some (if wk T L p = 3 then 1 else 0) := mRowerW hT hX hp hH
  have hG : Mo_isWord N 103 117 101 115 116 σ = some (if wk T L p = 4 then 1 else 0) := mGuestW hT hX hp hH
  have hW : Mo_isWord N 114 111 119 0 0 σ = some (if wk T L p = 5 then 1 else 0) := mRowW hT hX hp hH
  rw [if_neg (show ¬ wk T L p = 1 by rw [hwk]; decide)] at hD
  rw [if_pos hwk] at hC
  rw [if_neg (show ¬ wk T L p = 3 by rw [hwk]; decide)] at hR
  rw [if_neg (show ¬ wk T L p = 4 by rw [hwk]; decide)] at hG
  rw [if_neg (show ¬ wk T L p = 5 by rw [hwk]; decide)] at hW
  unfold Mo_readsItem Mo_readsItem_J237 Mo_readsItem_J313
  rw [hD, bR_e, if_pos rfl, hC, bR_e, if_neg one_ne]
  obtain ⟨s0, x0, H0, V0, U0, f0'⟩ := mNum (N := N) hN (k := 0) hT hX p0 h9 0 7 (v1 := 0) rfl (by decide)
  have f0 : G21 σ s0 := f0'
  rw [x0, bW_e]
  by_cases c0 : tkT T L P0 = 2 ∧ fitB q 2 0 ((fun _ => 0) 0) (tkV T L P0) = true
  rotate_left
  · have d0 : ¬ (tkT T L P0 = 2 ∧ ((0 : Int32).toInt ≤ (tkV T L P0 : Int) ∧ (tkV T L P0 : Int) ≤ (7 : Int32).toInt)) := fun y => c0 ⟨y.1, decide_eq_true (show tkV T L P0 < 8 by have := y.2; omega)⟩
    rw [rdN_n c0, if_neg d0, if_pos rfl]
    exact ⟨fun y => absurd (show false = true from y) (by decide), fun _ => ⟨s0, rfl, H0.1, f0.m⟩⟩
  have b0 : tkV T L P0 < 8 := of_decide_eq_true c0.2
  rw [rdN_y c0, if_pos (show tkT T L P0 = 2 ∧ ((0 : Int32).toInt ≤ (tkV T L P0 : Int) ∧ (tkV T L P0 : Int) ≤ (7 : Int32).toInt) from ⟨c0.1, by omega, by omega⟩), if_neg one_ne]
  obtain ⟨q01, q02, p1⟩ := tk_adv p0 (show tkT T L P0 ≠ 0 by rw [c0.1]; decide)
  have h9_1 : s0.1 114 9 = nI (tkA T L P0) := H0.2.2.1 (by rw [c0.1]; decide)
  have z0 := V0 c0.1
  obtain ⟨P1, hP1⟩ : ∃ P, P = tkA T L P0 := ⟨_, rfl⟩
  rw [← hP1] at p1 h9_1 ⊢
  obtain ⟨s1, x1, H1, V1, U1, f1'⟩ := mNum (N := N) hN (k := 1) hT (hX.g f0) p1 h9_1 0 7 (v1 := 1) rfl (by decide)
  have f1 : G21 σ s1 := f0.trans f1'
  rw [x1, bW_e]
  by_cases c1 : tkT T L P1 = 2 ∧ fitB q 2 1 ((updQ (fun _ => 0) 0 (tkV T L P0)) 0) (tkV T L P1) = true
  rotate_left
  · by_cases d1 : tkT T L P1 = 2 ∧ ((0 : Int32).toInt ≤ (tkV T L P1 : Int) ∧ (tkV T L P1 : Int) ≤ (7 : Int32).toInt)
    · have z1 := V1 d1.1
      have w0 : s1.1 121 (0 : Int32).toNatClampNeg = nI (tkV T L P0) := by show s1.1 121 0 = _; rw [U1 0 (by decide)]; exact z0
      have w1 : s1.1 121 (1 : Int32).toNatClampNeg = nI (tkV T L P1) := z1
      have same : tkV T L P0 = tkV T L P1 := Classical.byContradiction (fun ne => c1 ⟨d1.1, decide_eq_true (show tkV T L P1 < 8 ∧ tkV T L P1 ≠ tkV T L P0 from ⟨by have := d1.2; omega, fun e => ne e.symm⟩)⟩)
      rw [rdN_n c1, if_pos d1, if_neg one_ne, w0, w1, if_pos (by rw [same])]
      exact ⟨fun y => absurd (show false = true from y) (by decide), fun _ => ⟨s1, rfl, H1.1, f1.m⟩⟩
    · rw [rdN_n c1, if_neg d1, if_pos rfl]
      exact ⟨fun y => absurd (show false = true from y) (by decide), fun _ => ⟨s1, rfl, H1.1, f1.m⟩⟩
  have b1 : tkV T L P1 < 8 ∧ tkV T L P1 ≠ tkV T L P0 := of_decide_eq_true c1.2
  have w0 : s1.1 121 (0 : Int32).toNatClampNeg = nI (tkV T L P0) := by show s1.1 121 0 = _; rw [U1 0 (by decide)]; exact z0
  have w1 : s1.1 121 (1 : Int32).toNatClampNeg = nI (tkV T L P1) := V1 c1.1
  rw [rdN_y c1, if_pos (show tkT T L P1 = 2 ∧ ((0 : Int32).toInt ≤ (tkV T L P1 : Int) ∧ (tkV T L P1 : Int) ≤ (7 : Int32).toInt) from ⟨c1.1, by omega, by omega⟩), if_neg one_ne, w0, w1, if_neg (neI (Ne.symm b1.2) (by omega) (by omega))]
  obtain ⟨q11, q12, p2⟩ := tk_adv p1 (show tkT T L P1 ≠ 0 by rw [c1.1]; decide)
  have h9_2 : s1.1 114 9 = nI (tkA T L P1) := H1.2.2.1 (by rw [c1.1]; decide)
  have z1 := V1 c1.1
  obtain ⟨P2, hP2⟩ : ∃ P, P = tkA T L P1 := ⟨_, rfl⟩
  rw [← hP2] at p2 h9_2 ⊢
  obtain ⟨s2, x2, H2, V2, U2, f2'⟩ := mNum (N := N) hN (k := 2) hT (hX.g f1) p2 h9_2 0 9 (v1 := 2) rfl (by decide)
  have f2 : G21 σ s2 := f1.trans f2'
  rw [x2, bW_e]
  by_cases c2 : tkT T L P2 = 2 ∧ fitB q 2 2 ((updQ (updQ (fun _ => 0) 0 (tkV T L P0)) 1 (tkV T L P1)) 0) (tkV T L P2) = true
  rotate_left
  · have d2 : ¬ (tkT T L P2 = 2 ∧ ((0 : Int32).toInt ≤ (tkV T L P2 : Int) ∧ (tkV T L P2 : Int) ≤ (9 : Int32).toInt)) := fun y => c2 ⟨y.1, decide_eq_true (show tkV T L P2 ≤ 9 by have := y.2; omega)⟩
    rw [rdN_n c2, if_neg d2, if_pos rfl]
    exact ⟨fun y => absurd (show false = true from y) (by decide), fun _ => ⟨s2, rfl, H2.1, f2.m⟩⟩
  have b2 : tkV T L P2 ≤ 9 := of_decide_eq_true c2.2
  rw [rdN_y c2, if_pos (show tkT T L P2 = 2 ∧ ((0 : Int32).toInt ≤ (tkV T L P2 : Int) ∧ (tkV T L P2 : Int) ≤ (9 : Int32).toInt) from ⟨c2.1, by omega, by omega⟩), if_neg one_ne]
  obtain ⟨q21, q22, p3⟩ := tk_adv p2 (show tkT T L P2 ≠ 0 by rw [c2.1]; decide)
  have h9_3 : s2.1 114 9 = nI (tkA T L P2) := H2.2.2.1 (by rw [c2.1]; decide)
  have z2 := V2 c2.1
  obtain ⟨P3, hP3⟩ : ∃ P, P = tkA T L P2 := ⟨_, rfl⟩
  rw [← hP3] at p3 h9_3 ⊢
  obtain ⟨t, xe, He, fe⟩ := mEnds (N := N) hN hT (hX.g f2) p3 h9_3
  have ft : G21 σ t := f2.trans fe.g
  rw [xe, bW_e]
  by_cases ce : tkT T L P3 = 3
  rotate_left
  · rw [rdN_0n ce, if_neg ce, if_pos rfl]
    exact ⟨fun y => absurd (show false = true from y) (by decide), fun _ => ⟨t, rfl, He.1, ft.m⟩⟩
  rw [rdN_0y ce, if_pos ce, if_neg one_ne]
  have M9 : RepM 115 0 q t := hM.frame (ft.1 115 (by decide) (by decide))
  have h9e : t.1 114 9 = nI (tkA T L P3) := He.2.2.1 (by rw [ce]; decide)
  have y0 : t.1 121 (0 : Int32).toNatClampNeg = nI (tkV T L P0) := by show t.1 121 0 = _; rw [fe.1 121 (by decide), U2 0 (by decide), U1 0 (by decide)]; exact z0
  have y1 : t.1 121 (1 : Int32).toNatClampNeg = nI (tkV T L P1) := by show t.1 121 1 = _; rw [fe.1 121 (by decide), U2 1 (by decide)]; exact z1
  have y2 : t.1 121 (2 : Int32).toNatClampNeg = nI (tkV T L P2) := by show t.1 121 2 = _; rw [fe.1 121 (by decide)]; exact z2
  refine ⟨fun _ => ?_, fun y => absurd (show true = false from y) (by decide)⟩
  have hk := cnl_rng (tkV T L P0) b0 (tkV T L P1) b1.1 (Ne.symm b1.2)
  rw [y0, y1, y2, mCn _ b0 _ b1.1 (Ne.symm b1.2), inI (n := 286) (by omega) (by decide), ck_t, clI (by omega), bS_e]
  refine ⟨_, rfl, ?_, by rw [rdI_ne _ _ _ _ (by decide)]; exact h9e, ft.m.a G1.wr⟩
  exact M9.put _
theorem mItem3 {N : Nat} (hN : 300 < N) {T : Nat → Nat} {L p : Nat} (hT : TX T L) {q : QS} {σ : St} (hq : Okq q) (hz : q 157 = 0) (hM : RepM 115 0 q σ) (hX : MX T L σ) (hp : p ≤ L) (hH : MH T L p σ) (hwk : wk T L p = 3) (ht : tooB q 3 = false) : ((rdN T L (fitB q 3) 2 0 (fun _ => 0) (tkA T L p)).1 = true → ∃ s, Mo_readsItem N σ = some (1, s) ∧ RepM 115 0 (app q 3 (rdN T L (fitB q 3) 2 0 (fun _ => 0) (tkA T L p)).2.2) s ∧ s.1 114 9 = nI (rdN T L (fitB q 3) 2 0 (fun _ => 0) (tkA T L p)).2.1 ∧ G15 σ s) ∧ ((rdN T L (fitB q 3) 2 0 (fun _ => 0) (tkA T L p)).1 = false → ∃ s, Mo_readsItem N σ = some (0, s) ∧ s.1 114 10 = nI (rdN T L (fitB q 3) 2 0 (fun _ => 0) (tkA T L p)).2.1 ∧ G15 σ s) := by
  have h36 := hq.b.2.1.1
  have h37 := hq.b.2.2.1.1
  have ht' := of_decide_eq_false ht
  have t1 : tkT T L p = 1 := ((wk_iff (by decide)).mp hwk).1
  have i0 : (0 : Int32).toInt = 0 := by decide
  have i1 : (1 : Int32).toInt = 1 := by decide
  have i5 : (5 : Int32).toInt = 5 := by decide
  have i7 : (7 : Int32).toInt = 7 := by decide
  have i9 : (9 : Int32).toInt = 9 := by decide
  have i40 : (40 : Int32).toInt = 40 := by decide
  have g37 := gm1 (show q 37 < 100 by omega)
  have g36 := gm1 (show q 36 < 100 by omega)
  have e36 : σ.1 115 (36 : Int32).toNatClampNeg = nI (q 36) := hM.get (by decide)
  have e37 : σ.1 115 (37 : Int32).toNatClampNeg = nI (q 37) := hM.get (by decide)
  have p0 : tkA T L p ≤ L := tkA_le hp
  have h9 : σ.1 114 9 = nI (tkA T L p) := hH.2.2.1 (by omega)
  obtain ⟨P0, hP0⟩ : ∃ P, P = tkA T L p := ⟨_, rfl⟩
  rw [← hP0] at p0 h9 ⊢
  have hD : Mo_isDark N σ = some (if wk T L p = 1 then 1 else 0) := mDark hT hX hp hH
  have hC : Mo_isWord N 99 97 110 97 108 σ = some (if wk T L p = 2 then 1 else 0) := mCanalW hT hX hp hH
  have hR : Mo_isWord N 114 111 119 101 114 σ = some (if wk T L p = 3 then 1 else 0) := mRowerW hT hX hp hH
  have hG : Mo_isWord N 103 117 101 115 116 σ = some (if wk T L p = 4 then 1 else 0) := mGuestW hT hX hp hH
  have hW : Mo_isWord N 114 111 119 0 0 σ = some (if wk T L p = 5 then 1 else 0) := mRowW hT hX hp hH
  rw [if_neg (show ¬ wk T L p = 1 by rw [hwk]; decide)] at hD
  rw [if_neg (show ¬ wk T L p = 2 by rw [hwk]; decide)] at hC
  rw [if_pos hwk] at hR
  rw [if_neg (show ¬ wk T L p = 4 by rw [hwk]; decide)] at hG
  rw [if_neg (show ¬ wk T L p = 5 by rw [hwk]; decide)] at hW
  unfold Mo_readsItem Mo_readsItem_J237 Mo_readsItem_J313
  rw [hD, bR_e, if_pos rfl, hC, bR_e, if_pos rfl, hR, bR_e, if_neg one_ne, e36, if_neg (show ¬ (3 : Int32) ≤ nI (q 36) from leN (a := 3) (by omega) (by decide) (by omega))]
  obtain ⟨s0, x0, H0, V0, U0, f0'⟩ := mNum (N := N) hN (k := 0) hT hX p0 h9 0 5 (v1 := 0) rfl (by decide)
  have f0 : G21 σ s0 := f0'
  rw [x0, bW_e]
  by_cases c0 : tkT T L P0 = 2 ∧ fitB q 3 0 ((fun _ => 0) 0) (tkV T L P0) = true
  rotate_left
  · have d0 : ¬ (tkT T L P0 = 2 ∧ ((0 : Int32).toInt ≤ (tkV T L P0 : Int) ∧ (tkV T L P0 : Int) ≤ (5 : Int32).toInt)) := fun y => c0 ⟨y.1, decide_eq_true (show tkV T L P0 ≤ 5 by have := y.2; omega)⟩
    rw [rdN_n c0, if_neg d0, if_pos rfl]
    exact ⟨fun y => absurd (show false = true from y) (by decide), fun _ => ⟨s0, rfl, H0.1, f0.m⟩⟩
  have b0 : tkV T L P0 ≤ 5 := of_decide_eq_true c0.2
  rw [rdN_y c0, if_pos (show tkT T L P0 = 2 ∧ ((0 : Int32).toInt ≤ (tkV T L P0 : Int) ∧ (tkV T L P0 : Int) ≤ (5 : Int32).toInt) from ⟨c0.1, by omega, by omega⟩), if_neg one_ne]
  obtain ⟨q01, q02, p1⟩ := tk_adv p0 (show tkT T L P0 ≠ 0 by rw [c0.1]; decide)
  have h9_1 : s0.1 114 9 = nI (tkA T L P0) := H0.2.2.1 (by rw [c0.1]; decide)
  have z0 := V0 c0.1
  obtain ⟨P1, hP1⟩ : ∃ P, P = tkA T L P0 := ⟨_, rfl⟩
  rw [← hP1] at p1 h9_1 ⊢
  obtain ⟨s1, x1, H1, V1, U1, f1'⟩ := mNum (N := N) hN (k := 1) hT (hX.g f0) p1 h9_1 0 9 (v1 := 1) rfl (by decide)
  have f1 : G21 σ s1 := f0.trans f1'
  rw [x1, bW_e]
  by_cases c1 : tkT T L P1 = 2 ∧ fitB q 3 1 ((updQ (fun _ => 0) 0 (tkV T L P0)) 0) (tkV T L P1) = true
  rotate_left
  · have d1 : ¬ (tkT T L P1 = 2 ∧ ((0 : Int32).toInt ≤ (tkV T L P1 : Int) ∧ (tkV T L P1 : Int) ≤ (9 : Int32).toInt)) := fun y => c1 ⟨y.1, decide_eq_true (show tkV T L P1 ≤ 9 by have := y.2; omega)⟩
    rw [rdN_n c1, if_neg d1, if_pos rfl]
    exact ⟨fun y => absurd (show false = true from y) (by decide), fun _ => ⟨s1, rfl, H1.1, f1.m⟩⟩
  have b1 : tkV T L P1 ≤ 9 := of_decide_eq_true c1.2
  rw [rdN_y c1, if_pos (show tkT T L P1 = 2 ∧ ((0 : Int32).toInt ≤ (tkV T L P1 : Int) ∧ (tkV T L P1 : Int) ≤ (9 : Int32).toInt) from ⟨c1.1, by omega, by omega⟩), if_neg one_ne]
  obtain ⟨q11, q12, p2⟩ := tk_adv p1 (show tkT T L P1 ≠ 0 by rw [c1.1]; decide)
  have h9_2 : s1.1 114 9 = nI (tkA T L P1) := H1.2.2.1 (by rw [c1.1]; decide)
  have z1 := V1 c1.1
  obtain ⟨P2, hP2⟩ : ∃ P, P = tkA T L P1 := ⟨_, rfl⟩
  rw [← hP2] at p2 h9_2 ⊢
  obtain ⟨t, xe, He, fe⟩ := mEnds (N := N) hN hT (hX.g f1) p2 h9_2
  have ft : G21 σ t := f1.trans fe.g
  rw [xe, bW_e]
  by_cases ce : tkT T L P2 = 3
  rotate_left
  · rw [rdN_0n ce, if_neg ce, if_pos rfl]
    exact ⟨fun y => absurd (show false = true from y) (by decide), fun _ => ⟨t, rfl, He.1, ft.m⟩⟩
  rw [rdN_0y ce, if_pos ce, if_neg one_ne]
  have M9 : RepM 115 0 q t := hM.frame (ft.1 115 (by decide) (by decide))
  have h9e : t.1 114 9 = nI (tkA T L P2) := He.2.2.1 (by rw [ce]; decide)
  have y0 : t.1 121 (0 : Int32).toNatClampNeg = nI (tkV T L P0) := by show t.1 121 0 = _; rw [fe.1 121 (by decide), U1 0 (by decide)]; exact z0
  have y1 : t.1 121 (1 : Int32).toNatClampNeg = nI (tkV T L P1) := by show t.1 121 1 = _; rw [fe.1 121 (by decide)]; exact z1
  refine ⟨fun _ => ?_, fun y => absurd (show true = false from y) (by decide)⟩
  obtain ⟨u, xu, mu, fu⟩ := mAddRower1 (N := N) M9 (by omega) (tkV T L P0) (tkV T L P1)
  rw [y0, y1, xu, bR_e]
  refine ⟨u, rfl, ?_, by rw [fu.1 114 (by decide)]; exact h9e, ft.m.a fu⟩
  have e : updQ (qRower q (tkV T L P0) (tkV T L P1)) 157 0 = qRower q (tkV T L P0) (tkV T L P1) := updQ_id (by
    unfold qRower
    rw [updQ_n _ _ (by omega), updQ_n _ _ (by omega), updQ_n _ _ (by omega)]; exact hz)
  rw [e] at mu; exact mu
theorem mItem4 {N : Nat} (hN : 300 < N) {T : Nat → Nat} {L p : Nat} (hT : TX T L) {q : QS} {σ : St} (hq : Okq q) (hz : q 157 = 0) (hM : RepM 115 0 q σ) (hX : MX T L σ) (hp : p ≤ L) (hH : MH T L p σ) (hwk : wk T L p = 4) (ht : tooB q 4 = false) : ((rdN T L (fitB q 4) 2 0 (fun _ => 0) (tkA T L p)).1 = true → ∃ s, Mo_readsItem N σ = some (1, s) ∧ RepM 115 0 (app q 4 (rdN T L (fitB q 4) 2 0 (fun _ => 0) (tkA T L p)).2.2) s ∧ s.1 114 9 = nI (rdN T L (fitB q 4) 2 0 (fun _ => 0) (tkA T L p)).2.1 ∧ G15 σ s) ∧ ((rdN T L (fitB q 4) 2 0 (fun _ => 0) (tkA T L p)).1 = false → ∃ s, Mo_readsItem N σ = some (0, s) ∧ s.1 114 10 = nI (rdN T L (fitB q 4) 2 0 (fun _ => 0) (tkA T L p)).2.1 ∧ G15 σ s) := by
  have h36 := hq.b.2.1.1
  have h37 := hq.b.2.2.1.1
  have ht' := of_decide_eq_false ht
  have t1 : tkT T L p = 1 := ((wk_iff (by decide)).mp hwk).1
  have i0 : (0 : Int32).toInt = 0 := by decide
  have i1 : (1 : Int32).toInt = 1 := by decide
  have i5 : (5 : Int32).toInt = 5 := by decide
  have i7 : (7 : Int32).toInt = 7 := by decide
  have i9 : (9 : Int32).toInt = 9 := by decide
  have i40 : (40 : Int32).toInt = 40 := by decide
  have g37 := gm1 (show q 37 < 100 by omega)
  have g36 := gm1 (show q 36 < 100 by omega)
  have e36 : σ.1 115 (36 : Int32).toNatClampNeg = nI (q 36) := hM.get (by decide)
  have e37 : σ.1 115 (37 : Int32).toNatClampNeg = nI (q 37) := hM.get (by decide)
  have p0 : tkA T L p ≤ L := tkA_le hp
  have h9 : σ.1 114 9 = nI (tkA T L p) := hH.2.2.1 (by omega)
  obtain ⟨P0, hP0⟩ : ∃ P, P = tkA T L p := ⟨_, rfl⟩
  rw [← hP0] at p0 h9 ⊢
  have hD : Mo_isDark N σ = some (if wk T L p = 1 then 1 else 0) := mDark hT hX hp hH
  have hC : Mo_isWord N 99 97 110 97 108 σ = some (if wk T L p = 2 then 1 else 0) := mCanalW hT hX hp hH
  have hR : Mo_isWord N 114 111 119 101 114 σ = some (if wk T L p = 3 then 1 else 0) := mRowerW hT hX hp hH
  have hG : Mo_isWord N 103 117 101 115 116 σ = some (if wk T L p = 4 then 1 else 0) := mGuestW hT hX hp hH
  have hW : Mo_isWord N 114 111 119 0 0 σ = some (if wk T L p = 5 then 1 else 0) := mRowW hT hX hp hH
  rw [if_neg (show ¬ wk T L p = 1 by rw [hwk]; decide)] at hD
  rw [if_neg (show ¬ wk T L p = 2 by rw [hwk]; decide)] at hC
  rw [if_neg (show ¬ wk T L p = 3 by rw [hwk]; decide)] at hR
  rw [if_pos hwk] at hG
  rw [if_neg (show ¬ wk T L p = 5 by rw [hwk]; decide)] at hW
  unfold Mo_readsItem Mo_readsItem_J237 Mo_readsItem_J313
  rw [hD, bR_e, if_pos rfl, hC, bR_e, if_pos rfl, hR, bR_e, if_pos rfl, hG, bR_e, if_neg one_ne, e37, if_neg (show ¬ (4 : Int32) ≤ nI (q 37) from leN (a := 4) (by omega) (by decide) (by omega))]
  obtain ⟨s0, x0, H0, V0, U0, f0'⟩ := mNum (N := N) hN (k := 0) hT hX p0 h9 0 5 (v1 := 0) rfl (by decide)
  have f0 : G21 σ s0 := f0'
  rw [x0, bW_e]
  by_cases c0 : tkT T L P0 = 2 ∧ fitB q 4 0 ((fun _ => 0) 0) (tkV T L P0) = true
  rotate_left
  · have d0 : ¬ (tkT T L P0 = 2 ∧ ((0 : Int32).toInt ≤ (tkV T L P0 : Int) ∧ (tkV T L P0 : Int) ≤ (5 : Int32).toInt)) := fun y => c0 ⟨y.1, decide_eq_true (show tkV T L P0 ≤ 5 by have := y.2; omega)⟩
    rw [rdN_n c0, if_neg d0, if_pos rfl]
    exact ⟨fun y => absurd (show false = true from y) (by decide), fun _ => ⟨s0, rfl, H0.1, f0.m⟩⟩
  have b0 : tkV T L P0 ≤ 5 := of_decide_eq_true c0.2
  rw [rdN_y c0, if_pos (show tkT T L P0 = 2 ∧ ((0 : Int32).toInt ≤ (tkV T L P0 : Int) ∧ (tkV T L P0 : Int) ≤ (5 : Int32).toInt) from ⟨c0.1, by omega, by omega⟩), if_neg one_ne]
  obtain ⟨q01, q02, p1⟩ := tk_adv p0 (show tkT T L P0 ≠ 0 by rw [c0.1]; decide)
  have h9_1 : s0.1 114 9 = nI (tkA T L P0) := H0.2.2.1 (by rw [c0.1]; decide)
  have z0 := V0 c0.1
  obtain ⟨P1, hP1⟩ : ∃ P, P = tkA T L P0 := ⟨_, rfl⟩
  rw [← hP1] at p1 h9_1 ⊢
  obtain ⟨s1, x1, H1, V1, U1, f1'⟩ := mNum (N := N) hN (k := 1) hT (hX.g f0) p1 h9_1 1 40 (v1 := 1) rfl (by decide)
  have f1 : G21 σ s1 := f0.trans f1'
  rw [x1, bW_e]
  by_cases c1 : tkT T L P1 = 2 ∧ fitB q 4 1 ((updQ (fun _ => 0) 0 (tkV T L P0)) 0) (tkV T L P1) = true
  rotate_left
  · have d1 : ¬ (tkT T L P1 = 2 ∧ ((1 : Int32).toInt ≤ (tkV T L P1 : Int) ∧ (tkV T L P1 : Int) ≤ (40 : Int32).toInt)) := fun y => c1 ⟨y.1, decide_eq_true (show 1 ≤ tkV T L P1 ∧ tkV T L P1 ≤ 40 by have := y.2; omega)⟩
    rw [rdN_n c1, if_neg d1, if_pos rfl]
    exact ⟨fun y => absurd (show false = true from y) (by decide), fun _ => ⟨s1, rfl, H1.1, f1.m⟩⟩
  have b1 : 1 ≤ tkV T L P1 ∧ tkV T L P1 ≤ 40 := of_decide_eq_true c1.2
  rw [rdN_y c1, if_pos (show tkT T L P1 = 2 ∧ ((1 : Int32).toInt ≤ (tkV T L P1 : Int) ∧ (tkV T L P1 : Int) ≤ (40 : Int32).toInt) from ⟨c1.1, by omega, by omega⟩), if_neg one_ne]
  obtain ⟨q11, q12, p2⟩ := tk_adv p1 (show tkT T L P1 ≠ 0 by rw [c1.1]; decide)
  have h9_2 : s1.1 114 9 = nI (tkA T L P1) := H1.2.2.1 (by rw [c1.1]; decide)
  have z1 := V1 c1.1
  obtain ⟨P2, hP2⟩ : ∃ P, P = tkA T L P1 := ⟨_, rfl⟩
  rw [← hP2] at p2 h9_2 ⊢
  obtain ⟨t, xe, He, fe⟩ := mEnds (N := N) hN hT (hX.g f1) p2 h9_2
  have ft : G21 σ t := f1.trans fe.g
  rw [xe, bW_e]
  by_cases ce : tkT T L P2 = 3
  rotate_left
  · rw [rdN_0n ce, if_neg ce, if_pos rfl]
    exact ⟨fun y => absurd (show false = true from y) (by decide), fun _ => ⟨t, rfl, He.1, ft.m⟩⟩
  rw [rdN_0y ce, if_pos ce, if_neg one_ne]
  have M9 : RepM 115 0 q t := hM.frame (ft.1 115 (by decide) (by decide))
  have h9e : t.1 114 9 = nI (tkA T L P2) := He.2.2.1 (by rw [ce]; decide)
  have y0 : t.1 121 (0 : Int32).toNatClampNeg = nI (tkV T L P0) := by show t.1 121 0 = _; rw [fe.1 121 (by decide), U1 0 (by decide)]; exact z0
  have y1 : t.1 121 (1 : Int32).toNatClampNeg = nI (tkV T L P1) := by show t.1 121 1 = _; rw [fe.1 121 (by decide)]; exact z1
  refine ⟨fun _ => ?_, fun y => absurd (show true = false from y) (by decide)⟩
  obtain ⟨u, xu, mu, fu⟩ := mAddGuest1 (N := N) M9 (by omega) (tkV T L P0) (tkV T L P1)
  rw [y0, y1, xu, bR_e]
  refine ⟨u, rfl, ?_, by rw [fu.1 114 (by decide)]; exact h9e, ft.m.a fu⟩
  have e : updQ (qGuest q (tkV T L P0) (tkV T L P1)) 157 0 = qGuest q (tkV T L P0) (tkV T L P1) := updQ_id (by
    unfold qGuest
    rw [updQ_n _ _ (by omega), updQ_n _ _ (by omega), updQ_n _ _ (by omega)]; exact hz)
  rw [e] at mu; exact mu
theorem mItem5 {N : Nat} (hN : 300 < N) {T : Nat → Nat} {L p : Nat} (hT : TX T L) {q : QS} {σ : St} (hq : Okq q) (hz : q 157 = 0) (hM : RepM 115 0 q σ) (hX : MX T L σ) (hp : p ≤ L) (hH : MH T L p σ) (hwk : wk T L p = 5) (ht : tooB q 5 = false) : ((rdN T L (fitB q 5) 3 0 (fun _ => 0) (tkA T L p)).1 = true → ∃ s, Mo_readsItem N σ = some (1, s) ∧ RepM 115 0 (app q 5 (rdN T L (fitB q 5) 3 0 (fun _ => 0) (tkA T L p)).2.2) s ∧ s.1 114 9 = nI (rdN T L (fitB q 5) 3 0 (fun _ => 0) (tkA T L p)).2.1 ∧ G15 σ s) ∧ ((rdN T L (fitB q 5) 3 0 (fun _ => 0) (tkA T L p)).1 = false → ∃ s, Mo_readsItem N σ = some (0, s) ∧ s.1 114 10 = nI (rdN T L (fitB q 5) 3 0 (fun _ => 0) (tkA T L p)).2.1 ∧ G15 σ s) := by
  have h36 := hq.b.2.1.1
  have h37 := hq.b.2.2.1.1
  have ht' := of_decide_eq_false ht
  have t1 : tkT T L p = 1 := ((wk_iff (by decide)).mp hwk).1
  have i0 : (0 : Int32).toInt = 0 := by decide
  have i1 : (1 : Int32).toInt = 1 := by decide
  have i5 : (5 : Int32).toInt = 5 := by decide
  have i7 : (7 : Int32).toInt = 7 := by decide
  have i9 : (9 : Int32).toInt = 9 := by decide
  have i40 : (40 : Int32).toInt = 40 := by decide
  have g37 := gm1 (show q 37 < 100 by omega)
  have g36 := gm1 (show q 36 < 100 by omega)
  have e36 : σ.1 115 (36 : Int32).toNatClampNeg = nI (q 36) := hM.get (by decide)
  have e37 : σ.1 115 (37 : Int32).toNatClampNeg = nI (q 37) := hM.get (by decide)
  have p0 : tkA T L p ≤ L := tkA_le hp
  have h9 : σ.1 114 9 = nI (tkA T L p) := hH.2.2.1 (by omega)
  obtain ⟨P0, hP0⟩ : ∃ P, P = tkA T L p := ⟨_, rfl⟩
  rw [← hP0] at p0 h9 ⊢
  have hD : Mo_isDark N σ = some (if wk T L p = 1 then 1 else 0) := mDark hT hX hp hH
  have hC : Mo_isWord N 99 97 110 97 108 σ = some (if wk T L p = 2 then 1 else 0) := mCanalW hT hX hp hH
  have hR : Mo_isWord N 114 111 119 101 114 σ = some (if wk T L p = 3 then 1 else 0) := mRowerW hT hX hp hH
  have hG : Mo_isWord N 103 117 101 115 116 σ = some (if wk T L p = 4 then 1 else 0) := mGuestW hT hX hp hH
  have hW : Mo_isWord N 114 111 119 0 0 σ = some (if wk T L p = 5 then 1 else 0) := mRowW hT hX hp hH
  rw [if_neg (show ¬ wk T L p = 1 by rw [hwk]; decide)] at hD
  rw [if_neg (show ¬ wk T L p = 2 by rw [hwk]; decide)] at hC
  rw [if_neg (show ¬ wk T L p = 3 by rw [hwk]; decide)] at hR
  rw [if_neg (show ¬ wk T L p = 4 by rw [hwk]; decide)] at hG
  rw [if_pos hwk] at hW
  unfold Mo_readsItem Mo_readsItem_J237 Mo_readsItem_J313
  rw [hD, bR_e, if_pos rfl, hC, bR_e, if_pos rfl, hR, bR_e, if_pos rfl, hG, bR_e, if_pos rfl, hW, bR_e, if_neg one_ne, e37]
  obtain ⟨s0, x0, H0, V0, U0, f0'⟩ := mNum (N := N) hN (k := 0) hT hX p0 h9 0 (nI (q 37) - 1) (v1 := 0) rfl (by decide)
  have f0 : G21 σ s0 := f0'
  rw [x0, bW_e]
  by_cases c0 : tkT T L P0 = 2 ∧ fitB q 5 0 ((fun _ => 0) 0) (tkV T L P0) = true
  rotate_left
  · have d0 : ¬ (tkT T L P0 = 2 ∧ ((0 : Int32).toInt ≤ (tkV T L P0 : Int) ∧ (tkV T L P0 : Int) ≤ ((nI (q 37) - 1) : Int32).toInt)) := fun y => c0 ⟨y.1, decide_eq_true (show tkV T L P0 < q 37 by have := y.2; omega)⟩
    rw [rdN_n c0, if_neg d0, if_pos rfl]
    exact ⟨fun y => absurd (show false = true from y) (by decide), fun _ => ⟨s0, rfl, H0.1, f0.m⟩⟩
  have b0 : tkV T L P0 < q 37 := of_decide_eq_true c0.2
  rw [rdN_y c0, if_pos (show tkT T L P0 = 2 ∧ ((0 : Int32).toInt ≤ (tkV T L P0 : Int) ∧ (tkV T L P0 : Int) ≤ ((nI (q 37) - 1) : Int32).toInt) from ⟨c0.1, by omega, by omega⟩), if_neg one_ne]
  obtain ⟨q01, q02, p1⟩ := tk_adv p0 (show tkT T L P0 ≠ 0 by rw [c0.1]; decide)
  have h9_1 : s0.1 114 9 = nI (tkA T L P0) := H0.2.2.1 (by rw [c0.1]; decide)
  have z0 := V0 c0.1
  obtain ⟨P1, hP1⟩ : ∃ P, P = tkA T L P0 := ⟨_, rfl⟩
  rw [← hP1] at p1 h9_1 ⊢
  have e36s : s0.1 115 (36 : Int32).toNatClampNeg = nI (q 36) := by rw [f0.1 115 (by decide) (by decide)]; exact e36
  rw [e36s]
  obtain ⟨s1, x1, H1, V1, U1, f1'⟩ := mNum (N := N) hN (k := 1) hT (hX.g f0) p1 h9_1 0 (nI (q 36) - 1) (v1 := 1) rfl (by decide)
  have f1 : G21 σ s1 := f0.trans f1'
  rw [x1, bW_e]
  by_cases c1 : tkT T L P1 = 2 ∧ fitB q 5 1 ((updQ (fun _ => 0) 0 (tkV T L P0)) 0) (tkV T L P1) = true
  rotate_left
  · have d1 : ¬ (tkT T L P1 = 2 ∧ ((0 : Int32).toInt ≤ (tkV T L P1 : Int) ∧ (tkV T L P1 : Int) ≤ ((nI (q 36) - 1) : Int32).toInt)) := fun y => c1 ⟨y.1, decide_eq_true (show tkV T L P1 < q 36 by have := y.2; omega)⟩
    rw [rdN_n c1, if_neg d1, if_pos rfl]
    exact ⟨fun y => absurd (show false = true from y) (by decide), fun _ => ⟨s1, rfl, H1.1, f1.m⟩⟩
  have b1 : tkV T L P1 < q 36 := of_decide_eq_true c1.2
  rw [rdN_y c1, if_pos (show tkT T L P1 = 2 ∧ ((0 : Int32).toInt ≤ (tkV T L P1 : Int) ∧ (tkV T L P1 : Int) ≤ ((nI (q 36) - 1) : Int32).toInt) from ⟨c1.1, by omega, by omega⟩), if_neg one_ne]
  obtain ⟨q11, q12, p2⟩ := tk_adv p1 (show tkT T L P1 ≠ 0 by rw [c1.1]; decide)
  have h9_2 : s1.1 114 9 = nI (tkA T L P1) := H1.2.2.1 (by rw [c1.1]; decide)
  have z1 := V1 c1.1
  obtain ⟨P2, hP2⟩ : ∃ P, P = tkA T L P1 := ⟨_, rfl⟩
  rw [← hP2] at p2 h9_2 ⊢
  obtain ⟨s2, x2, H2, V2, U2, f2'⟩ := mNum (N := N) hN (k := 2) hT (hX.g f1) p2 h9_2 0 7 (v1 := 2) rfl (by decide)
  have f2 : G21 σ s2 := f1.trans f2'
  rw [x2, bW_e]
  by_cases c2 : tkT T L P2 = 2 ∧ fitB q 5 2 ((updQ (updQ (fun _ => 0) 0 (tkV T L P0)) 1 (tkV T L P1)) 0) (tkV T L P2) = true
  rotate_left
  · by_cases d2 : tkT T L P2 = 2 ∧ ((0 : Int32).toInt ≤ (tkV T L P2 : Int) ∧ (tkV T L P2 : Int) ≤ (7 : Int32).toInt)
    · have z2 := V2 d2.1
      have E0 : s2.1 121 (0 : Int32).toNatClampNeg = nI (tkV T L P0) := by show s2.1 121 0 = _; rw [U2 0 (by decide), U1 0 (by decide)]; exact z0
      have E2 : s2.1 121 (2 : Int32).toNatClampNeg = nI (tkV T L P2) := z2
      have hcan := mCan (N := N) (g := tkV T L P0) (p := tkV T L P2) hq.b.1 (hM.frame (f2.1 115 (by decide) (by decide))) (by omega) (hq.b.2.2.1.2.1 _ b0).2.2.2.2.2.1 (by have := d2.2; omega)
      have nc : ¬ canN q (q (60 + tkV T L P0)) (tkV T L P2) = true := fun y => c2 ⟨d2.1, decide_eq_true (show tkV T L P2 < 8 ∧ canN q (q (60 + tkV T L P0)) (tkV T L P2) = true from ⟨by have := d2.2; omega, y⟩)⟩
      rw [if_neg nc] at hcan
      rw [rdN_n c2, if_pos d2, if_neg one_ne, E0, E2, hcan, bR_e, if_pos rfl]
      exact ⟨fun y => absurd (show false = true from y) (by decide), fun _ => ⟨s2, rfl, H2.1, f2.m⟩⟩
    · rw [rdN_n c2, if_neg d2, if_pos rfl]
      exact ⟨fun y => absurd (show false = true from y) (by decide), fun _ => ⟨s2, rfl, H2.1, f2.m⟩⟩
  have b2 : tkV T L P2 < 8 ∧ canN q (q (60 + tkV T L P0)) (tkV T L P2) = true := of_decide_eq_true c2.2
  rw [rdN_y c2, if_pos (show tkT T L P2 = 2 ∧ ((0 : Int32).toInt ≤ (tkV T L P2 : Int) ∧ (tkV T L P2 : Int) ≤ (7 : Int32).toInt) from ⟨c2.1, by omega, by omega⟩), if_neg one_ne]
  obtain ⟨q21, q22, p3⟩ := tk_adv p2 (show tkT T L P2 ≠ 0 by rw [c2.1]; decide)
  have h9_3 : s2.1 114 9 = nI (tkA T L P2) := H2.2.2.1 (by rw [c2.1]; decide)
  have z2 := V2 c2.1
  obtain ⟨P3, hP3⟩ : ∃ P, P = tkA T L P2 := ⟨_, rfl⟩
  rw [← hP3] at p3 h9_3 ⊢
  have E0 : s2.1 121 (0 : Int32).toNatClampNeg = nI (tkV T L P0) := by show s2.1 121 0 = _; rw [U2 0 (by decide), U1 0 (by decide)]; exact z0
  have E2 : s2.1 121 (2 : Int32).toNatClampNeg = nI (tkV T L P2) := z2
  have hcan := mCan (N := N) (g := tkV T L P0) (p := tkV T L P2) hq.b.1 (hM.frame (f2.1 115 (by decide) (by decide))) (by omega) (hq.b.2.2.1.2.1 _ b0).2.2.2.2.2.1 b2.1
  rw [if_pos b2.2] at hcan
  rw [E0, E2, hcan, bR_e, if_neg one_ne]
  obtain ⟨t, xe, He, fe⟩ := mEnds (N := N) hN hT (hX.g f2) p3 h9_3
  have ft : G21 σ t := f2.trans fe.g
  rw [xe, bW_e]
  by_cases ce : tkT T L P3 = 3
  rotate_left
  · rw [rdN_0n ce, if_neg ce, if_pos rfl]
    exact ⟨fun y => absurd (show false = true from y) (by decide), fun _ => ⟨t, rfl, He.1, ft.m⟩⟩
  rw [rdN_0y ce, if_pos ce, if_neg one_ne]
  have M9 : RepM 115 0 q t := hM.frame (ft.1 115 (by decide) (by decide))
  have h9e : t.1 114 9 = nI (tkA T L P3) := He.2.2.1 (by rw [ce]; decide)
  have y0 : t.1 121 (0 : Int32).toNatClampNeg = nI (tkV T L P0) := by show t.1 121 0 = _; rw [fe.1 121 (by decide), U2 0 (by decide), U1 0 (by decide)]; exact z0
  have y1 : t.1 121 (1 : Int32).toNatClampNeg = nI (tkV T L P1) := by show t.1 121 1 = _; rw [fe.1 121 (by decide), U2 1 (by decide)]; exact z1
  have y2 : t.1 121 (2 : Int32).toNatClampNeg = nI (tkV T L P2) := by show t.1 121 2 = _; rw [fe.1 121 (by decide)]; exact z2
  refine ⟨fun _ => ?_, fun y => absurd (show true = false from y) (by decide)⟩
  obtain ⟨u, xu, mu, fu, fu2, fu3⟩ := mRowedX (N := N) hq M9 b0 b1 b2.1
  rw [y0, y1, y2, xu, bR_e]
  exact ⟨u, rfl, mu, by rw [fu 114 (by decide)]; exact h9e, ft.m.a ⟨fu, fu3⟩⟩
theorem mItemN {N : Nat} {T : Nat → Nat} {L p : Nat} (hT : TX T L) {q : QS} {σ : St} (hq : Okq q) (hM : RepM 115 0 q σ) (hX : MX T L σ) (hp : p ≤ L) (hH : MH T L p σ) (hb : wk T L p = 0 ∨ wk T L p = 6 ∨ tooB q (wk T L p) = true) : Mo_readsItem N σ = some (0, σ) := by
  have h36 := hq.b.2.1.1
  have h37 := hq.b.2.2.1.1
  have e36 : σ.1 115 (36 : Int32).toNatClampNeg = nI (q 36) := hM.get (by decide)
  have e37 : σ.1 115 (37 : Int32).toNatClampNeg = nI (q 37) := hM.get (by decide)
  have hD : Mo_isDark N σ = some (if wk T L p = 1 then 1 else 0) := mDark hT hX hp hH
  have hC : Mo_isWord N 99 97 110 97 108 σ = some (if wk T L p = 2 then 1 else 0) := mCanalW hT hX hp hH
  have hR : Mo_isWord N 114 111 119 101 114 σ = some (if wk T L p = 3 then 1 else 0) := mRowerW hT hX hp hH
  have hG : Mo_isWord N 103 117 101 115 116 σ = some (if wk T L p = 4 then 1 else 0) := mGuestW hT hX hp hH
  have hW : Mo_isWord N 114 111 119 0 0 σ = some (if wk T L p = 5 then 1 else 0) := mRowW hT hX hp hH
  have hb' : wk T L p = 0 ∨ wk T L p = 6 ∨ (wk T L p = 3 ∧ 3 ≤ q 36) ∨ (wk T L p = 4 ∧ 4 ≤ q 37) := by
    rcases hb with h | h | h
    · exact Or.inl h
    · exact Or.inr (Or.inl h)
    · exact Or.inr (Or.inr (of_decide_eq_true h))
  rw [if_neg (show ¬ wk T L p = 1 by omega)] at hD
  rw [if_neg (show ¬ wk T L p = 2 by omega)] at hC
  rw [if_neg (show ¬ wk T L p = 5 by omega)] at hW
  unfold Mo_readsItem Mo_readsItem_J237 Mo_readsItem_J313
  rw [hD, bR_e, if_pos rfl, hC, bR_e, if_pos rfl, hR, bR_e, hG, hW, e36, e37]
  simp only [bR_e, if_true]
  by_cases z3 : wk T L p = 3
  · rw [if_pos z3, if_neg one_ne, if_pos (show (3 : Int32) ≤ nI (q 36) from leP (a := 3) (by omega) (by decide) (by omega)), if_neg (show ¬ wk T L p = 4 by omega), if_pos rfl]
  · rw [if_neg z3, if_pos rfl]
    by_cases z4 : wk T L p = 4
    · rw [if_pos z4, if_neg one_ne, if_pos (show (4 : Int32) ≤ nI (q 37) from leP (a := 4) (by omega) (by decide) (by omega))]
    · rw [if_neg z4, if_pos rfl]
