/-! the most that answer alike -/
def mxN (f : Nat → Nat) : Nat → Nat
  | 0 => 0
  | n + 1 => max (mxN f n) (f n)
theorem mxN_le {f : Nat → Nat} {n M : Nat} (h : ∀ i, i < n → f i ≤ M) : mxN f n ≤ M := by
  induction n with
  | zero => exact Nat.zero_le _
  | succ n ih => exact Nat.max_le.mpr ⟨ih (fun i hi => h i (by omega)), h n (by omega)⟩
theorem le_mxN {f : Nat → Nat} {n i : Nat} (hi : i < n) : f i ≤ mxN f n := by
  induction n with
  | zero => omega
  | succ n ih =>
    show f i ≤ max (mxN f n) (f n)
    by_cases e : i = n
    · subst e; exact Nat.le_max_right _ _
    · exact Nat.le_trans (ih (by omega)) (Nat.le_max_left _ _)
def cnN (p : Nat → Bool) : Nat → Nat
  | 0 => 0
  | n + 1 => cnN p n + (p n).toNat
theorem cnN_le (p : Nat → Bool) (n : Nat) : cnN p n ≤ n := by
  induction n with
  | zero => exact Nat.le_refl _
  | succ n ih => have := Bool.toNat_le (p n); show cnN p n + (p n).toNat ≤ n + 1; omega
theorem cnN_mono (p : Nat → Bool) {i n : Nat} (h : i ≤ n) : cnN p i ≤ cnN p n := by
  induction n with
  | zero => have : i = 0 := by omega
            subst this; exact Nat.le_refl _
  | succ n ih =>
    by_cases e : i = n + 1
    · subst e; exact Nat.le_refl _
    · have := ih (by omega)
      show cnN p i ≤ cnN p n + (p n).toNat
      omega
theorem cnN_zero {p : Nat → Bool} {n : Nat} (h : ∀ i, i < n → p i = false) : cnN p n = 0 := by
  induction n with
  | zero => rfl
  | succ n ih =>
    show cnN p n + (p n).toNat = 0
    rw [ih (fun i hi => h i (by omega)), h n (by omega)]; rfl
theorem cnN_pos {p : Nat → Bool} {n i : Nat} (hi : i < n) (h : p i = true) : 1 ≤ cnN p n := by
  have := cnN_mono p (show i + 1 ≤ n by omega)
  have e : cnN p (i + 1) = cnN p i + (p i).toNat := rfl
  rw [e, h] at this
  have : (true : Bool).toNat = 1 := rfl
  omega
theorem cnN_congr {p p' : Nat → Bool} {n : Nat} (h : ∀ i, i < n → p i = p' i) : cnN p n = cnN p' n := by
  induction n with
  | zero => rfl
  | succ n ih =>
    show cnN p n + (p n).toNat = cnN p' n + (p' n).toNat
    rw [ih (fun i hi => h i (by omega)), h n (by omega)]
def alk (b : Nat → Bool) (v : Nat → Nat) (a j : Nat) : Bool := b a && (b j && decide (v a = v j))
def crw (b : Nat → Bool) (v : Nat → Nat) (n : Nat) : Nat := mxN (fun a => cnN (alk b v a) n) n
def crwC (b : Nat → Bool) (v : Nat → Nat) (n : Nat) : Nat := mxN (fun i => if b i = true then cnN (alk b v i) n - cnN (alk b v i) i else 0) n
theorem crw_le (b : Nat → Bool) (v : Nat → Nat) (n : Nat) : crw b v n ≤ n := mxN_le (fun i _ => cnN_le _ n)
theorem crw_pos {b : Nat → Bool} {v : Nat → Nat} {n i : Nat} (hi : i < n) (h : b i = true) : 1 ≤ crw b v n :=
  Nat.le_trans (cnN_pos (p := alk b v i) hi (by simp [alk, h])) (le_mxN (f := fun a => cnN (alk b v a) n) hi)
theorem crw_zero {b : Nat → Bool} {v : Nat → Nat} {n : Nat} (h : ∀ i, i < n → b i = false) : crw b v n = 0 := Nat.le_zero.mp (mxN_le (fun i hi => by rw [cnN_zero (fun j _ => by simp [alk, h i hi])]; exact Nat.le_refl _))
theorem crwC_e (b : Nat → Bool) (v : Nat → Nat) (n : Nat) : crwC b v n = crw b v n := by
  apply Nat.le_antisymm
  · refine mxN_le (fun i hi => ?_)
    by_cases c : b i = true
    · rw [if_pos c]
      exact Nat.le_trans (Nat.sub_le _ _) (le_mxN (f := fun a => cnN (alk b v a) n) hi)
    · rw [if_neg c]; exact Nat.zero_le _
  · refine mxN_le (fun i hi => ?_)
    by_cases c : b i = true
    · obtain ⟨k, hk, hmin⟩ := pk_least (fun k => alk b v i k = true) ⟨i, by simp [alk, c]⟩
      have hk' : b k = true ∧ v i = v k := by
        unfold alk at hk; rw [c] at hk; simpa using hk
      have hki : k ≤ i := by
        rcases Nat.lt_or_ge i k with z | z
        · exact absurd (show alk b v i i = true by simp [alk, c]) (hmin i z)
        · exact z
      have e : ∀ j, alk b v k j = alk b v i j := fun j => by unfold alk; rw [c, hk'.1, hk'.2]
      have e2 : cnN (alk b v i) k = 0 := cnN_zero (fun j hj => by
        have := hmin j hj
        simpa using this)
      have : cnN (alk b v i) n = if b k = true then cnN (alk b v k) n - cnN (alk b v k) k else 0 := by
        rw [if_pos hk'.1, cnN_congr (fun j _ => e j), cnN_congr (n := k) (fun j _ => e j), e2]; rfl
      rw [this]
      exact le_mxN (f := fun i => if b i = true then cnN (alk b v i) n - cnN (alk b v i) i else 0) (show k < n by omega)
    · rw [cnN_zero (fun j _ => by simp [alk, c])]; exact Nat.zero_le _
theorem mxI_e {a b : Nat} (ha : a < 2147483648) (hb : b < 2147483648) : mxI (nI a) (nI b) = nI (max a b) := by
  unfold mxI
  by_cases c : a < b
  · rw [if_pos (ltP c ha hb), Nat.max_eq_right (by omega)]
  · rw [if_neg (ltN c ha hb), Nat.max_eq_left (by omega)]
def ans (b : Nat → Bool) (v : Nat → Nat) (t : Nat) : Int32 := if b t = true then nI (v t) else -1
theorem ansE {b : Nat → Bool} {v : Nat → Nat} {i j : Nat} (hi : b i = true) (h1 : v i < 100000) (h2 : v j < 100000) : (ans b v j = ans b v i) = (alk b v i j = true) := by
  unfold ans alk
  rw [if_pos hi]
  apply propext
  by_cases c : b j = true
  · rw [if_pos c, eqI (by omega) (by omega)]
    simp [hi, c]
    exact eq_comm
  · rw [if_neg c]
    constructor
    · intro h
      exfalso
      have := congrArg Int32.toInt h
      rw [nI_toInt (by omega)] at this
      have e : (-1 : Int32).toInt = -1 := by decide
      omega
    · intro h; simp [c] at h
theorem cCrowd {N : Nat} (hN : 300 < N) {σ : St} {b : Nat → Bool} {v : Nat → Nat} {n : Nat} (hn : n ≤ 10) (hv : ∀ t, t < n → v t < 100000) (h : ∀ t, t < n → σ.1 65 t = ans b v t) : Gs_largestCrowd N (nI n) σ = some (nI (crw b v n)) := by
  rw [← crwC_e]
  unfold Gs_largestCrowd
  refine loop_up (fun f i a => Gs_largestCrowd_L4 N f (nI n) a (nI i) σ) n (fun i a => a = nI (mxN (fun i => if b i = true then cnN (alk b v i) n - cnN (alk b v i) i else 0) i)) (fun o => o = some (nI (crwC b v n))) ?_ ?_ (by omega) rfl
  · intro f i a hi hI
    have hnn : ¬ n ≤ i := by omega
    refine ⟨_, ?_, rfl⟩
    show Gs_largestCrowd_L4B N (Gs_largestCrowd_L4 N f) (nI n) a (nI i) σ = Gs_largestCrowd_L4 N f (nI n) (nI (max (mxN (fun i => if b i = true then cnN (alk b v i) n - cnN (alk b v i) i else 0) i) (if b i = true then cnN (alk b v i) n - cnN (alk b v i) i else 0))) (nI (i + 1)) σ
    have hm : mxN (fun i => if b i = true then cnN (alk b v i) n - cnN (alk b v i) i else 0) i ≤ n := mxN_le (fun k hk => by
      have := cnN_le (alk b v k) n
      split <;> omega)
    unfold Gs_largestCrowd_L4B
    rw [if_neg (leN hnn (by omega) (by omega)), inI (by omega) (by decide), ck_t, clI (by omega), h i hi]
    by_cases c : b i = true
    · have hc2 := cnN_le (alk b v i) n
      rw [if_neg (by
        unfold ans; rw [if_pos c]
        intro z
        have := congrArg Int32.toInt z
        rw [nI_toInt (by have := hv i hi; omega)] at this
        have e : (-1 : Int32).toInt = -1 := by decide
        omega), if_pos c]
      refine loop_at (fun f' j b' => Gs_largestCrowd_L28 N (Gs_largestCrowd_L4 N f) f' (nI n) a (nI i) b' (nI j) σ) n (fun j b' => i ≤ j ∧ b' = nI (cnN (alk b v i) j - cnN (alk b v i) i)) (fun o => o = Gs_largestCrowd_L4 N f (nI n) (nI (max (mxN (fun i => if b i = true then cnN (alk b v i) n - cnN (alk b v i) i else 0) i) (cnN (alk b v i) n - cnN (alk b v i) i))) (nI (i + 1)) σ) ?_ ?_ (n - i) i N 0 (by omega) (by omega) ⟨Nat.le_refl _, by rw [Nat.sub_self]; rfl⟩
      · intro f' j b' hj ⟨hij, hb'⟩
        have hnj : ¬ n ≤ j := by omega
        have hmo := cnN_mono (alk b v i) hij
        refine ⟨nI (cnN (alk b v i) (j + 1) - cnN (alk b v i) i), ?_, by omega, rfl⟩
        show Gs_largestCrowd_L28B N (Gs_largestCrowd_L4 N f) (Gs_largestCrowd_L28 N (Gs_largestCrowd_L4 N f) f') (nI n) a (nI i) b' (nI j) σ = Gs_largestCrowd_L28 N (Gs_largestCrowd_L4 N f) f' (nI n) a (nI i) (nI (cnN (alk b v i) j + (alk b v i j).toNat - cnN (alk b v i) i)) (nI (j + 1)) σ
        unfold Gs_largestCrowd_L28B Gs_largestCrowd_J53
        rw [if_neg (leN hnj (by omega) (by omega)), inI (by omega) (by decide), ck_t, inI (by omega) (by decide), ck_t, clI (by omega), clI (by omega), h i hi, h j hj, hb', nI_1, nI_1, bI_e, bI_e, bI_e]
        have ae := ansE (j := j) c (hv i hi) (hv j hj)
        by_cases e : alk b v i j = true
        · rw [if_pos (show ans b v j = ans b v i by rw [ae]; exact e), e, show cnN (alk b v i) j - cnN (alk b v i) i + 1 = cnN (alk b v i) j + (true : Bool).toNat - cnN (alk b v i) i by show _ = cnN (alk b v i) j + 1 - cnN (alk b v i) i; omega]
        · rw [if_neg (show ¬ ans b v j = ans b v i by rw [ae]; exact e), show alk b v i j = false by simpa using e]; rfl
      · intro f' b' ⟨hij, hb'⟩
        show Gs_largestCrowd_L28B N (Gs_largestCrowd_L4 N f) (Gs_largestCrowd_L28 N (Gs_largestCrowd_L4 N f) f') (nI n) a (nI i) b' (nI n) σ = _
        unfold Gs_largestCrowd_L28B Gs_largestCrowd_J59 Gs_largestCrowd_J66
        rw [if_pos (Int32.le_refl _), hI, hb', mxI_e (by omega) (by omega), bI_e, nI_1, bI_e]
    · rw [if_pos (by unfold ans; rw [if_neg c]), if_neg c, Nat.max_eq_left (Nat.zero_le _)]
      unfold Gs_largestCrowd_J66
      rw [nI_1, bI_e, hI]
  · intro f a hI
    show Gs_largestCrowd_L4B N (Gs_largestCrowd_L4 N f) (nI n) a (nI n) σ = _
    unfold Gs_largestCrowd_L4B
    rw [if_pos (Int32.le_refl _), hI]; rfl
theorem mAlike {N : Nat} (hN : 300 < N) {σ : St} {b : Nat → Bool} {v : Nat → Nat} {n : Nat} (hn : n ≤ 10) (hv : ∀ t, t < n → v t < 100000) (h : ∀ t, t < n → σ.1 132 t = nI (v t)) : Mo_mostAlike N (mskI b n) (nI n) σ = some (nI (crw b v n)) := by
  unfold Mo_mostAlike
  refine loop_up (fun f i a => Mo_mostAlike_L5 N f (mskI b n) (nI n) a (nI i) σ) n (fun i a => a = nI (mxN (fun a => cnN (alk b v a) n) i)) (fun o => o = some (nI (crw b v n))) ?_ ?_ (by omega) rfl
  · intro f i a hi hI
    have hnn : ¬ n ≤ i := by omega
    refine ⟨_, ?_, rfl⟩
    show Mo_mostAlike_L5B N (Mo_mostAlike_L5 N f) (mskI b n) (nI n) a (nI i) σ = Mo_mostAlike_L5 N f (mskI b n) (nI n) (nI (max (mxN (fun a => cnN (alk b v a) n) i) (cnN (alk b v i) n))) (nI (i + 1)) σ
    have hm : mxN (fun a => cnN (alk b v a) n) i ≤ n := mxN_le (fun k hk => cnN_le _ n)
    have hc2 := cnN_le (alk b v i) n
    unfold Mo_mostAlike_L5B
    rw [if_neg (leN hnn (by omega) (by omega))]
    refine loop_up (fun f' j b' => Mo_mostAlike_L17 N (Mo_mostAlike_L5 N f) f' (mskI b n) (nI n) a (nI i) b' (nI j) σ) n (fun j b' => b' = nI (cnN (alk b v i) j)) (fun o => o = Mo_mostAlike_L5 N f (mskI b n) (nI n) (nI (max (mxN (fun a => cnN (alk b v a) n) i) (cnN (alk b v i) n))) (nI (i + 1)) σ) ?_ ?_ (by omega) rfl
    · intro f' j b' hj hb'
      have hnj : ¬ n ≤ j := by omega
      refine ⟨nI (cnN (alk b v i) (j + 1)), ?_, rfl⟩
      show Mo_mostAlike_L17B N (Mo_mostAlike_L5 N f) (Mo_mostAlike_L17 N (Mo_mostAlike_L5 N f) f') (mskI b n) (nI n) a (nI i) b' (nI j) σ = Mo_mostAlike_L17 N (Mo_mostAlike_L5 N f) f' (mskI b n) (nI n) a (nI i) (nI (cnN (alk b v i) j + (alk b v i j).toNat)) (nI (j + 1)) σ
      unfold Mo_mostAlike_L17B Mo_mostAlike_J61 Mo_mostAlike_J62
      rw [if_neg (leN hnj (by omega) (by omega)), inI (by omega) (by decide), ck_t, inI (by omega) (by decide), ck_t, clI (by omega), clI (by omega), h i hi, h j hj, hb', show (0 : Int32) = nI 0 from rfl, nI_1, nI_1, addI, bI_e, bI_e, bI_e, bI_e]
      have mt := msk_two b (n := n) (s := i) (t := j) (by omega) hi hj
      by_cases c : b i = true ∧ b j = true
      · rw [if_pos (by rw [mt]; exact c)]
        by_cases y : v i = v j
        · rw [if_pos (by rw [y]), show alk b v i j = true by simp [alk, c.1, c.2, y]]; rfl
        · rw [if_neg (neI y (by have := hv i hi; omega) (by have := hv j hj; omega)), show alk b v i j = false by simp [alk, c.1, c.2, y]]; rfl
      · rw [if_neg (by rw [mt]; exact c), show alk b v i j = false by
          unfold alk
          cases e1 : b i
          · rfl
          · cases e2 : b j
            · rfl
            · exact absurd ⟨e1, e2⟩ c]; rfl
    · intro f' b' hb'
      show Mo_mostAlike_L17B N (Mo_mostAlike_L5 N f) (Mo_mostAlike_L17 N (Mo_mostAlike_L5 N f) f') (mskI b n) (nI n) a (nI i) b' (nI n) σ = _
      unfold Mo_mostAlike_L17B Mo_mostAlike_J71 Mo_mostAlike_J83
      rw [if_pos (Int32.le_refl _), hI, hb', nI_1, bI_e, bI_e]
      by_cases c : cnN (alk b v i) n ≤ mxN (fun a => cnN (alk b v a) n) i
      · rw [if_pos (leP c (by omega) (by omega)), Nat.max_eq_left c]
      · rw [if_neg (leN c (by omega) (by omega)), Nat.max_eq_right (by omega)]
  · intro f a hI
    show Mo_mostAlike_L5B N (Mo_mostAlike_L5 N f) (mskI b n) (nI n) a (nI n) σ = _
    unfold Mo_mostAlike_L5B
    rw [if_pos (Int32.le_refl _), hI]; rfl
/-- the next try: the best so far and how many are left open by it -/
def st1 (c : Nat) (code : Int32) (a : Int32 × Nat) : Int32 × Nat := if 1 ≤ c ∧ c < a.2 then (code, c) else a
def Ok1 (a : Int32 × Nat) : Prop := (a = (-1, 99)) ∨ (1 ≤ a.2 ∧ a.2 ≤ 10)
theorem Ok1.st {c : Nat} {code : Int32} {a : Int32 × Nat} (h : Ok1 a) (h2 : c ≤ 10) : Ok1 (st1 c code a) := by
  unfold st1
  by_cases z : 1 ≤ c ∧ c < a.2
  · rw [if_pos z]; exact Or.inr ⟨z.1, h2⟩
  · rw [if_neg z]; exact h
theorem st1_stop {c : Nat} {code : Int32} {a : Int32 × Nat} (h : a.2 ≤ 1) : st1 c code a = a := by
  unfold st1; rw [if_neg (by omega)]
theorem st1_0 {code : Int32} {a : Int32 × Nat} : st1 0 code a = a := by
  unfold st1; rw [if_neg (by omega)]
theorem it_stop {c : Nat → Nat} {code : Nat → Int32} {a : Int32 × Nat} {s n : Nat} (hs : s ≤ n) (h : (itN (fun s a => st1 (c s) (code s) a) s a).2 ≤ 1) : itN (fun s a => st1 (c s) (code s) a) n a = itN (fun s a => st1 (c s) (code s) a) s a := by
  induction n with
  | zero => have : s = 0 := by omega
            subst this; rfl
  | succ n ih =>
    by_cases e : s = n + 1
    · subst e; rfl
    · have i := ih (by omega)
      show st1 (c n) (code n) (itN (fun s a => st1 (c s) (code s) a) n a) = _
      rw [i, st1_stop h]
def srS (cr : Nat → Nat → Nat) (d S : Nat) (a : Int32 × Nat) : Int32 × Nat := itN (fun s a => st1 (cr d s) (nI (100 * d + s)) a) S a
def srD (cr : Nat → Nat → Nat) (S D : Nat) : Int32 × Nat := itN (fun d a => srS cr d S a) D (-1, 99)
theorem srS_stop {cr : Nat → Nat → Nat} {d S : Nat} {a : Int32 × Nat} (h : a.2 ≤ 1) : srS cr d S a = a := it_stop (s := 0) (Nat.zero_le _) h
theorem srS_s (cr : Nat → Nat → Nat) (d S : Nat) (a : Int32 × Nat) : srS cr d (S + 1) a = st1 (cr d S) (nI (100 * d + S)) (srS cr d S a) := rfl
theorem srD_s (cr : Nat → Nat → Nat) (S D : Nat) : srD cr S (D + 1) = srS cr D S (srD cr S D) := rfl
theorem srS_it {cr : Nat → Nat → Nat} {d s S : Nat} {a : Int32 × Nat} (hs : s ≤ S) (h : (srS cr d s a).2 ≤ 1) : srS cr d S a = srS cr d s a := it_stop hs h
theorem srD_stop {cr : Nat → Nat → Nat} {S d D : Nat} (hd : d ≤ D) (h : (srD cr S d).2 ≤ 1) : srD cr S D = srD cr S d := by
  induction D with
  | zero => have : d = 0 := by omega
            subst this; rfl
  | succ D ih =>
    by_cases e : d = D + 1
    · subst e; rfl
    · have i := ih (by omega)
      show srS cr D S (srD cr S D) = _
      rw [i, srS_stop h]
theorem srD_0 {cr : Nat → Nat → Nat} {S D : Nat} (h : ∀ d s, cr d s = 0) : srD cr S D = (-1, 99) := by
  have e : ∀ d S a, srS cr d S a = a := by
    intro d S a
    induction S with
    | zero => rfl
    | succ S ih =>
      show st1 (cr d S) (nI (100 * d + S)) (srS cr d S a) = a
      rw [ih, h, st1_0]
  induction D with
  | zero => rfl
  | succ D ih =>
    show srS cr D S (srD cr S D) = _
    rw [e, ih]
/-- the class's cells, beside what the fold says -/
def Rl (σ : St) (a : Int32 × Nat) (σ' : St) : Prop := (∀ i, i ≠ 64 → i ≠ 65 → σ'.1 i = σ.1 i) ∧ σ'.2 = σ.2 ∧ σ'.1 64 1 = a.1 ∧ σ'.1 64 2 = nI (min 11 a.2) ∧ Ok1 a
theorem Ok1.le {a : Int32 × Nat} (h : Ok1 a) : a.2 ≤ 99 := by
  rcases h with e | e
  · rw [e]; exact Nat.le_refl _
  · omega
theorem cOpen {N : Nat} {σ0 σ : St} {a : Int32 × Nat} (hR : Rl σ0 a σ) : Gs_isOpen N σ = some (if a.2 ≤ 1 then 0 else 1) := by
  have ha := hR.2.2.2.2.le
  unfold Gs_isOpen
  rw [hR.2.2.2.1, show (1 : Int32) = nI 1 from rfl]
  by_cases z : a.2 ≤ 1
  · rw [if_pos (leP (show min 11 a.2 ≤ 1 by omega) (by omega) (by omega)), if_pos z]
  · rw [if_neg (leN (show ¬ min 11 a.2 ≤ 1 by omega) (by omega) (by omega)), if_neg z]
theorem cWeigh {N : Nat} (hN : 300 < N) {σ0 σ : St} {b : Nat → Bool} {v : Nat → Nat} {n : Nat} {a : Int32 × Nat} (hn : n ≤ 10) (hv : ∀ t, t < n → v t < 100000) (h : ∀ t, t < n → σ.1 65 t = ans b v t) (hR : Rl σ0 a σ) (code : Int32) : ∃ σ', Gs_weigh N code (nI n) σ = some σ' ∧ Rl σ0 (st1 (crw b v n) code a) σ' := by
  have hR' := hR
  obtain ⟨r1, r2, r3, r4, r5⟩ := hR
  have hle := crw_le b v n
  have ha := r5.le
  unfold Gs_weigh
  rw [cCrowd hN hn hv h, bR_e, show (0 : Int32) = nI 0 from rfl]
  by_cases y : crw b v n ≤ 0
  · rw [if_pos (leP y (by omega) (by omega))]
    refine ⟨σ, rfl, ?_⟩
    rw [show crw b v n = 0 by omega, st1_0]; exact hR'
  · rw [if_neg (leN y (by omega) (by omega)), r4]
    by_cases z : min 11 a.2 ≤ crw b v n
    · rw [if_pos (leP z (by omega) (by omega))]
      refine ⟨σ, rfl, ?_⟩
      unfold st1; rw [if_neg (by omega)]; exact hR'
    · rw [if_neg (leN z (by omega) (by omega)), bS_e, bS_e]
      refine ⟨_, rfl, fun i h6 h7 => by simp (disch := omega) only [rdI_ne]; exact r1 i h6 h7, r2, ?_, ?_, ?_⟩ <;> unfold st1 <;> rw [if_pos (by omega)]
      · rw [rdI_nk _ _ _ _ (by decide), rdI_eq]
      · rw [rdI_eq]; congr 1; show _ = min 11 (crw b v n); omega
      · exact Or.inr ⟨by show 1 ≤ crw b v n; omega, by show crw b v n ≤ 10; omega⟩
theorem Rl.fill {σ0 σ : St} {a : Int32 × Nat} (h : Rl σ0 a σ) {k : Nat} {x : Int32} : Rl σ0 a (sI σ 65 k x) :=
  ⟨fun i h1 h2 => by rw [rdI_ne _ _ _ _ h2]; exact h.1 i h1 h2, h.2.1, by rw [rdI_ne _ _ _ _ (by decide)]; exact h.2.2.1, by rw [rdI_ne _ _ _ _ (by decide)]; exact h.2.2.2.1, h.2.2.2.2⟩
