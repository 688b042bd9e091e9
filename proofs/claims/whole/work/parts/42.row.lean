/-! what is told, how it hurts -/
theorem neI {a b : Nat} (h : a ≠ b) (ha : a < 2147483648) (hb : b < 2147483648) : ¬ nI a = nI b := fun z => h ((nI_eq ha hb).mp z)
theorem leP {a b : Nat} (h : a ≤ b) (ha : a < 2147483648) (hb : b < 2147483648) : nI a ≤ nI b := (nI_leI ha hb).mpr h
theorem leN {a b : Nat} (h : ¬ a ≤ b) (ha : a < 2147483648) (hb : b < 2147483648) : ¬ nI a ≤ nI b := fun z => h ((nI_leI ha hb).mp z)
theorem ltP {a b : Nat} (h : a < b) (ha : a < 2147483648) (hb : b < 2147483648) : nI a < nI b := (nI_ltI ha hb).mpr h
theorem ltN {a b : Nat} (h : ¬ a < b) (ha : a < 2147483648) (hb : b < 2147483648) : ¬ nI a < nI b := fun z => h ((nI_ltI ha hb).mp z)
def tJ (kd tg w s : Nat) : Nat := if kd = 1 then tg + 3 else if kd = 2 then w else if kd = 3 then w + s / 6 else if kd = 4 then (if 10 ≤ s then w + s / 6 else 0) else if kd = 5 then (if s % 2 = 0 then tg + 3 else tg + 1) else tg
def toldN (kd tg d s : Nat) : Nat := tJ kd tg (if 4 ≤ d then tg else 0) s
theorem told_cJ {kd tg w s : Nat} (hk : kd < 1000) (ht : tg < 100000) (hs : s < 100000) : Ro_toldBy_J20 (nI kd) (nI s) (nI tg) (nI (tg + 3)) (nI w) = nI (tJ kd tg w s) := by
  unfold Ro_toldBy_J20 tJ
  rw [show (6 : Int32) = nI 6 from rfl, show (10 : Int32) = nI 10 from rfl, show (2 : Int32) = nI 2 from rfl, show (0 : Int32) = nI 0 from rfl, show (1 : Int32) = nI 1 from rfl, show (3 : Int32) = nI 3 from rfl, show (4 : Int32) = nI 4 from rfl, show (5 : Int32) = nI 5 from rfl, divI (by omega) (by omega) (by omega), divI (by omega) (by omega) (by omega), mulI, subI (by omega), subI (by omega), addI]
  by_cases k1 : kd = 1
  · rw [if_pos (by rw [k1]), if_pos k1]
  rw [if_neg (neI k1 (by omega) (by omega)), if_neg k1]
  by_cases k2 : kd = 2
  · rw [if_pos (by rw [k2]), if_pos k2]
  rw [if_neg (neI k2 (by omega) (by omega)), if_neg k2]
  by_cases k3 : kd = 3
  · rw [if_pos (by rw [k3]), if_pos k3]
  rw [if_neg (neI k3 (by omega) (by omega)), if_neg k3]
  by_cases k4 : kd = 4
  · rw [if_pos (by rw [k4]), if_pos k4]
    by_cases c : 10 ≤ s
    · rw [if_pos (leP c (by omega) (by omega)), if_pos c]
    · rw [if_neg (leN c (by omega) (by omega)), if_neg c]
  rw [if_neg (neI k4 (by omega) (by omega)), if_neg k4]
  by_cases k5 : kd = 5
  · rw [if_pos (by rw [k5]), if_pos k5]
    by_cases c : s % 2 = 0
    · rw [if_pos (by rw [show s - s / 2 * 2 = 0 by omega]), if_pos c]
    · rw [if_neg (neI (by omega) (by omega) (by omega)), if_neg c]
      unfold mxI
      rw [if_pos (ltP (by omega) (by omega) (by omega))]; rfl
  rw [if_neg (neI k5 (by omega) (by omega)), if_neg k5]
theorem told_c {kd tg d s : Nat} (hk : kd < 1000) (ht : tg < 100000) (hd : d < 100000) (hs : s < 100000) : Ro_toldBy (nI kd) (nI tg) (nI d) (nI s) = nI (toldN kd tg d s) := by
  unfold Ro_toldBy toldN
  rw [show (3 : Int32) = nI 3 from rfl, addI, show (4 : Int32) = nI 4 from rfl, show (0 : Int32) = nI 0 from rfl]
  by_cases c : 4 ≤ d
  · rw [if_pos (leP c (by omega) (by omega)), if_pos c, told_cJ hk ht hs]
  · rw [if_neg (leN c (by omega) (by omega)), if_neg c, told_cJ hk ht hs]
theorem told_mJ {kd tg w s : Nat} (hk : kd < 1000) (ht : tg < 100000) (hs : s < 100000) : Mo_tells_J10 (nI kd) (nI tg) (nI s) (nI w) = nI (tJ kd tg w s) := by
  unfold Mo_tells_J10 tJ
  rw [show (6 : Int32) = nI 6 from rfl, show (10 : Int32) = nI 10 from rfl, show (2 : Int32) = nI 2 from rfl, show (0 : Int32) = nI 0 from rfl, show (1 : Int32) = nI 1 from rfl, show (3 : Int32) = nI 3 from rfl, show (4 : Int32) = nI 4 from rfl, show (5 : Int32) = nI 5 from rfl, divI (by omega) (by omega) (by omega), divI (by omega) (by omega) (by omega), mulI, subI (by omega), addI, addI, addI]
  by_cases k1 : kd = 1
  · rw [if_pos (by rw [k1]), if_pos k1]
  rw [if_neg (neI k1 (by omega) (by omega)), if_neg k1]
  by_cases k2 : kd = 2
  · rw [if_pos (by rw [k2]), if_pos k2]
  rw [if_neg (neI k2 (by omega) (by omega)), if_neg k2]
  by_cases k3 : kd = 3
  · rw [if_pos (by rw [k3]), if_pos k3]
  rw [if_neg (neI k3 (by omega) (by omega)), if_neg k3]
  by_cases k4 : kd = 4
  · rw [if_pos (by rw [k4]), if_pos k4]
    by_cases c : 10 ≤ s
    · rw [if_pos (leP c (by omega) (by omega)), if_pos c]
    · rw [if_neg (leN c (by omega) (by omega)), if_neg c]
  rw [if_neg (neI k4 (by omega) (by omega)), if_neg k4]
  by_cases k5 : kd = 5
  · rw [if_pos (by rw [k5]), if_pos k5]
    by_cases c : s % 2 = 0
    · rw [if_neg (neI (by omega) (by omega) (by omega)), if_pos c]
    · rw [if_pos (by rw [show s - s / 2 * 2 = 1 by omega]), if_neg c]
  rw [if_neg (neI k5 (by omega) (by omega)), if_neg k5]
theorem told_m {kd tg d s : Nat} (hk : kd < 1000) (ht : tg < 100000) (hd : d < 100000) (hs : s < 100000) : Mo_tells (nI kd) (nI tg) (nI d) (nI s) = nI (toldN kd tg d s) := by
  unfold Mo_tells toldN
  rw [show (4 : Int32) = nI 4 from rfl, show (0 : Int32) = nI 0 from rfl]
  by_cases c : 4 ≤ d
  · rw [if_pos (leP c (by omega) (by omega)), if_pos c, told_mJ hk ht hs]
  · rw [if_neg (leN c (by omega) (by omega)), if_neg c, told_mJ hk ht hs]
theorem toldN_lt {kd tg d s : Nat} (ht : tg < 1000) (hs : s < 6000) : toldN kd tg d s < 3000 := by
  unfold toldN tJ
  have : s / 6 < 1000 := by omega
  repeat' (first | omega | split)
theorem mnI_e {a b : Nat} (ha : a < 2147483648) (hb : b < 2147483648) : mnI (nI a) (nI b) = nI (min a b) := by
  unfold mnI
  by_cases c : b < a
  · rw [if_pos (ltP c hb ha), Nat.min_eq_right (by omega)]
  · rw [if_neg (ltN c hb ha), Nat.min_eq_left (by omega)]
theorem less_e {a b : Nat} (ha : a < 2147483648) (hb : b < 2147483648) : Mo_less (nI a) (nI b) = nI (min a b) := by
  unfold Mo_less
  by_cases c : b ≤ a
  · rw [if_pos (leP c hb ha), Nat.min_eq_right c]
  · rw [if_neg (leN c hb ha), Nat.min_eq_left (by omega)]
def hJ (kd m proud soft vain : Nat) : Nat := if kd = 1 then proud else if kd = 2 then soft else if kd = 3 then vain else if kd = 4 then (if 3 ≤ m then vain else 0) else if kd = 5 then min 9 soft else m
def hurtN (kd h k m d : Nat) : Nat := hJ kd m (if 5 ≤ d then m else 2 * m) (if m = 0 then 0 else m + (h - k) / 4) (if m = 0 then (if 5 ≤ d then m else 2 * m) else (if 5 ≤ d then m else 2 * m) + 3)
theorem hurt_cJ {kd m p f v : Nat} (hk : kd < 1000) (hm : m < 100000) (hf : f < 100000) : Gu_hurtOf_J52 (nI kd) (nI m) (nI m) (nI p) (nI f) (nI v) = nI (hJ kd m p f v) := by
  unfold Gu_hurtOf_J52 hJ
  rw [show (2 : Int32) = nI 2 from rfl, show (0 : Int32) = nI 0 from rfl, show (1 : Int32) = nI 1 from rfl, show (3 : Int32) = nI 3 from rfl, show (4 : Int32) = nI 4 from rfl, show (5 : Int32) = nI 5 from rfl, show (9 : Int32) = nI 9 from rfl]
  by_cases k1 : kd = 1
  · rw [if_pos (by rw [k1]), if_pos k1]
  rw [if_neg (neI k1 (by omega) (by omega)), if_neg k1]
  by_cases k2 : kd = 2
  · rw [if_pos (by rw [k2]), if_pos k2]
  rw [if_neg (neI k2 (by omega) (by omega)), if_neg k2]
  by_cases k3 : kd = 3
  · rw [if_pos (by rw [k3]), if_pos k3]
  rw [if_neg (neI k3 (by omega) (by omega)), if_neg k3]
  by_cases k4 : kd = 4
  · rw [if_pos (by rw [k4]), if_pos k4]
    by_cases c : 3 ≤ m
    · rw [if_pos (leP c (by omega) (by omega)), if_pos c]
    · rw [if_neg (leN c (by omega) (by omega)), if_neg c]
  rw [if_neg (neI k4 (by omega) (by omega)), if_neg k4]
  by_cases k5 : kd = 5
  · rw [if_pos (by rw [k5]), if_pos k5, mnI_e (by omega) (by omega)]
  rw [if_neg (neI k5 (by omega) (by omega)), if_neg k5]
theorem hurt_mJ {kd m p f v : Nat} (hk : kd < 1000) (hm : m < 100000) (hf : f < 100000) : Mo_hurts_J45 (nI kd) (nI m) (nI p) (nI f) (nI v) = nI (hJ kd m p f v) := by
  unfold Mo_hurts_J45 hJ
  rw [show (2 : Int32) = nI 2 from rfl, show (0 : Int32) = nI 0 from rfl, show (1 : Int32) = nI 1 from rfl, show (3 : Int32) = nI 3 from rfl, show (4 : Int32) = nI 4 from rfl, show (5 : Int32) = nI 5 from rfl, show (9 : Int32) = nI 9 from rfl]
  by_cases k1 : kd = 1
  · rw [if_pos (by rw [k1]), if_pos k1]
  rw [if_neg (neI k1 (by omega) (by omega)), if_neg k1]
  by_cases k2 : kd = 2
  · rw [if_pos (by rw [k2]), if_pos k2]
  rw [if_neg (neI k2 (by omega) (by omega)), if_neg k2]
  by_cases k3 : kd = 3
  · rw [if_pos (by rw [k3]), if_pos k3]
  rw [if_neg (neI k3 (by omega) (by omega)), if_neg k3]
  by_cases k4 : kd = 4
  · rw [if_pos (by rw [k4]), if_pos k4]
    by_cases c : 3 ≤ m
    · rw [if_pos (leP c (by omega) (by omega)), if_pos c]
    · rw [if_neg (leN c (by omega) (by omega)), if_neg c]
  rw [if_neg (neI k4 (by omega) (by omega)), if_neg k4]
  by_cases k5 : kd = 5
  · rw [if_pos (by rw [k5]), if_pos k5, less_e (by omega) (by omega)]
  rw [if_neg (neI k5 (by omega) (by omega)), if_neg k5]
theorem hurt_c {kd h k m d : Nat} (hk : kd < 1000) (hh : h < 10000) (hkh : k ≤ h) (hm : m < 10000) (hd : d < 10000) : Gu_hurtOf (nI kd) (nI h) (nI k) (nI m) (nI d) = nI (hurtN kd h k m d) := by
  unfold Gu_hurtOf Gu_hurtOf_J18 Gu_hurtOf_J37 hurtN
  rw [show (5 : Int32) = nI 5 from rfl, show (2 : Int32) = nI 2 from rfl, show (0 : Int32) = nI 0 from rfl, show (3 : Int32) = nI 3 from rfl, show (4 : Int32) = nI 4 from rfl, mulI, subI hkh, divI (by omega) (by omega) (by omega), addI, addI, addI]
  by_cases c : 5 ≤ d
  · rw [if_pos (leP c (by omega) (by omega)), if_pos c]
    by_cases z : m = 0
    · subst z
      rw [if_pos rfl, if_pos rfl, if_pos rfl, if_pos rfl, hurt_cJ hk (by omega) (by omega)]
    · rw [if_neg (neI z (by omega) (by omega)), if_neg (neI z (by omega) (by omega)), if_neg z, if_neg z, hurt_cJ hk (by omega) (by omega)]
  · rw [if_neg (leN c (by omega) (by omega)), if_neg c]
    by_cases z : m = 0
    · subst z
      rw [if_pos rfl, if_pos rfl, if_pos rfl, if_pos rfl, hurt_cJ hk (by omega) (by omega)]
    · rw [if_neg (neI z (by omega) (by omega)), if_neg (neI z (by omega) (by omega)), if_neg z, if_neg z, hurt_cJ hk (by omega) (by omega)]
theorem hurt_m {kd h k m d : Nat} (hk : kd < 1000) (hh : h < 10000) (hkh : k ≤ h) (hm : m < 10000) (hd : d < 10000) : Mo_hurts (nI kd) (nI h) (nI k) (nI m) (nI d) = nI (hurtN kd h k m d) := by
  unfold Mo_hurts Mo_hurts_J13 Mo_hurts_J30 hurtN
  rw [show (5 : Int32) = nI 5 from rfl, show (2 : Int32) = nI 2 from rfl, show (0 : Int32) = nI 0 from rfl, show (3 : Int32) = nI 3 from rfl, show (4 : Int32) = nI 4 from rfl, mulI, subI hkh, divI (by omega) (by omega) (by omega), addI, addI, addI]
  by_cases c : 5 ≤ d
  · rw [if_pos (leP c (by omega) (by omega)), if_pos c]
    by_cases z : m = 0
    · subst z
      rw [if_pos rfl, if_pos rfl, if_pos rfl, if_pos rfl, hurt_mJ hk (by omega) (by omega)]
    · rw [if_neg (neI z (by omega) (by omega)), if_neg (neI z (by omega) (by omega)), if_neg z, if_neg z, hurt_mJ hk (by omega) (by omega)]
  · rw [if_neg (leN c (by omega) (by omega)), if_neg c]
    by_cases z : m = 0
    · subst z
      rw [if_pos rfl, if_pos rfl, if_pos rfl, if_pos rfl, hurt_mJ hk (by omega) (by omega)]
    · rw [if_neg (neI z (by omega) (by omega)), if_neg (neI z (by omega) (by omega)), if_neg z, if_neg z, hurt_mJ hk (by omega) (by omega)]
theorem hurtN_lt {kd h k m d : Nat} (hh : h ≤ 40) (hm : m < 4000) : hurtN kd h k m d < 10000 := by
  unfold hurtN hJ
  have : (h - k) / 4 ≤ 10 := by omega
  by_cases z : m = 0 <;> by_cases c : 5 ≤ d <;> simp only [z, c, if_true, if_false] <;> split <;> (try split) <;> (try split) <;> (try split) <;> (try split) <;> omega
/-! a guest is rowed: x spells kind, hope, knows, hurt, place, gone -/
def OkX (x : QS) : Prop := x 0 ≤ 5 ∧ (1 ≤ x 1 ∧ x 1 ≤ 40) ∧ x 2 ≤ x 1 ∧ x 3 ≤ 999 ∧ x 4 ≤ 7 ∧ x 5 ≤ 999
def gonN (q x : QS) (p : Nat) : Nat := min 999 (x 5 + stq q (x 4) p)
def heaN (q : QS) (kd tg : Nat) (x : QS) (p : Nat) : Nat := min (toldN kd tg (q p) (gonN q x p)) (x 1 - x 2)
def hrtN (q : QS) (kd tg : Nat) (x : QS) (p : Nat) : Nat := min 999 (x 3 + hurtN (x 0) (x 1) (x 2) (heaN q kd tg x p) (q p))
def knwN (q : QS) (kd tg : Nat) (x : QS) (p : Nat) : Nat := x 2 + heaN q kd tg x p
def rowX (q : QS) (kd tg : Nat) (x : QS) (p : Nat) : QS := updQ (updQ (updQ (updQ x 5 (gonN q x p)) 4 p) 3 (hrtN q kd tg x p)) 2 (knwN q kd tg x p)
theorem OkX.row {q x : QS} {kd tg p : Nat} (h : OkX x) (hp : p < 8) : OkX (rowX q kd tg x p) := by
  obtain ⟨h0, h1, h2, h3, h4, h5⟩ := h
  unfold rowX
  refine ⟨?_, ?_, ?_, ?_, ?_, ?_⟩ <;> simp (disch := omega) only [updQ_s, updQ_n]
  · exact h0
  · exact h1
  · unfold knwN heaN; omega
  · unfold hrtN; omega
  · omega
  · unfold gonN; omega
theorem stq_le {q : QS} (hb : BD q) {a b : Nat} (ha : a < 8) (hb' : b < 8) : stq q a b ≤ 9 := by
  unfold stq
  by_cases z : a = b
  · rw [if_pos z]; omega
  · rw [if_neg z]; exact hb _ (cnl_rng a ha b hb' z).2
theorem cCarry {N n gc rc : Nat} {q x : QS} {σ : St} {kd tg p : Nat} (hb : BD q) (hc : CanC n q σ) (hd : ∀ p, p < 8 → σ.1 (n + 1) p = nI (q p)) (hr : σ.1 rc 0 = nI kd ∧ σ.1 rc 1 = nI tg) (hkd : kd ≤ 5) (htg : tg ≤ 9) (hx : OkX x) (hg : ∀ f, f < 6 → σ.1 gc f = nI (x f)) (h1 : gc ≠ n + 1) (h2 : gc ≠ rc) (hp : p < 8) :
    Ni_carry N n gc rc (nI p) σ = some (sI (sI (sI (sI σ gc 5 (nI (gonN q x p))) gc 4 (nI p)) gc 3 (nI (hrtN q kd tg x p))) gc 2 (nI (knwN q kd tg x p))) := by
  obtain ⟨x0, x1, x2, x3, x4, x5⟩ := hx
  have hs := stq_le hb (a := x 4) (b := p) (by omega) hp
  have hqp : q p ≤ 9 := hb p (by omega)
  have hgo : gonN q x p ≤ 999 := by unfold gonN; omega
  have ht := toldN_lt (kd := kd) (tg := tg) (d := q p) (s := gonN q x p) (by omega) (by omega)
  have hh : heaN q kd tg x p ≤ 40 := by unfold heaN; omega
  have hu := hurtN_lt (kd := x 0) (h := x 1) (k := x 2) (m := heaN q kd tg x p) (d := q p) (by omega) (by omega)
  simp only [Ni_carry, hg 4 (by decide), gSt hc (show x 4 < 8 by omega) hp, bR_e, Gu_goTo, Ro_tells, Gu_hear, Gu_takenIn, bS_e, hg 5 (by decide)]
  rw [addI, show (999 : Int32) = nI 999 from rfl, mnI_e (by omega) (by omega), show min 999 (x 5 + stq q (x 4) p) = gonN q x p from rfl]
  rw [inI (n := 8) hp (by decide), ck_t, ck_t, clI (a := p) (by omega)]
  simp (disch := omega) only [rdI_ne, rdI_eq, rdI_nk, hd p hp, hr.1, hr.2, hg 0 (by decide), hg 1 (by decide), hg 2 (by decide), hg 3 (by decide), told_c, subI, mnI_e, addI]
  rw [show min (toldN kd tg (q p) (gonN q x p)) (x 1 - x 2) = heaN q kd tg x p from rfl]
  rw [hurt_c (by omega) (by omega) (by omega) (by omega) (by omega), addI, mnI_e (by omega) (by omega)]
  rfl
