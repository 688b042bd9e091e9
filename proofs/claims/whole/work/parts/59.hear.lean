/-! odds, mean -/
theorem gB_in (x : Int32) {k : Nat} (hk : k < 32) : (x &&& bitI k = 0) = (gB x k = false) := by
  apply propext
  constructor
  · intro h
    have := congrArg (fun z => gB z k) h
    simp only [gB_and, gB_0, gB_bit hk] at this
    simpa using this
  · intro h
    refine gB_ext (fun j hj => ?_)
    rw [gB_and, gB_0, gB_bit hk]
    by_cases e : k = j
    · subst e; simp [h]
    · simp [e]
theorem gB_has (x : Int32) {k : Nat} (hk : k < 31) : Mo_has x (nI k) = if gB x k = true then 1 else 0 := by
  have e : (x >>> (nI k &&& 31) &&& 1 = 1) = (gB x k = true) := by rw [and1, shr_0 _ hk]
  unfold Mo_has
  by_cases c : gB x k = true
  · rw [if_pos (by rw [e]; exact c), if_pos c]
  · rw [if_neg (by rw [e]; exact c), if_neg c]
theorem bit_pow : ∀ l, l ≤ 7 → (1 : Int32) <<< (nI l &&& 31) = nI (2 ^ l) := by decide +kernel
theorem cmp0 {b : Nat} (h : b < 2 ^ 62) : lg_cmp (lN b) 0 = if b = 0 then 0 else 1 := by
  unfold lg_cmp
  rw [show (0 : Int64) = lN 0 from rfl]
  by_cases z : b = 0
  · subst z; rw [if_neg (by simp [Int64.lt_iff_toInt_lt]), if_pos rfl, if_pos rfl]
  · rw [if_pos (show lN b > lN 0 from (pk_lLT (by omega) (by omega)).mpr (by omega)), if_neg z]
theorem l_ne0 {b : Nat} (h : b < 2 ^ 62) (h0 : b ≠ 0) : ¬ lN b = 0 := fun z => h0 ((pk_lEQ (b := 0) (by omega) (by omega)).mp z)
theorem gcd_half {a b n : Nat} (hb : b ≠ 0) (hab : b < a) (h : a * b < 2 ^ (n + 1)) : b * (a % b) < 2 ^ n := by
  have h1 : a % b < b := Nat.mod_lt _ (by omega)
  have h2 : b + a % b ≤ a := by
    have := Nat.div_add_mod a b
    have h3 : 1 ≤ a / b := Nat.div_pos (by omega) (by omega)
    have h4 : b * 1 ≤ b * (a / b) := Nat.mul_le_mul_left b h3
    omega
  have h5 : (b + a % b) * b ≤ a * b := Nat.mul_le_mul_right b h2
  have h6 : (a % b + a % b) * b ≤ (b + a % b) * b := Nat.mul_le_mul_right b (by omega)
  have h7 : (a % b + a % b) * b = b * (a % b) + b * (a % b) := by rw [Nat.add_mul, Nat.mul_comm (a % b) b]
  have h8 : 2 ^ (n + 1) = 2 ^ n + 2 ^ n := by rw [Nat.pow_succ]; omega
  omega
theorem cGcd {N : Nat} {σ : St} {v1 v3 : Int64} : ∀ (n a b i F : Nat), b < a → a < 2 ^ 62 → a * b < 2 ^ n → i + n < 100 → He_setFraction_L9 N (F + n + 1) v1 v3 (lN a) (lN b) (nI i) σ = He_setFraction_J44 N v1 v3 (lN (Nat.gcd a b)) σ := by
  intro n
  induction n with
  | zero =>
    intro a b i F hab ha h hi
    have hb : b = 0 := by
      rcases Nat.eq_zero_or_pos b with z | z
      · exact z
      · have := Nat.mul_le_mul (show 1 ≤ a by omega) z
        omega
    subst hb
    show He_setFraction_L9B N (He_setFraction_L9 N (F + 0)) v1 v3 (lN a) (lN 0) (nI i) σ = _
    unfold He_setFraction_L9B
    rw [if_neg (show ¬ (100 : Int32) ≤ nI i from leN (a := 100) (by omega) (by decide) (by omega)), cmp0 (by omega), if_pos rfl, if_pos rfl, Nat.gcd_zero_right]
  | succ n ih =>
    intro a b i F hab ha h hi
    show He_setFraction_L9B N (He_setFraction_L9 N (F + (n + 1))) v1 v3 (lN a) (lN b) (nI i) σ = _
    unfold He_setFraction_L9B
    rw [if_neg (show ¬ (100 : Int32) ≤ nI i from leN (a := 100) (by omega) (by decide) (by omega)), cmp0 (by omega)]
    by_cases z : b = 0
    · subst z; rw [if_pos rfl, if_pos rfl, Nat.gcd_zero_right]
    · rw [if_neg z, if_neg one_ne, if_neg (l_ne0 (by omega) z), pk_lRem (by omega) (by omega) (by omega), bL_e, nI_1, bI_e]
      have hm : a % b < b := Nat.mod_lt _ (by omega)
      rw [show F + (n + 1) = F + n + 1 by omega, ih b (a % b) (i + 1) F hm (by omega) (gcd_half z hab h) (by omega), Nat.gcd_comm a b, Nat.gcd_rec b a, Nat.gcd_comm]
theorem mGcd {N : Nat} {σ : St} {v1 v3 : Int64} : ∀ (n a b F : Nat), b < a → a < 2 ^ 62 → a * b < 2 ^ n → Mo_tellsPart_L6 N (F + n + 1) v1 v3 (lN a) (lN b) σ = Mo_tellsPart_J31 N v1 v3 (lN (Nat.gcd a b)) σ := by
  intro n
  induction n with
  | zero =>
    intro a b F hab ha h
    have hb : b = 0 := by
      rcases Nat.eq_zero_or_pos b with z | z
      · exact z
      · have := Nat.mul_le_mul (show 1 ≤ a by omega) z
        omega
    subst hb
    show Mo_tellsPart_L6B N (Mo_tellsPart_L6 N (F + 0)) v1 v3 (lN a) (lN 0) σ = _
    unfold Mo_tellsPart_L6B
    rw [cmp0 (by omega), if_pos rfl, if_pos rfl, Nat.gcd_zero_right]
  | succ n ih =>
    intro a b F hab ha h
    show Mo_tellsPart_L6B N (Mo_tellsPart_L6 N (F + (n + 1))) v1 v3 (lN a) (lN b) σ = _
    unfold Mo_tellsPart_L6B
    rw [cmp0 (by omega)]
    by_cases z : b = 0
    · subst z; rw [if_pos rfl, if_pos rfl, Nat.gcd_zero_right]
    · rw [if_neg z, if_neg one_ne, if_neg (l_ne0 (by omega) z), pk_lRem (by omega) (by omega) (by omega), bL_e]
      have hm : a % b < b := Nat.mod_lt _ (by omega)
      rw [show F + (n + 1) = F + n + 1 by omega, ih b (a % b) F hm (by omega) (gcd_half z hab h), Nat.gcd_comm a b, Nat.gcd_rec b a, Nat.gcd_comm]
theorem cFrac {N : Nat} (hN : 300 < N) {σ : St} {S T : Nat} (hS : S < 2 ^ 62) (hT : 0 < T) (hT2 : T ≤ 10000000) : He_setFraction N (lN S) (lN T) σ = some (sL (sL σ 69 1 (lN S / lN (Nat.gcd S T))) 69 2 (lN T / lN (Nat.gcd S T))) := by
  have hm : S % T < T := Nat.mod_lt _ hT
  have hg : Nat.gcd S T ≠ 0 := fun z => by rw [Nat.gcd_eq_zero_iff] at z; omega
  have hgl : Nat.gcd S T ≤ T := Nat.gcd_le_right _ hT
  have hp : T * (S % T) < 2 ^ 48 := by
    have h1 : T * (S % T) ≤ 10000000 * 10000000 := Nat.mul_le_mul hT2 (by omega)
    have : (10000000 * 10000000 : Nat) < 2 ^ 48 := by decide
    omega
  have e1 : He_setFraction N (lN S) (lN T) σ = He_setFraction_J44 N (lN S) (lN T) (lN (Nat.gcd S T)) σ := by
    unfold He_setFraction
    obtain ⟨F, hF⟩ : ∃ F, N = F + 48 + 1 + 1 := ⟨N - 50, by omega⟩
    have : He_setFraction_L9 N (F + 48 + 1 + 1) (lN S) (lN T) (lN S) (lN T) 0 σ = He_setFraction_J44 N (lN S) (lN T) (lN (Nat.gcd S T)) σ := by
      show He_setFraction_L9B N (He_setFraction_L9 N (F + 48 + 1)) (lN S) (lN T) (lN S) (lN T) (nI 0) σ = _
      unfold He_setFraction_L9B
      rw [if_neg (show ¬ (100 : Int32) ≤ nI 0 by decide), cmp0 (by omega), if_neg (show ¬ T = 0 by omega), if_neg one_ne, if_neg (l_ne0 (by omega) (by omega)), pk_lRem (by omega) (by omega) (by omega), bL_e, nI_1, bI_e, cGcd 48 T (S % T) (0 + 1) F hm (by omega) hp (by omega), Nat.gcd_comm S T, Nat.gcd_rec T S, Nat.gcd_comm]
    rw [← hF] at this; exact this
  rw [e1]
  unfold He_setFraction_J44
  rw [cmp0 (by omega), if_neg hg, if_neg (by decide), if_neg (l_ne0 (by omega) hg), bS_e, if_neg (l_ne0 (by omega) hg), bS_e]
theorem mFrac {N : Nat} (hN : 300 < N) {σ : St} {S T : Nat} (hS : S < 2 ^ 62) (hT : 0 < T) (hT2 : T ≤ 10000000) : Mo_tellsPart N (lN S) (lN T) σ = some (sL (sL σ 114 6 (lN S / lN (Nat.gcd S T))) 114 7 (lN T / lN (Nat.gcd S T))) := by
  have hm : S % T < T := Nat.mod_lt _ hT
  have hg : Nat.gcd S T ≠ 0 := fun z => by rw [Nat.gcd_eq_zero_iff] at z; omega
  have hgl : Nat.gcd S T ≤ T := Nat.gcd_le_right _ hT
  have hp : T * (S % T) < 2 ^ 48 := by
    have h1 : T * (S % T) ≤ 10000000 * 10000000 := Nat.mul_le_mul hT2 (by omega)
    have : (10000000 * 10000000 : Nat) < 2 ^ 48 := by decide
    omega
  have e1 : Mo_tellsPart N (lN S) (lN T) σ = Mo_tellsPart_J31 N (lN S) (lN T) (lN (Nat.gcd S T)) σ := by
    unfold Mo_tellsPart
    obtain ⟨F, hF⟩ : ∃ F, N = F + 48 + 1 + 1 := ⟨N - 50, by omega⟩
    have : Mo_tellsPart_L6 N (F + 48 + 1 + 1) (lN S) (lN T) (lN S) (lN T) σ = Mo_tellsPart_J31 N (lN S) (lN T) (lN (Nat.gcd S T)) σ := by
      show Mo_tellsPart_L6B N (Mo_tellsPart_L6 N (F + 48 + 1)) (lN S) (lN T) (lN S) (lN T) σ = _
      unfold Mo_tellsPart_L6B
      rw [cmp0 (by omega), if_neg (show ¬ T = 0 by omega), if_neg one_ne, if_neg (l_ne0 (by omega) (by omega)), pk_lRem (by omega) (by omega) (by omega), bL_e, mGcd 48 T (S % T) F hm (by omega) hp, Nat.gcd_comm S T, Nat.gcd_rec T S, Nat.gcd_comm]
    rw [← hF] at this; exact this
  rw [e1]
  unfold Mo_tellsPart_J31
  rw [if_neg (l_ne0 (by omega) hg), bS_e, if_neg (l_ne0 (by omega) hg), bS_e]
/-- along the way, deaf at some places -/
def haX (q : QS) (kd tg : Nat) (P : Nat → Nat) (df : Nat) (x : QS) (k : Nat) : QS := itN (fun k x => if gB (nI df) k = true then sitX q x (P k) else rowX q kd tg x (P k)) k x
theorem haX_s (q : QS) (kd tg : Nat) (P : Nat → Nat) (df : Nat) (x : QS) (k : Nat) : haX q kd tg P df x (k + 1) = if gB (nI df) k = true then sitX q (haX q kd tg P df x k) (P k) else rowX q kd tg (haX q kd tg P df x k) (P k) := rfl
def wgt (df c n : Nat) : Nat := itN (fun k a => a * (if gB (nI df) k = true then c else 10 - c)) n 1
theorem wgt_s (df c n : Nat) : wgt df c (n + 1) = wgt df c n * (if gB (nI df) n = true then c else 10 - c) := rfl
theorem wgt_le {df c : Nat} (hc : c ≤ 10) (n : Nat) : wgt df c n ≤ 10 ^ n := by
  induction n with
  | zero => exact Nat.le_refl _
  | succ n ih =>
    rw [wgt_s, Nat.pow_succ]
    exact Nat.mul_le_mul ih (by split <;> omega)
theorem sitX_ok {q x : QS} {p : Nat} (h : OkX x) (hp : p < 8) : OkX (sitX q x p) ∧ sitX q x p 0 = x 0 ∧ sitX q x p 1 = x 1 := by
  obtain ⟨h0, h1, h2, h3, h4, h5⟩ := h
  unfold sitX
  refine ⟨⟨?_, ?_, ?_, ?_, ?_, ?_⟩, ?_, ?_⟩ <;> simp (disch := omega) only [updQ_s, updQ_n]
  · exact h0
  · exact h1
  · exact h2
  · exact h3
  · omega
  · unfold gonN; omega
theorem haX_ok {q : QS} {kd tg : Nat} {P : Nat → Nat} {df : Nat} {x : QS} {n : Nat} (hx : OkX x) (hP : ∀ i, i < n → P i < 8) {k : Nat} (hk : k ≤ n) : OkX (haX q kd tg P df x k) ∧ haX q kd tg P df x k 0 = x 0 ∧ haX q kd tg P df x k 1 = x 1 := by
  induction k with
  | zero => exact ⟨hx, rfl, rfl⟩
  | succ k ih =>
    obtain ⟨i1, i2, i3⟩ := ih (by omega)
    rw [haX_s]
    split
    · obtain ⟨o1, o2, o3⟩ := sitX_ok (q := q) i1 (hP k (by omega))
      exact ⟨o1, o2.trans i2, o3.trans i3⟩
    · obtain ⟨r0, r1⟩ := rowX_01 q kd tg (haX q kd tg P df x k) (P k)
      exact ⟨i1.row (hP k (by omega)), r0.trans i2, r1.trans i3⟩
/-- the class goes along -/
def F70 (σ σ' : St) : Prop := (∀ i, i ≠ 70 → σ'.1 i = σ.1 i) ∧ σ'.2 = σ.2
theorem cAlong {N : Nat} (hN : 300 < N) {q : QS} {σ : St} (hq : Okq q) (h : NR 1 q σ) {g r df : Nat} (hg : g < q 37) (hr : r < q 36) {w : WS} (hw : WOk w) (hC : CW w σ) : ∃ σ', He_goAlong N 1 (1 + 16 + g) (1 + 13 + r) (nI df) σ = some σ' ∧ (∀ f, f < 6 → σ'.1 70 f = nI (haX q (q (38 + r)) (q (41 + r)) w.2.1 df (qX q g) w.1.1 f)) ∧ F70 σ σ' := by
  obtain ⟨b1, b2, b3, b4, b5, b6, b7⟩ := hq.b
  have h36 := b2.1
  have h37 := b3.1
  have hl := hw.1
  obtain ⟨kd1, tg1⟩ := b2.2 r hr
  obtain ⟨s0, g0, k1, k2, k3⟩ := gTake (N := N) (t := 70) (c := 1 + 16 + g) (σ := σ) (x := qX q g) (fun f hf => h.gst (by omega) hf hg) (by omega)
  unfold He_goAlong
  rw [g0, bR_e]
  refine loop_up (fun f k s => He_goAlong_L11 N f 1 (1 + 13 + r) (nI df) (nI k) s) w.1.1 (fun k s => (∀ f, f < 6 → s.1 70 f = nI (haX q (q (38 + r)) (q (41 + r)) w.2.1 df (qX q g) k f)) ∧ F70 σ s) (fun o => ∃ σ', o = some σ' ∧ (∀ f, f < 6 → σ'.1 70 f = nI (haX q (q (38 + r)) (q (41 + r)) w.2.1 df (qX q g) w.1.1 f)) ∧ F70 σ σ') ?_ ?_ (by omega) ⟨k1, k2, k3⟩
  · intro f k s hk ⟨i1, i2⟩
    have hn : ¬ w.1.1 ≤ k := by omega
    have hpk := hw.2.2.1 k hk
    obtain ⟨ox, -, -⟩ := haX_ok (q := q) (kd := q (38 + r)) (tg := q (41 + r)) (df := df) (b3.x hg) hw.2.2.1 (show k ≤ w.1.1 by omega)
    have hcn : CanC 1 q s := h.1.2.frame (i2.1 _ (by decide)) (fun _ _ _ _ => rfl)
    have gi := gB_in (nI df) (k := k) (by omega)
    unfold bitI at gi
    show ∃ a', He_goAlong_L11B N (He_goAlong_L11 N f) 1 (1 + 13 + r) (nI df) (nI k) s = He_goAlong_L11 N f 1 (1 + 13 + r) (nI df) (nI (k + 1)) a' ∧ _
    unfold He_goAlong_L11B He_goAlong_J77
    rw [i2.1 47 (by decide), hC.1, if_neg (leN hn (by omega) (by omega)), inI (n := 8) (by omega) (by decide), ck_t, clI (by omega), i2.1 49 (by decide), hC.2.2.1 k hk, bI_e]
    by_cases c : gB (nI df) k = true
    · obtain ⟨y0, y1, y2, y3, y4, y5⟩ := ox
      have hs := stq_le b1 (a := haX q (q (38 + r)) (q (41 + r)) w.2.1 df (qX q g) k 4) (b := w.2.1 k) (by omega) hpk
      rw [if_neg (by rw [gi, c]; decide), i1 4 (by decide), gSt hcn (by omega) hpk, bR_e]
      unfold Gu_goTo
      rw [i1 5 (by decide), addI, show (999 : Int32) = nI 999 from rfl, mnI_e (by omega) (by omega), bS_e, bS_e, bR_e, nI_1, bI_e]
      refine ⟨_, rfl, fun f hf => ?_, fun i hi => by simp (disch := omega) only [rdI_ne]; exact i2.1 i hi, i2.2⟩
      rw [haX_s, if_pos c]
      unfold sitX
      rcases (show f = 0 ∨ f = 1 ∨ f = 2 ∨ f = 3 ∨ f = 4 ∨ f = 5 by omega) with rfl | rfl | rfl | rfl | rfl | rfl <;> simp (disch := omega) only [rdI_nk, rdI_eq, updQ_s, updQ_n] <;> first | exact i1 _ (by decide) | rfl
    · obtain ⟨s2, g2, l1, l2, l3⟩ := carryX (N := N) (n := 1) (gc := 70) (rc := 1 + 13 + r) (q := q) (x := haX q (q (38 + r)) (q (41 + r)) w.2.1 df (qX q g) k) (σ := s) (p := w.2.1 k) b1 hcn (fun p hp => by rw [i2.1 _ (by decide)]; exact h.dark hp) (by rw [i2.1 _ (by omega)]; exact h.row (by omega) hr) kd1 tg1 ox i1 (by decide) (by omega) hpk
      refine ⟨s2, ?_, by rw [haX_s, if_neg c]; exact l1, fun i hi => (l2 i hi).trans (i2.1 i hi), l3.trans i2.2⟩
      rw [if_pos (by rw [gi]; simpa using c), g2, bR_e, nI_1, bI_e]
  · intro f s ⟨i1, i2⟩
    refine ⟨s, ?_, i1, i2⟩
    show He_goAlong_L11B N (He_goAlong_L11 N f) 1 (1 + 13 + r) (nI df) (nI w.1.1) s = _
    unfold He_goAlong_L11B
    rw [i2.1 47 (by decide), hC.1, if_pos (Int32.le_refl _)]
theorem cWgt {N : Nat} (hN : 300 < N) {σ : St} {df c n : Nat} (hc : c ≤ 10) (hn : n ≤ 7) : He_weight N (nI n) (nI df) (nI c) σ = some (lN (wgt df c n)) := by
  unfold He_weight
  refine loop_up (fun f k a => He_weight_L5 N f (nI n) (nI df) (nI c) a (nI k) σ) n (fun k a => a = lN (wgt df c k)) (fun o => o = some (lN (wgt df c n))) ?_ ?_ (by omega) rfl
  · intro f k a hk ha
    have hnk : ¬ n ≤ k := by omega
    have gi := gB_in (nI df) (k := k) (by omega)
    unfold bitI at gi
    refine ⟨lN (wgt df c (k + 1)), ?_, rfl⟩
    show He_weight_L5B N (He_weight_L5 N f) (nI n) (nI df) (nI c) a (nI k) σ = _
    unfold He_weight_L5B He_weight_J31
    rw [if_neg (leN hnk (by omega) (by omega)), show (10 : Int32) = nI 10 from rfl, subI hc, nI_l (by omega), nI_l (by omega), ha, lN_mul, lN_mul, bL_e, bL_e, nI_1, bI_e, bI_e, wgt_s]
    by_cases z : gB (nI df) k = true
    · rw [if_neg (by rw [gi, z]; decide), if_pos z]
    · rw [if_pos (by rw [gi]; simpa using z), if_neg z]
  · intro f a ha
    show He_weight_L5B N (He_weight_L5 N f) (nI n) (nI df) (nI c) a (nI n) σ = _
    unfold He_weight_L5B
    rw [if_pos (Int32.le_refl _), ha]
theorem cTen {N : Nat} (hN : 300 < N) {σ : St} {n : Nat} (hn : n ≤ 7) : He_tenToThe N (nI n) σ = some (lN (10 ^ n)) := by
  unfold He_tenToThe
  refine loop_up (fun f k a => He_tenToThe_L4 N f (nI n) a (nI k) σ) n (fun k a => a = lN (10 ^ k)) (fun o => o = some (lN (10 ^ n))) ?_ ?_ (by omega) rfl
  · intro f k a hk ha
    have hnk : ¬ n ≤ k := by omega
    refine ⟨lN (10 ^ (k + 1)), ?_, rfl⟩
    show He_tenToThe_L4B N (He_tenToThe_L4 N f) (nI n) a (nI k) σ = _
    unfold He_tenToThe_L4B
    rw [if_neg (leN hnk (by omega) (by omega)), ha, show (10 : Int64) = lN 10 from rfl, lN_mul, bL_e, nI_1, bI_e, Nat.pow_succ]
  · intro f a ha
    show He_tenToThe_L4B N (He_tenToThe_L4 N f) (nI n) a (nI n) σ = _
    unfold He_tenToThe_L4B
    rw [if_pos (Int32.le_refl _), ha]
