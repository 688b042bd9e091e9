/-! numbers: small naturals as ints; the checks of both sides as one -/
theorem litI (n : Nat) : (OfNat.ofNat n : Int32) = nI n := rfl
theorem clI {a : Nat} (h : a < 2147483648) : (nI a).toNatClampNeg = a := nI_clamp h
theorem subI {a b : Nat} (h : b ≤ a) : nI a - nI b = nI (a - b) := pk_sub h
theorem mulI (a b : Nat) : nI a * nI b = nI (a * b) := pk_mul a b
theorem addI (a b : Nat) : nI a + nI b = nI (a + b) := nI_add a b
theorem eqI {a b : Nat} (ha : a < 2147483648) (hb : b < 2147483648) : (nI a = nI b) = (a = b) := propext (nI_eq ha hb)
theorem leI {a b : Nat} (ha : a < 2147483648) (hb : b < 2147483648) : (nI a ≤ nI b) = (a ≤ b) := propext (nI_leI ha hb)
theorem ltI {a b : Nat} (ha : a < 2147483648) (hb : b < 2147483648) : (nI a < nI b) = (a < b) := propext (nI_ltI ha hb)
theorem divI {a d : Nat} (ha : a < 2147483648) (h0 : 0 < d) (hd : d < 2147483648) : nI a / nI d = nI (a / d) := pk_div ha h0 hd
theorem inI {a n : Nat} (h : a < n) (hn : n < 2147483648) : inB (nI a) n = true := inB_nI h hn
theorem ck_t {ρ : Type} (e : Option ρ) : ck true e = e := rfl
theorem bS_e {ρ : Type} (s : St) (k : St → Option ρ) : bS s k = k s := rfl
theorem bI_e {ρ : Type} (x : Int32) (k : Int32 → Option ρ) : bI x k = k x := rfl
theorem bL_e {ρ : Type} (x : Int64) (k : Int64 → Option ρ) : bL x k = k x := rfl
theorem bR_e {α ρ : Type} (a : α) (k : α → Option ρ) : bR (some a) k = k a := rfl
theorem bW_e {α ρ : Type} (a : α) (s : St) (k : α → St → Option ρ) : bW (some (a, s)) k = k a s := rfl
theorem rdI (s : St) (i k : Nat) (v : Int32) (a j : Nat) : (sI s i k v).1 a j = if a = i ∧ j = k then v else s.1 a j := by
  unfold sI sR upd
  by_cases h : a = i
  · subst h
    by_cases h2 : j = k <;> simp [h2]
  · simp [h]
theorem rdI_ne (s : St) (i k : Nat) (v : Int32) {a : Nat} (h : a ≠ i) : (sI s i k v).1 a = s.1 a := by
  unfold sI; exact sR_ne s i _ h
theorem rdI_2 (s : St) (i k : Nat) (v : Int32) : (sI s i k v).2 = s.2 := rfl
theorem rdR (s : St) (i : Nat) (f : Nat → Int32) (a : Nat) : (sR s i f).1 a = if a = i then f else s.1 a := rfl
theorem rdL_1 (s : St) (i k : Nat) (v : Int64) : (sL s i k v).1 = s.1 := rfl
theorem rdL (s : St) (i k : Nat) (v : Int64) (a j : Nat) : (sL s i k v).2 a j = if a = i ∧ j = k then v else s.2 a j := by
  unfold sL vp_updL
  by_cases h : a = i
  · subst h
    by_cases h2 : j = k <;> simp [h2]
  · simp [h]
/-- both sides' check of a number: 1 or 0 -/
def wv (lo hi : Int) (v : Int32) : Int32 := if lo ≤ v.toInt ∧ v.toInt ≤ hi then 1 else 0
theorem gw_wv (v a b : Int32) : Go_within v a b = wv a.toInt b.toInt v := by
  unfold Go_within wv
  simp only [Int32.lt_iff_toInt_lt]
  by_cases h1 : v.toInt < a.toInt
  · rw [if_pos h1, if_neg (by omega)]
  · rw [if_neg h1]
    by_cases h2 : b.toInt < v.toInt
    · rw [if_pos h2, if_neg (by omega)]
    · rw [if_neg h2, if_pos (by omega)]
theorem mo_wv (v a b : Int64) : Mo_in v a b = if a.toInt ≤ v.toInt ∧ v.toInt ≤ b.toInt then 1 else 0 := by
  unfold Mo_in lg_cmp
  simp only [gt_iff_lt, Int64.lt_iff_toInt_lt, ← Int64.toInt_inj]
  by_cases h1 : a.toInt < v.toInt
  · rw [if_pos h1, if_neg (by decide)]
    by_cases h2 : b.toInt < v.toInt
    · rw [if_pos h2, if_pos (by decide), if_neg (by omega)]
    · rw [if_neg h2]
      by_cases h3 : v.toInt = b.toInt
      · rw [if_pos h3, if_neg (by decide), if_pos (by omega)]
      · rw [if_neg h3, if_neg (by decide), if_pos (by omega)]
  · rw [if_neg h1]
    by_cases h4 : v.toInt = a.toInt
    · rw [if_pos h4, if_neg (by decide)]
      by_cases h2 : b.toInt < v.toInt
      · rw [if_pos h2, if_pos (by decide), if_neg (by omega)]
      · rw [if_neg h2]
        by_cases h3 : v.toInt = b.toInt
        · rw [if_pos h3, if_neg (by decide), if_pos (by omega)]
        · rw [if_neg h3, if_neg (by decide), if_pos (by omega)]
    · rw [if_neg h4, if_pos (by decide), if_neg (by omega)]
theorem mo_wvI (v : Int32) (a b : Int64) : Mo_in v.toInt64 a b = wv a.toInt b.toInt v := by
  rw [mo_wv, Int32.toInt_toInt64]; rfl
theorem wv_1 {lo hi : Int} {v : Int32} (h : lo ≤ v.toInt ∧ v.toInt ≤ hi) : wv lo hi v = 1 := if_pos h
theorem wv_0 {lo hi : Int} {v : Int32} (h : ¬ (lo ≤ v.toInt ∧ v.toInt ≤ hi)) : wv lo hi v = 0 := if_neg h
/-- a number that passes is a small natural -/
theorem wv_nat {lo : Int} {hi : Nat} {v : Int32} (h0 : 0 ≤ lo) (h : lo ≤ v.toInt ∧ v.toInt ≤ hi) : ∃ j : Nat, lo ≤ j ∧ j ≤ hi ∧ v = nI j := by
  refine ⟨v.toInt.toNat, by omega, by omega, ?_⟩
  have h1 := v.toInt_lt
  apply Int32.toInt_inj.mp
  rw [nI_toInt (by omega)]
  omega
theorem wv_nI {lo hi : Int} {j : Nat} (hj : j < 2147483648) : wv lo hi (nI j) = if lo ≤ (j : Int) ∧ (j : Int) ≤ hi then 1 else 0 := by
  unfold wv
  rw [nI_toInt hj]
