/-! how far: rounds of shortening; the eighth round changes nothing -/
def rl1 (q : QS) (p j : Nat) (D : QS) : QS := updQ D j (if 0 < stq q p j then min (D j) (D p + stq q p j) else D j)
def rlP (q : QS) (p n : Nat) (D : QS) : QS := itN (fun j D => rl1 q p j D) n D
def rlR (q : QS) (n : Nat) (D : QS) : QS := itN (fun p D => rlP q p 8 D) n D
def rlK (q : QS) (a n : Nat) : QS := itN (fun _ D => rlR q 8 D) n (fun p => if p = a then 0 else 999)
theorem rlP_s (q : QS) (p n : Nat) (D : QS) : rlP q p (n + 1) D = rl1 q p n (rlP q p n D) := rfl
theorem rlR_s (q : QS) (n : Nat) (D : QS) : rlR q (n + 1) D = rlP q n 8 (rlR q n D) := rfl
theorem rlK_s (q : QS) (a n : Nat) : rlK q a (n + 1) = rlR q 8 (rlK q a n) := rfl
theorem stq_same (q : QS) (a : Nat) : stq q a a = 0 := if_pos rfl
theorem rl1_le (q : QS) (p j : Nat) (D : QS) (v : Nat) : rl1 q p j D v ≤ D v := by
  unfold rl1 updQ
  by_cases e : v = j
  · subst e; rw [if_pos rfl]; split <;> omega
  · rw [if_neg e]; exact Nat.le_refl _
theorem rl1_p (q : QS) (p j : Nat) (D : QS) : rl1 q p j D p = D p := by
  unfold rl1 updQ
  by_cases e : p = j
  · subst e; rw [if_pos rfl, stq_same, if_neg (by omega)]
  · rw [if_neg e]
theorem rlP_le (q : QS) (p n : Nat) (D : QS) (v : Nat) : rlP q p n D v ≤ D v := by
  induction n with
  | zero => exact Nat.le_refl _
  | succ n ih => rw [rlP_s]; exact Nat.le_trans (rl1_le _ _ _ _ _) ih
theorem rlP_p (q : QS) (p n : Nat) (D : QS) : rlP q p n D p = D p := by
  induction n with
  | zero => rfl
  | succ n ih => rw [rlP_s, rl1_p, ih]
theorem rlP_hit (q : QS) (p : Nat) {n : Nat} (D : QS) {v : Nat} (hv : v < n) (hs : 0 < stq q p v) : rlP q p n D v ≤ D p + stq q p v := by
  induction n with
  | zero => omega
  | succ n ih =>
    rw [rlP_s]
    by_cases e : v = n
    · subst e
      unfold rl1
      rw [updQ_s, if_pos hs, rlP_p]; omega
    · exact Nat.le_trans (rl1_le _ _ _ _ _) (ih (by omega))
theorem rlR_le (q : QS) (n : Nat) (D : QS) (v : Nat) : rlR q n D v ≤ D v := by
  induction n with
  | zero => exact Nat.le_refl _
  | succ n ih => rw [rlR_s]; exact Nat.le_trans (rlP_le _ _ _ _ _) ih
theorem rlR_hit (q : QS) {n : Nat} (D : QS) {u v : Nat} (hu : u < n) (hv : v < 8) (hs : 0 < stq q u v) : rlR q n D v ≤ D u + stq q u v := by
  induction n with
  | zero => omega
  | succ n ih =>
    rw [rlR_s]
    by_cases e : u = n
    · subst e
      have := rlP_hit q u (rlR q u D) hv hs
      have := rlR_le q u D u
      omega
    · exact Nat.le_trans (rlP_le _ _ _ _ _) (ih (by omega))
/-- bounds, and from where each number came -/
def Bdd (t : Nat) (D : QS) : Prop := ∀ v, v < 8 → D v = 999 ∨ D v ≤ 9 * t
def Spp (q : QS) (a : Nat) (D : QS) : Prop := D a = 0 ∧ ∀ v, v < 8 → v ≠ a → D v = 999 ∨ ∃ u, u < 8 ∧ 0 < stq q u v ∧ D u + stq q u v ≤ D v
theorem Bdd.le {t : Nat} {D : QS} (h : Bdd t D) (ht : t ≤ 100) {v : Nat} (hv : v < 8) : D v ≤ 999 := by
  rcases h v hv with e | e <;> omega
theorem rlP_bd {q : QS} (hb : BD q) {p : Nat} (hp : p < 8) {t : Nat} (ht : t ≤ 100) {D : QS} (h : Bdd t D) {n : Nat} (hn : n ≤ 8) : (∀ v, v < n → rlP q p n D v = 999 ∨ rlP q p n D v ≤ 9 * (t + 1)) ∧ ∀ v, n ≤ v → rlP q p n D v = D v := by
  induction n with
  | zero => exact ⟨by intros; omega, fun _ _ => rfl⟩
  | succ n ih =>
    obtain ⟨i1, i2⟩ := ih (by omega)
    rw [rlP_s]
    constructor
    · intro v hv
      by_cases e : v = n
      · subst e
        unfold rl1
        rw [updQ_s, rlP_p, i2 v (by omega)]
        have := stq_le hb hp (show v < 8 by omega)
        have := h v (by omega)
        have := h p hp
        have := h.le ht (show v < 8 by omega)
        split <;> omega
      · unfold rl1
        rw [updQ_n _ _ e]; exact i1 v (by omega)
    · intro v hv
      unfold rl1
      rw [updQ_n _ _ (by omega)]; exact i2 v (by omega)
theorem rlP_bdd {q : QS} (hb : BD q) {p : Nat} (hp : p < 8) {t : Nat} (ht : t ≤ 100) {D : QS} (h : Bdd t D) : Bdd (t + 1) (rlP q p 8 D) := fun v hv => (rlP_bd hb hp ht h (Nat.le_refl 8)).1 v hv
theorem rlR_bdd {q : QS} (hb : BD q) {t : Nat} {D : QS} (h : Bdd t D) {n : Nat} (hn : n ≤ 8) (ht : t + n ≤ 100) : Bdd (t + n) (rlR q n D) := by
  induction n with
  | zero => exact h
  | succ n ih => rw [rlR_s, ← Nat.add_assoc]; exact rlP_bdd (t := t + n) hb (by omega) (by omega) (ih (by omega) (by omega))
theorem rlK_bdd {q : QS} (hb : BD q) {a n : Nat} (hn : n ≤ 12) : Bdd (8 * n) (rlK q a n) := by
  induction n with
  | zero =>
    intro v hv
    show (if v = a then 0 else 999) = 999 ∨ (if v = a then 0 else 999) ≤ 0
    split <;> omega
  | succ n ih => rw [rlK_s, show 8 * (n + 1) = 8 * n + 8 by omega]; exact rlR_bdd hb (ih (by omega)) (Nat.le_refl 8) (by omega)
theorem rlK_999 {q : QS} {a n : Nat} {v : Nat} : rlK q a n v ≤ 999 := by
  induction n with
  | zero => show (if v = a then 0 else 999) ≤ 999; split <;> omega
  | succ n ih => rw [rlK_s]; exact Nat.le_trans (rlR_le _ _ _ _) ih
theorem rl1_sp {q : QS} {a p j : Nat} (hp : p < 8) {D : QS} (h : Spp q a D) (hl : ∀ v, D v ≤ 999) : Spp q a (rl1 q p j D) := by
  have h0 := rl1_le q p j D
  refine ⟨by have := h0 a; rw [h.1] at this; omega, fun v hv hva => ?_⟩
  by_cases e : v = j
  · subst e
    have hj : rl1 q p v D v = if 0 < stq q p v then min (D v) (D p + stq q p v) else D v := by unfold rl1; rw [updQ_s]
    by_cases c : 0 < stq q p v ∧ D p + stq q p v < D v
    · refine Or.inr ⟨p, hp, c.1, ?_⟩
      rw [rl1_p, hj, if_pos c.1]; omega
    · have e2 : rl1 q p v D v = D v := by
        rw [hj]
        by_cases c1 : 0 < stq q p v
        · rw [if_pos c1]; omega
        · rw [if_neg c1]
      rw [e2]
      rcases h.2 v hv hva with z | ⟨u, u1, u2, u3⟩
      · exact Or.inl z
      · exact Or.inr ⟨u, u1, u2, by have := h0 u; omega⟩
  · have e2 : rl1 q p j D v = D v := by unfold rl1; rw [updQ_n _ _ e]
    rw [e2]
    rcases h.2 v hv hva with z | ⟨u, u1, u2, u3⟩
    · exact Or.inl z
    · exact Or.inr ⟨u, u1, u2, by have := h0 u; omega⟩
theorem rlP_sp {q : QS} {a p : Nat} (hp : p < 8) {D : QS} (h : Spp q a D) (hl : ∀ v, D v ≤ 999) (n : Nat) : Spp q a (rlP q p n D) := by
  induction n with
  | zero => exact h
  | succ n ih => rw [rlP_s]; exact rl1_sp hp ih (fun v => Nat.le_trans (rlP_le _ _ _ _ _) (hl v))
theorem rlR_sp {q : QS} {a : Nat} {D : QS} (h : Spp q a D) (hl : ∀ v, D v ≤ 999) {n : Nat} (hn : n ≤ 8) : Spp q a (rlR q n D) := by
  induction n with
  | zero => exact h
  | succ n ih => rw [rlR_s]; exact rlP_sp (by omega) (ih (by omega)) (fun v => Nat.le_trans (rlR_le _ _ _ _) (hl v)) 8
theorem rlK_sp {q : QS} {a : Nat} (n : Nat) : Spp q a (rlK q a n) := by
  induction n with
  | zero => exact ⟨if_pos rfl, fun v hv hva => Or.inl (if_neg hva)⟩
  | succ n ih => rw [rlK_s]; exact rlR_sp ih (fun v => rlK_999) (Nat.le_refl 8)
theorem rlK_mono {q : QS} {a s t : Nat} (h : s ≤ t) (v : Nat) : rlK q a t v ≤ rlK q a s v := by
  induction t with
  | zero => have : s = 0 := by omega
            subst this; exact Nat.le_refl _
  | succ t ih =>
    by_cases e : s = t + 1
    · subst e; exact Nat.le_refl _
    · rw [rlK_s]; exact Nat.le_trans (rlR_le _ _ _ _) (ih (by omega))
theorem rlK_lim (q : QS) (a n : Nat) : ∃ K, ∀ v, v < n → ∀ t, rlK q a K v ≤ rlK q a t v := by
  induction n with
  | zero => exact ⟨0, by intros; omega⟩
  | succ n ih =>
    obtain ⟨K, hK⟩ := ih
    obtain ⟨m, ⟨t0, ht0⟩, hm⟩ := pk_least (fun m => ∃ t, rlK q a t n = m) ⟨_, 0, rfl⟩
    refine ⟨max K t0, fun v hv t => ?_⟩
    by_cases e : v = n
    · subst e
      have h1 := rlK_mono (q := q) (a := a) (Nat.le_max_right K t0) v
      rcases Nat.lt_or_ge (rlK q a t v) m with z | z
      · exact absurd ⟨t, rfl⟩ (hm _ z)
      · omega
    · exact Nat.le_trans (rlK_mono (Nat.le_max_left K t0) v) (hK v (by omega) t)
theorem cnN_full {p : Nat → Bool} {n : Nat} (h : n ≤ cnN p n) {v : Nat} (hv : v < n) : p v = true := by
  induction n with
  | zero => omega
  | succ n ih =>
    have e : cnN p (n + 1) = cnN p n + (p n).toNat := rfl
    have h1 := cnN_le p n
    have h2 := Bool.toNat_le (p n)
    by_cases z : v = n
    · subst z
      cases hh : p v
      · rw [e, hh] at h
        have : (false : Bool).toNat = 0 := rfl
        omega
      · rfl
    · exact ih (by omega) (by omega)
theorem cnN_sub {p p' : Nat → Bool} {n : Nat} (h : ∀ v, v < n → p v = true → p' v = true) : cnN p n ≤ cnN p' n := by
  induction n with
  | zero => exact Nat.le_refl _
  | succ n ih =>
    have := ih (fun v hv => h v (by omega))
    show cnN p n + (p n).toNat ≤ cnN p' n + (p' n).toNat
    have h3 := h n (by omega)
    cases h1 : p n
    · have : (false : Bool).toNat = 0 := rfl
      omega
    · rw [h3 h1]; omega
theorem cnN_grow {p p' : Nat → Bool} {n v : Nat} (h : ∀ v, v < n → p v = true → p' v = true) (hv : v < n) (h1 : p v = false) (h2 : p' v = true) : cnN p n + 1 ≤ cnN p' n := by
  induction n with
  | zero => omega
  | succ n ih =>
    show cnN p n + (p n).toNat + 1 ≤ cnN p' n + (p' n).toNat
    have a0 : (false : Bool).toNat = 0 := rfl
    have a1 : (true : Bool).toNat = 1 := rfl
    by_cases e : v = n
    · subst e
      have := cnN_sub (n := v) (fun w hw => h w (by omega))
      rw [h1, h2]; omega
    · have := ih (fun w hw => h w (by omega)) (by omega)
      have h3 := h n (by omega)
      cases h4 : p n
      · omega
      · rw [h3 h4]; omega
theorem far8 (q : QS) (a : Nat) {v : Nat} (hv : v < 8) : rlK q a 8 v = rlK q a 7 v := by
  obtain ⟨K, hK⟩ := rlK_lim q a 8
  have hfix : ∀ u w, u < 8 → w < 8 → 0 < stq q u w → rlK q a K w ≤ rlK q a K u + stq q u w := fun u w hu hw hs => by
    have h1 := hK w hw (K + 1)
    have h2 := rlR_hit q (rlK q a K) hu hw hs
    rw [rlK_s] at h1; omega
  have hsp := rlK_sp (q := q) (a := a) K
  have key : ∀ t, (∀ w, w < 8 → rlK q a t w = rlK q a K w) ∨ t + 1 ≤ cnN (fun w => decide (rlK q a t w = rlK q a K w)) 8 := by
    intro t
    by_cases hall : ∀ w, w < 8 → rlK q a t w = rlK q a K w
    · exact Or.inl hall
    refine Or.inr ?_
    induction t with
    | zero =>
      by_cases ha : a < 8
      · exact cnN_pos ha (decide_eq_true (by rw [hsp.1]; exact if_pos rfl))
      · exfalso
        apply hall
        intro w hw
        have h1 := hK w hw 0
        rcases hsp.2 w hw (by omega) with z | ⟨u, u1, u2, u3⟩
        · rw [z]; exact if_neg (by omega)
        · -- nobody can be reached: take the least finite one
          exfalso
          obtain ⟨m, ⟨w0, hw0, e0⟩, hm⟩ := pk_least (fun m => ∃ w, w < 8 ∧ rlK q a K w = m) ⟨_, w, hw, rfl⟩
          rcases hsp.2 w0 hw0 (by omega) with z | ⟨u', v1, v2, v3⟩
          · have := hm (rlK q a K u) (by
              rcases Nat.lt_or_ge (rlK q a K u) m with y | y
              · exact y
              · have := rlK_999 (q := q) (a := a) (n := K) (v := w)
                omega)
            exact this ⟨u, u1, rfl⟩
          · exact hm (rlK q a K u') (by omega) ⟨u', v1, rfl⟩
    | succ t ih =>
      have hall' : ¬ ∀ w, w < 8 → rlK q a t w = rlK q a K w := fun hh => hall (fun w hw => by
        have h1 := rlK_mono (q := q) (a := a) (show t ≤ t + 1 by omega) w
        have h2 := hK w hw (t + 1)
        have := hh w hw
        omega)
      have i := ih hall'
      obtain ⟨m, ⟨w, hw, hne, em⟩, hm⟩ := pk_least (fun m => ∃ w, w < 8 ∧ rlK q a t w ≠ rlK q a K w ∧ rlK q a K w = m) (by
        refine Classical.byContradiction (fun hno => hall' (fun w hw => ?_))
        refine Classical.byContradiction (fun hne => hno ⟨_, w, hw, hne, rfl⟩))
      have hKt := hK w hw t
      have h999 := rlK_999 (q := q) (a := a) (n := t) (v := w)
      have hwa : w ≠ a := fun e => by
        subst e
        exact hne (by rw [hsp.1, (rlK_sp (q := q) (a := w) t).1])
      rcases hsp.2 w hw hwa with z | ⟨u, u1, u2, u3⟩
      · omega
      · have hu : rlK q a t u = rlK q a K u := Classical.byContradiction (fun hne2 => hm (rlK q a K u) (by omega) ⟨u, u1, hne2, rfl⟩)
        have h2 := rlR_hit q (rlK q a t) u1 hw u2
        rw [← rlK_s] at h2
        have h3 := hK w hw (t + 1)
        have := cnN_grow (n := 8) (p := fun w => decide (rlK q a t w = rlK q a K w)) (p' := fun w => decide (rlK q a (t + 1) w = rlK q a K w)) (v := w) (fun x hx he => by
          have he' := of_decide_eq_true he
          have h1 := rlK_mono (q := q) (a := a) (show t ≤ t + 1 by omega) x
          have h4 := hK x hx (t + 1)
          exact decide_eq_true (by omega)) hw (decide_eq_false hne) (decide_eq_true (by omega))
        omega
  have h7 : ∀ w, w < 8 → rlK q a 7 w = rlK q a K w := by
    rcases key 7 with h | h
    · exact h
    · intro w hw
      exact of_decide_eq_true (cnN_full (p := fun w => decide (rlK q a 7 w = rlK q a K w)) h hw)
  have h1 := rlK_mono (q := q) (a := a) (show 7 ≤ 8 by omega) v
  have h2 := hK v hv 8
  have := h7 v hv
  omega
