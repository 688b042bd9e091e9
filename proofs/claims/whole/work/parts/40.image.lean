/-- the reference copies a stretch -/
theorem mCopies {N : Nat} {v0 v2 i j n : Nat} {σ : St} (hN : n < N) (hd : v0 ≠ v2 ∨ i + n ≤ j ∨ j + n ≤ i) (h0 : i + n ≤ lnn v0) (h2 : j + n ≤ lnn v2) (l0 : lnn v0 < 1000) (l2 : lnn v2 < 1000) :
    ∃ σ', Mo_copies N v0 (nI i) v2 (nI j) (nI n) σ = some σ' ∧ (∀ k, k < n → σ'.1 v2 (j + k) = σ.1 v0 (i + k)) ∧ (∀ c, c ≠ v2 → σ'.1 c = σ.1 c) ∧ (∀ x, (x < j ∨ j + n ≤ x) → σ'.1 v2 x = σ.1 v2 x) ∧ σ'.2 = σ.2 := by
  unfold Mo_copies
  refine loop_up (fun f k s => Mo_copies_L3 N f v0 (nI i) v2 (nI j) (nI n) (nI k) s) n (fun m s => (∀ k, k < m → s.1 v2 (j + k) = σ.1 v0 (i + k)) ∧ (∀ c, c ≠ v2 → s.1 c = σ.1 c) ∧ (∀ x, (x < j ∨ j + m ≤ x) → s.1 v2 x = σ.1 v2 x) ∧ s.2 = σ.2) (fun o => ∃ σ', o = some σ' ∧ (∀ k, k < n → σ'.1 v2 (j + k) = σ.1 v0 (i + k)) ∧ (∀ c, c ≠ v2 → σ'.1 c = σ.1 c) ∧ (∀ x, (x < j ∨ j + n ≤ x) → σ'.1 v2 x = σ.1 v2 x) ∧ σ'.2 = σ.2) ?_ ?_ hN ⟨by intros; omega, fun _ _ => rfl, fun _ _ => rfl, rfl⟩
  · intro f m s hm ⟨h1, h3, h4, h5⟩
    refine ⟨sI s v2 (j + m) (s.1 v0 (i + m)), ?_, fun k hk => ?_, fun c hc => by rw [rdI_ne _ _ _ _ hc]; exact h3 c hc, fun x hx => by rw [rdI_nk _ _ _ _ (by omega)]; exact h4 x (by omega), h5⟩
    · have hn : ¬ n ≤ m := by omega
      simp only [Mo_copies_L3, Mo_copies_L3B]
      simp (disch := omega) only [litI, clI, subI, mulI, addI, eqI, leI, ltI, inI, ck_t, bS_e, bI_e, bL_e, bR_e, bW_e, hn, if_false]
    · by_cases z : k = m
      · subst z
        rw [rdI_eq]
        by_cases y : v0 = v2
        · subst y; exact h4 _ (by omega)
        · rw [h3 _ y]
      · rw [rdI_nk _ _ _ _ (by omega)]; exact h1 k (by omega)
  · intro f s h
    simp only [Mo_copies_L3, Mo_copies_L3B]
    rw [if_pos (Int32.le_refl _)]
    exact ⟨s, rfl, h⟩
/-- a Night takes another -/
def Cp (a b : Nat) (σ : St) (D : Nat → Nat → Prop) (s : St) : Prop := Fr a σ s ∧ TW a s ∧ ∀ c k, D c k → s.1 (a + c) k = σ.1 (b + c) k
theorem Cp.wr {a b : Nat} {σ : St} {D : Nat → Nat → Prop} {s : St} (h : Cp a b σ D s) {c k : Nat} (hd : a + 20 ≤ b ∨ b + 20 ≤ a) (hc : c < 20) (hw : (c = 5 ∨ c = 7 ∨ c = 9) → 2 ≤ k) : Cp a b σ (fun c' k' => D c' k' ∨ (c' = c ∧ k' = k)) (sI s (a + c) k (s.1 (b + c) k)) := by
  obtain ⟨h1, h2, h3⟩ := h
  refine ⟨h1.trans (Fr.wr (by omega)), ?_, fun c' k' hk => ?_⟩
  · obtain ⟨⟨t1, t2⟩, ⟨t3, t4⟩, ⟨t5, t6⟩⟩ := h2
    refine ⟨⟨?_, ?_⟩, ⟨?_, ?_⟩, ⟨?_, ?_⟩⟩ <;> rw [rdI, if_neg (by intro z; have := hw (by omega); omega)] <;> assumption
  · rw [rdI]
    by_cases z : c' = c ∧ k' = k
    · rw [if_pos ⟨by omega, z.2⟩, z.1, z.2, h1.1 (b + c) (by omega)]
    · rw [if_neg (fun y => z ⟨by omega, y.2⟩)]; exact h3 c' k' (hk.resolve_right z)
theorem Cp.cpy {a b : Nat} {σ : St} {D : Nat → Nat → Prop} {s : St} (h : Cp a b σ D s) {c n : Nat} (hd : a + 20 ≤ b ∨ b + 20 ≤ a) (hc : c < 20) (hw : c ≠ 5 ∧ c ≠ 7 ∧ c ≠ 9) : Cp a b σ (fun c' k' => D c' k' ∨ (c' = c ∧ k' < n)) (sR s (a + c) (va_cpy (s.1 (b + c)) (s.1 (a + c)) 0 0 n)) := by
  obtain ⟨h1, h2, h3⟩ := h
  have F : ∀ i, i ≠ a + c → (sR s (a + c) (va_cpy (s.1 (b + c)) (s.1 (a + c)) 0 0 n)).1 i = s.1 i := fun i hi => sR_ne _ _ _ hi
  refine ⟨h1.trans ⟨fun i hi => F i (by omega), rfl⟩, h2.frame (F _ (by omega)) (F _ (by omega)) (F _ (by omega)), fun c' k' hk => ?_⟩
  by_cases y : c' = c
  · subst y
    rw [rdR, if_pos rfl]
    unfold va_cpy
    by_cases z : k' < n
    · rw [if_pos (by omega), h1.1 (b + c') (by omega)]
      simp
    · rw [if_neg (by omega)]; exact h3 _ _ (hk.resolve_right (fun w => z w.2))
  · rw [F _ (by omega)]; exact h3 c' k' (hk.resolve_right (fun w => y w.1))
theorem Cp.mono {a b : Nat} {σ : St} {D D' : Nat → Nat → Prop} {s : St} (h : Cp a b σ D s) (hm : ∀ c k, D' c k → D c k) : Cp a b σ D' s := ⟨h.1, h.2.1, fun c k z => h.2.2 c k (hm c k z)⟩
def LN (n : Nat) : Prop := lnn (n + 6) = 20 ∧ lnn (n + 8) = 36 ∧ lnn (n + 10) = 30
theorem cTab {N t u w m : Nat} {s : St} (h0 : lnn (t + 1) = m) (h1 : lnn (u + 1) = m) (hm : m < 1000) : Ta_take N t u s = some (sI (sR s (t + 1) (va_cpy (s.1 (u + 1)) (s.1 (t + 1)) 0 0 m)) t 3 ((sR s (t + 1) (va_cpy (s.1 (u + 1)) (s.1 (t + 1)) 0 0 m)).1 u 3)) := by
  unfold Ta_take
  rw [h0, h1]
  have e : Int32.ofNat m = nI m := rfl
  have c : inC 0 0 (nI m) m m = true := by
    unfold inC
    have : ¬ nI m < 0 := by rw [show (0 : Int32) = nI 0 from rfl, nI_ltI (by omega) (by omega)]; omega
    rw [clI (by omega)]
    simp [this]
  rw [e, c, ck_t, clI (by omega)]; rfl
/-- what a Night keeps, by cell and place -/
def Dn (c k : Nat) : Prop := (c = 1 ∧ k < 8) ∨ (c = 2 ∧ k < 64) ∨ (13 ≤ c ∧ c < 16 ∧ k < 2) ∨ (16 ≤ c ∧ c < 20 ∧ k < 6) ∨ (c = 0 ∧ (k = 4 ∨ k = 5)) ∨ (c = 6 ∧ k < 20) ∨ (c = 5 ∧ k = 3) ∨ (c = 8 ∧ k < 36) ∨ (c = 7 ∧ k = 3) ∨ (c = 10 ∧ k < 30) ∨ (c = 9 ∧ k = 3) ∨ (c = 12 ∧ k < 128) ∨ (c = 11 ∧ k = 1)
theorem Dn_all {q : QS} : ∀ k, k < 286 → live q k → Dn (cC k) (sC k) := by
  apply live_cases
  · intro p hp; rw [ccD hp, scD hp]; exact Or.inl ⟨rfl, hp⟩
  · exact ⟨Or.inr (Or.inr (Or.inr (Or.inr (Or.inl ⟨rfl, Or.inl rfl⟩)))), Or.inr (Or.inr (Or.inr (Or.inr (Or.inl ⟨rfl, Or.inr rfl⟩)))), Or.inr (Or.inr (Or.inr (Or.inr (Or.inr (Or.inr (Or.inl ⟨rfl, rfl⟩)))))), Or.inr (Or.inr (Or.inr (Or.inr (Or.inr (Or.inr (Or.inr (Or.inr (Or.inl ⟨rfl, rfl⟩)))))))), Or.inr (Or.inr (Or.inr (Or.inr (Or.inr (Or.inr (Or.inr (Or.inr (Or.inr (Or.inr (Or.inl ⟨rfl, rfl⟩)))))))))), Or.inr (Or.inr (Or.inr (Or.inr (Or.inr (Or.inr (Or.inr (Or.inr (Or.inr (Or.inr (Or.inr (Or.inr ⟨rfl, rfl⟩)))))))))))⟩
  · intro r hr _
    rw [ccK hr, scK hr, ccT hr, scT hr]
    exact ⟨Or.inr (Or.inr (Or.inl ⟨by omega, by omega, by omega⟩)), Or.inr (Or.inr (Or.inl ⟨by omega, by omega, by omega⟩))⟩
  · intro g f hg hf _
    rw [ccG hg hf, scG hg hf]
    exact Or.inr (Or.inr (Or.inr (Or.inl ⟨by omega, by omega, hf⟩)))
  · intro j hj _
    rw [ccS hj, scS hj]
    exact Or.inr (Or.inr (Or.inr (Or.inr (Or.inr (Or.inl ⟨rfl, hj⟩)))))
  · intro j hj _
    rw [ccN hj, scN hj]
    exact Or.inr (Or.inr (Or.inr (Or.inr (Or.inr (Or.inr (Or.inr (Or.inl ⟨rfl, hj⟩)))))))
  · intro j hj _
    rw [ccM hj, scM hj]
    exact Or.inr (Or.inr (Or.inr (Or.inr (Or.inr (Or.inr (Or.inr (Or.inr (Or.inr (Or.inl ⟨rfl, hj⟩)))))))))
  · intro u g f hu hg hf _ _
    rw [ccU hu hg hf, scU hu hg hf]
    exact Or.inr (Or.inr (Or.inr (Or.inr (Or.inr (Or.inr (Or.inr (Or.inr (Or.inr (Or.inr (Or.inr (Or.inl ⟨rfl, by omega⟩)))))))))))
theorem cTake {N a b : Nat} (hN : 300 < N) {q : QS} {σ : St} (h : NR b q σ) (ht : TW a σ) (hd : a + 20 ≤ b ∨ b + 20 ≤ a) (la : LN a) (lb : LN b) : ∃ σ', Ni_take N a b σ = some σ' ∧ NR a q σ' ∧ Fr a σ σ' := by
  have fin : ∀ s, Cp a b σ Dn s → NR a q s ∧ Fr a σ s := by
    intro s ⟨h1, h2, h3⟩
    refine ⟨⟨⟨fun k hk hl => ?_, fun x y hx hy => ?_⟩, h2⟩, h1⟩
    · rw [h3 _ _ (Dn_all k hk hl)]; exact h.1.1 k hk hl
    · rw [h3 2 _ (Or.inr (Or.inl ⟨rfl, by omega⟩))]; exact h.1.2 x y hx hy
  unfold Ni_take
  rw [show inC 0 0 8 8 8 = true from rfl, ck_t, bS_e, show inC 0 0 64 64 64 = true from rfl, ck_t, bS_e]
  have c0 : Cp a b σ (fun _ _ => False) σ := ⟨Fr.rfl', ht, fun _ _ z => z.elim⟩
  have c2 := (c0.cpy (c := 1) (n := 8) hd (by decide) (by decide)).cpy (c := 2) (n := 64) hd (by decide) (by decide)
  refine loop_up (fun f i s => Ni_take_L35 N f a b (nI i) s) 3 (fun i s => Cp a b σ (fun c k => ((False ∨ (c = 1 ∧ k < 8)) ∨ (c = 2 ∧ k < 64)) ∨ (13 ≤ c ∧ c < 13 + i ∧ k < 2)) s) (fun o => ∃ σ', o = some σ' ∧ NR a q σ' ∧ Fr a σ σ') ?_ ?_ (by omega) (c2.mono (fun c k z => z.resolve_right (by omega)))
  · intro f i s hi hs
    have w2 := (hs.wr (c := 13 + i) (k := 0) hd (by omega) (by omega)).wr (c := 13 + i) (k := 1) hd (by omega) (by omega)
    refine ⟨_, ?_, w2.mono ?_⟩
    · have hn : ¬ 3 ≤ i := by omega
      simp only [Ni_take_L35, Ni_take_L35B, Ro_take]
      simp (disch := omega) only [litI, clI, subI, mulI, addI, eqI, leI, ltI, inI, ck_t, bS_e, bI_e, bL_e, bR_e, bW_e, hn, if_false, Nat.add_assoc]
    · intro c k z
      rcases z with z | z
      · exact Or.inl (Or.inl (Or.inl z))
      · by_cases y : c < 13 + i
        · exact Or.inl (Or.inl (Or.inr ⟨z.1, y, z.2.2⟩))
        · by_cases x : k = 0
          · exact Or.inl (Or.inr ⟨by omega, x⟩)
          · exact Or.inr ⟨by omega, by omega⟩
  · intro f s hs
    simp only [Ni_take_L35, Ni_take_L35B]
    simp (disch := omega) only [litI, clI, subI, mulI, addI, eqI, leI, ltI, inI, ck_t, bS_e, bI_e, bL_e, bR_e, bW_e, show 3 ≤ 3 by decide, if_true]
    unfold Ni_take_J61
    refine loop_up (fun f i s => Ni_take_L63 N f a b (nI i) s) 4 (fun i s => Cp a b σ (fun c k => (((False ∨ (c = 1 ∧ k < 8)) ∨ (c = 2 ∧ k < 64)) ∨ (13 ≤ c ∧ c < 13 + 3 ∧ k < 2)) ∨ (16 ≤ c ∧ c < 16 + i ∧ k < 6)) s) (fun o => ∃ σ', o = some σ' ∧ NR a q σ' ∧ Fr a σ σ') ?_ ?_ (by omega) (hs.mono (fun c k z => z.resolve_right (by omega)))
    · intro f i s hi hs
      have w2 := (((((hs.wr (c := 16 + i) (k := 0) hd (by omega) (by omega)).wr (c := 16 + i) (k := 1) hd (by omega) (by omega)).wr (c := 16 + i) (k := 2) hd (by omega) (by omega)).wr (c := 16 + i) (k := 3) hd (by omega) (by omega)).wr (c := 16 + i) (k := 4) hd (by omega) (by omega)).wr (c := 16 + i) (k := 5) hd (by omega) (by omega)
      refine ⟨_, ?_, w2.mono ?_⟩
      · have hn : ¬ 4 ≤ i := by omega
        simp only [Ni_take_L63, Ni_take_L63B, Gu_take]
        simp (disch := omega) only [litI, clI, subI, mulI, addI, eqI, leI, ltI, inI, ck_t, bS_e, bI_e, bL_e, bR_e, bW_e, hn, if_false, Nat.add_assoc]
      · intro c k z
        rcases z with z | z
        · exact Or.inl (Or.inl (Or.inl (Or.inl (Or.inl (Or.inl (Or.inl z))))))
        · by_cases y : c < 16 + i
          · exact Or.inl (Or.inl (Or.inl (Or.inl (Or.inl (Or.inl (Or.inr ⟨z.1, y, z.2.2⟩))))))
          · have hc : c = 16 + i := by omega
            match k, z.2.2 with
            | 0, _ => exact Or.inl (Or.inl (Or.inl (Or.inl (Or.inl (Or.inr ⟨hc, rfl⟩)))))
            | 1, _ => exact Or.inl (Or.inl (Or.inl (Or.inl (Or.inr ⟨hc, rfl⟩))))
            | 2, _ => exact Or.inl (Or.inl (Or.inl (Or.inr ⟨hc, rfl⟩)))
            | 3, _ => exact Or.inl (Or.inl (Or.inr ⟨hc, rfl⟩))
            | 4, _ => exact Or.inl (Or.inr ⟨hc, rfl⟩)
            | 5, _ => exact Or.inr ⟨hc, rfl⟩
    · intro f s hs
      simp only [Ni_take_L63, Ni_take_L63B]
      simp (disch := omega) only [litI, clI, subI, mulI, addI, eqI, leI, ltI, inI, ck_t, bS_e, bI_e, bL_e, bR_e, bW_e, show 4 ≤ 4 by decide, if_true]
      unfold Ni_take_J89
      have k10 := (((((((((hs.wr (c := 0) (k := 4) hd (by decide) (by decide)).wr (c := 0) (k := 5) hd (by decide) (by decide)).cpy (c := 6) (n := 20) hd (by decide) (by decide)).wr (c := 5) (k := 3) hd (by decide) (by decide)).cpy (c := 8) (n := 36) hd (by decide) (by decide)).wr (c := 7) (k := 3) hd (by decide) (by decide)).cpy (c := 10) (n := 30) hd (by decide) (by decide)).wr (c := 9) (k := 3) hd (by decide) (by decide)).cpy (c := 12) (n := 128) hd (by decide) (by decide)).wr (c := 11) (k := 1) hd (by decide) (by decide)
      refine ⟨_, ?_, fin _ (k10.mono ?_)⟩
      · simp only [bS_e]
        rw [cTab (N := N) (w := 0) (t := a + 5) (u := b + 5) la.1 lb.1 (by decide), bR_e, cTab (N := N) (w := 0) (t := a + 7) (u := b + 7) la.2.1 lb.2.1 (by decide), bR_e, cTab (N := N) (w := 0) (t := a + 9) (u := b + 9) la.2.2 lb.2.2 (by decide), bR_e]
        unfold Pa_take
        rw [show inC 0 0 128 128 128 = true from rfl, ck_t]
        rfl
      · intro c k z
        rcases z with z | z | z | z | ⟨z, z2 | z2⟩ | z | z | z | z | z | z | z | z
        · exact Or.inl (Or.inl (Or.inl (Or.inl (Or.inl (Or.inl (Or.inl (Or.inl (Or.inl (Or.inl (Or.inl (Or.inl (Or.inl (Or.inr z)))))))))))))
        · exact Or.inl (Or.inl (Or.inl (Or.inl (Or.inl (Or.inl (Or.inl (Or.inl (Or.inl (Or.inl (Or.inl (Or.inl (Or.inr z))))))))))))
        · exact Or.inl (Or.inl (Or.inl (Or.inl (Or.inl (Or.inl (Or.inl (Or.inl (Or.inl (Or.inl (Or.inl (Or.inr z)))))))))))
        · exact Or.inl (Or.inl (Or.inl (Or.inl (Or.inl (Or.inl (Or.inl (Or.inl (Or.inl (Or.inl (Or.inr z))))))))))
        · exact Or.inl (Or.inl (Or.inl (Or.inl (Or.inl (Or.inl (Or.inl (Or.inl (Or.inl (Or.inr ⟨z, z2⟩)))))))))
        · exact Or.inl (Or.inl (Or.inl (Or.inl (Or.inl (Or.inl (Or.inl (Or.inl (Or.inr ⟨z, z2⟩))))))))
        · exact Or.inl (Or.inl (Or.inl (Or.inl (Or.inl (Or.inl (Or.inl (Or.inr z)))))))
        · exact Or.inl (Or.inl (Or.inl (Or.inl (Or.inl (Or.inl (Or.inr z))))))
        · exact Or.inl (Or.inl (Or.inl (Or.inl (Or.inl (Or.inr z)))))
        · exact Or.inl (Or.inl (Or.inl (Or.inl (Or.inr z))))
        · exact Or.inl (Or.inl (Or.inl (Or.inr z)))
        · exact Or.inl (Or.inl (Or.inr z))
        · exact Or.inl (Or.inr z)
        · exact Or.inr z
theorem LN_all : LN 1 ∧ LN 21 ∧ LN 74 ∧ LN 94 := ⟨⟨rfl, rfl, rfl⟩, ⟨rfl, rfl, rfl⟩, ⟨rfl, rfl, rfl⟩, ⟨rfl, rfl, rfl⟩⟩
