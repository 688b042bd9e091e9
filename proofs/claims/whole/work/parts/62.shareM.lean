/-! share: the reference's -/
theorem smN_congr {f f' : Nat → Nat} {n : Nat} (h : ∀ i, i < n → f i = f' i) : smN f n = smN f' n := itN_congr (fun i a hi => by rw [h i hi])
theorem allB_congr {f f' : Nat → Bool} {n : Nat} (h : ∀ i, i < n → f i = f' i) : allB f n = allB f' n := by
  induction n with
  | zero => rfl
  | succ n ih =>
    show (allB f n && f n) = (allB f' n && f' n)
    rw [ih (fun i hi => h i (by omega)), h n (by omega)]
theorem dgP_hi (G c : Nat) : dgP (G + 1) c G = c % 4 := if_pos rfl
theorem dgP_lo {G c i : Nat} (h : i < G) : dgP (G + 1) c i = dgP G (c / 4) i := if_neg (by omega)
theorem smP_sm (v : Nat → Nat → Nat) (G c : Nat) : smP v G c = smN (fun i => v i (dgP G c i)) G := by
  induction G generalizing c with
  | zero => rfl
  | succ G ih =>
    show smP v G (c / 4) + v G (c % 4) = smN (fun i => v i (dgP (G + 1) c i)) G + v G (dgP (G + 1) c G)
    rw [dgP_hi, ih, smN_congr (f := fun i => v i (dgP (G + 1) c i)) (f' := fun i => v i (dgP G (c / 4) i)) (fun i hi => by rw [dgP_lo hi])]
theorem okP_all (ok : Nat → Nat → Bool) (G c : Nat) : okP ok G c = allB (fun i => ok i (dgP G c i)) G := by
  induction G generalizing c with
  | zero => rfl
  | succ G ih =>
    show (okP ok G (c / 4) && ok G (c % 4)) = (allB (fun i => ok i (dgP (G + 1) c i)) G && ok G (dgP (G + 1) c G))
    rw [dgP_hi, ih, allB_congr (f := fun i => ok i (dgP (G + 1) c i)) (f' := fun i => ok i (dgP G (c / 4) i)) (fun i hi => by rw [dgP_lo hi])]
theorem rbE : ∀ G, G < 5 → ∀ g, g < G → ∀ c, c < 256 → (nI c >>> ((2 * ((nI G - 1) - nI g)) &&& 31)) &&& 3 = nI (dgP G c g) := by decide +kernel
theorem nibE : ∀ a, a < 5 → ∀ b, b < 5 → ∀ c, c < 5 → ∀ r, r < 3 → (nI (a + 16 * b + 256 * c) >>> ((4 * nI r) &&& 31)) &&& 15 = nI (if r = 0 then a else if r = 1 then b else c) := by decide +kernel
theorem sh4 : ∀ r, r < 3 → (1 : Int32) <<< ((4 * nI r) &&& 31) = nI (16 ^ r) := by decide +kernel
theorem sh2 : ∀ G, G < 5 → (1 : Int32) <<< ((2 * nI G) &&& 31) = nI (4 ^ G) := by decide +kernel
theorem mJ42 {N : Nat} {K2 : Int32 → St → Option St} {K15 : Int32 → Int32 → St → Option St} {g r l K H : Nat} {s : St} (hg : g < 4) (hr : r < 4) (h22 : s.1 114 22 = nI l) (hl : l ≤ 7) (hk : l ≠ 0 → s.1 114 24 = nI K ∧ s.1 114 25 = nI H) : Mo_findsAll_J42 N K2 K15 (nI g) (nI r) s = K15 (nI g) (nI (r + 1)) (sI (sI s 130 (4 * g + r) (if l = 0 then -1 else nI K)) 131 (4 * g + r) (if l = 0 then -1 else nI H)) := by
  unfold Mo_findsAll_J42 Mo_findsAll_J66 Mo_findsAll_J91
  rw [show (4 : Int32) = nI 4 from rfl, mulI, addI, inI (n := 16) (by omega) (by decide), clI (by omega), nI_1]
  simp only [ck_t, bS_e, bI_e, rdI_ne _ _ _ _ (show (114 : Nat) ≠ 130 by decide), h22]
  by_cases z : l = 0
  · have hz : nI l = 0 := by rw [z]; rfl
    rw [if_pos hz, if_pos hz, if_pos z, if_pos z]
  · have hz : ¬ nI l = 0 := neI (b := 0) z (by omega) (by decide)
    rw [if_neg hz, if_neg hz, (hk z).1, (hk z).2, if_neg z, if_neg z]
def EM (q : QS) (σ : St) (g d : Nat) : Prop := σ.1 130 (4 * g + d) = (if okS q g d = true then nI (knS q g d) else -1) ∧ σ.1 131 (4 * g + d) = (if okS q g d = true then nI (huS q g d) else -1)
def Fq (σ s : St) : Prop := (∀ i, i ≠ 114 → i ≠ 130 → i ≠ 131 → (i < 123 ∨ 129 < i) → s.1 i = σ.1 i) ∧ (∀ k, (k < 22 ∨ 27 < k) → s.1 114 k = σ.1 114 k) ∧ s.2 = σ.2
theorem EM.mv {q : QS} {s s' : St} {g d k : Nat} {x y : Int32} (h : EM q s g d) (hk : 4 * g + d ≠ k) (h1 : s'.1 130 = s.1 130) (h2 : s'.1 131 = s.1 131) : EM q (sI (sI s' 130 k x) 131 k y) g d := by
  unfold EM
  rw [rdI_ne _ _ _ _ (show (130 : Nat) ≠ 131 by decide), rdI_nk _ _ _ _ hk, rdI_nk _ _ _ _ hk, rdI_ne _ _ _ _ (show (131 : Nat) ≠ 130 by decide), h1, h2]; exact h
theorem EM.wr {q : QS} {s : St} {g d : Nat} {x y : Int32} (hx : x = if okS q g d = true then nI (knS q g d) else -1) (hy : y = if okS q g d = true then nI (huS q g d) else -1) : EM q (sI (sI s 130 (4 * g + d) x) 131 (4 * g + d) y) g d := ⟨by rw [rdI_ne _ _ _ _ (by decide), rdI_eq]; exact hx, by rw [rdI_eq]; exact hy⟩
theorem Fq.wr {σ s : St} {k : Nat} {x y : Int32} (h : Fq σ s) : Fq σ (sI (sI s 130 k x) 131 k y) := ⟨fun i h1 h2 h3 h4 => by rw [rdI_ne _ _ _ _ h3, rdI_ne _ _ _ _ h2]; exact h.1 i h1 h2 h3 h4, fun k hk => by rw [rdI_ne _ _ _ _ (by decide), rdI_ne _ _ _ _ (by decide)]; exact h.2.1 k hk, h.2.2⟩
theorem mFillS {N : Nat} (hN : 300 < N) (hBX : BX 10 + 10 < N) {q : QS} {σ s0 : St} (hq : Okq q) (h : RepM 115 0 q σ) {g : Nat} (hg : g < q 37) (K2 : Int32 → St → Option St) (hE : ∀ g' d, g' < g → d < 4 → EM q s0 g' d) (hf : Fq σ s0) : ∃ s', Mo_findsAll_L15 N K2 N (nI g) 0 s0 = K2 (nI (g + 1)) s' ∧ (∀ g' d, g' < g + 1 → d < 4 → EM q s' g' d) ∧ Fq σ s' := by
  have h36 := hq.b.2.1.1
  have h37 := hq.b.2.2.1.1
  refine loop_up (fun f r s => Mo_findsAll_L15 N K2 f (nI g) (nI r) s) 3 (fun r s => (∀ g' d, g' < g → d < 4 → EM q s g' d) ∧ (∀ d, d < r → EM q s g d) ∧ Fq σ s) (fun o => ∃ s', o = K2 (nI (g + 1)) s' ∧ (∀ g' d, g' < g + 1 → d < 4 → EM q s' g' d) ∧ Fq σ s') ?_ ?_ (by omega) ⟨hE, fun r hr => absurd hr (Nat.not_lt_zero r), hf⟩
  · intro f r s hr ⟨t1, t2, f1⟩
    have hn : ¬ 3 ≤ r := by omega
    have hMs : RepM 115 0 q s := h.frame (f1.1 115 (by decide) (by decide) (by decide) (by decide))
    have e36 : (sI s 114 22 0).1 115 (36 : Int32).toNatClampNeg = nI (q 36) := by rw [rdI_ne _ _ _ _ (by decide)]; exact hMs.get (by decide)
    have go : ∀ (t : St) (l K H : Nat), l ≤ 7 → t.1 114 22 = nI l → (l ≠ 0 → t.1 114 24 = nI K ∧ t.1 114 25 = nI H) → t.1 130 = s.1 130 → t.1 131 = s.1 131 → Fq σ t → (if l = 0 then -1 else nI K) = (if okS q g r = true then nI (knS q g r) else -1) → (if l = 0 then -1 else nI H) = (if okS q g r = true then nI (huS q g r) else -1) → ∃ s', Mo_findsAll_J42 N K2 (Mo_findsAll_L15 N K2 f) (nI g) (nI r) t = Mo_findsAll_L15 N K2 f (nI g) (nI (r + 1)) s' ∧ (∀ g' d, g' < g → d < 4 → EM q s' g' d) ∧ (∀ d, d < r + 1 → EM q s' g d) ∧ Fq σ s' := by
      intro t l K H hl e22 ek e130 e131 ft ex ey
      refine ⟨_, mJ42 (by omega) (by omega) e22 hl ek, fun g' d h1 h2 => (t1 g' d h1 h2).mv (by omega) e130 e131, fun d hd => ?_, ft.wr⟩
      by_cases e : d = r
      · subst e; exact EM.wr ex ey
      · exact (t2 d (by omega)).mv (by omega) e130 e131
    show ∃ s', Mo_findsAll_L15B N K2 (Mo_findsAll_L15 N K2 f) (nI g) (nI r) s = Mo_findsAll_L15 N K2 f (nI g) (nI (r + 1)) s' ∧ _
    unfold Mo_findsAll_L15B
    rw [if_neg (show ¬ (3 : Int32) ≤ nI r from leN (a := 3) hn (by decide) (by omega)), bS_e, e36]
    have F0 : Fq σ (sI s 114 22 0) := ⟨fun i h1 h2 h3 h4 => by rw [rdI_ne _ _ _ _ h1]; exact f1.1 i h1 h2 h3 h4, fun k hk => by rw [rdI_nk _ _ _ _ (by omega)]; exact f1.2.1 k hk, f1.2.2⟩
    by_cases y : q 36 ≤ r
    · have ob : okS q g r = false := by unfold okS; rw [if_neg (by omega)]; exact decide_eq_false (fun z => by omega)
      rw [if_pos (leP y (by omega) (by omega))]
      exact go (sI s 114 22 0) 0 0 0 (by decide) (by rw [rdI_eq]; rfl) (fun z => absurd rfl z) (rdI_ne _ _ _ _ (by decide)) (rdI_ne _ _ _ _ (by decide)) F0 (by rw [ob]; rfl) (by rw [ob]; rfl)
    · rw [if_neg (leN y (by omega) (by omega))]
      obtain ⟨t, g1, c1, m1⟩ := mFinds (N := N) hN hBX hq (hMs.frame (rdI_ne _ _ _ _ (by decide) : (sI s 114 22 0).1 115 = s.1 115)) hg (show r < q 36 by omega)
      rw [g1, bR_e]
      have hw := wayW_ok hq hg r
      have oe : okS q g r = decide ((wayW q g r).1.1 ≠ 0) := by
        unfold okS; rw [if_neg (by omega)]
        by_cases z : (wayW q g r).1.1 = 0
        · rw [decide_eq_false (fun y => y.2 z), decide_eq_false (fun y => y z)]
        · rw [decide_eq_true ⟨by omega, z⟩, decide_eq_true z]
      have ke : knS q g r = (wayW q g r).1.2.1 := if_neg (by omega)
      have he : huS q g r = (wayW q g r).1.2.2.1 := if_neg (by omega)
      refine go t (wayW q g r).1.1 (wayW q g r).1.2.1 (wayW q g r).1.2.2.1 hw.1 c1.1 (fun z => ⟨(c1.2.1 z).1, (c1.2.1 z).2.1⟩) (by rw [m1.1 130 (by decide) (by decide), rdI_ne _ _ _ _ (by decide)]) (by rw [m1.1 131 (by decide) (by decide), rdI_ne _ _ _ _ (by decide)]) ⟨fun i h1 h2 h3 h4 => by rw [m1.1 i h1 h4]; exact F0.1 i h1 h2 h3 h4, fun k hk => by rw [m1.2.1 k hk]; exact F0.2.1 k hk, by rw [m1.2.2]; exact F0.2.2⟩ ?_ ?_
      · rw [oe, ke]
        by_cases z : (wayW q g r).1.1 = 0
        · rw [if_pos z, if_neg (by simpa using z)]
        · rw [if_neg z, if_pos (by simpa using z)]
      · rw [oe, he]
        by_cases z : (wayW q g r).1.1 = 0
        · rw [if_pos z, if_neg (by simpa using z)]
        · rw [if_neg z, if_pos (by simpa using z)]
  · intro f s ⟨t1, t2, f1⟩
    have hMs : RepM 115 0 q s := h.frame (f1.1 115 (by decide) (by decide) (by decide) (by decide))
    have hx4 : q (60 + g) ≤ 7 := (hq.b.2.2.1.2.1 g hg).2.2.2.2.2.1
    have k60 : (60 : Int32) + nI g = nI (60 + g) := addI 60 g
    have k52 : (52 : Int32) + nI g = nI (52 + g) := addI 52 g
    have k56 : (56 : Int32) + nI g = nI (56 + g) := addI 56 g
    have k3 : 4 * nI g + 3 = nI (4 * g + 3) := by rw [show (4 : Int32) = nI 4 from rfl, mulI, show (3 : Int32) = nI 3 from rfl, addI]
    refine ⟨sI (sI s 130 (4 * g + 3) (if okS q g 3 = true then nI (knS q g 3) else -1)) 131 (4 * g + 3) (if okS q g 3 = true then nI (huS q g 3) else -1), ?_, fun g' d h1 h2 => ?_, f1.wr⟩
    · show Mo_findsAll_L15B N K2 (Mo_findsAll_L15 N K2 f) (nI g) (nI 3) s = _
      unfold Mo_findsAll_L15B Mo_findsAll_J98 Mo_findsAll_J117 Mo_findsAll_J144 Mo_findsAll_J171
      rw [if_pos (show (3 : Int32) ≤ nI 3 by decide), k60, k52, k56, k3, nI_1, inI (n := 286) (a := 60 + g) (by omega) (by decide), inI (n := 286) (a := 52 + g) (by omega) (by decide), inI (n := 286) (a := 56 + g) (by omega) (by decide), inI (n := 16) (by omega) (by decide), clI (a := 60 + g) (by omega), clI (a := 52 + g) (by omega), clI (a := 56 + g) (by omega), clI (a := 4 * g + 3) (by omega), hMs.get (k := 60 + g) (by omega), hMs.get (k := 52 + g) (by omega)]
      simp only [ck_t, bS_e, bI_e, rdI_ne _ _ _ _ (show (115 : Nat) ≠ 130 by decide)]
      rw [hMs.get (k := 56 + g) (by omega)]
      have oe : okS q g 3 = decide (q (60 + g) = 7) := if_pos rfl
      have ke : knS q g 3 = q (52 + g) := if_pos rfl
      have he : huS q g 3 = q (56 + g) := if_pos rfl
      rw [oe, ke, he]
      by_cases z : q (60 + g) = 7
      · rw [if_pos (show nI (q (60 + g)) = 7 by rw [z]; rfl), if_pos (decide_eq_true z), if_pos (decide_eq_true z), if_neg one_ne, if_neg one_ne]
      · rw [if_neg (show ¬ nI (q (60 + g)) = 7 from neI (b := 7) z (by omega) (by decide)), if_pos trivial, if_pos trivial, if_neg (by simpa using z), if_neg (by simpa using z)]
    · by_cases e : g' = g
      · subst e
        by_cases e3 : d = 3
        · subst e3; exact EM.wr rfl rfl
        · exact (t2 d (by omega)).mv (by omega) rfl rfl
      · exact (t1 g' d (by omega) h2).mv (by omega) rfl rfl
theorem mFindsAll {N : Nat} (hN : 300 < N) (hBX : BX 10 + 10 < N) {q : QS} {σ : St} (hq : Okq q) (h : RepM 115 0 q σ) : ∃ s', Mo_findsAll N σ = some s' ∧ (∀ g d, g < q 37 → d < 4 → EM q s' g d) ∧ Fq σ s' := by
  have h37 := hq.b.2.2.1.1
  unfold Mo_findsAll
  refine loop_up (fun f g s => Mo_findsAll_L2 N f (nI g) s) (q 37) (fun g s => (∀ g' d, g' < g → d < 4 → EM q s g' d) ∧ Fq σ s) (fun o => ∃ s', o = some s' ∧ (∀ g d, g < q 37 → d < 4 → EM q s' g d) ∧ Fq σ s') ?_ ?_ (by omega) ⟨fun g d hg => absurd hg (Nat.not_lt_zero g), fun _ _ _ _ _ => rfl, fun _ _ => rfl, rfl⟩
  · intro f g s hg ⟨u1, u2⟩
    have hn : ¬ q 37 ≤ g := by omega
    have e37 : s.1 115 (37 : Int32).toNatClampNeg = nI (q 37) := (h.frame (u2.1 115 (by decide) (by decide) (by decide) (by decide))).get (by decide)
    obtain ⟨s', k1, k2, k3⟩ := mFillS (N := N) hN hBX hq h hg (Mo_findsAll_L2 N f) u1 u2
    refine ⟨s', ?_, k2, k3⟩
    show Mo_findsAll_L2B N (Mo_findsAll_L2 N f) (nI g) s = _
    unfold Mo_findsAll_L2B
    rw [e37, if_neg (leN hn (by omega) (by omega)), k1]
  · intro f s ⟨u1, u2⟩
    have e37 : s.1 115 (37 : Int32).toNatClampNeg = nI (q 37) := (h.frame (u2.1 115 (by decide) (by decide) (by decide) (by decide))).get (by decide)
    refine ⟨s, ?_, u1, u2⟩
    show Mo_findsAll_L2B N (Mo_findsAll_L2 N f) (nI (q 37)) s = _
    unfold Mo_findsAll_L2B
    rw [e37, if_pos (Int32.le_refl _)]
def MS (s : S3) (σ : St) : Prop := σ.1 114 32 = (if s.1 = 0 then -1 else nI (s.1 - 1)) ∧ (s.1 ≠ 0 → σ.1 114 30 = nI s.2.1 ∧ σ.1 114 31 = nI s.2.2)
def Fz (σ s : St) : Prop := (∀ i, i ≠ 114 → s.1 i = σ.1 i) ∧ (∀ k, (k < 30 ∨ 32 < k) → s.1 114 k = σ.1 114 k) ∧ s.2 = σ.2
theorem mSettle {N G c : Nat} {ok : Nat → Nat → Bool} {kn hu : Nat → Nat → Nat} {s : S3} {σ : St} (hs : SOk s) (h1 : s.1 ≤ 256) (hb : smP kn G c ≤ 1000 ∧ smP hu G c ≤ 10000) (hC : MS s σ) (hv : vld ok G c = true) : ∃ σ', Mo_shares_J134 N (nI c) (nI (smP kn G c)) (nI (smP hu G c)) σ = some σ' ∧ MS (stp ok kn hu G c s) σ' ∧ Fz σ σ' := by
  obtain ⟨b1, b2⟩ := hb
  obtain ⟨s1, s2⟩ := hs
  have set : ∃ t, Mo_shares_J165 N (nI c) (nI (smP kn G c)) (nI (smP hu G c)) σ = some t ∧ MS (c + 1, smP kn G c, smP hu G c) t ∧ Fz σ t := by
    unfold Mo_shares_J165
    rw [bS_e, bS_e, bS_e]
    refine ⟨_, rfl, ⟨?_, fun _ => ⟨?_, ?_⟩⟩, fun i hi => by rw [rdI_ne _ _ _ _ hi, rdI_ne _ _ _ _ hi, rdI_ne _ _ _ _ hi], fun k hk => by rw [rdI_nk _ _ _ _ (by omega), rdI_nk _ _ _ _ (by omega), rdI_nk _ _ _ _ (by omega)], rfl⟩
    · rw [rdI_nk _ _ _ _ (by decide), rdI_nk _ _ _ _ (by decide), rdI_eq]
      show _ = if c + 1 = 0 then -1 else nI (c + 1 - 1)
      rw [if_neg (by omega), Nat.add_sub_cancel]
    · rw [rdI_nk _ _ _ _ (by decide), rdI_eq]
    · rw [rdI_eq]
  obtain ⟨t, g1, c1, f1⟩ := set
  have yes : (s.1 = 0 ∨ s.2.1 < smP kn G c ∨ (smP kn G c = s.2.1 ∧ smP hu G c < s.2.2)) → MS (stp ok kn hu G c s) t := fun z => by
    unfold stp; rw [if_pos ⟨hv, z⟩]; exact c1
  have nay : ¬ (s.1 = 0 ∨ s.2.1 < smP kn G c ∨ (smP kn G c = s.2.1 ∧ smP hu G c < s.2.2)) → MS (stp ok kn hu G c s) σ := fun z => by
    unfold stp; rw [if_neg (fun y => z y.2)]; exact hC
  have no : Fz σ σ := ⟨fun _ _ => rfl, fun _ _ => rfl, rfl⟩
  unfold Mo_shares_J134
  rw [hC.1]
  by_cases z : s.1 = 0
  · exact ⟨t, by rw [if_pos z, if_pos (by decide), g1], yes (Or.inl z), f1⟩
  · obtain ⟨e1, e2⟩ := hC.2 z
    rw [if_neg z, if_neg (nI_pos (by omega)), e1, e2]
    by_cases a : s.2.1 < smP kn G c
    · exact ⟨t, by rw [if_pos (ltP a (by omega) (by omega)), g1], yes (Or.inr (Or.inl a)), f1⟩
    · rw [if_neg (ltN a (by omega) (by omega))]
      by_cases e : smP kn G c = s.2.1
      · rw [if_pos (by rw [e])]
        by_cases l : s.2.2 ≤ smP hu G c
        · exact ⟨σ, by rw [if_pos (leP l (by omega) (by omega))], nay (by omega), no⟩
        · exact ⟨t, by rw [if_neg (leN l (by omega) (by omega)), g1], yes (Or.inr (Or.inr ⟨e, by omega⟩)), f1⟩
      · exact ⟨σ, by rw [if_neg (neI e (by omega) (by omega))], nay (by omega), no⟩
theorem mCode {N : Nat} (hN : 300 < N) {q : QS} {σ : St} (hq : Okq q) (h : RepM 115 0 q σ) (hE : ∀ g d, g < q 37 → d < 4 → EM q σ g d) {c : Nat} (hc : c < 256) {s : S3} (hs : SOk s) (h1 : s.1 ≤ 256) (hC : MS s σ) : ∃ σ', Mo_shares N (nI c) σ = some σ' ∧ MS (stp (okS q) (knS q) (huS q) (q 37) c s) σ' ∧ Fz σ σ' := by
  have h37 := hq.b.2.2.1.1
  have e37 : σ.1 115 (37 : Int32).toNatClampNeg = nI (q 37) := h.get (by decide)
  obtain ⟨b1, b2⟩ := shB hq (Nat.le_refl (q 37)) c
  have no : Fz σ σ := ⟨fun _ _ => rfl, fun _ _ => rfl, rfl⟩
  obtain ⟨nR, hR⟩ : ∃ nR : Nat → Nat → Nat, ∀ r g, nR r g = smN (fun i => isR r i (dgP (q 37) c i)) g := ⟨_, fun _ _ => rfl⟩
  have nRs : ∀ r g, nR r (g + 1) = nR r g + isR r g (dgP (q 37) c g) := fun r g => by rw [hR, hR, smN_s]
  have isle : ∀ r i d, isR r i d ≤ 1 := fun r i d => by unfold isR; split <;> omega
  have nRle : ∀ r g, nR r g ≤ g := fun r g => by
    induction g with
    | zero => rw [hR]; exact Nat.le_refl _
    | succ g ih => rw [nRs]; have := isle r g (dgP (q 37) c g); omega
  have nRG : ∀ r, nR r (q 37) = smP (isR r) (q 37) c := fun r => by rw [hR, smP_sm]
  have bad : badP (okS q) (q 37) c → MS (stp (okS q) (knS q) (huS q) (q 37) c s) σ := fun z => by rw [z.st]; exact hC
  unfold Mo_shares
  refine loop_ex (fun f g (a : Int32 × Int32 × Int32) => Mo_shares_L10 N f (nI c) a.1 a.2.1 a.2.2 (nI g) σ) (q 37) (fun g a => a = (nI (smN (fun i => knS q i (dgP (q 37) c i)) g), nI (smN (fun i => huS q i (dgP (q 37) c i)) g), nI (nR 0 g + 16 * nR 1 g + 256 * nR 2 g)) ∧ allB (fun i => okS q i (dgP (q 37) c i)) g = true) (fun o => ∃ σ', o = some σ' ∧ MS (stp (okS q) (knS q) (huS q) (q 37) c s) σ' ∧ Fz σ σ') ?_ ?_ (fuel := N) (a := ((0 : Int32), (0 : Int32), (0 : Int32))) (by omega) ⟨by rw [hR, hR, hR]; rfl, rfl⟩
  · intro f g a hg ⟨ha, hal⟩
    subst ha
    have hn : ¬ q 37 ≤ g := by omega
    have hd := dgP_lt (q 37) c g
    obtain ⟨E1, E2⟩ := hE g (dgP (q 37) c g) hg hd
    have rb : Mo_rowerBy N (nI c) (nI g) σ = some (nI (dgP (q 37) c g)) := by
      unfold Mo_rowerBy
      rw [e37, rbE (q 37) (by omega) g hg c hc]
    show (∃ σ', Mo_shares_L10B N (Mo_shares_L10 N f) (nI c) (nI (smN (fun i => knS q i (dgP (q 37) c i)) g)) (nI (smN (fun i => huS q i (dgP (q 37) c i)) g)) (nI (nR 0 g + 16 * nR 1 g + 256 * nR 2 g)) (nI g) σ = some σ' ∧ _) ∨ ∃ a' : Int32 × Int32 × Int32, Mo_shares_L10B N (Mo_shares_L10 N f) (nI c) (nI (smN (fun i => knS q i (dgP (q 37) c i)) g)) (nI (smN (fun i => huS q i (dgP (q 37) c i)) g)) (nI (nR 0 g + 16 * nR 1 g + 256 * nR 2 g)) (nI g) σ = Mo_shares_L10 N f (nI c) a'.1 a'.2.1 a'.2.2 (nI (g + 1)) σ ∧ _
    unfold Mo_shares_L10B Mo_shares_J95
    rw [e37, if_neg (leN hn (by omega) (by omega)), rb, bR_e, show 4 * nI g + nI (dgP (q 37) c g) = nI (4 * g + dgP (q 37) c g) by rw [show (4 : Int32) = nI 4 from rfl, mulI, addI], inI (n := 16) (by omega) (by decide), clI (by omega), E1, E2]
    simp only [ck_t, bI_e]
    by_cases z : okS q g (dgP (q 37) c g) = true
    · right
      obtain ⟨kb, hb⟩ := knhu hq hg (dgP (q 37) c g)
      refine ⟨(nI (smN (fun i => knS q i (dgP (q 37) c i)) (g + 1)), nI (smN (fun i => huS q i (dgP (q 37) c i)) (g + 1)), nI (nR 0 (g + 1) + 16 * nR 1 (g + 1) + 256 * nR 2 (g + 1))), ?_, rfl, ?_⟩
      · rw [if_pos z, if_pos z, if_pos (nI_pos' (by omega)), addI, addI, nI_1, smN_s, smN_s, nRs, nRs, nRs]
        rcases (show dgP (q 37) c g = 0 ∨ dgP (q 37) c g = 1 ∨ dgP (q 37) c g = 2 ∨ dgP (q 37) c g = 3 by omega) with e | e | e | e
        · rw [e, if_neg (by decide), sh4 0 (by decide), addI]
          show Mo_shares_L10 N f _ _ _ (nI (nR 0 g + 16 * nR 1 g + 256 * nR 2 g + 1)) _ σ = Mo_shares_L10 N f _ _ _ (nI (nR 0 g + 1 + 16 * (nR 1 g + 0) + 256 * (nR 2 g + 0))) _ σ
          rw [show nR 0 g + 16 * nR 1 g + 256 * nR 2 g + 1 = nR 0 g + 1 + 16 * (nR 1 g + 0) + 256 * (nR 2 g + 0) by omega]
        · rw [e, if_neg (by decide), sh4 1 (by decide), addI]
          show Mo_shares_L10 N f _ _ _ (nI (nR 0 g + 16 * nR 1 g + 256 * nR 2 g + 16)) _ σ = Mo_shares_L10 N f _ _ _ (nI (nR 0 g + 0 + 16 * (nR 1 g + 1) + 256 * (nR 2 g + 0))) _ σ
          rw [show nR 0 g + 16 * nR 1 g + 256 * nR 2 g + 16 = nR 0 g + 0 + 16 * (nR 1 g + 1) + 256 * (nR 2 g + 0) by omega]
        · rw [e, if_neg (by decide), sh4 2 (by decide), addI]
          show Mo_shares_L10 N f _ _ _ (nI (nR 0 g + 16 * nR 1 g + 256 * nR 2 g + 256)) _ σ = Mo_shares_L10 N f _ _ _ (nI (nR 0 g + 0 + 16 * (nR 1 g + 0) + 256 * (nR 2 g + 1))) _ σ
          rw [show nR 0 g + 16 * nR 1 g + 256 * nR 2 g + 256 = nR 0 g + 0 + 16 * (nR 1 g + 0) + 256 * (nR 2 g + 1) by omega]
        · rw [e, if_pos (by decide), show (0 : Int32) = nI 0 from rfl, addI]
          rfl
      · show (allB (fun i => okS q i (dgP (q 37) c i)) g && okS q g (dgP (q 37) c g)) = true
        rw [hal, z]; rfl
    · left
      refine ⟨σ, ?_, bad (Or.inl ?_), no⟩
      · rw [if_neg z, if_neg (by decide)]
      · rw [okP_all]; exact allB_no hg (by simpa using z)
  · intro f a ⟨ha, hal⟩
    subst ha
    show ∃ σ', Mo_shares_L10B N (Mo_shares_L10 N f) (nI c) (nI (smN (fun i => knS q i (dgP (q 37) c i)) (q 37))) (nI (smN (fun i => huS q i (dgP (q 37) c i)) (q 37))) (nI (nR 0 (q 37) + 16 * nR 1 (q 37) + 256 * nR 2 (q 37))) (nI (q 37)) σ = some σ' ∧ _
    unfold Mo_shares_L10B Mo_shares_J104
    rw [e37, if_pos (Int32.le_refl _), ← smP_sm, ← smP_sm]
    have l0 := nRle 0 (q 37)
    have l1 := nRle 1 (q 37)
    have l2 := nRle 2 (q 37)
    refine loop_ex (fun f r (_ : Unit) => Mo_shares_L107 N f (nI c) (nI (smP (knS q) (q 37) c)) (nI (smP (huS q) (q 37) c)) (nI (nR 0 (q 37) + 16 * nR 1 (q 37) + 256 * nR 2 (q 37))) (nI r) σ) 3 (fun r _ => ∀ r', r' < r → nR r' (q 37) ≤ 2) (fun o => ∃ σ', o = some σ' ∧ MS (stp (okS q) (knS q) (huS q) (q 37) c s) σ' ∧ Fz σ σ') ?_ ?_ (fuel := N) (a := ()) (by omega) (fun r hr => absurd hr (Nat.not_lt_zero r))
    · intro f r _ hr hall
      have hn : ¬ 3 ≤ r := by omega
      have ne : (if r = 0 then nR 0 (q 37) else if r = 1 then nR 1 (q 37) else nR 2 (q 37)) = nR r (q 37) := by
        rcases (show r = 0 ∨ r = 1 ∨ r = 2 by omega) with e | e | e <;> subst e <;> rfl
      have lr := nRle r (q 37)
      show (∃ σ', Mo_shares_L107B N (Mo_shares_L107 N f) (nI c) (nI (smP (knS q) (q 37) c)) (nI (smP (huS q) (q 37) c)) (nI (nR 0 (q 37) + 16 * nR 1 (q 37) + 256 * nR 2 (q 37))) (nI r) σ = some σ' ∧ _) ∨ ∃ a', Mo_shares_L107B N (Mo_shares_L107 N f) (nI c) (nI (smP (knS q) (q 37) c)) (nI (smP (huS q) (q 37) c)) (nI (nR 0 (q 37) + 16 * nR 1 (q 37) + 256 * nR 2 (q 37))) (nI r) σ = Mo_shares_L107 N f (nI c) (nI (smP (knS q) (q 37) c)) (nI (smP (huS q) (q 37) c)) (nI (nR 0 (q 37) + 16 * nR 1 (q 37) + 256 * nR 2 (q 37))) (nI (r + 1)) σ ∧ _
      unfold Mo_shares_L107B
      rw [if_neg (show ¬ (3 : Int32) ≤ nI r from leN (a := 3) hn (by decide) (by omega)), nibE _ (by omega) _ (by omega) _ (by omega) r hr, ne]
      by_cases z : nR r (q 37) ≤ 2
      · right
        refine ⟨(), by rw [if_pos (show nI (nR r (q 37)) ≤ 2 from leP (b := 2) z (by omega) (by decide)), nI_1, bI_e], fun r' hr' => ?_⟩
        by_cases e : r' = r
        · subst e; exact z
        · exact hall r' (by omega)
      · left
        exact ⟨σ, by rw [if_neg (show ¬ nI (nR r (q 37)) ≤ 2 from leN (b := 2) z (by omega) (by decide))], bad (Or.inr ⟨r, hr, by rw [← nRG]; omega⟩), no⟩
    · intro f _ hall
      show ∃ σ', Mo_shares_L107B N (Mo_shares_L107 N f) (nI c) (nI (smP (knS q) (q 37) c)) (nI (smP (huS q) (q 37) c)) (nI (nR 0 (q 37) + 16 * nR 1 (q 37) + 256 * nR 2 (q 37))) (nI 3) σ = some σ' ∧ _
      unfold Mo_shares_L107B
      rw [if_pos (by decide)]
      refine mSettle hs h1 ⟨b1, b2⟩ hC ?_
      unfold vld
      rw [okP_all, hal, allB_yes (fun r hr => decide_eq_true (by rw [← nRG]; exact hall r hr))]; rfl
theorem stp_le (ok : Nat → Nat → Bool) (kn hu : Nat → Nat → Nat) (G n : Nat) {s : S3} (h : s.1 ≤ n) : (stp ok kn hu G n s).1 ≤ n + 1 := by
  unfold stp
  split
  · exact Nat.le_refl _
  · omega
theorem it_le (ok : Nat → Nat → Bool) (kn hu : Nat → Nat → Nat) (G n : Nat) : (itN (fun i s => stp ok kn hu G i s) n ((0, 0, 0) : S3)).1 ≤ n := by
  induction n with
  | zero => exact Nat.le_refl _
  | succ n ih =>
    exact stp_le ok kn hu G n ih
theorem it_ok {ok : Nat → Nat → Bool} {kn hu : Nat → Nat → Nat} {G : Nat} (hb : ∀ c, smP kn G c ≤ 1000 ∧ smP hu G c ≤ 10000) (n : Nat) : SOk (itN (fun i s => stp ok kn hu G i s) n ((0, 0, 0) : S3)) := by
  induction n with
  | zero => exact ⟨Nat.zero_le _, Nat.zero_le _⟩
  | succ n ih => exact ih.st hb
theorem shS_it (q : QS) : shS q = itN (fun i s => stp (okS q) (knS q) (huS q) (q 37) i s) (4 ^ q 37) (0, 0, 0) := by
  unfold shS
  rw [asg_it]
  refine itN_congr (fun i b _ => ?_)
  rw [Nat.zero_mul, Nat.zero_add]
theorem pow4 : ∀ G, G < 5 → 4 ^ G ≤ 256 := by decide +kernel
theorem mShare {N : Nat} (hN : 300 < N) (hBX : BX 10 + 10 < N) {q : QS} {σ : St} (hq : Okq q) (h : RepM 115 0 q σ) (v1 : Int32) : ∃ s, Mo_share_J27 N v1 σ = Mo_share_J64 N v1 s ∧ MS (shS q) s ∧ RepM 115 0 q s ∧ Gr σ s := by
  have h37 := hq.b.2.2.1.1
  have p4 := pow4 (q 37) (by omega)
  obtain ⟨s1, g1, e1, f1⟩ := mFindsAll (N := N) hN hBX hq h
  have h1 : RepM 115 0 q s1 := h.frame (f1.1 115 (by decide) (by decide) (by decide) (by decide))
  unfold Mo_share_J27
  rw [g1, bR_e, bS_e, shS_it]
  refine loop_up (fun f c s => Mo_share_L38 N f v1 (nI c) s) (4 ^ q 37) (fun c s => MS (itN (fun i s => stp (okS q) (knS q) (huS q) (q 37) i s) c (0, 0, 0)) s ∧ Fz s1 s) (fun o => ∃ s, o = Mo_share_J64 N v1 s ∧ MS (itN (fun i s => stp (okS q) (knS q) (huS q) (q 37) i s) (4 ^ q 37) (0, 0, 0)) s ∧ RepM 115 0 q s ∧ Gr σ s) ?_ ?_ (by omega) ⟨⟨by rw [rdI_eq]; rfl, fun z => absurd rfl z⟩, fun i hi => rdI_ne _ _ _ _ hi, fun k hk => rdI_nk _ _ _ _ (by omega), rfl⟩
  · intro f c s hc ⟨m1, z1⟩
    have hn : ¬ 4 ^ q 37 ≤ c := by omega
    have hs : RepM 115 0 q s := h1.frame (z1.1 115 (by decide))
    have e37 : s.1 115 (37 : Int32).toNatClampNeg = nI (q 37) := hs.get (by decide)
    obtain ⟨s2, g2, c2, z2⟩ := mCode (N := N) hN hq hs (fun g d hg hd => by unfold EM; rw [z1.1 130 (by decide), z1.1 131 (by decide)]; exact e1 g d hg hd) (show c < 256 by omega) (it_ok (fun c => shB hq (Nat.le_refl (q 37)) c) c) (by have := it_le (okS q) (knS q) (huS q) (q 37) c; omega) m1
    refine ⟨s2, ?_, c2, fun i hi => (z2.1 i hi).trans (z1.1 i hi), fun k hk => (z2.2.1 k hk).trans (z1.2.1 k hk), z2.2.2.trans z1.2.2⟩
    show Mo_share_L38B N (Mo_share_L38 N f) v1 (nI c) s = _
    unfold Mo_share_L38B
    rw [e37, sh2 (q 37) (by omega), if_neg (leN hn (by omega) (by omega)), g2, bR_e, nI_1, bI_e]
  · intro f s ⟨m1, z1⟩
    have hs : RepM 115 0 q s := h1.frame (z1.1 115 (by decide))
    have e37 : s.1 115 (37 : Int32).toNatClampNeg = nI (q 37) := hs.get (by decide)
    refine ⟨s, ?_, m1, hs, fun i hi => by rw [z1.1 i (by omega), f1.1 i (by omega) (by omega) (by omega) (by omega)], fun i h2 h3 => by rw [z1.1 i (by omega), f1.1 i (by omega) (by omega) (by omega) (by omega)], by rw [z1.2.1 5 (by decide), f1.2.1 5 (by decide)], by rw [z1.2.2, f1.2.2]⟩
    show Mo_share_L38B N (Mo_share_L38 N f) v1 (nI (4 ^ q 37)) s = _
    unfold Mo_share_L38B
    rw [e37, sh2 (q 37) (by omega), if_pos (Int32.le_refl _)]
def shA (q : QS) (v1 : Int32) : Int32 := if (shS q).1 = 0 then -5 else if v1 = -3 then nI (shS q).2.1 else if v1 = -2 then nI (shS q).2.2 else chI (dgP (q 37) ((shS q).1 - 1) v1.toNatClampNeg)
theorem sim_share (N : Nat) (hN : 300 < N) (hBX : BX 10 + 10 < N) : Sim_share N Inv := by
  intro σ hI v1
  obtain ⟨A, hO, hC, hM⟩ := hI
  have hq := hO.1
  have h37 := hO.1.2.2.1
  have main : (∀ σ, CI A σ → Go_share N v1 σ = Go_share_J25 N v1 σ) → (∀ σ, MI A σ → Mo_share N v1 σ = Mo_share_J27 N v1 σ) → (v1 = -3 ∨ v1 = -2 ∨ ∃ g, g < A.1 37 ∧ v1 = nI g) → ∃ (r : Int32) (σ1 σ2 : St), Go_share N v1 σ = some (r, σ1) ∧ Mo_share N v1 σ1 = some (r, σ2) ∧ Inv σ2 := by
    intro eG eM hv
    have hle : (shS A.1).1 ≤ 256 := by
      rw [shS_it]
      have := it_le (okS A.1) (knS A.1) (huS A.1) (A.1 37) (4 ^ A.1 37)
      have := pow4 (A.1 37) (by omega)
      omega
    refine sim_scr (f := fun σ => Go_share N v1 σ) (g := fun σ => Mo_share N v1 σ) (r := shA A.1 v1) hO hC hM ?_ (fun σ1 m1 => ?_)
    · obtain ⟨s, g1, c1, f1⟩ := cShare (N := N) hN hq hC.nr
      refine ⟨s, ?_, f1⟩
      show Go_share N v1 σ = _
      rw [eG σ hC]
      unfold Go_share_J25 shA
      rw [g1, bR_e, c1.1]
      by_cases z : (shS A.1).1 = 0
      · rw [if_pos z, if_pos rfl, if_pos z]
      · obtain ⟨k1, k2, k3⟩ := c1.2 z
        rw [if_neg z, if_neg one_ne, if_neg z, k1, k2]
        rcases hv with hv | hv | ⟨g, hg, hv⟩
        · rw [if_pos hv, if_pos hv]
        · have n3 : ¬ v1 = -3 := by rw [hv]; decide
          rw [if_neg n3, if_pos hv, if_neg n3, if_pos hv]
        · subst hv
          have n3 : ¬ nI g = (-3 : Int32) := fun z => nI_pos (n := g) (by omega) (by rw [z]; decide)
          have n2 : ¬ nI g = (-2 : Int32) := fun z => nI_pos (n := g) (by omega) (by rw [z]; decide)
          rw [if_neg n3, if_neg n2, if_neg n3, if_neg n2, inI (n := 4) (by omega) (by decide), ck_t, clI (by omega), k3 g hg]
    · obtain ⟨s, g1, c1, r1, f1⟩ := mShare (N := N) hN hBX hq m1.1 v1
      refine ⟨s, ?_, r1, f1⟩
      show Mo_share N v1 σ1 = _
      rw [eM σ1 m1, g1]
      unfold Mo_share_J64 shA
      rw [c1.1]
      by_cases z : (shS A.1).1 = 0
      · rw [if_pos z, if_neg (by decide), if_pos z]
      · obtain ⟨k1, k2⟩ := c1.2 z
        rw [if_neg z, if_pos (nI_pos' (by omega)), if_neg z, k1, k2]
        rcases hv with hv | hv | ⟨g, hg, hv⟩
        · rw [if_neg (by rw [hv]; decide), if_pos hv, if_pos hv]
        · rw [if_neg (by rw [hv]; decide), if_neg (by rw [hv]; decide), if_neg (by rw [hv]; decide), if_pos hv]
        · subst hv
          have n3 : ¬ nI g = (-3 : Int32) := fun z => nI_pos (n := g) (by omega) (by rw [z]; decide)
          have n2 : ¬ nI g = (-2 : Int32) := fun z => nI_pos (n := g) (by omega) (by rw [z]; decide)
          have e37 : s.1 115 (37 : Int32).toNatClampNeg = nI (A.1 37) := r1.get (by decide)
          have hd := dgP_lt (A.1 37) ((shS A.1).1 - 1) g
          unfold Mo_rowerBy chI
          rw [if_pos (nI_pos' (by omega)), if_neg n3, if_neg n2, e37, rbE (A.1 37) (by omega) g hg _ (by omega), bR_e, clI (by omega)]
          by_cases y : dgP (A.1 37) ((shS A.1).1 - 1) g = 3
          · rw [if_pos (show nI (dgP (A.1 37) ((shS A.1).1 - 1) g) = 3 by rw [y]; rfl), if_pos y]
          · rw [if_neg (show ¬ nI (dgP (A.1 37) ((shS A.1).1 - 1) g) = 3 from neI (b := 3) y (by omega) (by decide)), if_neg y]
  by_cases a3 : v1 = -3
  · exact main (fun σ _ => by unfold Go_share; rw [if_pos a3]) (fun σ _ => by unfold Mo_share; rw [if_pos a3]) (Or.inl a3)
  by_cases a2 : v1 = -2
  · exact main (fun σ _ => by unfold Go_share; rw [if_neg a3, if_pos a2]) (fun σ _ => by unfold Mo_share; rw [if_neg a3, if_pos a2]) (Or.inr (Or.inl a2))
  by_cases h1 : (0 : Int) ≤ v1.toInt ∧ v1.toInt ≤ (A.1 37 : Int) - 1
  · exact main (fun σ hC => by unfold Go_share; rw [if_neg a3, if_neg a2, gGu hO hC, bR_e, wv_1 h1, if_neg one_ne]) (fun σ hM => by unfold Mo_share; rw [if_neg a3, if_neg a2, mGu hO hM, bR_e, wv_1 h1, if_neg one_ne]) (Or.inr (Or.inr (wv_lt h1)))
  · refine sim_ref (f := fun σ => Go_share N v1 σ) (g := fun σ => Mo_share N v1 σ) (r := -10) 0 (by decide) hO hC hM ?_ (fun σ1 m1 => ?_)
    · show Go_share N v1 σ = _
      unfold Go_share
      rw [if_neg a3, if_neg a2, gGu hO hC, bR_e, wv_0 h1, if_pos rfl, gFarBad, bW_e]
    · show Mo_share N v1 σ1 = _
      unfold Mo_share
      rw [if_neg a3, if_neg a2, mGu hO m1, bR_e, wv_0 h1, if_pos rfl, mBad, bW_e]
