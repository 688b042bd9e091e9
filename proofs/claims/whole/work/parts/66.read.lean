/-! read -/
theorem mItemY {N : Nat} (hN : 300 < N) {T : Nat → Nat} {L p w : Nat} (hT : TX T L) {q : QS} {σ : St} (hq : Okq q) (hz : q 157 = 0) (hM : RepM 115 0 q σ) (hX : MX T L σ) (hp : p ≤ L) (hH : MH T L p σ) (hwk : wk T L p = w) (hw : 1 ≤ w ∧ w ≤ 5) (ht : tooB q w = false) : ((rdN T L (fitB q w) (num w) 0 (fun _ => 0) (tkA T L p)).1 = true → ∃ s, Mo_readsItem N σ = some (1, s) ∧ RepM 115 0 (app q w (rdN T L (fitB q w) (num w) 0 (fun _ => 0) (tkA T L p)).2.2) s ∧ s.1 114 9 = nI (rdN T L (fitB q w) (num w) 0 (fun _ => 0) (tkA T L p)).2.1 ∧ G15 σ s) ∧ ((rdN T L (fitB q w) (num w) 0 (fun _ => 0) (tkA T L p)).1 = false → ∃ s, Mo_readsItem N σ = some (0, s) ∧ s.1 114 10 = nI (rdN T L (fitB q w) (num w) 0 (fun _ => 0) (tkA T L p)).2.1 ∧ G15 σ s) := by
  rcases (show w = 1 ∨ w = 2 ∨ w = 3 ∨ w = 4 ∨ w = 5 by omega) with e | e | e | e | e <;> subst e
  · exact mItem1 hN hT hq hz hM hX hp hH hwk ht
  · exact mItem2 hN hT hq hz hM hX hp hH hwk ht
  · exact mItem3 hN hT hq hz hM hX hp hH hwk ht
  · exact mItem4 hN hT hq hz hM hX hp hH hwk ht
  · exact mItem5 hN hT hq hz hM hX hp hH hwk ht
theorem Fc.rfl' {σ : St} : Fc σ σ := ⟨fun _ _ _ _ => rfl, rfl, rfl⟩
def Gz (σ s : St) : Prop := (∀ i, i ≠ 114 → i ≠ 115 → i ≠ 121 → s.1 i = σ.1 i) ∧ (∀ k, k < 9 → s.1 114 k = σ.1 114 k) ∧ s.2 = σ.2
theorem Gz.rfl' {σ : St} : Gz σ σ := ⟨fun _ _ _ _ => rfl, fun _ _ => rfl, rfl⟩
theorem Gz.trans {σ s t : St} (h : Gz σ s) (h2 : Gz s t) : Gz σ t := ⟨fun i h1 h3 h4 => (h2.1 i h1 h3 h4).trans (h.1 i h1 h3 h4), fun k hk => (h2.2.1 k hk).trans (h.2.1 k hk), h2.2.2.trans h.2.2⟩
theorem G15.z {σ s : St} (h : G15 σ s) : Gz σ s := ⟨h.1, fun k hk => h.2.1 k (by omega), h.2.2⟩
theorem G21.z {σ s : St} (h : G21 σ s) : Gz σ s := h.m.z
theorem F14.z {σ s : St} (h : F14 σ s) : Gz σ s := h.g.z
theorem G1.z {σ s : St} (h : G1 σ s) : Gz σ s := ⟨fun i _ h2 _ => h.1 i h2, fun k _ => by rw [h.1 114 (by decide)], h.2⟩
theorem Gz.w {σ : St} {k : Nat} {v : Int32} (hk : 9 ≤ k) : Gz σ (sI σ 114 k v) := ⟨fun i h1 _ _ => rdI_ne _ _ _ _ h1, fun j hj => rdI_nk _ _ _ _ (by omega), rfl⟩
theorem MX.z {T : Nat → Nat} {L : Nat} {σ s : St} (h : MX T L σ) (f : Gz σ s) : MX T L s := ⟨(f.2.1 5 (by decide)).trans h.1, fun j hj => by rw [f.1 119 (by decide) (by decide) (by decide)]; exact h.2 j hj⟩
def rdG (N : Nat) (T : Nat → Nat) (L d p n : Nat) (q : QS) : Prop := ∃ (ok : Bool) (z : Nat) (q' : QS), (ok = true → Okq q' ∧ z ≤ 150) ∧ (∀ σ F, NR 21 q σ → CT T L σ → CH T L p σ → d < F → ∃ s, Re_build_L52 N F 21 (nI n) σ = some (if ok = true then nI z else -1, s) ∧ (ok = true → NR 21 q' s) ∧ (ok = false → s.1 71 3 = nI z) ∧ TW 21 s ∧ Fc σ s) ∧ (∀ σ F, RepM 115 0 q σ → MX T L σ → MH T L p σ → σ.1 114 14 = nI n → d < F → ∃ s, Mo_reads_L75 N F σ = some (if ok = true then 1 else 0, s) ∧ (ok = true → RepM 115 0 q' s ∧ s.1 114 14 = nI z) ∧ (ok = false → s.1 114 10 = nI z) ∧ Gz σ s)
theorem rdEnd {N : Nat} {T : Nat → Nat} {L d p n : Nat} (hT : TX T L) {q : QS} (t0 : tkT T L p = 0) (hp : p ≤ L) (h1 : 1 ≤ n) (hn : n ≤ p) (hq : Okq q) (hz : q 157 = 0) : rdG N T L d p n q := by
  have hL := hT.1
  refine ⟨true, n, q, fun _ => ⟨hq, by omega⟩, fun σ F hnr hc hH hF => ?_, fun σ F hM hX hH h14 hF => ?_⟩
  · obtain ⟨f, rfl⟩ : ∃ f, F = f + 1 := ⟨F - 1, by omega⟩
    refine ⟨σ, ?_, fun _ => hnr, fun y => absurd y (by decide), hnr.2, Fc.rfl'⟩
    show Re_build_L52B N (Re_build_L52 N f) 21 (nI n) σ = some (nI n, σ)
    unfold Re_build_L52B
    rw [hH.2.1, t0]
    by_cases z : 150 ≤ n
    · rw [if_pos (show (150 : Int32) ≤ nI n from leP (a := 150) z (by decide) (by omega))]
    · rw [if_neg (show ¬ (150 : Int32) ≤ nI n from leN (a := 150) z (by decide) (by omega)), if_pos (show nI 0 = 0 from rfl), if_neg (show ¬ nI n = 0 from neI (b := 0) (by omega) (by omega) (by decide))]
  · obtain ⟨f, rfl⟩ : ∃ f, F = f + 1 := ⟨F - 1, by omega⟩
    refine ⟨sI σ 115 157 0, ?_, fun _ => ⟨?_, by rw [rdI_ne _ _ _ _ (by decide)]; exact h14⟩, fun y => absurd y (by decide), G1.z G1.wr⟩
    · show Mo_reads_L75B N (Mo_reads_L75 N f) σ = some (1, sI σ 115 157 0)
      unfold Mo_reads_L75B Mo_reads_J108
      rw [hH.2.1, t0, if_pos (show nI 0 = 0 from rfl), bS_e]; rfl
    · have := hM.put (k := 157) 0
      rw [updQ_id hz] at this; exact this
theorem rdLoop {N : Nat} (hN : 300 < N) {T : Nat → Nat} {L : Nat} (hT : TX T L) (d : Nat) : ∀ {p n : Nat} {q : QS}, L - p ≤ d → p ≤ L → 1 ≤ n → n ≤ p → Okq q → q 157 = 0 → rdG N T L d p n q := by
  have hL := hT.1
  induction d with
  | zero =>
    intro p n q hd hp h1 hn hq hz
    have hs := tkS_le T hp
    exact rdEnd hT (tk0 (T := T) (by omega)).1 hp h1 hn hq hz
  | succ d ih =>
    intro p n q hd hp h1 hn hq hz
    by_cases t0 : tkT T L p = 0
    · exact rdEnd hT t0 hp h1 hn hq hz
    have tb := tkT_le T L p
    have hs := tkS_le T hp
    obtain ⟨a1, a2, a3⟩ := tk_adv hp t0
    have n150 : ¬ (150 : Int32) ≤ nI n := leN (a := 150) (by omega) (by decide) (by omega)
    have n0 : ¬ nI n = 0 := neI (b := 0) (by omega) (by omega) (by decide)
    have tn0 : ¬ nI (tkT T L p) = 0 := neI (b := 0) t0 (by omega) (by decide)
    by_cases hb : wk T L p = 0 ∨ wk T L p = 6 ∨ tooB q (wk T L p) = true
    · refine ⟨false, tkS T L p, q, fun y => absurd y (by decide), fun σ F hnr hc hH hF => ?_, fun σ F hM hX hH h14 hF => ?_⟩
      · obtain ⟨f, rfl⟩ : ∃ f, F = f + 1 := ⟨F - 1, by omega⟩
        refine ⟨σ, ?_, fun y => absurd y (by decide), fun _ => hH.1, hnr.2, Fc.rfl'⟩
        show Re_build_L52B N (Re_build_L52 N f) 21 (nI n) σ = some (-1, σ)
        unfold Re_build_L52B Re_build_J72 Re_build_J84
        rw [if_neg n150, hH.2.1, if_neg tn0, if_neg n0, cItemN hN hT hq hnr hc hp hH hb, bW_e, if_pos rfl]
      · obtain ⟨f, rfl⟩ : ∃ f, F = f + 1 := ⟨F - 1, by omega⟩
        refine ⟨σ, ?_, fun y => absurd y (by decide), fun _ => hH.1, Gz.rfl'⟩
        show Mo_reads_L75B N (Mo_reads_L75 N f) σ = some (0, σ)
        unfold Mo_reads_L75B
        rw [hH.2.1, if_neg tn0, mItemN hT hq hM hX hp hH hb, bW_e, if_pos rfl]
    · obtain ⟨w, hwk⟩ : ∃ w, wk T L p = w := ⟨_, rfl⟩
      rw [hwk] at hb
      have hwl := wk_le T L p
      rw [hwk] at hwl
      have w0 : w ≠ 0 := fun e => hb (Or.inl e)
      have w6 : w ≠ 6 := fun e => hb (Or.inr (Or.inl e))
      have ht : tooB q w = false := by
        cases e : tooB q w
        · rfl
        · exact absurd (Or.inr (Or.inr e)) hb
      have hw : 1 ≤ w ∧ w ≤ 5 := by omega
      cases eR : (rdN T L (fitB q w) (num w) 0 (fun _ => 0) (tkA T L p)).1
      · refine ⟨false, (rdN T L (fitB q w) (num w) 0 (fun _ => 0) (tkA T L p)).2.1, q, fun y => absurd y (by decide), fun σ F hnr hc hH hF => ?_, fun σ F hM hX hH h14 hF => ?_⟩
        · obtain ⟨f, rfl⟩ : ∃ f, F = f + 1 := ⟨F - 1, by omega⟩
          obtain ⟨s, g1, c1, u1, f1⟩ := (cItemY (N := N) hN hT hq hz hnr hc hp hH hwk hw ht).2 eR
          refine ⟨s, ?_, fun y => absurd y (by decide), fun _ => c1, u1, f1⟩
          show Re_build_L52B N (Re_build_L52 N f) 21 (nI n) σ = some (-1, s)
          unfold Re_build_L52B Re_build_J72 Re_build_J84
          rw [if_neg n150, hH.2.1, if_neg tn0, if_neg n0, g1, bW_e, if_pos rfl]
        · obtain ⟨f, rfl⟩ : ∃ f, F = f + 1 := ⟨F - 1, by omega⟩
          obtain ⟨s, g1, c1, f1⟩ := (mItemY (N := N) hN hT hq hz hM hX hp hH hwk hw ht).2 eR
          refine ⟨s, ?_, fun y => absurd y (by decide), fun _ => c1, f1.z⟩
          show Mo_reads_L75B N (Mo_reads_L75 N f) σ = some (0, s)
          unfold Mo_reads_L75B
          rw [hH.2.1, if_neg tn0, g1, bW_e, if_pos rfl]
      · obtain ⟨okq, oz⟩ := app_ok hq hz hw (rdW_fit eR) ht
        have hle := rdN_le (num w) (tkA_le hp) eR
        obtain ⟨ok, z, q', k1, k2, k3⟩ := ih (p := (rdN T L (fitB q w) (num w) 0 (fun _ => 0) (tkA T L p)).2.1) (n := n + 1) (q := app q w (rdN T L (fitB q w) (num w) 0 (fun _ => 0) (tkA T L p)).2.2) (by omega) hle.2 (by omega) (by omega) okq oz
        refine ⟨ok, z, q', k1, fun σ F hnr hc hH hF => ?_, fun σ F hM hX hH h14 hF => ?_⟩
        · obtain ⟨f, rfl⟩ : ∃ f, F = f + 1 := ⟨F - 1, by omega⟩
          obtain ⟨s, g1, u1, c1, f1⟩ := (cItemY (N := N) hN hT hq hz hnr hc hp hH hwk hw ht).1 eR
          obtain ⟨t, g2, v1, v2, v3, f2⟩ := k2 s f u1 (hc.c f1) c1 (by omega)
          refine ⟨t, ?_, v1, v2, v3, f1.trans f2⟩
          show Re_build_L52B N (Re_build_L52 N f) 21 (nI n) σ = _
          unfold Re_build_L52B Re_build_J72 Re_build_J84
          rw [if_neg n150, hH.2.1, if_neg tn0, if_neg n0, g1, bW_e, if_neg one_ne, nI_1, bI_e, g2]
        · obtain ⟨f, rfl⟩ : ∃ f, F = f + 1 := ⟨F - 1, by omega⟩
          obtain ⟨s, g1, m1, h9, f1⟩ := (mItemY (N := N) hN hT hq hz hM hX hp hH hwk hw ht).1 eR
          have e14 : s.1 114 14 = nI n := by rw [f1.2.1 14 (by decide)]; exact h14
          obtain ⟨s2, g2, c2, f2⟩ := mStep (N := N) hN hT (σ := sI s 114 14 (nI (n + 1))) (hX.z (f1.z.trans (Gz.w (by decide)))) hle.2 (by rw [rdI_nk _ _ _ _ (by decide)]; exact h9)
          obtain ⟨t, g3, v1, v2, v3⟩ := k3 s2 f (m1.frame (by rw [f2.1 115 (by decide), rdI_ne _ _ _ _ (by decide)])) (hX.z ((f1.z.trans (Gz.w (by decide))).trans f2.z)) c2 (by rw [f2.2.1 14 (by decide), rdI_eq]) (by omega)
          refine ⟨t, ?_, v1, v2, ((f1.z.trans (Gz.w (by decide))).trans f2.z).trans v3⟩
          show Mo_reads_L75B N (Mo_reads_L75 N f) σ = _
          unfold Mo_reads_L75B
          rw [hH.2.1, if_neg tn0, g1, bW_e, if_neg one_ne, e14, nI_1, bS_e, g2, bR_e, g3]
def Fdr (σ s : St) : Prop := (∀ i, (i < 21 ∨ 41 ≤ i) → i ≠ 71 → i ≠ 72 → i ≠ 73 → s.1 i = σ.1 i) ∧ s.2 = σ.2
theorem Fc.d {σ s : St} (h : Fc σ s) : Fdr σ s := ⟨fun i h1 h2 _ h4 => h.1 i h1 h2 h4, h.2.2⟩
theorem Fdr.trans {σ s t : St} (h : Fdr σ s) (h2 : Fdr s t) : Fdr σ t := ⟨fun i h1 h3 h4 h5 => (h2.1 i h1 h3 h4 h5).trans (h.1 i h1 h3 h4 h5), h2.2.trans h.2⟩
/-- the class begins: the text is copied, the first token comes to hand -/
theorem cOpenR {N : Nat} (hN : 300 < N) {T : Nat → Nat} {L : Nat} (hT : TX T L) {σ : St} (htw : TW 21 σ) (hx : ∀ j, j < L → σ.1 43 j = nI (T j)) : ∃ s, Re_build N 21 43 (nI L) σ = Re_build_L52 N N 21 0 s ∧ CT T L s ∧ CH T L 0 s ∧ TW 21 s ∧ Fdr σ s := by
  have hL := hT.1
  unfold Re_build
  rw [show (150 : Int32) = nI 150 from rfl, mnI_e (by omega) (by decide), show min L 150 = L by omega, bS_e]
  have cp : ∃ s, Re_build_L14 N N 21 43 0 (sI σ 71 1 (nI L)) = Re_build_J40 N 21 s ∧ CT T L s ∧ (∀ i, i ≠ 71 → i ≠ 72 → s.1 i = σ.1 i) ∧ s.2 = σ.2 := by
    refine loop_up (fun f i s => Re_build_L14 N f 21 43 (nI i) s) L (fun i s => s.1 71 1 = nI L ∧ (∀ j, j < i → s.1 72 j = nI (T j)) ∧ (∀ i, i ≠ 71 → i ≠ 72 → s.1 i = σ.1 i) ∧ s.2 = σ.2) (fun o => ∃ s, o = Re_build_J40 N 21 s ∧ CT T L s ∧ (∀ i, i ≠ 71 → i ≠ 72 → s.1 i = σ.1 i) ∧ s.2 = σ.2) ?_ ?_ (by omega) ⟨rdI_eq _ _ _ _, fun j hj => absurd hj (Nat.not_lt_zero j), fun i h1 _ => rdI_ne _ _ _ _ h1, rfl⟩
    · intro f i s hi ⟨e1, e2, e3, e4⟩
      refine ⟨sI s 72 i (nI (T i)), ?_, by rw [rdI_ne _ _ _ _ (by decide)]; exact e1, fun j hj => ?_, fun a h1 h2 => by rw [rdI_ne _ _ _ _ h2]; exact e3 a h1 h2, e4⟩
      · show Re_build_L14B N (Re_build_L14 N f) 21 43 (nI i) s = _
        unfold Re_build_L14B
        rw [e1, if_neg (leN (by omega) (by omega) (by omega)), show lnn 43 = 150 from rfl, inI (n := 150) (by omega) (by decide), ck_t, ck_t, clI (by omega), e3 43 (by decide) (by decide), hx i hi, bS_e, nI_1, bI_e]
      · by_cases e : j = i
        · subst e; rw [rdI_eq]
        · rw [rdI_nk _ _ _ _ e]; exact e2 j (by omega)
    · intro f s ⟨e1, e2, e3, e4⟩
      refine ⟨s, ?_, ⟨e1, e2⟩, e3, e4⟩
      show Re_build_L14B N (Re_build_L14 N f) 21 43 (nI L) s = _
      unfold Re_build_L14B
      rw [e1, if_pos (Int32.le_refl _)]
  obtain ⟨s, g1, c1, f1, f2⟩ := cp
  have c2 : CT T L (sI s 71 2 0) := ⟨by rw [rdI_nk _ _ _ _ (by decide)]; exact c1.1, fun j hj => by rw [rdI_ne _ _ _ _ (by decide)]; exact c1.2 j hj⟩
  obtain ⟨t, g2, h2, f3⟩ := cAdv (N := N) hN hT c2 (p := 0) (Nat.zero_le _) (rdI_eq _ _ _ _)
  refine ⟨t, ?_, c2.f f3, h2, htw.frame (by rw [f3.1 _ (by decide), rdI_ne _ _ _ _ (by decide), f1 _ (by decide) (by decide)]) (by rw [f3.1 _ (by decide), rdI_ne _ _ _ _ (by decide), f1 _ (by decide) (by decide)]) (by rw [f3.1 _ (by decide), rdI_ne _ _ _ _ (by decide), f1 _ (by decide) (by decide)]), fun i h1 h3 h4 h5 => by rw [f3.1 i h3, rdI_ne _ _ _ _ h3, f1 i h3 h4], by rw [f3.2.2]; exact f2⟩
  rw [g1]
  unfold Re_build_J40
  rw [bS_e, g2, bR_e]
/-- the class's first item -/
theorem cOneR {N f : Nat} {σ : St} : Re_build_L52 N (f + 1) 21 0 σ = bW (Re_readItem N 21 1 σ) fun r11 s12 => if r11 = 0 then some ((-1), s12) else Re_build_L52 N f 21 (nI 1) s12 := by
  show Re_build_L52B N (Re_build_L52 N f) 21 0 σ = _
  unfold Re_build_L52B Re_build_J72 Re_build_J84
  rw [if_neg (by decide)]
  simp only [bI_e, if_true]
  by_cases z : σ.1 71 4 = 0
  · rw [if_pos z]; rfl
  · rw [if_neg z]; rfl
theorem rdAll {N : Nat} (hN : 300 < N) {T : Nat → Nat} {L : Nat} (hT : TX T L) : ∃ (ok : Bool) (z : Nat) (q' : QS), (ok = true → Okq q' ∧ z ≤ 150) ∧ (∀ σ, TW 21 σ → (∀ j, j < L → σ.1 43 j = nI (T j)) → ∃ s, Re_build N 21 43 (nI L) σ = some (if ok = true then nI z else -1, s) ∧ (ok = true → NR 21 q' s) ∧ (ok = false → s.1 71 3 = nI z) ∧ TW 21 s ∧ Fdr σ s) ∧ (∀ σ, MX T L σ → ∃ s, Mo_reads N σ = some (if ok = true then 1 else 0, s) ∧ (ok = true → RepM 115 0 q' s ∧ s.1 114 14 = nI z) ∧ (ok = false → s.1 114 10 = nI z) ∧ Gz σ s) := by
  have hL := hT.1
  have i0 : (0 : Int32).toInt = 0 := by decide
  have i9 : (9 : Int32).toInt = 9 := by decide
  obtain ⟨f, hf⟩ : ∃ f, N = f + 1 := ⟨N - 1, by omega⟩
  have begR : ∀ σ, MX T L σ → ∃ s, Mo_reads N σ = (bR (Mo_isWord N 119 97 116 101 114 s) fun r7 => if r7 = 0 then some (0, s) else bW (Mo_number N 0 0 9 s) fun r11 s12 => if r11 = 0 then some (0, s12) else bW (Mo_ends N s12) fun r16 s17 => if r16 = 0 then some (0, s17) else bR (Mo_begins N (s17.1 121 (0 : Int32).toNatClampNeg) s17) fun s22 => bS (sI s22 114 14 ((s22.1 114 14) + 1)) fun s25 => bR (Mo_step N s25) fun s27 => Mo_reads_L75 N N s27) ∧ MH T L 0 s ∧ s.1 114 14 = nI 0 ∧ Gz σ s := by
    intro σ hX
    have z1 : Gz σ (sI (sI σ 114 9 0) 114 14 0) := (Gz.w (by decide)).trans (Gz.w (by decide))
    obtain ⟨s, g1, c1, f1⟩ := mStep (N := N) hN hT (hX.z z1) (p := 0) (Nat.zero_le _) (by rw [rdI_nk _ _ _ _ (by decide), rdI_eq]; rfl)
    refine ⟨s, ?_, c1, by rw [f1.2.1 14 (by decide), rdI_eq]; rfl, z1.trans f1.z⟩
    unfold Mo_reads
    rw [bS_e, bS_e, g1, bR_e]
  by_cases hwk : wk T L 0 = 0
  · have t1 : tkT T L 0 = 1 := ((wk_iff (by decide)).mp hwk).1
    obtain ⟨a1, a2, a3⟩ := tk_adv (Nat.zero_le L) (show tkT T L 0 ≠ 0 by omega)
    obtain ⟨R, hR⟩ : ∃ R, R = rdN T L (fitB (fun _ => 0) 0) 1 0 (fun _ => 0) (tkA T L 0) := ⟨_, rfl⟩
    have mF : ∀ σ, MX T L σ → (R.1 = true → ∃ s, Mo_reads N σ = Mo_reads_L75 N N s ∧ RepM 115 0 (qBegin (R.2.2 0)) s ∧ MH T L R.2.1 s ∧ s.1 114 14 = nI 1 ∧ Gz σ s) ∧ (R.1 = false → ∃ s, Mo_reads N σ = some (0, s) ∧ s.1 114 10 = nI R.2.1 ∧ Gz σ s) := by
      intro σ hX
      obtain ⟨s, g1, h1, h14, f1⟩ := begR σ hX
      have hX1 := hX.z f1
      obtain ⟨s2, x2, H2, V2, U2, f2⟩ := mNum (N := N) hN (k := 0) hT hX1 a3 (h1.2.2.1 (by omega)) 0 9 (v1 := 0) rfl (by decide)
      rw [g1, mWater hT hX1 (Nat.zero_le _) h1, if_pos hwk, bR_e, if_neg one_ne, x2, bW_e, hR]
      by_cases c0 : tkT T L (tkA T L 0) = 2 ∧ fitB (fun _ => 0) 0 0 ((fun _ => 0 : Nat → Nat) 0) (tkV T L (tkA T L 0)) = true
      rotate_left
      · have d0 : ¬ (tkT T L (tkA T L 0) = 2 ∧ ((0 : Int32).toInt ≤ (tkV T L (tkA T L 0) : Int) ∧ (tkV T L (tkA T L 0) : Int) ≤ (9 : Int32).toInt)) := fun y => c0 ⟨y.1, decide_eq_true (show tkV T L (tkA T L 0) ≤ 9 by have := y.2; omega)⟩
        rw [rdN_n c0, if_neg d0, if_pos rfl]
        exact ⟨fun y => absurd (show false = true from y) (by decide), fun _ => ⟨s2, rfl, H2.1, f1.trans f2.z⟩⟩
      have b0 : tkV T L (tkA T L 0) ≤ 9 := of_decide_eq_true c0.2
      obtain ⟨-, -, p1⟩ := tk_adv a3 (show tkT T L (tkA T L 0) ≠ 0 by rw [c0.1]; decide)
      obtain ⟨s3, x3, H3, f3⟩ := mEnds (N := N) hN hT (hX1.g f2) p1 (H2.2.2.1 (by rw [c0.1]; decide))
      rw [rdN_y c0, if_pos (show tkT T L (tkA T L 0) = 2 ∧ ((0 : Int32).toInt ≤ (tkV T L (tkA T L 0) : Int) ∧ (tkV T L (tkA T L 0) : Int) ≤ (9 : Int32).toInt) from ⟨c0.1, by omega, by omega⟩), if_neg one_ne, x3, bW_e]
      by_cases ce : tkT T L (tkA T L (tkA T L 0)) = 3
      rotate_left
      · rw [rdN_0n ce, if_neg ce, if_pos rfl]
        exact ⟨fun y => absurd (show false = true from y) (by decide), fun _ => ⟨s3, rfl, H3.1, (f1.trans f2.z).trans f3.z⟩⟩
      rw [rdN_0y ce, if_pos ce, if_neg one_ne]
      have y0 : s3.1 121 (0 : Int32).toNatClampNeg = nI (tkV T L (tkA T L 0)) := by
        show s3.1 121 0 = _
        rw [f3.1 121 (by decide)]; exact V2 c0.1
      obtain ⟨s4, x4, m4, f4⟩ := mBegin1 (N := N) hN (σ := s3) (tkV T L (tkA T L 0))
      have e14 : s4.1 114 14 = nI 0 := by rw [f4.1 114 (by decide), f3.2.1 14 (by decide), f2.2.1 14 (by decide)]; exact h14
      have F4 : Gz σ (sI s4 114 14 (nI (0 + 1))) := (((f1.trans f2.z).trans f3.z).trans f4.z).trans (Gz.w (by decide))
      obtain ⟨s5, x5, H5, f5⟩ := mStep (N := N) hN hT (hX.z F4) (tkA_le p1) (by rw [rdI_nk _ _ _ _ (by decide), f4.1 114 (by decide)]; exact H3.2.2.1 (by rw [ce]; decide))
      refine ⟨fun _ => ⟨s5, ?_, ?_, H5, by rw [f5.2.1 14 (by decide), rdI_eq], F4.trans f5.z⟩, fun y => absurd (show true = false from y) (by decide)⟩
      · rw [y0, x4, bR_e, e14, nI_1, bS_e, x5, bR_e]
      · exact m4.frame (by rw [f5.1 115 (by decide), rdI_ne _ _ _ _ (by decide)])
    cases eR : R.1
    · refine ⟨false, R.2.1, fun _ => 0, fun y => absurd y (by decide), fun σ htw hx => ?_, fun σ hX => ?_⟩
      · obtain ⟨s, g1, c1, h1, w1, f1⟩ := cOpenR (N := N) hN hT htw hx
        obtain ⟨t, g2, k2, w2, f2⟩ := (cFirstY (N := N) hN hT (q := fun _ => 0) w1 c1 (Nat.zero_le _) h1 hwk).2 (by rw [← hR]; exact eR)
        refine ⟨t, ?_, fun y => absurd y (by decide), fun _ => by rw [hR]; exact k2, w2, f1.trans f2.d⟩
        rw [g1]
        have := cOneR (N := N) (f := f) (σ := s)
        rw [← hf, g2, bW_e, if_pos rfl] at this; exact this
      · obtain ⟨s, g1, c1, f1⟩ := (mF σ hX).2 eR
        exact ⟨s, g1, fun y => absurd y (by decide), fun _ => c1, f1⟩
    · have eR' := eR
      rw [hR] at eR'
      have hle := rdN_le 1 a3 eR'
      have b0 : R.2.2 0 ≤ 9 := by
        rw [hR]
        exact of_decide_eq_true (rdW_fit (w := 0) eR' 0 (by decide))
      rw [← hR] at hle
      have hz : qBegin (R.2.2 0) 157 = 0 := rfl
      obtain ⟨ok, z, q', k1, k2, k3⟩ := rdLoop (N := N) hN hT 200 (p := R.2.1) (n := 1) (q := qBegin (R.2.2 0)) (by omega) hle.2 (Nat.le_refl _) (by omega) (Okq.begin b0) hz
      refine ⟨ok, z, q', k1, fun σ htw hx => ?_, fun σ hX => ?_⟩
      · obtain ⟨s, g1, c1, h1, w1, f1⟩ := cOpenR (N := N) hN hT htw hx
        obtain ⟨t, g2, n2, h2, f2⟩ := (cFirstY (N := N) hN hT (q := fun _ => 0) w1 c1 (Nat.zero_le _) h1 hwk).1 eR'
        rw [← hR] at n2 h2
        obtain ⟨u, g3, v1, v2, v3, f3⟩ := k2 t f n2 (c1.c f2) h2 (by omega)
        refine ⟨u, ?_, v1, v2, v3, (f1.trans f2.d).trans f3.d⟩
        rw [g1]
        have := cOneR (N := N) (f := f) (σ := s)
        rw [← hf, g2, bW_e, if_neg one_ne, g3] at this; exact this
      · obtain ⟨s, g1, m1, h1, h14, f1⟩ := (mF σ hX).1 eR
        obtain ⟨u, g3, v1, v2, f3⟩ := k3 s N m1 (hX.z f1) h1 h14 (by omega)
        exact ⟨u, by rw [g1, g3], v1, v2, f1.trans f3⟩
  · refine ⟨false, tkS T L 0, fun _ => 0, fun y => absurd y (by decide), fun σ htw hx => ?_, fun σ hX => ?_⟩
    · obtain ⟨s, g1, c1, h1, w1, f1⟩ := cOpenR (N := N) hN hT htw hx
      refine ⟨s, ?_, fun y => absurd y (by decide), fun _ => h1.1, w1, f1⟩
      rw [g1]
      have := cOneR (N := N) (f := f) (σ := s)
      rw [← hf, cFirstN hN hT c1 (Nat.zero_le _) h1 hwk, bW_e, if_pos rfl] at this; exact this
    · obtain ⟨s, g1, h1, h14, f1⟩ := begR σ hX
      refine ⟨s, ?_, fun y => absurd y (by decide), fun _ => h1.1, f1⟩
      rw [g1, mWater hT (hX.z f1) (Nat.zero_le _) h1, if_neg hwk, bR_e, if_pos rfl]; rfl
theorem CI.dr {A : Ab} {σ s : St} (h : CI A σ) (hf : Fdr σ s) (ht : TW 21 s) : CI A s := by
  obtain ⟨m, hm⟩ : ∃ m : St, m = ((fun i => if 21 ≤ i ∧ i < 41 then s.1 i else σ.1 i), σ.2) := ⟨_, rfl⟩
  have lo : ∀ i, (i < 21 ∨ 41 ≤ i) → m.1 i = σ.1 i := fun i hi => by rw [hm]; exact if_neg (by omega)
  have hi : ∀ i, 21 ≤ i → i < 41 → m.1 i = s.1 i := fun i h1 h2 => by rw [hm]; exact if_pos ⟨h1, h2⟩
  have m2 : m.2 = σ.2 := by rw [hm]
  have d1 : CI A m := h.draft ⟨fun i hi => lo i (by omega), m2⟩ (ht.frame (hi _ (by decide) (by decide)) (hi _ (by decide) (by decide)) (hi _ (by decide) (by decide)))
  refine d1.scr ⟨fun i hi' => ?_, by rw [m2]; exact hf.2⟩
  by_cases z : 21 ≤ i ∧ i < 41
  · rw [hi i z.1 z.2]
  · rw [lo i (by omega), hf.1 i (by omega) (by omega) (by omega) (by omega)]
theorem Fdr.low {σ s : St} (h : Fdr σ s) : Low σ s := fun i hi => ⟨h.1 i (by omega) (by omega) (by omega) (by omega), by rw [h.2]⟩
theorem Gz.gr {σ s : St} (h : Gz σ s) : Gr σ s := ⟨fun i hi => h.1 i (by omega) (by omega) (by omega), fun i h1 h2 => h.1 i (by omega) (by omega) (by omega), h.2.1 5 (by decide), h.2.2⟩
theorem sim_read (N : Nat) (hN : 300 < N) : Sim_read N Inv := by
  intro σ hI
  obtain ⟨A, hO, hC, hM⟩ := hI
  have hT : TX A.2.2.2.1.2 A.2.2.2.1.1 := ⟨hO.2.2.1, hO.2.2.2⟩
  obtain ⟨ok, z, q', k1, k2, k3⟩ := rdAll (N := N) hN hT
  obtain ⟨s, g1, u1, u2, u3, u4⟩ := k2 σ hC.2.1.2.1 hC.2.2.2.2.1.2
  have hCs : CI A s := hC.dr u4 u3
  have cop : ∀ σ1, MI A σ1 → ∃ t, Mo_copies N 115 0 116 0 286 σ1 = some t ∧ RepM 116 0 A.1 t ∧ (∀ i, i ≠ 116 → t.1 i = σ1.1 i) ∧ t.2 = σ1.2 := by
    intro σ1 m1
    obtain ⟨t, e1, e2, e3, e4, e5⟩ := mCopies (N := N) (σ := σ1) (v0 := 115) (v2 := 116) (i := 0) (j := 0) (n := 286) (by omega) (Or.inl (by decide)) (by decide) (by decide) (by decide) (by decide)
    exact ⟨t, e1, fun k hk => by rw [e2 k hk]; exact m1.1 k hk, e3, e5⟩
  cases ok
  · have u2' := u2 rfl
    refine sim_of (f := fun σ => Go_read N σ) (g := fun σ => Mo_read N σ) hC hM ⟨-10 - nI z, A, hO, ⟨s, ?_, hCs, u4.low⟩, fun σ1 m1 => ?_⟩
    · show Go_read N σ = _
      unfold Go_read
      rw [hC.2.2.2.2.1.1, g1, bW_e, if_neg (show ¬ (0 : Int32) ≤ (if false = true then nI z else -1) from fun y => absurd (show (0 : Int32) ≤ -1 from y) (by decide)), u2']
    · obtain ⟨t, e1, e2, e3, e4⟩ := cop σ1 m1
      obtain ⟨t2, x1, -, x2, x3⟩ := k3 t ⟨by rw [e3 114 (by decide)]; exact m1.2.2.2.1.1, fun j hj => by rw [e3 119 (by decide)]; exact m1.2.2.2.1.2 j hj⟩
      obtain ⟨t3, y1, y2, y3, y4, y5⟩ := mCopies (N := N) (σ := t2) (v0 := 116) (v2 := 115) (i := 0) (j := 0) (n := 286) (by omega) (Or.inl (by decide)) (by decide) (by decide) (by decide) (by decide)
      have y1' : Mo_copies N 116 0 115 0 286 t2 = some t3 := y1
      have gr : Gr σ1 t3 := ⟨fun i hi => by rw [y3 i (by omega), x3.1 i (by omega) (by omega) (by omega), e3 i (by omega)], fun i h1 h2 => by rw [y3 i (by omega), x3.1 i (by omega) (by omega) (by omega), e3 i (by omega)], by rw [y3 114 (by decide), x3.2.1 5 (by decide), e3 114 (by decide)], by rw [y5, x3.2.2, e4]⟩
      have rp : RepM 115 0 A.1 t3 := fun k hk => by rw [y2 k hk, x3.1 116 (by decide) (by decide) (by decide)]; exact e2 k hk
      refine ⟨t3, ?_, m1.row rp gr, gr.high⟩
      show Mo_read N σ1 = _
      unfold Mo_read
      rw [e1, bR_e, x1, bW_e, if_pos (show (if false = true then (1 : Int32) else 0) = 0 from rfl), y1', bR_e, y3 114 (by decide), x2 rfl]
  · obtain ⟨oq, oz⟩ := k1 rfl
    have u1' := u1 rfl
    obtain ⟨s2, g2, n2, f2⟩ := cTake (N := N) (a := 1) (b := 21) hN u1' hCs.2.1.1 (Or.inl (by decide)) LN_all.1 LN_all.2.1
    refine sim_of (f := fun σ => Go_read N σ) (g := fun σ => Mo_read N σ) hC hM ⟨nI z, (q', A.2), hO.q oq, ⟨s2, ?_, hCs.night n2 f2, u4.low.trans f2.low⟩, fun σ1 m1 => ?_⟩
    · show Go_read N σ = _
      unfold Go_read
      rw [hC.2.2.2.2.1.1, g1, bW_e, if_pos (show (if true = true then nI z else -1) ≥ 0 from nI_pos' (by omega)), g2, bR_e]; rfl
    · obtain ⟨t, e1, e2, e3, e4⟩ := cop σ1 m1
      obtain ⟨t2, x1, x2, -, x3⟩ := k3 t ⟨by rw [e3 114 (by decide)]; exact m1.2.2.2.1.1, fun j hj => by rw [e3 119 (by decide)]; exact m1.2.2.2.1.2 j hj⟩
      obtain ⟨x2a, x2b⟩ := x2 rfl
      have gr : Gr σ1 t2 := ⟨fun i hi => by rw [x3.1 i (by omega) (by omega) (by omega), e3 i (by omega)], fun i h1 h2 => by rw [x3.1 i (by omega) (by omega) (by omega), e3 i (by omega)], by rw [x3.2.1 5 (by decide), e3 114 (by decide)], by rw [x3.2.2, e4]⟩
      refine ⟨t2, ?_, m1.row x2a gr, gr.high⟩
      show Mo_read N σ1 = _
      unfold Mo_read
      rw [e1, bR_e, x1, bW_e, if_neg (show ¬ (if true = true then (1 : Int32) else 0) = 0 by decide), x2b]
