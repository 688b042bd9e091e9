/-! odds, mean: the sums -/
def smN (f : Nat → Nat) (n : Nat) : Nat := itN (fun i a => a + f i) n 0
theorem smN_s (f : Nat → Nat) (n : Nat) : smN f (n + 1) = smN f n + f n := rfl
theorem smN_le {f : Nat → Nat} {B n : Nat} (h : ∀ i, i < n → f i ≤ B) : smN f n ≤ n * B := by
  induction n with
  | zero => show 0 ≤ 0 * B; exact Nat.zero_le _
  | succ n ih =>
    have h1 := ih (fun i hi => h i (by omega))
    have h2 := h n (by omega)
    rw [smN_s, Nat.succ_mul]; omega
theorem pow7 : ∀ l, l ≤ 7 → (2 ^ l ≤ 128 ∧ 0 < 10 ^ l) ∧ 10 ^ l ≤ 10000000 := by decide +kernel
theorem smN_62 {f : Nat → Nat} {l : Nat} (hl : l ≤ 7) (h : ∀ i, f i ≤ 10 ^ l * 999) : smN f (2 ^ l) < 2 ^ 62 := by
  obtain ⟨⟨p1, p2⟩, p3⟩ := pow7 l hl
  have h1 := smN_le (f := f) (n := 2 ^ l) (fun i _ => h i)
  have h2 : 2 ^ l * (10 ^ l * 999) ≤ 128 * (10000000 * 999) := Nat.mul_le_mul p1 (Nat.mul_le_mul_right _ p3)
  have h3 : (128 * (10000000 * 999) : Nat) < 2 ^ 62 := by decide
  omega
def frL (S T : Nat) : Int64 × Int64 := (lN S / lN (Nat.gcd S T), lN T / lN (Nat.gcd S T))
theorem cFrac' {N : Nat} (hN : 300 < N) {σ : St} {f : Nat → Nat} {l : Nat} (hl : l ≤ 7) (h : ∀ i, f i ≤ 10 ^ l * 999) : He_setFraction N (lN (smN f (2 ^ l))) (lN (10 ^ l)) σ = some (sL (sL σ 69 1 (frL (smN f (2 ^ l)) (10 ^ l)).1) 69 2 (frL (smN f (2 ^ l)) (10 ^ l)).2) := cFrac hN (smN_62 hl h) (pow7 l hl).1.2 (pow7 l hl).2
theorem mFrac' {N : Nat} (hN : 300 < N) {σ : St} {f : Nat → Nat} {l : Nat} (hl : l ≤ 7) (h : ∀ i, f i ≤ 10 ^ l * 999) : Mo_tellsPart N (lN (smN f (2 ^ l))) (lN (10 ^ l)) σ = some (sL (sL σ 114 6 (frL (smN f (2 ^ l)) (10 ^ l)).1) 114 7 (frL (smN f (2 ^ l)) (10 ^ l)).2) := mFrac hN (smN_62 hl h) (pow7 l hl).1.2 (pow7 l hl).2
theorem F70.nr {q : QS} {σ s : St} (h : NR 1 q σ) (f : F70 σ s) : NR 1 q s := ⟨h.1.frame (fun c hc => f.1 _ (by omega)), h.2.frame (f.1 _ (by decide)) (f.1 _ (by decide)) (f.1 _ (by decide))⟩
theorem cChance {N : Nat} (hN : 300 < N) {q : QS} {σ : St} (hq : Okq q) (h : NR 1 q σ) {g r x c : Nat} (hg : g < q 37) (hr : r < q 36) (hx : x ≤ 40) (hc : c ≤ 10) {w : WS} (hw : WOk w) (hC : CW w σ) {F : Nat → Nat} (hF : ∀ df, F df = if x ≤ haX q (q (38 + r)) (q (41 + r)) w.2.1 df (qX q g) w.1.1 2 then wgt df c w.1.1 else 0) (hB : ∀ i, F i ≤ 10 ^ w.1.1 * 999) : ∃ s, He_chance N 1 (1 + 16 + g) (1 + 13 + r) (nI x) (nI c) σ = some (sL (sL s 69 1 (frL (smN F (2 ^ w.1.1)) (10 ^ w.1.1)).1) 69 2 (frL (smN F (2 ^ w.1.1)) (10 ^ w.1.1)).2) ∧ F70 σ s := by
  have hl := hw.1
  have p7 := (pow7 w.1.1 hl).1.1
  have hx1 := hq.b.2.2.1.x hg
  unfold He_chance
  refine loop_up (fun f df (a : Int64 × St) => He_chance_L6 N f 1 (1 + 16 + g) (1 + 13 + r) (nI x) (nI c) a.1 (nI df) a.2) (2 ^ w.1.1) (fun df a => a.1 = lN (smN F df) ∧ F70 σ a.2) (fun o => ∃ s, o = some (sL (sL s 69 1 (frL (smN F (2 ^ w.1.1)) (10 ^ w.1.1)).1) 69 2 (frL (smN F (2 ^ w.1.1)) (10 ^ w.1.1)).2) ∧ F70 σ s) ?_ ?_ (fuel := N) (a := ((0 : Int64), σ)) (by omega) ⟨rfl, fun _ _ => rfl, rfl⟩
  · intro f df a hdf ⟨i1, i2⟩
    have hs := F70.nr h i2
    have hCs : CW w a.2 := hC.frame (i2.1 _ (by decide)) (i2.1 _ (by decide))
    obtain ⟨s1, g1, k1, k2⟩ := cAlong (N := N) hN hq hs (df := df) hg hr hw hCs
    obtain ⟨⟨y0, y1, y2, y3, y4, y5⟩, -, -⟩ := haX_ok (q := q) (kd := q (38 + r)) (tg := q (41 + r)) (df := df) hx1 hw.2.2.1 (Nat.le_refl w.1.1)
    have hn : ¬ 2 ^ w.1.1 ≤ df := by omega
    refine ⟨(lN (smN F (df + 1)), s1), ?_, rfl, fun i hi => (k2.1 i hi).trans (i2.1 i hi), k2.2.trans i2.2⟩
    show He_chance_L6B N (He_chance_L6 N f) 1 (1 + 16 + g) (1 + 13 + r) (nI x) (nI c) a.1 (nI df) a.2 = He_chance_L6 N f 1 (1 + 16 + g) (1 + 13 + r) (nI x) (nI c) (lN (smN F (df + 1))) (nI (df + 1)) s1
    unfold He_chance_L6B He_chance_J58
    rw [hCs.1, bit_pow _ hl, if_neg (leN hn (by omega) (by omega)), g1, bR_e, k1 2 (by decide), k2.1 47 (by decide), hCs.1, cWgt hN hc hl, bR_e, bL_e, bI_e, bI_e, nI_1, i1, lN_add, smN_s, hF df]
    by_cases z : x ≤ haX q (q (38 + r)) (q (41 + r)) w.2.1 df (qX q g) w.1.1 2
    · rw [if_neg (ltN (by omega) (by omega) (by omega)), if_pos z]
    · rw [if_pos (ltP (by omega) (by omega) (by omega)), if_neg z]; rfl
  · intro f a ⟨i1, i2⟩
    refine ⟨a.2, ?_, i2⟩
    show He_chance_L6B N (He_chance_L6 N f) 1 (1 + 16 + g) (1 + 13 + r) (nI x) (nI c) a.1 (nI (2 ^ w.1.1)) a.2 = _
    unfold He_chance_L6B He_chance_J64
    rw [i2.1 47 (by decide), hC.1, bit_pow _ hl, if_pos (Int32.le_refl _), cTen hN hl, bR_e, i1, cFrac' hN hl hB, bR_e]
theorem cMean {N : Nat} (hN : 300 < N) {q : QS} {σ : St} (hq : Okq q) (h : NR 1 q σ) {g r c : Nat} (hg : g < q 37) (hr : r < q 36) (hc : c ≤ 10) {w : WS} (hw : WOk w) (hC : CW w σ) {F : Nat → Nat} (hF : ∀ df, F df = wgt df c w.1.1 * haX q (q (38 + r)) (q (41 + r)) w.2.1 df (qX q g) w.1.1 3) (hB : ∀ i, F i ≤ 10 ^ w.1.1 * 999) : ∃ s, He_meanHurt N 1 (1 + 16 + g) (1 + 13 + r) (nI c) σ = some (sL (sL s 69 1 (frL (smN F (2 ^ w.1.1)) (10 ^ w.1.1)).1) 69 2 (frL (smN F (2 ^ w.1.1)) (10 ^ w.1.1)).2) ∧ F70 σ s := by
  have hl := hw.1
  have p7 := (pow7 w.1.1 hl).1.1
  have hx1 := hq.b.2.2.1.x hg
  unfold He_meanHurt
  refine loop_up (fun f df (a : Int64 × St) => He_meanHurt_L6 N f 1 (1 + 16 + g) (1 + 13 + r) (nI c) a.1 (nI df) a.2) (2 ^ w.1.1) (fun df a => a.1 = lN (smN F df) ∧ F70 σ a.2) (fun o => ∃ s, o = some (sL (sL s 69 1 (frL (smN F (2 ^ w.1.1)) (10 ^ w.1.1)).1) 69 2 (frL (smN F (2 ^ w.1.1)) (10 ^ w.1.1)).2) ∧ F70 σ s) ?_ ?_ (fuel := N) (a := ((0 : Int64), σ)) (by omega) ⟨rfl, fun _ _ => rfl, rfl⟩
  · intro f df a hdf ⟨i1, i2⟩
    have hs := F70.nr h i2
    have hCs : CW w a.2 := hC.frame (i2.1 _ (by decide)) (i2.1 _ (by decide))
    obtain ⟨s1, g1, k1, k2⟩ := cAlong (N := N) hN hq hs (df := df) hg hr hw hCs
    obtain ⟨⟨y0, y1, y2, y3, y4, y5⟩, -, -⟩ := haX_ok (q := q) (kd := q (38 + r)) (tg := q (41 + r)) (df := df) hx1 hw.2.2.1 (Nat.le_refl w.1.1)
    have hn : ¬ 2 ^ w.1.1 ≤ df := by omega
    refine ⟨(lN (smN F (df + 1)), s1), ?_, rfl, fun i hi => (k2.1 i hi).trans (i2.1 i hi), k2.2.trans i2.2⟩
    show He_meanHurt_L6B N (He_meanHurt_L6 N f) 1 (1 + 16 + g) (1 + 13 + r) (nI c) a.1 (nI df) a.2 = He_meanHurt_L6 N f 1 (1 + 16 + g) (1 + 13 + r) (nI c) (lN (smN F (df + 1))) (nI (df + 1)) s1
    unfold He_meanHurt_L6B
    rw [hCs.1, bit_pow _ hl, if_neg (leN hn (by omega) (by omega)), g1, bR_e, k2.1 47 (by decide), hCs.1, cWgt hN hc hl, bR_e, k1 3 (by decide), nI_l (by omega), lN_mul, i1, lN_add, bL_e, nI_1, bI_e, smN_s, hF df]
  · intro f a ⟨i1, i2⟩
    refine ⟨a.2, ?_, i2⟩
    show He_meanHurt_L6B N (He_meanHurt_L6 N f) 1 (1 + 16 + g) (1 + 13 + r) (nI c) a.1 (nI (2 ^ w.1.1)) a.2 = _
    unfold He_meanHurt_L6B He_meanHurt_J61
    rw [i2.1 47 (by decide), hC.1, bit_pow _ hl, if_pos (Int32.le_refl _), cTen hN hl, bR_e, i1, cFrac' hN hl hB, bR_e]
/-- the reference goes along -/
def F28 (σ σ' : St) : Prop := (∀ i, (i < 123 ∨ 128 < i) → σ'.1 i = σ.1 i) ∧ σ'.2 = σ.2
theorem mAlong {N : Nat} (hN : 300 < N) {q : QS} {s : St} (hq : Okq q) (hM : RepM 115 0 q s) {g r c df : Nat} (hg : g < q 37) (hr : r < q 36) (hc : c ≤ 10) {w : WS} (hw : WOk w) (hC : MW w s) (h0 : MT (fun _ => qX q g) 0 s) (K35 : _) (v3 : Int32) (v5 v7 : Int64) : ∃ s', Mo_weighs_L57 N K35 N (nI g) (nI r) v3 (nI c) v5 v7 (nI df) 1 0 s = Mo_weighs_J129 N K35 (nI g) (nI r) v3 (nI c) v5 v7 (nI df) (lN (wgt df c w.1.1)) s' ∧ (s'.1 124 w.1.1 = nI (haX q (q (38 + r)) (q (41 + r)) w.2.1 df (qX q g) w.1.1 2) ∧ s'.1 125 w.1.1 = nI (haX q (q (38 + r)) (q (41 + r)) w.2.1 df (qX q g) w.1.1 3)) ∧ F28 s s' := by
  have hl := hw.1
  have hx1 := hq.b.2.2.1.x hg
  refine loop_up (fun f k (a : Int64 × St) => Mo_weighs_L57 N K35 f (nI g) (nI r) v3 (nI c) v5 v7 (nI df) a.1 (nI k) a.2) w.1.1 (fun k a => a.1 = lN (wgt df c k) ∧ (a.2.1 123 k = nI (haX q (q (38 + r)) (q (41 + r)) w.2.1 df (qX q g) k 4) ∧ a.2.1 124 k = nI (haX q (q (38 + r)) (q (41 + r)) w.2.1 df (qX q g) k 2) ∧ a.2.1 125 k = nI (haX q (q (38 + r)) (q (41 + r)) w.2.1 df (qX q g) k 3) ∧ a.2.1 126 k = nI (haX q (q (38 + r)) (q (41 + r)) w.2.1 df (qX q g) k 5)) ∧ F28 s a.2) (fun o => ∃ s', o = Mo_weighs_J129 N K35 (nI g) (nI r) v3 (nI c) v5 v7 (nI df) (lN (wgt df c w.1.1)) s' ∧ (s'.1 124 w.1.1 = nI (haX q (q (38 + r)) (q (41 + r)) w.2.1 df (qX q g) w.1.1 2) ∧ s'.1 125 w.1.1 = nI (haX q (q (38 + r)) (q (41 + r)) w.2.1 df (qX q g) w.1.1 3)) ∧ F28 s s') ?_ ?_ (fuel := N) (a := ((1 : Int64), s)) (by omega) ⟨rfl, h0 0 (Nat.le_refl _), fun _ _ => rfl, rfl⟩
  · intro f k a hk ⟨i1, i2, i3⟩
    have hn : ¬ w.1.1 ≤ k := by omega
    have hpk := hw.2.2.1 k hk
    obtain ⟨ox, ox0, ox1⟩ := haX_ok (q := q) (kd := q (38 + r)) (tg := q (41 + r)) (df := df) hx1 hw.2.2.1 (show k ≤ w.1.1 by omega)
    obtain ⟨⟨sa, ga, ya1, ya2, ya3, ya4, ya5, ya6⟩, ⟨sb, gb, yb1, yb2, yb3, yb4, yb5, yb6⟩⟩ := mGoes (N := N) hq (hM.frame (i3.1 115 (by decide))) (g := g) (r := r) (d := k) (p := w.2.1 k) (x := haX q (q (38 + r)) (q (41 + r)) w.2.1 df (qX q g) k) hg hr (by omega) hpk ox ox0 ox1 i2
    show ∃ a' : Int64 × St, Mo_weighs_L57B N K35 (Mo_weighs_L57 N K35 f) (nI g) (nI r) v3 (nI c) v5 v7 (nI df) a.1 (nI k) a.2 = Mo_weighs_L57 N K35 f (nI g) (nI r) v3 (nI c) v5 v7 (nI df) a'.1 (nI (k + 1)) a'.2 ∧ _
    unfold Mo_weighs_L57B Mo_weighs_J90 Mo_weighs_J120
    rw [i3.1 114 (by decide), hC.1, if_neg (leN hn (by omega) (by omega)), gB_has (nI df) (by omega), i3.1 129 (by decide), clI (by omega), hC.2.2.1 k hk, inI (n := 8) (by omega) (by decide), i1, show (10 : Int32) = nI 10 from rfl, subI hc, nI_l (by omega), nI_l (by omega), lN_mul, lN_mul]
    simp only [ck_t, bL_e, nI_1]
    by_cases z : gB (nI df) k = true
    · refine ⟨(lN (wgt df c (k + 1)), sb), ?_, rfl, ?_, fun i hi => (yb5 i hi).trans (i3.1 i hi), yb6.trans i3.2⟩
      · rw [if_pos z, if_neg one_ne, if_neg one_ne, gb, bR_e, bI_e, wgt_s, if_pos z]
      · rw [haX_s, if_pos z]; exact yb1
    · refine ⟨(lN (wgt df c (k + 1)), sa), ?_, rfl, ?_, fun i hi => (ya5 i hi).trans (i3.1 i hi), ya6.trans i3.2⟩
      · rw [if_neg z, if_pos rfl, if_pos rfl, ga, bR_e, bI_e, wgt_s, if_neg z]
      · rw [haX_s, if_neg z]; exact ya1
  · intro f a ⟨i1, i2, i3⟩
    refine ⟨a.2, ?_, ⟨i2.2.1, i2.2.2.1⟩, i3⟩
    show Mo_weighs_L57B N K35 (Mo_weighs_L57 N K35 f) (nI g) (nI r) v3 (nI c) v5 v7 (nI df) a.1 (nI w.1.1) a.2 = _
    unfold Mo_weighs_L57B
    rw [i3.1 114 (by decide), hC.1, if_pos (Int32.le_refl _), i1]
theorem mWeighs {N : Nat} (hN : 300 < N) {q : QS} {σ : St} (hq : Okq q) (hM : RepM 115 0 q σ) {g r c : Nat} (hg : g < q 37) (hr : r < q 36) (hc : c ≤ 10) {w : WS} (hw : WOk w) (hC : MW w σ) {v3 : Int32} {F : Nat → Nat} (hB : ∀ i, F i ≤ 10 ^ w.1.1 * 999) (hJ : ∀ (K35 : Int32 → Int32 → Int32 → Int32 → Int64 → Int64 → Int32 → St → Option (Int32 × St)) (u df : Nat) (v7 : Int64) (s : St), s.1 114 22 = nI w.1.1 → s.1 124 w.1.1 = nI (haX q (q (38 + r)) (q (41 + r)) w.2.1 df (qX q g) w.1.1 2) → s.1 125 w.1.1 = nI (haX q (q (38 + r)) (q (41 + r)) w.2.1 df (qX q g) w.1.1 3) → Mo_weighs_J129 N K35 (nI g) (nI r) v3 (nI c) (lN u) v7 (nI df) (lN (wgt df c w.1.1)) s = K35 (nI g) (nI r) v3 (nI c) (lN (u + F df)) v7 (nI (df + 1)) s) : ∃ s, Mo_weighs N (nI g) (nI r) v3 (nI c) σ = some (1, sL (sL s 114 6 (frL (smN F (2 ^ w.1.1)) (10 ^ w.1.1)).1) 114 7 (frL (smN F (2 ^ w.1.1)) (10 ^ w.1.1)).2) ∧ F28 σ s := by
  have hl := hw.1
  have p7 := (pow7 w.1.1 hl).1.1
  have low : Mo_weighs N (nI g) (nI r) v3 (nI c) σ = Mo_weighs_L35 N N (nI g) (nI r) v3 (nI c) (lN 0) (lN (10 ^ w.1.1)) (nI 0) σ := by
    unfold Mo_weighs
    refine loop_up (fun f k (a : Int64) => Mo_weighs_L9 N f (nI g) (nI r) v3 (nI c) (lN 0) a (nI k) σ) w.1.1 (fun k a => a = lN (10 ^ k)) (fun o => o = Mo_weighs_L35 N N (nI g) (nI r) v3 (nI c) (lN 0) (lN (10 ^ w.1.1)) (nI 0) σ) ?_ ?_ (by omega) rfl
    · intro f k a hk ha
      have hn : ¬ w.1.1 ≤ k := by omega
      refine ⟨lN (10 ^ (k + 1)), ?_, rfl⟩
      show Mo_weighs_L9B N (Mo_weighs_L9 N f) (nI g) (nI r) v3 (nI c) (lN 0) a (nI k) σ = _
      unfold Mo_weighs_L9B
      rw [hC.1, if_neg (leN hn (by omega) (by omega)), ha, show (10 : Int64) = lN 10 from rfl, lN_mul, bL_e, nI_1, bI_e, Nat.pow_succ]
    · intro f a ha
      show Mo_weighs_L9B N (Mo_weighs_L9 N f) (nI g) (nI r) v3 (nI c) (lN 0) a (nI w.1.1) σ = _
      unfold Mo_weighs_L9B Mo_weighs_J32
      rw [hC.1, if_pos (Int32.le_refl _), ha]; rfl
  rw [low]
  refine loop_up (fun f df (a : Int64 × St) => Mo_weighs_L35 N f (nI g) (nI r) v3 (nI c) a.1 (lN (10 ^ w.1.1)) (nI df) a.2) (2 ^ w.1.1) (fun df a => a.1 = lN (smN F df) ∧ F28 σ a.2) (fun o => ∃ s, o = some (1, sL (sL s 114 6 (frL (smN F (2 ^ w.1.1)) (10 ^ w.1.1)).1) 114 7 (frL (smN F (2 ^ w.1.1)) (10 ^ w.1.1)).2) ∧ F28 σ s) ?_ ?_ (fuel := N) (a := (lN 0, σ)) (by omega) ⟨rfl, fun _ _ => rfl, rfl⟩
  · intro f df a hdf ⟨i1, i2⟩
    have hn : ¬ 2 ^ w.1.1 ≤ df := by omega
    have hMa : RepM 115 0 q a.2 := hM.frame (i2.1 115 (by decide))
    obtain ⟨s0, g0, t0, -, -, k2, k3⟩ := mStarts (N := N) hq hMa hg
    have C0 : MW w s0 := by
      unfold MW
      rw [k2 114 (by decide), k2 129 (by decide), i2.1 114 (by decide), i2.1 129 (by decide)]; exact hC
    obtain ⟨s1, g1, ⟨e1, e2⟩, f1⟩ := mAlong (N := N) hN (df := df) hq (hMa.frame (k2 115 (by decide))) hg hr hc hw C0 t0 (Mo_weighs_L35 N f) v3 a.1 (lN (10 ^ w.1.1))
    refine ⟨(lN (smN F (df + 1)), s1), ?_, rfl, fun i hi => by rw [f1.1 i hi, k2 i hi, i2.1 i hi], by rw [f1.2, k3, i2.2]⟩
    show Mo_weighs_L35B N (Mo_weighs_L35 N f) (nI g) (nI r) v3 (nI c) a.1 (lN (10 ^ w.1.1)) (nI df) a.2 = Mo_weighs_L35 N f (nI g) (nI r) v3 (nI c) (lN (smN F (df + 1))) (lN (10 ^ w.1.1)) (nI (df + 1)) s1
    unfold Mo_weighs_L35B
    rw [i2.1 114 (by decide), hC.1, bit_pow _ hl, if_neg (leN hn (by omega) (by omega)), g0, bR_e, g1, i1, hJ _ _ _ _ _ (by rw [f1.1 114 (by decide)]; exact C0.1) e1 e2, smN_s]
  · intro f a ⟨i1, i2⟩
    refine ⟨a.2, ?_, i2⟩
    show Mo_weighs_L35B N (Mo_weighs_L35 N f) (nI g) (nI r) v3 (nI c) a.1 (lN (10 ^ w.1.1)) (nI (2 ^ w.1.1)) a.2 = _
    unfold Mo_weighs_L35B Mo_weighs_J179
    rw [i2.1 114 (by decide), hC.1, bit_pow _ hl, if_pos (Int32.le_refl _), i1, mFrac' hN hl hB, bR_e]
theorem rdL_ne (s : St) (i k : Nat) (v : Int64) {a : Nat} (h : a ≠ i) : (sL s i k v).2 a = s.2 a := by
  funext j
  rw [rdL, if_neg (fun z => h z.1)]
def frA (A : Ab) (p : Int64 × Int64) : Ab := (A.1, A.2.1, A.2.2.1, A.2.2.2.1, A.2.2.2.2.1, p)
theorem CI.frac {A : Ab} {σ s : St} {p : Int64 × Int64} (h : CI A σ) (hf : CScr σ s) : CI (frA A p) (sL (sL s 69 1 p.1) 69 2 p.2) := by
  obtain ⟨h1, h2, h3, h4, h5, h6, h7⟩ := h.scr hf
  refine ⟨h1, h2, h3, h4, h5, h6, ?_, ?_⟩
  · rw [rdL, if_neg (by decide), rdL, if_pos ⟨rfl, rfl⟩]; rfl
  · rw [rdL, if_pos ⟨rfl, rfl⟩]; rfl
theorem MI.frac {A : Ab} {σ s : St} {p : Int64 × Int64} (h : MI A σ) (hq : RepM 115 0 A.1 s) (hf : Gr σ s) : MI (frA A p) (sL (sL s 114 6 p.1) 114 7 p.2) := by
  obtain ⟨h1, h2, h3, h4, h5, h6⟩ := h.row hq hf
  refine ⟨h1, h2, h3, h4, h5, ?_, ?_⟩
  · rw [rdL, if_neg (by decide), rdL, if_pos ⟨rfl, rfl⟩]; rfl
  · rw [rdL, if_pos ⟨rfl, rfl⟩]; rfl
theorem sim_frac {ρ : Type} {A : Ab} {σ : St} {f g : St → Option (ρ × St)} {r : ρ} {p : Int64 × Int64} (hO : OkA A) (hC : CI A σ) (hM : MI A σ) (h1 : ∃ s, f σ = some (r, sL (sL s 69 1 p.1) 69 2 p.2) ∧ CScr σ s) (h2 : ∀ σ1, MI A σ1 → ∃ s, g σ1 = some (r, sL (sL s 114 6 p.1) 114 7 p.2) ∧ RepM 115 0 A.1 s ∧ Gr σ1 s) :
    ∃ (r : ρ) (σ1 σ2 : St), f σ = some (r, σ1) ∧ g σ1 = some (r, σ2) ∧ Inv σ2 := by
  obtain ⟨s, e, k⟩ := h1
  refine sim_of hC hM ⟨r, frA A p, hO, ⟨_, e, hC.frac k, fun i hi => ⟨(k.low i hi).1, ?_⟩⟩, fun σ1 m1 => ?_⟩
  · rw [rdL_ne _ _ _ _ (by omega), rdL_ne _ _ _ _ (by omega)]; exact (k.low i hi).2
  · obtain ⟨s2, e2, r2, g2⟩ := h2 σ1 m1
    refine ⟨_, e2, m1.frac r2 g2, fun i hi => ⟨(g2.high i hi).1, ?_⟩⟩
    rw [rdL_ne _ _ _ _ (by omega), rdL_ne _ _ _ _ (by omega)]; exact (g2.high i hi).2
theorem sim_nos {ρ : Type} {A : Ab} {σ : St} {f g : St → Option (ρ × St)} {r : ρ} (k : Nat) (hk : k < 3) (hO : OkA A) (hC : CI A σ) (hM : MI A σ) (h1 : ∃ s, f σ = some (r, sI s 44 k (s.1 44 k + 1)) ∧ CScr σ s) (h2 : ∀ σ1, MI A σ1 → ∃ s, g σ1 = some (r, sI s 120 k (s.1 120 k + 1)) ∧ RepM 115 0 A.1 s ∧ Gr σ1 s) :
    ∃ (r : ρ) (σ1 σ2 : St), f σ = some (r, σ1) ∧ g σ1 = some (r, σ2) ∧ Inv σ2 := by
  obtain ⟨s, e, c⟩ := h1
  refine sim_of hC hM ⟨r, refA A k, hO.ref k, ⟨_, e, (hC.scr c).ref hk, c.low.trans (Low.sI (by decide))⟩, fun σ1 m1 => ?_⟩
  obtain ⟨s2, e2, r2, g2⟩ := h2 σ1 m1
  exact ⟨_, e2, MI.ref (A := A) (m1.row r2 g2) hk, g2.high.trans (High.sI (by decide))⟩
theorem F28.gr {σ s : St} (h : F28 σ s) : Gr σ s := ⟨fun i hi => h.1 i (by omega), fun i h1 h2 => h.1 i (by omega), by rw [h.1 114 (by decide)], h.2⟩
theorem F70.scr {σ s : St} (h : F70 σ s) : CScr σ s := ⟨fun i hi => h.1 i (by omega), h.2⟩
theorem sim_odds (N : Nat) (hN : 300 < N) (hBX : BX 10 + 10 < N) : Sim_odds N Inv := by
  intro σ hI v1 v2 v3 v4
  obtain ⟨A, hO, hC, hM⟩ := hI
  have hq := hO.1
  have h36 := hO.1.2.1
  have h37 := hO.1.2.2.1
  by_cases h1 : (0 : Int) ≤ v1.toInt ∧ v1.toInt ≤ (A.1 37 : Int) - 1
  rotate_left
  · refine sim_ref (f := fun σ => Go_odds N v1 v2 v3 v4 σ) (g := fun σ => Mo_odds N v1 v2 v3 v4 σ) (r := -2) 0 (by decide) hO hC hM ?_ (fun σ1 m1 => ?_)
    · show Go_odds N v1 v2 v3 v4 σ = _
      simp only [Go_odds_J37, Go_odds, gGu hO hC, gRo hO hC, gPl, bR_e, bW_e, gBad, gFarBad, eq_self, one_ne, if_true, if_false, not_false_eq_true, not_true_eq_false, wv_0 h1]
    · show Mo_odds N v1 v2 v3 v4 σ1 = _
      simp only [Mo_odds_J41, Mo_odds, mGu hO m1, mRo hO m1, mPl, bR_e, bW_e, mBad, eq_self, one_ne, if_true, if_false, not_false_eq_true, not_true_eq_false, wv_0 h1]
  by_cases h2 : (0 : Int) ≤ v2.toInt ∧ v2.toInt ≤ (A.1 36 : Int) - 1
  rotate_left
  · refine sim_ref (f := fun σ => Go_odds N v1 v2 v3 v4 σ) (g := fun σ => Mo_odds N v1 v2 v3 v4 σ) (r := -2) 0 (by decide) hO hC hM ?_ (fun σ1 m1 => ?_)
    · show Go_odds N v1 v2 v3 v4 σ = _
      simp only [Go_odds_J37, Go_odds, gGu hO hC, gRo hO hC, gPl, bR_e, bW_e, gBad, gFarBad, eq_self, one_ne, if_true, if_false, not_false_eq_true, not_true_eq_false, wv_1 h1, wv_0 h2]
    · show Mo_odds N v1 v2 v3 v4 σ1 = _
      simp only [Mo_odds_J41, Mo_odds, mGu hO m1, mRo hO m1, mPl, bR_e, bW_e, mBad, eq_self, one_ne, if_true, if_false, not_false_eq_true, not_true_eq_false, wv_1 h1, wv_0 h2]
  by_cases h3 : (0 : Int) ≤ v3.toInt ∧ v3.toInt ≤ 40
  rotate_left
  · refine sim_ref (f := fun σ => Go_odds N v1 v2 v3 v4 σ) (g := fun σ => Mo_odds N v1 v2 v3 v4 σ) (r := -2) 0 (by decide) hO hC hM ?_ (fun σ1 m1 => ?_)
    · show Go_odds N v1 v2 v3 v4 σ = _
      simp only [Go_odds_J37, Go_odds, gGu hO hC, gRo hO hC, gPl, bR_e, bW_e, gBad, gFarBad, eq_self, one_ne, if_true, if_false, not_false_eq_true, not_true_eq_false, wv_1 h1, wv_1 h2, gW40, wv_0 h3]
    · show Mo_odds N v1 v2 v3 v4 σ1 = _
      simp only [Mo_odds_J41, Mo_odds, mGu hO m1, mRo hO m1, mPl, bR_e, bW_e, mBad, eq_self, one_ne, if_true, if_false, not_false_eq_true, not_true_eq_false, wv_1 h1, wv_1 h2, mW40, wv_0 h3]
  by_cases h4 : (0 : Int) ≤ v4.toInt ∧ v4.toInt ≤ 10
  rotate_left
  · refine sim_ref (f := fun σ => Go_odds N v1 v2 v3 v4 σ) (g := fun σ => Mo_odds N v1 v2 v3 v4 σ) (r := -2) 0 (by decide) hO hC hM ?_ (fun σ1 m1 => ?_)
    · show Go_odds N v1 v2 v3 v4 σ = _
      simp only [Go_odds_J37, Go_odds, gGu hO hC, gRo hO hC, gPl, bR_e, bW_e, gBad, gFarBad, eq_self, one_ne, if_true, if_false, not_false_eq_true, not_true_eq_false, wv_1 h1, wv_1 h2, gW40, wv_1 h3, gW10, wv_0 h4]
    · show Mo_odds N v1 v2 v3 v4 σ1 = _
      simp only [Mo_odds_J41, Mo_odds, mGu hO m1, mRo hO m1, mPl, bR_e, bW_e, mBad, eq_self, one_ne, if_true, if_false, not_false_eq_true, not_true_eq_false, wv_1 h1, wv_1 h2, mW40, wv_1 h3, mW10, wv_0 h4]
  obtain ⟨a1, b1, rfl⟩ := wv_lt h1
  obtain ⟨a2, b2, rfl⟩ := wv_lt h2
  obtain ⟨a3, c3, b3, rfl⟩ := wv_nat (hi := 40) (by decide) h3
  obtain ⟨a4, c4, b4, rfl⟩ := wv_nat (hi := 10) (by decide) h4
  have hw := wayW_ok hq b1 a2
  obtain ⟨w, hww⟩ : ∃ w, w = wayW A.1 a1 a2 := ⟨_, rfl⟩
  rw [← hww] at hw
  have hl := hw.1
  have hx1 := hq.b.2.2.1.x b1
  by_cases z : w.1.1 = 0
  · refine sim_nos (f := fun σ => Go_odds N (nI a1) (nI a2) (nI a3) (nI a4) σ) (g := fun σ => Mo_odds N (nI a1) (nI a2) (nI a3) (nI a4) σ) (r := -3) 1 (by decide) hO hC hM ?_ (fun σ1 m1 => ?_)
    · obtain ⟨s, g1, c1, f1⟩ := cSearch (N := N) hN hq hC.nr b1 b2
      rw [← hww] at c1
      refine ⟨s, ?_, f1.scr⟩
      show Go_odds N (nI a1) (nI a2) (nI a3) (nI a4) σ = _
      simp only [Go_odds, gGu hO hC, gRo hO hC, gPl, bR_e, bW_e, gBad, gFarBad, eq_self, one_ne, if_true, if_false, not_false_eq_true, not_true_eq_false, wv_1 h1, wv_1 h2, gW40, wv_1 h3, gW10, wv_1 h4]
      rw [inI (n := 4) (by omega) (by decide), ck_t, clI (by omega), inI (n := 3) (by omega) (by decide), ck_t, clI (by omega), g1, bR_e, c1.1, if_pos (show nI w.1.1 = 0 by rw [z]; rfl), gNo, bW_e]
    · obtain ⟨s, g1, c1, f1⟩ := mFinds (N := N) hN hBX hq m1.1 b1 b2
      rw [← hww] at c1
      refine ⟨s, ?_, m1.1.frame (f1.1 115 (by decide) (by decide)), f1.gr⟩
      show Mo_odds N (nI a1) (nI a2) (nI a3) (nI a4) σ1 = _
      simp only [Mo_odds, mGu hO m1, mRo hO m1, mPl, bR_e, bW_e, mBad, eq_self, one_ne, if_true, if_false, not_false_eq_true, not_true_eq_false, wv_1 h1, wv_1 h2, mW40, wv_1 h3, mW10, wv_1 h4]
      rw [g1, bR_e, c1.1, if_pos (show nI w.1.1 = 0 by rw [z]; rfl), mNo, bW_e]
  · obtain ⟨F, hF⟩ : ∃ F : Nat → Nat, ∀ df, F df = if a3 ≤ haX A.1 (A.1 (38 + a2)) (A.1 (41 + a2)) w.2.1 df (qX A.1 a1) w.1.1 2 then wgt df a4 w.1.1 else 0 := ⟨_, fun _ => rfl⟩
    have hB : ∀ i, F i ≤ 10 ^ w.1.1 * 999 := by
      intro i
      have := wgt_le (df := i) b4 w.1.1
      rw [hF]
      split <;> omega
    refine sim_frac (f := fun σ => Go_odds N (nI a1) (nI a2) (nI a3) (nI a4) σ) (g := fun σ => Mo_odds N (nI a1) (nI a2) (nI a3) (nI a4) σ) (r := 1) (p := frL (smN F (2 ^ w.1.1)) (10 ^ w.1.1)) hO hC hM ?_ (fun σ1 m1 => ?_)
    · obtain ⟨s, g1, c1, f1⟩ := cSearch (N := N) hN hq hC.nr b1 b2
      rw [← hww] at c1
      obtain ⟨s2, g2, f2⟩ := cChance (N := N) hN hq (hC.scr f1.scr).nr b1 b2 b3 b4 hw c1 hF hB
      refine ⟨s2, ?_, f1.scr.trans f2.scr⟩
      show Go_odds N (nI a1) (nI a2) (nI a3) (nI a4) σ = _
      simp only [Go_odds, gGu hO hC, gRo hO hC, gPl, bR_e, bW_e, gBad, gFarBad, eq_self, one_ne, if_true, if_false, not_false_eq_true, not_true_eq_false, wv_1 h1, wv_1 h2, gW40, wv_1 h3, gW10, wv_1 h4]
      rw [inI (n := 4) (by omega) (by decide), ck_t, clI (by omega), inI (n := 3) (by omega) (by decide), ck_t, clI (by omega), g1, bR_e, c1.1, if_neg (show ¬ nI w.1.1 = 0 from neI (b := 0) z (by omega) (by decide)), ck_t, ck_t, g2, bR_e]
    · obtain ⟨s, g1, c1, f1⟩ := mFinds (N := N) hN hBX hq m1.1 b1 b2
      rw [← hww] at c1
      have hMs : RepM 115 0 A.1 s := m1.1.frame (f1.1 115 (by decide) (by decide))
      obtain ⟨s2, g2, f2⟩ := mWeighs (N := N) hN hq hMs b1 b2 b4 hw c1 (v3 := nI a3) (F := F) hB (fun K35 u df v7 t t1 t2 t3 => by
        obtain ⟨⟨y0, y1, y2, y3, y4, y5⟩, -, -⟩ := haX_ok (q := A.1) (kd := A.1 (38 + a2)) (tg := A.1 (41 + a2)) (df := df) hx1 hw.2.2.1 (Nat.le_refl w.1.1)
        unfold Mo_weighs_J129 Mo_weighs_J170
        rw [if_pos (show (0 : Int32) ≤ nI a3 from leP (a := 0) (by omega) (by decide) (by omega)), t1, inI (n := 9) (by omega) (by decide), ck_t, clI (by omega), t2, show (0 : Int64) = lN 0 from rfl, lN_add, lN_add, bL_e, bL_e, nI_1, bI_e, bI_e, hF df]
        by_cases y : a3 ≤ haX A.1 (A.1 (38 + a2)) (A.1 (41 + a2)) w.2.1 df (qX A.1 a1) w.1.1 2
        · rw [if_neg (ltN (by omega) (by omega) (by omega)), if_pos y]
        · rw [if_pos (ltP (by omega) (by omega) (by omega)), if_neg y])
      refine ⟨s2, ?_, hMs.frame (f2.1 115 (by decide)), f1.gr.trans f2.gr⟩
      show Mo_odds N (nI a1) (nI a2) (nI a3) (nI a4) σ1 = _
      simp only [Mo_odds, mGu hO m1, mRo hO m1, mPl, bR_e, bW_e, mBad, eq_self, one_ne, if_true, if_false, not_false_eq_true, not_true_eq_false, wv_1 h1, wv_1 h2, mW40, wv_1 h3, mW10, wv_1 h4]
      rw [g1, bR_e, c1.1, if_neg (show ¬ nI w.1.1 = 0 from neI (b := 0) z (by omega) (by decide)), g2, bW_e]
theorem sim_mean (N : Nat) (hN : 300 < N) (hBX : BX 10 + 10 < N) : Sim_mean N Inv := by
  intro σ hI v1 v2 v3
  obtain ⟨A, hO, hC, hM⟩ := hI
  have hq := hO.1
  have h36 := hO.1.2.1
  have h37 := hO.1.2.2.1
  by_cases h1 : (0 : Int) ≤ v1.toInt ∧ v1.toInt ≤ (A.1 37 : Int) - 1
  rotate_left
  · refine sim_ref (f := fun σ => Go_mean N v1 v2 v3 σ) (g := fun σ => Mo_mean N v1 v2 v3 σ) (r := -2) 0 (by decide) hO hC hM ?_ (fun σ1 m1 => ?_)
    · show Go_mean N v1 v2 v3 σ = _
      simp only [Go_mean_J26, Go_mean, gGu hO hC, gRo hO hC, gPl, bR_e, bW_e, gBad, gFarBad, eq_self, one_ne, if_true, if_false, not_false_eq_true, not_true_eq_false, wv_0 h1]
    · show Mo_mean N v1 v2 v3 σ1 = _
      simp only [Mo_mean_J28, Mo_mean, mGu hO m1, mRo hO m1, mPl, bR_e, bW_e, mBad, eq_self, one_ne, if_true, if_false, not_false_eq_true, not_true_eq_false, wv_0 h1]
  by_cases h2 : (0 : Int) ≤ v2.toInt ∧ v2.toInt ≤ (A.1 36 : Int) - 1
  rotate_left
  · refine sim_ref (f := fun σ => Go_mean N v1 v2 v3 σ) (g := fun σ => Mo_mean N v1 v2 v3 σ) (r := -2) 0 (by decide) hO hC hM ?_ (fun σ1 m1 => ?_)
    · show Go_mean N v1 v2 v3 σ = _
      simp only [Go_mean_J26, Go_mean, gGu hO hC, gRo hO hC, gPl, bR_e, bW_e, gBad, gFarBad, eq_self, one_ne, if_true, if_false, not_false_eq_true, not_true_eq_false, wv_1 h1, wv_0 h2]
    · show Mo_mean N v1 v2 v3 σ1 = _
      simp only [Mo_mean_J28, Mo_mean, mGu hO m1, mRo hO m1, mPl, bR_e, bW_e, mBad, eq_self, one_ne, if_true, if_false, not_false_eq_true, not_true_eq_false, wv_1 h1, wv_0 h2]
  by_cases h3 : (0 : Int) ≤ v3.toInt ∧ v3.toInt ≤ 10
  rotate_left
  · refine sim_ref (f := fun σ => Go_mean N v1 v2 v3 σ) (g := fun σ => Mo_mean N v1 v2 v3 σ) (r := -2) 0 (by decide) hO hC hM ?_ (fun σ1 m1 => ?_)
    · show Go_mean N v1 v2 v3 σ = _
      simp only [Go_mean_J26, Go_mean, gGu hO hC, gRo hO hC, gPl, bR_e, bW_e, gBad, gFarBad, eq_self, one_ne, if_true, if_false, not_false_eq_true, not_true_eq_false, wv_1 h1, wv_1 h2, gW10, wv_0 h3]
    · show Mo_mean N v1 v2 v3 σ1 = _
      simp only [Mo_mean_J28, Mo_mean, mGu hO m1, mRo hO m1, mPl, bR_e, bW_e, mBad, eq_self, one_ne, if_true, if_false, not_false_eq_true, not_true_eq_false, wv_1 h1, wv_1 h2, mW10, wv_0 h3]
  obtain ⟨a1, b1, rfl⟩ := wv_lt h1
  obtain ⟨a2, b2, rfl⟩ := wv_lt h2
  obtain ⟨a3, c3, b3, rfl⟩ := wv_nat (hi := 10) (by decide) h3
  have hw := wayW_ok hq b1 a2
  obtain ⟨w, hww⟩ : ∃ w, w = wayW A.1 a1 a2 := ⟨_, rfl⟩
  rw [← hww] at hw
  have hl := hw.1
  have hx1 := hq.b.2.2.1.x b1
  by_cases z : w.1.1 = 0
  · refine sim_nos (f := fun σ => Go_mean N (nI a1) (nI a2) (nI a3) σ) (g := fun σ => Mo_mean N (nI a1) (nI a2) (nI a3) σ) (r := -3) 1 (by decide) hO hC hM ?_ (fun σ1 m1 => ?_)
    · obtain ⟨s, g1, c1, f1⟩ := cSearch (N := N) hN hq hC.nr b1 b2
      rw [← hww] at c1
      refine ⟨s, ?_, f1.scr⟩
      show Go_mean N (nI a1) (nI a2) (nI a3) σ = _
      simp only [Go_mean, gGu hO hC, gRo hO hC, gPl, bR_e, bW_e, gBad, gFarBad, eq_self, one_ne, if_true, if_false, not_false_eq_true, not_true_eq_false, wv_1 h1, wv_1 h2, gW10, wv_1 h3]
      rw [inI (n := 4) (by omega) (by decide), ck_t, clI (by omega), inI (n := 3) (by omega) (by decide), ck_t, clI (by omega), g1, bR_e, c1.1, if_pos (show nI w.1.1 = 0 by rw [z]; rfl), gNo, bW_e]
    · obtain ⟨s, g1, c1, f1⟩ := mFinds (N := N) hN hBX hq m1.1 b1 b2
      rw [← hww] at c1
      refine ⟨s, ?_, m1.1.frame (f1.1 115 (by decide) (by decide)), f1.gr⟩
      show Mo_mean N (nI a1) (nI a2) (nI a3) σ1 = _
      simp only [Mo_mean, mGu hO m1, mRo hO m1, mPl, bR_e, bW_e, mBad, eq_self, one_ne, if_true, if_false, not_false_eq_true, not_true_eq_false, wv_1 h1, wv_1 h2, mW10, wv_1 h3]
      rw [g1, bR_e, c1.1, if_pos (show nI w.1.1 = 0 by rw [z]; rfl), mNo, bW_e]
  · obtain ⟨F, hF⟩ : ∃ F : Nat → Nat, ∀ df, F df = wgt df a3 w.1.1 * haX A.1 (A.1 (38 + a2)) (A.1 (41 + a2)) w.2.1 df (qX A.1 a1) w.1.1 3 := ⟨_, fun _ => rfl⟩
    have hB : ∀ i, F i ≤ 10 ^ w.1.1 * 999 := by
      intro i
      rw [hF]
      exact Nat.mul_le_mul (wgt_le b3 w.1.1) (haX_ok (q := A.1) (kd := A.1 (38 + a2)) (tg := A.1 (41 + a2)) (df := i) hx1 hw.2.2.1 (Nat.le_refl w.1.1)).1.2.2.2.1
    refine sim_frac (f := fun σ => Go_mean N (nI a1) (nI a2) (nI a3) σ) (g := fun σ => Mo_mean N (nI a1) (nI a2) (nI a3) σ) (r := 1) (p := frL (smN F (2 ^ w.1.1)) (10 ^ w.1.1)) hO hC hM ?_ (fun σ1 m1 => ?_)
    · obtain ⟨s, g1, c1, f1⟩ := cSearch (N := N) hN hq hC.nr b1 b2
      rw [← hww] at c1
      obtain ⟨s2, g2, f2⟩ := cMean (N := N) hN hq (hC.scr f1.scr).nr b1 b2 b3 hw c1 hF hB
      refine ⟨s2, ?_, f1.scr.trans f2.scr⟩
      show Go_mean N (nI a1) (nI a2) (nI a3) σ = _
      simp only [Go_mean, gGu hO hC, gRo hO hC, gPl, bR_e, bW_e, gBad, gFarBad, eq_self, one_ne, if_true, if_false, not_false_eq_true, not_true_eq_false, wv_1 h1, wv_1 h2, gW10, wv_1 h3]
      rw [inI (n := 4) (by omega) (by decide), ck_t, clI (by omega), inI (n := 3) (by omega) (by decide), ck_t, clI (by omega), g1, bR_e, c1.1, if_neg (show ¬ nI w.1.1 = 0 from neI (b := 0) z (by omega) (by decide)), ck_t, ck_t, g2, bR_e]
    · obtain ⟨s, g1, c1, f1⟩ := mFinds (N := N) hN hBX hq m1.1 b1 b2
      rw [← hww] at c1
      have hMs : RepM 115 0 A.1 s := m1.1.frame (f1.1 115 (by decide) (by decide))
      obtain ⟨s2, g2, f2⟩ := mWeighs (N := N) hN hq hMs b1 b2 b3 hw c1 (v3 := -1) (F := F) hB (fun K35 u df v7 t t1 t2 t3 => by
        obtain ⟨⟨y0, y1, y2, y3, y4, y5⟩, -, -⟩ := haX_ok (q := A.1) (kd := A.1 (38 + a2)) (tg := A.1 (41 + a2)) (df := df) hx1 hw.2.2.1 (Nat.le_refl w.1.1)
        unfold Mo_weighs_J129 Mo_weighs_J170
        rw [if_neg (by decide), t1, inI (n := 9) (by omega) (by decide), ck_t, clI (by omega), t3, nI_l (by omega), lN_mul, lN_add, bL_e, nI_1, bI_e, hF df])
      refine ⟨s2, ?_, hMs.frame (f2.1 115 (by decide)), f1.gr.trans f2.gr⟩
      show Mo_mean N (nI a1) (nI a2) (nI a3) σ1 = _
      simp only [Mo_mean, mGu hO m1, mRo hO m1, mPl, bR_e, bW_e, mBad, eq_self, one_ne, if_true, if_false, not_false_eq_true, not_true_eq_false, wv_1 h1, wv_1 h2, mW10, wv_1 h3]
      rw [g1, bR_e, c1.1, if_neg (show ¬ nI w.1.1 = 0 from neI (b := 0) z (by omega) (by decide)), g2, bW_e]
