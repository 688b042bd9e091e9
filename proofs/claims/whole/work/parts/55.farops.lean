/-! far: both sides -/
def encF (d : Nat) : Int32 := if d = 999 then -1 else nI d
theorem encF_m1 {d : Nat} (h : d ≤ 999) : (encF d = -1) = (d = 999) := by
  unfold encF
  apply propext
  by_cases c : d = 999
  · rw [if_pos c]; exact ⟨fun _ => c, fun _ => rfl⟩
  · rw [if_neg c]; exact ⟨fun z => absurd z (m1_ne d (by omega)), fun z => absurd z c⟩
def Ef (σ : St) (D : QS) (s : St) : Prop := (∀ j, j < 8 → s.1 45 j = encF (D j)) ∧ (∀ i, i ≠ 45 → s.1 i = σ.1 i) ∧ s.2 = σ.2
theorem rlP_inf {q : QS} {p : Nat} {D : QS} (h : D p = 999) (hl : ∀ v, v < 8 → D v ≤ 999) {n : Nat} (hn : n ≤ 8) {v : Nat} (hv : v < 8) : rlP q p n D v = D v := by
  induction n with
  | zero => rfl
  | succ n ih =>
    rw [rlP_s]
    by_cases e : v = n
    · subst e
      unfold rl1
      have := hl v hv
      rw [updQ_s, rlP_p, ih (by omega)]
      split <;> omega
    · unfold rl1
      rw [updQ_n _ _ e]; exact ih (by omega)
theorem cShort {N : Nat} (hN : 300 < N) {q : QS} {σ s : St} (hb : BD q) (hc : CanC 1 q σ) {p t : Nat} (hp : p < 8) (ht : t ≤ 100) {D : QS} (hB : Bdd t D) (hE : Ef σ D s) : ∃ s', Ni_shorten N 1 (nI p) 45 s = some s' ∧ Ef σ (rlP q p 8 D) s' := by
  have hl : ∀ v, v < 8 → D v ≤ 999 := fun v hv => hB.le ht hv
  unfold Ni_shorten
  rw [show lnn 45 = 8 from rfl, inI hp (by decide), ck_t, clI (by omega), hE.1 p hp]
  by_cases z : D p = 999
  · refine ⟨s, by rw [if_pos (by rw [encF_m1 (hl p hp)]; exact z)], fun j hj => ?_, hE.2⟩
    rw [rlP_inf z hl (Nat.le_refl 8) hj]; exact hE.1 j hj
  · rw [if_neg (by rw [encF_m1 (hl p hp)]; exact z)]
    have hpb : D p ≤ 9 * t := by rcases hB p hp with e | e <;> omega
    refine loop_up (fun f j s => Ni_shorten_L10 N f 1 (nI p) 45 (nI j) s) 8 (fun j s => Ef σ (rlP q p j D) s) (fun o => ∃ s', o = some s' ∧ Ef σ (rlP q p 8 D) s') ?_ ?_ (by omega) hE
    · intro f j s hj ⟨e1, e2, e3⟩
      have hn : ¬ 8 ≤ j := by omega
      have hs := stq_le hb hp hj
      have hc' : CanC 1 q s := hc.frame (e2 _ (by decide)) (fun _ _ _ _ => rfl)
      have ep : s.1 45 p = nI (D p) := by rw [e1 p hp, rlP_p]; exact if_neg z
      have hjl : rlP q p j D j ≤ 999 := Nat.le_trans (rlP_le _ _ _ _ _) (hl j hj)
      have ej := e1 j hj
      have r1 : rlP q p (j + 1) D = updQ (rlP q p j D) j (if 0 < stq q p j then min (rlP q p j D j) (D p + stq q p j) else rlP q p j D j) := by rw [rlP_s]; unfold rl1; rw [rlP_p]
      have keep : (0 < stq q p j → rlP q p j D j ≤ D p + stq q p j) → Ef σ (rlP q p (j + 1) D) s := by
        intro hk
        refine ⟨fun i hi => ?_, e2, e3⟩
        rw [r1]
        unfold updQ
        by_cases y : i = j
        · subst y
          rw [if_pos rfl, e1 i hi]
          congr 1
          by_cases x : 0 < stq q p i
          · have := hk x
            rw [if_pos x]; omega
          · rw [if_neg x]
        · rw [if_neg y]; exact e1 i hi
      have put : 0 < stq q p j → D p + stq q p j < rlP q p j D j → Ef σ (rlP q p (j + 1) D) (sI s 45 j (nI (D p + stq q p j))) := by
        intro h0 hk
        refine ⟨fun i hi => ?_, fun i hi => by rw [rdI_ne _ _ _ _ hi]; exact e2 i hi, e3⟩
        rw [r1]
        unfold updQ
        by_cases y : i = j
        · subst y
          rw [if_pos rfl, rdI_eq, if_pos h0]
          unfold encF
          rw [if_neg (by omega)]; congr 1; omega
        · rw [if_neg y, rdI_nk _ _ _ _ y]; exact e1 i hi
      show ∃ a', Ni_shorten_L10B N (Ni_shorten_L10 N f) 1 (nI p) 45 (nI j) s = Ni_shorten_L10 N f 1 (nI p) 45 (nI (j + 1)) a' ∧ _
      unfold Ni_shorten_L10B Ni_shorten_J48 Ni_shorten_J57
      rw [show (8 : Int32) = nI 8 from rfl, if_neg (leN hn (by omega) (by omega)), gSt hc' hp hj, bR_e, show lnn 45 = 8 from rfl, inI hp (by decide), inI hj (by decide), ck_t, ck_t, ck_t, ck_t, clI (by omega), clI (by omega), ep, addI, nI_1, bS_e, bI_e, bI_e, show (0 : Int32) = nI 0 from rfl]
      by_cases y : 0 < stq q p j
      · rw [if_neg (leN (show ¬ stq q p j ≤ 0 by omega) (by omega) (by omega)), ej]
        by_cases x : rlP q p j D j = 999
        · refine ⟨_, by rw [if_pos (by rw [encF_m1 hjl]; exact x)], put y (by omega)⟩
        · rw [if_neg (by rw [encF_m1 hjl]; exact x), show encF (rlP q p j D j) = nI (rlP q p j D j) from if_neg x]
          by_cases w : rlP q p j D j ≤ D p + stq q p j
          · exact ⟨s, by rw [if_pos (leP w (by omega) (by omega))]; rfl, keep (fun _ => w)⟩
          · exact ⟨_, by rw [if_neg (leN w (by omega) (by omega))]; rfl, put y (by omega)⟩
      · exact ⟨s, by rw [if_pos (leP (show stq q p j ≤ 0 by omega) (by omega) (by omega))], keep (fun w => absurd w y)⟩
    · intro f s hE2
      refine ⟨s, ?_, hE2⟩
      show Ni_shorten_L10B N (Ni_shorten_L10 N f) 1 (nI p) 45 (nI 8) s = _
      unfold Ni_shorten_L10B
      rw [if_pos (by decide)]
theorem cFar {N : Nat} (hN : 300 < N) {q : QS} {σ : St} (hb : BD q) (hc : CanC 1 q σ) {a : Nat} (ha : a < 8) : ∃ s', Ni_measureFrom N 1 (nI a) 45 σ = some s' ∧ Ef σ (rlK q a 7) s' := by
  obtain ⟨R, hR⟩ : ∃ R : Nat, R = 7 := ⟨_, rfl⟩
  rw [← hR]
  unfold Ni_measureFrom
  refine loop_up (fun f j s => Ni_measureFrom_L2 N f 1 (nI a) 45 (nI j) s) 8 (fun j s => (∀ j', j' < j → s.1 45 j' = -1) ∧ (∀ i, i ≠ 45 → s.1 i = σ.1 i) ∧ s.2 = σ.2) (fun o => ∃ s', o = some s' ∧ Ef σ (rlK q a R) s') ?_ ?_ (by omega) ⟨by intros; omega, fun _ _ => rfl, rfl⟩
  · intro f j s hj ⟨e1, e2, e3⟩
    have hn : ¬ 8 ≤ j := by omega
    refine ⟨sI s 45 j (-1), ?_, fun j' hj' => ?_, fun i hi => by rw [rdI_ne _ _ _ _ hi]; exact e2 i hi, e3⟩
    · show Ni_measureFrom_L2B N (Ni_measureFrom_L2 N f) 1 (nI a) 45 (nI j) s = _
      unfold Ni_measureFrom_L2B
      rw [show (8 : Int32) = nI 8 from rfl, if_neg (leN hn (by omega) (by omega)), show lnn 45 = 8 from rfl, inI hj (by decide), ck_t, clI (by omega), bS_e, nI_1, bI_e]
    · by_cases y : j' = j
      · subst y; rw [rdI_eq]
      · rw [rdI_nk _ _ _ _ y]; exact e1 j' (by omega)
  · intro f s ⟨e1, e2, e3⟩
    have E0 : Ef σ (rlK q a 0) (sI s 45 a 0) := by
      refine ⟨fun j hj => ?_, fun i hi => by rw [rdI_ne _ _ _ _ hi]; exact e2 i hi, e3⟩
      show _ = encF (if j = a then 0 else 999)
      by_cases y : j = a
      · subst y; rw [rdI_eq, if_pos rfl]; rfl
      · rw [rdI_nk _ _ _ _ y, if_neg y]; exact e1 j hj
    show ∃ s', Ni_measureFrom_L2B N (Ni_measureFrom_L2 N f) 1 (nI a) 45 (nI 8) s = some s' ∧ _
    unfold Ni_measureFrom_L2B Ni_measureFrom_J18
    rw [if_pos (by decide), show lnn 45 = 8 from rfl, inI ha (by decide), ck_t, clI (by omega), bS_e]
    refine loop_up (fun f r s => Ni_measureFrom_L24 N f 1 45 (nI (1 + r)) s) R (fun r s => Ef σ (rlK q a r) s) (fun o => ∃ s', o = some s' ∧ Ef σ (rlK q a R) s') ?_ ?_ (by omega) E0
    · intro f r s hr hE
      have hn : ¬ 8 ≤ 1 + r := by omega
      have hB := rlK_bdd (a := a) hb (show r ≤ 12 by omega)
      show ∃ a', Ni_measureFrom_L24B N (Ni_measureFrom_L24 N f) 1 45 (nI (1 + r)) s = _ ∧ _
      unfold Ni_measureFrom_L24B
      rw [show (8 : Int32) = nI 8 from rfl, if_neg (leN hn (by omega) (by omega))]
      refine loop_up (fun f' p s => Ni_measureFrom_L33 N (Ni_measureFrom_L24 N f) f' 1 45 (nI (1 + r)) (nI p) s) 8 (fun p s => Ef σ (rlR q p (rlK q a r)) s) (fun o => ∃ a', o = Ni_measureFrom_L24 N f 1 45 (nI (1 + (r + 1))) a' ∧ Ef σ (rlK q a (r + 1)) a') ?_ ?_ (by omega) hE
      · intro f' p s hp hE2
        have hn2 : ¬ 8 ≤ p := by omega
        obtain ⟨s', g1, g2⟩ := cShort hN hb hc hp (t := 8 * r + p) (by omega) (rlR_bdd hb hB (show p ≤ 8 by omega) (by omega)) hE2
        refine ⟨s', ?_, g2⟩
        show Ni_measureFrom_L33B N (Ni_measureFrom_L24 N f) (Ni_measureFrom_L33 N (Ni_measureFrom_L24 N f) f') 1 45 (nI (1 + r)) (nI p) s = _
        unfold Ni_measureFrom_L33B
        rw [show (8 : Int32) = nI 8 from rfl, if_neg (leN hn2 (by omega) (by omega)), g1, bR_e, nI_1, bI_e]
      · intro f' s hE2
        refine ⟨s, ?_, hE2⟩
        show Ni_measureFrom_L33B N (Ni_measureFrom_L24 N f) (Ni_measureFrom_L33 N (Ni_measureFrom_L24 N f) f') 1 45 (nI (1 + r)) (nI 8) s = _
        unfold Ni_measureFrom_L33B Ni_measureFrom_J53
        rw [if_pos (by decide), nI_1, bI_e]; rfl
    · intro f s hE
      refine ⟨s, ?_, hE⟩
      show Ni_measureFrom_L24B N (Ni_measureFrom_L24 N f) 1 45 (nI (1 + R)) s = _
      unfold Ni_measureFrom_L24B
      rw [hR, if_pos (by decide)]
def Em (σ : St) (D : QS) (s : St) : Prop := (∀ j, j < 8 → s.1 122 j = nI (D j)) ∧ (∀ i, i ≠ 122 → s.1 i = σ.1 i) ∧ s.2 = σ.2
theorem mFarP {N : Nat} (hN : 300 < N) {q : QS} {σ s : St} (hb : BD q) (h : RepM 115 0 q σ) {p : Nat} (hp : p < 8) {D : QS} (hl : ∀ v, D v ≤ 999) (hE : Em σ D s) (K1 : Int32 → Int32 → St → Option (Int32 × St)) (K2 : Int32 → Int32 → Int32 → St → Option (Int32 × St)) (v2 v3 : Int32) : ∃ s', Mo_far_L74 N K1 K2 N v2 v3 (nI p) 0 s = K2 v2 v3 (nI (p + 1)) s' ∧ Em σ (rlP q p 8 D) s' := by
  refine loop_up (fun f j s => Mo_far_L74 N K1 K2 f v2 v3 (nI p) (nI j) s) 8 (fun j s => Em σ (rlP q p j D) s) (fun o => ∃ s', o = K2 v2 v3 (nI (p + 1)) s' ∧ Em σ (rlP q p 8 D) s') ?_ ?_ (by omega) hE
  · intro f j s hj ⟨e1, e2, e3⟩
    have hn : ¬ 8 ≤ j := by omega
    have hs := stq_le hb hp hj
    have hm : RepM 115 0 q s := h.frame (e2 _ (by decide))
    have ep := e1 p hp
    have ej := e1 j hj
    have hjl : rlP q p j D j ≤ 999 := Nat.le_trans (rlP_le _ _ _ _ _) (hl j)
    have hpl : rlP q p j D p ≤ 999 := Nat.le_trans (rlP_le _ _ _ _ _) (hl p)
    have fin : ∀ x, x = (if 0 < stq q p j then min (rlP q p j D j) (rlP q p j D p + stq q p j) else rlP q p j D j) → Em σ (rlP q p (j + 1) D) (sI s 122 j (nI x)) := by
      intro x hx
      refine ⟨fun i hi => ?_, fun i hi => by rw [rdI_ne _ _ _ _ hi]; exact e2 i hi, e3⟩
      rw [rlP_s]; unfold rl1 updQ
      by_cases y : i = j
      · subst y; rw [if_pos rfl, rdI_eq, hx]
      · rw [if_neg y, rdI_nk _ _ _ _ y]; exact e1 i hi
    show ∃ a', Mo_far_L74B N K1 K2 (Mo_far_L74 N K1 K2 f) v2 v3 (nI p) (nI j) s = Mo_far_L74 N K1 K2 f v2 v3 (nI p) (nI (j + 1)) a' ∧ _
    unfold Mo_far_L74B Mo_far_J132
    rw [show (8 : Int32) = nI 8 from rfl, if_neg (leN hn (by omega) (by omega)), mSt' hm hp hj, bR_e, inI hj (by decide), inI hp (by decide), ck_t, ck_t, ck_t, ck_t, ck_t, clI (by omega), clI (by omega), ep, ej, addI, less_e (by omega) (by omega), nI_1, bS_e, bS_e, bI_e, bI_e, show (0 : Int32) = nI 0 from rfl]
    by_cases y : 0 < stq q p j
    · refine ⟨_, by rw [if_neg (leN (show ¬ stq q p j ≤ 0 by omega) (by omega) (by omega))], fin _ (by rw [if_pos y])⟩
    · refine ⟨_, by rw [if_pos (leP (show stq q p j ≤ 0 by omega) (by omega) (by omega))], fin _ (by rw [if_neg y])⟩
  · intro f s hE2
    refine ⟨s, ?_, hE2⟩
    show Mo_far_L74B N K1 K2 (Mo_far_L74 N K1 K2 f) v2 v3 (nI p) (nI 8) s = _
    unfold Mo_far_L74B Mo_far_J139
    rw [if_pos (by decide), nI_1, bI_e]
theorem mFar {N : Nat} (hN : 300 < N) {q : QS} {σ : St} (hb : BD q) (h : RepM 115 0 q σ) {a b R : Nat} (hR : R = 8) (ha : a < 8) (hbb : b < 8) : ∃ s', Mo_far_L23 N N (nI a) (nI b) 0 σ = some (encF (rlK q a R b), s') ∧ Em σ (rlK q a R) s' := by
  refine loop_up (fun f j s => Mo_far_L23 N f (nI a) (nI b) (nI j) s) 8 (fun j s => (∀ j', j' < j → s.1 122 j' = nI (if j' = a then 0 else 999)) ∧ (∀ i, i ≠ 122 → s.1 i = σ.1 i) ∧ s.2 = σ.2) (fun o => ∃ s', o = some (encF (rlK q a R b), s') ∧ Em σ (rlK q a R) s') ?_ ?_ (by omega) ⟨by intros; omega, fun _ _ => rfl, rfl⟩
  · intro f j s hj ⟨e1, e2, e3⟩
    have hn : ¬ 8 ≤ j := by omega
    refine ⟨sI s 122 j (nI (if j = a then 0 else 999)), ?_, fun j' hj' => ?_, fun i hi => by rw [rdI_ne _ _ _ _ hi]; exact e2 i hi, e3⟩
    · show Mo_far_L23B N (Mo_far_L23 N f) (nI a) (nI b) (nI j) s = _
      unfold Mo_far_L23B Mo_far_J46
      rw [show (8 : Int32) = nI 8 from rfl, if_neg (leN hn (by omega) (by omega)), inI hj (by decide), ck_t, ck_t, clI (by omega), nI_1, bS_e, bS_e, bI_e, bI_e]
      by_cases y : j = a
      · rw [if_pos (by rw [y]), if_pos y]; rfl
      · rw [if_neg (neI y (by omega) (by omega)), if_neg y]; rfl
    · by_cases y : j' = j
      · subst y; rw [rdI_eq]
      · rw [rdI_nk _ _ _ _ y]; exact e1 j' (by omega)
  · intro f s hE0
    show ∃ s', Mo_far_L23B N (Mo_far_L23 N f) (nI a) (nI b) (nI 8) s = some (encF (rlK q a R b), s') ∧ _
    unfold Mo_far_L23B Mo_far_J53
    rw [if_pos (by decide)]
    refine loop_up (fun f r s => Mo_far_L55 N f (nI b) (nI r) s) R (fun r s => Em σ (rlK q a r) s) (fun o => ∃ s', o = some (encF (rlK q a R b), s') ∧ Em σ (rlK q a R) s') ?_ ?_ (by omega) hE0
    · intro f r s hr hE
      have hn : ¬ 8 ≤ r := by omega
      show ∃ a', Mo_far_L55B N (Mo_far_L55 N f) (nI b) (nI r) s = _ ∧ _
      unfold Mo_far_L55B
      rw [show (8 : Int32) = nI 8 from rfl, if_neg (leN hn (by omega) (by omega))]
      refine loop_up (fun f' p s => Mo_far_L64 N (Mo_far_L55 N f) f' (nI b) (nI r) (nI p) s) 8 (fun p s => Em σ (rlR q p (rlK q a r)) s) (fun o => ∃ a', o = Mo_far_L55 N f (nI b) (nI (r + 1)) a' ∧ Em σ (rlK q a (r + 1)) a') ?_ ?_ (by omega) hE
      · intro f' p s hp hE2
        have hn2 : ¬ 8 ≤ p := by omega
        obtain ⟨s', g1, g2⟩ := mFarP (N := N) hN hb h hp (fun v => Nat.le_trans (rlR_le _ _ _ _) rlK_999) hE2 (Mo_far_L55 N f) (Mo_far_L64 N (Mo_far_L55 N f) f') (nI b) (nI r)
        refine ⟨s', ?_, g2⟩
        show Mo_far_L64B N (Mo_far_L55 N f) (Mo_far_L64 N (Mo_far_L55 N f) f') (nI b) (nI r) (nI p) s = _
        unfold Mo_far_L64B
        rw [show (8 : Int32) = nI 8 from rfl, if_neg (leN hn2 (by omega) (by omega)), g1]
      · intro f' s hE2
        refine ⟨s, ?_, hE2⟩
        show Mo_far_L64B N (Mo_far_L55 N f) (Mo_far_L64 N (Mo_far_L55 N f) f') (nI b) (nI r) (nI 8) s = _
        unfold Mo_far_L64B Mo_far_J145
        rw [if_pos (by decide), nI_1, bI_e]
    · intro f s hE
      refine ⟨s, ?_, hE⟩
      have h9 := rlK_999 (q := q) (a := a) (n := R) (v := b)
      show Mo_far_L55B N (Mo_far_L55 N f) (nI b) (nI R) s = _
      unfold Mo_far_L55B Mo_far_J151
      rw [if_pos (by rw [hR]; decide), inI hbb (by decide), ck_t, ck_t, clI (by omega), hE.1 b hbb]
      unfold encF
      by_cases y : rlK q a R b = 999
      · rw [if_pos (by rw [y]; rfl), if_pos y]
      · rw [if_neg (show ¬ nI (rlK q a R b) = 999 from neI (b := 999) y (by omega) (by decide)), if_neg y]
theorem sim_far (N : Nat) (hN : 300 < N) : Sim_far N Inv := by
  intro σ hI v1 v2
  obtain ⟨A, hO, hC, hM⟩ := hI
  have hq := hO.1
  have h36 := hO.1.2.1
  have h37 := hO.1.2.2.1
  by_cases h1 : (0 : Int) ≤ v1.toInt ∧ v1.toInt ≤ 7
  rotate_left
  · refine sim_ref (f := fun σ => Go_far N v1 v2 σ) (g := fun σ => Mo_far N v1 v2 σ) (r := -2) 0 (by decide) hO hC hM ?_ (fun σ1 m1 => ?_)
    · show Go_far N v1 v2 σ = _
      simp only [Go_far_J14, Go_far, gGu hO hC, gRo hO hC, gPl, bR_e, bW_e, gBad, gFarBad, eq_self, one_ne, if_true, if_false, not_false_eq_true, not_true_eq_false, wv_0 h1]
    · show Mo_far N v1 v2 σ1 = _
      simp only [Mo_far_J14, Mo_far_J151, Mo_far_J145, Mo_far_J139, Mo_far_J132, Mo_far_J53, Mo_far_J46, Mo_far, mGu hO m1, mRo hO m1, mPl, bR_e, bW_e, mBad, eq_self, one_ne, if_true, if_false, not_false_eq_true, not_true_eq_false, wv_0 h1]
  by_cases h2 : (0 : Int) ≤ v2.toInt ∧ v2.toInt ≤ 7
  rotate_left
  · refine sim_ref (f := fun σ => Go_far N v1 v2 σ) (g := fun σ => Mo_far N v1 v2 σ) (r := -2) 0 (by decide) hO hC hM ?_ (fun σ1 m1 => ?_)
    · show Go_far N v1 v2 σ = _
      simp only [Go_far_J14, Go_far, gGu hO hC, gRo hO hC, gPl, bR_e, bW_e, gBad, gFarBad, eq_self, one_ne, if_true, if_false, not_false_eq_true, not_true_eq_false, wv_1 h1, wv_0 h2]
    · show Mo_far N v1 v2 σ1 = _
      simp only [Mo_far_J14, Mo_far_J151, Mo_far_J145, Mo_far_J139, Mo_far_J132, Mo_far_J53, Mo_far_J46, Mo_far, mGu hO m1, mRo hO m1, mPl, bR_e, bW_e, mBad, eq_self, one_ne, if_true, if_false, not_false_eq_true, not_true_eq_false, wv_1 h1, wv_0 h2]
  obtain ⟨a1, -, b1, rfl⟩ := wv_nat (hi := 7) (by decide) h1
  obtain ⟨a2, -, b2, rfl⟩ := wv_nat (hi := 7) (by decide) h2
  obtain ⟨R, hR⟩ : ∃ R : Nat, R = 8 := ⟨_, rfl⟩
  refine sim_scr (f := fun σ => Go_far N (nI a1) (nI a2) σ) (g := fun σ => Mo_far N (nI a1) (nI a2) σ) (r := encF (rlK A.1 a1 R a2)) hO hC hM ?_ (fun σ1 m1 => ?_)
  · obtain ⟨s', g1, g2, g3, g4⟩ := cFar (N := N) hN hq.b.1 hC.1.2 (a := a1) (by omega)
    refine ⟨s', ?_, ⟨fun i hi => g3 i (by omega), g4⟩⟩
    show Go_far N (nI a1) (nI a2) σ = _
    simp only [Go_far, gGu hO hC, gRo hO hC, gPl, bR_e, bW_e, gBad, gFarBad, eq_self, one_ne, if_true, if_false, not_false_eq_true, not_true_eq_false, wv_1 h1, wv_1 h2]
    rw [g1, bR_e, inI (n := 8) (by omega) (by decide), ck_t, clI (by omega), g2 a2 (by omega), hR, far8 _ _ (by omega)]
  · obtain ⟨s', g1, g2, g3, g4⟩ := mFar (N := N) hN hq.b.1 m1.1 (a := a1) (b := a2) hR (by omega) (by omega)
    refine ⟨s', ?_, m1.1.frame (g3 _ (by decide)), ⟨fun i hi => g3 i (by omega), fun i _ _ => g3 i (by omega), by rw [g3 _ (by decide)], g4⟩⟩
    show Mo_far N (nI a1) (nI a2) σ1 = _
    simp only [Mo_far, mGu hO m1, mRo hO m1, mPl, bR_e, bW_e, mBad, eq_self, one_ne, if_true, if_false, not_false_eq_true, not_true_eq_false, wv_1 h1, wv_1 h2]
    exact g1
