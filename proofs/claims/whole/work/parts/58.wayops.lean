/-! way, gentle, where -/
theorem mStarts {N : Nat} {q : QS} {σ : St} (hq : Okq q) (hM : RepM 115 0 q σ) {g : Nat} (hg : g < q 37) : ∃ σ', Mo_starts N (nI g) σ = some σ' ∧ MT (fun _ => qX q g) 0 σ' ∧ σ'.1 128 0 = mskI (fun i => decide (q (60 + g) = i)) 8 ∧ σ'.1 127 0 = nI 0 ∧ (∀ c, (c < 123 ∨ 128 < c) → σ'.1 c = σ.1 c) ∧ σ'.2 = σ.2 := by
  have h37 := hq.b.2.2.1.1
  have hx4 : q (60 + g) ≤ 7 := (hq.b.2.2.1.2.1 g hg).2.2.2.2.2.1
  have k60 : (60 : Int32) + nI g = nI (60 + g) := addI 60 g
  have k52 : (52 : Int32) + nI g = nI (52 + g) := addI 52 g
  have k56 : (56 : Int32) + nI g = nI (56 + g) := addI 56 g
  have k64 : (64 : Int32) + nI g = nI (64 + g) := addI 64 g
  unfold Mo_starts
  simp (disch := omega) only [k60, k52, k56, k64, inI, ck_t, clI, bS_e, rdI_ne, hM.get, show (0 : Int32).toNatClampNeg = 0 from rfl]
  refine ⟨_, rfl, fun i hi => ?_, ?_, rdI_eq _ _ _ _, fun c hc => by simp (disch := omega) only [rdI_ne], rfl⟩
  · rw [show i = 0 by omega]
    refine ⟨?_, ?_, ?_, ?_⟩ <;> simp (disch := omega) only [rdI_ne, rdI_eq] <;> rfl
  · have mo := msk_one (n := 8) (p := q (60 + g)) (by decide) (by omega)
    unfold bitI at mo
    simp (disch := omega) only [rdI_ne, rdI_eq]; exact mo
theorem mFinds {N : Nat} (hN : 300 < N) (hBX : BX 10 + 10 < N) {q : QS} {σ : St} (hq : Okq q) (hM : RepM 115 0 q σ) {g r : Nat} (hg : g < q 37) (hr : r < q 36) : ∃ σ', Mo_finds N (nI g) (nI r) σ = some σ' ∧ MW (wayW q g r) σ' ∧ Fm σ σ' := by
  have h37 := hq.b.2.2.1.1
  have hx4 : q (60 + g) ≤ 7 := (hq.b.2.2.1.2.1 g hg).2.2.2.2.2.1
  have F0 : Fm σ (sI (sI σ 114 22 0) 114 27 (-1)) := (Fm.wr0 (by decide)).trans (Fm.wr0 (by decide))
  have C0 : MW w00 (sI (sI σ 114 22 0) 114 27 (-1)) := ⟨by rw [rdI_nk _ _ _ _ (by decide), rdI_eq]; rfl, fun z => absurd rfl z, fun i hi => absurd hi (Nat.not_lt_zero i), by rw [rdI_eq]; rfl⟩
  obtain ⟨s1, g1, t1, b1, n1, f1, f2⟩ := mStarts (N := N) hq (hM.frame (F0.1 115 (by decide) (by decide))) hg
  have F1 : Fm σ s1 := F0.trans ⟨fun i h1 h2 => f1 i (by omega), fun k _ => by rw [f1 114 (by decide)], f2⟩
  have C1 : MW w00 s1 := by
    unfold MW
    rw [f1 114 (by decide), f1 129 (by decide)]; exact C0
  have M1 : RepM 115 0 q s1 := hM.frame (F1.1 115 (by decide) (by decide))
  unfold Mo_finds Mo_finds_J34 wayW
  rw [bS_e, bS_e, g1, bR_e, show (60 : Int32) = nI 60 from rfl, addI, inI (by omega) (by decide), ck_t, clI (by omega), M1.get (by omega)]
  have stop : ∀ F s, Mo_finds_L35 N (F + 1) (nI g) (nI r) (-1) s = some s := by
    intro F s
    show Mo_finds_L35B N (Mo_finds_L35 N F) (nI g) (nI r) (-1) s = _
    unfold Mo_finds_L35B
    rw [if_pos (by decide)]
  by_cases z : q (60 + g) = 7
  · refine ⟨s1, ?_, by rw [if_pos z]; exact C1, F1⟩
    rw [if_pos (show nI (q (60 + g)) = 7 by rw [z]; rfl)]
    obtain ⟨m, hm⟩ : ∃ m, N = m + 1 := ⟨N - 1, by omega⟩
    have := stop m s1
    rw [← hm] at this; exact this
  · obtain ⟨k, s2, k1, k2, k3, k4, k5⟩ := mXpl (N := N) hN hq hM hg hr 10 (T := fun _ => qX q g) (d := 0) (b := fun i => decide (q (60 + g) = i)) (w := w00) (σ := s1) rfl w00_ok (xok0 hq hg) (fun _ _ => ⟨rfl, rfl⟩) C1 t1 b1 n1 F1
    refine ⟨s2, ?_, by rw [if_neg z]; exact k3, k5⟩
    rw [if_neg (show ¬ nI (q (60 + g)) = 7 from neI (b := 7) z (by omega) (by decide))]
    have e1 := k2 (N - k - 1 + 1)
    rw [show N - k - 1 + 1 + k = N by omega, show nI 0 + (-1) = (-1 : Int32) by decide, stop] at e1
    exact e1
def wayA (w : WS) (v3 : Int32) : Int32 := if w.1.1 = 0 then -1 else if v3 = -4 then nI w.1.2.1 else if v3 = -3 then nI w.1.2.2.1 else if v3 = -2 then nI w.1.2.2.2 else if v3 = -1 then nI w.1.1 else if nI w.1.1 ≤ v3 then -5 else nI (w.2.1 v3.toNatClampNeg)
theorem wayE {w : WS} (hw : WOk w) {v3 : Int32} (h4 : -4 ≤ v3) {s : St} {f2 f3 f4 f5 : Int32} {pth : Nat → Int32} (h2 : f2 = nI w.1.1) (h3 : w.1.1 ≠ 0 → f3 = nI w.1.2.1 ∧ f4 = nI w.1.2.2.1 ∧ f5 = nI w.1.2.2.2) (hp : ∀ i, i < w.1.1 → pth i = nI (w.2.1 i)) : (if f2 = 0 then some ((-1 : Int32), s) else if v3 = (-4) then some (f3, s) else if v3 = (-3) then some (f4, s) else if v3 = (-2) then some (f5, s) else if v3 = (-1) then some (f2, s) else if f2 ≤ v3 then some ((-5), s) else ck (inB v3 8) <| some (pth (v3).toNatClampNeg, s)) = some (wayA w v3, s) := by
  have hl := hw.1
  unfold wayA
  rw [h2]
  by_cases z : w.1.1 = 0
  · rw [if_pos (show nI w.1.1 = 0 by rw [z]; rfl), if_pos z]
  · obtain ⟨e3, e4, e5⟩ := h3 z
    rw [if_neg (show ¬ nI w.1.1 = 0 from neI (b := 0) z (by omega) (by decide)), if_neg z, e3, e4, e5]
    by_cases a4 : v3 = -4
    · rw [if_pos a4, if_pos a4]
    rw [if_neg a4, if_neg a4]
    by_cases a3 : v3 = -3
    · rw [if_pos a3, if_pos a3]
    rw [if_neg a3, if_neg a3]
    by_cases a2 : v3 = -2
    · rw [if_pos a2, if_pos a2]
    rw [if_neg a2, if_neg a2]
    by_cases a1 : v3 = -1
    · rw [if_pos a1, if_pos a1]
    rw [if_neg a1, if_neg a1]
    by_cases a0 : nI w.1.1 ≤ v3
    · rw [if_pos a0, if_pos a0]
    rw [if_neg a0, if_neg a0]
    have hpos : ¬ v3 < 0 := by
      rw [Int32.lt_iff_toInt_lt]
      rw [Int32.le_iff_toInt_le] at h4
      have t4 : (-4 : Int32).toInt = -4 := by decide
      have t3 : (-3 : Int32).toInt = -3 := by decide
      have t2 : (-2 : Int32).toInt = -2 := by decide
      have t1 : (-1 : Int32).toInt = -1 := by decide
      have t0 : (0 : Int32).toInt = 0 := by decide
      have n4 : v3.toInt ≠ -4 := fun e => a4 (Int32.toInt_inj.mp (by omega))
      have n3 : v3.toInt ≠ -3 := fun e => a3 (Int32.toInt_inj.mp (by omega))
      have n2 : v3.toInt ≠ -2 := fun e => a2 (Int32.toInt_inj.mp (by omega))
      have n1 : v3.toInt ≠ -1 := fun e => a1 (Int32.toInt_inj.mp (by omega))
      omega
    obtain ⟨k, hk, rfl⟩ := nI_of hpos
    have hkl : k < w.1.1 := by
      rcases Nat.lt_or_ge k w.1.1 with y | y
      · exact y
      · exact absurd (leP y (by omega) (by omega)) a0
    rw [inI (by omega) (by decide), ck_t, clI (by omega), hp k hkl]
theorem Fx.scr {σ s : St} (h : Fx σ s) : CScr σ s := ⟨fun i hi => h.1 i (by omega), h.2⟩
theorem sim_way (N : Nat) (hN : 300 < N) (hBX : BX 10 + 10 < N) : Sim_way N Inv := by
  intro σ hI v1 v2 v3
  obtain ⟨A, hO, hC, hM⟩ := hI
  have hq := hO.1
  have h36 := hO.1.2.1
  have h37 := hO.1.2.2.1
  by_cases h1 : (0 : Int) ≤ v1.toInt ∧ v1.toInt ≤ (A.1 37 : Int) - 1
  rotate_left
  · refine sim_ref (f := fun σ => Go_way N v1 v2 v3 σ) (g := fun σ => Mo_way N v1 v2 v3 σ) (r := -10) 0 (by decide) hO hC hM ?_ (fun σ1 m1 => ?_)
    · show Go_way N v1 v2 v3 σ = _
      simp only [Go_way_J22, Go_way, gGu hO hC, gRo hO hC, gPl, bR_e, bW_e, gBad, gFarBad, eq_self, one_ne, if_true, if_false, not_false_eq_true, not_true_eq_false, wv_0 h1]
    · show Mo_way N v1 v2 v3 σ1 = _
      simp only [Mo_way_J22, Mo_way, mGu hO m1, mRo hO m1, mPl, bR_e, bW_e, mBad, eq_self, one_ne, if_true, if_false, not_false_eq_true, not_true_eq_false, wv_0 h1]
  by_cases h2 : (0 : Int) ≤ v2.toInt ∧ v2.toInt ≤ (A.1 36 : Int) - 1
  rotate_left
  · refine sim_ref (f := fun σ => Go_way N v1 v2 v3 σ) (g := fun σ => Mo_way N v1 v2 v3 σ) (r := -10) 0 (by decide) hO hC hM ?_ (fun σ1 m1 => ?_)
    · show Go_way N v1 v2 v3 σ = _
      simp only [Go_way_J22, Go_way, gGu hO hC, gRo hO hC, gPl, bR_e, bW_e, gBad, gFarBad, eq_self, one_ne, if_true, if_false, not_false_eq_true, not_true_eq_false, wv_1 h1, wv_0 h2]
    · show Mo_way N v1 v2 v3 σ1 = _
      simp only [Mo_way_J22, Mo_way, mGu hO m1, mRo hO m1, mPl, bR_e, bW_e, mBad, eq_self, one_ne, if_true, if_false, not_false_eq_true, not_true_eq_false, wv_1 h1, wv_0 h2]
  by_cases h3 : (-4 : Int32) ≤ v3
  rotate_left
  · refine sim_ref (f := fun σ => Go_way N v1 v2 v3 σ) (g := fun σ => Mo_way N v1 v2 v3 σ) (r := -10) 0 (by decide) hO hC hM ?_ (fun σ1 m1 => ?_)
    · show Go_way N v1 v2 v3 σ = _
      simp only [Go_way_J22, Go_way, gGu hO hC, gRo hO hC, gPl, bR_e, bW_e, gBad, gFarBad, eq_self, one_ne, if_true, if_false, not_false_eq_true, not_true_eq_false, wv_1 h1, wv_1 h2, h3]
    · show Mo_way N v1 v2 v3 σ1 = _
      simp only [Mo_way_J22, Mo_way, mGu hO m1, mRo hO m1, mPl, bR_e, bW_e, mBad, eq_self, one_ne, if_true, if_false, not_false_eq_true, not_true_eq_false, wv_1 h1, wv_1 h2, h3]
  obtain ⟨a1, b1, rfl⟩ := wv_lt h1
  obtain ⟨a2, b2, rfl⟩ := wv_lt h2
  have hw := wayW_ok hq b1 a2
  obtain ⟨w, hww⟩ : ∃ w, w = wayW A.1 a1 a2 := ⟨_, rfl⟩
  rw [← hww] at hw
  refine sim_scr (f := fun σ => Go_way N (nI a1) (nI a2) v3 σ) (g := fun σ => Mo_way N (nI a1) (nI a2) v3 σ) (r := wayA w v3) hO hC hM ?_ (fun σ1 m1 => ?_)
  · obtain ⟨s, g1, c1, f1⟩ := cSearch (N := N) hN hq hC.nr b1 b2
    rw [← hww] at c1
    refine ⟨s, ?_, f1.scr⟩
    show Go_way N (nI a1) (nI a2) v3 σ = _
    simp only [Go_way, gGu hO hC, gRo hO hC, gPl, bR_e, bW_e, gBad, gFarBad, eq_self, one_ne, if_true, if_false, not_false_eq_true, not_true_eq_false, wv_1 h1, wv_1 h2, h3]
    rw [inI (n := 4) (by omega) (by decide), ck_t, clI (by omega), inI (n := 3) (by omega) (by decide), ck_t, clI (by omega), g1, bR_e]
    exact wayE hw h3 (pth := s.1 49) c1.1 c1.2.1 c1.2.2.1
  · obtain ⟨s, g1, c1, f1⟩ := mFinds (N := N) hN hBX hq m1.1 b1 b2
    rw [← hww] at c1
    refine ⟨s, ?_, m1.1.frame (f1.1 115 (by decide) (by decide)), f1.gr⟩
    show Mo_way N (nI a1) (nI a2) v3 σ1 = _
    simp only [Mo_way, mGu hO m1, mRo hO m1, mPl, bR_e, bW_e, mBad, eq_self, one_ne, if_true, if_false, not_false_eq_true, not_true_eq_false, wv_1 h1, wv_1 h2, h3]
    rw [g1, bR_e]
    exact wayE hw h3 (pth := s.1 129) c1.1 c1.2.1 c1.2.2.1
theorem sim_gentle (N : Nat) (hN : 300 < N) (hBX : BX 10 + 10 < N) : Sim_gentle N Inv := by
  intro σ hI v1 v2
  obtain ⟨A, hO, hC, hM⟩ := hI
  have hq := hO.1
  have h36 := hO.1.2.1
  have h37 := hO.1.2.2.1
  by_cases h1 : (0 : Int) ≤ v1.toInt ∧ v1.toInt ≤ (A.1 37 : Int) - 1
  rotate_left
  · refine sim_ref (f := fun σ => Go_gentle N v1 v2 σ) (g := fun σ => Mo_gentle N v1 v2 σ) (r := -2) 0 (by decide) hO hC hM ?_ (fun σ1 m1 => ?_)
    · show Go_gentle N v1 v2 σ = _
      simp only [Go_gentle_J16, Go_gentle, gGu hO hC, gRo hO hC, gPl, bR_e, bW_e, gBad, gFarBad, eq_self, one_ne, if_true, if_false, not_false_eq_true, not_true_eq_false, wv_0 h1]
    · show Mo_gentle N v1 v2 σ1 = _
      simp only [Mo_gentle_J16, Mo_gentle, mGu hO m1, mRo hO m1, mPl, bR_e, bW_e, mBad, eq_self, one_ne, if_true, if_false, not_false_eq_true, not_true_eq_false, wv_0 h1]
  by_cases h2 : (0 : Int) ≤ v2.toInt ∧ v2.toInt ≤ (A.1 36 : Int) - 1
  rotate_left
  · refine sim_ref (f := fun σ => Go_gentle N v1 v2 σ) (g := fun σ => Mo_gentle N v1 v2 σ) (r := -2) 0 (by decide) hO hC hM ?_ (fun σ1 m1 => ?_)
    · show Go_gentle N v1 v2 σ = _
      simp only [Go_gentle_J16, Go_gentle, gGu hO hC, gRo hO hC, gPl, bR_e, bW_e, gBad, gFarBad, eq_self, one_ne, if_true, if_false, not_false_eq_true, not_true_eq_false, wv_1 h1, wv_0 h2]
    · show Mo_gentle N v1 v2 σ1 = _
      simp only [Mo_gentle_J16, Mo_gentle, mGu hO m1, mRo hO m1, mPl, bR_e, bW_e, mBad, eq_self, one_ne, if_true, if_false, not_false_eq_true, not_true_eq_false, wv_1 h1, wv_0 h2]
  obtain ⟨a1, b1, rfl⟩ := wv_lt h1
  obtain ⟨a2, b2, rfl⟩ := wv_lt h2
  refine sim_scr (f := fun σ => Go_gentle N (nI a1) (nI a2) σ) (g := fun σ => Mo_gentle N (nI a1) (nI a2) σ) (r := gnI (wayW A.1 a1 a2).2.2) hO hC hM ?_ (fun σ1 m1 => ?_)
  · obtain ⟨s, g1, c1, f1⟩ := cSearch (N := N) hN hq hC.nr b1 b2
    refine ⟨s, ?_, f1.scr⟩
    show Go_gentle N (nI a1) (nI a2) σ = _
    simp only [Go_gentle, gGu hO hC, gRo hO hC, gPl, bR_e, bW_e, gBad, gFarBad, eq_self, one_ne, if_true, if_false, not_false_eq_true, not_true_eq_false, wv_1 h1, wv_1 h2]
    rw [inI (n := 4) (by omega) (by decide), ck_t, clI (by omega), inI (n := 3) (by omega) (by decide), ck_t, clI (by omega), g1, bR_e, c1.2.2.2]
  · obtain ⟨s, g1, c1, f1⟩ := mFinds (N := N) hN hBX hq m1.1 b1 b2
    refine ⟨s, ?_, m1.1.frame (f1.1 115 (by decide) (by decide)), f1.gr⟩
    show Mo_gentle N (nI a1) (nI a2) σ1 = _
    simp only [Mo_gentle, mGu hO m1, mRo hO m1, mPl, bR_e, bW_e, mBad, eq_self, one_ne, if_true, if_false, not_false_eq_true, not_true_eq_false, wv_1 h1, wv_1 h2]
    rw [g1, bR_e, c1.2.2.2]
def whX (q : QS) (kd tg : Nat) (P : Nat → Nat) (x : QS) (k : Nat) : QS := itN (fun k x => rowX q kd tg x (P k)) k x
theorem whX_s (q : QS) (kd tg : Nat) (P : Nat → Nat) (x : QS) (k : Nat) : whX q kd tg P x (k + 1) = rowX q kd tg (whX q kd tg P x k) (P k) := rfl
theorem rowX_01 (q : QS) (kd tg : Nat) (x : QS) (p : Nat) : rowX q kd tg x p 0 = x 0 ∧ rowX q kd tg x p 1 = x 1 := by
  unfold rowX
  simp (disch := omega) only [updQ_n]; exact ⟨trivial, trivial⟩
theorem whX_ok {q : QS} {kd tg : Nat} {P : Nat → Nat} {x : QS} {n : Nat} (hx : OkX x) (hP : ∀ i, i < n → P i < 8) {k : Nat} (hk : k ≤ n) : OkX (whX q kd tg P x k) ∧ whX q kd tg P x k 0 = x 0 ∧ whX q kd tg P x k 1 = x 1 := by
  induction k with
  | zero => exact ⟨hx, rfl, rfl⟩
  | succ k ih =>
    obtain ⟨i1, i2, i3⟩ := ih (by omega)
    obtain ⟨r0, r1⟩ := rowX_01 q kd tg (whX q kd tg P x k) (P k)
    rw [whX_s]
    exact ⟨i1.row (hP k (by omega)), r0.trans i2, r1.trans i3⟩
def fstK (t : Nat → Bool) : Nat → Nat → Int32
  | 0, _ => -1
  | m + 1, k => if t k = true then nI k else fstK t m (k + 1)
theorem sim_where (N : Nat) (hN : 300 < N) (hBX : BX 10 + 10 < N) : Sim_where N Inv := by
  intro σ hI v1 v2
  obtain ⟨A, hO, hC, hM⟩ := hI
  have hq := hO.1
  have h36 := hO.1.2.1
  have h37 := hO.1.2.2.1
  by_cases h1 : (0 : Int) ≤ v1.toInt ∧ v1.toInt ≤ (A.1 37 : Int) - 1
  rotate_left
  · refine sim_ref (f := fun σ => Go_where N v1 v2 σ) (g := fun σ => Mo_where N v1 v2 σ) (r := -10) 0 (by decide) hO hC hM ?_ (fun σ1 m1 => ?_)
    · show Go_where N v1 v2 σ = _
      simp only [Go_where_J16, Go_where, gGu hO hC, gRo hO hC, gPl, bR_e, bW_e, gBad, gFarBad, eq_self, one_ne, if_true, if_false, not_false_eq_true, not_true_eq_false, wv_0 h1]
    · show Mo_where N v1 v2 σ1 = _
      simp only [Mo_where_J16, Mo_where, mGu hO m1, mRo hO m1, mPl, bR_e, bW_e, mBad, eq_self, one_ne, if_true, if_false, not_false_eq_true, not_true_eq_false, wv_0 h1]
  by_cases h2 : (0 : Int) ≤ v2.toInt ∧ v2.toInt ≤ (A.1 36 : Int) - 1
  rotate_left
  · refine sim_ref (f := fun σ => Go_where N v1 v2 σ) (g := fun σ => Mo_where N v1 v2 σ) (r := -10) 0 (by decide) hO hC hM ?_ (fun σ1 m1 => ?_)
    · show Go_where N v1 v2 σ = _
      simp only [Go_where_J16, Go_where, gGu hO hC, gRo hO hC, gPl, bR_e, bW_e, gBad, gFarBad, eq_self, one_ne, if_true, if_false, not_false_eq_true, not_true_eq_false, wv_1 h1, wv_0 h2]
    · show Mo_where N v1 v2 σ1 = _
      simp only [Mo_where_J16, Mo_where, mGu hO m1, mRo hO m1, mPl, bR_e, bW_e, mBad, eq_self, one_ne, if_true, if_false, not_false_eq_true, not_true_eq_false, wv_1 h1, wv_0 h2]
  obtain ⟨a1, b1, rfl⟩ := wv_lt h1
  obtain ⟨a2, b2, rfl⟩ := wv_lt h2
  obtain ⟨q1, q2, q3, q4, q5, q6, q7⟩ := hq.b
  obtain ⟨c1, c2, c3, c4, c5, c6, c7⟩ := q3.2.1 a1 b1
  have hw := wayW_ok hq b1 a2
  obtain ⟨w, hww⟩ : ∃ w, w = wayW A.1 a1 a2 := ⟨_, rfl⟩
  rw [← hww] at hw
  obtain ⟨kd1, tg1⟩ := q2.2 a2 b2
  have hx := q3.x b1
  by_cases told : A.1 (52 + a1) = A.1 (48 + a1)
  · refine sim_rd (f := fun σ => Go_where N (nI a1) (nI a2) σ) (g := fun σ => Mo_where N (nI a1) (nI a2) σ) (r := -3) hO hC hM ?_ (fun σ1 m1 => ?_)
    · show Go_where N (nI a1) (nI a2) σ = _
      simp only [Go_where, gGu hO hC, gRo hO hC, gPl, bR_e, bW_e, gBad, gFarBad, eq_self, one_ne, if_true, if_false, not_false_eq_true, not_true_eq_false, wv_1 h1, wv_1 h2, Gu_isTold]
      rw [inI (n := 4) (by omega) (by decide), ck_t, clI (by omega), hC.nr.gst (by omega) (by decide) b1, hC.nr.gst (by omega) (by decide) b1, show 44 + 4 * 2 + a1 = 52 + a1 by omega, show 44 + 4 * 1 + a1 = 48 + a1 by omega, if_neg (ltN (by omega) (by omega) (by omega)), bR_e, if_neg one_ne]
    · show Mo_where N (nI a1) (nI a2) σ1 = _
      simp only [Mo_where, mGu hO m1, mRo hO m1, mPl, bR_e, bW_e, mBad, eq_self, one_ne, if_true, if_false, not_false_eq_true, not_true_eq_false, wv_1 h1, wv_1 h2]
      rw [show (52 : Int32) = nI 52 from rfl, show (48 : Int32) = nI 48 from rfl, addI, addI, inI (by omega) (by decide), ck_t, inI (by omega) (by decide), ck_t, clI (by omega), clI (by omega), mr m1 (by omega), mr m1 (by omega), if_pos (by rw [told])]
  · have hlt : A.1 (52 + a1) < A.1 (48 + a1) := by omega
    have hl := hw.1
    have hP := hw.2.2.1
    refine sim_scr (f := fun σ => Go_where N (nI a1) (nI a2) σ) (g := fun σ => Mo_where N (nI a1) (nI a2) σ) (r := if w.1.1 = 0 then -4 else fstK (fun k => decide (whX A.1 (A.1 (38 + a2)) (A.1 (41 + a2)) w.2.1 (qX A.1 a1) (k + 1) 2 = A.1 (48 + a1))) w.1.1 0) hO hC hM ?_ (fun σ1 m1 => ?_)
    · obtain ⟨s, g1, e1, f1⟩ := cSearch (N := N) hN hq hC.nr b1 b2
      rw [← hww] at e1
      have hnr : ∀ f, f < 6 → s.1 (1 + 16 + a1) f = nI (qX A.1 a1 f) := fun f hf => by rw [f1.1 _ (by omega)]; exact hC.nr.gst (by omega) hf b1
      show ∃ σ', Go_where N (nI a1) (nI a2) σ = _ ∧ _
      simp only [Go_where, gGu hO hC, gRo hO hC, gPl, bR_e, bW_e, gBad, gFarBad, eq_self, one_ne, if_true, if_false, not_false_eq_true, not_true_eq_false, wv_1 h1, wv_1 h2, Gu_isTold]
      rw [inI (n := 4) (by omega) (by decide), ck_t, clI (by omega), hC.nr.gst (by omega) (by decide) b1, hC.nr.gst (by omega) (by decide) b1, show 44 + 4 * 2 + a1 = 52 + a1 by omega, show 44 + 4 * 1 + a1 = 48 + a1 by omega, if_pos (ltP hlt (by omega) (by omega)), bR_e, if_pos rfl, inI (n := 3) (by omega) (by decide), ck_t, clI (by omega), g1, bR_e, e1.1]
      by_cases z : w.1.1 = 0
      · exact ⟨s, by rw [if_pos (show nI w.1.1 = 0 by rw [z]; rfl), if_pos z], f1.scr⟩
      · rw [if_neg (show ¬ nI w.1.1 = 0 from neI (b := 0) z (by omega) (by decide)), if_neg z]
        obtain ⟨s0, g0, k1, k2, k3⟩ := gTake (N := N) (t := 46) (c := 1 + 16 + a1) (σ := s) (x := qX A.1 a1) hnr (by omega)
        rw [g0, bR_e]
        refine loop_ex (fun f k s => Go_where_L86 N f (nI a2) (nI k) s) w.1.1 (fun k t => fstK (fun k => decide (whX A.1 (A.1 (38 + a2)) (A.1 (41 + a2)) w.2.1 (qX A.1 a1) (k + 1) 2 = A.1 (48 + a1))) w.1.1 0 = fstK (fun k => decide (whX A.1 (A.1 (38 + a2)) (A.1 (41 + a2)) w.2.1 (qX A.1 a1) (k + 1) 2 = A.1 (48 + a1))) (w.1.1 - k) k ∧ (∀ f, f < 6 → t.1 46 f = nI (whX A.1 (A.1 (38 + a2)) (A.1 (41 + a2)) w.2.1 (qX A.1 a1) k f)) ∧ (∀ i, i ≠ 46 → t.1 i = s.1 i) ∧ t.2 = s.2) (fun o => ∃ σ', o = some (fstK (fun k => decide (whX A.1 (A.1 (38 + a2)) (A.1 (41 + a2)) w.2.1 (qX A.1 a1) (k + 1) 2 = A.1 (48 + a1))) w.1.1 0, σ') ∧ CScr σ σ') ?_ ?_ (by omega) ⟨rfl, k1, k2, k3⟩
        · intro f k t hk ⟨i1, i2, i3, i4⟩
          have hn : ¬ w.1.1 ≤ k := by omega
          have hpk := hP k hk
          obtain ⟨o1, o2, o3⟩ := whX_ok (q := A.1) (kd := A.1 (38 + a2)) (tg := A.1 (41 + a2)) hx hP (show k + 1 ≤ w.1.1 by omega)
          have ox := (whX_ok (q := A.1) (kd := A.1 (38 + a2)) (tg := A.1 (41 + a2)) hx hP (show k ≤ w.1.1 by omega)).1
          obtain ⟨s2, g2, l1, l2, l3⟩ := carryX (N := N) (n := 1) (gc := 46) (rc := 1 + 13 + a2) (q := A.1) (x := whX A.1 (A.1 (38 + a2)) (A.1 (41 + a2)) w.2.1 (qX A.1 a1) k) (σ := t) (p := w.2.1 k) q1 (hC.1.2.frame (by rw [i3 _ (by decide)]; exact f1.1 _ (by decide)) (fun _ _ _ _ => rfl)) (fun p hp => by rw [i3 _ (by decide), f1.1 _ (by decide)]; exact hC.nr.dark hp) (by rw [i3 _ (by omega), f1.1 _ (by omega)]; exact hC.nr.row (by omega) b2) kd1 tg1 ox i2 (by decide) (by omega) hpk
          rw [← whX_s] at l1
          have o3' : whX A.1 (A.1 (38 + a2)) (A.1 (41 + a2)) w.2.1 (qX A.1 a1) (k + 1) 1 = A.1 (48 + a1) := o3
          have o1' := o1.2.2.1
          have hsc : CScr σ s2 := f1.scr.trans ⟨fun i hi => by rw [l2 i (by omega), i3 i (by omega)], by rw [l3, i4]⟩
          have es : fstK (fun k => decide (whX A.1 (A.1 (38 + a2)) (A.1 (41 + a2)) w.2.1 (qX A.1 a1) (k + 1) 2 = A.1 (48 + a1))) (w.1.1 - k) k = if decide (whX A.1 (A.1 (38 + a2)) (A.1 (41 + a2)) w.2.1 (qX A.1 a1) (k + 1) 2 = A.1 (48 + a1)) = true then nI k else fstK (fun k => decide (whX A.1 (A.1 (38 + a2)) (A.1 (41 + a2)) w.2.1 (qX A.1 a1) (k + 1) 2 = A.1 (48 + a1))) (w.1.1 - (k + 1)) (k + 1) := by
            rw [show w.1.1 - k = (w.1.1 - (k + 1)) + 1 by omega]; rfl
          have e0 : Go_where_L86 N (f + 1) (nI a2) (nI k) t = if whX A.1 (A.1 (38 + a2)) (A.1 (41 + a2)) w.2.1 (qX A.1 a1) (k + 1) 2 = A.1 (48 + a1) then some (nI k, s2) else Go_where_L86 N f (nI a2) (nI (k + 1)) s2 := by
            show Go_where_L86B N (Go_where_L86 N f) (nI a2) (nI k) t = _
            unfold Go_where_L86B Gu_isTold
            rw [i3 47 (by decide), e1.1, if_neg (leN hn (by omega) (by omega)), inI (n := 3) (by omega) (by decide), ck_t, inI (n := 8) (by omega) (by decide), ck_t, clI (by omega), clI (by omega), i3 49 (by decide), e1.2.2.1 k hk, g2, bR_e, l1 2 (by decide), l1 1 (by decide), o3', nI_1, bI_e]
            by_cases y : whX A.1 (A.1 (38 + a2)) (A.1 (41 + a2)) w.2.1 (qX A.1 a1) (k + 1) 2 = A.1 (48 + a1)
            · rw [if_neg (ltN (by omega) (by omega) (by omega)), bR_e, if_neg one_ne, if_pos y]
            · rw [if_pos (ltP (by omega) (by omega) (by omega)), bR_e, if_pos rfl, if_neg y]
          by_cases y : whX A.1 (A.1 (38 + a2)) (A.1 (41 + a2)) w.2.1 (qX A.1 a1) (k + 1) 2 = A.1 (48 + a1)
          · left
            refine ⟨s2, ?_, hsc⟩
            show Go_where_L86 N (f + 1) (nI a2) (nI k) t = _
            rw [e0, if_pos y, i1, es, if_pos (decide_eq_true y)]
          · right
            refine ⟨s2, ?_, ?_, l1, fun i hi => (l2 i hi).trans (i3 i hi), l3.trans i4⟩
            · show Go_where_L86 N (f + 1) (nI a2) (nI k) t = _
              rw [e0, if_neg y]
            · rw [i1, es, if_neg (by simpa using y)]
        · intro f t ⟨i1, i2, i3, i4⟩
          refine ⟨t, ?_, f1.scr.trans ⟨fun i hi => i3 i (by omega), i4⟩⟩
          show Go_where_L86B N (Go_where_L86 N f) (nI a2) (nI w.1.1) t = _
          unfold Go_where_L86B
          rw [i3 47 (by decide), e1.1, if_pos (Int32.le_refl _), i1, Nat.sub_self]; rfl
    · obtain ⟨s, g1, e1, f1⟩ := mFinds (N := N) hN hBX hq m1.1 b1 b2
      rw [← hww] at e1
      have hMs : RepM 115 0 A.1 s := m1.1.frame (f1.1 115 (by decide) (by decide))
      show ∃ σ2, Mo_where N (nI a1) (nI a2) σ1 = _ ∧ _
      simp only [Mo_where, mGu hO m1, mRo hO m1, mPl, bR_e, bW_e, mBad, eq_self, one_ne, if_true, if_false, not_false_eq_true, not_true_eq_false, wv_1 h1, wv_1 h2]
      rw [show (52 : Int32) = nI 52 from rfl, show (48 : Int32) = nI 48 from rfl, addI, addI, inI (by omega) (by decide), ck_t, inI (by omega) (by decide), ck_t, clI (by omega), clI (by omega), mr m1 (by omega), mr m1 (by omega), if_neg (neI told (by omega) (by omega)), g1, bR_e, e1.1]
      by_cases z : w.1.1 = 0
      · exact ⟨s, by rw [if_pos (show nI w.1.1 = 0 by rw [z]; rfl), if_pos z], hMs, f1.gr⟩
      · rw [if_neg (show ¬ nI w.1.1 = 0 from neI (b := 0) z (by omega) (by decide)), if_neg z]
        obtain ⟨s0, g0, t0, -, -, k2, k3⟩ := mStarts (N := N) hq hMs b1
        rw [g0, bR_e]
        refine loop_ex (fun f k s => Mo_where_L70 N f (nI a1) (nI a2) (nI k) s) w.1.1 (fun k t => fstK (fun k => decide (whX A.1 (A.1 (38 + a2)) (A.1 (41 + a2)) w.2.1 (qX A.1 a1) (k + 1) 2 = A.1 (48 + a1))) w.1.1 0 = fstK (fun k => decide (whX A.1 (A.1 (38 + a2)) (A.1 (41 + a2)) w.2.1 (qX A.1 a1) (k + 1) 2 = A.1 (48 + a1))) (w.1.1 - k) k ∧ (t.1 123 k = nI (whX A.1 (A.1 (38 + a2)) (A.1 (41 + a2)) w.2.1 (qX A.1 a1) k 4) ∧ t.1 124 k = nI (whX A.1 (A.1 (38 + a2)) (A.1 (41 + a2)) w.2.1 (qX A.1 a1) k 2) ∧ t.1 125 k = nI (whX A.1 (A.1 (38 + a2)) (A.1 (41 + a2)) w.2.1 (qX A.1 a1) k 3) ∧ t.1 126 k = nI (whX A.1 (A.1 (38 + a2)) (A.1 (41 + a2)) w.2.1 (qX A.1 a1) k 5)) ∧ (∀ i, (i < 123 ∨ 128 < i) → t.1 i = s.1 i) ∧ t.2 = s.2) (fun o => ∃ σ', o = some (fstK (fun k => decide (whX A.1 (A.1 (38 + a2)) (A.1 (41 + a2)) w.2.1 (qX A.1 a1) (k + 1) 2 = A.1 (48 + a1))) w.1.1 0, σ') ∧ RepM 115 0 A.1 σ' ∧ Gr σ1 σ') ?_ ?_ (by omega) ⟨rfl, t0 0 (Nat.le_refl _), k2, k3⟩
        · intro f k t hk ⟨i1, i2, i3, i4⟩
          have hn : ¬ w.1.1 ≤ k := by omega
          have hpk := hP k hk
          obtain ⟨o1, o2, o3⟩ := whX_ok (q := A.1) (kd := A.1 (38 + a2)) (tg := A.1 (41 + a2)) hx hP (show k + 1 ≤ w.1.1 by omega)
          obtain ⟨ox, ox0, ox1⟩ := whX_ok (q := A.1) (kd := A.1 (38 + a2)) (tg := A.1 (41 + a2)) hx hP (show k ≤ w.1.1 by omega)
          obtain ⟨s2, g2, y1, y2, y3, y4, y5, y6⟩ := (mGoes (N := N) hq (hMs.frame (i3 115 (by decide))) (g := a1) (r := a2) (d := k) (p := w.2.1 k) (x := whX A.1 (A.1 (38 + a2)) (A.1 (41 + a2)) w.2.1 (qX A.1 a1) k) b1 b2 (by omega) hpk ox ox0 ox1 i2).1
          rw [← whX_s] at y1
          have hM2 : RepM 115 0 A.1 s2 := hMs.frame (by rw [y5 115 (by decide), i3 115 (by decide)])
          have hgr : Gr σ1 s2 := f1.gr.trans ⟨fun i hi => by rw [y5 i (by omega), i3 i (by omega)], fun i h1 h2 => by rw [y5 i (by omega), i3 i (by omega)], by rw [y5 114 (by decide), i3 114 (by decide)], by rw [y6, i4]⟩
          have o1' := o1.2.2.1
          have o3' : whX A.1 (A.1 (38 + a2)) (A.1 (41 + a2)) w.2.1 (qX A.1 a1) (k + 1) 1 = A.1 (48 + a1) := o3
          have es : fstK (fun k => decide (whX A.1 (A.1 (38 + a2)) (A.1 (41 + a2)) w.2.1 (qX A.1 a1) (k + 1) 2 = A.1 (48 + a1))) (w.1.1 - k) k = if decide (whX A.1 (A.1 (38 + a2)) (A.1 (41 + a2)) w.2.1 (qX A.1 a1) (k + 1) 2 = A.1 (48 + a1)) = true then nI k else fstK (fun k => decide (whX A.1 (A.1 (38 + a2)) (A.1 (41 + a2)) w.2.1 (qX A.1 a1) (k + 1) 2 = A.1 (48 + a1))) (w.1.1 - (k + 1)) (k + 1) := by
            rw [show w.1.1 - k = (w.1.1 - (k + 1)) + 1 by omega]; rfl
          have e0 : Mo_where_L70 N (f + 1) (nI a1) (nI a2) (nI k) t = if whX A.1 (A.1 (38 + a2)) (A.1 (41 + a2)) w.2.1 (qX A.1 a1) (k + 1) 2 = A.1 (48 + a1) then some (nI k, s2) else Mo_where_L70 N f (nI a1) (nI a2) (nI (k + 1)) s2 := by
            show Mo_where_L70B N (Mo_where_L70 N f) (nI a1) (nI a2) (nI k) t = _
            unfold Mo_where_L70B
            rw [i3 114 (by decide), e1.1, if_neg (leN hn (by omega) (by omega)), inI (n := 8) (by omega) (by decide), ck_t, clI (a := k) (by omega), i3 129 (by decide), e1.2.2.1 k hk, g2, bR_e, nI_1, inI (n := 9) (by omega) (by decide), ck_t, show (48 : Int32) = nI 48 from rfl, addI, inI (by omega) (by decide), ck_t, clI (by omega), clI (by omega), y1.2.1, hM2.get (by omega), bI_e]
            by_cases y : whX A.1 (A.1 (38 + a2)) (A.1 (41 + a2)) w.2.1 (qX A.1 a1) (k + 1) 2 = A.1 (48 + a1)
            · rw [if_pos (by rw [y]), if_pos y]
            · rw [if_neg (neI y (by omega) (by omega)), if_neg y]
          by_cases y : whX A.1 (A.1 (38 + a2)) (A.1 (41 + a2)) w.2.1 (qX A.1 a1) (k + 1) 2 = A.1 (48 + a1)
          · left
            refine ⟨s2, ?_, hM2, hgr⟩
            show Mo_where_L70 N (f + 1) (nI a1) (nI a2) (nI k) t = _
            rw [e0, if_pos y, i1, es, if_pos (decide_eq_true y)]
          · right
            refine ⟨s2, ?_, ?_, y1, fun i hi => (y5 i hi).trans (i3 i hi), y6.trans i4⟩
            · show Mo_where_L70 N (f + 1) (nI a1) (nI a2) (nI k) t = _
              rw [e0, if_neg y]
            · rw [i1, es, if_neg (by simpa using y)]
        · intro f t ⟨i1, i2, i3, i4⟩
          refine ⟨t, ?_, hMs.frame (i3 115 (by decide)), f1.gr.trans ⟨fun i hi => i3 i (by omega), fun i h1 h2 => i3 i (by omega), by rw [i3 114 (by decide)], i4⟩⟩
          show Mo_where_L70B N (Mo_where_L70 N f) (nI a1) (nI a2) (nI w.1.1) t = _
          unfold Mo_where_L70B
          rw [i3 114 (by decide), e1.1, if_pos (Int32.le_refl _), i1, Nat.sub_self]; rfl
