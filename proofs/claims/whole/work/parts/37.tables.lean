/-! the three tables -/
theorem updQ_id {q : QS} {k v : Nat} (h : q k = v) : updQ q k v = q := by
  funext j
  unfold updQ
  by_cases z : j = k
  · rw [if_pos z, z, h]
  · rw [if_neg z]
theorem tPut {N t : Nat} {σ : St} {w m S c v : Nat} (hw : σ.1 t 0 = nI w) (hm : σ.1 t 1 = nI m) (hs : σ.1 t 3 = nI S) (hS : S < m) (hc : c < w) (hl : lnn (t + 1) = w * m) (hb : w * m < 2147483648) (hw2 : w < 100) (hm2 : m < 100) (hi : S * w + c < w * m) : Ta_put N t (nI c) (nI v) σ = some (sI σ (t + 1) (S * w + c) (nI v)) := by
  unfold Ta_put
  have h1 : ¬ m ≤ S := by omega
  have h2 : ¬ w ≤ c := by omega
  rw [hw, hm, hs, hl]
  rw [if_neg (fun z => h1 ((nI_leI (by omega) (by omega)).mp z)), if_neg (fun z => h2 ((nI_leI (by omega) (by omega)).mp z)), mulI, addI, inI hi hb, ck_t, bS_e, clI (by omega)]
theorem tKeep {N t : Nat} {σ : St} {S : Nat} (hs : σ.1 t 3 = nI S) : Ta_keep N t σ = some (nI (S + 1), sI σ t 3 (nI (S + 1))) := by
  unfold Ta_keep
  rw [hs, show (1 : Int32) = nI 1 from rfl, addI, bS_e, rdI_eq]
theorem tFull {N t : Nat} {σ : St} {S m : Nat} (hm : σ.1 t 1 = nI m) (hs : σ.1 t 3 = nI S) (h1 : S < 100) (h2 : m < 100) : Ta_isFull N t σ = some (if S < m then 0 else 1) := by
  unfold Ta_isFull
  rw [hs, hm]
  by_cases h : S < m
  · rw [if_pos ((nI_ltI (by omega) (by omega)).mpr h), if_pos h]
  · rw [if_neg (fun z => h ((nI_ltI (by omega) (by omega)).mp z)), if_neg h]
def qSeen (q : QS) (x0 x1 x2 x3 : Nat) : QS := updQ (updQ (updQ (updQ (updQ q (69 + 4 * q 68) x0) (70 + 4 * q 68) x1) (71 + 4 * q 68) x2) (72 + 4 * q 68) x3) 68 (q 68 + 1)
theorem cSeen {n : Nat} {q : QS} {σ : St} (h : NR n q σ) (hS : q 68 < 5) (x0 x1 x2 x3 : Nat) : NR n (qSeen q x0 x1 x2 x3) (sI (sI (sI (sI (sI σ (n + 6) (q 68 * 4 + 0) (nI x0)) (n + 6) (q 68 * 4 + 1) (nI x1)) (n + 6) (q 68 * 4 + 2) (nI x2)) (n + 6) (q 68 * 4 + 3) (nI x3)) (n + 5) 3 (nI (q 68 + 1))) ∧ Fr n σ (sI (sI (sI (sI (sI σ (n + 6) (q 68 * 4 + 0) (nI x0)) (n + 6) (q 68 * 4 + 1) (nI x1)) (n + 6) (q 68 * 4 + 2) (nI x2)) (n + 6) (q 68 * 4 + 3) (nI x3)) (n + 5) 3 (nI (q 68 + 1))) := by
  refine ⟨?_, (((((Fr.wr (by omega)).trans (Fr.wr (by omega))).trans (Fr.wr (by omega))).trans (Fr.wr (by omega))).trans (Fr.wr (by omega)))⟩
  unfold qSeen
  refine (((((h.np.put (k := 69 + 4 * q 68) (v := x0) (by omega) (by omega) (by rw [show 69 + 4 * q 68 = 69 + (4 * q 68 + 0) by omega, ccS (by omega)]) (by rw [show 69 + 4 * q 68 = 69 + (4 * q 68 + 0) by omega, scS (by omega)]; omega)).put (k := 70 + 4 * q 68) (v := x1) (by omega) (by omega) (by rw [show 70 + 4 * q 68 = 69 + (4 * q 68 + 1) by omega, ccS (by omega)]) (by rw [show 70 + 4 * q 68 = 69 + (4 * q 68 + 1) by omega, scS (by omega)]; omega)).put (k := 71 + 4 * q 68) (v := x2) (by omega) (by omega) (by rw [show 71 + 4 * q 68 = 69 + (4 * q 68 + 2) by omega, ccS (by omega)]) (by rw [show 71 + 4 * q 68 = 69 + (4 * q 68 + 2) by omega, scS (by omega)]; omega)).put (k := 72 + 4 * q 68) (v := x3) (by omega) (by omega) (by rw [show 72 + 4 * q 68 = 69 + (4 * q 68 + 3) by omega, ccS (by omega)]) (by rw [show 72 + 4 * q 68 = 69 + (4 * q 68 + 3) by omega, scS (by omega)]; omega)).put (k := 68) (v := q 68 + 1) (by omega) (by omega) rfl rfl).nr ?_
  apply live_new (q := q) (fun k hk => Or.inl (Or.inl (Or.inl (Or.inl (Or.inl (hk)))))) <;> simp (disch := omega) only [updQ_s, updQ_n]
  · intros; omega
  · intros; omega
  · intro j h1 h2 h3
    rcases (show 69 + j = 69 + 4 * q 68 ∨ 69 + j = 70 + 4 * q 68 ∨ 69 + j = 71 + 4 * q 68 ∨ 69 + j = 72 + 4 * q 68 by omega) with e | e | e | e
    · exact Or.inl (Or.inl (Or.inl (Or.inl (Or.inr e))))
    · exact Or.inl (Or.inl (Or.inl (Or.inr e)))
    · exact Or.inl (Or.inl (Or.inr e))
    · exact Or.inl (Or.inr e)
  · intros; omega
  · intros; omega
  · intros; omega
theorem Okq.seen {q : QS} (h : Okq q) (hS : q 68 < 5) {x0 x1 x2 x3 : Nat} (h0 : x0 ≤ 2) (h1 : x1 ≤ 9) (h2 : x2 ≤ 99) (h3 : x3 ≤ 99) : Okq (qSeen q x0 x1 x2 x3) := by
  obtain ⟨b1, b2, b3, b4, b5, b6, b7⟩ := h.b
  unfold qSeen
  refine Okq.iff.mpr ⟨b1.congr ?_, b2.congr ?_, b3.congr ?_, ⟨?_, fun k hk => ?_⟩, b5.congr ?_, b6.congr ?_, b7.congr ?_⟩
  · intros; simp (disch := omega) only [updQ_n]
  · intros; simp (disch := omega) only [updQ_n]
  · intros; simp (disch := omega) only [updQ_n]
  · rw [updQ_s]; omega
  · rw [updQ_s] at hk
    by_cases z : k = q 68
    · subst z
      simp (disch := omega) only [updQ_s, updQ_n]; exact ⟨h0, h1, h2, h3⟩
    · simp (disch := omega) only [updQ_n]; exact b4.2 k (by omega)
  all_goals intros; simp (disch := omega) only [updQ_n]
theorem sim_seen (N : Nat) : Sim_seen N Inv := by
  intro σ hI v1 v2 v3 v4
  obtain ⟨A, hO, hC, hM⟩ := hI
  have hq := hO.1
  have h36 := hO.1.2.1
  have h37 := hO.1.2.2.1
  by_cases h1 : (0 : Int) ≤ v1.toInt ∧ v1.toInt ≤ (A.1 36 : Int) - 1
  rotate_left
  · refine sim_ref (f := fun σ => Go_seen N v1 v2 v3 v4 σ) (g := fun σ => Mo_seen N v1 v2 v3 v4 σ) (r := -2) 0 (by decide) hO hC hM ?_ (fun σ1 m1 => ?_)
    · show Go_seen N v1 v2 v3 v4 σ = _
      simp only [Go_seen_J39, Go_seen, gGu hO hC, gRo hO hC, gPl, bR_e, bW_e, gBad, gFarBad, eq_self, one_ne, if_true, if_false, not_false_eq_true, not_true_eq_false, wv_0 h1]
    · show Mo_seen N v1 v2 v3 v4 σ1 = _
      simp only [Mo_seen_J45, Mo_seen, mGu hO m1, mRo hO m1, mPl, bR_e, bW_e, mBad, eq_self, one_ne, if_true, if_false, not_false_eq_true, not_true_eq_false, wv_0 h1]
  by_cases h2 : (0 : Int) ≤ v2.toInt ∧ v2.toInt ≤ 9
  rotate_left
  · refine sim_ref (f := fun σ => Go_seen N v1 v2 v3 v4 σ) (g := fun σ => Mo_seen N v1 v2 v3 v4 σ) (r := -2) 0 (by decide) hO hC hM ?_ (fun σ1 m1 => ?_)
    · show Go_seen N v1 v2 v3 v4 σ = _
      simp only [Go_seen_J39, Go_seen, gGu hO hC, gRo hO hC, gPl, bR_e, bW_e, gBad, gFarBad, eq_self, one_ne, if_true, if_false, not_false_eq_true, not_true_eq_false, wv_1 h1, gW9, wv_0 h2]
    · show Mo_seen N v1 v2 v3 v4 σ1 = _
      simp only [Mo_seen_J45, Mo_seen, mGu hO m1, mRo hO m1, mPl, bR_e, bW_e, mBad, eq_self, one_ne, if_true, if_false, not_false_eq_true, not_true_eq_false, wv_1 h1, mW9, wv_0 h2]
  by_cases h3 : (0 : Int) ≤ v3.toInt ∧ v3.toInt ≤ 99
  rotate_left
  · refine sim_ref (f := fun σ => Go_seen N v1 v2 v3 v4 σ) (g := fun σ => Mo_seen N v1 v2 v3 v4 σ) (r := -2) 0 (by decide) hO hC hM ?_ (fun σ1 m1 => ?_)
    · show Go_seen N v1 v2 v3 v4 σ = _
      simp only [Go_seen_J39, Go_seen, gGu hO hC, gRo hO hC, gPl, bR_e, bW_e, gBad, gFarBad, eq_self, one_ne, if_true, if_false, not_false_eq_true, not_true_eq_false, wv_1 h1, gW9, wv_1 h2, gW99, wv_0 h3]
    · show Mo_seen N v1 v2 v3 v4 σ1 = _
      simp only [Mo_seen_J45, Mo_seen, mGu hO m1, mRo hO m1, mPl, bR_e, bW_e, mBad, eq_self, one_ne, if_true, if_false, not_false_eq_true, not_true_eq_false, wv_1 h1, mW9, wv_1 h2, mW99, wv_0 h3]
  by_cases h4 : (0 : Int) ≤ v4.toInt ∧ v4.toInt ≤ 99
  rotate_left
  · refine sim_ref (f := fun σ => Go_seen N v1 v2 v3 v4 σ) (g := fun σ => Mo_seen N v1 v2 v3 v4 σ) (r := -2) 0 (by decide) hO hC hM ?_ (fun σ1 m1 => ?_)
    · show Go_seen N v1 v2 v3 v4 σ = _
      simp only [Go_seen_J39, Go_seen, gGu hO hC, gRo hO hC, gPl, bR_e, bW_e, gBad, gFarBad, eq_self, one_ne, if_true, if_false, not_false_eq_true, not_true_eq_false, wv_1 h1, gW9, wv_1 h2, gW99, wv_1 h3, wv_0 h4]
    · show Mo_seen N v1 v2 v3 v4 σ1 = _
      simp only [Mo_seen_J45, Mo_seen, mGu hO m1, mRo hO m1, mPl, bR_e, bW_e, mBad, eq_self, one_ne, if_true, if_false, not_false_eq_true, not_true_eq_false, wv_1 h1, mW9, wv_1 h2, mW99, wv_1 h3, wv_0 h4]
  obtain ⟨a1, b1, rfl⟩ := wv_lt h1
  obtain ⟨a2, c2, b2, rfl⟩ := wv_nat (hi := 9) (by decide) h2
  obtain ⟨a3, c3, b3, rfl⟩ := wv_nat (hi := 99) (by decide) h3
  obtain ⟨a4, c4, b4, rfl⟩ := wv_nat (hi := 99) (by decide) h4
  have cn := hC.nr.cnt.2.2.1
  have tw := hC.nr.2.1
  have hcn := hq.b.2.2.2.1.1
  have fu := tFull (N := N) tw.2 cn (by omega) (by omega)
  by_cases hS : A.1 68 < 5
  · obtain ⟨n1, f1⟩ := cSeen hC.nr hS a1 a2 a3 a4
    refine sim_of (f := fun σ => Go_seen N (nI a1) (nI a2) (nI a3) (nI a4) σ) (g := fun σ => Mo_seen N (nI a1) (nI a2) (nI a3) (nI a4) σ) hC hM ⟨nI (A.1 68 + 1), (qSeen A.1 a1 a2 a3 a4, A.2), hO.q (hq.seen hS (by omega) b2 b3 b4), ⟨_, ?_, hC.night n1 f1, f1.low⟩, fun σ1 m1 => ?_⟩
    · show Go_seen N (nI a1) (nI a2) (nI a3) (nI a4) σ = _
      rw [if_pos hS] at fu
      simp only [Go_seen, gGu hO hC, gRo hO hC, gPl, bR_e, bW_e, gBad, gFarBad, eq_self, one_ne, if_true, if_false, not_false_eq_true, not_true_eq_false, wv_1 h1, gW9, wv_1 h2, gW99, wv_1 h3, wv_1 h4, fu]
      rw [show (0 : Int32) = nI 0 from rfl, tPut (N := N) (t := 6) (w := 4) (m := 5) (S := A.1 68) (c := 0) (v := a1) (by (try simp (disch := omega) only [rdI_ne]); exact tw.1) (by (try simp (disch := omega) only [rdI_ne]); exact tw.2) (by (try simp (disch := omega) only [rdI_ne]); exact cn) hS (by decide) rfl (by decide) (by decide) (by decide) (by omega), bR_e]
      rw [show (1 : Int32) = nI 1 from rfl, tPut (N := N) (t := 6) (w := 4) (m := 5) (S := A.1 68) (c := 1) (v := a2) (by (try simp (disch := omega) only [rdI_ne]); exact tw.1) (by (try simp (disch := omega) only [rdI_ne]); exact tw.2) (by (try simp (disch := omega) only [rdI_ne]); exact cn) hS (by decide) rfl (by decide) (by decide) (by decide) (by omega), bR_e]
      rw [show (2 : Int32) = nI 2 from rfl, tPut (N := N) (t := 6) (w := 4) (m := 5) (S := A.1 68) (c := 2) (v := a3) (by (try simp (disch := omega) only [rdI_ne]); exact tw.1) (by (try simp (disch := omega) only [rdI_ne]); exact tw.2) (by (try simp (disch := omega) only [rdI_ne]); exact cn) hS (by decide) rfl (by decide) (by decide) (by decide) (by omega), bR_e]
      rw [show (3 : Int32) = nI 3 from rfl, tPut (N := N) (t := 6) (w := 4) (m := 5) (S := A.1 68) (c := 3) (v := a4) (by (try simp (disch := omega) only [rdI_ne]); exact tw.1) (by (try simp (disch := omega) only [rdI_ne]); exact tw.2) (by (try simp (disch := omega) only [rdI_ne]); exact cn) hS (by decide) rfl (by decide) (by decide) (by decide) (by omega), bR_e]
      rw [tKeep (N := N) (t := 6) (S := A.1 68) (by (try simp (disch := omega) only [rdI_ne]); exact cn), bW_e]
    · have G : Gr σ1 (sI (sI (sI (sI (sI σ1 115 (69 + 4 * A.1 68) (nI a1)) 115 (70 + 4 * A.1 68) (nI a2)) 115 (71 + 4 * A.1 68) (nI a3)) 115 (72 + 4 * A.1 68) (nI a4)) 115 68 (nI (A.1 68 + 1))) := (((((Gr.wr (by omega) (by omega)).trans (Gr.wr (by omega) (by omega))).trans (Gr.wr (by omega) (by omega))).trans (Gr.wr (by omega) (by omega))).trans (Gr.wr (by omega) (by omega)))
      refine ⟨sI (sI (sI (sI (sI σ1 115 (69 + 4 * A.1 68) (nI a1)) 115 (70 + 4 * A.1 68) (nI a2)) 115 (71 + 4 * A.1 68) (nI a3)) 115 (72 + 4 * A.1 68) (nI a4)) 115 68 (nI (A.1 68 + 1)), ?_, m1.row (((((m1.1.put a1).put a2).put a3).put a4).put _) G, G.high⟩
      show Mo_seen N (nI a1) (nI a2) (nI a3) (nI a4) σ1 = _
      have hn : ¬ A.1 68 = 5 := by omega
      simp only [Mo_seen, mGu hO m1, mRo hO m1, mPl, bR_e, bW_e, mBad, eq_self, one_ne, if_true, if_false, not_false_eq_true, not_true_eq_false, wv_1 h1, mW9, wv_1 h2, mW99, wv_1 h3, wv_1 h4]
      simp (disch := omega) only [litI, clI, subI, mulI, addI, eqI, leI, ltI, inI, ck_t, bS_e, bI_e, bL_e, bR_e, bW_e, mr m1, hn, if_false, rdI_eq, rdI_nk]
      rw [show 70 + 4 * A.1 68 = 69 + 4 * A.1 68 + 1 by omega]
      rw [show 71 + 4 * A.1 68 = 69 + 4 * A.1 68 + 2 by omega]
      rw [show 72 + 4 * A.1 68 = 69 + 4 * A.1 68 + 3 by omega]
  · have hS3 : A.1 68 = 5 := by omega
    rw [if_neg hS] at fu
    refine sim_ref (f := fun σ => Go_seen N (nI a1) (nI a2) (nI a3) (nI a4) σ) (g := fun σ => Mo_seen N (nI a1) (nI a2) (nI a3) (nI a4) σ) (r := -4) 2 (by decide) hO hC hM ?_ (fun σ1 m1 => ?_)
    · show Go_seen N (nI a1) (nI a2) (nI a3) (nI a4) σ = _
      simp only [Go_seen, gGu hO hC, gRo hO hC, gPl, bR_e, bW_e, gBad, gFarBad, eq_self, one_ne, if_true, if_false, not_false_eq_true, not_true_eq_false, wv_1 h1, gW9, wv_1 h2, gW99, wv_1 h3, wv_1 h4, fu, gFull]
    · show Mo_seen N (nI a1) (nI a2) (nI a3) (nI a4) σ1 = _
      simp only [Mo_seen, mGu hO m1, mRo hO m1, mPl, bR_e, bW_e, mBad, eq_self, one_ne, if_true, if_false, not_false_eq_true, not_true_eq_false, wv_1 h1, mW9, wv_1 h2, mW99, wv_1 h3, wv_1 h4, mFull]
      simp (disch := omega) only [litI, clI, subI, mulI, addI, eqI, leI, ltI, inI, ck_t, bS_e, bI_e, bL_e, bR_e, bW_e, mr m1, hS3, if_true]
def qMark (q : QS) (x0 x1 x2 x3 x4 : Nat) : QS := updQ (updQ (updQ (updQ (updQ (updQ q (127 + 5 * q 126) x0) (128 + 5 * q 126) x1) (129 + 5 * q 126) x2) (130 + 5 * q 126) x3) (131 + 5 * q 126) x4) 126 (q 126 + 1)
theorem cMark {n : Nat} {q : QS} {σ : St} (h : NR n q σ) (hS : q 126 < 6) (x0 x1 x2 x3 x4 : Nat) : NR n (qMark q x0 x1 x2 x3 x4) (sI (sI (sI (sI (sI (sI σ (n + 10) (q 126 * 5 + 0) (nI x0)) (n + 10) (q 126 * 5 + 1) (nI x1)) (n + 10) (q 126 * 5 + 2) (nI x2)) (n + 10) (q 126 * 5 + 3) (nI x3)) (n + 10) (q 126 * 5 + 4) (nI x4)) (n + 9) 3 (nI (q 126 + 1))) ∧ Fr n σ (sI (sI (sI (sI (sI (sI σ (n + 10) (q 126 * 5 + 0) (nI x0)) (n + 10) (q 126 * 5 + 1) (nI x1)) (n + 10) (q 126 * 5 + 2) (nI x2)) (n + 10) (q 126 * 5 + 3) (nI x3)) (n + 10) (q 126 * 5 + 4) (nI x4)) (n + 9) 3 (nI (q 126 + 1))) := by
  refine ⟨?_, ((((((Fr.wr (by omega)).trans (Fr.wr (by omega))).trans (Fr.wr (by omega))).trans (Fr.wr (by omega))).trans (Fr.wr (by omega))).trans (Fr.wr (by omega)))⟩
  unfold qMark
  refine ((((((h.np.put (k := 127 + 5 * q 126) (v := x0) (by omega) (by omega) (by rw [show 127 + 5 * q 126 = 127 + (5 * q 126 + 0) by omega, ccM (by omega)]) (by rw [show 127 + 5 * q 126 = 127 + (5 * q 126 + 0) by omega, scM (by omega)]; omega)).put (k := 128 + 5 * q 126) (v := x1) (by omega) (by omega) (by rw [show 128 + 5 * q 126 = 127 + (5 * q 126 + 1) by omega, ccM (by omega)]) (by rw [show 128 + 5 * q 126 = 127 + (5 * q 126 + 1) by omega, scM (by omega)]; omega)).put (k := 129 + 5 * q 126) (v := x2) (by omega) (by omega) (by rw [show 129 + 5 * q 126 = 127 + (5 * q 126 + 2) by omega, ccM (by omega)]) (by rw [show 129 + 5 * q 126 = 127 + (5 * q 126 + 2) by omega, scM (by omega)]; omega)).put (k := 130 + 5 * q 126) (v := x3) (by omega) (by omega) (by rw [show 130 + 5 * q 126 = 127 + (5 * q 126 + 3) by omega, ccM (by omega)]) (by rw [show 130 + 5 * q 126 = 127 + (5 * q 126 + 3) by omega, scM (by omega)]; omega)).put (k := 131 + 5 * q 126) (v := x4) (by omega) (by omega) (by rw [show 131 + 5 * q 126 = 127 + (5 * q 126 + 4) by omega, ccM (by omega)]) (by rw [show 131 + 5 * q 126 = 127 + (5 * q 126 + 4) by omega, scM (by omega)]; omega)).put (k := 126) (v := q 126 + 1) (by omega) (by omega) rfl rfl).nr ?_
  apply live_new (q := q) (fun k hk => Or.inl (Or.inl (Or.inl (Or.inl (Or.inl (Or.inl (hk))))))) <;> simp (disch := omega) only [updQ_s, updQ_n]
  · intros; omega
  · intros; omega
  · intros; omega
  · intros; omega
  · intro j h1 h2 h3
    rcases (show 127 + j = 127 + 5 * q 126 ∨ 127 + j = 128 + 5 * q 126 ∨ 127 + j = 129 + 5 * q 126 ∨ 127 + j = 130 + 5 * q 126 ∨ 127 + j = 131 + 5 * q 126 by omega) with e | e | e | e | e
    · exact Or.inl (Or.inl (Or.inl (Or.inl (Or.inl (Or.inr e)))))
    · exact Or.inl (Or.inl (Or.inl (Or.inl (Or.inr e))))
    · exact Or.inl (Or.inl (Or.inl (Or.inr e)))
    · exact Or.inl (Or.inl (Or.inr e))
    · exact Or.inl (Or.inr e)
  · intros; omega
theorem Okq.mark {q : QS} (h : Okq q) (hS : q 126 < 6) {x0 x1 x2 x3 x4 : Nat} (h0 : x0 ≤ 2) (h1 : x1 ≤ 9) (h2 : x2 ≤ 9) (h3 : x3 ≤ 99) (h4 : x4 ≤ 99) : Okq (qMark q x0 x1 x2 x3 x4) := by
  obtain ⟨b1, b2, b3, b4, b5, b6, b7⟩ := h.b
  unfold qMark
  refine Okq.iff.mpr ⟨b1.congr ?_, b2.congr ?_, b3.congr ?_, b4.congr ?_, b5.congr ?_, ⟨?_, fun k hk => ?_⟩, b7.congr ?_⟩
  · intros; simp (disch := omega) only [updQ_n]
  · intros; simp (disch := omega) only [updQ_n]
  · intros; simp (disch := omega) only [updQ_n]
  · intros; simp (disch := omega) only [updQ_n]
  · intros; simp (disch := omega) only [updQ_n]
  · rw [updQ_s]; omega
  · rw [updQ_s] at hk
    by_cases z : k = q 126
    · subst z
      simp (disch := omega) only [updQ_s, updQ_n]; exact ⟨h0, h1, h2, h3, h4⟩
    · simp (disch := omega) only [updQ_n]; exact b6.2 k (by omega)
  all_goals intros; simp (disch := omega) only [updQ_n]
theorem sim_mark (N : Nat) : Sim_mark N Inv := by
  intro σ hI v1 v2 v3 v4 v5
  obtain ⟨A, hO, hC, hM⟩ := hI
  have hq := hO.1
  have h36 := hO.1.2.1
  have h37 := hO.1.2.2.1
  by_cases h1 : (0 : Int) ≤ v1.toInt ∧ v1.toInt ≤ (A.1 36 : Int) - 1
  rotate_left
  · refine sim_ref (f := fun σ => Go_mark N v1 v2 v3 v4 v5 σ) (g := fun σ => Mo_mark N v1 v2 v3 v4 v5 σ) (r := -2) 0 (by decide) hO hC hM ?_ (fun σ1 m1 => ?_)
    · show Go_mark N v1 v2 v3 v4 v5 σ = _
      simp only [Go_mark_J28, Go_mark_J55, Go_mark, gGu hO hC, gRo hO hC, gPl, bR_e, bW_e, gBad, gFarBad, eq_self, one_ne, if_true, if_false, not_false_eq_true, not_true_eq_false, wv_0 h1]
    · show Mo_mark N v1 v2 v3 v4 v5 σ1 = _
      simp only [Mo_mark_J58, Mo_mark, mGu hO m1, mRo hO m1, mPl, bR_e, bW_e, mBad, eq_self, one_ne, if_true, if_false, not_false_eq_true, not_true_eq_false, wv_0 h1]
  by_cases h2 : (0 : Int) ≤ v2.toInt ∧ v2.toInt ≤ 9
  rotate_left
  · refine sim_ref (f := fun σ => Go_mark N v1 v2 v3 v4 v5 σ) (g := fun σ => Mo_mark N v1 v2 v3 v4 v5 σ) (r := -2) 0 (by decide) hO hC hM ?_ (fun σ1 m1 => ?_)
    · show Go_mark N v1 v2 v3 v4 v5 σ = _
      simp only [Go_mark_J28, Go_mark_J55, Go_mark, gGu hO hC, gRo hO hC, gPl, bR_e, bW_e, gBad, gFarBad, eq_self, one_ne, if_true, if_false, not_false_eq_true, not_true_eq_false, wv_1 h1, gW9, wv_0 h2]
    · show Mo_mark N v1 v2 v3 v4 v5 σ1 = _
      simp only [Mo_mark_J58, Mo_mark, mGu hO m1, mRo hO m1, mPl, bR_e, bW_e, mBad, eq_self, one_ne, if_true, if_false, not_false_eq_true, not_true_eq_false, wv_1 h1, mW9, wv_0 h2]
  by_cases h3 : (0 : Int) ≤ v3.toInt ∧ v3.toInt ≤ 9
  rotate_left
  · refine sim_ref (f := fun σ => Go_mark N v1 v2 v3 v4 v5 σ) (g := fun σ => Mo_mark N v1 v2 v3 v4 v5 σ) (r := -2) 0 (by decide) hO hC hM ?_ (fun σ1 m1 => ?_)
    · show Go_mark N v1 v2 v3 v4 v5 σ = _
      simp only [Go_mark_J28, Go_mark_J55, Go_mark, gGu hO hC, gRo hO hC, gPl, bR_e, bW_e, gBad, gFarBad, eq_self, one_ne, if_true, if_false, not_false_eq_true, not_true_eq_false, wv_1 h1, gW9, wv_1 h2, wv_0 h3]
    · show Mo_mark N v1 v2 v3 v4 v5 σ1 = _
      simp only [Mo_mark_J58, Mo_mark, mGu hO m1, mRo hO m1, mPl, bR_e, bW_e, mBad, eq_self, one_ne, if_true, if_false, not_false_eq_true, not_true_eq_false, wv_1 h1, mW9, wv_1 h2, wv_0 h3]
  by_cases h4 : (0 : Int) ≤ v4.toInt ∧ v4.toInt ≤ 99
  rotate_left
  · refine sim_ref (f := fun σ => Go_mark N v1 v2 v3 v4 v5 σ) (g := fun σ => Mo_mark N v1 v2 v3 v4 v5 σ) (r := -2) 0 (by decide) hO hC hM ?_ (fun σ1 m1 => ?_)
    · show Go_mark N v1 v2 v3 v4 v5 σ = _
      simp only [Go_mark_J28, Go_mark_J55, Go_mark, gGu hO hC, gRo hO hC, gPl, bR_e, bW_e, gBad, gFarBad, eq_self, one_ne, if_true, if_false, not_false_eq_true, not_true_eq_false, wv_1 h1, gW9, wv_1 h2, wv_1 h3, gW99, wv_0 h4]
    · show Mo_mark N v1 v2 v3 v4 v5 σ1 = _
      simp only [Mo_mark_J58, Mo_mark, mGu hO m1, mRo hO m1, mPl, bR_e, bW_e, mBad, eq_self, one_ne, if_true, if_false, not_false_eq_true, not_true_eq_false, wv_1 h1, mW9, wv_1 h2, wv_1 h3, mW99, wv_0 h4]
  by_cases h5 : (0 : Int) ≤ v5.toInt ∧ v5.toInt ≤ 99
  rotate_left
  · refine sim_ref (f := fun σ => Go_mark N v1 v2 v3 v4 v5 σ) (g := fun σ => Mo_mark N v1 v2 v3 v4 v5 σ) (r := -2) 0 (by decide) hO hC hM ?_ (fun σ1 m1 => ?_)
    · show Go_mark N v1 v2 v3 v4 v5 σ = _
      simp only [Go_mark_J28, Go_mark_J55, Go_mark, gGu hO hC, gRo hO hC, gPl, bR_e, bW_e, gBad, gFarBad, eq_self, one_ne, if_true, if_false, not_false_eq_true, not_true_eq_false, wv_1 h1, gW9, wv_1 h2, wv_1 h3, gW99, wv_1 h4, wv_0 h5]
    · show Mo_mark N v1 v2 v3 v4 v5 σ1 = _
      simp only [Mo_mark_J58, Mo_mark, mGu hO m1, mRo hO m1, mPl, bR_e, bW_e, mBad, eq_self, one_ne, if_true, if_false, not_false_eq_true, not_true_eq_false, wv_1 h1, mW9, wv_1 h2, wv_1 h3, mW99, wv_1 h4, wv_0 h5]
  obtain ⟨a1, b1, rfl⟩ := wv_lt h1
  obtain ⟨a2, c2, b2, rfl⟩ := wv_nat (hi := 9) (by decide) h2
  obtain ⟨a3, c3, b3, rfl⟩ := wv_nat (hi := 9) (by decide) h3
  obtain ⟨a4, c4, b4, rfl⟩ := wv_nat (hi := 99) (by decide) h4
  obtain ⟨a5, c5, b5, rfl⟩ := wv_nat (hi := 99) (by decide) h5
  have cn := hC.nr.cnt.2.2.2.2.1
  have tw := hC.nr.2.2.2
  have hcn := hq.b.2.2.2.2.2.1.1
  have fu := tFull (N := N) tw.2 cn (by omega) (by omega)
  by_cases hS : A.1 126 < 6
  · obtain ⟨n1, f1⟩ := cMark hC.nr hS a1 a2 a3 a4 a5
    refine sim_of (f := fun σ => Go_mark N (nI a1) (nI a2) (nI a3) (nI a4) (nI a5) σ) (g := fun σ => Mo_mark N (nI a1) (nI a2) (nI a3) (nI a4) (nI a5) σ) hC hM ⟨nI (A.1 126 + 1), (qMark A.1 a1 a2 a3 a4 a5, A.2), hO.q (hq.mark hS (by omega) b2 b3 b4 b5), ⟨_, ?_, hC.night n1 f1, f1.low⟩, fun σ1 m1 => ?_⟩
    · show Go_mark N (nI a1) (nI a2) (nI a3) (nI a4) (nI a5) σ = _
      rw [if_pos hS] at fu
      simp only [Go_mark, gGu hO hC, gRo hO hC, gPl, bR_e, bW_e, gBad, gFarBad, eq_self, one_ne, if_true, if_false, not_false_eq_true, not_true_eq_false, wv_1 h1, gW9, wv_1 h2, wv_1 h3, gW99, wv_1 h4, wv_1 h5, fu]
      rw [show (0 : Int32) = nI 0 from rfl, tPut (N := N) (t := 10) (w := 5) (m := 6) (S := A.1 126) (c := 0) (v := a1) (by (try simp (disch := omega) only [rdI_ne]); exact tw.1) (by (try simp (disch := omega) only [rdI_ne]); exact tw.2) (by (try simp (disch := omega) only [rdI_ne]); exact cn) hS (by decide) rfl (by decide) (by decide) (by decide) (by omega), bR_e]
      rw [show (1 : Int32) = nI 1 from rfl, tPut (N := N) (t := 10) (w := 5) (m := 6) (S := A.1 126) (c := 1) (v := a2) (by (try simp (disch := omega) only [rdI_ne]); exact tw.1) (by (try simp (disch := omega) only [rdI_ne]); exact tw.2) (by (try simp (disch := omega) only [rdI_ne]); exact cn) hS (by decide) rfl (by decide) (by decide) (by decide) (by omega), bR_e]
      rw [show (2 : Int32) = nI 2 from rfl, tPut (N := N) (t := 10) (w := 5) (m := 6) (S := A.1 126) (c := 2) (v := a3) (by (try simp (disch := omega) only [rdI_ne]); exact tw.1) (by (try simp (disch := omega) only [rdI_ne]); exact tw.2) (by (try simp (disch := omega) only [rdI_ne]); exact cn) hS (by decide) rfl (by decide) (by decide) (by decide) (by omega), bR_e]
      rw [show (3 : Int32) = nI 3 from rfl, tPut (N := N) (t := 10) (w := 5) (m := 6) (S := A.1 126) (c := 3) (v := a4) (by (try simp (disch := omega) only [rdI_ne]); exact tw.1) (by (try simp (disch := omega) only [rdI_ne]); exact tw.2) (by (try simp (disch := omega) only [rdI_ne]); exact cn) hS (by decide) rfl (by decide) (by decide) (by decide) (by omega), bR_e]
      rw [show (4 : Int32) = nI 4 from rfl, tPut (N := N) (t := 10) (w := 5) (m := 6) (S := A.1 126) (c := 4) (v := a5) (by (try simp (disch := omega) only [rdI_ne]); exact tw.1) (by (try simp (disch := omega) only [rdI_ne]); exact tw.2) (by (try simp (disch := omega) only [rdI_ne]); exact cn) hS (by decide) rfl (by decide) (by decide) (by decide) (by omega), bR_e]
      rw [tKeep (N := N) (t := 10) (S := A.1 126) (by (try simp (disch := omega) only [rdI_ne]); exact cn), bW_e]
    · have G : Gr σ1 (sI (sI (sI (sI (sI (sI σ1 115 (127 + 5 * A.1 126) (nI a1)) 115 (128 + 5 * A.1 126) (nI a2)) 115 (129 + 5 * A.1 126) (nI a3)) 115 (130 + 5 * A.1 126) (nI a4)) 115 (131 + 5 * A.1 126) (nI a5)) 115 126 (nI (A.1 126 + 1))) := ((((((Gr.wr (by omega) (by omega)).trans (Gr.wr (by omega) (by omega))).trans (Gr.wr (by omega) (by omega))).trans (Gr.wr (by omega) (by omega))).trans (Gr.wr (by omega) (by omega))).trans (Gr.wr (by omega) (by omega)))
      refine ⟨sI (sI (sI (sI (sI (sI σ1 115 (127 + 5 * A.1 126) (nI a1)) 115 (128 + 5 * A.1 126) (nI a2)) 115 (129 + 5 * A.1 126) (nI a3)) 115 (130 + 5 * A.1 126) (nI a4)) 115 (131 + 5 * A.1 126) (nI a5)) 115 126 (nI (A.1 126 + 1)), ?_, m1.row ((((((m1.1.put a1).put a2).put a3).put a4).put a5).put _) G, G.high⟩
      show Mo_mark N (nI a1) (nI a2) (nI a3) (nI a4) (nI a5) σ1 = _
      have hn : ¬ A.1 126 = 6 := by omega
      simp only [Mo_mark, mGu hO m1, mRo hO m1, mPl, bR_e, bW_e, mBad, eq_self, one_ne, if_true, if_false, not_false_eq_true, not_true_eq_false, wv_1 h1, mW9, wv_1 h2, wv_1 h3, mW99, wv_1 h4, wv_1 h5]
      simp (disch := omega) only [litI, clI, subI, mulI, addI, eqI, leI, ltI, inI, ck_t, bS_e, bI_e, bL_e, bR_e, bW_e, mr m1, hn, if_false, rdI_eq, rdI_nk]
      rw [show 128 + 5 * A.1 126 = 127 + 5 * A.1 126 + 1 by omega]
      rw [show 129 + 5 * A.1 126 = 127 + 5 * A.1 126 + 2 by omega]
      rw [show 130 + 5 * A.1 126 = 127 + 5 * A.1 126 + 3 by omega]
      rw [show 131 + 5 * A.1 126 = 127 + 5 * A.1 126 + 4 by omega]
  · have hS3 : A.1 126 = 6 := by omega
    rw [if_neg hS] at fu
    refine sim_ref (f := fun σ => Go_mark N (nI a1) (nI a2) (nI a3) (nI a4) (nI a5) σ) (g := fun σ => Mo_mark N (nI a1) (nI a2) (nI a3) (nI a4) (nI a5) σ) (r := -4) 2 (by decide) hO hC hM ?_ (fun σ1 m1 => ?_)
    · show Go_mark N (nI a1) (nI a2) (nI a3) (nI a4) (nI a5) σ = _
      simp only [Go_mark, gGu hO hC, gRo hO hC, gPl, bR_e, bW_e, gBad, gFarBad, eq_self, one_ne, if_true, if_false, not_false_eq_true, not_true_eq_false, wv_1 h1, gW9, wv_1 h2, wv_1 h3, gW99, wv_1 h4, wv_1 h5, fu, gFull]
    · show Mo_mark N (nI a1) (nI a2) (nI a3) (nI a4) (nI a5) σ1 = _
      simp only [Mo_mark, mGu hO m1, mRo hO m1, mPl, bR_e, bW_e, mBad, eq_self, one_ne, if_true, if_false, not_false_eq_true, not_true_eq_false, wv_1 h1, mW9, wv_1 h2, wv_1 h3, mW99, wv_1 h4, wv_1 h5, mFull]
      simp (disch := omega) only [litI, clI, subI, mulI, addI, eqI, leI, ltI, inI, ck_t, bS_e, bI_e, bL_e, bR_e, bW_e, mr m1, hS3, if_true]
def qNote (q : QS) (x0 x1 x2 x3 x4 x5 : Nat) : QS := updQ (updQ (updQ (updQ (updQ (updQ (updQ q (90 + 6 * q 89) x0) (91 + 6 * q 89) x1) (92 + 6 * q 89) x2) (93 + 6 * q 89) x3) (94 + 6 * q 89) x4) (95 + 6 * q 89) x5) 89 (q 89 + 1)
theorem cNote {n : Nat} {q : QS} {σ : St} (h : NR n q σ) (hS : q 89 < 6) (x0 x1 x2 x3 x4 x5 : Nat) : NR n (qNote q x0 x1 x2 x3 x4 x5) (sI (sI (sI (sI (sI (sI (sI σ (n + 8) (q 89 * 6 + 0) (nI x0)) (n + 8) (q 89 * 6 + 1) (nI x1)) (n + 8) (q 89 * 6 + 2) (nI x2)) (n + 8) (q 89 * 6 + 3) (nI x3)) (n + 8) (q 89 * 6 + 4) (nI x4)) (n + 8) (q 89 * 6 + 5) (nI x5)) (n + 7) 3 (nI (q 89 + 1))) ∧ Fr n σ (sI (sI (sI (sI (sI (sI (sI σ (n + 8) (q 89 * 6 + 0) (nI x0)) (n + 8) (q 89 * 6 + 1) (nI x1)) (n + 8) (q 89 * 6 + 2) (nI x2)) (n + 8) (q 89 * 6 + 3) (nI x3)) (n + 8) (q 89 * 6 + 4) (nI x4)) (n + 8) (q 89 * 6 + 5) (nI x5)) (n + 7) 3 (nI (q 89 + 1))) := by
  refine ⟨?_, (((((((Fr.wr (by omega)).trans (Fr.wr (by omega))).trans (Fr.wr (by omega))).trans (Fr.wr (by omega))).trans (Fr.wr (by omega))).trans (Fr.wr (by omega))).trans (Fr.wr (by omega)))⟩
  unfold qNote
  refine (((((((h.np.put (k := 90 + 6 * q 89) (v := x0) (by omega) (by omega) (by rw [show 90 + 6 * q 89 = 90 + (6 * q 89 + 0) by omega, ccN (by omega)]) (by rw [show 90 + 6 * q 89 = 90 + (6 * q 89 + 0) by omega, scN (by omega)]; omega)).put (k := 91 + 6 * q 89) (v := x1) (by omega) (by omega) (by rw [show 91 + 6 * q 89 = 90 + (6 * q 89 + 1) by omega, ccN (by omega)]) (by rw [show 91 + 6 * q 89 = 90 + (6 * q 89 + 1) by omega, scN (by omega)]; omega)).put (k := 92 + 6 * q 89) (v := x2) (by omega) (by omega) (by rw [show 92 + 6 * q 89 = 90 + (6 * q 89 + 2) by omega, ccN (by omega)]) (by rw [show 92 + 6 * q 89 = 90 + (6 * q 89 + 2) by omega, scN (by omega)]; omega)).put (k := 93 + 6 * q 89) (v := x3) (by omega) (by omega) (by rw [show 93 + 6 * q 89 = 90 + (6 * q 89 + 3) by omega, ccN (by omega)]) (by rw [show 93 + 6 * q 89 = 90 + (6 * q 89 + 3) by omega, scN (by omega)]; omega)).put (k := 94 + 6 * q 89) (v := x4) (by omega) (by omega) (by rw [show 94 + 6 * q 89 = 90 + (6 * q 89 + 4) by omega, ccN (by omega)]) (by rw [show 94 + 6 * q 89 = 90 + (6 * q 89 + 4) by omega, scN (by omega)]; omega)).put (k := 95 + 6 * q 89) (v := x5) (by omega) (by omega) (by rw [show 95 + 6 * q 89 = 90 + (6 * q 89 + 5) by omega, ccN (by omega)]) (by rw [show 95 + 6 * q 89 = 90 + (6 * q 89 + 5) by omega, scN (by omega)]; omega)).put (k := 89) (v := q 89 + 1) (by omega) (by omega) rfl rfl).nr ?_
  apply live_new (q := q) (fun k hk => Or.inl (Or.inl (Or.inl (Or.inl (Or.inl (Or.inl (Or.inl (hk)))))))) <;> simp (disch := omega) only [updQ_s, updQ_n]
  · intros; omega
  · intros; omega
  · intros; omega
  · intro j h1 h2 h3
    rcases (show 90 + j = 90 + 6 * q 89 ∨ 90 + j = 91 + 6 * q 89 ∨ 90 + j = 92 + 6 * q 89 ∨ 90 + j = 93 + 6 * q 89 ∨ 90 + j = 94 + 6 * q 89 ∨ 90 + j = 95 + 6 * q 89 by omega) with e | e | e | e | e | e
    · exact Or.inl (Or.inl (Or.inl (Or.inl (Or.inl (Or.inl (Or.inr e))))))
    · exact Or.inl (Or.inl (Or.inl (Or.inl (Or.inl (Or.inr e)))))
    · exact Or.inl (Or.inl (Or.inl (Or.inl (Or.inr e))))
    · exact Or.inl (Or.inl (Or.inl (Or.inr e)))
    · exact Or.inl (Or.inl (Or.inr e))
    · exact Or.inl (Or.inr e)
  · intros; omega
  · intros; omega
theorem Okq.note {q : QS} (h : Okq q) (hS : q 89 < 6) {x0 x1 x2 x3 x4 x5 : Nat} (h0 : x0 ≤ 3) (h1 : x1 ≤ 40) (h2 : x2 ≤ x1) (h3 : x3 ≤ 20) (h4 : x4 ≤ 9) (h5 : x5 ≤ 60) : Okq (qNote q x0 x1 x2 x3 x4 x5) := by
  obtain ⟨b1, b2, b3, b4, b5, b6, b7⟩ := h.b
  unfold qNote
  refine Okq.iff.mpr ⟨b1.congr ?_, b2.congr ?_, b3.congr ?_, b4.congr ?_, ⟨?_, fun k hk => ?_⟩, b6.congr ?_, b7.congr ?_⟩
  · intros; simp (disch := omega) only [updQ_n]
  · intros; simp (disch := omega) only [updQ_n]
  · intros; simp (disch := omega) only [updQ_n]
  · intros; simp (disch := omega) only [updQ_n]
  · rw [updQ_s]; omega
  · rw [updQ_s] at hk
    by_cases z : k = q 89
    · subst z
      simp (disch := omega) only [updQ_s, updQ_n]; exact ⟨h0, h1, h2, h3, h4, h5⟩
    · simp (disch := omega) only [updQ_n]; exact b5.2 k (by omega)
  all_goals intros; simp (disch := omega) only [updQ_n]
theorem sim_note (N : Nat) : Sim_note N Inv := by
  intro σ hI v1 v2 v3 v4 v5 v6
  obtain ⟨A, hO, hC, hM⟩ := hI
  have hq := hO.1
  have h36 := hO.1.2.1
  have h37 := hO.1.2.2.1
  by_cases h1 : (0 : Int) ≤ v1.toInt ∧ v1.toInt ≤ (A.1 37 : Int) - 1
  rotate_left
  · refine sim_ref (f := fun σ => Go_note N v1 v2 v3 v4 v5 v6 σ) (g := fun σ => Mo_note N v1 v2 v3 v4 v5 v6 σ) (r := -2) 0 (by decide) hO hC hM ?_ (fun σ1 m1 => ?_)
    · show Go_note N v1 v2 v3 v4 v5 v6 σ = _
      simp only [Go_note_J38, Go_note_J65, Go_note, gGu hO hC, gRo hO hC, gPl, bR_e, bW_e, gBad, gFarBad, eq_self, one_ne, if_true, if_false, not_false_eq_true, not_true_eq_false, wv_0 h1]
    · show Mo_note N v1 v2 v3 v4 v5 v6 σ1 = _
      simp only [Mo_note_J70, Mo_note, mGu hO m1, mRo hO m1, mPl, bR_e, bW_e, mBad, eq_self, one_ne, if_true, if_false, not_false_eq_true, not_true_eq_false, wv_0 h1]
  by_cases h2 : (1 : Int) ≤ v2.toInt ∧ v2.toInt ≤ 40
  rotate_left
  · refine sim_ref (f := fun σ => Go_note N v1 v2 v3 v4 v5 v6 σ) (g := fun σ => Mo_note N v1 v2 v3 v4 v5 v6 σ) (r := -2) 0 (by decide) hO hC hM ?_ (fun σ1 m1 => ?_)
    · show Go_note N v1 v2 v3 v4 v5 v6 σ = _
      simp only [Go_note_J38, Go_note_J65, Go_note, gGu hO hC, gRo hO hC, gPl, bR_e, bW_e, gBad, gFarBad, eq_self, one_ne, if_true, if_false, not_false_eq_true, not_true_eq_false, wv_1 h1, gW140, wv_0 h2]
    · show Mo_note N v1 v2 v3 v4 v5 v6 σ1 = _
      simp only [Mo_note_J70, Mo_note, mGu hO m1, mRo hO m1, mPl, bR_e, bW_e, mBad, eq_self, one_ne, if_true, if_false, not_false_eq_true, not_true_eq_false, wv_1 h1, mW140, wv_0 h2]
  by_cases h3 : (0 : Int) ≤ v3.toInt ∧ v3.toInt ≤ v2.toInt
  rotate_left
  · refine sim_ref (f := fun σ => Go_note N v1 v2 v3 v4 v5 v6 σ) (g := fun σ => Mo_note N v1 v2 v3 v4 v5 v6 σ) (r := -2) 0 (by decide) hO hC hM ?_ (fun σ1 m1 => ?_)
    · show Go_note N v1 v2 v3 v4 v5 v6 σ = _
      simp only [Go_note_J38, Go_note_J65, Go_note, gGu hO hC, gRo hO hC, gPl, bR_e, bW_e, gBad, gFarBad, eq_self, one_ne, if_true, if_false, not_false_eq_true, not_true_eq_false, wv_1 h1, gW140, wv_1 h2, (show Go_within v3 0 v2 = wv 0 v2.toInt v3 from gw_wv v3 0 v2), wv_0 h3]
    · show Mo_note N v1 v2 v3 v4 v5 v6 σ1 = _
      simp only [Mo_note_J70, Mo_note, mGu hO m1, mRo hO m1, mPl, bR_e, bW_e, mBad, eq_self, one_ne, if_true, if_false, not_false_eq_true, not_true_eq_false, wv_1 h1, mW140, wv_1 h2, (show Mo_in v3.toInt64 0 v2.toInt64 = wv 0 v2.toInt v3 by rw [mo_wvI, Int32.toInt_toInt64]; rfl), wv_0 h3]
  by_cases h4 : (0 : Int) ≤ v4.toInt ∧ v4.toInt ≤ 20
  rotate_left
  · refine sim_ref (f := fun σ => Go_note N v1 v2 v3 v4 v5 v6 σ) (g := fun σ => Mo_note N v1 v2 v3 v4 v5 v6 σ) (r := -2) 0 (by decide) hO hC hM ?_ (fun σ1 m1 => ?_)
    · show Go_note N v1 v2 v3 v4 v5 v6 σ = _
      simp only [Go_note_J38, Go_note_J65, Go_note, gGu hO hC, gRo hO hC, gPl, bR_e, bW_e, gBad, gFarBad, eq_self, one_ne, if_true, if_false, not_false_eq_true, not_true_eq_false, wv_1 h1, gW140, wv_1 h2, (show Go_within v3 0 v2 = wv 0 v2.toInt v3 from gw_wv v3 0 v2), wv_1 h3, gW20, wv_0 h4]
    · show Mo_note N v1 v2 v3 v4 v5 v6 σ1 = _
      simp only [Mo_note_J70, Mo_note, mGu hO m1, mRo hO m1, mPl, bR_e, bW_e, mBad, eq_self, one_ne, if_true, if_false, not_false_eq_true, not_true_eq_false, wv_1 h1, mW140, wv_1 h2, (show Mo_in v3.toInt64 0 v2.toInt64 = wv 0 v2.toInt v3 by rw [mo_wvI, Int32.toInt_toInt64]; rfl), wv_1 h3, mW20, wv_0 h4]
  by_cases h5 : (0 : Int) ≤ v5.toInt ∧ v5.toInt ≤ 9
  rotate_left
  · refine sim_ref (f := fun σ => Go_note N v1 v2 v3 v4 v5 v6 σ) (g := fun σ => Mo_note N v1 v2 v3 v4 v5 v6 σ) (r := -2) 0 (by decide) hO hC hM ?_ (fun σ1 m1 => ?_)
    · show Go_note N v1 v2 v3 v4 v5 v6 σ = _
      simp only [Go_note_J38, Go_note_J65, Go_note, gGu hO hC, gRo hO hC, gPl, bR_e, bW_e, gBad, gFarBad, eq_self, one_ne, if_true, if_false, not_false_eq_true, not_true_eq_false, wv_1 h1, gW140, wv_1 h2, (show Go_within v3 0 v2 = wv 0 v2.toInt v3 from gw_wv v3 0 v2), wv_1 h3, gW20, wv_1 h4, gW9, wv_0 h5]
    · show Mo_note N v1 v2 v3 v4 v5 v6 σ1 = _
      simp only [Mo_note_J70, Mo_note, mGu hO m1, mRo hO m1, mPl, bR_e, bW_e, mBad, eq_self, one_ne, if_true, if_false, not_false_eq_true, not_true_eq_false, wv_1 h1, mW140, wv_1 h2, (show Mo_in v3.toInt64 0 v2.toInt64 = wv 0 v2.toInt v3 by rw [mo_wvI, Int32.toInt_toInt64]; rfl), wv_1 h3, mW20, wv_1 h4, mW9, wv_0 h5]
  by_cases h6 : (0 : Int) ≤ v6.toInt ∧ v6.toInt ≤ 60
  rotate_left
  · refine sim_ref (f := fun σ => Go_note N v1 v2 v3 v4 v5 v6 σ) (g := fun σ => Mo_note N v1 v2 v3 v4 v5 v6 σ) (r := -2) 0 (by decide) hO hC hM ?_ (fun σ1 m1 => ?_)
    · show Go_note N v1 v2 v3 v4 v5 v6 σ = _
      simp only [Go_note_J38, Go_note_J65, Go_note, gGu hO hC, gRo hO hC, gPl, bR_e, bW_e, gBad, gFarBad, eq_self, one_ne, if_true, if_false, not_false_eq_true, not_true_eq_false, wv_1 h1, gW140, wv_1 h2, (show Go_within v3 0 v2 = wv 0 v2.toInt v3 from gw_wv v3 0 v2), wv_1 h3, gW20, wv_1 h4, gW9, wv_1 h5, gW60, wv_0 h6]
    · show Mo_note N v1 v2 v3 v4 v5 v6 σ1 = _
      simp only [Mo_note_J70, Mo_note, mGu hO m1, mRo hO m1, mPl, bR_e, bW_e, mBad, eq_self, one_ne, if_true, if_false, not_false_eq_true, not_true_eq_false, wv_1 h1, mW140, wv_1 h2, (show Mo_in v3.toInt64 0 v2.toInt64 = wv 0 v2.toInt v3 by rw [mo_wvI, Int32.toInt_toInt64]; rfl), wv_1 h3, mW20, wv_1 h4, mW9, wv_1 h5, mW60, wv_0 h6]
  obtain ⟨a1, b1, rfl⟩ := wv_lt h1
  obtain ⟨a2, c2, b2, rfl⟩ := wv_nat (hi := 40) (by decide) h2
  obtain ⟨a3, b3, rfl⟩ : ∃ j : Nat, j ≤ 40 ∧ v3 = nI j := by
    obtain ⟨j, -, hj, e⟩ := wv_nat (hi := 40) (by decide) (⟨h3.1, by have := h2.2; have := h3.2; omega⟩ : (0 : Int) ≤ v3.toInt ∧ v3.toInt ≤ ((40 : Nat) : Int))
    exact ⟨j, hj, e⟩
  obtain ⟨a4, c4, b4, rfl⟩ := wv_nat (hi := 20) (by decide) h4
  obtain ⟨a5, c5, b5, rfl⟩ := wv_nat (hi := 9) (by decide) h5
  obtain ⟨a6, c6, b6, rfl⟩ := wv_nat (hi := 60) (by decide) h6
  have k3 : a3 ≤ a2 := by rw [nI_toInt (by omega), nI_toInt (by omega)] at h3; omega
  have cn := hC.nr.cnt.2.2.2.1
  have tw := hC.nr.2.2.1
  have hcn := hq.b.2.2.2.2.1.1
  have fu := tFull (N := N) tw.2 cn (by omega) (by omega)
  by_cases hS : A.1 89 < 6
  · obtain ⟨n1, f1⟩ := cNote hC.nr hS a1 a2 a3 a4 a5 a6
    refine sim_of (f := fun σ => Go_note N (nI a1) (nI a2) (nI a3) (nI a4) (nI a5) (nI a6) σ) (g := fun σ => Mo_note N (nI a1) (nI a2) (nI a3) (nI a4) (nI a5) (nI a6) σ) hC hM ⟨nI (A.1 89 + 1), (qNote A.1 a1 a2 a3 a4 a5 a6, A.2), hO.q (hq.note hS (by omega) b2 k3 b4 b5 b6), ⟨_, ?_, hC.night n1 f1, f1.low⟩, fun σ1 m1 => ?_⟩
    · show Go_note N (nI a1) (nI a2) (nI a3) (nI a4) (nI a5) (nI a6) σ = _
      rw [if_pos hS] at fu
      have e3 : Go_within (nI a3) 0 (nI a2) = 1 := by rw [gw_wv]; exact wv_1 h3
      simp only [Go_note, gGu hO hC, bR_e, wv_1 h1, wv_1 h2, wv_1 h4, wv_1 h5, wv_1 h6, e3, gW140, gW20, gW9, gW60, one_ne, if_true, if_false]
      simp only [fu, bR_e, if_true]
      rw [show (0 : Int32) = nI 0 from rfl, tPut (N := N) (t := 8) (w := 6) (m := 6) (S := A.1 89) (c := 0) (v := a1) (by (try simp (disch := omega) only [rdI_ne]); exact tw.1) (by (try simp (disch := omega) only [rdI_ne]); exact tw.2) (by (try simp (disch := omega) only [rdI_ne]); exact cn) hS (by decide) rfl (by decide) (by decide) (by decide) (by omega), bR_e]
      rw [show (1 : Int32) = nI 1 from rfl, tPut (N := N) (t := 8) (w := 6) (m := 6) (S := A.1 89) (c := 1) (v := a2) (by (try simp (disch := omega) only [rdI_ne]); exact tw.1) (by (try simp (disch := omega) only [rdI_ne]); exact tw.2) (by (try simp (disch := omega) only [rdI_ne]); exact cn) hS (by decide) rfl (by decide) (by decide) (by decide) (by omega), bR_e]
      rw [show (2 : Int32) = nI 2 from rfl, tPut (N := N) (t := 8) (w := 6) (m := 6) (S := A.1 89) (c := 2) (v := a3) (by (try simp (disch := omega) only [rdI_ne]); exact tw.1) (by (try simp (disch := omega) only [rdI_ne]); exact tw.2) (by (try simp (disch := omega) only [rdI_ne]); exact cn) hS (by decide) rfl (by decide) (by decide) (by decide) (by omega), bR_e]
      rw [show (3 : Int32) = nI 3 from rfl, tPut (N := N) (t := 8) (w := 6) (m := 6) (S := A.1 89) (c := 3) (v := a4) (by (try simp (disch := omega) only [rdI_ne]); exact tw.1) (by (try simp (disch := omega) only [rdI_ne]); exact tw.2) (by (try simp (disch := omega) only [rdI_ne]); exact cn) hS (by decide) rfl (by decide) (by decide) (by decide) (by omega), bR_e]
      rw [show (4 : Int32) = nI 4 from rfl, tPut (N := N) (t := 8) (w := 6) (m := 6) (S := A.1 89) (c := 4) (v := a5) (by (try simp (disch := omega) only [rdI_ne]); exact tw.1) (by (try simp (disch := omega) only [rdI_ne]); exact tw.2) (by (try simp (disch := omega) only [rdI_ne]); exact cn) hS (by decide) rfl (by decide) (by decide) (by decide) (by omega), bR_e]
      rw [show (5 : Int32) = nI 5 from rfl, tPut (N := N) (t := 8) (w := 6) (m := 6) (S := A.1 89) (c := 5) (v := a6) (by (try simp (disch := omega) only [rdI_ne]); exact tw.1) (by (try simp (disch := omega) only [rdI_ne]); exact tw.2) (by (try simp (disch := omega) only [rdI_ne]); exact cn) hS (by decide) rfl (by decide) (by decide) (by decide) (by omega), bR_e]
      rw [tKeep (N := N) (t := 8) (S := A.1 89) (by (try simp (disch := omega) only [rdI_ne]); exact cn), bW_e]
    · have G : Gr σ1 (sI (sI (sI (sI (sI (sI (sI σ1 115 (90 + 6 * A.1 89) (nI a1)) 115 (91 + 6 * A.1 89) (nI a2)) 115 (92 + 6 * A.1 89) (nI a3)) 115 (93 + 6 * A.1 89) (nI a4)) 115 (94 + 6 * A.1 89) (nI a5)) 115 (95 + 6 * A.1 89) (nI a6)) 115 89 (nI (A.1 89 + 1))) := (((((((Gr.wr (by omega) (by omega)).trans (Gr.wr (by omega) (by omega))).trans (Gr.wr (by omega) (by omega))).trans (Gr.wr (by omega) (by omega))).trans (Gr.wr (by omega) (by omega))).trans (Gr.wr (by omega) (by omega))).trans (Gr.wr (by omega) (by omega)))
      refine ⟨sI (sI (sI (sI (sI (sI (sI σ1 115 (90 + 6 * A.1 89) (nI a1)) 115 (91 + 6 * A.1 89) (nI a2)) 115 (92 + 6 * A.1 89) (nI a3)) 115 (93 + 6 * A.1 89) (nI a4)) 115 (94 + 6 * A.1 89) (nI a5)) 115 (95 + 6 * A.1 89) (nI a6)) 115 89 (nI (A.1 89 + 1)), ?_, m1.row (((((((m1.1.put a1).put a2).put a3).put a4).put a5).put a6).put _) G, G.high⟩
      show Mo_note N (nI a1) (nI a2) (nI a3) (nI a4) (nI a5) (nI a6) σ1 = _
      have hn : ¬ A.1 89 = 6 := by omega
      have e3 : Mo_in (nI a3).toInt64 0 (nI a2).toInt64 = 1 := by rw [mo_wvI, Int32.toInt_toInt64]; exact wv_1 h3
      simp only [Mo_note, mGu hO m1, bR_e, wv_1 h1, wv_1 h2, wv_1 h4, wv_1 h5, wv_1 h6, e3, mW140, mW20, mW9, mW60, one_ne, if_true, if_false]
      simp (disch := omega) only [litI, clI, subI, mulI, addI, eqI, leI, ltI, inI, ck_t, bS_e, bI_e, bL_e, bR_e, bW_e, mr m1, hn, if_false, rdI_eq, rdI_nk]
      rw [show 91 + 6 * A.1 89 = 90 + 6 * A.1 89 + 1 by omega]
      rw [show 92 + 6 * A.1 89 = 90 + 6 * A.1 89 + 2 by omega]
      rw [show 93 + 6 * A.1 89 = 90 + 6 * A.1 89 + 3 by omega]
      rw [show 94 + 6 * A.1 89 = 90 + 6 * A.1 89 + 4 by omega]
      rw [show 95 + 6 * A.1 89 = 90 + 6 * A.1 89 + 5 by omega]
  · have hS3 : A.1 89 = 6 := by omega
    rw [if_neg hS] at fu
    refine sim_ref (f := fun σ => Go_note N (nI a1) (nI a2) (nI a3) (nI a4) (nI a5) (nI a6) σ) (g := fun σ => Mo_note N (nI a1) (nI a2) (nI a3) (nI a4) (nI a5) (nI a6) σ) (r := -4) 2 (by decide) hO hC hM ?_ (fun σ1 m1 => ?_)
    · show Go_note N (nI a1) (nI a2) (nI a3) (nI a4) (nI a5) (nI a6) σ = _
      have e3 : Go_within (nI a3) 0 (nI a2) = 1 := by rw [gw_wv]; exact wv_1 h3
      simp only [Go_note, gGu hO hC, bR_e, wv_1 h1, wv_1 h2, wv_1 h4, wv_1 h5, wv_1 h6, e3, gW140, gW20, gW9, gW60, one_ne, if_true, if_false]
      simp only [fu, bR_e, one_ne, if_false, gFull, bW_e]
    · show Mo_note N (nI a1) (nI a2) (nI a3) (nI a4) (nI a5) (nI a6) σ1 = _
      have e3 : Mo_in (nI a3).toInt64 0 (nI a2).toInt64 = 1 := by rw [mo_wvI, Int32.toInt_toInt64]; exact wv_1 h3
      simp only [Mo_note, mGu hO m1, bR_e, wv_1 h1, wv_1 h2, wv_1 h4, wv_1 h5, wv_1 h6, e3, mW140, mW20, mW9, mW60, one_ne, if_true, if_false, mFull]
      simp (disch := omega) only [litI, clI, subI, mulI, addI, eqI, leI, ltI, inI, ck_t, bS_e, bI_e, bL_e, bR_e, bW_e, mr m1, hS3, if_true]
