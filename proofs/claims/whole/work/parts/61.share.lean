/-! share: who rows whom as codes of four figures; the class's -/
def okP (ok : Nat → Nat → Bool) : Nat → Nat → Bool
  | 0, _ => true
  | g + 1, c => okP ok g (c / 4) && ok g (c % 4)
def smP (v : Nat → Nat → Nat) : Nat → Nat → Nat
  | 0, _ => 0
  | g + 1, c => smP v g (c / 4) + v g (c % 4)
def dgP : Nat → Nat → Nat → Nat
  | 0, _, _ => 0
  | g + 1, c, i => if i = g then c % 4 else dgP g (c / 4) i
def isR (r : Nat) (_ d : Nat) : Nat := if d = r then 1 else 0
theorem q4 (c : Nat) {r : Nat} (h : r < 4) : (4 * c + r) / 4 = c ∧ (4 * c + r) % 4 = r := by omega
theorem okP_s (ok : Nat → Nat → Bool) (g c : Nat) {r : Nat} (h : r < 4) : okP ok (g + 1) (4 * c + r) = (okP ok g c && ok g r) := by
  show (okP ok g ((4 * c + r) / 4) && ok g ((4 * c + r) % 4)) = _
  rw [(q4 c h).1, (q4 c h).2]
theorem smP_s (v : Nat → Nat → Nat) (g c : Nat) {r : Nat} (h : r < 4) : smP v (g + 1) (4 * c + r) = smP v g c + v g r := by
  show smP v g ((4 * c + r) / 4) + v g ((4 * c + r) % 4) = _
  rw [(q4 c h).1, (q4 c h).2]
theorem dgP_s (g c i : Nat) {r : Nat} (h : r < 4) : dgP (g + 1) (4 * c + r) i = if i = g then r else dgP g c i := by
  show (if i = g then (4 * c + r) % 4 else dgP g ((4 * c + r) / 4) i) = _
  rw [(q4 c h).1, (q4 c h).2]
theorem dgP_lt (g c i : Nat) : dgP g c i < 4 := by
  induction g generalizing c with
  | zero => show 0 < 4; decide
  | succ g ih =>
    show (if i = g then c % 4 else dgP g (c / 4) i) < 4
    split
    · omega
    · exact ih _
theorem smP_le {v : Nat → Nat → Nat} {B g : Nat} (hv : ∀ i d, i < g → d < 4 → v i d ≤ B) (c : Nat) : smP v g c ≤ g * B := by
  induction g generalizing c with
  | zero => show 0 ≤ 0 * B; exact Nat.zero_le _
  | succ g ih =>
    show smP v g (c / 4) + v g (c % 4) ≤ (g + 1) * B
    have h1 := ih (fun i d hi hd => hv i d (by omega) hd) (c / 4)
    have h2 := hv g (c % 4) (by omega) (by omega)
    rw [Nat.succ_mul]; omega
theorem allB_yes {f : Nat → Bool} {n : Nat} (h : ∀ i, i < n → f i = true) : allB f n = true := by
  induction n with
  | zero => rfl
  | succ n ih =>
    show (allB f n && f n) = true
    rw [ih (fun i hi => h i (by omega)), h n (by omega)]; rfl
theorem allB_get {f : Nat → Bool} {n i : Nat} (h : allB f n = true) (hi : i < n) : f i = true := by
  cases e : f i
  · rw [allB_no hi e] at h; exact absurd h (by decide)
  · rfl
abbrev S3 : Type := Nat × Nat × Nat
def vld (ok : Nat → Nat → Bool) (G c : Nat) : Bool := okP ok G c && allB (fun r => decide (smP (isR r) G c ≤ 2)) 3
def stp (ok : Nat → Nat → Bool) (kn hu : Nat → Nat → Nat) (G c : Nat) (s : S3) : S3 := if vld ok G c = true ∧ (s.1 = 0 ∨ s.2.1 < smP kn G c ∨ (smP kn G c = s.2.1 ∧ smP hu G c < s.2.2)) then (c + 1, smP kn G c, smP hu G c) else s
def asg (ok : Nat → Nat → Bool) (kn hu : Nat → Nat → Nat) (G : Nat) : Nat → Nat → S3 → S3
  | 0, c, s => stp ok kn hu G c s
  | m + 1, c, s => itN (fun r s => asg ok kn hu G m (4 * c + r) s) 4 s
theorem itN_add {α : Type} (st : Nat → α → α) (a b : Nat) (x : α) : itN st (a + b) x = itN (fun i => st (a + i)) b (itN st a x) := by
  induction b with
  | zero => rfl
  | succ b ih =>
    show st (a + b) (itN st (a + b) x) = st (a + b) (itN (fun i => st (a + i)) b (itN st a x))
    rw [ih]
theorem itN_mul {α : Type} (st : Nat → α → α) (P n : Nat) (x : α) : itN (fun r s => itN (fun i => st (r * P + i)) P s) n x = itN st (n * P) x := by
  induction n with
  | zero =>
    rw [Nat.zero_mul]; rfl
  | succ n ih =>
    show itN (fun i => st (n * P + i)) P (itN (fun r s => itN (fun i => st (r * P + i)) P s) n x) = _
    rw [ih, Nat.succ_mul, itN_add]
theorem itN_stay {α : Type} {st : Nat → α → α} {R n : Nat} {a : α} (h : ∀ i b, R ≤ i → i < n → st i b = b) (hR : R ≤ n) : itN st n a = itN st R a := by
  induction n with
  | zero => rw [show R = 0 by omega]
  | succ n ih =>
    by_cases e : R = n + 1
    · rw [e]
    · show st n (itN st n a) = _
      rw [h n _ (by omega) (by omega), ih (fun i b h1 h2 => h i b h1 (by omega)) (by omega)]
theorem asg_it (ok : Nat → Nat → Bool) (kn hu : Nat → Nat → Nat) (G m : Nat) : ∀ (c : Nat) (s : S3), asg ok kn hu G m c s = itN (fun i s => stp ok kn hu G (c * 4 ^ m + i) s) (4 ^ m) s := by
  induction m with
  | zero =>
    intro c s
    rw [Nat.pow_zero, Nat.mul_one]; rfl
  | succ m ih =>
    intro c s
    show itN (fun r s => asg ok kn hu G m (4 * c + r) s) 4 s = _
    have e1 : 4 ^ (m + 1) = 4 * 4 ^ m := by rw [Nat.pow_succ, Nat.mul_comm]
    have e2 : ∀ r i, (4 * c + r) * 4 ^ m + i = c * (4 * 4 ^ m) + (r * 4 ^ m + i) := by
      intro r i
      rw [Nat.add_mul, Nat.mul_comm 4 c, Nat.mul_assoc, Nat.add_assoc]
    rw [e1, ← itN_mul]
    refine itN_congr (fun r b _ => ?_)
    rw [ih]
    refine itN_congr (fun i b _ => ?_)
    rw [e2]
def badP (ok : Nat → Nat → Bool) (g c : Nat) : Prop := okP ok g c = false ∨ ∃ r, r < 3 ∧ 2 < smP (isR r) g c
theorem badP.s {ok : Nat → Nat → Bool} {g c : Nat} (h : badP ok g c) {r : Nat} (hr : r < 4) : badP ok (g + 1) (4 * c + r) := by
  unfold badP
  rw [okP_s ok g c hr]
  rcases h with h | ⟨r', h1, h2⟩
  · left; rw [h, Bool.false_and]
  · right; exact ⟨r', h1, by rw [smP_s _ g c hr]; omega⟩
theorem badP.ok {ok : Nat → Nat → Bool} {g c r : Nat} (hr : r < 4) (h : ok g r = false) : badP ok (g + 1) (4 * c + r) := Or.inl (by rw [okP_s ok g c hr, h, Bool.and_false])
theorem badP.ld {ok : Nat → Nat → Bool} {g c r : Nat} (hr : r < 3) (h : 2 ≤ smP (isR r) g c) : badP ok (g + 1) (4 * c + r) := Or.inr ⟨r, hr, by
  rw [smP_s _ g c (show r < 4 by omega)]
  have : isR r g r = 1 := if_pos rfl
  omega⟩
theorem badP.st {ok : Nat → Nat → Bool} {kn hu : Nat → Nat → Nat} {G c : Nat} (h : badP ok G c) (s : S3) : stp ok kn hu G c s = s := by
  have : vld ok G c = false := by
    unfold vld
    rcases h with h | ⟨r', h1, h2⟩
    · rw [h, Bool.false_and]
    · rw [allB_no h1 (decide_eq_false (by omega)), Bool.and_false]
  unfold stp
  rw [if_neg (fun z => by rw [this] at z; exact absurd z.1 (by decide))]
theorem badP.asg {ok : Nat → Nat → Bool} {kn hu : Nat → Nat → Nat} {G : Nat} (m : Nat) : ∀ {g c : Nat}, g + m = G → badP ok g c → ∀ s : S3, asg ok kn hu G m c s = s := by
  induction m with
  | zero =>
    intro g c hg h s
    have : g = G := by omega
    subst this
    exact h.st s
  | succ m ih =>
    intro g c hg h s
    show itN (fun r s => _root_.Jvm.Pilot.CGondolaToldLaw_law_r4683_15f44e.asg ok kn hu G m (4 * c + r) s) 4 s = s
    exact itN_stay (R := 0) (fun i b _ hi => ih (g := g + 1) (by omega) (h.s hi) b) (Nat.zero_le _)
def SOk (s : S3) : Prop := s.2.1 ≤ 1000 ∧ s.2.2 ≤ 10000
theorem SOk.st {ok : Nat → Nat → Bool} {kn hu : Nat → Nat → Nat} {G : Nat} (hb : ∀ c, smP kn G c ≤ 1000 ∧ smP hu G c ≤ 10000) {c : Nat} {s : S3} (h : SOk s) : SOk (stp ok kn hu G c s) := by
  unfold stp
  split
  · exact hb c
  · exact h
theorem SOk.asg {ok : Nat → Nat → Bool} {kn hu : Nat → Nat → Nat} {G : Nat} (hb : ∀ c, smP kn G c ≤ 1000 ∧ smP hu G c ≤ 10000) (m : Nat) : ∀ {c : Nat} {s : S3}, SOk s → SOk (asg ok kn hu G m c s) := by
  induction m with
  | zero => intro c s h; exact h.st hb
  | succ m ih => intro c s h; exact ih (ih (ih (ih h)))
def okS (q : QS) (g d : Nat) : Bool := if d = 3 then decide (q (60 + g) = 7) else decide (d < q 36 ∧ (wayW q g d).1.1 ≠ 0)
def knS (q : QS) (g d : Nat) : Nat := if d = 3 then q (52 + g) else (wayW q g d).1.2.1
def huS (q : QS) (g d : Nat) : Nat := if d = 3 then q (56 + g) else (wayW q g d).1.2.2.1
theorem knhu {q : QS} (hq : Okq q) {g : Nat} (hg : g < q 37) (d : Nat) : knS q g d ≤ 40 ∧ huS q g d ≤ 999 := by
  obtain ⟨c1, c2, c3, c4, c5, c6, c7⟩ := hq.b.2.2.1.2.1 g hg
  have hw := wayW_ok hq hg d
  unfold knS huS
  by_cases e : d = 3
  · rw [if_pos e, if_pos e]; omega
  · rw [if_neg e, if_neg e]; exact ⟨hw.2.1.1, hw.2.1.2.1⟩
theorem shB {q : QS} (hq : Okq q) {g : Nat} (hg : g ≤ q 37) (c : Nat) : smP (knS q) g c ≤ 1000 ∧ smP (huS q) g c ≤ 10000 := by
  have h37 := hq.b.2.2.1.1
  have h1 := smP_le (v := knS q) (B := 40) (g := g) (fun i d hi _ => (knhu hq (by omega) d).1) c
  have h2 := smP_le (v := huS q) (B := 999) (g := g) (fun i d hi _ => (knhu hq (by omega) d).2) c
  omega
def chI (d : Nat) : Int32 := if d = 3 then -1 else nI d
def CS (G : Nat) (s : S3) (σ : St) : Prop := σ.1 58 5 = (if s.1 = 0 then 0 else 1) ∧ (s.1 ≠ 0 → σ.1 58 6 = nI s.2.1 ∧ σ.1 58 7 = nI s.2.2 ∧ ∀ i, i < G → σ.1 63 i = chI (dgP G (s.1 - 1) i))
theorem CS.frame {G : Nat} {s : S3} {σ σ' : St} (h : CS G s σ) (h1 : σ'.1 58 = σ.1 58) (h2 : σ'.1 63 = σ.1 63) : CS G s σ' := by
  unfold CS; rw [h1, h2]; exact h
theorem cSet {N G c K H : Nat} {σ : St} (hG : G ≤ 4) (hc : ∀ i, i < G → σ.1 62 i = chI (dgP G c i)) : ∃ σ', Sh_settle_J36 N (nI K) (nI H) 1 σ = some σ' ∧ CS G (c + 1, K, H) σ' ∧ (∀ i, i ≠ 58 → i ≠ 63 → σ'.1 i = σ.1 i) ∧ σ'.2 = σ.2 := by
  unfold Sh_settle_J36
  rw [if_neg one_ne, bS_e, bS_e, bS_e, show inC 0 0 4 4 4 = true by decide, ck_t, bS_e]
  refine ⟨_, rfl, ⟨?_, fun _ => ⟨?_, ?_, fun i hi => ?_⟩⟩, fun i h1 h2 => ?_, rfl⟩
  · rw [sR_ne _ _ _ (by decide), rdI_nk _ _ _ _ (by decide), rdI_nk _ _ _ _ (by decide), rdI_eq]
    show (1 : Int32) = if c + 1 = 0 then 0 else 1
    rw [if_neg (by omega)]
  · rw [sR_ne _ _ _ (by decide), rdI_nk _ _ _ _ (by decide), rdI_eq]
  · rw [sR_ne _ _ _ (by decide), rdI_eq]
  · rw [rdR, if_pos rfl, rdI_ne _ _ _ _ (show (62 : Nat) ≠ 58 by decide), rdI_ne _ _ _ _ (show (62 : Nat) ≠ 58 by decide), rdI_ne _ _ _ _ (show (62 : Nat) ≠ 58 by decide), show (0 : Int32).toNatClampNeg = 0 from rfl, show (4 : Int32).toNatClampNeg = 4 from rfl]
    unfold va_cpy
    rw [if_pos (by omega)]
    show _ = chI (dgP G (c + 1 - 1) i)
    rw [Nat.add_sub_cancel, ← hc i hi]
    simp
  · rw [sR_ne _ _ _ h2]; simp (disch := omega) only [rdI_ne]
theorem cSettle {N G c : Nat} {ok : Nat → Nat → Bool} {kn hu : Nat → Nat → Nat} {s : S3} {σ : St} (hG : G ≤ 4) (hs : SOk s) (hb : smP kn G c ≤ 1000 ∧ smP hu G c ≤ 10000) (hC : CS G s σ) (hv : vld ok G c = true) (hc : ∀ i, i < G → σ.1 62 i = chI (dgP G c i)) : ∃ σ', Sh_settle N (nI (smP kn G c)) (nI (smP hu G c)) σ = some σ' ∧ CS G (stp ok kn hu G c s) σ' ∧ (∀ i, i ≠ 58 → i ≠ 63 → σ'.1 i = σ.1 i) ∧ σ'.2 = σ.2 := by
  obtain ⟨b1, b2⟩ := hb
  obtain ⟨s1, s2⟩ := hs
  have no : Sh_settle_J36 N (nI (smP kn G c)) (nI (smP hu G c)) 0 σ = some σ := by
    unfold Sh_settle_J36; rw [if_pos rfl]
  obtain ⟨t, g1, c1, f1, f2⟩ := cSet (N := N) (K := smP kn G c) (H := smP hu G c) hG hc
  have yes : (s.1 = 0 ∨ s.2.1 < smP kn G c ∨ (smP kn G c = s.2.1 ∧ smP hu G c < s.2.2)) → CS G (stp ok kn hu G c s) t := fun z => by
    unfold stp; rw [if_pos ⟨hv, z⟩]; exact c1
  have nay : ¬ (s.1 = 0 ∨ s.2.1 < smP kn G c ∨ (smP kn G c = s.2.1 ∧ smP hu G c < s.2.2)) → CS G (stp ok kn hu G c s) σ := fun z => by
    unfold stp; rw [if_neg (fun y => z y.2)]; exact hC
  unfold Sh_settle Sh_settle_J31 Sh_settle_J35
  rw [hC.1]
  by_cases z : s.1 = 0
  · exact ⟨t, by rw [if_pos z, if_pos rfl, g1], yes (Or.inl z), f1, f2⟩
  · obtain ⟨e1, e2, -⟩ := hC.2 z
    rw [if_neg z, if_neg one_ne, e1, e2]
    by_cases a : s.2.1 < smP kn G c
    · exact ⟨t, by rw [if_pos (ltP a (by omega) (by omega)), g1], yes (Or.inr (Or.inl a)), f1, f2⟩
    · rw [if_neg (ltN a (by omega) (by omega))]
      by_cases e : smP kn G c = s.2.1
      · rw [if_pos (by rw [e])]
        by_cases l : s.2.2 ≤ smP hu G c
        · exact ⟨σ, by rw [if_pos (leP l (by omega) (by omega)), no], nay (by omega), fun _ _ _ => rfl, rfl⟩
        · exact ⟨t, by rw [if_neg (leN l (by omega) (by omega)), g1], yes (Or.inr (Or.inr ⟨e, by omega⟩)), f1, f2⟩
      · exact ⟨σ, by rw [if_neg (neI e (by omega) (by omega)), no], nay (by omega), fun _ _ _ => rfl, rfl⟩
def EC (q : QS) (σ : St) (g r : Nat) : Prop := σ.1 59 (g * 3 + r) = (if (wayW q g r).1.1 = 0 then -1 else nI (wayW q g r).1.2.1) ∧ ((wayW q g r).1.1 ≠ 0 → σ.1 60 (g * 3 + r) = nI (wayW q g r).1.2.2.1)
def Fs (σ σ' : St) : Prop := (∀ i, i ≠ 58 → i ≠ 61 → i ≠ 62 → i ≠ 63 → σ'.1 i = σ.1 i) ∧ σ'.2 = σ.2
theorem cAsg {N : Nat} (hN : 300 < N) {q : QS} {σ0 : St} (hq : Okq q) (h : NR 1 q σ0) (hE : ∀ g r, g < q 37 → r < q 36 → EC q σ0 g r) (m : Nat) : ∀ {f g c : Nat} {s : S3} {σ : St}, g + m = q 37 → m < f → SOk s → CS (q 37) s σ → okP (okS q) g c = true → (∀ r, r < 3 → smP (isR r) g c ≤ 2) → (∀ i, i < g → σ.1 62 i = chI (dgP g c i)) → (∀ r, r < 3 → σ.1 61 r = nI (smP (isR r) g c)) → Fs σ0 σ → ∃ σ', Sh_assign N f 1 (nI g) (nI (smP (knS q) g c)) (nI (smP (huS q) g c)) σ = some σ' ∧ CS (q 37) (asg (okS q) (knS q) (huS q) (q 37) m c s) σ' ∧ (∀ i, i < g → σ'.1 62 i = σ.1 62 i) ∧ (∀ r, r < 3 → σ'.1 61 r = σ.1 61 r) ∧ Fs σ0 σ' := by
  have h36 := hq.b.2.1.1
  have h37 := hq.b.2.2.1.1
  have hb := fun c => shB hq (Nat.le_refl (q 37)) c
  induction m with
  | zero =>
    intro f g c s σ hg hf hs hC hok hld hch hlo hF
    obtain ⟨f, rfl⟩ : ∃ f', f = f' + 1 := ⟨f - 1, by omega⟩
    have e : g = q 37 := by omega
    subst e
    obtain ⟨t, g1, c1, f1, f2⟩ := cSettle (N := N) (c := c) (ok := okS q) (kn := knS q) (hu := huS q) h37 hs (hb c) hC (by unfold vld; rw [hok, allB_yes (fun r hr => decide_eq_true (hld r hr))]; rfl) hch
    refine ⟨t, ?_, c1, fun i _ => by rw [f1 62 (by decide) (by decide)], fun i _ => by rw [f1 61 (by decide) (by decide)], fun i h1 h2 h3 h4 => by rw [f1 i h1 h4, hF.1 i h1 h2 h3 h4], by rw [f2, hF.2]⟩
    show Sh_assignB N (Sh_assign N f) 1 (nI (q 37)) (nI (smP (knS q) (q 37) c)) (nI (smP (huS q) (q 37) c)) σ = _
    unfold Sh_assignB Sh_assign_J13
    rw [hF.1 1 (by decide) (by decide) (by decide) (by decide), h.cnt.2.1, if_pos (Int32.le_refl _), g1, bR_e]
  | succ m ih =>
    intro f g c s σ hg hf hs hC hok hld hch hlo hF
    obtain ⟨f, rfl⟩ : ∃ f', f = f' + 1 := ⟨f - 1, by omega⟩
    have hgG : g < q 37 := by omega
    have hn : ¬ q 37 ≤ g := by omega
    have hx4 : q (60 + g) ≤ 7 := (hq.b.2.2.1.2.1 g hgG).2.2.2.2.2.1
    have e4 : σ.1 (1 + 16 + g) 4 = nI (q (60 + g)) := by rw [hF.1 _ (by omega) (by omega) (by omega) (by omega)]; exact h.gst (by omega) (by decide) hgG
    have e2 : σ.1 (1 + 16 + g) 2 = nI (q (52 + g)) := by rw [hF.1 _ (by omega) (by omega) (by omega) (by omega)]; exact h.gst (by omega) (by decide) hgG
    have e3 : σ.1 (1 + 16 + g) 3 = nI (q (56 + g)) := by rw [hF.1 _ (by omega) (by omega) (by omega) (by omega)]; exact h.gst (by omega) (by decide) hgG
    show ∃ σ', Sh_assignB N (Sh_assign N f) 1 (nI g) (nI (smP (knS q) g c)) (nI (smP (huS q) g c)) σ = some σ' ∧ _
    unfold Sh_assignB
    rw [hF.1 1 (by decide) (by decide) (by decide) (by decide), h.cnt.2.1, if_neg (leN hn (by omega) (by omega)), if_pos (show nI g < 4 from ltP (b := 4) (by omega) (by omega) (by decide)), inI (n := 4) (by omega) (by decide), ck_t, clI (by omega), e4, ck_t, bS_e, rdI_ne _ _ _ _ (show 1 + 16 + g ≠ 62 by omega), e2, e3]
    by_cases z : q (60 + g) = 7
    · have k3 : ∀ v : Nat, nI v + nI (q (52 + g)) = nI (v + knS q g 3) := fun v => addI _ _
      have k4 : ∀ v : Nat, nI v + nI (q (56 + g)) = nI (v + huS q g 3) := fun v => addI _ _
      have o3 : okS q g 3 = true := by unfold okS; rw [if_pos rfl]; exact decide_eq_true z
      have wl : ∀ r, (wayW q g r).1.1 = 0 := fun r => by unfold wayW; rw [if_pos z]; rfl
      have ob : ∀ r, r < 3 → okS q g r = false := fun r hr => by
        unfold okS; rw [if_neg (by omega)]; exact decide_eq_false (fun y => y.2 (wl r))
      have is3 : ∀ r, r < 3 → isR r g 3 = 0 := fun r hr => if_neg (by omega)
      rw [if_pos (show nI (q (60 + g)) = 7 by rw [z]; rfl), nI_1, k3, k4, ← smP_s (knS q) g c (by decide : 3 < 4), ← smP_s (huS q) g c (by decide : 3 < 4)]
      obtain ⟨t, g1, c1, t1, t2, t3⟩ := ih (f := f) (g := g + 1) (c := 4 * c + 3) (s := s) (σ := sI σ 62 g (-1)) (by omega) (by omega) hs (hC.frame (rdI_ne _ _ _ _ (by decide)) (rdI_ne _ _ _ _ (by decide))) (by rw [okP_s _ g c (by decide), hok, o3]; rfl) (fun r hr => by rw [smP_s _ g c (by decide), is3 r hr]; exact hld r hr) (fun i hi => by
        rw [dgP_s g c i (by decide)]
        by_cases e : i = g
        · subst e; rw [rdI_eq, if_pos rfl]; rfl
        · rw [rdI_nk _ _ _ _ e, if_neg e]; exact hch i (by omega)) (fun r hr => by rw [smP_s _ g c (by decide), is3 r hr, rdI_ne _ _ _ _ (by decide)]; exact hlo r hr) ⟨fun i h1 h2 h3 h4 => by rw [rdI_ne _ _ _ _ h3]; exact hF.1 i h1 h2 h3 h4, hF.2⟩
      refine ⟨t, by rw [g1, bR_e], ?_, fun i hi => by rw [t1 i (by omega), rdI_nk _ _ _ _ (by omega)], fun r hr => by rw [t2 r hr, rdI_ne _ _ _ _ (by decide)], t3⟩
      have e0 : asg (okS q) (knS q) (huS q) (q 37) (m + 1) c s = asg (okS q) (knS q) (huS q) (q 37) m (4 * c + 3) s := by
        show asg (okS q) (knS q) (huS q) (q 37) m (4 * c + 3) (asg (okS q) (knS q) (huS q) (q 37) m (4 * c + 2) (asg (okS q) (knS q) (huS q) (q 37) m (4 * c + 1) (asg (okS q) (knS q) (huS q) (q 37) m (4 * c + 0) s))) = _
        rw [badP.asg m (g := g + 1) (by omega) (badP.ok (by decide) (ob 0 (by decide))), badP.asg m (g := g + 1) (by omega) (badP.ok (by decide) (ob 1 (by decide))), badP.asg m (g := g + 1) (by omega) (badP.ok (by decide) (ob 2 (by decide)))]
      rw [e0]; exact c1
    · rw [if_neg (show ¬ nI (q (60 + g)) = 7 from neI (b := 7) z (by omega) (by decide))]
      obtain ⟨st, hst⟩ : ∃ st : Nat → S3 → S3, ∀ r s, st r s = asg (okS q) (knS q) (huS q) (q 37) m (4 * c + r) s := ⟨_, fun _ _ => rfl⟩
      have e0 : asg (okS q) (knS q) (huS q) (q 37) (m + 1) c s = itN st (q 36) s := by
        have e1 : asg (okS q) (knS q) (huS q) (q 37) (m + 1) c s = itN st 4 s := itN_congr (fun i b _ => (hst i b).symm)
        rw [e1]
        refine itN_stay (fun i b h1 h2 => ?_) (by omega)
        rw [hst]
        refine badP.asg m (g := g + 1) (by omega) (badP.ok h2 ?_) b
        unfold okS
        by_cases e : i = 3
        · rw [if_pos e]; exact decide_eq_false z
        · rw [if_neg e]; exact decide_eq_false (fun y => by omega)
      rw [e0]
      refine loop_up (fun fu r t => Sh_assign_L73 N (Sh_assign N f) fu 1 (nI g) (nI (smP (knS q) g c)) (nI (smP (huS q) g c)) (nI r) t) (q 36) (fun r t => SOk (itN st r s) ∧ CS (q 37) (itN st r s) t ∧ (∀ i, i < g → t.1 62 i = σ.1 62 i) ∧ (∀ r, r < 3 → t.1 61 r = σ.1 61 r) ∧ Fs σ0 t) (fun o => ∃ σ', o = some σ' ∧ CS (q 37) (itN st (q 36) s) σ' ∧ (∀ i, i < g → σ'.1 62 i = σ.1 62 i) ∧ (∀ r, r < 3 → σ'.1 61 r = σ.1 61 r) ∧ Fs σ0 σ') ?_ ?_ (by omega) ⟨hs, hC, fun _ _ => rfl, fun _ _ => rfl, hF⟩
      · intro fu r t hr ⟨w1, w2, w3, w4, w5⟩
        have hr3 : r < 3 := by omega
        have hnr : ¬ q 36 ≤ r := by omega
        have hld' := hld r hr3
        obtain ⟨E1, E2⟩ := hE g r hgG hr
        have stay : badP (okS q) (g + 1) (4 * c + r) → itN st (r + 1) s = itN st r s := fun hbad => by
          show st r (itN st r s) = _
          rw [hst]; exact badP.asg m (g := g + 1) (by omega) hbad _
        show ∃ a', Sh_assign_L73B N (Sh_assign N f) (Sh_assign_L73 N (Sh_assign N f) fu) 1 (nI g) (nI (smP (knS q) g c)) (nI (smP (huS q) g c)) (nI r) t = Sh_assign_L73 N (Sh_assign N f) fu 1 (nI g) (nI (smP (knS q) g c)) (nI (smP (huS q) g c)) (nI (r + 1)) a' ∧ _
        unfold Sh_assign_L73B Sh_assign_J169
        rw [w5.1 1 (by decide) (by decide) (by decide) (by decide), h.cnt.1, if_neg (leN hnr (by omega) (by omega)), show (3 : Int32) = nI 3 from rfl, mulI, addI, bI_e, inI (n := 3) (by omega) (by decide), ck_t, clI (a := r) (by omega), w4 r hr3, hlo r hr3, inI (n := 12) (by omega) (by decide), ck_t, clI (a := g * 3 + r) (by omega), w5.1 59 (by decide) (by decide) (by decide) (by decide), E1]
        by_cases y : 2 ≤ smP (isR r) g c
        · have st1 := stay (badP.ld hr3 y)
          exact ⟨t, by rw [if_pos (show (2 : Int32) ≤ nI (smP (isR r) g c) from leP (a := 2) y (by decide) (by omega)), nI_1, bI_e], by rw [st1]; exact w1, by rw [st1]; exact w2, w3, w4, w5⟩
        · rw [if_neg (show ¬ (2 : Int32) ≤ nI (smP (isR r) g c) from leN (a := 2) y (by decide) (by omega))]
          by_cases W0 : (wayW q g r).1.1 = 0
          · have st1 := stay (badP.ok (by omega) (by unfold okS; rw [if_neg (by omega)]; exact decide_eq_false (fun y => y.2 W0)))
            exact ⟨t, by rw [if_pos W0, if_pos rfl, nI_1, bI_e], by rw [st1]; exact w1, by rw [st1]; exact w2, w3, w4, w5⟩
          · have hwo := wayW_ok hq hgG r
            have okr : okS q g r = true := by unfold okS; rw [if_neg (by omega)]; exact decide_eq_true ⟨hr, W0⟩
            have kk : ∀ v : Nat, nI v + nI (wayW q g r).1.2.1 = nI (v + knS q g r) := fun v => by
              unfold knS; rw [if_neg (by omega)]; exact addI _ _
            have kh : ∀ v : Nat, nI v + nI (wayW q g r).1.2.2.1 = nI (v + huS q g r) := fun v => by
              unfold huS; rw [if_neg (by omega)]; exact addI _ _
            have R61 : ∀ r', r' < 3 → (sI (sI t 62 g (nI r)) 61 r (nI (smP (isR r) g c + 1))).1 61 r' = nI (smP (isR r') (g + 1) (4 * c + r)) := fun r' hr' => by
              rw [smP_s _ g c (show r < 4 by omega)]
              by_cases e : r' = r
              · subst e; rw [rdI_eq, show isR r' g r' = 1 from if_pos rfl]
              · rw [rdI_nk _ _ _ _ e, rdI_ne _ _ _ _ (by decide), w4 r' hr', hlo r' hr', show isR r' g r = 0 from if_neg (fun z => e z.symm)]; rfl
            obtain ⟨t2, g2, c2, u1, u2, u3⟩ := ih (f := f) (g := g + 1) (c := 4 * c + r) (s := itN st r s) (σ := sI (sI t 62 g (nI r)) 61 r (nI (smP (isR r) g c + 1))) (by omega) (by omega) w1 (w2.frame (by rw [rdI_ne _ _ _ _ (by decide), rdI_ne _ _ _ _ (by decide)]) (by rw [rdI_ne _ _ _ _ (by decide), rdI_ne _ _ _ _ (by decide)])) (by rw [okP_s _ g c (by omega), hok, okr]; rfl) (fun r' hr' => by
                rw [smP_s _ g c (show r < 4 by omega)]
                by_cases e : r' = r
                · subst e
                  have : isR r' g r' = 1 := if_pos rfl
                  omega
                · have : isR r' g r = 0 := if_neg (fun z => e z.symm)
                  have := hld r' hr'
                  omega) (fun i hi => by
                rw [dgP_s g c i (show r < 4 by omega), rdI_ne _ _ _ _ (by decide)]
                by_cases e : i = g
                · subst e; rw [rdI_eq, if_pos rfl]; unfold chI; rw [if_neg (by omega)]
                · rw [rdI_nk _ _ _ _ e, if_neg e, w3 i (by omega)]; exact hch i (by omega)) R61 ⟨fun i h1 h2 h3 h4 => by rw [rdI_ne _ _ _ _ h2, rdI_ne _ _ _ _ h3]; exact w5.1 i h1 h2 h3 h4, w5.2⟩
            refine ⟨sI t2 61 r (nI (smP (isR r) g c)), ?_, ?_, ?_, fun i hi => ?_, fun r' hr' => ?_, fun i h1 h2 h3 h4 => by rw [rdI_ne _ _ _ _ h2]; exact u3.1 i h1 h2 h3 h4, u3.2⟩
            · rw [if_neg W0, if_neg (m1_ne _ (by have := hwo.2.1.1; omega)), inI (n := 4) (by omega) (by decide), ck_t, clI (a := g) (by omega), bS_e, rdI_ne _ _ _ _ (by decide), w4 r hr3, hlo r hr3, nI_1]
              simp only [ck_t, bS_e]
              rw [rdI_ne _ _ _ _ (by decide), rdI_ne _ _ _ _ (by decide), w5.1 59 (by decide) (by decide) (by decide) (by decide), E1, if_neg W0, rdI_ne _ _ _ _ (by decide), rdI_ne _ _ _ _ (by decide), w5.1 60 (by decide) (by decide) (by decide) (by decide), E2 W0, nI_1, kk, kh, ← smP_s (knS q) g c (show r < 4 by omega), ← smP_s (huS q) g c (show r < 4 by omega), g2, bR_e, u2 r hr3, rdI_eq, show (1 : Int32) = nI 1 from rfl, subI (by omega), addI, bI_e, Nat.add_sub_cancel]
            · show SOk (st r (itN st r s))
              rw [hst]; exact w1.asg hb m
            · show CS (q 37) (st r (itN st r s)) _
              rw [hst]; exact c2.frame (rdI_ne _ _ _ _ (by decide)) (rdI_ne _ _ _ _ (by decide))
            · rw [rdI_ne _ _ _ _ (by decide), u1 i (by omega), rdI_ne _ _ _ _ (by decide), rdI_nk _ _ _ _ (by omega)]; exact w3 i hi
            · by_cases e : r' = r
              · subst e; rw [rdI_eq, hlo r' hr']
              · rw [rdI_nk _ _ _ _ e, u2 r' hr', rdI_nk _ _ _ _ e, rdI_ne _ _ _ _ (by decide)]; exact w4 r' hr'
      · intro fu t ⟨w1, w2, w3, w4, w5⟩
        refine ⟨t, ?_, w2, w3, w4, w5⟩
        show Sh_assign_L73B N (Sh_assign N f) (Sh_assign_L73 N (Sh_assign N f) fu) 1 (nI g) (nI (smP (knS q) g c)) (nI (smP (huS q) g c)) (nI (q 36)) t = _
        unfold Sh_assign_L73B
        rw [w5.1 1 (by decide) (by decide) (by decide) (by decide), h.cnt.1, if_pos (Int32.le_refl _)]
def Fy (σ s : St) : Prop := (∀ i, (i < 47 ∨ 60 < i) → s.1 i = σ.1 i) ∧ s.1 58 = σ.1 58 ∧ s.2 = σ.2
theorem Fy.nr {q : QS} {σ s : St} (h : NR 1 q σ) (f : Fy σ s) : NR 1 q s := ⟨h.1.frame (fun c hc => f.1 _ (by omega)), h.2.frame (f.1 _ (by decide)) (f.1 _ (by decide)) (f.1 _ (by decide))⟩
theorem cFillS {N : Nat} (hN : 300 < N) {q : QS} {σ s0 : St} (hq : Okq q) (h : NR 1 q σ) {g : Nat} (hg : g < q 37) (K27 : _) (hE : ∀ g' r, g' < g → r < q 36 → EC q s0 g' r) (hf : Fy σ s0) : ∃ s', Sh_search_L38 N K27 N 1 (nI g) 0 s0 = K27 1 (nI (g + 1)) s' ∧ (∀ g' r, g' < g + 1 → r < q 36 → EC q s' g' r) ∧ Fy σ s' := by
  have h36 := hq.b.2.1.1
  have h37 := hq.b.2.2.1.1
  refine loop_up (fun f r s => Sh_search_L38 N K27 f 1 (nI g) (nI r) s) (q 36) (fun r s => (∀ g' r', g' < g → r' < q 36 → EC q s g' r') ∧ (∀ r', r' < r → EC q s g r') ∧ Fy σ s) (fun o => ∃ s', o = K27 1 (nI (g + 1)) s' ∧ (∀ g' r, g' < g + 1 → r < q 36 → EC q s' g' r) ∧ Fy σ s') ?_ ?_ (by omega) ⟨hE, fun r hr => absurd hr (Nat.not_lt_zero r), hf⟩
  · intro f r s hr ⟨t1, t2, f1⟩
    have hnr := Fy.nr h f1
    have hn : ¬ q 36 ≤ r := by omega
    obtain ⟨s1, g1, c1, x1⟩ := cSearch (N := N) hN hq hnr hg hr
    have mv : ∀ g' r', r' < 3 → (g' ≠ g ∨ r' ≠ r) → EC q s g' r' → EC q (sI (sI s1 59 (g * 3 + r) (if (wayW q g r).1.1 = 0 then -1 else nI (wayW q g r).1.2.1)) 60 (g * 3 + r) (s1.1 47 4)) g' r' := fun g' r' h1 h2 h3 => by
      have ne : g' * 3 + r' ≠ g * 3 + r := by omega
      unfold EC
      rw [rdI_ne _ _ _ _ (show (59 : Nat) ≠ 60 by decide), rdI_nk _ _ _ _ ne, rdI_nk _ _ _ _ ne, rdI_ne _ _ _ _ (show (60 : Nat) ≠ 59 by decide), x1.1 59 (by decide), x1.1 60 (by decide)]; exact h3
    refine ⟨sI (sI s1 59 (g * 3 + r) (if (wayW q g r).1.1 = 0 then -1 else nI (wayW q g r).1.2.1)) 60 (g * 3 + r) (s1.1 47 4), ?_, fun g' r' h1 h2 => mv g' r' (by omega) (Or.inl (by omega)) (t1 g' r' h1 h2), fun r' h1 => ?_, ⟨fun i hi => by rw [rdI_ne _ _ _ _ (by omega), rdI_ne _ _ _ _ (by omega), x1.1 i (by omega)]; exact f1.1 i hi, by rw [rdI_ne _ _ _ _ (by decide), rdI_ne _ _ _ _ (by decide), x1.1 58 (by decide)]; exact f1.2.1, x1.2.trans f1.2.2⟩⟩
    · show Sh_search_L38B N K27 (Sh_search_L38 N K27 f) 1 (nI g) (nI r) s = _
      unfold Sh_search_L38B Sh_search_J90
      rw [hnr.cnt.1, if_neg (leN hn (by omega) (by omega)), inI (n := 4) (by omega) (by decide), ck_t, inI (n := 3) (by omega) (by decide), ck_t, clI (by omega), clI (by omega), g1, bR_e, c1.1, show (3 : Int32) = nI 3 from rfl, mulI, addI, inI (n := 12) (by omega) (by decide), clI (by omega), nI_1]
      simp only [ck_t, bS_e, bI_e]
      rw [rdI_ne _ _ _ _ (by decide)]
      by_cases z : (wayW q g r).1.1 = 0
      · rw [if_pos (show nI (wayW q g r).1.1 = 0 by rw [z]; rfl), if_pos z]
      · rw [if_neg (show ¬ nI (wayW q g r).1.1 = 0 from neI (b := 0) z (by have := (wayW_ok hq hg r).1; omega) (by decide)), if_neg z, (c1.2.1 z).1, rdI_ne _ _ _ _ (by decide)]
    · by_cases e : r' = r
      · subst e
        refine ⟨by rw [rdI_ne _ _ _ _ (by decide), rdI_eq], fun z => by rw [rdI_eq]; exact (c1.2.1 z).2.1⟩
      · exact mv g r' (by omega) (Or.inr e) (t2 r' (by omega))
  · intro f s ⟨t1, t2, f1⟩
    refine ⟨s, ?_, fun g' r h1 h2 => ?_, f1⟩
    · show Sh_search_L38B N K27 (Sh_search_L38 N K27 f) 1 (nI g) (nI (q 36)) s = _
      unfold Sh_search_L38B Sh_search_J112
      rw [(Fy.nr h f1).cnt.1, if_pos (Int32.le_refl _), nI_1, bI_e]
    · by_cases e : g' = g
      · subst e; exact t2 r h2
      · exact t1 g' r (by omega) h2
def shS (q : QS) : S3 := asg (okS q) (knS q) (huS q) (q 37) (q 37) 0 (0, 0, 0)
theorem cShare {N : Nat} (hN : 300 < N) {q : QS} {σ : St} (hq : Okq q) (h : NR 1 q σ) : ∃ s', Sh_search N 1 σ = some s' ∧ CS (q 37) (shS q) s' ∧ CScr σ s' := by
  have h36 := hq.b.2.1.1
  have h37 := hq.b.2.2.1.1
  unfold Sh_search
  rw [bS_e]
  have L7 : ∃ s, Sh_search_L7 N N 1 0 (sI σ 58 5 0) = Sh_search_J25 N 1 s ∧ (∀ r, r < 3 → s.1 61 r = 0) ∧ (∀ i, i ≠ 61 → s.1 i = (sI σ 58 5 0).1 i) ∧ s.2 = σ.2 := by
    refine loop_up (fun f r s => Sh_search_L7 N f 1 (nI r) s) 3 (fun r s => (∀ r', r' < r → s.1 61 r' = 0) ∧ (∀ i, i ≠ 61 → s.1 i = (sI σ 58 5 0).1 i) ∧ s.2 = σ.2) (fun o => ∃ s, o = Sh_search_J25 N 1 s ∧ (∀ r, r < 3 → s.1 61 r = 0) ∧ (∀ i, i ≠ 61 → s.1 i = (sI σ 58 5 0).1 i) ∧ s.2 = σ.2) ?_ ?_ (by omega) ⟨fun r hr => absurd hr (Nat.not_lt_zero r), fun _ _ => rfl, rfl⟩
    · intro f r s hr ⟨t1, t2, t3⟩
      have hn : ¬ 3 ≤ r := by omega
      refine ⟨sI s 61 r 0, ?_, fun r' h1 => ?_, fun i hi => by rw [rdI_ne _ _ _ _ hi]; exact t2 i hi, t3⟩
      · show Sh_search_L7B N (Sh_search_L7 N f) 1 (nI r) s = _
        unfold Sh_search_L7B
        rw [if_neg (show ¬ (3 : Int32) ≤ nI r from leN (a := 3) hn (by decide) (by omega)), inI (n := 3) (by omega) (by decide), ck_t, clI (by omega), bS_e, nI_1, bI_e]
      · by_cases e : r' = r
        · subst e; rw [rdI_eq]
        · rw [rdI_nk _ _ _ _ e]; exact t1 r' (by omega)
    · intro f s ht
      refine ⟨s, ?_, ht⟩
      show Sh_search_L7B N (Sh_search_L7 N f) 1 (nI 3) s = _
      unfold Sh_search_L7B
      rw [if_pos (by decide)]
  obtain ⟨s1, g1, t1, t2, t3⟩ := L7
  rw [g1]
  unfold Sh_search_J25
  have hnr1 : NR 1 q s1 := ⟨h.1.frame (fun c hc => by rw [t2 _ (by omega), rdI_ne _ _ _ _ (by omega)]), h.2.frame (by rw [t2 _ (by decide), rdI_ne _ _ _ _ (by decide)]) (by rw [t2 _ (by decide), rdI_ne _ _ _ _ (by decide)]) (by rw [t2 _ (by decide), rdI_ne _ _ _ _ (by decide)])⟩
  refine loop_up (fun f g s => Sh_search_L27 N f 1 (nI g) s) (q 37) (fun g s => (∀ g' r, g' < g → r < q 36 → EC q s g' r) ∧ Fy s1 s) (fun o => ∃ s', o = some s' ∧ CS (q 37) (shS q) s' ∧ CScr σ s') ?_ ?_ (by omega) ⟨fun g r hg => absurd hg (Nat.not_lt_zero g), fun _ _ => rfl, rfl, rfl⟩
  · intro f g s hg ⟨u1, u2⟩
    have hn : ¬ q 37 ≤ g := by omega
    obtain ⟨s', k1, k2, k3⟩ := cFillS (N := N) hN hq hnr1 hg (Sh_search_L27 N f) u1 u2
    refine ⟨s', ?_, k2, k3⟩
    show Sh_search_L27B N (Sh_search_L27 N f) 1 (nI g) s = _
    unfold Sh_search_L27B
    rw [(Fy.nr hnr1 u2).cnt.2.1, if_neg (leN hn (by omega) (by omega)), k1]
  · intro f s ⟨u1, u2⟩
    obtain ⟨s', k1, k2, -, -, k3⟩ := cAsg (N := N) hN hq (Fy.nr hnr1 u2) u1 (q 37) (f := 10) (g := 0) (c := 0) (s := (0, 0, 0)) (σ := s) (by omega) (by omega) ⟨by decide, by decide⟩ ⟨by rw [u2.2.1, t2 _ (by decide), rdI_eq]; rfl, fun z => absurd rfl z⟩ rfl (fun r _ => Nat.zero_le 2) (fun i hi => absurd hi (Nat.not_lt_zero i)) (fun r hr => by rw [u2.1 61 (by decide), t1 r hr]; rfl) ⟨fun _ _ _ _ _ => rfl, rfl⟩
    refine ⟨s', ?_, k2, ⟨fun i hi => ?_, by rw [k3.2, u2.2.2, t3]⟩⟩
    · show Sh_search_L27B N (Sh_search_L27 N f) 1 (nI (q 37)) s = _
      unfold Sh_search_L27B Sh_search_J118
      have k1' : Sh_assign N 10 1 0 0 0 s = some s' := k1
      rw [(Fy.nr hnr1 u2).cnt.2.1, if_pos (Int32.le_refl _), k1', bR_e]
    · rw [k3.1 i (by omega) (by omega) (by omega) (by omega), u2.1 i (by omega), t2 i (by omega), rdI_ne _ _ _ _ (by omega)]
