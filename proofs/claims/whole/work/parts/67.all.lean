/-! the beginning, and all calls -/
def A0 : Ab := (qBegin 3, fun _ _ => 0, fun _ => false, (0, fun _ => 0), fun _ => 0, (0, 1))
theorem rp0 : ∀ k, k < 286 → σ0.1 (1 + cC k) (sC k) = nI (qBegin 3 k) := by decide +kernel
theorem cn0 : ∀ a, a < 8 → ∀ b, b < 8 → σ0.1 (1 + 2) (a * 8 + b) = nI (stq (qBegin 3) a b) := by decide +kernel
theorem rpM0 : ∀ k, k < 286 → σ0.1 115 (0 + k) = nI (qBegin 3 k) := by decide +kernel
theorem tw0 (n : Nat) (h : n = 1 ∨ n = 21 ∨ n = 74 ∨ n = 94) : TW n σ0 := by
  rcases h with e | e | e | e <;> subst e <;> exact ⟨⟨rfl, rfl⟩, ⟨rfl, rfl⟩, ⟨rfl, rfl⟩⟩
theorem ok0 : OkA A0 := ⟨Okq.begin (by decide), fun i _ h => absurd (show false = true from h) (by decide), Nat.zero_le _, fun j hj => absurd hj (Nat.not_lt_zero j)⟩
theorem ci0 : CI A0 σ0 := ⟨⟨fun k hk _ => rp0 k hk, fun a b ha hb => cn0 a ha b hb⟩, ⟨tw0 1 (by omega), tw0 21 (by omega), tw0 74 (by omega), tw0 94 (by omega)⟩, fun i _ => rfl, fun i _ h => absurd (show false = true from h) (by decide), ⟨rfl, fun j hj => absurd hj (Nat.not_lt_zero j)⟩, fun i _ => rfl, rfl, rfl⟩
theorem mi0 : MI A0 σ0 := ⟨rpM0, fun i _ => rfl, fun i _ h => absurd (show false = true from h) (by decide), ⟨rfl, fun j hj => absurd hj (Nat.not_lt_zero j)⟩, fun i _ => rfl, rfl, rfl⟩
theorem inv0 : Inv σ0 := ⟨A0, ok0, ci0, mi0⟩
theorem sim_N (N : Nat) (hN : 300 < N) (hBX : BX 10 + 10 < N) : Sim N Inv := ⟨sim_water N hN, sim_dark N, sim_canal N, sim_rower N, sim_guest N, sim_type N, sim_clear N, sim_read N hN, sim_rows N hN, sim_enters N hN, sim_undo N hN, sim_of' N, sim_who N, sim_about N hN, sim_strokes N, sim_far N hN, sim_would N hN, sim_way N hN hBX, sim_gentle N hN hBX, sim_where N hN hBX, sim_share N hN hBX, sim_seen N, sim_tongues N hN, sim_tell N hN, sim_note N, sim_mark N, sim_forget N, sim_is N hN, sim_look N hN, sim_kinds N hN, sim_ask N hN, sim_lamp N hN, sim_odds N hN hBX, sim_mean N hN hBX, sim_nights N hN, sim_part N, sim_image N hN, sim_from N hN, sim_status N, sim_count N hN, sim_digest N hN⟩
theorem sim_all : ∃ (N : Nat) (Inv : St → Prop), Inv σ0 ∧ Sim N Inv := by
  obtain ⟨B, hB⟩ : ∃ B, B = BX 10 := ⟨_, rfl⟩
  exact ⟨B + 400, Inv, inv0, sim_N (B + 400) (by omega) (by omega)⟩
