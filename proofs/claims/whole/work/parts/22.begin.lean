theorem inB_nI {k n : Nat} (h : k < n) (hn : n < 2 ^ 31) : inB (nI k) n = true := by
  have := vp_in_nI h hn
  unfold vp_in at this
  unfold inB
  simpa using this
theorem set_same {tl : List va_E} {j : Nat} {e : va_E} (h : tl[j]? = some e) : tl.set j e = tl := by
  apply List.ext_getElem?
  intro k
  by_cases hk : k = j
  · subst hk
    rw [List.getElem?_set_self (List.getElem?_eq_some_iff.mp h).1, h]
  · rw [List.getElem?_set_ne (Ne.symm hk)]
theorem upd0 (k : Nat) : upd (fun _ => 0) k 0 = fun _ => 0 := by funext q; simp [upd]
set_option maxRecDepth 20000 in
theorem k_begin (X : Cx) (cs0 tl : List va_E) (n : Nat) (hn : cs0.length = n) (h1 : tl[1]? = some (.inr (4, [.ref (X.2.1 + (n + 2)), .ref (X.2.1 + (n + 3)), .ref (X.2.1 + (n + 4)), .ref (X.2.1 + (n + 5)), .int 0, .int 0, .ref (X.2.1 + (n + 6)), .ref (X.2.1 + (n + 8)), .ref (X.2.1 + (n + 10)), .ref (X.2.1 + (n + 12))]))) (h2 : tl[2]? = some (.inl (X.2.2.2.1 1, 8, .inl (fun _ => 0)))) (h3 : tl[3]? = some (.inl (X.2.2.2.1 1, 64, .inl (fun _ => 0)))) (h6 : tl[6]? = some (.inr (9, [.int 4, .int 5, .ref (X.2.1 + (n + 7)), .int 0]))) (h8 : tl[8]? = some (.inr (9, [.int 6, .int 6, .ref (X.2.1 + (n + 9)), .int 0]))) (h10 : tl[10]? = some (.inr (9, [.int 5, .int 6, .ref (X.2.1 + (n + 11)), .int 0]))) (h12 : tl[12]? = some (.inr (5, [.ref (X.2.1 + (n + 13)), .int 0]))) : CtrC X yX4_begin cX4_begin 3 1 0 0 [.ref (X.2.1 + (n + 1)), .int 3] (cs0 ++ tl) (cs0 ++ tl.set 2 (.inl (X.2.2.2.1 1, 8, .inl (upd (upd (upd (upd (upd (upd (upd (upd (fun _ => 0) (0 : Int32).toNatClampNeg 3) (1 : Int32).toNatClampNeg 3) (2 : Int32).toNatClampNeg 3) (3 : Int32).toNatClampNeg 3) (4 : Int32).toNatClampNeg 3) (5 : Int32).toNatClampNeg 3) (6 : Int32).toNatClampNeg 3) (7 : Int32).toNatClampNeg 3)))) := by
  have h2l : 2 < tl.length := (List.getElem?_eq_some_iff.mp h2).1
  have F : ∀ f : Nat → Int32, (tl.set 2 (.inl (X.2.2.2.1 1, 8, .inl (f))))[1]? = some (.inr (4, [.ref (X.2.1 + (n + 2)), .ref (X.2.1 + (n + 3)), .ref (X.2.1 + (n + 4)), .ref (X.2.1 + (n + 5)), .int 0, .int 0, .ref (X.2.1 + (n + 6)), .ref (X.2.1 + (n + 8)), .ref (X.2.1 + (n + 10)), .ref (X.2.1 + (n + 12))])) ∧ (tl.set 2 (.inl (X.2.2.2.1 1, 8, .inl (f))))[2]? = some (.inl (X.2.2.2.1 1, 8, .inl (f))) ∧ (tl.set 2 (.inl (X.2.2.2.1 1, 8, .inl (f))))[3]? = some (.inl (X.2.2.2.1 1, 64, .inl (fun _ => 0))) ∧ (tl.set 2 (.inl (X.2.2.2.1 1, 8, .inl (f))))[6]? = some (.inr (9, [.int 4, .int 5, .ref (X.2.1 + (n + 7)), .int 0])) ∧ (tl.set 2 (.inl (X.2.2.2.1 1, 8, .inl (f))))[8]? = some (.inr (9, [.int 6, .int 6, .ref (X.2.1 + (n + 9)), .int 0])) ∧ (tl.set 2 (.inl (X.2.2.2.1 1, 8, .inl (f))))[10]? = some (.inr (9, [.int 5, .int 6, .ref (X.2.1 + (n + 11)), .int 0])) ∧ (tl.set 2 (.inl (X.2.2.2.1 1, 8, .inl (f))))[12]? = some (.inr (5, [.ref (X.2.1 + (n + 13)), .int 0])) := by
    intro f
    refine ⟨?_, List.getElem?_set_self h2l, ?_, ?_, ?_, ?_, ?_⟩ <;> rw [List.getElem?_set_ne (by decide)] <;> assumption
  have e0 : tl = tl.set 2 (.inl (X.2.2.2.1 1, 8, .inl (fun _ => 0))) := (set_same h2).symm
  rw [show cs0 ++ tl = cs0 ++ tl.set 2 (.inl (X.2.2.2.1 1, 8, .inl (fun _ => 0))) from congrArg (fun z => cs0 ++ z) e0]
  refine CtrC.of rfl (Nat.le_of_ble_eq_true rfl) (fun G hG => ?_)
  refine k_iconst (pc := 0) (v := 0) (by decide) hG dX4_begin_0 ?_
  refine k_istore_n (pc := 1) (lv' := [(2, .int 0), (0, .ref (X.2.1 + (n + 1))), (1, .int 3)]) 2 rfl (by decide) rfl hG dX4_begin_1 ?_
  refine k_iload_n (pc := 2) 0 2 rfl rfl hG dX4_begin_2 ?_
  refine k_bipush (pc := 3) (v := 8) (by decide) hG dX4_begin_3 ?_
  refine k_geF (pc := 5) (tgt := 21) (by decide) (by decide) hG dX4_begin_5 ?_
  refine k_aload_n (pc := 8) 1 0 rfl rfl hG dX4_begin_8 ?_
  refine k_get (pc := 9) (C := RX4) (T := TX4) (N := 10) (ci := 4) (q := 0) (i := n) (j := 1) (v := .ref (X.2.1 + (n + 2))) (fs := [.ref (X.2.1 + (n + 2)), .ref (X.2.1 + (n + 3)), .ref (X.2.1 + (n + 4)), .ref (X.2.1 + (n + 5)), .int 0, .int 0, .ref (X.2.1 + (n + 6)), .ref (X.2.1 + (n + 8)), .ref (X.2.1 + (n + 10)), .ref (X.2.1 + (n + 12))]) iX4 rfl (by decide) (inL1 144 (by decide +kernel) rfl) rfl hn (F (fun _ => 0)).1 hG dX4_begin_9 ?_
  refine k_iload_n (pc := 12) 0 2 rfl rfl hG dX4_begin_12 ?_
  refine k_iload_n (pc := 13) 2 1 rfl rfl hG dX4_begin_13 ?_
  refine k_iast (pc := 14) (tl' := tl.set 2 (.inl (X.2.2.2.1 1, 8, .inl (upd (fun _ => 0) (0 : Int32).toNatClampNeg 3)))) (i := n) (j := 2) (N := 8) (by decide) hn (F (fun _ => 0)).2.1 (List.set_set ..) hG dX4_begin_14 ?_
  refine k_iinc (pc := 15) (v := 1) (lv' := [(2, .int 1), (0, .ref (X.2.1 + (n + 1))), (1, .int 3)]) 0 rfl (by decide) (by decide) rfl hG dX4_begin_15 ?_
  refine k_goto (pc := 18) (tgt := 2) (by decide) hG dX4_begin_18 ?_
  refine k_iload_n (pc := 2) 0 2 rfl rfl hG dX4_begin_2 ?_
  refine k_bipush (pc := 3) (v := 8) (by decide) hG dX4_begin_3 ?_
  refine k_geF (pc := 5) (tgt := 21) (by decide) (by decide) hG dX4_begin_5 ?_
  refine k_aload_n (pc := 8) 1 0 rfl rfl hG dX4_begin_8 ?_
  refine k_get (pc := 9) (C := RX4) (T := TX4) (N := 10) (ci := 4) (q := 0) (i := n) (j := 1) (v := .ref (X.2.1 + (n + 2))) (fs := [.ref (X.2.1 + (n + 2)), .ref (X.2.1 + (n + 3)), .ref (X.2.1 + (n + 4)), .ref (X.2.1 + (n + 5)), .int 0, .int 0, .ref (X.2.1 + (n + 6)), .ref (X.2.1 + (n + 8)), .ref (X.2.1 + (n + 10)), .ref (X.2.1 + (n + 12))]) iX4 rfl (by decide) (inL1 144 (by decide +kernel) rfl) rfl hn (F (upd (fun _ => 0) (0 : Int32).toNatClampNeg 3)).1 hG dX4_begin_9 ?_
  refine k_iload_n (pc := 12) 0 2 rfl rfl hG dX4_begin_12 ?_
  refine k_iload_n (pc := 13) 2 1 rfl rfl hG dX4_begin_13 ?_
  refine k_iast (pc := 14) (tl' := tl.set 2 (.inl (X.2.2.2.1 1, 8, .inl (upd (upd (fun _ => 0) (0 : Int32).toNatClampNeg 3) (1 : Int32).toNatClampNeg 3)))) (i := n) (j := 2) (N := 8) (by decide) hn (F (upd (fun _ => 0) (0 : Int32).toNatClampNeg 3)).2.1 (List.set_set ..) hG dX4_begin_14 ?_
  refine k_iinc (pc := 15) (v := 2) (lv' := [(2, .int 2), (0, .ref (X.2.1 + (n + 1))), (1, .int 3)]) 0 rfl (by decide) (by decide) rfl hG dX4_begin_15 ?_
  refine k_goto (pc := 18) (tgt := 2) (by decide) hG dX4_begin_18 ?_
  refine k_iload_n (pc := 2) 0 2 rfl rfl hG dX4_begin_2 ?_
  refine k_bipush (pc := 3) (v := 8) (by decide) hG dX4_begin_3 ?_
  refine k_geF (pc := 5) (tgt := 21) (by decide) (by decide) hG dX4_begin_5 ?_
  refine k_aload_n (pc := 8) 1 0 rfl rfl hG dX4_begin_8 ?_
  refine k_get (pc := 9) (C := RX4) (T := TX4) (N := 10) (ci := 4) (q := 0) (i := n) (j := 1) (v := .ref (X.2.1 + (n + 2))) (fs := [.ref (X.2.1 + (n + 2)), .ref (X.2.1 + (n + 3)), .ref (X.2.1 + (n + 4)), .ref (X.2.1 + (n + 5)), .int 0, .int 0, .ref (X.2.1 + (n + 6)), .ref (X.2.1 + (n + 8)), .ref (X.2.1 + (n + 10)), .ref (X.2.1 + (n + 12))]) iX4 rfl (by decide) (inL1 144 (by decide +kernel) rfl) rfl hn (F (upd (upd (fun _ => 0) (0 : Int32).toNatClampNeg 3) (1 : Int32).toNatClampNeg 3)).1 hG dX4_begin_9 ?_
  refine k_iload_n (pc := 12) 0 2 rfl rfl hG dX4_begin_12 ?_
  refine k_iload_n (pc := 13) 2 1 rfl rfl hG dX4_begin_13 ?_
  refine k_iast (pc := 14) (tl' := tl.set 2 (.inl (X.2.2.2.1 1, 8, .inl (upd (upd (upd (fun _ => 0) (0 : Int32).toNatClampNeg 3) (1 : Int32).toNatClampNeg 3) (2 : Int32).toNatClampNeg 3)))) (i := n) (j := 2) (N := 8) (by decide) hn (F (upd (upd (fun _ => 0) (0 : Int32).toNatClampNeg 3) (1 : Int32).toNatClampNeg 3)).2.1 (List.set_set ..) hG dX4_begin_14 ?_
  refine k_iinc (pc := 15) (v := 3) (lv' := [(2, .int 3), (0, .ref (X.2.1 + (n + 1))), (1, .int 3)]) 0 rfl (by decide) (by decide) rfl hG dX4_begin_15 ?_
  refine k_goto (pc := 18) (tgt := 2) (by decide) hG dX4_begin_18 ?_
  refine k_iload_n (pc := 2) 0 2 rfl rfl hG dX4_begin_2 ?_
  refine k_bipush (pc := 3) (v := 8) (by decide) hG dX4_begin_3 ?_
  refine k_geF (pc := 5) (tgt := 21) (by decide) (by decide) hG dX4_begin_5 ?_
  refine k_aload_n (pc := 8) 1 0 rfl rfl hG dX4_begin_8 ?_
  refine k_get (pc := 9) (C := RX4) (T := TX4) (N := 10) (ci := 4) (q := 0) (i := n) (j := 1) (v := .ref (X.2.1 + (n + 2))) (fs := [.ref (X.2.1 + (n + 2)), .ref (X.2.1 + (n + 3)), .ref (X.2.1 + (n + 4)), .ref (X.2.1 + (n + 5)), .int 0, .int 0, .ref (X.2.1 + (n + 6)), .ref (X.2.1 + (n + 8)), .ref (X.2.1 + (n + 10)), .ref (X.2.1 + (n + 12))]) iX4 rfl (by decide) (inL1 144 (by decide +kernel) rfl) rfl hn (F (upd (upd (upd (fun _ => 0) (0 : Int32).toNatClampNeg 3) (1 : Int32).toNatClampNeg 3) (2 : Int32).toNatClampNeg 3)).1 hG dX4_begin_9 ?_
  refine k_iload_n (pc := 12) 0 2 rfl rfl hG dX4_begin_12 ?_
  refine k_iload_n (pc := 13) 2 1 rfl rfl hG dX4_begin_13 ?_
  refine k_iast (pc := 14) (tl' := tl.set 2 (.inl (X.2.2.2.1 1, 8, .inl (upd (upd (upd (upd (fun _ => 0) (0 : Int32).toNatClampNeg 3) (1 : Int32).toNatClampNeg 3) (2 : Int32).toNatClampNeg 3) (3 : Int32).toNatClampNeg 3)))) (i := n) (j := 2) (N := 8) (by decide) hn (F (upd (upd (upd (fun _ => 0) (0 : Int32).toNatClampNeg 3) (1 : Int32).toNatClampNeg 3) (2 : Int32).toNatClampNeg 3)).2.1 (List.set_set ..) hG dX4_begin_14 ?_
  refine k_iinc (pc := 15) (v := 4) (lv' := [(2, .int 4), (0, .ref (X.2.1 + (n + 1))), (1, .int 3)]) 0 rfl (by decide) (by decide) rfl hG dX4_begin_15 ?_
  refine k_goto (pc := 18) (tgt := 2) (by decide) hG dX4_begin_18 ?_
  refine k_iload_n (pc := 2) 0 2 rfl rfl hG dX4_begin_2 ?_
  refine k_bipush (pc := 3) (v := 8) (by decide) hG dX4_begin_3 ?_
  refine k_geF (pc := 5) (tgt := 21) (by decide) (by decide) hG dX4_begin_5 ?_
  refine k_aload_n (pc := 8) 1 0 rfl rfl hG dX4_begin_8 ?_
  refine k_get (pc := 9) (C := RX4) (T := TX4) (N := 10) (ci := 4) (q := 0) (i := n) (j := 1) (v := .ref (X.2.1 + (n + 2))) (fs := [.ref (X.2.1 + (n + 2)), .ref (X.2.1 + (n + 3)), .ref (X.2.1 + (n + 4)), .ref (X.2.1 + (n + 5)), .int 0, .int 0, .ref (X.2.1 + (n + 6)), .ref (X.2.1 + (n + 8)), .ref (X.2.1 + (n + 10)), .ref (X.2.1 + (n + 12))]) iX4 rfl (by decide) (inL1 144 (by decide +kernel) rfl) rfl hn (F (upd (upd (upd (upd (fun _ => 0) (0 : Int32).toNatClampNeg 3) (1 : Int32).toNatClampNeg 3) (2 : Int32).toNatClampNeg 3) (3 : Int32).toNatClampNeg 3)).1 hG dX4_begin_9 ?_
  refine k_iload_n (pc := 12) 0 2 rfl rfl hG dX4_begin_12 ?_
  refine k_iload_n (pc := 13) 2 1 rfl rfl hG dX4_begin_13 ?_
  refine k_iast (pc := 14) (tl' := tl.set 2 (.inl (X.2.2.2.1 1, 8, .inl (upd (upd (upd (upd (upd (fun _ => 0) (0 : Int32).toNatClampNeg 3) (1 : Int32).toNatClampNeg 3) (2 : Int32).toNatClampNeg 3) (3 : Int32).toNatClampNeg 3) (4 : Int32).toNatClampNeg 3)))) (i := n) (j := 2) (N := 8) (by decide) hn (F (upd (upd (upd (upd (fun _ => 0) (0 : Int32).toNatClampNeg 3) (1 : Int32).toNatClampNeg 3) (2 : Int32).toNatClampNeg 3) (3 : Int32).toNatClampNeg 3)).2.1 (List.set_set ..) hG dX4_begin_14 ?_
  refine k_iinc (pc := 15) (v := 5) (lv' := [(2, .int 5), (0, .ref (X.2.1 + (n + 1))), (1, .int 3)]) 0 rfl (by decide) (by decide) rfl hG dX4_begin_15 ?_
  refine k_goto (pc := 18) (tgt := 2) (by decide) hG dX4_begin_18 ?_
  refine k_iload_n (pc := 2) 0 2 rfl rfl hG dX4_begin_2 ?_
  refine k_bipush (pc := 3) (v := 8) (by decide) hG dX4_begin_3 ?_
  refine k_geF (pc := 5) (tgt := 21) (by decide) (by decide) hG dX4_begin_5 ?_
  refine k_aload_n (pc := 8) 1 0 rfl rfl hG dX4_begin_8 ?_
  refine k_get (pc := 9) (C := RX4) (T := TX4) (N := 10) (ci := 4) (q := 0) (i := n) (j := 1) (v := .ref (X.2.1 + (n + 2))) (fs := [.ref (X.2.1 + (n + 2)), .ref (X.2.1 + (n + 3)), .ref (X.2.1 + (n + 4)), .ref (X.2.1 + (n + 5)), .int 0, .int 0, .ref (X.2.1 + (n + 6)), .ref (X.2.1 + (n + 8)), .ref (X.2.1 + (n + 10)), .ref (X.2.1 + (n + 12))]) iX4 rfl (by decide) (inL1 144 (by decide +kernel) rfl) rfl hn (F (upd (upd (upd (upd (upd (fun _ => 0) (0 : Int32).toNatClampNeg 3) (1 : Int32).toNatClampNeg 3) (2 : Int32).toNatClampNeg 3) (3 : Int32).toNatClampNeg 3) (4 : Int32).toNatClampNeg 3)).1 hG dX4_begin_9 ?_
  refine k_iload_n (pc := 12) 0 2 rfl rfl hG dX4_begin_12 ?_
  refine k_iload_n (pc := 13) 2 1 rfl rfl hG dX4_begin_13 ?_
  refine k_iast (pc := 14) (tl' := tl.set 2 (.inl (X.2.2.2.1 1, 8, .inl (upd (upd (upd (upd (upd (upd (fun _ => 0) (0 : Int32).toNatClampNeg 3) (1 : Int32).toNatClampNeg 3) (2 : Int32).toNatClampNeg 3) (3 : Int32).toNatClampNeg 3) (4 : Int32).toNatClampNeg 3) (5 : Int32).toNatClampNeg 3)))) (i := n) (j := 2) (N := 8) (by decide) hn (F (upd (upd (upd (upd (upd (fun _ => 0) (0 : Int32).toNatClampNeg 3) (1 : Int32).toNatClampNeg 3) (2 : Int32).toNatClampNeg 3) (3 : Int32).toNatClampNeg 3) (4 : Int32).toNatClampNeg 3)).2.1 (List.set_set ..) hG dX4_begin_14 ?_
  refine k_iinc (pc := 15) (v := 6) (lv' := [(2, .int 6), (0, .ref (X.2.1 + (n + 1))), (1, .int 3)]) 0 rfl (by decide) (by decide) rfl hG dX4_begin_15 ?_
  refine k_goto (pc := 18) (tgt := 2) (by decide) hG dX4_begin_18 ?_
  refine k_iload_n (pc := 2) 0 2 rfl rfl hG dX4_begin_2 ?_
  refine k_bipush (pc := 3) (v := 8) (by decide) hG dX4_begin_3 ?_
  refine k_geF (pc := 5) (tgt := 21) (by decide) (by decide) hG dX4_begin_5 ?_
  refine k_aload_n (pc := 8) 1 0 rfl rfl hG dX4_begin_8 ?_
  refine k_get (pc := 9) (C := RX4) (T := TX4) (N := 10) (ci := 4) (q := 0) (i := n) (j := 1) (v := .ref (X.2.1 + (n + 2))) (fs := [.ref (X.2.1 + (n + 2)), .ref (X.2.1 + (n + 3)), .ref (X.2.1 + (n + 4)), .ref (X.2.1 + (n + 5)), .int 0, .int 0, .ref (X.2.1 + (n + 6)), .ref (X.2.1 + (n + 8)), .ref (X.2.1 + (n + 10)), .ref (X.2.1 + (n + 12))]) iX4 rfl (by decide) (inL1 144 (by decide +kernel) rfl) rfl hn (F (upd (upd (upd (upd (upd (upd (fun _ => 0) (0 : Int32).toNatClampNeg 3) (1 : Int32).toNatClampNeg 3) (2 : Int32).toNatClampNeg 3) (3 : Int32).toNatClampNeg 3) (4 : Int32).toNatClampNeg 3) (5 : Int32).toNatClampNeg 3)).1 hG dX4_begin_9 ?_
  refine k_iload_n (pc := 12) 0 2 rfl rfl hG dX4_begin_12 ?_
  refine k_iload_n (pc := 13) 2 1 rfl rfl hG dX4_begin_13 ?_
  refine k_iast (pc := 14) (tl' := tl.set 2 (.inl (X.2.2.2.1 1, 8, .inl (upd (upd (upd (upd (upd (upd (upd (fun _ => 0) (0 : Int32).toNatClampNeg 3) (1 : Int32).toNatClampNeg 3) (2 : Int32).toNatClampNeg 3) (3 : Int32).toNatClampNeg 3) (4 : Int32).toNatClampNeg 3) (5 : Int32).toNatClampNeg 3) (6 : Int32).toNatClampNeg 3)))) (i := n) (j := 2) (N := 8) (by decide) hn (F (upd (upd (upd (upd (upd (upd (fun _ => 0) (0 : Int32).toNatClampNeg 3) (1 : Int32).toNatClampNeg 3) (2 : Int32).toNatClampNeg 3) (3 : Int32).toNatClampNeg 3) (4 : Int32).toNatClampNeg 3) (5 : Int32).toNatClampNeg 3)).2.1 (List.set_set ..) hG dX4_begin_14 ?_
  refine k_iinc (pc := 15) (v := 7) (lv' := [(2, .int 7), (0, .ref (X.2.1 + (n + 1))), (1, .int 3)]) 0 rfl (by decide) (by decide) rfl hG dX4_begin_15 ?_
  refine k_goto (pc := 18) (tgt := 2) (by decide) hG dX4_begin_18 ?_
  refine k_iload_n (pc := 2) 0 2 rfl rfl hG dX4_begin_2 ?_
  refine k_bipush (pc := 3) (v := 8) (by decide) hG dX4_begin_3 ?_
  refine k_geF (pc := 5) (tgt := 21) (by decide) (by decide) hG dX4_begin_5 ?_
  refine k_aload_n (pc := 8) 1 0 rfl rfl hG dX4_begin_8 ?_
  refine k_get (pc := 9) (C := RX4) (T := TX4) (N := 10) (ci := 4) (q := 0) (i := n) (j := 1) (v := .ref (X.2.1 + (n + 2))) (fs := [.ref (X.2.1 + (n + 2)), .ref (X.2.1 + (n + 3)), .ref (X.2.1 + (n + 4)), .ref (X.2.1 + (n + 5)), .int 0, .int 0, .ref (X.2.1 + (n + 6)), .ref (X.2.1 + (n + 8)), .ref (X.2.1 + (n + 10)), .ref (X.2.1 + (n + 12))]) iX4 rfl (by decide) (inL1 144 (by decide +kernel) rfl) rfl hn (F (upd (upd (upd (upd (upd (upd (upd (fun _ => 0) (0 : Int32).toNatClampNeg 3) (1 : Int32).toNatClampNeg 3) (2 : Int32).toNatClampNeg 3) (3 : Int32).toNatClampNeg 3) (4 : Int32).toNatClampNeg 3) (5 : Int32).toNatClampNeg 3) (6 : Int32).toNatClampNeg 3)).1 hG dX4_begin_9 ?_
  refine k_iload_n (pc := 12) 0 2 rfl rfl hG dX4_begin_12 ?_
  refine k_iload_n (pc := 13) 2 1 rfl rfl hG dX4_begin_13 ?_
  refine k_iast (pc := 14) (tl' := tl.set 2 (.inl (X.2.2.2.1 1, 8, .inl (upd (upd (upd (upd (upd (upd (upd (upd (fun _ => 0) (0 : Int32).toNatClampNeg 3) (1 : Int32).toNatClampNeg 3) (2 : Int32).toNatClampNeg 3) (3 : Int32).toNatClampNeg 3) (4 : Int32).toNatClampNeg 3) (5 : Int32).toNatClampNeg 3) (6 : Int32).toNatClampNeg 3) (7 : Int32).toNatClampNeg 3)))) (i := n) (j := 2) (N := 8) (by decide) hn (F (upd (upd (upd (upd (upd (upd (upd (fun _ => 0) (0 : Int32).toNatClampNeg 3) (1 : Int32).toNatClampNeg 3) (2 : Int32).toNatClampNeg 3) (3 : Int32).toNatClampNeg 3) (4 : Int32).toNatClampNeg 3) (5 : Int32).toNatClampNeg 3) (6 : Int32).toNatClampNeg 3)).2.1 (List.set_set ..) hG dX4_begin_14 ?_
  refine k_iinc (pc := 15) (v := 8) (lv' := [(2, .int 8), (0, .ref (X.2.1 + (n + 1))), (1, .int 3)]) 0 rfl (by decide) (by decide) rfl hG dX4_begin_15 ?_
  refine k_goto (pc := 18) (tgt := 2) (by decide) hG dX4_begin_18 ?_
  refine k_iload_n (pc := 2) 0 2 rfl rfl hG dX4_begin_2 ?_
  refine k_bipush (pc := 3) (v := 8) (by decide) hG dX4_begin_3 ?_
  refine k_geT (pc := 5) (tgt := 21) (by decide) (by decide) hG dX4_begin_5 ?_
  refine k_iconst (pc := 21) (v := 0) (by decide) hG dX4_begin_21 ?_
  refine k_istore_n (pc := 22) (lv' := [(2, .int 0), (0, .ref (X.2.1 + (n + 1))), (1, .int 3)]) 2 rfl (by decide) rfl hG dX4_begin_22 ?_
  generalize hu : tl.set 2 (.inl (X.2.2.2.1 1, 8, .inl (upd (upd (upd (upd (upd (upd (upd (upd (fun _ => 0) (0 : Int32).toNatClampNeg 3) (1 : Int32).toNatClampNeg 3) (2 : Int32).toNatClampNeg 3) (3 : Int32).toNatClampNeg 3) (4 : Int32).toNatClampNeg 3) (5 : Int32).toNatClampNeg 3) (6 : Int32).toNatClampNeg 3) (7 : Int32).toNatClampNeg 3))) = u
  have hF := F (upd (upd (upd (upd (upd (upd (upd (upd (fun _ => 0) (0 : Int32).toNatClampNeg 3) (1 : Int32).toNatClampNeg 3) (2 : Int32).toNatClampNeg 3) (3 : Int32).toNatClampNeg 3) (4 : Int32).toNatClampNeg 3) (5 : Int32).toNatClampNeg 3) (6 : Int32).toNatClampNeg 3) (7 : Int32).toNatClampNeg 3)
  rw [hu] at hF hG
  obtain ⟨u1, u2, u3, u6, u8, u10, u12⟩ := hF
  have loop : ∀ m, m ≤ 64 → G u 0 0 23 [(2, .int (nI (64 - m))), (0, .ref (X.2.1 + (n + 1))), (1, .int 3)] [] := by
    intro m
    induction m with
    | zero =>
      intro _
      refine k_iload_n (pc := 23) 0 2 rfl rfl hG dX4_begin_23 ?_
      refine k_aload_n (pc := 24) 1 0 rfl rfl hG dX4_begin_24 ?_
      refine k_get (pc := 25) (C := RX4) (T := TX4) (N := 10) (ci := 4) (q := 1) (i := n) (j := 1) (v := .ref (X.2.1 + (n + 3))) (fs := [.ref (X.2.1 + (n + 2)), .ref (X.2.1 + (n + 3)), .ref (X.2.1 + (n + 4)), .ref (X.2.1 + (n + 5)), .int 0, .int 0, .ref (X.2.1 + (n + 6)), .ref (X.2.1 + (n + 8)), .ref (X.2.1 + (n + 10)), .ref (X.2.1 + (n + 12))]) iX4 rfl (by decide) (inL1 147 (by decide +kernel) rfl) rfl hn u1 hG dX4_begin_25 ?_
      refine k_alen (pc := 28) (i := n) (j := 3) (N := 64) hn u3 hG dX4_begin_28 ?_
      refine k_geT (pc := 29) (tgt := 45) (by decide) (by decide) hG dX4_begin_29 ?_
      refine k_aload_n (pc := 45) 1 0 rfl rfl hG dX4_begin_45 ?_
      refine k_iconst (pc := 46) (v := 0) (by decide) hG dX4_begin_46 ?_
      refine k_put (pc := 47) (tl' := u) (C := RX4) (T := TX4) (N := 10) (ci := 4) (q := 4) (i := n) (j := 1) (v := .int 0) (ty := .int) (fs := [.ref (X.2.1 + (n + 2)), .ref (X.2.1 + (n + 3)), .ref (X.2.1 + (n + 4)), .ref (X.2.1 + (n + 5)), .int 0, .int 0, .ref (X.2.1 + (n + 6)), .ref (X.2.1 + (n + 8)), .ref (X.2.1 + (n + 10)), .ref (X.2.1 + (n + 12))]) tyX4 iX4 tyX4_ok nmX4 rfl (by decide) (inL1 160 (by decide +kernel) rfl) rfl (by decide +kernel) rfl rfl (Nat.le_of_ble_eq_true rfl) hn u1 (set_same u1) hG dX4_begin_47 ?_
      refine k_aload_n (pc := 50) 1 0 rfl rfl hG dX4_begin_50 ?_
      refine k_iconst (pc := 51) (v := 0) (by decide) hG dX4_begin_51 ?_
      refine k_put (pc := 52) (tl' := u) (C := RX4) (T := TX4) (N := 10) (ci := 4) (q := 5) (i := n) (j := 1) (v := .int 0) (ty := .int) (fs := [.ref (X.2.1 + (n + 2)), .ref (X.2.1 + (n + 3)), .ref (X.2.1 + (n + 4)), .ref (X.2.1 + (n + 5)), .int 0, .int 0, .ref (X.2.1 + (n + 6)), .ref (X.2.1 + (n + 8)), .ref (X.2.1 + (n + 10)), .ref (X.2.1 + (n + 12))]) tyX4 iX4 tyX4_ok nmX4 rfl (by decide) (inL1 165 (by decide +kernel) rfl) rfl (by decide +kernel) rfl rfl (Nat.le_of_ble_eq_true rfl) hn u1 (set_same u1) hG dX4_begin_52 ?_
      refine k_aload_n (pc := 55) 1 0 rfl rfl hG dX4_begin_55 ?_
      refine k_get (pc := 56) (C := RX4) (T := TX4) (N := 10) (ci := 4) (q := 6) (i := n) (j := 1) (v := .ref (X.2.1 + (n + 6))) (fs := [.ref (X.2.1 + (n + 2)), .ref (X.2.1 + (n + 3)), .ref (X.2.1 + (n + 4)), .ref (X.2.1 + (n + 5)), .int 0, .int 0, .ref (X.2.1 + (n + 6)), .ref (X.2.1 + (n + 8)), .ref (X.2.1 + (n + 10)), .ref (X.2.1 + (n + 12))]) iX4 rfl (by decide) (inL1 167 (by decide +kernel) rfl) rfl hn u1 hG dX4_begin_56 ?_
      refine k_iconst (pc := 59) (v := 0) (by decide) hG dX4_begin_59 ?_
      refine k_put (pc := 60) (tl' := u) (C := RX9) (T := TX9) (N := 4) (ci := 9) (q := 3) (i := n) (j := 6) (v := .int 0) (ty := .int) (fs := [.int 4, .int 5, .ref (X.2.1 + (n + 7)), .int 0]) tyX9 iX9 tyX9_ok nmX9 rfl (by decide) (inL1 49 (by decide +kernel) rfl) rfl (by decide +kernel) rfl rfl (Nat.le_of_ble_eq_true rfl) hn u6 (set_same u6) hG dX4_begin_60 ?_
      refine k_aload_n (pc := 63) 1 0 rfl rfl hG dX4_begin_63 ?_
      refine k_get (pc := 64) (C := RX4) (T := TX4) (N := 10) (ci := 4) (q := 7) (i := n) (j := 1) (v := .ref (X.2.1 + (n + 8))) (fs := [.ref (X.2.1 + (n + 2)), .ref (X.2.1 + (n + 3)), .ref (X.2.1 + (n + 4)), .ref (X.2.1 + (n + 5)), .int 0, .int 0, .ref (X.2.1 + (n + 6)), .ref (X.2.1 + (n + 8)), .ref (X.2.1 + (n + 10)), .ref (X.2.1 + (n + 12))]) iX4 rfl (by decide) (inL1 170 (by decide +kernel) rfl) rfl hn u1 hG dX4_begin_64 ?_
      refine k_iconst (pc := 67) (v := 0) (by decide) hG dX4_begin_67 ?_
      refine k_put (pc := 68) (tl' := u) (C := RX9) (T := TX9) (N := 4) (ci := 9) (q := 3) (i := n) (j := 8) (v := .int 0) (ty := .int) (fs := [.int 6, .int 6, .ref (X.2.1 + (n + 9)), .int 0]) tyX9 iX9 tyX9_ok nmX9 rfl (by decide) (inL1 49 (by decide +kernel) rfl) rfl (by decide +kernel) rfl rfl (Nat.le_of_ble_eq_true rfl) hn u8 (set_same u8) hG dX4_begin_68 ?_
      refine k_aload_n (pc := 71) 1 0 rfl rfl hG dX4_begin_71 ?_
      refine k_get (pc := 72) (C := RX4) (T := TX4) (N := 10) (ci := 4) (q := 8) (i := n) (j := 1) (v := .ref (X.2.1 + (n + 10))) (fs := [.ref (X.2.1 + (n + 2)), .ref (X.2.1 + (n + 3)), .ref (X.2.1 + (n + 4)), .ref (X.2.1 + (n + 5)), .int 0, .int 0, .ref (X.2.1 + (n + 6)), .ref (X.2.1 + (n + 8)), .ref (X.2.1 + (n + 10)), .ref (X.2.1 + (n + 12))]) iX4 rfl (by decide) (inL1 173 (by decide +kernel) rfl) rfl hn u1 hG dX4_begin_72 ?_
      refine k_iconst (pc := 75) (v := 0) (by decide) hG dX4_begin_75 ?_
      refine k_put (pc := 76) (tl' := u) (C := RX9) (T := TX9) (N := 4) (ci := 9) (q := 3) (i := n) (j := 10) (v := .int 0) (ty := .int) (fs := [.int 5, .int 6, .ref (X.2.1 + (n + 11)), .int 0]) tyX9 iX9 tyX9_ok nmX9 rfl (by decide) (inL1 49 (by decide +kernel) rfl) rfl (by decide +kernel) rfl rfl (Nat.le_of_ble_eq_true rfl) hn u10 (set_same u10) hG dX4_begin_76 ?_
      refine k_aload_n (pc := 79) 1 0 rfl rfl hG dX4_begin_79 ?_
      refine k_get (pc := 80) (C := RX4) (T := TX4) (N := 10) (ci := 4) (q := 9) (i := n) (j := 1) (v := .ref (X.2.1 + (n + 12))) (fs := [.ref (X.2.1 + (n + 2)), .ref (X.2.1 + (n + 3)), .ref (X.2.1 + (n + 4)), .ref (X.2.1 + (n + 5)), .int 0, .int 0, .ref (X.2.1 + (n + 6)), .ref (X.2.1 + (n + 8)), .ref (X.2.1 + (n + 10)), .ref (X.2.1 + (n + 12))]) iX4 rfl (by decide) (inL1 176 (by decide +kernel) rfl) rfl hn u1 hG dX4_begin_80 ?_
      refine k_iconst (pc := 83) (v := 0) (by decide) hG dX4_begin_83 ?_
      refine k_put (pc := 84) (tl' := u) (C := RX5) (T := TX5) (N := 2) (ci := 5) (q := 1) (i := n) (j := 12) (v := .int 0) (ty := .int) (fs := [.ref (X.2.1 + (n + 13)), .int 0]) tyX5 iX5 tyX5_ok nmX5 rfl (by decide) (inL1 70 (by decide +kernel) rfl) rfl (by decide +kernel) rfl rfl (Nat.le_of_ble_eq_true rfl) hn u12 (set_same u12) hG dX4_begin_84 ?_
      exact k_ret (pc := 87) rfl rfl rfl hG dX4_begin_87
    | succ m ih =>
      intro hm
      refine k_iload_n (pc := 23) 0 2 rfl rfl hG dX4_begin_23 ?_
      refine k_aload_n (pc := 24) 1 0 rfl rfl hG dX4_begin_24 ?_
      refine k_get (pc := 25) (C := RX4) (T := TX4) (N := 10) (ci := 4) (q := 1) (i := n) (j := 1) (v := .ref (X.2.1 + (n + 3))) (fs := [.ref (X.2.1 + (n + 2)), .ref (X.2.1 + (n + 3)), .ref (X.2.1 + (n + 4)), .ref (X.2.1 + (n + 5)), .int 0, .int 0, .ref (X.2.1 + (n + 6)), .ref (X.2.1 + (n + 8)), .ref (X.2.1 + (n + 10)), .ref (X.2.1 + (n + 12))]) iX4 rfl (by decide) (inL1 147 (by decide +kernel) rfl) rfl hn u1 hG dX4_begin_25 ?_
      refine k_alen (pc := 28) (i := n) (j := 3) (N := 64) hn u3 hG dX4_begin_28 ?_
      refine k_geF (pc := 29) (tgt := 45) (nI_ge (show 64 - (m + 1) < 64 by omega) (by decide)) (by decide) hG dX4_begin_29 ?_
      refine k_aload_n (pc := 32) 1 0 rfl rfl hG dX4_begin_32 ?_
      refine k_get (pc := 33) (C := RX4) (T := TX4) (N := 10) (ci := 4) (q := 1) (i := n) (j := 1) (v := .ref (X.2.1 + (n + 3))) (fs := [.ref (X.2.1 + (n + 2)), .ref (X.2.1 + (n + 3)), .ref (X.2.1 + (n + 4)), .ref (X.2.1 + (n + 5)), .int 0, .int 0, .ref (X.2.1 + (n + 6)), .ref (X.2.1 + (n + 8)), .ref (X.2.1 + (n + 10)), .ref (X.2.1 + (n + 12))]) iX4 rfl (by decide) (inL1 147 (by decide +kernel) rfl) rfl hn u1 hG dX4_begin_33 ?_
      refine k_iload_n (pc := 36) 0 2 rfl rfl hG dX4_begin_36 ?_
      refine k_iconst (pc := 37) (v := 0) (by decide) hG dX4_begin_37 ?_
      refine k_iast (pc := 38) (tl' := u) (i := n) (j := 3) (N := 64) (inB_nI (show 64 - (m + 1) < 64 by omega) (by decide)) hn u3 (by rw [upd0]; exact set_same u3) hG dX4_begin_38 ?_
      refine k_iinc (pc := 39) (v := nI (64 - m)) (lv' := [(2, .int (nI (64 - m))), (0, .ref (X.2.1 + (n + 1))), (1, .int 3)]) 0 rfl (by rw [show 64 - m = 64 - (m + 1) + 1 by omega]; exact (nI_succ _).symm) (by decide) rfl hG dX4_begin_39 ?_
      refine k_goto (pc := 42) (tgt := 23) (by decide) hG dX4_begin_42 ?_
      exact ih (by omega)
  exact loop 64 (Nat.le_refl 64)
