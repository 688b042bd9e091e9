theorem nest_in : ∀ q ∈ nestL, Cond.methodLinkNest q.1 q.2.1 q.2.2 "GondolaTold" ∈ lw_tbl := by decide +kernel
def sTm (i : Nat) : Term := .string "GondolaTold$Reader" (sIdx.getD i 0)
/-- what the Statement gives of the start -/
theorem start_ok {s : State} {b0 : Nat} (hts0 : ∀ w ∈ lw_tbl, w.before #[Value.ref b0] s = true) (hgv : (Jvm.Cond.and given_1 narrow_1).before #[Value.ref b0] s = true) : ∃ (D : va_G) (cy : Nat → ClassId) (κ : Kp), va_K D vwCl (tysOf cy) s ∧ Ks s.heap.size κ s ∧ AOs s := by
  have hts : ∀ w ∈ gT, w.before #[Value.ref b0] s = true := fun w h => hts0 w (List.mem_filter.mp h).1
  have hfl := flat_of_before _ hgv
  have hA : ∀ a : Nat, a < s.heap.size → ¬ (fun q : Nat => s.heap.size ≤ q) a := fun a h => Nat.not_le.mpr h
  obtain ⟨c0, iS0, hKn0⟩ := u_known (C := RX0) (T := TX0) (N := 3) (n := 3) hts iX0 (hts0 (.instantiable RX0 3) (List.mem_append_right _ (List.mem_of_getElem? (i := 281) (by decide +kernel))))
  obtain ⟨c1, iS1, hKn1⟩ := u_known (C := RX1) (T := TX1) (N := 6) (n := 6) hts iX1 (hts0 (.instantiable RX1 6) (List.mem_append_right _ (List.mem_of_getElem? (i := 95) (by decide +kernel))))
  obtain ⟨c2, iS2, hKn2⟩ := u_known (C := RX2) (T := TX2) (N := 3) (n := 3) hts iX2 (hts0 (.instantiable RX2 3) (List.mem_append_right _ (List.mem_of_getElem? (i := 315) (by decide +kernel))))
  obtain ⟨c3, iS3, hKn3⟩ := u_known (C := RX3) (T := TX3) (N := 3) (n := 3) hts iX3 (hts0 (.instantiable RX3 3) (List.mem_append_right _ (List.mem_of_getElem? (i := 297) (by decide +kernel))))
  obtain ⟨c4, iS4, hKn4⟩ := u_known (C := RX4) (T := TX4) (N := 10) (n := 10) hts iX4 (hts0 (.instantiable RX4 10) (List.mem_append_right _ (List.mem_of_getElem? (i := 30) (by decide +kernel))))
  obtain ⟨c5, iS5, hKn5⟩ := u_known (C := RX5) (T := TX5) (N := 2) (n := 2) hts iX5 (hts0 (.instantiable RX5 2) (List.mem_append_right _ (List.mem_of_getElem? (i := 63) (by decide +kernel))))
  obtain ⟨c6, iS6, hKn6⟩ := u_known (C := RX6) (T := TX6) (N := 7) (n := 7) hts iX6 (hts0 (.instantiable RX6 7) (List.mem_append_right _ (List.mem_of_getElem? (i := 335) (by decide +kernel))))
  obtain ⟨c7, iS7, hKn7⟩ := u_known (C := RX7) (T := TX7) (N := 2) (n := 2) hts iX7 (hts0 (.instantiable RX7 2) (List.mem_append_right _ (List.mem_of_getElem? (i := 77) (by decide +kernel))))
  obtain ⟨c8, iS8, hKn8⟩ := u_known (C := RX8) (T := TX8) (N := 8) (n := 8) hts iX8 (hts0 (.instantiable RX8 8) (List.mem_append_right _ (List.mem_of_getElem? (i := 246) (by decide +kernel))))
  obtain ⟨c9, iS9, hKn9⟩ := u_known (C := RX9) (T := TX9) (N := 4) (n := 4) hts iX9 (hts0 (.instantiable RX9 4) (List.mem_append_right _ (List.mem_of_getElem? (i := 40) (by decide +kernel))))
  obtain ⟨c10, iS10, hKn10⟩ := u_known (C := RX10) (T := TX10) (N := 7) (n := 7) hts iX10 (hts0 (.instantiable RX10 7) (List.mem_append_right _ (List.mem_of_getElem? (i := 203) (by decide +kernel))))
  obtain ⟨c11, iS11, hKn11⟩ := u_known (C := RX11) (T := TX11) (N := 15) (n := 15) hts iX11 (hts0 (.instantiable RX11 15) (List.mem_append_right _ (List.mem_of_getElem? (i := 22) (by decide +kernel))))
  obtain ⟨c12, iS12, hKn12⟩ := u_known (C := RX12) (T := TX12) (N := 34) (n := 34) hts iX12 (hts0 (.instantiable RX12 34) (List.mem_append_right _ (List.mem_of_getElem? (i := 1053) (by decide +kernel))))
  obtain ⟨dC, dI, hKc⟩ : ∃ (dC : Nat → ClassId) (dI : Nat → Nat → Nat), ∀ (k : Nat) (q : vw_C), vwCl[k]? = some q → u_Kn s q.1 q.2.1 q.2.2 (dC k) (dI k) := by
    refine ⟨fun k => match k with
      | 0 => c0
      | 1 => c1
      | 2 => c2
      | 3 => c3
      | 4 => c4
      | 5 => c5
      | 6 => c6
      | 7 => c7
      | 8 => c8
      | 9 => c9
      | 10 => c10
      | 11 => c11
      | _ => c12, fun k => match k with
      | 0 => iS0
      | 1 => iS1
      | 2 => iS2
      | 3 => iS3
      | 4 => iS4
      | 5 => iS5
      | 6 => iS6
      | 7 => iS7
      | 8 => iS8
      | 9 => iS9
      | 10 => iS10
      | 11 => iS11
      | _ => iS12, ?_⟩
    intro k q hq
    match k, hq with
    | 0, hq => cases hq; exact hKn0
    | 1, hq => cases hq; exact hKn1
    | 2, hq => cases hq; exact hKn2
    | 3, hq => cases hq; exact hKn3
    | 4, hq => cases hq; exact hKn4
    | 5, hq => cases hq; exact hKn5
    | 6, hq => cases hq; exact hKn6
    | 7, hq => cases hq; exact hKn7
    | 8, hq => cases hq; exact hKn8
    | 9, hq => cases hq; exact hKn9
    | 10, hq => cases hq; exact hKn10
    | 11, hq => cases hq; exact hKn11
    | 12, hq => cases hq; exact hKn12
    | k + 13, hq => simp [vwCl] at hq
  obtain ⟨a0, k0, m0, f0, g0, h0⟩ := Cond.arrayClass_spec (args := #[Value.ref b0]) (first := s) (o := none) (s := s) (idx := []) (hts0 (.arrayClass .byte) (List.mem_append_right _ (List.mem_of_getElem? (i := 244) (by decide +kernel))))
  obtain ⟨a1, k1, m1, f1, g1, h1⟩ := Cond.arrayClass_spec (args := #[Value.ref b0]) (first := s) (o := none) (s := s) (idx := []) (hts0 (.arrayClass .int) (List.mem_append_right _ (List.mem_of_getElem? (i := 61) (by decide +kernel))))
  obtain ⟨a2, k2, m2, f2, g2, h2⟩ := Cond.arrayClass_spec (args := #[Value.ref b0]) (first := s) (o := none) (s := s) (idx := []) (hts0 (.arrayClass .boolean) (List.mem_append_right _ (List.mem_of_getElem? (i := 243) (by decide +kernel))))
  have ao3 : (Cond.arrayOver (.object RX1)).before #[Value.ref b0] s = true := hts0 _ (List.mem_append_right _ (List.mem_of_getElem? (i := 38) (by decide +kernel)))
  obtain ⟨m3, a3, k3, e3, i3, f3, g3, h3⟩ := Cond.arrayOver_spec ao3
  have ao4 : (Cond.arrayOver (.object RX4)).before #[Value.ref b0] s = true := hts0 _ (List.mem_append_right _ (List.mem_of_getElem? (i := 199) (by decide +kernel)))
  obtain ⟨m4, a4, k4, e4, i4, f4, g4, h4⟩ := Cond.arrayOver_spec ao4
  have ao5 : (Cond.arrayOver (.object RX7)).before #[Value.ref b0] s = true := hts0 _ (List.mem_append_right _ (List.mem_of_getElem? (i := 36) (by decide +kernel)))
  obtain ⟨m5, a5, k5, e5, i5, f5, g5, h5⟩ := Cond.arrayOver_spec ao5
  let cy : Nat → ClassId := fun k => match k with
    | 0 => a0
    | 1 => a1
    | 2 => a2
    | 3 => a3
    | 4 => a4
    | _ => a5
  have hK : va_K (dC, dI) vwCl (tysOf cy) s := by
    refine ⟨hKc, fun k q hq => ?_⟩
    match k, hq with
    | 0, hq => cases hq; exact ⟨fun n z => ⟨fun k h => (by cases h), k0, g0, m0, h0⟩, f0⟩
    | 1, hq => cases hq; exact ⟨fun n z => ⟨fun k h => (by cases h), k1, g1, m1, h1⟩, f1⟩
    | 2, hq => cases hq; exact ⟨fun n z => ⟨fun k h => (by cases h), k2, g2, m2, h2⟩, f2⟩
    | 3, hq => cases hq; exact ⟨fun n z => ⟨fun k h => (by cases h), k3, f3, m3, g3⟩, k3, m3, f3, g3, e3, h3⟩
    | 4, hq => cases hq; exact ⟨fun n z => ⟨fun k h => (by cases h), k4, f4, m4, g4⟩, k4, m4, f4, g4, e4, h4⟩
    | 5, hq => cases hq; exact ⟨fun n z => ⟨fun k h => (by cases h), k5, f5, m5, g5⟩, k5, m5, f5, g5, e5, h5⟩
    | k + 6, hq => simp [tysOf] at hq
  obtain ⟨td, htd, hTd⟩ := va_Tof (tm := .static "GondolaTold$Lamps" "DARK_UNDER" "[I") (ty := .int) (N := 4) (f := fun j => .int (duL.getD j 0)) (A := fun q => s.heap.size ≤ q) (by decide) (hfl (.arrayOf (.static "GondolaTold$Lamps" "DARK_UNDER" "[I") .int) (by decide +kernel)) (va_eqt (hfl (.eq (.length (.static "GondolaTold$Lamps" "DARK_UNDER" "[I")) (.int 4)) (by decide +kernel))) (fun j hj => by
    match j, hj with
    | 0, _ => exact va_eqt (hfl (.eq (.elem (.static "GondolaTold$Lamps" "DARK_UNDER" "[I") (.int 0)) (.int 9)) (by decide +kernel))
    | 1, _ => exact va_eqt (hfl (.eq (.elem (.static "GondolaTold$Lamps" "DARK_UNDER" "[I") (.int 1)) (.int 6)) (by decide +kernel))
    | 2, _ => exact va_eqt (hfl (.eq (.elem (.static "GondolaTold$Lamps" "DARK_UNDER" "[I") (.int 2)) (.int 3)) (by decide +kernel))
    | 3, _ => exact va_eqt (hfl (.eq (.elem (.static "GondolaTold$Lamps" "DARK_UNDER" "[I") (.int 3)) (.int 0)) (by decide +kernel))
    | q + 4, h => exact absurd h (by omega)) hA
  have hZd := va_Zref (A := fun q => s.heap.size ≤ q) (hts0 (.laysStatic "GondolaTold$Lamps" "DARK_UNDER" "[I") (List.mem_append_right _ (List.mem_of_getElem? (i := 920) (by decide +kernel)))) (hts0 (.initialized "GondolaTold$Lamps") (List.mem_append_right _ (List.mem_of_getElem? (i := 10) (by decide +kernel)))) htd hA
  obtain ⟨tn, htn, hTn⟩ := va_Tof (tm := .static "GondolaTold$Reader" "NUMBERS" "[I") (ty := .int) (N := 6) (f := fun j => .int (nuL.getD j 0)) (A := fun q => s.heap.size ≤ q) (by decide) (hfl (.arrayOf (.static "GondolaTold$Reader" "NUMBERS" "[I") .int) (by decide +kernel)) (va_eqt (hfl (.eq (.length (.static "GondolaTold$Reader" "NUMBERS" "[I")) (.int 6)) (by decide +kernel))) (fun j hj => by
    match j, hj with
    | 0, _ => exact va_eqt (hfl (.eq (.elem (.static "GondolaTold$Reader" "NUMBERS" "[I") (.int 0)) (.int 1)) (by decide +kernel))
    | 1, _ => exact va_eqt (hfl (.eq (.elem (.static "GondolaTold$Reader" "NUMBERS" "[I") (.int 1)) (.int 2)) (by decide +kernel))
    | 2, _ => exact va_eqt (hfl (.eq (.elem (.static "GondolaTold$Reader" "NUMBERS" "[I") (.int 2)) (.int 3)) (by decide +kernel))
    | 3, _ => exact va_eqt (hfl (.eq (.elem (.static "GondolaTold$Reader" "NUMBERS" "[I") (.int 3)) (.int 2)) (by decide +kernel))
    | 4, _ => exact va_eqt (hfl (.eq (.elem (.static "GondolaTold$Reader" "NUMBERS" "[I") (.int 4)) (.int 2)) (by decide +kernel))
    | 5, _ => exact va_eqt (hfl (.eq (.elem (.static "GondolaTold$Reader" "NUMBERS" "[I") (.int 5)) (.int 3)) (by decide +kernel))
    | q + 6, h => exact absurd h (by omega)) hA
  have hZn := va_Zref (A := fun q => s.heap.size ≤ q) (hts0 (.laysStatic "GondolaTold$Reader" "NUMBERS" "[I") (List.mem_append_right _ (List.mem_of_getElem? (i := 575) (by decide +kernel)))) (hts0 (.initialized "GondolaTold$Reader") (List.mem_append_right _ (List.mem_of_getElem? (i := 12) (by decide +kernel)))) htn hA
  have hZc := va_Zof (A := fun q => s.heap.size ≤ q) (v := .int 1) (hts0 (.laysStatic "java/lang/String" "COMPACT_STRINGS" "Z") (List.mem_append_right _ (List.mem_of_getElem? (i := 527) (by decide +kernel)))) (hts0 (.initialized "java/lang/String") (List.mem_append_right _ (List.mem_of_getElem? (i := 15) (by decide +kernel)))) (va_eqi (hfl (.eq (.static "java/lang/String" "COMPACT_STRINGS" "Z") (.int 1)) (by decide +kernel))) hA
  have hZf := va_Zqof (A := fun q => s.heap.size ≤ q) (hts0 (.laysStatic "jdk/internal/util/Preconditions" "SIOOBE_FORMATTER" "Ljava/util/function/BiFunction;") (List.mem_append_right _ (List.mem_of_getElem? (i := 543) (by decide +kernel)))) (hts0 (.initialized "jdk/internal/util/Preconditions") (List.mem_append_right _ (List.mem_of_getElem? (i := 17) (by decide +kernel)))) (hfl (.isRef (.static "jdk/internal/util/Preconditions" "SIOOBE_FORMATTER" "Ljava/util/function/BiFunction;")) (by decide +kernel)) hA
  obtain ⟨adK, adV, hSk, hSe⟩ := vk_Sof (tm := sTm) (N := 6) (len := slen) (byt := sbyt) (A := fun q => s.heap.size ≤ q) (by decide) (fun i hi => by
    match i, hi with
    | 0, _ => exact hfl (.exactly (.string "GondolaTold$Reader" 116) "java/lang/String") (by decide +kernel)
    | 1, _ => exact hfl (.exactly (.string "GondolaTold$Reader" 122) "java/lang/String") (by decide +kernel)
    | 2, _ => exact hfl (.exactly (.string "GondolaTold$Reader" 124) "java/lang/String") (by decide +kernel)
    | 3, _ => exact hfl (.exactly (.string "GondolaTold$Reader" 126) "java/lang/String") (by decide +kernel)
    | 4, _ => exact hfl (.exactly (.string "GondolaTold$Reader" 128) "java/lang/String") (by decide +kernel)
    | 5, _ => exact hfl (.exactly (.string "GondolaTold$Reader" 130) "java/lang/String") (by decide +kernel)
    | q + 6, h => exact absurd h (by omega)) (fun i hi => by
    match i, hi with
    | 0, _ => exact hfl (.eq (.field (.string "GondolaTold$Reader" 116) "java/lang/String" "coder" "B") (.int 0)) (by decide +kernel)
    | 1, _ => exact hfl (.eq (.field (.string "GondolaTold$Reader" 122) "java/lang/String" "coder" "B") (.int 0)) (by decide +kernel)
    | 2, _ => exact hfl (.eq (.field (.string "GondolaTold$Reader" 124) "java/lang/String" "coder" "B") (.int 0)) (by decide +kernel)
    | 3, _ => exact hfl (.eq (.field (.string "GondolaTold$Reader" 126) "java/lang/String" "coder" "B") (.int 0)) (by decide +kernel)
    | 4, _ => exact hfl (.eq (.field (.string "GondolaTold$Reader" 128) "java/lang/String" "coder" "B") (.int 0)) (by decide +kernel)
    | 5, _ => exact hfl (.eq (.field (.string "GondolaTold$Reader" 130) "java/lang/String" "coder" "B") (.int 0)) (by decide +kernel)
    | q + 6, h => exact absurd h (by omega)) (fun i hi => by
    match i, hi with
    | 0, _ => exact hfl (.arrayOf (.field (.string "GondolaTold$Reader" 116) "java/lang/String" "value" "[B") .byte) (by decide +kernel)
    | 1, _ => exact hfl (.arrayOf (.field (.string "GondolaTold$Reader" 122) "java/lang/String" "value" "[B") .byte) (by decide +kernel)
    | 2, _ => exact hfl (.arrayOf (.field (.string "GondolaTold$Reader" 124) "java/lang/String" "value" "[B") .byte) (by decide +kernel)
    | 3, _ => exact hfl (.arrayOf (.field (.string "GondolaTold$Reader" 126) "java/lang/String" "value" "[B") .byte) (by decide +kernel)
    | 4, _ => exact hfl (.arrayOf (.field (.string "GondolaTold$Reader" 128) "java/lang/String" "value" "[B") .byte) (by decide +kernel)
    | 5, _ => exact hfl (.arrayOf (.field (.string "GondolaTold$Reader" 130) "java/lang/String" "value" "[B") .byte) (by decide +kernel)
    | q + 6, h => exact absurd h (by omega)) (fun i hi => by
    match i, hi with
    | 0, _ => exact hfl (.eq (.length (.field (.string "GondolaTold$Reader" 116) "java/lang/String" "value" "[B")) (.int 5)) (by decide +kernel)
    | 1, _ => exact hfl (.eq (.length (.field (.string "GondolaTold$Reader" 122) "java/lang/String" "value" "[B")) (.int 4)) (by decide +kernel)
    | 2, _ => exact hfl (.eq (.length (.field (.string "GondolaTold$Reader" 124) "java/lang/String" "value" "[B")) (.int 5)) (by decide +kernel)
    | 3, _ => exact hfl (.eq (.length (.field (.string "GondolaTold$Reader" 126) "java/lang/String" "value" "[B")) (.int 5)) (by decide +kernel)
    | 4, _ => exact hfl (.eq (.length (.field (.string "GondolaTold$Reader" 128) "java/lang/String" "value" "[B")) (.int 5)) (by decide +kernel)
    | 5, _ => exact hfl (.eq (.length (.field (.string "GondolaTold$Reader" 130) "java/lang/String" "value" "[B")) (.int 3)) (by decide +kernel)
    | q + 6, h => exact absurd h (by omega)) (fun i hi => by
    match i, hi with
    | 0, _ =>
      intro j hj
      match j, hj with
      | 0, _ => exact hfl (.eq (.elem (.field (.string "GondolaTold$Reader" 116) "java/lang/String" "value" "[B") (.int 0)) (.int 119)) (by decide +kernel)
      | 1, _ => exact hfl (.eq (.elem (.field (.string "GondolaTold$Reader" 116) "java/lang/String" "value" "[B") (.int 1)) (.int 97)) (by decide +kernel)
      | 2, _ => exact hfl (.eq (.elem (.field (.string "GondolaTold$Reader" 116) "java/lang/String" "value" "[B") (.int 2)) (.int 116)) (by decide +kernel)
      | 3, _ => exact hfl (.eq (.elem (.field (.string "GondolaTold$Reader" 116) "java/lang/String" "value" "[B") (.int 3)) (.int 101)) (by decide +kernel)
      | 4, _ => exact hfl (.eq (.elem (.field (.string "GondolaTold$Reader" 116) "java/lang/String" "value" "[B") (.int 4)) (.int 114)) (by decide +kernel)
      | q + 5, h => exact absurd h (by show ¬ q + 5 < 5; omega)
    | 1, _ =>
      intro j hj
      match j, hj with
      | 0, _ => exact hfl (.eq (.elem (.field (.string "GondolaTold$Reader" 122) "java/lang/String" "value" "[B") (.int 0)) (.int 100)) (by decide +kernel)
      | 1, _ => exact hfl (.eq (.elem (.field (.string "GondolaTold$Reader" 122) "java/lang/String" "value" "[B") (.int 1)) (.int 97)) (by decide +kernel)
      | 2, _ => exact hfl (.eq (.elem (.field (.string "GondolaTold$Reader" 122) "java/lang/String" "value" "[B") (.int 2)) (.int 114)) (by decide +kernel)
      | 3, _ => exact hfl (.eq (.elem (.field (.string "GondolaTold$Reader" 122) "java/lang/String" "value" "[B") (.int 3)) (.int 107)) (by decide +kernel)
      | q + 4, h => exact absurd h (by show ¬ q + 4 < 4; omega)
    | 2, _ =>
      intro j hj
      match j, hj with
      | 0, _ => exact hfl (.eq (.elem (.field (.string "GondolaTold$Reader" 124) "java/lang/String" "value" "[B") (.int 0)) (.int 99)) (by decide +kernel)
      | 1, _ => exact hfl (.eq (.elem (.field (.string "GondolaTold$Reader" 124) "java/lang/String" "value" "[B") (.int 1)) (.int 97)) (by decide +kernel)
      | 2, _ => exact hfl (.eq (.elem (.field (.string "GondolaTold$Reader" 124) "java/lang/String" "value" "[B") (.int 2)) (.int 110)) (by decide +kernel)
      | 3, _ => exact hfl (.eq (.elem (.field (.string "GondolaTold$Reader" 124) "java/lang/String" "value" "[B") (.int 3)) (.int 97)) (by decide +kernel)
      | 4, _ => exact hfl (.eq (.elem (.field (.string "GondolaTold$Reader" 124) "java/lang/String" "value" "[B") (.int 4)) (.int 108)) (by decide +kernel)
      | q + 5, h => exact absurd h (by show ¬ q + 5 < 5; omega)
    | 3, _ =>
      intro j hj
      match j, hj with
      | 0, _ => exact hfl (.eq (.elem (.field (.string "GondolaTold$Reader" 126) "java/lang/String" "value" "[B") (.int 0)) (.int 114)) (by decide +kernel)
      | 1, _ => exact hfl (.eq (.elem (.field (.string "GondolaTold$Reader" 126) "java/lang/String" "value" "[B") (.int 1)) (.int 111)) (by decide +kernel)
      | 2, _ => exact hfl (.eq (.elem (.field (.string "GondolaTold$Reader" 126) "java/lang/String" "value" "[B") (.int 2)) (.int 119)) (by decide +kernel)
      | 3, _ => exact hfl (.eq (.elem (.field (.string "GondolaTold$Reader" 126) "java/lang/String" "value" "[B") (.int 3)) (.int 101)) (by decide +kernel)
      | 4, _ => exact hfl (.eq (.elem (.field (.string "GondolaTold$Reader" 126) "java/lang/String" "value" "[B") (.int 4)) (.int 114)) (by decide +kernel)
      | q + 5, h => exact absurd h (by show ¬ q + 5 < 5; omega)
    | 4, _ =>
      intro j hj
      match j, hj with
      | 0, _ => exact hfl (.eq (.elem (.field (.string "GondolaTold$Reader" 128) "java/lang/String" "value" "[B") (.int 0)) (.int 103)) (by decide +kernel)
      | 1, _ => exact hfl (.eq (.elem (.field (.string "GondolaTold$Reader" 128) "java/lang/String" "value" "[B") (.int 1)) (.int 117)) (by decide +kernel)
      | 2, _ => exact hfl (.eq (.elem (.field (.string "GondolaTold$Reader" 128) "java/lang/String" "value" "[B") (.int 2)) (.int 101)) (by decide +kernel)
      | 3, _ => exact hfl (.eq (.elem (.field (.string "GondolaTold$Reader" 128) "java/lang/String" "value" "[B") (.int 3)) (.int 115)) (by decide +kernel)
      | 4, _ => exact hfl (.eq (.elem (.field (.string "GondolaTold$Reader" 128) "java/lang/String" "value" "[B") (.int 4)) (.int 116)) (by decide +kernel)
      | q + 5, h => exact absurd h (by show ¬ q + 5 < 5; omega)
    | 5, _ =>
      intro j hj
      match j, hj with
      | 0, _ => exact hfl (.eq (.elem (.field (.string "GondolaTold$Reader" 130) "java/lang/String" "value" "[B") (.int 0)) (.int 114)) (by decide +kernel)
      | 1, _ => exact hfl (.eq (.elem (.field (.string "GondolaTold$Reader" 130) "java/lang/String" "value" "[B") (.int 1)) (.int 111)) (by decide +kernel)
      | 2, _ => exact hfl (.eq (.elem (.field (.string "GondolaTold$Reader" 130) "java/lang/String" "value" "[B") (.int 2)) (.int 119)) (by decide +kernel)
      | q + 3, h => exact absurd h (by show ¬ q + 3 < 3; omega)
    | q + 6, h => exact absurd h (by omega)) (fun i j hi hj hij => by
    match i, j, hi, hj, hij with
    | 0, 0, _, _, hij => exact absurd rfl hij
    | 0, 1, _, _, hij => exact Or.inl (hfl (.not (.eq (.string "GondolaTold$Reader" 116) (.string "GondolaTold$Reader" 122))) (by decide +kernel))
    | 0, 2, _, _, hij => exact Or.inl (hfl (.not (.eq (.string "GondolaTold$Reader" 116) (.string "GondolaTold$Reader" 124))) (by decide +kernel))
    | 0, 3, _, _, hij => exact Or.inl (hfl (.not (.eq (.string "GondolaTold$Reader" 116) (.string "GondolaTold$Reader" 126))) (by decide +kernel))
    | 0, 4, _, _, hij => exact Or.inl (hfl (.not (.eq (.string "GondolaTold$Reader" 116) (.string "GondolaTold$Reader" 128))) (by decide +kernel))
    | 0, 5, _, _, hij => exact Or.inl (hfl (.not (.eq (.string "GondolaTold$Reader" 116) (.string "GondolaTold$Reader" 130))) (by decide +kernel))
    | 1, 0, _, _, hij => exact Or.inr (hfl (.not (.eq (.string "GondolaTold$Reader" 116) (.string "GondolaTold$Reader" 122))) (by decide +kernel))
    | 1, 1, _, _, hij => exact absurd rfl hij
    | 1, 2, _, _, hij => exact Or.inl (hfl (.not (.eq (.string "GondolaTold$Reader" 122) (.string "GondolaTold$Reader" 124))) (by decide +kernel))
    | 1, 3, _, _, hij => exact Or.inl (hfl (.not (.eq (.string "GondolaTold$Reader" 122) (.string "GondolaTold$Reader" 126))) (by decide +kernel))
    | 1, 4, _, _, hij => exact Or.inl (hfl (.not (.eq (.string "GondolaTold$Reader" 122) (.string "GondolaTold$Reader" 128))) (by decide +kernel))
    | 1, 5, _, _, hij => exact Or.inl (hfl (.not (.eq (.string "GondolaTold$Reader" 122) (.string "GondolaTold$Reader" 130))) (by decide +kernel))
    | 2, 0, _, _, hij => exact Or.inr (hfl (.not (.eq (.string "GondolaTold$Reader" 116) (.string "GondolaTold$Reader" 124))) (by decide +kernel))
    | 2, 1, _, _, hij => exact Or.inr (hfl (.not (.eq (.string "GondolaTold$Reader" 122) (.string "GondolaTold$Reader" 124))) (by decide +kernel))
    | 2, 2, _, _, hij => exact absurd rfl hij
    | 2, 3, _, _, hij => exact Or.inl (hfl (.not (.eq (.string "GondolaTold$Reader" 124) (.string "GondolaTold$Reader" 126))) (by decide +kernel))
    | 2, 4, _, _, hij => exact Or.inl (hfl (.not (.eq (.string "GondolaTold$Reader" 124) (.string "GondolaTold$Reader" 128))) (by decide +kernel))
    | 2, 5, _, _, hij => exact Or.inl (hfl (.not (.eq (.string "GondolaTold$Reader" 124) (.string "GondolaTold$Reader" 130))) (by decide +kernel))
    | 3, 0, _, _, hij => exact Or.inr (hfl (.not (.eq (.string "GondolaTold$Reader" 116) (.string "GondolaTold$Reader" 126))) (by decide +kernel))
    | 3, 1, _, _, hij => exact Or.inr (hfl (.not (.eq (.string "GondolaTold$Reader" 122) (.string "GondolaTold$Reader" 126))) (by decide +kernel))
    | 3, 2, _, _, hij => exact Or.inr (hfl (.not (.eq (.string "GondolaTold$Reader" 124) (.string "GondolaTold$Reader" 126))) (by decide +kernel))
    | 3, 3, _, _, hij => exact absurd rfl hij
    | 3, 4, _, _, hij => exact Or.inl (hfl (.not (.eq (.string "GondolaTold$Reader" 126) (.string "GondolaTold$Reader" 128))) (by decide +kernel))
    | 3, 5, _, _, hij => exact Or.inl (hfl (.not (.eq (.string "GondolaTold$Reader" 126) (.string "GondolaTold$Reader" 130))) (by decide +kernel))
    | 4, 0, _, _, hij => exact Or.inr (hfl (.not (.eq (.string "GondolaTold$Reader" 116) (.string "GondolaTold$Reader" 128))) (by decide +kernel))
    | 4, 1, _, _, hij => exact Or.inr (hfl (.not (.eq (.string "GondolaTold$Reader" 122) (.string "GondolaTold$Reader" 128))) (by decide +kernel))
    | 4, 2, _, _, hij => exact Or.inr (hfl (.not (.eq (.string "GondolaTold$Reader" 124) (.string "GondolaTold$Reader" 128))) (by decide +kernel))
    | 4, 3, _, _, hij => exact Or.inr (hfl (.not (.eq (.string "GondolaTold$Reader" 126) (.string "GondolaTold$Reader" 128))) (by decide +kernel))
    | 4, 4, _, _, hij => exact absurd rfl hij
    | 4, 5, _, _, hij => exact Or.inl (hfl (.not (.eq (.string "GondolaTold$Reader" 128) (.string "GondolaTold$Reader" 130))) (by decide +kernel))
    | 5, 0, _, _, hij => exact Or.inr (hfl (.not (.eq (.string "GondolaTold$Reader" 116) (.string "GondolaTold$Reader" 130))) (by decide +kernel))
    | 5, 1, _, _, hij => exact Or.inr (hfl (.not (.eq (.string "GondolaTold$Reader" 122) (.string "GondolaTold$Reader" 130))) (by decide +kernel))
    | 5, 2, _, _, hij => exact Or.inr (hfl (.not (.eq (.string "GondolaTold$Reader" 124) (.string "GondolaTold$Reader" 130))) (by decide +kernel))
    | 5, 3, _, _, hij => exact Or.inr (hfl (.not (.eq (.string "GondolaTold$Reader" 126) (.string "GondolaTold$Reader" 130))) (by decide +kernel))
    | 5, 4, _, _, hij => exact Or.inr (hfl (.not (.eq (.string "GondolaTold$Reader" 128) (.string "GondolaTold$Reader" 130))) (by decide +kernel))
    | 5, 5, _, _, hij => exact absurd rfl hij
    | q + 6, _, h, _, _ => exact absurd h (by omega)
    | _, q + 6, _, h, _ => exact absurd h (by omega)) hA
  refine ⟨(dC, dI), cy, (td, tn, adK, adV), hK, ⟨hZd, hTd, hZn, hTn, hZc, hSk, ?_, fun q hq => va_Nw.of rfl (hts0 _ (nest_in q hq)), hZf⟩, va_AO.of ao5, va_AO.of ao3, va_AO.of ao4⟩
  intro i hi
  have he := hSe i hi
  match i, hi, he with
  | 0, _, he => exact vk_R.of (hts0 (.stringRef "GondolaTold$Reader" 116 "water") (List.mem_append_right _ (List.mem_of_getElem? (i := 513) (by decide +kernel)))) he
  | 1, _, he => exact vk_R.of (hts0 (.stringRef "GondolaTold$Reader" 122 "dark") (List.mem_append_right _ (List.mem_of_getElem? (i := 566) (by decide +kernel)))) he
  | 2, _, he => exact vk_R.of (hts0 (.stringRef "GondolaTold$Reader" 124 "canal") (List.mem_append_right _ (List.mem_of_getElem? (i := 567) (by decide +kernel)))) he
  | 3, _, he => exact vk_R.of (hts0 (.stringRef "GondolaTold$Reader" 126 "rower") (List.mem_append_right _ (List.mem_of_getElem? (i := 568) (by decide +kernel)))) he
  | 4, _, he => exact vk_R.of (hts0 (.stringRef "GondolaTold$Reader" 128 "guest") (List.mem_append_right _ (List.mem_of_getElem? (i := 569) (by decide +kernel)))) he
  | 5, _, he => exact vk_R.of (hts0 (.stringRef "GondolaTold$Reader" 130 "row") (List.mem_append_right _ (List.mem_of_getElem? (i := 570) (by decide +kernel)))) he
  | q + 6, h, _ => exact absurd h (by omega)
set_option maxRecDepth 20000 in
set_option maxHeartbeats 100000000 in
theorem whole_of {N : Nat} {Inv : St → Prop} (hI0 : Inv σ0) (hsim : Sim N Inv) {p : Program} {e : Env} {s : State} {m : MethodId} {below : List Frame} {meth : Method} {c : Code} (l : Launch) {b L : Nat} {xs : Nat → Int32} (hL : L ≤ 3584) (C0 : lw_At p s m meth c b L xs) : W p l e room_1 s m #[Value.ref b] below meth c s.heap [] 0 0 (lw_Z below #[Value.ref b] s) (entryFrame m ([Value.ref b] : List Value).toArray 4) := by
  obtain ⟨hx, hb, hr, hml, hown, hts0, hX, hbl, hlocks, hgv⟩ := C0
  have hts : ∀ w ∈ gT, w.before #[Value.ref b] s = true := fun w h => hts0 w (List.mem_filter.mp h).1
  obtain ⟨D, cy, κ, hK, hKs, hAO⟩ := start_ok hts0 hgv
  obtain ⟨X, hXe⟩ : ∃ X : Cx, X = (l, s.heap.size, D, cy, κ) := ⟨_, rfl⟩
  have hl1 : X.1 = l := by rw [hXe]
  have hb1 : X.2.1 = s.heap.size := by rw [hXe]
  have hK1 : va_K X.2.2.1 vwCl (tysOf X.2.2.2.1) s := by rw [hXe]; exact hK
  have hKs1 : Ks X.2.1 X.2.2.2.2 s := by rw [hXe]; exact hKs
  rw [← hl1]
  have hl := lv_entry ([.ref b]) (n := 4) (Nat.le_of_ble_eq_true rfl)
  rw [lg_entry_eq]
  generalize (lg_sl ([.ref b]) ++ List.replicate (4 - (lg_sl ([.ref b])).length) Slot.unset).toArray = ls at hl ⊢
  have hl : lv_has ls 4 [(0, .ref b)] := hl
  have hS : va_S (fun q => X.2.1 ≤ q) s.heap s.heap [] := va_S.rf
  have hP : va_P X.2.2.1 vwCl (gw X.2.1 []) s.heap := fun k q h => by simp [gw] at h
  have hz : s.heap.size = X.2.1 + ([] : List va_E).length := hb1.symm
  have hc11 : vwCl[11]? = some (RX11, TX11, 15) := rfl
  have hc12 : vwCl[12]? = some (RX12, TX12, 34) := rfl
  refine W.newcK hx hb hown (hts (.classLink R_law 7 RX11) (inL1 21 (by decide +kernel) rfl)) (hts (.instantiable RX11 15) (inL1 22 (by decide +kernel) rfl)) (hts (.initialized RX11) (inL1 1 (by decide +kernel) rfl)) rfl dL_law_0 (by decide) (by decide) (hK1.1 11 _ hc11).2.1 hz fun H1 kC hkC e1 z1 o1 => ?_
  obtain ⟨hP1, hz1⟩ := k_grow (X := X) (e0 := .inr (11, [.null, .null, .null, .null, .null, .int 0, .null, .null, .null, .null, .null, .null, .null, .null, .null])) hP hz z1 o1 ⟨_, hc11, (u_born tyX11 hts iX11 (hK1.1 11 _ hc11) hkC e1 tyX11_ok).to dfX11⟩
  have hS1 := va_Sgrow hS hz z1 o1
  refine W.eq (g2 := F0 m 3 ls [.ref (X.2.1 + (0 + 0))]) rfl ?_
  refine lv_dup hx hb dL_law_3 rfl ?_
  have hroom : ∀ d k n, d ≤ 60 → (rmc d k n).frames + 1 ≤ room_1.frames ∧ 8 + (2 + 11) + (rmc d k n).locals ≤ room_1.locals := fun d k n h => by
    unfold rmc room_1
    dsimp only
    omega
  refine callGoC (X := X) (va_runI (As := []) (rest := [.ref (X.2.1 + (0 + 0))]) ⟨hx, hb, hml, hown, hts⟩ (k_X11_init X [] 0 rfl) (cwI 0 hts (goodTbl (inL1 25 (by decide +kernel) rfl) goodAll) rfl rfl rfl (hts _ (inL1 1 (by decide +kernel) rfl)) (hts _ (inL1 23 (by decide +kernel) rfl)) (hts _ (inL1 24 (by decide +kernel) rfl)) rfl (by decide +kernel) (hroom _ _ _ (by decide))) ⟨EntC.blind, fun U hU hW => ⟨rfl, by rw [hU]; exact hP1, by rw [hU]; exact hz1, va_K.moved hW.alike hK1, hKs1.go hS1 hU hW, hAO.moved hW.alike⟩⟩ rfl rfl hl.1 rfl (lv_room (Nat.le_of_ble_eq_true rfl)) dL_law_4 ⟨by decide, by decide⟩) hS1 (fun H2 locs2 hP2 hz2 hS2 => ?_)
  refine lv_astore_n (lv' := [(1, .ref (X.2.1 + 0)), (0, .ref b)]) hx hb dL_law_7 rfl hl (by decide) rfl (fun ls hl => ?_)
  have hln : ([] ++ bX11_init X 0).length = 114 := rfl
  refine W.newcK hx hb hown (hts (.classLink R_law 10 RX12) (inL5 92 (by decide +kernel) rfl)) (hts (.instantiable RX12 34) (inL5 93 (by decide +kernel) rfl)) (hts (.initialized RX12) (inL1 13 (by decide +kernel) rfl)) rfl dL_law_8 (by decide) (by decide) (hK1.1 12 _ hc12).2.1 hz2 fun H3 kC2 hkC2 e3 z3 o3 => ?_
  obtain ⟨hP3, hz3⟩ := k_grow (X := X) (e0 := .inr (12, [.null, .null, .null, .null, .null, .int 0, .long 0, .long 0, .null, .int 0, .int 0, .int 0, .int 0, .null, .int 0, .null, .null, .null, .null, .null, .null, .null, .int 0, .null, .int 0, .int 0, .int 0, .int 0, .null, .null, .int 0, .int 0, .int 0, .null])) hP2 hz2 z3 o3 ⟨_, hc12, (u_born tyX12 hts iX12 (hK1.1 12 _ hc12) hkC2 e3 tyX12_ok).to dfX12⟩
  have hS3 := va_Sgrow hS2 hz2 z3 o3
  refine W.eq (g2 := F0 m 11 ls [.ref (X.2.1 + (114 + 0))]) rfl ?_
  refine lv_dup hx hb dL_law_11 rfl ?_
  refine callGoC (X := X) (va_runI (As := []) (rest := [.ref (X.2.1 + (114 + 0))]) ⟨hx, hb, hml, hown, hts⟩ (k_X12_init X ([] ++ bX11_init X 0) 114 hln) (cwI 0 hts (goodTbl (inL5 96 (by decide +kernel) rfl) goodAll) rfl rfl rfl (hts _ (inL1 13 (by decide +kernel) rfl)) (hts _ (inL5 94 (by decide +kernel) rfl)) (hts _ (inL5 95 (by decide +kernel) rfl)) rfl (by decide +kernel) (hroom _ _ _ (by decide))) ⟨EntC.blind, fun U hU hW => ⟨rfl, by rw [hU]; exact hP3, by rw [hU]; exact hz3, va_K.moved hW.alike hK1, hKs1.go hS3 hU hW, hAO.moved hW.alike⟩⟩ rfl rfl hl.1 rfl (lv_room (Nat.le_of_ble_eq_true rfl)) dL_law_12 ⟨by decide, by decide⟩) hS3 (fun H4 locs4 hP4 hz4 hS4 => ?_)
  refine lv_astore_n (lv' := [(2, .ref (X.2.1 + 114)), (1, .ref (X.2.1 + 0)), (0, .ref b)]) hx hb dL_law_15 rfl hl (by decide) rfl (fun ls hl => ?_)
  refine lv_iconst (v := 0) hx hb dL_law_16 (by decide) ?_
  refine lv_istore_n (lv' := [(3, .int 0), (2, .ref (X.2.1 + 114)), (1, .ref (X.2.1 + 0)), (0, .ref b)]) hx hb dL_law_17 rfl hl (by decide) rfl (fun ls hl => ?_)
  exact q_loop (X := X) (b0 := b) (L := L) (xs := xs) ⟨p, e, s, m, below, meth, c, hx, hb, hml, hr, hlocks, hown, hts, hK1, hKs1, hX, hbl, hb1, rfl⟩ hL N hsim (L + 7) 0 σ0 (by omega) (Nat.zero_le _) hI0 H4 locs4 ls (fin_world X hP4) hS4 (lv_sub hl [3, 2, 1, 0] rfl)
