set_option maxRecDepth 4000 in
theorem w_He_goAlong_J77 {X : Cx} {G : GT St} (N : Nat) (hG : IsG X RX2 cX2_goAlong 8 9 none oWV G) {K11 : Nat → Nat → Int32 → Int32 → St → Option St} (hK11 : ∀ (v1 : Nat) (v3 : Nat) (v5 : Int32) (v6 : Int32) (s : St), shp v1 = 4 → shp v3 = 7 → G (K11 v1 v3 v5 v6 s) s 11 [(0, .ref (X.2.1 + 69)), (1, .ref (X.2.1 + v1)), (3, .ref (X.2.1 + v3)), (4, .ref (X.2.1 + 47)), (5, .int v5), (6, .int v6)] []) (v1 : Nat) (v3 : Nat) (v5 : Int32) (v6 : Int32) (σ : St) (hv1 : shp v1 = 4) (hv3 : shp v3 = 7) : G (He_goAlong_J77 N K11 v1 v3 v5 v6 σ) σ 77 [(0, .ref (X.2.1 + 69)), (1, .ref (X.2.1 + v1)), (3, .ref (X.2.1 + v3)), (4, .ref (X.2.1 + 47)), (5, .int v5), (6, .int v6)] [] := by
  unfold He_goAlong_J77
  refine r_bIinc (pc := 77) (lv' := fun x16 => [(6, .int x16), (0, .ref (X.2.1 + 69)), (1, .ref (X.2.1 + v1)), (3, .ref (X.2.1 + v3)), (4, .ref (X.2.1 + 47)), (5, .int v5)]) 5 rfl rfl (by decide) (fun _ => rfl) hG dX2_goAlong_77 (fun x16 => ?_)
  refine r_goto (pc := 80) (tgt := 11) (by decide) hG dX2_goAlong_80 ?_
  exact r_sub [1, 2, 3, 4, 5, 0] rfl hG (hK11 v1 v3 v5 x16 σ hv1 hv3)
set_option maxRecDepth 4000 in
theorem w_He_goAlong_L11B {X : Cx} {G : GT St} (N : Nat) (hG : IsG X RX2 cX2_goAlong 8 9 none oWV G) {K11 : Nat → Nat → Int32 → Int32 → St → Option St} (hK11 : ∀ (v1 : Nat) (v3 : Nat) (v5 : Int32) (v6 : Int32) (s : St), shp v1 = 4 → shp v3 = 7 → G (K11 v1 v3 v5 v6 s) s 11 [(0, .ref (X.2.1 + 69)), (1, .ref (X.2.1 + v1)), (3, .ref (X.2.1 + v3)), (4, .ref (X.2.1 + 47)), (5, .int v5), (6, .int v6)] []) (v1 : Nat) (v3 : Nat) (v5 : Int32) (v6 : Int32) (σ : St) (hv1 : shp v1 = 4) (hv3 : shp v3 = 7) : G (He_goAlong_L11B N K11 v1 v3 v5 v6 σ) σ 11 [(0, .ref (X.2.1 + 69)), (1, .ref (X.2.1 + v1)), (3, .ref (X.2.1 + v3)), (4, .ref (X.2.1 + 47)), (5, .int v5), (6, .int v6)] [] := by
  unfold He_goAlong_L11B
  refine r_iload (pc := 11) 5 rfl hG dX2_goAlong_11 ?_
  refine r_aload (pc := 13) 3 rfl hG dX2_goAlong_13 ?_
  refine gf10_2 (pc := 15) lk288 hG dX2_goAlong_15 ?_
  refine r_icmp_ge (pc := 18) (tgt := 83) (by decide) hG dX2_goAlong_18 (fun h5 => ?_) (fun h5 => ?_)
  · exact r_vret (pc := 83) rfl hG dX2_goAlong_83
  · refine r_aload (pc := 21) 3 rfl hG dX2_goAlong_21 ?_
    refine gf10_1 (pc := 23) lk285 hG dX2_goAlong_23 ?_
    refine r_iload (pc := 26) 5 rfl hG dX2_goAlong_26 ?_
    refine r_ck hG (fun h6 => ?_)
    refine r_iald (pc := 28) (i := 49) (rfl : shp 49 = 14) rfl h6 hG dX2_goAlong_28 ?_
    refine r_bI hG (fun x7 => ?_)
    refine r_istore (pc := 29) (lv' := [(7, .int x7), (0, .ref (X.2.1 + 69)), (1, .ref (X.2.1 + v1)), (3, .ref (X.2.1 + v3)), (4, .ref (X.2.1 + 47)), (5, .int v5), (6, .int v6)]) (by decide) rfl hG dX2_goAlong_29 ?_
    refine r_iload (pc := 31) 5 rfl hG dX2_goAlong_31 ?_
    refine r_iconst (pc := 33) (v := 1) (by decide) hG dX2_goAlong_33 ?_
    refine r_iload (pc := 34) 6 rfl hG dX2_goAlong_34 ?_
    refine r_ishl (pc := 36) hG dX2_goAlong_36 ?_
    refine r_iand (pc := 37) hG dX2_goAlong_37 ?_
    refine r_if_ne (pc := 38) (tgt := 55) (by decide) hG dX2_goAlong_38 (fun h8 => ?_) (fun h8 => ?_)
    · refine r_aload_n (pc := 55) 1 0 rfl rfl hG dX2_goAlong_55 ?_
      refine gf2_0 (pc := 56) lk395 hG dX2_goAlong_56 ?_
      refine r_iload (pc := 59) 0 rfl hG dX2_goAlong_59 ?_
      refine r_aload_n (pc := 61) 2 1 rfl rfl hG dX2_goAlong_61 ?_
      refine r_aload_n (pc := 62) 1 0 rfl rfl hG dX2_goAlong_62 ?_
      refine gf2_0 (pc := 63) lk395 hG dX2_goAlong_63 ?_
      refine gf1_4 (pc := 66) (i := 70) (rfl : shp 70 = 1) lk196 hG dX2_goAlong_66 ?_
      refine r_iload (pc := 69) 0 rfl hG dX2_goAlong_69 ?_
      refine r_bR hG (fun r9 e11 => ?_)
      refine r_callVi (pc := 71) (As := [.int (σ.1 70 4), .int x7]) (c_Ni_strokesBetween X N v1 (σ.1 70 4) x7 σ hv1 r9 e11) (wsOf_at hv1 (by decide) rfl) rfl mfX2_68_X4_strokesBetween hyVX4_strokesBetween (by decide) (by decide) rfl (Nat.le_of_ble_eq_true rfl) hG dX2_goAlong_71 rfl (fun n10 => ?_)
      refine r_bR hG (fun s13 e15 => ?_)
      refine r_callVv (pc := 74) (As := [.int x7, .int r9]) (c_Gu_goTo X N 70 x7 r9 σ (rfl : shp 70 = 1) s13 e15) (wsOf_at (rfl : shp 70 = 1) (by decide) rfl) rfl mfX2_72_X1_goTo hyVX1_goTo (by decide) (by decide) rfl (Nat.le_of_ble_eq_true rfl) hG dX2_goAlong_74 rfl (fun n14 => ?_)
      exact r_sub [1, 2, 3, 4, 5, 6] rfl hG (w_He_goAlong_J77 N hG hK11 v1 v3 v5 v6 s13 hv1 hv3)
    · refine r_aload_n (pc := 41) 2 1 rfl rfl hG dX2_goAlong_41 ?_
      refine r_aload_n (pc := 42) 1 0 rfl rfl hG dX2_goAlong_42 ?_
      refine gf2_0 (pc := 43) lk395 hG dX2_goAlong_43 ?_
      refine r_aload_n (pc := 46) 3 3 rfl rfl hG dX2_goAlong_46 ?_
      refine r_iload (pc := 47) 0 rfl hG dX2_goAlong_47 ?_
      refine r_bR hG (fun s18 e20 => ?_)
      refine r_callVv (pc := 49) (As := [.ref (X.2.1 + 70), .ref (X.2.1 + v3), .int x7]) (c_Ni_carry X N v1 70 v3 x7 σ hv1 (rfl : shp 70 = 1) hv3 s18 e20) (wsOf_at hv1 (by decide) rfl) rfl mfX2_59_X4_carry hyVX4_carry (by decide) (by decide) rfl (Nat.le_of_ble_eq_true rfl) hG dX2_goAlong_49 rfl (fun n19 => ?_)
      refine r_goto (pc := 52) (tgt := 77) (by decide) hG dX2_goAlong_52 ?_
      exact r_sub [1, 2, 3, 4, 5, 6] rfl hG (w_He_goAlong_J77 N hG hK11 v1 v3 v5 v6 s18 hv1 hv3)
set_option maxRecDepth 4000 in
theorem w_He_goAlong_L11 {X : Cx} {G : GT St} (N : Nat) (hG : IsG X RX2 cX2_goAlong 8 9 none oWV G) : ∀ (n : Nat), ∀ (v1 : Nat) (v3 : Nat) (v5 : Int32) (v6 : Int32) (σ : St), shp v1 = 4 → shp v3 = 7 → G (He_goAlong_L11 N n v1 v3 v5 v6 σ) σ 11 [(0, .ref (X.2.1 + 69)), (1, .ref (X.2.1 + v1)), (3, .ref (X.2.1 + v3)), (4, .ref (X.2.1 + 47)), (5, .int v5), (6, .int v6)] [] := by
  intro n
  induction n with
  | zero => intro v1 v3 v5 v6 σ hv1 hv3; exact r_none hG
  | succ n ih => intro v1 v3 v5 v6 σ hv1 hv3; exact w_He_goAlong_L11B N hG ih v1 v3 v5 v6 σ hv1 hv3
set_option maxRecDepth 4000 in
theorem c_He_goAlong (X : Cx) (N : Nat) (v1 : Nat) (v2 : Nat) (v3 : Nat) (v5 : Int32) (σ : St) (hv1 : shp v1 = 4) (hv2 : shp v2 = 1) (hv3 : shp v3 = 7) (σ1 : St) (hE : He_goAlong N v1 v2 v3 v5 σ = some σ1) : Ctr X yX2_goAlong cX2_goAlong 8 none 9 [.ref (X.2.1 + 69), .ref (X.2.1 + v1), .ref (X.2.1 + v2), .ref (X.2.1 + v3), .ref (X.2.1 + 47), .int v5] σ none σ1 := by
  refine Ctr.of (out := oWV) (E := He_goAlong N v1 v2 v3 v5 σ) rfl (by decide) (fun G hG => ?_) σ1 hE
  unfold He_goAlong
  refine r_aload_n (pc := 0) 0 0 rfl rfl hG dX2_goAlong_0 ?_
  refine gf2_0 (pc := 1) lk395 hG dX2_goAlong_1 ?_
  refine r_aload_n (pc := 4) 2 2 rfl rfl hG dX2_goAlong_4 ?_
  refine r_bR hG (fun s2 e4 => ?_)
  refine r_callVv (pc := 5) (As := [.ref (X.2.1 + v2)]) (c_Gu_take X N 70 v2 σ (rfl : shp 70 = 1) hv2 s2 e4) (wsOf_at (rfl : shp 70 = 1) (by decide) rfl) rfl mfX2_51_X1_take hyVX1_take (by decide) (by decide) rfl (Nat.le_of_ble_eq_true rfl) hG dX2_goAlong_5 rfl (fun n3 => ?_)
  refine r_iconst (pc := 8) (v := 0) (by decide) hG dX2_goAlong_8 ?_
  refine r_istore (pc := 9) (lv' := [(6, .int 0), (0, .ref (X.2.1 + 69)), (1, .ref (X.2.1 + v1)), (2, .ref (X.2.1 + v2)), (3, .ref (X.2.1 + v3)), (4, .ref (X.2.1 + 47)), (5, .int v5)]) (by decide) rfl hG dX2_goAlong_9 ?_
  exact r_sub [1, 2, 4, 5, 6, 0] rfl hG (w_He_goAlong_L11 N hG N v1 v3 v5 0 s2 hv1 hv3)
set_option maxRecDepth 4000 in
theorem w_He_weight_J31 {σ : St} {X : Cx} {G : GT Int64} (N : Nat) (hG : IsG X RX2 cX2_weight 6 1 (some .long) (oL σ) G) {K5 : Int32 → Int32 → Int32 → Int64 → Int32 → St → Option Int64} (hK5 : ∀ (v0 : Int32) (v1 : Int32) (v2 : Int32) (v3 : Int64) (v5 : Int32), G (K5 v0 v1 v2 v3 v5 σ) σ 5 [(0, .int v0), (1, .int v1), (2, .int v2), (3, .long v3), (5, .int v5)] []) (v0 : Int32) (v1 : Int32) (v2 : Int32) (v5 : Int32) (w0 : Int64) (w1 : Int64) : G (He_weight_J31 N K5 v0 v1 v2 v5 w0 w1 σ) σ 31 [(0, .int v0), (1, .int v1), (2, .int v2), (5, .int v5)] [.long w1, .long w0] := by
  unfold He_weight_J31
  refine r_lmul (pc := 31) hG dX2_weight_31 ?_
  refine r_bL hG (fun x3 => ?_)
  refine r_lstore_n (pc := 32) (lv' := [(3, .long x3), (0, .int v0), (1, .int v1), (2, .int v2), (5, .int v5)]) 3 rfl (by decide) rfl hG dX2_weight_32 ?_
  refine r_bIinc (pc := 33) (lv' := fun x4 => [(5, .int x4), (3, .long x3), (0, .int v0), (1, .int v1), (2, .int v2)]) 4 rfl rfl (by decide) (fun _ => rfl) hG dX2_weight_33 (fun x4 => ?_)
  refine r_goto (pc := 36) (tgt := 5) (by decide) hG dX2_weight_36 ?_
  exact r_sub [2, 3, 4, 1, 0] rfl hG (hK5 v0 v1 v2 x3 x4)
set_option maxRecDepth 4000 in
theorem w_He_weight_L5B {σ : St} {X : Cx} {G : GT Int64} (N : Nat) (hG : IsG X RX2 cX2_weight 6 1 (some .long) (oL σ) G) {K5 : Int32 → Int32 → Int32 → Int64 → Int32 → St → Option Int64} (hK5 : ∀ (v0 : Int32) (v1 : Int32) (v2 : Int32) (v3 : Int64) (v5 : Int32), G (K5 v0 v1 v2 v3 v5 σ) σ 5 [(0, .int v0), (1, .int v1), (2, .int v2), (3, .long v3), (5, .int v5)] []) (v0 : Int32) (v1 : Int32) (v2 : Int32) (v3 : Int64) (v5 : Int32) : G (He_weight_L5B N K5 v0 v1 v2 v3 v5 σ) σ 5 [(0, .int v0), (1, .int v1), (2, .int v2), (3, .long v3), (5, .int v5)] [] := by
  unfold He_weight_L5B
  refine r_iload (pc := 5) 4 rfl hG dX2_weight_5 ?_
  refine r_iload_n (pc := 7) 0 0 rfl rfl hG dX2_weight_7 ?_
  refine r_icmp_ge (pc := 8) (tgt := 39) (by decide) hG dX2_weight_8 (fun h1 => ?_) (fun h1 => ?_)
  · refine r_lload_n (pc := 39) 3 3 rfl rfl hG dX2_weight_39 ?_
    exact r_lret (pc := 40) rfl hG dX2_weight_40
  · refine r_lload_n (pc := 11) 3 3 rfl rfl hG dX2_weight_11 ?_
    refine r_iload_n (pc := 12) 1 1 rfl rfl hG dX2_weight_12 ?_
    refine r_iconst (pc := 13) (v := 1) (by decide) hG dX2_weight_13 ?_
    refine r_iload (pc := 14) 4 rfl hG dX2_weight_14 ?_
    refine r_ishl (pc := 16) hG dX2_weight_16 ?_
    refine r_iand (pc := 17) hG dX2_weight_17 ?_
    refine r_if_ne (pc := 18) (tgt := 29) (by decide) hG dX2_weight_18 (fun h2 => ?_) (fun h2 => ?_)
    · refine r_iload_n (pc := 29) 2 2 rfl rfl hG dX2_weight_29 ?_
      refine r_i2l (pc := 30) hG dX2_weight_30 ?_
      exact r_sub [0, 1, 2, 4] rfl hG (w_He_weight_J31 N hG hK5 v0 v1 v2 v5 v3 ((v2).toInt64))
    · refine r_bipush (pc := 21) (v := 10) (by decide) hG dX2_weight_21 ?_
      refine r_iload_n (pc := 23) 2 2 rfl rfl hG dX2_weight_23 ?_
      refine r_isub (pc := 24) hG dX2_weight_24 ?_
      refine r_i2l (pc := 25) hG dX2_weight_25 ?_
      refine r_goto (pc := 26) (tgt := 31) (by decide) hG dX2_weight_26 ?_
      exact r_sub [0, 1, 2, 4] rfl hG (w_He_weight_J31 N hG hK5 v0 v1 v2 v5 v3 (((10 - v2)).toInt64))
set_option maxRecDepth 4000 in
theorem w_He_weight_L5 {σ : St} {X : Cx} {G : GT Int64} (N : Nat) (hG : IsG X RX2 cX2_weight 6 1 (some .long) (oL σ) G) : ∀ (n : Nat), ∀ (v0 : Int32) (v1 : Int32) (v2 : Int32) (v3 : Int64) (v5 : Int32), G (He_weight_L5 N n v0 v1 v2 v3 v5 σ) σ 5 [(0, .int v0), (1, .int v1), (2, .int v2), (3, .long v3), (5, .int v5)] [] := by
  intro n
  induction n with
  | zero => intro v0 v1 v2 v3 v5; exact r_none hG
  | succ n ih => intro v0 v1 v2 v3 v5; exact w_He_weight_L5B N hG ih v0 v1 v2 v3 v5
set_option maxRecDepth 4000 in
theorem c_He_weight (X : Cx) (N : Nat) (v0 : Int32) (v1 : Int32) (v2 : Int32) (σ : St) (r : Int64) (hE : He_weight N v0 v1 v2 σ = some r) : Ctr X yX2_weight cX2_weight 6 (some .long) 1 [.int v0, .int v1, .int v2] σ (some (.long r)) σ := by
  refine Ctr.of (out := (oL σ)) (E := He_weight N v0 v1 v2 σ) rfl (by decide) (fun G hG => ?_) r hE
  unfold He_weight
  refine r_lconst (pc := 0) (v := 1) (by decide) hG dX2_weight_0 ?_
  refine r_lstore_n (pc := 1) (lv' := [(3, .long 1), (0, .int v0), (1, .int v1), (2, .int v2)]) 3 rfl (by decide) rfl hG dX2_weight_1 ?_
  refine r_iconst (pc := 2) (v := 0) (by decide) hG dX2_weight_2 ?_
  refine r_istore (pc := 3) (lv' := [(5, .int 0), (3, .long 1), (0, .int v0), (1, .int v1), (2, .int v2)]) (by decide) rfl hG dX2_weight_3 ?_
  exact r_sub [2, 3, 4, 1, 0] rfl hG (w_He_weight_L5 N hG N v0 v1 v2 1 0)
set_option maxRecDepth 4000 in
theorem w_He_tenToThe_L4B {σ : St} {X : Cx} {G : GT Int64} (N : Nat) (hG : IsG X RX2 cX2_tenToThe 4 1 (some .long) (oL σ) G) {K4 : Int32 → Int64 → Int32 → St → Option Int64} (hK4 : ∀ (v0 : Int32) (v1 : Int64) (v3 : Int32), G (K4 v0 v1 v3 σ) σ 4 [(0, .int v0), (1, .long v1), (3, .int v3)] []) (v0 : Int32) (v1 : Int64) (v3 : Int32) : G (He_tenToThe_L4B N K4 v0 v1 v3 σ) σ 4 [(0, .int v0), (1, .long v1), (3, .int v3)] [] := by
  unfold He_tenToThe_L4B
  refine r_iload_n (pc := 4) 2 3 rfl rfl hG dX2_tenToThe_4 ?_
  refine r_iload_n (pc := 5) 0 0 rfl rfl hG dX2_tenToThe_5 ?_
  refine r_icmp_ge (pc := 6) (tgt := 21) (by decide) hG dX2_tenToThe_6 (fun h1 => ?_) (fun h1 => ?_)
  · refine r_lload_n (pc := 21) 1 1 rfl rfl hG dX2_tenToThe_21 ?_
    exact r_lret (pc := 22) rfl hG dX2_tenToThe_22
  · refine r_lload_n (pc := 9) 1 1 rfl rfl hG dX2_tenToThe_9 ?_
    refine r_ldc2 (pc := 10) (v := 10) lk1032 hG dX2_tenToThe_10 ?_
    refine r_lmul (pc := 13) hG dX2_tenToThe_13 ?_
    refine r_bL hG (fun x2 => ?_)
    refine r_lstore_n (pc := 14) (lv' := [(1, .long x2), (0, .int v0), (3, .int v3)]) 1 rfl (by decide) rfl hG dX2_tenToThe_14 ?_
    refine r_bIinc (pc := 15) (lv' := fun x3 => [(3, .int x3), (1, .long x2), (0, .int v0)]) 2 rfl rfl (by decide) (fun _ => rfl) hG dX2_tenToThe_15 (fun x3 => ?_)
    refine r_goto (pc := 18) (tgt := 4) (by decide) hG dX2_tenToThe_18 ?_
    exact r_sub [2, 1, 0] rfl hG (hK4 v0 x2 x3)
set_option maxRecDepth 4000 in
theorem w_He_tenToThe_L4 {σ : St} {X : Cx} {G : GT Int64} (N : Nat) (hG : IsG X RX2 cX2_tenToThe 4 1 (some .long) (oL σ) G) : ∀ (n : Nat), ∀ (v0 : Int32) (v1 : Int64) (v3 : Int32), G (He_tenToThe_L4 N n v0 v1 v3 σ) σ 4 [(0, .int v0), (1, .long v1), (3, .int v3)] [] := by
  intro n
  induction n with
  | zero => intro v0 v1 v3; exact r_none hG
  | succ n ih => intro v0 v1 v3; exact w_He_tenToThe_L4B N hG ih v0 v1 v3
set_option maxRecDepth 4000 in
theorem c_He_tenToThe (X : Cx) (N : Nat) (v0 : Int32) (σ : St) (r : Int64) (hE : He_tenToThe N v0 σ = some r) : Ctr X yX2_tenToThe cX2_tenToThe 4 (some .long) 1 [.int v0] σ (some (.long r)) σ := by
  refine Ctr.of (out := (oL σ)) (E := He_tenToThe N v0 σ) rfl (by decide) (fun G hG => ?_) r hE
  unfold He_tenToThe
  refine r_lconst (pc := 0) (v := 1) (by decide) hG dX2_tenToThe_0 ?_
  refine r_lstore_n (pc := 1) (lv' := [(1, .long 1), (0, .int v0)]) 1 rfl (by decide) rfl hG dX2_tenToThe_1 ?_
  refine r_iconst (pc := 2) (v := 0) (by decide) hG dX2_tenToThe_2 ?_
  refine r_istore_n (pc := 3) (lv' := [(3, .int 0), (1, .long 1), (0, .int v0)]) 3 rfl (by decide) rfl hG dX2_tenToThe_3 ?_
  exact r_sub [2, 1, 0] rfl hG (w_He_tenToThe_L4 N hG N v0 1 0)
set_option maxRecDepth 4000 in
theorem w_He_setFraction_J44 {X : Cx} {G : GT St} (N : Nat) (hG : IsG X RX2 cX2_setFraction 12 1 none oWV G) (v1 : Int64) (v3 : Int64) (v5 : Int64) (σ : St) : G (He_setFraction_J44 N v1 v3 v5 σ) σ 44 [(0, .ref (X.2.1 + 69)), (1, .long v1), (3, .long v3), (5, .long v5)] [] := by
  unfold He_setFraction_J44
  refine r_lload (pc := 44) 3 rfl hG dX2_setFraction_44 ?_
  refine r_lconst (pc := 46) (v := 0) (by decide) hG dX2_setFraction_46 ?_
  refine r_lcmp (pc := 47) hG dX2_setFraction_47 ?_
  refine r_if_le (pc := 48) (tgt := 67) (by decide) hG dX2_setFraction_48 (fun h2 => ?_) (fun h2 => ?_)
  · exact r_vret (pc := 67) rfl hG dX2_setFraction_67
  · refine r_aload_n (pc := 51) 0 0 rfl rfl hG dX2_setFraction_51 ?_
    refine r_lload_n (pc := 52) 1 1 rfl rfl hG dX2_setFraction_52 ?_
    refine r_lload (pc := 53) 3 rfl hG dX2_setFraction_53 ?_
    refine r_chkN hG (fun h3 => ?_)
    refine r_ldiv (pc := 55) h3 hG dX2_setFraction_55 ?_
    refine pf2_1 (pc := 56) lk396 hG dX2_setFraction_56 ?_
    refine r_bS hG (fun s4 => ?_)
    refine r_aload_n (pc := 59) 0 0 rfl rfl hG dX2_setFraction_59 ?_
    refine r_lload_n (pc := 60) 2 3 rfl rfl hG dX2_setFraction_60 ?_
    refine r_lload (pc := 61) 3 rfl hG dX2_setFraction_61 ?_
    refine r_chkN hG (fun h5 => ?_)
    refine r_ldiv (pc := 63) h5 hG dX2_setFraction_63 ?_
    refine pf2_2 (pc := 64) lk398 hG dX2_setFraction_64 ?_
    refine r_bS hG (fun s6 => ?_)
    exact r_vret (pc := 67) rfl hG dX2_setFraction_67
set_option maxRecDepth 4000 in
theorem w_He_setFraction_L9B {X : Cx} {G : GT St} (N : Nat) (hG : IsG X RX2 cX2_setFraction 12 1 none oWV G) {K9 : Int64 → Int64 → Int64 → Int64 → Int32 → St → Option St} (hK9 : ∀ (v1 : Int64) (v3 : Int64) (v5 : Int64) (v7 : Int64) (v9 : Int32) (s : St), G (K9 v1 v3 v5 v7 v9 s) s 9 [(0, .ref (X.2.1 + 69)), (1, .long v1), (3, .long v3), (5, .long v5), (7, .long v7), (9, .int v9)] []) (v1 : Int64) (v3 : Int64) (v5 : Int64) (v7 : Int64) (v9 : Int32) (σ : St) : G (He_setFraction_L9B N K9 v1 v3 v5 v7 v9 σ) σ 9 [(0, .ref (X.2.1 + 69)), (1, .long v1), (3, .long v3), (5, .long v5), (7, .long v7), (9, .int v9)] [] := by
  unfold He_setFraction_L9B
  refine r_iload (pc := 9) 5 rfl hG dX2_setFraction_9 ?_
  refine r_bipush (pc := 11) (v := 100) (by decide) hG dX2_setFraction_11 ?_
  refine r_icmp_ge (pc := 13) (tgt := 44) (by decide) hG dX2_setFraction_13 (fun h1 => ?_) (fun h1 => ?_)
  · exact r_sub [0, 1, 2, 3] rfl hG (w_He_setFraction_J44 N hG v1 v3 v5 σ)
  · refine r_lload (pc := 16) 4 rfl hG dX2_setFraction_16 ?_
    refine r_lconst (pc := 18) (v := 0) (by decide) hG dX2_setFraction_18 ?_
    refine r_lcmp (pc := 19) hG dX2_setFraction_19 ?_
    refine r_if_eq (pc := 20) (tgt := 44) (by decide) hG dX2_setFraction_20 (fun h7 => ?_) (fun h7 => ?_)
    · exact r_sub [0, 1, 2, 3] rfl hG (w_He_setFraction_J44 N hG v1 v3 v5 σ)
    · refine r_lload (pc := 23) 3 rfl hG dX2_setFraction_23 ?_
      refine r_lload (pc := 25) 4 rfl hG dX2_setFraction_25 ?_
      refine r_chkN hG (fun h8 => ?_)
      refine r_lrem (pc := 27) h8 hG dX2_setFraction_27 ?_
      refine r_bL hG (fun x9 => ?_)
      refine r_lstore (pc := 28) (lv' := [(10, .long x9), (0, .ref (X.2.1 + 69)), (1, .long v1), (3, .long v3), (5, .long v5), (7, .long v7), (9, .int v9)]) (by decide) rfl hG dX2_setFraction_28 ?_
      refine r_lload (pc := 30) 5 rfl hG dX2_setFraction_30 ?_
      refine r_lstore (pc := 32) (lv' := [(5, .long v7), (10, .long x9), (0, .ref (X.2.1 + 69)), (1, .long v1), (3, .long v3), (7, .long v7), (9, .int v9)]) (by decide) rfl hG dX2_setFraction_32 ?_
      refine r_lload (pc := 34) 1 rfl hG dX2_setFraction_34 ?_
      refine r_lstore (pc := 36) (lv' := [(7, .long x9), (5, .long v7), (10, .long x9), (0, .ref (X.2.1 + 69)), (1, .long v1), (3, .long v3), (9, .int v9)]) (by decide) rfl hG dX2_setFraction_36 ?_
      refine r_bIinc (pc := 38) (lv' := fun x10 => [(9, .int x10), (7, .long x9), (5, .long v7), (10, .long x9), (0, .ref (X.2.1 + 69)), (1, .long v1), (3, .long v3)]) 6 rfl rfl (by decide) (fun _ => rfl) hG dX2_setFraction_38 (fun x10 => ?_)
      refine r_goto (pc := 41) (tgt := 9) (by decide) hG dX2_setFraction_41 ?_
      exact r_sub [4, 5, 6, 2, 1, 0] rfl hG (hK9 v1 v3 v7 x9 x10 σ)
set_option maxRecDepth 4000 in
theorem w_He_setFraction_L9 {X : Cx} {G : GT St} (N : Nat) (hG : IsG X RX2 cX2_setFraction 12 1 none oWV G) : ∀ (n : Nat), ∀ (v1 : Int64) (v3 : Int64) (v5 : Int64) (v7 : Int64) (v9 : Int32) (σ : St), G (He_setFraction_L9 N n v1 v3 v5 v7 v9 σ) σ 9 [(0, .ref (X.2.1 + 69)), (1, .long v1), (3, .long v3), (5, .long v5), (7, .long v7), (9, .int v9)] [] := by
  intro n
  induction n with
  | zero => intro v1 v3 v5 v7 v9 σ; exact r_none hG
  | succ n ih => intro v1 v3 v5 v7 v9 σ; exact w_He_setFraction_L9B N hG ih v1 v3 v5 v7 v9 σ
set_option maxRecDepth 4000 in
theorem c_He_setFraction (X : Cx) (N : Nat) (v1 : Int64) (v3 : Int64) (σ : St) (σ1 : St) (hE : He_setFraction N v1 v3 σ = some σ1) : Ctr X yX2_setFraction cX2_setFraction 12 none 1 [.ref (X.2.1 + 69), .long v1, .long v3] σ none σ1 := by
  refine Ctr.of (out := oWV) (E := He_setFraction N v1 v3 σ) rfl (by decide) (fun G hG => ?_) σ1 hE
  unfold He_setFraction
  refine r_lload_n (pc := 0) 1 1 rfl rfl hG dX2_setFraction_0 ?_
  refine r_lstore (pc := 1) (lv' := [(5, .long v1), (0, .ref (X.2.1 + 69)), (1, .long v1), (3, .long v3)]) (by decide) rfl hG dX2_setFraction_1 ?_
  refine r_lload_n (pc := 3) 3 3 rfl rfl hG dX2_setFraction_3 ?_
  refine r_lstore (pc := 4) (lv' := [(7, .long v3), (5, .long v1), (0, .ref (X.2.1 + 69)), (1, .long v1), (3, .long v3)]) (by decide) rfl hG dX2_setFraction_4 ?_
  refine r_iconst (pc := 6) (v := 0) (by decide) hG dX2_setFraction_6 ?_
  refine r_istore (pc := 7) (lv' := [(9, .int 0), (7, .long v3), (5, .long v1), (0, .ref (X.2.1 + 69)), (1, .long v1), (3, .long v3)]) (by decide) rfl hG dX2_setFraction_7 ?_
  exact r_sub [3, 4, 5, 2, 1, 0] rfl hG (w_He_setFraction_L9 N hG N v1 v3 v1 v3 0 σ)
set_option maxRecDepth 4000 in
theorem w_He_chance_J64 {X : Cx} {G : GT St} (N : Nat) (hG : IsG X RX2 cX2_chance 10 10 none oWV G) (v7 : Int64) (σ : St) : G (He_chance_J64 N v7 σ) σ 64 [(0, .ref (X.2.1 + 69)), (4, .ref (X.2.1 + 47)), (7, .long v7)] [] := by
  unfold He_chance_J64
  refine r_aload_n (pc := 64) 0 0 rfl rfl hG dX2_chance_64 ?_
  refine r_lload (pc := 65) 2 rfl hG dX2_chance_65 ?_
  refine r_aload (pc := 67) 1 rfl hG dX2_chance_67 ?_
  refine gf10_2 (pc := 69) lk288 hG dX2_chance_69 ?_
  refine r_bR hG (fun r2 e4 => ?_)
  refine r_callSl (pc := 72) (As := [.int (σ.1 47 2)]) (c_He_tenToThe X N (σ.1 47 2) σ r2 e4) mfX2_40_X2_tenToThe hySX2_tenToThe (by decide) (by decide) rfl (Nat.le_of_ble_eq_true rfl) hG dX2_chance_72 rfl (fun n3 => ?_)
  refine r_bR hG (fun s6 e8 => ?_)
  refine r_callVv (pc := 75) (As := [.long v7, .long r2]) (c_He_setFraction X N v7 r2 σ s6 e8) (wsOf_at (rfl : shp 69 = 2) (by decide) rfl) rfl mfX2_44_X2_setFraction hyVX2_setFraction (by decide) (by decide) rfl (Nat.le_of_ble_eq_true rfl) hG dX2_chance_75 rfl (fun n7 => ?_)
  exact r_vret (pc := 78) rfl hG dX2_chance_78
set_option maxRecDepth 4000 in
theorem w_He_chance_J58 {X : Cx} {G : GT St} (N : Nat) (hG : IsG X RX2 cX2_chance 10 10 none oWV G) {K6 : Nat → Nat → Nat → Int32 → Int32 → Int64 → Int32 → St → Option St} (hK6 : ∀ (v1 : Nat) (v2 : Nat) (v3 : Nat) (v5 : Int32) (v6 : Int32) (v7 : Int64) (v9 : Int32) (s : St), shp v1 = 4 → shp v2 = 1 → shp v3 = 7 → G (K6 v1 v2 v3 v5 v6 v7 v9 s) s 6 [(0, .ref (X.2.1 + 69)), (1, .ref (X.2.1 + v1)), (2, .ref (X.2.1 + v2)), (3, .ref (X.2.1 + v3)), (4, .ref (X.2.1 + 47)), (5, .int v5), (6, .int v6), (7, .long v7), (9, .int v9)] []) (v1 : Nat) (v2 : Nat) (v3 : Nat) (v5 : Int32) (v6 : Int32) (v7 : Int64) (v9 : Int32) (σ : St) (hv1 : shp v1 = 4) (hv2 : shp v2 = 1) (hv3 : shp v3 = 7) : G (He_chance_J58 N K6 v1 v2 v3 v5 v6 v7 v9 σ) σ 58 [(0, .ref (X.2.1 + 69)), (1, .ref (X.2.1 + v1)), (2, .ref (X.2.1 + v2)), (3, .ref (X.2.1 + v3)), (4, .ref (X.2.1 + 47)), (5, .int v5), (6, .int v6), (7, .long v7), (9, .int v9)] [] := by
  unfold He_chance_J58
  refine r_bIinc (pc := 58) (lv' := fun x14 => [(9, .int x14), (0, .ref (X.2.1 + 69)), (1, .ref (X.2.1 + v1)), (2, .ref (X.2.1 + v2)), (3, .ref (X.2.1 + v3)), (4, .ref (X.2.1 + 47)), (5, .int v5), (6, .int v6), (7, .long v7)]) 8 rfl rfl (by decide) (fun _ => rfl) hG dX2_chance_58 (fun x14 => ?_)
  refine r_goto (pc := 61) (tgt := 6) (by decide) hG dX2_chance_61 ?_
  exact r_sub [1, 2, 3, 4, 5, 6, 7, 8, 0] rfl hG (hK6 v1 v2 v3 v5 v6 v7 x14 σ hv1 hv2 hv3)
set_option maxRecDepth 4000 in
theorem w_He_chance_L6B {X : Cx} {G : GT St} (N : Nat) (hG : IsG X RX2 cX2_chance 10 10 none oWV G) {K6 : Nat → Nat → Nat → Int32 → Int32 → Int64 → Int32 → St → Option St} (hK6 : ∀ (v1 : Nat) (v2 : Nat) (v3 : Nat) (v5 : Int32) (v6 : Int32) (v7 : Int64) (v9 : Int32) (s : St), shp v1 = 4 → shp v2 = 1 → shp v3 = 7 → G (K6 v1 v2 v3 v5 v6 v7 v9 s) s 6 [(0, .ref (X.2.1 + 69)), (1, .ref (X.2.1 + v1)), (2, .ref (X.2.1 + v2)), (3, .ref (X.2.1 + v3)), (4, .ref (X.2.1 + 47)), (5, .int v5), (6, .int v6), (7, .long v7), (9, .int v9)] []) (v1 : Nat) (v2 : Nat) (v3 : Nat) (v5 : Int32) (v6 : Int32) (v7 : Int64) (v9 : Int32) (σ : St) (hv1 : shp v1 = 4) (hv2 : shp v2 = 1) (hv3 : shp v3 = 7) : G (He_chance_L6B N K6 v1 v2 v3 v5 v6 v7 v9 σ) σ 6 [(0, .ref (X.2.1 + 69)), (1, .ref (X.2.1 + v1)), (2, .ref (X.2.1 + v2)), (3, .ref (X.2.1 + v3)), (4, .ref (X.2.1 + 47)), (5, .int v5), (6, .int v6), (7, .long v7), (9, .int v9)] [] := by
  unfold He_chance_L6B
  refine r_iload (pc := 6) 8 rfl hG dX2_chance_6 ?_
  refine r_iconst (pc := 8) (v := 1) (by decide) hG dX2_chance_8 ?_
  refine r_aload (pc := 9) 4 rfl hG dX2_chance_9 ?_
  refine gf10_2 (pc := 11) lk288 hG dX2_chance_11 ?_
  refine r_ishl (pc := 14) hG dX2_chance_14 ?_
  refine r_icmp_ge (pc := 15) (tgt := 64) (by decide) hG dX2_chance_15 (fun h1 => ?_) (fun h1 => ?_)
  · exact r_sub [0, 4, 7] rfl hG (w_He_chance_J64 N hG v7 σ)
  · refine r_aload_n (pc := 18) 0 0 rfl rfl hG dX2_chance_18 ?_
    refine r_aload_n (pc := 19) 1 1 rfl rfl hG dX2_chance_19 ?_
    refine r_aload_n (pc := 20) 2 2 rfl rfl hG dX2_chance_20 ?_
    refine r_aload_n (pc := 21) 3 3 rfl rfl hG dX2_chance_21 ?_
    refine r_aload (pc := 22) 4 rfl hG dX2_chance_22 ?_
    refine r_iload (pc := 24) 8 rfl hG dX2_chance_24 ?_
    refine r_bR hG (fun s10 e12 => ?_)
    refine r_callVv (pc := 26) (As := [.ref (X.2.1 + v1), .ref (X.2.1 + v2), .ref (X.2.1 + v3), .ref (X.2.1 + 47), .int v9]) (c_He_goAlong X N v1 v2 v3 v9 σ hv1 hv2 hv3 s10 e12) (wsOf_at (rfl : shp 69 = 2) (by decide) rfl) rfl mfX2_29_X2_goAlong hyVX2_goAlong (by decide) (by decide) rfl (Nat.le_of_ble_eq_true rfl) hG dX2_chance_26 rfl (fun n11 => ?_)
    refine r_aload_n (pc := 29) 0 0 rfl rfl hG dX2_chance_29 ?_
    refine gf2_0 (pc := 30) lk395 hG dX2_chance_30 ?_
    refine gf1_2 (pc := 33) (i := 70) (rfl : shp 70 = 1) lk179 hG dX2_chance_33 ?_
    refine r_iload (pc := 36) 5 rfl hG dX2_chance_36 ?_
    refine r_icmp_lt (pc := 38) (tgt := 58) (by decide) hG dX2_chance_38 (fun h13 => ?_) (fun h13 => ?_)
    · exact w_He_chance_J58 N hG hK6 v1 v2 v3 v5 v6 v7 v9 s10 hv1 hv2 hv3
    · refine r_lload (pc := 41) 7 rfl hG dX2_chance_41 ?_
      refine r_aload (pc := 43) 4 rfl hG dX2_chance_43 ?_
      refine gf10_2 (pc := 45) lk288 hG dX2_chance_45 ?_
      refine r_iload (pc := 48) 8 rfl hG dX2_chance_48 ?_
      refine r_iload (pc := 50) 6 rfl hG dX2_chance_50 ?_
      refine r_bR hG (fun r15 e17 => ?_)
      refine r_callSl (pc := 52) (As := [.int (s10.1 47 2), .int v9, .int v6]) (c_He_weight X N (s10.1 47 2) v9 v6 s10 r15 e17) mfX2_36_X2_weight hySX2_weight (by decide) (by decide) rfl (Nat.le_of_ble_eq_true rfl) hG dX2_chance_52 rfl (fun n16 => ?_)
      refine r_ladd (pc := 55) hG dX2_chance_55 ?_
      refine r_bL hG (fun x18 => ?_)
      refine r_lstore (pc := 56) (lv' := [(7, .long x18), (0, .ref (X.2.1 + 69)), (1, .ref (X.2.1 + v1)), (2, .ref (X.2.1 + v2)), (3, .ref (X.2.1 + v3)), (4, .ref (X.2.1 + 47)), (5, .int v5), (6, .int v6), (9, .int v9)]) (by decide) rfl hG dX2_chance_56 ?_
      exact r_sub [1, 2, 3, 4, 5, 6, 7, 0, 8] rfl hG (w_He_chance_J58 N hG hK6 v1 v2 v3 v5 v6 x18 v9 s10 hv1 hv2 hv3)
set_option maxRecDepth 4000 in
theorem w_He_chance_L6 {X : Cx} {G : GT St} (N : Nat) (hG : IsG X RX2 cX2_chance 10 10 none oWV G) : ∀ (n : Nat), ∀ (v1 : Nat) (v2 : Nat) (v3 : Nat) (v5 : Int32) (v6 : Int32) (v7 : Int64) (v9 : Int32) (σ : St), shp v1 = 4 → shp v2 = 1 → shp v3 = 7 → G (He_chance_L6 N n v1 v2 v3 v5 v6 v7 v9 σ) σ 6 [(0, .ref (X.2.1 + 69)), (1, .ref (X.2.1 + v1)), (2, .ref (X.2.1 + v2)), (3, .ref (X.2.1 + v3)), (4, .ref (X.2.1 + 47)), (5, .int v5), (6, .int v6), (7, .long v7), (9, .int v9)] [] := by
  intro n
  induction n with
  | zero => intro v1 v2 v3 v5 v6 v7 v9 σ hv1 hv2 hv3; exact r_none hG
  | succ n ih => intro v1 v2 v3 v5 v6 v7 v9 σ hv1 hv2 hv3; exact w_He_chance_L6B N hG ih v1 v2 v3 v5 v6 v7 v9 σ hv1 hv2 hv3
set_option maxRecDepth 4000 in
theorem c_He_chance (X : Cx) (N : Nat) (v1 : Nat) (v2 : Nat) (v3 : Nat) (v5 : Int32) (v6 : Int32) (σ : St) (hv1 : shp v1 = 4) (hv2 : shp v2 = 1) (hv3 : shp v3 = 7) (σ1 : St) (hE : He_chance N v1 v2 v3 v5 v6 σ = some σ1) : Ctr X yX2_chance cX2_chance 10 none 10 [.ref (X.2.1 + 69), .ref (X.2.1 + v1), .ref (X.2.1 + v2), .ref (X.2.1 + v3), .ref (X.2.1 + 47), .int v5, .int v6] σ none σ1 := by
  refine Ctr.of (out := oWV) (E := He_chance N v1 v2 v3 v5 v6 σ) rfl (by decide) (fun G hG => ?_) σ1 hE
  unfold He_chance
  refine r_lconst (pc := 0) (v := 0) (by decide) hG dX2_chance_0 ?_
  refine r_lstore (pc := 1) (lv' := [(7, .long 0), (0, .ref (X.2.1 + 69)), (1, .ref (X.2.1 + v1)), (2, .ref (X.2.1 + v2)), (3, .ref (X.2.1 + v3)), (4, .ref (X.2.1 + 47)), (5, .int v5), (6, .int v6)]) (by decide) rfl hG dX2_chance_1 ?_
  refine r_iconst (pc := 3) (v := 0) (by decide) hG dX2_chance_3 ?_
  refine r_istore (pc := 4) (lv' := [(9, .int 0), (7, .long 0), (0, .ref (X.2.1 + 69)), (1, .ref (X.2.1 + v1)), (2, .ref (X.2.1 + v2)), (3, .ref (X.2.1 + v3)), (4, .ref (X.2.1 + 47)), (5, .int v5), (6, .int v6)]) (by decide) rfl hG dX2_chance_4 ?_
  exact r_sub [2, 3, 4, 5, 6, 7, 8, 1, 0] rfl hG (w_He_chance_L6 N hG N v1 v2 v3 v5 v6 0 0 σ hv1 hv2 hv3)
set_option maxRecDepth 4000 in
theorem w_He_meanHurt_J61 {X : Cx} {G : GT St} (N : Nat) (hG : IsG X RX2 cX2_meanHurt 9 10 none oWV G) (v6 : Int64) (σ : St) : G (He_meanHurt_J61 N v6 σ) σ 61 [(0, .ref (X.2.1 + 69)), (4, .ref (X.2.1 + 47)), (6, .long v6)] [] := by
  unfold He_meanHurt_J61
  refine r_aload_n (pc := 61) 0 0 rfl rfl hG dX2_meanHurt_61 ?_
  refine r_lload (pc := 62) 2 rfl hG dX2_meanHurt_62 ?_
  refine r_aload (pc := 64) 1 rfl hG dX2_meanHurt_64 ?_
  refine gf10_2 (pc := 66) lk288 hG dX2_meanHurt_66 ?_
  refine r_bR hG (fun r2 e4 => ?_)
  refine r_callSl (pc := 69) (As := [.int (σ.1 47 2)]) (c_He_tenToThe X N (σ.1 47 2) σ r2 e4) mfX2_40_X2_tenToThe hySX2_tenToThe (by decide) (by decide) rfl (Nat.le_of_ble_eq_true rfl) hG dX2_meanHurt_69 rfl (fun n3 => ?_)
  refine r_bR hG (fun s6 e8 => ?_)
  refine r_callVv (pc := 72) (As := [.long v6, .long r2]) (c_He_setFraction X N v6 r2 σ s6 e8) (wsOf_at (rfl : shp 69 = 2) (by decide) rfl) rfl mfX2_44_X2_setFraction hyVX2_setFraction (by decide) (by decide) rfl (Nat.le_of_ble_eq_true rfl) hG dX2_meanHurt_72 rfl (fun n7 => ?_)
  exact r_vret (pc := 75) rfl hG dX2_meanHurt_75
set_option maxRecDepth 4000 in
theorem w_He_meanHurt_L6B {X : Cx} {G : GT St} (N : Nat) (hG : IsG X RX2 cX2_meanHurt 9 10 none oWV G) {K6 : Nat → Nat → Nat → Int32 → Int64 → Int32 → St → Option St} (hK6 : ∀ (v1 : Nat) (v2 : Nat) (v3 : Nat) (v5 : Int32) (v6 : Int64) (v8 : Int32) (s : St), shp v1 = 4 → shp v2 = 1 → shp v3 = 7 → G (K6 v1 v2 v3 v5 v6 v8 s) s 6 [(0, .ref (X.2.1 + 69)), (1, .ref (X.2.1 + v1)), (2, .ref (X.2.1 + v2)), (3, .ref (X.2.1 + v3)), (4, .ref (X.2.1 + 47)), (5, .int v5), (6, .long v6), (8, .int v8)] []) (v1 : Nat) (v2 : Nat) (v3 : Nat) (v5 : Int32) (v6 : Int64) (v8 : Int32) (σ : St) (hv1 : shp v1 = 4) (hv2 : shp v2 = 1) (hv3 : shp v3 = 7) : G (He_meanHurt_L6B N K6 v1 v2 v3 v5 v6 v8 σ) σ 6 [(0, .ref (X.2.1 + 69)), (1, .ref (X.2.1 + v1)), (2, .ref (X.2.1 + v2)), (3, .ref (X.2.1 + v3)), (4, .ref (X.2.1 + 47)), (5, .int v5), (6, .long v6), (8, .int v8)] [] := by
  unfold He_meanHurt_L6B
  refine r_iload (pc := 6) 7 rfl hG dX2_meanHurt_6 ?_
  refine r_iconst (pc := 8) (v := 1) (by decide) hG dX2_meanHurt_8 ?_
  refine r_aload (pc := 9) 4 rfl hG dX2_meanHurt_9 ?_
  refine gf10_2 (pc := 11) lk288 hG dX2_meanHurt_11 ?_
  refine r_ishl (pc := 14) hG dX2_meanHurt_14 ?_
  refine r_icmp_ge (pc := 15) (tgt := 61) (by decide) hG dX2_meanHurt_15 (fun h1 => ?_) (fun h1 => ?_)
  · exact r_sub [0, 4, 6] rfl hG (w_He_meanHurt_J61 N hG v6 σ)
  · refine r_aload_n (pc := 18) 0 0 rfl rfl hG dX2_meanHurt_18 ?_
    refine r_aload_n (pc := 19) 1 1 rfl rfl hG dX2_meanHurt_19 ?_
    refine r_aload_n (pc := 20) 2 2 rfl rfl hG dX2_meanHurt_20 ?_
    refine r_aload_n (pc := 21) 3 3 rfl rfl hG dX2_meanHurt_21 ?_
    refine r_aload (pc := 22) 4 rfl hG dX2_meanHurt_22 ?_
    refine r_iload (pc := 24) 7 rfl hG dX2_meanHurt_24 ?_
    refine r_bR hG (fun s10 e12 => ?_)
    refine r_callVv (pc := 26) (As := [.ref (X.2.1 + v1), .ref (X.2.1 + v2), .ref (X.2.1 + v3), .ref (X.2.1 + 47), .int v8]) (c_He_goAlong X N v1 v2 v3 v8 σ hv1 hv2 hv3 s10 e12) (wsOf_at (rfl : shp 69 = 2) (by decide) rfl) rfl mfX2_29_X2_goAlong hyVX2_goAlong (by decide) (by decide) rfl (Nat.le_of_ble_eq_true rfl) hG dX2_meanHurt_26 rfl (fun n11 => ?_)
    refine r_lload (pc := 29) 6 rfl hG dX2_meanHurt_29 ?_
    refine r_aload (pc := 31) 4 rfl hG dX2_meanHurt_31 ?_
    refine gf10_2 (pc := 33) lk288 hG dX2_meanHurt_33 ?_
    refine r_iload (pc := 36) 7 rfl hG dX2_meanHurt_36 ?_
    refine r_iload (pc := 38) 5 rfl hG dX2_meanHurt_38 ?_
    refine r_bR hG (fun r13 e15 => ?_)
    refine r_callSl (pc := 40) (As := [.int (s10.1 47 2), .int v8, .int v5]) (c_He_weight X N (s10.1 47 2) v8 v5 s10 r13 e15) mfX2_36_X2_weight hySX2_weight (by decide) (by decide) rfl (Nat.le_of_ble_eq_true rfl) hG dX2_meanHurt_40 rfl (fun n14 => ?_)
    refine r_aload_n (pc := 43) 0 0 rfl rfl hG dX2_meanHurt_43 ?_
    refine gf2_0 (pc := 44) lk395 hG dX2_meanHurt_44 ?_
    refine gf1_3 (pc := 47) (i := 70) (rfl : shp 70 = 1) lk188 hG dX2_meanHurt_47 ?_
    refine r_i2l (pc := 50) hG dX2_meanHurt_50 ?_
    refine r_lmul (pc := 51) hG dX2_meanHurt_51 ?_
    refine r_ladd (pc := 52) hG dX2_meanHurt_52 ?_
    refine r_bL hG (fun x16 => ?_)
    refine r_lstore (pc := 53) (lv' := [(6, .long x16), (0, .ref (X.2.1 + 69)), (1, .ref (X.2.1 + v1)), (2, .ref (X.2.1 + v2)), (3, .ref (X.2.1 + v3)), (4, .ref (X.2.1 + 47)), (5, .int v5), (8, .int v8)]) (by decide) rfl hG dX2_meanHurt_53 ?_
    refine r_bIinc (pc := 55) (lv' := fun x17 => [(8, .int x17), (6, .long x16), (0, .ref (X.2.1 + 69)), (1, .ref (X.2.1 + v1)), (2, .ref (X.2.1 + v2)), (3, .ref (X.2.1 + v3)), (4, .ref (X.2.1 + 47)), (5, .int v5)]) 7 rfl rfl (by decide) (fun _ => rfl) hG dX2_meanHurt_55 (fun x17 => ?_)
    refine r_goto (pc := 58) (tgt := 6) (by decide) hG dX2_meanHurt_58 ?_
    exact r_sub [2, 3, 4, 5, 6, 7, 1, 0] rfl hG (hK6 v1 v2 v3 v5 x16 x17 s10 hv1 hv2 hv3)
set_option maxRecDepth 4000 in
theorem w_He_meanHurt_L6 {X : Cx} {G : GT St} (N : Nat) (hG : IsG X RX2 cX2_meanHurt 9 10 none oWV G) : ∀ (n : Nat), ∀ (v1 : Nat) (v2 : Nat) (v3 : Nat) (v5 : Int32) (v6 : Int64) (v8 : Int32) (σ : St), shp v1 = 4 → shp v2 = 1 → shp v3 = 7 → G (He_meanHurt_L6 N n v1 v2 v3 v5 v6 v8 σ) σ 6 [(0, .ref (X.2.1 + 69)), (1, .ref (X.2.1 + v1)), (2, .ref (X.2.1 + v2)), (3, .ref (X.2.1 + v3)), (4, .ref (X.2.1 + 47)), (5, .int v5), (6, .long v6), (8, .int v8)] [] := by
  intro n
  induction n with
  | zero => intro v1 v2 v3 v5 v6 v8 σ hv1 hv2 hv3; exact r_none hG
  | succ n ih => intro v1 v2 v3 v5 v6 v8 σ hv1 hv2 hv3; exact w_He_meanHurt_L6B N hG ih v1 v2 v3 v5 v6 v8 σ hv1 hv2 hv3
set_option maxRecDepth 4000 in
theorem c_He_meanHurt (X : Cx) (N : Nat) (v1 : Nat) (v2 : Nat) (v3 : Nat) (v5 : Int32) (σ : St) (hv1 : shp v1 = 4) (hv2 : shp v2 = 1) (hv3 : shp v3 = 7) (σ1 : St) (hE : He_meanHurt N v1 v2 v3 v5 σ = some σ1) : Ctr X yX2_meanHurt cX2_meanHurt 9 none 10 [.ref (X.2.1 + 69), .ref (X.2.1 + v1), .ref (X.2.1 + v2), .ref (X.2.1 + v3), .ref (X.2.1 + 47), .int v5] σ none σ1 := by
  refine Ctr.of (out := oWV) (E := He_meanHurt N v1 v2 v3 v5 σ) rfl (by decide) (fun G hG => ?_) σ1 hE
  unfold He_meanHurt
  refine r_lconst (pc := 0) (v := 0) (by decide) hG dX2_meanHurt_0 ?_
  refine r_lstore (pc := 1) (lv' := [(6, .long 0), (0, .ref (X.2.1 + 69)), (1, .ref (X.2.1 + v1)), (2, .ref (X.2.1 + v2)), (3, .ref (X.2.1 + v3)), (4, .ref (X.2.1 + 47)), (5, .int v5)]) (by decide) rfl hG dX2_meanHurt_1 ?_
  refine r_iconst (pc := 3) (v := 0) (by decide) hG dX2_meanHurt_3 ?_
  refine r_istore (pc := 4) (lv' := [(8, .int 0), (6, .long 0), (0, .ref (X.2.1 + 69)), (1, .ref (X.2.1 + v1)), (2, .ref (X.2.1 + v2)), (3, .ref (X.2.1 + v3)), (4, .ref (X.2.1 + 47)), (5, .int v5)]) (by decide) rfl hG dX2_meanHurt_4 ?_
  exact r_sub [2, 3, 4, 5, 6, 7, 1, 0] rfl hG (w_He_meanHurt_L6 N hG N v1 v2 v3 v5 0 0 σ hv1 hv2 hv3)
set_option maxRecDepth 4000 in
theorem c_La_toGuest (X : Cx) (N : Nat) (v1 : Int32) (v2 : Int32) (σ : St) (r : Int32) (hE : La_toGuest N v1 v2 σ = some r) : Ctr X yX3_toGuest cX3_toGuest 3 (some .int) 6 [.ref (X.2.1 + 66), .int v1, .int v2] σ (some (.int r)) σ := by
  refine Ctr.of (out := (oI σ)) (E := La_toGuest N v1 v2 σ) rfl (by decide) (fun G hG => ?_) r hE
  unfold La_toGuest
  refine r_bipush (pc := 0) (v := 10) (by decide) hG dX3_toGuest_0 ?_
  refine r_aload_n (pc := 2) 0 0 rfl rfl hG dX3_toGuest_2 ?_
  refine gf3_0 (pc := 3) lk375 hG dX3_toGuest_3 ?_
  refine r_iload_n (pc := 6) 1 1 rfl rfl hG dX3_toGuest_6 ?_
  refine r_iload_n (pc := 7) 2 2 rfl rfl hG dX3_toGuest_7 ?_
  refine r_mmin (pc := 8) lk1005 (by omega) (Nat.le_of_ble_eq_true rfl) hG dX3_toGuest_8 ?_
  refine r_ck hG (fun h1 => ?_)
  refine r_iald (pc := 11) (i := 67) (rfl : shp 67 = 14) rfl h1 hG dX3_toGuest_11 ?_
  refine r_isub (pc := 12) hG dX3_toGuest_12 ?_
  refine r_iload_n (pc := 13) 1 1 rfl rfl hG dX3_toGuest_13 ?_
  refine r_isub (pc := 14) hG dX3_toGuest_14 ?_
  exact r_iret (pc := 15) rfl hG dX3_toGuest_15
set_option maxRecDepth 4000 in
theorem c_La_toRower (X : Cx) (N : Nat) (v1 : Int32) (v2 : Int32) (σ : St) (r : Int32) (hE : La_toRower N v1 v2 σ = some r) : Ctr X yX3_toRower cX3_toRower 3 (some .int) 6 [.ref (X.2.1 + 66), .int v1, .int v2] σ (some (.int r)) σ := by
  refine Ctr.of (out := (oI σ)) (E := La_toRower N v1 v2 σ) rfl (by decide) (fun G hG => ?_) r hE
  unfold La_toRower
  refine r_bipush (pc := 0) (v := 10) (by decide) hG dX3_toRower_0 ?_
  refine r_aload_n (pc := 2) 0 0 rfl rfl hG dX3_toRower_2 ?_
  refine gf3_0 (pc := 3) lk375 hG dX3_toRower_3 ?_
  refine r_iload_n (pc := 6) 1 1 rfl rfl hG dX3_toRower_6 ?_
  refine r_iload_n (pc := 7) 2 2 rfl rfl hG dX3_toRower_7 ?_
  refine r_mmin (pc := 8) lk1005 (by omega) (Nat.le_of_ble_eq_true rfl) hG dX3_toRower_8 ?_
  refine r_ck hG (fun h1 => ?_)
  refine r_iald (pc := 11) (i := 67) (rfl : shp 67 = 14) rfl h1 hG dX3_toRower_11 ?_
  refine r_isub (pc := 12) hG dX3_toRower_12 ?_
  refine r_iconst (pc := 13) (v := 2) (by decide) hG dX3_toRower_13 ?_
  refine r_iload_n (pc := 14) 2 2 rfl rfl hG dX3_toRower_14 ?_
  refine r_imul (pc := 15) hG dX3_toRower_15 ?_
  refine r_isub (pc := 16) hG dX3_toRower_16 ?_
  exact r_iret (pc := 17) rfl hG dX3_toRower_17
set_option maxRecDepth 4000 in
theorem w_La_rests_L2B {σ : St} {X : Cx} {G : GT Int32} (N : Nat) (hG : IsG X RX3 cX3_rests 4 7 (some .boolean) (oI σ) G) {K2 : Int32 → Int32 → Int32 → St → Option Int32} (hK2 : ∀ (v1 : Int32) (v2 : Int32) (v3 : Int32), G (K2 v1 v2 v3 σ) σ 2 [(0, .ref (X.2.1 + 66)), (1, .int v1), (2, .int v2), (3, .int v3)] []) (v1 : Int32) (v2 : Int32) (v3 : Int32) : G (La_rests_L2B N K2 v1 v2 v3 σ) σ 2 [(0, .ref (X.2.1 + 66)), (1, .int v1), (2, .int v2), (3, .int v3)] [] := by
  unfold La_rests_L2B
  refine r_iload_n (pc := 2) 3 3 rfl rfl hG dX3_rests_2 ?_
  refine r_iconst (pc := 3) (v := 4) (by decide) hG dX3_rests_3 ?_
  refine r_icmp_ge (pc := 4) (tgt := 45) (by decide) hG dX3_rests_4 (fun h1 => ?_) (fun h1 => ?_)
  · refine r_iconst (pc := 45) (v := 1) (by decide) hG dX3_rests_45 ?_
    exact r_zret (pc := 46) rvN_b1 rfl hG dX3_rests_46
  · refine r_aload_n (pc := 7) 0 0 rfl rfl hG dX3_rests_7 ?_
    refine r_iload_n (pc := 8) 3 3 rfl rfl hG dX3_rests_8 ?_
    refine r_iload_n (pc := 9) 2 2 rfl rfl hG dX3_rests_9 ?_
    refine r_bR hG (fun r2 e4 => ?_)
    refine r_callVi (pc := 10) (As := [.int v3, .int v2]) (c_La_toGuest X N v3 v2 σ r2 e4) (wsOf_at (rfl : shp 66 = 3) (by decide) rfl) rfl mfX3_55_X3_toGuest hyVX3_toGuest (by decide) (by decide) rfl (Nat.le_of_ble_eq_true rfl) hG dX3_rests_10 rfl (fun n3 => ?_)
    refine r_aload_n (pc := 13) 0 0 rfl rfl hG dX3_rests_13 ?_
    refine r_iload_n (pc := 14) 1 1 rfl rfl hG dX3_rests_14 ?_
    refine r_iload_n (pc := 15) 2 2 rfl rfl hG dX3_rests_15 ?_
    refine r_bR hG (fun r5 e7 => ?_)
    refine r_callVi (pc := 16) (As := [.int v1, .int v2]) (c_La_toGuest X N v1 v2 σ r5 e7) (wsOf_at (rfl : shp 66 = 3) (by decide) rfl) rfl mfX3_55_X3_toGuest hyVX3_toGuest (by decide) (by decide) rfl (Nat.le_of_ble_eq_true rfl) hG dX3_rests_16 rfl (fun n6 => ?_)
    refine r_icmp_gt (pc := 19) (tgt := 37) (by decide) hG dX3_rests_19 (fun h8 => ?_) (fun h8 => ?_)
    · refine r_iconst (pc := 37) (v := 0) (by decide) hG dX3_rests_37 ?_
      exact r_zret (pc := 38) rvN_b0 rfl hG dX3_rests_38
    · refine r_aload_n (pc := 22) 0 0 rfl rfl hG dX3_rests_22 ?_
      refine r_iload_n (pc := 23) 1 1 rfl rfl hG dX3_rests_23 ?_
      refine r_iload_n (pc := 24) 3 3 rfl rfl hG dX3_rests_24 ?_
      refine r_bR hG (fun r9 e11 => ?_)
      refine r_callVi (pc := 25) (As := [.int v1, .int v3]) (c_La_toRower X N v1 v3 σ r9 e11) (wsOf_at (rfl : shp 66 = 3) (by decide) rfl) rfl mfX3_58_X3_toRower hyVX3_toRower (by decide) (by decide) rfl (Nat.le_of_ble_eq_true rfl) hG dX3_rests_25 rfl (fun n10 => ?_)
      refine r_aload_n (pc := 28) 0 0 rfl rfl hG dX3_rests_28 ?_
      refine r_iload_n (pc := 29) 1 1 rfl rfl hG dX3_rests_29 ?_
      refine r_iload_n (pc := 30) 2 2 rfl rfl hG dX3_rests_30 ?_
      refine r_bR hG (fun r12 e14 => ?_)
      refine r_callVi (pc := 31) (As := [.int v1, .int v2]) (c_La_toRower X N v1 v2 σ r12 e14) (wsOf_at (rfl : shp 66 = 3) (by decide) rfl) rfl mfX3_58_X3_toRower hyVX3_toRower (by decide) (by decide) rfl (Nat.le_of_ble_eq_true rfl) hG dX3_rests_31 rfl (fun n13 => ?_)
      refine r_icmp_le (pc := 34) (tgt := 39) (by decide) hG dX3_rests_34 (fun h15 => ?_) (fun h15 => ?_)
      · refine r_bIinc (pc := 39) (lv' := fun x16 => [(3, .int x16), (0, .ref (X.2.1 + 66)), (1, .int v1), (2, .int v2)]) 3 rfl rfl (by decide) (fun _ => rfl) hG dX3_rests_39 (fun x16 => ?_)
        refine r_goto (pc := 42) (tgt := 2) (by decide) hG dX3_rests_42 ?_
        exact r_sub [1, 2, 3, 0] rfl hG (hK2 v1 v2 x16)
      · refine r_iconst (pc := 37) (v := 0) (by decide) hG dX3_rests_37 ?_
        exact r_zret (pc := 38) rvN_b0 rfl hG dX3_rests_38
set_option maxRecDepth 4000 in
theorem w_La_rests_L2 {σ : St} {X : Cx} {G : GT Int32} (N : Nat) (hG : IsG X RX3 cX3_rests 4 7 (some .boolean) (oI σ) G) : ∀ (n : Nat), ∀ (v1 : Int32) (v2 : Int32) (v3 : Int32), G (La_rests_L2 N n v1 v2 v3 σ) σ 2 [(0, .ref (X.2.1 + 66)), (1, .int v1), (2, .int v2), (3, .int v3)] [] := by
  intro n
  induction n with
  | zero => intro v1 v2 v3; exact r_none hG
  | succ n ih => intro v1 v2 v3; exact w_La_rests_L2B N hG ih v1 v2 v3
set_option maxRecDepth 4000 in
theorem c_La_rests (X : Cx) (N : Nat) (v1 : Int32) (v2 : Int32) (σ : St) (r : Int32) (hE : La_rests N v1 v2 σ = some r) : Ctr X yX3_rests cX3_rests 4 (some .boolean) 7 [.ref (X.2.1 + 66), .int v1, .int v2] σ (some (.int r)) σ := by
  refine Ctr.of (out := (oI σ)) (E := La_rests N v1 v2 σ) rfl (by decide) (fun G hG => ?_) r hE
  unfold La_rests
  refine r_iconst (pc := 0) (v := 0) (by decide) hG dX3_rests_0 ?_
  refine r_istore_n (pc := 1) (lv' := [(3, .int 0), (0, .ref (X.2.1 + 66)), (1, .int v1), (2, .int v2)]) 3 rfl (by decide) rfl hG dX3_rests_1 ?_
  exact r_sub [1, 2, 3, 0] rfl hG (w_La_rests_L2 N hG N v1 v2 0)
set_option maxRecDepth 4000 in
theorem w_La_search_J124 {X : Cx} {G : GT St} (N : Nat) (hG : IsG X RX3 cX3_search 6 8 none oWV G) {K68 : Int32 → St → Option St} (hK68 : ∀ (v3 : Int32) (s : St), G (K68 v3 s) s 68 [(0, .ref (X.2.1 + 66)), (3, .int v3)] []) (v3 : Int32) (σ : St) : G (La_search_J124 N K68 v3 σ) σ 124 [(0, .ref (X.2.1 + 66)), (3, .int v3)] [] := by
  unfold La_search_J124
  refine r_bIinc (pc := 124) (lv' := fun x5 => [(3, .int x5), (0, .ref (X.2.1 + 66))]) 1 rfl rfl (by decide) (fun _ => rfl) hG dX3_search_124 (fun x5 => ?_)
  refine r_goto (pc := 127) (tgt := 68) (by decide) hG dX3_search_127 ?_
  exact r_sub [1, 0] rfl hG (hK68 x5 σ)
set_option maxRecDepth 4000 in
theorem w_La_search_J118 {X : Cx} {G : GT St} (N : Nat) (hG : IsG X RX3 cX3_search 6 8 none oWV G) {K68 : Int32 → St → Option St} {K76 : Int32 → Int32 → St → Option St} (hK68 : ∀ (v3 : Int32) (s : St), G (K68 v3 s) s 68 [(0, .ref (X.2.1 + 66)), (3, .int v3)] []) (hK76 : ∀ (v3 : Int32) (v4 : Int32) (s : St), G (K76 v3 v4 s) s 76 [(0, .ref (X.2.1 + 66)), (3, .int v3), (4, .int v4)] []) (v3 : Int32) (v4 : Int32) (σ : St) : G (La_search_J118 N K68 K76 v3 v4 σ) σ 118 [(0, .ref (X.2.1 + 66)), (3, .int v3), (4, .int v4)] [] := by
  unfold La_search_J118
  refine r_bIinc (pc := 118) (lv' := fun x10 => [(4, .int x10), (0, .ref (X.2.1 + 66)), (3, .int v3)]) 2 rfl rfl (by decide) (fun _ => rfl) hG dX3_search_118 (fun x10 => ?_)
  refine r_goto (pc := 121) (tgt := 76) (by decide) hG dX3_search_121 ?_
  exact r_sub [1, 2, 0] rfl hG (hK76 v3 x10 σ)
set_option maxRecDepth 4000 in
theorem w_La_search_L76B {X : Cx} {G : GT St} (N : Nat) (hG : IsG X RX3 cX3_search 6 8 none oWV G) {K68 : Int32 → St → Option St} {K76 : Int32 → Int32 → St → Option St} (hK68 : ∀ (v3 : Int32) (s : St), G (K68 v3 s) s 68 [(0, .ref (X.2.1 + 66)), (3, .int v3)] []) (hK76 : ∀ (v3 : Int32) (v4 : Int32) (s : St), G (K76 v3 v4 s) s 76 [(0, .ref (X.2.1 + 66)), (3, .int v3), (4, .int v4)] []) (v3 : Int32) (v4 : Int32) (σ : St) : G (La_search_L76B N K68 K76 v3 v4 σ) σ 76 [(0, .ref (X.2.1 + 66)), (3, .int v3), (4, .int v4)] [] := by
  unfold La_search_L76B
  refine r_iload (pc := 76) 2 rfl hG dX3_search_76 ?_
  refine r_iconst (pc := 78) (v := 4) (by decide) hG dX3_search_78 ?_
  refine r_icmp_ge (pc := 79) (tgt := 124) (by decide) hG dX3_search_79 (fun h4 => ?_) (fun h4 => ?_)
  · exact r_sub [0, 1] rfl hG (w_La_search_J124 N hG hK68 v3 σ)
  · refine r_aload_n (pc := 82) 0 0 rfl rfl hG dX3_search_82 ?_
    refine r_iload_n (pc := 83) 1 3 rfl rfl hG dX3_search_83 ?_
    refine r_iload (pc := 84) 2 rfl hG dX3_search_84 ?_
    refine r_bR hG (fun r6 e8 => ?_)
    refine r_callVi (pc := 86) (As := [.int v3, .int v4]) (c_La_rests X N v3 v4 σ r6 e8) (wsOf_at (rfl : shp 66 = 3) (by decide) rfl) rfl mfX3_51_X3_rests hyVX3_rests (by decide) (by decide) rfl (Nat.le_of_ble_eq_true rfl) hG dX3_search_86 rfl (fun n7 => ?_)
    refine r_if_eq (pc := 89) (tgt := 118) (by decide) hG dX3_search_89 (fun h9 => ?_) (fun h9 => ?_)
    · exact w_La_search_J118 N hG hK68 hK76 v3 v4 σ
    · refine r_aload_n (pc := 92) 0 0 rfl rfl hG dX3_search_92 ?_
      refine gf3_1 (pc := 93) lk376 hG dX3_search_93 ?_
      refine r_aload_n (pc := 96) 0 0 rfl rfl hG dX3_search_96 ?_
      refine gf3_2 (pc := 97) lk378 hG dX3_search_97 ?_
      refine r_bipush (pc := 100) (v := 10) (by decide) hG dX3_search_100 ?_
      refine r_iload_n (pc := 102) 1 3 rfl rfl hG dX3_search_102 ?_
      refine r_imul (pc := 103) hG dX3_search_103 ?_
      refine r_iload (pc := 104) 2 rfl hG dX3_search_104 ?_
      refine r_iadd (pc := 106) hG dX3_search_106 ?_
      refine r_ck hG (fun h11 => ?_)
      refine r_iast (pc := 107) (i := 68) (rfl : shp 68 = 14) rfl h11 hG dX3_search_107 ?_
      refine r_bS hG (fun s12 => ?_)
      refine r_aload_n (pc := 108) 0 0 rfl rfl hG dX3_search_108 ?_
      refine r_dup (pc := 109) rfl hG dX3_search_109 ?_
      refine gf3_2 (pc := 110) lk378 hG dX3_search_110 ?_
      refine r_iconst (pc := 113) (v := 1) (by decide) hG dX3_search_113 ?_
      refine r_iadd (pc := 114) hG dX3_search_114 ?_
      refine pf3_2 (pc := 115) lk378 hG dX3_search_115 ?_
      refine r_bS hG (fun s13 => ?_)
      exact w_La_search_J118 N hG hK68 hK76 v3 v4 s13
set_option maxRecDepth 4000 in
theorem w_La_search_L76 {X : Cx} {G : GT St} (N : Nat) (hG : IsG X RX3 cX3_search 6 8 none oWV G) {K68 : Int32 → St → Option St} (hK68 : ∀ (v3 : Int32) (s : St), G (K68 v3 s) s 68 [(0, .ref (X.2.1 + 66)), (3, .int v3)] []) : ∀ (n : Nat), ∀ (v3 : Int32) (v4 : Int32) (σ : St), G (La_search_L76 N K68 n v3 v4 σ) σ 76 [(0, .ref (X.2.1 + 66)), (3, .int v3), (4, .int v4)] [] := by
  intro n
  induction n with
  | zero => intro v3 v4 σ; exact r_none hG
  | succ n ih => intro v3 v4 σ; exact w_La_search_L76B N hG hK68 ih v3 v4 σ
set_option maxRecDepth 4000 in
theorem w_La_search_L68B {X : Cx} {G : GT St} (N : Nat) (hG : IsG X RX3 cX3_search 6 8 none oWV G) {K68 : Int32 → St → Option St} (hK68 : ∀ (v3 : Int32) (s : St), G (K68 v3 s) s 68 [(0, .ref (X.2.1 + 66)), (3, .int v3)] []) (v3 : Int32) (σ : St) : G (La_search_L68B N K68 v3 σ) σ 68 [(0, .ref (X.2.1 + 66)), (3, .int v3)] [] := by
  unfold La_search_L68B
  refine r_iload_n (pc := 68) 1 3 rfl rfl hG dX3_search_68 ?_
  refine r_iconst (pc := 69) (v := 4) (by decide) hG dX3_search_69 ?_
  refine r_icmp_ge (pc := 70) (tgt := 130) (by decide) hG dX3_search_70 (fun h3 => ?_) (fun h3 => ?_)
  · exact r_vret (pc := 130) rfl hG dX3_search_130
  · refine r_iconst (pc := 73) (v := 0) (by decide) hG dX3_search_73 ?_
    refine r_istore (pc := 74) (lv' := [(4, .int 0), (0, .ref (X.2.1 + 66)), (3, .int v3)]) (by decide) rfl hG dX3_search_74 ?_
    exact r_sub [1, 2, 0] rfl hG (w_La_search_L76 N hG hK68 N v3 0 σ)
set_option maxRecDepth 4000 in
theorem w_La_search_L68 {X : Cx} {G : GT St} (N : Nat) (hG : IsG X RX3 cX3_search 6 8 none oWV G) : ∀ (n : Nat), ∀ (v3 : Int32) (σ : St), G (La_search_L68 N n v3 σ) σ 68 [(0, .ref (X.2.1 + 66)), (3, .int v3)] [] := by
  intro n
  induction n with
  | zero => intro v3 σ; exact r_none hG
  | succ n ih => intro v3 σ; exact w_La_search_L68B N hG ih v3 σ
set_option maxRecDepth 4000 in
theorem w_La_search_J61 {X : Cx} {G : GT St} (N : Nat) (hG : IsG X RX3 cX3_search 6 8 none oWV G) (σ : St) : G (La_search_J61 N σ) σ 61 [(0, .ref (X.2.1 + 66))] [] := by
  unfold La_search_J61
  refine r_aload_n (pc := 61) 0 0 rfl rfl hG dX3_search_61 ?_
  refine r_iconst (pc := 62) (v := 0) (by decide) hG dX3_search_62 ?_
  refine pf3_2 (pc := 63) lk378 hG dX3_search_63 ?_
  refine r_bS hG (fun s2 => ?_)
  refine r_iconst (pc := 66) (v := 0) (by decide) hG dX3_search_66 ?_
  refine r_istore_n (pc := 67) (lv' := [(3, .int 0), (0, .ref (X.2.1 + 66))]) 3 rfl (by decide) rfl hG dX3_search_67 ?_
  exact r_sub [1, 0] rfl hG (w_La_search_L68 N hG N 0 s2)
set_option maxRecDepth 4000 in
theorem w_La_search_L2B {X : Cx} {G : GT St} (N : Nat) (hG : IsG X RX3 cX3_search 6 8 none oWV G) {K2 : Nat → Nat → Int32 → St → Option St} (hK2 : ∀ (v1 : Nat) (v2 : Nat) (v3 : Int32) (s : St), shp v1 = 1 → shp v2 = 7 → G (K2 v1 v2 v3 s) s 2 [(0, .ref (X.2.1 + 66)), (1, .ref (X.2.1 + v1)), (2, .ref (X.2.1 + v2)), (3, .int v3)] []) (v1 : Nat) (v2 : Nat) (v3 : Int32) (σ : St) (hv1 : shp v1 = 1) (hv2 : shp v2 = 7) : G (La_search_L2B N K2 v1 v2 v3 σ) σ 2 [(0, .ref (X.2.1 + 66)), (1, .ref (X.2.1 + v1)), (2, .ref (X.2.1 + v2)), (3, .int v3)] [] := by
  unfold La_search_L2B
  refine r_iload_n (pc := 2) 3 3 rfl rfl hG dX3_search_2 ?_
  refine r_iconst (pc := 3) (v := 4) (by decide) hG dX3_search_3 ?_
  refine r_icmp_ge (pc := 4) (tgt := 61) (by decide) hG dX3_search_4 (fun h1 => ?_) (fun h1 => ?_)
  · exact r_sub [0] rfl hG (w_La_search_J61 N hG σ)
  · refine r_gsdu (pc := 7) lk992 hG dX3_search_7 ?_
    refine r_iload_n (pc := 10) 3 3 rfl rfl hG dX3_search_10 ?_
    refine r_ck hG (fun h14 => ?_)
    refine r_duald (pc := 11) h14 hG dX3_search_11 ?_
    refine r_bI hG (fun x15 => ?_)
    refine r_istore (pc := 12) (lv' := [(4, .int x15), (0, .ref (X.2.1 + 66)), (1, .ref (X.2.1 + v1)), (2, .ref (X.2.1 + v2)), (3, .int v3)]) (by decide) rfl hG dX3_search_12 ?_
    refine r_aload_n (pc := 14) 2 1 rfl rfl hG dX3_search_14 ?_
    refine r_aload_n (pc := 15) 3 2 rfl rfl hG dX3_search_15 ?_
    refine r_iload (pc := 16) 0 rfl hG dX3_search_16 ?_
    refine r_aload_n (pc := 18) 2 1 rfl rfl hG dX3_search_18 ?_
    refine gf1_5 (pc := 19) (i := v1) hv1 lk199 hG dX3_search_19 ?_
    refine r_bR hG (fun r16 e18 => ?_)
    refine r_callVi (pc := 22) (As := [.int x15, .int (σ.1 v1 5)]) (c_Ro_tells X N v2 x15 (σ.1 v1 5) σ hv2 r16 e18) (wsOf_at hv2 (by decide) rfl) rfl mfX3_25_X7_tells hyVX7_tells (by decide) (by decide) rfl (Nat.le_of_ble_eq_true rfl) hG dX3_search_22 rfl (fun n17 => ?_)
    refine r_bR hG (fun r19 e21 => ?_)
    refine r_callVi (pc := 25) (As := [.int r16]) (c_Gu_takenIn X N v1 r16 σ hv1 r19 e21) (wsOf_at hv1 (by decide) rfl) rfl mfX3_31_X1_takenIn hyVX1_takenIn (by decide) (by decide) rfl (Nat.le_of_ble_eq_true rfl) hG dX3_search_25 rfl (fun n20 => ?_)
    refine r_istore (pc := 28) (lv' := [(5, .int r19), (4, .int x15), (0, .ref (X.2.1 + 66)), (1, .ref (X.2.1 + v1)), (2, .ref (X.2.1 + v2)), (3, .int v3)]) (by decide) rfl hG dX3_search_28 ?_
    refine r_aload_n (pc := 30) 2 0 rfl rfl hG dX3_search_30 ?_
    refine gf3_0 (pc := 31) lk375 hG dX3_search_31 ?_
    refine r_iload_n (pc := 34) 5 3 rfl rfl hG dX3_search_34 ?_
    refine r_aload_n (pc := 35) 3 1 rfl rfl hG dX3_search_35 ?_
    refine gf1_0 (pc := 36) (i := v1) hv1 lk174 hG dX3_search_36 ?_
    refine r_aload_n (pc := 39) 3 1 rfl rfl hG dX3_search_39 ?_
    refine gf1_1 (pc := 40) (i := v1) hv1 lk176 hG dX3_search_40 ?_
    refine r_aload_n (pc := 43) 3 1 rfl rfl hG dX3_search_43 ?_
    refine gf1_2 (pc := 44) (i := v1) hv1 lk180 hG dX3_search_44 ?_
    refine r_iload (pc := 47) 0 rfl hG dX3_search_47 ?_
    refine r_iload (pc := 49) 1 rfl hG dX3_search_49 ?_
    refine r_callSi (pc := 51) (As := [.int (σ.1 v1 0), .int (σ.1 v1 1), .int (σ.1 v1 2), .int r19, .int x15]) (c_Gu_hurtOf X (σ.1 v1 0) (σ.1 v1 1) (σ.1 v1 2) r19 x15 σ) mfX3_44_X1_hurtOf hySX1_hurtOf (by decide) (by decide) rfl (Nat.le_of_ble_eq_true rfl) hG dX3_search_51 rfl (fun n23 => ?_)
    refine r_ck hG (fun h25 => ?_)
    refine r_iast (pc := 54) (i := 67) (rfl : shp 67 = 14) rfl h25 hG dX3_search_54 ?_
    refine r_bS hG (fun s26 => ?_)
    refine r_bIinc (pc := 55) (lv' := fun x27 => [(3, .int x27), (5, .int r19), (4, .int x15), (0, .ref (X.2.1 + 66)), (1, .ref (X.2.1 + v1)), (2, .ref (X.2.1 + v2))]) 5 rfl rfl (by decide) (fun _ => rfl) hG dX3_search_55 (fun x27 => ?_)
    refine r_goto (pc := 58) (tgt := 2) (by decide) hG dX3_search_58 ?_
    exact r_sub [3, 4, 5, 0] rfl hG (hK2 v1 v2 x27 s26 hv1 hv2)
set_option maxRecDepth 4000 in
theorem w_La_search_L2 {X : Cx} {G : GT St} (N : Nat) (hG : IsG X RX3 cX3_search 6 8 none oWV G) : ∀ (n : Nat), ∀ (v1 : Nat) (v2 : Nat) (v3 : Int32) (σ : St), shp v1 = 1 → shp v2 = 7 → G (La_search_L2 N n v1 v2 v3 σ) σ 2 [(0, .ref (X.2.1 + 66)), (1, .ref (X.2.1 + v1)), (2, .ref (X.2.1 + v2)), (3, .int v3)] [] := by
  intro n
  induction n with
  | zero => intro v1 v2 v3 σ hv1 hv2; exact r_none hG
  | succ n ih => intro v1 v2 v3 σ hv1 hv2; exact w_La_search_L2B N hG ih v1 v2 v3 σ hv1 hv2
set_option maxRecDepth 4000 in
theorem c_La_search (X : Cx) (N : Nat) (v1 : Nat) (v2 : Nat) (σ : St) (hv1 : shp v1 = 1) (hv2 : shp v2 = 7) (σ1 : St) (hE : La_search N v1 v2 σ = some σ1) : Ctr X yX3_search cX3_search 6 none 8 [.ref (X.2.1 + 66), .ref (X.2.1 + v1), .ref (X.2.1 + v2)] σ none σ1 := by
  refine Ctr.of (out := oWV) (E := La_search N v1 v2 σ) rfl (by decide) (fun G hG => ?_) σ1 hE
  unfold La_search
  refine r_iconst (pc := 0) (v := 0) (by decide) hG dX3_search_0 ?_
  refine r_istore_n (pc := 1) (lv' := [(3, .int 0), (0, .ref (X.2.1 + 66)), (1, .ref (X.2.1 + v1)), (2, .ref (X.2.1 + v2))]) 3 rfl (by decide) rfl hG dX3_search_1 ?_
  exact r_sub [1, 2, 3, 0] rfl hG (w_La_search_L2 N hG N v1 v2 0 σ hv1 hv2)
set_option maxRecDepth 4000 in
theorem w_Ni_begin_J45 {X : Cx} {G : GT St} (N : Nat) (hG : IsG X RX4 cX4_begin 3 1 none oWV G) (v0 : Nat) (σ : St) (hv0 : shp v0 = 4) : G (Ni_begin_J45 N v0 σ) σ 45 [(0, .ref (X.2.1 + v0))] [] := by
  unfold Ni_begin_J45
  refine r_aload_n (pc := 45) 0 0 rfl rfl hG dX4_begin_45 ?_
  refine r_iconst (pc := 46) (v := 0) (by decide) hG dX4_begin_46 ?_
  refine pf4_4 (pc := 47) (i := v0) hv0 lk233 hG dX4_begin_47 ?_
  refine r_bS hG (fun s3 => ?_)
  refine r_aload_n (pc := 50) 0 0 rfl rfl hG dX4_begin_50 ?_
  refine r_iconst (pc := 51) (v := 0) (by decide) hG dX4_begin_51 ?_
  refine pf4_5 (pc := 52) (i := v0) hv0 lk238 hG dX4_begin_52 ?_
  refine r_bS hG (fun s4 => ?_)
  refine r_aload_n (pc := 55) 0 0 rfl rfl hG dX4_begin_55 ?_
  refine gf4_6 (pc := 56) (i := v0) hv0 lk240 hG dX4_begin_56 ?_
  refine r_iconst (pc := 59) (v := 0) (by decide) hG dX4_begin_59 ?_
  refine pf9_3 (pc := 60) (i := (v0 + 5)) (sh4_5 hv0) lk122 hG dX4_begin_60 ?_
  refine r_bS hG (fun s5 => ?_)
  refine r_aload_n (pc := 63) 0 0 rfl rfl hG dX4_begin_63 ?_
  refine gf4_7 (pc := 64) (i := v0) hv0 lk243 hG dX4_begin_64 ?_
  refine r_iconst (pc := 67) (v := 0) (by decide) hG dX4_begin_67 ?_
  refine pf9_3 (pc := 68) (i := (v0 + 7)) (sh4_7 hv0) lk122 hG dX4_begin_68 ?_
  refine r_bS hG (fun s6 => ?_)
  refine r_aload_n (pc := 71) 0 0 rfl rfl hG dX4_begin_71 ?_
  refine gf4_8 (pc := 72) (i := v0) hv0 lk246 hG dX4_begin_72 ?_
  refine r_iconst (pc := 75) (v := 0) (by decide) hG dX4_begin_75 ?_
  refine pf9_3 (pc := 76) (i := (v0 + 9)) (sh4_9 hv0) lk122 hG dX4_begin_76 ?_
  refine r_bS hG (fun s7 => ?_)
  refine r_aload_n (pc := 79) 0 0 rfl rfl hG dX4_begin_79 ?_
  refine gf4_9 (pc := 80) (i := v0) hv0 lk249 hG dX4_begin_80 ?_
  refine r_iconst (pc := 83) (v := 0) (by decide) hG dX4_begin_83 ?_
  refine pf5_1 (pc := 84) (i := (v0 + 11)) (sh4_11 hv0) lk143 hG dX4_begin_84 ?_
  refine r_bS hG (fun s8 => ?_)
  exact r_vret (pc := 87) rfl hG dX4_begin_87
set_option maxRecDepth 4000 in
theorem w_Ni_begin_L23B {X : Cx} {G : GT St} (N : Nat) (hG : IsG X RX4 cX4_begin 3 1 none oWV G) {K23 : Nat → Int32 → St → Option St} (hK23 : ∀ (v0 : Nat) (v2 : Int32) (s : St), shp v0 = 4 → G (K23 v0 v2 s) s 23 [(0, .ref (X.2.1 + v0)), (2, .int v2)] []) (v0 : Nat) (v2 : Int32) (σ : St) (hv0 : shp v0 = 4) : G (Ni_begin_L23B N K23 v0 v2 σ) σ 23 [(0, .ref (X.2.1 + v0)), (2, .int v2)] [] := by
  unfold Ni_begin_L23B
  refine r_iload_n (pc := 23) 1 2 rfl rfl hG dX4_begin_23 ?_
  refine r_aload_n (pc := 24) 0 0 rfl rfl hG dX4_begin_24 ?_
  refine gf4_1 (pc := 25) (i := v0) hv0 lk220 hG dX4_begin_25 ?_
  refine r_alen (pc := 28) (i := (v0 + 2)) (sh4_2 hv0) (by decide) (v := 64) (by rw [(ln4_2 hv0)]; decide) hG dX4_begin_28 ?_
  refine r_icmp_ge (pc := 29) (tgt := 45) (by decide) hG dX4_begin_29 (fun h2 => ?_) (fun h2 => ?_)
  · exact r_sub [0] rfl hG (w_Ni_begin_J45 N hG v0 σ hv0)
  · refine r_aload_n (pc := 32) 0 0 rfl rfl hG dX4_begin_32 ?_
    refine gf4_1 (pc := 33) (i := v0) hv0 lk220 hG dX4_begin_33 ?_
    refine r_iload_n (pc := 36) 1 2 rfl rfl hG dX4_begin_36 ?_
    refine r_iconst (pc := 37) (v := 0) (by decide) hG dX4_begin_37 ?_
    refine r_ck hG (fun h9 => ?_)
    refine r_iast (pc := 38) (i := (v0 + 2)) (sh4_2 hv0) (ln4_2 hv0) h9 hG dX4_begin_38 ?_
    refine r_bS hG (fun s10 => ?_)
    refine r_bIinc (pc := 39) (lv' := fun x11 => [(2, .int x11), (0, .ref (X.2.1 + v0))]) 1 rfl rfl (by decide) (fun _ => rfl) hG dX4_begin_39 (fun x11 => ?_)
    refine r_goto (pc := 42) (tgt := 23) (by decide) hG dX4_begin_42 ?_
    exact r_sub [1, 0] rfl hG (hK23 v0 x11 s10 hv0)
set_option maxRecDepth 4000 in
theorem w_Ni_begin_L23 {X : Cx} {G : GT St} (N : Nat) (hG : IsG X RX4 cX4_begin 3 1 none oWV G) : ∀ (n : Nat), ∀ (v0 : Nat) (v2 : Int32) (σ : St), shp v0 = 4 → G (Ni_begin_L23 N n v0 v2 σ) σ 23 [(0, .ref (X.2.1 + v0)), (2, .int v2)] [] := by
  intro n
  induction n with
  | zero => intro v0 v2 σ hv0; exact r_none hG
  | succ n ih => intro v0 v2 σ hv0; exact w_Ni_begin_L23B N hG ih v0 v2 σ hv0
set_option maxRecDepth 4000 in
theorem w_Ni_begin_J21 {X : Cx} {G : GT St} (N : Nat) (hG : IsG X RX4 cX4_begin 3 1 none oWV G) (v0 : Nat) (σ : St) (hv0 : shp v0 = 4) : G (Ni_begin_J21 N v0 σ) σ 21 [(0, .ref (X.2.1 + v0))] [] := by
  unfold Ni_begin_J21
  refine r_iconst (pc := 21) (v := 0) (by decide) hG dX4_begin_21 ?_
  refine r_istore_n (pc := 22) (lv' := [(2, .int 0), (0, .ref (X.2.1 + v0))]) 2 rfl (by decide) rfl hG dX4_begin_22 ?_
  exact r_sub [1, 0] rfl hG (w_Ni_begin_L23 N hG N v0 0 σ hv0)
set_option maxRecDepth 4000 in
theorem w_Ni_begin_L2B {X : Cx} {G : GT St} (N : Nat) (hG : IsG X RX4 cX4_begin 3 1 none oWV G) {K2 : Nat → Int32 → Int32 → St → Option St} (hK2 : ∀ (v0 : Nat) (v1 : Int32) (v2 : Int32) (s : St), shp v0 = 4 → G (K2 v0 v1 v2 s) s 2 [(0, .ref (X.2.1 + v0)), (1, .int v1), (2, .int v2)] []) (v0 : Nat) (v1 : Int32) (v2 : Int32) (σ : St) (hv0 : shp v0 = 4) : G (Ni_begin_L2B N K2 v0 v1 v2 σ) σ 2 [(0, .ref (X.2.1 + v0)), (1, .int v1), (2, .int v2)] [] := by
  unfold Ni_begin_L2B
  refine r_iload_n (pc := 2) 2 2 rfl rfl hG dX4_begin_2 ?_
  refine r_bipush (pc := 3) (v := 8) (by decide) hG dX4_begin_3 ?_
  refine r_icmp_ge (pc := 5) (tgt := 21) (by decide) hG dX4_begin_5 (fun h1 => ?_) (fun h1 => ?_)
  · exact r_sub [0] rfl hG (w_Ni_begin_J21 N hG v0 σ hv0)
  · refine r_aload_n (pc := 8) 0 0 rfl rfl hG dX4_begin_8 ?_
    refine gf4_0 (pc := 9) (i := v0) hv0 lk217 hG dX4_begin_9 ?_
    refine r_iload_n (pc := 12) 2 2 rfl rfl hG dX4_begin_12 ?_
    refine r_iload_n (pc := 13) 1 1 rfl rfl hG dX4_begin_13 ?_
    refine r_ck hG (fun h12 => ?_)
    refine r_iast (pc := 14) (i := (v0 + 1)) (sh4_1 hv0) (ln4_1 hv0) h12 hG dX4_begin_14 ?_
    refine r_bS hG (fun s13 => ?_)
    refine r_bIinc (pc := 15) (lv' := fun x14 => [(2, .int x14), (0, .ref (X.2.1 + v0)), (1, .int v1)]) 2 rfl rfl (by decide) (fun _ => rfl) hG dX4_begin_15 (fun x14 => ?_)
    refine r_goto (pc := 18) (tgt := 2) (by decide) hG dX4_begin_18 ?_
    exact r_sub [1, 2, 0] rfl hG (hK2 v0 v1 x14 s13 hv0)
set_option maxRecDepth 4000 in
theorem w_Ni_begin_L2 {X : Cx} {G : GT St} (N : Nat) (hG : IsG X RX4 cX4_begin 3 1 none oWV G) : ∀ (n : Nat), ∀ (v0 : Nat) (v1 : Int32) (v2 : Int32) (σ : St), shp v0 = 4 → G (Ni_begin_L2 N n v0 v1 v2 σ) σ 2 [(0, .ref (X.2.1 + v0)), (1, .int v1), (2, .int v2)] [] := by
  intro n
  induction n with
  | zero => intro v0 v1 v2 σ hv0; exact r_none hG
  | succ n ih => intro v0 v1 v2 σ hv0; exact w_Ni_begin_L2B N hG ih v0 v1 v2 σ hv0
set_option maxRecDepth 4000 in
theorem c_Ni_begin (X : Cx) (N : Nat) (v0 : Nat) (v1 : Int32) (σ : St) (hv0 : shp v0 = 4) (σ1 : St) (hE : Ni_begin N v0 v1 σ = some σ1) : Ctr X yX4_begin cX4_begin 3 none 1 [.ref (X.2.1 + v0), .int v1] σ none σ1 := by
  refine Ctr.of (out := oWV) (E := Ni_begin N v0 v1 σ) rfl (by decide) (fun G hG => ?_) σ1 hE
  unfold Ni_begin
  refine r_iconst (pc := 0) (v := 0) (by decide) hG dX4_begin_0 ?_
  refine r_istore_n (pc := 1) (lv' := [(2, .int 0), (0, .ref (X.2.1 + v0)), (1, .int v1)]) 2 rfl (by decide) rfl hG dX4_begin_1 ?_
  exact r_sub [1, 2, 0] rfl hG (w_Ni_begin_L2 N hG N v0 v1 0 σ hv0)
set_option maxRecDepth 4000 in
theorem c_Ro_take (X : Cx) (N : Nat) (v0 : Nat) (v1 : Nat) (σ : St) (hv0 : shp v0 = 7) (hv1 : shp v1 = 7) (σ1 : St) (hE : Ro_take N v0 v1 σ = some σ1) : Ctr X yX7_take cX7_take 2 none 1 [.ref (X.2.1 + v0), .ref (X.2.1 + v1)] σ none σ1 := by
  refine Ctr.of (out := oWV) (E := Ro_take N v0 v1 σ) rfl (by decide) (fun G hG => ?_) σ1 hE
  unfold Ro_take
  refine r_aload_n (pc := 0) 0 0 rfl rfl hG dX7_take_0 ?_
  refine r_aload_n (pc := 1) 1 1 rfl rfl hG dX7_take_1 ?_
  refine gf7_0 (pc := 2) (i := v1) hv1 lk155 hG dX7_take_2 ?_
  refine pf7_0 (pc := 5) (i := v0) hv0 lk155 hG dX7_take_5 ?_
  refine r_bS hG (fun s1 => ?_)
  refine r_aload_n (pc := 8) 0 0 rfl rfl hG dX7_take_8 ?_
  refine r_aload_n (pc := 9) 1 1 rfl rfl hG dX7_take_9 ?_
  refine gf7_1 (pc := 10) (i := v1) hv1 lk159 hG dX7_take_10 ?_
  refine pf7_1 (pc := 13) (i := v0) hv0 lk159 hG dX7_take_13 ?_
  refine r_bS hG (fun s2 => ?_)
  exact r_vret (pc := 16) rfl hG dX7_take_16
