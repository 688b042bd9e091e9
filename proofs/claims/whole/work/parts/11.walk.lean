set_option maxRecDepth 4000 in
theorem w_He_goAlong_J77 {X : Cx} {G : GT St} (N : Nat) (hG : IsG X RX2 cX2_goAlong 8 9 none oWV G) {K11 : Nat → Nat → Int32 → Int32 → St → Option St} (hK11 : ∀ (v1 : Nat) (v3 : Nat) (v5 : Int32) (v6 : Int32) (s : St), shp v1 = 4 → shp v3 = 7 → G (K11 v1 v3 v5 v6 s) s 11 [(0, .ref (X.2.1 + 69)), (1, .ref (X.2.1 + v1)), (3, .ref (X.2.1 + v3)), (4, .ref (X.2.1 + 47)), (5, .int v5), (6, .int v6)] []) (v1 : Nat) (v3 : Nat) (v5 : Int32) (v6 : Int32) (σ : St) (hv1 : shp v1 = 4) (hv3 : shp v3 = 7) : G (He_goAlong_J77 N K11 v1 v3 v5 v6 σ) σ 77 [(0, .ref (X.2.1 + 69)), (1, .ref (X.2.1 + v1)), (3, .ref (X.2.1 + v3)), (4, .ref (X.2.1 + 47)), (5, .int v5), (6, .int v6)] [] := by
  unfold He_goAlong_J77
  refine r_bIinc (pc := 77) (lv' := fun x16 => [(6, .int x16), (0, .ref (X.2.1 + 69)), (1, .ref (X.2.1 + v1)), (3, .ref (X.2.1 + v3)), (4, .ref (X.2.1 + 47)), (5, .int v5)]) 5 rfl rfl (by decide) (fun _ => rfl) hG dX2_goAlong_77 (fun x16 => ?_)
  refine r_goto (pc := 80) (tgt := 11) (by decide) hG dX2_goAlong_80 ?_
  exact r_sub [1, 2, 3, 4, 5, 0] rfl hG (hK11 v1 v3 v5 x16 σ hv1 hv3)
set_option maxRecDepth 4000 in
theorem w_He_goAlong_L11B {X : Cx} {G : GT St} (N : Nat) (hG : IsG X RX2 cX2_goAlong 8 9 none oWV G) {K11 : Nat → Nat → Int32 → Int32 → St → Option St} (hK11 : ∀ (v1 : Nat) (v3 : Nat) (v5 : Int32) (v6 : Int32) (s : St), shp v1 = 4 → shp v3 = 7 → G (K11 v1 v3 v5 v6 s) s 11 [(0, .ref (X.2.1 + 69)), (1, .ref (X.2.1 + v1)), (3, .ref (X.2.1 + v3)), (4, .ref (X.2.1 + 47)), (5, .int v5), (6, .int v6)] []) (v1 : Nat) (v3 : Nat) (v5 : Int32) (v6 : Int32) (σ : St) (hv1 : shp v1 = 4) (hv3 : shp v3 = 7) : G (He_goAlong_L11B N K11 v1 v3 v5 v6 σ) σ 11 [(0, .ref (X.2.1 + 69)), (1, .ref (X.2.1 + v1)), (3, .ref (X.2.1 + v3)), (4, .ref (X.2.1 + 47)), (5, .int v5), (6, .int v6)] [] := by
  unfold He_goAlong_L11B
  refine r_iload (pc := 11) 5 rfl hG dX2_goAlong_11 ?_
  refine r_aload (pc := 13) 3 rfl hG dX2_goAlong_13 ?_
  refine gf10_2 (pc := 15) lk288 hG dX2_goAlong_15 ?_
  refine r_icmp_ge (pc := 18) (tgt := 83) (by decide) hG dX2_goAlong_18 (fun h5 => ?_) (fun h5 => ?_)
  · exact r_vret (pc := 83) rfl hG dX2_goAlong_83
  · refine r_aload (pc := 21) 3 rfl hG dX2_goAlong_21 ?_
    refine gf10_1 (pc := 23) lk285 hG dX2_goAlong_23 ?_
    refine r_iload (pc := 26) 5 rfl hG dX2_goAlong_26 ?_
    refine r_ck hG (fun h6 => ?_)
    refine r_iald (pc := 28) (i := 49) (rfl : shp 49 = 14) rfl h6 hG dX2_goAlong_28 ?_
    refine r_bI hG (fun x7 => ?_)
    refine r_istore (pc := 29) (lv' := [(7, .int x7), (0, .ref (X.2.1 + 69)), (1, .ref (X.2.1 + v1)), (3, .ref (X.2.1 + v3)), (4, .ref (X.2.1 + 47)), (5, .int v5), (6, .int v6)]) (by decide) rfl hG dX2_goAlong_29 ?_
    refine r_iload (pc := 31) 5 rfl hG dX2_goAlong_31 ?_
    refine r_iconst (pc := 33) (v := 1) (by decide) hG dX2_goAlong_33 ?_
    refine r_iload (pc := 34) 6 rfl hG dX2_goAlong_34 ?_
    refine r_ishl (pc := 36) hG dX2_goAlong_36 ?_
    refine r_iand (pc := 37) hG dX2_goAlong_37 ?_
    refine r_if_ne (pc := 38) (tgt := 55) (by decide) hG dX2_goAlong_38 (fun h8 => ?_) (fun h8 => ?_)
    · refine r_aload_n (pc := 55) 1 0 rfl rfl hG dX2_goAlong_55 ?_
      refine gf2_0 (pc := 56) lk395 hG dX2_goAlong_56 ?_
      refine r_iload (pc := 59) 0 rfl hG dX2_goAlong_59 ?_
      refine r_aload_n (pc := 61) 2 1 rfl rfl hG dX2_goAlong_61 ?_
      refine r_aload_n (pc := 62) 1 0 rfl rfl hG dX2_goAlong_62 ?_
      refine gf2_0 (pc := 63) lk395 hG dX2_goAlong_63 ?_
      refine gf1_4 (pc := 66) (i := 70) (rfl : shp 70 = 1) lk196 hG dX2_goAlong_66 ?_
      refine r_iload (pc := 69) 0 rfl hG dX2_goAlong_69 ?_
      refine r_bR hG (fun r9 e11 => ?_)
      refine r_callVi (pc := 71) (As := [.int (σ.1 70 4), .int x7]) (c_Ni_strokesBetween X N v1 (σ.1 70 4) x7 σ hv1 r9 e11) (wsOf_at hv1 (by decide) rfl) rfl mfX2_68_X4_strokesBetween hyVX4_strokesBetween (by decide) (by decide) rfl (Nat.le_of_ble_eq_true rfl) hG dX2_goAlong_71 rfl (fun n10 => ?_)
      refine r_bR hG (fun s13 e15 => ?_)
      refine r_callVv (pc := 74) (As := [.int x7, .int r9]) (c_Gu_goTo X N 70 x7 r9 σ (rfl : shp 70 = 1) s13 e15) (wsOf_at (rfl : shp 70 = 1) (by decide) rfl) rfl mfX2_72_X1_goTo hyVX1_goTo (by decide) (by decide) rfl (Nat.le_of_ble_eq_true rfl) hG dX2_goAlong_74 rfl (fun n14 => ?_)
      exact r_sub [1, 2, 3, 4, 5, 6] rfl hG (w_He_goAlong_J77 N hG hK11 v1 v3 v5 v6 s13 hv1 hv3)
    · refine r_aload_n (pc := 41) 2 1 rfl rfl hG dX2_goAlong_41 ?_
      refine r_aload_n (pc := 42) 1 0 rfl rfl hG dX2_goAlong_42 ?_
      refine gf2_0 (pc := 43) lk395 hG dX2_goAlong_43 ?_
      refine r_aload_n (pc := 46) 3 3 rfl rfl hG dX2_goAlong_46 ?_
      refine r_iload (pc := 47) 0 rfl hG dX2_goAlong_47 ?_
      refine r_bR hG (fun s18 e20 => ?_)
      refine r_callVv (pc := 49) (As := [.ref (X.2.1 + 70), .ref (X.2.1 + v3), .int x7]) (c_Ni_carry X N v1 70 v3 x7 σ hv1 (rfl : shp 70 = 1) hv3 s18 e20) (wsOf_at hv1 (by decide) rfl) rfl mfX2_59_X4_carry hyVX4_carry (by decide) (by decide) rfl (Nat.le_of_ble_eq_true rfl) hG dX2_goAlong_49 rfl (fun n19 => ?_)
      refine r_goto (pc := 52) (tgt := 77) (by decide) hG dX2_goAlong_52 ?_
      exact r_sub [1, 2, 3, 4, 5, 6] rfl hG (w_He_goAlong_J77 N hG hK11 v1 v3 v5 v6 s18 hv1 hv3)
set_option maxRecDepth 4000 in
theorem w_He_goAlong_L11 {X : Cx} {G : GT St} (N : Nat) (hG : IsG X RX2 cX2_goAlong 8 9 none oWV G) : ∀ (n : Nat), ∀ (v1 : Nat) (v3 : Nat) (v5 : Int32) (v6 : Int32) (σ : St), shp v1 = 4 → shp v3 = 7 → G (He_goAlong_L11 N n v1 v3 v5 v6 σ) σ 11 [(0, .ref (X.2.1 + 69)), (1, .ref (X.2.1 + v1)), (3, .ref (X.2.1 + v3)), (4, .ref (X.2.1 + 47)), (5, .int v5), (6, .int v6)] [] := by
  intro n
  induction n with
  | zero => intro v1 v3 v5 v6 σ hv1 hv3; exact r_none hG
  | succ n ih => intro v1 v3 v5 v6 σ hv1 hv3; exact w_He_goAlong_L11B N hG ih v1 v3 v5 v6 σ hv1 hv3
set_option maxRecDepth 4000 in
theorem c_He_goAlong (X : Cx) (N : Nat) (v1 : Nat) (v2 : Nat) (v3 : Nat) (v5 : Int32) (σ : St) (hv1 : shp v1 = 4) (hv2 : shp v2 = 1) (hv3 : shp v3 = 7) (σ1 : St) (hE : He_goAlong N v1 v2 v3 v5 σ = some σ1) : Ctr X yX2_goAlong cX2_goAlong 8 none 9 [.ref (X.2.1 + 69), .ref (X.2.1 + v1), .ref (X.2.1 + v2), .ref (X.2.1 + v3), .ref (X.2.1 + 47), .int v5] σ none σ1 := by
  refine Ctr.of (out := oWV) (E := He_goAlong N v1 v2 v3 v5 σ) rfl (Nat.le_of_ble_eq_true rfl) (fun G hG => ?_) σ1 hE
  unfold He_goAlong
  refine r_aload_n (pc := 0) 0 0 rfl rfl hG dX2_goAlong_0 ?_
  refine gf2_0 (pc := 1) lk395 hG dX2_goAlong_1 ?_
  refine r_aload_n (pc := 4) 2 2 rfl rfl hG dX2_goAlong_4 ?_
  refine r_bR hG (fun s2 e4 => ?_)
  refine r_callVv (pc := 5) (As := [.ref (X.2.1 + v2)]) (c_Gu_take X N 70 v2 σ (rfl : shp 70 = 1) hv2 s2 e4) (wsOf_at (rfl : shp 70 = 1) (by decide) rfl) rfl mfX2_51_X1_take hyVX1_take (by decide) (by decide) rfl (Nat.le_of_ble_eq_true rfl) hG dX2_goAlong_5 rfl (fun n3 => ?_)
  refine r_iconst (pc := 8) (v := 0) (by decide) hG dX2_goAlong_8 ?_
  refine r_istore (pc := 9) (lv' := [(6, .int 0), (0, .ref (X.2.1 + 69)), (1, .ref (X.2.1 + v1)), (2, .ref (X.2.1 + v2)), (3, .ref (X.2.1 + v3)), (4, .ref (X.2.1 + 47)), (5, .int v5)]) (by decide) rfl hG dX2_goAlong_9 ?_
  exact r_sub [1, 2, 4, 5, 6, 0] rfl hG (w_He_goAlong_L11 N hG N v1 v3 v5 0 s2 hv1 hv3)
set_option maxRecDepth 4000 in
theorem w_He_weight_J31 {σ : St} {X : Cx} {G : GT Int64} (N : Nat) (hG : IsG X RX2 cX2_weight 6 1 (some .long) (oL σ) G) {K5 : Int32 → Int32 → Int32 → Int64 → Int32 → St → Option Int64} (hK5 : ∀ (v0 : Int32) (v1 : Int32) (v2 : Int32) (v3 : Int64) (v5 : Int32), G (K5 v0 v1 v2 v3 v5 σ) σ 5 [(0, .int v0), (1, .int v1), (2, .int v2), (3, .long v3), (5, .int v5)] []) (v0 : Int32) (v1 : Int32) (v2 : Int32) (v5 : Int32) (w0 : Int64) (w1 : Int64) : G (He_weight_J31 N K5 v0 v1 v2 v5 w0 w1 σ) σ 31 [(0, .int v0), (1, .int v1), (2, .int v2), (5, .int v5)] [.long w1, .long w0] := by
  unfold He_weight_J31
  refine r_lmul (pc := 31) hG dX2_weight_31 ?_
  refine r_bL hG (fun x3 => ?_)
  refine r_lstore_n (pc := 32) (lv' := [(3, .long x3), (0, .int v0), (1, .int v1), (2, .int v2), (5, .int v5)]) 3 rfl (by decide) rfl hG dX2_weight_32 ?_
  refine r_bIinc (pc := 33) (lv' := fun x4 => [(5, .int x4), (3, .long x3), (0, .int v0), (1, .int v1), (2, .int v2)]) 4 rfl rfl (by decide) (fun _ => rfl) hG dX2_weight_33 (fun x4 => ?_)
  refine r_goto (pc := 36) (tgt := 5) (by decide) hG dX2_weight_36 ?_
  exact r_sub [2, 3, 4, 1, 0] rfl hG (hK5 v0 v1 v2 x3 x4)
set_option maxRecDepth 4000 in
theorem w_He_weight_L5B {σ : St} {X : Cx} {G : GT Int64} (N : Nat) (hG : IsG X RX2 cX2_weight 6 1 (some .long) (oL σ) G) {K5 : Int32 → Int32 → Int32 → Int64 → Int32 → St → Option Int64} (hK5 : ∀ (v0 : Int32) (v1 : Int32) (v2 : Int32) (v3 : Int64) (v5 : Int32), G (K5 v0 v1 v2 v3 v5 σ) σ 5 [(0, .int v0), (1, .int v1), (2, .int v2), (3, .long v3), (5, .int v5)] []) (v0 : Int32) (v1 : Int32) (v2 : Int32) (v3 : Int64) (v5 : Int32) : G (He_weight_L5B N K5 v0 v1 v2 v3 v5 σ) σ 5 [(0, .int v0), (1, .int v1), (2, .int v2), (3, .long v3), (5, .int v5)] [] := by
  unfold He_weight_L5B
  refine r_iload (pc := 5) 4 rfl hG dX2_weight_5 ?_
  refine r_iload_n (pc := 7) 0 0 rfl rfl hG dX2_weight_7 ?_
  refine r_icmp_ge (pc := 8) (tgt := 39) (by decide) hG dX2_weight_8 (fun h1 => ?_) (fun h1 => ?_)
  · refine r_lload_n (pc := 39) 3 3 rfl rfl hG dX2_weight_39 ?_
    exact r_lret (pc := 40) rfl hG dX2_weight_40
  · refine r_lload_n (pc := 11) 3 3 rfl rfl hG dX2_weight_11 ?_
    refine r_iload_n (pc := 12) 1 1 rfl rfl hG dX2_weight_12 ?_
    refine r_iconst (pc := 13) (v := 1) (by decide) hG dX2_weight_13 ?_
    refine r_iload (pc := 14) 4 rfl hG dX2_weight_14 ?_
    refine r_ishl (pc := 16) hG dX2_weight_16 ?_
    refine r_iand (pc := 17) hG dX2_weight_17 ?_
    refine r_if_ne (pc := 18) (tgt := 29) (by decide) hG dX2_weight_18 (fun h2 => ?_) (fun h2 => ?_)
    · refine r_iload_n (pc := 29) 2 2 rfl rfl hG dX2_weight_29 ?_
      refine r_i2l (pc := 30) hG dX2_weight_30 ?_
      exact r_sub [0, 1, 2, 4] rfl hG (w_He_weight_J31 N hG hK5 v0 v1 v2 v5 v3 ((v2).toInt64))
    · refine r_bipush (pc := 21) (v := 10) (by decide) hG dX2_weight_21 ?_
      refine r_iload_n (pc := 23) 2 2 rfl rfl hG dX2_weight_23 ?_
      refine r_isub (pc := 24) hG dX2_weight_24 ?_
      refine r_i2l (pc := 25) hG dX2_weight_25 ?_
      refine r_goto (pc := 26) (tgt := 31) (by decide) hG dX2_weight_26 ?_
      exact r_sub [0, 1, 2, 4] rfl hG (w_He_weight_J31 N hG hK5 v0 v1 v2 v5 v3 (((10 - v2)).toInt64))
set_option maxRecDepth 4000 in
theorem w_He_weight_L5 {σ : St} {X : Cx} {G : GT Int64} (N : Nat) (hG : IsG X RX2 cX2_weight 6 1 (some .long) (oL σ) G) : ∀ (n : Nat), ∀ (v0 : Int32) (v1 : Int32) (v2 : Int32) (v3 : Int64) (v5 : Int32), G (He_weight_L5 N n v0 v1 v2 v3 v5 σ) σ 5 [(0, .int v0), (1, .int v1), (2, .int v2), (3, .long v3), (5, .int v5)] [] := by
  intro n
  induction n with
  | zero => intro v0 v1 v2 v3 v5; exact r_none hG
  | succ n ih => intro v0 v1 v2 v3 v5; exact w_He_weight_L5B N hG ih v0 v1 v2 v3 v5
set_option maxRecDepth 4000 in
theorem c_He_weight (X : Cx) (N : Nat) (v0 : Int32) (v1 : Int32) (v2 : Int32) (σ : St) (r : Int64) (hE : He_weight N v0 v1 v2 σ = some r) : Ctr X yX2_weight cX2_weight 6 (some .long) 1 [.int v0, .int v1, .int v2] σ (some (.long r)) σ := by
  refine Ctr.of (out := (oL σ)) (E := He_weight N v0 v1 v2 σ) rfl (Nat.le_of_ble_eq_true rfl) (fun G hG => ?_) r hE
  unfold He_weight
  refine r_lconst (pc := 0) (v := 1) (by decide) hG dX2_weight_0 ?_
  refine r_lstore_n (pc := 1) (lv' := [(3, .long 1), (0, .int v0), (1, .int v1), (2, .int v2)]) 3 rfl (by decide) rfl hG dX2_weight_1 ?_
  refine r_iconst (pc := 2) (v := 0) (by decide) hG dX2_weight_2 ?_
  refine r_istore (pc := 3) (lv' := [(5, .int 0), (3, .long 1), (0, .int v0), (1, .int v1), (2, .int v2)]) (by decide) rfl hG dX2_weight_3 ?_
  exact r_sub [2, 3, 4, 1, 0] rfl hG (w_He_weight_L5 N hG N v0 v1 v2 1 0)
set_option maxRecDepth 4000 in
theorem w_He_tenToThe_L4B {σ : St} {X : Cx} {G : GT Int64} (N : Nat) (hG : IsG X RX2 cX2_tenToThe 4 1 (some .long) (oL σ) G) {K4 : Int32 → Int64 → Int32 → St → Option Int64} (hK4 : ∀ (v0 : Int32) (v1 : Int64) (v3 : Int32), G (K4 v0 v1 v3 σ) σ 4 [(0, .int v0), (1, .long v1), (3, .int v3)] []) (v0 : Int32) (v1 : Int64) (v3 : Int32) : G (He_tenToThe_L4B N K4 v0 v1 v3 σ) σ 4 [(0, .int v0), (1, .long v1), (3, .int v3)] [] := by
  unfold He_tenToThe_L4B
  refine r_iload_n (pc := 4) 2 3 rfl rfl hG dX2_tenToThe_4 ?_
  refine r_iload_n (pc := 5) 0 0 rfl rfl hG dX2_tenToThe_5 ?_
  refine r_icmp_ge (pc := 6) (tgt := 21) (by decide) hG dX2_tenToThe_6 (fun h1 => ?_) (fun h1 => ?_)
  · refine r_lload_n (pc := 21) 1 1 rfl rfl hG dX2_tenToThe_21 ?_
    exact r_lret (pc := 22) rfl hG dX2_tenToThe_22
  · refine r_lload_n (pc := 9) 1 1 rfl rfl hG dX2_tenToThe_9 ?_
    refine r_ldc2 (pc := 10) (v := 10) lk1032 hG dX2_tenToThe_10 ?_
    refine r_lmul (pc := 13) hG dX2_tenToThe_13 ?_
    refine r_bL hG (fun x2 => ?_)
    refine r_lstore_n (pc := 14) (lv' := [(1, .long x2), (0, .int v0), (3, .int v3)]) 1 rfl (by decide) rfl hG dX2_tenToThe_14 ?_
    refine r_bIinc (pc := 15) (lv' := fun x3 => [(3, .int x3), (1, .long x2), (0, .int v0)]) 2 rfl rfl (by decide) (fun _ => rfl) hG dX2_tenToThe_15 (fun x3 => ?_)
    refine r_goto (pc := 18) (tgt := 4) (by decide) hG dX2_tenToThe_18 ?_
    exact r_sub [2, 1, 0] rfl hG (hK4 v0 x2 x3)
set_option maxRecDepth 4000 in
theorem w_He_tenToThe_L4 {σ : St} {X : Cx} {G : GT Int64} (N : Nat) (hG : IsG X RX2 cX2_tenToThe 4 1 (some .long) (oL σ) G) : ∀ (n : Nat), ∀ (v0 : Int32) (v1 : Int64) (v3 : Int32), G (He_tenToThe_L4 N n v0 v1 v3 σ) σ 4 [(0, .int v0), (1, .long v1), (3, .int v3)] [] := by
  intro n
  induction n with
  | zero => intro v0 v1 v3; exact r_none hG
  | succ n ih => intro v0 v1 v3; exact w_He_tenToThe_L4B N hG ih v0 v1 v3
set_option maxRecDepth 4000 in
theorem c_He_tenToThe (X : Cx) (N : Nat) (v0 : Int32) (σ : St) (r : Int64) (hE : He_tenToThe N v0 σ = some r) : Ctr X yX2_tenToThe cX2_tenToThe 4 (some .long) 1 [.int v0] σ (some (.long r)) σ := by
  refine Ctr.of (out := (oL σ)) (E := He_tenToThe N v0 σ) rfl (Nat.le_of_ble_eq_true rfl) (fun G hG => ?_) r hE
  unfold He_tenToThe
  refine r_lconst (pc := 0) (v := 1) (by decide) hG dX2_tenToThe_0 ?_
  refine r_lstore_n (pc := 1) (lv' := [(1, .long 1), (0, .int v0)]) 1 rfl (by decide) rfl hG dX2_tenToThe_1 ?_
  refine r_iconst (pc := 2) (v := 0) (by decide) hG dX2_tenToThe_2 ?_
  refine r_istore_n (pc := 3) (lv' := [(3, .int 0), (1, .long 1), (0, .int v0)]) 3 rfl (by decide) rfl hG dX2_tenToThe_3 ?_
  exact r_sub [2, 1, 0] rfl hG (w_He_tenToThe_L4 N hG N v0 1 0)
set_option maxRecDepth 4000 in
theorem w_He_setFraction_J44 {X : Cx} {G : GT St} (N : Nat) (hG : IsG X RX2 cX2_setFraction 12 1 none oWV G) (v1 : Int64) (v3 : Int64) (v5 : Int64) (σ : St) : G (He_setFraction_J44 N v1 v3 v5 σ) σ 44 [(0, .ref (X.2.1 + 69)), (1, .long v1), (3, .long v3), (5, .long v5)] [] := by
  unfold He_setFraction_J44
  refine r_lload (pc := 44) 3 rfl hG dX2_setFraction_44 ?_
  refine r_lconst (pc := 46) (v := 0) (by decide) hG dX2_setFraction_46 ?_
  refine r_lcmp (pc := 47) hG dX2_setFraction_47 ?_
  refine r_if_le (pc := 48) (tgt := 67) (by decide) hG dX2_setFraction_48 (fun h2 => ?_) (fun h2 => ?_)
  · exact r_vret (pc := 67) rfl hG dX2_setFraction_67
  · refine r_aload_n (pc := 51) 0 0 rfl rfl hG dX2_setFraction_51 ?_
    refine r_lload_n (pc := 52) 1 1 rfl rfl hG dX2_setFraction_52 ?_
    refine r_lload (pc := 53) 3 rfl hG dX2_setFraction_53 ?_
    refine r_chkN hG (fun h3 => ?_)
    refine r_ldiv (pc := 55) h3 hG dX2_setFraction_55 ?_
    refine pf2_1 (pc := 56) lk396 hG dX2_setFraction_56 ?_
    refine r_bS hG (fun s4 => ?_)
    refine r_aload_n (pc := 59) 0 0 rfl rfl hG dX2_setFraction_59 ?_
    refine r_lload_n (pc := 60) 2 3 rfl rfl hG dX2_setFraction_60 ?_
    refine r_lload (pc := 61) 3 rfl hG dX2_setFraction_61 ?_
    refine r_chkN hG (fun h5 => ?_)
    refine r_ldiv (pc := 63) h5 hG dX2_setFraction_63 ?_
    refine pf2_2 (pc := 64) lk398 hG dX2_setFraction_64 ?_
    refine r_bS hG (fun s6 => ?_)
    exact r_vret (pc := 67) rfl hG dX2_setFraction_67
set_option maxRecDepth 4000 in
theorem w_He_setFraction_L9B {X : Cx} {G : GT St} (N : Nat) (hG : IsG X RX2 cX2_setFraction 12 1 none oWV G) {K9 : Int64 → Int64 → Int64 → Int64 → Int32 → St → Option St} (hK9 : ∀ (v1 : Int64) (v3 : Int64) (v5 : Int64) (v7 : Int64) (v9 : Int32) (s : St), G (K9 v1 v3 v5 v7 v9 s) s 9 [(0, .ref (X.2.1 + 69)), (1, .long v1), (3, .long v3), (5, .long v5), (7, .long v7), (9, .int v9)] []) (v1 : Int64) (v3 : Int64) (v5 : Int64) (v7 : Int64) (v9 : Int32) (σ : St) : G (He_setFraction_L9B N K9 v1 v3 v5 v7 v9 σ) σ 9 [(0, .ref (X.2.1 + 69)), (1, .long v1), (3, .long v3), (5, .long v5), (7, .long v7), (9, .int v9)] [] := by
  unfold He_setFraction_L9B
  refine r_iload (pc := 9) 5 rfl hG dX2_setFraction_9 ?_
  refine r_bipush (pc := 11) (v := 100) (by decide) hG dX2_setFraction_11 ?_
  refine r_icmp_ge (pc := 13) (tgt := 44) (by decide) hG dX2_setFraction_13 (fun h1 => ?_) (fun h1 => ?_)
  · exact r_sub [0, 1, 2, 3] rfl hG (w_He_setFraction_J44 N hG v1 v3 v5 σ)
  · refine r_lload (pc := 16) 4 rfl hG dX2_setFraction_16 ?_
    refine r_lconst (pc := 18) (v := 0) (by decide) hG dX2_setFraction_18 ?_
    refine r_lcmp (pc := 19) hG dX2_setFraction_19 ?_
    refine r_if_eq (pc := 20) (tgt := 44) (by decide) hG dX2_setFraction_20 (fun h7 => ?_) (fun h7 => ?_)
    · exact r_sub [0, 1, 2, 3] rfl hG (w_He_setFraction_J44 N hG v1 v3 v5 σ)
    · refine r_lload (pc := 23) 3 rfl hG dX2_setFraction_23 ?_
      refine r_lload (pc := 25) 4 rfl hG dX2_setFraction_25 ?_
      refine r_chkN hG (fun h8 => ?_)
      refine r_lrem (pc := 27) h8 hG dX2_setFraction_27 ?_
      refine r_bL hG (fun x9 => ?_)
      refine r_lstore (pc := 28) (lv' := [(10, .long x9), (0, .ref (X.2.1 + 69)), (1, .long v1), (3, .long v3), (5, .long v5), (7, .long v7), (9, .int v9)]) (by decide) rfl hG dX2_setFraction_28 ?_
      refine r_lload (pc := 30) 5 rfl hG dX2_setFraction_30 ?_
      refine r_lstore (pc := 32) (lv' := [(5, .long v7), (10, .long x9), (0, .ref (X.2.1 + 69)), (1, .long v1), (3, .long v3), (7, .long v7), (9, .int v9)]) (by decide) rfl hG dX2_setFraction_32 ?_
      refine r_lload (pc := 34) 1 rfl hG dX2_setFraction_34 ?_
      refine r_lstore (pc := 36) (lv' := [(7, .long x9), (5, .long v7), (10, .long x9), (0, .ref (X.2.1 + 69)), (1, .long v1), (3, .long v3), (9, .int v9)]) (by decide) rfl hG dX2_setFraction_36 ?_
      refine r_bIinc (pc := 38) (lv' := fun x10 => [(9, .int x10), (7, .long x9), (5, .long v7), (10, .long x9), (0, .ref (X.2.1 + 69)), (1, .long v1), (3, .long v3)]) 6 rfl rfl (by decide) (fun _ => rfl) hG dX2_setFraction_38 (fun x10 => ?_)
      refine r_goto (pc := 41) (tgt := 9) (by decide) hG dX2_setFraction_41 ?_
      exact r_sub [4, 5, 6, 2, 1, 0] rfl hG (hK9 v1 v3 v7 x9 x10 σ)
set_option maxRecDepth 4000 in
theorem w_He_setFraction_L9 {X : Cx} {G : GT St} (N : Nat) (hG : IsG X RX2 cX2_setFraction 12 1 none oWV G) : ∀ (n : Nat), ∀ (v1 : Int64) (v3 : Int64) (v5 : Int64) (v7 : Int64) (v9 : Int32) (σ : St), G (He_setFraction_L9 N n v1 v3 v5 v7 v9 σ) σ 9 [(0, .ref (X.2.1 + 69)), (1, .long v1), (3, .long v3), (5, .long v5), (7, .long v7), (9, .int v9)] [] := by
  intro n
  induction n with
  | zero => intro v1 v3 v5 v7 v9 σ; exact r_none hG
  | succ n ih => intro v1 v3 v5 v7 v9 σ; exact w_He_setFraction_L9B N hG ih v1 v3 v5 v7 v9 σ
set_option maxRecDepth 4000 in
theorem c_He_setFraction (X : Cx) (N : Nat) (v1 : Int64) (v3 : Int64) (σ : St) (σ1 : St) (hE : He_setFraction N v1 v3 σ = some σ1) : Ctr X yX2_setFraction cX2_setFraction 12 none 1 [.ref (X.2.1 + 69), .long v1, .long v3] σ none σ1 := by
  refine Ctr.of (out := oWV) (E := He_setFraction N v1 v3 σ) rfl (Nat.le_of_ble_eq_true rfl) (fun G hG => ?_) σ1 hE
  unfold He_setFraction
  refine r_lload_n (pc := 0) 1 1 rfl rfl hG dX2_setFraction_0 ?_
  refine r_lstore (pc := 1) (lv' := [(5, .long v1), (0, .ref (X.2.1 + 69)), (1, .long v1), (3, .long v3)]) (by decide) rfl hG dX2_setFraction_1 ?_
  refine r_lload_n (pc := 3) 3 3 rfl rfl hG dX2_setFraction_3 ?_
  refine r_lstore (pc := 4) (lv' := [(7, .long v3), (5, .long v1), (0, .ref (X.2.1 + 69)), (1, .long v1), (3, .long v3)]) (by decide) rfl hG dX2_setFraction_4 ?_
  refine r_iconst (pc := 6) (v := 0) (by decide) hG dX2_setFraction_6 ?_
  refine r_istore (pc := 7) (lv' := [(9, .int 0), (7, .long v3), (5, .long v1), (0, .ref (X.2.1 + 69)), (1, .long v1), (3, .long v3)]) (by decide) rfl hG dX2_setFraction_7 ?_
  exact r_sub [3, 4, 5, 2, 1, 0] rfl hG (w_He_setFraction_L9 N hG N v1 v3 v1 v3 0 σ)
set_option maxRecDepth 4000 in
theorem w_He_chance_J64 {X : Cx} {G : GT St} (N : Nat) (hG : IsG X RX2 cX2_chance 10 10 none oWV G) (v7 : Int64) (σ : St) : G (He_chance_J64 N v7 σ) σ 64 [(0, .ref (X.2.1 + 69)), (4, .ref (X.2.1 + 47)), (7, .long v7)] [] := by
  unfold He_chance_J64
  refine r_aload_n (pc := 64) 0 0 rfl rfl hG dX2_chance_64 ?_
  refine r_lload (pc := 65) 2 rfl hG dX2_chance_65 ?_
  refine r_aload (pc := 67) 1 rfl hG dX2_chance_67 ?_
  refine gf10_2 (pc := 69) lk288 hG dX2_chance_69 ?_
  refine r_bR hG (fun r2 e4 => ?_)
  refine r_callSl (pc := 72) (As := [.int (σ.1 47 2)]) (c_He_tenToThe X N (σ.1 47 2) σ r2 e4) mfX2_40_X2_tenToThe hySX2_tenToThe (by decide) (by decide) rfl (Nat.le_of_ble_eq_true rfl) hG dX2_chance_72 rfl (fun n3 => ?_)
  refine r_bR hG (fun s6 e8 => ?_)
  refine r_callVv (pc := 75) (As := [.long v7, .long r2]) (c_He_setFraction X N v7 r2 σ s6 e8) (wsOf_at (rfl : shp 69 = 2) (by decide) rfl) rfl mfX2_44_X2_setFraction hyVX2_setFraction (by decide) (by decide) rfl (Nat.le_of_ble_eq_true rfl) hG dX2_chance_75 rfl (fun n7 => ?_)
  exact r_vret (pc := 78) rfl hG dX2_chance_78
set_option maxRecDepth 4000 in
theorem w_He_chance_J58 {X : Cx} {G : GT St} (N : Nat) (hG : IsG X RX2 cX2_chance 10 10 none oWV G) {K6 : Nat → Nat → Nat → Int32 → Int32 → Int64 → Int32 → St → Option St} (hK6 : ∀ (v1 : Nat) (v2 : Nat) (v3 : Nat) (v5 : Int32) (v6 : Int32) (v7 : Int64) (v9 : Int32) (s : St), shp v1 = 4 → shp v2 = 1 → shp v3 = 7 → G (K6 v1 v2 v3 v5 v6 v7 v9 s) s 6 [(0, .ref (X.2.1 + 69)), (1, .ref (X.2.1 + v1)), (2, .ref (X.2.1 + v2)), (3, .ref (X.2.1 + v3)), (4, .ref (X.2.1 + 47)), (5, .int v5), (6, .int v6), (7, .long v7), (9, .int v9)] []) (v1 : Nat) (v2 : Nat) (v3 : Nat) (v5 : Int32) (v6 : Int32) (v7 : Int64) (v9 : Int32) (σ : St) (hv1 : shp v1 = 4) (hv2 : shp v2 = 1) (hv3 : shp v3 = 7) : G (He_chance_J58 N K6 v1 v2 v3 v5 v6 v7 v9 σ) σ 58 [(0, .ref (X.2.1 + 69)), (1, .ref (X.2.1 + v1)), (2, .ref (X.2.1 + v2)), (3, .ref (X.2.1 + v3)), (4, .ref (X.2.1 + 47)), (5, .int v5), (6, .int v6), (7, .long v7), (9, .int v9)] [] := by
  unfold He_chance_J58
  refine r_bIinc (pc := 58) (lv' := fun x14 => [(9, .int x14), (0, .ref (X.2.1 + 69)), (1, .ref (X.2.1 + v1)), (2, .ref (X.2.1 + v2)), (3, .ref (X.2.1 + v3)), (4, .ref (X.2.1 + 47)), (5, .int v5), (6, .int v6), (7, .long v7)]) 8 rfl rfl (by decide) (fun _ => rfl) hG dX2_chance_58 (fun x14 => ?_)
  refine r_goto (pc := 61) (tgt := 6) (by decide) hG dX2_chance_61 ?_
  exact r_sub [1, 2, 3, 4, 5, 6, 7, 8, 0] rfl hG (hK6 v1 v2 v3 v5 v6 v7 x14 σ hv1 hv2 hv3)
set_option maxRecDepth 4000 in
theorem w_He_chance_L6B {X : Cx} {G : GT St} (N : Nat) (hG : IsG X RX2 cX2_chance 10 10 none oWV G) {K6 : Nat → Nat → Nat → Int32 → Int32 → Int64 → Int32 → St → Option St} (hK6 : ∀ (v1 : Nat) (v2 : Nat) (v3 : Nat) (v5 : Int32) (v6 : Int32) (v7 : Int64) (v9 : Int32) (s : St), shp v1 = 4 → shp v2 = 1 → shp v3 = 7 → G (K6 v1 v2 v3 v5 v6 v7 v9 s) s 6 [(0, .ref (X.2.1 + 69)), (1, .ref (X.2.1 + v1)), (2, .ref (X.2.1 + v2)), (3, .ref (X.2.1 + v3)), (4, .ref (X.2.1 + 47)), (5, .int v5), (6, .int v6), (7, .long v7), (9, .int v9)] []) (v1 : Nat) (v2 : Nat) (v3 : Nat) (v5 : Int32) (v6 : Int32) (v7 : Int64) (v9 : Int32) (σ : St) (hv1 : shp v1 = 4) (hv2 : shp v2 = 1) (hv3 : shp v3 = 7) : G (He_chance_L6B N K6 v1 v2 v3 v5 v6 v7 v9 σ) σ 6 [(0, .ref (X.2.1 + 69)), (1, .ref (X.2.1 + v1)), (2, .ref (X.2.1 + v2)), (3, .ref (X.2.1 + v3)), (4, .ref (X.2.1 + 47)), (5, .int v5), (6, .int v6), (7, .long v7), (9, .int v9)] [] := by
  unfold He_chance_L6B
  refine r_iload (pc := 6) 8 rfl hG dX2_chance_6 ?_
  refine r_iconst (pc := 8) (v := 1) (by decide) hG dX2_chance_8 ?_
  refine r_aload (pc := 9) 4 rfl hG dX2_chance_9 ?_
  refine gf10_2 (pc := 11) lk288 hG dX2_chance_11 ?_
  refine r_ishl (pc := 14) hG dX2_chance_14 ?_
  refine r_icmp_ge (pc := 15) (tgt := 64) (by decide) hG dX2_chance_15 (fun h1 => ?_) (fun h1 => ?_)
  · exact r_sub [0, 4, 7] rfl hG (w_He_chance_J64 N hG v7 σ)
  · refine r_aload_n (pc := 18) 0 0 rfl rfl hG dX2_chance_18 ?_
    refine r_aload_n (pc := 19) 1 1 rfl rfl hG dX2_chance_19 ?_
    refine r_aload_n (pc := 20) 2 2 rfl rfl hG dX2_chance_20 ?_
    refine r_aload_n (pc := 21) 3 3 rfl rfl hG dX2_chance_21 ?_
    refine r_aload (pc := 22) 4 rfl hG dX2_chance_22 ?_
    refine r_iload (pc := 24) 8 rfl hG dX2_chance_24 ?_
    refine r_bR hG (fun s10 e12 => ?_)
    refine r_callVv (pc := 26) (As := [.ref (X.2.1 + v1), .ref (X.2.1 + v2), .ref (X.2.1 + v3), .ref (X.2.1 + 47), .int v9]) (c_He_goAlong X N v1 v2 v3 v9 σ hv1 hv2 hv3 s10 e12) (wsOf_at (rfl : shp 69 = 2) (by decide) rfl) rfl mfX2_29_X2_goAlong hyVX2_goAlong (by decide) (by decide) rfl (Nat.le_of_ble_eq_true rfl) hG dX2_chance_26 rfl (fun n11 => ?_)
    refine r_aload_n (pc := 29) 0 0 rfl rfl hG dX2_chance_29 ?_
    refine gf2_0 (pc := 30) lk395 hG dX2_chance_30 ?_
    refine gf1_2 (pc := 33) (i := 70) (rfl : shp 70 = 1) lk179 hG dX2_chance_33 ?_
    refine r_iload (pc := 36) 5 rfl hG dX2_chance_36 ?_
    refine r_icmp_lt (pc := 38) (tgt := 58) (by decide) hG dX2_chance_38 (fun h13 => ?_) (fun h13 => ?_)
    · exact w_He_chance_J58 N hG hK6 v1 v2 v3 v5 v6 v7 v9 s10 hv1 hv2 hv3
    · refine r_lload (pc := 41) 7 rfl hG dX2_chance_41 ?_
      refine r_aload (pc := 43) 4 rfl hG dX2_chance_43 ?_
      refine gf10_2 (pc := 45) lk288 hG dX2_chance_45 ?_
      refine r_iload (pc := 48) 8 rfl hG dX2_chance_48 ?_
      refine r_iload (pc := 50) 6 rfl hG dX2_chance_50 ?_
      refine r_bR hG (fun r15 e17 => ?_)
      refine r_callSl (pc := 52) (As := [.int (s10.1 47 2), .int v9, .int v6]) (c_He_weight X N (s10.1 47 2) v9 v6 s10 r15 e17) mfX2_36_X2_weight hySX2_weight (by decide) (by decide) rfl (Nat.le_of_ble_eq_true rfl) hG dX2_chance_52 rfl (fun n16 => ?_)
      refine r_ladd (pc := 55) hG dX2_chance_55 ?_
      refine r_bL hG (fun x18 => ?_)
      refine r_lstore (pc := 56) (lv' := [(7, .long x18), (0, .ref (X.2.1 + 69)), (1, .ref (X.2.1 + v1)), (2, .ref (X.2.1 + v2)), (3, .ref (X.2.1 + v3)), (4, .ref (X.2.1 + 47)), (5, .int v5), (6, .int v6), (9, .int v9)]) (by decide) rfl hG dX2_chance_56 ?_
      exact r_sub [1, 2, 3, 4, 5, 6, 7, 0, 8] rfl hG (w_He_chance_J58 N hG hK6 v1 v2 v3 v5 v6 x18 v9 s10 hv1 hv2 hv3)
set_option maxRecDepth 4000 in
theorem w_He_chance_L6 {X : Cx} {G : GT St} (N : Nat) (hG : IsG X RX2 cX2_chance 10 10 none oWV G) : ∀ (n : Nat), ∀ (v1 : Nat) (v2 : Nat) (v3 : Nat) (v5 : Int32) (v6 : Int32) (v7 : Int64) (v9 : Int32) (σ : St), shp v1 = 4 → shp v2 = 1 → shp v3 = 7 → G (He_chance_L6 N n v1 v2 v3 v5 v6 v7 v9 σ) σ 6 [(0, .ref (X.2.1 + 69)), (1, .ref (X.2.1 + v1)), (2, .ref (X.2.1 + v2)), (3, .ref (X.2.1 + v3)), (4, .ref (X.2.1 + 47)), (5, .int v5), (6, .int v6), (7, .long v7), (9, .int v9)] [] := by
  intro n
  induction n with
  | zero => intro v1 v2 v3 v5 v6 v7 v9 σ hv1 hv2 hv3; exact r_none hG
  | succ n ih => intro v1 v2 v3 v5 v6 v7 v9 σ hv1 hv2 hv3; exact w_He_chance_L6B N hG ih v1 v2 v3 v5 v6 v7 v9 σ hv1 hv2 hv3
set_option maxRecDepth 4000 in
theorem c_He_chance (X : Cx) (N : Nat) (v1 : Nat) (v2 : Nat) (v3 : Nat) (v5 : Int32) (v6 : Int32) (σ : St) (hv1 : shp v1 = 4) (hv2 : shp v2 = 1) (hv3 : shp v3 = 7) (σ1 : St) (hE : He_chance N v1 v2 v3 v5 v6 σ = some σ1) : Ctr X yX2_chance cX2_chance 10 none 10 [.ref (X.2.1 + 69), .ref (X.2.1 + v1), .ref (X.2.1 + v2), .ref (X.2.1 + v3), .ref (X.2.1 + 47), .int v5, .int v6] σ none σ1 := by
  refine Ctr.of (out := oWV) (E := He_chance N v1 v2 v3 v5 v6 σ) rfl (Nat.le_of_ble_eq_true rfl) (fun G hG => ?_) σ1 hE
  unfold He_chance
  refine r_lconst (pc := 0) (v := 0) (by decide) hG dX2_chance_0 ?_
  refine r_lstore (pc := 1) (lv' := [(7, .long 0), (0, .ref (X.2.1 + 69)), (1, .ref (X.2.1 + v1)), (2, .ref (X.2.1 + v2)), (3, .ref (X.2.1 + v3)), (4, .ref (X.2.1 + 47)), (5, .int v5), (6, .int v6)]) (by decide) rfl hG dX2_chance_1 ?_
  refine r_iconst (pc := 3) (v := 0) (by decide) hG dX2_chance_3 ?_
  refine r_istore (pc := 4) (lv' := [(9, .int 0), (7, .long 0), (0, .ref (X.2.1 + 69)), (1, .ref (X.2.1 + v1)), (2, .ref (X.2.1 + v2)), (3, .ref (X.2.1 + v3)), (4, .ref (X.2.1 + 47)), (5, .int v5), (6, .int v6)]) (by decide) rfl hG dX2_chance_4 ?_
  exact r_sub [2, 3, 4, 5, 6, 7, 8, 1, 0] rfl hG (w_He_chance_L6 N hG N v1 v2 v3 v5 v6 0 0 σ hv1 hv2 hv3)
set_option maxRecDepth 4000 in
theorem w_He_meanHurt_J61 {X : Cx} {G : GT St} (N : Nat) (hG : IsG X RX2 cX2_meanHurt 9 10 none oWV G) (v6 : Int64) (σ : St) : G (He_meanHurt_J61 N v6 σ) σ 61 [(0, .ref (X.2.1 + 69)), (4, .ref (X.2.1 + 47)), (6, .long v6)] [] := by
  unfold He_meanHurt_J61
  refine r_aload_n (pc := 61) 0 0 rfl rfl hG dX2_meanHurt_61 ?_
  refine r_lload (pc := 62) 2 rfl hG dX2_meanHurt_62 ?_
  refine r_aload (pc := 64) 1 rfl hG dX2_meanHurt_64 ?_
  refine gf10_2 (pc := 66) lk288 hG dX2_meanHurt_66 ?_
  refine r_bR hG (fun r2 e4 => ?_)
  refine r_callSl (pc := 69) (As := [.int (σ.1 47 2)]) (c_He_tenToThe X N (σ.1 47 2) σ r2 e4) mfX2_40_X2_tenToThe hySX2_tenToThe (by decide) (by decide) rfl (Nat.le_of_ble_eq_true rfl) hG dX2_meanHurt_69 rfl (fun n3 => ?_)
  refine r_bR hG (fun s6 e8 => ?_)
  refine r_callVv (pc := 72) (As := [.long v6, .long r2]) (c_He_setFraction X N v6 r2 σ s6 e8) (wsOf_at (rfl : shp 69 = 2) (by decide) rfl) rfl mfX2_44_X2_setFraction hyVX2_setFraction (by decide) (by decide) rfl (Nat.le_of_ble_eq_true rfl) hG dX2_meanHurt_72 rfl (fun n7 => ?_)
  exact r_vret (pc := 75) rfl hG dX2_meanHurt_75
set_option maxRecDepth 4000 in
theorem w_He_meanHurt_L6B {X : Cx} {G : GT St} (N : Nat) (hG : IsG X RX2 cX2_meanHurt 9 10 none oWV G) {K6 : Nat → Nat → Nat → Int32 → Int64 → Int32 → St → Option St} (hK6 : ∀ (v1 : Nat) (v2 : Nat) (v3 : Nat) (v5 : Int32) (v6 : Int64) (v8 : Int32) (s : St), shp v1 = 4 → shp v2 = 1 → shp v3 = 7 → G (K6 v1 v2 v3 v5 v6 v8 s) s 6 [(0, .ref (X.2.1 + 69)), (1, .ref (X.2.1 + v1)), (2, .ref (X.2.1 + v2)), (3, .ref (X.2.1 + v3)), (4, .ref (X.2.1 + 47)), (5, .int v5), (6, .long v6), (8, .int v8)] []) (v1 : Nat) (v2 : Nat) (v3 : Nat) (v5 : Int32) (v6 : Int64) (v8 : Int32) (σ : St) (hv1 : shp v1 = 4) (hv2 : shp v2 = 1) (hv3 : shp v3 = 7) : G (He_meanHurt_L6B N K6 v1 v2 v3 v5 v6 v8 σ) σ 6 [(0, .ref (X.2.1 + 69)), (1, .ref (X.2.1 + v1)), (2, .ref (X.2.1 + v2)), (3, .ref (X.2.1 + v3)), (4, .ref (X.2.1 + 47)), (5, .int v5), (6, .long v6), (8, .int v8)] [] := by
  unfold He_meanHurt_L6B
  refine r_iload (pc := 6) 7 rfl hG dX2_meanHurt_6 ?_
  refine r_iconst (pc := 8) (v := 1) (by decide) hG dX2_meanHurt_8 ?_
  refine r_aload (pc := 9) 4 rfl hG dX2_meanHurt_9 ?_
  refine gf10_2 (pc := 11) lk288 hG dX2_meanHurt_11 ?_
  refine r_ishl (pc := 14) hG dX2_meanHurt_14 ?_
  refine r_icmp_ge (pc := 15) (tgt := 61) (by decide) hG dX2_meanHurt_15 (fun h1 => ?_) (fun h1 => ?_)
  · exact r_sub [0, 4, 6] rfl hG (w_He_meanHurt_J61 N hG v6 σ)
  · refine r_aload_n (pc := 18) 0 0 rfl rfl hG dX2_meanHurt_18 ?_
    refine r_aload_n (pc := 19) 1 1 rfl rfl hG dX2_meanHurt_19 ?_
    refine r_aload_n (pc := 20) 2 2 rfl rfl hG dX2_meanHurt_20 ?_
    refine r_aload_n (pc := 21) 3 3 rfl rfl hG dX2_meanHurt_21 ?_
    refine r_aload (pc := 22) 4 rfl hG dX2_meanHurt_22 ?_
    refine r_iload (pc := 24) 7 rfl hG dX2_meanHurt_24 ?_
    refine r_bR hG (fun s10 e12 => ?_)
    refine r_callVv (pc := 26) (As := [.ref (X.2.1 + v1), .ref (X.2.1 + v2), .ref (X.2.1 + v3), .ref (X.2.1 + 47), .int v8]) (c_He_goAlong X N v1 v2 v3 v8 σ hv1 hv2 hv3 s10 e12) (wsOf_at (rfl : shp 69 = 2) (by decide) rfl) rfl mfX2_29_X2_goAlong hyVX2_goAlong (by decide) (by decide) rfl (Nat.le_of_ble_eq_true rfl) hG dX2_meanHurt_26 rfl (fun n11 => ?_)
    refine r_lload (pc := 29) 6 rfl hG dX2_meanHurt_29 ?_
    refine r_aload (pc := 31) 4 rfl hG dX2_meanHurt_31 ?_
    refine gf10_2 (pc := 33) lk288 hG dX2_meanHurt_33 ?_
    refine r_iload (pc := 36) 7 rfl hG dX2_meanHurt_36 ?_
    refine r_iload (pc := 38) 5 rfl hG dX2_meanHurt_38 ?_
    refine r_bR hG (fun r13 e15 => ?_)
    refine r_callSl (pc := 40) (As := [.int (s10.1 47 2), .int v8, .int v5]) (c_He_weight X N (s10.1 47 2) v8 v5 s10 r13 e15) mfX2_36_X2_weight hySX2_weight (by decide) (by decide) rfl (Nat.le_of_ble_eq_true rfl) hG dX2_meanHurt_40 rfl (fun n14 => ?_)
    refine r_aload_n (pc := 43) 0 0 rfl rfl hG dX2_meanHurt_43 ?_
    refine gf2_0 (pc := 44) lk395 hG dX2_meanHurt_44 ?_
    refine gf1_3 (pc := 47) (i := 70) (rfl : shp 70 = 1) lk188 hG dX2_meanHurt_47 ?_
    refine r_i2l (pc := 50) hG dX2_meanHurt_50 ?_
    refine r_lmul (pc := 51) hG dX2_meanHurt_51 ?_
    refine r_ladd (pc := 52) hG dX2_meanHurt_52 ?_
    refine r_bL hG (fun x16 => ?_)
    refine r_lstore (pc := 53) (lv' := [(6, .long x16), (0, .ref (X.2.1 + 69)), (1, .ref (X.2.1 + v1)), (2, .ref (X.2.1 + v2)), (3, .ref (X.2.1 + v3)), (4, .ref (X.2.1 + 47)), (5, .int v5), (8, .int v8)]) (by decide) rfl hG dX2_meanHurt_53 ?_
    refine r_bIinc (pc := 55) (lv' := fun x17 => [(8, .int x17), (6, .long x16), (0, .ref (X.2.1 + 69)), (1, .ref (X.2.1 + v1)), (2, .ref (X.2.1 + v2)), (3, .ref (X.2.1 + v3)), (4, .ref (X.2.1 + 47)), (5, .int v5)]) 7 rfl rfl (by decide) (fun _ => rfl) hG dX2_meanHurt_55 (fun x17 => ?_)
    refine r_goto (pc := 58) (tgt := 6) (by decide) hG dX2_meanHurt_58 ?_
    exact r_sub [2, 3, 4, 5, 6, 7, 1, 0] rfl hG (hK6 v1 v2 v3 v5 x16 x17 s10 hv1 hv2 hv3)
set_option maxRecDepth 4000 in
theorem w_He_meanHurt_L6 {X : Cx} {G : GT St} (N : Nat) (hG : IsG X RX2 cX2_meanHurt 9 10 none oWV G) : ∀ (n : Nat), ∀ (v1 : Nat) (v2 : Nat) (v3 : Nat) (v5 : Int32) (v6 : Int64) (v8 : Int32) (σ : St), shp v1 = 4 → shp v2 = 1 → shp v3 = 7 → G (He_meanHurt_L6 N n v1 v2 v3 v5 v6 v8 σ) σ 6 [(0, .ref (X.2.1 + 69)), (1, .ref (X.2.1 + v1)), (2, .ref (X.2.1 + v2)), (3, .ref (X.2.1 + v3)), (4, .ref (X.2.1 + 47)), (5, .int v5), (6, .long v6), (8, .int v8)] [] := by
  intro n
  induction n with
  | zero => intro v1 v2 v3 v5 v6 v8 σ hv1 hv2 hv3; exact r_none hG
  | succ n ih => intro v1 v2 v3 v5 v6 v8 σ hv1 hv2 hv3; exact w_He_meanHurt_L6B N hG ih v1 v2 v3 v5 v6 v8 σ hv1 hv2 hv3
set_option maxRecDepth 4000 in
theorem c_He_meanHurt (X : Cx) (N : Nat) (v1 : Nat) (v2 : Nat) (v3 : Nat) (v5 : Int32) (σ : St) (hv1 : shp v1 = 4) (hv2 : shp v2 = 1) (hv3 : shp v3 = 7) (σ1 : St) (hE : He_meanHurt N v1 v2 v3 v5 σ = some σ1) : Ctr X yX2_meanHurt cX2_meanHurt 9 none 10 [.ref (X.2.1 + 69), .ref (X.2.1 + v1), .ref (X.2.1 + v2), .ref (X.2.1 + v3), .ref (X.2.1 + 47), .int v5] σ none σ1 := by
  refine Ctr.of (out := oWV) (E := He_meanHurt N v1 v2 v3 v5 σ) rfl (Nat.le_of_ble_eq_true rfl) (fun G hG => ?_) σ1 hE
  unfold He_meanHurt
  refine r_lconst (pc := 0) (v := 0) (by decide) hG dX2_meanHurt_0 ?_
  refine r_lstore (pc := 1) (lv' := [(6, .long 0), (0, .ref (X.2.1 + 69)), (1, .ref (X.2.1 + v1)), (2, .ref (X.2.1 + v2)), (3, .ref (X.2.1 + v3)), (4, .ref (X.2.1 + 47)), (5, .int v5)]) (by decide) rfl hG dX2_meanHurt_1 ?_
  refine r_iconst (pc := 3) (v := 0) (by decide) hG dX2_meanHurt_3 ?_
  refine r_istore (pc := 4) (lv' := [(8, .int 0), (6, .long 0), (0, .ref (X.2.1 + 69)), (1, .ref (X.2.1 + v1)), (2, .ref (X.2.1 + v2)), (3, .ref (X.2.1 + v3)), (4, .ref (X.2.1 + 47)), (5, .int v5)]) (by decide) rfl hG dX2_meanHurt_4 ?_
  exact r_sub [2, 3, 4, 5, 6, 7, 1, 0] rfl hG (w_He_meanHurt_L6 N hG N v1 v2 v3 v5 0 0 σ hv1 hv2 hv3)
set_option maxRecDepth 4000 in
theorem c_La_toGuest (X : Cx) (N : Nat) (v1 : Int32) (v2 : Int32) (σ : St) (r : Int32) (hE : La_toGuest N v1 v2 σ = some r) : Ctr X yX3_toGuest cX3_toGuest 3 (some .int) 6 [.ref (X.2.1 + 66), .int v1, .int v2] σ (some (.int r)) σ := by
  refine Ctr.of (out := (oI σ)) (E := La_toGuest N v1 v2 σ) rfl (Nat.le_of_ble_eq_true rfl) (fun G hG => ?_) r hE
  unfold La_toGuest
  refine r_bipush (pc := 0) (v := 10) (by decide) hG dX3_toGuest_0 ?_
  refine r_aload_n (pc := 2) 0 0 rfl rfl hG dX3_toGuest_2 ?_
  refine gf3_0 (pc := 3) lk375 hG dX3_toGuest_3 ?_
  refine r_iload_n (pc := 6) 1 1 rfl rfl hG dX3_toGuest_6 ?_
  refine r_iload_n (pc := 7) 2 2 rfl rfl hG dX3_toGuest_7 ?_
  refine r_mmin (pc := 8) lk1005 (by omega) (Nat.le_of_ble_eq_true rfl) hG dX3_toGuest_8 ?_
  refine r_ck hG (fun h1 => ?_)
  refine r_iald (pc := 11) (i := 67) (rfl : shp 67 = 14) rfl h1 hG dX3_toGuest_11 ?_
  refine r_isub (pc := 12) hG dX3_toGuest_12 ?_
  refine r_iload_n (pc := 13) 1 1 rfl rfl hG dX3_toGuest_13 ?_
  refine r_isub (pc := 14) hG dX3_toGuest_14 ?_
  exact r_iret (pc := 15) rfl hG dX3_toGuest_15
set_option maxRecDepth 4000 in
theorem c_La_toRower (X : Cx) (N : Nat) (v1 : Int32) (v2 : Int32) (σ : St) (r : Int32) (hE : La_toRower N v1 v2 σ = some r) : Ctr X yX3_toRower cX3_toRower 3 (some .int) 6 [.ref (X.2.1 + 66), .int v1, .int v2] σ (some (.int r)) σ := by
  refine Ctr.of (out := (oI σ)) (E := La_toRower N v1 v2 σ) rfl (Nat.le_of_ble_eq_true rfl) (fun G hG => ?_) r hE
  unfold La_toRower
  refine r_bipush (pc := 0) (v := 10) (by decide) hG dX3_toRower_0 ?_
  refine r_aload_n (pc := 2) 0 0 rfl rfl hG dX3_toRower_2 ?_
  refine gf3_0 (pc := 3) lk375 hG dX3_toRower_3 ?_
  refine r_iload_n (pc := 6) 1 1 rfl rfl hG dX3_toRower_6 ?_
  refine r_iload_n (pc := 7) 2 2 rfl rfl hG dX3_toRower_7 ?_
  refine r_mmin (pc := 8) lk1005 (by omega) (Nat.le_of_ble_eq_true rfl) hG dX3_toRower_8 ?_
  refine r_ck hG (fun h1 => ?_)
  refine r_iald (pc := 11) (i := 67) (rfl : shp 67 = 14) rfl h1 hG dX3_toRower_11 ?_
  refine r_isub (pc := 12) hG dX3_toRower_12 ?_
  refine r_iconst (pc := 13) (v := 2) (by decide) hG dX3_toRower_13 ?_
  refine r_iload_n (pc := 14) 2 2 rfl rfl hG dX3_toRower_14 ?_
  refine r_imul (pc := 15) hG dX3_toRower_15 ?_
  refine r_isub (pc := 16) hG dX3_toRower_16 ?_
  exact r_iret (pc := 17) rfl hG dX3_toRower_17
set_option maxRecDepth 4000 in
theorem w_La_rests_L2B {σ : St} {X : Cx} {G : GT Int32} (N : Nat) (hG : IsG X RX3 cX3_rests 4 7 (some .boolean) (oI σ) G) {K2 : Int32 → Int32 → Int32 → St → Option Int32} (hK2 : ∀ (v1 : Int32) (v2 : Int32) (v3 : Int32), G (K2 v1 v2 v3 σ) σ 2 [(0, .ref (X.2.1 + 66)), (1, .int v1), (2, .int v2), (3, .int v3)] []) (v1 : Int32) (v2 : Int32) (v3 : Int32) : G (La_rests_L2B N K2 v1 v2 v3 σ) σ 2 [(0, .ref (X.2.1 + 66)), (1, .int v1), (2, .int v2), (3, .int v3)] [] := by
  unfold La_rests_L2B
  refine r_iload_n (pc := 2) 3 3 rfl rfl hG dX3_rests_2 ?_
  refine r_iconst (pc := 3) (v := 4) (by decide) hG dX3_rests_3 ?_
  refine r_icmp_ge (pc := 4) (tgt := 45) (by decide) hG dX3_rests_4 (fun h1 => ?_) (fun h1 => ?_)
  · refine r_iconst (pc := 45) (v := 1) (by decide) hG dX3_rests_45 ?_
    exact r_zret (pc := 46) rvN_b1 rfl hG dX3_rests_46
  · refine r_aload_n (pc := 7) 0 0 rfl rfl hG dX3_rests_7 ?_
    refine r_iload_n (pc := 8) 3 3 rfl rfl hG dX3_rests_8 ?_
    refine r_iload_n (pc := 9) 2 2 rfl rfl hG dX3_rests_9 ?_
    refine r_bR hG (fun r2 e4 => ?_)
    refine r_callVi (pc := 10) (As := [.int v3, .int v2]) (c_La_toGuest X N v3 v2 σ r2 e4) (wsOf_at (rfl : shp 66 = 3) (by decide) rfl) rfl mfX3_55_X3_toGuest hyVX3_toGuest (by decide) (by decide) rfl (Nat.le_of_ble_eq_true rfl) hG dX3_rests_10 rfl (fun n3 => ?_)
    refine r_aload_n (pc := 13) 0 0 rfl rfl hG dX3_rests_13 ?_
    refine r_iload_n (pc := 14) 1 1 rfl rfl hG dX3_rests_14 ?_
    refine r_iload_n (pc := 15) 2 2 rfl rfl hG dX3_rests_15 ?_
    refine r_bR hG (fun r5 e7 => ?_)
    refine r_callVi (pc := 16) (As := [.int v1, .int v2]) (c_La_toGuest X N v1 v2 σ r5 e7) (wsOf_at (rfl : shp 66 = 3) (by decide) rfl) rfl mfX3_55_X3_toGuest hyVX3_toGuest (by decide) (by decide) rfl (Nat.le_of_ble_eq_true rfl) hG dX3_rests_16 rfl (fun n6 => ?_)
    refine r_icmp_gt (pc := 19) (tgt := 37) (by decide) hG dX3_rests_19 (fun h8 => ?_) (fun h8 => ?_)
    · refine r_iconst (pc := 37) (v := 0) (by decide) hG dX3_rests_37 ?_
      exact r_zret (pc := 38) rvN_b0 rfl hG dX3_rests_38
    · refine r_aload_n (pc := 22) 0 0 rfl rfl hG dX3_rests_22 ?_
      refine r_iload_n (pc := 23) 1 1 rfl rfl hG dX3_rests_23 ?_
      refine r_iload_n (pc := 24) 3 3 rfl rfl hG dX3_rests_24 ?_
      refine r_bR hG (fun r9 e11 => ?_)
      refine r_callVi (pc := 25) (As := [.int v1, .int v3]) (c_La_toRower X N v1 v3 σ r9 e11) (wsOf_at (rfl : shp 66 = 3) (by decide) rfl) rfl mfX3_58_X3_toRower hyVX3_toRower (by decide) (by decide) rfl (Nat.le_of_ble_eq_true rfl) hG dX3_rests_25 rfl (fun n10 => ?_)
      refine r_aload_n (pc := 28) 0 0 rfl rfl hG dX3_rests_28 ?_
      refine r_iload_n (pc := 29) 1 1 rfl rfl hG dX3_rests_29 ?_
      refine r_iload_n (pc := 30) 2 2 rfl rfl hG dX3_rests_30 ?_
      refine r_bR hG (fun r12 e14 => ?_)
      refine r_callVi (pc := 31) (As := [.int v1, .int v2]) (c_La_toRower X N v1 v2 σ r12 e14) (wsOf_at (rfl : shp 66 = 3) (by decide) rfl) rfl mfX3_58_X3_toRower hyVX3_toRower (by decide) (by decide) rfl (Nat.le_of_ble_eq_true rfl) hG dX3_rests_31 rfl (fun n13 => ?_)
      refine r_icmp_le (pc := 34) (tgt := 39) (by decide) hG dX3_rests_34 (fun h15 => ?_) (fun h15 => ?_)
      · refine r_bIinc (pc := 39) (lv' := fun x16 => [(3, .int x16), (0, .ref (X.2.1 + 66)), (1, .int v1), (2, .int v2)]) 3 rfl rfl (by decide) (fun _ => rfl) hG dX3_rests_39 (fun x16 => ?_)
        refine r_goto (pc := 42) (tgt := 2) (by decide) hG dX3_rests_42 ?_
        exact r_sub [1, 2, 3, 0] rfl hG (hK2 v1 v2 x16)
      · refine r_iconst (pc := 37) (v := 0) (by decide) hG dX3_rests_37 ?_
        exact r_zret (pc := 38) rvN_b0 rfl hG dX3_rests_38
set_option maxRecDepth 4000 in
theorem w_La_rests_L2 {σ : St} {X : Cx} {G : GT Int32} (N : Nat) (hG : IsG X RX3 cX3_rests 4 7 (some .boolean) (oI σ) G) : ∀ (n : Nat), ∀ (v1 : Int32) (v2 : Int32) (v3 : Int32), G (La_rests_L2 N n v1 v2 v3 σ) σ 2 [(0, .ref (X.2.1 + 66)), (1, .int v1), (2, .int v2), (3, .int v3)] [] := by
  intro n
  induction n with
  | zero => intro v1 v2 v3; exact r_none hG
  | succ n ih => intro v1 v2 v3; exact w_La_rests_L2B N hG ih v1 v2 v3
set_option maxRecDepth 4000 in
theorem c_La_rests (X : Cx) (N : Nat) (v1 : Int32) (v2 : Int32) (σ : St) (r : Int32) (hE : La_rests N v1 v2 σ = some r) : Ctr X yX3_rests cX3_rests 4 (some .boolean) 7 [.ref (X.2.1 + 66), .int v1, .int v2] σ (some (.int r)) σ := by
  refine Ctr.of (out := (oI σ)) (E := La_rests N v1 v2 σ) rfl (Nat.le_of_ble_eq_true rfl) (fun G hG => ?_) r hE
  unfold La_rests
  refine r_iconst (pc := 0) (v := 0) (by decide) hG dX3_rests_0 ?_
  refine r_istore_n (pc := 1) (lv' := [(3, .int 0), (0, .ref (X.2.1 + 66)), (1, .int v1), (2, .int v2)]) 3 rfl (by decide) rfl hG dX3_rests_1 ?_
  exact r_sub [1, 2, 3, 0] rfl hG (w_La_rests_L2 N hG N v1 v2 0)
set_option maxRecDepth 4000 in
theorem w_La_search_J124 {X : Cx} {G : GT St} (N : Nat) (hG : IsG X RX3 cX3_search 6 8 none oWV G) {K68 : Int32 → St → Option St} (hK68 : ∀ (v3 : Int32) (s : St), G (K68 v3 s) s 68 [(0, .ref (X.2.1 + 66)), (3, .int v3)] []) (v3 : Int32) (σ : St) : G (La_search_J124 N K68 v3 σ) σ 124 [(0, .ref (X.2.1 + 66)), (3, .int v3)] [] := by
  unfold La_search_J124
  refine r_bIinc (pc := 124) (lv' := fun x5 => [(3, .int x5), (0, .ref (X.2.1 + 66))]) 1 rfl rfl (by decide) (fun _ => rfl) hG dX3_search_124 (fun x5 => ?_)
  refine r_goto (pc := 127) (tgt := 68) (by decide) hG dX3_search_127 ?_
  exact r_sub [1, 0] rfl hG (hK68 x5 σ)
set_option maxRecDepth 4000 in
theorem w_La_search_J118 {X : Cx} {G : GT St} (N : Nat) (hG : IsG X RX3 cX3_search 6 8 none oWV G) {K68 : Int32 → St → Option St} {K76 : Int32 → Int32 → St → Option St} (hK68 : ∀ (v3 : Int32) (s : St), G (K68 v3 s) s 68 [(0, .ref (X.2.1 + 66)), (3, .int v3)] []) (hK76 : ∀ (v3 : Int32) (v4 : Int32) (s : St), G (K76 v3 v4 s) s 76 [(0, .ref (X.2.1 + 66)), (3, .int v3), (4, .int v4)] []) (v3 : Int32) (v4 : Int32) (σ : St) : G (La_search_J118 N K68 K76 v3 v4 σ) σ 118 [(0, .ref (X.2.1 + 66)), (3, .int v3), (4, .int v4)] [] := by
  unfold La_search_J118
  refine r_bIinc (pc := 118) (lv' := fun x10 => [(4, .int x10), (0, .ref (X.2.1 + 66)), (3, .int v3)]) 2 rfl rfl (by decide) (fun _ => rfl) hG dX3_search_118 (fun x10 => ?_)
  refine r_goto (pc := 121) (tgt := 76) (by decide) hG dX3_search_121 ?_
  exact r_sub [1, 2, 0] rfl hG (hK76 v3 x10 σ)
set_option maxRecDepth 4000 in
theorem w_La_search_L76B {X : Cx} {G : GT St} (N : Nat) (hG : IsG X RX3 cX3_search 6 8 none oWV G) {K68 : Int32 → St → Option St} {K76 : Int32 → Int32 → St → Option St} (hK68 : ∀ (v3 : Int32) (s : St), G (K68 v3 s) s 68 [(0, .ref (X.2.1 + 66)), (3, .int v3)] []) (hK76 : ∀ (v3 : Int32) (v4 : Int32) (s : St), G (K76 v3 v4 s) s 76 [(0, .ref (X.2.1 + 66)), (3, .int v3), (4, .int v4)] []) (v3 : Int32) (v4 : Int32) (σ : St) : G (La_search_L76B N K68 K76 v3 v4 σ) σ 76 [(0, .ref (X.2.1 + 66)), (3, .int v3), (4, .int v4)] [] := by
  unfold La_search_L76B
  refine r_iload (pc := 76) 2 rfl hG dX3_search_76 ?_
  refine r_iconst (pc := 78) (v := 4) (by decide) hG dX3_search_78 ?_
  refine r_icmp_ge (pc := 79) (tgt := 124) (by decide) hG dX3_search_79 (fun h4 => ?_) (fun h4 => ?_)
  · exact r_sub [0, 1] rfl hG (w_La_search_J124 N hG hK68 v3 σ)
  · refine r_aload_n (pc := 82) 0 0 rfl rfl hG dX3_search_82 ?_
    refine r_iload_n (pc := 83) 1 3 rfl rfl hG dX3_search_83 ?_
    refine r_iload (pc := 84) 2 rfl hG dX3_search_84 ?_
    refine r_bR hG (fun r6 e8 => ?_)
    refine r_callVi (pc := 86) (As := [.int v3, .int v4]) (c_La_rests X N v3 v4 σ r6 e8) (wsOf_at (rfl : shp 66 = 3) (by decide) rfl) rfl mfX3_51_X3_rests hyVX3_rests (by decide) (by decide) rfl (Nat.le_of_ble_eq_true rfl) hG dX3_search_86 rfl (fun n7 => ?_)
    refine r_if_eq (pc := 89) (tgt := 118) (by decide) hG dX3_search_89 (fun h9 => ?_) (fun h9 => ?_)
    · exact w_La_search_J118 N hG hK68 hK76 v3 v4 σ
    · refine r_aload_n (pc := 92) 0 0 rfl rfl hG dX3_search_92 ?_
      refine gf3_1 (pc := 93) lk376 hG dX3_search_93 ?_
      refine r_aload_n (pc := 96) 0 0 rfl rfl hG dX3_search_96 ?_
      refine gf3_2 (pc := 97) lk378 hG dX3_search_97 ?_
      refine r_bipush (pc := 100) (v := 10) (by decide) hG dX3_search_100 ?_
      refine r_iload_n (pc := 102) 1 3 rfl rfl hG dX3_search_102 ?_
      refine r_imul (pc := 103) hG dX3_search_103 ?_
      refine r_iload (pc := 104) 2 rfl hG dX3_search_104 ?_
      refine r_iadd (pc := 106) hG dX3_search_106 ?_
      refine r_ck hG (fun h11 => ?_)
      refine r_iast (pc := 107) (i := 68) (rfl : shp 68 = 14) rfl h11 hG dX3_search_107 ?_
      refine r_bS hG (fun s12 => ?_)
      refine r_aload_n (pc := 108) 0 0 rfl rfl hG dX3_search_108 ?_
      refine r_dup (pc := 109) rfl hG dX3_search_109 ?_
      refine gf3_2 (pc := 110) lk378 hG dX3_search_110 ?_
      refine r_iconst (pc := 113) (v := 1) (by decide) hG dX3_search_113 ?_
      refine r_iadd (pc := 114) hG dX3_search_114 ?_
      refine pf3_2 (pc := 115) lk378 hG dX3_search_115 ?_
      refine r_bS hG (fun s13 => ?_)
      exact w_La_search_J118 N hG hK68 hK76 v3 v4 s13
set_option maxRecDepth 4000 in
theorem w_La_search_L76 {X : Cx} {G : GT St} (N : Nat) (hG : IsG X RX3 cX3_search 6 8 none oWV G) {K68 : Int32 → St → Option St} (hK68 : ∀ (v3 : Int32) (s : St), G (K68 v3 s) s 68 [(0, .ref (X.2.1 + 66)), (3, .int v3)] []) : ∀ (n : Nat), ∀ (v3 : Int32) (v4 : Int32) (σ : St), G (La_search_L76 N K68 n v3 v4 σ) σ 76 [(0, .ref (X.2.1 + 66)), (3, .int v3), (4, .int v4)] [] := by
  intro n
  induction n with
  | zero => intro v3 v4 σ; exact r_none hG
  | succ n ih => intro v3 v4 σ; exact w_La_search_L76B N hG hK68 ih v3 v4 σ
set_option maxRecDepth 4000 in
theorem w_La_search_L68B {X : Cx} {G : GT St} (N : Nat) (hG : IsG X RX3 cX3_search 6 8 none oWV G) {K68 : Int32 → St → Option St} (hK68 : ∀ (v3 : Int32) (s : St), G (K68 v3 s) s 68 [(0, .ref (X.2.1 + 66)), (3, .int v3)] []) (v3 : Int32) (σ : St) : G (La_search_L68B N K68 v3 σ) σ 68 [(0, .ref (X.2.1 + 66)), (3, .int v3)] [] := by
  unfold La_search_L68B
  refine r_iload_n (pc := 68) 1 3 rfl rfl hG dX3_search_68 ?_
  refine r_iconst (pc := 69) (v := 4) (by decide) hG dX3_search_69 ?_
  refine r_icmp_ge (pc := 70) (tgt := 130) (by decide) hG dX3_search_70 (fun h3 => ?_) (fun h3 => ?_)
  · exact r_vret (pc := 130) rfl hG dX3_search_130
  · refine r_iconst (pc := 73) (v := 0) (by decide) hG dX3_search_73 ?_
    refine r_istore (pc := 74) (lv' := [(4, .int 0), (0, .ref (X.2.1 + 66)), (3, .int v3)]) (by decide) rfl hG dX3_search_74 ?_
    exact r_sub [1, 2, 0] rfl hG (w_La_search_L76 N hG hK68 N v3 0 σ)
set_option maxRecDepth 4000 in
theorem w_La_search_L68 {X : Cx} {G : GT St} (N : Nat) (hG : IsG X RX3 cX3_search 6 8 none oWV G) : ∀ (n : Nat), ∀ (v3 : Int32) (σ : St), G (La_search_L68 N n v3 σ) σ 68 [(0, .ref (X.2.1 + 66)), (3, .int v3)] [] := by
  intro n
  induction n with
  | zero => intro v3 σ; exact r_none hG
  | succ n ih => intro v3 σ; exact w_La_search_L68B N hG ih v3 σ
set_option maxRecDepth 4000 in
theorem w_La_search_J61 {X : Cx} {G : GT St} (N : Nat) (hG : IsG X RX3 cX3_search 6 8 none oWV G) (σ : St) : G (La_search_J61 N σ) σ 61 [(0, .ref (X.2.1 + 66))] [] := by
  unfold La_search_J61
  refine r_aload_n (pc := 61) 0 0 rfl rfl hG dX3_search_61 ?_
  refine r_iconst (pc := 62) (v := 0) (by decide) hG dX3_search_62 ?_
  refine pf3_2 (pc := 63) lk378 hG dX3_search_63 ?_
  refine r_bS hG (fun s2 => ?_)
  refine r_iconst (pc := 66) (v := 0) (by decide) hG dX3_search_66 ?_
  refine r_istore_n (pc := 67) (lv' := [(3, .int 0), (0, .ref (X.2.1 + 66))]) 3 rfl (by decide) rfl hG dX3_search_67 ?_
  exact r_sub [1, 0] rfl hG (w_La_search_L68 N hG N 0 s2)
set_option maxRecDepth 4000 in
theorem w_La_search_L2B {X : Cx} {G : GT St} (N : Nat) (hG : IsG X RX3 cX3_search 6 8 none oWV G) {K2 : Nat → Nat → Int32 → St → Option St} (hK2 : ∀ (v1 : Nat) (v2 : Nat) (v3 : Int32) (s : St), shp v1 = 1 → shp v2 = 7 → G (K2 v1 v2 v3 s) s 2 [(0, .ref (X.2.1 + 66)), (1, .ref (X.2.1 + v1)), (2, .ref (X.2.1 + v2)), (3, .int v3)] []) (v1 : Nat) (v2 : Nat) (v3 : Int32) (σ : St) (hv1 : shp v1 = 1) (hv2 : shp v2 = 7) : G (La_search_L2B N K2 v1 v2 v3 σ) σ 2 [(0, .ref (X.2.1 + 66)), (1, .ref (X.2.1 + v1)), (2, .ref (X.2.1 + v2)), (3, .int v3)] [] := by
  unfold La_search_L2B
  refine r_iload_n (pc := 2) 3 3 rfl rfl hG dX3_search_2 ?_
  refine r_iconst (pc := 3) (v := 4) (by decide) hG dX3_search_3 ?_
  refine r_icmp_ge (pc := 4) (tgt := 61) (by decide) hG dX3_search_4 (fun h1 => ?_) (fun h1 => ?_)
  · exact r_sub [0] rfl hG (w_La_search_J61 N hG σ)
  · refine r_gsdu (pc := 7) lk992 hG dX3_search_7 ?_
    refine r_iload_n (pc := 10) 3 3 rfl rfl hG dX3_search_10 ?_
    refine r_ck hG (fun h14 => ?_)
    refine r_duald (pc := 11) h14 hG dX3_search_11 ?_
    refine r_bI hG (fun x15 => ?_)
    refine r_istore (pc := 12) (lv' := [(4, .int x15), (0, .ref (X.2.1 + 66)), (1, .ref (X.2.1 + v1)), (2, .ref (X.2.1 + v2)), (3, .int v3)]) (by decide) rfl hG dX3_search_12 ?_
    refine r_aload_n (pc := 14) 2 1 rfl rfl hG dX3_search_14 ?_
    refine r_aload_n (pc := 15) 3 2 rfl rfl hG dX3_search_15 ?_
    refine r_iload (pc := 16) 0 rfl hG dX3_search_16 ?_
    refine r_aload_n (pc := 18) 2 1 rfl rfl hG dX3_search_18 ?_
    refine gf1_5 (pc := 19) (i := v1) hv1 lk199 hG dX3_search_19 ?_
    refine r_bR hG (fun r16 e18 => ?_)
    refine r_callVi (pc := 22) (As := [.int x15, .int (σ.1 v1 5)]) (c_Ro_tells X N v2 x15 (σ.1 v1 5) σ hv2 r16 e18) (wsOf_at hv2 (by decide) rfl) rfl mfX3_25_X7_tells hyVX7_tells (by decide) (by decide) rfl (Nat.le_of_ble_eq_true rfl) hG dX3_search_22 rfl (fun n17 => ?_)
    refine r_bR hG (fun r19 e21 => ?_)
    refine r_callVi (pc := 25) (As := [.int r16]) (c_Gu_takenIn X N v1 r16 σ hv1 r19 e21) (wsOf_at hv1 (by decide) rfl) rfl mfX3_31_X1_takenIn hyVX1_takenIn (by decide) (by decide) rfl (Nat.le_of_ble_eq_true rfl) hG dX3_search_25 rfl (fun n20 => ?_)
    refine r_istore (pc := 28) (lv' := [(5, .int r19), (4, .int x15), (0, .ref (X.2.1 + 66)), (1, .ref (X.2.1 + v1)), (2, .ref (X.2.1 + v2)), (3, .int v3)]) (by decide) rfl hG dX3_search_28 ?_
    refine r_aload_n (pc := 30) 2 0 rfl rfl hG dX3_search_30 ?_
    refine gf3_0 (pc := 31) lk375 hG dX3_search_31 ?_
    refine r_iload_n (pc := 34) 5 3 rfl rfl hG dX3_search_34 ?_
    refine r_aload_n (pc := 35) 3 1 rfl rfl hG dX3_search_35 ?_
    refine gf1_0 (pc := 36) (i := v1) hv1 lk174 hG dX3_search_36 ?_
    refine r_aload_n (pc := 39) 3 1 rfl rfl hG dX3_search_39 ?_
    refine gf1_1 (pc := 40) (i := v1) hv1 lk176 hG dX3_search_40 ?_
    refine r_aload_n (pc := 43) 3 1 rfl rfl hG dX3_search_43 ?_
    refine gf1_2 (pc := 44) (i := v1) hv1 lk180 hG dX3_search_44 ?_
    refine r_iload (pc := 47) 0 rfl hG dX3_search_47 ?_
    refine r_iload (pc := 49) 1 rfl hG dX3_search_49 ?_
    refine r_callSi (pc := 51) (As := [.int (σ.1 v1 0), .int (σ.1 v1 1), .int (σ.1 v1 2), .int r19, .int x15]) (c_Gu_hurtOf X (σ.1 v1 0) (σ.1 v1 1) (σ.1 v1 2) r19 x15 σ) mfX3_44_X1_hurtOf hySX1_hurtOf (by decide) (by decide) rfl (Nat.le_of_ble_eq_true rfl) hG dX3_search_51 rfl (fun n23 => ?_)
    refine r_ck hG (fun h25 => ?_)
    refine r_iast (pc := 54) (i := 67) (rfl : shp 67 = 14) rfl h25 hG dX3_search_54 ?_
    refine r_bS hG (fun s26 => ?_)
    refine r_bIinc (pc := 55) (lv' := fun x27 => [(3, .int x27), (5, .int r19), (4, .int x15), (0, .ref (X.2.1 + 66)), (1, .ref (X.2.1 + v1)), (2, .ref (X.2.1 + v2))]) 5 rfl rfl (by decide) (fun _ => rfl) hG dX3_search_55 (fun x27 => ?_)
    refine r_goto (pc := 58) (tgt := 2) (by decide) hG dX3_search_58 ?_
    exact r_sub [3, 4, 5, 0] rfl hG (hK2 v1 v2 x27 s26 hv1 hv2)
set_option maxRecDepth 4000 in
theorem w_La_search_L2 {X : Cx} {G : GT St} (N : Nat) (hG : IsG X RX3 cX3_search 6 8 none oWV G) : ∀ (n : Nat), ∀ (v1 : Nat) (v2 : Nat) (v3 : Int32) (σ : St), shp v1 = 1 → shp v2 = 7 → G (La_search_L2 N n v1 v2 v3 σ) σ 2 [(0, .ref (X.2.1 + 66)), (1, .ref (X.2.1 + v1)), (2, .ref (X.2.1 + v2)), (3, .int v3)] [] := by
  intro n
  induction n with
  | zero => intro v1 v2 v3 σ hv1 hv2; exact r_none hG
  | succ n ih => intro v1 v2 v3 σ hv1 hv2; exact w_La_search_L2B N hG ih v1 v2 v3 σ hv1 hv2
set_option maxRecDepth 4000 in
theorem c_La_search (X : Cx) (N : Nat) (v1 : Nat) (v2 : Nat) (σ : St) (hv1 : shp v1 = 1) (hv2 : shp v2 = 7) (σ1 : St) (hE : La_search N v1 v2 σ = some σ1) : Ctr X yX3_search cX3_search 6 none 8 [.ref (X.2.1 + 66), .ref (X.2.1 + v1), .ref (X.2.1 + v2)] σ none σ1 := by
  refine Ctr.of (out := oWV) (E := La_search N v1 v2 σ) rfl (Nat.le_of_ble_eq_true rfl) (fun G hG => ?_) σ1 hE
  unfold La_search
  refine r_iconst (pc := 0) (v := 0) (by decide) hG dX3_search_0 ?_
  refine r_istore_n (pc := 1) (lv' := [(3, .int 0), (0, .ref (X.2.1 + 66)), (1, .ref (X.2.1 + v1)), (2, .ref (X.2.1 + v2))]) 3 rfl (by decide) rfl hG dX3_search_1 ?_
  exact r_sub [1, 2, 3, 0] rfl hG (w_La_search_L2 N hG N v1 v2 0 σ hv1 hv2)
set_option maxRecDepth 4000 in
theorem w_Ni_begin_J45 {X : Cx} {G : GT St} (N : Nat) (hG : IsG X RX4 cX4_begin 3 1 none oWV G) (v0 : Nat) (σ : St) (hv0 : shp v0 = 4) : G (Ni_begin_J45 N v0 σ) σ 45 [(0, .ref (X.2.1 + v0))] [] := by
  unfold Ni_begin_J45
  refine r_aload_n (pc := 45) 0 0 rfl rfl hG dX4_begin_45 ?_
  refine r_iconst (pc := 46) (v := 0) (by decide) hG dX4_begin_46 ?_
  refine pf4_4 (pc := 47) (i := v0) hv0 lk233 hG dX4_begin_47 ?_
  refine r_bS hG (fun s3 => ?_)
  refine r_aload_n (pc := 50) 0 0 rfl rfl hG dX4_begin_50 ?_
  refine r_iconst (pc := 51) (v := 0) (by decide) hG dX4_begin_51 ?_
  refine pf4_5 (pc := 52) (i := v0) hv0 lk238 hG dX4_begin_52 ?_
  refine r_bS hG (fun s4 => ?_)
  refine r_aload_n (pc := 55) 0 0 rfl rfl hG dX4_begin_55 ?_
  refine gf4_6 (pc := 56) (i := v0) hv0 lk240 hG dX4_begin_56 ?_
  refine r_iconst (pc := 59) (v := 0) (by decide) hG dX4_begin_59 ?_
  refine pf9_3 (pc := 60) (i := (v0 + 5)) (sh4_5 hv0) lk122 hG dX4_begin_60 ?_
  refine r_bS hG (fun s5 => ?_)
  refine r_aload_n (pc := 63) 0 0 rfl rfl hG dX4_begin_63 ?_
  refine gf4_7 (pc := 64) (i := v0) hv0 lk243 hG dX4_begin_64 ?_
  refine r_iconst (pc := 67) (v := 0) (by decide) hG dX4_begin_67 ?_
  refine pf9_3 (pc := 68) (i := (v0 + 7)) (sh4_7 hv0) lk122 hG dX4_begin_68 ?_
  refine r_bS hG (fun s6 => ?_)
  refine r_aload_n (pc := 71) 0 0 rfl rfl hG dX4_begin_71 ?_
  refine gf4_8 (pc := 72) (i := v0) hv0 lk246 hG dX4_begin_72 ?_
  refine r_iconst (pc := 75) (v := 0) (by decide) hG dX4_begin_75 ?_
  refine pf9_3 (pc := 76) (i := (v0 + 9)) (sh4_9 hv0) lk122 hG dX4_begin_76 ?_
  refine r_bS hG (fun s7 => ?_)
  refine r_aload_n (pc := 79) 0 0 rfl rfl hG dX4_begin_79 ?_
  refine gf4_9 (pc := 80) (i := v0) hv0 lk249 hG dX4_begin_80 ?_
  refine r_iconst (pc := 83) (v := 0) (by decide) hG dX4_begin_83 ?_
  refine pf5_1 (pc := 84) (i := (v0 + 11)) (sh4_11 hv0) lk143 hG dX4_begin_84 ?_
  refine r_bS hG (fun s8 => ?_)
  exact r_vret (pc := 87) rfl hG dX4_begin_87
set_option maxRecDepth 4000 in
theorem w_Ni_begin_L23B {X : Cx} {G : GT St} (N : Nat) (hG : IsG X RX4 cX4_begin 3 1 none oWV G) {K23 : Nat → Int32 → St → Option St} (hK23 : ∀ (v0 : Nat) (v2 : Int32) (s : St), shp v0 = 4 → G (K23 v0 v2 s) s 23 [(0, .ref (X.2.1 + v0)), (2, .int v2)] []) (v0 : Nat) (v2 : Int32) (σ : St) (hv0 : shp v0 = 4) : G (Ni_begin_L23B N K23 v0 v2 σ) σ 23 [(0, .ref (X.2.1 + v0)), (2, .int v2)] [] := by
  unfold Ni_begin_L23B
  refine r_iload_n (pc := 23) 1 2 rfl rfl hG dX4_begin_23 ?_
  refine r_aload_n (pc := 24) 0 0 rfl rfl hG dX4_begin_24 ?_
  refine gf4_1 (pc := 25) (i := v0) hv0 lk220 hG dX4_begin_25 ?_
  refine r_alen (pc := 28) (i := (v0 + 2)) (sh4_2 hv0) (by decide) (v := 64) (by rw [(ln4_2 hv0)]; decide) hG dX4_begin_28 ?_
  refine r_icmp_ge (pc := 29) (tgt := 45) (by decide) hG dX4_begin_29 (fun h2 => ?_) (fun h2 => ?_)
  · exact r_sub [0] rfl hG (w_Ni_begin_J45 N hG v0 σ hv0)
  · refine r_aload_n (pc := 32) 0 0 rfl rfl hG dX4_begin_32 ?_
    refine gf4_1 (pc := 33) (i := v0) hv0 lk220 hG dX4_begin_33 ?_
    refine r_iload_n (pc := 36) 1 2 rfl rfl hG dX4_begin_36 ?_
    refine r_iconst (pc := 37) (v := 0) (by decide) hG dX4_begin_37 ?_
    refine r_ck hG (fun h9 => ?_)
    refine r_iast (pc := 38) (i := (v0 + 2)) (sh4_2 hv0) (ln4_2 hv0) h9 hG dX4_begin_38 ?_
    refine r_bS hG (fun s10 => ?_)
    refine r_bIinc (pc := 39) (lv' := fun x11 => [(2, .int x11), (0, .ref (X.2.1 + v0))]) 1 rfl rfl (by decide) (fun _ => rfl) hG dX4_begin_39 (fun x11 => ?_)
    refine r_goto (pc := 42) (tgt := 23) (by decide) hG dX4_begin_42 ?_
    exact r_sub [1, 0] rfl hG (hK23 v0 x11 s10 hv0)
set_option maxRecDepth 4000 in
theorem w_Ni_begin_L23 {X : Cx} {G : GT St} (N : Nat) (hG : IsG X RX4 cX4_begin 3 1 none oWV G) : ∀ (n : Nat), ∀ (v0 : Nat) (v2 : Int32) (σ : St), shp v0 = 4 → G (Ni_begin_L23 N n v0 v2 σ) σ 23 [(0, .ref (X.2.1 + v0)), (2, .int v2)] [] := by
  intro n
  induction n with
  | zero => intro v0 v2 σ hv0; exact r_none hG
  | succ n ih => intro v0 v2 σ hv0; exact w_Ni_begin_L23B N hG ih v0 v2 σ hv0
set_option maxRecDepth 4000 in
theorem w_Ni_begin_J21 {X : Cx} {G : GT St} (N : Nat) (hG : IsG X RX4 cX4_begin 3 1 none oWV G) (v0 : Nat) (σ : St) (hv0 : shp v0 = 4) : G (Ni_begin_J21 N v0 σ) σ 21 [(0, .ref (X.2.1 + v0))] [] := by
  unfold Ni_begin_J21
  refine r_iconst (pc := 21) (v := 0) (by decide) hG dX4_begin_21 ?_
  refine r_istore_n (pc := 22) (lv' := [(2, .int 0), (0, .ref (X.2.1 + v0))]) 2 rfl (by decide) rfl hG dX4_begin_22 ?_
  exact r_sub [1, 0] rfl hG (w_Ni_begin_L23 N hG N v0 0 σ hv0)
set_option maxRecDepth 4000 in
theorem w_Ni_begin_L2B {X : Cx} {G : GT St} (N : Nat) (hG : IsG X RX4 cX4_begin 3 1 none oWV G) {K2 : Nat → Int32 → Int32 → St → Option St} (hK2 : ∀ (v0 : Nat) (v1 : Int32) (v2 : Int32) (s : St), shp v0 = 4 → G (K2 v0 v1 v2 s) s 2 [(0, .ref (X.2.1 + v0)), (1, .int v1), (2, .int v2)] []) (v0 : Nat) (v1 : Int32) (v2 : Int32) (σ : St) (hv0 : shp v0 = 4) : G (Ni_begin_L2B N K2 v0 v1 v2 σ) σ 2 [(0, .ref (X.2.1 + v0)), (1, .int v1), (2, .int v2)] [] := by
  unfold Ni_begin_L2B
  refine r_iload_n (pc := 2) 2 2 rfl rfl hG dX4_begin_2 ?_
  refine r_bipush (pc := 3) (v := 8) (by decide) hG dX4_begin_3 ?_
  refine r_icmp_ge (pc := 5) (tgt := 21) (by decide) hG dX4_begin_5 (fun h1 => ?_) (fun h1 => ?_)
  · exact r_sub [0] rfl hG (w_Ni_begin_J21 N hG v0 σ hv0)
  · refine r_aload_n (pc := 8) 0 0 rfl rfl hG dX4_begin_8 ?_
    refine gf4_0 (pc := 9) (i := v0) hv0 lk217 hG dX4_begin_9 ?_
    refine r_iload_n (pc := 12) 2 2 rfl rfl hG dX4_begin_12 ?_
    refine r_iload_n (pc := 13) 1 1 rfl rfl hG dX4_begin_13 ?_
    refine r_ck hG (fun h12 => ?_)
    refine r_iast (pc := 14) (i := (v0 + 1)) (sh4_1 hv0) (ln4_1 hv0) h12 hG dX4_begin_14 ?_
    refine r_bS hG (fun s13 => ?_)
    refine r_bIinc (pc := 15) (lv' := fun x14 => [(2, .int x14), (0, .ref (X.2.1 + v0)), (1, .int v1)]) 2 rfl rfl (by decide) (fun _ => rfl) hG dX4_begin_15 (fun x14 => ?_)
    refine r_goto (pc := 18) (tgt := 2) (by decide) hG dX4_begin_18 ?_
    exact r_sub [1, 2, 0] rfl hG (hK2 v0 v1 x14 s13 hv0)
set_option maxRecDepth 4000 in
theorem w_Ni_begin_L2 {X : Cx} {G : GT St} (N : Nat) (hG : IsG X RX4 cX4_begin 3 1 none oWV G) : ∀ (n : Nat), ∀ (v0 : Nat) (v1 : Int32) (v2 : Int32) (σ : St), shp v0 = 4 → G (Ni_begin_L2 N n v0 v1 v2 σ) σ 2 [(0, .ref (X.2.1 + v0)), (1, .int v1), (2, .int v2)] [] := by
  intro n
  induction n with
  | zero => intro v0 v1 v2 σ hv0; exact r_none hG
  | succ n ih => intro v0 v1 v2 σ hv0; exact w_Ni_begin_L2B N hG ih v0 v1 v2 σ hv0
set_option maxRecDepth 4000 in
theorem c_Ni_begin (X : Cx) (N : Nat) (v0 : Nat) (v1 : Int32) (σ : St) (hv0 : shp v0 = 4) (σ1 : St) (hE : Ni_begin N v0 v1 σ = some σ1) : Ctr X yX4_begin cX4_begin 3 none 1 [.ref (X.2.1 + v0), .int v1] σ none σ1 := by
  refine Ctr.of (out := oWV) (E := Ni_begin N v0 v1 σ) rfl (Nat.le_of_ble_eq_true rfl) (fun G hG => ?_) σ1 hE
  unfold Ni_begin
  refine r_iconst (pc := 0) (v := 0) (by decide) hG dX4_begin_0 ?_
  refine r_istore_n (pc := 1) (lv' := [(2, .int 0), (0, .ref (X.2.1 + v0)), (1, .int v1)]) 2 rfl (by decide) rfl hG dX4_begin_1 ?_
  exact r_sub [1, 2, 0] rfl hG (w_Ni_begin_L2 N hG N v0 v1 0 σ hv0)
set_option maxRecDepth 4000 in
theorem c_Ro_take (X : Cx) (N : Nat) (v0 : Nat) (v1 : Nat) (σ : St) (hv0 : shp v0 = 7) (hv1 : shp v1 = 7) (σ1 : St) (hE : Ro_take N v0 v1 σ = some σ1) : Ctr X yX7_take cX7_take 2 none 1 [.ref (X.2.1 + v0), .ref (X.2.1 + v1)] σ none σ1 := by
  refine Ctr.of (out := oWV) (E := Ro_take N v0 v1 σ) rfl (Nat.le_of_ble_eq_true rfl) (fun G hG => ?_) σ1 hE
  unfold Ro_take
  refine r_aload_n (pc := 0) 0 0 rfl rfl hG dX7_take_0 ?_
  refine r_aload_n (pc := 1) 1 1 rfl rfl hG dX7_take_1 ?_
  refine gf7_0 (pc := 2) (i := v1) hv1 lk155 hG dX7_take_2 ?_
  refine pf7_0 (pc := 5) (i := v0) hv0 lk155 hG dX7_take_5 ?_
  refine r_bS hG (fun s1 => ?_)
  refine r_aload_n (pc := 8) 0 0 rfl rfl hG dX7_take_8 ?_
  refine r_aload_n (pc := 9) 1 1 rfl rfl hG dX7_take_9 ?_
  refine gf7_1 (pc := 10) (i := v1) hv1 lk159 hG dX7_take_10 ?_
  refine pf7_1 (pc := 13) (i := v0) hv0 lk159 hG dX7_take_13 ?_
  refine r_bS hG (fun s2 => ?_)
  exact r_vret (pc := 16) rfl hG dX7_take_16
set_option maxRecDepth 4000 in
theorem c_Ta_take (X : Cx) (N : Nat) (v0 : Nat) (v1 : Nat) (σ : St) (hv0 : shp v0 = 9) (hv1 : shp v1 = 9) (σ1 : St) (hE : Ta_take N v0 v1 σ = some σ1) : Ctr X yX9_take cX9_take 2 none 2 [.ref (X.2.1 + v0), .ref (X.2.1 + v1)] σ none σ1 := by
  refine Ctr.of (out := oWV) (E := Ta_take N v0 v1 σ) rfl (Nat.le_of_ble_eq_true rfl) (fun G hG => ?_) σ1 hE
  unfold Ta_take
  refine r_aload_n (pc := 0) 1 1 rfl rfl hG dX9_take_0 ?_
  refine gf9_2 (pc := 1) (i := v1) hv1 lk120 hG dX9_take_1 ?_
  refine r_iconst (pc := 4) (v := 0) (by decide) hG dX9_take_4 ?_
  refine r_aload_n (pc := 5) 0 0 rfl rfl hG dX9_take_5 ?_
  refine gf9_2 (pc := 6) (i := v0) hv0 lk120 hG dX9_take_6 ?_
  refine r_iconst (pc := 9) (v := 0) (by decide) hG dX9_take_9 ?_
  refine r_aload_n (pc := 10) 0 0 rfl rfl hG dX9_take_10 ?_
  refine gf9_2 (pc := 11) (i := v0) hv0 lk120 hG dX9_take_11 ?_
  refine r_alen (pc := 14) (i := (v0 + 1)) (sh9_1 hv0) (by decide) rfl hG dX9_take_14 ?_
  refine r_ck hG (fun h1 => ?_)
  refine r_acopy (pc := 15) (i0 := (v1 + 1)) (i := (v0 + 1)) (sh9_1 hv1) (sh9_1 hv0) rfl rfl h1 lk723 (by omega) (Nat.le_of_ble_eq_true rfl) hG dX9_take_15 ?_
  refine r_bS hG (fun s2 => ?_)
  refine r_aload_n (pc := 18) 0 0 rfl rfl hG dX9_take_18 ?_
  refine r_aload_n (pc := 19) 1 1 rfl rfl hG dX9_take_19 ?_
  refine gf9_3 (pc := 20) (i := v1) hv1 lk121 hG dX9_take_20 ?_
  refine pf9_3 (pc := 23) (i := v0) hv0 lk121 hG dX9_take_23 ?_
  refine r_bS hG (fun s3 => ?_)
  exact r_vret (pc := 26) rfl hG dX9_take_26
set_option maxRecDepth 4000 in
theorem c_Pa_take (X : Cx) (N : Nat) (v0 : Nat) (v1 : Nat) (σ : St) (hv0 : shp v0 = 5) (hv1 : shp v1 = 5) (σ1 : St) (hE : Pa_take N v0 v1 σ = some σ1) : Ctr X yX5_take cX5_take 2 none 2 [.ref (X.2.1 + v0), .ref (X.2.1 + v1)] σ none σ1 := by
  refine Ctr.of (out := oWV) (E := Pa_take N v0 v1 σ) rfl (Nat.le_of_ble_eq_true rfl) (fun G hG => ?_) σ1 hE
  unfold Pa_take
  refine r_aload_n (pc := 0) 1 1 rfl rfl hG dX5_take_0 ?_
  refine gf5_0 (pc := 1) (i := v1) hv1 lk141 hG dX5_take_1 ?_
  refine r_iconst (pc := 4) (v := 0) (by decide) hG dX5_take_4 ?_
  refine r_aload_n (pc := 5) 0 0 rfl rfl hG dX5_take_5 ?_
  refine gf5_0 (pc := 6) (i := v0) hv0 lk141 hG dX5_take_6 ?_
  refine r_iconst (pc := 9) (v := 0) (by decide) hG dX5_take_9 ?_
  refine r_aload_n (pc := 10) 0 0 rfl rfl hG dX5_take_10 ?_
  refine gf5_0 (pc := 11) (i := v0) hv0 lk141 hG dX5_take_11 ?_
  refine r_alen (pc := 14) (i := (v0 + 1)) (sh5_1 hv0) (by decide) (v := 128) (by rw [(ln5_1 hv0)]; decide) hG dX5_take_14 ?_
  refine r_ck hG (fun h1 => ?_)
  refine r_acopy (pc := 15) (i0 := (v1 + 1)) (i := (v0 + 1)) (sh5_1 hv1) (sh5_1 hv0) (ln5_1 hv1) (ln5_1 hv0) h1 lk728 (by omega) (Nat.le_of_ble_eq_true rfl) hG dX5_take_15 ?_
  refine r_bS hG (fun s2 => ?_)
  refine r_aload_n (pc := 18) 0 0 rfl rfl hG dX5_take_18 ?_
  refine r_aload_n (pc := 19) 1 1 rfl rfl hG dX5_take_19 ?_
  refine gf5_1 (pc := 20) (i := v1) hv1 lk142 hG dX5_take_20 ?_
  refine pf5_1 (pc := 23) (i := v0) hv0 lk142 hG dX5_take_23 ?_
  refine r_bS hG (fun s3 => ?_)
  exact r_vret (pc := 26) rfl hG dX5_take_26
set_option maxRecDepth 4000 in
theorem w_Ni_take_J89 {X : Cx} {G : GT St} (N : Nat) (hG : IsG X RX4 cX4_take 3 3 none oWV G) (v0 : Nat) (v1 : Nat) (σ : St) (hv0 : shp v0 = 4) (hv1 : shp v1 = 4) : G (Ni_take_J89 N v0 v1 σ) σ 89 [(0, .ref (X.2.1 + v0)), (1, .ref (X.2.1 + v1))] [] := by
  unfold Ni_take_J89
  refine r_aload_n (pc := 89) 0 0 rfl rfl hG dX4_take_89 ?_
  refine r_aload_n (pc := 90) 1 1 rfl rfl hG dX4_take_90 ?_
  refine gf4_4 (pc := 91) (i := v1) hv1 lk233 hG dX4_take_91 ?_
  refine pf4_4 (pc := 94) (i := v0) hv0 lk233 hG dX4_take_94 ?_
  refine r_bS hG (fun s7 => ?_)
  refine r_aload_n (pc := 97) 0 0 rfl rfl hG dX4_take_97 ?_
  refine r_aload_n (pc := 98) 1 1 rfl rfl hG dX4_take_98 ?_
  refine gf4_5 (pc := 99) (i := v1) hv1 lk238 hG dX4_take_99 ?_
  refine pf4_5 (pc := 102) (i := v0) hv0 lk238 hG dX4_take_102 ?_
  refine r_bS hG (fun s8 => ?_)
  refine r_aload_n (pc := 105) 0 0 rfl rfl hG dX4_take_105 ?_
  refine gf4_6 (pc := 106) (i := v0) hv0 lk240 hG dX4_take_106 ?_
  refine r_aload_n (pc := 109) 1 1 rfl rfl hG dX4_take_109 ?_
  refine gf4_6 (pc := 110) (i := v1) hv1 lk240 hG dX4_take_110 ?_
  refine r_bR hG (fun s10 e12 => ?_)
  refine r_callVv (pc := 113) (As := [.ref (X.2.1 + (v1 + 5))]) (c_Ta_take X N (v0 + 5) (v1 + 5) s8 (sh4_5 hv0) (sh4_5 hv1) s10 e12) (wsOf_at (sh4_5 hv0) (by decide) rfl) rfl mfX4_78_X9_take hyVX9_take (by decide) (by decide) rfl (Nat.le_of_ble_eq_true rfl) hG dX4_take_113 rfl (fun n11 => ?_)
  refine r_aload_n (pc := 116) 0 0 rfl rfl hG dX4_take_116 ?_
  refine gf4_7 (pc := 117) (i := v0) hv0 lk243 hG dX4_take_117 ?_
  refine r_aload_n (pc := 120) 1 1 rfl rfl hG dX4_take_120 ?_
  refine gf4_7 (pc := 121) (i := v1) hv1 lk243 hG dX4_take_121 ?_
  refine r_bR hG (fun s14 e16 => ?_)
  refine r_callVv (pc := 124) (As := [.ref (X.2.1 + (v1 + 7))]) (c_Ta_take X N (v0 + 7) (v1 + 7) s10 (sh4_7 hv0) (sh4_7 hv1) s14 e16) (wsOf_at (sh4_7 hv0) (by decide) rfl) rfl mfX4_78_X9_take hyVX9_take (by decide) (by decide) rfl (Nat.le_of_ble_eq_true rfl) hG dX4_take_124 rfl (fun n15 => ?_)
  refine r_aload_n (pc := 127) 0 0 rfl rfl hG dX4_take_127 ?_
  refine gf4_8 (pc := 128) (i := v0) hv0 lk246 hG dX4_take_128 ?_
  refine r_aload_n (pc := 131) 1 1 rfl rfl hG dX4_take_131 ?_
  refine gf4_8 (pc := 132) (i := v1) hv1 lk246 hG dX4_take_132 ?_
  refine r_bR hG (fun s18 e20 => ?_)
  refine r_callVv (pc := 135) (As := [.ref (X.2.1 + (v1 + 9))]) (c_Ta_take X N (v0 + 9) (v1 + 9) s14 (sh4_9 hv0) (sh4_9 hv1) s18 e20) (wsOf_at (sh4_9 hv0) (by decide) rfl) rfl mfX4_78_X9_take hyVX9_take (by decide) (by decide) rfl (Nat.le_of_ble_eq_true rfl) hG dX4_take_135 rfl (fun n19 => ?_)
  refine r_aload_n (pc := 138) 0 0 rfl rfl hG dX4_take_138 ?_
  refine gf4_9 (pc := 139) (i := v0) hv0 lk249 hG dX4_take_139 ?_
  refine r_aload_n (pc := 142) 1 1 rfl rfl hG dX4_take_142 ?_
  refine gf4_9 (pc := 143) (i := v1) hv1 lk249 hG dX4_take_143 ?_
  refine r_bR hG (fun s22 e24 => ?_)
  refine r_callVv (pc := 146) (As := [.ref (X.2.1 + (v1 + 11))]) (c_Pa_take X N (v0 + 11) (v1 + 11) s18 (sh4_11 hv0) (sh4_11 hv1) s22 e24) (wsOf_at (sh4_11 hv0) (by decide) rfl) rfl mfX4_81_X5_take hyVX5_take (by decide) (by decide) rfl (Nat.le_of_ble_eq_true rfl) hG dX4_take_146 rfl (fun n23 => ?_)
  exact r_vret (pc := 149) rfl hG dX4_take_149
set_option maxRecDepth 4000 in
theorem w_Ni_take_L63B {X : Cx} {G : GT St} (N : Nat) (hG : IsG X RX4 cX4_take 3 3 none oWV G) {K63 : Nat → Nat → Int32 → St → Option St} (hK63 : ∀ (v0 : Nat) (v1 : Nat) (v2 : Int32) (s : St), shp v0 = 4 → shp v1 = 4 → G (K63 v0 v1 v2 s) s 63 [(0, .ref (X.2.1 + v0)), (1, .ref (X.2.1 + v1)), (2, .int v2)] []) (v0 : Nat) (v1 : Nat) (v2 : Int32) (σ : St) (hv0 : shp v0 = 4) (hv1 : shp v1 = 4) : G (Ni_take_L63B N K63 v0 v1 v2 σ) σ 63 [(0, .ref (X.2.1 + v0)), (1, .ref (X.2.1 + v1)), (2, .int v2)] [] := by
  unfold Ni_take_L63B
  refine r_iload_n (pc := 63) 2 2 rfl rfl hG dX4_take_63 ?_
  refine r_iconst (pc := 64) (v := 4) (by decide) hG dX4_take_64 ?_
  refine r_icmp_ge (pc := 65) (tgt := 89) (by decide) hG dX4_take_65 (fun h6 => ?_) (fun h6 => ?_)
  · exact r_sub [0, 1] rfl hG (w_Ni_take_J89 N hG v0 v1 σ hv0 hv1)
  · refine r_aload_n (pc := 68) 0 0 rfl rfl hG dX4_take_68 ?_
    refine gf4_3 (pc := 69) (i := v0) hv0 lk226 hG dX4_take_69 ?_
    refine r_iload_n (pc := 72) 2 2 rfl rfl hG dX4_take_72 ?_
    refine r_ck hG (fun h25 => ?_)
    refine r_aGuests (pc := 73) (i := v0) (sh4_4 hv0) (ln4_4 hv0) h25 hG dX4_take_73 ?_
    refine r_aload_n (pc := 74) 1 1 rfl rfl hG dX4_take_74 ?_
    refine gf4_3 (pc := 75) (i := v1) hv1 lk226 hG dX4_take_75 ?_
    refine r_iload_n (pc := 78) 2 2 rfl rfl hG dX4_take_78 ?_
    refine r_ck hG (fun h26 => ?_)
    refine r_aGuests (pc := 79) (i := v1) (sh4_4 hv1) (ln4_4 hv1) h26 hG dX4_take_79 ?_
    refine r_bR hG (fun s28 e30 => ?_)
    refine r_callVv (pc := 80) (As := [.ref (X.2.1 + (v1 + 16 + (v2).toNatClampNeg))]) (c_Gu_take X N (v0 + 16 + (v2).toNatClampNeg) (v1 + 16 + (v2).toNatClampNeg) σ (shGu hv0 h25) (shGu hv1 h26) s28 e30) (wsOf_at (shGu hv0 h25) (by decide) rfl) rfl mfX4_75_X1_take hyVX1_take (by decide) (by decide) rfl (Nat.le_of_ble_eq_true rfl) hG dX4_take_80 rfl (fun n29 => ?_)
    refine r_bIinc (pc := 83) (lv' := fun x31 => [(2, .int x31), (0, .ref (X.2.1 + v0)), (1, .ref (X.2.1 + v1))]) 2 rfl rfl (by decide) (fun _ => rfl) hG dX4_take_83 (fun x31 => ?_)
    refine r_goto (pc := 86) (tgt := 63) (by decide) hG dX4_take_86 ?_
    exact r_sub [1, 2, 0] rfl hG (hK63 v0 v1 x31 s28 hv0 hv1)
set_option maxRecDepth 4000 in
theorem w_Ni_take_L63 {X : Cx} {G : GT St} (N : Nat) (hG : IsG X RX4 cX4_take 3 3 none oWV G) : ∀ (n : Nat), ∀ (v0 : Nat) (v1 : Nat) (v2 : Int32) (σ : St), shp v0 = 4 → shp v1 = 4 → G (Ni_take_L63 N n v0 v1 v2 σ) σ 63 [(0, .ref (X.2.1 + v0)), (1, .ref (X.2.1 + v1)), (2, .int v2)] [] := by
  intro n
  induction n with
  | zero => intro v0 v1 v2 σ hv0 hv1; exact r_none hG
  | succ n ih => intro v0 v1 v2 σ hv0 hv1; exact w_Ni_take_L63B N hG ih v0 v1 v2 σ hv0 hv1
set_option maxRecDepth 4000 in
theorem w_Ni_take_J61 {X : Cx} {G : GT St} (N : Nat) (hG : IsG X RX4 cX4_take 3 3 none oWV G) (v0 : Nat) (v1 : Nat) (σ : St) (hv0 : shp v0 = 4) (hv1 : shp v1 = 4) : G (Ni_take_J61 N v0 v1 σ) σ 61 [(0, .ref (X.2.1 + v0)), (1, .ref (X.2.1 + v1))] [] := by
  unfold Ni_take_J61
  refine r_iconst (pc := 61) (v := 0) (by decide) hG dX4_take_61 ?_
  refine r_istore_n (pc := 62) (lv' := [(2, .int 0), (0, .ref (X.2.1 + v0)), (1, .ref (X.2.1 + v1))]) 2 rfl (by decide) rfl hG dX4_take_62 ?_
  exact r_sub [1, 2, 0] rfl hG (w_Ni_take_L63 N hG N v0 v1 0 σ hv0 hv1)
set_option maxRecDepth 4000 in
theorem w_Ni_take_L35B {X : Cx} {G : GT St} (N : Nat) (hG : IsG X RX4 cX4_take 3 3 none oWV G) {K35 : Nat → Nat → Int32 → St → Option St} (hK35 : ∀ (v0 : Nat) (v1 : Nat) (v2 : Int32) (s : St), shp v0 = 4 → shp v1 = 4 → G (K35 v0 v1 v2 s) s 35 [(0, .ref (X.2.1 + v0)), (1, .ref (X.2.1 + v1)), (2, .int v2)] []) (v0 : Nat) (v1 : Nat) (v2 : Int32) (σ : St) (hv0 : shp v0 = 4) (hv1 : shp v1 = 4) : G (Ni_take_L35B N K35 v0 v1 v2 σ) σ 35 [(0, .ref (X.2.1 + v0)), (1, .ref (X.2.1 + v1)), (2, .int v2)] [] := by
  unfold Ni_take_L35B
  refine r_iload_n (pc := 35) 2 2 rfl rfl hG dX4_take_35 ?_
  refine r_iconst (pc := 36) (v := 3) (by decide) hG dX4_take_36 ?_
  refine r_icmp_ge (pc := 37) (tgt := 61) (by decide) hG dX4_take_37 (fun h5 => ?_) (fun h5 => ?_)
  · exact r_sub [0, 1] rfl hG (w_Ni_take_J61 N hG v0 v1 σ hv0 hv1)
  · refine r_aload_n (pc := 40) 0 0 rfl rfl hG dX4_take_40 ?_
    refine gf4_2 (pc := 41) (i := v0) hv0 lk221 hG dX4_take_41 ?_
    refine r_iload_n (pc := 44) 2 2 rfl rfl hG dX4_take_44 ?_
    refine r_ck hG (fun h32 => ?_)
    refine r_aRowers (pc := 45) (i := v0) (sh4_3 hv0) (ln4_3 hv0) h32 hG dX4_take_45 ?_
    refine r_aload_n (pc := 46) 1 1 rfl rfl hG dX4_take_46 ?_
    refine gf4_2 (pc := 47) (i := v1) hv1 lk221 hG dX4_take_47 ?_
    refine r_iload_n (pc := 50) 2 2 rfl rfl hG dX4_take_50 ?_
    refine r_ck hG (fun h33 => ?_)
    refine r_aRowers (pc := 51) (i := v1) (sh4_3 hv1) (ln4_3 hv1) h33 hG dX4_take_51 ?_
    refine r_bR hG (fun s35 e37 => ?_)
    refine r_callVv (pc := 52) (As := [.ref (X.2.1 + (v1 + 13 + (v2).toNatClampNeg))]) (c_Ro_take X N (v0 + 13 + (v2).toNatClampNeg) (v1 + 13 + (v2).toNatClampNeg) σ (shRo hv0 h32) (shRo hv1 h33) s35 e37) (wsOf_at (shRo hv0 h32) (by decide) rfl) rfl mfX4_71_X7_take hyVX7_take (by decide) (by decide) rfl (Nat.le_of_ble_eq_true rfl) hG dX4_take_52 rfl (fun n36 => ?_)
    refine r_bIinc (pc := 55) (lv' := fun x38 => [(2, .int x38), (0, .ref (X.2.1 + v0)), (1, .ref (X.2.1 + v1))]) 2 rfl rfl (by decide) (fun _ => rfl) hG dX4_take_55 (fun x38 => ?_)
    refine r_goto (pc := 58) (tgt := 35) (by decide) hG dX4_take_58 ?_
    exact r_sub [1, 2, 0] rfl hG (hK35 v0 v1 x38 s35 hv0 hv1)
set_option maxRecDepth 4000 in
theorem w_Ni_take_L35 {X : Cx} {G : GT St} (N : Nat) (hG : IsG X RX4 cX4_take 3 3 none oWV G) : ∀ (n : Nat), ∀ (v0 : Nat) (v1 : Nat) (v2 : Int32) (σ : St), shp v0 = 4 → shp v1 = 4 → G (Ni_take_L35 N n v0 v1 v2 σ) σ 35 [(0, .ref (X.2.1 + v0)), (1, .ref (X.2.1 + v1)), (2, .int v2)] [] := by
  intro n
  induction n with
  | zero => intro v0 v1 v2 σ hv0 hv1; exact r_none hG
  | succ n ih => intro v0 v1 v2 σ hv0 hv1; exact w_Ni_take_L35B N hG ih v0 v1 v2 σ hv0 hv1
set_option maxRecDepth 4000 in
theorem c_Ni_take (X : Cx) (N : Nat) (v0 : Nat) (v1 : Nat) (σ : St) (hv0 : shp v0 = 4) (hv1 : shp v1 = 4) (σ1 : St) (hE : Ni_take N v0 v1 σ = some σ1) : Ctr X yX4_take cX4_take 3 none 3 [.ref (X.2.1 + v0), .ref (X.2.1 + v1)] σ none σ1 := by
  refine Ctr.of (out := oWV) (E := Ni_take N v0 v1 σ) rfl (Nat.le_of_ble_eq_true rfl) (fun G hG => ?_) σ1 hE
  unfold Ni_take
  refine r_aload_n (pc := 0) 1 1 rfl rfl hG dX4_take_0 ?_
  refine gf4_0 (pc := 1) (i := v1) hv1 lk217 hG dX4_take_1 ?_
  refine r_iconst (pc := 4) (v := 0) (by decide) hG dX4_take_4 ?_
  refine r_aload_n (pc := 5) 0 0 rfl rfl hG dX4_take_5 ?_
  refine gf4_0 (pc := 6) (i := v0) hv0 lk217 hG dX4_take_6 ?_
  refine r_iconst (pc := 9) (v := 0) (by decide) hG dX4_take_9 ?_
  refine r_bipush (pc := 10) (v := 8) (by decide) hG dX4_take_10 ?_
  refine r_ck hG (fun h1 => ?_)
  refine r_acopy (pc := 12) (i0 := (v1 + 1)) (i := (v0 + 1)) (sh4_1 hv1) (sh4_1 hv0) (ln4_1 hv1) (ln4_1 hv0) h1 lk708 (by omega) (Nat.le_of_ble_eq_true rfl) hG dX4_take_12 ?_
  refine r_bS hG (fun s2 => ?_)
  refine r_aload_n (pc := 15) 1 1 rfl rfl hG dX4_take_15 ?_
  refine gf4_1 (pc := 16) (i := v1) hv1 lk220 hG dX4_take_16 ?_
  refine r_iconst (pc := 19) (v := 0) (by decide) hG dX4_take_19 ?_
  refine r_aload_n (pc := 20) 0 0 rfl rfl hG dX4_take_20 ?_
  refine gf4_1 (pc := 21) (i := v0) hv0 lk220 hG dX4_take_21 ?_
  refine r_iconst (pc := 24) (v := 0) (by decide) hG dX4_take_24 ?_
  refine r_aload_n (pc := 25) 0 0 rfl rfl hG dX4_take_25 ?_
  refine gf4_1 (pc := 26) (i := v0) hv0 lk220 hG dX4_take_26 ?_
  refine r_alen (pc := 29) (i := (v0 + 2)) (sh4_2 hv0) (by decide) (v := 64) (by rw [(ln4_2 hv0)]; decide) hG dX4_take_29 ?_
  refine r_ck hG (fun h3 => ?_)
  refine r_acopy (pc := 30) (i0 := (v1 + 2)) (i := (v0 + 2)) (sh4_2 hv1) (sh4_2 hv0) (ln4_2 hv1) (ln4_2 hv0) h3 lk708 (by omega) (Nat.le_of_ble_eq_true rfl) hG dX4_take_30 ?_
  refine r_bS hG (fun s4 => ?_)
  refine r_iconst (pc := 33) (v := 0) (by decide) hG dX4_take_33 ?_
  refine r_istore_n (pc := 34) (lv' := [(2, .int 0), (0, .ref (X.2.1 + v0)), (1, .ref (X.2.1 + v1))]) 2 rfl (by decide) rfl hG dX4_take_34 ?_
  exact r_sub [1, 2, 0] rfl hG (w_Ni_take_L35 N hG N v0 v1 0 s4 hv0 hv1)
set_option maxRecDepth 4000 in
theorem c_Ni_dig (X : Cx) (N : Nat) (v0 : Nat) (v1 : Int32) (v2 : Int32) (v3 : Int32) (σ : St) (hv0 : shp v0 = 4) (σ1 : St) (hE : Ni_dig N v0 v1 v2 v3 σ = some σ1) : Ctr X yX4_dig cX4_dig 4 none 1 [.ref (X.2.1 + v0), .int v1, .int v2, .int v3] σ none σ1 := by
  refine Ctr.of (out := oWV) (E := Ni_dig N v0 v1 v2 v3 σ) rfl (Nat.le_of_ble_eq_true rfl) (fun G hG => ?_) σ1 hE
  unfold Ni_dig
  refine r_aload_n (pc := 0) 0 0 rfl rfl hG dX4_dig_0 ?_
  refine gf4_1 (pc := 1) (i := v0) hv0 lk220 hG dX4_dig_1 ?_
  refine r_iload_n (pc := 4) 1 1 rfl rfl hG dX4_dig_4 ?_
  refine r_bipush (pc := 5) (v := 8) (by decide) hG dX4_dig_5 ?_
  refine r_imul (pc := 7) hG dX4_dig_7 ?_
  refine r_iload_n (pc := 8) 2 2 rfl rfl hG dX4_dig_8 ?_
  refine r_iadd (pc := 9) hG dX4_dig_9 ?_
  refine r_iload_n (pc := 10) 3 3 rfl rfl hG dX4_dig_10 ?_
  refine r_ck hG (fun h1 => ?_)
  refine r_iast (pc := 11) (i := (v0 + 2)) (sh4_2 hv0) (ln4_2 hv0) h1 hG dX4_dig_11 ?_
  refine r_bS hG (fun s2 => ?_)
  refine r_aload_n (pc := 12) 0 0 rfl rfl hG dX4_dig_12 ?_
  refine gf4_1 (pc := 13) (i := v0) hv0 lk220 hG dX4_dig_13 ?_
  refine r_iload_n (pc := 16) 2 2 rfl rfl hG dX4_dig_16 ?_
  refine r_bipush (pc := 17) (v := 8) (by decide) hG dX4_dig_17 ?_
  refine r_imul (pc := 19) hG dX4_dig_19 ?_
  refine r_iload_n (pc := 20) 1 1 rfl rfl hG dX4_dig_20 ?_
  refine r_iadd (pc := 21) hG dX4_dig_21 ?_
  refine r_iload_n (pc := 22) 3 3 rfl rfl hG dX4_dig_22 ?_
  refine r_ck hG (fun h3 => ?_)
  refine r_iast (pc := 23) (i := (v0 + 2)) (sh4_2 hv0) (ln4_2 hv0) h3 hG dX4_dig_23 ?_
  refine r_bS hG (fun s4 => ?_)
  exact r_vret (pc := 24) rfl hG dX4_dig_24
set_option maxRecDepth 4000 in
theorem c_Ni_addRower (X : Cx) (N : Nat) (v0 : Nat) (v1 : Int32) (v2 : Int32) (σ : St) (hv0 : shp v0 = 4) (σ1 : St) (hE : Ni_addRower N v0 v1 v2 σ = some σ1) : Ctr X yX4_addRower cX4_addRower 3 none 1 [.ref (X.2.1 + v0), .int v1, .int v2] σ none σ1 := by
  refine Ctr.of (out := oWV) (E := Ni_addRower N v0 v1 v2 σ) rfl (Nat.le_of_ble_eq_true rfl) (fun G hG => ?_) σ1 hE
  unfold Ni_addRower
  refine r_aload_n (pc := 0) 0 0 rfl rfl hG dX4_addRower_0 ?_
  refine gf4_4 (pc := 1) (i := v0) hv0 lk233 hG dX4_addRower_1 ?_
  refine r_iconst (pc := 4) (v := 3) (by decide) hG dX4_addRower_4 ?_
  refine r_icmp_ge (pc := 5) (tgt := 44) (by decide) hG dX4_addRower_5 (fun h1 => ?_) (fun h1 => ?_)
  · exact r_vret (pc := 44) rfl hG dX4_addRower_44
  · refine r_aload_n (pc := 8) 0 0 rfl rfl hG dX4_addRower_8 ?_
    refine gf4_2 (pc := 9) (i := v0) hv0 lk221 hG dX4_addRower_9 ?_
    refine r_aload_n (pc := 12) 0 0 rfl rfl hG dX4_addRower_12 ?_
    refine gf4_4 (pc := 13) (i := v0) hv0 lk233 hG dX4_addRower_13 ?_
    refine r_ck hG (fun h2 => ?_)
    refine r_aRowers (pc := 16) (i := v0) (sh4_3 hv0) (ln4_3 hv0) h2 hG dX4_addRower_16 ?_
    refine r_iload_n (pc := 17) 1 1 rfl rfl hG dX4_addRower_17 ?_
    refine pf7_0 (pc := 18) (i := (v0 + 13 + ((σ.1 v0 4)).toNatClampNeg)) (shRo hv0 h2) lk157 hG dX4_addRower_18 ?_
    refine r_bS hG (fun s3 => ?_)
    refine r_aload_n (pc := 21) 0 0 rfl rfl hG dX4_addRower_21 ?_
    refine gf4_2 (pc := 22) (i := v0) hv0 lk221 hG dX4_addRower_22 ?_
    refine r_aload_n (pc := 25) 0 0 rfl rfl hG dX4_addRower_25 ?_
    refine gf4_4 (pc := 26) (i := v0) hv0 lk233 hG dX4_addRower_26 ?_
    refine r_ck hG (fun h4 => ?_)
    refine r_aRowers (pc := 29) (i := v0) (sh4_3 hv0) (ln4_3 hv0) h4 hG dX4_addRower_29 ?_
    refine r_iload_n (pc := 30) 2 2 rfl rfl hG dX4_addRower_30 ?_
    refine pf7_1 (pc := 31) (i := (v0 + 13 + ((s3.1 v0 4)).toNatClampNeg)) (shRo hv0 h4) lk160 hG dX4_addRower_31 ?_
    refine r_bS hG (fun s5 => ?_)
    refine r_aload_n (pc := 34) 0 0 rfl rfl hG dX4_addRower_34 ?_
    refine r_dup (pc := 35) rfl hG dX4_addRower_35 ?_
    refine gf4_4 (pc := 36) (i := v0) hv0 lk233 hG dX4_addRower_36 ?_
    refine r_iconst (pc := 39) (v := 1) (by decide) hG dX4_addRower_39 ?_
    refine r_iadd (pc := 40) hG dX4_addRower_40 ?_
    refine pf4_4 (pc := 41) (i := v0) hv0 lk233 hG dX4_addRower_41 ?_
    refine r_bS hG (fun s6 => ?_)
    exact r_vret (pc := 44) rfl hG dX4_addRower_44
set_option maxRecDepth 4000 in
theorem c_Ni_addGuest (X : Cx) (N : Nat) (v0 : Nat) (v1 : Int32) (v2 : Int32) (σ : St) (hv0 : shp v0 = 4) (σ1 : St) (hE : Ni_addGuest N v0 v1 v2 σ = some σ1) : Ctr X yX4_addGuest cX4_addGuest 3 none 3 [.ref (X.2.1 + v0), .int v1, .int v2] σ none σ1 := by
  refine Ctr.of (out := oWV) (E := Ni_addGuest N v0 v1 v2 σ) rfl (Nat.le_of_ble_eq_true rfl) (fun G hG => ?_) σ1 hE
  unfold Ni_addGuest
  refine r_aload_n (pc := 0) 0 0 rfl rfl hG dX4_addGuest_0 ?_
  refine gf4_5 (pc := 1) (i := v0) hv0 lk238 hG dX4_addGuest_1 ?_
  refine r_iconst (pc := 4) (v := 4) (by decide) hG dX4_addGuest_4 ?_
  refine r_icmp_ge (pc := 5) (tgt := 32) (by decide) hG dX4_addGuest_5 (fun h1 => ?_) (fun h1 => ?_)
  · exact r_vret (pc := 32) rfl hG dX4_addGuest_32
  · refine r_aload_n (pc := 8) 0 0 rfl rfl hG dX4_addGuest_8 ?_
    refine gf4_3 (pc := 9) (i := v0) hv0 lk226 hG dX4_addGuest_9 ?_
    refine r_aload_n (pc := 12) 0 0 rfl rfl hG dX4_addGuest_12 ?_
    refine gf4_5 (pc := 13) (i := v0) hv0 lk238 hG dX4_addGuest_13 ?_
    refine r_ck hG (fun h2 => ?_)
    refine r_aGuests (pc := 16) (i := v0) (sh4_4 hv0) (ln4_4 hv0) h2 hG dX4_addGuest_16 ?_
    refine r_iload_n (pc := 17) 1 1 rfl rfl hG dX4_addGuest_17 ?_
    refine r_iload_n (pc := 18) 2 2 rfl rfl hG dX4_addGuest_18 ?_
    refine r_bR hG (fun s4 e6 => ?_)
    refine r_callVv (pc := 19) (As := [.int v1, .int v2]) (c_Gu_come X N (v0 + 16 + ((σ.1 v0 5)).toNatClampNeg) v1 v2 σ (shGu hv0 h2) s4 e6) (wsOf_at (shGu hv0 h2) (by decide) rfl) rfl mfX4_90_X1_come hyVX1_come (by decide) (by decide) rfl (Nat.le_of_ble_eq_true rfl) hG dX4_addGuest_19 rfl (fun n5 => ?_)
    refine r_aload_n (pc := 22) 0 0 rfl rfl hG dX4_addGuest_22 ?_
    refine r_dup (pc := 23) rfl hG dX4_addGuest_23 ?_
    refine gf4_5 (pc := 24) (i := v0) hv0 lk238 hG dX4_addGuest_24 ?_
    refine r_iconst (pc := 27) (v := 1) (by decide) hG dX4_addGuest_27 ?_
    refine r_iadd (pc := 28) hG dX4_addGuest_28 ?_
    refine pf4_5 (pc := 29) (i := v0) hv0 lk238 hG dX4_addGuest_29 ?_
    refine r_bS hG (fun s7 => ?_)
    exact r_vret (pc := 32) rfl hG dX4_addGuest_32
set_option maxRecDepth 4000 in
theorem c_Ni_canRow (X : Cx) (N : Nat) (v0 : Nat) (v1 : Nat) (v2 : Int32) (σ : St) (hv0 : shp v0 = 4) (hv1 : shp v1 = 1) (r : Int32) (hE : Ni_canRow N v0 v1 v2 σ = some r) : Ctr X yX4_canRow cX4_canRow 3 (some .boolean) 2 [.ref (X.2.1 + v0), .ref (X.2.1 + v1), .int v2] σ (some (.int r)) σ := by
  refine Ctr.of (out := (oI σ)) (E := Ni_canRow N v0 v1 v2 σ) rfl (Nat.le_of_ble_eq_true rfl) (fun G hG => ?_) r hE
  unfold Ni_canRow
  refine r_aload_n (pc := 0) 1 1 rfl rfl hG dX4_canRow_0 ?_
  refine gf1_4 (pc := 1) (i := v1) hv1 lk197 hG dX4_canRow_1 ?_
  refine r_bipush (pc := 4) (v := 7) (by decide) hG dX4_canRow_4 ?_
  refine r_icmp_eq (pc := 6) (tgt := 25) (by decide) hG dX4_canRow_6 (fun h1 => ?_) (fun h1 => ?_)
  · refine r_iconst (pc := 25) (v := 0) (by decide) hG dX4_canRow_25 ?_
    exact r_zret (pc := 26) rvN_b0 rfl hG dX4_canRow_26
  · refine r_aload_n (pc := 9) 0 0 rfl rfl hG dX4_canRow_9 ?_
    refine r_aload_n (pc := 10) 1 1 rfl rfl hG dX4_canRow_10 ?_
    refine gf1_4 (pc := 11) (i := v1) hv1 lk197 hG dX4_canRow_11 ?_
    refine r_iload_n (pc := 14) 2 2 rfl rfl hG dX4_canRow_14 ?_
    refine r_bR hG (fun r2 e4 => ?_)
    refine r_callVi (pc := 15) (As := [.int (σ.1 v1 4), .int v2]) (c_Ni_strokesBetween X N v0 (σ.1 v1 4) v2 σ hv0 r2 e4) (wsOf_at hv0 (by decide) rfl) rfl mfX4_96_X4_strokesBetween hyVX4_strokesBetween (by decide) (by decide) rfl (Nat.le_of_ble_eq_true rfl) hG dX4_canRow_15 rfl (fun n3 => ?_)
    refine r_if_le (pc := 18) (tgt := 25) (by decide) hG dX4_canRow_18 (fun h5 => ?_) (fun h5 => ?_)
    · refine r_iconst (pc := 25) (v := 0) (by decide) hG dX4_canRow_25 ?_
      exact r_zret (pc := 26) rvN_b0 rfl hG dX4_canRow_26
    · refine r_iconst (pc := 21) (v := 1) (by decide) hG dX4_canRow_21 ?_
      refine r_goto (pc := 22) (tgt := 26) (by decide) hG dX4_canRow_22 ?_
      exact r_zret (pc := 26) rvN_b1 rfl hG dX4_canRow_26
set_option maxRecDepth 4000 in
theorem w_Ni_pass_J51 {X : Cx} {G : GT St} (N : Nat) (hG : IsG X RX4 cX4_pass 5 9 none oWV G) (v4 : Nat) (σ : St) (hv4 : shp v4 = 1) : G (Ni_pass_J51 N v4 σ) σ 51 [(4, .ref (X.2.1 + v4))] [] := by
  unfold Ni_pass_J51
  refine r_aload (pc := 51) 0 rfl hG dX4_pass_51 ?_
  refine gf1_4 (pc := 53) (i := v4) hv4 lk197 hG dX4_pass_53 ?_
  refine r_bipush (pc := 56) (v := 7) (by decide) hG dX4_pass_56 ?_
  refine r_icmp_ne (pc := 58) (tgt := 66) (by decide) hG dX4_pass_58 (fun h4 => ?_) (fun h4 => ?_)
  · exact r_vret (pc := 66) rfl hG dX4_pass_66
  · refine r_aload (pc := 61) 0 rfl hG dX4_pass_61 ?_
    refine r_bR hG (fun s6 e8 => ?_)
    refine r_callVv (pc := 63) (As := []) (c_Gu_getIn X N v4 σ hv4 s6 e8) (wsOf_at hv4 (by decide) rfl) rfl mfX4_120_X1_getIn hyVX1_getIn (by decide) (by decide) rfl (Nat.le_of_ble_eq_true rfl) hG dX4_pass_63 rfl (fun n7 => ?_)
    exact r_vret (pc := 66) rfl hG dX4_pass_66
set_option maxRecDepth 4000 in
theorem c_Ni_pass (X : Cx) (N : Nat) (v0 : Nat) (v1 : Int32) (v2 : Int32) (v3 : Int32) (σ : St) (hv0 : shp v0 = 4) (σ1 : St) (hE : Ni_pass N v0 v1 v2 v3 σ = some σ1) : Ctr X yX4_pass cX4_pass 5 none 9 [.ref (X.2.1 + v0), .int v1, .int v2, .int v3] σ none σ1 := by
  refine Ctr.of (out := oWV) (E := Ni_pass N v0 v1 v2 v3 σ) rfl (Nat.le_of_ble_eq_true rfl) (fun G hG => ?_) σ1 hE
  unfold Ni_pass
  refine r_iload_n (pc := 0) 1 1 rfl rfl hG dX4_pass_0 ?_
  refine r_aload_n (pc := 1) 0 0 rfl rfl hG dX4_pass_1 ?_
  refine gf4_5 (pc := 2) (i := v0) hv0 lk238 hG dX4_pass_2 ?_
  refine r_icmp_lt (pc := 5) (tgt := 9) (by decide) hG dX4_pass_5 (fun h1 => ?_) (fun h1 => ?_)
  · refine r_aload_n (pc := 9) 0 0 rfl rfl hG dX4_pass_9 ?_
    refine gf4_3 (pc := 10) (i := v0) hv0 lk226 hG dX4_pass_10 ?_
    refine r_iload_n (pc := 13) 1 1 rfl rfl hG dX4_pass_13 ?_
    refine r_ck hG (fun h2 => ?_)
    refine r_aGuests (pc := 14) (i := v0) (sh4_4 hv0) (ln4_4 hv0) h2 hG dX4_pass_14 ?_
    refine r_astore (pc := 15) (lv' := [(4, .ref (X.2.1 + (v0 + 16 + (v1).toNatClampNeg))), (0, .ref (X.2.1 + v0)), (1, .int v1), (2, .int v2), (3, .int v3)]) (by decide) rfl hG dX4_pass_15 ?_
    refine r_iload_n (pc := 17) 3 2 rfl rfl hG dX4_pass_17 ?_
    refine r_aload_n (pc := 18) 1 0 rfl rfl hG dX4_pass_18 ?_
    refine gf4_4 (pc := 19) (i := v0) hv0 lk233 hG dX4_pass_19 ?_
    refine r_icmp_ge (pc := 22) (tgt := 51) (by decide) hG dX4_pass_22 (fun h3 => ?_) (fun h3 => ?_)
    · exact r_sub [0] rfl hG (w_Ni_pass_J51 N hG (v0 + 16 + (v1).toNatClampNeg) σ (shGu hv0 h2))
    · refine r_aload_n (pc := 25) 1 0 rfl rfl hG dX4_pass_25 ?_
      refine r_aload (pc := 26) 0 rfl hG dX4_pass_26 ?_
      refine r_iload_n (pc := 28) 4 3 rfl rfl hG dX4_pass_28 ?_
      refine r_bR hG (fun r9 e11 => ?_)
      refine r_callVi (pc := 29) (As := [.ref (X.2.1 + (v0 + 16 + (v1).toNatClampNeg)), .int v3]) (c_Ni_canRow X N v0 (v0 + 16 + (v1).toNatClampNeg) v3 σ hv0 (shGu hv0 h2) r9 e11) (wsOf_at hv0 (by decide) rfl) rfl mfX4_112_X4_canRow hyVX4_canRow (by decide) (by decide) rfl (Nat.le_of_ble_eq_true rfl) hG dX4_pass_29 rfl (fun n10 => ?_)
      refine r_if_eq (pc := 32) (tgt := 51) (by decide) hG dX4_pass_32 (fun h12 => ?_) (fun h12 => ?_)
      · exact r_sub [0] rfl hG (w_Ni_pass_J51 N hG (v0 + 16 + (v1).toNatClampNeg) σ (shGu hv0 h2))
      · refine r_aload_n (pc := 35) 1 0 rfl rfl hG dX4_pass_35 ?_
        refine r_aload (pc := 36) 0 rfl hG dX4_pass_36 ?_
        refine r_aload_n (pc := 38) 1 0 rfl rfl hG dX4_pass_38 ?_
        refine gf4_2 (pc := 39) (i := v0) hv0 lk221 hG dX4_pass_39 ?_
        refine r_iload_n (pc := 42) 3 2 rfl rfl hG dX4_pass_42 ?_
        refine r_ck hG (fun h13 => ?_)
        refine r_aRowers (pc := 43) (i := v0) (sh4_3 hv0) (ln4_3 hv0) h13 hG dX4_pass_43 ?_
        refine r_iload_n (pc := 44) 4 3 rfl rfl hG dX4_pass_44 ?_
        refine r_bR hG (fun s15 e17 => ?_)
        refine r_callVv (pc := 45) (As := [.ref (X.2.1 + (v0 + 16 + (v1).toNatClampNeg)), .ref (X.2.1 + (v0 + 13 + (v2).toNatClampNeg)), .int v3]) (c_Ni_carry X N v0 (v0 + 16 + (v1).toNatClampNeg) (v0 + 13 + (v2).toNatClampNeg) v3 σ hv0 (shGu hv0 h2) (shRo hv0 h13) s15 e17) (wsOf_at hv0 (by decide) rfl) rfl mfX4_116_X4_carry hyVX4_carry (by decide) (by decide) rfl (Nat.le_of_ble_eq_true rfl) hG dX4_pass_45 rfl (fun n16 => ?_)
        refine r_goto (pc := 48) (tgt := 66) (by decide) hG dX4_pass_48 ?_
        exact r_vret (pc := 66) rfl hG dX4_pass_66
  · exact r_vret (pc := 8) rfl hG dX4_pass_8
set_option maxRecDepth 4000 in
theorem w_Ni_neighbours_J25 {σ : St} {X : Cx} {G : GT Int32} (N : Nat) (hG : IsG X RX4 cX4_neighbours 4 2 (some .int) (oI σ) G) {K4 : Nat → Int32 → Int32 → Int32 → St → Option Int32} (hK4 : ∀ (v0 : Nat) (v1 : Int32) (v2 : Int32) (v3 : Int32), shp v0 = 4 → G (K4 v0 v1 v2 v3 σ) σ 4 [(0, .ref (X.2.1 + v0)), (1, .int v1), (2, .int v2), (3, .int v3)] []) (v0 : Nat) (v1 : Int32) (v2 : Int32) (v3 : Int32) (hv0 : shp v0 = 4) : G (Ni_neighbours_J25 N K4 v0 v1 v2 v3 σ) σ 25 [(0, .ref (X.2.1 + v0)), (1, .int v1), (2, .int v2), (3, .int v3)] [] := by
  unfold Ni_neighbours_J25
  refine r_bIinc (pc := 25) (lv' := fun x6 => [(3, .int x6), (0, .ref (X.2.1 + v0)), (1, .int v1), (2, .int v2)]) 3 rfl rfl (by decide) (fun _ => rfl) hG dX4_neighbours_25 (fun x6 => ?_)
  refine r_goto (pc := 28) (tgt := 4) (by decide) hG dX4_neighbours_28 ?_
  exact r_sub [1, 2, 3, 0] rfl hG (hK4 v0 v1 v2 x6 hv0)
set_option maxRecDepth 4000 in
theorem w_Ni_neighbours_L4B {σ : St} {X : Cx} {G : GT Int32} (N : Nat) (hG : IsG X RX4 cX4_neighbours 4 2 (some .int) (oI σ) G) {K4 : Nat → Int32 → Int32 → Int32 → St → Option Int32} (hK4 : ∀ (v0 : Nat) (v1 : Int32) (v2 : Int32) (v3 : Int32), shp v0 = 4 → G (K4 v0 v1 v2 v3 σ) σ 4 [(0, .ref (X.2.1 + v0)), (1, .int v1), (2, .int v2), (3, .int v3)] []) (v0 : Nat) (v1 : Int32) (v2 : Int32) (v3 : Int32) (hv0 : shp v0 = 4) : G (Ni_neighbours_L4B N K4 v0 v1 v2 v3 σ) σ 4 [(0, .ref (X.2.1 + v0)), (1, .int v1), (2, .int v2), (3, .int v3)] [] := by
  unfold Ni_neighbours_L4B
  refine r_iload_n (pc := 4) 3 3 rfl rfl hG dX4_neighbours_4 ?_
  refine r_bipush (pc := 5) (v := 8) (by decide) hG dX4_neighbours_5 ?_
  refine r_icmp_ge (pc := 7) (tgt := 31) (by decide) hG dX4_neighbours_7 (fun h1 => ?_) (fun h1 => ?_)
  · refine r_iload_n (pc := 31) 2 2 rfl rfl hG dX4_neighbours_31 ?_
    exact r_iret (pc := 32) rfl hG dX4_neighbours_32
  · refine r_aload_n (pc := 10) 0 0 rfl rfl hG dX4_neighbours_10 ?_
    refine r_iload_n (pc := 11) 1 1 rfl rfl hG dX4_neighbours_11 ?_
    refine r_iload_n (pc := 12) 3 3 rfl rfl hG dX4_neighbours_12 ?_
    refine r_bR hG (fun r2 e4 => ?_)
    refine r_callVi (pc := 13) (As := [.int v1, .int v3]) (c_Ni_strokesBetween X N v0 v1 v3 σ hv0 r2 e4) (wsOf_at hv0 (by decide) rfl) rfl mfX4_96_X4_strokesBetween hyVX4_strokesBetween (by decide) (by decide) rfl (Nat.le_of_ble_eq_true rfl) hG dX4_neighbours_13 rfl (fun n3 => ?_)
    refine r_if_le (pc := 16) (tgt := 25) (by decide) hG dX4_neighbours_16 (fun h5 => ?_) (fun h5 => ?_)
    · exact w_Ni_neighbours_J25 N hG hK4 v0 v1 v2 v3 hv0
    · refine r_iload_n (pc := 19) 2 2 rfl rfl hG dX4_neighbours_19 ?_
      refine r_iconst (pc := 20) (v := 1) (by decide) hG dX4_neighbours_20 ?_
      refine r_iload_n (pc := 21) 3 3 rfl rfl hG dX4_neighbours_21 ?_
      refine r_ishl (pc := 22) hG dX4_neighbours_22 ?_
      refine r_ior (pc := 23) hG dX4_neighbours_23 ?_
      refine r_bI hG (fun x7 => ?_)
      refine r_istore_n (pc := 24) (lv' := [(2, .int x7), (0, .ref (X.2.1 + v0)), (1, .int v1), (3, .int v3)]) 2 rfl (by decide) rfl hG dX4_neighbours_24 ?_
      exact r_sub [1, 2, 0, 3] rfl hG (w_Ni_neighbours_J25 N hG hK4 v0 v1 x7 v3 hv0)
set_option maxRecDepth 4000 in
theorem w_Ni_neighbours_L4 {σ : St} {X : Cx} {G : GT Int32} (N : Nat) (hG : IsG X RX4 cX4_neighbours 4 2 (some .int) (oI σ) G) : ∀ (n : Nat), ∀ (v0 : Nat) (v1 : Int32) (v2 : Int32) (v3 : Int32), shp v0 = 4 → G (Ni_neighbours_L4 N n v0 v1 v2 v3 σ) σ 4 [(0, .ref (X.2.1 + v0)), (1, .int v1), (2, .int v2), (3, .int v3)] [] := by
  intro n
  induction n with
  | zero => intro v0 v1 v2 v3 hv0; exact r_none hG
  | succ n ih => intro v0 v1 v2 v3 hv0; exact w_Ni_neighbours_L4B N hG ih v0 v1 v2 v3 hv0
set_option maxRecDepth 4000 in
theorem c_Ni_neighbours (X : Cx) (N : Nat) (v0 : Nat) (v1 : Int32) (σ : St) (hv0 : shp v0 = 4) (r : Int32) (hE : Ni_neighbours N v0 v1 σ = some r) : Ctr X yX4_neighbours cX4_neighbours 4 (some .int) 2 [.ref (X.2.1 + v0), .int v1] σ (some (.int r)) σ := by
  refine Ctr.of (out := (oI σ)) (E := Ni_neighbours N v0 v1 σ) rfl (Nat.le_of_ble_eq_true rfl) (fun G hG => ?_) r hE
  unfold Ni_neighbours
  refine r_iconst (pc := 0) (v := 0) (by decide) hG dX4_neighbours_0 ?_
  refine r_istore_n (pc := 1) (lv' := [(2, .int 0), (0, .ref (X.2.1 + v0)), (1, .int v1)]) 2 rfl (by decide) rfl hG dX4_neighbours_1 ?_
  refine r_iconst (pc := 2) (v := 0) (by decide) hG dX4_neighbours_2 ?_
  refine r_istore_n (pc := 3) (lv' := [(3, .int 0), (2, .int 0), (0, .ref (X.2.1 + v0)), (1, .int v1)]) 3 rfl (by decide) rfl hG dX4_neighbours_3 ?_
  exact r_sub [2, 3, 1, 0] rfl hG (w_Ni_neighbours_L4 N hG N v0 v1 0 0 hv0)
set_option maxRecDepth 4000 in
theorem w_Ni_guestsAt_J31 {σ : St} {X : Cx} {G : GT Int32} (N : Nat) (hG : IsG X RX4 cX4_guestsAt 4 1 (some .int) (oI σ) G) {K4 : Nat → Int32 → Int32 → Int32 → St → Option Int32} (hK4 : ∀ (v0 : Nat) (v1 : Int32) (v2 : Int32) (v3 : Int32), shp v0 = 4 → G (K4 v0 v1 v2 v3 σ) σ 4 [(0, .ref (X.2.1 + v0)), (1, .int v1), (2, .int v2), (3, .int v3)] []) (v0 : Nat) (v1 : Int32) (v2 : Int32) (v3 : Int32) (hv0 : shp v0 = 4) : G (Ni_guestsAt_J31 N K4 v0 v1 v2 v3 σ) σ 31 [(0, .ref (X.2.1 + v0)), (1, .int v1), (2, .int v2), (3, .int v3)] [] := by
  unfold Ni_guestsAt_J31
  refine r_bIinc (pc := 31) (lv' := fun x4 => [(3, .int x4), (0, .ref (X.2.1 + v0)), (1, .int v1), (2, .int v2)]) 3 rfl rfl (by decide) (fun _ => rfl) hG dX4_guestsAt_31 (fun x4 => ?_)
  refine r_goto (pc := 34) (tgt := 4) (by decide) hG dX4_guestsAt_34 ?_
  exact r_sub [1, 2, 3, 0] rfl hG (hK4 v0 v1 v2 x4 hv0)
set_option maxRecDepth 4000 in
theorem w_Ni_guestsAt_L4B {σ : St} {X : Cx} {G : GT Int32} (N : Nat) (hG : IsG X RX4 cX4_guestsAt 4 1 (some .int) (oI σ) G) {K4 : Nat → Int32 → Int32 → Int32 → St → Option Int32} (hK4 : ∀ (v0 : Nat) (v1 : Int32) (v2 : Int32) (v3 : Int32), shp v0 = 4 → G (K4 v0 v1 v2 v3 σ) σ 4 [(0, .ref (X.2.1 + v0)), (1, .int v1), (2, .int v2), (3, .int v3)] []) (v0 : Nat) (v1 : Int32) (v2 : Int32) (v3 : Int32) (hv0 : shp v0 = 4) : G (Ni_guestsAt_L4B N K4 v0 v1 v2 v3 σ) σ 4 [(0, .ref (X.2.1 + v0)), (1, .int v1), (2, .int v2), (3, .int v3)] [] := by
  unfold Ni_guestsAt_L4B
  refine r_iload_n (pc := 4) 3 3 rfl rfl hG dX4_guestsAt_4 ?_
  refine r_aload_n (pc := 5) 0 0 rfl rfl hG dX4_guestsAt_5 ?_
  refine gf4_5 (pc := 6) (i := v0) hv0 lk238 hG dX4_guestsAt_6 ?_
  refine r_icmp_ge (pc := 9) (tgt := 37) (by decide) hG dX4_guestsAt_9 (fun h1 => ?_) (fun h1 => ?_)
  · refine r_iload_n (pc := 37) 2 2 rfl rfl hG dX4_guestsAt_37 ?_
    exact r_iret (pc := 38) rfl hG dX4_guestsAt_38
  · refine r_aload_n (pc := 12) 0 0 rfl rfl hG dX4_guestsAt_12 ?_
    refine gf4_3 (pc := 13) (i := v0) hv0 lk226 hG dX4_guestsAt_13 ?_
    refine r_iload_n (pc := 16) 3 3 rfl rfl hG dX4_guestsAt_16 ?_
    refine r_ck hG (fun h2 => ?_)
    refine r_aGuests (pc := 17) (i := v0) (sh4_4 hv0) (ln4_4 hv0) h2 hG dX4_guestsAt_17 ?_
    refine gf1_4 (pc := 18) (i := (v0 + 16 + (v3).toNatClampNeg)) (shGu hv0 h2) lk197 hG dX4_guestsAt_18 ?_
    refine r_iload_n (pc := 21) 1 1 rfl rfl hG dX4_guestsAt_21 ?_
    refine r_icmp_ne (pc := 22) (tgt := 31) (by decide) hG dX4_guestsAt_22 (fun h3 => ?_) (fun h3 => ?_)
    · exact w_Ni_guestsAt_J31 N hG hK4 v0 v1 v2 v3 hv0
    · refine r_iload_n (pc := 25) 2 2 rfl rfl hG dX4_guestsAt_25 ?_
      refine r_iconst (pc := 26) (v := 1) (by decide) hG dX4_guestsAt_26 ?_
      refine r_iload_n (pc := 27) 3 3 rfl rfl hG dX4_guestsAt_27 ?_
      refine r_ishl (pc := 28) hG dX4_guestsAt_28 ?_
      refine r_ior (pc := 29) hG dX4_guestsAt_29 ?_
      refine r_bI hG (fun x5 => ?_)
      refine r_istore_n (pc := 30) (lv' := [(2, .int x5), (0, .ref (X.2.1 + v0)), (1, .int v1), (3, .int v3)]) 2 rfl (by decide) rfl hG dX4_guestsAt_30 ?_
      exact r_sub [1, 2, 0, 3] rfl hG (w_Ni_guestsAt_J31 N hG hK4 v0 v1 x5 v3 hv0)
set_option maxRecDepth 4000 in
theorem w_Ni_guestsAt_L4 {σ : St} {X : Cx} {G : GT Int32} (N : Nat) (hG : IsG X RX4 cX4_guestsAt 4 1 (some .int) (oI σ) G) : ∀ (n : Nat), ∀ (v0 : Nat) (v1 : Int32) (v2 : Int32) (v3 : Int32), shp v0 = 4 → G (Ni_guestsAt_L4 N n v0 v1 v2 v3 σ) σ 4 [(0, .ref (X.2.1 + v0)), (1, .int v1), (2, .int v2), (3, .int v3)] [] := by
  intro n
  induction n with
  | zero => intro v0 v1 v2 v3 hv0; exact r_none hG
  | succ n ih => intro v0 v1 v2 v3 hv0; exact w_Ni_guestsAt_L4B N hG ih v0 v1 v2 v3 hv0
set_option maxRecDepth 4000 in
theorem c_Ni_guestsAt (X : Cx) (N : Nat) (v0 : Nat) (v1 : Int32) (σ : St) (hv0 : shp v0 = 4) (r : Int32) (hE : Ni_guestsAt N v0 v1 σ = some r) : Ctr X yX4_guestsAt cX4_guestsAt 4 (some .int) 1 [.ref (X.2.1 + v0), .int v1] σ (some (.int r)) σ := by
  refine Ctr.of (out := (oI σ)) (E := Ni_guestsAt N v0 v1 σ) rfl (Nat.le_of_ble_eq_true rfl) (fun G hG => ?_) r hE
  unfold Ni_guestsAt
  refine r_iconst (pc := 0) (v := 0) (by decide) hG dX4_guestsAt_0 ?_
  refine r_istore_n (pc := 1) (lv' := [(2, .int 0), (0, .ref (X.2.1 + v0)), (1, .int v1)]) 2 rfl (by decide) rfl hG dX4_guestsAt_1 ?_
  refine r_iconst (pc := 2) (v := 0) (by decide) hG dX4_guestsAt_2 ?_
  refine r_istore_n (pc := 3) (lv' := [(3, .int 0), (2, .int 0), (0, .ref (X.2.1 + v0)), (1, .int v1)]) 3 rfl (by decide) rfl hG dX4_guestsAt_3 ?_
  exact r_sub [2, 3, 1, 0] rfl hG (w_Ni_guestsAt_L4 N hG N v0 v1 0 0 hv0)
set_option maxRecDepth 4000 in
theorem w_Ni_toldBits_J30 {σ : St} {X : Cx} {G : GT Int32} (N : Nat) (hG : IsG X RX4 cX4_toldBits 3 2 (some .int) (oI σ) G) {K4 : Nat → Int32 → Int32 → St → Option Int32} (hK4 : ∀ (v0 : Nat) (v1 : Int32) (v2 : Int32), shp v0 = 4 → G (K4 v0 v1 v2 σ) σ 4 [(0, .ref (X.2.1 + v0)), (1, .int v1), (2, .int v2)] []) (v0 : Nat) (v1 : Int32) (v2 : Int32) (hv0 : shp v0 = 4) : G (Ni_toldBits_J30 N K4 v0 v1 v2 σ) σ 30 [(0, .ref (X.2.1 + v0)), (1, .int v1), (2, .int v2)] [] := by
  unfold Ni_toldBits_J30
  refine r_bIinc (pc := 30) (lv' := fun x7 => [(2, .int x7), (0, .ref (X.2.1 + v0)), (1, .int v1)]) 2 rfl rfl (by decide) (fun _ => rfl) hG dX4_toldBits_30 (fun x7 => ?_)
  refine r_goto (pc := 33) (tgt := 4) (by decide) hG dX4_toldBits_33 ?_
  exact r_sub [1, 2, 0] rfl hG (hK4 v0 v1 x7 hv0)
set_option maxRecDepth 4000 in
theorem w_Ni_toldBits_L4B {σ : St} {X : Cx} {G : GT Int32} (N : Nat) (hG : IsG X RX4 cX4_toldBits 3 2 (some .int) (oI σ) G) {K4 : Nat → Int32 → Int32 → St → Option Int32} (hK4 : ∀ (v0 : Nat) (v1 : Int32) (v2 : Int32), shp v0 = 4 → G (K4 v0 v1 v2 σ) σ 4 [(0, .ref (X.2.1 + v0)), (1, .int v1), (2, .int v2)] []) (v0 : Nat) (v1 : Int32) (v2 : Int32) (hv0 : shp v0 = 4) : G (Ni_toldBits_L4B N K4 v0 v1 v2 σ) σ 4 [(0, .ref (X.2.1 + v0)), (1, .int v1), (2, .int v2)] [] := by
  unfold Ni_toldBits_L4B
  refine r_iload_n (pc := 4) 2 2 rfl rfl hG dX4_toldBits_4 ?_
  refine r_aload_n (pc := 5) 0 0 rfl rfl hG dX4_toldBits_5 ?_
  refine gf4_5 (pc := 6) (i := v0) hv0 lk238 hG dX4_toldBits_6 ?_
  refine r_icmp_ge (pc := 9) (tgt := 36) (by decide) hG dX4_toldBits_9 (fun h1 => ?_) (fun h1 => ?_)
  · refine r_iload_n (pc := 36) 1 1 rfl rfl hG dX4_toldBits_36 ?_
    exact r_iret (pc := 37) rfl hG dX4_toldBits_37
  · refine r_aload_n (pc := 12) 0 0 rfl rfl hG dX4_toldBits_12 ?_
    refine gf4_3 (pc := 13) (i := v0) hv0 lk226 hG dX4_toldBits_13 ?_
    refine r_iload_n (pc := 16) 2 2 rfl rfl hG dX4_toldBits_16 ?_
    refine r_ck hG (fun h2 => ?_)
    refine r_aGuests (pc := 17) (i := v0) (sh4_4 hv0) (ln4_4 hv0) h2 hG dX4_toldBits_17 ?_
    refine r_bR hG (fun r3 e5 => ?_)
    refine r_callVi (pc := 18) (As := []) (c_Gu_isTold X N (v0 + 16 + (v2).toNatClampNeg) σ (shGu hv0 h2) r3 e5) (wsOf_at (shGu hv0 h2) (by decide) rfl) rfl mfX4_123_X1_isTold hyVX1_isTold (by decide) (by decide) rfl (Nat.le_of_ble_eq_true rfl) hG dX4_toldBits_18 rfl (fun n4 => ?_)
    refine r_if_eq (pc := 21) (tgt := 30) (by decide) hG dX4_toldBits_21 (fun h6 => ?_) (fun h6 => ?_)
    · exact w_Ni_toldBits_J30 N hG hK4 v0 v1 v2 hv0
    · refine r_iload_n (pc := 24) 1 1 rfl rfl hG dX4_toldBits_24 ?_
      refine r_iconst (pc := 25) (v := 1) (by decide) hG dX4_toldBits_25 ?_
      refine r_iload_n (pc := 26) 2 2 rfl rfl hG dX4_toldBits_26 ?_
      refine r_ishl (pc := 27) hG dX4_toldBits_27 ?_
      refine r_ior (pc := 28) hG dX4_toldBits_28 ?_
      refine r_bI hG (fun x8 => ?_)
      refine r_istore_n (pc := 29) (lv' := [(1, .int x8), (0, .ref (X.2.1 + v0)), (2, .int v2)]) 1 rfl (by decide) rfl hG dX4_toldBits_29 ?_
      exact r_sub [1, 0, 2] rfl hG (w_Ni_toldBits_J30 N hG hK4 v0 x8 v2 hv0)
set_option maxRecDepth 4000 in
theorem w_Ni_toldBits_L4 {σ : St} {X : Cx} {G : GT Int32} (N : Nat) (hG : IsG X RX4 cX4_toldBits 3 2 (some .int) (oI σ) G) : ∀ (n : Nat), ∀ (v0 : Nat) (v1 : Int32) (v2 : Int32), shp v0 = 4 → G (Ni_toldBits_L4 N n v0 v1 v2 σ) σ 4 [(0, .ref (X.2.1 + v0)), (1, .int v1), (2, .int v2)] [] := by
  intro n
  induction n with
  | zero => intro v0 v1 v2 hv0; exact r_none hG
  | succ n ih => intro v0 v1 v2 hv0; exact w_Ni_toldBits_L4B N hG ih v0 v1 v2 hv0
set_option maxRecDepth 4000 in
theorem c_Ni_toldBits (X : Cx) (N : Nat) (v0 : Nat) (σ : St) (hv0 : shp v0 = 4) (r : Int32) (hE : Ni_toldBits N v0 σ = some r) : Ctr X yX4_toldBits cX4_toldBits 3 (some .int) 2 [.ref (X.2.1 + v0)] σ (some (.int r)) σ := by
  refine Ctr.of (out := (oI σ)) (E := Ni_toldBits N v0 σ) rfl (Nat.le_of_ble_eq_true rfl) (fun G hG => ?_) r hE
  unfold Ni_toldBits
  refine r_iconst (pc := 0) (v := 0) (by decide) hG dX4_toldBits_0 ?_
  refine r_istore_n (pc := 1) (lv' := [(1, .int 0), (0, .ref (X.2.1 + v0))]) 1 rfl (by decide) rfl hG dX4_toldBits_1 ?_
  refine r_iconst (pc := 2) (v := 0) (by decide) hG dX4_toldBits_2 ?_
  refine r_istore_n (pc := 3) (lv' := [(2, .int 0), (1, .int 0), (0, .ref (X.2.1 + v0))]) 2 rfl (by decide) rfl hG dX4_toldBits_3 ?_
  exact r_sub [2, 1, 0] rfl hG (w_Ni_toldBits_L4 N hG N v0 0 0 hv0)
set_option maxRecDepth 4000 in
theorem c_Jn_bitCount (X : Cx) (v0 : Int32) (σ : St) : Ctr X yJ6_bitCount_0f7a4 cJ6_bitCount_0f7a4 1 (some .int) 1 [.int v0] σ (some (.int (Jn_bitCount v0))) σ := by
  refine Ctr.of (out := (oI σ)) (E := some (Jn_bitCount v0)) rfl (Nat.le_of_ble_eq_true rfl) (fun G hG => ?_) _ rfl
  unfold Jn_bitCount
  refine r_iload_n (pc := 0) 0 0 rfl rfl hG dJ6_bitCount_0f7a4_0 ?_
  refine r_iload_n (pc := 1) 0 0 rfl rfl hG dJ6_bitCount_0f7a4_1 ?_
  refine r_iconst (pc := 2) (v := 1) (by decide) hG dJ6_bitCount_0f7a4_2 ?_
  refine r_iushr (pc := 3) hG dJ6_bitCount_0f7a4_3 ?_
  refine r_ldcw (pc := 4) (v := 1431655765) lk1074 hG dJ6_bitCount_0f7a4_4 ?_
  refine r_iand (pc := 7) hG dJ6_bitCount_0f7a4_7 ?_
  refine r_isub (pc := 8) hG dJ6_bitCount_0f7a4_8 ?_
  refine r_istore_n (pc := 9) (lv' := [(0, .int (v0 - (((v0).toUInt32 >>> ((1 : Int32).toUInt32 &&& Int32.toUInt32 31)).toInt32 &&& 1431655765)))]) 0 rfl (by decide) rfl hG dJ6_bitCount_0f7a4_9 ?_
  refine r_iload_n (pc := 10) 0 0 rfl rfl hG dJ6_bitCount_0f7a4_10 ?_
  refine r_ldcw (pc := 11) (v := 858993459) lk1075 hG dJ6_bitCount_0f7a4_11 ?_
  refine r_iand (pc := 14) hG dJ6_bitCount_0f7a4_14 ?_
  refine r_iload_n (pc := 15) 0 0 rfl rfl hG dJ6_bitCount_0f7a4_15 ?_
  refine r_iconst (pc := 16) (v := 2) (by decide) hG dJ6_bitCount_0f7a4_16 ?_
  refine r_iushr (pc := 17) hG dJ6_bitCount_0f7a4_17 ?_
  refine r_ldcw (pc := 18) (v := 858993459) lk1075 hG dJ6_bitCount_0f7a4_18 ?_
  refine r_iand (pc := 21) hG dJ6_bitCount_0f7a4_21 ?_
  refine r_iadd (pc := 22) hG dJ6_bitCount_0f7a4_22 ?_
  refine r_istore_n (pc := 23) (lv' := [(0, .int (((v0 - (((v0).toUInt32 >>> ((1 : Int32).toUInt32 &&& Int32.toUInt32 31)).toInt32 &&& 1431655765)) &&& 858993459) + ((((v0 - (((v0).toUInt32 >>> ((1 : Int32).toUInt32 &&& Int32.toUInt32 31)).toInt32 &&& 1431655765))).toUInt32 >>> ((2 : Int32).toUInt32 &&& Int32.toUInt32 31)).toInt32 &&& 858993459)))]) 0 rfl (by decide) rfl hG dJ6_bitCount_0f7a4_23 ?_
  refine r_iload_n (pc := 24) 0 0 rfl rfl hG dJ6_bitCount_0f7a4_24 ?_
  refine r_iload_n (pc := 25) 0 0 rfl rfl hG dJ6_bitCount_0f7a4_25 ?_
  refine r_iconst (pc := 26) (v := 4) (by decide) hG dJ6_bitCount_0f7a4_26 ?_
  refine r_iushr (pc := 27) hG dJ6_bitCount_0f7a4_27 ?_
  refine r_iadd (pc := 28) hG dJ6_bitCount_0f7a4_28 ?_
  refine r_ldcw (pc := 29) (v := 252645135) lk1076 hG dJ6_bitCount_0f7a4_29 ?_
  refine r_iand (pc := 32) hG dJ6_bitCount_0f7a4_32 ?_
  refine r_istore_n (pc := 33) (lv' := [(0, .int (((((v0 - (((v0).toUInt32 >>> ((1 : Int32).toUInt32 &&& Int32.toUInt32 31)).toInt32 &&& 1431655765)) &&& 858993459) + ((((v0 - (((v0).toUInt32 >>> ((1 : Int32).toUInt32 &&& Int32.toUInt32 31)).toInt32 &&& 1431655765))).toUInt32 >>> ((2 : Int32).toUInt32 &&& Int32.toUInt32 31)).toInt32 &&& 858993459)) + (((((v0 - (((v0).toUInt32 >>> ((1 : Int32).toUInt32 &&& Int32.toUInt32 31)).toInt32 &&& 1431655765)) &&& 858993459) + ((((v0 - (((v0).toUInt32 >>> ((1 : Int32).toUInt32 &&& Int32.toUInt32 31)).toInt32 &&& 1431655765))).toUInt32 >>> ((2 : Int32).toUInt32 &&& Int32.toUInt32 31)).toInt32 &&& 858993459))).toUInt32 >>> ((4 : Int32).toUInt32 &&& Int32.toUInt32 31)).toInt32) &&& 252645135))]) 0 rfl (by decide) rfl hG dJ6_bitCount_0f7a4_33 ?_
  refine r_iload_n (pc := 34) 0 0 rfl rfl hG dJ6_bitCount_0f7a4_34 ?_
  refine r_iload_n (pc := 35) 0 0 rfl rfl hG dJ6_bitCount_0f7a4_35 ?_
  refine r_bipush (pc := 36) (v := 8) (by decide) hG dJ6_bitCount_0f7a4_36 ?_
  refine r_iushr (pc := 38) hG dJ6_bitCount_0f7a4_38 ?_
  refine r_iadd (pc := 39) hG dJ6_bitCount_0f7a4_39 ?_
  refine r_istore_n (pc := 40) (lv' := [(0, .int ((((((v0 - (((v0).toUInt32 >>> ((1 : Int32).toUInt32 &&& Int32.toUInt32 31)).toInt32 &&& 1431655765)) &&& 858993459) + ((((v0 - (((v0).toUInt32 >>> ((1 : Int32).toUInt32 &&& Int32.toUInt32 31)).toInt32 &&& 1431655765))).toUInt32 >>> ((2 : Int32).toUInt32 &&& Int32.toUInt32 31)).toInt32 &&& 858993459)) + (((((v0 - (((v0).toUInt32 >>> ((1 : Int32).toUInt32 &&& Int32.toUInt32 31)).toInt32 &&& 1431655765)) &&& 858993459) + ((((v0 - (((v0).toUInt32 >>> ((1 : Int32).toUInt32 &&& Int32.toUInt32 31)).toInt32 &&& 1431655765))).toUInt32 >>> ((2 : Int32).toUInt32 &&& Int32.toUInt32 31)).toInt32 &&& 858993459))).toUInt32 >>> ((4 : Int32).toUInt32 &&& Int32.toUInt32 31)).toInt32) &&& 252645135) + (((((((v0 - (((v0).toUInt32 >>> ((1 : Int32).toUInt32 &&& Int32.toUInt32 31)).toInt32 &&& 1431655765)) &&& 858993459) + ((((v0 - (((v0).toUInt32 >>> ((1 : Int32).toUInt32 &&& Int32.toUInt32 31)).toInt32 &&& 1431655765))).toUInt32 >>> ((2 : Int32).toUInt32 &&& Int32.toUInt32 31)).toInt32 &&& 858993459)) + (((((v0 - (((v0).toUInt32 >>> ((1 : Int32).toUInt32 &&& Int32.toUInt32 31)).toInt32 &&& 1431655765)) &&& 858993459) + ((((v0 - (((v0).toUInt32 >>> ((1 : Int32).toUInt32 &&& Int32.toUInt32 31)).toInt32 &&& 1431655765))).toUInt32 >>> ((2 : Int32).toUInt32 &&& Int32.toUInt32 31)).toInt32 &&& 858993459))).toUInt32 >>> ((4 : Int32).toUInt32 &&& Int32.toUInt32 31)).toInt32) &&& 252645135)).toUInt32 >>> ((8 : Int32).toUInt32 &&& Int32.toUInt32 31)).toInt32))]) 0 rfl (by decide) rfl hG dJ6_bitCount_0f7a4_40 ?_
  refine r_iload_n (pc := 41) 0 0 rfl rfl hG dJ6_bitCount_0f7a4_41 ?_
  refine r_iload_n (pc := 42) 0 0 rfl rfl hG dJ6_bitCount_0f7a4_42 ?_
  refine r_bipush (pc := 43) (v := 16) (by decide) hG dJ6_bitCount_0f7a4_43 ?_
  refine r_iushr (pc := 45) hG dJ6_bitCount_0f7a4_45 ?_
  refine r_iadd (pc := 46) hG dJ6_bitCount_0f7a4_46 ?_
  refine r_istore_n (pc := 47) (lv' := [(0, .int (((((((v0 - (((v0).toUInt32 >>> ((1 : Int32).toUInt32 &&& Int32.toUInt32 31)).toInt32 &&& 1431655765)) &&& 858993459) + ((((v0 - (((v0).toUInt32 >>> ((1 : Int32).toUInt32 &&& Int32.toUInt32 31)).toInt32 &&& 1431655765))).toUInt32 >>> ((2 : Int32).toUInt32 &&& Int32.toUInt32 31)).toInt32 &&& 858993459)) + (((((v0 - (((v0).toUInt32 >>> ((1 : Int32).toUInt32 &&& Int32.toUInt32 31)).toInt32 &&& 1431655765)) &&& 858993459) + ((((v0 - (((v0).toUInt32 >>> ((1 : Int32).toUInt32 &&& Int32.toUInt32 31)).toInt32 &&& 1431655765))).toUInt32 >>> ((2 : Int32).toUInt32 &&& Int32.toUInt32 31)).toInt32 &&& 858993459))).toUInt32 >>> ((4 : Int32).toUInt32 &&& Int32.toUInt32 31)).toInt32) &&& 252645135) + (((((((v0 - (((v0).toUInt32 >>> ((1 : Int32).toUInt32 &&& Int32.toUInt32 31)).toInt32 &&& 1431655765)) &&& 858993459) + ((((v0 - (((v0).toUInt32 >>> ((1 : Int32).toUInt32 &&& Int32.toUInt32 31)).toInt32 &&& 1431655765))).toUInt32 >>> ((2 : Int32).toUInt32 &&& Int32.toUInt32 31)).toInt32 &&& 858993459)) + (((((v0 - (((v0).toUInt32 >>> ((1 : Int32).toUInt32 &&& Int32.toUInt32 31)).toInt32 &&& 1431655765)) &&& 858993459) + ((((v0 - (((v0).toUInt32 >>> ((1 : Int32).toUInt32 &&& Int32.toUInt32 31)).toInt32 &&& 1431655765))).toUInt32 >>> ((2 : Int32).toUInt32 &&& Int32.toUInt32 31)).toInt32 &&& 858993459))).toUInt32 >>> ((4 : Int32).toUInt32 &&& Int32.toUInt32 31)).toInt32) &&& 252645135)).toUInt32 >>> ((8 : Int32).toUInt32 &&& Int32.toUInt32 31)).toInt32) + ((((((((v0 - (((v0).toUInt32 >>> ((1 : Int32).toUInt32 &&& Int32.toUInt32 31)).toInt32 &&& 1431655765)) &&& 858993459) + ((((v0 - (((v0).toUInt32 >>> ((1 : Int32).toUInt32 &&& Int32.toUInt32 31)).toInt32 &&& 1431655765))).toUInt32 >>> ((2 : Int32).toUInt32 &&& Int32.toUInt32 31)).toInt32 &&& 858993459)) + (((((v0 - (((v0).toUInt32 >>> ((1 : Int32).toUInt32 &&& Int32.toUInt32 31)).toInt32 &&& 1431655765)) &&& 858993459) + ((((v0 - (((v0).toUInt32 >>> ((1 : Int32).toUInt32 &&& Int32.toUInt32 31)).toInt32 &&& 1431655765))).toUInt32 >>> ((2 : Int32).toUInt32 &&& Int32.toUInt32 31)).toInt32 &&& 858993459))).toUInt32 >>> ((4 : Int32).toUInt32 &&& Int32.toUInt32 31)).toInt32) &&& 252645135) + (((((((v0 - (((v0).toUInt32 >>> ((1 : Int32).toUInt32 &&& Int32.toUInt32 31)).toInt32 &&& 1431655765)) &&& 858993459) + ((((v0 - (((v0).toUInt32 >>> ((1 : Int32).toUInt32 &&& Int32.toUInt32 31)).toInt32 &&& 1431655765))).toUInt32 >>> ((2 : Int32).toUInt32 &&& Int32.toUInt32 31)).toInt32 &&& 858993459)) + (((((v0 - (((v0).toUInt32 >>> ((1 : Int32).toUInt32 &&& Int32.toUInt32 31)).toInt32 &&& 1431655765)) &&& 858993459) + ((((v0 - (((v0).toUInt32 >>> ((1 : Int32).toUInt32 &&& Int32.toUInt32 31)).toInt32 &&& 1431655765))).toUInt32 >>> ((2 : Int32).toUInt32 &&& Int32.toUInt32 31)).toInt32 &&& 858993459))).toUInt32 >>> ((4 : Int32).toUInt32 &&& Int32.toUInt32 31)).toInt32) &&& 252645135)).toUInt32 >>> ((8 : Int32).toUInt32 &&& Int32.toUInt32 31)).toInt32)).toUInt32 >>> ((16 : Int32).toUInt32 &&& Int32.toUInt32 31)).toInt32))]) 0 rfl (by decide) rfl hG dJ6_bitCount_0f7a4_47 ?_
  refine r_iload_n (pc := 48) 0 0 rfl rfl hG dJ6_bitCount_0f7a4_48 ?_
  refine r_bipush (pc := 49) (v := 63) (by decide) hG dJ6_bitCount_0f7a4_49 ?_
  refine r_iand (pc := 51) hG dJ6_bitCount_0f7a4_51 ?_
  exact r_iret (pc := 52) rfl hG dJ6_bitCount_0f7a4_52
set_option maxRecDepth 4000 in
theorem w_Ni_canalCount_J27 {σ : St} {X : Cx} {G : GT Int32} (N : Nat) (hG : IsG X RX4 cX4_canalCount 3 3 (some .int) (oI σ) G) (v1 : Int32) : G (Ni_canalCount_J27 N v1 σ) σ 27 [(1, .int v1)] [] := by
  unfold Ni_canalCount_J27
  refine r_iload_n (pc := 27) 0 1 rfl rfl hG dX4_canalCount_27 ?_
  refine r_iconst (pc := 28) (v := 2) (by decide) hG dX4_canalCount_28 ?_
  refine r_idiv (pc := 29) (by decide) hG dX4_canalCount_29 ?_
  exact r_iret (pc := 30) rfl hG dX4_canalCount_30
set_option maxRecDepth 4000 in
theorem w_Ni_canalCount_L4B {σ : St} {X : Cx} {G : GT Int32} (N : Nat) (hG : IsG X RX4 cX4_canalCount 3 3 (some .int) (oI σ) G) {K4 : Nat → Int32 → Int32 → St → Option Int32} (hK4 : ∀ (v0 : Nat) (v1 : Int32) (v2 : Int32), shp v0 = 4 → G (K4 v0 v1 v2 σ) σ 4 [(0, .ref (X.2.1 + v0)), (1, .int v1), (2, .int v2)] []) (v0 : Nat) (v1 : Int32) (v2 : Int32) (hv0 : shp v0 = 4) : G (Ni_canalCount_L4B N K4 v0 v1 v2 σ) σ 4 [(0, .ref (X.2.1 + v0)), (1, .int v1), (2, .int v2)] [] := by
  unfold Ni_canalCount_L4B
  refine r_iload_n (pc := 4) 2 2 rfl rfl hG dX4_canalCount_4 ?_
  refine r_bipush (pc := 5) (v := 8) (by decide) hG dX4_canalCount_5 ?_
  refine r_icmp_ge (pc := 7) (tgt := 27) (by decide) hG dX4_canalCount_7 (fun h1 => ?_) (fun h1 => ?_)
  · exact r_sub [1] rfl hG (w_Ni_canalCount_J27 N hG v1)
  · refine r_iload_n (pc := 10) 1 1 rfl rfl hG dX4_canalCount_10 ?_
    refine r_aload_n (pc := 11) 0 0 rfl rfl hG dX4_canalCount_11 ?_
    refine r_iload_n (pc := 12) 2 2 rfl rfl hG dX4_canalCount_12 ?_
    refine r_bR hG (fun r2 e4 => ?_)
    refine r_callVi (pc := 13) (As := [.int v2]) (c_Ni_neighbours X N v0 v2 σ hv0 r2 e4) (wsOf_at hv0 (by decide) rfl) rfl mfX4_127_X4_neighbours hyVX4_neighbours (by decide) (by decide) rfl (Nat.le_of_ble_eq_true rfl) hG dX4_canalCount_13 rfl (fun n3 => ?_)
    refine r_callSi (pc := 16) (As := [.int r2]) (c_Jn_bitCount X r2 σ) mfX4_131_J6_bitCount_0f7a4 hySJ6_bitCount_0f7a4 (by decide) (by decide) rfl (Nat.le_of_ble_eq_true rfl) hG dX4_canalCount_16 rfl (fun n6 => ?_)
    refine r_iadd (pc := 19) hG dX4_canalCount_19 ?_
    refine r_bI hG (fun x8 => ?_)
    refine r_istore_n (pc := 20) (lv' := [(1, .int x8), (0, .ref (X.2.1 + v0)), (2, .int v2)]) 1 rfl (by decide) rfl hG dX4_canalCount_20 ?_
    refine r_bIinc (pc := 21) (lv' := fun x9 => [(2, .int x9), (1, .int x8), (0, .ref (X.2.1 + v0))]) 2 rfl rfl (by decide) (fun _ => rfl) hG dX4_canalCount_21 (fun x9 => ?_)
    refine r_goto (pc := 24) (tgt := 4) (by decide) hG dX4_canalCount_24 ?_
    exact r_sub [2, 1, 0] rfl hG (hK4 v0 x8 x9 hv0)
set_option maxRecDepth 4000 in
theorem w_Ni_canalCount_L4 {σ : St} {X : Cx} {G : GT Int32} (N : Nat) (hG : IsG X RX4 cX4_canalCount 3 3 (some .int) (oI σ) G) : ∀ (n : Nat), ∀ (v0 : Nat) (v1 : Int32) (v2 : Int32), shp v0 = 4 → G (Ni_canalCount_L4 N n v0 v1 v2 σ) σ 4 [(0, .ref (X.2.1 + v0)), (1, .int v1), (2, .int v2)] [] := by
  intro n
  induction n with
  | zero => intro v0 v1 v2 hv0; exact r_none hG
  | succ n ih => intro v0 v1 v2 hv0; exact w_Ni_canalCount_L4B N hG ih v0 v1 v2 hv0
set_option maxRecDepth 4000 in
theorem c_Ni_canalCount (X : Cx) (N : Nat) (v0 : Nat) (σ : St) (hv0 : shp v0 = 4) (r : Int32) (hE : Ni_canalCount N v0 σ = some r) : Ctr X yX4_canalCount cX4_canalCount 3 (some .int) 3 [.ref (X.2.1 + v0)] σ (some (.int r)) σ := by
  refine Ctr.of (out := (oI σ)) (E := Ni_canalCount N v0 σ) rfl (Nat.le_of_ble_eq_true rfl) (fun G hG => ?_) r hE
  unfold Ni_canalCount
  refine r_iconst (pc := 0) (v := 0) (by decide) hG dX4_canalCount_0 ?_
  refine r_istore_n (pc := 1) (lv' := [(1, .int 0), (0, .ref (X.2.1 + v0))]) 1 rfl (by decide) rfl hG dX4_canalCount_1 ?_
  refine r_iconst (pc := 2) (v := 0) (by decide) hG dX4_canalCount_2 ?_
  refine r_istore_n (pc := 3) (lv' := [(2, .int 0), (1, .int 0), (0, .ref (X.2.1 + v0))]) 2 rfl (by decide) rfl hG dX4_canalCount_3 ?_
  exact r_sub [2, 1, 0] rfl hG (w_Ni_canalCount_L4 N hG N v0 0 0 hv0)
set_option maxRecDepth 4000 in
theorem w_Ni_sum_L4B {σ : St} {X : Cx} {G : GT Int32} (N : Nat) (hG : IsG X RX4 cX4_sum 4 2 (some .int) (oI σ) G) {K4 : Nat → Int32 → Int32 → Int32 → St → Option Int32} (hK4 : ∀ (v0 : Nat) (v1 : Int32) (v2 : Int32) (v3 : Int32), shp v0 = 4 → G (K4 v0 v1 v2 v3 σ) σ 4 [(0, .ref (X.2.1 + v0)), (1, .int v1), (2, .int v2), (3, .int v3)] []) (v0 : Nat) (v1 : Int32) (v2 : Int32) (v3 : Int32) (hv0 : shp v0 = 4) : G (Ni_sum_L4B N K4 v0 v1 v2 v3 σ) σ 4 [(0, .ref (X.2.1 + v0)), (1, .int v1), (2, .int v2), (3, .int v3)] [] := by
  unfold Ni_sum_L4B
  refine r_iload_n (pc := 4) 3 3 rfl rfl hG dX4_sum_4 ?_
  refine r_aload_n (pc := 5) 0 0 rfl rfl hG dX4_sum_5 ?_
  refine gf4_5 (pc := 6) (i := v0) hv0 lk238 hG dX4_sum_6 ?_
  refine r_icmp_ge (pc := 9) (tgt := 31) (by decide) hG dX4_sum_9 (fun h1 => ?_) (fun h1 => ?_)
  · refine r_iload_n (pc := 31) 2 2 rfl rfl hG dX4_sum_31 ?_
    exact r_iret (pc := 32) rfl hG dX4_sum_32
  · refine r_iload_n (pc := 12) 2 2 rfl rfl hG dX4_sum_12 ?_
    refine r_aload_n (pc := 13) 0 0 rfl rfl hG dX4_sum_13 ?_
    refine gf4_3 (pc := 14) (i := v0) hv0 lk226 hG dX4_sum_14 ?_
    refine r_iload_n (pc := 17) 3 3 rfl rfl hG dX4_sum_17 ?_
    refine r_ck hG (fun h2 => ?_)
    refine r_aGuests (pc := 18) (i := v0) (sh4_4 hv0) (ln4_4 hv0) h2 hG dX4_sum_18 ?_
    refine r_iload_n (pc := 19) 1 1 rfl rfl hG dX4_sum_19 ?_
    refine r_bR hG (fun r3 e5 => ?_)
    refine r_callVi (pc := 20) (As := [.int v1]) (c_Gu_fact X N (v0 + 16 + (v3).toNatClampNeg) v1 σ (shGu hv0 h2) r3 e5) (wsOf_at (shGu hv0 h2) (by decide) rfl) rfl mfX4_136_X1_fact hyVX1_fact (by decide) (by decide) rfl (Nat.le_of_ble_eq_true rfl) hG dX4_sum_20 rfl (fun n4 => ?_)
    refine r_iadd (pc := 23) hG dX4_sum_23 ?_
    refine r_bI hG (fun x6 => ?_)
    refine r_istore_n (pc := 24) (lv' := [(2, .int x6), (0, .ref (X.2.1 + v0)), (1, .int v1), (3, .int v3)]) 2 rfl (by decide) rfl hG dX4_sum_24 ?_
    refine r_bIinc (pc := 25) (lv' := fun x7 => [(3, .int x7), (2, .int x6), (0, .ref (X.2.1 + v0)), (1, .int v1)]) 3 rfl rfl (by decide) (fun _ => rfl) hG dX4_sum_25 (fun x7 => ?_)
    refine r_goto (pc := 28) (tgt := 4) (by decide) hG dX4_sum_28 ?_
    exact r_sub [2, 3, 1, 0] rfl hG (hK4 v0 v1 x6 x7 hv0)
set_option maxRecDepth 4000 in
theorem w_Ni_sum_L4 {σ : St} {X : Cx} {G : GT Int32} (N : Nat) (hG : IsG X RX4 cX4_sum 4 2 (some .int) (oI σ) G) : ∀ (n : Nat), ∀ (v0 : Nat) (v1 : Int32) (v2 : Int32) (v3 : Int32), shp v0 = 4 → G (Ni_sum_L4 N n v0 v1 v2 v3 σ) σ 4 [(0, .ref (X.2.1 + v0)), (1, .int v1), (2, .int v2), (3, .int v3)] [] := by
  intro n
  induction n with
  | zero => intro v0 v1 v2 v3 hv0; exact r_none hG
  | succ n ih => intro v0 v1 v2 v3 hv0; exact w_Ni_sum_L4B N hG ih v0 v1 v2 v3 hv0
set_option maxRecDepth 4000 in
theorem c_Ni_sum (X : Cx) (N : Nat) (v0 : Nat) (v1 : Int32) (σ : St) (hv0 : shp v0 = 4) (r : Int32) (hE : Ni_sum N v0 v1 σ = some r) : Ctr X yX4_sum cX4_sum 4 (some .int) 2 [.ref (X.2.1 + v0), .int v1] σ (some (.int r)) σ := by
  refine Ctr.of (out := (oI σ)) (E := Ni_sum N v0 v1 σ) rfl (Nat.le_of_ble_eq_true rfl) (fun G hG => ?_) r hE
  unfold Ni_sum
  refine r_iconst (pc := 0) (v := 0) (by decide) hG dX4_sum_0 ?_
  refine r_istore_n (pc := 1) (lv' := [(2, .int 0), (0, .ref (X.2.1 + v0)), (1, .int v1)]) 2 rfl (by decide) rfl hG dX4_sum_1 ?_
  refine r_iconst (pc := 2) (v := 0) (by decide) hG dX4_sum_2 ?_
  refine r_istore_n (pc := 3) (lv' := [(3, .int 0), (2, .int 0), (0, .ref (X.2.1 + v0)), (1, .int v1)]) 3 rfl (by decide) rfl hG dX4_sum_3 ?_
  exact r_sub [2, 3, 1, 0] rfl hG (w_Ni_sum_L4 N hG N v0 v1 0 0 hv0)
set_option maxRecDepth 4000 in
theorem w_Ni_shorten_J57 {X : Cx} {G : GT St} (N : Nat) (hG : IsG X RX4 cX4_shorten 5 2 none oWV G) {K10 : Nat → Int32 → Nat → Int32 → St → Option St} (hK10 : ∀ (v0 : Nat) (v1 : Int32) (v2 : Nat) (v3 : Int32) (s : St), shp v0 = 4 → shp v2 = 14 → G (K10 v0 v1 v2 v3 s) s 10 [(0, .ref (X.2.1 + v0)), (1, .int v1), (2, .ref (X.2.1 + v2)), (3, .int v3)] []) (v0 : Nat) (v1 : Int32) (v2 : Nat) (v3 : Int32) (σ : St) (hv0 : shp v0 = 4) (hv2 : shp v2 = 14) : G (Ni_shorten_J57 N K10 v0 v1 v2 v3 σ) σ 57 [(0, .ref (X.2.1 + v0)), (1, .int v1), (2, .ref (X.2.1 + v2)), (3, .int v3)] [] := by
  unfold Ni_shorten_J57
  refine r_bIinc (pc := 57) (lv' := fun x8 => [(3, .int x8), (0, .ref (X.2.1 + v0)), (1, .int v1), (2, .ref (X.2.1 + v2))]) 3 rfl rfl (by decide) (fun _ => rfl) hG dX4_shorten_57 (fun x8 => ?_)
  refine r_goto (pc := 60) (tgt := 10) (by decide) hG dX4_shorten_60 ?_
  exact r_sub [1, 2, 3, 0] rfl hG (hK10 v0 v1 v2 x8 σ hv0 hv2)
set_option maxRecDepth 4000 in
theorem w_Ni_shorten_J48 {X : Cx} {G : GT St} (N : Nat) (hG : IsG X RX4 cX4_shorten 5 2 none oWV G) {K10 : Nat → Int32 → Nat → Int32 → St → Option St} (hK10 : ∀ (v0 : Nat) (v1 : Int32) (v2 : Nat) (v3 : Int32) (s : St), shp v0 = 4 → shp v2 = 14 → G (K10 v0 v1 v2 v3 s) s 10 [(0, .ref (X.2.1 + v0)), (1, .int v1), (2, .ref (X.2.1 + v2)), (3, .int v3)] []) (v0 : Nat) (v1 : Int32) (v2 : Nat) (v3 : Int32) (v4 : Int32) (σ : St) (hv0 : shp v0 = 4) (hv2 : shp v2 = 14) : G (Ni_shorten_J48 N K10 v0 v1 v2 v3 v4 σ) σ 48 [(0, .ref (X.2.1 + v0)), (1, .int v1), (2, .ref (X.2.1 + v2)), (3, .int v3), (4, .int v4)] [] := by
  unfold Ni_shorten_J48
  refine r_aload_n (pc := 48) 2 2 rfl rfl hG dX4_shorten_48 ?_
  refine r_iload_n (pc := 49) 3 3 rfl rfl hG dX4_shorten_49 ?_
  refine r_aload_n (pc := 50) 2 2 rfl rfl hG dX4_shorten_50 ?_
  refine r_iload_n (pc := 51) 1 1 rfl rfl hG dX4_shorten_51 ?_
  refine r_ck hG (fun h11 => ?_)
  refine r_iald (pc := 52) (i := v2) hv2 rfl h11 hG dX4_shorten_52 ?_
  refine r_iload (pc := 53) 4 rfl hG dX4_shorten_53 ?_
  refine r_iadd (pc := 55) hG dX4_shorten_55 ?_
  refine r_ck hG (fun h12 => ?_)
  refine r_iast (pc := 56) (i := v2) hv2 rfl h12 hG dX4_shorten_56 ?_
  refine r_bS hG (fun s13 => ?_)
  exact r_sub [0, 1, 2, 3] rfl hG (w_Ni_shorten_J57 N hG hK10 v0 v1 v2 v3 s13 hv0 hv2)
set_option maxRecDepth 4000 in
theorem w_Ni_shorten_L10B {X : Cx} {G : GT St} (N : Nat) (hG : IsG X RX4 cX4_shorten 5 2 none oWV G) {K10 : Nat → Int32 → Nat → Int32 → St → Option St} (hK10 : ∀ (v0 : Nat) (v1 : Int32) (v2 : Nat) (v3 : Int32) (s : St), shp v0 = 4 → shp v2 = 14 → G (K10 v0 v1 v2 v3 s) s 10 [(0, .ref (X.2.1 + v0)), (1, .int v1), (2, .ref (X.2.1 + v2)), (3, .int v3)] []) (v0 : Nat) (v1 : Int32) (v2 : Nat) (v3 : Int32) (σ : St) (hv0 : shp v0 = 4) (hv2 : shp v2 = 14) : G (Ni_shorten_L10B N K10 v0 v1 v2 v3 σ) σ 10 [(0, .ref (X.2.1 + v0)), (1, .int v1), (2, .ref (X.2.1 + v2)), (3, .int v3)] [] := by
  unfold Ni_shorten_L10B
  refine r_iload_n (pc := 10) 3 3 rfl rfl hG dX4_shorten_10 ?_
  refine r_bipush (pc := 11) (v := 8) (by decide) hG dX4_shorten_11 ?_
  refine r_icmp_ge (pc := 13) (tgt := 63) (by decide) hG dX4_shorten_13 (fun h3 => ?_) (fun h3 => ?_)
  · exact r_vret (pc := 63) rfl hG dX4_shorten_63
  · refine r_aload_n (pc := 16) 0 0 rfl rfl hG dX4_shorten_16 ?_
    refine r_iload_n (pc := 17) 1 1 rfl rfl hG dX4_shorten_17 ?_
    refine r_iload_n (pc := 18) 3 3 rfl rfl hG dX4_shorten_18 ?_
    refine r_bR hG (fun r4 e6 => ?_)
    refine r_callVi (pc := 19) (As := [.int v1, .int v3]) (c_Ni_strokesBetween X N v0 v1 v3 σ hv0 r4 e6) (wsOf_at hv0 (by decide) rfl) rfl mfX4_96_X4_strokesBetween hyVX4_strokesBetween (by decide) (by decide) rfl (Nat.le_of_ble_eq_true rfl) hG dX4_shorten_19 rfl (fun n5 => ?_)
    refine r_istore (pc := 22) (lv' := [(4, .int r4), (0, .ref (X.2.1 + v0)), (1, .int v1), (2, .ref (X.2.1 + v2)), (3, .int v3)]) (by decide) rfl hG dX4_shorten_22 ?_
    refine r_iload (pc := 24) 0 rfl hG dX4_shorten_24 ?_
    refine r_if_le (pc := 26) (tgt := 57) (by decide) hG dX4_shorten_26 (fun h7 => ?_) (fun h7 => ?_)
    · exact r_sub [1, 2, 3, 4] rfl hG (w_Ni_shorten_J57 N hG hK10 v0 v1 v2 v3 σ hv0 hv2)
    · refine r_aload_n (pc := 29) 3 2 rfl rfl hG dX4_shorten_29 ?_
      refine r_iload_n (pc := 30) 4 3 rfl rfl hG dX4_shorten_30 ?_
      refine r_ck hG (fun h9 => ?_)
      refine r_iald (pc := 31) (i := v2) hv2 rfl h9 hG dX4_shorten_31 ?_
      refine r_iconst (pc := 32) (v := (-1)) (by decide) hG dX4_shorten_32 ?_
      refine r_icmp_eq (pc := 33) (tgt := 48) (by decide) hG dX4_shorten_33 (fun h10 => ?_) (fun h10 => ?_)
      · exact r_sub [1, 2, 3, 4, 0] rfl hG (w_Ni_shorten_J48 N hG hK10 v0 v1 v2 v3 r4 σ hv0 hv2)
      · refine r_aload_n (pc := 36) 3 2 rfl rfl hG dX4_shorten_36 ?_
        refine r_iload_n (pc := 37) 2 1 rfl rfl hG dX4_shorten_37 ?_
        refine r_ck hG (fun h14 => ?_)
        refine r_iald (pc := 38) (i := v2) hv2 rfl h14 hG dX4_shorten_38 ?_
        refine r_iload (pc := 39) 0 rfl hG dX4_shorten_39 ?_
        refine r_iadd (pc := 41) hG dX4_shorten_41 ?_
        refine r_aload_n (pc := 42) 3 2 rfl rfl hG dX4_shorten_42 ?_
        refine r_iload_n (pc := 43) 4 3 rfl rfl hG dX4_shorten_43 ?_
        refine r_ck hG (fun h15 => ?_)
        refine r_iald (pc := 44) (i := v2) hv2 rfl h15 hG dX4_shorten_44 ?_
        refine r_icmp_ge (pc := 45) (tgt := 57) (by decide) hG dX4_shorten_45 (fun h16 => ?_) (fun h16 => ?_)
        · exact r_sub [1, 2, 3, 4] rfl hG (w_Ni_shorten_J57 N hG hK10 v0 v1 v2 v3 σ hv0 hv2)
        · exact r_sub [1, 2, 3, 4, 0] rfl hG (w_Ni_shorten_J48 N hG hK10 v0 v1 v2 v3 r4 σ hv0 hv2)
set_option maxRecDepth 4000 in
theorem w_Ni_shorten_L10 {X : Cx} {G : GT St} (N : Nat) (hG : IsG X RX4 cX4_shorten 5 2 none oWV G) : ∀ (n : Nat), ∀ (v0 : Nat) (v1 : Int32) (v2 : Nat) (v3 : Int32) (σ : St), shp v0 = 4 → shp v2 = 14 → G (Ni_shorten_L10 N n v0 v1 v2 v3 σ) σ 10 [(0, .ref (X.2.1 + v0)), (1, .int v1), (2, .ref (X.2.1 + v2)), (3, .int v3)] [] := by
  intro n
  induction n with
  | zero => intro v0 v1 v2 v3 σ hv0 hv2; exact r_none hG
  | succ n ih => intro v0 v1 v2 v3 σ hv0 hv2; exact w_Ni_shorten_L10B N hG ih v0 v1 v2 v3 σ hv0 hv2
set_option maxRecDepth 4000 in
theorem c_Ni_shorten (X : Cx) (N : Nat) (v0 : Nat) (v1 : Int32) (v2 : Nat) (σ : St) (hv0 : shp v0 = 4) (hv2 : shp v2 = 14) (σ1 : St) (hE : Ni_shorten N v0 v1 v2 σ = some σ1) : Ctr X yX4_shorten cX4_shorten 5 none 2 [.ref (X.2.1 + v0), .int v1, .ref (X.2.1 + v2)] σ none σ1 := by
  refine Ctr.of (out := oWV) (E := Ni_shorten N v0 v1 v2 σ) rfl (Nat.le_of_ble_eq_true rfl) (fun G hG => ?_) σ1 hE
  unfold Ni_shorten
  refine r_aload_n (pc := 0) 2 2 rfl rfl hG dX4_shorten_0 ?_
  refine r_iload_n (pc := 1) 1 1 rfl rfl hG dX4_shorten_1 ?_
  refine r_ck hG (fun h1 => ?_)
  refine r_iald (pc := 2) (i := v2) hv2 rfl h1 hG dX4_shorten_2 ?_
  refine r_iconst (pc := 3) (v := (-1)) (by decide) hG dX4_shorten_3 ?_
  refine r_icmp_ne (pc := 4) (tgt := 8) (by decide) hG dX4_shorten_4 (fun h2 => ?_) (fun h2 => ?_)
  · refine r_iconst (pc := 8) (v := 0) (by decide) hG dX4_shorten_8 ?_
    refine r_istore_n (pc := 9) (lv' := [(3, .int 0), (0, .ref (X.2.1 + v0)), (1, .int v1), (2, .ref (X.2.1 + v2))]) 3 rfl (by decide) rfl hG dX4_shorten_9 ?_
    exact r_sub [1, 2, 3, 0] rfl hG (w_Ni_shorten_L10 N hG N v0 v1 v2 0 σ hv0 hv2)
  · exact r_vret (pc := 7) rfl hG dX4_shorten_7
set_option maxRecDepth 4000 in
theorem w_Ni_measureFrom_J53 {X : Cx} {G : GT St} (N : Nat) (hG : IsG X RX4 cX4_measureFrom 5 3 none oWV G) {K24 : Nat → Nat → Int32 → St → Option St} (hK24 : ∀ (v0 : Nat) (v2 : Nat) (v3 : Int32) (s : St), shp v0 = 4 → shp v2 = 14 → G (K24 v0 v2 v3 s) s 24 [(0, .ref (X.2.1 + v0)), (2, .ref (X.2.1 + v2)), (3, .int v3)] []) (v0 : Nat) (v2 : Nat) (v3 : Int32) (σ : St) (hv0 : shp v0 = 4) (hv2 : shp v2 = 14) : G (Ni_measureFrom_J53 N K24 v0 v2 v3 σ) σ 53 [(0, .ref (X.2.1 + v0)), (2, .ref (X.2.1 + v2)), (3, .int v3)] [] := by
  unfold Ni_measureFrom_J53
  refine r_bIinc (pc := 53) (lv' := fun x6 => [(3, .int x6), (0, .ref (X.2.1 + v0)), (2, .ref (X.2.1 + v2))]) 2 rfl rfl (by decide) (fun _ => rfl) hG dX4_measureFrom_53 (fun x6 => ?_)
  refine r_goto (pc := 56) (tgt := 24) (by decide) hG dX4_measureFrom_56 ?_
  exact r_sub [1, 2, 0] rfl hG (hK24 v0 v2 x6 σ hv0 hv2)
set_option maxRecDepth 4000 in
theorem w_Ni_measureFrom_L33B {X : Cx} {G : GT St} (N : Nat) (hG : IsG X RX4 cX4_measureFrom 5 3 none oWV G) {K24 : Nat → Nat → Int32 → St → Option St} {K33 : Nat → Nat → Int32 → Int32 → St → Option St} (hK24 : ∀ (v0 : Nat) (v2 : Nat) (v3 : Int32) (s : St), shp v0 = 4 → shp v2 = 14 → G (K24 v0 v2 v3 s) s 24 [(0, .ref (X.2.1 + v0)), (2, .ref (X.2.1 + v2)), (3, .int v3)] []) (hK33 : ∀ (v0 : Nat) (v2 : Nat) (v3 : Int32) (v4 : Int32) (s : St), shp v0 = 4 → shp v2 = 14 → G (K33 v0 v2 v3 v4 s) s 33 [(0, .ref (X.2.1 + v0)), (2, .ref (X.2.1 + v2)), (3, .int v3), (4, .int v4)] []) (v0 : Nat) (v2 : Nat) (v3 : Int32) (v4 : Int32) (σ : St) (hv0 : shp v0 = 4) (hv2 : shp v2 = 14) : G (Ni_measureFrom_L33B N K24 K33 v0 v2 v3 v4 σ) σ 33 [(0, .ref (X.2.1 + v0)), (2, .ref (X.2.1 + v2)), (3, .int v3), (4, .int v4)] [] := by
  unfold Ni_measureFrom_L33B
  refine r_iload (pc := 33) 3 rfl hG dX4_measureFrom_33 ?_
  refine r_bipush (pc := 35) (v := 8) (by decide) hG dX4_measureFrom_35 ?_
  refine r_icmp_ge (pc := 37) (tgt := 53) (by decide) hG dX4_measureFrom_37 (fun h5 => ?_) (fun h5 => ?_)
  · exact r_sub [0, 1, 2] rfl hG (w_Ni_measureFrom_J53 N hG hK24 v0 v2 v3 σ hv0 hv2)
  · refine r_aload_n (pc := 40) 0 0 rfl rfl hG dX4_measureFrom_40 ?_
    refine r_iload (pc := 41) 3 rfl hG dX4_measureFrom_41 ?_
    refine r_aload_n (pc := 43) 1 2 rfl rfl hG dX4_measureFrom_43 ?_
    refine r_bR hG (fun s8 e10 => ?_)
    refine r_callVv (pc := 44) (As := [.int v4, .ref (X.2.1 + v2)]) (c_Ni_shorten X N v0 v4 v2 σ hv0 hv2 s8 e10) (wsOf_at hv0 (by decide) rfl) rfl mfX4_139_X4_shorten hyVX4_shorten (by decide) (by decide) rfl (Nat.le_of_ble_eq_true rfl) hG dX4_measureFrom_44 rfl (fun n9 => ?_)
    refine r_bIinc (pc := 47) (lv' := fun x11 => [(4, .int x11), (0, .ref (X.2.1 + v0)), (2, .ref (X.2.1 + v2)), (3, .int v3)]) 3 rfl rfl (by decide) (fun _ => rfl) hG dX4_measureFrom_47 (fun x11 => ?_)
    refine r_goto (pc := 50) (tgt := 33) (by decide) hG dX4_measureFrom_50 ?_
    exact r_sub [1, 2, 3, 0] rfl hG (hK33 v0 v2 v3 x11 s8 hv0 hv2)
set_option maxRecDepth 4000 in
theorem w_Ni_measureFrom_L33 {X : Cx} {G : GT St} (N : Nat) (hG : IsG X RX4 cX4_measureFrom 5 3 none oWV G) {K24 : Nat → Nat → Int32 → St → Option St} (hK24 : ∀ (v0 : Nat) (v2 : Nat) (v3 : Int32) (s : St), shp v0 = 4 → shp v2 = 14 → G (K24 v0 v2 v3 s) s 24 [(0, .ref (X.2.1 + v0)), (2, .ref (X.2.1 + v2)), (3, .int v3)] []) : ∀ (n : Nat), ∀ (v0 : Nat) (v2 : Nat) (v3 : Int32) (v4 : Int32) (σ : St), shp v0 = 4 → shp v2 = 14 → G (Ni_measureFrom_L33 N K24 n v0 v2 v3 v4 σ) σ 33 [(0, .ref (X.2.1 + v0)), (2, .ref (X.2.1 + v2)), (3, .int v3), (4, .int v4)] [] := by
  intro n
  induction n with
  | zero => intro v0 v2 v3 v4 σ hv0 hv2; exact r_none hG
  | succ n ih => intro v0 v2 v3 v4 σ hv0 hv2; exact w_Ni_measureFrom_L33B N hG hK24 ih v0 v2 v3 v4 σ hv0 hv2
set_option maxRecDepth 4000 in
theorem w_Ni_measureFrom_L24B {X : Cx} {G : GT St} (N : Nat) (hG : IsG X RX4 cX4_measureFrom 5 3 none oWV G) {K24 : Nat → Nat → Int32 → St → Option St} (hK24 : ∀ (v0 : Nat) (v2 : Nat) (v3 : Int32) (s : St), shp v0 = 4 → shp v2 = 14 → G (K24 v0 v2 v3 s) s 24 [(0, .ref (X.2.1 + v0)), (2, .ref (X.2.1 + v2)), (3, .int v3)] []) (v0 : Nat) (v2 : Nat) (v3 : Int32) (σ : St) (hv0 : shp v0 = 4) (hv2 : shp v2 = 14) : G (Ni_measureFrom_L24B N K24 v0 v2 v3 σ) σ 24 [(0, .ref (X.2.1 + v0)), (2, .ref (X.2.1 + v2)), (3, .int v3)] [] := by
  unfold Ni_measureFrom_L24B
  refine r_iload_n (pc := 24) 2 3 rfl rfl hG dX4_measureFrom_24 ?_
  refine r_bipush (pc := 25) (v := 8) (by decide) hG dX4_measureFrom_25 ?_
  refine r_icmp_ge (pc := 27) (tgt := 59) (by decide) hG dX4_measureFrom_27 (fun h4 => ?_) (fun h4 => ?_)
  · exact r_vret (pc := 59) rfl hG dX4_measureFrom_59
  · refine r_iconst (pc := 30) (v := 0) (by decide) hG dX4_measureFrom_30 ?_
    refine r_istore (pc := 31) (lv' := [(4, .int 0), (0, .ref (X.2.1 + v0)), (2, .ref (X.2.1 + v2)), (3, .int v3)]) (by decide) rfl hG dX4_measureFrom_31 ?_
    exact r_sub [1, 2, 3, 0] rfl hG (w_Ni_measureFrom_L33 N hG hK24 N v0 v2 v3 0 σ hv0 hv2)
set_option maxRecDepth 4000 in
theorem w_Ni_measureFrom_L24 {X : Cx} {G : GT St} (N : Nat) (hG : IsG X RX4 cX4_measureFrom 5 3 none oWV G) : ∀ (n : Nat), ∀ (v0 : Nat) (v2 : Nat) (v3 : Int32) (σ : St), shp v0 = 4 → shp v2 = 14 → G (Ni_measureFrom_L24 N n v0 v2 v3 σ) σ 24 [(0, .ref (X.2.1 + v0)), (2, .ref (X.2.1 + v2)), (3, .int v3)] [] := by
  intro n
  induction n with
  | zero => intro v0 v2 v3 σ hv0 hv2; exact r_none hG
  | succ n ih => intro v0 v2 v3 σ hv0 hv2; exact w_Ni_measureFrom_L24B N hG ih v0 v2 v3 σ hv0 hv2
set_option maxRecDepth 4000 in
theorem w_Ni_measureFrom_J18 {X : Cx} {G : GT St} (N : Nat) (hG : IsG X RX4 cX4_measureFrom 5 3 none oWV G) (v0 : Nat) (v1 : Int32) (v2 : Nat) (σ : St) (hv0 : shp v0 = 4) (hv2 : shp v2 = 14) : G (Ni_measureFrom_J18 N v0 v1 v2 σ) σ 18 [(0, .ref (X.2.1 + v0)), (1, .int v1), (2, .ref (X.2.1 + v2))] [] := by
  unfold Ni_measureFrom_J18
  refine r_aload_n (pc := 18) 2 2 rfl rfl hG dX4_measureFrom_18 ?_
  refine r_iload_n (pc := 19) 1 1 rfl rfl hG dX4_measureFrom_19 ?_
  refine r_iconst (pc := 20) (v := 0) (by decide) hG dX4_measureFrom_20 ?_
  refine r_ck hG (fun h2 => ?_)
  refine r_iast (pc := 21) (i := v2) hv2 rfl h2 hG dX4_measureFrom_21 ?_
  refine r_bS hG (fun s3 => ?_)
  refine r_iconst (pc := 22) (v := 1) (by decide) hG dX4_measureFrom_22 ?_
  refine r_istore_n (pc := 23) (lv' := [(3, .int 1), (0, .ref (X.2.1 + v0)), (1, .int v1), (2, .ref (X.2.1 + v2))]) 3 rfl (by decide) rfl hG dX4_measureFrom_23 ?_
  exact r_sub [1, 3, 0] rfl hG (w_Ni_measureFrom_L24 N hG N v0 v2 1 s3 hv0 hv2)
set_option maxRecDepth 4000 in
theorem w_Ni_measureFrom_L2B {X : Cx} {G : GT St} (N : Nat) (hG : IsG X RX4 cX4_measureFrom 5 3 none oWV G) {K2 : Nat → Int32 → Nat → Int32 → St → Option St} (hK2 : ∀ (v0 : Nat) (v1 : Int32) (v2 : Nat) (v3 : Int32) (s : St), shp v0 = 4 → shp v2 = 14 → G (K2 v0 v1 v2 v3 s) s 2 [(0, .ref (X.2.1 + v0)), (1, .int v1), (2, .ref (X.2.1 + v2)), (3, .int v3)] []) (v0 : Nat) (v1 : Int32) (v2 : Nat) (v3 : Int32) (σ : St) (hv0 : shp v0 = 4) (hv2 : shp v2 = 14) : G (Ni_measureFrom_L2B N K2 v0 v1 v2 v3 σ) σ 2 [(0, .ref (X.2.1 + v0)), (1, .int v1), (2, .ref (X.2.1 + v2)), (3, .int v3)] [] := by
  unfold Ni_measureFrom_L2B
  refine r_iload_n (pc := 2) 3 3 rfl rfl hG dX4_measureFrom_2 ?_
  refine r_bipush (pc := 3) (v := 8) (by decide) hG dX4_measureFrom_3 ?_
  refine r_icmp_ge (pc := 5) (tgt := 18) (by decide) hG dX4_measureFrom_5 (fun h1 => ?_) (fun h1 => ?_)
  · exact r_sub [0, 1, 2] rfl hG (w_Ni_measureFrom_J18 N hG v0 v1 v2 σ hv0 hv2)
  · refine r_aload_n (pc := 8) 2 2 rfl rfl hG dX4_measureFrom_8 ?_
    refine r_iload_n (pc := 9) 3 3 rfl rfl hG dX4_measureFrom_9 ?_
    refine r_iconst (pc := 10) (v := (-1)) (by decide) hG dX4_measureFrom_10 ?_
    refine r_ck hG (fun h12 => ?_)
    refine r_iast (pc := 11) (i := v2) hv2 rfl h12 hG dX4_measureFrom_11 ?_
    refine r_bS hG (fun s13 => ?_)
    refine r_bIinc (pc := 12) (lv' := fun x14 => [(3, .int x14), (0, .ref (X.2.1 + v0)), (1, .int v1), (2, .ref (X.2.1 + v2))]) 3 rfl rfl (by decide) (fun _ => rfl) hG dX4_measureFrom_12 (fun x14 => ?_)
    refine r_goto (pc := 15) (tgt := 2) (by decide) hG dX4_measureFrom_15 ?_
    exact r_sub [1, 2, 3, 0] rfl hG (hK2 v0 v1 v2 x14 s13 hv0 hv2)
set_option maxRecDepth 4000 in
theorem w_Ni_measureFrom_L2 {X : Cx} {G : GT St} (N : Nat) (hG : IsG X RX4 cX4_measureFrom 5 3 none oWV G) : ∀ (n : Nat), ∀ (v0 : Nat) (v1 : Int32) (v2 : Nat) (v3 : Int32) (σ : St), shp v0 = 4 → shp v2 = 14 → G (Ni_measureFrom_L2 N n v0 v1 v2 v3 σ) σ 2 [(0, .ref (X.2.1 + v0)), (1, .int v1), (2, .ref (X.2.1 + v2)), (3, .int v3)] [] := by
  intro n
  induction n with
  | zero => intro v0 v1 v2 v3 σ hv0 hv2; exact r_none hG
  | succ n ih => intro v0 v1 v2 v3 σ hv0 hv2; exact w_Ni_measureFrom_L2B N hG ih v0 v1 v2 v3 σ hv0 hv2
set_option maxRecDepth 4000 in
theorem c_Ni_measureFrom (X : Cx) (N : Nat) (v0 : Nat) (v1 : Int32) (v2 : Nat) (σ : St) (hv0 : shp v0 = 4) (hv2 : shp v2 = 14) (σ1 : St) (hE : Ni_measureFrom N v0 v1 v2 σ = some σ1) : Ctr X yX4_measureFrom cX4_measureFrom 5 none 3 [.ref (X.2.1 + v0), .int v1, .ref (X.2.1 + v2)] σ none σ1 := by
  refine Ctr.of (out := oWV) (E := Ni_measureFrom N v0 v1 v2 σ) rfl (Nat.le_of_ble_eq_true rfl) (fun G hG => ?_) σ1 hE
  unfold Ni_measureFrom
  refine r_iconst (pc := 0) (v := 0) (by decide) hG dX4_measureFrom_0 ?_
  refine r_istore_n (pc := 1) (lv' := [(3, .int 0), (0, .ref (X.2.1 + v0)), (1, .int v1), (2, .ref (X.2.1 + v2))]) 3 rfl (by decide) rfl hG dX4_measureFrom_1 ?_
  exact r_sub [1, 2, 3, 0] rfl hG (w_Ni_measureFrom_L2 N hG N v0 v1 v2 0 σ hv0 hv2)
