set_option maxRecDepth 4000 in
theorem c_Wy_search (X : Cx) (N : Nat) (v1 : Nat) (v2 : Nat) (v3 : Nat) (σ : St) (hv1 : shp v1 = 4) (hv2 : shp v2 = 1) (hv3 : shp v3 = 7) (σ1 : St) (hE : Wy_search N v1 v2 v3 σ = some σ1) : Ctr X yX10_search cX10_search 4 none 19 [.ref (X.2.1 + 47), .ref (X.2.1 + v1), .ref (X.2.1 + v2), .ref (X.2.1 + v3)] σ none σ1 := by
  refine Ctr.of (out := oWV) (E := Wy_search N v1 v2 v3 σ) rfl (Nat.le_of_ble_eq_true rfl) (fun G hG => ?_) σ1 hE
  unfold Wy_search
  refine r_aload_n (pc := 0) 0 0 rfl rfl hG dX10_search_0 ?_
  refine r_iconst (pc := 1) (v := 0) (by decide) hG dX10_search_1 ?_
  refine pf10_2 (pc := 2) lk287 hG dX10_search_2 ?_
  refine r_bS hG (fun s1 => ?_)
  refine r_aload_n (pc := 5) 0 0 rfl rfl hG dX10_search_5 ?_
  refine r_iconst (pc := 6) (v := (-1)) (by decide) hG dX10_search_6 ?_
  refine pf10_6 (pc := 7) lk299 hG dX10_search_7 ?_
  refine r_bS hG (fun s2 => ?_)
  refine r_aload_n (pc := 10) 2 2 rfl rfl hG dX10_search_10 ?_
  refine gf1_4 (pc := 11) (i := v2) hv2 lk192 hG dX10_search_11 ?_
  refine r_bipush (pc := 14) (v := 7) (by decide) hG dX10_search_14 ?_
  refine r_icmp_ne (pc := 16) (tgt := 20) (by decide) hG dX10_search_16 (fun h3 => ?_) (fun h3 => ?_)
  · refine r_aload_n (pc := 20) 0 0 rfl rfl hG dX10_search_20 ?_
    refine gf10_0 (pc := 21) lk283 hG dX10_search_21 ?_
    refine r_iconst (pc := 24) (v := 0) (by decide) hG dX10_search_24 ?_
    refine r_aTrail (pc := 25) rfl (by decide) hG dX10_search_25 ?_
    refine r_aload_n (pc := 26) 2 2 rfl rfl hG dX10_search_26 ?_
    refine r_bR hG (fun s5 e7 => ?_)
    refine r_callVv (pc := 27) (As := [.ref (X.2.1 + v2)]) (c_Gu_take X N (50 + (0 : Int32).toNatClampNeg) v2 s2 (shTr (by decide)) hv2 s5 e7) (wsOf_at (shTr (by decide)) (by decide) rfl) rfl mfX10_32_X1_take hyVX1_take (by decide) (by decide) rfl (Nat.le_of_ble_eq_true rfl) hG dX10_search_27 rfl (fun n6 => ?_)
    refine r_aload_n (pc := 30) 0 0 rfl rfl hG dX10_search_30 ?_
    refine r_aload_n (pc := 31) 1 1 rfl rfl hG dX10_search_31 ?_
    refine r_aload_n (pc := 32) 3 3 rfl rfl hG dX10_search_32 ?_
    refine r_iconst (pc := 33) (v := 0) (by decide) hG dX10_search_33 ?_
    refine r_iconst (pc := 34) (v := 1) (by decide) hG dX10_search_34 ?_
    refine r_aload_n (pc := 35) 2 2 rfl rfl hG dX10_search_35 ?_
    refine gf1_4 (pc := 36) (i := v2) hv2 lk192 hG dX10_search_36 ?_
    refine r_ishl (pc := 39) hG dX10_search_39 ?_
    refine r_bR hG (fun s9 e11 => ?_)
    refine r_callVv (pc := 40) (As := [.ref (X.2.1 + v1), .ref (X.2.1 + v3), .int 0, .int (1 <<< ((s5.1 v2 4) &&& 31))]) (c_Wy_explore X N 10 v1 v3 0 (1 <<< ((s5.1 v2 4) &&& 31)) s5 hv1 hv3 s9 e11) (wsOf_at (rfl : shp 47 = 10) (by decide) rfl) rfl mfX10_36_X10_explore hyVX10_explore (by decide) (by decide) rfl (Nat.le_of_ble_eq_true rfl) hG dX10_search_40 rfl (fun n10 => ?_)
    exact r_vret (pc := 43) rfl hG dX10_search_43
  · exact r_vret (pc := 19) rfl hG dX10_search_19
set_option maxRecDepth 4000 in
theorem w_Sh_settle_J36 {X : Cx} {G : GT St} (N : Nat) (hG : IsG X RX8 cX8_settle 4 2 none oWV G) (v1 : Int32) (v2 : Int32) (w0 : Int32) (σ : St) : G (Sh_settle_J36 N v1 v2 w0 σ) σ 36 [(0, .ref (X.2.1 + 58)), (1, .int v1), (2, .int v2)] [.int w0] := by
  unfold Sh_settle_J36
  refine r_istore_n (pc := 36) (lv' := [(3, .int w0), (0, .ref (X.2.1 + 58)), (1, .int v1), (2, .int v2)]) 3 rfl (by decide) rfl hG dX8_settle_36 ?_
  refine r_iload_n (pc := 37) 0 3 rfl rfl hG dX8_settle_37 ?_
  refine r_if_ne (pc := 38) (tgt := 42) (by decide) hG dX8_settle_38 (fun h2 => ?_) (fun h2 => ?_)
  · refine r_aload_n (pc := 42) 1 0 rfl rfl hG dX8_settle_42 ?_
    refine r_iconst (pc := 43) (v := 1) (by decide) hG dX8_settle_43 ?_
    refine pf8_5 (pc := 44) rvN_b1 lk330 hG dX8_settle_44 ?_
    refine r_bS hG (fun s3 => ?_)
    refine r_aload_n (pc := 47) 1 0 rfl rfl hG dX8_settle_47 ?_
    refine r_iload_n (pc := 48) 2 1 rfl rfl hG dX8_settle_48 ?_
    refine pf8_6 (pc := 49) lk332 hG dX8_settle_49 ?_
    refine r_bS hG (fun s4 => ?_)
    refine r_aload_n (pc := 52) 1 0 rfl rfl hG dX8_settle_52 ?_
    refine r_iload_n (pc := 53) 3 2 rfl rfl hG dX8_settle_53 ?_
    refine pf8_7 (pc := 54) lk334 hG dX8_settle_54 ?_
    refine r_bS hG (fun s5 => ?_)
    refine r_aload_n (pc := 57) 1 0 rfl rfl hG dX8_settle_57 ?_
    refine gf8_3 (pc := 58) lk327 hG dX8_settle_58 ?_
    refine r_iconst (pc := 61) (v := 0) (by decide) hG dX8_settle_61 ?_
    refine r_aload_n (pc := 62) 1 0 rfl rfl hG dX8_settle_62 ?_
    refine gf8_4 (pc := 63) lk328 hG dX8_settle_63 ?_
    refine r_iconst (pc := 66) (v := 0) (by decide) hG dX8_settle_66 ?_
    refine r_iconst (pc := 67) (v := 4) (by decide) hG dX8_settle_67 ?_
    refine r_ck hG (fun h6 => ?_)
    refine r_acopy (pc := 68) (i0 := 62) (i := 63) (rfl : shp 62 = 14) (rfl : shp 63 = 14) rfl rfl h6 lk866 (by omega) (Nat.le_of_ble_eq_true rfl) hG dX8_settle_68 ?_
    refine r_bS hG (fun s7 => ?_)
    exact r_vret (pc := 71) rfl hG dX8_settle_71
  · exact r_vret (pc := 41) rfl hG dX8_settle_41
set_option maxRecDepth 4000 in
theorem w_Sh_settle_J31 {X : Cx} {G : GT St} (N : Nat) (hG : IsG X RX8 cX8_settle 4 2 none oWV G) (v1 : Int32) (v2 : Int32) (σ : St) : G (Sh_settle_J31 N v1 v2 σ) σ 31 [(0, .ref (X.2.1 + 58)), (1, .int v1), (2, .int v2)] [] := by
  unfold Sh_settle_J31
  refine r_iconst (pc := 31) (v := 1) (by decide) hG dX8_settle_31 ?_
  refine r_goto (pc := 32) (tgt := 36) (by decide) hG dX8_settle_32 ?_
  exact w_Sh_settle_J36 N hG v1 v2 1 σ
set_option maxRecDepth 4000 in
theorem w_Sh_settle_J35 {X : Cx} {G : GT St} (N : Nat) (hG : IsG X RX8 cX8_settle 4 2 none oWV G) (v1 : Int32) (v2 : Int32) (σ : St) : G (Sh_settle_J35 N v1 v2 σ) σ 35 [(0, .ref (X.2.1 + 58)), (1, .int v1), (2, .int v2)] [] := by
  unfold Sh_settle_J35
  refine r_iconst (pc := 35) (v := 0) (by decide) hG dX8_settle_35 ?_
  exact w_Sh_settle_J36 N hG v1 v2 0 σ
set_option maxRecDepth 4000 in
theorem c_Sh_settle (X : Cx) (N : Nat) (v1 : Int32) (v2 : Int32) (σ : St) (σ1 : St) (hE : Sh_settle N v1 v2 σ = some σ1) : Ctr X yX8_settle cX8_settle 4 none 2 [.ref (X.2.1 + 58), .int v1, .int v2] σ none σ1 := by
  refine Ctr.of (out := oWV) (E := Sh_settle N v1 v2 σ) rfl (Nat.le_of_ble_eq_true rfl) (fun G hG => ?_) σ1 hE
  unfold Sh_settle
  refine r_aload_n (pc := 0) 0 0 rfl rfl hG dX8_settle_0 ?_
  refine gf8_5 (pc := 1) lk330 hG dX8_settle_1 ?_
  refine r_if_eq (pc := 4) (tgt := 31) (by decide) hG dX8_settle_4 (fun h1 => ?_) (fun h1 => ?_)
  · exact w_Sh_settle_J31 N hG v1 v2 σ
  · refine r_iload_n (pc := 7) 1 1 rfl rfl hG dX8_settle_7 ?_
    refine r_aload_n (pc := 8) 0 0 rfl rfl hG dX8_settle_8 ?_
    refine gf8_6 (pc := 9) lk332 hG dX8_settle_9 ?_
    refine r_icmp_gt (pc := 12) (tgt := 31) (by decide) hG dX8_settle_12 (fun h8 => ?_) (fun h8 => ?_)
    · exact w_Sh_settle_J31 N hG v1 v2 σ
    · refine r_iload_n (pc := 15) 1 1 rfl rfl hG dX8_settle_15 ?_
      refine r_aload_n (pc := 16) 0 0 rfl rfl hG dX8_settle_16 ?_
      refine gf8_6 (pc := 17) lk332 hG dX8_settle_17 ?_
      refine r_icmp_ne (pc := 20) (tgt := 35) (by decide) hG dX8_settle_20 (fun h9 => ?_) (fun h9 => ?_)
      · exact w_Sh_settle_J35 N hG v1 v2 σ
      · refine r_iload_n (pc := 23) 2 2 rfl rfl hG dX8_settle_23 ?_
        refine r_aload_n (pc := 24) 0 0 rfl rfl hG dX8_settle_24 ?_
        refine gf8_7 (pc := 25) lk334 hG dX8_settle_25 ?_
        refine r_icmp_ge (pc := 28) (tgt := 35) (by decide) hG dX8_settle_28 (fun h10 => ?_) (fun h10 => ?_)
        · exact w_Sh_settle_J35 N hG v1 v2 σ
        · exact w_Sh_settle_J31 N hG v1 v2 σ
set_option maxRecDepth 4000 in
theorem w_Sh_assign_J13 {X : Cx} {d : Nat} {G : GT St} (N : Nat) (self : Nat → Int32 → Int32 → Int32 → St → Option St) (hself : ∀ (a1 : Nat) (a2 : Int32) (a3 : Int32) (a4 : Int32) (s0 : St), shp a1 = 4 → ∀ (r : St), self a1 a2 a3 a4 s0 = some r → Ctr X yX8_assign cX8_assign 8 none (d + 2) [.ref (X.2.1 + 58), .ref (X.2.1 + a1), .int a2, .int a3, .int a4] s0 none r) (hG : IsG X RX8 cX8_assign 8 (d + 3) none oWV G) (v3 : Int32) (v4 : Int32) (σ : St) : G (Sh_assign_J13 N self v3 v4 σ) σ 13 [(0, .ref (X.2.1 + 58)), (3, .int v3), (4, .int v4)] [] := by
  unfold Sh_assign_J13
  refine r_aload_n (pc := 13) 0 0 rfl rfl hG dX8_assign_13 ?_
  refine r_iload_n (pc := 14) 1 3 rfl rfl hG dX8_assign_14 ?_
  refine r_iload (pc := 15) 2 rfl hG dX8_assign_15 ?_
  refine r_bR hG (fun s3 e5 => ?_)
  refine r_callVv (pc := 17) (As := [.int v3, .int v4]) (c_Sh_settle X N v3 v4 σ s3 e5) (wsOf_at (rfl : shp 58 = 8) (by decide) rfl) rfl mfX8_67_X8_settle hyVX8_settle (by omega) (by decide) rfl (Nat.le_of_ble_eq_true rfl) hG dX8_assign_17 rfl (fun n4 => ?_)
  exact r_vret (pc := 20) rfl hG dX8_assign_20
set_option maxRecDepth 4000 in
theorem w_Sh_assign_J169 {X : Cx} {d : Nat} {G : GT St} (N : Nat) (self : Nat → Int32 → Int32 → Int32 → St → Option St) (hself : ∀ (a1 : Nat) (a2 : Int32) (a3 : Int32) (a4 : Int32) (s0 : St), shp a1 = 4 → ∀ (r : St), self a1 a2 a3 a4 s0 = some r → Ctr X yX8_assign cX8_assign 8 none (d + 2) [.ref (X.2.1 + 58), .ref (X.2.1 + a1), .int a2, .int a3, .int a4] s0 none r) (hG : IsG X RX8 cX8_assign 8 (d + 3) none oWV G) {K73 : Nat → Int32 → Int32 → Int32 → Int32 → St → Option St} (hK73 : ∀ (v1 : Nat) (v2 : Int32) (v3 : Int32) (v4 : Int32) (v6 : Int32) (s : St), shp v1 = 4 → G (K73 v1 v2 v3 v4 v6 s) s 73 [(0, .ref (X.2.1 + 58)), (1, .ref (X.2.1 + v1)), (2, .int v2), (3, .int v3), (4, .int v4), (6, .int v6)] []) (v1 : Nat) (v2 : Int32) (v3 : Int32) (v4 : Int32) (v6 : Int32) (σ : St) (hv1 : shp v1 = 4) : G (Sh_assign_J169 N self K73 v1 v2 v3 v4 v6 σ) σ 169 [(0, .ref (X.2.1 + 58)), (1, .ref (X.2.1 + v1)), (2, .int v2), (3, .int v3), (4, .int v4), (6, .int v6)] [] := by
  unfold Sh_assign_J169
  refine r_bIinc (pc := 169) (lv' := fun x13 => [(6, .int x13), (0, .ref (X.2.1 + 58)), (1, .ref (X.2.1 + v1)), (2, .int v2), (3, .int v3), (4, .int v4)]) 5 rfl rfl (by decide) (fun _ => rfl) hG dX8_assign_169 (fun x13 => ?_)
  refine r_goto (pc := 172) (tgt := 73) (by decide) hG dX8_assign_172 ?_
  exact r_sub [1, 2, 3, 4, 5, 0] rfl hG (hK73 v1 v2 v3 v4 x13 σ hv1)
set_option maxRecDepth 4000 in
theorem w_Sh_assign_L73B {X : Cx} {d : Nat} {G : GT St} (N : Nat) (self : Nat → Int32 → Int32 → Int32 → St → Option St) (hself : ∀ (a1 : Nat) (a2 : Int32) (a3 : Int32) (a4 : Int32) (s0 : St), shp a1 = 4 → ∀ (r : St), self a1 a2 a3 a4 s0 = some r → Ctr X yX8_assign cX8_assign 8 none (d + 2) [.ref (X.2.1 + 58), .ref (X.2.1 + a1), .int a2, .int a3, .int a4] s0 none r) (hG : IsG X RX8 cX8_assign 8 (d + 3) none oWV G) {K73 : Nat → Int32 → Int32 → Int32 → Int32 → St → Option St} (hK73 : ∀ (v1 : Nat) (v2 : Int32) (v3 : Int32) (v4 : Int32) (v6 : Int32) (s : St), shp v1 = 4 → G (K73 v1 v2 v3 v4 v6 s) s 73 [(0, .ref (X.2.1 + 58)), (1, .ref (X.2.1 + v1)), (2, .int v2), (3, .int v3), (4, .int v4), (6, .int v6)] []) (v1 : Nat) (v2 : Int32) (v3 : Int32) (v4 : Int32) (v6 : Int32) (σ : St) (hv1 : shp v1 = 4) : G (Sh_assign_L73B N self K73 v1 v2 v3 v4 v6 σ) σ 73 [(0, .ref (X.2.1 + 58)), (1, .ref (X.2.1 + v1)), (2, .int v2), (3, .int v3), (4, .int v4), (6, .int v6)] [] := by
  unfold Sh_assign_L73B
  refine r_iload (pc := 73) 5 rfl hG dX8_assign_73 ?_
  refine r_aload_n (pc := 75) 1 1 rfl rfl hG dX8_assign_75 ?_
  refine gf4_4 (pc := 76) (i := v1) hv1 lk232 hG dX8_assign_76 ?_
  refine r_icmp_ge (pc := 79) (tgt := 175) (by decide) hG dX8_assign_79 (fun h9 => ?_) (fun h9 => ?_)
  · exact r_vret (pc := 175) rfl hG dX8_assign_175
  · refine r_iload_n (pc := 82) 2 2 rfl rfl hG dX8_assign_82 ?_
    refine r_iconst (pc := 83) (v := 3) (by decide) hG dX8_assign_83 ?_
    refine r_imul (pc := 84) hG dX8_assign_84 ?_
    refine r_iload (pc := 85) 5 rfl hG dX8_assign_85 ?_
    refine r_iadd (pc := 87) hG dX8_assign_87 ?_
    refine r_bI hG (fun x10 => ?_)
    refine r_istore (pc := 88) (lv' := [(7, .int x10), (0, .ref (X.2.1 + 58)), (1, .ref (X.2.1 + v1)), (2, .int v2), (3, .int v3), (4, .int v4), (6, .int v6)]) (by decide) rfl hG dX8_assign_88 ?_
    refine r_aload_n (pc := 90) 1 0 rfl rfl hG dX8_assign_90 ?_
    refine gf8_2 (pc := 91) lk326 hG dX8_assign_91 ?_
    refine r_iload (pc := 94) 6 rfl hG dX8_assign_94 ?_
    refine r_ck hG (fun h11 => ?_)
    refine r_iald (pc := 96) (i := 61) (rfl : shp 61 = 14) rfl h11 hG dX8_assign_96 ?_
    refine r_iconst (pc := 97) (v := 2) (by decide) hG dX8_assign_97 ?_
    refine r_icmp_ge (pc := 98) (tgt := 169) (by decide) hG dX8_assign_98 (fun h12 => ?_) (fun h12 => ?_)
    · exact r_sub [1, 2, 3, 4, 5, 6] rfl hG (w_Sh_assign_J169 N self hself hG hK73 v1 v2 v3 v4 v6 σ hv1)
    · refine r_aload_n (pc := 101) 1 0 rfl rfl hG dX8_assign_101 ?_
      refine gf8_0 (pc := 102) lk324 hG dX8_assign_102 ?_
      refine r_iload (pc := 105) 0 rfl hG dX8_assign_105 ?_
      refine r_ck hG (fun h14 => ?_)
      refine r_iald (pc := 107) (i := 59) (rfl : shp 59 = 14) rfl h14 hG dX8_assign_107 ?_
      refine r_iconst (pc := 108) (v := (-1)) (by decide) hG dX8_assign_108 ?_
      refine r_icmp_eq (pc := 109) (tgt := 169) (by decide) hG dX8_assign_109 (fun h15 => ?_) (fun h15 => ?_)
      · exact r_sub [1, 2, 3, 4, 5, 6] rfl hG (w_Sh_assign_J169 N self hself hG hK73 v1 v2 v3 v4 v6 σ hv1)
      · refine r_aload_n (pc := 112) 1 0 rfl rfl hG dX8_assign_112 ?_
        refine gf8_3 (pc := 113) lk327 hG dX8_assign_113 ?_
        refine r_iload_n (pc := 116) 3 2 rfl rfl hG dX8_assign_116 ?_
        refine r_iload (pc := 117) 6 rfl hG dX8_assign_117 ?_
        refine r_ck hG (fun h16 => ?_)
        refine r_iast (pc := 119) (i := 62) (rfl : shp 62 = 14) rfl h16 hG dX8_assign_119 ?_
        refine r_bS hG (fun s17 => ?_)
        refine r_aload_n (pc := 120) 1 0 rfl rfl hG dX8_assign_120 ?_
        refine gf8_2 (pc := 121) lk326 hG dX8_assign_121 ?_
        refine r_iload (pc := 124) 6 rfl hG dX8_assign_124 ?_
        refine r_dup2 (pc := 126) rfl rfl hG dX8_assign_126 ?_
        refine r_ck hG (fun h18 => ?_)
        refine r_iald (pc := 127) (i := 61) (rfl : shp 61 = 14) rfl h18 hG dX8_assign_127 ?_
        refine r_iconst (pc := 128) (v := 1) (by decide) hG dX8_assign_128 ?_
        refine r_iadd (pc := 129) hG dX8_assign_129 ?_
        refine r_ck hG (fun h19 => ?_)
        refine r_iast (pc := 130) (i := 61) (rfl : shp 61 = 14) rfl h19 hG dX8_assign_130 ?_
        refine r_bS hG (fun s20 => ?_)
        refine r_aload_n (pc := 131) 1 0 rfl rfl hG dX8_assign_131 ?_
        refine r_aload_n (pc := 132) 2 1 rfl rfl hG dX8_assign_132 ?_
        refine r_iload_n (pc := 133) 3 2 rfl rfl hG dX8_assign_133 ?_
        refine r_iconst (pc := 134) (v := 1) (by decide) hG dX8_assign_134 ?_
        refine r_iadd (pc := 135) hG dX8_assign_135 ?_
        refine r_iload_n (pc := 136) 4 3 rfl rfl hG dX8_assign_136 ?_
        refine r_aload_n (pc := 137) 1 0 rfl rfl hG dX8_assign_137 ?_
        refine gf8_0 (pc := 138) lk324 hG dX8_assign_138 ?_
        refine r_iload (pc := 141) 0 rfl hG dX8_assign_141 ?_
        refine r_ck hG (fun h21 => ?_)
        refine r_iald (pc := 143) (i := 59) (rfl : shp 59 = 14) rfl h21 hG dX8_assign_143 ?_
        refine r_iadd (pc := 144) hG dX8_assign_144 ?_
        refine r_iload (pc := 145) 5 rfl hG dX8_assign_145 ?_
        refine r_aload_n (pc := 147) 1 0 rfl rfl hG dX8_assign_147 ?_
        refine gf8_1 (pc := 148) lk325 hG dX8_assign_148 ?_
        refine r_iload (pc := 151) 0 rfl hG dX8_assign_151 ?_
        refine r_ck hG (fun h22 => ?_)
        refine r_iald (pc := 153) (i := 60) (rfl : shp 60 = 14) rfl h22 hG dX8_assign_153 ?_
        refine r_iadd (pc := 154) hG dX8_assign_154 ?_
        refine r_bR hG (fun s24 e26 => ?_)
        refine r_callVv (pc := 155) (As := [.ref (X.2.1 + v1), .int (v2 + 1), .int (v3 + (s20.1 59 (x10).toNatClampNeg)), .int (v4 + (s20.1 60 (x10).toNatClampNeg))]) (hself v1 (v2 + 1) (v3 + (s20.1 59 (x10).toNatClampNeg)) (v4 + (s20.1 60 (x10).toNatClampNeg)) s20 hv1 s24 e26) (wsOf_at (rfl : shp 58 = 8) (by decide) rfl) rfl mfX8_63_X8_assign hyVX8_assign (by omega) (by decide) rfl (Nat.le_of_ble_eq_true rfl) hG dX8_assign_155 rfl (fun n25 => ?_)
        refine r_aload_n (pc := 158) 1 0 rfl rfl hG dX8_assign_158 ?_
        refine gf8_2 (pc := 159) lk326 hG dX8_assign_159 ?_
        refine r_iload (pc := 162) 6 rfl hG dX8_assign_162 ?_
        refine r_dup2 (pc := 164) rfl rfl hG dX8_assign_164 ?_
        refine r_ck hG (fun h27 => ?_)
        refine r_iald (pc := 165) (i := 61) (rfl : shp 61 = 14) rfl h27 hG dX8_assign_165 ?_
        refine r_iconst (pc := 166) (v := 1) (by decide) hG dX8_assign_166 ?_
        refine r_isub (pc := 167) hG dX8_assign_167 ?_
        refine r_ck hG (fun h28 => ?_)
        refine r_iast (pc := 168) (i := 61) (rfl : shp 61 = 14) rfl h28 hG dX8_assign_168 ?_
        refine r_bS hG (fun s29 => ?_)
        exact r_sub [1, 2, 3, 4, 5, 6] rfl hG (w_Sh_assign_J169 N self hself hG hK73 v1 v2 v3 v4 v6 s29 hv1)
set_option maxRecDepth 4000 in
theorem w_Sh_assign_L73 {X : Cx} {d : Nat} {G : GT St} (N : Nat) (self : Nat → Int32 → Int32 → Int32 → St → Option St) (hself : ∀ (a1 : Nat) (a2 : Int32) (a3 : Int32) (a4 : Int32) (s0 : St), shp a1 = 4 → ∀ (r : St), self a1 a2 a3 a4 s0 = some r → Ctr X yX8_assign cX8_assign 8 none (d + 2) [.ref (X.2.1 + 58), .ref (X.2.1 + a1), .int a2, .int a3, .int a4] s0 none r) (hG : IsG X RX8 cX8_assign 8 (d + 3) none oWV G) : ∀ (n : Nat), ∀ (v1 : Nat) (v2 : Int32) (v3 : Int32) (v4 : Int32) (v6 : Int32) (σ : St), shp v1 = 4 → G (Sh_assign_L73 N self n v1 v2 v3 v4 v6 σ) σ 73 [(0, .ref (X.2.1 + 58)), (1, .ref (X.2.1 + v1)), (2, .int v2), (3, .int v3), (4, .int v4), (6, .int v6)] [] := by
  intro n
  induction n with
  | zero => intro v1 v2 v3 v4 v6 σ hv1; exact r_none hG
  | succ n ih => intro v1 v2 v3 v4 v6 σ hv1; exact w_Sh_assign_L73B N self hself hG ih v1 v2 v3 v4 v6 σ hv1
set_option maxRecDepth 4000 in
theorem cB_Sh_assign {X : Cx} {d : Nat} (N : Nat) (self : Nat → Int32 → Int32 → Int32 → St → Option St) (hself : ∀ (a1 : Nat) (a2 : Int32) (a3 : Int32) (a4 : Int32) (s0 : St), shp a1 = 4 → ∀ (r : St), self a1 a2 a3 a4 s0 = some r → Ctr X yX8_assign cX8_assign 8 none (d + 2) [.ref (X.2.1 + 58), .ref (X.2.1 + a1), .int a2, .int a3, .int a4] s0 none r) (v1 : Nat) (v2 : Int32) (v3 : Int32) (v4 : Int32) (σ : St) (hv1 : shp v1 = 4) (r : St) (hE : Sh_assignB N self v1 v2 v3 v4 σ = some r) : Ctr X yX8_assign cX8_assign 8 none (d + 3) [.ref (X.2.1 + 58), .ref (X.2.1 + v1), .int v2, .int v3, .int v4] σ none r := by
  refine Ctr.of (out := oWV) (E := Sh_assignB N self v1 v2 v3 v4 σ) rfl (Nat.le_of_ble_eq_true rfl) (fun G hG => ?_) r hE
  unfold Sh_assignB
  refine r_iload_n (pc := 0) 2 2 rfl rfl hG dX8_assign_0 ?_
  refine r_aload_n (pc := 1) 1 1 rfl rfl hG dX8_assign_1 ?_
  refine gf4_5 (pc := 2) (i := v1) hv1 lk237 hG dX8_assign_2 ?_
  refine r_icmp_ge (pc := 5) (tgt := 13) (by decide) hG dX8_assign_5 (fun h1 => ?_) (fun h1 => ?_)
  · exact r_sub [0, 3, 4] rfl hG (w_Sh_assign_J13 N self hself hG v3 v4 σ)
  · refine r_iload_n (pc := 8) 2 2 rfl rfl hG dX8_assign_8 ?_
    refine r_iconst (pc := 9) (v := 4) (by decide) hG dX8_assign_9 ?_
    refine r_icmp_lt (pc := 10) (tgt := 21) (by decide) hG dX8_assign_10 (fun h6 => ?_) (fun h6 => ?_)
    · refine r_aload_n (pc := 21) 1 1 rfl rfl hG dX8_assign_21 ?_
      refine gf4_3 (pc := 22) (i := v1) hv1 lk227 hG dX8_assign_22 ?_
      refine r_iload_n (pc := 25) 2 2 rfl rfl hG dX8_assign_25 ?_
      refine r_ck hG (fun h7 => ?_)
      refine r_aGuests (pc := 26) (i := v1) (sh4_4 hv1) (ln4_4 hv1) h7 hG dX8_assign_26 ?_
      refine r_astore (pc := 27) (lv' := [(5, .ref (X.2.1 + (v1 + 16 + (v2).toNatClampNeg))), (0, .ref (X.2.1 + 58)), (1, .ref (X.2.1 + v1)), (2, .int v2), (3, .int v3), (4, .int v4)]) (by decide) rfl hG dX8_assign_27 ?_
      refine r_aload (pc := 29) 0 rfl hG dX8_assign_29 ?_
      refine gf1_4 (pc := 31) (i := (v1 + 16 + (v2).toNatClampNeg)) (shGu hv1 h7) lk195 hG dX8_assign_31 ?_
      refine r_bipush (pc := 34) (v := 7) (by decide) hG dX8_assign_34 ?_
      refine r_icmp_ne (pc := 36) (tgt := 70) (by decide) hG dX8_assign_36 (fun h8 => ?_) (fun h8 => ?_)
      · refine r_iconst (pc := 70) (v := 0) (by decide) hG dX8_assign_70 ?_
        refine r_istore (pc := 71) (lv' := [(6, .int 0), (5, .ref (X.2.1 + (v1 + 16 + (v2).toNatClampNeg))), (0, .ref (X.2.1 + 58)), (1, .ref (X.2.1 + v1)), (2, .int v2), (3, .int v3), (4, .int v4)]) (by decide) rfl hG dX8_assign_71 ?_
        exact r_sub [2, 3, 4, 5, 6, 0] rfl hG (w_Sh_assign_L73 N self hself hG N v1 v2 v3 v4 0 σ hv1)
      · refine r_aload_n (pc := 39) 1 0 rfl rfl hG dX8_assign_39 ?_
        refine gf8_3 (pc := 40) lk327 hG dX8_assign_40 ?_
        refine r_iload_n (pc := 43) 3 2 rfl rfl hG dX8_assign_43 ?_
        refine r_iconst (pc := 44) (v := (-1)) (by decide) hG dX8_assign_44 ?_
        refine r_ck hG (fun h30 => ?_)
        refine r_iast (pc := 45) (i := 62) (rfl : shp 62 = 14) rfl h30 hG dX8_assign_45 ?_
        refine r_bS hG (fun s31 => ?_)
        refine r_aload_n (pc := 46) 1 0 rfl rfl hG dX8_assign_46 ?_
        refine r_aload_n (pc := 47) 2 1 rfl rfl hG dX8_assign_47 ?_
        refine r_iload_n (pc := 48) 3 2 rfl rfl hG dX8_assign_48 ?_
        refine r_iconst (pc := 49) (v := 1) (by decide) hG dX8_assign_49 ?_
        refine r_iadd (pc := 50) hG dX8_assign_50 ?_
        refine r_iload_n (pc := 51) 4 3 rfl rfl hG dX8_assign_51 ?_
        refine r_aload (pc := 52) 0 rfl hG dX8_assign_52 ?_
        refine gf1_2 (pc := 54) (i := (v1 + 16 + (v2).toNatClampNeg)) (shGu hv1 h7) lk182 hG dX8_assign_54 ?_
        refine r_iadd (pc := 57) hG dX8_assign_57 ?_
        refine r_iload (pc := 58) 5 rfl hG dX8_assign_58 ?_
        refine r_aload (pc := 60) 0 rfl hG dX8_assign_60 ?_
        refine gf1_3 (pc := 62) (i := (v1 + 16 + (v2).toNatClampNeg)) (shGu hv1 h7) lk189 hG dX8_assign_62 ?_
        refine r_iadd (pc := 65) hG dX8_assign_65 ?_
        refine r_bR hG (fun s33 e35 => ?_)
        refine r_callVv (pc := 66) (As := [.ref (X.2.1 + v1), .int (v2 + 1), .int (v3 + (s31.1 (v1 + 16 + (v2).toNatClampNeg) 2)), .int (v4 + (s31.1 (v1 + 16 + (v2).toNatClampNeg) 3))]) (hself v1 (v2 + 1) (v3 + (s31.1 (v1 + 16 + (v2).toNatClampNeg) 2)) (v4 + (s31.1 (v1 + 16 + (v2).toNatClampNeg) 3)) s31 hv1 s33 e35) (wsOf_at (rfl : shp 58 = 8) (by decide) rfl) rfl mfX8_63_X8_assign hyVX8_assign (by omega) (by decide) rfl (Nat.le_of_ble_eq_true rfl) hG dX8_assign_66 rfl (fun n34 => ?_)
        exact r_vret (pc := 69) rfl hG dX8_assign_69
    · exact r_sub [0, 3, 4] rfl hG (w_Sh_assign_J13 N self hself hG v3 v4 σ)
set_option maxRecDepth 4000 in
theorem c_Sh_assign (X : Cx) (N : Nat) : ∀ (n : Nat) (v1 : Nat) (v2 : Int32) (v3 : Int32) (v4 : Int32) (σ : St) (hv1 : shp v1 = 4) (r : St) (hE : Sh_assign N n v1 v2 v3 v4 σ = some r), Ctr X yX8_assign cX8_assign 8 none (n + 2) [.ref (X.2.1 + 58), .ref (X.2.1 + v1), .int v2, .int v3, .int v4] σ none r := by
  intro n
  induction n with
  | zero => intro v1 v2 v3 v4 σ hv1 r hE; cases hE
  | succ n ih =>
    intro v1 v2 v3 v4 σ hv1 r hE
    have e : n + 1 + 2 = n + 3 := by omega
    rw [e]
    exact cB_Sh_assign (d := n) N (Sh_assign N n) ih v1 v2 v3 v4 σ hv1 r hE
set_option maxRecDepth 4000 in
theorem w_Sh_search_J118 {X : Cx} {G : GT St} (N : Nat) (hG : IsG X RX8 cX8_search 5 20 none oWV G) (v1 : Nat) (σ : St) (hv1 : shp v1 = 4) : G (Sh_search_J118 N v1 σ) σ 118 [(0, .ref (X.2.1 + 58)), (1, .ref (X.2.1 + v1))] [] := by
  unfold Sh_search_J118
  refine r_aload_n (pc := 118) 0 0 rfl rfl hG dX8_search_118 ?_
  refine r_aload_n (pc := 119) 1 1 rfl rfl hG dX8_search_119 ?_
  refine r_iconst (pc := 120) (v := 0) (by decide) hG dX8_search_120 ?_
  refine r_iconst (pc := 121) (v := 0) (by decide) hG dX8_search_121 ?_
  refine r_iconst (pc := 122) (v := 0) (by decide) hG dX8_search_122 ?_
  refine r_bR hG (fun s5 e7 => ?_)
  refine r_callVv (pc := 123) (As := [.ref (X.2.1 + v1), .int 0, .int 0, .int 0]) (c_Sh_assign X N 10 v1 0 0 0 σ hv1 s5 e7) (wsOf_at (rfl : shp 58 = 8) (by decide) rfl) rfl mfX8_63_X8_assign hyVX8_assign (by decide) (by decide) rfl (Nat.le_of_ble_eq_true rfl) hG dX8_search_123 rfl (fun n6 => ?_)
  exact r_vret (pc := 126) rfl hG dX8_search_126
set_option maxRecDepth 4000 in
theorem w_Sh_search_J112 {X : Cx} {G : GT St} (N : Nat) (hG : IsG X RX8 cX8_search 5 20 none oWV G) {K27 : Nat → Int32 → St → Option St} (hK27 : ∀ (v1 : Nat) (v3 : Int32) (s : St), shp v1 = 4 → G (K27 v1 v3 s) s 27 [(0, .ref (X.2.1 + 58)), (1, .ref (X.2.1 + v1)), (2, .ref (X.2.1 + 47)), (3, .int v3)] []) (v1 : Nat) (v3 : Int32) (σ : St) (hv1 : shp v1 = 4) : G (Sh_search_J112 N K27 v1 v3 σ) σ 112 [(0, .ref (X.2.1 + 58)), (1, .ref (X.2.1 + v1)), (2, .ref (X.2.1 + 47)), (3, .int v3)] [] := by
  unfold Sh_search_J112
  refine r_bIinc (pc := 112) (lv' := fun x9 => [(3, .int x9), (0, .ref (X.2.1 + 58)), (1, .ref (X.2.1 + v1)), (2, .ref (X.2.1 + 47))]) 3 rfl rfl (by decide) (fun _ => rfl) hG dX8_search_112 (fun x9 => ?_)
  refine r_goto (pc := 115) (tgt := 27) (by decide) hG dX8_search_115 ?_
  exact r_sub [1, 2, 3, 0] rfl hG (hK27 v1 x9 σ hv1)
set_option maxRecDepth 4000 in
theorem w_Sh_search_J90 {X : Cx} {G : GT St} (N : Nat) (hG : IsG X RX8 cX8_search 5 20 none oWV G) {K27 : Nat → Int32 → St → Option St} {K38 : Nat → Int32 → Int32 → St → Option St} (hK27 : ∀ (v1 : Nat) (v3 : Int32) (s : St), shp v1 = 4 → G (K27 v1 v3 s) s 27 [(0, .ref (X.2.1 + 58)), (1, .ref (X.2.1 + v1)), (2, .ref (X.2.1 + 47)), (3, .int v3)] []) (hK38 : ∀ (v1 : Nat) (v3 : Int32) (v4 : Int32) (s : St), shp v1 = 4 → G (K38 v1 v3 v4 s) s 38 [(0, .ref (X.2.1 + 58)), (1, .ref (X.2.1 + v1)), (2, .ref (X.2.1 + 47)), (3, .int v3), (4, .int v4)] []) (v1 : Nat) (v3 : Int32) (v4 : Int32) (w1 : Int32) (w2 : Int32) (σ : St) (hv1 : shp v1 = 4) : G (Sh_search_J90 N K27 K38 v1 v3 v4 w1 w2 σ) σ 90 [(0, .ref (X.2.1 + 58)), (1, .ref (X.2.1 + v1)), (2, .ref (X.2.1 + 47)), (3, .int v3), (4, .int v4)] [.int w2, .int w1, .ref (X.2.1 + 59)] := by
  unfold Sh_search_J90
  refine r_ck hG (fun h17 => ?_)
  refine r_iast (pc := 90) (i := 59) (rfl : shp 59 = 14) rfl h17 hG dX8_search_90 ?_
  refine r_bS hG (fun s18 => ?_)
  refine r_aload_n (pc := 91) 0 0 rfl rfl hG dX8_search_91 ?_
  refine gf8_1 (pc := 92) lk325 hG dX8_search_92 ?_
  refine r_iload_n (pc := 95) 3 3 rfl rfl hG dX8_search_95 ?_
  refine r_iconst (pc := 96) (v := 3) (by decide) hG dX8_search_96 ?_
  refine r_imul (pc := 97) hG dX8_search_97 ?_
  refine r_iload (pc := 98) 4 rfl hG dX8_search_98 ?_
  refine r_iadd (pc := 100) hG dX8_search_100 ?_
  refine r_aload_n (pc := 101) 2 2 rfl rfl hG dX8_search_101 ?_
  refine gf10_4 (pc := 102) lk294 hG dX8_search_102 ?_
  refine r_ck hG (fun h19 => ?_)
  refine r_iast (pc := 105) (i := 60) (rfl : shp 60 = 14) rfl h19 hG dX8_search_105 ?_
  refine r_bS hG (fun s20 => ?_)
  refine r_bIinc (pc := 106) (lv' := fun x21 => [(4, .int x21), (0, .ref (X.2.1 + 58)), (1, .ref (X.2.1 + v1)), (2, .ref (X.2.1 + 47)), (3, .int v3)]) 4 rfl rfl (by decide) (fun _ => rfl) hG dX8_search_106 (fun x21 => ?_)
  refine r_goto (pc := 109) (tgt := 38) (by decide) hG dX8_search_109 ?_
  exact r_sub [1, 2, 3, 4, 0] rfl hG (hK38 v1 v3 x21 s20 hv1)
set_option maxRecDepth 4000 in
theorem w_Sh_search_L38B {X : Cx} {G : GT St} (N : Nat) (hG : IsG X RX8 cX8_search 5 20 none oWV G) {K27 : Nat → Int32 → St → Option St} {K38 : Nat → Int32 → Int32 → St → Option St} (hK27 : ∀ (v1 : Nat) (v3 : Int32) (s : St), shp v1 = 4 → G (K27 v1 v3 s) s 27 [(0, .ref (X.2.1 + 58)), (1, .ref (X.2.1 + v1)), (2, .ref (X.2.1 + 47)), (3, .int v3)] []) (hK38 : ∀ (v1 : Nat) (v3 : Int32) (v4 : Int32) (s : St), shp v1 = 4 → G (K38 v1 v3 v4 s) s 38 [(0, .ref (X.2.1 + 58)), (1, .ref (X.2.1 + v1)), (2, .ref (X.2.1 + 47)), (3, .int v3), (4, .int v4)] []) (v1 : Nat) (v3 : Int32) (v4 : Int32) (σ : St) (hv1 : shp v1 = 4) : G (Sh_search_L38B N K27 K38 v1 v3 v4 σ) σ 38 [(0, .ref (X.2.1 + 58)), (1, .ref (X.2.1 + v1)), (2, .ref (X.2.1 + 47)), (3, .int v3), (4, .int v4)] [] := by
  unfold Sh_search_L38B
  refine r_iload (pc := 38) 4 rfl hG dX8_search_38 ?_
  refine r_aload_n (pc := 40) 1 1 rfl rfl hG dX8_search_40 ?_
  refine gf4_4 (pc := 41) (i := v1) hv1 lk232 hG dX8_search_41 ?_
  refine r_icmp_ge (pc := 44) (tgt := 112) (by decide) hG dX8_search_44 (fun h8 => ?_) (fun h8 => ?_)
  · exact r_sub [0, 1, 2, 3] rfl hG (w_Sh_search_J112 N hG hK27 v1 v3 σ hv1)
  · refine r_aload_n (pc := 47) 2 2 rfl rfl hG dX8_search_47 ?_
    refine r_aload_n (pc := 48) 1 1 rfl rfl hG dX8_search_48 ?_
    refine r_aload_n (pc := 49) 1 1 rfl rfl hG dX8_search_49 ?_
    refine gf4_3 (pc := 50) (i := v1) hv1 lk227 hG dX8_search_50 ?_
    refine r_iload_n (pc := 53) 3 3 rfl rfl hG dX8_search_53 ?_
    refine r_ck hG (fun h10 => ?_)
    refine r_aGuests (pc := 54) (i := v1) (sh4_4 hv1) (ln4_4 hv1) h10 hG dX8_search_54 ?_
    refine r_aload_n (pc := 55) 1 1 rfl rfl hG dX8_search_55 ?_
    refine gf4_2 (pc := 56) (i := v1) hv1 lk222 hG dX8_search_56 ?_
    refine r_iload (pc := 59) 4 rfl hG dX8_search_59 ?_
    refine r_ck hG (fun h11 => ?_)
    refine r_aRowers (pc := 61) (i := v1) (sh4_3 hv1) (ln4_3 hv1) h11 hG dX8_search_61 ?_
    refine r_bR hG (fun s13 e15 => ?_)
    refine r_callVv (pc := 62) (As := [.ref (X.2.1 + v1), .ref (X.2.1 + (v1 + 16 + (v3).toNatClampNeg)), .ref (X.2.1 + (v1 + 13 + (v4).toNatClampNeg))]) (c_Wy_search X N v1 (v1 + 16 + (v3).toNatClampNeg) (v1 + 13 + (v4).toNatClampNeg) σ hv1 (shGu hv1 h10) (shRo hv1 h11) s13 e15) (wsOf_at (rfl : shp 47 = 10) (by decide) rfl) rfl mfX8_48_X10_search hyVX10_search (by decide) (by decide) rfl (Nat.le_of_ble_eq_true rfl) hG dX8_search_62 rfl (fun n14 => ?_)
    refine r_aload_n (pc := 65) 0 0 rfl rfl hG dX8_search_65 ?_
    refine gf8_0 (pc := 66) lk324 hG dX8_search_66 ?_
    refine r_iload_n (pc := 69) 3 3 rfl rfl hG dX8_search_69 ?_
    refine r_iconst (pc := 70) (v := 3) (by decide) hG dX8_search_70 ?_
    refine r_imul (pc := 71) hG dX8_search_71 ?_
    refine r_iload (pc := 72) 4 rfl hG dX8_search_72 ?_
    refine r_iadd (pc := 74) hG dX8_search_74 ?_
    refine r_aload_n (pc := 75) 2 2 rfl rfl hG dX8_search_75 ?_
    refine gf10_2 (pc := 76) lk289 hG dX8_search_76 ?_
    refine r_if_ne (pc := 79) (tgt := 86) (by decide) hG dX8_search_79 (fun h16 => ?_) (fun h16 => ?_)
    · refine r_aload_n (pc := 86) 2 2 rfl rfl hG dX8_search_86 ?_
      refine gf10_3 (pc := 87) lk291 hG dX8_search_87 ?_
      exact w_Sh_search_J90 N hG hK27 hK38 v1 v3 v4 ((v3 * 3) + v4) (s13.1 47 3) s13 hv1
    · refine r_iconst (pc := 82) (v := (-1)) (by decide) hG dX8_search_82 ?_
      refine r_goto (pc := 83) (tgt := 90) (by decide) hG dX8_search_83 ?_
      exact w_Sh_search_J90 N hG hK27 hK38 v1 v3 v4 ((v3 * 3) + v4) (-1) s13 hv1
set_option maxRecDepth 4000 in
theorem w_Sh_search_L38 {X : Cx} {G : GT St} (N : Nat) (hG : IsG X RX8 cX8_search 5 20 none oWV G) {K27 : Nat → Int32 → St → Option St} (hK27 : ∀ (v1 : Nat) (v3 : Int32) (s : St), shp v1 = 4 → G (K27 v1 v3 s) s 27 [(0, .ref (X.2.1 + 58)), (1, .ref (X.2.1 + v1)), (2, .ref (X.2.1 + 47)), (3, .int v3)] []) : ∀ (n : Nat), ∀ (v1 : Nat) (v3 : Int32) (v4 : Int32) (σ : St), shp v1 = 4 → G (Sh_search_L38 N K27 n v1 v3 v4 σ) σ 38 [(0, .ref (X.2.1 + 58)), (1, .ref (X.2.1 + v1)), (2, .ref (X.2.1 + 47)), (3, .int v3), (4, .int v4)] [] := by
  intro n
  induction n with
  | zero => intro v1 v3 v4 σ hv1; exact r_none hG
  | succ n ih => intro v1 v3 v4 σ hv1; exact w_Sh_search_L38B N hG hK27 ih v1 v3 v4 σ hv1
set_option maxRecDepth 4000 in
theorem w_Sh_search_L27B {X : Cx} {G : GT St} (N : Nat) (hG : IsG X RX8 cX8_search 5 20 none oWV G) {K27 : Nat → Int32 → St → Option St} (hK27 : ∀ (v1 : Nat) (v3 : Int32) (s : St), shp v1 = 4 → G (K27 v1 v3 s) s 27 [(0, .ref (X.2.1 + 58)), (1, .ref (X.2.1 + v1)), (2, .ref (X.2.1 + 47)), (3, .int v3)] []) (v1 : Nat) (v3 : Int32) (σ : St) (hv1 : shp v1 = 4) : G (Sh_search_L27B N K27 v1 v3 σ) σ 27 [(0, .ref (X.2.1 + 58)), (1, .ref (X.2.1 + v1)), (2, .ref (X.2.1 + 47)), (3, .int v3)] [] := by
  unfold Sh_search_L27B
  refine r_iload_n (pc := 27) 3 3 rfl rfl hG dX8_search_27 ?_
  refine r_aload_n (pc := 28) 1 1 rfl rfl hG dX8_search_28 ?_
  refine gf4_5 (pc := 29) (i := v1) hv1 lk237 hG dX8_search_29 ?_
  refine r_icmp_ge (pc := 32) (tgt := 118) (by decide) hG dX8_search_32 (fun h3 => ?_) (fun h3 => ?_)
  · exact r_sub [0, 1] rfl hG (w_Sh_search_J118 N hG v1 σ hv1)
  · refine r_iconst (pc := 35) (v := 0) (by decide) hG dX8_search_35 ?_
    refine r_istore (pc := 36) (lv' := [(4, .int 0), (0, .ref (X.2.1 + 58)), (1, .ref (X.2.1 + v1)), (2, .ref (X.2.1 + 47)), (3, .int v3)]) (by decide) rfl hG dX8_search_36 ?_
    exact r_sub [1, 2, 3, 4, 0] rfl hG (w_Sh_search_L38 N hG hK27 N v1 v3 0 σ hv1)
set_option maxRecDepth 4000 in
theorem w_Sh_search_L27 {X : Cx} {G : GT St} (N : Nat) (hG : IsG X RX8 cX8_search 5 20 none oWV G) : ∀ (n : Nat), ∀ (v1 : Nat) (v3 : Int32) (σ : St), shp v1 = 4 → G (Sh_search_L27 N n v1 v3 σ) σ 27 [(0, .ref (X.2.1 + 58)), (1, .ref (X.2.1 + v1)), (2, .ref (X.2.1 + 47)), (3, .int v3)] [] := by
  intro n
  induction n with
  | zero => intro v1 v3 σ hv1; exact r_none hG
  | succ n ih => intro v1 v3 σ hv1; exact w_Sh_search_L27B N hG ih v1 v3 σ hv1
set_option maxRecDepth 4000 in
theorem w_Sh_search_J25 {X : Cx} {G : GT St} (N : Nat) (hG : IsG X RX8 cX8_search 5 20 none oWV G) (v1 : Nat) (σ : St) (hv1 : shp v1 = 4) : G (Sh_search_J25 N v1 σ) σ 25 [(0, .ref (X.2.1 + 58)), (1, .ref (X.2.1 + v1)), (2, .ref (X.2.1 + 47))] [] := by
  unfold Sh_search_J25
  refine r_iconst (pc := 25) (v := 0) (by decide) hG dX8_search_25 ?_
  refine r_istore_n (pc := 26) (lv' := [(3, .int 0), (0, .ref (X.2.1 + 58)), (1, .ref (X.2.1 + v1)), (2, .ref (X.2.1 + 47))]) 3 rfl (by decide) rfl hG dX8_search_26 ?_
  exact r_sub [1, 2, 3, 0] rfl hG (w_Sh_search_L27 N hG N v1 0 σ hv1)
set_option maxRecDepth 4000 in
theorem w_Sh_search_L7B {X : Cx} {G : GT St} (N : Nat) (hG : IsG X RX8 cX8_search 5 20 none oWV G) {K7 : Nat → Int32 → St → Option St} (hK7 : ∀ (v1 : Nat) (v3 : Int32) (s : St), shp v1 = 4 → G (K7 v1 v3 s) s 7 [(0, .ref (X.2.1 + 58)), (1, .ref (X.2.1 + v1)), (2, .ref (X.2.1 + 47)), (3, .int v3)] []) (v1 : Nat) (v3 : Int32) (σ : St) (hv1 : shp v1 = 4) : G (Sh_search_L7B N K7 v1 v3 σ) σ 7 [(0, .ref (X.2.1 + 58)), (1, .ref (X.2.1 + v1)), (2, .ref (X.2.1 + 47)), (3, .int v3)] [] := by
  unfold Sh_search_L7B
  refine r_iload_n (pc := 7) 3 3 rfl rfl hG dX8_search_7 ?_
  refine r_iconst (pc := 8) (v := 3) (by decide) hG dX8_search_8 ?_
  refine r_icmp_ge (pc := 9) (tgt := 25) (by decide) hG dX8_search_9 (fun h2 => ?_) (fun h2 => ?_)
  · exact r_sub [0, 1, 2] rfl hG (w_Sh_search_J25 N hG v1 σ hv1)
  · refine r_aload_n (pc := 12) 0 0 rfl rfl hG dX8_search_12 ?_
    refine gf8_2 (pc := 13) lk326 hG dX8_search_13 ?_
    refine r_iload_n (pc := 16) 3 3 rfl rfl hG dX8_search_16 ?_
    refine r_iconst (pc := 17) (v := 0) (by decide) hG dX8_search_17 ?_
    refine r_ck hG (fun h22 => ?_)
    refine r_iast (pc := 18) (i := 61) (rfl : shp 61 = 14) rfl h22 hG dX8_search_18 ?_
    refine r_bS hG (fun s23 => ?_)
    refine r_bIinc (pc := 19) (lv' := fun x24 => [(3, .int x24), (0, .ref (X.2.1 + 58)), (1, .ref (X.2.1 + v1)), (2, .ref (X.2.1 + 47))]) 3 rfl rfl (by decide) (fun _ => rfl) hG dX8_search_19 (fun x24 => ?_)
    refine r_goto (pc := 22) (tgt := 7) (by decide) hG dX8_search_22 ?_
    exact r_sub [1, 2, 3, 0] rfl hG (hK7 v1 x24 s23 hv1)
set_option maxRecDepth 4000 in
theorem w_Sh_search_L7 {X : Cx} {G : GT St} (N : Nat) (hG : IsG X RX8 cX8_search 5 20 none oWV G) : ∀ (n : Nat), ∀ (v1 : Nat) (v3 : Int32) (σ : St), shp v1 = 4 → G (Sh_search_L7 N n v1 v3 σ) σ 7 [(0, .ref (X.2.1 + 58)), (1, .ref (X.2.1 + v1)), (2, .ref (X.2.1 + 47)), (3, .int v3)] [] := by
  intro n
  induction n with
  | zero => intro v1 v3 σ hv1; exact r_none hG
  | succ n ih => intro v1 v3 σ hv1; exact w_Sh_search_L7B N hG ih v1 v3 σ hv1
set_option maxRecDepth 4000 in
theorem c_Sh_search (X : Cx) (N : Nat) (v1 : Nat) (σ : St) (hv1 : shp v1 = 4) (σ1 : St) (hE : Sh_search N v1 σ = some σ1) : Ctr X yX8_search cX8_search 5 none 20 [.ref (X.2.1 + 58), .ref (X.2.1 + v1), .ref (X.2.1 + 47)] σ none σ1 := by
  refine Ctr.of (out := oWV) (E := Sh_search N v1 σ) rfl (Nat.le_of_ble_eq_true rfl) (fun G hG => ?_) σ1 hE
  unfold Sh_search
  refine r_aload_n (pc := 0) 0 0 rfl rfl hG dX8_search_0 ?_
  refine r_iconst (pc := 1) (v := 0) (by decide) hG dX8_search_1 ?_
  refine pf8_5 (pc := 2) rvN_b0 lk330 hG dX8_search_2 ?_
  refine r_bS hG (fun s1 => ?_)
  refine r_iconst (pc := 5) (v := 0) (by decide) hG dX8_search_5 ?_
  refine r_istore_n (pc := 6) (lv' := [(3, .int 0), (0, .ref (X.2.1 + 58)), (1, .ref (X.2.1 + v1)), (2, .ref (X.2.1 + 47))]) 3 rfl (by decide) rfl hG dX8_search_6 ?_
  exact r_sub [1, 2, 3, 0] rfl hG (w_Sh_search_L7 N hG N v1 0 s1 hv1)
set_option maxRecDepth 4000 in
theorem c_Ta_isFull (X : Cx) (N : Nat) (v0 : Nat) (σ : St) (hv0 : shp v0 = 9) (r : Int32) (hE : Ta_isFull N v0 σ = some r) : Ctr X yX9_isFull cX9_isFull 1 (some .boolean) 1 [.ref (X.2.1 + v0)] σ (some (.int r)) σ := by
  refine Ctr.of (out := (oI σ)) (E := Ta_isFull N v0 σ) rfl (Nat.le_of_ble_eq_true rfl) (fun G hG => ?_) r hE
  unfold Ta_isFull
  refine r_aload_n (pc := 0) 0 0 rfl rfl hG dX9_isFull_0 ?_
  refine gf9_3 (pc := 1) (i := v0) hv0 lk121 hG dX9_isFull_1 ?_
  refine r_aload_n (pc := 4) 0 0 rfl rfl hG dX9_isFull_4 ?_
  refine gf9_1 (pc := 5) (i := v0) hv0 lk119 hG dX9_isFull_5 ?_
  refine r_icmp_lt (pc := 8) (tgt := 15) (by decide) hG dX9_isFull_8 (fun h1 => ?_) (fun h1 => ?_)
  · refine r_iconst (pc := 15) (v := 0) (by decide) hG dX9_isFull_15 ?_
    exact r_zret (pc := 16) rvN_b0 rfl hG dX9_isFull_16
  · refine r_iconst (pc := 11) (v := 1) (by decide) hG dX9_isFull_11 ?_
    refine r_goto (pc := 12) (tgt := 16) (by decide) hG dX9_isFull_12 ?_
    exact r_zret (pc := 16) rvN_b1 rfl hG dX9_isFull_16
set_option maxRecDepth 4000 in
theorem c_Ta_put (X : Cx) (N : Nat) (v0 : Nat) (v1 : Int32) (v2 : Int32) (σ : St) (hv0 : shp v0 = 9) (σ1 : St) (hE : Ta_put N v0 v1 v2 σ = some σ1) : Ctr X yX9_put cX9_put 3 none 1 [.ref (X.2.1 + v0), .int v1, .int v2] σ none σ1 := by
  refine Ctr.of (out := oWV) (E := Ta_put N v0 v1 v2 σ) rfl (Nat.le_of_ble_eq_true rfl) (fun G hG => ?_) σ1 hE
  unfold Ta_put
  refine r_aload_n (pc := 0) 0 0 rfl rfl hG dX9_put_0 ?_
  refine gf9_3 (pc := 1) (i := v0) hv0 lk121 hG dX9_put_1 ?_
  refine r_aload_n (pc := 4) 0 0 rfl rfl hG dX9_put_4 ?_
  refine gf9_1 (pc := 5) (i := v0) hv0 lk119 hG dX9_put_5 ?_
  refine r_icmp_ge (pc := 8) (tgt := 36) (by decide) hG dX9_put_8 (fun h1 => ?_) (fun h1 => ?_)
  · exact r_vret (pc := 36) rfl hG dX9_put_36
  · refine r_iload_n (pc := 11) 1 1 rfl rfl hG dX9_put_11 ?_
    refine r_aload_n (pc := 12) 0 0 rfl rfl hG dX9_put_12 ?_
    refine gf9_0 (pc := 13) (i := v0) hv0 lk118 hG dX9_put_13 ?_
    refine r_icmp_ge (pc := 16) (tgt := 36) (by decide) hG dX9_put_16 (fun h2 => ?_) (fun h2 => ?_)
    · exact r_vret (pc := 36) rfl hG dX9_put_36
    · refine r_aload_n (pc := 19) 0 0 rfl rfl hG dX9_put_19 ?_
      refine gf9_2 (pc := 20) (i := v0) hv0 lk120 hG dX9_put_20 ?_
      refine r_aload_n (pc := 23) 0 0 rfl rfl hG dX9_put_23 ?_
      refine gf9_3 (pc := 24) (i := v0) hv0 lk121 hG dX9_put_24 ?_
      refine r_aload_n (pc := 27) 0 0 rfl rfl hG dX9_put_27 ?_
      refine gf9_0 (pc := 28) (i := v0) hv0 lk118 hG dX9_put_28 ?_
      refine r_imul (pc := 31) hG dX9_put_31 ?_
      refine r_iload_n (pc := 32) 1 1 rfl rfl hG dX9_put_32 ?_
      refine r_iadd (pc := 33) hG dX9_put_33 ?_
      refine r_iload_n (pc := 34) 2 2 rfl rfl hG dX9_put_34 ?_
      refine r_ck hG (fun h3 => ?_)
      refine r_iast (pc := 35) (i := (v0 + 1)) (sh9_1 hv0) rfl h3 hG dX9_put_35 ?_
      refine r_bS hG (fun s4 => ?_)
      exact r_vret (pc := 36) rfl hG dX9_put_36
set_option maxRecDepth 4000 in
theorem c_Ta_keep (X : Cx) (N : Nat) (v0 : Nat) (σ : St) (hv0 : shp v0 = 9) (r : Int32) (σ1 : St) (hE : Ta_keep N v0 σ = some (r, σ1)) : Ctr X yX9_keep cX9_keep 1 (some .int) 1 [.ref (X.2.1 + v0)] σ (some (.int r)) σ1 := by
  refine Ctr.of (out := oWI) (E := Ta_keep N v0 σ) rfl (Nat.le_of_ble_eq_true rfl) (fun G hG => ?_) (r, σ1) hE
  unfold Ta_keep
  refine r_aload_n (pc := 0) 0 0 rfl rfl hG dX9_keep_0 ?_
  refine r_dup (pc := 1) rfl hG dX9_keep_1 ?_
  refine gf9_3 (pc := 2) (i := v0) hv0 lk121 hG dX9_keep_2 ?_
  refine r_iconst (pc := 5) (v := 1) (by decide) hG dX9_keep_5 ?_
  refine r_iadd (pc := 6) hG dX9_keep_6 ?_
  refine pf9_3 (pc := 7) (i := v0) hv0 lk121 hG dX9_keep_7 ?_
  refine r_bS hG (fun s1 => ?_)
  refine r_aload_n (pc := 10) 0 0 rfl rfl hG dX9_keep_10 ?_
  refine gf9_3 (pc := 11) (i := v0) hv0 lk121 hG dX9_keep_11 ?_
  exact r_iret (pc := 14) rfl hG dX9_keep_14
set_option maxRecDepth 4000 in
theorem w_Ta_fold_L5B {σ : St} {X : Cx} {G : GT Int64} (N : Nat) (hG : IsG X RX9 cX9_fold 6 1 (some .long) (oL σ) G) {K5 : Nat → Int64 → Int32 → St → Option Int64} (hK5 : ∀ (v0 : Nat) (v3 : Int64) (v5 : Int32), shp v0 = 9 → G (K5 v0 v3 v5 σ) σ 5 [(0, .ref (X.2.1 + v0)), (3, .long v3), (5, .int v5)] []) (v0 : Nat) (v3 : Int64) (v5 : Int32) (hv0 : shp v0 = 9) : G (Ta_fold_L5B N K5 v0 v3 v5 σ) σ 5 [(0, .ref (X.2.1 + v0)), (3, .long v3), (5, .int v5)] [] := by
  unfold Ta_fold_L5B
  refine r_iload (pc := 5) 2 rfl hG dX9_fold_5 ?_
  refine r_aload_n (pc := 7) 0 0 rfl rfl hG dX9_fold_7 ?_
  refine gf9_3 (pc := 8) (i := v0) hv0 lk121 hG dX9_fold_8 ?_
  refine r_aload_n (pc := 11) 0 0 rfl rfl hG dX9_fold_11 ?_
  refine gf9_0 (pc := 12) (i := v0) hv0 lk118 hG dX9_fold_12 ?_
  refine r_imul (pc := 15) hG dX9_fold_15 ?_
  refine r_icmp_ge (pc := 16) (tgt := 40) (by decide) hG dX9_fold_16 (fun h1 => ?_) (fun h1 => ?_)
  · refine r_lload_n (pc := 40) 1 3 rfl rfl hG dX9_fold_40 ?_
    exact r_lret (pc := 41) rfl hG dX9_fold_41
  · refine r_ldc2 (pc := 19) (v := 31) lk1124 hG dX9_fold_19 ?_
    refine r_lload_n (pc := 22) 1 3 rfl rfl hG dX9_fold_22 ?_
    refine r_lmul (pc := 23) hG dX9_fold_23 ?_
    refine r_aload_n (pc := 24) 0 0 rfl rfl hG dX9_fold_24 ?_
    refine gf9_2 (pc := 25) (i := v0) hv0 lk120 hG dX9_fold_25 ?_
    refine r_iload (pc := 28) 2 rfl hG dX9_fold_28 ?_
    refine r_ck hG (fun h2 => ?_)
    refine r_iald (pc := 30) (i := (v0 + 1)) (sh9_1 hv0) rfl h2 hG dX9_fold_30 ?_
    refine r_i2l (pc := 31) hG dX9_fold_31 ?_
    refine r_ladd (pc := 32) hG dX9_fold_32 ?_
    refine r_bL hG (fun x3 => ?_)
    refine r_lstore_n (pc := 33) (lv' := [(3, .long x3), (0, .ref (X.2.1 + v0)), (5, .int v5)]) 3 rfl (by decide) rfl hG dX9_fold_33 ?_
    refine r_bIinc (pc := 34) (lv' := fun x4 => [(5, .int x4), (3, .long x3), (0, .ref (X.2.1 + v0))]) 2 rfl rfl (by decide) (fun _ => rfl) hG dX9_fold_34 (fun x4 => ?_)
    refine r_goto (pc := 37) (tgt := 5) (by decide) hG dX9_fold_37 ?_
    exact r_sub [2, 1, 0] rfl hG (hK5 v0 x3 x4 hv0)
set_option maxRecDepth 4000 in
theorem w_Ta_fold_L5 {σ : St} {X : Cx} {G : GT Int64} (N : Nat) (hG : IsG X RX9 cX9_fold 6 1 (some .long) (oL σ) G) : ∀ (n : Nat), ∀ (v0 : Nat) (v3 : Int64) (v5 : Int32), shp v0 = 9 → G (Ta_fold_L5 N n v0 v3 v5 σ) σ 5 [(0, .ref (X.2.1 + v0)), (3, .long v3), (5, .int v5)] [] := by
  intro n
  induction n with
  | zero => intro v0 v3 v5 hv0; exact r_none hG
  | succ n ih => intro v0 v3 v5 hv0; exact w_Ta_fold_L5B N hG ih v0 v3 v5 hv0
set_option maxRecDepth 4000 in
theorem c_Ta_fold (X : Cx) (N : Nat) (v0 : Nat) (v1 : Int64) (σ : St) (hv0 : shp v0 = 9) (r : Int64) (hE : Ta_fold N v0 v1 σ = some r) : Ctr X yX9_fold cX9_fold 6 (some .long) 1 [.ref (X.2.1 + v0), .long v1] σ (some (.long r)) σ := by
  refine Ctr.of (out := (oL σ)) (E := Ta_fold N v0 v1 σ) rfl (Nat.le_of_ble_eq_true rfl) (fun G hG => ?_) r hE
  unfold Ta_fold
  refine r_lload_n (pc := 0) 1 1 rfl rfl hG dX9_fold_0 ?_
  refine r_lstore_n (pc := 1) (lv' := [(3, .long v1), (0, .ref (X.2.1 + v0)), (1, .long v1)]) 3 rfl (by decide) rfl hG dX9_fold_1 ?_
  refine r_iconst (pc := 2) (v := 0) (by decide) hG dX9_fold_2 ?_
  refine r_istore (pc := 3) (lv' := [(5, .int 0), (3, .long v1), (0, .ref (X.2.1 + v0)), (1, .long v1)]) (by decide) rfl hG dX9_fold_3 ?_
  exact r_sub [2, 1, 0] rfl hG (w_Ta_fold_L5 N hG N v0 v1 0 hv0)
set_option maxRecDepth 4000 in
theorem c_Go_refuseBad (X : Cx) (N : Nat) (σ : St) (r : Int32) (σ1 : St) (hE : Go_refuseBad N σ = some (r, σ1)) : Ctr X yX11_refuseBad cX11_refuseBad 1 (some .int) 1 [.ref (X.2.1 + 0)] σ (some (.int r)) σ1 := by
  refine Ctr.of (out := oWI) (E := Go_refuseBad N σ) rfl (Nat.le_of_ble_eq_true rfl) (fun G hG => ?_) (r, σ1) hE
  unfold Go_refuseBad
  refine r_aload_n (pc := 0) 0 0 rfl rfl hG dX11_refuseBad_0 ?_
  refine gf11_6 (pc := 1) lk446 hG dX11_refuseBad_1 ?_
  refine r_iconst (pc := 4) (v := 0) (by decide) hG dX11_refuseBad_4 ?_
  refine r_dup2 (pc := 5) rfl rfl hG dX11_refuseBad_5 ?_
  refine r_iald (pc := 6) (i := 44) (rfl : shp 44 = 14) rfl (by decide) hG dX11_refuseBad_6 ?_
  refine r_iconst (pc := 7) (v := 1) (by decide) hG dX11_refuseBad_7 ?_
  refine r_iadd (pc := 8) hG dX11_refuseBad_8 ?_
  refine r_iast (pc := 9) (i := 44) (rfl : shp 44 = 14) rfl (by decide) hG dX11_refuseBad_9 ?_
  refine r_bS hG (fun s1 => ?_)
  refine r_bipush (pc := 10) (v := (-2)) (by decide) hG dX11_refuseBad_10 ?_
  exact r_iret (pc := 12) rfl hG dX11_refuseBad_12
set_option maxRecDepth 4000 in
theorem c_Go_water (X : Cx) (N : Nat) (v1 : Int32) (σ : St) (r : Int32) (σ1 : St) (hE : Go_water N v1 σ = some (r, σ1)) : Ctr X yX11_water cX11_water 3 (some .int) 2 [.ref (X.2.1 + 0), .int v1] σ (some (.int r)) σ1 := by
  refine Ctr.of (out := oWI) (E := Go_water N v1 σ) rfl (Nat.le_of_ble_eq_true rfl) (fun G hG => ?_) (r, σ1) hE
  unfold Go_water
  refine r_iload_n (pc := 0) 1 1 rfl rfl hG dX11_water_0 ?_
  refine r_iconst (pc := 1) (v := 0) (by decide) hG dX11_water_1 ?_
  refine r_bipush (pc := 2) (v := 9) (by decide) hG dX11_water_2 ?_
  refine r_callSi (pc := 4) (As := [.int v1, .int 0, .int 9]) (c_Go_within X v1 0 9 σ) mfX11_91_X11_within hySX11_within (by decide) (by decide) rfl (Nat.le_of_ble_eq_true rfl) hG dX11_water_4 rfl (fun n2 => ?_)
  refine r_if_ne (pc := 7) (tgt := 15) (by decide) hG dX11_water_7 (fun h4 => ?_) (fun h4 => ?_)
  · refine r_aload_n (pc := 15) 0 0 rfl rfl hG dX11_water_15 ?_
    refine gf11_0 (pc := 16) lk440 hG dX11_water_16 ?_
    refine gf4_5 (pc := 19) (i := 1) (rfl : shp 1 = 4) lk236 hG dX11_water_19 ?_
    refine r_bI hG (fun x5 => ?_)
    refine r_istore_n (pc := 22) (lv' := [(2, .int x5), (0, .ref (X.2.1 + 0)), (1, .int v1)]) 2 rfl (by decide) rfl hG dX11_water_22 ?_
    refine r_aload_n (pc := 23) 1 0 rfl rfl hG dX11_water_23 ?_
    refine gf11_0 (pc := 24) lk440 hG dX11_water_24 ?_
    refine r_iload_n (pc := 27) 2 1 rfl rfl hG dX11_water_27 ?_
    refine r_bR hG (fun s7 e9 => ?_)
    refine r_callVv (pc := 28) (As := [.int v1]) (c_Ni_begin X N 1 v1 σ (rfl : shp 1 = 4) s7 e9) (wsOf_at (rfl : shp 1 = 4) (by decide) rfl) rfl mfX11_87_X4_begin hyVX4_begin (by decide) (by decide) rfl (Nat.le_of_ble_eq_true rfl) hG dX11_water_28 rfl (fun n8 => ?_)
    refine r_iload_n (pc := 31) 0 2 rfl rfl hG dX11_water_31 ?_
    exact r_iret (pc := 32) rfl hG dX11_water_32
  · refine r_aload_n (pc := 10) 0 0 rfl rfl hG dX11_water_10 ?_
    refine r_bW hG (fun r10 s11 e13 => ?_)
    refine r_callVi (pc := 11) (As := []) (c_Go_refuseBad X N σ r10 s11 e13) (wsOf_at (rfl : shp 0 = 11) (by decide) rfl) rfl mfX11_95_X11_refuseBad hyVX11_refuseBad (by decide) (by decide) rfl (Nat.le_of_ble_eq_true rfl) hG dX11_water_11 rfl (fun n12 => ?_)
    exact r_iret (pc := 14) rfl hG dX11_water_14
set_option maxRecDepth 4000 in
theorem c_Go_isPlace (X : Cx) (v0 : Int32) (σ : St) : Ctr X yX11_isPlace cX11_isPlace 1 (some .boolean) 2 [.int v0] σ (some (.int (Go_isPlace v0))) σ := by
  refine Ctr.of (out := (oI σ)) (E := some (Go_isPlace v0)) rfl (Nat.le_of_ble_eq_true rfl) (fun G hG => ?_) _ rfl
  unfold Go_isPlace
  refine r_iload_n (pc := 0) 0 0 rfl rfl hG dX11_isPlace_0 ?_
  refine r_iconst (pc := 1) (v := 0) (by decide) hG dX11_isPlace_1 ?_
  refine r_bipush (pc := 2) (v := 7) (by decide) hG dX11_isPlace_2 ?_
  refine r_callSi (pc := 4) (As := [.int v0, .int 0, .int 7]) (c_Go_within X v0 0 7 σ) mfX11_91_X11_within hySX11_within (by decide) (by decide) rfl (Nat.le_of_ble_eq_true rfl) hG dX11_isPlace_4 rfl (fun n2 => ?_)
  exact r_zret (pc := 7) n2 rfl hG dX11_isPlace_7
set_option maxRecDepth 4000 in
theorem w_Go_dark_J17 {X : Cx} {G : GT (Int32 × St)} (N : Nat) (hG : IsG X RX11 cX11_dark 4 3 (some .int) oWI G) (σ : St) : G (Go_dark_J17 N σ) σ 17 [(0, .ref (X.2.1 + 0))] [] := by
  unfold Go_dark_J17
  refine r_aload_n (pc := 17) 0 0 rfl rfl hG dX11_dark_17 ?_
  refine r_bW hG (fun r5 s6 e8 => ?_)
  refine r_callVi (pc := 18) (As := []) (c_Go_refuseBad X N σ r5 s6 e8) (wsOf_at (rfl : shp 0 = 11) (by decide) rfl) rfl mfX11_95_X11_refuseBad hyVX11_refuseBad (by decide) (by decide) rfl (Nat.le_of_ble_eq_true rfl) hG dX11_dark_18 rfl (fun n7 => ?_)
  exact r_iret (pc := 21) rfl hG dX11_dark_21
set_option maxRecDepth 4000 in
theorem c_Go_dark (X : Cx) (N : Nat) (v1 : Int32) (v2 : Int32) (σ : St) (r : Int32) (σ1 : St) (hE : Go_dark N v1 v2 σ = some (r, σ1)) : Ctr X yX11_dark cX11_dark 4 (some .int) 3 [.ref (X.2.1 + 0), .int v1, .int v2] σ (some (.int r)) σ1 := by
  refine Ctr.of (out := oWI) (E := Go_dark N v1 v2 σ) rfl (Nat.le_of_ble_eq_true rfl) (fun G hG => ?_) (r, σ1) hE
  unfold Go_dark
  refine r_iload_n (pc := 0) 1 1 rfl rfl hG dX11_dark_0 ?_
  refine r_callSi (pc := 1) (As := [.int v1]) (c_Go_isPlace X v1 σ) mfX11_103_X11_isPlace hySX11_isPlace (by decide) (by decide) rfl (Nat.le_of_ble_eq_true rfl) hG dX11_dark_1 rfl (fun n2 => ?_)
  refine r_if_eq (pc := 4) (tgt := 17) (by decide) hG dX11_dark_4 (fun h4 => ?_) (fun h4 => ?_)
  · exact r_sub [0] rfl hG (w_Go_dark_J17 N hG σ)
  · refine r_iload_n (pc := 7) 2 2 rfl rfl hG dX11_dark_7 ?_
    refine r_iconst (pc := 8) (v := 0) (by decide) hG dX11_dark_8 ?_
    refine r_bipush (pc := 9) (v := 9) (by decide) hG dX11_dark_9 ?_
    refine r_callSi (pc := 11) (As := [.int v2, .int 0, .int 9]) (c_Go_within X v2 0 9 σ) mfX11_91_X11_within hySX11_within (by decide) (by decide) rfl (Nat.le_of_ble_eq_true rfl) hG dX11_dark_11 rfl (fun n10 => ?_)
    refine r_if_ne (pc := 14) (tgt := 22) (by decide) hG dX11_dark_14 (fun h12 => ?_) (fun h12 => ?_)
    · refine r_aload_n (pc := 22) 0 0 rfl rfl hG dX11_dark_22 ?_
      refine gf11_0 (pc := 23) lk440 hG dX11_dark_23 ?_
      refine gf4_0 (pc := 26) (i := 1) (rfl : shp 1 = 4) lk218 hG dX11_dark_26 ?_
      refine r_iload_n (pc := 29) 1 1 rfl rfl hG dX11_dark_29 ?_
      refine r_ck hG (fun h13 => ?_)
      refine r_iald (pc := 30) (i := 2) (rfl : shp 2 = 14) rfl h13 hG dX11_dark_30 ?_
      refine r_bI hG (fun x14 => ?_)
      refine r_istore_n (pc := 31) (lv' := [(3, .int x14), (0, .ref (X.2.1 + 0)), (1, .int v1), (2, .int v2)]) 3 rfl (by decide) rfl hG dX11_dark_31 ?_
      refine r_aload_n (pc := 32) 1 0 rfl rfl hG dX11_dark_32 ?_
      refine gf11_0 (pc := 33) lk440 hG dX11_dark_33 ?_
      refine gf4_0 (pc := 36) (i := 1) (rfl : shp 1 = 4) lk218 hG dX11_dark_36 ?_
      refine r_iload_n (pc := 39) 2 1 rfl rfl hG dX11_dark_39 ?_
      refine r_iload_n (pc := 40) 3 2 rfl rfl hG dX11_dark_40 ?_
      refine r_ck hG (fun h15 => ?_)
      refine r_iast (pc := 41) (i := 2) (rfl : shp 2 = 14) rfl h15 hG dX11_dark_41 ?_
      refine r_bS hG (fun s16 => ?_)
      refine r_aload_n (pc := 42) 1 0 rfl rfl hG dX11_dark_42 ?_
      refine gf11_0 (pc := 43) lk440 hG dX11_dark_43 ?_
      refine gf4_9 (pc := 46) (i := 1) (rfl : shp 1 = 4) lk250 hG dX11_dark_46 ?_
      refine r_iconst (pc := 49) (v := 0) (by decide) hG dX11_dark_49 ?_
      refine pf5_1 (pc := 50) (i := 12) (rfl : shp 12 = 5) lk144 hG dX11_dark_50 ?_
      refine r_bS hG (fun s17 => ?_)
      refine r_iload_n (pc := 53) 0 3 rfl rfl hG dX11_dark_53 ?_
      exact r_iret (pc := 54) rfl hG dX11_dark_54
    · exact r_sub [0] rfl hG (w_Go_dark_J17 N hG σ)
set_option maxRecDepth 4000 in
theorem w_Go_canal_J29 {X : Cx} {G : GT (Int32 × St)} (N : Nat) (hG : IsG X RX11 cX11_canal 5 3 (some .int) oWI G) (σ : St) : G (Go_canal_J29 N σ) σ 29 [(0, .ref (X.2.1 + 0))] [] := by
  unfold Go_canal_J29
  refine r_aload_n (pc := 29) 0 0 rfl rfl hG dX11_canal_29 ?_
  refine r_bW hG (fun r5 s6 e8 => ?_)
  refine r_callVi (pc := 30) (As := []) (c_Go_refuseBad X N σ r5 s6 e8) (wsOf_at (rfl : shp 0 = 11) (by decide) rfl) rfl mfX11_95_X11_refuseBad hyVX11_refuseBad (by decide) (by decide) rfl (Nat.le_of_ble_eq_true rfl) hG dX11_canal_30 rfl (fun n7 => ?_)
  exact r_iret (pc := 33) rfl hG dX11_canal_33
set_option maxRecDepth 4000 in
theorem c_Go_canal (X : Cx) (N : Nat) (v1 : Int32) (v2 : Int32) (v3 : Int32) (σ : St) (r : Int32) (σ1 : St) (hE : Go_canal N v1 v2 v3 σ = some (r, σ1)) : Ctr X yX11_canal cX11_canal 5 (some .int) 3 [.ref (X.2.1 + 0), .int v1, .int v2, .int v3] σ (some (.int r)) σ1 := by
  refine Ctr.of (out := oWI) (E := Go_canal N v1 v2 v3 σ) rfl (Nat.le_of_ble_eq_true rfl) (fun G hG => ?_) (r, σ1) hE
  unfold Go_canal
  refine r_iload_n (pc := 0) 1 1 rfl rfl hG dX11_canal_0 ?_
  refine r_callSi (pc := 1) (As := [.int v1]) (c_Go_isPlace X v1 σ) mfX11_103_X11_isPlace hySX11_isPlace (by decide) (by decide) rfl (Nat.le_of_ble_eq_true rfl) hG dX11_canal_1 rfl (fun n2 => ?_)
  refine r_if_eq (pc := 4) (tgt := 29) (by decide) hG dX11_canal_4 (fun h4 => ?_) (fun h4 => ?_)
  · exact r_sub [0] rfl hG (w_Go_canal_J29 N hG σ)
  · refine r_iload_n (pc := 7) 2 2 rfl rfl hG dX11_canal_7 ?_
    refine r_callSi (pc := 8) (As := [.int v2]) (c_Go_isPlace X v2 σ) mfX11_103_X11_isPlace hySX11_isPlace (by decide) (by decide) rfl (Nat.le_of_ble_eq_true rfl) hG dX11_canal_8 rfl (fun n10 => ?_)
    refine r_if_eq (pc := 11) (tgt := 29) (by decide) hG dX11_canal_11 (fun h12 => ?_) (fun h12 => ?_)
    · exact r_sub [0] rfl hG (w_Go_canal_J29 N hG σ)
    · refine r_iload_n (pc := 14) 1 1 rfl rfl hG dX11_canal_14 ?_
      refine r_iload_n (pc := 15) 2 2 rfl rfl hG dX11_canal_15 ?_
      refine r_icmp_eq (pc := 16) (tgt := 29) (by decide) hG dX11_canal_16 (fun h13 => ?_) (fun h13 => ?_)
      · exact r_sub [0] rfl hG (w_Go_canal_J29 N hG σ)
      · refine r_iload_n (pc := 19) 3 3 rfl rfl hG dX11_canal_19 ?_
        refine r_iconst (pc := 20) (v := 0) (by decide) hG dX11_canal_20 ?_
        refine r_bipush (pc := 21) (v := 9) (by decide) hG dX11_canal_21 ?_
        refine r_callSi (pc := 23) (As := [.int v3, .int 0, .int 9]) (c_Go_within X v3 0 9 σ) mfX11_91_X11_within hySX11_within (by decide) (by decide) rfl (Nat.le_of_ble_eq_true rfl) hG dX11_canal_23 rfl (fun n15 => ?_)
        refine r_if_ne (pc := 26) (tgt := 34) (by decide) hG dX11_canal_26 (fun h17 => ?_) (fun h17 => ?_)
        · refine r_aload_n (pc := 34) 0 0 rfl rfl hG dX11_canal_34 ?_
          refine gf11_0 (pc := 35) lk440 hG dX11_canal_35 ?_
          refine r_iload_n (pc := 38) 1 1 rfl rfl hG dX11_canal_38 ?_
          refine r_iload_n (pc := 39) 2 2 rfl rfl hG dX11_canal_39 ?_
          refine r_bR hG (fun r18 e20 => ?_)
          refine r_callVi (pc := 40) (As := [.int v1, .int v2]) (c_Ni_strokesBetween X N 1 v1 v2 σ (rfl : shp 1 = 4) r18 e20) (wsOf_at (rfl : shp 1 = 4) (by decide) rfl) rfl mfX11_119_X4_strokesBetween hyVX4_strokesBetween (by decide) (by decide) rfl (Nat.le_of_ble_eq_true rfl) hG dX11_canal_40 rfl (fun n19 => ?_)
          refine r_istore (pc := 43) (lv' := [(4, .int r18), (0, .ref (X.2.1 + 0)), (1, .int v1), (2, .int v2), (3, .int v3)]) (by decide) rfl hG dX11_canal_43 ?_
          refine r_aload_n (pc := 45) 1 0 rfl rfl hG dX11_canal_45 ?_
          refine gf11_0 (pc := 46) lk440 hG dX11_canal_46 ?_
          refine r_iload_n (pc := 49) 2 1 rfl rfl hG dX11_canal_49 ?_
          refine r_iload_n (pc := 50) 3 2 rfl rfl hG dX11_canal_50 ?_
          refine r_iload_n (pc := 51) 4 3 rfl rfl hG dX11_canal_51 ?_
          refine r_bR hG (fun s22 e24 => ?_)
          refine r_callVv (pc := 52) (As := [.int v1, .int v2, .int v3]) (c_Ni_dig X N 1 v1 v2 v3 σ (rfl : shp 1 = 4) s22 e24) (wsOf_at (rfl : shp 1 = 4) (by decide) rfl) rfl mfX11_123_X4_dig hyVX4_dig (by decide) (by decide) rfl (Nat.le_of_ble_eq_true rfl) hG dX11_canal_52 rfl (fun n23 => ?_)
          refine r_aload_n (pc := 55) 1 0 rfl rfl hG dX11_canal_55 ?_
          refine gf11_0 (pc := 56) lk440 hG dX11_canal_56 ?_
          refine gf4_9 (pc := 59) (i := 1) (rfl : shp 1 = 4) lk250 hG dX11_canal_59 ?_
          refine r_iconst (pc := 62) (v := 0) (by decide) hG dX11_canal_62 ?_
          refine pf5_1 (pc := 63) (i := 12) (rfl : shp 12 = 5) lk144 hG dX11_canal_63 ?_
          refine r_bS hG (fun s25 => ?_)
          refine r_iload (pc := 66) 0 rfl hG dX11_canal_66 ?_
          exact r_iret (pc := 68) rfl hG dX11_canal_68
        · exact r_sub [0] rfl hG (w_Go_canal_J29 N hG σ)
set_option maxRecDepth 4000 in
theorem c_Go_refuseFull (X : Cx) (N : Nat) (σ : St) (r : Int32) (σ1 : St) (hE : Go_refuseFull N σ = some (r, σ1)) : Ctr X yX11_refuseFull cX11_refuseFull 1 (some .int) 1 [.ref (X.2.1 + 0)] σ (some (.int r)) σ1 := by
  refine Ctr.of (out := oWI) (E := Go_refuseFull N σ) rfl (Nat.le_of_ble_eq_true rfl) (fun G hG => ?_) (r, σ1) hE
  unfold Go_refuseFull
  refine r_aload_n (pc := 0) 0 0 rfl rfl hG dX11_refuseFull_0 ?_
  refine gf11_6 (pc := 1) lk446 hG dX11_refuseFull_1 ?_
  refine r_iconst (pc := 4) (v := 2) (by decide) hG dX11_refuseFull_4 ?_
  refine r_dup2 (pc := 5) rfl rfl hG dX11_refuseFull_5 ?_
  refine r_iald (pc := 6) (i := 44) (rfl : shp 44 = 14) rfl (by decide) hG dX11_refuseFull_6 ?_
  refine r_iconst (pc := 7) (v := 1) (by decide) hG dX11_refuseFull_7 ?_
  refine r_iadd (pc := 8) hG dX11_refuseFull_8 ?_
  refine r_iast (pc := 9) (i := 44) (rfl : shp 44 = 14) rfl (by decide) hG dX11_refuseFull_9 ?_
  refine r_bS hG (fun s1 => ?_)
  refine r_bipush (pc := 10) (v := (-4)) (by decide) hG dX11_refuseFull_10 ?_
  exact r_iret (pc := 12) rfl hG dX11_refuseFull_12
set_option maxRecDepth 4000 in
theorem w_Go_rower_J19 {X : Cx} {G : GT (Int32 × St)} (N : Nat) (hG : IsG X RX11 cX11_rower 3 2 (some .int) oWI G) (σ : St) : G (Go_rower_J19 N σ) σ 19 [(0, .ref (X.2.1 + 0))] [] := by
  unfold Go_rower_J19
  refine r_aload_n (pc := 19) 0 0 rfl rfl hG dX11_rower_19 ?_
  refine r_bW hG (fun r5 s6 e8 => ?_)
  refine r_callVi (pc := 20) (As := []) (c_Go_refuseBad X N σ r5 s6 e8) (wsOf_at (rfl : shp 0 = 11) (by decide) rfl) rfl mfX11_95_X11_refuseBad hyVX11_refuseBad (by decide) (by decide) rfl (Nat.le_of_ble_eq_true rfl) hG dX11_rower_20 rfl (fun n7 => ?_)
  exact r_iret (pc := 23) rfl hG dX11_rower_23
set_option maxRecDepth 4000 in
theorem c_Go_rower (X : Cx) (N : Nat) (v1 : Int32) (v2 : Int32) (σ : St) (r : Int32) (σ1 : St) (hE : Go_rower N v1 v2 σ = some (r, σ1)) : Ctr X yX11_rower cX11_rower 3 (some .int) 2 [.ref (X.2.1 + 0), .int v1, .int v2] σ (some (.int r)) σ1 := by
  refine Ctr.of (out := oWI) (E := Go_rower N v1 v2 σ) rfl (Nat.le_of_ble_eq_true rfl) (fun G hG => ?_) (r, σ1) hE
  unfold Go_rower
  refine r_iload_n (pc := 0) 1 1 rfl rfl hG dX11_rower_0 ?_
  refine r_iconst (pc := 1) (v := 0) (by decide) hG dX11_rower_1 ?_
  refine r_iconst (pc := 2) (v := 5) (by decide) hG dX11_rower_2 ?_
  refine r_callSi (pc := 3) (As := [.int v1, .int 0, .int 5]) (c_Go_within X v1 0 5 σ) mfX11_91_X11_within hySX11_within (by decide) (by decide) rfl (Nat.le_of_ble_eq_true rfl) hG dX11_rower_3 rfl (fun n2 => ?_)
  refine r_if_eq (pc := 6) (tgt := 19) (by decide) hG dX11_rower_6 (fun h4 => ?_) (fun h4 => ?_)
  · exact r_sub [0] rfl hG (w_Go_rower_J19 N hG σ)
  · refine r_iload_n (pc := 9) 2 2 rfl rfl hG dX11_rower_9 ?_
    refine r_iconst (pc := 10) (v := 0) (by decide) hG dX11_rower_10 ?_
    refine r_bipush (pc := 11) (v := 9) (by decide) hG dX11_rower_11 ?_
    refine r_callSi (pc := 13) (As := [.int v2, .int 0, .int 9]) (c_Go_within X v2 0 9 σ) mfX11_91_X11_within hySX11_within (by decide) (by decide) rfl (Nat.le_of_ble_eq_true rfl) hG dX11_rower_13 rfl (fun n10 => ?_)
    refine r_if_ne (pc := 16) (tgt := 24) (by decide) hG dX11_rower_16 (fun h12 => ?_) (fun h12 => ?_)
    · refine r_aload_n (pc := 24) 0 0 rfl rfl hG dX11_rower_24 ?_
      refine gf11_0 (pc := 25) lk440 hG dX11_rower_25 ?_
      refine gf4_4 (pc := 28) (i := 1) (rfl : shp 1 = 4) lk235 hG dX11_rower_28 ?_
      refine r_iconst (pc := 31) (v := 3) (by decide) hG dX11_rower_31 ?_
      refine r_icmp_lt (pc := 32) (tgt := 40) (by decide) hG dX11_rower_32 (fun h13 => ?_) (fun h13 => ?_)
      · refine r_aload_n (pc := 40) 0 0 rfl rfl hG dX11_rower_40 ?_
        refine gf11_0 (pc := 41) lk440 hG dX11_rower_41 ?_
        refine r_iload_n (pc := 44) 1 1 rfl rfl hG dX11_rower_44 ?_
        refine r_iload_n (pc := 45) 2 2 rfl rfl hG dX11_rower_45 ?_
        refine r_bR hG (fun s15 e17 => ?_)
        refine r_callVv (pc := 46) (As := [.int v1, .int v2]) (c_Ni_addRower X N 1 v1 v2 σ (rfl : shp 1 = 4) s15 e17) (wsOf_at (rfl : shp 1 = 4) (by decide) rfl) rfl mfX11_133_X4_addRower hyVX4_addRower (by decide) (by decide) rfl (Nat.le_of_ble_eq_true rfl) hG dX11_rower_46 rfl (fun n16 => ?_)
        refine r_aload_n (pc := 49) 0 0 rfl rfl hG dX11_rower_49 ?_
        refine gf11_0 (pc := 50) lk440 hG dX11_rower_50 ?_
        refine gf4_9 (pc := 53) (i := 1) (rfl : shp 1 = 4) lk250 hG dX11_rower_53 ?_
        refine r_iconst (pc := 56) (v := 0) (by decide) hG dX11_rower_56 ?_
        refine pf5_1 (pc := 57) (i := 12) (rfl : shp 12 = 5) lk144 hG dX11_rower_57 ?_
        refine r_bS hG (fun s18 => ?_)
        refine r_aload_n (pc := 60) 0 0 rfl rfl hG dX11_rower_60 ?_
        refine gf11_0 (pc := 61) lk440 hG dX11_rower_61 ?_
        refine gf4_4 (pc := 64) (i := 1) (rfl : shp 1 = 4) lk235 hG dX11_rower_64 ?_
        refine r_iconst (pc := 67) (v := 1) (by decide) hG dX11_rower_67 ?_
        refine r_isub (pc := 68) hG dX11_rower_68 ?_
        exact r_iret (pc := 69) rfl hG dX11_rower_69
      · refine r_aload_n (pc := 35) 0 0 rfl rfl hG dX11_rower_35 ?_
        refine r_bW hG (fun r19 s20 e22 => ?_)
        refine r_callVi (pc := 36) (As := []) (c_Go_refuseFull X N σ r19 s20 e22) (wsOf_at (rfl : shp 0 = 11) (by decide) rfl) rfl mfX11_130_X11_refuseFull hyVX11_refuseFull (by decide) (by decide) rfl (Nat.le_of_ble_eq_true rfl) hG dX11_rower_36 rfl (fun n21 => ?_)
        exact r_iret (pc := 39) rfl hG dX11_rower_39
    · exact r_sub [0] rfl hG (w_Go_rower_J19 N hG σ)
set_option maxRecDepth 4000 in
theorem w_Go_guest_J19 {X : Cx} {G : GT (Int32 × St)} (N : Nat) (hG : IsG X RX11 cX11_guest 3 4 (some .int) oWI G) (σ : St) : G (Go_guest_J19 N σ) σ 19 [(0, .ref (X.2.1 + 0))] [] := by
  unfold Go_guest_J19
  refine r_aload_n (pc := 19) 0 0 rfl rfl hG dX11_guest_19 ?_
  refine r_bW hG (fun r5 s6 e8 => ?_)
  refine r_callVi (pc := 20) (As := []) (c_Go_refuseBad X N σ r5 s6 e8) (wsOf_at (rfl : shp 0 = 11) (by decide) rfl) rfl mfX11_95_X11_refuseBad hyVX11_refuseBad (by decide) (by decide) rfl (Nat.le_of_ble_eq_true rfl) hG dX11_guest_20 rfl (fun n7 => ?_)
  exact r_iret (pc := 23) rfl hG dX11_guest_23
set_option maxRecDepth 4000 in
theorem c_Go_guest (X : Cx) (N : Nat) (v1 : Int32) (v2 : Int32) (σ : St) (r : Int32) (σ1 : St) (hE : Go_guest N v1 v2 σ = some (r, σ1)) : Ctr X yX11_guest cX11_guest 3 (some .int) 4 [.ref (X.2.1 + 0), .int v1, .int v2] σ (some (.int r)) σ1 := by
  refine Ctr.of (out := oWI) (E := Go_guest N v1 v2 σ) rfl (Nat.le_of_ble_eq_true rfl) (fun G hG => ?_) (r, σ1) hE
  unfold Go_guest
  refine r_iload_n (pc := 0) 1 1 rfl rfl hG dX11_guest_0 ?_
  refine r_iconst (pc := 1) (v := 0) (by decide) hG dX11_guest_1 ?_
  refine r_iconst (pc := 2) (v := 5) (by decide) hG dX11_guest_2 ?_
  refine r_callSi (pc := 3) (As := [.int v1, .int 0, .int 5]) (c_Go_within X v1 0 5 σ) mfX11_91_X11_within hySX11_within (by decide) (by decide) rfl (Nat.le_of_ble_eq_true rfl) hG dX11_guest_3 rfl (fun n2 => ?_)
  refine r_if_eq (pc := 6) (tgt := 19) (by decide) hG dX11_guest_6 (fun h4 => ?_) (fun h4 => ?_)
  · exact r_sub [0] rfl hG (w_Go_guest_J19 N hG σ)
  · refine r_iload_n (pc := 9) 2 2 rfl rfl hG dX11_guest_9 ?_
    refine r_iconst (pc := 10) (v := 1) (by decide) hG dX11_guest_10 ?_
    refine r_bipush (pc := 11) (v := 40) (by decide) hG dX11_guest_11 ?_
    refine r_callSi (pc := 13) (As := [.int v2, .int 1, .int 40]) (c_Go_within X v2 1 40 σ) mfX11_91_X11_within hySX11_within (by decide) (by decide) rfl (Nat.le_of_ble_eq_true rfl) hG dX11_guest_13 rfl (fun n10 => ?_)
    refine r_if_ne (pc := 16) (tgt := 24) (by decide) hG dX11_guest_16 (fun h12 => ?_) (fun h12 => ?_)
    · refine r_aload_n (pc := 24) 0 0 rfl rfl hG dX11_guest_24 ?_
      refine gf11_0 (pc := 25) lk440 hG dX11_guest_25 ?_
      refine gf4_5 (pc := 28) (i := 1) (rfl : shp 1 = 4) lk236 hG dX11_guest_28 ?_
      refine r_iconst (pc := 31) (v := 4) (by decide) hG dX11_guest_31 ?_
      refine r_icmp_lt (pc := 32) (tgt := 40) (by decide) hG dX11_guest_32 (fun h13 => ?_) (fun h13 => ?_)
      · refine r_aload_n (pc := 40) 0 0 rfl rfl hG dX11_guest_40 ?_
        refine gf11_0 (pc := 41) lk440 hG dX11_guest_41 ?_
        refine r_iload_n (pc := 44) 1 1 rfl rfl hG dX11_guest_44 ?_
        refine r_iload_n (pc := 45) 2 2 rfl rfl hG dX11_guest_45 ?_
        refine r_bR hG (fun s15 e17 => ?_)
        refine r_callVv (pc := 46) (As := [.int v1, .int v2]) (c_Ni_addGuest X N 1 v1 v2 σ (rfl : shp 1 = 4) s15 e17) (wsOf_at (rfl : shp 1 = 4) (by decide) rfl) rfl mfX11_137_X4_addGuest hyVX4_addGuest (by decide) (by decide) rfl (Nat.le_of_ble_eq_true rfl) hG dX11_guest_46 rfl (fun n16 => ?_)
        refine r_aload_n (pc := 49) 0 0 rfl rfl hG dX11_guest_49 ?_
        refine gf11_0 (pc := 50) lk440 hG dX11_guest_50 ?_
        refine gf4_9 (pc := 53) (i := 1) (rfl : shp 1 = 4) lk250 hG dX11_guest_53 ?_
        refine r_iconst (pc := 56) (v := 0) (by decide) hG dX11_guest_56 ?_
        refine pf5_1 (pc := 57) (i := 12) (rfl : shp 12 = 5) lk144 hG dX11_guest_57 ?_
        refine r_bS hG (fun s18 => ?_)
        refine r_aload_n (pc := 60) 0 0 rfl rfl hG dX11_guest_60 ?_
        refine gf11_0 (pc := 61) lk440 hG dX11_guest_61 ?_
        refine gf4_5 (pc := 64) (i := 1) (rfl : shp 1 = 4) lk236 hG dX11_guest_64 ?_
        refine r_iconst (pc := 67) (v := 1) (by decide) hG dX11_guest_67 ?_
        refine r_isub (pc := 68) hG dX11_guest_68 ?_
        exact r_iret (pc := 69) rfl hG dX11_guest_69
      · refine r_aload_n (pc := 35) 0 0 rfl rfl hG dX11_guest_35 ?_
        refine r_bW hG (fun r19 s20 e22 => ?_)
        refine r_callVi (pc := 36) (As := []) (c_Go_refuseFull X N σ r19 s20 e22) (wsOf_at (rfl : shp 0 = 11) (by decide) rfl) rfl mfX11_130_X11_refuseFull hyVX11_refuseFull (by decide) (by decide) rfl (Nat.le_of_ble_eq_true rfl) hG dX11_guest_36 rfl (fun n21 => ?_)
        exact r_iret (pc := 39) rfl hG dX11_guest_39
    · exact r_sub [0] rfl hG (w_Go_guest_J19 N hG σ)
set_option maxRecDepth 4000 in
theorem c_Go_type (X : Cx) (N : Nat) (v1 : Int32) (σ : St) (r : Int32) (σ1 : St) (hE : Go_type N v1 σ = some (r, σ1)) : Ctr X yX11_type cX11_type 2 (some .int) 2 [.ref (X.2.1 + 0), .int v1] σ (some (.int r)) σ1 := by
  refine Ctr.of (out := oWI) (E := Go_type N v1 σ) rfl (Nat.le_of_ble_eq_true rfl) (fun G hG => ?_) (r, σ1) hE
  unfold Go_type
  refine r_iload_n (pc := 0) 1 1 rfl rfl hG dX11_type_0 ?_
  refine r_iconst (pc := 1) (v := 0) (by decide) hG dX11_type_1 ?_
  refine r_bipush (pc := 2) (v := 127) (by decide) hG dX11_type_2 ?_
  refine r_callSi (pc := 4) (As := [.int v1, .int 0, .int 127]) (c_Go_within X v1 0 127 σ) mfX11_91_X11_within hySX11_within (by decide) (by decide) rfl (Nat.le_of_ble_eq_true rfl) hG dX11_type_4 rfl (fun n2 => ?_)
  refine r_if_ne (pc := 7) (tgt := 15) (by decide) hG dX11_type_7 (fun h4 => ?_) (fun h4 => ?_)
  · refine r_aload_n (pc := 15) 0 0 rfl rfl hG dX11_type_15 ?_
    refine gf11_5 (pc := 16) lk445 hG dX11_type_16 ?_
    refine r_sipush (pc := 19) (v := 150) (by decide) hG dX11_type_19 ?_
    refine r_icmp_lt (pc := 22) (tgt := 30) (by decide) hG dX11_type_22 (fun h5 => ?_) (fun h5 => ?_)
    · refine r_aload_n (pc := 30) 0 0 rfl rfl hG dX11_type_30 ?_
      refine gf11_4 (pc := 31) lk444 hG dX11_type_31 ?_
      refine r_aload_n (pc := 34) 0 0 rfl rfl hG dX11_type_34 ?_
      refine gf11_5 (pc := 35) lk445 hG dX11_type_35 ?_
      refine r_iload_n (pc := 38) 1 1 rfl rfl hG dX11_type_38 ?_
      refine r_i2b (pc := 39) hG dX11_type_39 ?_
      refine r_ck hG (fun h6 => ?_)
      refine r_bast (pc := 40) (i := 43) (rfl : shp 43 = 13) rfl h6 hG dX11_type_40 ?_
      refine r_bS hG (fun s7 => ?_)
      refine r_aload_n (pc := 41) 0 0 rfl rfl hG dX11_type_41 ?_
      refine r_dup (pc := 42) rfl hG dX11_type_42 ?_
      refine gf11_5 (pc := 43) lk445 hG dX11_type_43 ?_
      refine r_iconst (pc := 46) (v := 1) (by decide) hG dX11_type_46 ?_
      refine r_iadd (pc := 47) hG dX11_type_47 ?_
      refine pf11_5 (pc := 48) lk445 hG dX11_type_48 ?_
      refine r_bS hG (fun s8 => ?_)
      refine r_aload_n (pc := 51) 0 0 rfl rfl hG dX11_type_51 ?_
      refine gf11_5 (pc := 52) lk445 hG dX11_type_52 ?_
      exact r_iret (pc := 55) rfl hG dX11_type_55
    · refine r_aload_n (pc := 25) 0 0 rfl rfl hG dX11_type_25 ?_
      refine r_bW hG (fun r9 s10 e12 => ?_)
      refine r_callVi (pc := 26) (As := []) (c_Go_refuseFull X N σ r9 s10 e12) (wsOf_at (rfl : shp 0 = 11) (by decide) rfl) rfl mfX11_130_X11_refuseFull hyVX11_refuseFull (by decide) (by decide) rfl (Nat.le_of_ble_eq_true rfl) hG dX11_type_26 rfl (fun n11 => ?_)
      exact r_iret (pc := 29) rfl hG dX11_type_29
  · refine r_aload_n (pc := 10) 0 0 rfl rfl hG dX11_type_10 ?_
    refine r_bW hG (fun r13 s14 e16 => ?_)
    refine r_callVi (pc := 11) (As := []) (c_Go_refuseBad X N σ r13 s14 e16) (wsOf_at (rfl : shp 0 = 11) (by decide) rfl) rfl mfX11_95_X11_refuseBad hyVX11_refuseBad (by decide) (by decide) rfl (Nat.le_of_ble_eq_true rfl) hG dX11_type_11 rfl (fun n15 => ?_)
    exact r_iret (pc := 14) rfl hG dX11_type_14
set_option maxRecDepth 4000 in
theorem c_Go_clear (X : Cx) (N : Nat) (σ : St) (r : Int32) (σ1 : St) (hE : Go_clear N σ = some (r, σ1)) : Ctr X yX11_clear cX11_clear 2 (some .int) 1 [.ref (X.2.1 + 0)] σ (some (.int r)) σ1 := by
  refine Ctr.of (out := oWI) (E := Go_clear N σ) rfl (Nat.le_of_ble_eq_true rfl) (fun G hG => ?_) (r, σ1) hE
  unfold Go_clear
  refine r_aload_n (pc := 0) 0 0 rfl rfl hG dX11_clear_0 ?_
  refine gf11_5 (pc := 1) lk445 hG dX11_clear_1 ?_
  refine r_bI hG (fun x1 => ?_)
  refine r_istore_n (pc := 4) (lv' := [(1, .int x1), (0, .ref (X.2.1 + 0))]) 1 rfl (by decide) rfl hG dX11_clear_4 ?_
  refine r_aload_n (pc := 5) 1 0 rfl rfl hG dX11_clear_5 ?_
  refine r_iconst (pc := 6) (v := 0) (by decide) hG dX11_clear_6 ?_
  refine pf11_5 (pc := 7) lk445 hG dX11_clear_7 ?_
  refine r_bS hG (fun s2 => ?_)
  refine r_iload_n (pc := 10) 0 1 rfl rfl hG dX11_clear_10 ?_
  exact r_iret (pc := 11) rfl hG dX11_clear_11
set_option maxRecDepth 4000 in
theorem c_Go_read (X : Cx) (N : Nat) (σ : St) (r : Int32) (σ1 : St) (hE : Go_read N σ = some (r, σ1)) : Ctr X yX11_read cX11_read 2 (some .int) 12 [.ref (X.2.1 + 0)] σ (some (.int r)) σ1 := by
  refine Ctr.of (out := oWI) (E := Go_read N σ) rfl (Nat.le_of_ble_eq_true rfl) (fun G hG => ?_) (r, σ1) hE
  unfold Go_read
  refine r_aload_n (pc := 0) 0 0 rfl rfl hG dX11_read_0 ?_
  refine gf11_14 (pc := 1) lk454 hG dX11_read_1 ?_
  refine r_aload_n (pc := 4) 0 0 rfl rfl hG dX11_read_4 ?_
  refine gf11_1 (pc := 5) lk441 hG dX11_read_5 ?_
  refine r_aload_n (pc := 8) 0 0 rfl rfl hG dX11_read_8 ?_
  refine gf11_4 (pc := 9) lk444 hG dX11_read_9 ?_
  refine r_aload_n (pc := 12) 0 0 rfl rfl hG dX11_read_12 ?_
  refine gf11_5 (pc := 13) lk445 hG dX11_read_13 ?_
  refine r_bW hG (fun r1 s2 e4 => ?_)
  refine r_callVi (pc := 16) (As := [.ref (X.2.1 + 21), .ref (X.2.1 + 43), .int (σ.1 0 5)]) (c_Re_build X N 21 43 (σ.1 0 5) σ (rfl : shp 21 = 4) (rfl : shp 43 = 13) r1 s2 e4) (wsOf_at (rfl : shp 71 = 6) (by decide) rfl) rfl mfX11_143_X6_build hyVX6_build (by decide) (by decide) rfl (Nat.le_of_ble_eq_true rfl) hG dX11_read_16 rfl (fun n3 => ?_)
  refine r_istore_n (pc := 19) (lv' := [(1, .int r1), (0, .ref (X.2.1 + 0))]) 1 rfl (by decide) rfl hG dX11_read_19 ?_
  refine r_iload_n (pc := 20) 0 1 rfl rfl hG dX11_read_20 ?_
  refine r_if_ge (pc := 21) (tgt := 35) (by decide) hG dX11_read_21 (fun h5 => ?_) (fun h5 => ?_)
  · refine r_aload_n (pc := 35) 1 0 rfl rfl hG dX11_read_35 ?_
    refine gf11_0 (pc := 36) lk440 hG dX11_read_36 ?_
    refine r_aload_n (pc := 39) 1 0 rfl rfl hG dX11_read_39 ?_
    refine gf11_1 (pc := 40) lk441 hG dX11_read_40 ?_
    refine r_bR hG (fun s7 e9 => ?_)
    refine r_callVv (pc := 43) (As := [.ref (X.2.1 + 21)]) (c_Ni_take X N 1 21 s2 (rfl : shp 1 = 4) (rfl : shp 21 = 4) s7 e9) (wsOf_at (rfl : shp 1 = 4) (by decide) rfl) rfl mfX11_150_X4_take hyVX4_take (by decide) (by decide) rfl (Nat.le_of_ble_eq_true rfl) hG dX11_read_43 rfl (fun n8 => ?_)
    refine r_iload_n (pc := 46) 0 1 rfl rfl hG dX11_read_46 ?_
    exact r_iret (pc := 47) rfl hG dX11_read_47
  · refine r_bipush (pc := 24) (v := (-10)) (by decide) hG dX11_read_24 ?_
    refine r_aload_n (pc := 26) 1 0 rfl rfl hG dX11_read_26 ?_
    refine gf11_14 (pc := 27) lk454 hG dX11_read_27 ?_
    refine gf6_3 (pc := 30) lk416 hG dX11_read_30 ?_
    refine r_isub (pc := 33) hG dX11_read_33 ?_
    exact r_iret (pc := 34) rfl hG dX11_read_34
set_option maxRecDepth 4000 in
theorem c_Go_isGuest (X : Cx) (N : Nat) (v1 : Int32) (σ : St) (r : Int32) (hE : Go_isGuest N v1 σ = some r) : Ctr X yX11_isGuest cX11_isGuest 2 (some .boolean) 2 [.ref (X.2.1 + 0), .int v1] σ (some (.int r)) σ := by
  refine Ctr.of (out := (oI σ)) (E := Go_isGuest N v1 σ) rfl (Nat.le_of_ble_eq_true rfl) (fun G hG => ?_) r hE
  unfold Go_isGuest
  refine r_iload_n (pc := 0) 1 1 rfl rfl hG dX11_isGuest_0 ?_
  refine r_iconst (pc := 1) (v := 0) (by decide) hG dX11_isGuest_1 ?_
  refine r_aload_n (pc := 2) 0 0 rfl rfl hG dX11_isGuest_2 ?_
  refine gf11_0 (pc := 3) lk440 hG dX11_isGuest_3 ?_
  refine gf4_5 (pc := 6) (i := 1) (rfl : shp 1 = 4) lk236 hG dX11_isGuest_6 ?_
  refine r_iconst (pc := 9) (v := 1) (by decide) hG dX11_isGuest_9 ?_
  refine r_isub (pc := 10) hG dX11_isGuest_10 ?_
  refine r_callSi (pc := 11) (As := [.int v1, .int 0, .int ((σ.1 1 5) - 1)]) (c_Go_within X v1 0 ((σ.1 1 5) - 1) σ) mfX11_91_X11_within hySX11_within (by decide) (by decide) rfl (Nat.le_of_ble_eq_true rfl) hG dX11_isGuest_11 rfl (fun n2 => ?_)
  exact r_zret (pc := 14) n2 rfl hG dX11_isGuest_14
set_option maxRecDepth 4000 in
theorem c_Go_isRower (X : Cx) (N : Nat) (v1 : Int32) (σ : St) (r : Int32) (hE : Go_isRower N v1 σ = some r) : Ctr X yX11_isRower cX11_isRower 2 (some .boolean) 2 [.ref (X.2.1 + 0), .int v1] σ (some (.int r)) σ := by
  refine Ctr.of (out := (oI σ)) (E := Go_isRower N v1 σ) rfl (Nat.le_of_ble_eq_true rfl) (fun G hG => ?_) r hE
  unfold Go_isRower
  refine r_iload_n (pc := 0) 1 1 rfl rfl hG dX11_isRower_0 ?_
  refine r_iconst (pc := 1) (v := 0) (by decide) hG dX11_isRower_1 ?_
  refine r_aload_n (pc := 2) 0 0 rfl rfl hG dX11_isRower_2 ?_
  refine gf11_0 (pc := 3) lk440 hG dX11_isRower_3 ?_
  refine gf4_4 (pc := 6) (i := 1) (rfl : shp 1 = 4) lk235 hG dX11_isRower_6 ?_
  refine r_iconst (pc := 9) (v := 1) (by decide) hG dX11_isRower_9 ?_
  refine r_isub (pc := 10) hG dX11_isRower_10 ?_
  refine r_callSi (pc := 11) (As := [.int v1, .int 0, .int ((σ.1 1 4) - 1)]) (c_Go_within X v1 0 ((σ.1 1 4) - 1) σ) mfX11_91_X11_within hySX11_within (by decide) (by decide) rfl (Nat.le_of_ble_eq_true rfl) hG dX11_isRower_11 rfl (fun n2 => ?_)
  exact r_zret (pc := 14) n2 rfl hG dX11_isRower_14
set_option maxRecDepth 4000 in
theorem c_Go_refuseNo (X : Cx) (N : Nat) (σ : St) (r : Int32) (σ1 : St) (hE : Go_refuseNo N σ = some (r, σ1)) : Ctr X yX11_refuseNo cX11_refuseNo 1 (some .int) 1 [.ref (X.2.1 + 0)] σ (some (.int r)) σ1 := by
  refine Ctr.of (out := oWI) (E := Go_refuseNo N σ) rfl (Nat.le_of_ble_eq_true rfl) (fun G hG => ?_) (r, σ1) hE
  unfold Go_refuseNo
  refine r_aload_n (pc := 0) 0 0 rfl rfl hG dX11_refuseNo_0 ?_
  refine gf11_6 (pc := 1) lk446 hG dX11_refuseNo_1 ?_
  refine r_iconst (pc := 4) (v := 1) (by decide) hG dX11_refuseNo_4 ?_
  refine r_dup2 (pc := 5) rfl rfl hG dX11_refuseNo_5 ?_
  refine r_iald (pc := 6) (i := 44) (rfl : shp 44 = 14) rfl (by decide) hG dX11_refuseNo_6 ?_
  refine r_iconst (pc := 7) (v := 1) (by decide) hG dX11_refuseNo_7 ?_
  refine r_iadd (pc := 8) hG dX11_refuseNo_8 ?_
  refine r_iast (pc := 9) (i := 44) (rfl : shp 44 = 14) rfl (by decide) hG dX11_refuseNo_9 ?_
  refine r_bS hG (fun s1 => ?_)
  refine r_bipush (pc := 10) (v := (-3)) (by decide) hG dX11_refuseNo_10 ?_
  exact r_iret (pc := 12) rfl hG dX11_refuseNo_12
set_option maxRecDepth 4000 in
theorem w_Go_rows_J23 {X : Cx} {G : GT (Int32 × St)} (N : Nat) (hG : IsG X RX11 cX11_rows 5 9 (some .int) oWI G) (σ : St) : G (Go_rows_J23 N σ) σ 23 [(0, .ref (X.2.1 + 0))] [] := by
  unfold Go_rows_J23
  refine r_aload_n (pc := 23) 0 0 rfl rfl hG dX11_rows_23 ?_
  refine r_bW hG (fun r5 s6 e8 => ?_)
  refine r_callVi (pc := 24) (As := []) (c_Go_refuseBad X N σ r5 s6 e8) (wsOf_at (rfl : shp 0 = 11) (by decide) rfl) rfl mfX11_95_X11_refuseBad hyVX11_refuseBad (by decide) (by decide) rfl (Nat.le_of_ble_eq_true rfl) hG dX11_rows_24 rfl (fun n7 => ?_)
  exact r_iret (pc := 27) rfl hG dX11_rows_27
set_option maxRecDepth 4000 in
theorem c_Go_rows (X : Cx) (N : Nat) (v1 : Int32) (v2 : Int32) (v3 : Int32) (σ : St) (r : Int32) (σ1 : St) (hE : Go_rows N v1 v2 v3 σ = some (r, σ1)) : Ctr X yX11_rows cX11_rows 5 (some .int) 9 [.ref (X.2.1 + 0), .int v1, .int v2, .int v3] σ (some (.int r)) σ1 := by
  refine Ctr.of (out := oWI) (E := Go_rows N v1 v2 v3 σ) rfl (Nat.le_of_ble_eq_true rfl) (fun G hG => ?_) (r, σ1) hE
  unfold Go_rows
  refine r_aload_n (pc := 0) 0 0 rfl rfl hG dX11_rows_0 ?_
  refine r_iload_n (pc := 1) 1 1 rfl rfl hG dX11_rows_1 ?_
  refine r_bR hG (fun r1 e3 => ?_)
  refine r_callVi (pc := 2) (As := [.int v1]) (c_Go_isGuest X N v1 σ r1 e3) (wsOf_at (rfl : shp 0 = 11) (by decide) rfl) rfl mfX11_154_X11_isGuest hyVX11_isGuest (by decide) (by decide) rfl (Nat.le_of_ble_eq_true rfl) hG dX11_rows_2 rfl (fun n2 => ?_)
  refine r_if_eq (pc := 5) (tgt := 23) (by decide) hG dX11_rows_5 (fun h4 => ?_) (fun h4 => ?_)
  · exact r_sub [0] rfl hG (w_Go_rows_J23 N hG σ)
  · refine r_aload_n (pc := 8) 0 0 rfl rfl hG dX11_rows_8 ?_
    refine r_iload_n (pc := 9) 2 2 rfl rfl hG dX11_rows_9 ?_
    refine r_bR hG (fun r9 e11 => ?_)
    refine r_callVi (pc := 10) (As := [.int v2]) (c_Go_isRower X N v2 σ r9 e11) (wsOf_at (rfl : shp 0 = 11) (by decide) rfl) rfl mfX11_157_X11_isRower hyVX11_isRower (by decide) (by decide) rfl (Nat.le_of_ble_eq_true rfl) hG dX11_rows_10 rfl (fun n10 => ?_)
    refine r_if_eq (pc := 13) (tgt := 23) (by decide) hG dX11_rows_13 (fun h12 => ?_) (fun h12 => ?_)
    · exact r_sub [0] rfl hG (w_Go_rows_J23 N hG σ)
    · refine r_iload_n (pc := 16) 3 3 rfl rfl hG dX11_rows_16 ?_
      refine r_callSi (pc := 17) (As := [.int v3]) (c_Go_isPlace X v3 σ) mfX11_103_X11_isPlace hySX11_isPlace (by decide) (by decide) rfl (Nat.le_of_ble_eq_true rfl) hG dX11_rows_17 rfl (fun n14 => ?_)
      refine r_if_ne (pc := 20) (tgt := 28) (by decide) hG dX11_rows_20 (fun h16 => ?_) (fun h16 => ?_)
      · refine r_aload_n (pc := 28) 0 0 rfl rfl hG dX11_rows_28 ?_
        refine gf11_0 (pc := 29) lk440 hG dX11_rows_29 ?_
        refine gf4_3 (pc := 32) (i := 1) (rfl : shp 1 = 4) lk231 hG dX11_rows_32 ?_
        refine r_iload_n (pc := 35) 1 1 rfl rfl hG dX11_rows_35 ?_
        refine r_ck hG (fun h17 => ?_)
        refine r_aGuests (pc := 36) (i := 1) (rfl : shp 5 = 16) rfl h17 hG dX11_rows_36 ?_
        refine r_astore (pc := 37) (lv' := [(4, .ref (X.2.1 + (1 + 16 + (v1).toNatClampNeg))), (0, .ref (X.2.1 + 0)), (1, .int v1), (2, .int v2), (3, .int v3)]) (by decide) rfl hG dX11_rows_37 ?_
        refine r_aload_n (pc := 39) 1 0 rfl rfl hG dX11_rows_39 ?_
        refine gf11_0 (pc := 40) lk440 hG dX11_rows_40 ?_
        refine r_aload (pc := 43) 0 rfl hG dX11_rows_43 ?_
        refine r_iload_n (pc := 45) 4 3 rfl rfl hG dX11_rows_45 ?_
        refine r_bR hG (fun r18 e20 => ?_)
        refine r_callVi (pc := 46) (As := [.ref (X.2.1 + (1 + 16 + (v1).toNatClampNeg)), .int v3]) (c_Ni_canRow X N 1 (1 + 16 + (v1).toNatClampNeg) v3 σ (rfl : shp 1 = 4) (shGu (rfl : shp 1 = 4) h17) r18 e20) (wsOf_at (rfl : shp 1 = 4) (by decide) rfl) rfl mfX11_164_X4_canRow hyVX4_canRow (by decide) (by decide) rfl (Nat.le_of_ble_eq_true rfl) hG dX11_rows_46 rfl (fun n19 => ?_)
        refine r_if_ne (pc := 49) (tgt := 57) (by decide) hG dX11_rows_49 (fun h21 => ?_) (fun h21 => ?_)
        · refine r_aload_n (pc := 57) 1 0 rfl rfl hG dX11_rows_57 ?_
          refine gf11_0 (pc := 58) lk440 hG dX11_rows_58 ?_
          refine gf4_9 (pc := 61) (i := 1) (rfl : shp 1 = 4) lk250 hG dX11_rows_61 ?_
          refine r_aload_n (pc := 64) 1 0 rfl rfl hG dX11_rows_64 ?_
          refine gf11_0 (pc := 65) lk440 hG dX11_rows_65 ?_
          refine r_bR hG (fun s23 e25 => ?_)
          refine r_callVv (pc := 68) (As := [.ref (X.2.1 + 1)]) (c_Pa_keep X N 12 1 σ (rfl : shp 12 = 5) (rfl : shp 1 = 4) s23 e25) (wsOf_at (rfl : shp 12 = 5) (by decide) rfl) rfl mfX11_171_X5_keep hyVX5_keep (by decide) (by decide) rfl (Nat.le_of_ble_eq_true rfl) hG dX11_rows_68 rfl (fun n24 => ?_)
          refine r_aload_n (pc := 71) 1 0 rfl rfl hG dX11_rows_71 ?_
          refine gf11_0 (pc := 72) lk440 hG dX11_rows_72 ?_
          refine r_aload (pc := 75) 0 rfl hG dX11_rows_75 ?_
          refine r_aload_n (pc := 77) 1 0 rfl rfl hG dX11_rows_77 ?_
          refine gf11_0 (pc := 78) lk440 hG dX11_rows_78 ?_
          refine gf4_2 (pc := 81) (i := 1) (rfl : shp 1 = 4) lk225 hG dX11_rows_81 ?_
          refine r_iload_n (pc := 84) 3 2 rfl rfl hG dX11_rows_84 ?_
          refine r_ck hG (fun h26 => ?_)
          refine r_aRowers (pc := 85) (i := 1) (rfl : shp 4 = 18) rfl h26 hG dX11_rows_85 ?_
          refine r_iload_n (pc := 86) 4 3 rfl rfl hG dX11_rows_86 ?_
          refine r_bR hG (fun s28 e30 => ?_)
          refine r_callVv (pc := 87) (As := [.ref (X.2.1 + (1 + 16 + (v1).toNatClampNeg)), .ref (X.2.1 + (1 + 13 + (v2).toNatClampNeg)), .int v3]) (c_Ni_carry X N 1 (1 + 16 + (v1).toNatClampNeg) (1 + 13 + (v2).toNatClampNeg) v3 s23 (rfl : shp 1 = 4) (shGu (rfl : shp 1 = 4) h17) (shRo (rfl : shp 1 = 4) h26) s28 e30) (wsOf_at (rfl : shp 1 = 4) (by decide) rfl) rfl mfX11_178_X4_carry hyVX4_carry (by decide) (by decide) rfl (Nat.le_of_ble_eq_true rfl) hG dX11_rows_87 rfl (fun n29 => ?_)
          refine r_aload (pc := 90) 0 rfl hG dX11_rows_90 ?_
          refine gf1_2 (pc := 92) (i := (1 + 16 + (v1).toNatClampNeg)) (shGu (rfl : shp 1 = 4) h17) lk185 hG dX11_rows_92 ?_
          exact r_iret (pc := 95) rfl hG dX11_rows_95
        · refine r_aload_n (pc := 52) 1 0 rfl rfl hG dX11_rows_52 ?_
          refine r_bW hG (fun r31 s32 e34 => ?_)
          refine r_callVi (pc := 53) (As := []) (c_Go_refuseNo X N σ r31 s32 e34) (wsOf_at (rfl : shp 0 = 11) (by decide) rfl) rfl mfX11_168_X11_refuseNo hyVX11_refuseNo (by decide) (by decide) rfl (Nat.le_of_ble_eq_true rfl) hG dX11_rows_53 rfl (fun n33 => ?_)
          exact r_iret (pc := 56) rfl hG dX11_rows_56
      · exact r_sub [0] rfl hG (w_Go_rows_J23 N hG σ)
set_option maxRecDepth 4000 in
theorem c_Go_enters (X : Cx) (N : Nat) (v1 : Int32) (σ : St) (r : Int32) (σ1 : St) (hE : Go_enters N v1 σ = some (r, σ1)) : Ctr X yX11_enters cX11_enters 4 (some .int) 3 [.ref (X.2.1 + 0), .int v1] σ (some (.int r)) σ1 := by
  refine Ctr.of (out := oWI) (E := Go_enters N v1 σ) rfl (Nat.le_of_ble_eq_true rfl) (fun G hG => ?_) (r, σ1) hE
  unfold Go_enters
  refine r_aload_n (pc := 0) 0 0 rfl rfl hG dX11_enters_0 ?_
  refine r_iload_n (pc := 1) 1 1 rfl rfl hG dX11_enters_1 ?_
  refine r_bR hG (fun r1 e3 => ?_)
  refine r_callVi (pc := 2) (As := [.int v1]) (c_Go_isGuest X N v1 σ r1 e3) (wsOf_at (rfl : shp 0 = 11) (by decide) rfl) rfl mfX11_154_X11_isGuest hyVX11_isGuest (by decide) (by decide) rfl (Nat.le_of_ble_eq_true rfl) hG dX11_enters_2 rfl (fun n2 => ?_)
  refine r_if_ne (pc := 5) (tgt := 13) (by decide) hG dX11_enters_5 (fun h4 => ?_) (fun h4 => ?_)
  · refine r_aload_n (pc := 13) 0 0 rfl rfl hG dX11_enters_13 ?_
    refine gf11_0 (pc := 14) lk440 hG dX11_enters_14 ?_
    refine gf4_3 (pc := 17) (i := 1) (rfl : shp 1 = 4) lk231 hG dX11_enters_17 ?_
    refine r_iload_n (pc := 20) 1 1 rfl rfl hG dX11_enters_20 ?_
    refine r_ck hG (fun h5 => ?_)
    refine r_aGuests (pc := 21) (i := 1) (rfl : shp 5 = 16) rfl h5 hG dX11_enters_21 ?_
    refine r_astore_n (pc := 22) (lv' := [(2, .ref (X.2.1 + (1 + 16 + (v1).toNatClampNeg))), (0, .ref (X.2.1 + 0)), (1, .int v1)]) 2 rfl (by decide) rfl hG dX11_enters_22 ?_
    refine r_aload_n (pc := 23) 0 2 rfl rfl hG dX11_enters_23 ?_
    refine gf1_4 (pc := 24) (i := (1 + 16 + (v1).toNatClampNeg)) (shGu (rfl : shp 1 = 4) h5) lk198 hG dX11_enters_24 ?_
    refine r_if_ne (pc := 27) (tgt := 35) (by decide) hG dX11_enters_27 (fun h6 => ?_) (fun h6 => ?_)
    · refine r_aload_n (pc := 35) 0 2 rfl rfl hG dX11_enters_35 ?_
      refine gf1_4 (pc := 36) (i := (1 + 16 + (v1).toNatClampNeg)) (shGu (rfl : shp 1 = 4) h5) lk198 hG dX11_enters_36 ?_
      refine r_bI hG (fun x7 => ?_)
      refine r_istore_n (pc := 39) (lv' := [(3, .int x7), (2, .ref (X.2.1 + (1 + 16 + (v1).toNatClampNeg))), (0, .ref (X.2.1 + 0)), (1, .int v1)]) 3 rfl (by decide) rfl hG dX11_enters_39 ?_
      refine r_aload_n (pc := 40) 2 0 rfl rfl hG dX11_enters_40 ?_
      refine gf11_0 (pc := 41) lk440 hG dX11_enters_41 ?_
      refine gf4_9 (pc := 44) (i := 1) (rfl : shp 1 = 4) lk250 hG dX11_enters_44 ?_
      refine r_aload_n (pc := 47) 2 0 rfl rfl hG dX11_enters_47 ?_
      refine gf11_0 (pc := 48) lk440 hG dX11_enters_48 ?_
      refine r_bR hG (fun s9 e11 => ?_)
      refine r_callVv (pc := 51) (As := [.ref (X.2.1 + 1)]) (c_Pa_keep X N 12 1 σ (rfl : shp 12 = 5) (rfl : shp 1 = 4) s9 e11) (wsOf_at (rfl : shp 12 = 5) (by decide) rfl) rfl mfX11_171_X5_keep hyVX5_keep (by decide) (by decide) rfl (Nat.le_of_ble_eq_true rfl) hG dX11_enters_51 rfl (fun n10 => ?_)
      refine r_aload_n (pc := 54) 1 2 rfl rfl hG dX11_enters_54 ?_
      refine r_bR hG (fun s13 e15 => ?_)
      refine r_callVv (pc := 55) (As := []) (c_Gu_getIn X N (1 + 16 + (v1).toNatClampNeg) s9 (shGu (rfl : shp 1 = 4) h5) s13 e15) (wsOf_at (shGu (rfl : shp 1 = 4) h5) (by decide) rfl) rfl mfX11_188_X1_getIn hyVX1_getIn (by decide) (by decide) rfl (Nat.le_of_ble_eq_true rfl) hG dX11_enters_55 rfl (fun n14 => ?_)
      refine r_iload_n (pc := 58) 0 3 rfl rfl hG dX11_enters_58 ?_
      exact r_iret (pc := 59) rfl hG dX11_enters_59
    · refine r_aload_n (pc := 30) 1 0 rfl rfl hG dX11_enters_30 ?_
      refine r_bW hG (fun r16 s17 e19 => ?_)
      refine r_callVi (pc := 31) (As := []) (c_Go_refuseNo X N σ r16 s17 e19) (wsOf_at (rfl : shp 0 = 11) (by decide) rfl) rfl mfX11_168_X11_refuseNo hyVX11_refuseNo (by decide) (by decide) rfl (Nat.le_of_ble_eq_true rfl) hG dX11_enters_31 rfl (fun n18 => ?_)
      exact r_iret (pc := 34) rfl hG dX11_enters_34
  · refine r_aload_n (pc := 8) 0 0 rfl rfl hG dX11_enters_8 ?_
    refine r_bW hG (fun r20 s21 e23 => ?_)
    refine r_callVi (pc := 9) (As := []) (c_Go_refuseBad X N σ r20 s21 e23) (wsOf_at (rfl : shp 0 = 11) (by decide) rfl) rfl mfX11_95_X11_refuseBad hyVX11_refuseBad (by decide) (by decide) rfl (Nat.le_of_ble_eq_true rfl) hG dX11_enters_9 rfl (fun n22 => ?_)
    exact r_iret (pc := 12) rfl hG dX11_enters_12
set_option maxRecDepth 4000 in
theorem c_Go_undo (X : Cx) (N : Nat) (σ : St) (r : Int32) (σ1 : St) (hE : Go_undo N σ = some (r, σ1)) : Ctr X yX11_undo cX11_undo 1 (some .int) 2 [.ref (X.2.1 + 0)] σ (some (.int r)) σ1 := by
  refine Ctr.of (out := oWI) (E := Go_undo N σ) rfl (Nat.le_of_ble_eq_true rfl) (fun G hG => ?_) (r, σ1) hE
  unfold Go_undo
  refine r_aload_n (pc := 0) 0 0 rfl rfl hG dX11_undo_0 ?_
  refine gf11_0 (pc := 1) lk440 hG dX11_undo_1 ?_
  refine gf4_9 (pc := 4) (i := 1) (rfl : shp 1 = 4) lk250 hG dX11_undo_4 ?_
  refine gf5_1 (pc := 7) (i := 12) (rfl : shp 12 = 5) lk144 hG dX11_undo_7 ?_
  refine r_if_gt (pc := 10) (tgt := 18) (by decide) hG dX11_undo_10 (fun h1 => ?_) (fun h1 => ?_)
  · refine r_aload_n (pc := 18) 0 0 rfl rfl hG dX11_undo_18 ?_
    refine gf11_0 (pc := 19) lk440 hG dX11_undo_19 ?_
    refine gf4_9 (pc := 22) (i := 1) (rfl : shp 1 = 4) lk250 hG dX11_undo_22 ?_
    refine r_aload_n (pc := 25) 0 0 rfl rfl hG dX11_undo_25 ?_
    refine gf11_0 (pc := 26) lk440 hG dX11_undo_26 ?_
    refine r_bR hG (fun s3 e5 => ?_)
    refine r_callVv (pc := 29) (As := [.ref (X.2.1 + 1)]) (c_Pa_giveBack X N 12 1 σ (rfl : shp 12 = 5) (rfl : shp 1 = 4) s3 e5) (wsOf_at (rfl : shp 12 = 5) (by decide) rfl) rfl mfX11_191_X5_giveBack hyVX5_giveBack (by decide) (by decide) rfl (Nat.le_of_ble_eq_true rfl) hG dX11_undo_29 rfl (fun n4 => ?_)
    refine r_aload_n (pc := 32) 0 0 rfl rfl hG dX11_undo_32 ?_
    refine gf11_0 (pc := 33) lk440 hG dX11_undo_33 ?_
    refine gf4_9 (pc := 36) (i := 1) (rfl : shp 1 = 4) lk250 hG dX11_undo_36 ?_
    refine gf5_1 (pc := 39) (i := 12) (rfl : shp 12 = 5) lk144 hG dX11_undo_39 ?_
    exact r_iret (pc := 42) rfl hG dX11_undo_42
  · refine r_aload_n (pc := 13) 0 0 rfl rfl hG dX11_undo_13 ?_
    refine r_bW hG (fun r6 s7 e9 => ?_)
    refine r_callVi (pc := 14) (As := []) (c_Go_refuseNo X N σ r6 s7 e9) (wsOf_at (rfl : shp 0 = 11) (by decide) rfl) rfl mfX11_168_X11_refuseNo hyVX11_refuseNo (by decide) (by decide) rfl (Nat.le_of_ble_eq_true rfl) hG dX11_undo_14 rfl (fun n8 => ?_)
    exact r_iret (pc := 17) rfl hG dX11_undo_17
set_option maxRecDepth 4000 in
theorem w_Go_of_J17 {X : Cx} {G : GT (Int32 × St)} (N : Nat) (hG : IsG X RX11 cX11_of 3 3 (some .int) oWI G) (σ : St) : G (Go_of_J17 N σ) σ 17 [(0, .ref (X.2.1 + 0))] [] := by
  unfold Go_of_J17
  refine r_aload_n (pc := 17) 0 0 rfl rfl hG dX11_of_17 ?_
  refine r_bW hG (fun r5 s6 e8 => ?_)
  refine r_callVi (pc := 18) (As := []) (c_Go_refuseBad X N σ r5 s6 e8) (wsOf_at (rfl : shp 0 = 11) (by decide) rfl) rfl mfX11_95_X11_refuseBad hyVX11_refuseBad (by decide) (by decide) rfl (Nat.le_of_ble_eq_true rfl) hG dX11_of_18 rfl (fun n7 => ?_)
  exact r_iret (pc := 21) rfl hG dX11_of_21
set_option maxRecDepth 4000 in
theorem c_Go_of (X : Cx) (N : Nat) (v1 : Int32) (v2 : Int32) (σ : St) (r : Int32) (σ1 : St) (hE : Go_of N v1 v2 σ = some (r, σ1)) : Ctr X yX11_of cX11_of 3 (some .int) 3 [.ref (X.2.1 + 0), .int v1, .int v2] σ (some (.int r)) σ1 := by
  refine Ctr.of (out := oWI) (E := Go_of N v1 v2 σ) rfl (Nat.le_of_ble_eq_true rfl) (fun G hG => ?_) (r, σ1) hE
  unfold Go_of
  refine r_aload_n (pc := 0) 0 0 rfl rfl hG dX11_of_0 ?_
  refine r_iload_n (pc := 1) 1 1 rfl rfl hG dX11_of_1 ?_
  refine r_bR hG (fun r1 e3 => ?_)
  refine r_callVi (pc := 2) (As := [.int v1]) (c_Go_isGuest X N v1 σ r1 e3) (wsOf_at (rfl : shp 0 = 11) (by decide) rfl) rfl mfX11_154_X11_isGuest hyVX11_isGuest (by decide) (by decide) rfl (Nat.le_of_ble_eq_true rfl) hG dX11_of_2 rfl (fun n2 => ?_)
  refine r_if_eq (pc := 5) (tgt := 17) (by decide) hG dX11_of_5 (fun h4 => ?_) (fun h4 => ?_)
  · exact r_sub [0] rfl hG (w_Go_of_J17 N hG σ)
  · refine r_iload_n (pc := 8) 2 2 rfl rfl hG dX11_of_8 ?_
    refine r_iconst (pc := 9) (v := 0) (by decide) hG dX11_of_9 ?_
    refine r_iconst (pc := 10) (v := 5) (by decide) hG dX11_of_10 ?_
    refine r_callSi (pc := 11) (As := [.int v2, .int 0, .int 5]) (c_Go_within X v2 0 5 σ) mfX11_91_X11_within hySX11_within (by decide) (by decide) rfl (Nat.le_of_ble_eq_true rfl) hG dX11_of_11 rfl (fun n10 => ?_)
    refine r_if_ne (pc := 14) (tgt := 22) (by decide) hG dX11_of_14 (fun h12 => ?_) (fun h12 => ?_)
    · refine r_aload_n (pc := 22) 0 0 rfl rfl hG dX11_of_22 ?_
      refine gf11_0 (pc := 23) lk440 hG dX11_of_23 ?_
      refine gf4_3 (pc := 26) (i := 1) (rfl : shp 1 = 4) lk231 hG dX11_of_26 ?_
      refine r_iload_n (pc := 29) 1 1 rfl rfl hG dX11_of_29 ?_
      refine r_ck hG (fun h13 => ?_)
      refine r_aGuests (pc := 30) (i := 1) (rfl : shp 5 = 16) rfl h13 hG dX11_of_30 ?_
      refine r_iload_n (pc := 31) 2 2 rfl rfl hG dX11_of_31 ?_
      refine r_bR hG (fun r14 e16 => ?_)
      refine r_callVi (pc := 32) (As := [.int v2]) (c_Gu_fact X N (1 + 16 + (v1).toNatClampNeg) v2 σ (shGu (rfl : shp 1 = 4) h13) r14 e16) (wsOf_at (shGu (rfl : shp 1 = 4) h13) (by decide) rfl) rfl mfX11_194_X1_fact hyVX1_fact (by decide) (by decide) rfl (Nat.le_of_ble_eq_true rfl) hG dX11_of_32 rfl (fun n15 => ?_)
      exact r_iret (pc := 35) rfl hG dX11_of_35
    · exact r_sub [0] rfl hG (w_Go_of_J17 N hG σ)
set_option maxRecDepth 4000 in
theorem w_Go_who_J17 {X : Cx} {G : GT (Int32 × St)} (N : Nat) (hG : IsG X RX11 cX11_who 4 3 (some .int) oWI G) (σ : St) : G (Go_who_J17 N σ) σ 17 [(0, .ref (X.2.1 + 0))] [] := by
  unfold Go_who_J17
  refine r_aload_n (pc := 17) 0 0 rfl rfl hG dX11_who_17 ?_
  refine r_bW hG (fun r5 s6 e8 => ?_)
  refine r_callVi (pc := 18) (As := []) (c_Go_refuseBad X N σ r5 s6 e8) (wsOf_at (rfl : shp 0 = 11) (by decide) rfl) rfl mfX11_95_X11_refuseBad hyVX11_refuseBad (by decide) (by decide) rfl (Nat.le_of_ble_eq_true rfl) hG dX11_who_18 rfl (fun n7 => ?_)
  exact r_iret (pc := 21) rfl hG dX11_who_21
set_option maxRecDepth 4000 in
theorem c_Go_who (X : Cx) (N : Nat) (v1 : Int32) (v2 : Int32) (σ : St) (r : Int32) (σ1 : St) (hE : Go_who N v1 v2 σ = some (r, σ1)) : Ctr X yX11_who cX11_who 4 (some .int) 3 [.ref (X.2.1 + 0), .int v1, .int v2] σ (some (.int r)) σ1 := by
  refine Ctr.of (out := oWI) (E := Go_who N v1 v2 σ) rfl (Nat.le_of_ble_eq_true rfl) (fun G hG => ?_) (r, σ1) hE
  unfold Go_who
  refine r_aload_n (pc := 0) 0 0 rfl rfl hG dX11_who_0 ?_
  refine r_iload_n (pc := 1) 1 1 rfl rfl hG dX11_who_1 ?_
  refine r_bR hG (fun r1 e3 => ?_)
  refine r_callVi (pc := 2) (As := [.int v1]) (c_Go_isRower X N v1 σ r1 e3) (wsOf_at (rfl : shp 0 = 11) (by decide) rfl) rfl mfX11_157_X11_isRower hyVX11_isRower (by decide) (by decide) rfl (Nat.le_of_ble_eq_true rfl) hG dX11_who_2 rfl (fun n2 => ?_)
  refine r_if_eq (pc := 5) (tgt := 17) (by decide) hG dX11_who_5 (fun h4 => ?_) (fun h4 => ?_)
  · exact r_sub [0] rfl hG (w_Go_who_J17 N hG σ)
  · refine r_iload_n (pc := 8) 2 2 rfl rfl hG dX11_who_8 ?_
    refine r_iconst (pc := 9) (v := 0) (by decide) hG dX11_who_9 ?_
    refine r_iconst (pc := 10) (v := 1) (by decide) hG dX11_who_10 ?_
    refine r_callSi (pc := 11) (As := [.int v2, .int 0, .int 1]) (c_Go_within X v2 0 1 σ) mfX11_91_X11_within hySX11_within (by decide) (by decide) rfl (Nat.le_of_ble_eq_true rfl) hG dX11_who_11 rfl (fun n10 => ?_)
    refine r_if_ne (pc := 14) (tgt := 22) (by decide) hG dX11_who_14 (fun h12 => ?_) (fun h12 => ?_)
    · refine r_aload_n (pc := 22) 0 0 rfl rfl hG dX11_who_22 ?_
      refine gf11_0 (pc := 23) lk440 hG dX11_who_23 ?_
      refine gf4_2 (pc := 26) (i := 1) (rfl : shp 1 = 4) lk225 hG dX11_who_26 ?_
      refine r_iload_n (pc := 29) 1 1 rfl rfl hG dX11_who_29 ?_
      refine r_ck hG (fun h13 => ?_)
      refine r_aRowers (pc := 30) (i := 1) (rfl : shp 4 = 18) rfl h13 hG dX11_who_30 ?_
      refine r_astore_n (pc := 31) (lv' := [(3, .ref (X.2.1 + (1 + 13 + (v1).toNatClampNeg))), (0, .ref (X.2.1 + 0)), (1, .int v1), (2, .int v2)]) 3 rfl (by decide) rfl hG dX11_who_31 ?_
      refine r_iload_n (pc := 32) 3 2 rfl rfl hG dX11_who_32 ?_
      refine r_if_ne (pc := 33) (tgt := 43) (by decide) hG dX11_who_33 (fun h14 => ?_) (fun h14 => ?_)
      · refine r_aload_n (pc := 43) 0 3 rfl rfl hG dX11_who_43 ?_
        refine gf7_1 (pc := 44) (i := (1 + 13 + (v1).toNatClampNeg)) (shRo (rfl : shp 1 = 4) h13) lk162 hG dX11_who_44 ?_
        exact r_iret (pc := 47) rfl hG dX11_who_47
      · refine r_aload_n (pc := 36) 0 3 rfl rfl hG dX11_who_36 ?_
        refine gf7_0 (pc := 37) (i := (1 + 13 + (v1).toNatClampNeg)) (shRo (rfl : shp 1 = 4) h13) lk158 hG dX11_who_37 ?_
        refine r_goto (pc := 40) (tgt := 47) (by decide) hG dX11_who_40 ?_
        exact r_iret (pc := 47) rfl hG dX11_who_47
    · exact r_sub [0] rfl hG (w_Go_who_J17 N hG σ)
set_option maxRecDepth 4000 in
theorem w_Go_about_J16 {X : Cx} {G : GT (Int32 × St)} (N : Nat) (hG : IsG X RX11 cX11_about 3 3 (some .int) oWI G) (σ : St) : G (Go_about_J16 N σ) σ 16 [(0, .ref (X.2.1 + 0))] [] := by
  unfold Go_about_J16
  refine r_aload_n (pc := 16) 0 0 rfl rfl hG dX11_about_16 ?_
  refine r_bW hG (fun r5 s6 e8 => ?_)
  refine r_callVi (pc := 17) (As := []) (c_Go_refuseBad X N σ r5 s6 e8) (wsOf_at (rfl : shp 0 = 11) (by decide) rfl) rfl mfX11_95_X11_refuseBad hyVX11_refuseBad (by decide) (by decide) rfl (Nat.le_of_ble_eq_true rfl) hG dX11_about_17 rfl (fun n7 => ?_)
  exact r_iret (pc := 20) rfl hG dX11_about_20
set_option maxRecDepth 4000 in
theorem c_Go_about (X : Cx) (N : Nat) (v1 : Int32) (v2 : Int32) (σ : St) (r : Int32) (σ1 : St) (hE : Go_about N v1 v2 σ = some (r, σ1)) : Ctr X yX11_about cX11_about 3 (some .int) 3 [.ref (X.2.1 + 0), .int v1, .int v2] σ (some (.int r)) σ1 := by
  refine Ctr.of (out := oWI) (E := Go_about N v1 v2 σ) rfl (Nat.le_of_ble_eq_true rfl) (fun G hG => ?_) (r, σ1) hE
  unfold Go_about
  refine r_iload_n (pc := 0) 1 1 rfl rfl hG dX11_about_0 ?_
  refine r_callSi (pc := 1) (As := [.int v1]) (c_Go_isPlace X v1 σ) mfX11_103_X11_isPlace hySX11_isPlace (by decide) (by decide) rfl (Nat.le_of_ble_eq_true rfl) hG dX11_about_1 rfl (fun n2 => ?_)
  refine r_if_eq (pc := 4) (tgt := 16) (by decide) hG dX11_about_4 (fun h4 => ?_) (fun h4 => ?_)
  · exact r_sub [0] rfl hG (w_Go_about_J16 N hG σ)
  · refine r_iload_n (pc := 7) 2 2 rfl rfl hG dX11_about_7 ?_
    refine r_iconst (pc := 8) (v := 0) (by decide) hG dX11_about_8 ?_
    refine r_iconst (pc := 9) (v := 2) (by decide) hG dX11_about_9 ?_
    refine r_callSi (pc := 10) (As := [.int v2, .int 0, .int 2]) (c_Go_within X v2 0 2 σ) mfX11_91_X11_within hySX11_within (by decide) (by decide) rfl (Nat.le_of_ble_eq_true rfl) hG dX11_about_10 rfl (fun n10 => ?_)
    refine r_if_ne (pc := 13) (tgt := 21) (by decide) hG dX11_about_13 (fun h12 => ?_) (fun h12 => ?_)
    · refine r_iload_n (pc := 21) 2 2 rfl rfl hG dX11_about_21 ?_
      refine r_ite hG (fun h13 => ?_) (fun h13 => ?_)
      · refine r_lookup (pc := 22) (tgt := 48) (off := 26) (by decide) (by rw [h13]; decide) (by decide) hG dX11_about_22 ?_
        refine r_aload_n (pc := 48) 0 0 rfl rfl hG dX11_about_48 ?_
        refine gf11_0 (pc := 49) lk440 hG dX11_about_49 ?_
        refine gf4_0 (pc := 52) (i := 1) (rfl : shp 1 = 4) lk218 hG dX11_about_52 ?_
        refine r_iload_n (pc := 55) 1 1 rfl rfl hG dX11_about_55 ?_
        refine r_ck hG (fun h14 => ?_)
        refine r_iald (pc := 56) (i := 2) (rfl : shp 2 = 14) rfl h14 hG dX11_about_56 ?_
        exact r_iret (pc := 57) rfl hG dX11_about_57
      · refine r_ite hG (fun h15 => ?_) (fun h15 => ?_)
        · refine r_lookup (pc := 22) (tgt := 58) (off := 36) (by decide) (by rw [h15]; decide) (by decide) hG dX11_about_22 ?_
          refine r_aload_n (pc := 58) 0 0 rfl rfl hG dX11_about_58 ?_
          refine gf11_0 (pc := 59) lk440 hG dX11_about_59 ?_
          refine r_iload_n (pc := 62) 1 1 rfl rfl hG dX11_about_62 ?_
          refine r_bR hG (fun r16 e18 => ?_)
          refine r_callVi (pc := 63) (As := [.int v1]) (c_Ni_neighbours X N 1 v1 σ (rfl : shp 1 = 4) r16 e18) (wsOf_at (rfl : shp 1 = 4) (by decide) rfl) rfl mfX11_206_X4_neighbours hyVX4_neighbours (by decide) (by decide) rfl (Nat.le_of_ble_eq_true rfl) hG dX11_about_63 rfl (fun n17 => ?_)
          exact r_iret (pc := 66) rfl hG dX11_about_66
        · refine r_lookup (pc := 22) (tgt := 67) (off := 45) (by decide) (by rw [show (#[(0, 26), (1, 36)] : Array (Int × Int)).toList = [(0, 26), (1, 36)] from rfl, lv_osw h13 (a := 0) (by decide), lv_osw h15 (a := 1) (by decide)]; rfl) (by decide) hG dX11_about_22 ?_
          refine r_aload_n (pc := 67) 0 0 rfl rfl hG dX11_about_67 ?_
          refine gf11_0 (pc := 68) lk440 hG dX11_about_68 ?_
          refine r_iload_n (pc := 71) 1 1 rfl rfl hG dX11_about_71 ?_
          refine r_bR hG (fun r19 e21 => ?_)
          refine r_callVi (pc := 72) (As := [.int v1]) (c_Ni_guestsAt X N 1 v1 σ (rfl : shp 1 = 4) r19 e21) (wsOf_at (rfl : shp 1 = 4) (by decide) rfl) rfl mfX11_209_X4_guestsAt hyVX4_guestsAt (by decide) (by decide) rfl (Nat.le_of_ble_eq_true rfl) hG dX11_about_72 rfl (fun n20 => ?_)
          exact r_iret (pc := 75) rfl hG dX11_about_75
    · exact r_sub [0] rfl hG (w_Go_about_J16 N hG σ)
set_option maxRecDepth 4000 in
theorem w_Go_strokes_J14 {X : Cx} {G : GT (Int32 × St)} (N : Nat) (hG : IsG X RX11 cX11_strokes 3 3 (some .int) oWI G) (σ : St) : G (Go_strokes_J14 N σ) σ 14 [(0, .ref (X.2.1 + 0))] [] := by
  unfold Go_strokes_J14
  refine r_aload_n (pc := 14) 0 0 rfl rfl hG dX11_strokes_14 ?_
  refine r_bW hG (fun r5 s6 e8 => ?_)
  refine r_callVi (pc := 15) (As := []) (c_Go_refuseBad X N σ r5 s6 e8) (wsOf_at (rfl : shp 0 = 11) (by decide) rfl) rfl mfX11_95_X11_refuseBad hyVX11_refuseBad (by decide) (by decide) rfl (Nat.le_of_ble_eq_true rfl) hG dX11_strokes_15 rfl (fun n7 => ?_)
  exact r_iret (pc := 18) rfl hG dX11_strokes_18
set_option maxRecDepth 4000 in
theorem c_Go_strokes (X : Cx) (N : Nat) (v1 : Int32) (v2 : Int32) (σ : St) (r : Int32) (σ1 : St) (hE : Go_strokes N v1 v2 σ = some (r, σ1)) : Ctr X yX11_strokes cX11_strokes 3 (some .int) 3 [.ref (X.2.1 + 0), .int v1, .int v2] σ (some (.int r)) σ1 := by
  refine Ctr.of (out := oWI) (E := Go_strokes N v1 v2 σ) rfl (Nat.le_of_ble_eq_true rfl) (fun G hG => ?_) (r, σ1) hE
  unfold Go_strokes
  refine r_iload_n (pc := 0) 1 1 rfl rfl hG dX11_strokes_0 ?_
  refine r_callSi (pc := 1) (As := [.int v1]) (c_Go_isPlace X v1 σ) mfX11_103_X11_isPlace hySX11_isPlace (by decide) (by decide) rfl (Nat.le_of_ble_eq_true rfl) hG dX11_strokes_1 rfl (fun n2 => ?_)
  refine r_if_eq (pc := 4) (tgt := 14) (by decide) hG dX11_strokes_4 (fun h4 => ?_) (fun h4 => ?_)
  · exact r_sub [0] rfl hG (w_Go_strokes_J14 N hG σ)
  · refine r_iload_n (pc := 7) 2 2 rfl rfl hG dX11_strokes_7 ?_
    refine r_callSi (pc := 8) (As := [.int v2]) (c_Go_isPlace X v2 σ) mfX11_103_X11_isPlace hySX11_isPlace (by decide) (by decide) rfl (Nat.le_of_ble_eq_true rfl) hG dX11_strokes_8 rfl (fun n10 => ?_)
    refine r_if_ne (pc := 11) (tgt := 19) (by decide) hG dX11_strokes_11 (fun h12 => ?_) (fun h12 => ?_)
    · refine r_aload_n (pc := 19) 0 0 rfl rfl hG dX11_strokes_19 ?_
      refine gf11_0 (pc := 20) lk440 hG dX11_strokes_20 ?_
      refine r_iload_n (pc := 23) 1 1 rfl rfl hG dX11_strokes_23 ?_
      refine r_iload_n (pc := 24) 2 2 rfl rfl hG dX11_strokes_24 ?_
      refine r_bR hG (fun r13 e15 => ?_)
      refine r_callVi (pc := 25) (As := [.int v1, .int v2]) (c_Ni_strokesBetween X N 1 v1 v2 σ (rfl : shp 1 = 4) r13 e15) (wsOf_at (rfl : shp 1 = 4) (by decide) rfl) rfl mfX11_119_X4_strokesBetween hyVX4_strokesBetween (by decide) (by decide) rfl (Nat.le_of_ble_eq_true rfl) hG dX11_strokes_25 rfl (fun n14 => ?_)
      exact r_iret (pc := 28) rfl hG dX11_strokes_28
    · exact r_sub [0] rfl hG (w_Go_strokes_J14 N hG σ)
set_option maxRecDepth 4000 in
theorem w_Go_far_J14 {X : Cx} {G : GT (Int32 × St)} (N : Nat) (hG : IsG X RX11 cX11_far 3 4 (some .int) oWI G) (σ : St) : G (Go_far_J14 N σ) σ 14 [(0, .ref (X.2.1 + 0))] [] := by
  unfold Go_far_J14
  refine r_aload_n (pc := 14) 0 0 rfl rfl hG dX11_far_14 ?_
  refine r_bW hG (fun r5 s6 e8 => ?_)
  refine r_callVi (pc := 15) (As := []) (c_Go_refuseBad X N σ r5 s6 e8) (wsOf_at (rfl : shp 0 = 11) (by decide) rfl) rfl mfX11_95_X11_refuseBad hyVX11_refuseBad (by decide) (by decide) rfl (Nat.le_of_ble_eq_true rfl) hG dX11_far_15 rfl (fun n7 => ?_)
  exact r_iret (pc := 18) rfl hG dX11_far_18
set_option maxRecDepth 4000 in
theorem c_Go_far (X : Cx) (N : Nat) (v1 : Int32) (v2 : Int32) (σ : St) (r : Int32) (σ1 : St) (hE : Go_far N v1 v2 σ = some (r, σ1)) : Ctr X yX11_far cX11_far 3 (some .int) 4 [.ref (X.2.1 + 0), .int v1, .int v2] σ (some (.int r)) σ1 := by
  refine Ctr.of (out := oWI) (E := Go_far N v1 v2 σ) rfl (Nat.le_of_ble_eq_true rfl) (fun G hG => ?_) (r, σ1) hE
  unfold Go_far
  refine r_iload_n (pc := 0) 1 1 rfl rfl hG dX11_far_0 ?_
  refine r_callSi (pc := 1) (As := [.int v1]) (c_Go_isPlace X v1 σ) mfX11_103_X11_isPlace hySX11_isPlace (by decide) (by decide) rfl (Nat.le_of_ble_eq_true rfl) hG dX11_far_1 rfl (fun n2 => ?_)
  refine r_if_eq (pc := 4) (tgt := 14) (by decide) hG dX11_far_4 (fun h4 => ?_) (fun h4 => ?_)
  · exact r_sub [0] rfl hG (w_Go_far_J14 N hG σ)
  · refine r_iload_n (pc := 7) 2 2 rfl rfl hG dX11_far_7 ?_
    refine r_callSi (pc := 8) (As := [.int v2]) (c_Go_isPlace X v2 σ) mfX11_103_X11_isPlace hySX11_isPlace (by decide) (by decide) rfl (Nat.le_of_ble_eq_true rfl) hG dX11_far_8 rfl (fun n10 => ?_)
    refine r_if_ne (pc := 11) (tgt := 19) (by decide) hG dX11_far_11 (fun h12 => ?_) (fun h12 => ?_)
    · refine r_aload_n (pc := 19) 0 0 rfl rfl hG dX11_far_19 ?_
      refine gf11_0 (pc := 20) lk440 hG dX11_far_20 ?_
      refine r_iload_n (pc := 23) 1 1 rfl rfl hG dX11_far_23 ?_
      refine r_aload_n (pc := 24) 0 0 rfl rfl hG dX11_far_24 ?_
      refine gf11_7 (pc := 25) lk447 hG dX11_far_25 ?_
      refine r_bR hG (fun s14 e16 => ?_)
      refine r_callVv (pc := 28) (As := [.int v1, .ref (X.2.1 + 45)]) (c_Ni_measureFrom X N 1 v1 45 σ (rfl : shp 1 = 4) (rfl : shp 45 = 14) s14 e16) (wsOf_at (rfl : shp 1 = 4) (by decide) rfl) rfl mfX11_212_X4_measureFrom hyVX4_measureFrom (by decide) (by decide) rfl (Nat.le_of_ble_eq_true rfl) hG dX11_far_28 rfl (fun n15 => ?_)
      refine r_aload_n (pc := 31) 0 0 rfl rfl hG dX11_far_31 ?_
      refine gf11_7 (pc := 32) lk447 hG dX11_far_32 ?_
      refine r_iload_n (pc := 35) 2 2 rfl rfl hG dX11_far_35 ?_
      refine r_ck hG (fun h17 => ?_)
      refine r_iald (pc := 36) (i := 45) (rfl : shp 45 = 14) rfl h17 hG dX11_far_36 ?_
      exact r_iret (pc := 37) rfl hG dX11_far_37
    · exact r_sub [0] rfl hG (w_Go_far_J14 N hG σ)
set_option maxRecDepth 4000 in
theorem w_Go_would_J33 {X : Cx} {G : GT (Int32 × St)} (N : Nat) (hG : IsG X RX11 cX11_would 5 9 (some .int) oWI G) (σ : St) : G (Go_would_J33 N σ) σ 33 [(0, .ref (X.2.1 + 0))] [] := by
  unfold Go_would_J33
  refine r_aload_n (pc := 33) 0 0 rfl rfl hG dX11_would_33 ?_
  refine r_bW hG (fun r5 s6 e8 => ?_)
  refine r_callVi (pc := 34) (As := []) (c_Go_refuseBad X N σ r5 s6 e8) (wsOf_at (rfl : shp 0 = 11) (by decide) rfl) rfl mfX11_95_X11_refuseBad hyVX11_refuseBad (by decide) (by decide) rfl (Nat.le_of_ble_eq_true rfl) hG dX11_would_34 rfl (fun n7 => ?_)
  exact r_iret (pc := 37) rfl hG dX11_would_37
set_option maxRecDepth 4000 in
theorem c_Go_would (X : Cx) (N : Nat) (v1 : Int32) (v2 : Int32) (v3 : Int32) (v4 : Int32) (σ : St) (r : Int32) (σ1 : St) (hE : Go_would N v1 v2 v3 v4 σ = some (r, σ1)) : Ctr X yX11_would cX11_would 5 (some .int) 9 [.ref (X.2.1 + 0), .int v1, .int v2, .int v3, .int v4] σ (some (.int r)) σ1 := by
  refine Ctr.of (out := oWI) (E := Go_would N v1 v2 v3 v4 σ) rfl (Nat.le_of_ble_eq_true rfl) (fun G hG => ?_) (r, σ1) hE
  unfold Go_would
  refine r_aload_n (pc := 0) 0 0 rfl rfl hG dX11_would_0 ?_
  refine r_iload_n (pc := 1) 1 1 rfl rfl hG dX11_would_1 ?_
  refine r_bR hG (fun r1 e3 => ?_)
  refine r_callVi (pc := 2) (As := [.int v1]) (c_Go_isGuest X N v1 σ r1 e3) (wsOf_at (rfl : shp 0 = 11) (by decide) rfl) rfl mfX11_154_X11_isGuest hyVX11_isGuest (by decide) (by decide) rfl (Nat.le_of_ble_eq_true rfl) hG dX11_would_2 rfl (fun n2 => ?_)
  refine r_if_eq (pc := 5) (tgt := 33) (by decide) hG dX11_would_5 (fun h4 => ?_) (fun h4 => ?_)
  · exact r_sub [0] rfl hG (w_Go_would_J33 N hG σ)
  · refine r_aload_n (pc := 8) 0 0 rfl rfl hG dX11_would_8 ?_
    refine r_iload_n (pc := 9) 2 2 rfl rfl hG dX11_would_9 ?_
    refine r_bR hG (fun r9 e11 => ?_)
    refine r_callVi (pc := 10) (As := [.int v2]) (c_Go_isRower X N v2 σ r9 e11) (wsOf_at (rfl : shp 0 = 11) (by decide) rfl) rfl mfX11_157_X11_isRower hyVX11_isRower (by decide) (by decide) rfl (Nat.le_of_ble_eq_true rfl) hG dX11_would_10 rfl (fun n10 => ?_)
    refine r_if_eq (pc := 13) (tgt := 33) (by decide) hG dX11_would_13 (fun h12 => ?_) (fun h12 => ?_)
    · exact r_sub [0] rfl hG (w_Go_would_J33 N hG σ)
    · refine r_iload_n (pc := 16) 3 3 rfl rfl hG dX11_would_16 ?_
      refine r_callSi (pc := 17) (As := [.int v3]) (c_Go_isPlace X v3 σ) mfX11_103_X11_isPlace hySX11_isPlace (by decide) (by decide) rfl (Nat.le_of_ble_eq_true rfl) hG dX11_would_17 rfl (fun n14 => ?_)
      refine r_if_eq (pc := 20) (tgt := 33) (by decide) hG dX11_would_20 (fun h16 => ?_) (fun h16 => ?_)
      · exact r_sub [0] rfl hG (w_Go_would_J33 N hG σ)
      · refine r_iload (pc := 23) 4 rfl hG dX11_would_23 ?_
        refine r_iconst (pc := 25) (v := 0) (by decide) hG dX11_would_25 ?_
        refine r_iconst (pc := 26) (v := 1) (by decide) hG dX11_would_26 ?_
        refine r_callSi (pc := 27) (As := [.int v4, .int 0, .int 1]) (c_Go_within X v4 0 1 σ) mfX11_91_X11_within hySX11_within (by decide) (by decide) rfl (Nat.le_of_ble_eq_true rfl) hG dX11_would_27 rfl (fun n18 => ?_)
        refine r_if_ne (pc := 30) (tgt := 38) (by decide) hG dX11_would_30 (fun h20 => ?_) (fun h20 => ?_)
        · refine r_aload_n (pc := 38) 0 0 rfl rfl hG dX11_would_38 ?_
          refine gf11_0 (pc := 39) lk440 hG dX11_would_39 ?_
          refine r_aload_n (pc := 42) 0 0 rfl rfl hG dX11_would_42 ?_
          refine gf11_0 (pc := 43) lk440 hG dX11_would_43 ?_
          refine gf4_3 (pc := 46) (i := 1) (rfl : shp 1 = 4) lk231 hG dX11_would_46 ?_
          refine r_iload_n (pc := 49) 1 1 rfl rfl hG dX11_would_49 ?_
          refine r_ck hG (fun h21 => ?_)
          refine r_aGuests (pc := 50) (i := 1) (rfl : shp 5 = 16) rfl h21 hG dX11_would_50 ?_
          refine r_iload_n (pc := 51) 3 3 rfl rfl hG dX11_would_51 ?_
          refine r_bR hG (fun r22 e24 => ?_)
          refine r_callVi (pc := 52) (As := [.ref (X.2.1 + (1 + 16 + (v1).toNatClampNeg)), .int v3]) (c_Ni_canRow X N 1 (1 + 16 + (v1).toNatClampNeg) v3 σ (rfl : shp 1 = 4) (shGu (rfl : shp 1 = 4) h21) r22 e24) (wsOf_at (rfl : shp 1 = 4) (by decide) rfl) rfl mfX11_164_X4_canRow hyVX4_canRow (by decide) (by decide) rfl (Nat.le_of_ble_eq_true rfl) hG dX11_would_52 rfl (fun n23 => ?_)
          refine r_if_ne (pc := 55) (tgt := 60) (by decide) hG dX11_would_55 (fun h25 => ?_) (fun h25 => ?_)
          · refine r_aload_n (pc := 60) 0 0 rfl rfl hG dX11_would_60 ?_
            refine gf11_8 (pc := 61) lk448 hG dX11_would_61 ?_
            refine r_aload_n (pc := 64) 0 0 rfl rfl hG dX11_would_64 ?_
            refine gf11_0 (pc := 65) lk440 hG dX11_would_65 ?_
            refine gf4_3 (pc := 68) (i := 1) (rfl : shp 1 = 4) lk231 hG dX11_would_68 ?_
            refine r_iload_n (pc := 71) 1 1 rfl rfl hG dX11_would_71 ?_
            refine r_ck hG (fun h26 => ?_)
            refine r_aGuests (pc := 72) (i := 1) (rfl : shp 5 = 16) rfl h26 hG dX11_would_72 ?_
            refine r_bR hG (fun s28 e30 => ?_)
            refine r_callVv (pc := 73) (As := [.ref (X.2.1 + (1 + 16 + (v1).toNatClampNeg))]) (c_Gu_take X N 46 (1 + 16 + (v1).toNatClampNeg) σ (rfl : shp 46 = 1) (shGu (rfl : shp 1 = 4) h26) s28 e30) (wsOf_at (rfl : shp 46 = 1) (by decide) rfl) rfl mfX11_216_X1_take hyVX1_take (by decide) (by decide) rfl (Nat.le_of_ble_eq_true rfl) hG dX11_would_73 rfl (fun n29 => ?_)
            refine r_aload_n (pc := 76) 0 0 rfl rfl hG dX11_would_76 ?_
            refine gf11_0 (pc := 77) lk440 hG dX11_would_77 ?_
            refine r_aload_n (pc := 80) 0 0 rfl rfl hG dX11_would_80 ?_
            refine gf11_8 (pc := 81) lk448 hG dX11_would_81 ?_
            refine r_aload_n (pc := 84) 0 0 rfl rfl hG dX11_would_84 ?_
            refine gf11_0 (pc := 85) lk440 hG dX11_would_85 ?_
            refine gf4_2 (pc := 88) (i := 1) (rfl : shp 1 = 4) lk225 hG dX11_would_88 ?_
            refine r_iload_n (pc := 91) 2 2 rfl rfl hG dX11_would_91 ?_
            refine r_ck hG (fun h31 => ?_)
            refine r_aRowers (pc := 92) (i := 1) (rfl : shp 4 = 18) rfl h31 hG dX11_would_92 ?_
            refine r_iload_n (pc := 93) 3 3 rfl rfl hG dX11_would_93 ?_
            refine r_bR hG (fun s33 e35 => ?_)
            refine r_callVv (pc := 94) (As := [.ref (X.2.1 + 46), .ref (X.2.1 + (1 + 13 + (v2).toNatClampNeg)), .int v3]) (c_Ni_carry X N 1 46 (1 + 13 + (v2).toNatClampNeg) v3 s28 (rfl : shp 1 = 4) (rfl : shp 46 = 1) (shRo (rfl : shp 1 = 4) h31) s33 e35) (wsOf_at (rfl : shp 1 = 4) (by decide) rfl) rfl mfX11_178_X4_carry hyVX4_carry (by decide) (by decide) rfl (Nat.le_of_ble_eq_true rfl) hG dX11_would_94 rfl (fun n34 => ?_)
            refine r_iload (pc := 97) 4 rfl hG dX11_would_97 ?_
            refine r_if_ne (pc := 99) (tgt := 112) (by decide) hG dX11_would_99 (fun h36 => ?_) (fun h36 => ?_)
            · refine r_aload_n (pc := 112) 0 0 rfl rfl hG dX11_would_112 ?_
              refine gf11_8 (pc := 113) lk448 hG dX11_would_113 ?_
              refine gf1_3 (pc := 116) (i := 46) (rfl : shp 46 = 1) lk191 hG dX11_would_116 ?_
              exact r_iret (pc := 119) rfl hG dX11_would_119
            · refine r_aload_n (pc := 102) 0 0 rfl rfl hG dX11_would_102 ?_
              refine gf11_8 (pc := 103) lk448 hG dX11_would_103 ?_
              refine gf1_2 (pc := 106) (i := 46) (rfl : shp 46 = 1) lk185 hG dX11_would_106 ?_
              refine r_goto (pc := 109) (tgt := 119) (by decide) hG dX11_would_109 ?_
              exact r_iret (pc := 119) rfl hG dX11_would_119
          · refine r_iconst (pc := 58) (v := (-1)) (by decide) hG dX11_would_58 ?_
            exact r_iret (pc := 59) rfl hG dX11_would_59
        · exact r_sub [0] rfl hG (w_Go_would_J33 N hG σ)
set_option maxRecDepth 4000 in
theorem c_Go_refuseFarBad (X : Cx) (N : Nat) (σ : St) (r : Int32) (σ1 : St) (hE : Go_refuseFarBad N σ = some (r, σ1)) : Ctr X yX11_refuseFarBad cX11_refuseFarBad 1 (some .int) 1 [.ref (X.2.1 + 0)] σ (some (.int r)) σ1 := by
  refine Ctr.of (out := oWI) (E := Go_refuseFarBad N σ) rfl (Nat.le_of_ble_eq_true rfl) (fun G hG => ?_) (r, σ1) hE
  unfold Go_refuseFarBad
  refine r_aload_n (pc := 0) 0 0 rfl rfl hG dX11_refuseFarBad_0 ?_
  refine gf11_6 (pc := 1) lk446 hG dX11_refuseFarBad_1 ?_
  refine r_iconst (pc := 4) (v := 0) (by decide) hG dX11_refuseFarBad_4 ?_
  refine r_dup2 (pc := 5) rfl rfl hG dX11_refuseFarBad_5 ?_
  refine r_iald (pc := 6) (i := 44) (rfl : shp 44 = 14) rfl (by decide) hG dX11_refuseFarBad_6 ?_
  refine r_iconst (pc := 7) (v := 1) (by decide) hG dX11_refuseFarBad_7 ?_
  refine r_iadd (pc := 8) hG dX11_refuseFarBad_8 ?_
  refine r_iast (pc := 9) (i := 44) (rfl : shp 44 = 14) rfl (by decide) hG dX11_refuseFarBad_9 ?_
  refine r_bS hG (fun s1 => ?_)
  refine r_bipush (pc := 10) (v := (-10)) (by decide) hG dX11_refuseFarBad_10 ?_
  exact r_iret (pc := 12) rfl hG dX11_refuseFarBad_12
set_option maxRecDepth 4000 in
theorem w_Go_way_J22 {X : Cx} {G : GT (Int32 × St)} (N : Nat) (hG : IsG X RX11 cX11_way 4 20 (some .int) oWI G) (σ : St) : G (Go_way_J22 N σ) σ 22 [(0, .ref (X.2.1 + 0))] [] := by
  unfold Go_way_J22
  refine r_aload_n (pc := 22) 0 0 rfl rfl hG dX11_way_22 ?_
  refine r_bW hG (fun r5 s6 e8 => ?_)
  refine r_callVi (pc := 23) (As := []) (c_Go_refuseFarBad X N σ r5 s6 e8) (wsOf_at (rfl : shp 0 = 11) (by decide) rfl) rfl mfX11_222_X11_refuseFarBad hyVX11_refuseFarBad (by decide) (by decide) rfl (Nat.le_of_ble_eq_true rfl) hG dX11_way_23 rfl (fun n7 => ?_)
  exact r_iret (pc := 26) rfl hG dX11_way_26
set_option maxRecDepth 4000 in
theorem c_Go_way (X : Cx) (N : Nat) (v1 : Int32) (v2 : Int32) (v3 : Int32) (σ : St) (r : Int32) (σ1 : St) (hE : Go_way N v1 v2 v3 σ = some (r, σ1)) : Ctr X yX11_way cX11_way 4 (some .int) 20 [.ref (X.2.1 + 0), .int v1, .int v2, .int v3] σ (some (.int r)) σ1 := by
  refine Ctr.of (out := oWI) (E := Go_way N v1 v2 v3 σ) rfl (Nat.le_of_ble_eq_true rfl) (fun G hG => ?_) (r, σ1) hE
  unfold Go_way
  refine r_aload_n (pc := 0) 0 0 rfl rfl hG dX11_way_0 ?_
  refine r_iload_n (pc := 1) 1 1 rfl rfl hG dX11_way_1 ?_
  refine r_bR hG (fun r1 e3 => ?_)
  refine r_callVi (pc := 2) (As := [.int v1]) (c_Go_isGuest X N v1 σ r1 e3) (wsOf_at (rfl : shp 0 = 11) (by decide) rfl) rfl mfX11_154_X11_isGuest hyVX11_isGuest (by decide) (by decide) rfl (Nat.le_of_ble_eq_true rfl) hG dX11_way_2 rfl (fun n2 => ?_)
  refine r_if_eq (pc := 5) (tgt := 22) (by decide) hG dX11_way_5 (fun h4 => ?_) (fun h4 => ?_)
  · exact r_sub [0] rfl hG (w_Go_way_J22 N hG σ)
  · refine r_aload_n (pc := 8) 0 0 rfl rfl hG dX11_way_8 ?_
    refine r_iload_n (pc := 9) 2 2 rfl rfl hG dX11_way_9 ?_
    refine r_bR hG (fun r9 e11 => ?_)
    refine r_callVi (pc := 10) (As := [.int v2]) (c_Go_isRower X N v2 σ r9 e11) (wsOf_at (rfl : shp 0 = 11) (by decide) rfl) rfl mfX11_157_X11_isRower hyVX11_isRower (by decide) (by decide) rfl (Nat.le_of_ble_eq_true rfl) hG dX11_way_10 rfl (fun n10 => ?_)
    refine r_if_eq (pc := 13) (tgt := 22) (by decide) hG dX11_way_13 (fun h12 => ?_) (fun h12 => ?_)
    · exact r_sub [0] rfl hG (w_Go_way_J22 N hG σ)
    · refine r_iload_n (pc := 16) 3 3 rfl rfl hG dX11_way_16 ?_
      refine r_bipush (pc := 17) (v := (-4)) (by decide) hG dX11_way_17 ?_
      refine r_icmp_ge (pc := 19) (tgt := 27) (by decide) hG dX11_way_19 (fun h13 => ?_) (fun h13 => ?_)
      · refine r_aload_n (pc := 27) 0 0 rfl rfl hG dX11_way_27 ?_
        refine gf11_9 (pc := 28) lk449 hG dX11_way_28 ?_
        refine r_aload_n (pc := 31) 0 0 rfl rfl hG dX11_way_31 ?_
        refine gf11_0 (pc := 32) lk440 hG dX11_way_32 ?_
        refine r_aload_n (pc := 35) 0 0 rfl rfl hG dX11_way_35 ?_
        refine gf11_0 (pc := 36) lk440 hG dX11_way_36 ?_
        refine gf4_3 (pc := 39) (i := 1) (rfl : shp 1 = 4) lk231 hG dX11_way_39 ?_
        refine r_iload_n (pc := 42) 1 1 rfl rfl hG dX11_way_42 ?_
        refine r_ck hG (fun h14 => ?_)
        refine r_aGuests (pc := 43) (i := 1) (rfl : shp 5 = 16) rfl h14 hG dX11_way_43 ?_
        refine r_aload_n (pc := 44) 0 0 rfl rfl hG dX11_way_44 ?_
        refine gf11_0 (pc := 45) lk440 hG dX11_way_45 ?_
        refine gf4_2 (pc := 48) (i := 1) (rfl : shp 1 = 4) lk225 hG dX11_way_48 ?_
        refine r_iload_n (pc := 51) 2 2 rfl rfl hG dX11_way_51 ?_
        refine r_ck hG (fun h15 => ?_)
        refine r_aRowers (pc := 52) (i := 1) (rfl : shp 4 = 18) rfl h15 hG dX11_way_52 ?_
        refine r_bR hG (fun s17 e19 => ?_)
        refine r_callVv (pc := 53) (As := [.ref (X.2.1 + 1), .ref (X.2.1 + (1 + 16 + (v1).toNatClampNeg)), .ref (X.2.1 + (1 + 13 + (v2).toNatClampNeg))]) (c_Wy_search X N 1 (1 + 16 + (v1).toNatClampNeg) (1 + 13 + (v2).toNatClampNeg) σ (rfl : shp 1 = 4) (shGu (rfl : shp 1 = 4) h14) (shRo (rfl : shp 1 = 4) h15) s17 e19) (wsOf_at (rfl : shp 47 = 10) (by decide) rfl) rfl mfX11_225_X10_search hyVX10_search (by decide) (by decide) rfl (Nat.le_of_ble_eq_true rfl) hG dX11_way_53 rfl (fun n18 => ?_)
        refine r_aload_n (pc := 56) 0 0 rfl rfl hG dX11_way_56 ?_
        refine gf11_9 (pc := 57) lk449 hG dX11_way_57 ?_
        refine gf10_2 (pc := 60) lk290 hG dX11_way_60 ?_
        refine r_if_ne (pc := 63) (tgt := 68) (by decide) hG dX11_way_63 (fun h20 => ?_) (fun h20 => ?_)
        · refine r_iload_n (pc := 68) 3 3 rfl rfl hG dX11_way_68 ?_
          refine r_ite hG (fun h21 => ?_) (fun h21 => ?_)
          · refine r_tableIn (pc := 69) (tgt := 100) (off := 31) (by rw [h21]; decide) (by rw [h21]; decide) (by rw [h21]; decide) (by decide) hG dX11_way_69 ?_
            refine r_aload_n (pc := 100) 0 0 rfl rfl hG dX11_way_100 ?_
            refine gf11_9 (pc := 101) lk449 hG dX11_way_101 ?_
            refine gf10_3 (pc := 104) lk293 hG dX11_way_104 ?_
            exact r_iret (pc := 107) rfl hG dX11_way_107
          · refine r_ite hG (fun h22 => ?_) (fun h22 => ?_)
            · refine r_tableIn (pc := 69) (tgt := 108) (off := 39) (by rw [h22]; decide) (by rw [h22]; decide) (by rw [h22]; decide) (by decide) hG dX11_way_69 ?_
              refine r_aload_n (pc := 108) 0 0 rfl rfl hG dX11_way_108 ?_
              refine gf11_9 (pc := 109) lk449 hG dX11_way_109 ?_
              refine gf10_4 (pc := 112) lk296 hG dX11_way_112 ?_
              exact r_iret (pc := 115) rfl hG dX11_way_115
            · refine r_ite hG (fun h23 => ?_) (fun h23 => ?_)
              · refine r_tableIn (pc := 69) (tgt := 116) (off := 47) (by rw [h23]; decide) (by rw [h23]; decide) (by rw [h23]; decide) (by decide) hG dX11_way_69 ?_
                refine r_aload_n (pc := 116) 0 0 rfl rfl hG dX11_way_116 ?_
                refine gf11_9 (pc := 117) lk449 hG dX11_way_117 ?_
                refine gf10_5 (pc := 120) lk298 hG dX11_way_120 ?_
                exact r_iret (pc := 123) rfl hG dX11_way_123
              · refine r_ite hG (fun h24 => ?_) (fun h24 => ?_)
                · refine r_tableIn (pc := 69) (tgt := 124) (off := 55) (by rw [h24]; decide) (by rw [h24]; decide) (by rw [h24]; decide) (by decide) hG dX11_way_69 ?_
                  refine r_aload_n (pc := 124) 0 0 rfl rfl hG dX11_way_124 ?_
                  refine gf11_9 (pc := 125) lk449 hG dX11_way_125 ?_
                  refine gf10_2 (pc := 128) lk290 hG dX11_way_128 ?_
                  exact r_iret (pc := 131) rfl hG dX11_way_131
                · refine r_tableOut (pc := 69) (tgt := 132) (by have q0 := lv_neT h21 (a := (-4)) (by decide); have q1 := lv_neT h22 (a := (-3)) (by decide); have q2 := lv_neT h23 (a := (-2)) (by decide); have q3 := lv_neT h24 (a := (-1)) (by decide); omega) (by decide) hG dX11_way_69 ?_
                  refine r_iload_n (pc := 132) 3 3 rfl rfl hG dX11_way_132 ?_
                  refine r_aload_n (pc := 133) 0 0 rfl rfl hG dX11_way_133 ?_
                  refine gf11_9 (pc := 134) lk449 hG dX11_way_134 ?_
                  refine gf10_2 (pc := 137) lk290 hG dX11_way_137 ?_
                  refine r_icmp_ge (pc := 140) (tgt := 155) (by decide) hG dX11_way_140 (fun h25 => ?_) (fun h25 => ?_)
                  · refine r_bipush (pc := 155) (v := (-5)) (by decide) hG dX11_way_155 ?_
                    exact r_iret (pc := 157) rfl hG dX11_way_157
                  · refine r_aload_n (pc := 143) 0 0 rfl rfl hG dX11_way_143 ?_
                    refine gf11_9 (pc := 144) lk449 hG dX11_way_144 ?_
                    refine gf10_1 (pc := 147) lk286 hG dX11_way_147 ?_
                    refine r_iload_n (pc := 150) 3 3 rfl rfl hG dX11_way_150 ?_
                    refine r_ck hG (fun h26 => ?_)
                    refine r_iald (pc := 151) (i := 49) (rfl : shp 49 = 14) rfl h26 hG dX11_way_151 ?_
                    refine r_goto (pc := 152) (tgt := 157) (by decide) hG dX11_way_152 ?_
                    exact r_iret (pc := 157) rfl hG dX11_way_157
        · refine r_iconst (pc := 66) (v := (-1)) (by decide) hG dX11_way_66 ?_
          exact r_iret (pc := 67) rfl hG dX11_way_67
      · exact r_sub [0] rfl hG (w_Go_way_J22 N hG σ)
set_option maxRecDepth 4000 in
theorem w_Go_gentle_J16 {X : Cx} {G : GT (Int32 × St)} (N : Nat) (hG : IsG X RX11 cX11_gentle 3 20 (some .int) oWI G) (σ : St) : G (Go_gentle_J16 N σ) σ 16 [(0, .ref (X.2.1 + 0))] [] := by
  unfold Go_gentle_J16
  refine r_aload_n (pc := 16) 0 0 rfl rfl hG dX11_gentle_16 ?_
  refine r_bW hG (fun r5 s6 e8 => ?_)
  refine r_callVi (pc := 17) (As := []) (c_Go_refuseBad X N σ r5 s6 e8) (wsOf_at (rfl : shp 0 = 11) (by decide) rfl) rfl mfX11_95_X11_refuseBad hyVX11_refuseBad (by decide) (by decide) rfl (Nat.le_of_ble_eq_true rfl) hG dX11_gentle_17 rfl (fun n7 => ?_)
  exact r_iret (pc := 20) rfl hG dX11_gentle_20
set_option maxRecDepth 4000 in
theorem c_Go_gentle (X : Cx) (N : Nat) (v1 : Int32) (v2 : Int32) (σ : St) (r : Int32) (σ1 : St) (hE : Go_gentle N v1 v2 σ = some (r, σ1)) : Ctr X yX11_gentle cX11_gentle 3 (some .int) 20 [.ref (X.2.1 + 0), .int v1, .int v2] σ (some (.int r)) σ1 := by
  refine Ctr.of (out := oWI) (E := Go_gentle N v1 v2 σ) rfl (Nat.le_of_ble_eq_true rfl) (fun G hG => ?_) (r, σ1) hE
  unfold Go_gentle
  refine r_aload_n (pc := 0) 0 0 rfl rfl hG dX11_gentle_0 ?_
  refine r_iload_n (pc := 1) 1 1 rfl rfl hG dX11_gentle_1 ?_
  refine r_bR hG (fun r1 e3 => ?_)
  refine r_callVi (pc := 2) (As := [.int v1]) (c_Go_isGuest X N v1 σ r1 e3) (wsOf_at (rfl : shp 0 = 11) (by decide) rfl) rfl mfX11_154_X11_isGuest hyVX11_isGuest (by decide) (by decide) rfl (Nat.le_of_ble_eq_true rfl) hG dX11_gentle_2 rfl (fun n2 => ?_)
  refine r_if_eq (pc := 5) (tgt := 16) (by decide) hG dX11_gentle_5 (fun h4 => ?_) (fun h4 => ?_)
  · exact r_sub [0] rfl hG (w_Go_gentle_J16 N hG σ)
  · refine r_aload_n (pc := 8) 0 0 rfl rfl hG dX11_gentle_8 ?_
    refine r_iload_n (pc := 9) 2 2 rfl rfl hG dX11_gentle_9 ?_
    refine r_bR hG (fun r9 e11 => ?_)
    refine r_callVi (pc := 10) (As := [.int v2]) (c_Go_isRower X N v2 σ r9 e11) (wsOf_at (rfl : shp 0 = 11) (by decide) rfl) rfl mfX11_157_X11_isRower hyVX11_isRower (by decide) (by decide) rfl (Nat.le_of_ble_eq_true rfl) hG dX11_gentle_10 rfl (fun n10 => ?_)
    refine r_if_ne (pc := 13) (tgt := 21) (by decide) hG dX11_gentle_13 (fun h12 => ?_) (fun h12 => ?_)
    · refine r_aload_n (pc := 21) 0 0 rfl rfl hG dX11_gentle_21 ?_
      refine gf11_9 (pc := 22) lk449 hG dX11_gentle_22 ?_
      refine r_aload_n (pc := 25) 0 0 rfl rfl hG dX11_gentle_25 ?_
      refine gf11_0 (pc := 26) lk440 hG dX11_gentle_26 ?_
      refine r_aload_n (pc := 29) 0 0 rfl rfl hG dX11_gentle_29 ?_
      refine gf11_0 (pc := 30) lk440 hG dX11_gentle_30 ?_
      refine gf4_3 (pc := 33) (i := 1) (rfl : shp 1 = 4) lk231 hG dX11_gentle_33 ?_
      refine r_iload_n (pc := 36) 1 1 rfl rfl hG dX11_gentle_36 ?_
      refine r_ck hG (fun h13 => ?_)
      refine r_aGuests (pc := 37) (i := 1) (rfl : shp 5 = 16) rfl h13 hG dX11_gentle_37 ?_
      refine r_aload_n (pc := 38) 0 0 rfl rfl hG dX11_gentle_38 ?_
      refine gf11_0 (pc := 39) lk440 hG dX11_gentle_39 ?_
      refine gf4_2 (pc := 42) (i := 1) (rfl : shp 1 = 4) lk225 hG dX11_gentle_42 ?_
      refine r_iload_n (pc := 45) 2 2 rfl rfl hG dX11_gentle_45 ?_
      refine r_ck hG (fun h14 => ?_)
      refine r_aRowers (pc := 46) (i := 1) (rfl : shp 4 = 18) rfl h14 hG dX11_gentle_46 ?_
      refine r_bR hG (fun s16 e18 => ?_)
      refine r_callVv (pc := 47) (As := [.ref (X.2.1 + 1), .ref (X.2.1 + (1 + 16 + (v1).toNatClampNeg)), .ref (X.2.1 + (1 + 13 + (v2).toNatClampNeg))]) (c_Wy_search X N 1 (1 + 16 + (v1).toNatClampNeg) (1 + 13 + (v2).toNatClampNeg) σ (rfl : shp 1 = 4) (shGu (rfl : shp 1 = 4) h13) (shRo (rfl : shp 1 = 4) h14) s16 e18) (wsOf_at (rfl : shp 47 = 10) (by decide) rfl) rfl mfX11_225_X10_search hyVX10_search (by decide) (by decide) rfl (Nat.le_of_ble_eq_true rfl) hG dX11_gentle_47 rfl (fun n17 => ?_)
      refine r_aload_n (pc := 50) 0 0 rfl rfl hG dX11_gentle_50 ?_
      refine gf11_9 (pc := 51) lk449 hG dX11_gentle_51 ?_
      refine gf10_6 (pc := 54) lk300 hG dX11_gentle_54 ?_
      exact r_iret (pc := 57) rfl hG dX11_gentle_57
    · exact r_sub [0] rfl hG (w_Go_gentle_J16 N hG σ)
set_option maxRecDepth 4000 in
theorem w_Go_where_J16 {X : Cx} {G : GT (Int32 × St)} (N : Nat) (hG : IsG X RX11 cX11_where 5 20 (some .int) oWI G) (σ : St) : G (Go_where_J16 N σ) σ 16 [(0, .ref (X.2.1 + 0))] [] := by
  unfold Go_where_J16
  refine r_aload_n (pc := 16) 0 0 rfl rfl hG dX11_where_16 ?_
  refine r_bW hG (fun r5 s6 e8 => ?_)
  refine r_callVi (pc := 17) (As := []) (c_Go_refuseFarBad X N σ r5 s6 e8) (wsOf_at (rfl : shp 0 = 11) (by decide) rfl) rfl mfX11_222_X11_refuseFarBad hyVX11_refuseFarBad (by decide) (by decide) rfl (Nat.le_of_ble_eq_true rfl) hG dX11_where_17 rfl (fun n7 => ?_)
  exact r_iret (pc := 20) rfl hG dX11_where_20
set_option maxRecDepth 4000 in
theorem w_Go_where_L86B {X : Cx} {G : GT (Int32 × St)} (N : Nat) (hG : IsG X RX11 cX11_where 5 20 (some .int) oWI G) {K86 : Int32 → Int32 → St → Option (Int32 × St)} (hK86 : ∀ (v2 : Int32) (v4 : Int32) (s : St), G (K86 v2 v4 s) s 86 [(0, .ref (X.2.1 + 0)), (2, .int v2), (4, .int v4)] []) (v2 : Int32) (v4 : Int32) (σ : St) : G (Go_where_L86B N K86 v2 v4 σ) σ 86 [(0, .ref (X.2.1 + 0)), (2, .int v2), (4, .int v4)] [] := by
  unfold Go_where_L86B
  refine r_iload (pc := 86) 2 rfl hG dX11_where_86 ?_
  refine r_aload_n (pc := 88) 0 0 rfl rfl hG dX11_where_88 ?_
  refine gf11_9 (pc := 89) lk449 hG dX11_where_89 ?_
  refine gf10_2 (pc := 92) lk290 hG dX11_where_92 ?_
  refine r_icmp_ge (pc := 95) (tgt := 147) (by decide) hG dX11_where_95 (fun h28 => ?_) (fun h28 => ?_)
  · refine r_iconst (pc := 147) (v := (-1)) (by decide) hG dX11_where_147 ?_
    exact r_iret (pc := 148) rfl hG dX11_where_148
  · refine r_aload_n (pc := 98) 0 0 rfl rfl hG dX11_where_98 ?_
    refine gf11_0 (pc := 99) lk440 hG dX11_where_99 ?_
    refine r_aload_n (pc := 102) 0 0 rfl rfl hG dX11_where_102 ?_
    refine gf11_8 (pc := 103) lk448 hG dX11_where_103 ?_
    refine r_aload_n (pc := 106) 0 0 rfl rfl hG dX11_where_106 ?_
    refine gf11_0 (pc := 107) lk440 hG dX11_where_107 ?_
    refine gf4_2 (pc := 110) (i := 1) (rfl : shp 1 = 4) lk225 hG dX11_where_110 ?_
    refine r_iload_n (pc := 113) 1 2 rfl rfl hG dX11_where_113 ?_
    refine r_ck hG (fun h29 => ?_)
    refine r_aRowers (pc := 114) (i := 1) (rfl : shp 4 = 18) rfl h29 hG dX11_where_114 ?_
    refine r_aload_n (pc := 115) 0 0 rfl rfl hG dX11_where_115 ?_
    refine gf11_9 (pc := 116) lk449 hG dX11_where_116 ?_
    refine gf10_1 (pc := 119) lk286 hG dX11_where_119 ?_
    refine r_iload (pc := 122) 2 rfl hG dX11_where_122 ?_
    refine r_ck hG (fun h30 => ?_)
    refine r_iald (pc := 124) (i := 49) (rfl : shp 49 = 14) rfl h30 hG dX11_where_124 ?_
    refine r_bR hG (fun s32 e34 => ?_)
    refine r_callVv (pc := 125) (As := [.ref (X.2.1 + 46), .ref (X.2.1 + (1 + 13 + (v2).toNatClampNeg)), .int (σ.1 49 (v4).toNatClampNeg)]) (c_Ni_carry X N 1 46 (1 + 13 + (v2).toNatClampNeg) (σ.1 49 (v4).toNatClampNeg) σ (rfl : shp 1 = 4) (rfl : shp 46 = 1) (shRo (rfl : shp 1 = 4) h29) s32 e34) (wsOf_at (rfl : shp 1 = 4) (by decide) rfl) rfl mfX11_178_X4_carry hyVX4_carry (by decide) (by decide) rfl (Nat.le_of_ble_eq_true rfl) hG dX11_where_125 rfl (fun n33 => ?_)
    refine r_aload_n (pc := 128) 0 0 rfl rfl hG dX11_where_128 ?_
    refine gf11_8 (pc := 129) lk448 hG dX11_where_129 ?_
    refine r_bR hG (fun r35 e37 => ?_)
    refine r_callVi (pc := 132) (As := []) (c_Gu_isTold X N 46 s32 (rfl : shp 46 = 1) r35 e37) (wsOf_at (rfl : shp 46 = 1) (by decide) rfl) rfl mfX11_243_X1_isTold hyVX1_isTold (by decide) (by decide) rfl (Nat.le_of_ble_eq_true rfl) hG dX11_where_132 rfl (fun n36 => ?_)
    refine r_if_eq (pc := 135) (tgt := 141) (by decide) hG dX11_where_135 (fun h38 => ?_) (fun h38 => ?_)
    · refine r_bIinc (pc := 141) (lv' := fun x39 => [(4, .int x39), (0, .ref (X.2.1 + 0)), (2, .int v2)]) 2 rfl rfl (by decide) (fun _ => rfl) hG dX11_where_141 (fun x39 => ?_)
      refine r_goto (pc := 144) (tgt := 86) (by decide) hG dX11_where_144 ?_
      exact r_sub [1, 2, 0] rfl hG (hK86 v2 x39 s32)
    · refine r_iload (pc := 138) 2 rfl hG dX11_where_138 ?_
      exact r_iret (pc := 140) rfl hG dX11_where_140
set_option maxRecDepth 4000 in
theorem w_Go_where_L86 {X : Cx} {G : GT (Int32 × St)} (N : Nat) (hG : IsG X RX11 cX11_where 5 20 (some .int) oWI G) : ∀ (n : Nat), ∀ (v2 : Int32) (v4 : Int32) (σ : St), G (Go_where_L86 N n v2 v4 σ) σ 86 [(0, .ref (X.2.1 + 0)), (2, .int v2), (4, .int v4)] [] := by
  intro n
  induction n with
  | zero => intro v2 v4 σ; exact r_none hG
  | succ n ih => intro v2 v4 σ; exact w_Go_where_L86B N hG ih v2 v4 σ
set_option maxRecDepth 4000 in
theorem c_Go_where (X : Cx) (N : Nat) (v1 : Int32) (v2 : Int32) (σ : St) (r : Int32) (σ1 : St) (hE : Go_where N v1 v2 σ = some (r, σ1)) : Ctr X yX11_where cX11_where 5 (some .int) 20 [.ref (X.2.1 + 0), .int v1, .int v2] σ (some (.int r)) σ1 := by
  refine Ctr.of (out := oWI) (E := Go_where N v1 v2 σ) rfl (Nat.le_of_ble_eq_true rfl) (fun G hG => ?_) (r, σ1) hE
  unfold Go_where
  refine r_aload_n (pc := 0) 0 0 rfl rfl hG dX11_where_0 ?_
  refine r_iload_n (pc := 1) 1 1 rfl rfl hG dX11_where_1 ?_
  refine r_bR hG (fun r1 e3 => ?_)
  refine r_callVi (pc := 2) (As := [.int v1]) (c_Go_isGuest X N v1 σ r1 e3) (wsOf_at (rfl : shp 0 = 11) (by decide) rfl) rfl mfX11_154_X11_isGuest hyVX11_isGuest (by decide) (by decide) rfl (Nat.le_of_ble_eq_true rfl) hG dX11_where_2 rfl (fun n2 => ?_)
  refine r_if_eq (pc := 5) (tgt := 16) (by decide) hG dX11_where_5 (fun h4 => ?_) (fun h4 => ?_)
  · exact r_sub [0] rfl hG (w_Go_where_J16 N hG σ)
  · refine r_aload_n (pc := 8) 0 0 rfl rfl hG dX11_where_8 ?_
    refine r_iload_n (pc := 9) 2 2 rfl rfl hG dX11_where_9 ?_
    refine r_bR hG (fun r9 e11 => ?_)
    refine r_callVi (pc := 10) (As := [.int v2]) (c_Go_isRower X N v2 σ r9 e11) (wsOf_at (rfl : shp 0 = 11) (by decide) rfl) rfl mfX11_157_X11_isRower hyVX11_isRower (by decide) (by decide) rfl (Nat.le_of_ble_eq_true rfl) hG dX11_where_10 rfl (fun n10 => ?_)
    refine r_if_ne (pc := 13) (tgt := 21) (by decide) hG dX11_where_13 (fun h12 => ?_) (fun h12 => ?_)
    · refine r_aload_n (pc := 21) 0 0 rfl rfl hG dX11_where_21 ?_
      refine gf11_0 (pc := 22) lk440 hG dX11_where_22 ?_
      refine gf4_3 (pc := 25) (i := 1) (rfl : shp 1 = 4) lk231 hG dX11_where_25 ?_
      refine r_iload_n (pc := 28) 1 1 rfl rfl hG dX11_where_28 ?_
      refine r_ck hG (fun h13 => ?_)
      refine r_aGuests (pc := 29) (i := 1) (rfl : shp 5 = 16) rfl h13 hG dX11_where_29 ?_
      refine r_astore_n (pc := 30) (lv' := [(3, .ref (X.2.1 + (1 + 16 + (v1).toNatClampNeg))), (0, .ref (X.2.1 + 0)), (1, .int v1), (2, .int v2)]) 3 rfl (by decide) rfl hG dX11_where_30 ?_
      refine r_aload_n (pc := 31) 0 3 rfl rfl hG dX11_where_31 ?_
      refine r_bR hG (fun r14 e16 => ?_)
      refine r_callVi (pc := 32) (As := []) (c_Gu_isTold X N (1 + 16 + (v1).toNatClampNeg) σ (shGu (rfl : shp 1 = 4) h13) r14 e16) (wsOf_at (shGu (rfl : shp 1 = 4) h13) (by decide) rfl) rfl mfX11_243_X1_isTold hyVX1_isTold (by decide) (by decide) rfl (Nat.le_of_ble_eq_true rfl) hG dX11_where_32 rfl (fun n15 => ?_)
      refine r_if_eq (pc := 35) (tgt := 41) (by decide) hG dX11_where_35 (fun h17 => ?_) (fun h17 => ?_)
      · refine r_aload_n (pc := 41) 1 0 rfl rfl hG dX11_where_41 ?_
        refine gf11_9 (pc := 42) lk449 hG dX11_where_42 ?_
        refine r_aload_n (pc := 45) 1 0 rfl rfl hG dX11_where_45 ?_
        refine gf11_0 (pc := 46) lk440 hG dX11_where_46 ?_
        refine r_aload_n (pc := 49) 0 3 rfl rfl hG dX11_where_49 ?_
        refine r_aload_n (pc := 50) 1 0 rfl rfl hG dX11_where_50 ?_
        refine gf11_0 (pc := 51) lk440 hG dX11_where_51 ?_
        refine gf4_2 (pc := 54) (i := 1) (rfl : shp 1 = 4) lk225 hG dX11_where_54 ?_
        refine r_iload_n (pc := 57) 3 2 rfl rfl hG dX11_where_57 ?_
        refine r_ck hG (fun h18 => ?_)
        refine r_aRowers (pc := 58) (i := 1) (rfl : shp 4 = 18) rfl h18 hG dX11_where_58 ?_
        refine r_bR hG (fun s20 e22 => ?_)
        refine r_callVv (pc := 59) (As := [.ref (X.2.1 + 1), .ref (X.2.1 + (1 + 16 + (v1).toNatClampNeg)), .ref (X.2.1 + (1 + 13 + (v2).toNatClampNeg))]) (c_Wy_search X N 1 (1 + 16 + (v1).toNatClampNeg) (1 + 13 + (v2).toNatClampNeg) σ (rfl : shp 1 = 4) (shGu (rfl : shp 1 = 4) h13) (shRo (rfl : shp 1 = 4) h18) s20 e22) (wsOf_at (rfl : shp 47 = 10) (by decide) rfl) rfl mfX11_225_X10_search hyVX10_search (by decide) (by decide) rfl (Nat.le_of_ble_eq_true rfl) hG dX11_where_59 rfl (fun n21 => ?_)
        refine r_aload_n (pc := 62) 1 0 rfl rfl hG dX11_where_62 ?_
        refine gf11_9 (pc := 63) lk449 hG dX11_where_63 ?_
        refine gf10_2 (pc := 66) lk290 hG dX11_where_66 ?_
        refine r_if_ne (pc := 69) (tgt := 75) (by decide) hG dX11_where_69 (fun h23 => ?_) (fun h23 => ?_)
        · refine r_aload_n (pc := 75) 1 0 rfl rfl hG dX11_where_75 ?_
          refine gf11_8 (pc := 76) lk448 hG dX11_where_76 ?_
          refine r_aload_n (pc := 79) 0 3 rfl rfl hG dX11_where_79 ?_
          refine r_bR hG (fun s25 e27 => ?_)
          refine r_callVv (pc := 80) (As := [.ref (X.2.1 + (1 + 16 + (v1).toNatClampNeg))]) (c_Gu_take X N 46 (1 + 16 + (v1).toNatClampNeg) s20 (rfl : shp 46 = 1) (shGu (rfl : shp 1 = 4) h13) s25 e27) (wsOf_at (rfl : shp 46 = 1) (by decide) rfl) rfl mfX11_216_X1_take hyVX1_take (by decide) (by decide) rfl (Nat.le_of_ble_eq_true rfl) hG dX11_where_80 rfl (fun n26 => ?_)
          refine r_iconst (pc := 83) (v := 0) (by decide) hG dX11_where_83 ?_
          refine r_istore (pc := 84) (lv' := [(4, .int 0), (3, .ref (X.2.1 + (1 + 16 + (v1).toNatClampNeg))), (0, .ref (X.2.1 + 0)), (1, .int v1), (2, .int v2)]) (by decide) rfl hG dX11_where_84 ?_
          exact r_sub [2, 4, 0] rfl hG (w_Go_where_L86 N hG N v2 0 s25)
        · refine r_bipush (pc := 72) (v := (-4)) (by decide) hG dX11_where_72 ?_
          exact r_iret (pc := 74) rfl hG dX11_where_74
      · refine r_bipush (pc := 38) (v := (-3)) (by decide) hG dX11_where_38 ?_
        exact r_iret (pc := 40) rfl hG dX11_where_40
    · exact r_sub [0] rfl hG (w_Go_where_J16 N hG σ)
