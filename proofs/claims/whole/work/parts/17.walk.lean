set_option maxRecDepth 4000 in
theorem c_Mo_rowerBy (X : Cx) (N : Nat) (v1 : Int32) (v2 : Int32) (σ : St) (r : Int32) (hE : Mo_rowerBy N v1 v2 σ = some r) : Ctr X yX12_rowerBy cX12_rowerBy 3 (some .int) 1 [.ref (X.2.1 + 114), .int v1, .int v2] σ (some (.int r)) σ := by
  refine Ctr.of (out := (oI σ)) (E := Mo_rowerBy N v1 v2 σ) rfl (Nat.le_of_ble_eq_true rfl) (fun G hG => ?_) r hE
  unfold Mo_rowerBy
  refine r_iload_n (pc := 0) 1 1 rfl rfl hG dX12_rowerBy_0 ?_
  refine r_iconst (pc := 1) (v := 2) (by decide) hG dX12_rowerBy_1 ?_
  refine r_aload_n (pc := 2) 0 0 rfl rfl hG dX12_rowerBy_2 ?_
  refine gf12_0 (pc := 3) lk1131 hG dX12_rowerBy_3 ?_
  refine r_bipush (pc := 6) (v := 37) (by decide) hG dX12_rowerBy_6 ?_
  refine r_iald (pc := 8) (i := 115) (rfl : shp 115 = 14) rfl (by decide) hG dX12_rowerBy_8 ?_
  refine r_iconst (pc := 9) (v := 1) (by decide) hG dX12_rowerBy_9 ?_
  refine r_isub (pc := 10) hG dX12_rowerBy_10 ?_
  refine r_iload_n (pc := 11) 2 2 rfl rfl hG dX12_rowerBy_11 ?_
  refine r_isub (pc := 12) hG dX12_rowerBy_12 ?_
  refine r_imul (pc := 13) hG dX12_rowerBy_13 ?_
  refine r_ishr (pc := 14) hG dX12_rowerBy_14 ?_
  refine r_iconst (pc := 15) (v := 3) (by decide) hG dX12_rowerBy_15 ?_
  refine r_iand (pc := 16) hG dX12_rowerBy_16 ?_
  exact r_iret (pc := 17) rfl hG dX12_rowerBy_17
set_option maxRecDepth 4000 in
theorem w_Mo_shares_J165 {X : Cx} {G : GT St} (N : Nat) (hG : IsG X RX12 cX12_shares 7 2 none oWV G) (v1 : Int32) (v2 : Int32) (v3 : Int32) (σ : St) : G (Mo_shares_J165 N v1 v2 v3 σ) σ 165 [(0, .ref (X.2.1 + 114)), (1, .int v1), (2, .int v2), (3, .int v3)] [] := by
  unfold Mo_shares_J165
  refine r_aload_n (pc := 165) 0 0 rfl rfl hG dX12_shares_165 ?_
  refine r_iload_n (pc := 166) 1 1 rfl rfl hG dX12_shares_166 ?_
  refine pf12_32 (pc := 167) lk1163 hG dX12_shares_167 ?_
  refine r_bS hG (fun s4 => ?_)
  refine r_aload_n (pc := 170) 0 0 rfl rfl hG dX12_shares_170 ?_
  refine r_iload_n (pc := 171) 2 2 rfl rfl hG dX12_shares_171 ?_
  refine pf12_30 (pc := 172) lk1161 hG dX12_shares_172 ?_
  refine r_bS hG (fun s5 => ?_)
  refine r_aload_n (pc := 175) 0 0 rfl rfl hG dX12_shares_175 ?_
  refine r_iload_n (pc := 176) 3 3 rfl rfl hG dX12_shares_176 ?_
  refine pf12_31 (pc := 177) lk1162 hG dX12_shares_177 ?_
  refine r_bS hG (fun s6 => ?_)
  exact r_vret (pc := 180) rfl hG dX12_shares_180
set_option maxRecDepth 4000 in
theorem w_Mo_shares_J134 {X : Cx} {G : GT St} (N : Nat) (hG : IsG X RX12 cX12_shares 7 2 none oWV G) (v1 : Int32) (v2 : Int32) (v3 : Int32) (σ : St) : G (Mo_shares_J134 N v1 v2 v3 σ) σ 134 [(0, .ref (X.2.1 + 114)), (1, .int v1), (2, .int v2), (3, .int v3)] [] := by
  unfold Mo_shares_J134
  refine r_aload_n (pc := 134) 0 0 rfl rfl hG dX12_shares_134 ?_
  refine gf12_32 (pc := 135) lk1163 hG dX12_shares_135 ?_
  refine r_if_lt (pc := 138) (tgt := 165) (by decide) hG dX12_shares_138 (fun h3 => ?_) (fun h3 => ?_)
  · exact w_Mo_shares_J165 N hG v1 v2 v3 σ
  · refine r_iload_n (pc := 141) 2 2 rfl rfl hG dX12_shares_141 ?_
    refine r_aload_n (pc := 142) 0 0 rfl rfl hG dX12_shares_142 ?_
    refine gf12_30 (pc := 143) lk1161 hG dX12_shares_143 ?_
    refine r_icmp_gt (pc := 146) (tgt := 165) (by decide) hG dX12_shares_146 (fun h7 => ?_) (fun h7 => ?_)
    · exact w_Mo_shares_J165 N hG v1 v2 v3 σ
    · refine r_iload_n (pc := 149) 2 2 rfl rfl hG dX12_shares_149 ?_
      refine r_aload_n (pc := 150) 0 0 rfl rfl hG dX12_shares_150 ?_
      refine gf12_30 (pc := 151) lk1161 hG dX12_shares_151 ?_
      refine r_icmp_ne (pc := 154) (tgt := 180) (by decide) hG dX12_shares_154 (fun h8 => ?_) (fun h8 => ?_)
      · exact r_vret (pc := 180) rfl hG dX12_shares_180
      · refine r_iload_n (pc := 157) 3 3 rfl rfl hG dX12_shares_157 ?_
        refine r_aload_n (pc := 158) 0 0 rfl rfl hG dX12_shares_158 ?_
        refine gf12_31 (pc := 159) lk1162 hG dX12_shares_159 ?_
        refine r_icmp_ge (pc := 162) (tgt := 180) (by decide) hG dX12_shares_162 (fun h9 => ?_) (fun h9 => ?_)
        · exact r_vret (pc := 180) rfl hG dX12_shares_180
        · exact w_Mo_shares_J165 N hG v1 v2 v3 σ
set_option maxRecDepth 4000 in
theorem w_Mo_shares_L107B {X : Cx} {G : GT St} (N : Nat) (hG : IsG X RX12 cX12_shares 7 2 none oWV G) {K107 : Int32 → Int32 → Int32 → Int32 → Int32 → St → Option St} (hK107 : ∀ (v1 : Int32) (v2 : Int32) (v3 : Int32) (v4 : Int32) (v5 : Int32) (s : St), G (K107 v1 v2 v3 v4 v5 s) s 107 [(0, .ref (X.2.1 + 114)), (1, .int v1), (2, .int v2), (3, .int v3), (4, .int v4), (5, .int v5)] []) (v1 : Int32) (v2 : Int32) (v3 : Int32) (v4 : Int32) (v5 : Int32) (σ : St) : G (Mo_shares_L107B N K107 v1 v2 v3 v4 v5 σ) σ 107 [(0, .ref (X.2.1 + 114)), (1, .int v1), (2, .int v2), (3, .int v3), (4, .int v4), (5, .int v5)] [] := by
  unfold Mo_shares_L107B
  refine r_iload (pc := 107) 5 rfl hG dX12_shares_107 ?_
  refine r_iconst (pc := 109) (v := 3) (by decide) hG dX12_shares_109 ?_
  refine r_icmp_ge (pc := 110) (tgt := 134) (by decide) hG dX12_shares_110 (fun h2 => ?_) (fun h2 => ?_)
  · exact r_sub [0, 1, 2, 3] rfl hG (w_Mo_shares_J134 N hG v1 v2 v3 σ)
  · refine r_iload (pc := 113) 4 rfl hG dX12_shares_113 ?_
    refine r_iconst (pc := 115) (v := 4) (by decide) hG dX12_shares_115 ?_
    refine r_iload (pc := 116) 5 rfl hG dX12_shares_116 ?_
    refine r_imul (pc := 118) hG dX12_shares_118 ?_
    refine r_ishr (pc := 119) hG dX12_shares_119 ?_
    refine r_bipush (pc := 120) (v := 15) (by decide) hG dX12_shares_120 ?_
    refine r_iand (pc := 122) hG dX12_shares_122 ?_
    refine r_iconst (pc := 123) (v := 2) (by decide) hG dX12_shares_123 ?_
    refine r_icmp_le (pc := 124) (tgt := 128) (by decide) hG dX12_shares_124 (fun h10 => ?_) (fun h10 => ?_)
    · refine r_bIinc (pc := 128) (lv' := fun x11 => [(5, .int x11), (0, .ref (X.2.1 + 114)), (1, .int v1), (2, .int v2), (3, .int v3), (4, .int v4)]) 5 rfl rfl (by decide) (fun _ => rfl) hG dX12_shares_128 (fun x11 => ?_)
      refine r_goto (pc := 131) (tgt := 107) (by decide) hG dX12_shares_131 ?_
      exact r_sub [1, 2, 3, 4, 5, 0] rfl hG (hK107 v1 v2 v3 v4 x11 σ)
    · exact r_vret (pc := 127) rfl hG dX12_shares_127
set_option maxRecDepth 4000 in
theorem w_Mo_shares_L107 {X : Cx} {G : GT St} (N : Nat) (hG : IsG X RX12 cX12_shares 7 2 none oWV G) : ∀ (n : Nat), ∀ (v1 : Int32) (v2 : Int32) (v3 : Int32) (v4 : Int32) (v5 : Int32) (σ : St), G (Mo_shares_L107 N n v1 v2 v3 v4 v5 σ) σ 107 [(0, .ref (X.2.1 + 114)), (1, .int v1), (2, .int v2), (3, .int v3), (4, .int v4), (5, .int v5)] [] := by
  intro n
  induction n with
  | zero => intro v1 v2 v3 v4 v5 σ; exact r_none hG
  | succ n ih => intro v1 v2 v3 v4 v5 σ; exact w_Mo_shares_L107B N hG ih v1 v2 v3 v4 v5 σ
set_option maxRecDepth 4000 in
theorem w_Mo_shares_J104 {X : Cx} {G : GT St} (N : Nat) (hG : IsG X RX12 cX12_shares 7 2 none oWV G) (v1 : Int32) (v2 : Int32) (v3 : Int32) (v4 : Int32) (σ : St) : G (Mo_shares_J104 N v1 v2 v3 v4 σ) σ 104 [(0, .ref (X.2.1 + 114)), (1, .int v1), (2, .int v2), (3, .int v3), (4, .int v4)] [] := by
  unfold Mo_shares_J104
  refine r_iconst (pc := 104) (v := 0) (by decide) hG dX12_shares_104 ?_
  refine r_istore (pc := 105) (lv' := [(5, .int 0), (0, .ref (X.2.1 + 114)), (1, .int v1), (2, .int v2), (3, .int v3), (4, .int v4)]) (by decide) rfl hG dX12_shares_105 ?_
  exact r_sub [1, 2, 3, 4, 5, 0] rfl hG (w_Mo_shares_L107 N hG N v1 v2 v3 v4 0 σ)
set_option maxRecDepth 4000 in
theorem w_Mo_shares_J95 {X : Cx} {G : GT St} (N : Nat) (hG : IsG X RX12 cX12_shares 7 2 none oWV G) {K10 : Int32 → Int32 → Int32 → Int32 → Int32 → St → Option St} (hK10 : ∀ (v1 : Int32) (v2 : Int32) (v3 : Int32) (v4 : Int32) (v5 : Int32) (s : St), G (K10 v1 v2 v3 v4 v5 s) s 10 [(0, .ref (X.2.1 + 114)), (1, .int v1), (2, .int v2), (3, .int v3), (4, .int v4), (5, .int v5)] []) (v1 : Int32) (v2 : Int32) (v3 : Int32) (v5 : Int32) (w0 : Int32) (w1 : Int32) (σ : St) : G (Mo_shares_J95 N K10 v1 v2 v3 v5 w0 w1 σ) σ 95 [(0, .ref (X.2.1 + 114)), (1, .int v1), (2, .int v2), (3, .int v3), (5, .int v5)] [.int w1, .int w0] := by
  unfold Mo_shares_J95
  refine r_iadd (pc := 95) hG dX12_shares_95 ?_
  refine r_bI hG (fun x22 => ?_)
  refine r_istore (pc := 96) (lv' := [(4, .int x22), (0, .ref (X.2.1 + 114)), (1, .int v1), (2, .int v2), (3, .int v3), (5, .int v5)]) (by decide) rfl hG dX12_shares_96 ?_
  refine r_bIinc (pc := 98) (lv' := fun x23 => [(5, .int x23), (4, .int x22), (0, .ref (X.2.1 + 114)), (1, .int v1), (2, .int v2), (3, .int v3)]) 5 rfl rfl (by decide) (fun _ => rfl) hG dX12_shares_98 (fun x23 => ?_)
  refine r_goto (pc := 101) (tgt := 10) (by decide) hG dX12_shares_101 ?_
  exact r_sub [2, 3, 4, 5, 1, 0] rfl hG (hK10 v1 v2 v3 x22 x23 σ)
set_option maxRecDepth 4000 in
theorem w_Mo_shares_L10B {X : Cx} {G : GT St} (N : Nat) (hG : IsG X RX12 cX12_shares 7 2 none oWV G) {K10 : Int32 → Int32 → Int32 → Int32 → Int32 → St → Option St} (hK10 : ∀ (v1 : Int32) (v2 : Int32) (v3 : Int32) (v4 : Int32) (v5 : Int32) (s : St), G (K10 v1 v2 v3 v4 v5 s) s 10 [(0, .ref (X.2.1 + 114)), (1, .int v1), (2, .int v2), (3, .int v3), (4, .int v4), (5, .int v5)] []) (v1 : Int32) (v2 : Int32) (v3 : Int32) (v4 : Int32) (v5 : Int32) (σ : St) : G (Mo_shares_L10B N K10 v1 v2 v3 v4 v5 σ) σ 10 [(0, .ref (X.2.1 + 114)), (1, .int v1), (2, .int v2), (3, .int v3), (4, .int v4), (5, .int v5)] [] := by
  unfold Mo_shares_L10B
  refine r_iload (pc := 10) 5 rfl hG dX12_shares_10 ?_
  refine r_aload_n (pc := 12) 0 0 rfl rfl hG dX12_shares_12 ?_
  refine gf12_0 (pc := 13) lk1131 hG dX12_shares_13 ?_
  refine r_bipush (pc := 16) (v := 37) (by decide) hG dX12_shares_16 ?_
  refine r_iald (pc := 18) (i := 115) (rfl : shp 115 = 14) rfl (by decide) hG dX12_shares_18 ?_
  refine r_icmp_ge (pc := 19) (tgt := 104) (by decide) hG dX12_shares_19 (fun h1 => ?_) (fun h1 => ?_)
  · exact r_sub [0, 1, 2, 3, 4] rfl hG (w_Mo_shares_J104 N hG v1 v2 v3 v4 σ)
  · refine r_aload_n (pc := 22) 0 0 rfl rfl hG dX12_shares_22 ?_
    refine r_iload_n (pc := 23) 1 1 rfl rfl hG dX12_shares_23 ?_
    refine r_iload (pc := 24) 5 rfl hG dX12_shares_24 ?_
    refine r_bR hG (fun r12 e14 => ?_)
    refine r_callVi (pc := 26) (As := [.int v1, .int v5]) (c_Mo_rowerBy X N v1 v5 σ r12 e14) (wsOf_at (rfl : shp 114 = 12) (by decide) rfl) rfl mfX12_241_X12_rowerBy hyVX12_rowerBy (by decide) (by decide) rfl (Nat.le_of_ble_eq_true rfl) hG dX12_shares_26 rfl (fun n13 => ?_)
    refine r_istore (pc := 29) (lv' := [(6, .int r12), (0, .ref (X.2.1 + 114)), (1, .int v1), (2, .int v2), (3, .int v3), (4, .int v4), (5, .int v5)]) (by decide) rfl hG dX12_shares_29 ?_
    refine r_aload_n (pc := 31) 1 0 rfl rfl hG dX12_shares_31 ?_
    refine gf12_28 (pc := 32) lk1159 hG dX12_shares_32 ?_
    refine r_iconst (pc := 35) (v := 4) (by decide) hG dX12_shares_35 ?_
    refine r_iload (pc := 36) 6 rfl hG dX12_shares_36 ?_
    refine r_imul (pc := 38) hG dX12_shares_38 ?_
    refine r_iload (pc := 39) 0 rfl hG dX12_shares_39 ?_
    refine r_iadd (pc := 41) hG dX12_shares_41 ?_
    refine r_ck hG (fun h15 => ?_)
    refine r_iald (pc := 42) (i := 130) (rfl : shp 130 = 14) rfl h15 hG dX12_shares_42 ?_
    refine r_if_ge (pc := 43) (tgt := 47) (by decide) hG dX12_shares_43 (fun h16 => ?_) (fun h16 => ?_)
    · refine r_iload_n (pc := 47) 3 2 rfl rfl hG dX12_shares_47 ?_
      refine r_aload_n (pc := 48) 1 0 rfl rfl hG dX12_shares_48 ?_
      refine gf12_28 (pc := 49) lk1159 hG dX12_shares_49 ?_
      refine r_iconst (pc := 52) (v := 4) (by decide) hG dX12_shares_52 ?_
      refine r_iload (pc := 53) 6 rfl hG dX12_shares_53 ?_
      refine r_imul (pc := 55) hG dX12_shares_55 ?_
      refine r_iload (pc := 56) 0 rfl hG dX12_shares_56 ?_
      refine r_iadd (pc := 58) hG dX12_shares_58 ?_
      refine r_ck hG (fun h17 => ?_)
      refine r_iald (pc := 59) (i := 130) (rfl : shp 130 = 14) rfl h17 hG dX12_shares_59 ?_
      refine r_iadd (pc := 60) hG dX12_shares_60 ?_
      refine r_bI hG (fun x18 => ?_)
      refine r_istore_n (pc := 61) (lv' := [(2, .int x18), (6, .int r12), (0, .ref (X.2.1 + 114)), (1, .int v1), (3, .int v3), (4, .int v4), (5, .int v5)]) 2 rfl (by decide) rfl hG dX12_shares_61 ?_
      refine r_iload_n (pc := 62) 4 3 rfl rfl hG dX12_shares_62 ?_
      refine r_aload_n (pc := 63) 2 0 rfl rfl hG dX12_shares_63 ?_
      refine gf12_29 (pc := 64) lk1160 hG dX12_shares_64 ?_
      refine r_iconst (pc := 67) (v := 4) (by decide) hG dX12_shares_67 ?_
      refine r_iload (pc := 68) 6 rfl hG dX12_shares_68 ?_
      refine r_imul (pc := 70) hG dX12_shares_70 ?_
      refine r_iload (pc := 71) 1 rfl hG dX12_shares_71 ?_
      refine r_iadd (pc := 73) hG dX12_shares_73 ?_
      refine r_ck hG (fun h19 => ?_)
      refine r_iald (pc := 74) (i := 131) (rfl : shp 131 = 14) rfl h19 hG dX12_shares_74 ?_
      refine r_iadd (pc := 75) hG dX12_shares_75 ?_
      refine r_bI hG (fun x20 => ?_)
      refine r_istore_n (pc := 76) (lv' := [(3, .int x20), (2, .int x18), (6, .int r12), (0, .ref (X.2.1 + 114)), (1, .int v1), (4, .int v4), (5, .int v5)]) 3 rfl (by decide) rfl hG dX12_shares_76 ?_
      refine r_iload (pc := 77) 5 rfl hG dX12_shares_77 ?_
      refine r_iload (pc := 79) 2 rfl hG dX12_shares_79 ?_
      refine r_iconst (pc := 81) (v := 3) (by decide) hG dX12_shares_81 ?_
      refine r_icmp_ge (pc := 82) (tgt := 94) (by decide) hG dX12_shares_82 (fun h21 => ?_) (fun h21 => ?_)
      · refine r_iconst (pc := 94) (v := 0) (by decide) hG dX12_shares_94 ?_
        exact r_sub [3, 4, 1, 0, 6] rfl hG (w_Mo_shares_J95 N hG hK10 v1 x18 x20 v5 v4 0 σ)
      · refine r_iconst (pc := 85) (v := 1) (by decide) hG dX12_shares_85 ?_
        refine r_iconst (pc := 86) (v := 4) (by decide) hG dX12_shares_86 ?_
        refine r_iload (pc := 87) 2 rfl hG dX12_shares_87 ?_
        refine r_imul (pc := 89) hG dX12_shares_89 ?_
        refine r_ishl (pc := 90) hG dX12_shares_90 ?_
        refine r_goto (pc := 91) (tgt := 95) (by decide) hG dX12_shares_91 ?_
        exact r_sub [3, 4, 1, 0, 6] rfl hG (w_Mo_shares_J95 N hG hK10 v1 x18 x20 v5 v4 (1 <<< ((4 * r12) &&& 31)) σ)
    · exact r_vret (pc := 46) rfl hG dX12_shares_46
set_option maxRecDepth 4000 in
theorem w_Mo_shares_L10 {X : Cx} {G : GT St} (N : Nat) (hG : IsG X RX12 cX12_shares 7 2 none oWV G) : ∀ (n : Nat), ∀ (v1 : Int32) (v2 : Int32) (v3 : Int32) (v4 : Int32) (v5 : Int32) (σ : St), G (Mo_shares_L10 N n v1 v2 v3 v4 v5 σ) σ 10 [(0, .ref (X.2.1 + 114)), (1, .int v1), (2, .int v2), (3, .int v3), (4, .int v4), (5, .int v5)] [] := by
  intro n
  induction n with
  | zero => intro v1 v2 v3 v4 v5 σ; exact r_none hG
  | succ n ih => intro v1 v2 v3 v4 v5 σ; exact w_Mo_shares_L10B N hG ih v1 v2 v3 v4 v5 σ
set_option maxRecDepth 4000 in
theorem c_Mo_shares (X : Cx) (N : Nat) (v1 : Int32) (σ : St) (σ1 : St) (hE : Mo_shares N v1 σ = some σ1) : Ctr X yX12_shares cX12_shares 7 none 2 [.ref (X.2.1 + 114), .int v1] σ none σ1 := by
  refine Ctr.of (out := oWV) (E := Mo_shares N v1 σ) rfl (Nat.le_of_ble_eq_true rfl) (fun G hG => ?_) σ1 hE
  unfold Mo_shares
  refine r_iconst (pc := 0) (v := 0) (by decide) hG dX12_shares_0 ?_
  refine r_istore_n (pc := 1) (lv' := [(2, .int 0), (0, .ref (X.2.1 + 114)), (1, .int v1)]) 2 rfl (by decide) rfl hG dX12_shares_1 ?_
  refine r_iconst (pc := 2) (v := 0) (by decide) hG dX12_shares_2 ?_
  refine r_istore_n (pc := 3) (lv' := [(3, .int 0), (2, .int 0), (0, .ref (X.2.1 + 114)), (1, .int v1)]) 3 rfl (by decide) rfl hG dX12_shares_3 ?_
  refine r_iconst (pc := 4) (v := 0) (by decide) hG dX12_shares_4 ?_
  refine r_istore (pc := 5) (lv' := [(4, .int 0), (3, .int 0), (2, .int 0), (0, .ref (X.2.1 + 114)), (1, .int v1)]) (by decide) rfl hG dX12_shares_5 ?_
  refine r_iconst (pc := 7) (v := 0) (by decide) hG dX12_shares_7 ?_
  refine r_istore (pc := 8) (lv' := [(5, .int 0), (4, .int 0), (3, .int 0), (2, .int 0), (0, .ref (X.2.1 + 114)), (1, .int v1)]) (by decide) rfl hG dX12_shares_8 ?_
  exact r_sub [4, 5, 3, 2, 1, 0] rfl hG (w_Mo_shares_L10 N hG N v1 0 0 0 0 σ)
set_option maxRecDepth 4000 in
theorem w_Mo_share_J64 {X : Cx} {G : GT (Int32 × St)} (N : Nat) (hG : IsG X RX12 cX12_share 3 7 (some .int) oWI G) (v1 : Int32) (σ : St) : G (Mo_share_J64 N v1 σ) σ 64 [(0, .ref (X.2.1 + 114)), (1, .int v1)] [] := by
  unfold Mo_share_J64
  refine r_aload_n (pc := 64) 0 0 rfl rfl hG dX12_share_64 ?_
  refine gf12_32 (pc := 65) lk1163 hG dX12_share_65 ?_
  refine r_if_ge (pc := 68) (tgt := 74) (by decide) hG dX12_share_68 (fun h8 => ?_) (fun h8 => ?_)
  · refine r_iload_n (pc := 74) 1 1 rfl rfl hG dX12_share_74 ?_
    refine r_if_ge (pc := 75) (tgt := 96) (by decide) hG dX12_share_75 (fun h9 => ?_) (fun h9 => ?_)
    · refine r_aload_n (pc := 96) 0 0 rfl rfl hG dX12_share_96 ?_
      refine r_aload_n (pc := 97) 0 0 rfl rfl hG dX12_share_97 ?_
      refine gf12_32 (pc := 98) lk1163 hG dX12_share_98 ?_
      refine r_iload_n (pc := 101) 1 1 rfl rfl hG dX12_share_101 ?_
      refine r_bR hG (fun r10 e12 => ?_)
      refine r_callVi (pc := 102) (As := [.int (σ.1 114 32), .int v1]) (c_Mo_rowerBy X N (σ.1 114 32) v1 σ r10 e12) (wsOf_at (rfl : shp 114 = 12) (by decide) rfl) rfl mfX12_241_X12_rowerBy hyVX12_rowerBy (by decide) (by decide) rfl (Nat.le_of_ble_eq_true rfl) hG dX12_share_102 rfl (fun n11 => ?_)
      refine r_istore_n (pc := 105) (lv' := [(2, .int r10), (0, .ref (X.2.1 + 114)), (1, .int v1)]) 2 rfl (by decide) rfl hG dX12_share_105 ?_
      refine r_iload_n (pc := 106) 0 2 rfl rfl hG dX12_share_106 ?_
      refine r_iconst (pc := 107) (v := 3) (by decide) hG dX12_share_107 ?_
      refine r_icmp_ne (pc := 108) (tgt := 115) (by decide) hG dX12_share_108 (fun h13 => ?_) (fun h13 => ?_)
      · refine r_iload_n (pc := 115) 0 2 rfl rfl hG dX12_share_115 ?_
        exact r_iret (pc := 116) rfl hG dX12_share_116
      · refine r_iconst (pc := 111) (v := (-1)) (by decide) hG dX12_share_111 ?_
        refine r_goto (pc := 112) (tgt := 116) (by decide) hG dX12_share_112 ?_
        exact r_iret (pc := 116) rfl hG dX12_share_116
    · refine r_iload_n (pc := 78) 1 1 rfl rfl hG dX12_share_78 ?_
      refine r_bipush (pc := 79) (v := (-3)) (by decide) hG dX12_share_79 ?_
      refine r_icmp_ne (pc := 81) (tgt := 91) (by decide) hG dX12_share_81 (fun h14 => ?_) (fun h14 => ?_)
      · refine r_aload_n (pc := 91) 0 0 rfl rfl hG dX12_share_91 ?_
        refine gf12_31 (pc := 92) lk1162 hG dX12_share_92 ?_
        exact r_iret (pc := 95) rfl hG dX12_share_95
      · refine r_aload_n (pc := 84) 0 0 rfl rfl hG dX12_share_84 ?_
        refine gf12_30 (pc := 85) lk1161 hG dX12_share_85 ?_
        refine r_goto (pc := 88) (tgt := 95) (by decide) hG dX12_share_88 ?_
        exact r_iret (pc := 95) rfl hG dX12_share_95
  · refine r_bipush (pc := 71) (v := (-5)) (by decide) hG dX12_share_71 ?_
    exact r_iret (pc := 73) rfl hG dX12_share_73
set_option maxRecDepth 4000 in
theorem w_Mo_share_L38B {X : Cx} {G : GT (Int32 × St)} (N : Nat) (hG : IsG X RX12 cX12_share 3 7 (some .int) oWI G) {K38 : Int32 → Int32 → St → Option (Int32 × St)} (hK38 : ∀ (v1 : Int32) (v2 : Int32) (s : St), G (K38 v1 v2 s) s 38 [(0, .ref (X.2.1 + 114)), (1, .int v1), (2, .int v2)] []) (v1 : Int32) (v2 : Int32) (σ : St) : G (Mo_share_L38B N K38 v1 v2 σ) σ 38 [(0, .ref (X.2.1 + 114)), (1, .int v1), (2, .int v2)] [] := by
  unfold Mo_share_L38B
  refine r_iload_n (pc := 38) 2 2 rfl rfl hG dX12_share_38 ?_
  refine r_iconst (pc := 39) (v := 1) (by decide) hG dX12_share_39 ?_
  refine r_iconst (pc := 40) (v := 2) (by decide) hG dX12_share_40 ?_
  refine r_aload_n (pc := 41) 0 0 rfl rfl hG dX12_share_41 ?_
  refine gf12_0 (pc := 42) lk1131 hG dX12_share_42 ?_
  refine r_bipush (pc := 45) (v := 37) (by decide) hG dX12_share_45 ?_
  refine r_iald (pc := 47) (i := 115) (rfl : shp 115 = 14) rfl (by decide) hG dX12_share_47 ?_
  refine r_imul (pc := 48) hG dX12_share_48 ?_
  refine r_ishl (pc := 49) hG dX12_share_49 ?_
  refine r_icmp_ge (pc := 50) (tgt := 64) (by decide) hG dX12_share_50 (fun h7 => ?_) (fun h7 => ?_)
  · exact r_sub [0, 1] rfl hG (w_Mo_share_J64 N hG v1 σ)
  · refine r_aload_n (pc := 53) 0 0 rfl rfl hG dX12_share_53 ?_
    refine r_iload_n (pc := 54) 2 2 rfl rfl hG dX12_share_54 ?_
    refine r_bR hG (fun s16 e18 => ?_)
    refine r_callVv (pc := 55) (As := [.int v2]) (c_Mo_shares X N v2 σ s16 e18) (wsOf_at (rfl : shp 114 = 12) (by decide) rfl) rfl mfX12_256_X12_shares hyVX12_shares (by decide) (by decide) rfl (Nat.le_of_ble_eq_true rfl) hG dX12_share_55 rfl (fun n17 => ?_)
    refine r_bIinc (pc := 58) (lv' := fun x19 => [(2, .int x19), (0, .ref (X.2.1 + 114)), (1, .int v1)]) 2 rfl rfl (by decide) (fun _ => rfl) hG dX12_share_58 (fun x19 => ?_)
    refine r_goto (pc := 61) (tgt := 38) (by decide) hG dX12_share_61 ?_
    exact r_sub [1, 2, 0] rfl hG (hK38 v1 x19 s16)
set_option maxRecDepth 4000 in
theorem w_Mo_share_L38 {X : Cx} {G : GT (Int32 × St)} (N : Nat) (hG : IsG X RX12 cX12_share 3 7 (some .int) oWI G) : ∀ (n : Nat), ∀ (v1 : Int32) (v2 : Int32) (σ : St), G (Mo_share_L38 N n v1 v2 σ) σ 38 [(0, .ref (X.2.1 + 114)), (1, .int v1), (2, .int v2)] [] := by
  intro n
  induction n with
  | zero => intro v1 v2 σ; exact r_none hG
  | succ n ih => intro v1 v2 σ; exact w_Mo_share_L38B N hG ih v1 v2 σ
set_option maxRecDepth 4000 in
theorem w_Mo_share_J27 {X : Cx} {G : GT (Int32 × St)} (N : Nat) (hG : IsG X RX12 cX12_share 3 7 (some .int) oWI G) (v1 : Int32) (σ : St) : G (Mo_share_J27 N v1 σ) σ 27 [(0, .ref (X.2.1 + 114)), (1, .int v1)] [] := by
  unfold Mo_share_J27
  refine r_aload_n (pc := 27) 0 0 rfl rfl hG dX12_share_27 ?_
  refine r_bR hG (fun s3 e5 => ?_)
  refine r_callVv (pc := 28) (As := []) (c_Mo_findsAll X N σ s3 e5) (wsOf_at (rfl : shp 114 = 12) (by decide) rfl) rfl mfX12_253_X12_findsAll hyVX12_findsAll (by decide) (by decide) rfl (Nat.le_of_ble_eq_true rfl) hG dX12_share_28 rfl (fun n4 => ?_)
  refine r_aload_n (pc := 31) 0 0 rfl rfl hG dX12_share_31 ?_
  refine r_iconst (pc := 32) (v := (-1)) (by decide) hG dX12_share_32 ?_
  refine pf12_32 (pc := 33) lk1163 hG dX12_share_33 ?_
  refine r_bS hG (fun s6 => ?_)
  refine r_iconst (pc := 36) (v := 0) (by decide) hG dX12_share_36 ?_
  refine r_istore_n (pc := 37) (lv' := [(2, .int 0), (0, .ref (X.2.1 + 114)), (1, .int v1)]) 2 rfl (by decide) rfl hG dX12_share_37 ?_
  exact r_sub [1, 2, 0] rfl hG (w_Mo_share_L38 N hG N v1 0 s6)
set_option maxRecDepth 4000 in
theorem c_Mo_share (X : Cx) (N : Nat) (v1 : Int32) (σ : St) (r : Int32) (σ1 : St) (hE : Mo_share N v1 σ = some (r, σ1)) : Ctr X yX12_share cX12_share 3 (some .int) 7 [.ref (X.2.1 + 114), .int v1] σ (some (.int r)) σ1 := by
  refine Ctr.of (out := oWI) (E := Mo_share N v1 σ) rfl (Nat.le_of_ble_eq_true rfl) (fun G hG => ?_) (r, σ1) hE
  unfold Mo_share
  refine r_iload_n (pc := 0) 1 1 rfl rfl hG dX12_share_0 ?_
  refine r_bipush (pc := 1) (v := (-3)) (by decide) hG dX12_share_1 ?_
  refine r_icmp_eq (pc := 3) (tgt := 27) (by decide) hG dX12_share_3 (fun h1 => ?_) (fun h1 => ?_)
  · exact w_Mo_share_J27 N hG v1 σ
  · refine r_iload_n (pc := 6) 1 1 rfl rfl hG dX12_share_6 ?_
    refine r_bipush (pc := 7) (v := (-2)) (by decide) hG dX12_share_7 ?_
    refine r_icmp_eq (pc := 9) (tgt := 27) (by decide) hG dX12_share_9 (fun h20 => ?_) (fun h20 => ?_)
    · exact w_Mo_share_J27 N hG v1 σ
    · refine r_aload_n (pc := 12) 0 0 rfl rfl hG dX12_share_12 ?_
      refine r_iload_n (pc := 13) 1 1 rfl rfl hG dX12_share_13 ?_
      refine r_bR hG (fun r21 e23 => ?_)
      refine r_callVi (pc := 14) (As := [.int v1]) (c_Mo_isGuest X N v1 σ r21 e23) (wsOf_at (rfl : shp 114 = 12) (by decide) rfl) rfl mfX12_190_X12_isGuest hyVX12_isGuest (by decide) (by decide) rfl (Nat.le_of_ble_eq_true rfl) hG dX12_share_14 rfl (fun n22 => ?_)
      refine r_if_ne (pc := 17) (tgt := 27) (by decide) hG dX12_share_17 (fun h24 => ?_) (fun h24 => ?_)
      · exact w_Mo_share_J27 N hG v1 σ
      · refine r_aload_n (pc := 20) 0 0 rfl rfl hG dX12_share_20 ?_
        refine r_bipush (pc := 21) (v := (-10)) (by decide) hG dX12_share_21 ?_
        refine r_bW hG (fun r25 s26 e28 => ?_)
        refine r_callVi (pc := 23) (As := [.int (-10)]) (c_Mo_bad X N (-10) σ r25 s26 e28) (wsOf_at (rfl : shp 114 = 12) (by decide) rfl) rfl mfX12_84_X12_bad hyVX12_bad (by decide) (by decide) rfl (Nat.le_of_ble_eq_true rfl) hG dX12_share_23 rfl (fun n27 => ?_)
        exact r_iret (pc := 26) rfl hG dX12_share_26
set_option maxRecDepth 4000 in
theorem w_Mo_seen_J45 {X : Cx} {G : GT (Int32 × St)} (N : Nat) (hG : IsG X RX12 cX12_seen 6 3 (some .int) oWI G) (σ : St) : G (Mo_seen_J45 N σ) σ 45 [(0, .ref (X.2.1 + 114))] [] := by
  unfold Mo_seen_J45
  refine r_aload_n (pc := 45) 0 0 rfl rfl hG dX12_seen_45 ?_
  refine r_bipush (pc := 46) (v := (-2)) (by decide) hG dX12_seen_46 ?_
  refine r_bW hG (fun r5 s6 e8 => ?_)
  refine r_callVi (pc := 48) (As := [.int (-2)]) (c_Mo_bad X N (-2) σ r5 s6 e8) (wsOf_at (rfl : shp 114 = 12) (by decide) rfl) rfl mfX12_84_X12_bad hyVX12_bad (by decide) (by decide) rfl (Nat.le_of_ble_eq_true rfl) hG dX12_seen_48 rfl (fun n7 => ?_)
  exact r_iret (pc := 51) rfl hG dX12_seen_51
set_option maxRecDepth 4000 in
theorem c_Mo_seen (X : Cx) (N : Nat) (v1 : Int32) (v2 : Int32) (v3 : Int32) (v4 : Int32) (σ : St) (r : Int32) (σ1 : St) (hE : Mo_seen N v1 v2 v3 v4 σ = some (r, σ1)) : Ctr X yX12_seen cX12_seen 6 (some .int) 3 [.ref (X.2.1 + 114), .int v1, .int v2, .int v3, .int v4] σ (some (.int r)) σ1 := by
  refine Ctr.of (out := oWI) (E := Mo_seen N v1 v2 v3 v4 σ) rfl (Nat.le_of_ble_eq_true rfl) (fun G hG => ?_) (r, σ1) hE
  unfold Mo_seen
  refine r_aload_n (pc := 0) 0 0 rfl rfl hG dX12_seen_0 ?_
  refine r_iload_n (pc := 1) 1 1 rfl rfl hG dX12_seen_1 ?_
  refine r_bR hG (fun r1 e3 => ?_)
  refine r_callVi (pc := 2) (As := [.int v1]) (c_Mo_isRower X N v1 σ r1 e3) (wsOf_at (rfl : shp 114 = 12) (by decide) rfl) rfl mfX12_193_X12_isRower hyVX12_isRower (by decide) (by decide) rfl (Nat.le_of_ble_eq_true rfl) hG dX12_seen_2 rfl (fun n2 => ?_)
  refine r_if_eq (pc := 5) (tgt := 45) (by decide) hG dX12_seen_5 (fun h4 => ?_) (fun h4 => ?_)
  · exact r_sub [0] rfl hG (w_Mo_seen_J45 N hG σ)
  · refine r_iload_n (pc := 8) 2 2 rfl rfl hG dX12_seen_8 ?_
    refine r_i2l (pc := 9) hG dX12_seen_9 ?_
    refine r_lconst (pc := 10) (v := 0) (by decide) hG dX12_seen_10 ?_
    refine r_ldc2 (pc := 11) (v := 9) lk1238 hG dX12_seen_11 ?_
    refine r_callSi (pc := 14) (As := [.long ((v2).toInt64), .long 0, .long 9]) (c_Mo_in X ((v2).toInt64) 0 9 σ) mfX12_69_X12_in hySX12_in (by decide) (by decide) rfl (Nat.le_of_ble_eq_true rfl) hG dX12_seen_14 rfl (fun n10 => ?_)
    refine r_if_eq (pc := 17) (tgt := 45) (by decide) hG dX12_seen_17 (fun h12 => ?_) (fun h12 => ?_)
    · exact r_sub [0] rfl hG (w_Mo_seen_J45 N hG σ)
    · refine r_iload_n (pc := 20) 3 3 rfl rfl hG dX12_seen_20 ?_
      refine r_i2l (pc := 21) hG dX12_seen_21 ?_
      refine r_lconst (pc := 22) (v := 0) (by decide) hG dX12_seen_22 ?_
      refine r_ldc2 (pc := 23) (v := 99) lk1472 hG dX12_seen_23 ?_
      refine r_callSi (pc := 26) (As := [.long ((v3).toInt64), .long 0, .long 99]) (c_Mo_in X ((v3).toInt64) 0 99 σ) mfX12_69_X12_in hySX12_in (by decide) (by decide) rfl (Nat.le_of_ble_eq_true rfl) hG dX12_seen_26 rfl (fun n14 => ?_)
      refine r_if_eq (pc := 29) (tgt := 45) (by decide) hG dX12_seen_29 (fun h16 => ?_) (fun h16 => ?_)
      · exact r_sub [0] rfl hG (w_Mo_seen_J45 N hG σ)
      · refine r_iload (pc := 32) 4 rfl hG dX12_seen_32 ?_
        refine r_i2l (pc := 34) hG dX12_seen_34 ?_
        refine r_lconst (pc := 35) (v := 0) (by decide) hG dX12_seen_35 ?_
        refine r_ldc2 (pc := 36) (v := 99) lk1472 hG dX12_seen_36 ?_
        refine r_callSi (pc := 39) (As := [.long ((v4).toInt64), .long 0, .long 99]) (c_Mo_in X ((v4).toInt64) 0 99 σ) mfX12_69_X12_in hySX12_in (by decide) (by decide) rfl (Nat.le_of_ble_eq_true rfl) hG dX12_seen_39 rfl (fun n18 => ?_)
        refine r_if_ne (pc := 42) (tgt := 52) (by decide) hG dX12_seen_42 (fun h20 => ?_) (fun h20 => ?_)
        · refine r_aload_n (pc := 52) 0 0 rfl rfl hG dX12_seen_52 ?_
          refine gf12_0 (pc := 53) lk1131 hG dX12_seen_53 ?_
          refine r_bipush (pc := 56) (v := 68) (by decide) hG dX12_seen_56 ?_
          refine r_iald (pc := 58) (i := 115) (rfl : shp 115 = 14) rfl (by decide) hG dX12_seen_58 ?_
          refine r_iconst (pc := 59) (v := 5) (by decide) hG dX12_seen_59 ?_
          refine r_icmp_ne (pc := 60) (tgt := 68) (by decide) hG dX12_seen_60 (fun h21 => ?_) (fun h21 => ?_)
          · refine r_bipush (pc := 68) (v := 69) (by decide) hG dX12_seen_68 ?_
            refine r_iconst (pc := 70) (v := 4) (by decide) hG dX12_seen_70 ?_
            refine r_aload_n (pc := 71) 0 0 rfl rfl hG dX12_seen_71 ?_
            refine gf12_0 (pc := 72) lk1131 hG dX12_seen_72 ?_
            refine r_bipush (pc := 75) (v := 68) (by decide) hG dX12_seen_75 ?_
            refine r_iald (pc := 77) (i := 115) (rfl : shp 115 = 14) rfl (by decide) hG dX12_seen_77 ?_
            refine r_imul (pc := 78) hG dX12_seen_78 ?_
            refine r_iadd (pc := 79) hG dX12_seen_79 ?_
            refine r_bI hG (fun x22 => ?_)
            refine r_istore (pc := 80) (lv' := [(5, .int x22), (0, .ref (X.2.1 + 114)), (1, .int v1), (2, .int v2), (3, .int v3), (4, .int v4)]) (by decide) rfl hG dX12_seen_80 ?_
            refine r_aload_n (pc := 82) 1 0 rfl rfl hG dX12_seen_82 ?_
            refine gf12_0 (pc := 83) lk1131 hG dX12_seen_83 ?_
            refine r_iload (pc := 86) 0 rfl hG dX12_seen_86 ?_
            refine r_iload_n (pc := 88) 2 1 rfl rfl hG dX12_seen_88 ?_
            refine r_ck hG (fun h23 => ?_)
            refine r_iast (pc := 89) (i := 115) (rfl : shp 115 = 14) rfl h23 hG dX12_seen_89 ?_
            refine r_bS hG (fun s24 => ?_)
            refine r_aload_n (pc := 90) 1 0 rfl rfl hG dX12_seen_90 ?_
            refine gf12_0 (pc := 91) lk1131 hG dX12_seen_91 ?_
            refine r_iload (pc := 94) 0 rfl hG dX12_seen_94 ?_
            refine r_iconst (pc := 96) (v := 1) (by decide) hG dX12_seen_96 ?_
            refine r_iadd (pc := 97) hG dX12_seen_97 ?_
            refine r_iload_n (pc := 98) 3 2 rfl rfl hG dX12_seen_98 ?_
            refine r_ck hG (fun h25 => ?_)
            refine r_iast (pc := 99) (i := 115) (rfl : shp 115 = 14) rfl h25 hG dX12_seen_99 ?_
            refine r_bS hG (fun s26 => ?_)
            refine r_aload_n (pc := 100) 1 0 rfl rfl hG dX12_seen_100 ?_
            refine gf12_0 (pc := 101) lk1131 hG dX12_seen_101 ?_
            refine r_iload (pc := 104) 0 rfl hG dX12_seen_104 ?_
            refine r_iconst (pc := 106) (v := 2) (by decide) hG dX12_seen_106 ?_
            refine r_iadd (pc := 107) hG dX12_seen_107 ?_
            refine r_iload_n (pc := 108) 4 3 rfl rfl hG dX12_seen_108 ?_
            refine r_ck hG (fun h27 => ?_)
            refine r_iast (pc := 109) (i := 115) (rfl : shp 115 = 14) rfl h27 hG dX12_seen_109 ?_
            refine r_bS hG (fun s28 => ?_)
            refine r_aload_n (pc := 110) 1 0 rfl rfl hG dX12_seen_110 ?_
            refine gf12_0 (pc := 111) lk1131 hG dX12_seen_111 ?_
            refine r_iload (pc := 114) 0 rfl hG dX12_seen_114 ?_
            refine r_iconst (pc := 116) (v := 3) (by decide) hG dX12_seen_116 ?_
            refine r_iadd (pc := 117) hG dX12_seen_117 ?_
            refine r_iload (pc := 118) 5 rfl hG dX12_seen_118 ?_
            refine r_ck hG (fun h29 => ?_)
            refine r_iast (pc := 120) (i := 115) (rfl : shp 115 = 14) rfl h29 hG dX12_seen_120 ?_
            refine r_bS hG (fun s30 => ?_)
            refine r_aload_n (pc := 121) 1 0 rfl rfl hG dX12_seen_121 ?_
            refine gf12_0 (pc := 122) lk1131 hG dX12_seen_122 ?_
            refine r_bipush (pc := 125) (v := 68) (by decide) hG dX12_seen_125 ?_
            refine r_dup2 (pc := 127) rfl rfl hG dX12_seen_127 ?_
            refine r_iald (pc := 128) (i := 115) (rfl : shp 115 = 14) rfl (by decide) hG dX12_seen_128 ?_
            refine r_iconst (pc := 129) (v := 1) (by decide) hG dX12_seen_129 ?_
            refine r_iadd (pc := 130) hG dX12_seen_130 ?_
            refine r_iast (pc := 131) (i := 115) (rfl : shp 115 = 14) rfl (by decide) hG dX12_seen_131 ?_
            refine r_bS hG (fun s31 => ?_)
            refine r_aload_n (pc := 132) 1 0 rfl rfl hG dX12_seen_132 ?_
            refine gf12_0 (pc := 133) lk1131 hG dX12_seen_133 ?_
            refine r_bipush (pc := 136) (v := 68) (by decide) hG dX12_seen_136 ?_
            refine r_iald (pc := 138) (i := 115) (rfl : shp 115 = 14) rfl (by decide) hG dX12_seen_138 ?_
            exact r_iret (pc := 139) rfl hG dX12_seen_139
          · refine r_aload_n (pc := 63) 0 0 rfl rfl hG dX12_seen_63 ?_
            refine r_bW hG (fun r32 s33 e35 => ?_)
            refine r_callVi (pc := 64) (As := []) (c_Mo_full X N σ r32 s33 e35) (wsOf_at (rfl : shp 114 = 12) (by decide) rfl) rfl mfX12_101_X12_full hyVX12_full (by decide) (by decide) rfl (Nat.le_of_ble_eq_true rfl) hG dX12_seen_64 rfl (fun n34 => ?_)
            exact r_iret (pc := 67) rfl hG dX12_seen_67
        · exact r_sub [0] rfl hG (w_Mo_seen_J45 N hG σ)
set_option maxRecDepth 4000 in
theorem w_Mo_tonguesOf_J111 {σ : St} {X : Cx} {G : GT Int32} (N : Nat) (hG : IsG X RX12 cX12_tonguesOf 6 2 (some .int) (oI σ) G) {K6 : Int32 → Int32 → Int32 → St → Option Int32} (hK6 : ∀ (v1 : Int32) (v2 : Int32) (v3 : Int32), G (K6 v1 v2 v3 σ) σ 6 [(0, .ref (X.2.1 + 114)), (1, .int v1), (2, .int v2), (3, .int v3)] []) (v1 : Int32) (v2 : Int32) (v3 : Int32) : G (Mo_tonguesOf_J111 N K6 v1 v2 v3 σ) σ 111 [(0, .ref (X.2.1 + 114)), (1, .int v1), (2, .int v2), (3, .int v3)] [] := by
  unfold Mo_tonguesOf_J111
  refine r_bIinc (pc := 111) (lv' := fun x4 => [(3, .int x4), (0, .ref (X.2.1 + 114)), (1, .int v1), (2, .int v2)]) 3 rfl rfl (by decide) (fun _ => rfl) hG dX12_tonguesOf_111 (fun x4 => ?_)
  refine r_goto (pc := 114) (tgt := 6) (by decide) hG dX12_tonguesOf_114 ?_
  exact r_sub [1, 2, 3, 0] rfl hG (hK6 v1 v2 x4)
set_option maxRecDepth 4000 in
theorem w_Mo_tonguesOf_J103 {σ : St} {X : Cx} {G : GT Int32} (N : Nat) (hG : IsG X RX12 cX12_tonguesOf 6 2 (some .int) (oI σ) G) {K6 : Int32 → Int32 → Int32 → St → Option Int32} {K28 : Int32 → Int32 → Int32 → Int32 → Int32 → St → Option Int32} (hK6 : ∀ (v1 : Int32) (v2 : Int32) (v3 : Int32), G (K6 v1 v2 v3 σ) σ 6 [(0, .ref (X.2.1 + 114)), (1, .int v1), (2, .int v2), (3, .int v3)] []) (hK28 : ∀ (v1 : Int32) (v2 : Int32) (v3 : Int32) (v4 : Int32) (v5 : Int32), G (K28 v1 v2 v3 v4 v5 σ) σ 28 [(0, .ref (X.2.1 + 114)), (1, .int v1), (2, .int v2), (3, .int v3), (4, .int v4), (5, .int v5)] []) (v1 : Int32) (v3 : Int32) (v4 : Int32) (v5 : Int32) (w0 : Int32) (w1 : Int32) : G (Mo_tonguesOf_J103 N K6 K28 v1 v3 v4 v5 w0 w1 σ) σ 103 [(0, .ref (X.2.1 + 114)), (1, .int v1), (3, .int v3), (4, .int v4), (5, .int v5)] [.int w1, .int w0] := by
  unfold Mo_tonguesOf_J103
  refine r_iand (pc := 103) hG dX12_tonguesOf_103 ?_
  refine r_bI hG (fun x15 => ?_)
  refine r_istore_n (pc := 104) (lv' := [(2, .int x15), (0, .ref (X.2.1 + 114)), (1, .int v1), (3, .int v3), (4, .int v4), (5, .int v5)]) 2 rfl (by decide) rfl hG dX12_tonguesOf_104 ?_
  refine r_bIinc (pc := 105) (lv' := fun x16 => [(5, .int x16), (2, .int x15), (0, .ref (X.2.1 + 114)), (1, .int v1), (3, .int v3), (4, .int v4)]) 5 rfl rfl (by decide) (fun _ => rfl) hG dX12_tonguesOf_105 (fun x16 => ?_)
  refine r_goto (pc := 108) (tgt := 28) (by decide) hG dX12_tonguesOf_108 ?_
  exact r_sub [2, 3, 1, 4, 5, 0] rfl hG (hK28 v1 x15 v3 v4 x16)
set_option maxRecDepth 4000 in
theorem w_Mo_tonguesOf_L28B {σ : St} {X : Cx} {G : GT Int32} (N : Nat) (hG : IsG X RX12 cX12_tonguesOf 6 2 (some .int) (oI σ) G) {K6 : Int32 → Int32 → Int32 → St → Option Int32} {K28 : Int32 → Int32 → Int32 → Int32 → Int32 → St → Option Int32} (hK6 : ∀ (v1 : Int32) (v2 : Int32) (v3 : Int32), G (K6 v1 v2 v3 σ) σ 6 [(0, .ref (X.2.1 + 114)), (1, .int v1), (2, .int v2), (3, .int v3)] []) (hK28 : ∀ (v1 : Int32) (v2 : Int32) (v3 : Int32) (v4 : Int32) (v5 : Int32), G (K28 v1 v2 v3 v4 v5 σ) σ 28 [(0, .ref (X.2.1 + 114)), (1, .int v1), (2, .int v2), (3, .int v3), (4, .int v4), (5, .int v5)] []) (v1 : Int32) (v2 : Int32) (v3 : Int32) (v4 : Int32) (v5 : Int32) : G (Mo_tonguesOf_L28B N K6 K28 v1 v2 v3 v4 v5 σ) σ 28 [(0, .ref (X.2.1 + 114)), (1, .int v1), (2, .int v2), (3, .int v3), (4, .int v4), (5, .int v5)] [] := by
  unfold Mo_tonguesOf_L28B
  refine r_iload (pc := 28) 5 rfl hG dX12_tonguesOf_28 ?_
  refine r_bipush (pc := 30) (v := 10) (by decide) hG dX12_tonguesOf_30 ?_
  refine r_icmp_ge (pc := 32) (tgt := 111) (by decide) hG dX12_tonguesOf_32 (fun h3 => ?_) (fun h3 => ?_)
  · exact r_sub [0, 1, 2, 3] rfl hG (w_Mo_tonguesOf_J111 N hG hK6 v1 v2 v3)
  · refine r_aload_n (pc := 35) 0 0 rfl rfl hG dX12_tonguesOf_35 ?_
    refine gf12_0 (pc := 36) lk1131 hG dX12_tonguesOf_36 ?_
    refine r_iload (pc := 39) 4 rfl hG dX12_tonguesOf_39 ?_
    refine r_ck hG (fun h5 => ?_)
    refine r_iald (pc := 41) (i := 115) (rfl : shp 115 = 14) rfl h5 hG dX12_tonguesOf_41 ?_
    refine r_iload_n (pc := 42) 1 1 rfl rfl hG dX12_tonguesOf_42 ?_
    refine r_icmp_ne (pc := 43) (tgt := 111) (by decide) hG dX12_tonguesOf_43 (fun h6 => ?_) (fun h6 => ?_)
    · exact r_sub [0, 1, 2, 3] rfl hG (w_Mo_tonguesOf_J111 N hG hK6 v1 v2 v3)
    · refine r_iload_n (pc := 46) 2 2 rfl rfl hG dX12_tonguesOf_46 ?_
      refine r_aload_n (pc := 47) 0 0 rfl rfl hG dX12_tonguesOf_47 ?_
      refine gf12_0 (pc := 48) lk1131 hG dX12_tonguesOf_48 ?_
      refine r_bipush (pc := 51) (v := 38) (by decide) hG dX12_tonguesOf_51 ?_
      refine r_iload_n (pc := 53) 1 1 rfl rfl hG dX12_tonguesOf_53 ?_
      refine r_iadd (pc := 54) hG dX12_tonguesOf_54 ?_
      refine r_ck hG (fun h7 => ?_)
      refine r_iald (pc := 55) (i := 115) (rfl : shp 115 = 14) rfl h7 hG dX12_tonguesOf_55 ?_
      refine r_iload (pc := 56) 5 rfl hG dX12_tonguesOf_56 ?_
      refine r_aload_n (pc := 58) 0 0 rfl rfl hG dX12_tonguesOf_58 ?_
      refine gf12_0 (pc := 59) lk1131 hG dX12_tonguesOf_59 ?_
      refine r_iload (pc := 62) 4 rfl hG dX12_tonguesOf_62 ?_
      refine r_iconst (pc := 64) (v := 1) (by decide) hG dX12_tonguesOf_64 ?_
      refine r_iadd (pc := 65) hG dX12_tonguesOf_65 ?_
      refine r_ck hG (fun h8 => ?_)
      refine r_iald (pc := 66) (i := 115) (rfl : shp 115 = 14) rfl h8 hG dX12_tonguesOf_66 ?_
      refine r_aload_n (pc := 67) 0 0 rfl rfl hG dX12_tonguesOf_67 ?_
      refine gf12_0 (pc := 68) lk1131 hG dX12_tonguesOf_68 ?_
      refine r_iload (pc := 71) 4 rfl hG dX12_tonguesOf_71 ?_
      refine r_iconst (pc := 73) (v := 2) (by decide) hG dX12_tonguesOf_73 ?_
      refine r_iadd (pc := 74) hG dX12_tonguesOf_74 ?_
      refine r_ck hG (fun h9 => ?_)
      refine r_iald (pc := 75) (i := 115) (rfl : shp 115 = 14) rfl h9 hG dX12_tonguesOf_75 ?_
      refine r_callSi (pc := 76) (As := [.int (σ.1 115 ((38 + v1)).toNatClampNeg), .int v5, .int (σ.1 115 ((v4 + 1)).toNatClampNeg), .int (σ.1 115 ((v4 + 2)).toNatClampNeg)]) (c_Mo_tells X (σ.1 115 ((38 + v1)).toNatClampNeg) v5 (σ.1 115 ((v4 + 1)).toNatClampNeg) (σ.1 115 ((v4 + 2)).toNatClampNeg) σ) mfX12_182_X12_tells hySX12_tells (by decide) (by decide) rfl (Nat.le_of_ble_eq_true rfl) hG dX12_tonguesOf_76 rfl (fun n11 => ?_)
      refine r_aload_n (pc := 79) 0 0 rfl rfl hG dX12_tonguesOf_79 ?_
      refine gf12_0 (pc := 80) lk1131 hG dX12_tonguesOf_80 ?_
      refine r_iload (pc := 83) 4 rfl hG dX12_tonguesOf_83 ?_
      refine r_iconst (pc := 85) (v := 3) (by decide) hG dX12_tonguesOf_85 ?_
      refine r_iadd (pc := 86) hG dX12_tonguesOf_86 ?_
      refine r_ck hG (fun h13 => ?_)
      refine r_iald (pc := 87) (i := 115) (rfl : shp 115 = 14) rfl h13 hG dX12_tonguesOf_87 ?_
      refine r_icmp_ne (pc := 88) (tgt := 97) (by decide) hG dX12_tonguesOf_88 (fun h14 => ?_) (fun h14 => ?_)
      · refine r_iconst (pc := 97) (v := 1) (by decide) hG dX12_tonguesOf_97 ?_
        refine r_iload (pc := 98) 5 rfl hG dX12_tonguesOf_98 ?_
        refine r_ishl (pc := 100) hG dX12_tonguesOf_100 ?_
        refine r_iconst (pc := 101) (v := (-1)) (by decide) hG dX12_tonguesOf_101 ?_
        refine r_ixor (pc := 102) hG dX12_tonguesOf_102 ?_
        exact r_sub [0, 1, 3, 4, 5] rfl hG (w_Mo_tonguesOf_J103 N hG hK6 hK28 v1 v3 v4 v5 v2 ((1 <<< (v5 &&& 31)) ^^^ (-1)))
      · refine r_sipush (pc := 91) (v := 1023) (by decide) hG dX12_tonguesOf_91 ?_
        refine r_goto (pc := 94) (tgt := 103) (by decide) hG dX12_tonguesOf_94 ?_
        exact r_sub [0, 1, 3, 4, 5] rfl hG (w_Mo_tonguesOf_J103 N hG hK6 hK28 v1 v3 v4 v5 v2 1023)
set_option maxRecDepth 4000 in
theorem w_Mo_tonguesOf_L28 {σ : St} {X : Cx} {G : GT Int32} (N : Nat) (hG : IsG X RX12 cX12_tonguesOf 6 2 (some .int) (oI σ) G) {K6 : Int32 → Int32 → Int32 → St → Option Int32} (hK6 : ∀ (v1 : Int32) (v2 : Int32) (v3 : Int32), G (K6 v1 v2 v3 σ) σ 6 [(0, .ref (X.2.1 + 114)), (1, .int v1), (2, .int v2), (3, .int v3)] []) : ∀ (n : Nat), ∀ (v1 : Int32) (v2 : Int32) (v3 : Int32) (v4 : Int32) (v5 : Int32), G (Mo_tonguesOf_L28 N K6 n v1 v2 v3 v4 v5 σ) σ 28 [(0, .ref (X.2.1 + 114)), (1, .int v1), (2, .int v2), (3, .int v3), (4, .int v4), (5, .int v5)] [] := by
  intro n
  induction n with
  | zero => intro v1 v2 v3 v4 v5; exact r_none hG
  | succ n ih => intro v1 v2 v3 v4 v5; exact w_Mo_tonguesOf_L28B N hG hK6 ih v1 v2 v3 v4 v5
set_option maxRecDepth 4000 in
theorem w_Mo_tonguesOf_L6B {σ : St} {X : Cx} {G : GT Int32} (N : Nat) (hG : IsG X RX12 cX12_tonguesOf 6 2 (some .int) (oI σ) G) {K6 : Int32 → Int32 → Int32 → St → Option Int32} (hK6 : ∀ (v1 : Int32) (v2 : Int32) (v3 : Int32), G (K6 v1 v2 v3 σ) σ 6 [(0, .ref (X.2.1 + 114)), (1, .int v1), (2, .int v2), (3, .int v3)] []) (v1 : Int32) (v2 : Int32) (v3 : Int32) : G (Mo_tonguesOf_L6B N K6 v1 v2 v3 σ) σ 6 [(0, .ref (X.2.1 + 114)), (1, .int v1), (2, .int v2), (3, .int v3)] [] := by
  unfold Mo_tonguesOf_L6B
  refine r_iload_n (pc := 6) 3 3 rfl rfl hG dX12_tonguesOf_6 ?_
  refine r_aload_n (pc := 7) 0 0 rfl rfl hG dX12_tonguesOf_7 ?_
  refine gf12_0 (pc := 8) lk1131 hG dX12_tonguesOf_8 ?_
  refine r_bipush (pc := 11) (v := 68) (by decide) hG dX12_tonguesOf_11 ?_
  refine r_iald (pc := 13) (i := 115) (rfl : shp 115 = 14) rfl (by decide) hG dX12_tonguesOf_13 ?_
  refine r_icmp_ge (pc := 14) (tgt := 117) (by decide) hG dX12_tonguesOf_14 (fun h1 => ?_) (fun h1 => ?_)
  · refine r_iload_n (pc := 117) 2 2 rfl rfl hG dX12_tonguesOf_117 ?_
    exact r_iret (pc := 118) rfl hG dX12_tonguesOf_118
  · refine r_bipush (pc := 17) (v := 69) (by decide) hG dX12_tonguesOf_17 ?_
    refine r_iconst (pc := 19) (v := 4) (by decide) hG dX12_tonguesOf_19 ?_
    refine r_iload_n (pc := 20) 3 3 rfl rfl hG dX12_tonguesOf_20 ?_
    refine r_imul (pc := 21) hG dX12_tonguesOf_21 ?_
    refine r_iadd (pc := 22) hG dX12_tonguesOf_22 ?_
    refine r_bI hG (fun x2 => ?_)
    refine r_istore (pc := 23) (lv' := [(4, .int x2), (0, .ref (X.2.1 + 114)), (1, .int v1), (2, .int v2), (3, .int v3)]) (by decide) rfl hG dX12_tonguesOf_23 ?_
    refine r_iconst (pc := 25) (v := 0) (by decide) hG dX12_tonguesOf_25 ?_
    refine r_istore (pc := 26) (lv' := [(5, .int 0), (4, .int x2), (0, .ref (X.2.1 + 114)), (1, .int v1), (2, .int v2), (3, .int v3)]) (by decide) rfl hG dX12_tonguesOf_26 ?_
    exact r_sub [2, 3, 4, 5, 1, 0] rfl hG (w_Mo_tonguesOf_L28 N hG hK6 N v1 v2 v3 x2 0)
set_option maxRecDepth 4000 in
theorem w_Mo_tonguesOf_L6 {σ : St} {X : Cx} {G : GT Int32} (N : Nat) (hG : IsG X RX12 cX12_tonguesOf 6 2 (some .int) (oI σ) G) : ∀ (n : Nat), ∀ (v1 : Int32) (v2 : Int32) (v3 : Int32), G (Mo_tonguesOf_L6 N n v1 v2 v3 σ) σ 6 [(0, .ref (X.2.1 + 114)), (1, .int v1), (2, .int v2), (3, .int v3)] [] := by
  intro n
  induction n with
  | zero => intro v1 v2 v3; exact r_none hG
  | succ n ih => intro v1 v2 v3; exact w_Mo_tonguesOf_L6B N hG ih v1 v2 v3
set_option maxRecDepth 4000 in
theorem c_Mo_tonguesOf (X : Cx) (N : Nat) (v1 : Int32) (σ : St) (r : Int32) (hE : Mo_tonguesOf N v1 σ = some r) : Ctr X yX12_tonguesOf cX12_tonguesOf 6 (some .int) 2 [.ref (X.2.1 + 114), .int v1] σ (some (.int r)) σ := by
  refine Ctr.of (out := (oI σ)) (E := Mo_tonguesOf N v1 σ) rfl (Nat.le_of_ble_eq_true rfl) (fun G hG => ?_) r hE
  unfold Mo_tonguesOf
  refine r_sipush (pc := 0) (v := 1023) (by decide) hG dX12_tonguesOf_0 ?_
  refine r_istore_n (pc := 3) (lv' := [(2, .int 1023), (0, .ref (X.2.1 + 114)), (1, .int v1)]) 2 rfl (by decide) rfl hG dX12_tonguesOf_3 ?_
  refine r_iconst (pc := 4) (v := 0) (by decide) hG dX12_tonguesOf_4 ?_
  refine r_istore_n (pc := 5) (lv' := [(3, .int 0), (2, .int 1023), (0, .ref (X.2.1 + 114)), (1, .int v1)]) 3 rfl (by decide) rfl hG dX12_tonguesOf_5 ?_
  exact r_sub [2, 3, 1, 0] rfl hG (w_Mo_tonguesOf_L6 N hG N v1 1023 0)
set_option maxRecDepth 4000 in
theorem c_Mo_tongues (X : Cx) (N : Nat) (v1 : Int32) (σ : St) (r : Int32) (σ1 : St) (hE : Mo_tongues N v1 σ = some (r, σ1)) : Ctr X yX12_tongues cX12_tongues 2 (some .int) 3 [.ref (X.2.1 + 114), .int v1] σ (some (.int r)) σ1 := by
  refine Ctr.of (out := oWI) (E := Mo_tongues N v1 σ) rfl (Nat.le_of_ble_eq_true rfl) (fun G hG => ?_) (r, σ1) hE
  unfold Mo_tongues
  refine r_aload_n (pc := 0) 0 0 rfl rfl hG dX12_tongues_0 ?_
  refine r_iload_n (pc := 1) 1 1 rfl rfl hG dX12_tongues_1 ?_
  refine r_bR hG (fun r1 e3 => ?_)
  refine r_callVi (pc := 2) (As := [.int v1]) (c_Mo_isRower X N v1 σ r1 e3) (wsOf_at (rfl : shp 114 = 12) (by decide) rfl) rfl mfX12_193_X12_isRower hyVX12_isRower (by decide) (by decide) rfl (Nat.le_of_ble_eq_true rfl) hG dX12_tongues_2 rfl (fun n2 => ?_)
  refine r_if_eq (pc := 5) (tgt := 16) (by decide) hG dX12_tongues_5 (fun h4 => ?_) (fun h4 => ?_)
  · refine r_aload_n (pc := 16) 0 0 rfl rfl hG dX12_tongues_16 ?_
    refine r_bipush (pc := 17) (v := (-2)) (by decide) hG dX12_tongues_17 ?_
    refine r_bW hG (fun r5 s6 e8 => ?_)
    refine r_callVi (pc := 19) (As := [.int (-2)]) (c_Mo_bad X N (-2) σ r5 s6 e8) (wsOf_at (rfl : shp 114 = 12) (by decide) rfl) rfl mfX12_84_X12_bad hyVX12_bad (by decide) (by decide) rfl (Nat.le_of_ble_eq_true rfl) hG dX12_tongues_19 rfl (fun n7 => ?_)
    exact r_iret (pc := 22) rfl hG dX12_tongues_22
  · refine r_aload_n (pc := 8) 0 0 rfl rfl hG dX12_tongues_8 ?_
    refine r_iload_n (pc := 9) 1 1 rfl rfl hG dX12_tongues_9 ?_
    refine r_bR hG (fun r9 e11 => ?_)
    refine r_callVi (pc := 10) (As := [.int v1]) (c_Mo_tonguesOf X N v1 σ r9 e11) (wsOf_at (rfl : shp 114 = 12) (by decide) rfl) rfl mfX12_261_X12_tonguesOf hyVX12_tonguesOf (by decide) (by decide) rfl (Nat.le_of_ble_eq_true rfl) hG dX12_tongues_10 rfl (fun n10 => ?_)
    refine r_goto (pc := 13) (tgt := 22) (by decide) hG dX12_tongues_13 ?_
    exact r_iret (pc := 22) rfl hG dX12_tongues_22
set_option maxRecDepth 4000 in
theorem w_Mo_mostAlike_J83 {σ : St} {X : Cx} {G : GT Int32} (N : Nat) (hG : IsG X RX12 cX12_mostAlike 7 1 (some .int) (oI σ) G) {K5 : Int32 → Int32 → Int32 → Int32 → St → Option Int32} (hK5 : ∀ (v1 : Int32) (v2 : Int32) (v3 : Int32) (v4 : Int32), G (K5 v1 v2 v3 v4 σ) σ 5 [(0, .ref (X.2.1 + 114)), (1, .int v1), (2, .int v2), (3, .int v3), (4, .int v4)] []) (v1 : Int32) (v2 : Int32) (v4 : Int32) (w0 : Int32) : G (Mo_mostAlike_J83 N K5 v1 v2 v4 w0 σ) σ 83 [(0, .ref (X.2.1 + 114)), (1, .int v1), (2, .int v2), (4, .int v4)] [.int w0] := by
  unfold Mo_mostAlike_J83
  refine r_istore_n (pc := 83) (lv' := [(3, .int w0), (0, .ref (X.2.1 + 114)), (1, .int v1), (2, .int v2), (4, .int v4)]) 3 rfl (by decide) rfl hG dX12_mostAlike_83 ?_
  refine r_bIinc (pc := 84) (lv' := fun x4 => [(4, .int x4), (3, .int w0), (0, .ref (X.2.1 + 114)), (1, .int v1), (2, .int v2)]) 4 rfl rfl (by decide) (fun _ => rfl) hG dX12_mostAlike_84 (fun x4 => ?_)
  refine r_goto (pc := 87) (tgt := 5) (by decide) hG dX12_mostAlike_87 ?_
  exact r_sub [2, 3, 4, 1, 0] rfl hG (hK5 v1 v2 w0 x4)
set_option maxRecDepth 4000 in
theorem w_Mo_mostAlike_J71 {σ : St} {X : Cx} {G : GT Int32} (N : Nat) (hG : IsG X RX12 cX12_mostAlike 7 1 (some .int) (oI σ) G) {K5 : Int32 → Int32 → Int32 → Int32 → St → Option Int32} (hK5 : ∀ (v1 : Int32) (v2 : Int32) (v3 : Int32) (v4 : Int32), G (K5 v1 v2 v3 v4 σ) σ 5 [(0, .ref (X.2.1 + 114)), (1, .int v1), (2, .int v2), (3, .int v3), (4, .int v4)] []) (v1 : Int32) (v2 : Int32) (v3 : Int32) (v4 : Int32) (v5 : Int32) : G (Mo_mostAlike_J71 N K5 v1 v2 v3 v4 v5 σ) σ 71 [(0, .ref (X.2.1 + 114)), (1, .int v1), (2, .int v2), (3, .int v3), (4, .int v4), (5, .int v5)] [] := by
  unfold Mo_mostAlike_J71
  refine r_iload (pc := 71) 5 rfl hG dX12_mostAlike_71 ?_
  refine r_iload_n (pc := 73) 3 3 rfl rfl hG dX12_mostAlike_73 ?_
  refine r_icmp_le (pc := 74) (tgt := 82) (by decide) hG dX12_mostAlike_74 (fun h3 => ?_) (fun h3 => ?_)
  · refine r_iload_n (pc := 82) 3 3 rfl rfl hG dX12_mostAlike_82 ?_
    exact r_sub [0, 1, 2, 4] rfl hG (w_Mo_mostAlike_J83 N hG hK5 v1 v2 v4 v3)
  · refine r_iload (pc := 77) 5 rfl hG dX12_mostAlike_77 ?_
    refine r_goto (pc := 79) (tgt := 83) (by decide) hG dX12_mostAlike_79 ?_
    exact r_sub [0, 1, 2, 4] rfl hG (w_Mo_mostAlike_J83 N hG hK5 v1 v2 v4 v5)
set_option maxRecDepth 4000 in
theorem w_Mo_mostAlike_J62 {σ : St} {X : Cx} {G : GT Int32} (N : Nat) (hG : IsG X RX12 cX12_mostAlike 7 1 (some .int) (oI σ) G) {K5 : Int32 → Int32 → Int32 → Int32 → St → Option Int32} {K17 : Int32 → Int32 → Int32 → Int32 → Int32 → Int32 → St → Option Int32} (hK5 : ∀ (v1 : Int32) (v2 : Int32) (v3 : Int32) (v4 : Int32), G (K5 v1 v2 v3 v4 σ) σ 5 [(0, .ref (X.2.1 + 114)), (1, .int v1), (2, .int v2), (3, .int v3), (4, .int v4)] []) (hK17 : ∀ (v1 : Int32) (v2 : Int32) (v3 : Int32) (v4 : Int32) (v5 : Int32) (v6 : Int32), G (K17 v1 v2 v3 v4 v5 v6 σ) σ 17 [(0, .ref (X.2.1 + 114)), (1, .int v1), (2, .int v2), (3, .int v3), (4, .int v4), (5, .int v5), (6, .int v6)] []) (v1 : Int32) (v2 : Int32) (v3 : Int32) (v4 : Int32) (v6 : Int32) (w0 : Int32) (w1 : Int32) : G (Mo_mostAlike_J62 N K5 K17 v1 v2 v3 v4 v6 w0 w1 σ) σ 62 [(0, .ref (X.2.1 + 114)), (1, .int v1), (2, .int v2), (3, .int v3), (4, .int v4), (6, .int v6)] [.int w1, .int w0] := by
  unfold Mo_mostAlike_J62
  refine r_iadd (pc := 62) hG dX12_mostAlike_62 ?_
  refine r_bI hG (fun x6 => ?_)
  refine r_istore (pc := 63) (lv' := [(5, .int x6), (0, .ref (X.2.1 + 114)), (1, .int v1), (2, .int v2), (3, .int v3), (4, .int v4), (6, .int v6)]) (by decide) rfl hG dX12_mostAlike_63 ?_
  refine r_bIinc (pc := 65) (lv' := fun x7 => [(6, .int x7), (5, .int x6), (0, .ref (X.2.1 + 114)), (1, .int v1), (2, .int v2), (3, .int v3), (4, .int v4)]) 6 rfl rfl (by decide) (fun _ => rfl) hG dX12_mostAlike_65 (fun x7 => ?_)
  refine r_goto (pc := 68) (tgt := 17) (by decide) hG dX12_mostAlike_68 ?_
  exact r_sub [2, 3, 4, 5, 6, 1, 0] rfl hG (hK17 v1 v2 v3 v4 x6 x7)
set_option maxRecDepth 4000 in
theorem w_Mo_mostAlike_J61 {σ : St} {X : Cx} {G : GT Int32} (N : Nat) (hG : IsG X RX12 cX12_mostAlike 7 1 (some .int) (oI σ) G) {K5 : Int32 → Int32 → Int32 → Int32 → St → Option Int32} {K17 : Int32 → Int32 → Int32 → Int32 → Int32 → Int32 → St → Option Int32} (hK5 : ∀ (v1 : Int32) (v2 : Int32) (v3 : Int32) (v4 : Int32), G (K5 v1 v2 v3 v4 σ) σ 5 [(0, .ref (X.2.1 + 114)), (1, .int v1), (2, .int v2), (3, .int v3), (4, .int v4)] []) (hK17 : ∀ (v1 : Int32) (v2 : Int32) (v3 : Int32) (v4 : Int32) (v5 : Int32) (v6 : Int32), G (K17 v1 v2 v3 v4 v5 v6 σ) σ 17 [(0, .ref (X.2.1 + 114)), (1, .int v1), (2, .int v2), (3, .int v3), (4, .int v4), (5, .int v5), (6, .int v6)] []) (v1 : Int32) (v2 : Int32) (v3 : Int32) (v4 : Int32) (v6 : Int32) (w0 : Int32) : G (Mo_mostAlike_J61 N K5 K17 v1 v2 v3 v4 v6 w0 σ) σ 61 [(0, .ref (X.2.1 + 114)), (1, .int v1), (2, .int v2), (3, .int v3), (4, .int v4), (6, .int v6)] [.int w0] := by
  unfold Mo_mostAlike_J61
  refine r_iconst (pc := 61) (v := 0) (by decide) hG dX12_mostAlike_61 ?_
  exact w_Mo_mostAlike_J62 N hG hK5 hK17 v1 v2 v3 v4 v6 w0 0
set_option maxRecDepth 4000 in
theorem w_Mo_mostAlike_L17B {σ : St} {X : Cx} {G : GT Int32} (N : Nat) (hG : IsG X RX12 cX12_mostAlike 7 1 (some .int) (oI σ) G) {K5 : Int32 → Int32 → Int32 → Int32 → St → Option Int32} {K17 : Int32 → Int32 → Int32 → Int32 → Int32 → Int32 → St → Option Int32} (hK5 : ∀ (v1 : Int32) (v2 : Int32) (v3 : Int32) (v4 : Int32), G (K5 v1 v2 v3 v4 σ) σ 5 [(0, .ref (X.2.1 + 114)), (1, .int v1), (2, .int v2), (3, .int v3), (4, .int v4)] []) (hK17 : ∀ (v1 : Int32) (v2 : Int32) (v3 : Int32) (v4 : Int32) (v5 : Int32) (v6 : Int32), G (K17 v1 v2 v3 v4 v5 v6 σ) σ 17 [(0, .ref (X.2.1 + 114)), (1, .int v1), (2, .int v2), (3, .int v3), (4, .int v4), (5, .int v5), (6, .int v6)] []) (v1 : Int32) (v2 : Int32) (v3 : Int32) (v4 : Int32) (v5 : Int32) (v6 : Int32) : G (Mo_mostAlike_L17B N K5 K17 v1 v2 v3 v4 v5 v6 σ) σ 17 [(0, .ref (X.2.1 + 114)), (1, .int v1), (2, .int v2), (3, .int v3), (4, .int v4), (5, .int v5), (6, .int v6)] [] := by
  unfold Mo_mostAlike_L17B
  refine r_iload (pc := 17) 6 rfl hG dX12_mostAlike_17 ?_
  refine r_iload_n (pc := 19) 2 2 rfl rfl hG dX12_mostAlike_19 ?_
  refine r_icmp_ge (pc := 20) (tgt := 71) (by decide) hG dX12_mostAlike_20 (fun h2 => ?_) (fun h2 => ?_)
  · exact r_sub [0, 1, 2, 3, 4, 5] rfl hG (w_Mo_mostAlike_J71 N hG hK5 v1 v2 v3 v4 v5)
  · refine r_iload (pc := 23) 5 rfl hG dX12_mostAlike_23 ?_
    refine r_iload_n (pc := 25) 1 1 rfl rfl hG dX12_mostAlike_25 ?_
    refine r_iload (pc := 26) 4 rfl hG dX12_mostAlike_26 ?_
    refine r_ishr (pc := 28) hG dX12_mostAlike_28 ?_
    refine r_iload_n (pc := 29) 1 1 rfl rfl hG dX12_mostAlike_29 ?_
    refine r_iload (pc := 30) 6 rfl hG dX12_mostAlike_30 ?_
    refine r_ishr (pc := 32) hG dX12_mostAlike_32 ?_
    refine r_iand (pc := 33) hG dX12_mostAlike_33 ?_
    refine r_iconst (pc := 34) (v := 1) (by decide) hG dX12_mostAlike_34 ?_
    refine r_iand (pc := 35) hG dX12_mostAlike_35 ?_
    refine r_iconst (pc := 36) (v := 1) (by decide) hG dX12_mostAlike_36 ?_
    refine r_icmp_ne (pc := 37) (tgt := 61) (by decide) hG dX12_mostAlike_37 (fun h5 => ?_) (fun h5 => ?_)
    · exact r_sub [0, 1, 2, 3, 4, 6] rfl hG (w_Mo_mostAlike_J61 N hG hK5 hK17 v1 v2 v3 v4 v6 v5)
    · refine r_aload_n (pc := 40) 0 0 rfl rfl hG dX12_mostAlike_40 ?_
      refine gf12_33 (pc := 41) lk1164 hG dX12_mostAlike_41 ?_
      refine r_iload (pc := 44) 4 rfl hG dX12_mostAlike_44 ?_
      refine r_ck hG (fun h8 => ?_)
      refine r_iald (pc := 46) (i := 132) (rfl : shp 132 = 14) rfl h8 hG dX12_mostAlike_46 ?_
      refine r_aload_n (pc := 47) 0 0 rfl rfl hG dX12_mostAlike_47 ?_
      refine gf12_33 (pc := 48) lk1164 hG dX12_mostAlike_48 ?_
      refine r_iload (pc := 51) 6 rfl hG dX12_mostAlike_51 ?_
      refine r_ck hG (fun h9 => ?_)
      refine r_iald (pc := 53) (i := 132) (rfl : shp 132 = 14) rfl h9 hG dX12_mostAlike_53 ?_
      refine r_icmp_ne (pc := 54) (tgt := 61) (by decide) hG dX12_mostAlike_54 (fun h10 => ?_) (fun h10 => ?_)
      · exact r_sub [0, 1, 2, 3, 4, 6] rfl hG (w_Mo_mostAlike_J61 N hG hK5 hK17 v1 v2 v3 v4 v6 v5)
      · refine r_iconst (pc := 57) (v := 1) (by decide) hG dX12_mostAlike_57 ?_
        refine r_goto (pc := 58) (tgt := 62) (by decide) hG dX12_mostAlike_58 ?_
        exact r_sub [0, 1, 2, 3, 4, 6] rfl hG (w_Mo_mostAlike_J62 N hG hK5 hK17 v1 v2 v3 v4 v6 v5 1)
set_option maxRecDepth 4000 in
theorem w_Mo_mostAlike_L17 {σ : St} {X : Cx} {G : GT Int32} (N : Nat) (hG : IsG X RX12 cX12_mostAlike 7 1 (some .int) (oI σ) G) {K5 : Int32 → Int32 → Int32 → Int32 → St → Option Int32} (hK5 : ∀ (v1 : Int32) (v2 : Int32) (v3 : Int32) (v4 : Int32), G (K5 v1 v2 v3 v4 σ) σ 5 [(0, .ref (X.2.1 + 114)), (1, .int v1), (2, .int v2), (3, .int v3), (4, .int v4)] []) : ∀ (n : Nat), ∀ (v1 : Int32) (v2 : Int32) (v3 : Int32) (v4 : Int32) (v5 : Int32) (v6 : Int32), G (Mo_mostAlike_L17 N K5 n v1 v2 v3 v4 v5 v6 σ) σ 17 [(0, .ref (X.2.1 + 114)), (1, .int v1), (2, .int v2), (3, .int v3), (4, .int v4), (5, .int v5), (6, .int v6)] [] := by
  intro n
  induction n with
  | zero => intro v1 v2 v3 v4 v5 v6; exact r_none hG
  | succ n ih => intro v1 v2 v3 v4 v5 v6; exact w_Mo_mostAlike_L17B N hG hK5 ih v1 v2 v3 v4 v5 v6
set_option maxRecDepth 4000 in
theorem w_Mo_mostAlike_L5B {σ : St} {X : Cx} {G : GT Int32} (N : Nat) (hG : IsG X RX12 cX12_mostAlike 7 1 (some .int) (oI σ) G) {K5 : Int32 → Int32 → Int32 → Int32 → St → Option Int32} (hK5 : ∀ (v1 : Int32) (v2 : Int32) (v3 : Int32) (v4 : Int32), G (K5 v1 v2 v3 v4 σ) σ 5 [(0, .ref (X.2.1 + 114)), (1, .int v1), (2, .int v2), (3, .int v3), (4, .int v4)] []) (v1 : Int32) (v2 : Int32) (v3 : Int32) (v4 : Int32) : G (Mo_mostAlike_L5B N K5 v1 v2 v3 v4 σ) σ 5 [(0, .ref (X.2.1 + 114)), (1, .int v1), (2, .int v2), (3, .int v3), (4, .int v4)] [] := by
  unfold Mo_mostAlike_L5B
  refine r_iload (pc := 5) 4 rfl hG dX12_mostAlike_5 ?_
  refine r_iload_n (pc := 7) 2 2 rfl rfl hG dX12_mostAlike_7 ?_
  refine r_icmp_ge (pc := 8) (tgt := 90) (by decide) hG dX12_mostAlike_8 (fun h1 => ?_) (fun h1 => ?_)
  · refine r_iload_n (pc := 90) 3 3 rfl rfl hG dX12_mostAlike_90 ?_
    exact r_iret (pc := 91) rfl hG dX12_mostAlike_91
  · refine r_iconst (pc := 11) (v := 0) (by decide) hG dX12_mostAlike_11 ?_
    refine r_istore (pc := 12) (lv' := [(5, .int 0), (0, .ref (X.2.1 + 114)), (1, .int v1), (2, .int v2), (3, .int v3), (4, .int v4)]) (by decide) rfl hG dX12_mostAlike_12 ?_
    refine r_iconst (pc := 14) (v := 0) (by decide) hG dX12_mostAlike_14 ?_
    refine r_istore (pc := 15) (lv' := [(6, .int 0), (5, .int 0), (0, .ref (X.2.1 + 114)), (1, .int v1), (2, .int v2), (3, .int v3), (4, .int v4)]) (by decide) rfl hG dX12_mostAlike_15 ?_
    exact r_sub [2, 3, 4, 5, 6, 1, 0] rfl hG (w_Mo_mostAlike_L17 N hG hK5 N v1 v2 v3 v4 0 0)
set_option maxRecDepth 4000 in
theorem w_Mo_mostAlike_L5 {σ : St} {X : Cx} {G : GT Int32} (N : Nat) (hG : IsG X RX12 cX12_mostAlike 7 1 (some .int) (oI σ) G) : ∀ (n : Nat), ∀ (v1 : Int32) (v2 : Int32) (v3 : Int32) (v4 : Int32), G (Mo_mostAlike_L5 N n v1 v2 v3 v4 σ) σ 5 [(0, .ref (X.2.1 + 114)), (1, .int v1), (2, .int v2), (3, .int v3), (4, .int v4)] [] := by
  intro n
  induction n with
  | zero => intro v1 v2 v3 v4; exact r_none hG
  | succ n ih => intro v1 v2 v3 v4; exact w_Mo_mostAlike_L5B N hG ih v1 v2 v3 v4
set_option maxRecDepth 4000 in
theorem c_Mo_mostAlike (X : Cx) (N : Nat) (v1 : Int32) (v2 : Int32) (σ : St) (r : Int32) (hE : Mo_mostAlike N v1 v2 σ = some r) : Ctr X yX12_mostAlike cX12_mostAlike 7 (some .int) 1 [.ref (X.2.1 + 114), .int v1, .int v2] σ (some (.int r)) σ := by
  refine Ctr.of (out := (oI σ)) (E := Mo_mostAlike N v1 v2 σ) rfl (Nat.le_of_ble_eq_true rfl) (fun G hG => ?_) r hE
  unfold Mo_mostAlike
  refine r_iconst (pc := 0) (v := 0) (by decide) hG dX12_mostAlike_0 ?_
  refine r_istore_n (pc := 1) (lv' := [(3, .int 0), (0, .ref (X.2.1 + 114)), (1, .int v1), (2, .int v2)]) 3 rfl (by decide) rfl hG dX12_mostAlike_1 ?_
  refine r_iconst (pc := 2) (v := 0) (by decide) hG dX12_mostAlike_2 ?_
  refine r_istore (pc := 3) (lv' := [(4, .int 0), (3, .int 0), (0, .ref (X.2.1 + 114)), (1, .int v1), (2, .int v2)]) (by decide) rfl hG dX12_mostAlike_3 ?_
  exact r_sub [2, 3, 4, 1, 0] rfl hG (w_Mo_mostAlike_L5 N hG N v1 v2 0 0)
set_option maxRecDepth 4000 in
theorem w_Mo_tell_J136 {X : Cx} {G : GT (Int32 × St)} (N : Nat) (hG : IsG X RX12 cX12_tell 8 3 (some .int) oWI G) {K30 : Int32 → Int32 → Int32 → Int32 → Int32 → St → Option (Int32 × St)} (hK30 : ∀ (v1 : Int32) (v2 : Int32) (v3 : Int32) (v4 : Int32) (v5 : Int32) (s : St), G (K30 v1 v2 v3 v4 v5 s) s 30 [(0, .ref (X.2.1 + 114)), (1, .int v1), (2, .int v2), (3, .int v3), (4, .int v4), (5, .int v5)] []) (v1 : Int32) (v2 : Int32) (v3 : Int32) (v4 : Int32) (v5 : Int32) (σ : St) : G (Mo_tell_J136 N K30 v1 v2 v3 v4 v5 σ) σ 136 [(0, .ref (X.2.1 + 114)), (1, .int v1), (2, .int v2), (3, .int v3), (4, .int v4), (5, .int v5)] [] := by
  unfold Mo_tell_J136
  refine r_bIinc (pc := 136) (lv' := fun x11 => [(5, .int x11), (0, .ref (X.2.1 + 114)), (1, .int v1), (2, .int v2), (3, .int v3), (4, .int v4)]) 5 rfl rfl (by decide) (fun _ => rfl) hG dX12_tell_136 (fun x11 => ?_)
  refine r_goto (pc := 139) (tgt := 30) (by decide) hG dX12_tell_139 ?_
  exact r_sub [1, 2, 3, 4, 5, 0] rfl hG (hK30 v1 v2 v3 v4 x11 σ)
set_option maxRecDepth 4000 in
theorem w_Mo_tell_J120 {X : Cx} {G : GT (Int32 × St)} (N : Nat) (hG : IsG X RX12 cX12_tell 8 3 (some .int) oWI G) {K30 : Int32 → Int32 → Int32 → Int32 → Int32 → St → Option (Int32 × St)} {K44 : Int32 → Int32 → Int32 → Int32 → Int32 → Int32 → St → Option (Int32 × St)} (hK30 : ∀ (v1 : Int32) (v2 : Int32) (v3 : Int32) (v4 : Int32) (v5 : Int32) (s : St), G (K30 v1 v2 v3 v4 v5 s) s 30 [(0, .ref (X.2.1 + 114)), (1, .int v1), (2, .int v2), (3, .int v3), (4, .int v4), (5, .int v5)] []) (hK44 : ∀ (v1 : Int32) (v2 : Int32) (v3 : Int32) (v4 : Int32) (v5 : Int32) (v6 : Int32) (s : St), G (K44 v1 v2 v3 v4 v5 v6 s) s 44 [(0, .ref (X.2.1 + 114)), (1, .int v1), (2, .int v2), (3, .int v3), (4, .int v4), (5, .int v5), (6, .int v6)] []) (v1 : Int32) (v2 : Int32) (v4 : Int32) (v5 : Int32) (v6 : Int32) (v7 : Int32) (w0 : Int32) (σ : St) : G (Mo_tell_J120 N K30 K44 v1 v2 v4 v5 v6 v7 w0 σ) σ 120 [(0, .ref (X.2.1 + 114)), (1, .int v1), (2, .int v2), (4, .int v4), (5, .int v5), (6, .int v6), (7, .int v7)] [.int w0] := by
  unfold Mo_tell_J120
  refine r_istore_n (pc := 120) (lv' := [(3, .int w0), (0, .ref (X.2.1 + 114)), (1, .int v1), (2, .int v2), (4, .int v4), (5, .int v5), (6, .int v6), (7, .int v7)]) 3 rfl (by decide) rfl hG dX12_tell_120 ?_
  refine r_iload (pc := 121) 4 rfl hG dX12_tell_121 ?_
  refine r_iload (pc := 123) 7 rfl hG dX12_tell_123 ?_
  refine r_callSi (pc := 125) (As := [.int v4, .int v7]) (c_Mo_less X v4 v7 σ) mfX12_75_X12_less hySX12_less (by decide) (by decide) rfl (Nat.le_of_ble_eq_true rfl) hG dX12_tell_125 rfl (fun n18 => ?_)
  refine r_bI hG (fun x20 => ?_)
  refine r_istore (pc := 128) (lv' := [(4, .int x20), (3, .int w0), (0, .ref (X.2.1 + 114)), (1, .int v1), (2, .int v2), (5, .int v5), (6, .int v6), (7, .int v7)]) (by decide) rfl hG dX12_tell_128 ?_
  refine r_bIinc (pc := 130) (lv' := fun x21 => [(6, .int x21), (4, .int x20), (3, .int w0), (0, .ref (X.2.1 + 114)), (1, .int v1), (2, .int v2), (5, .int v5), (7, .int v7)]) 6 rfl rfl (by decide) (fun _ => rfl) hG dX12_tell_130 (fun x21 => ?_)
  refine r_goto (pc := 133) (tgt := 44) (by decide) hG dX12_tell_133 ?_
  exact r_sub [3, 4, 5, 2, 1, 6, 0] rfl hG (hK44 v1 v2 w0 x20 v5 x21 σ)
set_option maxRecDepth 4000 in
theorem w_Mo_tell_J92 {X : Cx} {G : GT (Int32 × St)} (N : Nat) (hG : IsG X RX12 cX12_tell 8 3 (some .int) oWI G) {K30 : Int32 → Int32 → Int32 → Int32 → Int32 → St → Option (Int32 × St)} {K44 : Int32 → Int32 → Int32 → Int32 → Int32 → Int32 → St → Option (Int32 × St)} (hK30 : ∀ (v1 : Int32) (v2 : Int32) (v3 : Int32) (v4 : Int32) (v5 : Int32) (s : St), G (K30 v1 v2 v3 v4 v5 s) s 30 [(0, .ref (X.2.1 + 114)), (1, .int v1), (2, .int v2), (3, .int v3), (4, .int v4), (5, .int v5)] []) (hK44 : ∀ (v1 : Int32) (v2 : Int32) (v3 : Int32) (v4 : Int32) (v5 : Int32) (v6 : Int32) (s : St), G (K44 v1 v2 v3 v4 v5 v6 s) s 44 [(0, .ref (X.2.1 + 114)), (1, .int v1), (2, .int v2), (3, .int v3), (4, .int v4), (5, .int v5), (6, .int v6)] []) (v1 : Int32) (v2 : Int32) (v3 : Int32) (v4 : Int32) (v5 : Int32) (v6 : Int32) (σ : St) : G (Mo_tell_J92 N K30 K44 v1 v2 v3 v4 v5 v6 σ) σ 92 [(0, .ref (X.2.1 + 114)), (1, .int v1), (2, .int v2), (3, .int v3), (4, .int v4), (5, .int v5), (6, .int v6)] [] := by
  unfold Mo_tell_J92
  refine r_aload_n (pc := 92) 0 0 rfl rfl hG dX12_tell_92 ?_
  refine r_iload_n (pc := 93) 2 2 rfl rfl hG dX12_tell_93 ?_
  refine r_bipush (pc := 94) (v := 10) (by decide) hG dX12_tell_94 ?_
  refine r_bR hG (fun r13 e15 => ?_)
  refine r_callVi (pc := 96) (As := [.int v2, .int 10]) (c_Mo_mostAlike X N v2 10 σ r13 e15) (wsOf_at (rfl : shp 114 = 12) (by decide) rfl) rfl mfX12_264_X12_mostAlike hyVX12_mostAlike (by decide) (by decide) rfl (Nat.le_of_ble_eq_true rfl) hG dX12_tell_96 rfl (fun n14 => ?_)
  refine r_istore (pc := 99) (lv' := [(7, .int r13), (0, .ref (X.2.1 + 114)), (1, .int v1), (2, .int v2), (3, .int v3), (4, .int v4), (5, .int v5), (6, .int v6)]) (by decide) rfl hG dX12_tell_99 ?_
  refine r_iload (pc := 101) 0 rfl hG dX12_tell_101 ?_
  refine r_iload (pc := 103) 5 rfl hG dX12_tell_103 ?_
  refine r_icmp_ge (pc := 105) (tgt := 119) (by decide) hG dX12_tell_105 (fun h16 => ?_) (fun h16 => ?_)
  · refine r_iload_n (pc := 119) 4 3 rfl rfl hG dX12_tell_119 ?_
    exact r_sub [1, 2, 3, 5, 6, 7, 0] rfl hG (w_Mo_tell_J120 N hG hK30 hK44 v1 v2 v4 v5 v6 r13 v3 σ)
  · refine r_bipush (pc := 108) (v := 100) (by decide) hG dX12_tell_108 ?_
    refine r_iload (pc := 110) 6 rfl hG dX12_tell_110 ?_
    refine r_imul (pc := 112) hG dX12_tell_112 ?_
    refine r_iload (pc := 113) 7 rfl hG dX12_tell_113 ?_
    refine r_iadd (pc := 115) hG dX12_tell_115 ?_
    refine r_goto (pc := 116) (tgt := 120) (by decide) hG dX12_tell_116 ?_
    exact r_sub [1, 2, 3, 5, 6, 7, 0] rfl hG (w_Mo_tell_J120 N hG hK30 hK44 v1 v2 v4 v5 v6 r13 ((100 * v5) + v6) σ)
set_option maxRecDepth 4000 in
theorem w_Mo_tell_L54B {X : Cx} {G : GT (Int32 × St)} (N : Nat) (hG : IsG X RX12 cX12_tell 8 3 (some .int) oWI G) {K30 : Int32 → Int32 → Int32 → Int32 → Int32 → St → Option (Int32 × St)} {K44 : Int32 → Int32 → Int32 → Int32 → Int32 → Int32 → St → Option (Int32 × St)} {K54 : Int32 → Int32 → Int32 → Int32 → Int32 → Int32 → Int32 → St → Option (Int32 × St)} (hK30 : ∀ (v1 : Int32) (v2 : Int32) (v3 : Int32) (v4 : Int32) (v5 : Int32) (s : St), G (K30 v1 v2 v3 v4 v5 s) s 30 [(0, .ref (X.2.1 + 114)), (1, .int v1), (2, .int v2), (3, .int v3), (4, .int v4), (5, .int v5)] []) (hK44 : ∀ (v1 : Int32) (v2 : Int32) (v3 : Int32) (v4 : Int32) (v5 : Int32) (v6 : Int32) (s : St), G (K44 v1 v2 v3 v4 v5 v6 s) s 44 [(0, .ref (X.2.1 + 114)), (1, .int v1), (2, .int v2), (3, .int v3), (4, .int v4), (5, .int v5), (6, .int v6)] []) (hK54 : ∀ (v1 : Int32) (v2 : Int32) (v3 : Int32) (v4 : Int32) (v5 : Int32) (v6 : Int32) (v7 : Int32) (s : St), G (K54 v1 v2 v3 v4 v5 v6 v7 s) s 54 [(0, .ref (X.2.1 + 114)), (1, .int v1), (2, .int v2), (3, .int v3), (4, .int v4), (5, .int v5), (6, .int v6), (7, .int v7)] []) (v1 : Int32) (v2 : Int32) (v3 : Int32) (v4 : Int32) (v5 : Int32) (v6 : Int32) (v7 : Int32) (σ : St) : G (Mo_tell_L54B N K30 K44 K54 v1 v2 v3 v4 v5 v6 v7 σ) σ 54 [(0, .ref (X.2.1 + 114)), (1, .int v1), (2, .int v2), (3, .int v3), (4, .int v4), (5, .int v5), (6, .int v6), (7, .int v7)] [] := by
  unfold Mo_tell_L54B
  refine r_iload (pc := 54) 7 rfl hG dX12_tell_54 ?_
  refine r_bipush (pc := 56) (v := 10) (by decide) hG dX12_tell_56 ?_
  refine r_icmp_ge (pc := 58) (tgt := 92) (by decide) hG dX12_tell_58 (fun h12 => ?_) (fun h12 => ?_)
  · exact r_sub [0, 1, 2, 3, 4, 5, 6] rfl hG (w_Mo_tell_J92 N hG hK30 hK44 v1 v2 v3 v4 v5 v6 σ)
  · refine r_aload_n (pc := 61) 0 0 rfl rfl hG dX12_tell_61 ?_
    refine gf12_33 (pc := 62) lk1164 hG dX12_tell_62 ?_
    refine r_iload (pc := 65) 7 rfl hG dX12_tell_65 ?_
    refine r_aload_n (pc := 67) 0 0 rfl rfl hG dX12_tell_67 ?_
    refine gf12_0 (pc := 68) lk1131 hG dX12_tell_68 ?_
    refine r_bipush (pc := 71) (v := 38) (by decide) hG dX12_tell_71 ?_
    refine r_iload_n (pc := 73) 1 1 rfl rfl hG dX12_tell_73 ?_
    refine r_iadd (pc := 74) hG dX12_tell_74 ?_
    refine r_ck hG (fun h22 => ?_)
    refine r_iald (pc := 75) (i := 115) (rfl : shp 115 = 14) rfl h22 hG dX12_tell_75 ?_
    refine r_iload (pc := 76) 7 rfl hG dX12_tell_76 ?_
    refine r_iload (pc := 78) 5 rfl hG dX12_tell_78 ?_
    refine r_iload (pc := 80) 6 rfl hG dX12_tell_80 ?_
    refine r_callSi (pc := 82) (As := [.int (σ.1 115 ((38 + v1)).toNatClampNeg), .int v7, .int v5, .int v6]) (c_Mo_tells X (σ.1 115 ((38 + v1)).toNatClampNeg) v7 v5 v6 σ) mfX12_182_X12_tells hySX12_tells (by decide) (by decide) rfl (Nat.le_of_ble_eq_true rfl) hG dX12_tell_82 rfl (fun n24 => ?_)
    refine r_ck hG (fun h26 => ?_)
    refine r_iast (pc := 85) (i := 132) (rfl : shp 132 = 14) rfl h26 hG dX12_tell_85 ?_
    refine r_bS hG (fun s27 => ?_)
    refine r_bIinc (pc := 86) (lv' := fun x28 => [(7, .int x28), (0, .ref (X.2.1 + 114)), (1, .int v1), (2, .int v2), (3, .int v3), (4, .int v4), (5, .int v5), (6, .int v6)]) 7 rfl rfl (by decide) (fun _ => rfl) hG dX12_tell_86 (fun x28 => ?_)
    refine r_goto (pc := 89) (tgt := 54) (by decide) hG dX12_tell_89 ?_
    exact r_sub [1, 2, 3, 4, 5, 6, 7, 0] rfl hG (hK54 v1 v2 v3 v4 v5 v6 x28 s27)
set_option maxRecDepth 4000 in
theorem w_Mo_tell_L54 {X : Cx} {G : GT (Int32 × St)} (N : Nat) (hG : IsG X RX12 cX12_tell 8 3 (some .int) oWI G) {K30 : Int32 → Int32 → Int32 → Int32 → Int32 → St → Option (Int32 × St)} {K44 : Int32 → Int32 → Int32 → Int32 → Int32 → Int32 → St → Option (Int32 × St)} (hK30 : ∀ (v1 : Int32) (v2 : Int32) (v3 : Int32) (v4 : Int32) (v5 : Int32) (s : St), G (K30 v1 v2 v3 v4 v5 s) s 30 [(0, .ref (X.2.1 + 114)), (1, .int v1), (2, .int v2), (3, .int v3), (4, .int v4), (5, .int v5)] []) (hK44 : ∀ (v1 : Int32) (v2 : Int32) (v3 : Int32) (v4 : Int32) (v5 : Int32) (v6 : Int32) (s : St), G (K44 v1 v2 v3 v4 v5 v6 s) s 44 [(0, .ref (X.2.1 + 114)), (1, .int v1), (2, .int v2), (3, .int v3), (4, .int v4), (5, .int v5), (6, .int v6)] []) : ∀ (n : Nat), ∀ (v1 : Int32) (v2 : Int32) (v3 : Int32) (v4 : Int32) (v5 : Int32) (v6 : Int32) (v7 : Int32) (σ : St), G (Mo_tell_L54 N K30 K44 n v1 v2 v3 v4 v5 v6 v7 σ) σ 54 [(0, .ref (X.2.1 + 114)), (1, .int v1), (2, .int v2), (3, .int v3), (4, .int v4), (5, .int v5), (6, .int v6), (7, .int v7)] [] := by
  intro n
  induction n with
  | zero => intro v1 v2 v3 v4 v5 v6 v7 σ; exact r_none hG
  | succ n ih => intro v1 v2 v3 v4 v5 v6 v7 σ; exact w_Mo_tell_L54B N hG hK30 hK44 ih v1 v2 v3 v4 v5 v6 v7 σ
set_option maxRecDepth 4000 in
theorem w_Mo_tell_L44B {X : Cx} {G : GT (Int32 × St)} (N : Nat) (hG : IsG X RX12 cX12_tell 8 3 (some .int) oWI G) {K30 : Int32 → Int32 → Int32 → Int32 → Int32 → St → Option (Int32 × St)} {K44 : Int32 → Int32 → Int32 → Int32 → Int32 → Int32 → St → Option (Int32 × St)} (hK30 : ∀ (v1 : Int32) (v2 : Int32) (v3 : Int32) (v4 : Int32) (v5 : Int32) (s : St), G (K30 v1 v2 v3 v4 v5 s) s 30 [(0, .ref (X.2.1 + 114)), (1, .int v1), (2, .int v2), (3, .int v3), (4, .int v4), (5, .int v5)] []) (hK44 : ∀ (v1 : Int32) (v2 : Int32) (v3 : Int32) (v4 : Int32) (v5 : Int32) (v6 : Int32) (s : St), G (K44 v1 v2 v3 v4 v5 v6 s) s 44 [(0, .ref (X.2.1 + 114)), (1, .int v1), (2, .int v2), (3, .int v3), (4, .int v4), (5, .int v5), (6, .int v6)] []) (v1 : Int32) (v2 : Int32) (v3 : Int32) (v4 : Int32) (v5 : Int32) (v6 : Int32) (σ : St) : G (Mo_tell_L44B N K30 K44 v1 v2 v3 v4 v5 v6 σ) σ 44 [(0, .ref (X.2.1 + 114)), (1, .int v1), (2, .int v2), (3, .int v3), (4, .int v4), (5, .int v5), (6, .int v6)] [] := by
  unfold Mo_tell_L44B
  refine r_iload (pc := 44) 6 rfl hG dX12_tell_44 ?_
  refine r_bipush (pc := 46) (v := 31) (by decide) hG dX12_tell_46 ?_
  refine r_icmp_ge (pc := 48) (tgt := 136) (by decide) hG dX12_tell_48 (fun h10 => ?_) (fun h10 => ?_)
  · exact r_sub [0, 1, 2, 3, 4, 5] rfl hG (w_Mo_tell_J136 N hG hK30 v1 v2 v3 v4 v5 σ)
  · refine r_iconst (pc := 51) (v := 0) (by decide) hG dX12_tell_51 ?_
    refine r_istore (pc := 52) (lv' := [(7, .int 0), (0, .ref (X.2.1 + 114)), (1, .int v1), (2, .int v2), (3, .int v3), (4, .int v4), (5, .int v5), (6, .int v6)]) (by decide) rfl hG dX12_tell_52 ?_
    exact r_sub [1, 2, 3, 4, 5, 6, 7, 0] rfl hG (w_Mo_tell_L54 N hG hK30 hK44 N v1 v2 v3 v4 v5 v6 0 σ)
set_option maxRecDepth 4000 in
theorem w_Mo_tell_L44 {X : Cx} {G : GT (Int32 × St)} (N : Nat) (hG : IsG X RX12 cX12_tell 8 3 (some .int) oWI G) {K30 : Int32 → Int32 → Int32 → Int32 → Int32 → St → Option (Int32 × St)} (hK30 : ∀ (v1 : Int32) (v2 : Int32) (v3 : Int32) (v4 : Int32) (v5 : Int32) (s : St), G (K30 v1 v2 v3 v4 v5 s) s 30 [(0, .ref (X.2.1 + 114)), (1, .int v1), (2, .int v2), (3, .int v3), (4, .int v4), (5, .int v5)] []) : ∀ (n : Nat), ∀ (v1 : Int32) (v2 : Int32) (v3 : Int32) (v4 : Int32) (v5 : Int32) (v6 : Int32) (σ : St), G (Mo_tell_L44 N K30 n v1 v2 v3 v4 v5 v6 σ) σ 44 [(0, .ref (X.2.1 + 114)), (1, .int v1), (2, .int v2), (3, .int v3), (4, .int v4), (5, .int v5), (6, .int v6)] [] := by
  intro n
  induction n with
  | zero => intro v1 v2 v3 v4 v5 v6 σ; exact r_none hG
  | succ n ih => intro v1 v2 v3 v4 v5 v6 σ; exact w_Mo_tell_L44B N hG hK30 ih v1 v2 v3 v4 v5 v6 σ
set_option maxRecDepth 4000 in
theorem w_Mo_tell_L30B {X : Cx} {G : GT (Int32 × St)} (N : Nat) (hG : IsG X RX12 cX12_tell 8 3 (some .int) oWI G) {K30 : Int32 → Int32 → Int32 → Int32 → Int32 → St → Option (Int32 × St)} (hK30 : ∀ (v1 : Int32) (v2 : Int32) (v3 : Int32) (v4 : Int32) (v5 : Int32) (s : St), G (K30 v1 v2 v3 v4 v5 s) s 30 [(0, .ref (X.2.1 + 114)), (1, .int v1), (2, .int v2), (3, .int v3), (4, .int v4), (5, .int v5)] []) (v1 : Int32) (v2 : Int32) (v3 : Int32) (v4 : Int32) (v5 : Int32) (σ : St) : G (Mo_tell_L30B N K30 v1 v2 v3 v4 v5 σ) σ 30 [(0, .ref (X.2.1 + 114)), (1, .int v1), (2, .int v2), (3, .int v3), (4, .int v4), (5, .int v5)] [] := by
  unfold Mo_tell_L30B
  refine r_iload (pc := 30) 5 rfl hG dX12_tell_30 ?_
  refine r_bipush (pc := 32) (v := 10) (by decide) hG dX12_tell_32 ?_
  refine r_icmp_ge (pc := 34) (tgt := 142) (by decide) hG dX12_tell_34 (fun h8 => ?_) (fun h8 => ?_)
  · refine r_iload_n (pc := 142) 3 3 rfl rfl hG dX12_tell_142 ?_
    exact r_iret (pc := 143) rfl hG dX12_tell_143
  · refine r_iload_n (pc := 37) 2 2 rfl rfl hG dX12_tell_37 ?_
    refine r_if_eq (pc := 38) (tgt := 142) (by decide) hG dX12_tell_38 (fun h9 => ?_) (fun h9 => ?_)
    · refine r_iload_n (pc := 142) 3 3 rfl rfl hG dX12_tell_142 ?_
      exact r_iret (pc := 143) rfl hG dX12_tell_143
    · refine r_iconst (pc := 41) (v := 0) (by decide) hG dX12_tell_41 ?_
      refine r_istore (pc := 42) (lv' := [(6, .int 0), (0, .ref (X.2.1 + 114)), (1, .int v1), (2, .int v2), (3, .int v3), (4, .int v4), (5, .int v5)]) (by decide) rfl hG dX12_tell_42 ?_
      exact r_sub [1, 2, 3, 4, 5, 6, 0] rfl hG (w_Mo_tell_L44 N hG hK30 N v1 v2 v3 v4 v5 0 σ)
set_option maxRecDepth 4000 in
theorem w_Mo_tell_L30 {X : Cx} {G : GT (Int32 × St)} (N : Nat) (hG : IsG X RX12 cX12_tell 8 3 (some .int) oWI G) : ∀ (n : Nat), ∀ (v1 : Int32) (v2 : Int32) (v3 : Int32) (v4 : Int32) (v5 : Int32) (σ : St), G (Mo_tell_L30 N n v1 v2 v3 v4 v5 σ) σ 30 [(0, .ref (X.2.1 + 114)), (1, .int v1), (2, .int v2), (3, .int v3), (4, .int v4), (5, .int v5)] [] := by
  intro n
  induction n with
  | zero => intro v1 v2 v3 v4 v5 σ; exact r_none hG
  | succ n ih => intro v1 v2 v3 v4 v5 σ; exact w_Mo_tell_L30B N hG ih v1 v2 v3 v4 v5 σ
set_option maxRecDepth 4000 in
theorem c_Mo_tell (X : Cx) (N : Nat) (v1 : Int32) (σ : St) (r : Int32) (σ1 : St) (hE : Mo_tell N v1 σ = some (r, σ1)) : Ctr X yX12_tell cX12_tell 8 (some .int) 3 [.ref (X.2.1 + 114), .int v1] σ (some (.int r)) σ1 := by
  refine Ctr.of (out := oWI) (E := Mo_tell N v1 σ) rfl (Nat.le_of_ble_eq_true rfl) (fun G hG => ?_) (r, σ1) hE
  unfold Mo_tell
  refine r_aload_n (pc := 0) 0 0 rfl rfl hG dX12_tell_0 ?_
  refine r_iload_n (pc := 1) 1 1 rfl rfl hG dX12_tell_1 ?_
  refine r_bR hG (fun r1 e3 => ?_)
  refine r_callVi (pc := 2) (As := [.int v1]) (c_Mo_isRower X N v1 σ r1 e3) (wsOf_at (rfl : shp 114 = 12) (by decide) rfl) rfl mfX12_193_X12_isRower hyVX12_isRower (by decide) (by decide) rfl (Nat.le_of_ble_eq_true rfl) hG dX12_tell_2 rfl (fun n2 => ?_)
  refine r_if_ne (pc := 5) (tgt := 15) (by decide) hG dX12_tell_5 (fun h4 => ?_) (fun h4 => ?_)
  · refine r_aload_n (pc := 15) 0 0 rfl rfl hG dX12_tell_15 ?_
    refine r_iload_n (pc := 16) 1 1 rfl rfl hG dX12_tell_16 ?_
    refine r_bR hG (fun r5 e7 => ?_)
    refine r_callVi (pc := 17) (As := [.int v1]) (c_Mo_tonguesOf X N v1 σ r5 e7) (wsOf_at (rfl : shp 114 = 12) (by decide) rfl) rfl mfX12_261_X12_tonguesOf hyVX12_tonguesOf (by decide) (by decide) rfl (Nat.le_of_ble_eq_true rfl) hG dX12_tell_17 rfl (fun n6 => ?_)
    refine r_istore_n (pc := 20) (lv' := [(2, .int r5), (0, .ref (X.2.1 + 114)), (1, .int v1)]) 2 rfl (by decide) rfl hG dX12_tell_20 ?_
    refine r_iconst (pc := 21) (v := (-1)) (by decide) hG dX12_tell_21 ?_
    refine r_istore_n (pc := 22) (lv' := [(3, .int (-1)), (2, .int r5), (0, .ref (X.2.1 + 114)), (1, .int v1)]) 3 rfl (by decide) rfl hG dX12_tell_22 ?_
    refine r_bipush (pc := 23) (v := 99) (by decide) hG dX12_tell_23 ?_
    refine r_istore (pc := 25) (lv' := [(4, .int 99), (3, .int (-1)), (2, .int r5), (0, .ref (X.2.1 + 114)), (1, .int v1)]) (by decide) rfl hG dX12_tell_25 ?_
    refine r_iconst (pc := 27) (v := 0) (by decide) hG dX12_tell_27 ?_
    refine r_istore (pc := 28) (lv' := [(5, .int 0), (4, .int 99), (3, .int (-1)), (2, .int r5), (0, .ref (X.2.1 + 114)), (1, .int v1)]) (by decide) rfl hG dX12_tell_28 ?_
    exact r_sub [4, 5, 3, 2, 1, 0] rfl hG (w_Mo_tell_L30 N hG N v1 r5 (-1) 99 0 σ)
  · refine r_aload_n (pc := 8) 0 0 rfl rfl hG dX12_tell_8 ?_
    refine r_bipush (pc := 9) (v := (-2)) (by decide) hG dX12_tell_9 ?_
    refine r_bW hG (fun r29 s30 e32 => ?_)
    refine r_callVi (pc := 11) (As := [.int (-2)]) (c_Mo_bad X N (-2) σ r29 s30 e32) (wsOf_at (rfl : shp 114 = 12) (by decide) rfl) rfl mfX12_84_X12_bad hyVX12_bad (by decide) (by decide) rfl (Nat.le_of_ble_eq_true rfl) hG dX12_tell_11 rfl (fun n31 => ?_)
    exact r_iret (pc := 14) rfl hG dX12_tell_14
set_option maxRecDepth 4000 in
theorem w_Mo_note_J70 {X : Cx} {G : GT (Int32 × St)} (N : Nat) (hG : IsG X RX12 cX12_note 8 3 (some .int) oWI G) (σ : St) : G (Mo_note_J70 N σ) σ 70 [(0, .ref (X.2.1 + 114))] [] := by
  unfold Mo_note_J70
  refine r_aload_n (pc := 70) 0 0 rfl rfl hG dX12_note_70 ?_
  refine r_bipush (pc := 71) (v := (-2)) (by decide) hG dX12_note_71 ?_
  refine r_bW hG (fun r5 s6 e8 => ?_)
  refine r_callVi (pc := 73) (As := [.int (-2)]) (c_Mo_bad X N (-2) σ r5 s6 e8) (wsOf_at (rfl : shp 114 = 12) (by decide) rfl) rfl mfX12_84_X12_bad hyVX12_bad (by decide) (by decide) rfl (Nat.le_of_ble_eq_true rfl) hG dX12_note_73 rfl (fun n7 => ?_)
  exact r_iret (pc := 76) rfl hG dX12_note_76
set_option maxRecDepth 4000 in
theorem c_Mo_note (X : Cx) (N : Nat) (v1 : Int32) (v2 : Int32) (v3 : Int32) (v4 : Int32) (v5 : Int32) (v6 : Int32) (σ : St) (r : Int32) (σ1 : St) (hE : Mo_note N v1 v2 v3 v4 v5 v6 σ = some (r, σ1)) : Ctr X yX12_note cX12_note 8 (some .int) 3 [.ref (X.2.1 + 114), .int v1, .int v2, .int v3, .int v4, .int v5, .int v6] σ (some (.int r)) σ1 := by
  refine Ctr.of (out := oWI) (E := Mo_note N v1 v2 v3 v4 v5 v6 σ) rfl (Nat.le_of_ble_eq_true rfl) (fun G hG => ?_) (r, σ1) hE
  unfold Mo_note
  refine r_aload_n (pc := 0) 0 0 rfl rfl hG dX12_note_0 ?_
  refine r_iload_n (pc := 1) 1 1 rfl rfl hG dX12_note_1 ?_
  refine r_bR hG (fun r1 e3 => ?_)
  refine r_callVi (pc := 2) (As := [.int v1]) (c_Mo_isGuest X N v1 σ r1 e3) (wsOf_at (rfl : shp 114 = 12) (by decide) rfl) rfl mfX12_190_X12_isGuest hyVX12_isGuest (by decide) (by decide) rfl (Nat.le_of_ble_eq_true rfl) hG dX12_note_2 rfl (fun n2 => ?_)
  refine r_if_eq (pc := 5) (tgt := 70) (by decide) hG dX12_note_5 (fun h4 => ?_) (fun h4 => ?_)
  · exact r_sub [0] rfl hG (w_Mo_note_J70 N hG σ)
  · refine r_iload_n (pc := 8) 2 2 rfl rfl hG dX12_note_8 ?_
    refine r_i2l (pc := 9) hG dX12_note_9 ?_
    refine r_lconst (pc := 10) (v := 1) (by decide) hG dX12_note_10 ?_
    refine r_ldc2 (pc := 11) (v := 40) lk1289 hG dX12_note_11 ?_
    refine r_callSi (pc := 14) (As := [.long ((v2).toInt64), .long 1, .long 40]) (c_Mo_in X ((v2).toInt64) 1 40 σ) mfX12_69_X12_in hySX12_in (by decide) (by decide) rfl (Nat.le_of_ble_eq_true rfl) hG dX12_note_14 rfl (fun n10 => ?_)
    refine r_if_eq (pc := 17) (tgt := 70) (by decide) hG dX12_note_17 (fun h12 => ?_) (fun h12 => ?_)
    · exact r_sub [0] rfl hG (w_Mo_note_J70 N hG σ)
    · refine r_iload_n (pc := 20) 3 3 rfl rfl hG dX12_note_20 ?_
      refine r_i2l (pc := 21) hG dX12_note_21 ?_
      refine r_lconst (pc := 22) (v := 0) (by decide) hG dX12_note_22 ?_
      refine r_iload_n (pc := 23) 2 2 rfl rfl hG dX12_note_23 ?_
      refine r_i2l (pc := 24) hG dX12_note_24 ?_
      refine r_callSi (pc := 25) (As := [.long ((v3).toInt64), .long 0, .long ((v2).toInt64)]) (c_Mo_in X ((v3).toInt64) 0 ((v2).toInt64) σ) mfX12_69_X12_in hySX12_in (by decide) (by decide) rfl (Nat.le_of_ble_eq_true rfl) hG dX12_note_25 rfl (fun n14 => ?_)
      refine r_if_eq (pc := 28) (tgt := 70) (by decide) hG dX12_note_28 (fun h16 => ?_) (fun h16 => ?_)
      · exact r_sub [0] rfl hG (w_Mo_note_J70 N hG σ)
      · refine r_iload (pc := 31) 4 rfl hG dX12_note_31 ?_
        refine r_i2l (pc := 33) hG dX12_note_33 ?_
        refine r_lconst (pc := 34) (v := 0) (by decide) hG dX12_note_34 ?_
        refine r_ldc2 (pc := 35) (v := 20) lk1493 hG dX12_note_35 ?_
        refine r_callSi (pc := 38) (As := [.long ((v4).toInt64), .long 0, .long 20]) (c_Mo_in X ((v4).toInt64) 0 20 σ) mfX12_69_X12_in hySX12_in (by decide) (by decide) rfl (Nat.le_of_ble_eq_true rfl) hG dX12_note_38 rfl (fun n18 => ?_)
        refine r_if_eq (pc := 41) (tgt := 70) (by decide) hG dX12_note_41 (fun h20 => ?_) (fun h20 => ?_)
        · exact r_sub [0] rfl hG (w_Mo_note_J70 N hG σ)
        · refine r_iload (pc := 44) 5 rfl hG dX12_note_44 ?_
          refine r_i2l (pc := 46) hG dX12_note_46 ?_
          refine r_lconst (pc := 47) (v := 0) (by decide) hG dX12_note_47 ?_
          refine r_ldc2 (pc := 48) (v := 9) lk1238 hG dX12_note_48 ?_
          refine r_callSi (pc := 51) (As := [.long ((v5).toInt64), .long 0, .long 9]) (c_Mo_in X ((v5).toInt64) 0 9 σ) mfX12_69_X12_in hySX12_in (by decide) (by decide) rfl (Nat.le_of_ble_eq_true rfl) hG dX12_note_51 rfl (fun n22 => ?_)
          refine r_if_eq (pc := 54) (tgt := 70) (by decide) hG dX12_note_54 (fun h24 => ?_) (fun h24 => ?_)
          · exact r_sub [0] rfl hG (w_Mo_note_J70 N hG σ)
          · refine r_iload (pc := 57) 6 rfl hG dX12_note_57 ?_
            refine r_i2l (pc := 59) hG dX12_note_59 ?_
            refine r_lconst (pc := 60) (v := 0) (by decide) hG dX12_note_60 ?_
            refine r_ldc2 (pc := 61) (v := 60) lk1494 hG dX12_note_61 ?_
            refine r_callSi (pc := 64) (As := [.long ((v6).toInt64), .long 0, .long 60]) (c_Mo_in X ((v6).toInt64) 0 60 σ) mfX12_69_X12_in hySX12_in (by decide) (by decide) rfl (Nat.le_of_ble_eq_true rfl) hG dX12_note_64 rfl (fun n26 => ?_)
            refine r_if_ne (pc := 67) (tgt := 77) (by decide) hG dX12_note_67 (fun h28 => ?_) (fun h28 => ?_)
            · refine r_aload_n (pc := 77) 0 0 rfl rfl hG dX12_note_77 ?_
              refine gf12_0 (pc := 78) lk1131 hG dX12_note_78 ?_
              refine r_bipush (pc := 81) (v := 89) (by decide) hG dX12_note_81 ?_
              refine r_iald (pc := 83) (i := 115) (rfl : shp 115 = 14) rfl (by decide) hG dX12_note_83 ?_
              refine r_bipush (pc := 84) (v := 6) (by decide) hG dX12_note_84 ?_
              refine r_icmp_ne (pc := 86) (tgt := 94) (by decide) hG dX12_note_86 (fun h29 => ?_) (fun h29 => ?_)
              · refine r_bipush (pc := 94) (v := 90) (by decide) hG dX12_note_94 ?_
                refine r_bipush (pc := 96) (v := 6) (by decide) hG dX12_note_96 ?_
                refine r_aload_n (pc := 98) 0 0 rfl rfl hG dX12_note_98 ?_
                refine gf12_0 (pc := 99) lk1131 hG dX12_note_99 ?_
                refine r_bipush (pc := 102) (v := 89) (by decide) hG dX12_note_102 ?_
                refine r_iald (pc := 104) (i := 115) (rfl : shp 115 = 14) rfl (by decide) hG dX12_note_104 ?_
                refine r_imul (pc := 105) hG dX12_note_105 ?_
                refine r_iadd (pc := 106) hG dX12_note_106 ?_
                refine r_bI hG (fun x30 => ?_)
                refine r_istore (pc := 107) (lv' := [(7, .int x30), (0, .ref (X.2.1 + 114)), (1, .int v1), (2, .int v2), (3, .int v3), (4, .int v4), (5, .int v5), (6, .int v6)]) (by decide) rfl hG dX12_note_107 ?_
                refine r_aload_n (pc := 109) 1 0 rfl rfl hG dX12_note_109 ?_
                refine gf12_0 (pc := 110) lk1131 hG dX12_note_110 ?_
                refine r_iload (pc := 113) 0 rfl hG dX12_note_113 ?_
                refine r_iload_n (pc := 115) 2 1 rfl rfl hG dX12_note_115 ?_
                refine r_ck hG (fun h31 => ?_)
                refine r_iast (pc := 116) (i := 115) (rfl : shp 115 = 14) rfl h31 hG dX12_note_116 ?_
                refine r_bS hG (fun s32 => ?_)
                refine r_aload_n (pc := 117) 1 0 rfl rfl hG dX12_note_117 ?_
                refine gf12_0 (pc := 118) lk1131 hG dX12_note_118 ?_
                refine r_iload (pc := 121) 0 rfl hG dX12_note_121 ?_
                refine r_iconst (pc := 123) (v := 1) (by decide) hG dX12_note_123 ?_
                refine r_iadd (pc := 124) hG dX12_note_124 ?_
                refine r_iload_n (pc := 125) 3 2 rfl rfl hG dX12_note_125 ?_
                refine r_ck hG (fun h33 => ?_)
                refine r_iast (pc := 126) (i := 115) (rfl : shp 115 = 14) rfl h33 hG dX12_note_126 ?_
                refine r_bS hG (fun s34 => ?_)
                refine r_aload_n (pc := 127) 1 0 rfl rfl hG dX12_note_127 ?_
                refine gf12_0 (pc := 128) lk1131 hG dX12_note_128 ?_
                refine r_iload (pc := 131) 0 rfl hG dX12_note_131 ?_
                refine r_iconst (pc := 133) (v := 2) (by decide) hG dX12_note_133 ?_
                refine r_iadd (pc := 134) hG dX12_note_134 ?_
                refine r_iload_n (pc := 135) 4 3 rfl rfl hG dX12_note_135 ?_
                refine r_ck hG (fun h35 => ?_)
                refine r_iast (pc := 136) (i := 115) (rfl : shp 115 = 14) rfl h35 hG dX12_note_136 ?_
                refine r_bS hG (fun s36 => ?_)
                refine r_aload_n (pc := 137) 1 0 rfl rfl hG dX12_note_137 ?_
                refine gf12_0 (pc := 138) lk1131 hG dX12_note_138 ?_
                refine r_iload (pc := 141) 0 rfl hG dX12_note_141 ?_
                refine r_iconst (pc := 143) (v := 3) (by decide) hG dX12_note_143 ?_
                refine r_iadd (pc := 144) hG dX12_note_144 ?_
                refine r_iload (pc := 145) 5 rfl hG dX12_note_145 ?_
                refine r_ck hG (fun h37 => ?_)
                refine r_iast (pc := 147) (i := 115) (rfl : shp 115 = 14) rfl h37 hG dX12_note_147 ?_
                refine r_bS hG (fun s38 => ?_)
                refine r_aload_n (pc := 148) 1 0 rfl rfl hG dX12_note_148 ?_
                refine gf12_0 (pc := 149) lk1131 hG dX12_note_149 ?_
                refine r_iload (pc := 152) 0 rfl hG dX12_note_152 ?_
                refine r_iconst (pc := 154) (v := 4) (by decide) hG dX12_note_154 ?_
                refine r_iadd (pc := 155) hG dX12_note_155 ?_
                refine r_iload (pc := 156) 6 rfl hG dX12_note_156 ?_
                refine r_ck hG (fun h39 => ?_)
                refine r_iast (pc := 158) (i := 115) (rfl : shp 115 = 14) rfl h39 hG dX12_note_158 ?_
                refine r_bS hG (fun s40 => ?_)
                refine r_aload_n (pc := 159) 1 0 rfl rfl hG dX12_note_159 ?_
                refine gf12_0 (pc := 160) lk1131 hG dX12_note_160 ?_
                refine r_iload (pc := 163) 0 rfl hG dX12_note_163 ?_
                refine r_iconst (pc := 165) (v := 5) (by decide) hG dX12_note_165 ?_
                refine r_iadd (pc := 166) hG dX12_note_166 ?_
                refine r_iload (pc := 167) 7 rfl hG dX12_note_167 ?_
                refine r_ck hG (fun h41 => ?_)
                refine r_iast (pc := 169) (i := 115) (rfl : shp 115 = 14) rfl h41 hG dX12_note_169 ?_
                refine r_bS hG (fun s42 => ?_)
                refine r_aload_n (pc := 170) 1 0 rfl rfl hG dX12_note_170 ?_
                refine gf12_0 (pc := 171) lk1131 hG dX12_note_171 ?_
                refine r_bipush (pc := 174) (v := 89) (by decide) hG dX12_note_174 ?_
                refine r_dup2 (pc := 176) rfl rfl hG dX12_note_176 ?_
                refine r_iald (pc := 177) (i := 115) (rfl : shp 115 = 14) rfl (by decide) hG dX12_note_177 ?_
                refine r_iconst (pc := 178) (v := 1) (by decide) hG dX12_note_178 ?_
                refine r_iadd (pc := 179) hG dX12_note_179 ?_
                refine r_iast (pc := 180) (i := 115) (rfl : shp 115 = 14) rfl (by decide) hG dX12_note_180 ?_
                refine r_bS hG (fun s43 => ?_)
                refine r_aload_n (pc := 181) 1 0 rfl rfl hG dX12_note_181 ?_
                refine gf12_0 (pc := 182) lk1131 hG dX12_note_182 ?_
                refine r_bipush (pc := 185) (v := 89) (by decide) hG dX12_note_185 ?_
                refine r_iald (pc := 187) (i := 115) (rfl : shp 115 = 14) rfl (by decide) hG dX12_note_187 ?_
                exact r_iret (pc := 188) rfl hG dX12_note_188
              · refine r_aload_n (pc := 89) 0 0 rfl rfl hG dX12_note_89 ?_
                refine r_bW hG (fun r44 s45 e47 => ?_)
                refine r_callVi (pc := 90) (As := []) (c_Mo_full X N σ r44 s45 e47) (wsOf_at (rfl : shp 114 = 12) (by decide) rfl) rfl mfX12_101_X12_full hyVX12_full (by decide) (by decide) rfl (Nat.le_of_ble_eq_true rfl) hG dX12_note_90 rfl (fun n46 => ?_)
                exact r_iret (pc := 93) rfl hG dX12_note_93
            · exact r_sub [0] rfl hG (w_Mo_note_J70 N hG σ)
set_option maxRecDepth 4000 in
theorem w_Mo_mark_J58 {X : Cx} {G : GT (Int32 × St)} (N : Nat) (hG : IsG X RX12 cX12_mark 7 3 (some .int) oWI G) (σ : St) : G (Mo_mark_J58 N σ) σ 58 [(0, .ref (X.2.1 + 114))] [] := by
  unfold Mo_mark_J58
  refine r_aload_n (pc := 58) 0 0 rfl rfl hG dX12_mark_58 ?_
  refine r_bipush (pc := 59) (v := (-2)) (by decide) hG dX12_mark_59 ?_
  refine r_bW hG (fun r5 s6 e8 => ?_)
  refine r_callVi (pc := 61) (As := [.int (-2)]) (c_Mo_bad X N (-2) σ r5 s6 e8) (wsOf_at (rfl : shp 114 = 12) (by decide) rfl) rfl mfX12_84_X12_bad hyVX12_bad (by decide) (by decide) rfl (Nat.le_of_ble_eq_true rfl) hG dX12_mark_61 rfl (fun n7 => ?_)
  exact r_iret (pc := 64) rfl hG dX12_mark_64
set_option maxRecDepth 4000 in
theorem c_Mo_mark (X : Cx) (N : Nat) (v1 : Int32) (v2 : Int32) (v3 : Int32) (v4 : Int32) (v5 : Int32) (σ : St) (r : Int32) (σ1 : St) (hE : Mo_mark N v1 v2 v3 v4 v5 σ = some (r, σ1)) : Ctr X yX12_mark cX12_mark 7 (some .int) 3 [.ref (X.2.1 + 114), .int v1, .int v2, .int v3, .int v4, .int v5] σ (some (.int r)) σ1 := by
  refine Ctr.of (out := oWI) (E := Mo_mark N v1 v2 v3 v4 v5 σ) rfl (Nat.le_of_ble_eq_true rfl) (fun G hG => ?_) (r, σ1) hE
  unfold Mo_mark
  refine r_aload_n (pc := 0) 0 0 rfl rfl hG dX12_mark_0 ?_
  refine r_iload_n (pc := 1) 1 1 rfl rfl hG dX12_mark_1 ?_
  refine r_bR hG (fun r1 e3 => ?_)
  refine r_callVi (pc := 2) (As := [.int v1]) (c_Mo_isRower X N v1 σ r1 e3) (wsOf_at (rfl : shp 114 = 12) (by decide) rfl) rfl mfX12_193_X12_isRower hyVX12_isRower (by decide) (by decide) rfl (Nat.le_of_ble_eq_true rfl) hG dX12_mark_2 rfl (fun n2 => ?_)
  refine r_if_eq (pc := 5) (tgt := 58) (by decide) hG dX12_mark_5 (fun h4 => ?_) (fun h4 => ?_)
  · exact r_sub [0] rfl hG (w_Mo_mark_J58 N hG σ)
  · refine r_iload_n (pc := 8) 2 2 rfl rfl hG dX12_mark_8 ?_
    refine r_i2l (pc := 9) hG dX12_mark_9 ?_
    refine r_lconst (pc := 10) (v := 0) (by decide) hG dX12_mark_10 ?_
    refine r_ldc2 (pc := 11) (v := 9) lk1238 hG dX12_mark_11 ?_
    refine r_callSi (pc := 14) (As := [.long ((v2).toInt64), .long 0, .long 9]) (c_Mo_in X ((v2).toInt64) 0 9 σ) mfX12_69_X12_in hySX12_in (by decide) (by decide) rfl (Nat.le_of_ble_eq_true rfl) hG dX12_mark_14 rfl (fun n10 => ?_)
    refine r_if_eq (pc := 17) (tgt := 58) (by decide) hG dX12_mark_17 (fun h12 => ?_) (fun h12 => ?_)
    · exact r_sub [0] rfl hG (w_Mo_mark_J58 N hG σ)
    · refine r_iload_n (pc := 20) 3 3 rfl rfl hG dX12_mark_20 ?_
      refine r_i2l (pc := 21) hG dX12_mark_21 ?_
      refine r_lconst (pc := 22) (v := 0) (by decide) hG dX12_mark_22 ?_
      refine r_ldc2 (pc := 23) (v := 9) lk1238 hG dX12_mark_23 ?_
      refine r_callSi (pc := 26) (As := [.long ((v3).toInt64), .long 0, .long 9]) (c_Mo_in X ((v3).toInt64) 0 9 σ) mfX12_69_X12_in hySX12_in (by decide) (by decide) rfl (Nat.le_of_ble_eq_true rfl) hG dX12_mark_26 rfl (fun n14 => ?_)
      refine r_if_eq (pc := 29) (tgt := 58) (by decide) hG dX12_mark_29 (fun h16 => ?_) (fun h16 => ?_)
      · exact r_sub [0] rfl hG (w_Mo_mark_J58 N hG σ)
      · refine r_iload (pc := 32) 4 rfl hG dX12_mark_32 ?_
        refine r_i2l (pc := 34) hG dX12_mark_34 ?_
        refine r_lconst (pc := 35) (v := 0) (by decide) hG dX12_mark_35 ?_
        refine r_ldc2 (pc := 36) (v := 99) lk1472 hG dX12_mark_36 ?_
        refine r_callSi (pc := 39) (As := [.long ((v4).toInt64), .long 0, .long 99]) (c_Mo_in X ((v4).toInt64) 0 99 σ) mfX12_69_X12_in hySX12_in (by decide) (by decide) rfl (Nat.le_of_ble_eq_true rfl) hG dX12_mark_39 rfl (fun n18 => ?_)
        refine r_if_eq (pc := 42) (tgt := 58) (by decide) hG dX12_mark_42 (fun h20 => ?_) (fun h20 => ?_)
        · exact r_sub [0] rfl hG (w_Mo_mark_J58 N hG σ)
        · refine r_iload (pc := 45) 5 rfl hG dX12_mark_45 ?_
          refine r_i2l (pc := 47) hG dX12_mark_47 ?_
          refine r_lconst (pc := 48) (v := 0) (by decide) hG dX12_mark_48 ?_
          refine r_ldc2 (pc := 49) (v := 99) lk1472 hG dX12_mark_49 ?_
          refine r_callSi (pc := 52) (As := [.long ((v5).toInt64), .long 0, .long 99]) (c_Mo_in X ((v5).toInt64) 0 99 σ) mfX12_69_X12_in hySX12_in (by decide) (by decide) rfl (Nat.le_of_ble_eq_true rfl) hG dX12_mark_52 rfl (fun n22 => ?_)
          refine r_if_ne (pc := 55) (tgt := 65) (by decide) hG dX12_mark_55 (fun h24 => ?_) (fun h24 => ?_)
          · refine r_aload_n (pc := 65) 0 0 rfl rfl hG dX12_mark_65 ?_
            refine gf12_0 (pc := 66) lk1131 hG dX12_mark_66 ?_
            refine r_bipush (pc := 69) (v := 126) (by decide) hG dX12_mark_69 ?_
            refine r_iald (pc := 71) (i := 115) (rfl : shp 115 = 14) rfl (by decide) hG dX12_mark_71 ?_
            refine r_bipush (pc := 72) (v := 6) (by decide) hG dX12_mark_72 ?_
            refine r_icmp_ne (pc := 74) (tgt := 82) (by decide) hG dX12_mark_74 (fun h25 => ?_) (fun h25 => ?_)
            · refine r_bipush (pc := 82) (v := 127) (by decide) hG dX12_mark_82 ?_
              refine r_iconst (pc := 84) (v := 5) (by decide) hG dX12_mark_84 ?_
              refine r_aload_n (pc := 85) 0 0 rfl rfl hG dX12_mark_85 ?_
              refine gf12_0 (pc := 86) lk1131 hG dX12_mark_86 ?_
              refine r_bipush (pc := 89) (v := 126) (by decide) hG dX12_mark_89 ?_
              refine r_iald (pc := 91) (i := 115) (rfl : shp 115 = 14) rfl (by decide) hG dX12_mark_91 ?_
              refine r_imul (pc := 92) hG dX12_mark_92 ?_
              refine r_iadd (pc := 93) hG dX12_mark_93 ?_
              refine r_bI hG (fun x26 => ?_)
              refine r_istore (pc := 94) (lv' := [(6, .int x26), (0, .ref (X.2.1 + 114)), (1, .int v1), (2, .int v2), (3, .int v3), (4, .int v4), (5, .int v5)]) (by decide) rfl hG dX12_mark_94 ?_
              refine r_aload_n (pc := 96) 1 0 rfl rfl hG dX12_mark_96 ?_
              refine gf12_0 (pc := 97) lk1131 hG dX12_mark_97 ?_
              refine r_iload (pc := 100) 0 rfl hG dX12_mark_100 ?_
              refine r_iload_n (pc := 102) 2 1 rfl rfl hG dX12_mark_102 ?_
              refine r_ck hG (fun h27 => ?_)
              refine r_iast (pc := 103) (i := 115) (rfl : shp 115 = 14) rfl h27 hG dX12_mark_103 ?_
              refine r_bS hG (fun s28 => ?_)
              refine r_aload_n (pc := 104) 1 0 rfl rfl hG dX12_mark_104 ?_
              refine gf12_0 (pc := 105) lk1131 hG dX12_mark_105 ?_
              refine r_iload (pc := 108) 0 rfl hG dX12_mark_108 ?_
              refine r_iconst (pc := 110) (v := 1) (by decide) hG dX12_mark_110 ?_
              refine r_iadd (pc := 111) hG dX12_mark_111 ?_
              refine r_iload_n (pc := 112) 3 2 rfl rfl hG dX12_mark_112 ?_
              refine r_ck hG (fun h29 => ?_)
              refine r_iast (pc := 113) (i := 115) (rfl : shp 115 = 14) rfl h29 hG dX12_mark_113 ?_
              refine r_bS hG (fun s30 => ?_)
              refine r_aload_n (pc := 114) 1 0 rfl rfl hG dX12_mark_114 ?_
              refine gf12_0 (pc := 115) lk1131 hG dX12_mark_115 ?_
              refine r_iload (pc := 118) 0 rfl hG dX12_mark_118 ?_
              refine r_iconst (pc := 120) (v := 2) (by decide) hG dX12_mark_120 ?_
              refine r_iadd (pc := 121) hG dX12_mark_121 ?_
              refine r_iload_n (pc := 122) 4 3 rfl rfl hG dX12_mark_122 ?_
              refine r_ck hG (fun h31 => ?_)
              refine r_iast (pc := 123) (i := 115) (rfl : shp 115 = 14) rfl h31 hG dX12_mark_123 ?_
              refine r_bS hG (fun s32 => ?_)
              refine r_aload_n (pc := 124) 1 0 rfl rfl hG dX12_mark_124 ?_
              refine gf12_0 (pc := 125) lk1131 hG dX12_mark_125 ?_
              refine r_iload (pc := 128) 0 rfl hG dX12_mark_128 ?_
              refine r_iconst (pc := 130) (v := 3) (by decide) hG dX12_mark_130 ?_
              refine r_iadd (pc := 131) hG dX12_mark_131 ?_
              refine r_iload (pc := 132) 5 rfl hG dX12_mark_132 ?_
              refine r_ck hG (fun h33 => ?_)
              refine r_iast (pc := 134) (i := 115) (rfl : shp 115 = 14) rfl h33 hG dX12_mark_134 ?_
              refine r_bS hG (fun s34 => ?_)
              refine r_aload_n (pc := 135) 1 0 rfl rfl hG dX12_mark_135 ?_
              refine gf12_0 (pc := 136) lk1131 hG dX12_mark_136 ?_
              refine r_iload (pc := 139) 0 rfl hG dX12_mark_139 ?_
              refine r_iconst (pc := 141) (v := 4) (by decide) hG dX12_mark_141 ?_
              refine r_iadd (pc := 142) hG dX12_mark_142 ?_
              refine r_iload (pc := 143) 6 rfl hG dX12_mark_143 ?_
              refine r_ck hG (fun h35 => ?_)
              refine r_iast (pc := 145) (i := 115) (rfl : shp 115 = 14) rfl h35 hG dX12_mark_145 ?_
              refine r_bS hG (fun s36 => ?_)
              refine r_aload_n (pc := 146) 1 0 rfl rfl hG dX12_mark_146 ?_
              refine gf12_0 (pc := 147) lk1131 hG dX12_mark_147 ?_
              refine r_bipush (pc := 150) (v := 126) (by decide) hG dX12_mark_150 ?_
              refine r_dup2 (pc := 152) rfl rfl hG dX12_mark_152 ?_
              refine r_iald (pc := 153) (i := 115) (rfl : shp 115 = 14) rfl (by decide) hG dX12_mark_153 ?_
              refine r_iconst (pc := 154) (v := 1) (by decide) hG dX12_mark_154 ?_
              refine r_iadd (pc := 155) hG dX12_mark_155 ?_
              refine r_iast (pc := 156) (i := 115) (rfl : shp 115 = 14) rfl (by decide) hG dX12_mark_156 ?_
              refine r_bS hG (fun s37 => ?_)
              refine r_aload_n (pc := 157) 1 0 rfl rfl hG dX12_mark_157 ?_
              refine gf12_0 (pc := 158) lk1131 hG dX12_mark_158 ?_
              refine r_bipush (pc := 161) (v := 126) (by decide) hG dX12_mark_161 ?_
              refine r_iald (pc := 163) (i := 115) (rfl : shp 115 = 14) rfl (by decide) hG dX12_mark_163 ?_
              exact r_iret (pc := 164) rfl hG dX12_mark_164
            · refine r_aload_n (pc := 77) 0 0 rfl rfl hG dX12_mark_77 ?_
              refine r_bW hG (fun r38 s39 e41 => ?_)
              refine r_callVi (pc := 78) (As := []) (c_Mo_full X N σ r38 s39 e41) (wsOf_at (rfl : shp 114 = 12) (by decide) rfl) rfl mfX12_101_X12_full hyVX12_full (by decide) (by decide) rfl (Nat.le_of_ble_eq_true rfl) hG dX12_mark_78 rfl (fun n40 => ?_)
              exact r_iret (pc := 81) rfl hG dX12_mark_81
          · exact r_sub [0] rfl hG (w_Mo_mark_J58 N hG σ)
set_option maxRecDepth 4000 in
theorem w_Mo_forget_J40 {X : Cx} {G : GT (Int32 × St)} (N : Nat) (hG : IsG X RX12 cX12_forget 4 2 (some .int) oWI G) (w0 : Int32) (σ : St) : G (Mo_forget_J40 N w0 σ) σ 40 [(0, .ref (X.2.1 + 114))] [.int w0] := by
  unfold Mo_forget_J40
  refine r_istore_n (pc := 40) (lv' := [(2, .int w0), (0, .ref (X.2.1 + 114))]) 2 rfl (by decide) rfl hG dX12_forget_40 ?_
  refine r_aload_n (pc := 41) 1 0 rfl rfl hG dX12_forget_41 ?_
  refine gf12_0 (pc := 42) lk1131 hG dX12_forget_42 ?_
  refine r_iload_n (pc := 45) 0 2 rfl rfl hG dX12_forget_45 ?_
  refine r_ck hG (fun h7 => ?_)
  refine r_iald (pc := 46) (i := 115) (rfl : shp 115 = 14) rfl h7 hG dX12_forget_46 ?_
  refine r_bI hG (fun x8 => ?_)
  refine r_istore_n (pc := 47) (lv' := [(3, .int x8), (2, .int w0), (0, .ref (X.2.1 + 114))]) 3 rfl (by decide) rfl hG dX12_forget_47 ?_
  refine r_aload_n (pc := 48) 2 0 rfl rfl hG dX12_forget_48 ?_
  refine gf12_0 (pc := 49) lk1131 hG dX12_forget_49 ?_
  refine r_iload_n (pc := 52) 1 2 rfl rfl hG dX12_forget_52 ?_
  refine r_iconst (pc := 53) (v := 0) (by decide) hG dX12_forget_53 ?_
  refine r_ck hG (fun h9 => ?_)
  refine r_iast (pc := 54) (i := 115) (rfl : shp 115 = 14) rfl h9 hG dX12_forget_54 ?_
  refine r_bS hG (fun s10 => ?_)
  refine r_iload_n (pc := 55) 0 3 rfl rfl hG dX12_forget_55 ?_
  exact r_iret (pc := 56) rfl hG dX12_forget_56
set_option maxRecDepth 4000 in
theorem c_Mo_forget (X : Cx) (N : Nat) (v1 : Int32) (σ : St) (r : Int32) (σ1 : St) (hE : Mo_forget N v1 σ = some (r, σ1)) : Ctr X yX12_forget cX12_forget 4 (some .int) 2 [.ref (X.2.1 + 114), .int v1] σ (some (.int r)) σ1 := by
  refine Ctr.of (out := oWI) (E := Mo_forget N v1 σ) rfl (Nat.le_of_ble_eq_true rfl) (fun G hG => ?_) (r, σ1) hE
  unfold Mo_forget
  refine r_iload_n (pc := 0) 1 1 rfl rfl hG dX12_forget_0 ?_
  refine r_i2l (pc := 1) hG dX12_forget_1 ?_
  refine r_lconst (pc := 2) (v := 0) (by decide) hG dX12_forget_2 ?_
  refine r_ldc2 (pc := 3) (v := 2) lk1400 hG dX12_forget_3 ?_
  refine r_callSi (pc := 6) (As := [.long ((v1).toInt64), .long 0, .long 2]) (c_Mo_in X ((v1).toInt64) 0 2 σ) mfX12_69_X12_in hySX12_in (by decide) (by decide) rfl (Nat.le_of_ble_eq_true rfl) hG dX12_forget_6 rfl (fun n2 => ?_)
  refine r_if_ne (pc := 9) (tgt := 19) (by decide) hG dX12_forget_9 (fun h4 => ?_) (fun h4 => ?_)
  · refine r_iload_n (pc := 19) 1 1 rfl rfl hG dX12_forget_19 ?_
    refine r_if_ne (pc := 20) (tgt := 28) (by decide) hG dX12_forget_20 (fun h5 => ?_) (fun h5 => ?_)
    · refine r_iload_n (pc := 28) 1 1 rfl rfl hG dX12_forget_28 ?_
      refine r_iconst (pc := 29) (v := 1) (by decide) hG dX12_forget_29 ?_
      refine r_icmp_ne (pc := 30) (tgt := 38) (by decide) hG dX12_forget_30 (fun h6 => ?_) (fun h6 => ?_)
      · refine r_bipush (pc := 38) (v := 126) (by decide) hG dX12_forget_38 ?_
        exact r_sub [0] rfl hG (w_Mo_forget_J40 N hG 126 σ)
      · refine r_bipush (pc := 33) (v := 89) (by decide) hG dX12_forget_33 ?_
        refine r_goto (pc := 35) (tgt := 40) (by decide) hG dX12_forget_35 ?_
        exact r_sub [0] rfl hG (w_Mo_forget_J40 N hG 89 σ)
    · refine r_bipush (pc := 23) (v := 68) (by decide) hG dX12_forget_23 ?_
      refine r_goto (pc := 25) (tgt := 40) (by decide) hG dX12_forget_25 ?_
      exact r_sub [0] rfl hG (w_Mo_forget_J40 N hG 68 σ)
  · refine r_aload_n (pc := 12) 0 0 rfl rfl hG dX12_forget_12 ?_
    refine r_bipush (pc := 13) (v := (-2)) (by decide) hG dX12_forget_13 ?_
    refine r_bW hG (fun r11 s12 e14 => ?_)
    refine r_callVi (pc := 15) (As := [.int (-2)]) (c_Mo_bad X N (-2) σ r11 s12 e14) (wsOf_at (rfl : shp 114 = 12) (by decide) rfl) rfl mfX12_84_X12_bad hyVX12_bad (by decide) (by decide) rfl (Nat.le_of_ble_eq_true rfl) hG dX12_forget_15 rfl (fun n13 => ?_)
    exact r_iret (pc := 18) rfl hG dX12_forget_18
set_option maxRecDepth 4000 in
theorem w_Mo_guestsOf_J119 {σ : St} {X : Cx} {G : GT Int32} (N : Nat) (hG : IsG X RX12 cX12_guestsOf 6 3 (some .int) (oI σ) G) {K5 : Int32 → Int32 → Int32 → St → Option Int32} (hK5 : ∀ (v1 : Int32) (v2 : Int32) (v3 : Int32), G (K5 v1 v2 v3 σ) σ 5 [(0, .ref (X.2.1 + 114)), (1, .int v1), (2, .int v2), (3, .int v3)] []) (v1 : Int32) (v2 : Int32) (v3 : Int32) : G (Mo_guestsOf_J119 N K5 v1 v2 v3 σ) σ 119 [(0, .ref (X.2.1 + 114)), (1, .int v1), (2, .int v2), (3, .int v3)] [] := by
  unfold Mo_guestsOf_J119
  refine r_bIinc (pc := 119) (lv' := fun x4 => [(3, .int x4), (0, .ref (X.2.1 + 114)), (1, .int v1), (2, .int v2)]) 3 rfl rfl (by decide) (fun _ => rfl) hG dX12_guestsOf_119 (fun x4 => ?_)
  refine r_goto (pc := 122) (tgt := 5) (by decide) hG dX12_guestsOf_122 ?_
  exact r_sub [1, 2, 3, 0] rfl hG (hK5 v1 v2 x4)
set_option maxRecDepth 4000 in
theorem w_Mo_guestsOf_J111 {σ : St} {X : Cx} {G : GT Int32} (N : Nat) (hG : IsG X RX12 cX12_guestsOf 6 3 (some .int) (oI σ) G) {K5 : Int32 → Int32 → Int32 → St → Option Int32} {K28 : Int32 → Int32 → Int32 → Int32 → Int32 → St → Option Int32} (hK5 : ∀ (v1 : Int32) (v2 : Int32) (v3 : Int32), G (K5 v1 v2 v3 σ) σ 5 [(0, .ref (X.2.1 + 114)), (1, .int v1), (2, .int v2), (3, .int v3)] []) (hK28 : ∀ (v1 : Int32) (v2 : Int32) (v3 : Int32) (v4 : Int32) (v5 : Int32), G (K28 v1 v2 v3 v4 v5 σ) σ 28 [(0, .ref (X.2.1 + 114)), (1, .int v1), (2, .int v2), (3, .int v3), (4, .int v4), (5, .int v5)] []) (v1 : Int32) (v3 : Int32) (v4 : Int32) (v5 : Int32) (w0 : Int32) (w1 : Int32) : G (Mo_guestsOf_J111 N K5 K28 v1 v3 v4 v5 w0 w1 σ) σ 111 [(0, .ref (X.2.1 + 114)), (1, .int v1), (3, .int v3), (4, .int v4), (5, .int v5)] [.int w1, .int w0] := by
  unfold Mo_guestsOf_J111
  refine r_iand (pc := 111) hG dX12_guestsOf_111 ?_
  refine r_bI hG (fun x16 => ?_)
  refine r_istore_n (pc := 112) (lv' := [(2, .int x16), (0, .ref (X.2.1 + 114)), (1, .int v1), (3, .int v3), (4, .int v4), (5, .int v5)]) 2 rfl (by decide) rfl hG dX12_guestsOf_112 ?_
  refine r_bIinc (pc := 113) (lv' := fun x17 => [(5, .int x17), (2, .int x16), (0, .ref (X.2.1 + 114)), (1, .int v1), (3, .int v3), (4, .int v4)]) 5 rfl rfl (by decide) (fun _ => rfl) hG dX12_guestsOf_113 (fun x17 => ?_)
  refine r_goto (pc := 116) (tgt := 28) (by decide) hG dX12_guestsOf_116 ?_
  exact r_sub [2, 3, 1, 4, 5, 0] rfl hG (hK28 v1 x16 v3 v4 x17)
set_option maxRecDepth 4000 in
theorem w_Mo_guestsOf_L28B {σ : St} {X : Cx} {G : GT Int32} (N : Nat) (hG : IsG X RX12 cX12_guestsOf 6 3 (some .int) (oI σ) G) {K5 : Int32 → Int32 → Int32 → St → Option Int32} {K28 : Int32 → Int32 → Int32 → Int32 → Int32 → St → Option Int32} (hK5 : ∀ (v1 : Int32) (v2 : Int32) (v3 : Int32), G (K5 v1 v2 v3 σ) σ 5 [(0, .ref (X.2.1 + 114)), (1, .int v1), (2, .int v2), (3, .int v3)] []) (hK28 : ∀ (v1 : Int32) (v2 : Int32) (v3 : Int32) (v4 : Int32) (v5 : Int32), G (K28 v1 v2 v3 v4 v5 σ) σ 28 [(0, .ref (X.2.1 + 114)), (1, .int v1), (2, .int v2), (3, .int v3), (4, .int v4), (5, .int v5)] []) (v1 : Int32) (v2 : Int32) (v3 : Int32) (v4 : Int32) (v5 : Int32) : G (Mo_guestsOf_L28B N K5 K28 v1 v2 v3 v4 v5 σ) σ 28 [(0, .ref (X.2.1 + 114)), (1, .int v1), (2, .int v2), (3, .int v3), (4, .int v4), (5, .int v5)] [] := by
  unfold Mo_guestsOf_L28B
  refine r_iload (pc := 28) 5 rfl hG dX12_guestsOf_28 ?_
  refine r_bipush (pc := 30) (v := 6) (by decide) hG dX12_guestsOf_30 ?_
  refine r_icmp_ge (pc := 32) (tgt := 119) (by decide) hG dX12_guestsOf_32 (fun h3 => ?_) (fun h3 => ?_)
  · exact r_sub [0, 1, 2, 3] rfl hG (w_Mo_guestsOf_J119 N hG hK5 v1 v2 v3)
  · refine r_aload_n (pc := 35) 0 0 rfl rfl hG dX12_guestsOf_35 ?_
    refine gf12_0 (pc := 36) lk1131 hG dX12_guestsOf_36 ?_
    refine r_iload (pc := 39) 4 rfl hG dX12_guestsOf_39 ?_
    refine r_ck hG (fun h5 => ?_)
    refine r_iald (pc := 41) (i := 115) (rfl : shp 115 = 14) rfl h5 hG dX12_guestsOf_41 ?_
    refine r_iload_n (pc := 42) 1 1 rfl rfl hG dX12_guestsOf_42 ?_
    refine r_icmp_ne (pc := 43) (tgt := 119) (by decide) hG dX12_guestsOf_43 (fun h6 => ?_) (fun h6 => ?_)
    · exact r_sub [0, 1, 2, 3] rfl hG (w_Mo_guestsOf_J119 N hG hK5 v1 v2 v3)
    · refine r_iload_n (pc := 46) 2 2 rfl rfl hG dX12_guestsOf_46 ?_
      refine r_iload (pc := 47) 5 rfl hG dX12_guestsOf_47 ?_
      refine r_aload_n (pc := 49) 0 0 rfl rfl hG dX12_guestsOf_49 ?_
      refine gf12_0 (pc := 50) lk1131 hG dX12_guestsOf_50 ?_
      refine r_iload (pc := 53) 4 rfl hG dX12_guestsOf_53 ?_
      refine r_iconst (pc := 55) (v := 1) (by decide) hG dX12_guestsOf_55 ?_
      refine r_iadd (pc := 56) hG dX12_guestsOf_56 ?_
      refine r_ck hG (fun h7 => ?_)
      refine r_iald (pc := 57) (i := 115) (rfl : shp 115 = 14) rfl h7 hG dX12_guestsOf_57 ?_
      refine r_aload_n (pc := 58) 0 0 rfl rfl hG dX12_guestsOf_58 ?_
      refine gf12_0 (pc := 59) lk1131 hG dX12_guestsOf_59 ?_
      refine r_iload (pc := 62) 4 rfl hG dX12_guestsOf_62 ?_
      refine r_iconst (pc := 64) (v := 2) (by decide) hG dX12_guestsOf_64 ?_
      refine r_iadd (pc := 65) hG dX12_guestsOf_65 ?_
      refine r_ck hG (fun h8 => ?_)
      refine r_iald (pc := 66) (i := 115) (rfl : shp 115 = 14) rfl h8 hG dX12_guestsOf_66 ?_
      refine r_aload_n (pc := 67) 0 0 rfl rfl hG dX12_guestsOf_67 ?_
      refine gf12_0 (pc := 68) lk1131 hG dX12_guestsOf_68 ?_
      refine r_iload (pc := 71) 4 rfl hG dX12_guestsOf_71 ?_
      refine r_iconst (pc := 73) (v := 3) (by decide) hG dX12_guestsOf_73 ?_
      refine r_iadd (pc := 74) hG dX12_guestsOf_74 ?_
      refine r_ck hG (fun h9 => ?_)
      refine r_iald (pc := 75) (i := 115) (rfl : shp 115 = 14) rfl h9 hG dX12_guestsOf_75 ?_
      refine r_aload_n (pc := 76) 0 0 rfl rfl hG dX12_guestsOf_76 ?_
      refine gf12_0 (pc := 77) lk1131 hG dX12_guestsOf_77 ?_
      refine r_iload (pc := 80) 4 rfl hG dX12_guestsOf_80 ?_
      refine r_iconst (pc := 82) (v := 4) (by decide) hG dX12_guestsOf_82 ?_
      refine r_iadd (pc := 83) hG dX12_guestsOf_83 ?_
      refine r_ck hG (fun h10 => ?_)
      refine r_iald (pc := 84) (i := 115) (rfl : shp 115 = 14) rfl h10 hG dX12_guestsOf_84 ?_
      refine r_callSi (pc := 85) (As := [.int v5, .int (σ.1 115 ((v4 + 1)).toNatClampNeg), .int (σ.1 115 ((v4 + 2)).toNatClampNeg), .int (σ.1 115 ((v4 + 3)).toNatClampNeg), .int (σ.1 115 ((v4 + 4)).toNatClampNeg)]) (c_Mo_hurts X v5 (σ.1 115 ((v4 + 1)).toNatClampNeg) (σ.1 115 ((v4 + 2)).toNatClampNeg) (σ.1 115 ((v4 + 3)).toNatClampNeg) (σ.1 115 ((v4 + 4)).toNatClampNeg) σ) mfX12_186_X12_hurts hySX12_hurts (by decide) (by decide) rfl (Nat.le_of_ble_eq_true rfl) hG dX12_guestsOf_85 rfl (fun n12 => ?_)
      refine r_aload_n (pc := 88) 0 0 rfl rfl hG dX12_guestsOf_88 ?_
      refine gf12_0 (pc := 89) lk1131 hG dX12_guestsOf_89 ?_
      refine r_iload (pc := 92) 4 rfl hG dX12_guestsOf_92 ?_
      refine r_iconst (pc := 94) (v := 5) (by decide) hG dX12_guestsOf_94 ?_
      refine r_iadd (pc := 95) hG dX12_guestsOf_95 ?_
      refine r_ck hG (fun h14 => ?_)
      refine r_iald (pc := 96) (i := 115) (rfl : shp 115 = 14) rfl h14 hG dX12_guestsOf_96 ?_
      refine r_icmp_ne (pc := 97) (tgt := 105) (by decide) hG dX12_guestsOf_97 (fun h15 => ?_) (fun h15 => ?_)
      · refine r_iconst (pc := 105) (v := 1) (by decide) hG dX12_guestsOf_105 ?_
        refine r_iload (pc := 106) 5 rfl hG dX12_guestsOf_106 ?_
        refine r_ishl (pc := 108) hG dX12_guestsOf_108 ?_
        refine r_iconst (pc := 109) (v := (-1)) (by decide) hG dX12_guestsOf_109 ?_
        refine r_ixor (pc := 110) hG dX12_guestsOf_110 ?_
        exact r_sub [0, 1, 3, 4, 5] rfl hG (w_Mo_guestsOf_J111 N hG hK5 hK28 v1 v3 v4 v5 v2 ((1 <<< (v5 &&& 31)) ^^^ (-1)))
      · refine r_bipush (pc := 100) (v := 63) (by decide) hG dX12_guestsOf_100 ?_
        refine r_goto (pc := 102) (tgt := 111) (by decide) hG dX12_guestsOf_102 ?_
        exact r_sub [0, 1, 3, 4, 5] rfl hG (w_Mo_guestsOf_J111 N hG hK5 hK28 v1 v3 v4 v5 v2 63)
set_option maxRecDepth 4000 in
theorem w_Mo_guestsOf_L28 {σ : St} {X : Cx} {G : GT Int32} (N : Nat) (hG : IsG X RX12 cX12_guestsOf 6 3 (some .int) (oI σ) G) {K5 : Int32 → Int32 → Int32 → St → Option Int32} (hK5 : ∀ (v1 : Int32) (v2 : Int32) (v3 : Int32), G (K5 v1 v2 v3 σ) σ 5 [(0, .ref (X.2.1 + 114)), (1, .int v1), (2, .int v2), (3, .int v3)] []) : ∀ (n : Nat), ∀ (v1 : Int32) (v2 : Int32) (v3 : Int32) (v4 : Int32) (v5 : Int32), G (Mo_guestsOf_L28 N K5 n v1 v2 v3 v4 v5 σ) σ 28 [(0, .ref (X.2.1 + 114)), (1, .int v1), (2, .int v2), (3, .int v3), (4, .int v4), (5, .int v5)] [] := by
  intro n
  induction n with
  | zero => intro v1 v2 v3 v4 v5; exact r_none hG
  | succ n ih => intro v1 v2 v3 v4 v5; exact w_Mo_guestsOf_L28B N hG hK5 ih v1 v2 v3 v4 v5
set_option maxRecDepth 4000 in
theorem w_Mo_guestsOf_L5B {σ : St} {X : Cx} {G : GT Int32} (N : Nat) (hG : IsG X RX12 cX12_guestsOf 6 3 (some .int) (oI σ) G) {K5 : Int32 → Int32 → Int32 → St → Option Int32} (hK5 : ∀ (v1 : Int32) (v2 : Int32) (v3 : Int32), G (K5 v1 v2 v3 σ) σ 5 [(0, .ref (X.2.1 + 114)), (1, .int v1), (2, .int v2), (3, .int v3)] []) (v1 : Int32) (v2 : Int32) (v3 : Int32) : G (Mo_guestsOf_L5B N K5 v1 v2 v3 σ) σ 5 [(0, .ref (X.2.1 + 114)), (1, .int v1), (2, .int v2), (3, .int v3)] [] := by
  unfold Mo_guestsOf_L5B
  refine r_iload_n (pc := 5) 3 3 rfl rfl hG dX12_guestsOf_5 ?_
  refine r_aload_n (pc := 6) 0 0 rfl rfl hG dX12_guestsOf_6 ?_
  refine gf12_0 (pc := 7) lk1131 hG dX12_guestsOf_7 ?_
  refine r_bipush (pc := 10) (v := 89) (by decide) hG dX12_guestsOf_10 ?_
  refine r_iald (pc := 12) (i := 115) (rfl : shp 115 = 14) rfl (by decide) hG dX12_guestsOf_12 ?_
  refine r_icmp_ge (pc := 13) (tgt := 125) (by decide) hG dX12_guestsOf_13 (fun h1 => ?_) (fun h1 => ?_)
  · refine r_iload_n (pc := 125) 2 2 rfl rfl hG dX12_guestsOf_125 ?_
    exact r_iret (pc := 126) rfl hG dX12_guestsOf_126
  · refine r_bipush (pc := 16) (v := 90) (by decide) hG dX12_guestsOf_16 ?_
    refine r_bipush (pc := 18) (v := 6) (by decide) hG dX12_guestsOf_18 ?_
    refine r_iload_n (pc := 20) 3 3 rfl rfl hG dX12_guestsOf_20 ?_
    refine r_imul (pc := 21) hG dX12_guestsOf_21 ?_
    refine r_iadd (pc := 22) hG dX12_guestsOf_22 ?_
    refine r_bI hG (fun x2 => ?_)
    refine r_istore (pc := 23) (lv' := [(4, .int x2), (0, .ref (X.2.1 + 114)), (1, .int v1), (2, .int v2), (3, .int v3)]) (by decide) rfl hG dX12_guestsOf_23 ?_
    refine r_iconst (pc := 25) (v := 0) (by decide) hG dX12_guestsOf_25 ?_
    refine r_istore (pc := 26) (lv' := [(5, .int 0), (4, .int x2), (0, .ref (X.2.1 + 114)), (1, .int v1), (2, .int v2), (3, .int v3)]) (by decide) rfl hG dX12_guestsOf_26 ?_
    exact r_sub [2, 3, 4, 5, 1, 0] rfl hG (w_Mo_guestsOf_L28 N hG hK5 N v1 v2 v3 x2 0)
set_option maxRecDepth 4000 in
theorem w_Mo_guestsOf_L5 {σ : St} {X : Cx} {G : GT Int32} (N : Nat) (hG : IsG X RX12 cX12_guestsOf 6 3 (some .int) (oI σ) G) : ∀ (n : Nat), ∀ (v1 : Int32) (v2 : Int32) (v3 : Int32), G (Mo_guestsOf_L5 N n v1 v2 v3 σ) σ 5 [(0, .ref (X.2.1 + 114)), (1, .int v1), (2, .int v2), (3, .int v3)] [] := by
  intro n
  induction n with
  | zero => intro v1 v2 v3; exact r_none hG
  | succ n ih => intro v1 v2 v3; exact w_Mo_guestsOf_L5B N hG ih v1 v2 v3
set_option maxRecDepth 4000 in
theorem c_Mo_guestsOf (X : Cx) (N : Nat) (v1 : Int32) (σ : St) (r : Int32) (hE : Mo_guestsOf N v1 σ = some r) : Ctr X yX12_guestsOf cX12_guestsOf 6 (some .int) 3 [.ref (X.2.1 + 114), .int v1] σ (some (.int r)) σ := by
  refine Ctr.of (out := (oI σ)) (E := Mo_guestsOf N v1 σ) rfl (Nat.le_of_ble_eq_true rfl) (fun G hG => ?_) r hE
  unfold Mo_guestsOf
  refine r_bipush (pc := 0) (v := 63) (by decide) hG dX12_guestsOf_0 ?_
  refine r_istore_n (pc := 2) (lv' := [(2, .int 63), (0, .ref (X.2.1 + 114)), (1, .int v1)]) 2 rfl (by decide) rfl hG dX12_guestsOf_2 ?_
  refine r_iconst (pc := 3) (v := 0) (by decide) hG dX12_guestsOf_3 ?_
  refine r_istore_n (pc := 4) (lv' := [(3, .int 0), (2, .int 63), (0, .ref (X.2.1 + 114)), (1, .int v1)]) 3 rfl (by decide) rfl hG dX12_guestsOf_4 ?_
  exact r_sub [2, 3, 1, 0] rfl hG (w_Mo_guestsOf_L5 N hG N v1 63 0)
set_option maxRecDepth 4000 in
theorem c_Mo_is (X : Cx) (N : Nat) (v1 : Int32) (σ : St) (r : Int32) (σ1 : St) (hE : Mo_is N v1 σ = some (r, σ1)) : Ctr X yX12_is cX12_is 2 (some .int) 4 [.ref (X.2.1 + 114), .int v1] σ (some (.int r)) σ1 := by
  refine Ctr.of (out := oWI) (E := Mo_is N v1 σ) rfl (Nat.le_of_ble_eq_true rfl) (fun G hG => ?_) (r, σ1) hE
  unfold Mo_is
  refine r_aload_n (pc := 0) 0 0 rfl rfl hG dX12_is_0 ?_
  refine r_iload_n (pc := 1) 1 1 rfl rfl hG dX12_is_1 ?_
  refine r_bR hG (fun r1 e3 => ?_)
  refine r_callVi (pc := 2) (As := [.int v1]) (c_Mo_isGuest X N v1 σ r1 e3) (wsOf_at (rfl : shp 114 = 12) (by decide) rfl) rfl mfX12_190_X12_isGuest hyVX12_isGuest (by decide) (by decide) rfl (Nat.le_of_ble_eq_true rfl) hG dX12_is_2 rfl (fun n2 => ?_)
  refine r_if_eq (pc := 5) (tgt := 16) (by decide) hG dX12_is_5 (fun h4 => ?_) (fun h4 => ?_)
  · refine r_aload_n (pc := 16) 0 0 rfl rfl hG dX12_is_16 ?_
    refine r_bipush (pc := 17) (v := (-2)) (by decide) hG dX12_is_17 ?_
    refine r_bW hG (fun r5 s6 e8 => ?_)
    refine r_callVi (pc := 19) (As := [.int (-2)]) (c_Mo_bad X N (-2) σ r5 s6 e8) (wsOf_at (rfl : shp 114 = 12) (by decide) rfl) rfl mfX12_84_X12_bad hyVX12_bad (by decide) (by decide) rfl (Nat.le_of_ble_eq_true rfl) hG dX12_is_19 rfl (fun n7 => ?_)
    exact r_iret (pc := 22) rfl hG dX12_is_22
  · refine r_aload_n (pc := 8) 0 0 rfl rfl hG dX12_is_8 ?_
    refine r_iload_n (pc := 9) 1 1 rfl rfl hG dX12_is_9 ?_
    refine r_bR hG (fun r9 e11 => ?_)
    refine r_callVi (pc := 10) (As := [.int v1]) (c_Mo_guestsOf X N v1 σ r9 e11) (wsOf_at (rfl : shp 114 = 12) (by decide) rfl) rfl mfX12_271_X12_guestsOf hyVX12_guestsOf (by decide) (by decide) rfl (Nat.le_of_ble_eq_true rfl) hG dX12_is_10 rfl (fun n10 => ?_)
    refine r_goto (pc := 13) (tgt := 22) (by decide) hG dX12_is_13 ?_
    exact r_iret (pc := 22) rfl hG dX12_is_22
set_option maxRecDepth 4000 in
theorem w_Mo_look_J145 {X : Cx} {G : GT (Int32 × St)} (N : Nat) (hG : IsG X RX12 cX12_look 8 4 (some .int) oWI G) {K30 : Int32 → Int32 → Int32 → Int32 → Int32 → St → Option (Int32 × St)} (hK30 : ∀ (v1 : Int32) (v2 : Int32) (v3 : Int32) (v4 : Int32) (v5 : Int32) (s : St), G (K30 v1 v2 v3 v4 v5 s) s 30 [(0, .ref (X.2.1 + 114)), (1, .int v1), (2, .int v2), (3, .int v3), (4, .int v4), (5, .int v5)] []) (v1 : Int32) (v2 : Int32) (v3 : Int32) (v4 : Int32) (v5 : Int32) (σ : St) : G (Mo_look_J145 N K30 v1 v2 v3 v4 v5 σ) σ 145 [(0, .ref (X.2.1 + 114)), (1, .int v1), (2, .int v2), (3, .int v3), (4, .int v4), (5, .int v5)] [] := by
  unfold Mo_look_J145
  refine r_bIinc (pc := 145) (lv' := fun x11 => [(5, .int x11), (0, .ref (X.2.1 + 114)), (1, .int v1), (2, .int v2), (3, .int v3), (4, .int v4)]) 5 rfl rfl (by decide) (fun _ => rfl) hG dX12_look_145 (fun x11 => ?_)
  refine r_goto (pc := 148) (tgt := 30) (by decide) hG dX12_look_148 ?_
  exact r_sub [1, 2, 3, 4, 5, 0] rfl hG (hK30 v1 v2 v3 v4 x11 σ)
set_option maxRecDepth 4000 in
theorem w_Mo_look_J129 {X : Cx} {G : GT (Int32 × St)} (N : Nat) (hG : IsG X RX12 cX12_look 8 4 (some .int) oWI G) {K30 : Int32 → Int32 → Int32 → Int32 → Int32 → St → Option (Int32 × St)} {K44 : Int32 → Int32 → Int32 → Int32 → Int32 → Int32 → St → Option (Int32 × St)} (hK30 : ∀ (v1 : Int32) (v2 : Int32) (v3 : Int32) (v4 : Int32) (v5 : Int32) (s : St), G (K30 v1 v2 v3 v4 v5 s) s 30 [(0, .ref (X.2.1 + 114)), (1, .int v1), (2, .int v2), (3, .int v3), (4, .int v4), (5, .int v5)] []) (hK44 : ∀ (v1 : Int32) (v2 : Int32) (v3 : Int32) (v4 : Int32) (v5 : Int32) (v6 : Int32) (s : St), G (K44 v1 v2 v3 v4 v5 v6 s) s 44 [(0, .ref (X.2.1 + 114)), (1, .int v1), (2, .int v2), (3, .int v3), (4, .int v4), (5, .int v5), (6, .int v6)] []) (v1 : Int32) (v2 : Int32) (v4 : Int32) (v5 : Int32) (v6 : Int32) (v7 : Int32) (w0 : Int32) (σ : St) : G (Mo_look_J129 N K30 K44 v1 v2 v4 v5 v6 v7 w0 σ) σ 129 [(0, .ref (X.2.1 + 114)), (1, .int v1), (2, .int v2), (4, .int v4), (5, .int v5), (6, .int v6), (7, .int v7)] [.int w0] := by
  unfold Mo_look_J129
  refine r_istore_n (pc := 129) (lv' := [(3, .int w0), (0, .ref (X.2.1 + 114)), (1, .int v1), (2, .int v2), (4, .int v4), (5, .int v5), (6, .int v6), (7, .int v7)]) 3 rfl (by decide) rfl hG dX12_look_129 ?_
  refine r_iload (pc := 130) 4 rfl hG dX12_look_130 ?_
  refine r_iload (pc := 132) 7 rfl hG dX12_look_132 ?_
  refine r_callSi (pc := 134) (As := [.int v4, .int v7]) (c_Mo_less X v4 v7 σ) mfX12_75_X12_less hySX12_less (by decide) (by decide) rfl (Nat.le_of_ble_eq_true rfl) hG dX12_look_134 rfl (fun n18 => ?_)
  refine r_bI hG (fun x20 => ?_)
  refine r_istore (pc := 137) (lv' := [(4, .int x20), (3, .int w0), (0, .ref (X.2.1 + 114)), (1, .int v1), (2, .int v2), (5, .int v5), (6, .int v6), (7, .int v7)]) (by decide) rfl hG dX12_look_137 ?_
  refine r_bIinc (pc := 139) (lv' := fun x21 => [(6, .int x21), (4, .int x20), (3, .int w0), (0, .ref (X.2.1 + 114)), (1, .int v1), (2, .int v2), (5, .int v5), (7, .int v7)]) 6 rfl rfl (by decide) (fun _ => rfl) hG dX12_look_139 (fun x21 => ?_)
  refine r_goto (pc := 142) (tgt := 44) (by decide) hG dX12_look_142 ?_
  exact r_sub [3, 4, 5, 2, 1, 6, 0] rfl hG (hK44 v1 v2 w0 x20 v5 x21 σ)
set_option maxRecDepth 4000 in
theorem w_Mo_look_J101 {X : Cx} {G : GT (Int32 × St)} (N : Nat) (hG : IsG X RX12 cX12_look 8 4 (some .int) oWI G) {K30 : Int32 → Int32 → Int32 → Int32 → Int32 → St → Option (Int32 × St)} {K44 : Int32 → Int32 → Int32 → Int32 → Int32 → Int32 → St → Option (Int32 × St)} (hK30 : ∀ (v1 : Int32) (v2 : Int32) (v3 : Int32) (v4 : Int32) (v5 : Int32) (s : St), G (K30 v1 v2 v3 v4 v5 s) s 30 [(0, .ref (X.2.1 + 114)), (1, .int v1), (2, .int v2), (3, .int v3), (4, .int v4), (5, .int v5)] []) (hK44 : ∀ (v1 : Int32) (v2 : Int32) (v3 : Int32) (v4 : Int32) (v5 : Int32) (v6 : Int32) (s : St), G (K44 v1 v2 v3 v4 v5 v6 s) s 44 [(0, .ref (X.2.1 + 114)), (1, .int v1), (2, .int v2), (3, .int v3), (4, .int v4), (5, .int v5), (6, .int v6)] []) (v1 : Int32) (v2 : Int32) (v3 : Int32) (v4 : Int32) (v5 : Int32) (v6 : Int32) (σ : St) : G (Mo_look_J101 N K30 K44 v1 v2 v3 v4 v5 v6 σ) σ 101 [(0, .ref (X.2.1 + 114)), (1, .int v1), (2, .int v2), (3, .int v3), (4, .int v4), (5, .int v5), (6, .int v6)] [] := by
  unfold Mo_look_J101
  refine r_aload_n (pc := 101) 0 0 rfl rfl hG dX12_look_101 ?_
  refine r_iload_n (pc := 102) 2 2 rfl rfl hG dX12_look_102 ?_
  refine r_bipush (pc := 103) (v := 6) (by decide) hG dX12_look_103 ?_
  refine r_bR hG (fun r13 e15 => ?_)
  refine r_callVi (pc := 105) (As := [.int v2, .int 6]) (c_Mo_mostAlike X N v2 6 σ r13 e15) (wsOf_at (rfl : shp 114 = 12) (by decide) rfl) rfl mfX12_264_X12_mostAlike hyVX12_mostAlike (by decide) (by decide) rfl (Nat.le_of_ble_eq_true rfl) hG dX12_look_105 rfl (fun n14 => ?_)
  refine r_istore (pc := 108) (lv' := [(7, .int r13), (0, .ref (X.2.1 + 114)), (1, .int v1), (2, .int v2), (3, .int v3), (4, .int v4), (5, .int v5), (6, .int v6)]) (by decide) rfl hG dX12_look_108 ?_
  refine r_iload (pc := 110) 0 rfl hG dX12_look_110 ?_
  refine r_iload (pc := 112) 5 rfl hG dX12_look_112 ?_
  refine r_icmp_ge (pc := 114) (tgt := 128) (by decide) hG dX12_look_114 (fun h16 => ?_) (fun h16 => ?_)
  · refine r_iload_n (pc := 128) 4 3 rfl rfl hG dX12_look_128 ?_
    exact r_sub [1, 2, 3, 5, 6, 7, 0] rfl hG (w_Mo_look_J129 N hG hK30 hK44 v1 v2 v4 v5 v6 r13 v3 σ)
  · refine r_bipush (pc := 117) (v := 100) (by decide) hG dX12_look_117 ?_
    refine r_iload (pc := 119) 6 rfl hG dX12_look_119 ?_
    refine r_imul (pc := 121) hG dX12_look_121 ?_
    refine r_iload (pc := 122) 7 rfl hG dX12_look_122 ?_
    refine r_iadd (pc := 124) hG dX12_look_124 ?_
    refine r_goto (pc := 125) (tgt := 129) (by decide) hG dX12_look_125 ?_
    exact r_sub [1, 2, 3, 5, 6, 7, 0] rfl hG (w_Mo_look_J129 N hG hK30 hK44 v1 v2 v4 v5 v6 r13 ((100 * v5) + v6) σ)
set_option maxRecDepth 4000 in
theorem w_Mo_look_L54B {X : Cx} {G : GT (Int32 × St)} (N : Nat) (hG : IsG X RX12 cX12_look 8 4 (some .int) oWI G) {K30 : Int32 → Int32 → Int32 → Int32 → Int32 → St → Option (Int32 × St)} {K44 : Int32 → Int32 → Int32 → Int32 → Int32 → Int32 → St → Option (Int32 × St)} {K54 : Int32 → Int32 → Int32 → Int32 → Int32 → Int32 → Int32 → St → Option (Int32 × St)} (hK30 : ∀ (v1 : Int32) (v2 : Int32) (v3 : Int32) (v4 : Int32) (v5 : Int32) (s : St), G (K30 v1 v2 v3 v4 v5 s) s 30 [(0, .ref (X.2.1 + 114)), (1, .int v1), (2, .int v2), (3, .int v3), (4, .int v4), (5, .int v5)] []) (hK44 : ∀ (v1 : Int32) (v2 : Int32) (v3 : Int32) (v4 : Int32) (v5 : Int32) (v6 : Int32) (s : St), G (K44 v1 v2 v3 v4 v5 v6 s) s 44 [(0, .ref (X.2.1 + 114)), (1, .int v1), (2, .int v2), (3, .int v3), (4, .int v4), (5, .int v5), (6, .int v6)] []) (hK54 : ∀ (v1 : Int32) (v2 : Int32) (v3 : Int32) (v4 : Int32) (v5 : Int32) (v6 : Int32) (v7 : Int32) (s : St), G (K54 v1 v2 v3 v4 v5 v6 v7 s) s 54 [(0, .ref (X.2.1 + 114)), (1, .int v1), (2, .int v2), (3, .int v3), (4, .int v4), (5, .int v5), (6, .int v6), (7, .int v7)] []) (v1 : Int32) (v2 : Int32) (v3 : Int32) (v4 : Int32) (v5 : Int32) (v6 : Int32) (v7 : Int32) (σ : St) : G (Mo_look_L54B N K30 K44 K54 v1 v2 v3 v4 v5 v6 v7 σ) σ 54 [(0, .ref (X.2.1 + 114)), (1, .int v1), (2, .int v2), (3, .int v3), (4, .int v4), (5, .int v5), (6, .int v6), (7, .int v7)] [] := by
  unfold Mo_look_L54B
  refine r_iload (pc := 54) 7 rfl hG dX12_look_54 ?_
  refine r_bipush (pc := 56) (v := 6) (by decide) hG dX12_look_56 ?_
  refine r_icmp_ge (pc := 58) (tgt := 101) (by decide) hG dX12_look_58 (fun h12 => ?_) (fun h12 => ?_)
  · exact r_sub [0, 1, 2, 3, 4, 5, 6] rfl hG (w_Mo_look_J101 N hG hK30 hK44 v1 v2 v3 v4 v5 v6 σ)
  · refine r_aload_n (pc := 61) 0 0 rfl rfl hG dX12_look_61 ?_
    refine gf12_33 (pc := 62) lk1164 hG dX12_look_62 ?_
    refine r_iload (pc := 65) 7 rfl hG dX12_look_65 ?_
    refine r_iload (pc := 67) 7 rfl hG dX12_look_67 ?_
    refine r_aload_n (pc := 69) 0 0 rfl rfl hG dX12_look_69 ?_
    refine gf12_0 (pc := 70) lk1131 hG dX12_look_70 ?_
    refine r_bipush (pc := 73) (v := 48) (by decide) hG dX12_look_73 ?_
    refine r_iload_n (pc := 75) 1 1 rfl rfl hG dX12_look_75 ?_
    refine r_iadd (pc := 76) hG dX12_look_76 ?_
    refine r_ck hG (fun h22 => ?_)
    refine r_iald (pc := 77) (i := 115) (rfl : shp 115 = 14) rfl h22 hG dX12_look_77 ?_
    refine r_aload_n (pc := 78) 0 0 rfl rfl hG dX12_look_78 ?_
    refine gf12_0 (pc := 79) lk1131 hG dX12_look_79 ?_
    refine r_bipush (pc := 82) (v := 52) (by decide) hG dX12_look_82 ?_
    refine r_iload_n (pc := 84) 1 1 rfl rfl hG dX12_look_84 ?_
    refine r_iadd (pc := 85) hG dX12_look_85 ?_
    refine r_ck hG (fun h23 => ?_)
    refine r_iald (pc := 86) (i := 115) (rfl : shp 115 = 14) rfl h23 hG dX12_look_86 ?_
    refine r_iload (pc := 87) 6 rfl hG dX12_look_87 ?_
    refine r_iload (pc := 89) 5 rfl hG dX12_look_89 ?_
    refine r_callSi (pc := 91) (As := [.int v7, .int (σ.1 115 ((48 + v1)).toNatClampNeg), .int (σ.1 115 ((52 + v1)).toNatClampNeg), .int v6, .int v5]) (c_Mo_hurts X v7 (σ.1 115 ((48 + v1)).toNatClampNeg) (σ.1 115 ((52 + v1)).toNatClampNeg) v6 v5 σ) mfX12_186_X12_hurts hySX12_hurts (by decide) (by decide) rfl (Nat.le_of_ble_eq_true rfl) hG dX12_look_91 rfl (fun n25 => ?_)
    refine r_ck hG (fun h27 => ?_)
    refine r_iast (pc := 94) (i := 132) (rfl : shp 132 = 14) rfl h27 hG dX12_look_94 ?_
    refine r_bS hG (fun s28 => ?_)
    refine r_bIinc (pc := 95) (lv' := fun x29 => [(7, .int x29), (0, .ref (X.2.1 + 114)), (1, .int v1), (2, .int v2), (3, .int v3), (4, .int v4), (5, .int v5), (6, .int v6)]) 7 rfl rfl (by decide) (fun _ => rfl) hG dX12_look_95 (fun x29 => ?_)
    refine r_goto (pc := 98) (tgt := 54) (by decide) hG dX12_look_98 ?_
    exact r_sub [1, 2, 3, 4, 5, 6, 7, 0] rfl hG (hK54 v1 v2 v3 v4 v5 v6 x29 s28)
set_option maxRecDepth 4000 in
theorem w_Mo_look_L54 {X : Cx} {G : GT (Int32 × St)} (N : Nat) (hG : IsG X RX12 cX12_look 8 4 (some .int) oWI G) {K30 : Int32 → Int32 → Int32 → Int32 → Int32 → St → Option (Int32 × St)} {K44 : Int32 → Int32 → Int32 → Int32 → Int32 → Int32 → St → Option (Int32 × St)} (hK30 : ∀ (v1 : Int32) (v2 : Int32) (v3 : Int32) (v4 : Int32) (v5 : Int32) (s : St), G (K30 v1 v2 v3 v4 v5 s) s 30 [(0, .ref (X.2.1 + 114)), (1, .int v1), (2, .int v2), (3, .int v3), (4, .int v4), (5, .int v5)] []) (hK44 : ∀ (v1 : Int32) (v2 : Int32) (v3 : Int32) (v4 : Int32) (v5 : Int32) (v6 : Int32) (s : St), G (K44 v1 v2 v3 v4 v5 v6 s) s 44 [(0, .ref (X.2.1 + 114)), (1, .int v1), (2, .int v2), (3, .int v3), (4, .int v4), (5, .int v5), (6, .int v6)] []) : ∀ (n : Nat), ∀ (v1 : Int32) (v2 : Int32) (v3 : Int32) (v4 : Int32) (v5 : Int32) (v6 : Int32) (v7 : Int32) (σ : St), G (Mo_look_L54 N K30 K44 n v1 v2 v3 v4 v5 v6 v7 σ) σ 54 [(0, .ref (X.2.1 + 114)), (1, .int v1), (2, .int v2), (3, .int v3), (4, .int v4), (5, .int v5), (6, .int v6), (7, .int v7)] [] := by
  intro n
  induction n with
  | zero => intro v1 v2 v3 v4 v5 v6 v7 σ; exact r_none hG
  | succ n ih => intro v1 v2 v3 v4 v5 v6 v7 σ; exact w_Mo_look_L54B N hG hK30 hK44 ih v1 v2 v3 v4 v5 v6 v7 σ
set_option maxRecDepth 4000 in
theorem w_Mo_look_L44B {X : Cx} {G : GT (Int32 × St)} (N : Nat) (hG : IsG X RX12 cX12_look 8 4 (some .int) oWI G) {K30 : Int32 → Int32 → Int32 → Int32 → Int32 → St → Option (Int32 × St)} {K44 : Int32 → Int32 → Int32 → Int32 → Int32 → Int32 → St → Option (Int32 × St)} (hK30 : ∀ (v1 : Int32) (v2 : Int32) (v3 : Int32) (v4 : Int32) (v5 : Int32) (s : St), G (K30 v1 v2 v3 v4 v5 s) s 30 [(0, .ref (X.2.1 + 114)), (1, .int v1), (2, .int v2), (3, .int v3), (4, .int v4), (5, .int v5)] []) (hK44 : ∀ (v1 : Int32) (v2 : Int32) (v3 : Int32) (v4 : Int32) (v5 : Int32) (v6 : Int32) (s : St), G (K44 v1 v2 v3 v4 v5 v6 s) s 44 [(0, .ref (X.2.1 + 114)), (1, .int v1), (2, .int v2), (3, .int v3), (4, .int v4), (5, .int v5), (6, .int v6)] []) (v1 : Int32) (v2 : Int32) (v3 : Int32) (v4 : Int32) (v5 : Int32) (v6 : Int32) (σ : St) : G (Mo_look_L44B N K30 K44 v1 v2 v3 v4 v5 v6 σ) σ 44 [(0, .ref (X.2.1 + 114)), (1, .int v1), (2, .int v2), (3, .int v3), (4, .int v4), (5, .int v5), (6, .int v6)] [] := by
  unfold Mo_look_L44B
  refine r_iload (pc := 44) 6 rfl hG dX12_look_44 ?_
  refine r_bipush (pc := 46) (v := 21) (by decide) hG dX12_look_46 ?_
  refine r_icmp_ge (pc := 48) (tgt := 145) (by decide) hG dX12_look_48 (fun h10 => ?_) (fun h10 => ?_)
  · exact r_sub [0, 1, 2, 3, 4, 5] rfl hG (w_Mo_look_J145 N hG hK30 v1 v2 v3 v4 v5 σ)
  · refine r_iconst (pc := 51) (v := 0) (by decide) hG dX12_look_51 ?_
    refine r_istore (pc := 52) (lv' := [(7, .int 0), (0, .ref (X.2.1 + 114)), (1, .int v1), (2, .int v2), (3, .int v3), (4, .int v4), (5, .int v5), (6, .int v6)]) (by decide) rfl hG dX12_look_52 ?_
    exact r_sub [1, 2, 3, 4, 5, 6, 7, 0] rfl hG (w_Mo_look_L54 N hG hK30 hK44 N v1 v2 v3 v4 v5 v6 0 σ)
set_option maxRecDepth 4000 in
theorem w_Mo_look_L44 {X : Cx} {G : GT (Int32 × St)} (N : Nat) (hG : IsG X RX12 cX12_look 8 4 (some .int) oWI G) {K30 : Int32 → Int32 → Int32 → Int32 → Int32 → St → Option (Int32 × St)} (hK30 : ∀ (v1 : Int32) (v2 : Int32) (v3 : Int32) (v4 : Int32) (v5 : Int32) (s : St), G (K30 v1 v2 v3 v4 v5 s) s 30 [(0, .ref (X.2.1 + 114)), (1, .int v1), (2, .int v2), (3, .int v3), (4, .int v4), (5, .int v5)] []) : ∀ (n : Nat), ∀ (v1 : Int32) (v2 : Int32) (v3 : Int32) (v4 : Int32) (v5 : Int32) (v6 : Int32) (σ : St), G (Mo_look_L44 N K30 n v1 v2 v3 v4 v5 v6 σ) σ 44 [(0, .ref (X.2.1 + 114)), (1, .int v1), (2, .int v2), (3, .int v3), (4, .int v4), (5, .int v5), (6, .int v6)] [] := by
  intro n
  induction n with
  | zero => intro v1 v2 v3 v4 v5 v6 σ; exact r_none hG
  | succ n ih => intro v1 v2 v3 v4 v5 v6 σ; exact w_Mo_look_L44B N hG hK30 ih v1 v2 v3 v4 v5 v6 σ
set_option maxRecDepth 4000 in
theorem w_Mo_look_L30B {X : Cx} {G : GT (Int32 × St)} (N : Nat) (hG : IsG X RX12 cX12_look 8 4 (some .int) oWI G) {K30 : Int32 → Int32 → Int32 → Int32 → Int32 → St → Option (Int32 × St)} (hK30 : ∀ (v1 : Int32) (v2 : Int32) (v3 : Int32) (v4 : Int32) (v5 : Int32) (s : St), G (K30 v1 v2 v3 v4 v5 s) s 30 [(0, .ref (X.2.1 + 114)), (1, .int v1), (2, .int v2), (3, .int v3), (4, .int v4), (5, .int v5)] []) (v1 : Int32) (v2 : Int32) (v3 : Int32) (v4 : Int32) (v5 : Int32) (σ : St) : G (Mo_look_L30B N K30 v1 v2 v3 v4 v5 σ) σ 30 [(0, .ref (X.2.1 + 114)), (1, .int v1), (2, .int v2), (3, .int v3), (4, .int v4), (5, .int v5)] [] := by
  unfold Mo_look_L30B
  refine r_iload (pc := 30) 5 rfl hG dX12_look_30 ?_
  refine r_bipush (pc := 32) (v := 10) (by decide) hG dX12_look_32 ?_
  refine r_icmp_ge (pc := 34) (tgt := 151) (by decide) hG dX12_look_34 (fun h8 => ?_) (fun h8 => ?_)
  · refine r_iload_n (pc := 151) 3 3 rfl rfl hG dX12_look_151 ?_
    exact r_iret (pc := 152) rfl hG dX12_look_152
  · refine r_iload_n (pc := 37) 2 2 rfl rfl hG dX12_look_37 ?_
    refine r_if_eq (pc := 38) (tgt := 151) (by decide) hG dX12_look_38 (fun h9 => ?_) (fun h9 => ?_)
    · refine r_iload_n (pc := 151) 3 3 rfl rfl hG dX12_look_151 ?_
      exact r_iret (pc := 152) rfl hG dX12_look_152
    · refine r_iconst (pc := 41) (v := 0) (by decide) hG dX12_look_41 ?_
      refine r_istore (pc := 42) (lv' := [(6, .int 0), (0, .ref (X.2.1 + 114)), (1, .int v1), (2, .int v2), (3, .int v3), (4, .int v4), (5, .int v5)]) (by decide) rfl hG dX12_look_42 ?_
      exact r_sub [1, 2, 3, 4, 5, 6, 0] rfl hG (w_Mo_look_L44 N hG hK30 N v1 v2 v3 v4 v5 0 σ)
set_option maxRecDepth 4000 in
theorem w_Mo_look_L30 {X : Cx} {G : GT (Int32 × St)} (N : Nat) (hG : IsG X RX12 cX12_look 8 4 (some .int) oWI G) : ∀ (n : Nat), ∀ (v1 : Int32) (v2 : Int32) (v3 : Int32) (v4 : Int32) (v5 : Int32) (σ : St), G (Mo_look_L30 N n v1 v2 v3 v4 v5 σ) σ 30 [(0, .ref (X.2.1 + 114)), (1, .int v1), (2, .int v2), (3, .int v3), (4, .int v4), (5, .int v5)] [] := by
  intro n
  induction n with
  | zero => intro v1 v2 v3 v4 v5 σ; exact r_none hG
  | succ n ih => intro v1 v2 v3 v4 v5 σ; exact w_Mo_look_L30B N hG ih v1 v2 v3 v4 v5 σ
set_option maxRecDepth 4000 in
theorem c_Mo_look (X : Cx) (N : Nat) (v1 : Int32) (σ : St) (r : Int32) (σ1 : St) (hE : Mo_look N v1 σ = some (r, σ1)) : Ctr X yX12_look cX12_look 8 (some .int) 4 [.ref (X.2.1 + 114), .int v1] σ (some (.int r)) σ1 := by
  refine Ctr.of (out := oWI) (E := Mo_look N v1 σ) rfl (Nat.le_of_ble_eq_true rfl) (fun G hG => ?_) (r, σ1) hE
  unfold Mo_look
  refine r_aload_n (pc := 0) 0 0 rfl rfl hG dX12_look_0 ?_
  refine r_iload_n (pc := 1) 1 1 rfl rfl hG dX12_look_1 ?_
  refine r_bR hG (fun r1 e3 => ?_)
  refine r_callVi (pc := 2) (As := [.int v1]) (c_Mo_isGuest X N v1 σ r1 e3) (wsOf_at (rfl : shp 114 = 12) (by decide) rfl) rfl mfX12_190_X12_isGuest hyVX12_isGuest (by decide) (by decide) rfl (Nat.le_of_ble_eq_true rfl) hG dX12_look_2 rfl (fun n2 => ?_)
  refine r_if_ne (pc := 5) (tgt := 15) (by decide) hG dX12_look_5 (fun h4 => ?_) (fun h4 => ?_)
  · refine r_aload_n (pc := 15) 0 0 rfl rfl hG dX12_look_15 ?_
    refine r_iload_n (pc := 16) 1 1 rfl rfl hG dX12_look_16 ?_
    refine r_bR hG (fun r5 e7 => ?_)
    refine r_callVi (pc := 17) (As := [.int v1]) (c_Mo_guestsOf X N v1 σ r5 e7) (wsOf_at (rfl : shp 114 = 12) (by decide) rfl) rfl mfX12_271_X12_guestsOf hyVX12_guestsOf (by decide) (by decide) rfl (Nat.le_of_ble_eq_true rfl) hG dX12_look_17 rfl (fun n6 => ?_)
    refine r_istore_n (pc := 20) (lv' := [(2, .int r5), (0, .ref (X.2.1 + 114)), (1, .int v1)]) 2 rfl (by decide) rfl hG dX12_look_20 ?_
    refine r_iconst (pc := 21) (v := (-1)) (by decide) hG dX12_look_21 ?_
    refine r_istore_n (pc := 22) (lv' := [(3, .int (-1)), (2, .int r5), (0, .ref (X.2.1 + 114)), (1, .int v1)]) 3 rfl (by decide) rfl hG dX12_look_22 ?_
    refine r_bipush (pc := 23) (v := 99) (by decide) hG dX12_look_23 ?_
    refine r_istore (pc := 25) (lv' := [(4, .int 99), (3, .int (-1)), (2, .int r5), (0, .ref (X.2.1 + 114)), (1, .int v1)]) (by decide) rfl hG dX12_look_25 ?_
    refine r_iconst (pc := 27) (v := 0) (by decide) hG dX12_look_27 ?_
    refine r_istore (pc := 28) (lv' := [(5, .int 0), (4, .int 99), (3, .int (-1)), (2, .int r5), (0, .ref (X.2.1 + 114)), (1, .int v1)]) (by decide) rfl hG dX12_look_28 ?_
    exact r_sub [4, 5, 3, 2, 1, 0] rfl hG (w_Mo_look_L30 N hG N v1 r5 (-1) 99 0 σ)
  · refine r_aload_n (pc := 8) 0 0 rfl rfl hG dX12_look_8 ?_
    refine r_bipush (pc := 9) (v := (-2)) (by decide) hG dX12_look_9 ?_
    refine r_bW hG (fun r30 s31 e33 => ?_)
    refine r_callVi (pc := 11) (As := [.int (-2)]) (c_Mo_bad X N (-2) σ r30 s31 e33) (wsOf_at (rfl : shp 114 = 12) (by decide) rfl) rfl mfX12_84_X12_bad hyVX12_bad (by decide) (by decide) rfl (Nat.le_of_ble_eq_true rfl) hG dX12_look_11 rfl (fun n32 => ?_)
    exact r_iret (pc := 14) rfl hG dX12_look_14
