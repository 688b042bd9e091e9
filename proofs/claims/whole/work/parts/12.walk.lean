set_option maxRecDepth 4000 in
theorem w_Ni_fold_J185 {σ : St} {X : Cx} {G : GT Int64} (N : Nat) (hG : IsG X RX4 cX4_fold 7 2 (some .long) (oL σ) G) {K141 : Nat → Int64 → Int32 → St → Option Int64} (hK141 : ∀ (v0 : Nat) (v3 : Int64) (v5 : Int32), shp v0 = 4 → G (K141 v0 v3 v5 σ) σ 141 [(0, .ref (X.2.1 + v0)), (3, .long v3), (5, .int v5)] []) (v0 : Nat) (v3 : Int64) (v5 : Int32) (hv0 : shp v0 = 4) : G (Ni_fold_J185 N K141 v0 v3 v5 σ) σ 185 [(0, .ref (X.2.1 + v0)), (3, .long v3), (5, .int v5)] [] := by
  unfold Ni_fold_J185
  refine r_bIinc (pc := 185) (lv' := fun x6 => [(5, .int x6), (0, .ref (X.2.1 + v0)), (3, .long v3)]) 2 rfl rfl (by decide) (fun _ => rfl) hG dX4_fold_185 (fun x6 => ?_)
  refine r_goto (pc := 188) (tgt := 141) (by decide) hG dX4_fold_188 ?_
  exact r_sub [1, 2, 0] rfl hG (hK141 v0 v3 x6 hv0)
set_option maxRecDepth 4000 in
theorem w_Ni_fold_L153B {σ : St} {X : Cx} {G : GT Int64} (N : Nat) (hG : IsG X RX4 cX4_fold 7 2 (some .long) (oL σ) G) {K141 : Nat → Int64 → Int32 → St → Option Int64} {K153 : Nat → Int64 → Int32 → Int32 → St → Option Int64} (hK141 : ∀ (v0 : Nat) (v3 : Int64) (v5 : Int32), shp v0 = 4 → G (K141 v0 v3 v5 σ) σ 141 [(0, .ref (X.2.1 + v0)), (3, .long v3), (5, .int v5)] []) (hK153 : ∀ (v0 : Nat) (v3 : Int64) (v5 : Int32) (v6 : Int32), shp v0 = 4 → G (K153 v0 v3 v5 v6 σ) σ 153 [(0, .ref (X.2.1 + v0)), (3, .long v3), (5, .int v5), (6, .int v6)] []) (v0 : Nat) (v3 : Int64) (v5 : Int32) (v6 : Int32) (hv0 : shp v0 = 4) : G (Ni_fold_L153B N K141 K153 v0 v3 v5 v6 σ) σ 153 [(0, .ref (X.2.1 + v0)), (3, .long v3), (5, .int v5), (6, .int v6)] [] := by
  unfold Ni_fold_L153B
  refine r_iload (pc := 153) 3 rfl hG dX4_fold_153 ?_
  refine r_iconst (pc := 155) (v := 5) (by decide) hG dX4_fold_155 ?_
  refine r_icmp_gt (pc := 156) (tgt := 185) (by decide) hG dX4_fold_156 (fun h5 => ?_) (fun h5 => ?_)
  · exact r_sub [0, 1, 2] rfl hG (w_Ni_fold_J185 N hG hK141 v0 v3 v5 hv0)
  · refine r_ldc2 (pc := 159) (v := 31) lk1119 hG dX4_fold_159 ?_
    refine r_lload_n (pc := 162) 1 3 rfl rfl hG dX4_fold_162 ?_
    refine r_lmul (pc := 163) hG dX4_fold_163 ?_
    refine r_aload_n (pc := 164) 0 0 rfl rfl hG dX4_fold_164 ?_
    refine gf4_3 (pc := 165) (i := v0) hv0 lk226 hG dX4_fold_165 ?_
    refine r_iload (pc := 168) 2 rfl hG dX4_fold_168 ?_
    refine r_ck hG (fun h7 => ?_)
    refine r_aGuests (pc := 170) (i := v0) (sh4_4 hv0) (ln4_4 hv0) h7 hG dX4_fold_170 ?_
    refine r_iload (pc := 171) 3 rfl hG dX4_fold_171 ?_
    refine r_bR hG (fun r8 e10 => ?_)
    refine r_callVi (pc := 173) (As := [.int v6]) (c_Gu_fact X N (v0 + 16 + (v5).toNatClampNeg) v6 σ (shGu hv0 h7) r8 e10) (wsOf_at (shGu hv0 h7) (by decide) rfl) rfl mfX4_136_X1_fact hyVX1_fact (by decide) (by decide) rfl (Nat.le_of_ble_eq_true rfl) hG dX4_fold_173 rfl (fun n9 => ?_)
    refine r_i2l (pc := 176) hG dX4_fold_176 ?_
    refine r_ladd (pc := 177) hG dX4_fold_177 ?_
    refine r_bL hG (fun x11 => ?_)
    refine r_lstore_n (pc := 178) (lv' := [(3, .long x11), (0, .ref (X.2.1 + v0)), (5, .int v5), (6, .int v6)]) 3 rfl (by decide) rfl hG dX4_fold_178 ?_
    refine r_bIinc (pc := 179) (lv' := fun x12 => [(6, .int x12), (3, .long x11), (0, .ref (X.2.1 + v0)), (5, .int v5)]) 3 rfl rfl (by decide) (fun _ => rfl) hG dX4_fold_179 (fun x12 => ?_)
    refine r_goto (pc := 182) (tgt := 153) (by decide) hG dX4_fold_182 ?_
    exact r_sub [2, 1, 3, 0] rfl hG (hK153 v0 x11 v5 x12 hv0)
set_option maxRecDepth 4000 in
theorem w_Ni_fold_L153 {σ : St} {X : Cx} {G : GT Int64} (N : Nat) (hG : IsG X RX4 cX4_fold 7 2 (some .long) (oL σ) G) {K141 : Nat → Int64 → Int32 → St → Option Int64} (hK141 : ∀ (v0 : Nat) (v3 : Int64) (v5 : Int32), shp v0 = 4 → G (K141 v0 v3 v5 σ) σ 141 [(0, .ref (X.2.1 + v0)), (3, .long v3), (5, .int v5)] []) : ∀ (n : Nat), ∀ (v0 : Nat) (v3 : Int64) (v5 : Int32) (v6 : Int32), shp v0 = 4 → G (Ni_fold_L153 N K141 n v0 v3 v5 v6 σ) σ 153 [(0, .ref (X.2.1 + v0)), (3, .long v3), (5, .int v5), (6, .int v6)] [] := by
  intro n
  induction n with
  | zero => intro v0 v3 v5 v6 hv0; exact r_none hG
  | succ n ih => intro v0 v3 v5 v6 hv0; exact w_Ni_fold_L153B N hG hK141 ih v0 v3 v5 v6 hv0
set_option maxRecDepth 4000 in
theorem w_Ni_fold_L141B {σ : St} {X : Cx} {G : GT Int64} (N : Nat) (hG : IsG X RX4 cX4_fold 7 2 (some .long) (oL σ) G) {K141 : Nat → Int64 → Int32 → St → Option Int64} (hK141 : ∀ (v0 : Nat) (v3 : Int64) (v5 : Int32), shp v0 = 4 → G (K141 v0 v3 v5 σ) σ 141 [(0, .ref (X.2.1 + v0)), (3, .long v3), (5, .int v5)] []) (v0 : Nat) (v3 : Int64) (v5 : Int32) (hv0 : shp v0 = 4) : G (Ni_fold_L141B N K141 v0 v3 v5 σ) σ 141 [(0, .ref (X.2.1 + v0)), (3, .long v3), (5, .int v5)] [] := by
  unfold Ni_fold_L141B
  refine r_iload (pc := 141) 2 rfl hG dX4_fold_141 ?_
  refine r_aload_n (pc := 143) 0 0 rfl rfl hG dX4_fold_143 ?_
  refine gf4_5 (pc := 144) (i := v0) hv0 lk238 hG dX4_fold_144 ?_
  refine r_icmp_ge (pc := 147) (tgt := 191) (by decide) hG dX4_fold_147 (fun h4 => ?_) (fun h4 => ?_)
  · refine r_lload_n (pc := 191) 1 3 rfl rfl hG dX4_fold_191 ?_
    exact r_lret (pc := 192) rfl hG dX4_fold_192
  · refine r_iconst (pc := 150) (v := 0) (by decide) hG dX4_fold_150 ?_
    refine r_istore (pc := 151) (lv' := [(6, .int 0), (0, .ref (X.2.1 + v0)), (3, .long v3), (5, .int v5)]) (by decide) rfl hG dX4_fold_151 ?_
    exact r_sub [1, 2, 3, 0] rfl hG (w_Ni_fold_L153 N hG hK141 N v0 v3 v5 0 hv0)
set_option maxRecDepth 4000 in
theorem w_Ni_fold_L141 {σ : St} {X : Cx} {G : GT Int64} (N : Nat) (hG : IsG X RX4 cX4_fold 7 2 (some .long) (oL σ) G) : ∀ (n : Nat), ∀ (v0 : Nat) (v3 : Int64) (v5 : Int32), shp v0 = 4 → G (Ni_fold_L141 N n v0 v3 v5 σ) σ 141 [(0, .ref (X.2.1 + v0)), (3, .long v3), (5, .int v5)] [] := by
  intro n
  induction n with
  | zero => intro v0 v3 v5 hv0; exact r_none hG
  | succ n ih => intro v0 v3 v5 hv0; exact w_Ni_fold_L141B N hG ih v0 v3 v5 hv0
set_option maxRecDepth 4000 in
theorem w_Ni_fold_J138 {σ : St} {X : Cx} {G : GT Int64} (N : Nat) (hG : IsG X RX4 cX4_fold 7 2 (some .long) (oL σ) G) (v0 : Nat) (v3 : Int64) (hv0 : shp v0 = 4) : G (Ni_fold_J138 N v0 v3 σ) σ 138 [(0, .ref (X.2.1 + v0)), (3, .long v3)] [] := by
  unfold Ni_fold_J138
  refine r_iconst (pc := 138) (v := 0) (by decide) hG dX4_fold_138 ?_
  refine r_istore (pc := 139) (lv' := [(5, .int 0), (0, .ref (X.2.1 + v0)), (3, .long v3)]) (by decide) rfl hG dX4_fold_139 ?_
  exact r_sub [1, 2, 0] rfl hG (w_Ni_fold_L141 N hG N v0 v3 0 hv0)
set_option maxRecDepth 4000 in
theorem w_Ni_fold_L87B {σ : St} {X : Cx} {G : GT Int64} (N : Nat) (hG : IsG X RX4 cX4_fold 7 2 (some .long) (oL σ) G) {K87 : Nat → Int64 → Int32 → St → Option Int64} (hK87 : ∀ (v0 : Nat) (v3 : Int64) (v5 : Int32), shp v0 = 4 → G (K87 v0 v3 v5 σ) σ 87 [(0, .ref (X.2.1 + v0)), (3, .long v3), (5, .int v5)] []) (v0 : Nat) (v3 : Int64) (v5 : Int32) (hv0 : shp v0 = 4) : G (Ni_fold_L87B N K87 v0 v3 v5 σ) σ 87 [(0, .ref (X.2.1 + v0)), (3, .long v3), (5, .int v5)] [] := by
  unfold Ni_fold_L87B
  refine r_iload (pc := 87) 2 rfl hG dX4_fold_87 ?_
  refine r_aload_n (pc := 89) 0 0 rfl rfl hG dX4_fold_89 ?_
  refine gf4_4 (pc := 90) (i := v0) hv0 lk233 hG dX4_fold_90 ?_
  refine r_icmp_ge (pc := 93) (tgt := 138) (by decide) hG dX4_fold_93 (fun h3 => ?_) (fun h3 => ?_)
  · exact r_sub [0, 1] rfl hG (w_Ni_fold_J138 N hG v0 v3 hv0)
  · refine r_ldc2 (pc := 96) (v := 31) lk1119 hG dX4_fold_96 ?_
    refine r_lload_n (pc := 99) 1 3 rfl rfl hG dX4_fold_99 ?_
    refine r_lmul (pc := 100) hG dX4_fold_100 ?_
    refine r_aload_n (pc := 101) 0 0 rfl rfl hG dX4_fold_101 ?_
    refine gf4_2 (pc := 102) (i := v0) hv0 lk221 hG dX4_fold_102 ?_
    refine r_iload (pc := 105) 2 rfl hG dX4_fold_105 ?_
    refine r_ck hG (fun h13 => ?_)
    refine r_aRowers (pc := 107) (i := v0) (sh4_3 hv0) (ln4_3 hv0) h13 hG dX4_fold_107 ?_
    refine gf7_0 (pc := 108) (i := (v0 + 13 + (v5).toNatClampNeg)) (shRo hv0 h13) lk157 hG dX4_fold_108 ?_
    refine r_i2l (pc := 111) hG dX4_fold_111 ?_
    refine r_ladd (pc := 112) hG dX4_fold_112 ?_
    refine r_bL hG (fun x14 => ?_)
    refine r_lstore_n (pc := 113) (lv' := [(3, .long x14), (0, .ref (X.2.1 + v0)), (5, .int v5)]) 3 rfl (by decide) rfl hG dX4_fold_113 ?_
    refine r_ldc2 (pc := 114) (v := 31) lk1119 hG dX4_fold_114 ?_
    refine r_lload_n (pc := 117) 0 3 rfl rfl hG dX4_fold_117 ?_
    refine r_lmul (pc := 118) hG dX4_fold_118 ?_
    refine r_aload_n (pc := 119) 1 0 rfl rfl hG dX4_fold_119 ?_
    refine gf4_2 (pc := 120) (i := v0) hv0 lk221 hG dX4_fold_120 ?_
    refine r_iload (pc := 123) 2 rfl hG dX4_fold_123 ?_
    refine r_ck hG (fun h15 => ?_)
    refine r_aRowers (pc := 125) (i := v0) (sh4_3 hv0) (ln4_3 hv0) h15 hG dX4_fold_125 ?_
    refine gf7_1 (pc := 126) (i := (v0 + 13 + (v5).toNatClampNeg)) (shRo hv0 h15) lk160 hG dX4_fold_126 ?_
    refine r_i2l (pc := 129) hG dX4_fold_129 ?_
    refine r_ladd (pc := 130) hG dX4_fold_130 ?_
    refine r_bL hG (fun x16 => ?_)
    refine r_lstore_n (pc := 131) (lv' := [(3, .long x16), (0, .ref (X.2.1 + v0)), (5, .int v5)]) 3 rfl (by decide) rfl hG dX4_fold_131 ?_
    refine r_bIinc (pc := 132) (lv' := fun x17 => [(5, .int x17), (3, .long x16), (0, .ref (X.2.1 + v0))]) 2 rfl rfl (by decide) (fun _ => rfl) hG dX4_fold_132 (fun x17 => ?_)
    refine r_goto (pc := 135) (tgt := 87) (by decide) hG dX4_fold_135 ?_
    exact r_sub [2, 1, 0] rfl hG (hK87 v0 x16 x17 hv0)
set_option maxRecDepth 4000 in
theorem w_Ni_fold_L87 {σ : St} {X : Cx} {G : GT Int64} (N : Nat) (hG : IsG X RX4 cX4_fold 7 2 (some .long) (oL σ) G) : ∀ (n : Nat), ∀ (v0 : Nat) (v3 : Int64) (v5 : Int32), shp v0 = 4 → G (Ni_fold_L87 N n v0 v3 v5 σ) σ 87 [(0, .ref (X.2.1 + v0)), (3, .long v3), (5, .int v5)] [] := by
  intro n
  induction n with
  | zero => intro v0 v3 v5 hv0; exact r_none hG
  | succ n ih => intro v0 v3 v5 hv0; exact w_Ni_fold_L87B N hG ih v0 v3 v5 hv0
set_option maxRecDepth 4000 in
theorem w_Ni_fold_J84 {σ : St} {X : Cx} {G : GT Int64} (N : Nat) (hG : IsG X RX4 cX4_fold 7 2 (some .long) (oL σ) G) (v0 : Nat) (v3 : Int64) (hv0 : shp v0 = 4) : G (Ni_fold_J84 N v0 v3 σ) σ 84 [(0, .ref (X.2.1 + v0)), (3, .long v3)] [] := by
  unfold Ni_fold_J84
  refine r_iconst (pc := 84) (v := 0) (by decide) hG dX4_fold_84 ?_
  refine r_istore (pc := 85) (lv' := [(5, .int 0), (0, .ref (X.2.1 + v0)), (3, .long v3)]) (by decide) rfl hG dX4_fold_85 ?_
  exact r_sub [1, 2, 0] rfl hG (w_Ni_fold_L87 N hG N v0 v3 0 hv0)
set_option maxRecDepth 4000 in
theorem w_Ni_fold_J78 {σ : St} {X : Cx} {G : GT Int64} (N : Nat) (hG : IsG X RX4 cX4_fold 7 2 (some .long) (oL σ) G) {K36 : Nat → Int64 → Int32 → St → Option Int64} (hK36 : ∀ (v0 : Nat) (v3 : Int64) (v5 : Int32), shp v0 = 4 → G (K36 v0 v3 v5 σ) σ 36 [(0, .ref (X.2.1 + v0)), (3, .long v3), (5, .int v5)] []) (v0 : Nat) (v3 : Int64) (v5 : Int32) (hv0 : shp v0 = 4) : G (Ni_fold_J78 N K36 v0 v3 v5 σ) σ 78 [(0, .ref (X.2.1 + v0)), (3, .long v3), (5, .int v5)] [] := by
  unfold Ni_fold_J78
  refine r_bIinc (pc := 78) (lv' := fun x20 => [(5, .int x20), (0, .ref (X.2.1 + v0)), (3, .long v3)]) 2 rfl rfl (by decide) (fun _ => rfl) hG dX4_fold_78 (fun x20 => ?_)
  refine r_goto (pc := 81) (tgt := 36) (by decide) hG dX4_fold_81 ?_
  exact r_sub [1, 2, 0] rfl hG (hK36 v0 v3 x20 hv0)
set_option maxRecDepth 4000 in
theorem w_Ni_fold_L49B {σ : St} {X : Cx} {G : GT Int64} (N : Nat) (hG : IsG X RX4 cX4_fold 7 2 (some .long) (oL σ) G) {K36 : Nat → Int64 → Int32 → St → Option Int64} {K49 : Nat → Int64 → Int32 → Int32 → St → Option Int64} (hK36 : ∀ (v0 : Nat) (v3 : Int64) (v5 : Int32), shp v0 = 4 → G (K36 v0 v3 v5 σ) σ 36 [(0, .ref (X.2.1 + v0)), (3, .long v3), (5, .int v5)] []) (hK49 : ∀ (v0 : Nat) (v3 : Int64) (v5 : Int32) (v6 : Int32), shp v0 = 4 → G (K49 v0 v3 v5 v6 σ) σ 49 [(0, .ref (X.2.1 + v0)), (3, .long v3), (5, .int v5), (6, .int v6)] []) (v0 : Nat) (v3 : Int64) (v5 : Int32) (v6 : Int32) (hv0 : shp v0 = 4) : G (Ni_fold_L49B N K36 K49 v0 v3 v5 v6 σ) σ 49 [(0, .ref (X.2.1 + v0)), (3, .long v3), (5, .int v5), (6, .int v6)] [] := by
  unfold Ni_fold_L49B
  refine r_iload (pc := 49) 3 rfl hG dX4_fold_49 ?_
  refine r_bipush (pc := 51) (v := 8) (by decide) hG dX4_fold_51 ?_
  refine r_icmp_ge (pc := 53) (tgt := 78) (by decide) hG dX4_fold_53 (fun h19 => ?_) (fun h19 => ?_)
  · exact r_sub [0, 1, 2] rfl hG (w_Ni_fold_J78 N hG hK36 v0 v3 v5 hv0)
  · refine r_ldc2 (pc := 56) (v := 31) lk1119 hG dX4_fold_56 ?_
    refine r_lload_n (pc := 59) 1 3 rfl rfl hG dX4_fold_59 ?_
    refine r_lmul (pc := 60) hG dX4_fold_60 ?_
    refine r_aload_n (pc := 61) 0 0 rfl rfl hG dX4_fold_61 ?_
    refine r_iload (pc := 62) 2 rfl hG dX4_fold_62 ?_
    refine r_iload (pc := 64) 3 rfl hG dX4_fold_64 ?_
    refine r_bR hG (fun r21 e23 => ?_)
    refine r_callVi (pc := 66) (As := [.int v5, .int v6]) (c_Ni_strokesBetween X N v0 v5 v6 σ hv0 r21 e23) (wsOf_at hv0 (by decide) rfl) rfl mfX4_96_X4_strokesBetween hyVX4_strokesBetween (by decide) (by decide) rfl (Nat.le_of_ble_eq_true rfl) hG dX4_fold_66 rfl (fun n22 => ?_)
    refine r_i2l (pc := 69) hG dX4_fold_69 ?_
    refine r_ladd (pc := 70) hG dX4_fold_70 ?_
    refine r_bL hG (fun x24 => ?_)
    refine r_lstore_n (pc := 71) (lv' := [(3, .long x24), (0, .ref (X.2.1 + v0)), (5, .int v5), (6, .int v6)]) 3 rfl (by decide) rfl hG dX4_fold_71 ?_
    refine r_bIinc (pc := 72) (lv' := fun x25 => [(6, .int x25), (3, .long x24), (0, .ref (X.2.1 + v0)), (5, .int v5)]) 3 rfl rfl (by decide) (fun _ => rfl) hG dX4_fold_72 (fun x25 => ?_)
    refine r_goto (pc := 75) (tgt := 49) (by decide) hG dX4_fold_75 ?_
    exact r_sub [2, 1, 3, 0] rfl hG (hK49 v0 x24 v5 x25 hv0)
set_option maxRecDepth 4000 in
theorem w_Ni_fold_L49 {σ : St} {X : Cx} {G : GT Int64} (N : Nat) (hG : IsG X RX4 cX4_fold 7 2 (some .long) (oL σ) G) {K36 : Nat → Int64 → Int32 → St → Option Int64} (hK36 : ∀ (v0 : Nat) (v3 : Int64) (v5 : Int32), shp v0 = 4 → G (K36 v0 v3 v5 σ) σ 36 [(0, .ref (X.2.1 + v0)), (3, .long v3), (5, .int v5)] []) : ∀ (n : Nat), ∀ (v0 : Nat) (v3 : Int64) (v5 : Int32) (v6 : Int32), shp v0 = 4 → G (Ni_fold_L49 N K36 n v0 v3 v5 v6 σ) σ 49 [(0, .ref (X.2.1 + v0)), (3, .long v3), (5, .int v5), (6, .int v6)] [] := by
  intro n
  induction n with
  | zero => intro v0 v3 v5 v6 hv0; exact r_none hG
  | succ n ih => intro v0 v3 v5 v6 hv0; exact w_Ni_fold_L49B N hG hK36 ih v0 v3 v5 v6 hv0
set_option maxRecDepth 4000 in
theorem w_Ni_fold_L36B {σ : St} {X : Cx} {G : GT Int64} (N : Nat) (hG : IsG X RX4 cX4_fold 7 2 (some .long) (oL σ) G) {K36 : Nat → Int64 → Int32 → St → Option Int64} (hK36 : ∀ (v0 : Nat) (v3 : Int64) (v5 : Int32), shp v0 = 4 → G (K36 v0 v3 v5 σ) σ 36 [(0, .ref (X.2.1 + v0)), (3, .long v3), (5, .int v5)] []) (v0 : Nat) (v3 : Int64) (v5 : Int32) (hv0 : shp v0 = 4) : G (Ni_fold_L36B N K36 v0 v3 v5 σ) σ 36 [(0, .ref (X.2.1 + v0)), (3, .long v3), (5, .int v5)] [] := by
  unfold Ni_fold_L36B
  refine r_iload (pc := 36) 2 rfl hG dX4_fold_36 ?_
  refine r_bipush (pc := 38) (v := 7) (by decide) hG dX4_fold_38 ?_
  refine r_icmp_ge (pc := 40) (tgt := 84) (by decide) hG dX4_fold_40 (fun h2 => ?_) (fun h2 => ?_)
  · exact r_sub [0, 1] rfl hG (w_Ni_fold_J84 N hG v0 v3 hv0)
  · refine r_iload (pc := 43) 2 rfl hG dX4_fold_43 ?_
    refine r_iconst (pc := 45) (v := 1) (by decide) hG dX4_fold_45 ?_
    refine r_iadd (pc := 46) hG dX4_fold_46 ?_
    refine r_bI hG (fun x18 => ?_)
    refine r_istore (pc := 47) (lv' := [(6, .int x18), (0, .ref (X.2.1 + v0)), (3, .long v3), (5, .int v5)]) (by decide) rfl hG dX4_fold_47 ?_
    exact r_sub [1, 2, 3, 0] rfl hG (w_Ni_fold_L49 N hG hK36 N v0 v3 v5 x18 hv0)
set_option maxRecDepth 4000 in
theorem w_Ni_fold_L36 {σ : St} {X : Cx} {G : GT Int64} (N : Nat) (hG : IsG X RX4 cX4_fold 7 2 (some .long) (oL σ) G) : ∀ (n : Nat), ∀ (v0 : Nat) (v3 : Int64) (v5 : Int32), shp v0 = 4 → G (Ni_fold_L36 N n v0 v3 v5 σ) σ 36 [(0, .ref (X.2.1 + v0)), (3, .long v3), (5, .int v5)] [] := by
  intro n
  induction n with
  | zero => intro v0 v3 v5 hv0; exact r_none hG
  | succ n ih => intro v0 v3 v5 hv0; exact w_Ni_fold_L36B N hG ih v0 v3 v5 hv0
set_option maxRecDepth 4000 in
theorem w_Ni_fold_J33 {σ : St} {X : Cx} {G : GT Int64} (N : Nat) (hG : IsG X RX4 cX4_fold 7 2 (some .long) (oL σ) G) (v0 : Nat) (v3 : Int64) (hv0 : shp v0 = 4) : G (Ni_fold_J33 N v0 v3 σ) σ 33 [(0, .ref (X.2.1 + v0)), (3, .long v3)] [] := by
  unfold Ni_fold_J33
  refine r_iconst (pc := 33) (v := 0) (by decide) hG dX4_fold_33 ?_
  refine r_istore (pc := 34) (lv' := [(5, .int 0), (0, .ref (X.2.1 + v0)), (3, .long v3)]) (by decide) rfl hG dX4_fold_34 ?_
  exact r_sub [1, 2, 0] rfl hG (w_Ni_fold_L36 N hG N v0 v3 0 hv0)
set_option maxRecDepth 4000 in
theorem w_Ni_fold_L5B {σ : St} {X : Cx} {G : GT Int64} (N : Nat) (hG : IsG X RX4 cX4_fold 7 2 (some .long) (oL σ) G) {K5 : Nat → Int64 → Int32 → St → Option Int64} (hK5 : ∀ (v0 : Nat) (v3 : Int64) (v5 : Int32), shp v0 = 4 → G (K5 v0 v3 v5 σ) σ 5 [(0, .ref (X.2.1 + v0)), (3, .long v3), (5, .int v5)] []) (v0 : Nat) (v3 : Int64) (v5 : Int32) (hv0 : shp v0 = 4) : G (Ni_fold_L5B N K5 v0 v3 v5 σ) σ 5 [(0, .ref (X.2.1 + v0)), (3, .long v3), (5, .int v5)] [] := by
  unfold Ni_fold_L5B
  refine r_iload (pc := 5) 2 rfl hG dX4_fold_5 ?_
  refine r_bipush (pc := 7) (v := 8) (by decide) hG dX4_fold_7 ?_
  refine r_icmp_ge (pc := 9) (tgt := 33) (by decide) hG dX4_fold_9 (fun h1 => ?_) (fun h1 => ?_)
  · exact r_sub [0, 1] rfl hG (w_Ni_fold_J33 N hG v0 v3 hv0)
  · refine r_ldc2 (pc := 12) (v := 31) lk1119 hG dX4_fold_12 ?_
    refine r_lload_n (pc := 15) 1 3 rfl rfl hG dX4_fold_15 ?_
    refine r_lmul (pc := 16) hG dX4_fold_16 ?_
    refine r_aload_n (pc := 17) 0 0 rfl rfl hG dX4_fold_17 ?_
    refine gf4_0 (pc := 18) (i := v0) hv0 lk217 hG dX4_fold_18 ?_
    refine r_iload (pc := 21) 2 rfl hG dX4_fold_21 ?_
    refine r_ck hG (fun h26 => ?_)
    refine r_iald (pc := 23) (i := (v0 + 1)) (sh4_1 hv0) (ln4_1 hv0) h26 hG dX4_fold_23 ?_
    refine r_i2l (pc := 24) hG dX4_fold_24 ?_
    refine r_ladd (pc := 25) hG dX4_fold_25 ?_
    refine r_bL hG (fun x27 => ?_)
    refine r_lstore_n (pc := 26) (lv' := [(3, .long x27), (0, .ref (X.2.1 + v0)), (5, .int v5)]) 3 rfl (by decide) rfl hG dX4_fold_26 ?_
    refine r_bIinc (pc := 27) (lv' := fun x28 => [(5, .int x28), (3, .long x27), (0, .ref (X.2.1 + v0))]) 2 rfl rfl (by decide) (fun _ => rfl) hG dX4_fold_27 (fun x28 => ?_)
    refine r_goto (pc := 30) (tgt := 5) (by decide) hG dX4_fold_30 ?_
    exact r_sub [2, 1, 0] rfl hG (hK5 v0 x27 x28 hv0)
set_option maxRecDepth 4000 in
theorem w_Ni_fold_L5 {σ : St} {X : Cx} {G : GT Int64} (N : Nat) (hG : IsG X RX4 cX4_fold 7 2 (some .long) (oL σ) G) : ∀ (n : Nat), ∀ (v0 : Nat) (v3 : Int64) (v5 : Int32), shp v0 = 4 → G (Ni_fold_L5 N n v0 v3 v5 σ) σ 5 [(0, .ref (X.2.1 + v0)), (3, .long v3), (5, .int v5)] [] := by
  intro n
  induction n with
  | zero => intro v0 v3 v5 hv0; exact r_none hG
  | succ n ih => intro v0 v3 v5 hv0; exact w_Ni_fold_L5B N hG ih v0 v3 v5 hv0
set_option maxRecDepth 4000 in
theorem c_Ni_fold (X : Cx) (N : Nat) (v0 : Nat) (v1 : Int64) (σ : St) (hv0 : shp v0 = 4) (r : Int64) (hE : Ni_fold N v0 v1 σ = some r) : Ctr X yX4_fold cX4_fold 7 (some .long) 2 [.ref (X.2.1 + v0), .long v1] σ (some (.long r)) σ := by
  refine Ctr.of (out := (oL σ)) (E := Ni_fold N v0 v1 σ) rfl (Nat.le_of_ble_eq_true rfl) (fun G hG => ?_) r hE
  unfold Ni_fold
  refine r_lload_n (pc := 0) 1 1 rfl rfl hG dX4_fold_0 ?_
  refine r_lstore_n (pc := 1) (lv' := [(3, .long v1), (0, .ref (X.2.1 + v0)), (1, .long v1)]) 3 rfl (by decide) rfl hG dX4_fold_1 ?_
  refine r_iconst (pc := 2) (v := 0) (by decide) hG dX4_fold_2 ?_
  refine r_istore (pc := 3) (lv' := [(5, .int 0), (3, .long v1), (0, .ref (X.2.1 + v0)), (1, .long v1)]) (by decide) rfl hG dX4_fold_3 ?_
  exact r_sub [2, 1, 0] rfl hG (w_Ni_fold_L5 N hG N v0 v1 0 hv0)
set_option maxRecDepth 4000 in
theorem w_Pa_keep_J120 {X : Cx} {G : GT St} (N : Nat) (hG : IsG X RX5 cX5_keep 5 2 none oWV G) (v0 : Nat) (σ : St) (hv0 : shp v0 = 5) : G (Pa_keep_J120 N v0 σ) σ 120 [(0, .ref (X.2.1 + v0))] [] := by
  unfold Pa_keep_J120
  refine r_aload_n (pc := 120) 0 0 rfl rfl hG dX5_keep_120 ?_
  refine r_dup (pc := 121) rfl hG dX5_keep_121 ?_
  refine gf5_1 (pc := 122) (i := v0) hv0 lk142 hG dX5_keep_122 ?_
  refine r_iconst (pc := 125) (v := 1) (by decide) hG dX5_keep_125 ?_
  refine r_iadd (pc := 126) hG dX5_keep_126 ?_
  refine pf5_1 (pc := 127) (i := v0) hv0 lk142 hG dX5_keep_127 ?_
  refine r_bS hG (fun s3 => ?_)
  exact r_vret (pc := 130) rfl hG dX5_keep_130
set_option maxRecDepth 4000 in
theorem w_Pa_keep_L39B {X : Cx} {G : GT St} (N : Nat) (hG : IsG X RX5 cX5_keep 5 2 none oWV G) {K39 : Nat → Nat → Int32 → St → Option St} (hK39 : ∀ (v0 : Nat) (v1 : Nat) (v2 : Int32) (s : St), shp v0 = 5 → shp v1 = 4 → G (K39 v0 v1 v2 s) s 39 [(0, .ref (X.2.1 + v0)), (1, .ref (X.2.1 + v1)), (2, .int v2)] []) (v0 : Nat) (v1 : Nat) (v2 : Int32) (σ : St) (hv0 : shp v0 = 5) (hv1 : shp v1 = 4) : G (Pa_keep_L39B N K39 v0 v1 v2 σ) σ 39 [(0, .ref (X.2.1 + v0)), (1, .ref (X.2.1 + v1)), (2, .int v2)] [] := by
  unfold Pa_keep_L39B
  refine r_iload_n (pc := 39) 2 2 rfl rfl hG dX5_keep_39 ?_
  refine r_iconst (pc := 40) (v := 4) (by decide) hG dX5_keep_40 ?_
  refine r_icmp_ge (pc := 41) (tgt := 120) (by decide) hG dX5_keep_41 (fun h2 => ?_) (fun h2 => ?_)
  · exact r_sub [0] rfl hG (w_Pa_keep_J120 N hG v0 σ hv0)
  · refine r_aload_n (pc := 44) 0 0 rfl rfl hG dX5_keep_44 ?_
    refine gf5_1 (pc := 45) (i := v0) hv0 lk142 hG dX5_keep_45 ?_
    refine r_bipush (pc := 48) (v := 16) (by decide) hG dX5_keep_48 ?_
    refine r_imul (pc := 50) hG dX5_keep_50 ?_
    refine r_iload_n (pc := 51) 2 2 rfl rfl hG dX5_keep_51 ?_
    refine r_iconst (pc := 52) (v := 4) (by decide) hG dX5_keep_52 ?_
    refine r_imul (pc := 53) hG dX5_keep_53 ?_
    refine r_iadd (pc := 54) hG dX5_keep_54 ?_
    refine r_bI hG (fun x4 => ?_)
    refine r_istore_n (pc := 55) (lv' := [(3, .int x4), (0, .ref (X.2.1 + v0)), (1, .ref (X.2.1 + v1)), (2, .int v2)]) 3 rfl (by decide) rfl hG dX5_keep_55 ?_
    refine r_aload_n (pc := 56) 2 1 rfl rfl hG dX5_keep_56 ?_
    refine gf4_3 (pc := 57) (i := v1) hv1 lk228 hG dX5_keep_57 ?_
    refine r_iload_n (pc := 60) 3 2 rfl rfl hG dX5_keep_60 ?_
    refine r_ck hG (fun h5 => ?_)
    refine r_aGuests (pc := 61) (i := v1) (sh4_4 hv1) (ln4_4 hv1) h5 hG dX5_keep_61 ?_
    refine r_astore (pc := 62) (lv' := [(4, .ref (X.2.1 + (v1 + 16 + (v2).toNatClampNeg))), (3, .int x4), (0, .ref (X.2.1 + v0)), (1, .ref (X.2.1 + v1)), (2, .int v2)]) (by decide) rfl hG dX5_keep_62 ?_
    refine r_aload_n (pc := 64) 2 0 rfl rfl hG dX5_keep_64 ?_
    refine gf5_0 (pc := 65) (i := v0) hv0 lk141 hG dX5_keep_65 ?_
    refine r_iload_n (pc := 68) 1 3 rfl rfl hG dX5_keep_68 ?_
    refine r_aload (pc := 69) 0 rfl hG dX5_keep_69 ?_
    refine gf1_2 (pc := 71) (i := (v1 + 16 + (v2).toNatClampNeg)) (shGu hv1 h5) lk181 hG dX5_keep_71 ?_
    refine r_ck hG (fun h6 => ?_)
    refine r_iast (pc := 74) (i := (v0 + 1)) (sh5_1 hv0) (ln5_1 hv0) h6 hG dX5_keep_74 ?_
    refine r_bS hG (fun s7 => ?_)
    refine r_aload_n (pc := 75) 2 0 rfl rfl hG dX5_keep_75 ?_
    refine gf5_0 (pc := 76) (i := v0) hv0 lk141 hG dX5_keep_76 ?_
    refine r_iload_n (pc := 79) 1 3 rfl rfl hG dX5_keep_79 ?_
    refine r_iconst (pc := 80) (v := 1) (by decide) hG dX5_keep_80 ?_
    refine r_iadd (pc := 81) hG dX5_keep_81 ?_
    refine r_aload (pc := 82) 0 rfl hG dX5_keep_82 ?_
    refine gf1_3 (pc := 84) (i := (v1 + 16 + (v2).toNatClampNeg)) (shGu hv1 h5) lk187 hG dX5_keep_84 ?_
    refine r_ck hG (fun h8 => ?_)
    refine r_iast (pc := 87) (i := (v0 + 1)) (sh5_1 hv0) (ln5_1 hv0) h8 hG dX5_keep_87 ?_
    refine r_bS hG (fun s9 => ?_)
    refine r_aload_n (pc := 88) 2 0 rfl rfl hG dX5_keep_88 ?_
    refine gf5_0 (pc := 89) (i := v0) hv0 lk141 hG dX5_keep_89 ?_
    refine r_iload_n (pc := 92) 1 3 rfl rfl hG dX5_keep_92 ?_
    refine r_iconst (pc := 93) (v := 2) (by decide) hG dX5_keep_93 ?_
    refine r_iadd (pc := 94) hG dX5_keep_94 ?_
    refine r_aload (pc := 95) 0 rfl hG dX5_keep_95 ?_
    refine gf1_4 (pc := 97) (i := (v1 + 16 + (v2).toNatClampNeg)) (shGu hv1 h5) lk194 hG dX5_keep_97 ?_
    refine r_ck hG (fun h10 => ?_)
    refine r_iast (pc := 100) (i := (v0 + 1)) (sh5_1 hv0) (ln5_1 hv0) h10 hG dX5_keep_100 ?_
    refine r_bS hG (fun s11 => ?_)
    refine r_aload_n (pc := 101) 2 0 rfl rfl hG dX5_keep_101 ?_
    refine gf5_0 (pc := 102) (i := v0) hv0 lk141 hG dX5_keep_102 ?_
    refine r_iload_n (pc := 105) 1 3 rfl rfl hG dX5_keep_105 ?_
    refine r_iconst (pc := 106) (v := 3) (by decide) hG dX5_keep_106 ?_
    refine r_iadd (pc := 107) hG dX5_keep_107 ?_
    refine r_aload (pc := 108) 0 rfl hG dX5_keep_108 ?_
    refine gf1_5 (pc := 110) (i := (v1 + 16 + (v2).toNatClampNeg)) (shGu hv1 h5) lk201 hG dX5_keep_110 ?_
    refine r_ck hG (fun h12 => ?_)
    refine r_iast (pc := 113) (i := (v0 + 1)) (sh5_1 hv0) (ln5_1 hv0) h12 hG dX5_keep_113 ?_
    refine r_bS hG (fun s13 => ?_)
    refine r_bIinc (pc := 114) (lv' := fun x14 => [(2, .int x14), (4, .ref (X.2.1 + (v1 + 16 + (v2).toNatClampNeg))), (3, .int x4), (0, .ref (X.2.1 + v0)), (1, .ref (X.2.1 + v1))]) 4 rfl rfl (by decide) (fun _ => rfl) hG dX5_keep_114 (fun x14 => ?_)
    refine r_goto (pc := 117) (tgt := 39) (by decide) hG dX5_keep_117 ?_
    exact r_sub [3, 4, 0] rfl hG (hK39 v0 v1 x14 s13 hv0 hv1)
set_option maxRecDepth 4000 in
theorem w_Pa_keep_L39 {X : Cx} {G : GT St} (N : Nat) (hG : IsG X RX5 cX5_keep 5 2 none oWV G) : ∀ (n : Nat), ∀ (v0 : Nat) (v1 : Nat) (v2 : Int32) (σ : St), shp v0 = 5 → shp v1 = 4 → G (Pa_keep_L39 N n v0 v1 v2 σ) σ 39 [(0, .ref (X.2.1 + v0)), (1, .ref (X.2.1 + v1)), (2, .int v2)] [] := by
  intro n
  induction n with
  | zero => intro v0 v1 v2 σ hv0 hv1; exact r_none hG
  | succ n ih => intro v0 v1 v2 σ hv0 hv1; exact w_Pa_keep_L39B N hG ih v0 v1 v2 σ hv0 hv1
set_option maxRecDepth 4000 in
theorem w_Pa_keep_J37 {X : Cx} {G : GT St} (N : Nat) (hG : IsG X RX5 cX5_keep 5 2 none oWV G) (v0 : Nat) (v1 : Nat) (σ : St) (hv0 : shp v0 = 5) (hv1 : shp v1 = 4) : G (Pa_keep_J37 N v0 v1 σ) σ 37 [(0, .ref (X.2.1 + v0)), (1, .ref (X.2.1 + v1))] [] := by
  unfold Pa_keep_J37
  refine r_iconst (pc := 37) (v := 0) (by decide) hG dX5_keep_37 ?_
  refine r_istore_n (pc := 38) (lv' := [(2, .int 0), (0, .ref (X.2.1 + v0)), (1, .ref (X.2.1 + v1))]) 2 rfl (by decide) rfl hG dX5_keep_38 ?_
  exact r_sub [1, 2, 0] rfl hG (w_Pa_keep_L39 N hG N v0 v1 0 σ hv0 hv1)
set_option maxRecDepth 4000 in
theorem c_Pa_keep (X : Cx) (N : Nat) (v0 : Nat) (v1 : Nat) (σ : St) (hv0 : shp v0 = 5) (hv1 : shp v1 = 4) (σ1 : St) (hE : Pa_keep N v0 v1 σ = some σ1) : Ctr X yX5_keep cX5_keep 5 none 2 [.ref (X.2.1 + v0), .ref (X.2.1 + v1)] σ none σ1 := by
  refine Ctr.of (out := oWV) (E := Pa_keep N v0 v1 σ) rfl (Nat.le_of_ble_eq_true rfl) (fun G hG => ?_) σ1 hE
  unfold Pa_keep
  refine r_aload_n (pc := 0) 0 0 rfl rfl hG dX5_keep_0 ?_
  refine gf5_1 (pc := 1) (i := v0) hv0 lk142 hG dX5_keep_1 ?_
  refine r_bipush (pc := 4) (v := 8) (by decide) hG dX5_keep_4 ?_
  refine r_icmp_lt (pc := 6) (tgt := 37) (by decide) hG dX5_keep_6 (fun h1 => ?_) (fun h1 => ?_)
  · exact w_Pa_keep_J37 N hG v0 v1 σ hv0 hv1
  · refine r_aload_n (pc := 9) 0 0 rfl rfl hG dX5_keep_9 ?_
    refine gf5_0 (pc := 10) (i := v0) hv0 lk141 hG dX5_keep_10 ?_
    refine r_bipush (pc := 13) (v := 16) (by decide) hG dX5_keep_13 ?_
    refine r_aload_n (pc := 15) 0 0 rfl rfl hG dX5_keep_15 ?_
    refine gf5_0 (pc := 16) (i := v0) hv0 lk141 hG dX5_keep_16 ?_
    refine r_iconst (pc := 19) (v := 0) (by decide) hG dX5_keep_19 ?_
    refine r_aload_n (pc := 20) 0 0 rfl rfl hG dX5_keep_20 ?_
    refine gf5_0 (pc := 21) (i := v0) hv0 lk141 hG dX5_keep_21 ?_
    refine r_alen (pc := 24) (i := (v0 + 1)) (sh5_1 hv0) (by decide) (v := 128) (by rw [(ln5_1 hv0)]; decide) hG dX5_keep_24 ?_
    refine r_bipush (pc := 25) (v := 16) (by decide) hG dX5_keep_25 ?_
    refine r_isub (pc := 27) hG dX5_keep_27 ?_
    refine r_ck hG (fun h15 => ?_)
    refine r_acopy (pc := 28) (i0 := (v0 + 1)) (i := (v0 + 1)) (sh5_1 hv0) (sh5_1 hv0) (ln5_1 hv0) (ln5_1 hv0) h15 lk728 (by omega) (Nat.le_of_ble_eq_true rfl) hG dX5_keep_28 ?_
    refine r_bS hG (fun s16 => ?_)
    refine r_aload_n (pc := 31) 0 0 rfl rfl hG dX5_keep_31 ?_
    refine r_bipush (pc := 32) (v := 7) (by decide) hG dX5_keep_32 ?_
    refine pf5_1 (pc := 34) (i := v0) hv0 lk142 hG dX5_keep_34 ?_
    refine r_bS hG (fun s17 => ?_)
    exact w_Pa_keep_J37 N hG v0 v1 s17 hv0 hv1
set_option maxRecDepth 4000 in
theorem w_Pa_giveBack_L20B {X : Cx} {G : GT St} (N : Nat) (hG : IsG X RX5 cX5_giveBack 5 1 none oWV G) {K20 : Nat → Nat → Int32 → St → Option St} (hK20 : ∀ (v0 : Nat) (v1 : Nat) (v2 : Int32) (s : St), shp v0 = 5 → shp v1 = 4 → G (K20 v0 v1 v2 s) s 20 [(0, .ref (X.2.1 + v0)), (1, .ref (X.2.1 + v1)), (2, .int v2)] []) (v0 : Nat) (v1 : Nat) (v2 : Int32) (σ : St) (hv0 : shp v0 = 5) (hv1 : shp v1 = 4) : G (Pa_giveBack_L20B N K20 v0 v1 v2 σ) σ 20 [(0, .ref (X.2.1 + v0)), (1, .ref (X.2.1 + v1)), (2, .int v2)] [] := by
  unfold Pa_giveBack_L20B
  refine r_iload_n (pc := 20) 2 2 rfl rfl hG dX5_giveBack_20 ?_
  refine r_iconst (pc := 21) (v := 4) (by decide) hG dX5_giveBack_21 ?_
  refine r_icmp_ge (pc := 22) (tgt := 101) (by decide) hG dX5_giveBack_22 (fun h3 => ?_) (fun h3 => ?_)
  · exact r_vret (pc := 101) rfl hG dX5_giveBack_101
  · refine r_aload_n (pc := 25) 0 0 rfl rfl hG dX5_giveBack_25 ?_
    refine gf5_1 (pc := 26) (i := v0) hv0 lk142 hG dX5_giveBack_26 ?_
    refine r_bipush (pc := 29) (v := 16) (by decide) hG dX5_giveBack_29 ?_
    refine r_imul (pc := 31) hG dX5_giveBack_31 ?_
    refine r_iload_n (pc := 32) 2 2 rfl rfl hG dX5_giveBack_32 ?_
    refine r_iconst (pc := 33) (v := 4) (by decide) hG dX5_giveBack_33 ?_
    refine r_imul (pc := 34) hG dX5_giveBack_34 ?_
    refine r_iadd (pc := 35) hG dX5_giveBack_35 ?_
    refine r_bI hG (fun x4 => ?_)
    refine r_istore_n (pc := 36) (lv' := [(3, .int x4), (0, .ref (X.2.1 + v0)), (1, .ref (X.2.1 + v1)), (2, .int v2)]) 3 rfl (by decide) rfl hG dX5_giveBack_36 ?_
    refine r_aload_n (pc := 37) 2 1 rfl rfl hG dX5_giveBack_37 ?_
    refine gf4_3 (pc := 38) (i := v1) hv1 lk228 hG dX5_giveBack_38 ?_
    refine r_iload_n (pc := 41) 3 2 rfl rfl hG dX5_giveBack_41 ?_
    refine r_ck hG (fun h5 => ?_)
    refine r_aGuests (pc := 42) (i := v1) (sh4_4 hv1) (ln4_4 hv1) h5 hG dX5_giveBack_42 ?_
    refine r_astore (pc := 43) (lv' := [(4, .ref (X.2.1 + (v1 + 16 + (v2).toNatClampNeg))), (3, .int x4), (0, .ref (X.2.1 + v0)), (1, .ref (X.2.1 + v1)), (2, .int v2)]) (by decide) rfl hG dX5_giveBack_43 ?_
    refine r_aload (pc := 45) 0 rfl hG dX5_giveBack_45 ?_
    refine r_aload_n (pc := 47) 2 0 rfl rfl hG dX5_giveBack_47 ?_
    refine gf5_0 (pc := 48) (i := v0) hv0 lk141 hG dX5_giveBack_48 ?_
    refine r_iload_n (pc := 51) 1 3 rfl rfl hG dX5_giveBack_51 ?_
    refine r_ck hG (fun h6 => ?_)
    refine r_iald (pc := 52) (i := (v0 + 1)) (sh5_1 hv0) (ln5_1 hv0) h6 hG dX5_giveBack_52 ?_
    refine pf1_2 (pc := 53) (i := (v1 + 16 + (v2).toNatClampNeg)) (shGu hv1 h5) lk181 hG dX5_giveBack_53 ?_
    refine r_bS hG (fun s7 => ?_)
    refine r_aload (pc := 56) 0 rfl hG dX5_giveBack_56 ?_
    refine r_aload_n (pc := 58) 2 0 rfl rfl hG dX5_giveBack_58 ?_
    refine gf5_0 (pc := 59) (i := v0) hv0 lk141 hG dX5_giveBack_59 ?_
    refine r_iload_n (pc := 62) 1 3 rfl rfl hG dX5_giveBack_62 ?_
    refine r_iconst (pc := 63) (v := 1) (by decide) hG dX5_giveBack_63 ?_
    refine r_iadd (pc := 64) hG dX5_giveBack_64 ?_
    refine r_ck hG (fun h8 => ?_)
    refine r_iald (pc := 65) (i := (v0 + 1)) (sh5_1 hv0) (ln5_1 hv0) h8 hG dX5_giveBack_65 ?_
    refine pf1_3 (pc := 66) (i := (v1 + 16 + (v2).toNatClampNeg)) (shGu hv1 h5) lk187 hG dX5_giveBack_66 ?_
    refine r_bS hG (fun s9 => ?_)
    refine r_aload (pc := 69) 0 rfl hG dX5_giveBack_69 ?_
    refine r_aload_n (pc := 71) 2 0 rfl rfl hG dX5_giveBack_71 ?_
    refine gf5_0 (pc := 72) (i := v0) hv0 lk141 hG dX5_giveBack_72 ?_
    refine r_iload_n (pc := 75) 1 3 rfl rfl hG dX5_giveBack_75 ?_
    refine r_iconst (pc := 76) (v := 2) (by decide) hG dX5_giveBack_76 ?_
    refine r_iadd (pc := 77) hG dX5_giveBack_77 ?_
    refine r_ck hG (fun h10 => ?_)
    refine r_iald (pc := 78) (i := (v0 + 1)) (sh5_1 hv0) (ln5_1 hv0) h10 hG dX5_giveBack_78 ?_
    refine pf1_4 (pc := 79) (i := (v1 + 16 + (v2).toNatClampNeg)) (shGu hv1 h5) lk194 hG dX5_giveBack_79 ?_
    refine r_bS hG (fun s11 => ?_)
    refine r_aload (pc := 82) 0 rfl hG dX5_giveBack_82 ?_
    refine r_aload_n (pc := 84) 2 0 rfl rfl hG dX5_giveBack_84 ?_
    refine gf5_0 (pc := 85) (i := v0) hv0 lk141 hG dX5_giveBack_85 ?_
    refine r_iload_n (pc := 88) 1 3 rfl rfl hG dX5_giveBack_88 ?_
    refine r_iconst (pc := 89) (v := 3) (by decide) hG dX5_giveBack_89 ?_
    refine r_iadd (pc := 90) hG dX5_giveBack_90 ?_
    refine r_ck hG (fun h12 => ?_)
    refine r_iald (pc := 91) (i := (v0 + 1)) (sh5_1 hv0) (ln5_1 hv0) h12 hG dX5_giveBack_91 ?_
    refine pf1_5 (pc := 92) (i := (v1 + 16 + (v2).toNatClampNeg)) (shGu hv1 h5) lk201 hG dX5_giveBack_92 ?_
    refine r_bS hG (fun s13 => ?_)
    refine r_bIinc (pc := 95) (lv' := fun x14 => [(2, .int x14), (4, .ref (X.2.1 + (v1 + 16 + (v2).toNatClampNeg))), (3, .int x4), (0, .ref (X.2.1 + v0)), (1, .ref (X.2.1 + v1))]) 4 rfl rfl (by decide) (fun _ => rfl) hG dX5_giveBack_95 (fun x14 => ?_)
    refine r_goto (pc := 98) (tgt := 20) (by decide) hG dX5_giveBack_98 ?_
    exact r_sub [3, 4, 0] rfl hG (hK20 v0 v1 x14 s13 hv0 hv1)
set_option maxRecDepth 4000 in
theorem w_Pa_giveBack_L20 {X : Cx} {G : GT St} (N : Nat) (hG : IsG X RX5 cX5_giveBack 5 1 none oWV G) : ∀ (n : Nat), ∀ (v0 : Nat) (v1 : Nat) (v2 : Int32) (σ : St), shp v0 = 5 → shp v1 = 4 → G (Pa_giveBack_L20 N n v0 v1 v2 σ) σ 20 [(0, .ref (X.2.1 + v0)), (1, .ref (X.2.1 + v1)), (2, .int v2)] [] := by
  intro n
  induction n with
  | zero => intro v0 v1 v2 σ hv0 hv1; exact r_none hG
  | succ n ih => intro v0 v1 v2 σ hv0 hv1; exact w_Pa_giveBack_L20B N hG ih v0 v1 v2 σ hv0 hv1
set_option maxRecDepth 4000 in
theorem c_Pa_giveBack (X : Cx) (N : Nat) (v0 : Nat) (v1 : Nat) (σ : St) (hv0 : shp v0 = 5) (hv1 : shp v1 = 4) (σ1 : St) (hE : Pa_giveBack N v0 v1 σ = some σ1) : Ctr X yX5_giveBack cX5_giveBack 5 none 1 [.ref (X.2.1 + v0), .ref (X.2.1 + v1)] σ none σ1 := by
  refine Ctr.of (out := oWV) (E := Pa_giveBack N v0 v1 σ) rfl (Nat.le_of_ble_eq_true rfl) (fun G hG => ?_) σ1 hE
  unfold Pa_giveBack
  refine r_aload_n (pc := 0) 0 0 rfl rfl hG dX5_giveBack_0 ?_
  refine gf5_1 (pc := 1) (i := v0) hv0 lk142 hG dX5_giveBack_1 ?_
  refine r_if_gt (pc := 4) (tgt := 8) (by decide) hG dX5_giveBack_4 (fun h1 => ?_) (fun h1 => ?_)
  · refine r_aload_n (pc := 8) 0 0 rfl rfl hG dX5_giveBack_8 ?_
    refine r_dup (pc := 9) rfl hG dX5_giveBack_9 ?_
    refine gf5_1 (pc := 10) (i := v0) hv0 lk142 hG dX5_giveBack_10 ?_
    refine r_iconst (pc := 13) (v := 1) (by decide) hG dX5_giveBack_13 ?_
    refine r_isub (pc := 14) hG dX5_giveBack_14 ?_
    refine pf5_1 (pc := 15) (i := v0) hv0 lk142 hG dX5_giveBack_15 ?_
    refine r_bS hG (fun s2 => ?_)
    refine r_iconst (pc := 18) (v := 0) (by decide) hG dX5_giveBack_18 ?_
    refine r_istore_n (pc := 19) (lv' := [(2, .int 0), (0, .ref (X.2.1 + v0)), (1, .ref (X.2.1 + v1))]) 2 rfl (by decide) rfl hG dX5_giveBack_19 ?_
    exact r_sub [1, 2, 0] rfl hG (w_Pa_giveBack_L20 N hG N v0 v1 0 s2 hv0 hv1)
  · exact r_vret (pc := 7) rfl hG dX5_giveBack_7
set_option maxRecDepth 4000 in
theorem c_Go_within (X : Cx) (v0 : Int32) (v1 : Int32) (v2 : Int32) (σ : St) : Ctr X yX11_within cX11_within 3 (some .boolean) 1 [.int v0, .int v1, .int v2] σ (some (.int (Go_within v0 v1 v2))) σ := by
  refine Ctr.of (out := (oI σ)) (E := some (Go_within v0 v1 v2)) rfl (Nat.le_of_ble_eq_true rfl) (fun G hG => ?_) _ rfl
  unfold Go_within
  refine r_iload_n (pc := 0) 0 0 rfl rfl hG dX11_within_0 ?_
  refine r_iload_n (pc := 1) 1 1 rfl rfl hG dX11_within_1 ?_
  refine r_icmp_ltS (pc := 2) (tgt := 14) (by decide) hG dX11_within_2 (fun h1 => ?_) (fun h1 => ?_)
  · refine r_iconst (pc := 14) (v := 0) (by decide) hG dX11_within_14 ?_
    exact r_zret (pc := 15) rvN_b0 rfl hG dX11_within_15
  · refine r_iload_n (pc := 5) 0 0 rfl rfl hG dX11_within_5 ?_
    refine r_iload_n (pc := 6) 2 2 rfl rfl hG dX11_within_6 ?_
    refine r_icmp_gtS (pc := 7) (tgt := 14) (by decide) hG dX11_within_7 (fun h2 => ?_) (fun h2 => ?_)
    · refine r_iconst (pc := 14) (v := 0) (by decide) hG dX11_within_14 ?_
      exact r_zret (pc := 15) rvN_b0 rfl hG dX11_within_15
    · refine r_iconst (pc := 10) (v := 1) (by decide) hG dX11_within_10 ?_
      refine r_goto (pc := 11) (tgt := 15) (by decide) hG dX11_within_11 ?_
      exact r_zret (pc := 15) rvN_b1 rfl hG dX11_within_15
set_option maxRecDepth 4000 in
theorem c_Re_isLetter (X : Cx) (v0 : Int32) (σ : St) : Ctr X yX6_isLetter cX6_isLetter 1 (some .boolean) 2 [.int v0] σ (some (.int (Re_isLetter v0))) σ := by
  refine Ctr.of (out := (oI σ)) (E := some (Re_isLetter v0)) rfl (Nat.le_of_ble_eq_true rfl) (fun G hG => ?_) _ rfl
  unfold Re_isLetter
  refine r_iload_n (pc := 0) 0 0 rfl rfl hG dX6_isLetter_0 ?_
  refine r_bipush (pc := 1) (v := 97) (by decide) hG dX6_isLetter_1 ?_
  refine r_bipush (pc := 3) (v := 122) (by decide) hG dX6_isLetter_3 ?_
  refine r_callSNi (pc := 5) (As := [.int v0, .int 97, .int 122]) (c_Go_within X v0 97 122 σ) mfX6_75_X11_within hySX11_within (by decide) (by decide) rfl (Nat.le_of_ble_eq_true rfl) hG dX6_isLetter_5 rfl (fun n2 => ?_)
  exact r_zret (pc := 8) n2 rfl hG dX6_isLetter_8
set_option maxRecDepth 4000 in
theorem c_Re_isFigure (X : Cx) (v0 : Int32) (σ : St) : Ctr X yX6_isFigure cX6_isFigure 1 (some .boolean) 2 [.int v0] σ (some (.int (Re_isFigure v0))) σ := by
  refine Ctr.of (out := (oI σ)) (E := some (Re_isFigure v0)) rfl (Nat.le_of_ble_eq_true rfl) (fun G hG => ?_) _ rfl
  unfold Re_isFigure
  refine r_iload_n (pc := 0) 0 0 rfl rfl hG dX6_isFigure_0 ?_
  refine r_bipush (pc := 1) (v := 48) (by decide) hG dX6_isFigure_1 ?_
  refine r_bipush (pc := 3) (v := 57) (by decide) hG dX6_isFigure_3 ?_
  refine r_callSNi (pc := 5) (As := [.int v0, .int 48, .int 57]) (c_Go_within X v0 48 57 σ) mfX6_75_X11_within hySX11_within (by decide) (by decide) rfl (Nat.le_of_ble_eq_true rfl) hG dX6_isFigure_5 rfl (fun n2 => ?_)
  exact r_zret (pc := 8) n2 rfl hG dX6_isFigure_8
set_option maxRecDepth 4000 in
theorem w_Re_takeNumber_J93 {X : Cx} {G : GT St} (N : Nat) (hG : IsG X RX6 cX6_takeNumber 1 6 none oWV G) (w1 : Int32) (σ : St) : G (Re_takeNumber_J93 N w1 σ) σ 93 [] [.int w1, .ref (X.2.1 + 71)] := by
  unfold Re_takeNumber_J93
  refine pf6_4 (pc := 93) lk418 hG dX6_takeNumber_93 ?_
  refine r_bS hG (fun s4 => ?_)
  exact r_vret (pc := 96) rfl hG dX6_takeNumber_96
set_option maxRecDepth 4000 in
theorem w_Re_takeNumber_J74 {X : Cx} {G : GT St} (N : Nat) (hG : IsG X RX6 cX6_takeNumber 1 6 none oWV G) (σ : St) : G (Re_takeNumber_J74 N σ) σ 74 [(0, .ref (X.2.1 + 71))] [] := by
  unfold Re_takeNumber_J74
  refine r_aload_n (pc := 74) 0 0 rfl rfl hG dX6_takeNumber_74 ?_
  refine r_aload_n (pc := 75) 0 0 rfl rfl hG dX6_takeNumber_75 ?_
  refine gf6_2 (pc := 76) lk415 hG dX6_takeNumber_76 ?_
  refine r_aload_n (pc := 79) 0 0 rfl rfl hG dX6_takeNumber_79 ?_
  refine gf6_3 (pc := 80) lk417 hG dX6_takeNumber_80 ?_
  refine r_isub (pc := 83) hG dX6_takeNumber_83 ?_
  refine r_iconst (pc := 84) (v := 2) (by decide) hG dX6_takeNumber_84 ?_
  refine r_icmp_gt (pc := 85) (tgt := 92) (by decide) hG dX6_takeNumber_85 (fun h3 => ?_) (fun h3 => ?_)
  · refine r_iconst (pc := 92) (v := 4) (by decide) hG dX6_takeNumber_92 ?_
    exact r_sub [] rfl hG (w_Re_takeNumber_J93 N hG 4 σ)
  · refine r_iconst (pc := 88) (v := 2) (by decide) hG dX6_takeNumber_88 ?_
    refine r_goto (pc := 89) (tgt := 93) (by decide) hG dX6_takeNumber_89 ?_
    exact r_sub [] rfl hG (w_Re_takeNumber_J93 N hG 2 σ)
set_option maxRecDepth 4000 in
theorem w_Re_takeNumber_L5B {X : Cx} {G : GT St} (N : Nat) (hG : IsG X RX6 cX6_takeNumber 1 6 none oWV G) {K5 : St → Option St} (hK5 : ∀  (s : St), G (K5  s) s 5 [(0, .ref (X.2.1 + 71))] []) (σ : St) : G (Re_takeNumber_L5B N K5 σ) σ 5 [(0, .ref (X.2.1 + 71))] [] := by
  unfold Re_takeNumber_L5B
  refine r_aload_n (pc := 5) 0 0 rfl rfl hG dX6_takeNumber_5 ?_
  refine gf6_2 (pc := 6) lk415 hG dX6_takeNumber_6 ?_
  refine r_aload_n (pc := 9) 0 0 rfl rfl hG dX6_takeNumber_9 ?_
  refine gf6_1 (pc := 10) lk414 hG dX6_takeNumber_10 ?_
  refine r_icmp_ge (pc := 13) (tgt := 74) (by decide) hG dX6_takeNumber_13 (fun h2 => ?_) (fun h2 => ?_)
  · exact w_Re_takeNumber_J74 N hG σ
  · refine r_aload_n (pc := 16) 0 0 rfl rfl hG dX6_takeNumber_16 ?_
    refine gf6_0 (pc := 17) lk413 hG dX6_takeNumber_17 ?_
    refine r_aload_n (pc := 20) 0 0 rfl rfl hG dX6_takeNumber_20 ?_
    refine gf6_2 (pc := 21) lk415 hG dX6_takeNumber_21 ?_
    refine r_ck hG (fun h5 => ?_)
    refine r_iald (pc := 24) (i := 72) (rfl : shp 72 = 14) rfl h5 hG dX6_takeNumber_24 ?_
    refine r_callSi (pc := 25) (As := [.int (σ.1 72 ((σ.1 71 2)).toNatClampNeg)]) (c_Re_isFigure X (σ.1 72 ((σ.1 71 2)).toNatClampNeg) σ) mfX6_146_X6_isFigure hySX6_isFigure (by decide) (by decide) rfl (Nat.le_of_ble_eq_true rfl) hG dX6_takeNumber_25 rfl (fun n7 => ?_)
    refine r_if_eq (pc := 28) (tgt := 74) (by decide) hG dX6_takeNumber_28 (fun h9 => ?_) (fun h9 => ?_)
    · exact w_Re_takeNumber_J74 N hG σ
    · refine r_aload_n (pc := 31) 0 0 rfl rfl hG dX6_takeNumber_31 ?_
      refine r_sipush (pc := 32) (v := 1000) (by decide) hG dX6_takeNumber_32 ?_
      refine r_bipush (pc := 35) (v := 10) (by decide) hG dX6_takeNumber_35 ?_
      refine r_aload_n (pc := 37) 0 0 rfl rfl hG dX6_takeNumber_37 ?_
      refine gf6_5 (pc := 38) lk419 hG dX6_takeNumber_38 ?_
      refine r_imul (pc := 41) hG dX6_takeNumber_41 ?_
      refine r_aload_n (pc := 42) 0 0 rfl rfl hG dX6_takeNumber_42 ?_
      refine gf6_0 (pc := 43) lk413 hG dX6_takeNumber_43 ?_
      refine r_aload_n (pc := 46) 0 0 rfl rfl hG dX6_takeNumber_46 ?_
      refine gf6_2 (pc := 47) lk415 hG dX6_takeNumber_47 ?_
      refine r_ck hG (fun h10 => ?_)
      refine r_iald (pc := 50) (i := 72) (rfl : shp 72 = 14) rfl h10 hG dX6_takeNumber_50 ?_
      refine r_iadd (pc := 51) hG dX6_takeNumber_51 ?_
      refine r_bipush (pc := 52) (v := 48) (by decide) hG dX6_takeNumber_52 ?_
      refine r_isub (pc := 54) hG dX6_takeNumber_54 ?_
      refine r_mmin (pc := 55) lk560 (by omega) (Nat.le_of_ble_eq_true rfl) hG dX6_takeNumber_55 ?_
      refine pf6_5 (pc := 58) lk419 hG dX6_takeNumber_58 ?_
      refine r_bS hG (fun s11 => ?_)
      refine r_aload_n (pc := 61) 0 0 rfl rfl hG dX6_takeNumber_61 ?_
      refine r_dup (pc := 62) rfl hG dX6_takeNumber_62 ?_
      refine gf6_2 (pc := 63) lk415 hG dX6_takeNumber_63 ?_
      refine r_iconst (pc := 66) (v := 1) (by decide) hG dX6_takeNumber_66 ?_
      refine r_iadd (pc := 67) hG dX6_takeNumber_67 ?_
      refine pf6_2 (pc := 68) lk415 hG dX6_takeNumber_68 ?_
      refine r_bS hG (fun s12 => ?_)
      refine r_goto (pc := 71) (tgt := 5) (by decide) hG dX6_takeNumber_71 ?_
      exact hK5 s12
set_option maxRecDepth 4000 in
theorem w_Re_takeNumber_L5 {X : Cx} {G : GT St} (N : Nat) (hG : IsG X RX6 cX6_takeNumber 1 6 none oWV G) : ∀ (n : Nat), ∀  (σ : St), G (Re_takeNumber_L5 N n σ) σ 5 [(0, .ref (X.2.1 + 71))] [] := by
  intro n
  induction n with
  | zero => intro σ; exact r_none hG
  | succ n ih => intro σ; exact w_Re_takeNumber_L5B N hG ih σ
set_option maxRecDepth 4000 in
theorem c_Re_takeNumber (X : Cx) (N : Nat) (σ : St) (σ1 : St) (hE : Re_takeNumber N σ = some σ1) : Ctr X yX6_takeNumber cX6_takeNumber 1 none 6 [.ref (X.2.1 + 71)] σ none σ1 := by
  refine Ctr.of (out := oWV) (E := Re_takeNumber N σ) rfl (Nat.le_of_ble_eq_true rfl) (fun G hG => ?_) σ1 hE
  unfold Re_takeNumber
  refine r_aload_n (pc := 0) 0 0 rfl rfl hG dX6_takeNumber_0 ?_
  refine r_iconst (pc := 1) (v := 0) (by decide) hG dX6_takeNumber_1 ?_
  refine pf6_5 (pc := 2) lk419 hG dX6_takeNumber_2 ?_
  refine r_bS hG (fun s1 => ?_)
  exact w_Re_takeNumber_L5 N hG N s1
set_option maxRecDepth 4000 in
theorem w_Re_advance_L117B {X : Cx} {G : GT St} (N : Nat) (hG : IsG X RX6 cX6_advance 1 7 none oWV G) {K117 : St → Option St} (hK117 : ∀  (s : St), G (K117  s) s 117 [(0, .ref (X.2.1 + 71))] []) (σ : St) : G (Re_advance_L117B N K117 σ) σ 117 [(0, .ref (X.2.1 + 71))] [] := by
  unfold Re_advance_L117B
  refine r_aload_n (pc := 117) 0 0 rfl rfl hG dX6_advance_117 ?_
  refine gf6_2 (pc := 118) lk415 hG dX6_advance_118 ?_
  refine r_aload_n (pc := 121) 0 0 rfl rfl hG dX6_advance_121 ?_
  refine gf6_1 (pc := 122) lk414 hG dX6_advance_122 ?_
  refine r_icmp_ge (pc := 125) (tgt := 183) (by decide) hG dX6_advance_125 (fun h22 => ?_) (fun h22 => ?_)
  · exact r_vret (pc := 183) rfl hG dX6_advance_183
  · refine r_aload_n (pc := 128) 0 0 rfl rfl hG dX6_advance_128 ?_
    refine gf6_0 (pc := 129) lk413 hG dX6_advance_129 ?_
    refine r_aload_n (pc := 132) 0 0 rfl rfl hG dX6_advance_132 ?_
    refine gf6_2 (pc := 133) lk415 hG dX6_advance_133 ?_
    refine r_ck hG (fun h23 => ?_)
    refine r_iald (pc := 136) (i := 72) (rfl : shp 72 = 14) rfl h23 hG dX6_advance_136 ?_
    refine r_callSi (pc := 137) (As := [.int (σ.1 72 ((σ.1 71 2)).toNatClampNeg)]) (c_Re_isLetter X (σ.1 72 ((σ.1 71 2)).toNatClampNeg) σ) mfX6_143_X6_isLetter hySX6_isLetter (by decide) (by decide) rfl (Nat.le_of_ble_eq_true rfl) hG dX6_advance_137 rfl (fun n25 => ?_)
    refine r_if_eq (pc := 140) (tgt := 183) (by decide) hG dX6_advance_140 (fun h27 => ?_) (fun h27 => ?_)
    · exact r_vret (pc := 183) rfl hG dX6_advance_183
    · refine r_aload_n (pc := 143) 0 0 rfl rfl hG dX6_advance_143 ?_
      refine r_dup (pc := 144) rfl hG dX6_advance_144 ?_
      refine gf6_2 (pc := 145) lk415 hG dX6_advance_145 ?_
      refine r_iconst (pc := 148) (v := 1) (by decide) hG dX6_advance_148 ?_
      refine r_iadd (pc := 149) hG dX6_advance_149 ?_
      refine pf6_2 (pc := 150) lk415 hG dX6_advance_150 ?_
      refine r_bS hG (fun s28 => ?_)
      refine r_goto (pc := 153) (tgt := 117) (by decide) hG dX6_advance_153 ?_
      exact hK117 s28
set_option maxRecDepth 4000 in
theorem w_Re_advance_L117 {X : Cx} {G : GT St} (N : Nat) (hG : IsG X RX6 cX6_advance 1 7 none oWV G) : ∀ (n : Nat), ∀  (σ : St), G (Re_advance_L117 N n σ) σ 117 [(0, .ref (X.2.1 + 71))] [] := by
  intro n
  induction n with
  | zero => intro σ; exact r_none hG
  | succ n ih => intro σ; exact w_Re_advance_L117B N hG ih σ
set_option maxRecDepth 4000 in
theorem w_Re_advance_J38 {X : Cx} {G : GT St} (N : Nat) (hG : IsG X RX6 cX6_advance 1 7 none oWV G) (σ : St) : G (Re_advance_J38 N σ) σ 38 [(0, .ref (X.2.1 + 71))] [] := by
  unfold Re_advance_J38
  refine r_aload_n (pc := 38) 0 0 rfl rfl hG dX6_advance_38 ?_
  refine r_aload_n (pc := 39) 0 0 rfl rfl hG dX6_advance_39 ?_
  refine gf6_2 (pc := 40) lk415 hG dX6_advance_40 ?_
  refine pf6_3 (pc := 43) lk417 hG dX6_advance_43 ?_
  refine r_bS hG (fun s2 => ?_)
  refine r_aload_n (pc := 46) 0 0 rfl rfl hG dX6_advance_46 ?_
  refine gf6_2 (pc := 47) lk415 hG dX6_advance_47 ?_
  refine r_aload_n (pc := 50) 0 0 rfl rfl hG dX6_advance_50 ?_
  refine gf6_1 (pc := 51) lk414 hG dX6_advance_51 ?_
  refine r_icmp_lt (pc := 54) (tgt := 65) (by decide) hG dX6_advance_54 (fun h3 => ?_) (fun h3 => ?_)
  · refine r_aload_n (pc := 65) 0 0 rfl rfl hG dX6_advance_65 ?_
    refine gf6_0 (pc := 66) lk413 hG dX6_advance_66 ?_
    refine r_aload_n (pc := 69) 0 0 rfl rfl hG dX6_advance_69 ?_
    refine gf6_2 (pc := 70) lk415 hG dX6_advance_70 ?_
    refine r_ck hG (fun h4 => ?_)
    refine r_iald (pc := 73) (i := 72) (rfl : shp 72 = 14) rfl h4 hG dX6_advance_73 ?_
    refine r_bipush (pc := 74) (v := 59) (by decide) hG dX6_advance_74 ?_
    refine r_icmp_ne (pc := 76) (tgt := 97) (by decide) hG dX6_advance_76 (fun h5 => ?_) (fun h5 => ?_)
    · refine r_aload_n (pc := 97) 0 0 rfl rfl hG dX6_advance_97 ?_
      refine gf6_0 (pc := 98) lk413 hG dX6_advance_98 ?_
      refine r_aload_n (pc := 101) 0 0 rfl rfl hG dX6_advance_101 ?_
      refine gf6_2 (pc := 102) lk415 hG dX6_advance_102 ?_
      refine r_ck hG (fun h6 => ?_)
      refine r_iald (pc := 105) (i := 72) (rfl : shp 72 = 14) rfl h6 hG dX6_advance_105 ?_
      refine r_callSi (pc := 106) (As := [.int (s2.1 72 ((s2.1 71 2)).toNatClampNeg)]) (c_Re_isLetter X (s2.1 72 ((s2.1 71 2)).toNatClampNeg) s2) mfX6_143_X6_isLetter hySX6_isLetter (by decide) (by decide) rfl (Nat.le_of_ble_eq_true rfl) hG dX6_advance_106 rfl (fun n8 => ?_)
      refine r_if_eq (pc := 109) (tgt := 156) (by decide) hG dX6_advance_109 (fun h10 => ?_) (fun h10 => ?_)
      · refine r_aload_n (pc := 156) 0 0 rfl rfl hG dX6_advance_156 ?_
        refine gf6_0 (pc := 157) lk413 hG dX6_advance_157 ?_
        refine r_aload_n (pc := 160) 0 0 rfl rfl hG dX6_advance_160 ?_
        refine gf6_2 (pc := 161) lk415 hG dX6_advance_161 ?_
        refine r_ck hG (fun h11 => ?_)
        refine r_iald (pc := 164) (i := 72) (rfl : shp 72 = 14) rfl h11 hG dX6_advance_164 ?_
        refine r_callSi (pc := 165) (As := [.int (s2.1 72 ((s2.1 71 2)).toNatClampNeg)]) (c_Re_isFigure X (s2.1 72 ((s2.1 71 2)).toNatClampNeg) s2) mfX6_146_X6_isFigure hySX6_isFigure (by decide) (by decide) rfl (Nat.le_of_ble_eq_true rfl) hG dX6_advance_165 rfl (fun n13 => ?_)
        refine r_if_eq (pc := 168) (tgt := 178) (by decide) hG dX6_advance_168 (fun h15 => ?_) (fun h15 => ?_)
        · refine r_aload_n (pc := 178) 0 0 rfl rfl hG dX6_advance_178 ?_
          refine r_iconst (pc := 179) (v := 4) (by decide) hG dX6_advance_179 ?_
          refine pf6_4 (pc := 180) lk418 hG dX6_advance_180 ?_
          refine r_bS hG (fun s16 => ?_)
          exact r_vret (pc := 183) rfl hG dX6_advance_183
        · refine r_aload_n (pc := 171) 0 0 rfl rfl hG dX6_advance_171 ?_
          refine r_bR hG (fun s18 e20 => ?_)
          refine r_callVv (pc := 172) (As := []) (c_Re_takeNumber X N s2 s18 e20) (wsOf_at (rfl : shp 71 = 6) (by decide) rfl) rfl mfX6_149_X6_takeNumber hyVX6_takeNumber (by decide) (by decide) rfl (Nat.le_of_ble_eq_true rfl) hG dX6_advance_172 rfl (fun n19 => ?_)
          refine r_goto (pc := 175) (tgt := 183) (by decide) hG dX6_advance_175 ?_
          exact r_vret (pc := 183) rfl hG dX6_advance_183
      · refine r_aload_n (pc := 112) 0 0 rfl rfl hG dX6_advance_112 ?_
        refine r_iconst (pc := 113) (v := 1) (by decide) hG dX6_advance_113 ?_
        refine pf6_4 (pc := 114) lk418 hG dX6_advance_114 ?_
        refine r_bS hG (fun s21 => ?_)
        exact w_Re_advance_L117 N hG N s21
    · refine r_aload_n (pc := 79) 0 0 rfl rfl hG dX6_advance_79 ?_
      refine r_iconst (pc := 80) (v := 3) (by decide) hG dX6_advance_80 ?_
      refine pf6_4 (pc := 81) lk418 hG dX6_advance_81 ?_
      refine r_bS hG (fun s29 => ?_)
      refine r_aload_n (pc := 84) 0 0 rfl rfl hG dX6_advance_84 ?_
      refine r_dup (pc := 85) rfl hG dX6_advance_85 ?_
      refine gf6_2 (pc := 86) lk415 hG dX6_advance_86 ?_
      refine r_iconst (pc := 89) (v := 1) (by decide) hG dX6_advance_89 ?_
      refine r_iadd (pc := 90) hG dX6_advance_90 ?_
      refine pf6_2 (pc := 91) lk415 hG dX6_advance_91 ?_
      refine r_bS hG (fun s30 => ?_)
      refine r_goto (pc := 94) (tgt := 183) (by decide) hG dX6_advance_94 ?_
      exact r_vret (pc := 183) rfl hG dX6_advance_183
  · refine r_aload_n (pc := 57) 0 0 rfl rfl hG dX6_advance_57 ?_
    refine r_iconst (pc := 58) (v := 0) (by decide) hG dX6_advance_58 ?_
    refine pf6_4 (pc := 59) lk418 hG dX6_advance_59 ?_
    refine r_bS hG (fun s31 => ?_)
    refine r_goto (pc := 62) (tgt := 183) (by decide) hG dX6_advance_62 ?_
    exact r_vret (pc := 183) rfl hG dX6_advance_183
set_option maxRecDepth 4000 in
theorem w_Re_advance_L0B {X : Cx} {G : GT St} (N : Nat) (hG : IsG X RX6 cX6_advance 1 7 none oWV G) {K0 : St → Option St} (hK0 : ∀  (s : St), G (K0  s) s 0 [(0, .ref (X.2.1 + 71))] []) (σ : St) : G (Re_advance_L0B N K0 σ) σ 0 [(0, .ref (X.2.1 + 71))] [] := by
  unfold Re_advance_L0B
  refine r_aload_n (pc := 0) 0 0 rfl rfl hG dX6_advance_0 ?_
  refine gf6_2 (pc := 1) lk415 hG dX6_advance_1 ?_
  refine r_aload_n (pc := 4) 0 0 rfl rfl hG dX6_advance_4 ?_
  refine gf6_1 (pc := 5) lk414 hG dX6_advance_5 ?_
  refine r_icmp_ge (pc := 8) (tgt := 38) (by decide) hG dX6_advance_8 (fun h1 => ?_) (fun h1 => ?_)
  · exact w_Re_advance_J38 N hG σ
  · refine r_aload_n (pc := 11) 0 0 rfl rfl hG dX6_advance_11 ?_
    refine gf6_0 (pc := 12) lk413 hG dX6_advance_12 ?_
    refine r_aload_n (pc := 15) 0 0 rfl rfl hG dX6_advance_15 ?_
    refine gf6_2 (pc := 16) lk415 hG dX6_advance_16 ?_
    refine r_ck hG (fun h32 => ?_)
    refine r_iald (pc := 19) (i := 72) (rfl : shp 72 = 14) rfl h32 hG dX6_advance_19 ?_
    refine r_bipush (pc := 20) (v := 32) (by decide) hG dX6_advance_20 ?_
    refine r_icmp_ne (pc := 22) (tgt := 38) (by decide) hG dX6_advance_22 (fun h33 => ?_) (fun h33 => ?_)
    · exact w_Re_advance_J38 N hG σ
    · refine r_aload_n (pc := 25) 0 0 rfl rfl hG dX6_advance_25 ?_
      refine r_dup (pc := 26) rfl hG dX6_advance_26 ?_
      refine gf6_2 (pc := 27) lk415 hG dX6_advance_27 ?_
      refine r_iconst (pc := 30) (v := 1) (by decide) hG dX6_advance_30 ?_
      refine r_iadd (pc := 31) hG dX6_advance_31 ?_
      refine pf6_2 (pc := 32) lk415 hG dX6_advance_32 ?_
      refine r_bS hG (fun s34 => ?_)
      refine r_goto (pc := 35) (tgt := 0) (by decide) hG dX6_advance_35 ?_
      exact hK0 s34
set_option maxRecDepth 4000 in
theorem w_Re_advance_L0 {X : Cx} {G : GT St} (N : Nat) (hG : IsG X RX6 cX6_advance 1 7 none oWV G) : ∀ (n : Nat), ∀  (σ : St), G (Re_advance_L0 N n σ) σ 0 [(0, .ref (X.2.1 + 71))] [] := by
  intro n
  induction n with
  | zero => intro σ; exact r_none hG
  | succ n ih => intro σ; exact w_Re_advance_L0B N hG ih σ
set_option maxRecDepth 4000 in
theorem c_Re_advance (X : Cx) (N : Nat) (σ : St) (σ1 : St) (hE : Re_advance N σ = some σ1) : Ctr X yX6_advance cX6_advance 1 none 7 [.ref (X.2.1 + 71)] σ none σ1 := by
  refine Ctr.of (out := oWV) (E := Re_advance N σ) rfl (Nat.le_of_ble_eq_true rfl) (fun G hG => ?_) σ1 hE
  unfold Re_advance
  exact w_Re_advance_L0 N hG N σ
set_option maxRecDepth 4000 in
theorem w_Re_isWord_L20B {σ : St} {X : Cx} {G : GT Int32} (N : Nat) (hG : IsG X RX6 cX6_isWord 3 6 (some .boolean) (oI σ) G) {K20 : Nat → Int32 → St → Option Int32} (hK20 : ∀ (v1 : Nat) (v2 : Int32), v1 < 6 → G (K20 v1 v2 σ) σ 20 [(0, .ref (X.2.1 + 71)), (1, .ref (X.2.2.2.2.2.2.1 v1)), (2, .int v2)] []) (v1 : Nat) (v2 : Int32) (hq : v1 < 6) : G (Re_isWord_L20B N K20 v1 v2 σ) σ 20 [(0, .ref (X.2.1 + 71)), (1, .ref (X.2.2.2.2.2.2.1 v1)), (2, .int v2)] [] := by
  unfold Re_isWord_L20B
  refine r_iload_n (pc := 20) 2 2 rfl rfl hG dX6_isWord_20 ?_
  refine r_aload_n (pc := 21) 1 1 rfl rfl hG dX6_isWord_21 ?_
  refine r_slen (pc := 22) hq lk591 (by decide) (Nat.le_of_ble_eq_true rfl) hG dX6_isWord_22 ?_
  refine r_icmp_ge (pc := 25) (tgt := 55) (by decide) hG dX6_isWord_25 (fun h2 => ?_) (fun h2 => ?_)
  · refine r_iconst (pc := 55) (v := 1) (by decide) hG dX6_isWord_55 ?_
    exact r_zret (pc := 56) rvN_b1 rfl hG dX6_isWord_56
  · refine r_aload_n (pc := 28) 0 0 rfl rfl hG dX6_isWord_28 ?_
    refine gf6_0 (pc := 29) lk413 hG dX6_isWord_29 ?_
    refine r_aload_n (pc := 32) 0 0 rfl rfl hG dX6_isWord_32 ?_
    refine gf6_3 (pc := 33) lk417 hG dX6_isWord_33 ?_
    refine r_iload_n (pc := 36) 2 2 rfl rfl hG dX6_isWord_36 ?_
    refine r_iadd (pc := 37) hG dX6_isWord_37 ?_
    refine r_ck hG (fun h3 => ?_)
    refine r_iald (pc := 38) (i := 72) (rfl : shp 72 = 14) rfl h3 hG dX6_isWord_38 ?_
    refine r_aload_n (pc := 39) 1 1 rfl rfl hG dX6_isWord_39 ?_
    refine r_iload_n (pc := 40) 2 2 rfl rfl hG dX6_isWord_40 ?_
    refine r_ck hG (fun h4 => ?_)
    refine r_scharAt (pc := 41) hq h4 lk601 (by decide) (Nat.le_of_ble_eq_true rfl) hG dX6_isWord_41 ?_
    refine r_icmp_eq (pc := 44) (tgt := 49) (by decide) hG dX6_isWord_44 (fun h5 => ?_) (fun h5 => ?_)
    · refine r_bIinc (pc := 49) (lv' := fun x6 => [(2, .int x6), (0, .ref (X.2.1 + 71)), (1, .ref (X.2.2.2.2.2.2.1 v1))]) 2 rfl rfl (by decide) (fun _ => rfl) hG dX6_isWord_49 (fun x6 => ?_)
      refine r_goto (pc := 52) (tgt := 20) (by decide) hG dX6_isWord_52 ?_
      exact r_sub [1, 2, 0] rfl hG (hK20 v1 x6 hq)
    · refine r_iconst (pc := 47) (v := 0) (by decide) hG dX6_isWord_47 ?_
      exact r_zret (pc := 48) rvN_b0 rfl hG dX6_isWord_48
set_option maxRecDepth 4000 in
theorem w_Re_isWord_L20 {σ : St} {X : Cx} {G : GT Int32} (N : Nat) (hG : IsG X RX6 cX6_isWord 3 6 (some .boolean) (oI σ) G) : ∀ (n : Nat), ∀ (v1 : Nat) (v2 : Int32), v1 < 6 → G (Re_isWord_L20 N n v1 v2 σ) σ 20 [(0, .ref (X.2.1 + 71)), (1, .ref (X.2.2.2.2.2.2.1 v1)), (2, .int v2)] [] := by
  intro n
  induction n with
  | zero => intro v1 v2 hq; exact r_none hG
  | succ n ih => intro v1 v2 hq; exact w_Re_isWord_L20B N hG ih v1 v2 hq
set_option maxRecDepth 4000 in
theorem c_Re_isWord (X : Cx) (N : Nat) (v1 : Nat) (σ : St) (hq : v1 < 6) (r : Int32) (hE : Re_isWord N v1 σ = some r) : Ctr X yX6_isWord cX6_isWord 3 (some .boolean) 6 [.ref (X.2.1 + 71), .ref (X.2.2.2.2.2.2.1 v1)] σ (some (.int r)) σ := by
  refine Ctr.of (out := (oI σ)) (E := Re_isWord N v1 σ) rfl (Nat.le_of_ble_eq_true rfl) (fun G hG => ?_) r hE
  unfold Re_isWord
  refine r_aload_n (pc := 0) 0 0 rfl rfl hG dX6_isWord_0 ?_
  refine gf6_2 (pc := 1) lk415 hG dX6_isWord_1 ?_
  refine r_aload_n (pc := 4) 0 0 rfl rfl hG dX6_isWord_4 ?_
  refine gf6_3 (pc := 5) lk417 hG dX6_isWord_5 ?_
  refine r_isub (pc := 8) hG dX6_isWord_8 ?_
  refine r_aload_n (pc := 9) 1 1 rfl rfl hG dX6_isWord_9 ?_
  refine r_slen (pc := 10) hq lk591 (by decide) (Nat.le_of_ble_eq_true rfl) hG dX6_isWord_10 ?_
  refine r_icmp_eq (pc := 13) (tgt := 18) (by decide) hG dX6_isWord_13 (fun h1 => ?_) (fun h1 => ?_)
  · refine r_iconst (pc := 18) (v := 0) (by decide) hG dX6_isWord_18 ?_
    refine r_istore_n (pc := 19) (lv' := [(2, .int 0), (0, .ref (X.2.1 + 71)), (1, .ref (X.2.2.2.2.2.2.1 v1))]) 2 rfl (by decide) rfl hG dX6_isWord_19 ?_
    exact r_sub [1, 2, 0] rfl hG (w_Re_isWord_L20 N hG N v1 0 hq)
  · refine r_iconst (pc := 16) (v := 0) (by decide) hG dX6_isWord_16 ?_
    exact r_zret (pc := 17) rvN_b0 rfl hG dX6_isWord_17
set_option maxRecDepth 4000 in
theorem c_Re_wordAtHand (X : Cx) (N : Nat) (σ : St) (r : Int32) (hE : Re_wordAtHand N σ = some r) : Ctr X yX6_wordAtHand cX6_wordAtHand 1 (some .int) 7 [.ref (X.2.1 + 71)] σ (some (.int r)) σ := by
  refine Ctr.of (out := (oI σ)) (E := Re_wordAtHand N σ) rfl (Nat.le_of_ble_eq_true rfl) (fun G hG => ?_) r hE
  unfold Re_wordAtHand
  refine r_aload_n (pc := 0) 0 0 rfl rfl hG dX6_wordAtHand_0 ?_
  refine gf6_4 (pc := 1) lk418 hG dX6_wordAtHand_1 ?_
  refine r_iconst (pc := 4) (v := 1) (by decide) hG dX6_wordAtHand_4 ?_
  refine r_icmp_eq (pc := 5) (tgt := 10) (by decide) hG dX6_wordAtHand_5 (fun h1 => ?_) (fun h1 => ?_)
  · refine r_aload_n (pc := 10) 0 0 rfl rfl hG dX6_wordAtHand_10 ?_
    refine r_ldcS (pc := 11) 0 (by decide) rfl hG dX6_wordAtHand_11 ?_
    refine r_bR hG (fun r2 e4 => ?_)
    refine r_callVi (pc := 13) (As := [.ref (X.2.2.2.2.2.2.1 0)]) (c_Re_isWord X N 0 σ (by decide) r2 e4) (wsOf_at (rfl : shp 71 = 6) (by decide) rfl) rfl mfX6_118_X6_isWord hyVX6_isWord (by decide) (by decide) rfl (Nat.le_of_ble_eq_true rfl) hG dX6_wordAtHand_13 rfl (fun n3 => ?_)
    refine r_if_eq (pc := 16) (tgt := 21) (by decide) hG dX6_wordAtHand_16 (fun h5 => ?_) (fun h5 => ?_)
    · refine r_aload_n (pc := 21) 0 0 rfl rfl hG dX6_wordAtHand_21 ?_
      refine r_ldcS (pc := 22) 1 (by decide) rfl hG dX6_wordAtHand_22 ?_
      refine r_bR hG (fun r6 e8 => ?_)
      refine r_callVi (pc := 24) (As := [.ref (X.2.2.2.2.2.2.1 1)]) (c_Re_isWord X N 1 σ (by decide) r6 e8) (wsOf_at (rfl : shp 71 = 6) (by decide) rfl) rfl mfX6_118_X6_isWord hyVX6_isWord (by decide) (by decide) rfl (Nat.le_of_ble_eq_true rfl) hG dX6_wordAtHand_24 rfl (fun n7 => ?_)
      refine r_if_eq (pc := 27) (tgt := 32) (by decide) hG dX6_wordAtHand_27 (fun h9 => ?_) (fun h9 => ?_)
      · refine r_aload_n (pc := 32) 0 0 rfl rfl hG dX6_wordAtHand_32 ?_
        refine r_ldcS (pc := 33) 2 (by decide) rfl hG dX6_wordAtHand_33 ?_
        refine r_bR hG (fun r10 e12 => ?_)
        refine r_callVi (pc := 35) (As := [.ref (X.2.2.2.2.2.2.1 2)]) (c_Re_isWord X N 2 σ (by decide) r10 e12) (wsOf_at (rfl : shp 71 = 6) (by decide) rfl) rfl mfX6_118_X6_isWord hyVX6_isWord (by decide) (by decide) rfl (Nat.le_of_ble_eq_true rfl) hG dX6_wordAtHand_35 rfl (fun n11 => ?_)
        refine r_if_eq (pc := 38) (tgt := 43) (by decide) hG dX6_wordAtHand_38 (fun h13 => ?_) (fun h13 => ?_)
        · refine r_aload_n (pc := 43) 0 0 rfl rfl hG dX6_wordAtHand_43 ?_
          refine r_ldcS (pc := 44) 3 (by decide) rfl hG dX6_wordAtHand_44 ?_
          refine r_bR hG (fun r14 e16 => ?_)
          refine r_callVi (pc := 46) (As := [.ref (X.2.2.2.2.2.2.1 3)]) (c_Re_isWord X N 3 σ (by decide) r14 e16) (wsOf_at (rfl : shp 71 = 6) (by decide) rfl) rfl mfX6_118_X6_isWord hyVX6_isWord (by decide) (by decide) rfl (Nat.le_of_ble_eq_true rfl) hG dX6_wordAtHand_46 rfl (fun n15 => ?_)
          refine r_if_eq (pc := 49) (tgt := 54) (by decide) hG dX6_wordAtHand_49 (fun h17 => ?_) (fun h17 => ?_)
          · refine r_aload_n (pc := 54) 0 0 rfl rfl hG dX6_wordAtHand_54 ?_
            refine r_ldcS (pc := 55) 4 (by decide) rfl hG dX6_wordAtHand_55 ?_
            refine r_bR hG (fun r18 e20 => ?_)
            refine r_callVi (pc := 57) (As := [.ref (X.2.2.2.2.2.2.1 4)]) (c_Re_isWord X N 4 σ (by decide) r18 e20) (wsOf_at (rfl : shp 71 = 6) (by decide) rfl) rfl mfX6_118_X6_isWord hyVX6_isWord (by decide) (by decide) rfl (Nat.le_of_ble_eq_true rfl) hG dX6_wordAtHand_57 rfl (fun n19 => ?_)
            refine r_if_eq (pc := 60) (tgt := 65) (by decide) hG dX6_wordAtHand_60 (fun h21 => ?_) (fun h21 => ?_)
            · refine r_aload_n (pc := 65) 0 0 rfl rfl hG dX6_wordAtHand_65 ?_
              refine r_ldcS (pc := 66) 5 (by decide) rfl hG dX6_wordAtHand_66 ?_
              refine r_bR hG (fun r22 e24 => ?_)
              refine r_callVi (pc := 68) (As := [.ref (X.2.2.2.2.2.2.1 5)]) (c_Re_isWord X N 5 σ (by decide) r22 e24) (wsOf_at (rfl : shp 71 = 6) (by decide) rfl) rfl mfX6_118_X6_isWord hyVX6_isWord (by decide) (by decide) rfl (Nat.le_of_ble_eq_true rfl) hG dX6_wordAtHand_68 rfl (fun n23 => ?_)
              refine r_if_eq (pc := 71) (tgt := 78) (by decide) hG dX6_wordAtHand_71 (fun h25 => ?_) (fun h25 => ?_)
              · refine r_iconst (pc := 78) (v := (-1)) (by decide) hG dX6_wordAtHand_78 ?_
                exact r_iret (pc := 79) rfl hG dX6_wordAtHand_79
              · refine r_iconst (pc := 74) (v := 5) (by decide) hG dX6_wordAtHand_74 ?_
                refine r_goto (pc := 75) (tgt := 79) (by decide) hG dX6_wordAtHand_75 ?_
                exact r_iret (pc := 79) rfl hG dX6_wordAtHand_79
            · refine r_iconst (pc := 63) (v := 4) (by decide) hG dX6_wordAtHand_63 ?_
              exact r_iret (pc := 64) rfl hG dX6_wordAtHand_64
          · refine r_iconst (pc := 52) (v := 3) (by decide) hG dX6_wordAtHand_52 ?_
            exact r_iret (pc := 53) rfl hG dX6_wordAtHand_53
        · refine r_iconst (pc := 41) (v := 2) (by decide) hG dX6_wordAtHand_41 ?_
          exact r_iret (pc := 42) rfl hG dX6_wordAtHand_42
      · refine r_iconst (pc := 30) (v := 1) (by decide) hG dX6_wordAtHand_30 ?_
        exact r_iret (pc := 31) rfl hG dX6_wordAtHand_31
    · refine r_iconst (pc := 19) (v := 0) (by decide) hG dX6_wordAtHand_19 ?_
      exact r_iret (pc := 20) rfl hG dX6_wordAtHand_20
  · refine r_iconst (pc := 8) (v := (-1)) (by decide) hG dX6_wordAtHand_8 ?_
    exact r_iret (pc := 9) rfl hG dX6_wordAtHand_9
set_option maxRecDepth 4000 in
theorem w_Re_isOneTooMany_J26 {σ : St} {X : Cx} {G : GT Int32} (N : Nat) (hG : IsG X RX6 cX6_isOneTooMany 2 1 (some .boolean) (oI σ) G) : G (Re_isOneTooMany_J26 N σ) σ 26 [] [] := by
  unfold Re_isOneTooMany_J26
  refine r_iconst (pc := 26) (v := 1) (by decide) hG dX6_isOneTooMany_26 ?_
  refine r_goto (pc := 27) (tgt := 31) (by decide) hG dX6_isOneTooMany_27 ?_
  exact r_zret (pc := 31) rvN_b1 rfl hG dX6_isOneTooMany_31
set_option maxRecDepth 4000 in
theorem w_Re_isOneTooMany_J13 {σ : St} {X : Cx} {G : GT Int32} (N : Nat) (hG : IsG X RX6 cX6_isOneTooMany 2 1 (some .boolean) (oI σ) G) (v0 : Nat) (v1 : Int32) (hv0 : shp v0 = 4) : G (Re_isOneTooMany_J13 N v0 v1 σ) σ 13 [(0, .ref (X.2.1 + v0)), (1, .int v1)] [] := by
  unfold Re_isOneTooMany_J13
  refine r_iload_n (pc := 13) 1 1 rfl rfl hG dX6_isOneTooMany_13 ?_
  refine r_iconst (pc := 14) (v := 4) (by decide) hG dX6_isOneTooMany_14 ?_
  refine r_icmp_ne (pc := 15) (tgt := 30) (by decide) hG dX6_isOneTooMany_15 (fun h2 => ?_) (fun h2 => ?_)
  · refine r_iconst (pc := 30) (v := 0) (by decide) hG dX6_isOneTooMany_30 ?_
    exact r_zret (pc := 31) rvN_b0 rfl hG dX6_isOneTooMany_31
  · refine r_aload_n (pc := 18) 0 0 rfl rfl hG dX6_isOneTooMany_18 ?_
    refine gf4_5 (pc := 19) (i := v0) hv0 lk239 hG dX6_isOneTooMany_19 ?_
    refine r_iconst (pc := 22) (v := 4) (by decide) hG dX6_isOneTooMany_22 ?_
    refine r_icmp_lt (pc := 23) (tgt := 30) (by decide) hG dX6_isOneTooMany_23 (fun h3 => ?_) (fun h3 => ?_)
    · refine r_iconst (pc := 30) (v := 0) (by decide) hG dX6_isOneTooMany_30 ?_
      exact r_zret (pc := 31) rvN_b0 rfl hG dX6_isOneTooMany_31
    · exact r_sub [] rfl hG (w_Re_isOneTooMany_J26 N hG)
set_option maxRecDepth 4000 in
theorem c_Re_isOneTooMany (X : Cx) (N : Nat) (v0 : Nat) (v1 : Int32) (σ : St) (hv0 : shp v0 = 4) (r : Int32) (hE : Re_isOneTooMany N v0 v1 σ = some r) : Ctr X yX6_isOneTooMany cX6_isOneTooMany 2 (some .boolean) 1 [.ref (X.2.1 + v0), .int v1] σ (some (.int r)) σ := by
  refine Ctr.of (out := (oI σ)) (E := Re_isOneTooMany N v0 v1 σ) rfl (Nat.le_of_ble_eq_true rfl) (fun G hG => ?_) r hE
  unfold Re_isOneTooMany
  refine r_iload_n (pc := 0) 1 1 rfl rfl hG dX6_isOneTooMany_0 ?_
  refine r_iconst (pc := 1) (v := 3) (by decide) hG dX6_isOneTooMany_1 ?_
  refine r_icmp_ne (pc := 2) (tgt := 13) (by decide) hG dX6_isOneTooMany_2 (fun h1 => ?_) (fun h1 => ?_)
  · exact w_Re_isOneTooMany_J13 N hG v0 v1 hv0
  · refine r_aload_n (pc := 5) 0 0 rfl rfl hG dX6_isOneTooMany_5 ?_
    refine gf4_4 (pc := 6) (i := v0) hv0 lk234 hG dX6_isOneTooMany_6 ?_
    refine r_iconst (pc := 9) (v := 3) (by decide) hG dX6_isOneTooMany_9 ?_
    refine r_icmp_ge (pc := 10) (tgt := 26) (by decide) hG dX6_isOneTooMany_10 (fun h4 => ?_) (fun h4 => ?_)
    · exact r_sub [] rfl hG (w_Re_isOneTooMany_J26 N hG)
    · exact w_Re_isOneTooMany_J13 N hG v0 v1 hv0
set_option maxRecDepth 4000 in
theorem w_Re_fitsCanal_J46 {σ : St} {X : Cx} {G : GT Int32} (N : Nat) (hG : IsG X RX6 cX6_fitsCanal 2 1 (some .boolean) (oI σ) G) : G (Re_fitsCanal_J46 N σ) σ 46 [] [] := by
  unfold Re_fitsCanal_J46
  refine r_iconst (pc := 46) (v := 1) (by decide) hG dX6_fitsCanal_46 ?_
  refine r_goto (pc := 47) (tgt := 51) (by decide) hG dX6_fitsCanal_47 ?_
  exact r_zret (pc := 51) rvN_b1 rfl hG dX6_fitsCanal_51
set_option maxRecDepth 4000 in
theorem c_Re_fitsCanal (X : Cx) (N : Nat) (v1 : Int32) (σ : St) (r : Int32) (hE : Re_fitsCanal N v1 σ = some r) : Ctr X yX6_fitsCanal cX6_fitsCanal 2 (some .boolean) 1 [.ref (X.2.1 + 71), .int v1] σ (some (.int r)) σ := by
  refine Ctr.of (out := (oI σ)) (E := Re_fitsCanal N v1 σ) rfl (Nat.le_of_ble_eq_true rfl) (fun G hG => ?_) r hE
  unfold Re_fitsCanal
  refine r_iload_n (pc := 0) 1 1 rfl rfl hG dX6_fitsCanal_0 ?_
  refine r_iconst (pc := 1) (v := 2) (by decide) hG dX6_fitsCanal_1 ?_
  refine r_icmp_ne (pc := 2) (tgt := 20) (by decide) hG dX6_fitsCanal_2 (fun h1 => ?_) (fun h1 => ?_)
  · refine r_aload_n (pc := 20) 0 0 rfl rfl hG dX6_fitsCanal_20 ?_
    refine gf6_5 (pc := 21) lk419 hG dX6_fitsCanal_21 ?_
    refine r_bipush (pc := 24) (v := 8) (by decide) hG dX6_fitsCanal_24 ?_
    refine r_icmp_ge (pc := 26) (tgt := 50) (by decide) hG dX6_fitsCanal_26 (fun h2 => ?_) (fun h2 => ?_)
    · refine r_iconst (pc := 50) (v := 0) (by decide) hG dX6_fitsCanal_50 ?_
      exact r_zret (pc := 51) rvN_b0 rfl hG dX6_fitsCanal_51
    · refine r_iload_n (pc := 29) 1 1 rfl rfl hG dX6_fitsCanal_29 ?_
      refine r_if_eq (pc := 30) (tgt := 46) (by decide) hG dX6_fitsCanal_30 (fun h3 => ?_) (fun h3 => ?_)
      · exact r_sub [] rfl hG (w_Re_fitsCanal_J46 N hG)
      · refine r_aload_n (pc := 33) 0 0 rfl rfl hG dX6_fitsCanal_33 ?_
        refine gf6_5 (pc := 34) lk419 hG dX6_fitsCanal_34 ?_
        refine r_aload_n (pc := 37) 0 0 rfl rfl hG dX6_fitsCanal_37 ?_
        refine gf6_6 (pc := 38) lk420 hG dX6_fitsCanal_38 ?_
        refine r_iconst (pc := 41) (v := 0) (by decide) hG dX6_fitsCanal_41 ?_
        refine r_iald (pc := 42) (i := 73) (rfl : shp 73 = 14) rfl (by decide) hG dX6_fitsCanal_42 ?_
        refine r_icmp_eq (pc := 43) (tgt := 50) (by decide) hG dX6_fitsCanal_43 (fun h4 => ?_) (fun h4 => ?_)
        · refine r_iconst (pc := 50) (v := 0) (by decide) hG dX6_fitsCanal_50 ?_
          exact r_zret (pc := 51) rvN_b0 rfl hG dX6_fitsCanal_51
        · exact r_sub [] rfl hG (w_Re_fitsCanal_J46 N hG)
  · refine r_aload_n (pc := 5) 0 0 rfl rfl hG dX6_fitsCanal_5 ?_
    refine gf6_5 (pc := 6) lk419 hG dX6_fitsCanal_6 ?_
    refine r_bipush (pc := 9) (v := 9) (by decide) hG dX6_fitsCanal_9 ?_
    refine r_icmp_gt (pc := 11) (tgt := 18) (by decide) hG dX6_fitsCanal_11 (fun h5 => ?_) (fun h5 => ?_)
    · refine r_iconst (pc := 18) (v := 0) (by decide) hG dX6_fitsCanal_18 ?_
      exact r_zret (pc := 19) rvN_b0 rfl hG dX6_fitsCanal_19
    · refine r_iconst (pc := 14) (v := 1) (by decide) hG dX6_fitsCanal_14 ?_
      refine r_goto (pc := 15) (tgt := 19) (by decide) hG dX6_fitsCanal_15 ?_
      exact r_zret (pc := 19) rvN_b1 rfl hG dX6_fitsCanal_19
set_option maxRecDepth 4000 in
theorem c_Re_fitsRow (X : Cx) (N : Nat) (v1 : Nat) (v2 : Int32) (σ : St) (hv1 : shp v1 = 4) (r : Int32) (hE : Re_fitsRow N v1 v2 σ = some r) : Ctr X yX6_fitsRow cX6_fitsRow 3 (some .boolean) 3 [.ref (X.2.1 + 71), .ref (X.2.1 + v1), .int v2] σ (some (.int r)) σ := by
  refine Ctr.of (out := (oI σ)) (E := Re_fitsRow N v1 v2 σ) rfl (Nat.le_of_ble_eq_true rfl) (fun G hG => ?_) r hE
  unfold Re_fitsRow
  refine r_iload_n (pc := 0) 2 2 rfl rfl hG dX6_fitsRow_0 ?_
  refine r_ite hG (fun h1 => ?_) (fun h1 => ?_)
  · refine r_lookup (pc := 1) (tgt := 28) (off := 27) (by decide) (by rw [h1]; decide) (by decide) hG dX6_fitsRow_1 ?_
    refine r_aload_n (pc := 28) 0 0 rfl rfl hG dX6_fitsRow_28 ?_
    refine gf6_5 (pc := 29) lk419 hG dX6_fitsRow_29 ?_
    refine r_aload_n (pc := 32) 1 1 rfl rfl hG dX6_fitsRow_32 ?_
    refine gf4_5 (pc := 33) (i := v1) hv1 lk239 hG dX6_fitsRow_33 ?_
    refine r_icmp_ge (pc := 36) (tgt := 43) (by decide) hG dX6_fitsRow_36 (fun h2 => ?_) (fun h2 => ?_)
    · refine r_iconst (pc := 43) (v := 0) (by decide) hG dX6_fitsRow_43 ?_
      exact r_zret (pc := 44) rvN_b0 rfl hG dX6_fitsRow_44
    · refine r_iconst (pc := 39) (v := 1) (by decide) hG dX6_fitsRow_39 ?_
      refine r_goto (pc := 40) (tgt := 44) (by decide) hG dX6_fitsRow_40 ?_
      exact r_zret (pc := 44) rvN_b1 rfl hG dX6_fitsRow_44
  · refine r_ite hG (fun h3 => ?_) (fun h3 => ?_)
    · refine r_lookup (pc := 1) (tgt := 45) (off := 44) (by decide) (by rw [h3]; decide) (by decide) hG dX6_fitsRow_1 ?_
      refine r_aload_n (pc := 45) 0 0 rfl rfl hG dX6_fitsRow_45 ?_
      refine gf6_5 (pc := 46) lk419 hG dX6_fitsRow_46 ?_
      refine r_aload_n (pc := 49) 1 1 rfl rfl hG dX6_fitsRow_49 ?_
      refine gf4_4 (pc := 50) (i := v1) hv1 lk234 hG dX6_fitsRow_50 ?_
      refine r_icmp_ge (pc := 53) (tgt := 60) (by decide) hG dX6_fitsRow_53 (fun h4 => ?_) (fun h4 => ?_)
      · refine r_iconst (pc := 60) (v := 0) (by decide) hG dX6_fitsRow_60 ?_
        exact r_zret (pc := 61) rvN_b0 rfl hG dX6_fitsRow_61
      · refine r_iconst (pc := 56) (v := 1) (by decide) hG dX6_fitsRow_56 ?_
        refine r_goto (pc := 57) (tgt := 61) (by decide) hG dX6_fitsRow_57 ?_
        exact r_zret (pc := 61) rvN_b1 rfl hG dX6_fitsRow_61
    · refine r_lookup (pc := 1) (tgt := 62) (off := 61) (by decide) (by rw [show (#[(0, 27), (1, 44)] : Array (Int × Int)).toList = [(0, 27), (1, 44)] from rfl, lv_osw h1 (a := 0) (by decide), lv_osw h3 (a := 1) (by decide)]; rfl) (by decide) hG dX6_fitsRow_1 ?_
      refine r_aload_n (pc := 62) 0 0 rfl rfl hG dX6_fitsRow_62 ?_
      refine gf6_5 (pc := 63) lk419 hG dX6_fitsRow_63 ?_
      refine r_bipush (pc := 66) (v := 8) (by decide) hG dX6_fitsRow_66 ?_
      refine r_icmp_ge (pc := 68) (tgt := 97) (by decide) hG dX6_fitsRow_68 (fun h5 => ?_) (fun h5 => ?_)
      · refine r_iconst (pc := 97) (v := 0) (by decide) hG dX6_fitsRow_97 ?_
        exact r_zret (pc := 98) rvN_b0 rfl hG dX6_fitsRow_98
      · refine r_aload_n (pc := 71) 1 1 rfl rfl hG dX6_fitsRow_71 ?_
        refine r_aload_n (pc := 72) 1 1 rfl rfl hG dX6_fitsRow_72 ?_
        refine gf4_3 (pc := 73) (i := v1) hv1 lk229 hG dX6_fitsRow_73 ?_
        refine r_aload_n (pc := 76) 0 0 rfl rfl hG dX6_fitsRow_76 ?_
        refine gf6_6 (pc := 77) lk420 hG dX6_fitsRow_77 ?_
        refine r_iconst (pc := 80) (v := 0) (by decide) hG dX6_fitsRow_80 ?_
        refine r_iald (pc := 81) (i := 73) (rfl : shp 73 = 14) rfl (by decide) hG dX6_fitsRow_81 ?_
        refine r_ck hG (fun h6 => ?_)
        refine r_aGuests (pc := 82) (i := v1) (sh4_4 hv1) (ln4_4 hv1) h6 hG dX6_fitsRow_82 ?_
        refine r_aload_n (pc := 83) 0 0 rfl rfl hG dX6_fitsRow_83 ?_
        refine gf6_5 (pc := 84) lk419 hG dX6_fitsRow_84 ?_
        refine r_bR hG (fun r7 e9 => ?_)
        refine r_callVi (pc := 87) (As := [.ref (X.2.1 + (v1 + 16 + ((σ.1 73 (0 : Int32).toNatClampNeg)).toNatClampNeg)), .int (σ.1 71 5)]) (c_Ni_canRow X N v1 (v1 + 16 + ((σ.1 73 (0 : Int32).toNatClampNeg)).toNatClampNeg) (σ.1 71 5) σ hv1 (shGu hv1 h6) r7 e9) (wsOf_at hv1 (by decide) rfl) rfl mfX6_86_X4_canRow hyVX4_canRow (by decide) (by decide) rfl (Nat.le_of_ble_eq_true rfl) hG dX6_fitsRow_87 rfl (fun n8 => ?_)
        refine r_if_eq (pc := 90) (tgt := 97) (by decide) hG dX6_fitsRow_90 (fun h10 => ?_) (fun h10 => ?_)
        · refine r_iconst (pc := 97) (v := 0) (by decide) hG dX6_fitsRow_97 ?_
          exact r_zret (pc := 98) rvN_b0 rfl hG dX6_fitsRow_98
        · refine r_iconst (pc := 93) (v := 1) (by decide) hG dX6_fitsRow_93 ?_
          refine r_goto (pc := 94) (tgt := 98) (by decide) hG dX6_fitsRow_94 ?_
          exact r_zret (pc := 98) rvN_b1 rfl hG dX6_fitsRow_98
set_option maxRecDepth 4000 in
theorem c_Re_fits (X : Cx) (N : Nat) (v1 : Nat) (v2 : Int32) (v3 : Int32) (σ : St) (hv1 : shp v1 = 4) (r : Int32) (hE : Re_fits N v1 v2 v3 σ = some r) : Ctr X yX6_fits cX6_fits 4 (some .boolean) 4 [.ref (X.2.1 + 71), .ref (X.2.1 + v1), .int v2, .int v3] σ (some (.int r)) σ := by
  refine Ctr.of (out := (oI σ)) (E := Re_fits N v1 v2 v3 σ) rfl (Nat.le_of_ble_eq_true rfl) (fun G hG => ?_) r hE
  unfold Re_fits
  refine r_iload_n (pc := 0) 2 2 rfl rfl hG dX6_fits_0 ?_
  refine r_ite hG (fun h1 => ?_) (fun h1 => ?_)
  · refine r_tableIn (pc := 1) (tgt := 36) (off := 35) (by rw [h1]; decide) (by rw [h1]; decide) (by rw [h1]; decide) (by decide) hG dX6_fits_1 ?_
    refine r_aload_n (pc := 36) 0 0 rfl rfl hG dX6_fits_36 ?_
    refine gf6_5 (pc := 37) lk419 hG dX6_fits_37 ?_
    refine r_bipush (pc := 40) (v := 9) (by decide) hG dX6_fits_40 ?_
    refine r_icmp_gt (pc := 42) (tgt := 49) (by decide) hG dX6_fits_42 (fun h2 => ?_) (fun h2 => ?_)
    · refine r_iconst (pc := 49) (v := 0) (by decide) hG dX6_fits_49 ?_
      exact r_zret (pc := 50) rvN_b0 rfl hG dX6_fits_50
    · refine r_iconst (pc := 45) (v := 1) (by decide) hG dX6_fits_45 ?_
      refine r_goto (pc := 46) (tgt := 50) (by decide) hG dX6_fits_46 ?_
      exact r_zret (pc := 50) rvN_b1 rfl hG dX6_fits_50
  · refine r_ite hG (fun h3 => ?_) (fun h3 => ?_)
    · refine r_tableIn (pc := 1) (tgt := 51) (off := 50) (by rw [h3]; decide) (by rw [h3]; decide) (by rw [h3]; decide) (by decide) hG dX6_fits_1 ?_
      refine r_iload_n (pc := 51) 3 3 rfl rfl hG dX6_fits_51 ?_
      refine r_if_ne (pc := 52) (tgt := 72) (by decide) hG dX6_fits_52 (fun h4 => ?_) (fun h4 => ?_)
      · refine r_aload_n (pc := 72) 0 0 rfl rfl hG dX6_fits_72 ?_
        refine gf6_5 (pc := 73) lk419 hG dX6_fits_73 ?_
        refine r_bipush (pc := 76) (v := 9) (by decide) hG dX6_fits_76 ?_
        refine r_icmp_gt (pc := 78) (tgt := 85) (by decide) hG dX6_fits_78 (fun h5 => ?_) (fun h5 => ?_)
        · refine r_iconst (pc := 85) (v := 0) (by decide) hG dX6_fits_85 ?_
          exact r_zret (pc := 86) rvN_b0 rfl hG dX6_fits_86
        · refine r_iconst (pc := 81) (v := 1) (by decide) hG dX6_fits_81 ?_
          refine r_goto (pc := 82) (tgt := 86) (by decide) hG dX6_fits_82 ?_
          exact r_zret (pc := 86) rvN_b1 rfl hG dX6_fits_86
      · refine r_aload_n (pc := 55) 0 0 rfl rfl hG dX6_fits_55 ?_
        refine gf6_5 (pc := 56) lk419 hG dX6_fits_56 ?_
        refine r_bipush (pc := 59) (v := 8) (by decide) hG dX6_fits_59 ?_
        refine r_icmp_ge (pc := 61) (tgt := 68) (by decide) hG dX6_fits_61 (fun h6 => ?_) (fun h6 => ?_)
        · refine r_iconst (pc := 68) (v := 0) (by decide) hG dX6_fits_68 ?_
          refine r_goto (pc := 69) (tgt := 86) (by decide) hG dX6_fits_69 ?_
          exact r_zret (pc := 86) rvN_b0 rfl hG dX6_fits_86
        · refine r_iconst (pc := 64) (v := 1) (by decide) hG dX6_fits_64 ?_
          refine r_goto (pc := 65) (tgt := 86) (by decide) hG dX6_fits_65 ?_
          exact r_zret (pc := 86) rvN_b1 rfl hG dX6_fits_86
    · refine r_ite hG (fun h7 => ?_) (fun h7 => ?_)
      · refine r_tableIn (pc := 1) (tgt := 87) (off := 86) (by rw [h7]; decide) (by rw [h7]; decide) (by rw [h7]; decide) (by decide) hG dX6_fits_1 ?_
        refine r_aload_n (pc := 87) 0 0 rfl rfl hG dX6_fits_87 ?_
        refine r_iload_n (pc := 88) 3 3 rfl rfl hG dX6_fits_88 ?_
        refine r_bR hG (fun r8 e10 => ?_)
        refine r_callVi (pc := 89) (As := [.int v3]) (c_Re_fitsCanal X N v3 σ r8 e10) (wsOf_at (rfl : shp 71 = 6) (by decide) rfl) rfl mfX6_71_X6_fitsCanal hyVX6_fitsCanal (by decide) (by decide) rfl (Nat.le_of_ble_eq_true rfl) hG dX6_fits_89 rfl (fun n9 => ?_)
        exact r_zret (pc := 92) n9 rfl hG dX6_fits_92
      · refine r_ite hG (fun h11 => ?_) (fun h11 => ?_)
        · refine r_tableIn (pc := 1) (tgt := 93) (off := 92) (by rw [h11]; decide) (by rw [h11]; decide) (by rw [h11]; decide) (by decide) hG dX6_fits_1 ?_
          refine r_iload_n (pc := 93) 3 3 rfl rfl hG dX6_fits_93 ?_
          refine r_if_ne (pc := 94) (tgt := 113) (by decide) hG dX6_fits_94 (fun h12 => ?_) (fun h12 => ?_)
          · refine r_aload_n (pc := 113) 0 0 rfl rfl hG dX6_fits_113 ?_
            refine gf6_5 (pc := 114) lk419 hG dX6_fits_114 ?_
            refine r_bipush (pc := 117) (v := 9) (by decide) hG dX6_fits_117 ?_
            refine r_icmp_gt (pc := 119) (tgt := 126) (by decide) hG dX6_fits_119 (fun h13 => ?_) (fun h13 => ?_)
            · refine r_iconst (pc := 126) (v := 0) (by decide) hG dX6_fits_126 ?_
              exact r_zret (pc := 127) rvN_b0 rfl hG dX6_fits_127
            · refine r_iconst (pc := 122) (v := 1) (by decide) hG dX6_fits_122 ?_
              refine r_goto (pc := 123) (tgt := 127) (by decide) hG dX6_fits_123 ?_
              exact r_zret (pc := 127) rvN_b1 rfl hG dX6_fits_127
          · refine r_aload_n (pc := 97) 0 0 rfl rfl hG dX6_fits_97 ?_
            refine gf6_5 (pc := 98) lk419 hG dX6_fits_98 ?_
            refine r_iconst (pc := 101) (v := 5) (by decide) hG dX6_fits_101 ?_
            refine r_icmp_gt (pc := 102) (tgt := 109) (by decide) hG dX6_fits_102 (fun h14 => ?_) (fun h14 => ?_)
            · refine r_iconst (pc := 109) (v := 0) (by decide) hG dX6_fits_109 ?_
              refine r_goto (pc := 110) (tgt := 127) (by decide) hG dX6_fits_110 ?_
              exact r_zret (pc := 127) rvN_b0 rfl hG dX6_fits_127
            · refine r_iconst (pc := 105) (v := 1) (by decide) hG dX6_fits_105 ?_
              refine r_goto (pc := 106) (tgt := 127) (by decide) hG dX6_fits_106 ?_
              exact r_zret (pc := 127) rvN_b1 rfl hG dX6_fits_127
        · refine r_ite hG (fun h15 => ?_) (fun h15 => ?_)
          · refine r_tableIn (pc := 1) (tgt := 128) (off := 127) (by rw [h15]; decide) (by rw [h15]; decide) (by rw [h15]; decide) (by decide) hG dX6_fits_1 ?_
            refine r_iload_n (pc := 128) 3 3 rfl rfl hG dX6_fits_128 ?_
            refine r_if_ne (pc := 129) (tgt := 148) (by decide) hG dX6_fits_129 (fun h16 => ?_) (fun h16 => ?_)
            · refine r_aload_n (pc := 148) 0 0 rfl rfl hG dX6_fits_148 ?_
              refine gf6_5 (pc := 149) lk419 hG dX6_fits_149 ?_
              refine r_iconst (pc := 152) (v := 1) (by decide) hG dX6_fits_152 ?_
              refine r_bipush (pc := 153) (v := 40) (by decide) hG dX6_fits_153 ?_
              refine r_callSNi (pc := 155) (As := [.int (σ.1 71 5), .int 1, .int 40]) (c_Go_within X (σ.1 71 5) 1 40 σ) mfX6_75_X11_within hySX11_within (by decide) (by decide) rfl (Nat.le_of_ble_eq_true rfl) hG dX6_fits_155 rfl (fun n18 => ?_)
              exact r_zret (pc := 158) n18 rfl hG dX6_fits_158
            · refine r_aload_n (pc := 132) 0 0 rfl rfl hG dX6_fits_132 ?_
              refine gf6_5 (pc := 133) lk419 hG dX6_fits_133 ?_
              refine r_iconst (pc := 136) (v := 5) (by decide) hG dX6_fits_136 ?_
              refine r_icmp_gt (pc := 137) (tgt := 144) (by decide) hG dX6_fits_137 (fun h20 => ?_) (fun h20 => ?_)
              · refine r_iconst (pc := 144) (v := 0) (by decide) hG dX6_fits_144 ?_
                refine r_goto (pc := 145) (tgt := 158) (by decide) hG dX6_fits_145 ?_
                exact r_zret (pc := 158) rvN_b0 rfl hG dX6_fits_158
              · refine r_iconst (pc := 140) (v := 1) (by decide) hG dX6_fits_140 ?_
                refine r_goto (pc := 141) (tgt := 158) (by decide) hG dX6_fits_141 ?_
                exact r_zret (pc := 158) rvN_b1 rfl hG dX6_fits_158
          · refine r_tableOut (pc := 1) (tgt := 159) (by have q0 := lv_neT h1 (a := 0) (by decide); have q1 := lv_neT h3 (a := 1) (by decide); have q2 := lv_neT h7 (a := 2) (by decide); have q3 := lv_neT h11 (a := 3) (by decide); have q4 := lv_neT h15 (a := 4) (by decide); omega) (by decide) hG dX6_fits_1 ?_
            refine r_aload_n (pc := 159) 0 0 rfl rfl hG dX6_fits_159 ?_
            refine r_aload_n (pc := 160) 1 1 rfl rfl hG dX6_fits_160 ?_
            refine r_iload_n (pc := 161) 3 3 rfl rfl hG dX6_fits_161 ?_
            refine r_bR hG (fun r21 e23 => ?_)
            refine r_callVi (pc := 162) (As := [.ref (X.2.1 + v1), .int v3]) (c_Re_fitsRow X N v1 v3 σ hv1 r21 e23) (wsOf_at (rfl : shp 71 = 6) (by decide) rfl) rfl mfX6_79_X6_fitsRow hyVX6_fitsRow (by decide) (by decide) rfl (Nat.le_of_ble_eq_true rfl) hG dX6_fits_162 rfl (fun n22 => ?_)
            exact r_zret (pc := 165) n22 rfl hG dX6_fits_165
set_option maxRecDepth 4000 in
theorem c_Re_apply (X : Cx) (N : Nat) (v1 : Nat) (v2 : Int32) (σ : St) (hv1 : shp v1 = 4) (σ1 : St) (hE : Re_apply N v1 v2 σ = some σ1) : Ctr X yX6_apply cX6_apply 3 none 9 [.ref (X.2.1 + 71), .ref (X.2.1 + v1), .int v2] σ none σ1 := by
  refine Ctr.of (out := oWV) (E := Re_apply N v1 v2 σ) rfl (Nat.le_of_ble_eq_true rfl) (fun G hG => ?_) σ1 hE
  unfold Re_apply
  refine r_iload_n (pc := 0) 2 2 rfl rfl hG dX6_apply_0 ?_
  refine r_ite hG (fun h1 => ?_) (fun h1 => ?_)
  · refine r_tableIn (pc := 1) (tgt := 36) (off := 35) (by rw [h1]; decide) (by rw [h1]; decide) (by rw [h1]; decide) (by decide) hG dX6_apply_1 ?_
    refine r_aload_n (pc := 36) 1 1 rfl rfl hG dX6_apply_36 ?_
    refine r_aload_n (pc := 37) 0 0 rfl rfl hG dX6_apply_37 ?_
    refine gf6_6 (pc := 38) lk420 hG dX6_apply_38 ?_
    refine r_iconst (pc := 41) (v := 0) (by decide) hG dX6_apply_41 ?_
    refine r_iald (pc := 42) (i := 73) (rfl : shp 73 = 14) rfl (by decide) hG dX6_apply_42 ?_
    refine r_bR hG (fun s3 e5 => ?_)
    refine r_callVv (pc := 43) (As := [.int (σ.1 73 (0 : Int32).toNatClampNeg)]) (c_Ni_begin X N v1 (σ.1 73 (0 : Int32).toNatClampNeg) σ hv1 s3 e5) (wsOf_at hv1 (by decide) rfl) rfl mfX6_90_X4_begin hyVX4_begin (by decide) (by decide) rfl (Nat.le_of_ble_eq_true rfl) hG dX6_apply_43 rfl (fun n4 => ?_)
    refine r_goto (pc := 46) (tgt := 164) (by decide) hG dX6_apply_46 ?_
    exact r_vret (pc := 164) rfl hG dX6_apply_164
  · refine r_ite hG (fun h6 => ?_) (fun h6 => ?_)
    · refine r_tableIn (pc := 1) (tgt := 49) (off := 48) (by rw [h6]; decide) (by rw [h6]; decide) (by rw [h6]; decide) (by decide) hG dX6_apply_1 ?_
      refine r_aload_n (pc := 49) 1 1 rfl rfl hG dX6_apply_49 ?_
      refine gf4_0 (pc := 50) (i := v1) hv1 lk219 hG dX6_apply_50 ?_
      refine r_aload_n (pc := 53) 0 0 rfl rfl hG dX6_apply_53 ?_
      refine gf6_6 (pc := 54) lk420 hG dX6_apply_54 ?_
      refine r_iconst (pc := 57) (v := 0) (by decide) hG dX6_apply_57 ?_
      refine r_iald (pc := 58) (i := 73) (rfl : shp 73 = 14) rfl (by decide) hG dX6_apply_58 ?_
      refine r_aload_n (pc := 59) 0 0 rfl rfl hG dX6_apply_59 ?_
      refine gf6_6 (pc := 60) lk420 hG dX6_apply_60 ?_
      refine r_iconst (pc := 63) (v := 1) (by decide) hG dX6_apply_63 ?_
      refine r_iald (pc := 64) (i := 73) (rfl : shp 73 = 14) rfl (by decide) hG dX6_apply_64 ?_
      refine r_ck hG (fun h7 => ?_)
      refine r_iast (pc := 65) (i := (v1 + 1)) (sh4_1 hv1) (ln4_1 hv1) h7 hG dX6_apply_65 ?_
      refine r_bS hG (fun s8 => ?_)
      refine r_goto (pc := 66) (tgt := 164) (by decide) hG dX6_apply_66 ?_
      exact r_vret (pc := 164) rfl hG dX6_apply_164
    · refine r_ite hG (fun h9 => ?_) (fun h9 => ?_)
      · refine r_tableIn (pc := 1) (tgt := 69) (off := 68) (by rw [h9]; decide) (by rw [h9]; decide) (by rw [h9]; decide) (by decide) hG dX6_apply_1 ?_
        refine r_aload_n (pc := 69) 1 1 rfl rfl hG dX6_apply_69 ?_
        refine r_aload_n (pc := 70) 0 0 rfl rfl hG dX6_apply_70 ?_
        refine gf6_6 (pc := 71) lk420 hG dX6_apply_71 ?_
        refine r_iconst (pc := 74) (v := 0) (by decide) hG dX6_apply_74 ?_
        refine r_iald (pc := 75) (i := 73) (rfl : shp 73 = 14) rfl (by decide) hG dX6_apply_75 ?_
        refine r_aload_n (pc := 76) 0 0 rfl rfl hG dX6_apply_76 ?_
        refine gf6_6 (pc := 77) lk420 hG dX6_apply_77 ?_
        refine r_iconst (pc := 80) (v := 1) (by decide) hG dX6_apply_80 ?_
        refine r_iald (pc := 81) (i := 73) (rfl : shp 73 = 14) rfl (by decide) hG dX6_apply_81 ?_
        refine r_aload_n (pc := 82) 0 0 rfl rfl hG dX6_apply_82 ?_
        refine gf6_6 (pc := 83) lk420 hG dX6_apply_83 ?_
        refine r_iconst (pc := 86) (v := 2) (by decide) hG dX6_apply_86 ?_
        refine r_iald (pc := 87) (i := 73) (rfl : shp 73 = 14) rfl (by decide) hG dX6_apply_87 ?_
        refine r_bR hG (fun s11 e13 => ?_)
        refine r_callVv (pc := 88) (As := [.int (σ.1 73 (0 : Int32).toNatClampNeg), .int (σ.1 73 (1 : Int32).toNatClampNeg), .int (σ.1 73 (2 : Int32).toNatClampNeg)]) (c_Ni_dig X N v1 (σ.1 73 (0 : Int32).toNatClampNeg) (σ.1 73 (1 : Int32).toNatClampNeg) (σ.1 73 (2 : Int32).toNatClampNeg) σ hv1 s11 e13) (wsOf_at hv1 (by decide) rfl) rfl mfX6_97_X4_dig hyVX4_dig (by decide) (by decide) rfl (Nat.le_of_ble_eq_true rfl) hG dX6_apply_88 rfl (fun n12 => ?_)
        refine r_goto (pc := 91) (tgt := 164) (by decide) hG dX6_apply_91 ?_
        exact r_vret (pc := 164) rfl hG dX6_apply_164
      · refine r_ite hG (fun h14 => ?_) (fun h14 => ?_)
        · refine r_tableIn (pc := 1) (tgt := 94) (off := 93) (by rw [h14]; decide) (by rw [h14]; decide) (by rw [h14]; decide) (by decide) hG dX6_apply_1 ?_
          refine r_aload_n (pc := 94) 1 1 rfl rfl hG dX6_apply_94 ?_
          refine r_aload_n (pc := 95) 0 0 rfl rfl hG dX6_apply_95 ?_
          refine gf6_6 (pc := 96) lk420 hG dX6_apply_96 ?_
          refine r_iconst (pc := 99) (v := 0) (by decide) hG dX6_apply_99 ?_
          refine r_iald (pc := 100) (i := 73) (rfl : shp 73 = 14) rfl (by decide) hG dX6_apply_100 ?_
          refine r_aload_n (pc := 101) 0 0 rfl rfl hG dX6_apply_101 ?_
          refine gf6_6 (pc := 102) lk420 hG dX6_apply_102 ?_
          refine r_iconst (pc := 105) (v := 1) (by decide) hG dX6_apply_105 ?_
          refine r_iald (pc := 106) (i := 73) (rfl : shp 73 = 14) rfl (by decide) hG dX6_apply_106 ?_
          refine r_bR hG (fun s16 e18 => ?_)
          refine r_callVv (pc := 107) (As := [.int (σ.1 73 (0 : Int32).toNatClampNeg), .int (σ.1 73 (1 : Int32).toNatClampNeg)]) (c_Ni_addRower X N v1 (σ.1 73 (0 : Int32).toNatClampNeg) (σ.1 73 (1 : Int32).toNatClampNeg) σ hv1 s16 e18) (wsOf_at hv1 (by decide) rfl) rfl mfX6_101_X4_addRower hyVX4_addRower (by decide) (by decide) rfl (Nat.le_of_ble_eq_true rfl) hG dX6_apply_107 rfl (fun n17 => ?_)
          refine r_goto (pc := 110) (tgt := 164) (by decide) hG dX6_apply_110 ?_
          exact r_vret (pc := 164) rfl hG dX6_apply_164
        · refine r_ite hG (fun h19 => ?_) (fun h19 => ?_)
          · refine r_tableIn (pc := 1) (tgt := 113) (off := 112) (by rw [h19]; decide) (by rw [h19]; decide) (by rw [h19]; decide) (by decide) hG dX6_apply_1 ?_
            refine r_aload_n (pc := 113) 1 1 rfl rfl hG dX6_apply_113 ?_
            refine r_aload_n (pc := 114) 0 0 rfl rfl hG dX6_apply_114 ?_
            refine gf6_6 (pc := 115) lk420 hG dX6_apply_115 ?_
            refine r_iconst (pc := 118) (v := 0) (by decide) hG dX6_apply_118 ?_
            refine r_iald (pc := 119) (i := 73) (rfl : shp 73 = 14) rfl (by decide) hG dX6_apply_119 ?_
            refine r_aload_n (pc := 120) 0 0 rfl rfl hG dX6_apply_120 ?_
            refine gf6_6 (pc := 121) lk420 hG dX6_apply_121 ?_
            refine r_iconst (pc := 124) (v := 1) (by decide) hG dX6_apply_124 ?_
            refine r_iald (pc := 125) (i := 73) (rfl : shp 73 = 14) rfl (by decide) hG dX6_apply_125 ?_
            refine r_bR hG (fun s21 e23 => ?_)
            refine r_callVv (pc := 126) (As := [.int (σ.1 73 (0 : Int32).toNatClampNeg), .int (σ.1 73 (1 : Int32).toNatClampNeg)]) (c_Ni_addGuest X N v1 (σ.1 73 (0 : Int32).toNatClampNeg) (σ.1 73 (1 : Int32).toNatClampNeg) σ hv1 s21 e23) (wsOf_at hv1 (by decide) rfl) rfl mfX6_105_X4_addGuest hyVX4_addGuest (by decide) (by decide) rfl (Nat.le_of_ble_eq_true rfl) hG dX6_apply_126 rfl (fun n22 => ?_)
            refine r_goto (pc := 129) (tgt := 164) (by decide) hG dX6_apply_129 ?_
            exact r_vret (pc := 164) rfl hG dX6_apply_164
          · refine r_tableOut (pc := 1) (tgt := 132) (by have q0 := lv_neT h1 (a := 0) (by decide); have q1 := lv_neT h6 (a := 1) (by decide); have q2 := lv_neT h9 (a := 2) (by decide); have q3 := lv_neT h14 (a := 3) (by decide); have q4 := lv_neT h19 (a := 4) (by decide); omega) (by decide) hG dX6_apply_1 ?_
            refine r_aload_n (pc := 132) 1 1 rfl rfl hG dX6_apply_132 ?_
            refine r_aload_n (pc := 133) 1 1 rfl rfl hG dX6_apply_133 ?_
            refine gf4_3 (pc := 134) (i := v1) hv1 lk229 hG dX6_apply_134 ?_
            refine r_aload_n (pc := 137) 0 0 rfl rfl hG dX6_apply_137 ?_
            refine gf6_6 (pc := 138) lk420 hG dX6_apply_138 ?_
            refine r_iconst (pc := 141) (v := 0) (by decide) hG dX6_apply_141 ?_
            refine r_iald (pc := 142) (i := 73) (rfl : shp 73 = 14) rfl (by decide) hG dX6_apply_142 ?_
            refine r_ck hG (fun h24 => ?_)
            refine r_aGuests (pc := 143) (i := v1) (sh4_4 hv1) (ln4_4 hv1) h24 hG dX6_apply_143 ?_
            refine r_aload_n (pc := 144) 1 1 rfl rfl hG dX6_apply_144 ?_
            refine gf4_2 (pc := 145) (i := v1) hv1 lk224 hG dX6_apply_145 ?_
            refine r_aload_n (pc := 148) 0 0 rfl rfl hG dX6_apply_148 ?_
            refine gf6_6 (pc := 149) lk420 hG dX6_apply_149 ?_
            refine r_iconst (pc := 152) (v := 1) (by decide) hG dX6_apply_152 ?_
            refine r_iald (pc := 153) (i := 73) (rfl : shp 73 = 14) rfl (by decide) hG dX6_apply_153 ?_
            refine r_ck hG (fun h25 => ?_)
            refine r_aRowers (pc := 154) (i := v1) (sh4_3 hv1) (ln4_3 hv1) h25 hG dX6_apply_154 ?_
            refine r_aload_n (pc := 155) 0 0 rfl rfl hG dX6_apply_155 ?_
            refine gf6_6 (pc := 156) lk420 hG dX6_apply_156 ?_
            refine r_iconst (pc := 159) (v := 2) (by decide) hG dX6_apply_159 ?_
            refine r_iald (pc := 160) (i := 73) (rfl : shp 73 = 14) rfl (by decide) hG dX6_apply_160 ?_
            refine r_bR hG (fun s27 e29 => ?_)
            refine r_callVv (pc := 161) (As := [.ref (X.2.1 + (v1 + 16 + ((σ.1 73 (0 : Int32).toNatClampNeg)).toNatClampNeg)), .ref (X.2.1 + (v1 + 13 + ((σ.1 73 (1 : Int32).toNatClampNeg)).toNatClampNeg)), .int (σ.1 73 (2 : Int32).toNatClampNeg)]) (c_Ni_carry X N v1 (v1 + 16 + ((σ.1 73 (0 : Int32).toNatClampNeg)).toNatClampNeg) (v1 + 13 + ((σ.1 73 (1 : Int32).toNatClampNeg)).toNatClampNeg) (σ.1 73 (2 : Int32).toNatClampNeg) σ hv1 (shGu hv1 h24) (shRo hv1 h25) s27 e29) (wsOf_at hv1 (by decide) rfl) rfl mfX6_112_X4_carry hyVX4_carry (by decide) (by decide) rfl (Nat.le_of_ble_eq_true rfl) hG dX6_apply_161 rfl (fun n28 => ?_)
            exact r_vret (pc := 164) rfl hG dX6_apply_164
set_option maxRecDepth 4000 in
theorem w_Re_readItem_J92 {X : Cx} {G : GT (Int32 × St)} (N : Nat) (hG : IsG X RX6 cX6_readItem 5 10 (some .boolean) oWI G) (v1 : Nat) (v3 : Int32) (σ : St) (hv1 : shp v1 = 4) : G (Re_readItem_J92 N v1 v3 σ) σ 92 [(0, .ref (X.2.1 + 71)), (1, .ref (X.2.1 + v1)), (3, .int v3)] [] := by
  unfold Re_readItem_J92
  refine r_aload_n (pc := 92) 0 0 rfl rfl hG dX6_readItem_92 ?_
  refine gf6_4 (pc := 93) lk418 hG dX6_readItem_93 ?_
  refine r_iconst (pc := 96) (v := 3) (by decide) hG dX6_readItem_96 ?_
  refine r_icmp_eq (pc := 97) (tgt := 102) (by decide) hG dX6_readItem_97 (fun h17 => ?_) (fun h17 => ?_)
  · refine r_aload_n (pc := 102) 0 0 rfl rfl hG dX6_readItem_102 ?_
    refine r_bR hG (fun s19 e21 => ?_)
    refine r_callVv (pc := 103) (As := []) (c_Re_advance X N σ s19 e21) (wsOf_at (rfl : shp 71 = 6) (by decide) rfl) rfl mfX6_31_X6_advance hyVX6_advance (by decide) (by decide) rfl (Nat.le_of_ble_eq_true rfl) hG dX6_readItem_103 rfl (fun n20 => ?_)
    refine r_aload_n (pc := 106) 0 0 rfl rfl hG dX6_readItem_106 ?_
    refine r_aload_n (pc := 107) 1 1 rfl rfl hG dX6_readItem_107 ?_
    refine r_iload_n (pc := 108) 2 3 rfl rfl hG dX6_readItem_108 ?_
    refine r_bR hG (fun s23 e25 => ?_)
    refine r_callVv (pc := 109) (As := [.ref (X.2.1 + v1), .int v3]) (c_Re_apply X N v1 v3 s19 hv1 s23 e25) (wsOf_at (rfl : shp 71 = 6) (by decide) rfl) rfl mfX6_59_X6_apply hyVX6_apply (by decide) (by decide) rfl (Nat.le_of_ble_eq_true rfl) hG dX6_readItem_109 rfl (fun n24 => ?_)
    refine r_iconst (pc := 112) (v := 1) (by decide) hG dX6_readItem_112 ?_
    exact r_zret (pc := 113) rvN_b1 rfl hG dX6_readItem_113
  · refine r_iconst (pc := 100) (v := 0) (by decide) hG dX6_readItem_100 ?_
    exact r_zret (pc := 101) rvN_b0 rfl hG dX6_readItem_101
set_option maxRecDepth 4000 in
theorem w_Re_readItem_L40B {X : Cx} {G : GT (Int32 × St)} (N : Nat) (hG : IsG X RX6 cX6_readItem 5 10 (some .boolean) oWI G) {K40 : Nat → Int32 → Int32 → St → Option (Int32 × St)} (hK40 : ∀ (v1 : Nat) (v3 : Int32) (v4 : Int32) (s : St), shp v1 = 4 → G (K40 v1 v3 v4 s) s 40 [(0, .ref (X.2.1 + 71)), (1, .ref (X.2.1 + v1)), (3, .int v3), (4, .int v4)] []) (v1 : Nat) (v3 : Int32) (v4 : Int32) (σ : St) (hv1 : shp v1 = 4) : G (Re_readItem_L40B N K40 v1 v3 v4 σ) σ 40 [(0, .ref (X.2.1 + 71)), (1, .ref (X.2.1 + v1)), (3, .int v3), (4, .int v4)] [] := by
  unfold Re_readItem_L40B
  refine r_iload (pc := 40) 3 rfl hG dX6_readItem_40 ?_
  refine r_gsnu (pc := 42) lk647 hG dX6_readItem_42 ?_
  refine r_iload_n (pc := 45) 2 3 rfl rfl hG dX6_readItem_45 ?_
  refine r_ck hG (fun h15 => ?_)
  refine r_nuald (pc := 46) h15 hG dX6_readItem_46 ?_
  refine r_icmp_ge (pc := 47) (tgt := 92) (by decide) hG dX6_readItem_47 (fun h16 => ?_) (fun h16 => ?_)
  · exact r_sub [0, 1, 2] rfl hG (w_Re_readItem_J92 N hG v1 v3 σ hv1)
  · refine r_aload_n (pc := 50) 0 0 rfl rfl hG dX6_readItem_50 ?_
    refine gf6_4 (pc := 51) lk418 hG dX6_readItem_51 ?_
    refine r_iconst (pc := 54) (v := 2) (by decide) hG dX6_readItem_54 ?_
    refine r_icmp_ne (pc := 55) (tgt := 69) (by decide) hG dX6_readItem_55 (fun h26 => ?_) (fun h26 => ?_)
    · refine r_iconst (pc := 69) (v := 0) (by decide) hG dX6_readItem_69 ?_
      exact r_zret (pc := 70) rvN_b0 rfl hG dX6_readItem_70
    · refine r_aload_n (pc := 58) 0 0 rfl rfl hG dX6_readItem_58 ?_
      refine r_aload_n (pc := 59) 1 1 rfl rfl hG dX6_readItem_59 ?_
      refine r_iload_n (pc := 60) 2 3 rfl rfl hG dX6_readItem_60 ?_
      refine r_iload (pc := 61) 3 rfl hG dX6_readItem_61 ?_
      refine r_bR hG (fun r27 e29 => ?_)
      refine r_callVi (pc := 63) (As := [.ref (X.2.1 + v1), .int v3, .int v4]) (c_Re_fits X N v1 v3 v4 σ hv1 r27 e29) (wsOf_at (rfl : shp 71 = 6) (by decide) rfl) rfl mfX6_52_X6_fits hyVX6_fits (by decide) (by decide) rfl (Nat.le_of_ble_eq_true rfl) hG dX6_readItem_63 rfl (fun n28 => ?_)
      refine r_if_ne (pc := 66) (tgt := 71) (by decide) hG dX6_readItem_66 (fun h30 => ?_) (fun h30 => ?_)
      · refine r_aload_n (pc := 71) 0 0 rfl rfl hG dX6_readItem_71 ?_
        refine gf6_6 (pc := 72) lk420 hG dX6_readItem_72 ?_
        refine r_iload (pc := 75) 3 rfl hG dX6_readItem_75 ?_
        refine r_aload_n (pc := 77) 0 0 rfl rfl hG dX6_readItem_77 ?_
        refine gf6_5 (pc := 78) lk419 hG dX6_readItem_78 ?_
        refine r_ck hG (fun h31 => ?_)
        refine r_iast (pc := 81) (i := 73) (rfl : shp 73 = 14) rfl h31 hG dX6_readItem_81 ?_
        refine r_bS hG (fun s32 => ?_)
        refine r_aload_n (pc := 82) 0 0 rfl rfl hG dX6_readItem_82 ?_
        refine r_bR hG (fun s34 e36 => ?_)
        refine r_callVv (pc := 83) (As := []) (c_Re_advance X N s32 s34 e36) (wsOf_at (rfl : shp 71 = 6) (by decide) rfl) rfl mfX6_31_X6_advance hyVX6_advance (by decide) (by decide) rfl (Nat.le_of_ble_eq_true rfl) hG dX6_readItem_83 rfl (fun n35 => ?_)
        refine r_bIinc (pc := 86) (lv' := fun x37 => [(4, .int x37), (0, .ref (X.2.1 + 71)), (1, .ref (X.2.1 + v1)), (3, .int v3)]) 3 rfl rfl (by decide) (fun _ => rfl) hG dX6_readItem_86 (fun x37 => ?_)
        refine r_goto (pc := 89) (tgt := 40) (by decide) hG dX6_readItem_89 ?_
        exact r_sub [1, 2, 3, 0] rfl hG (hK40 v1 v3 x37 s34 hv1)
      · refine r_iconst (pc := 69) (v := 0) (by decide) hG dX6_readItem_69 ?_
        exact r_zret (pc := 70) rvN_b0 rfl hG dX6_readItem_70
set_option maxRecDepth 4000 in
theorem w_Re_readItem_L40 {X : Cx} {G : GT (Int32 × St)} (N : Nat) (hG : IsG X RX6 cX6_readItem 5 10 (some .boolean) oWI G) : ∀ (n : Nat), ∀ (v1 : Nat) (v3 : Int32) (v4 : Int32) (σ : St), shp v1 = 4 → G (Re_readItem_L40 N n v1 v3 v4 σ) σ 40 [(0, .ref (X.2.1 + 71)), (1, .ref (X.2.1 + v1)), (3, .int v3), (4, .int v4)] [] := by
  intro n
  induction n with
  | zero => intro v1 v3 v4 σ hv1; exact r_none hG
  | succ n ih => intro v1 v3 v4 σ hv1; exact w_Re_readItem_L40B N hG ih v1 v3 v4 σ hv1
set_option maxRecDepth 4000 in
theorem w_Re_readItem_J20 {X : Cx} {G : GT (Int32 × St)} (N : Nat) (hG : IsG X RX6 cX6_readItem 5 10 (some .boolean) oWI G) (v1 : Nat) (v3 : Int32) (w0 : Int32) (w1 : Int32) (σ : St) (hv1 : shp v1 = 4) : G (Re_readItem_J20 N v1 v3 w0 w1 σ) σ 20 [(0, .ref (X.2.1 + 71)), (1, .ref (X.2.1 + v1)), (3, .int v3)] [.int w1, .int w0] := by
  unfold Re_readItem_J20
  refine r_icmp_ne (pc := 20) (tgt := 31) (by decide) hG dX6_readItem_20 (fun h6 => ?_) (fun h6 => ?_)
  · refine r_iconst (pc := 31) (v := 0) (by decide) hG dX6_readItem_31 ?_
    exact r_zret (pc := 32) rvN_b0 rfl hG dX6_readItem_32
  · refine r_aload_n (pc := 23) 1 1 rfl rfl hG dX6_readItem_23 ?_
    refine r_iload_n (pc := 24) 2 3 rfl rfl hG dX6_readItem_24 ?_
    refine r_bR hG (fun r7 e9 => ?_)
    refine r_callSi (pc := 25) (As := [.ref (X.2.1 + v1), .int v3]) (c_Re_isOneTooMany X N v1 v3 σ hv1 r7 e9) mfX6_45_X6_isOneTooMany hySX6_isOneTooMany (by decide) (by decide) rfl (Nat.le_of_ble_eq_true rfl) hG dX6_readItem_25 rfl (fun n8 => ?_)
    refine r_if_eq (pc := 28) (tgt := 33) (by decide) hG dX6_readItem_28 (fun h10 => ?_) (fun h10 => ?_)
    · refine r_aload_n (pc := 33) 0 0 rfl rfl hG dX6_readItem_33 ?_
      refine r_bR hG (fun s12 e14 => ?_)
      refine r_callVv (pc := 34) (As := []) (c_Re_advance X N σ s12 e14) (wsOf_at (rfl : shp 71 = 6) (by decide) rfl) rfl mfX6_31_X6_advance hyVX6_advance (by decide) (by decide) rfl (Nat.le_of_ble_eq_true rfl) hG dX6_readItem_34 rfl (fun n13 => ?_)
      refine r_iconst (pc := 37) (v := 0) (by decide) hG dX6_readItem_37 ?_
      refine r_istore (pc := 38) (lv' := [(4, .int 0), (0, .ref (X.2.1 + 71)), (1, .ref (X.2.1 + v1)), (3, .int v3)]) (by decide) rfl hG dX6_readItem_38 ?_
      exact r_sub [1, 2, 3, 0] rfl hG (w_Re_readItem_L40 N hG N v1 v3 0 s12 hv1)
    · refine r_iconst (pc := 31) (v := 0) (by decide) hG dX6_readItem_31 ?_
      exact r_zret (pc := 32) rvN_b0 rfl hG dX6_readItem_32
set_option maxRecDepth 4000 in
theorem c_Re_readItem (X : Cx) (N : Nat) (v1 : Nat) (v2 : Int32) (σ : St) (hv1 : shp v1 = 4) (r : Int32) (σ1 : St) (hE : Re_readItem N v1 v2 σ = some (r, σ1)) : Ctr X yX6_readItem cX6_readItem 5 (some .boolean) 10 [.ref (X.2.1 + 71), .ref (X.2.1 + v1), .int v2] σ (some (.int r)) σ1 := by
  refine Ctr.of (out := oWI) (E := Re_readItem N v1 v2 σ) rfl (Nat.le_of_ble_eq_true rfl) (fun G hG => ?_) (r, σ1) hE
  unfold Re_readItem
  refine r_aload_n (pc := 0) 0 0 rfl rfl hG dX6_readItem_0 ?_
  refine r_bR hG (fun r1 e3 => ?_)
  refine r_callVi (pc := 1) (As := []) (c_Re_wordAtHand X N σ r1 e3) (wsOf_at (rfl : shp 71 = 6) (by decide) rfl) rfl mfX6_41_X6_wordAtHand hyVX6_wordAtHand (by decide) (by decide) rfl (Nat.le_of_ble_eq_true rfl) hG dX6_readItem_1 rfl (fun n2 => ?_)
  refine r_istore_n (pc := 4) (lv' := [(3, .int r1), (0, .ref (X.2.1 + 71)), (1, .ref (X.2.1 + v1)), (2, .int v2)]) 3 rfl (by decide) rfl hG dX6_readItem_4 ?_
  refine r_iload_n (pc := 5) 0 3 rfl rfl hG dX6_readItem_5 ?_
  refine r_iconst (pc := 6) (v := (-1)) (by decide) hG dX6_readItem_6 ?_
  refine r_icmp_eq (pc := 7) (tgt := 31) (by decide) hG dX6_readItem_7 (fun h4 => ?_) (fun h4 => ?_)
  · refine r_iconst (pc := 31) (v := 0) (by decide) hG dX6_readItem_31 ?_
    exact r_zret (pc := 32) rvN_b0 rfl hG dX6_readItem_32
  · refine r_iload_n (pc := 10) 3 2 rfl rfl hG dX6_readItem_10 ?_
    refine r_iload_n (pc := 11) 0 3 rfl rfl hG dX6_readItem_11 ?_
    refine r_if_ne (pc := 12) (tgt := 19) (by decide) hG dX6_readItem_12 (fun h5 => ?_) (fun h5 => ?_)
    · refine r_iconst (pc := 19) (v := 0) (by decide) hG dX6_readItem_19 ?_
      exact r_sub [1, 2, 0] rfl hG (w_Re_readItem_J20 N hG v1 r1 v2 0 σ hv1)
    · refine r_iconst (pc := 15) (v := 1) (by decide) hG dX6_readItem_15 ?_
      refine r_goto (pc := 16) (tgt := 20) (by decide) hG dX6_readItem_16 ?_
      exact r_sub [1, 2, 0] rfl hG (w_Re_readItem_J20 N hG v1 r1 v2 1 σ hv1)
set_option maxRecDepth 4000 in
theorem w_Re_build_J84 {X : Cx} {G : GT (Int32 × St)} (N : Nat) (hG : IsG X RX6 cX6_build 5 11 (some .int) oWI G) {K52 : Nat → Int32 → St → Option (Int32 × St)} (hK52 : ∀ (v1 : Nat) (v4 : Int32) (s : St), shp v1 = 4 → G (K52 v1 v4 s) s 52 [(0, .ref (X.2.1 + 71)), (1, .ref (X.2.1 + v1)), (4, .int v4)] []) (v1 : Nat) (v4 : Int32) (w1 : Nat) (w2 : Int32) (σ : St) (hv1 : shp v1 = 4) (hw1 : shp w1 = 4) : G (Re_build_J84 N K52 v1 v4 w1 w2 σ) σ 84 [(0, .ref (X.2.1 + 71)), (1, .ref (X.2.1 + v1)), (4, .int v4)] [.int w2, .ref (X.2.1 + w1), .ref (X.2.1 + 71)] := by
  unfold Re_build_J84
  refine r_bW hG (fun r11 s12 e14 => ?_)
  refine r_callVi (pc := 84) (As := [.ref (X.2.1 + w1), .int w2]) (c_Re_readItem X N w1 w2 σ hw1 r11 s12 e14) (wsOf_at (rfl : shp 71 = 6) (by decide) rfl) rfl mfX6_37_X6_readItem hyVX6_readItem (by decide) (by decide) rfl (Nat.le_of_ble_eq_true rfl) hG dX6_build_84 rfl (fun n13 => ?_)
  refine r_if_ne (pc := 87) (tgt := 92) (by decide) hG dX6_build_87 (fun h15 => ?_) (fun h15 => ?_)
  · refine r_bIinc (pc := 92) (lv' := fun x16 => [(4, .int x16), (0, .ref (X.2.1 + 71)), (1, .ref (X.2.1 + v1))]) 2 rfl rfl (by decide) (fun _ => rfl) hG dX6_build_92 (fun x16 => ?_)
    refine r_goto (pc := 95) (tgt := 52) (by decide) hG dX6_build_95 ?_
    exact r_sub [1, 2, 0] rfl hG (hK52 v1 x16 s12 hv1)
  · refine r_iconst (pc := 90) (v := (-1)) (by decide) hG dX6_build_90 ?_
    exact r_iret (pc := 91) rfl hG dX6_build_91
set_option maxRecDepth 4000 in
theorem w_Re_build_J72 {X : Cx} {G : GT (Int32 × St)} (N : Nat) (hG : IsG X RX6 cX6_build 5 11 (some .int) oWI G) {K52 : Nat → Int32 → St → Option (Int32 × St)} (hK52 : ∀ (v1 : Nat) (v4 : Int32) (s : St), shp v1 = 4 → G (K52 v1 v4 s) s 52 [(0, .ref (X.2.1 + 71)), (1, .ref (X.2.1 + v1)), (4, .int v4)] []) (v1 : Nat) (v4 : Int32) (σ : St) (hv1 : shp v1 = 4) : G (Re_build_J72 N K52 v1 v4 σ) σ 72 [(0, .ref (X.2.1 + 71)), (1, .ref (X.2.1 + v1)), (4, .int v4)] [] := by
  unfold Re_build_J72
  refine r_aload_n (pc := 72) 0 0 rfl rfl hG dX6_build_72 ?_
  refine r_aload_n (pc := 73) 1 1 rfl rfl hG dX6_build_73 ?_
  refine r_iload (pc := 74) 2 rfl hG dX6_build_74 ?_
  refine r_if_ne (pc := 76) (tgt := 83) (by decide) hG dX6_build_76 (fun h10 => ?_) (fun h10 => ?_)
  · refine r_iconst (pc := 83) (v := 0) (by decide) hG dX6_build_83 ?_
    exact w_Re_build_J84 N hG hK52 v1 v4 v1 0 σ hv1 hv1
  · refine r_iconst (pc := 79) (v := 1) (by decide) hG dX6_build_79 ?_
    refine r_goto (pc := 80) (tgt := 84) (by decide) hG dX6_build_80 ?_
    exact w_Re_build_J84 N hG hK52 v1 v4 v1 1 σ hv1 hv1
set_option maxRecDepth 4000 in
theorem w_Re_build_L52B {X : Cx} {G : GT (Int32 × St)} (N : Nat) (hG : IsG X RX6 cX6_build 5 11 (some .int) oWI G) {K52 : Nat → Int32 → St → Option (Int32 × St)} (hK52 : ∀ (v1 : Nat) (v4 : Int32) (s : St), shp v1 = 4 → G (K52 v1 v4 s) s 52 [(0, .ref (X.2.1 + 71)), (1, .ref (X.2.1 + v1)), (4, .int v4)] []) (v1 : Nat) (v4 : Int32) (σ : St) (hv1 : shp v1 = 4) : G (Re_build_L52B N K52 v1 v4 σ) σ 52 [(0, .ref (X.2.1 + 71)), (1, .ref (X.2.1 + v1)), (4, .int v4)] [] := by
  unfold Re_build_L52B
  refine r_iload (pc := 52) 2 rfl hG dX6_build_52 ?_
  refine r_sipush (pc := 54) (v := 150) (by decide) hG dX6_build_54 ?_
  refine r_icmp_ge (pc := 57) (tgt := 98) (by decide) hG dX6_build_57 (fun h8 => ?_) (fun h8 => ?_)
  · refine r_iload (pc := 98) 2 rfl hG dX6_build_98 ?_
    exact r_iret (pc := 100) rfl hG dX6_build_100
  · refine r_aload_n (pc := 60) 0 0 rfl rfl hG dX6_build_60 ?_
    refine gf6_4 (pc := 61) lk418 hG dX6_build_61 ?_
    refine r_if_ne (pc := 64) (tgt := 72) (by decide) hG dX6_build_64 (fun h9 => ?_) (fun h9 => ?_)
    · exact w_Re_build_J72 N hG hK52 v1 v4 σ hv1
    · refine r_iload (pc := 67) 2 rfl hG dX6_build_67 ?_
      refine r_if_ne (pc := 69) (tgt := 98) (by decide) hG dX6_build_69 (fun h17 => ?_) (fun h17 => ?_)
      · refine r_iload (pc := 98) 2 rfl hG dX6_build_98 ?_
        exact r_iret (pc := 100) rfl hG dX6_build_100
      · exact w_Re_build_J72 N hG hK52 v1 v4 σ hv1
set_option maxRecDepth 4000 in
theorem w_Re_build_L52 {X : Cx} {G : GT (Int32 × St)} (N : Nat) (hG : IsG X RX6 cX6_build 5 11 (some .int) oWI G) : ∀ (n : Nat), ∀ (v1 : Nat) (v4 : Int32) (σ : St), shp v1 = 4 → G (Re_build_L52 N n v1 v4 σ) σ 52 [(0, .ref (X.2.1 + 71)), (1, .ref (X.2.1 + v1)), (4, .int v4)] [] := by
  intro n
  induction n with
  | zero => intro v1 v4 σ hv1; exact r_none hG
  | succ n ih => intro v1 v4 σ hv1; exact w_Re_build_L52B N hG ih v1 v4 σ hv1
set_option maxRecDepth 4000 in
theorem w_Re_build_J40 {X : Cx} {G : GT (Int32 × St)} (N : Nat) (hG : IsG X RX6 cX6_build 5 11 (some .int) oWI G) (v1 : Nat) (σ : St) (hv1 : shp v1 = 4) : G (Re_build_J40 N v1 σ) σ 40 [(0, .ref (X.2.1 + 71)), (1, .ref (X.2.1 + v1))] [] := by
  unfold Re_build_J40
  refine r_aload_n (pc := 40) 0 0 rfl rfl hG dX6_build_40 ?_
  refine r_iconst (pc := 41) (v := 0) (by decide) hG dX6_build_41 ?_
  refine pf6_2 (pc := 42) lk415 hG dX6_build_42 ?_
  refine r_bS hG (fun s3 => ?_)
  refine r_aload_n (pc := 45) 0 0 rfl rfl hG dX6_build_45 ?_
  refine r_bR hG (fun s5 e7 => ?_)
  refine r_callVv (pc := 46) (As := []) (c_Re_advance X N s3 s5 e7) (wsOf_at (rfl : shp 71 = 6) (by decide) rfl) rfl mfX6_31_X6_advance hyVX6_advance (by decide) (by decide) rfl (Nat.le_of_ble_eq_true rfl) hG dX6_build_46 rfl (fun n6 => ?_)
  refine r_iconst (pc := 49) (v := 0) (by decide) hG dX6_build_49 ?_
  refine r_istore (pc := 50) (lv' := [(4, .int 0), (0, .ref (X.2.1 + 71)), (1, .ref (X.2.1 + v1))]) (by decide) rfl hG dX6_build_50 ?_
  exact r_sub [1, 2, 0] rfl hG (w_Re_build_L52 N hG N v1 0 s5 hv1)
set_option maxRecDepth 4000 in
theorem w_Re_build_L14B {X : Cx} {G : GT (Int32 × St)} (N : Nat) (hG : IsG X RX6 cX6_build 5 11 (some .int) oWI G) {K14 : Nat → Nat → Int32 → St → Option (Int32 × St)} (hK14 : ∀ (v1 : Nat) (v2 : Nat) (v4 : Int32) (s : St), shp v1 = 4 → shp v2 = 13 → G (K14 v1 v2 v4 s) s 14 [(0, .ref (X.2.1 + 71)), (1, .ref (X.2.1 + v1)), (2, .ref (X.2.1 + v2)), (4, .int v4)] []) (v1 : Nat) (v2 : Nat) (v4 : Int32) (σ : St) (hv1 : shp v1 = 4) (hv2 : shp v2 = 13) : G (Re_build_L14B N K14 v1 v2 v4 σ) σ 14 [(0, .ref (X.2.1 + 71)), (1, .ref (X.2.1 + v1)), (2, .ref (X.2.1 + v2)), (4, .int v4)] [] := by
  unfold Re_build_L14B
  refine r_iload (pc := 14) 3 rfl hG dX6_build_14 ?_
  refine r_aload_n (pc := 16) 0 0 rfl rfl hG dX6_build_16 ?_
  refine gf6_1 (pc := 17) lk414 hG dX6_build_17 ?_
  refine r_icmp_ge (pc := 20) (tgt := 40) (by decide) hG dX6_build_20 (fun h2 => ?_) (fun h2 => ?_)
  · exact r_sub [0, 1] rfl hG (w_Re_build_J40 N hG v1 σ hv1)
  · refine r_aload_n (pc := 23) 0 0 rfl rfl hG dX6_build_23 ?_
    refine gf6_0 (pc := 24) lk413 hG dX6_build_24 ?_
    refine r_iload (pc := 27) 3 rfl hG dX6_build_27 ?_
    refine r_aload_n (pc := 29) 2 2 rfl rfl hG dX6_build_29 ?_
    refine r_iload (pc := 30) 3 rfl hG dX6_build_30 ?_
    refine r_ck hG (fun h18 => ?_)
    refine r_bald (pc := 32) (i := v2) hv2 rfl h18 hG dX6_build_32 ?_
    refine r_ck hG (fun h19 => ?_)
    refine r_iast (pc := 33) (i := 72) (rfl : shp 72 = 14) rfl h19 hG dX6_build_33 ?_
    refine r_bS hG (fun s20 => ?_)
    refine r_bIinc (pc := 34) (lv' := fun x21 => [(4, .int x21), (0, .ref (X.2.1 + 71)), (1, .ref (X.2.1 + v1)), (2, .ref (X.2.1 + v2))]) 3 rfl rfl (by decide) (fun _ => rfl) hG dX6_build_34 (fun x21 => ?_)
    refine r_goto (pc := 37) (tgt := 14) (by decide) hG dX6_build_37 ?_
    exact r_sub [1, 2, 3, 0] rfl hG (hK14 v1 v2 x21 s20 hv1 hv2)
set_option maxRecDepth 4000 in
theorem w_Re_build_L14 {X : Cx} {G : GT (Int32 × St)} (N : Nat) (hG : IsG X RX6 cX6_build 5 11 (some .int) oWI G) : ∀ (n : Nat), ∀ (v1 : Nat) (v2 : Nat) (v4 : Int32) (σ : St), shp v1 = 4 → shp v2 = 13 → G (Re_build_L14 N n v1 v2 v4 σ) σ 14 [(0, .ref (X.2.1 + 71)), (1, .ref (X.2.1 + v1)), (2, .ref (X.2.1 + v2)), (4, .int v4)] [] := by
  intro n
  induction n with
  | zero => intro v1 v2 v4 σ hv1 hv2; exact r_none hG
  | succ n ih => intro v1 v2 v4 σ hv1 hv2; exact w_Re_build_L14B N hG ih v1 v2 v4 σ hv1 hv2
set_option maxRecDepth 4000 in
theorem c_Re_build (X : Cx) (N : Nat) (v1 : Nat) (v2 : Nat) (v3 : Int32) (σ : St) (hv1 : shp v1 = 4) (hv2 : shp v2 = 13) (r : Int32) (σ1 : St) (hE : Re_build N v1 v2 v3 σ = some (r, σ1)) : Ctr X yX6_build cX6_build 5 (some .int) 11 [.ref (X.2.1 + 71), .ref (X.2.1 + v1), .ref (X.2.1 + v2), .int v3] σ (some (.int r)) σ1 := by
  refine Ctr.of (out := oWI) (E := Re_build N v1 v2 v3 σ) rfl (Nat.le_of_ble_eq_true rfl) (fun G hG => ?_) (r, σ1) hE
  unfold Re_build
  refine r_aload_n (pc := 0) 0 0 rfl rfl hG dX6_build_0 ?_
  refine r_iload_n (pc := 1) 3 3 rfl rfl hG dX6_build_1 ?_
  refine r_sipush (pc := 2) (v := 150) (by decide) hG dX6_build_2 ?_
  refine r_mmin (pc := 5) lk560 (by omega) (Nat.le_of_ble_eq_true rfl) hG dX6_build_5 ?_
  refine pf6_1 (pc := 8) lk414 hG dX6_build_8 ?_
  refine r_bS hG (fun s1 => ?_)
  refine r_iconst (pc := 11) (v := 0) (by decide) hG dX6_build_11 ?_
  refine r_istore (pc := 12) (lv' := [(4, .int 0), (0, .ref (X.2.1 + 71)), (1, .ref (X.2.1 + v1)), (2, .ref (X.2.1 + v2)), (3, .int v3)]) (by decide) rfl hG dX6_build_12 ?_
  exact r_sub [1, 2, 3, 0] rfl hG (w_Re_build_L14 N hG N v1 v2 0 s1 hv1 hv2)
set_option maxRecDepth 4000 in
theorem c_Wy_isBetter (X : Cx) (N : Nat) (v1 : Nat) (σ : St) (hv1 : shp v1 = 1) (r : Int32) (hE : Wy_isBetter N v1 σ = some r) : Ctr X yX10_isBetter cX10_isBetter 2 (some .boolean) 1 [.ref (X.2.1 + 47), .ref (X.2.1 + v1)] σ (some (.int r)) σ := by
  refine Ctr.of (out := (oI σ)) (E := Wy_isBetter N v1 σ) rfl (Nat.le_of_ble_eq_true rfl) (fun G hG => ?_) r hE
  unfold Wy_isBetter
  refine r_aload_n (pc := 0) 1 1 rfl rfl hG dX10_isBetter_0 ?_
  refine gf1_2 (pc := 1) (i := v1) hv1 lk183 hG dX10_isBetter_1 ?_
  refine r_aload_n (pc := 4) 0 0 rfl rfl hG dX10_isBetter_4 ?_
  refine gf10_3 (pc := 5) lk292 hG dX10_isBetter_5 ?_
  refine r_icmp_eq (pc := 8) (tgt := 28) (by decide) hG dX10_isBetter_8 (fun h1 => ?_) (fun h1 => ?_)
  · refine r_aload_n (pc := 28) 1 1 rfl rfl hG dX10_isBetter_28 ?_
    refine gf1_3 (pc := 29) (i := v1) hv1 lk190 hG dX10_isBetter_29 ?_
    refine r_aload_n (pc := 32) 0 0 rfl rfl hG dX10_isBetter_32 ?_
    refine gf10_4 (pc := 33) lk295 hG dX10_isBetter_33 ?_
    refine r_icmp_eq (pc := 36) (tgt := 56) (by decide) hG dX10_isBetter_36 (fun h2 => ?_) (fun h2 => ?_)
    · refine r_aload_n (pc := 56) 1 1 rfl rfl hG dX10_isBetter_56 ?_
      refine gf1_5 (pc := 57) (i := v1) hv1 lk202 hG dX10_isBetter_57 ?_
      refine r_aload_n (pc := 60) 0 0 rfl rfl hG dX10_isBetter_60 ?_
      refine gf10_5 (pc := 61) lk297 hG dX10_isBetter_61 ?_
      refine r_icmp_ge (pc := 64) (tgt := 71) (by decide) hG dX10_isBetter_64 (fun h3 => ?_) (fun h3 => ?_)
      · refine r_iconst (pc := 71) (v := 0) (by decide) hG dX10_isBetter_71 ?_
        exact r_zret (pc := 72) rvN_b0 rfl hG dX10_isBetter_72
      · refine r_iconst (pc := 67) (v := 1) (by decide) hG dX10_isBetter_67 ?_
        refine r_goto (pc := 68) (tgt := 72) (by decide) hG dX10_isBetter_68 ?_
        exact r_zret (pc := 72) rvN_b1 rfl hG dX10_isBetter_72
    · refine r_aload_n (pc := 39) 1 1 rfl rfl hG dX10_isBetter_39 ?_
      refine gf1_3 (pc := 40) (i := v1) hv1 lk190 hG dX10_isBetter_40 ?_
      refine r_aload_n (pc := 43) 0 0 rfl rfl hG dX10_isBetter_43 ?_
      refine gf10_4 (pc := 44) lk295 hG dX10_isBetter_44 ?_
      refine r_icmp_ge (pc := 47) (tgt := 54) (by decide) hG dX10_isBetter_47 (fun h4 => ?_) (fun h4 => ?_)
      · refine r_iconst (pc := 54) (v := 0) (by decide) hG dX10_isBetter_54 ?_
        exact r_zret (pc := 55) rvN_b0 rfl hG dX10_isBetter_55
      · refine r_iconst (pc := 50) (v := 1) (by decide) hG dX10_isBetter_50 ?_
        refine r_goto (pc := 51) (tgt := 55) (by decide) hG dX10_isBetter_51 ?_
        exact r_zret (pc := 55) rvN_b1 rfl hG dX10_isBetter_55
  · refine r_aload_n (pc := 11) 1 1 rfl rfl hG dX10_isBetter_11 ?_
    refine gf1_2 (pc := 12) (i := v1) hv1 lk183 hG dX10_isBetter_12 ?_
    refine r_aload_n (pc := 15) 0 0 rfl rfl hG dX10_isBetter_15 ?_
    refine gf10_3 (pc := 16) lk292 hG dX10_isBetter_16 ?_
    refine r_icmp_le (pc := 19) (tgt := 26) (by decide) hG dX10_isBetter_19 (fun h5 => ?_) (fun h5 => ?_)
    · refine r_iconst (pc := 26) (v := 0) (by decide) hG dX10_isBetter_26 ?_
      exact r_zret (pc := 27) rvN_b0 rfl hG dX10_isBetter_27
    · refine r_iconst (pc := 22) (v := 1) (by decide) hG dX10_isBetter_22 ?_
      refine r_goto (pc := 23) (tgt := 27) (by decide) hG dX10_isBetter_23 ?_
      exact r_zret (pc := 27) rvN_b1 rfl hG dX10_isBetter_27
set_option maxRecDepth 4000 in
theorem w_Wy_arrive_L81B {X : Cx} {G : GT St} (N : Nat) (hG : IsG X RX10 cX10_arrive 4 2 none oWV G) {K81 : Int32 → Int32 → St → Option St} (hK81 : ∀ (v2 : Int32) (v3 : Int32) (s : St), G (K81 v2 v3 s) s 81 [(0, .ref (X.2.1 + 47)), (2, .int v2), (3, .int v3)] []) (v2 : Int32) (v3 : Int32) (σ : St) : G (Wy_arrive_L81B N K81 v2 v3 σ) σ 81 [(0, .ref (X.2.1 + 47)), (2, .int v2), (3, .int v3)] [] := by
  unfold Wy_arrive_L81B
  refine r_iload_n (pc := 81) 2 3 rfl rfl hG dX10_arrive_81 ?_
  refine r_iload_n (pc := 82) 1 2 rfl rfl hG dX10_arrive_82 ?_
  refine r_icmp_ge (pc := 83) (tgt := 109) (by decide) hG dX10_arrive_83 (fun h10 => ?_) (fun h10 => ?_)
  · exact r_vret (pc := 109) rfl hG dX10_arrive_109
  · refine r_aload_n (pc := 86) 0 0 rfl rfl hG dX10_arrive_86 ?_
    refine gf10_1 (pc := 87) lk284 hG dX10_arrive_87 ?_
    refine r_iload_n (pc := 90) 2 3 rfl rfl hG dX10_arrive_90 ?_
    refine r_aload_n (pc := 91) 0 0 rfl rfl hG dX10_arrive_91 ?_
    refine gf10_0 (pc := 92) lk283 hG dX10_arrive_92 ?_
    refine r_iload_n (pc := 95) 2 3 rfl rfl hG dX10_arrive_95 ?_
    refine r_iconst (pc := 96) (v := 1) (by decide) hG dX10_arrive_96 ?_
    refine r_iadd (pc := 97) hG dX10_arrive_97 ?_
    refine r_ck hG (fun h11 => ?_)
    refine r_aTrail (pc := 98) rfl h11 hG dX10_arrive_98 ?_
    refine gf1_4 (pc := 99) (i := (50 + ((v3 + 1)).toNatClampNeg)) (shTr h11) lk192 hG dX10_arrive_99 ?_
    refine r_ck hG (fun h12 => ?_)
    refine r_iast (pc := 102) (i := 49) (rfl : shp 49 = 14) rfl h12 hG dX10_arrive_102 ?_
    refine r_bS hG (fun s13 => ?_)
    refine r_bIinc (pc := 103) (lv' := fun x14 => [(3, .int x14), (0, .ref (X.2.1 + 47)), (2, .int v2)]) 2 rfl rfl (by decide) (fun _ => rfl) hG dX10_arrive_103 (fun x14 => ?_)
    refine r_goto (pc := 106) (tgt := 81) (by decide) hG dX10_arrive_106 ?_
    exact r_sub [1, 2, 0] rfl hG (hK81 v2 x14 s13)
set_option maxRecDepth 4000 in
theorem w_Wy_arrive_L81 {X : Cx} {G : GT St} (N : Nat) (hG : IsG X RX10 cX10_arrive 4 2 none oWV G) : ∀ (n : Nat), ∀ (v2 : Int32) (v3 : Int32) (σ : St), G (Wy_arrive_L81 N n v2 v3 σ) σ 81 [(0, .ref (X.2.1 + 47)), (2, .int v2), (3, .int v3)] [] := by
  intro n
  induction n with
  | zero => intro v2 v3 σ; exact r_none hG
  | succ n ih => intro v2 v3 σ; exact w_Wy_arrive_L81B N hG ih v2 v3 σ
set_option maxRecDepth 4000 in
theorem w_Wy_arrive_J50 {X : Cx} {G : GT St} (N : Nat) (hG : IsG X RX10 cX10_arrive 4 2 none oWV G) (v1 : Nat) (v2 : Int32) (σ : St) (hv1 : shp v1 = 1) : G (Wy_arrive_J50 N v1 v2 σ) σ 50 [(0, .ref (X.2.1 + 47)), (1, .ref (X.2.1 + v1)), (2, .int v2)] [] := by
  unfold Wy_arrive_J50
  refine r_aload_n (pc := 50) 0 0 rfl rfl hG dX10_arrive_50 ?_
  refine r_iload_n (pc := 51) 2 2 rfl rfl hG dX10_arrive_51 ?_
  refine pf10_2 (pc := 52) lk287 hG dX10_arrive_52 ?_
  refine r_bS hG (fun s6 => ?_)
  refine r_aload_n (pc := 55) 0 0 rfl rfl hG dX10_arrive_55 ?_
  refine r_aload_n (pc := 56) 1 1 rfl rfl hG dX10_arrive_56 ?_
  refine gf1_2 (pc := 57) (i := v1) hv1 lk183 hG dX10_arrive_57 ?_
  refine pf10_3 (pc := 60) lk292 hG dX10_arrive_60 ?_
  refine r_bS hG (fun s7 => ?_)
  refine r_aload_n (pc := 63) 0 0 rfl rfl hG dX10_arrive_63 ?_
  refine r_aload_n (pc := 64) 1 1 rfl rfl hG dX10_arrive_64 ?_
  refine gf1_3 (pc := 65) (i := v1) hv1 lk190 hG dX10_arrive_65 ?_
  refine pf10_4 (pc := 68) lk295 hG dX10_arrive_68 ?_
  refine r_bS hG (fun s8 => ?_)
  refine r_aload_n (pc := 71) 0 0 rfl rfl hG dX10_arrive_71 ?_
  refine r_aload_n (pc := 72) 1 1 rfl rfl hG dX10_arrive_72 ?_
  refine gf1_5 (pc := 73) (i := v1) hv1 lk202 hG dX10_arrive_73 ?_
  refine pf10_5 (pc := 76) lk297 hG dX10_arrive_76 ?_
  refine r_bS hG (fun s9 => ?_)
  refine r_iconst (pc := 79) (v := 0) (by decide) hG dX10_arrive_79 ?_
  refine r_istore_n (pc := 80) (lv' := [(3, .int 0), (0, .ref (X.2.1 + 47)), (1, .ref (X.2.1 + v1)), (2, .int v2)]) 3 rfl (by decide) rfl hG dX10_arrive_80 ?_
  exact r_sub [1, 3, 0] rfl hG (w_Wy_arrive_L81 N hG N v2 0 s9)
set_option maxRecDepth 4000 in
theorem w_Wy_arrive_J34 {X : Cx} {G : GT St} (N : Nat) (hG : IsG X RX10 cX10_arrive 4 2 none oWV G) (v1 : Nat) (v2 : Int32) (σ : St) (hv1 : shp v1 = 1) : G (Wy_arrive_J34 N v1 v2 σ) σ 34 [(0, .ref (X.2.1 + 47)), (1, .ref (X.2.1 + v1)), (2, .int v2)] [] := by
  unfold Wy_arrive_J34
  refine r_aload_n (pc := 34) 0 0 rfl rfl hG dX10_arrive_34 ?_
  refine gf10_2 (pc := 35) lk287 hG dX10_arrive_35 ?_
  refine r_if_eq (pc := 38) (tgt := 50) (by decide) hG dX10_arrive_38 (fun h5 => ?_) (fun h5 => ?_)
  · exact w_Wy_arrive_J50 N hG v1 v2 σ hv1
  · refine r_aload_n (pc := 41) 0 0 rfl rfl hG dX10_arrive_41 ?_
    refine r_aload_n (pc := 42) 1 1 rfl rfl hG dX10_arrive_42 ?_
    refine r_bR hG (fun r15 e17 => ?_)
    refine r_callVi (pc := 43) (As := [.ref (X.2.1 + v1)]) (c_Wy_isBetter X N v1 σ hv1 r15 e17) (wsOf_at (rfl : shp 47 = 10) (by decide) rfl) rfl mfX10_61_X10_isBetter hyVX10_isBetter (by decide) (by decide) rfl (Nat.le_of_ble_eq_true rfl) hG dX10_arrive_43 rfl (fun n16 => ?_)
    refine r_if_ne (pc := 46) (tgt := 50) (by decide) hG dX10_arrive_46 (fun h18 => ?_) (fun h18 => ?_)
    · exact w_Wy_arrive_J50 N hG v1 v2 σ hv1
    · exact r_vret (pc := 49) rfl hG dX10_arrive_49
set_option maxRecDepth 4000 in
theorem w_Wy_arrive_J26 {X : Cx} {G : GT St} (N : Nat) (hG : IsG X RX10 cX10_arrive 4 2 none oWV G) (v1 : Nat) (v2 : Int32) (σ : St) (hv1 : shp v1 = 1) : G (Wy_arrive_J26 N v1 v2 σ) σ 26 [(0, .ref (X.2.1 + 47)), (1, .ref (X.2.1 + v1)), (2, .int v2)] [] := by
  unfold Wy_arrive_J26
  refine r_aload_n (pc := 26) 0 0 rfl rfl hG dX10_arrive_26 ?_
  refine r_aload_n (pc := 27) 1 1 rfl rfl hG dX10_arrive_27 ?_
  refine gf1_3 (pc := 28) (i := v1) hv1 lk190 hG dX10_arrive_28 ?_
  refine pf10_6 (pc := 31) lk299 hG dX10_arrive_31 ?_
  refine r_bS hG (fun s20 => ?_)
  exact w_Wy_arrive_J34 N hG v1 v2 s20 hv1
set_option maxRecDepth 4000 in
theorem c_Wy_arrive (X : Cx) (N : Nat) (v1 : Nat) (v2 : Int32) (σ : St) (hv1 : shp v1 = 1) (σ1 : St) (hE : Wy_arrive N v1 v2 σ = some σ1) : Ctr X yX10_arrive cX10_arrive 4 none 2 [.ref (X.2.1 + 47), .ref (X.2.1 + v1), .int v2] σ none σ1 := by
  refine Ctr.of (out := oWV) (E := Wy_arrive N v1 v2 σ) rfl (Nat.le_of_ble_eq_true rfl) (fun G hG => ?_) σ1 hE
  unfold Wy_arrive
  refine r_aload_n (pc := 0) 1 1 rfl rfl hG dX10_arrive_0 ?_
  refine r_bR hG (fun r1 e3 => ?_)
  refine r_callVi (pc := 1) (As := []) (c_Gu_isTold X N v1 σ hv1 r1 e3) (wsOf_at hv1 (by decide) rfl) rfl mfX10_54_X1_isTold hyVX1_isTold (by decide) (by decide) rfl (Nat.le_of_ble_eq_true rfl) hG dX10_arrive_1 rfl (fun n2 => ?_)
  refine r_if_eq (pc := 4) (tgt := 34) (by decide) hG dX10_arrive_4 (fun h4 => ?_) (fun h4 => ?_)
  · exact w_Wy_arrive_J34 N hG v1 v2 σ hv1
  · refine r_aload_n (pc := 7) 0 0 rfl rfl hG dX10_arrive_7 ?_
    refine gf10_6 (pc := 8) lk299 hG dX10_arrive_8 ?_
    refine r_iconst (pc := 11) (v := (-1)) (by decide) hG dX10_arrive_11 ?_
    refine r_icmp_eq (pc := 12) (tgt := 26) (by decide) hG dX10_arrive_12 (fun h19 => ?_) (fun h19 => ?_)
    · exact w_Wy_arrive_J26 N hG v1 v2 σ hv1
    · refine r_aload_n (pc := 15) 1 1 rfl rfl hG dX10_arrive_15 ?_
      refine gf1_3 (pc := 16) (i := v1) hv1 lk190 hG dX10_arrive_16 ?_
      refine r_aload_n (pc := 19) 0 0 rfl rfl hG dX10_arrive_19 ?_
      refine gf10_6 (pc := 20) lk299 hG dX10_arrive_20 ?_
      refine r_icmp_ge (pc := 23) (tgt := 34) (by decide) hG dX10_arrive_23 (fun h21 => ?_) (fun h21 => ?_)
      · exact w_Wy_arrive_J34 N hG v1 v2 σ hv1
      · exact w_Wy_arrive_J26 N hG v1 v2 σ hv1
set_option maxRecDepth 4000 in
theorem w_Wy_explore_J108 {X : Cx} {d : Nat} {G : GT St} (N : Nat) (self : Nat → Nat → Int32 → Int32 → St → Option St) (hself : ∀ (a1 : Nat) (a2 : Nat) (a3 : Int32) (a4 : Int32) (s0 : St), shp a1 = 4 → shp a2 = 7 → ∀ (r : St), self a1 a2 a3 a4 s0 = some r → Ctr X yX10_explore cX10_explore 8 none (d + 8) [.ref (X.2.1 + 47), .ref (X.2.1 + a1), .ref (X.2.1 + a2), .int a3, .int a4] s0 none r) (hG : IsG X RX10 cX10_explore 8 (d + 9) none oWV G) {K48 : Nat → Nat → Int32 → Int32 → Nat → Nat → Int32 → St → Option St} (hK48 : ∀ (v1 : Nat) (v2 : Nat) (v3 : Int32) (v4 : Int32) (v5 : Nat) (v6 : Nat) (v7 : Int32) (s : St), shp v1 = 4 → shp v2 = 7 → shp v5 = 1 → shp v6 = 1 → G (K48 v1 v2 v3 v4 v5 v6 v7 s) s 48 [(0, .ref (X.2.1 + 47)), (1, .ref (X.2.1 + v1)), (2, .ref (X.2.1 + v2)), (3, .int v3), (4, .int v4), (5, .ref (X.2.1 + v5)), (6, .ref (X.2.1 + v6)), (7, .int v7)] []) (v1 : Nat) (v2 : Nat) (v3 : Int32) (v4 : Int32) (v5 : Nat) (v6 : Nat) (v7 : Int32) (σ : St) (hv1 : shp v1 = 4) (hv2 : shp v2 = 7) (hv5 : shp v5 = 1) (hv6 : shp v6 = 1) : G (Wy_explore_J108 N self K48 v1 v2 v3 v4 v5 v6 v7 σ) σ 108 [(0, .ref (X.2.1 + 47)), (1, .ref (X.2.1 + v1)), (2, .ref (X.2.1 + v2)), (3, .int v3), (4, .int v4), (5, .ref (X.2.1 + v5)), (6, .ref (X.2.1 + v6)), (7, .int v7)] [] := by
  unfold Wy_explore_J108
  refine r_bIinc (pc := 108) (lv' := fun x7 => [(7, .int x7), (0, .ref (X.2.1 + 47)), (1, .ref (X.2.1 + v1)), (2, .ref (X.2.1 + v2)), (3, .int v3), (4, .int v4), (5, .ref (X.2.1 + v5)), (6, .ref (X.2.1 + v6))]) 7 rfl rfl (by decide) (fun _ => rfl) hG dX10_explore_108 (fun x7 => ?_)
  refine r_goto (pc := 111) (tgt := 48) (by decide) hG dX10_explore_111 ?_
  exact r_sub [1, 2, 3, 4, 5, 6, 7, 0] rfl hG (hK48 v1 v2 v3 v4 v5 v6 x7 σ hv1 hv2 hv5 hv6)
set_option maxRecDepth 4000 in
theorem w_Wy_explore_L48B {X : Cx} {d : Nat} {G : GT St} (N : Nat) (self : Nat → Nat → Int32 → Int32 → St → Option St) (hself : ∀ (a1 : Nat) (a2 : Nat) (a3 : Int32) (a4 : Int32) (s0 : St), shp a1 = 4 → shp a2 = 7 → ∀ (r : St), self a1 a2 a3 a4 s0 = some r → Ctr X yX10_explore cX10_explore 8 none (d + 8) [.ref (X.2.1 + 47), .ref (X.2.1 + a1), .ref (X.2.1 + a2), .int a3, .int a4] s0 none r) (hG : IsG X RX10 cX10_explore 8 (d + 9) none oWV G) {K48 : Nat → Nat → Int32 → Int32 → Nat → Nat → Int32 → St → Option St} (hK48 : ∀ (v1 : Nat) (v2 : Nat) (v3 : Int32) (v4 : Int32) (v5 : Nat) (v6 : Nat) (v7 : Int32) (s : St), shp v1 = 4 → shp v2 = 7 → shp v5 = 1 → shp v6 = 1 → G (K48 v1 v2 v3 v4 v5 v6 v7 s) s 48 [(0, .ref (X.2.1 + 47)), (1, .ref (X.2.1 + v1)), (2, .ref (X.2.1 + v2)), (3, .int v3), (4, .int v4), (5, .ref (X.2.1 + v5)), (6, .ref (X.2.1 + v6)), (7, .int v7)] []) (v1 : Nat) (v2 : Nat) (v3 : Int32) (v4 : Int32) (v5 : Nat) (v6 : Nat) (v7 : Int32) (σ : St) (hv1 : shp v1 = 4) (hv2 : shp v2 = 7) (hv5 : shp v5 = 1) (hv6 : shp v6 = 1) : G (Wy_explore_L48B N self K48 v1 v2 v3 v4 v5 v6 v7 σ) σ 48 [(0, .ref (X.2.1 + 47)), (1, .ref (X.2.1 + v1)), (2, .ref (X.2.1 + v2)), (3, .int v3), (4, .int v4), (5, .ref (X.2.1 + v5)), (6, .ref (X.2.1 + v6)), (7, .int v7)] [] := by
  unfold Wy_explore_L48B
  refine r_iload (pc := 48) 7 rfl hG dX10_explore_48 ?_
  refine r_bipush (pc := 50) (v := 8) (by decide) hG dX10_explore_50 ?_
  refine r_icmp_ge (pc := 52) (tgt := 114) (by decide) hG dX10_explore_52 (fun h5 => ?_) (fun h5 => ?_)
  · exact r_vret (pc := 114) rfl hG dX10_explore_114
  · refine r_iload (pc := 55) 4 rfl hG dX10_explore_55 ?_
    refine r_iconst (pc := 57) (v := 1) (by decide) hG dX10_explore_57 ?_
    refine r_iload (pc := 58) 7 rfl hG dX10_explore_58 ?_
    refine r_ishl (pc := 60) hG dX10_explore_60 ?_
    refine r_iand (pc := 61) hG dX10_explore_61 ?_
    refine r_if_ne (pc := 62) (tgt := 108) (by decide) hG dX10_explore_62 (fun h6 => ?_) (fun h6 => ?_)
    · exact w_Wy_explore_J108 N self hself hG hK48 v1 v2 v3 v4 v5 v6 v7 σ hv1 hv2 hv5 hv6
    · refine r_aload_n (pc := 65) 1 1 rfl rfl hG dX10_explore_65 ?_
      refine r_aload (pc := 66) 5 rfl hG dX10_explore_66 ?_
      refine r_iload (pc := 68) 7 rfl hG dX10_explore_68 ?_
      refine r_bR hG (fun r8 e10 => ?_)
      refine r_callVi (pc := 70) (As := [.ref (X.2.1 + v5), .int v7]) (c_Ni_canRow X N v1 v5 v7 σ hv1 hv5 r8 e10) (wsOf_at hv1 (by decide) rfl) rfl mfX10_44_X4_canRow hyVX4_canRow (by omega) (by decide) rfl (Nat.le_of_ble_eq_true rfl) hG dX10_explore_70 rfl (fun n9 => ?_)
      refine r_if_eq (pc := 73) (tgt := 108) (by decide) hG dX10_explore_73 (fun h11 => ?_) (fun h11 => ?_)
      · exact w_Wy_explore_J108 N self hself hG hK48 v1 v2 v3 v4 v5 v6 v7 σ hv1 hv2 hv5 hv6
      · refine r_aload (pc := 76) 6 rfl hG dX10_explore_76 ?_
        refine r_aload (pc := 78) 5 rfl hG dX10_explore_78 ?_
        refine r_bR hG (fun s13 e15 => ?_)
        refine r_callVv (pc := 80) (As := [.ref (X.2.1 + v5)]) (c_Gu_take X N v6 v5 σ hv6 hv5 s13 e15) (wsOf_at hv6 (by decide) rfl) rfl mfX10_32_X1_take hyVX1_take (by omega) (by decide) rfl (Nat.le_of_ble_eq_true rfl) hG dX10_explore_80 rfl (fun n14 => ?_)
        refine r_aload_n (pc := 83) 1 1 rfl rfl hG dX10_explore_83 ?_
        refine r_aload (pc := 84) 6 rfl hG dX10_explore_84 ?_
        refine r_aload_n (pc := 86) 2 2 rfl rfl hG dX10_explore_86 ?_
        refine r_iload (pc := 87) 7 rfl hG dX10_explore_87 ?_
        refine r_bR hG (fun s17 e19 => ?_)
        refine r_callVv (pc := 89) (As := [.ref (X.2.1 + v6), .ref (X.2.1 + v2), .int v7]) (c_Ni_carry X N v1 v6 v2 v7 s13 hv1 hv6 hv2 s17 e19) (wsOf_at hv1 (by decide) rfl) rfl mfX10_50_X4_carry hyVX4_carry (by omega) (by decide) rfl (Nat.le_of_ble_eq_true rfl) hG dX10_explore_89 rfl (fun n18 => ?_)
        refine r_aload_n (pc := 92) 0 0 rfl rfl hG dX10_explore_92 ?_
        refine r_aload_n (pc := 93) 1 1 rfl rfl hG dX10_explore_93 ?_
        refine r_aload_n (pc := 94) 2 2 rfl rfl hG dX10_explore_94 ?_
        refine r_iload_n (pc := 95) 3 3 rfl rfl hG dX10_explore_95 ?_
        refine r_iconst (pc := 96) (v := 1) (by decide) hG dX10_explore_96 ?_
        refine r_iadd (pc := 97) hG dX10_explore_97 ?_
        refine r_iload (pc := 98) 4 rfl hG dX10_explore_98 ?_
        refine r_iconst (pc := 100) (v := 1) (by decide) hG dX10_explore_100 ?_
        refine r_iload (pc := 101) 7 rfl hG dX10_explore_101 ?_
        refine r_ishl (pc := 103) hG dX10_explore_103 ?_
        refine r_ior (pc := 104) hG dX10_explore_104 ?_
        refine r_bR hG (fun s21 e23 => ?_)
        refine r_callVv (pc := 105) (As := [.ref (X.2.1 + v1), .ref (X.2.1 + v2), .int (v3 + 1), .int (v4 ||| (1 <<< (v7 &&& 31)))]) (hself v1 v2 (v3 + 1) (v4 ||| (1 <<< (v7 &&& 31))) s17 hv1 hv2 s21 e23) (wsOf_at (rfl : shp 47 = 10) (by decide) rfl) rfl mfX10_36_X10_explore hyVX10_explore (by omega) (by decide) rfl (Nat.le_of_ble_eq_true rfl) hG dX10_explore_105 rfl (fun n22 => ?_)
        exact w_Wy_explore_J108 N self hself hG hK48 v1 v2 v3 v4 v5 v6 v7 s21 hv1 hv2 hv5 hv6
set_option maxRecDepth 4000 in
theorem w_Wy_explore_L48 {X : Cx} {d : Nat} {G : GT St} (N : Nat) (self : Nat → Nat → Int32 → Int32 → St → Option St) (hself : ∀ (a1 : Nat) (a2 : Nat) (a3 : Int32) (a4 : Int32) (s0 : St), shp a1 = 4 → shp a2 = 7 → ∀ (r : St), self a1 a2 a3 a4 s0 = some r → Ctr X yX10_explore cX10_explore 8 none (d + 8) [.ref (X.2.1 + 47), .ref (X.2.1 + a1), .ref (X.2.1 + a2), .int a3, .int a4] s0 none r) (hG : IsG X RX10 cX10_explore 8 (d + 9) none oWV G) : ∀ (n : Nat), ∀ (v1 : Nat) (v2 : Nat) (v3 : Int32) (v4 : Int32) (v5 : Nat) (v6 : Nat) (v7 : Int32) (σ : St), shp v1 = 4 → shp v2 = 7 → shp v5 = 1 → shp v6 = 1 → G (Wy_explore_L48 N self n v1 v2 v3 v4 v5 v6 v7 σ) σ 48 [(0, .ref (X.2.1 + 47)), (1, .ref (X.2.1 + v1)), (2, .ref (X.2.1 + v2)), (3, .int v3), (4, .int v4), (5, .ref (X.2.1 + v5)), (6, .ref (X.2.1 + v6)), (7, .int v7)] [] := by
  intro n
  induction n with
  | zero => intro v1 v2 v3 v4 v5 v6 v7 σ hv1 hv2 hv5 hv6; exact r_none hG
  | succ n ih => intro v1 v2 v3 v4 v5 v6 v7 σ hv1 hv2 hv5 hv6; exact w_Wy_explore_L48B N self hself hG ih v1 v2 v3 v4 v5 v6 v7 σ hv1 hv2 hv5 hv6
set_option maxRecDepth 4000 in
theorem cB_Wy_explore {X : Cx} {d : Nat} (N : Nat) (self : Nat → Nat → Int32 → Int32 → St → Option St) (hself : ∀ (a1 : Nat) (a2 : Nat) (a3 : Int32) (a4 : Int32) (s0 : St), shp a1 = 4 → shp a2 = 7 → ∀ (r : St), self a1 a2 a3 a4 s0 = some r → Ctr X yX10_explore cX10_explore 8 none (d + 8) [.ref (X.2.1 + 47), .ref (X.2.1 + a1), .ref (X.2.1 + a2), .int a3, .int a4] s0 none r) (v1 : Nat) (v2 : Nat) (v3 : Int32) (v4 : Int32) (σ : St) (hv1 : shp v1 = 4) (hv2 : shp v2 = 7) (r : St) (hE : Wy_exploreB N self v1 v2 v3 v4 σ = some r) : Ctr X yX10_explore cX10_explore 8 none (d + 9) [.ref (X.2.1 + 47), .ref (X.2.1 + v1), .ref (X.2.1 + v2), .int v3, .int v4] σ none r := by
  refine Ctr.of (out := oWV) (E := Wy_exploreB N self v1 v2 v3 v4 σ) rfl (Nat.le_of_ble_eq_true rfl) (fun G hG => ?_) r hE
  unfold Wy_exploreB
  refine r_aload_n (pc := 0) 0 0 rfl rfl hG dX10_explore_0 ?_
  refine gf10_0 (pc := 1) lk283 hG dX10_explore_1 ?_
  refine r_iload_n (pc := 4) 3 3 rfl rfl hG dX10_explore_4 ?_
  refine r_ck hG (fun h1 => ?_)
  refine r_aTrail (pc := 5) rfl h1 hG dX10_explore_5 ?_
  refine r_astore (pc := 6) (lv' := [(5, .ref (X.2.1 + (50 + (v3).toNatClampNeg))), (0, .ref (X.2.1 + 47)), (1, .ref (X.2.1 + v1)), (2, .ref (X.2.1 + v2)), (3, .int v3), (4, .int v4)]) (by decide) rfl hG dX10_explore_6 ?_
  refine r_aload (pc := 8) 0 rfl hG dX10_explore_8 ?_
  refine gf1_4 (pc := 10) (i := (50 + (v3).toNatClampNeg)) (shTr h1) lk192 hG dX10_explore_10 ?_
  refine r_bipush (pc := 13) (v := 7) (by decide) hG dX10_explore_13 ?_
  refine r_icmp_ne (pc := 15) (tgt := 26) (by decide) hG dX10_explore_15 (fun h2 => ?_) (fun h2 => ?_)
  · refine r_iload_n (pc := 26) 4 3 rfl rfl hG dX10_explore_26 ?_
    refine r_iconst (pc := 27) (v := 1) (by decide) hG dX10_explore_27 ?_
    refine r_iadd (pc := 28) hG dX10_explore_28 ?_
    refine r_bipush (pc := 29) (v := 8) (by decide) hG dX10_explore_29 ?_
    refine r_icmp_lt (pc := 31) (tgt := 35) (by decide) hG dX10_explore_31 (fun h3 => ?_) (fun h3 => ?_)
    · refine r_aload_n (pc := 35) 1 0 rfl rfl hG dX10_explore_35 ?_
      refine gf10_0 (pc := 36) lk283 hG dX10_explore_36 ?_
      refine r_iload_n (pc := 39) 4 3 rfl rfl hG dX10_explore_39 ?_
      refine r_iconst (pc := 40) (v := 1) (by decide) hG dX10_explore_40 ?_
      refine r_iadd (pc := 41) hG dX10_explore_41 ?_
      refine r_ck hG (fun h4 => ?_)
      refine r_aTrail (pc := 42) rfl h4 hG dX10_explore_42 ?_
      refine r_astore (pc := 43) (lv' := [(6, .ref (X.2.1 + (50 + ((v3 + 1)).toNatClampNeg))), (5, .ref (X.2.1 + (50 + (v3).toNatClampNeg))), (0, .ref (X.2.1 + 47)), (1, .ref (X.2.1 + v1)), (2, .ref (X.2.1 + v2)), (3, .int v3), (4, .int v4)]) (by decide) rfl hG dX10_explore_43 ?_
      refine r_iconst (pc := 45) (v := 0) (by decide) hG dX10_explore_45 ?_
      refine r_istore (pc := 46) (lv' := [(7, .int 0), (6, .ref (X.2.1 + (50 + ((v3 + 1)).toNatClampNeg))), (5, .ref (X.2.1 + (50 + (v3).toNatClampNeg))), (0, .ref (X.2.1 + 47)), (1, .ref (X.2.1 + v1)), (2, .ref (X.2.1 + v2)), (3, .int v3), (4, .int v4)]) (by decide) rfl hG dX10_explore_46 ?_
      exact r_sub [3, 4, 5, 6, 7, 2, 1, 0] rfl hG (w_Wy_explore_L48 N self hself hG N v1 v2 v3 v4 (50 + (v3).toNatClampNeg) (50 + ((v3 + 1)).toNatClampNeg) 0 σ hv1 hv2 (shTr h1) (shTr h4))
    · exact r_vret (pc := 34) rfl hG dX10_explore_34
  · refine r_aload_n (pc := 18) 1 0 rfl rfl hG dX10_explore_18 ?_
    refine r_aload (pc := 19) 0 rfl hG dX10_explore_19 ?_
    refine r_iload_n (pc := 21) 4 3 rfl rfl hG dX10_explore_21 ?_
    refine r_bR hG (fun s25 e27 => ?_)
    refine r_callVv (pc := 22) (As := [.ref (X.2.1 + (50 + (v3).toNatClampNeg)), .int v3]) (c_Wy_arrive X N (50 + (v3).toNatClampNeg) v3 σ (shTr h1) s25 e27) (wsOf_at (rfl : shp 47 = 10) (by decide) rfl) rfl mfX10_40_X10_arrive hyVX10_arrive (by omega) (by decide) rfl (Nat.le_of_ble_eq_true rfl) hG dX10_explore_22 rfl (fun n26 => ?_)
    exact r_vret (pc := 25) rfl hG dX10_explore_25
set_option maxRecDepth 4000 in
theorem c_Wy_explore (X : Cx) (N : Nat) : ∀ (n : Nat) (v1 : Nat) (v2 : Nat) (v3 : Int32) (v4 : Int32) (σ : St) (hv1 : shp v1 = 4) (hv2 : shp v2 = 7) (r : St) (hE : Wy_explore N n v1 v2 v3 v4 σ = some r), Ctr X yX10_explore cX10_explore 8 none (n + 8) [.ref (X.2.1 + 47), .ref (X.2.1 + v1), .ref (X.2.1 + v2), .int v3, .int v4] σ none r := by
  intro n
  induction n with
  | zero => intro v1 v2 v3 v4 σ hv1 hv2 r hE; cases hE
  | succ n ih =>
    intro v1 v2 v3 v4 σ hv1 hv2 r hE
    have e : n + 1 + 8 = n + 9 := by omega
    rw [e]
    exact cB_Wy_explore (d := n) N (Wy_explore N n) ih v1 v2 v3 v4 σ hv1 hv2 r hE
