set_option maxRecDepth 4000 in
theorem c_Mo_count (X : Cx) (N : Nat) (v1 : Int32) (σ : St) (r : Int32) (σ1 : St) (hE : Mo_count N v1 σ = some (r, σ1)) : Ctr X yX12_count cX12_count 2 (some .int) 3 [.ref (X.2.1 + 114), .int v1] σ (some (.int r)) σ1 := by
  refine Ctr.of (out := oWI) (E := Mo_count N v1 σ) rfl (Nat.le_of_ble_eq_true rfl) (fun G hG => ?_) (r, σ1) hE
  unfold Mo_count
  refine r_iload_n (pc := 0) 1 1 rfl rfl hG dX12_count_0 ?_
  refine r_i2l (pc := 1) hG dX12_count_1 ?_
  refine r_lconst (pc := 2) (v := 0) (by decide) hG dX12_count_2 ?_
  refine r_ldc2 (pc := 3) (v := 10) lk1543 hG dX12_count_3 ?_
  refine r_callSi (pc := 6) (As := [.long ((v1).toInt64), .long 0, .long 10]) (c_Mo_in X ((v1).toInt64) 0 10 σ) mfX12_69_X12_in hySX12_in (by decide) (by decide) rfl (Nat.le_of_ble_eq_true rfl) hG dX12_count_6 rfl (fun n2 => ?_)
  refine r_if_eq (pc := 9) (tgt := 20) (by decide) hG dX12_count_9 (fun h4 => ?_) (fun h4 => ?_)
  · refine r_aload_n (pc := 20) 0 0 rfl rfl hG dX12_count_20 ?_
    refine r_bipush (pc := 21) (v := (-2)) (by decide) hG dX12_count_21 ?_
    refine r_bW hG (fun r5 s6 e8 => ?_)
    refine r_callVi (pc := 23) (As := [.int (-2)]) (c_Mo_bad X N (-2) σ r5 s6 e8) (wsOf_at (rfl : shp 114 = 12) (by decide) rfl) rfl mfX12_84_X12_bad hyVX12_bad (by decide) (by decide) rfl (Nat.le_of_ble_eq_true rfl) hG dX12_count_23 rfl (fun n7 => ?_)
    exact r_iret (pc := 26) rfl hG dX12_count_26
  · refine r_aload_n (pc := 12) 0 0 rfl rfl hG dX12_count_12 ?_
    refine r_iload_n (pc := 13) 1 1 rfl rfl hG dX12_count_13 ?_
    refine r_bR hG (fun r9 e11 => ?_)
    refine r_callVi (pc := 14) (As := [.int v1]) (c_Mo_counted X N v1 σ r9 e11) (wsOf_at (rfl : shp 114 = 12) (by decide) rfl) rfl mfX12_320_X12_counted hyVX12_counted (by decide) (by decide) rfl (Nat.le_of_ble_eq_true rfl) hG dX12_count_14 rfl (fun n10 => ?_)
    refine r_goto (pc := 17) (tgt := 26) (by decide) hG dX12_count_17 ?_
    exact r_iret (pc := 26) rfl hG dX12_count_26
set_option maxRecDepth 4000 in
theorem w_Mo_adds_L6B {σ : St} {X : Cx} {G : GT Int64} (N : Nat) (hG : IsG X RX12 cX12_adds 8 1 (some .long) (oL σ) G) {K6 : Int32 → Int32 → Int64 → Int32 → St → Option Int64} (hK6 : ∀ (v3 : Int32) (v4 : Int32) (v5 : Int64) (v7 : Int32), G (K6 v3 v4 v5 v7 σ) σ 6 [(0, .ref (X.2.1 + 114)), (3, .int v3), (4, .int v4), (5, .long v5), (7, .int v7)] []) (v3 : Int32) (v4 : Int32) (v5 : Int64) (v7 : Int32) : G (Mo_adds_L6B N K6 v3 v4 v5 v7 σ) σ 6 [(0, .ref (X.2.1 + 114)), (3, .int v3), (4, .int v4), (5, .long v5), (7, .int v7)] [] := by
  unfold Mo_adds_L6B
  refine r_iload (pc := 6) 4 rfl hG dX12_adds_6 ?_
  refine r_iload (pc := 8) 2 rfl hG dX12_adds_8 ?_
  refine r_icmp_ge (pc := 10) (tgt := 38) (by decide) hG dX12_adds_10 (fun h1 => ?_) (fun h1 => ?_)
  · refine r_lload (pc := 38) 3 rfl hG dX12_adds_38 ?_
    exact r_lret (pc := 40) rfl hG dX12_adds_40
  · refine r_ldc2 (pc := 13) (v := 31) lk1603 hG dX12_adds_13 ?_
    refine r_lload (pc := 16) 3 rfl hG dX12_adds_16 ?_
    refine r_lmul (pc := 18) hG dX12_adds_18 ?_
    refine r_aload_n (pc := 19) 0 0 rfl rfl hG dX12_adds_19 ?_
    refine gf12_0 (pc := 20) lk1131 hG dX12_adds_20 ?_
    refine r_iload_n (pc := 23) 1 3 rfl rfl hG dX12_adds_23 ?_
    refine r_iload (pc := 24) 4 rfl hG dX12_adds_24 ?_
    refine r_iadd (pc := 26) hG dX12_adds_26 ?_
    refine r_ck hG (fun h2 => ?_)
    refine r_iald (pc := 27) (i := 115) (rfl : shp 115 = 14) rfl h2 hG dX12_adds_27 ?_
    refine r_i2l (pc := 28) hG dX12_adds_28 ?_
    refine r_ladd (pc := 29) hG dX12_adds_29 ?_
    refine r_bL hG (fun x3 => ?_)
    refine r_lstore (pc := 30) (lv' := [(5, .long x3), (0, .ref (X.2.1 + 114)), (3, .int v3), (4, .int v4), (7, .int v7)]) (by decide) rfl hG dX12_adds_30 ?_
    refine r_bIinc (pc := 32) (lv' := fun x4 => [(7, .int x4), (5, .long x3), (0, .ref (X.2.1 + 114)), (3, .int v3), (4, .int v4)]) 4 rfl rfl (by decide) (fun _ => rfl) hG dX12_adds_32 (fun x4 => ?_)
    refine r_goto (pc := 35) (tgt := 6) (by decide) hG dX12_adds_35 ?_
    exact r_sub [2, 3, 4, 1, 0] rfl hG (hK6 v3 v4 x3 x4)
set_option maxRecDepth 4000 in
theorem w_Mo_adds_L6 {σ : St} {X : Cx} {G : GT Int64} (N : Nat) (hG : IsG X RX12 cX12_adds 8 1 (some .long) (oL σ) G) : ∀ (n : Nat), ∀ (v3 : Int32) (v4 : Int32) (v5 : Int64) (v7 : Int32), G (Mo_adds_L6 N n v3 v4 v5 v7 σ) σ 6 [(0, .ref (X.2.1 + 114)), (3, .int v3), (4, .int v4), (5, .long v5), (7, .int v7)] [] := by
  intro n
  induction n with
  | zero => intro v3 v4 v5 v7; exact r_none hG
  | succ n ih => intro v3 v4 v5 v7; exact w_Mo_adds_L6B N hG ih v3 v4 v5 v7
set_option maxRecDepth 4000 in
theorem c_Mo_adds (X : Cx) (N : Nat) (v1 : Int64) (v3 : Int32) (v4 : Int32) (σ : St) (r : Int64) (hE : Mo_adds N v1 v3 v4 σ = some r) : Ctr X yX12_adds cX12_adds 8 (some .long) 1 [.ref (X.2.1 + 114), .long v1, .int v3, .int v4] σ (some (.long r)) σ := by
  refine Ctr.of (out := (oL σ)) (E := Mo_adds N v1 v3 v4 σ) rfl (Nat.le_of_ble_eq_true rfl) (fun G hG => ?_) r hE
  unfold Mo_adds
  refine r_lload_n (pc := 0) 1 1 rfl rfl hG dX12_adds_0 ?_
  refine r_lstore (pc := 1) (lv' := [(5, .long v1), (0, .ref (X.2.1 + 114)), (1, .long v1), (3, .int v3), (4, .int v4)]) (by decide) rfl hG dX12_adds_1 ?_
  refine r_iconst (pc := 3) (v := 0) (by decide) hG dX12_adds_3 ?_
  refine r_istore (pc := 4) (lv' := [(7, .int 0), (5, .long v1), (0, .ref (X.2.1 + 114)), (1, .long v1), (3, .int v3), (4, .int v4)]) (by decide) rfl hG dX12_adds_4 ?_
  exact r_sub [2, 4, 5, 1, 0] rfl hG (w_Mo_adds_L6 N hG N v3 v4 v1 0)
set_option maxRecDepth 4000 in
theorem w_Mo_digest_J158 {σ : St} {X : Cx} {G : GT Int64} (N : Nat) (hG : IsG X RX12 cX12_digest 5 3 (some .long) (oL σ) G) (v1 : Int64) : G (Mo_digest_J158 N v1 σ) σ 158 [(0, .ref (X.2.1 + 114)), (1, .long v1)] [] := by
  unfold Mo_digest_J158
  refine r_aload_n (pc := 158) 0 0 rfl rfl hG dX12_digest_158 ?_
  refine r_lload_n (pc := 159) 1 1 rfl rfl hG dX12_digest_159 ?_
  refine r_bipush (pc := 160) (v := 69) (by decide) hG dX12_digest_160 ?_
  refine r_iconst (pc := 162) (v := 4) (by decide) hG dX12_digest_162 ?_
  refine r_aload_n (pc := 163) 0 0 rfl rfl hG dX12_digest_163 ?_
  refine gf12_0 (pc := 164) lk1131 hG dX12_digest_164 ?_
  refine r_bipush (pc := 167) (v := 68) (by decide) hG dX12_digest_167 ?_
  refine r_iald (pc := 169) (i := 115) (rfl : shp 115 = 14) rfl (by decide) hG dX12_digest_169 ?_
  refine r_imul (pc := 170) hG dX12_digest_170 ?_
  refine r_bR hG (fun r10 e12 => ?_)
  refine r_callVl (pc := 171) (As := [.long v1, .int 69, .int (4 * (σ.1 115 (68 : Int32).toNatClampNeg))]) (c_Mo_adds X N v1 69 (4 * (σ.1 115 (68 : Int32).toNatClampNeg)) σ r10 e12) (wsOf_at (rfl : shp 114 = 12) (by decide) rfl) rfl mfX12_327_X12_adds hyVX12_adds (by decide) (by decide) rfl (Nat.le_of_ble_eq_true rfl) hG dX12_digest_171 rfl (fun n11 => ?_)
  refine r_lstore_n (pc := 174) (lv' := [(1, .long r10), (0, .ref (X.2.1 + 114))]) 1 rfl (by decide) rfl hG dX12_digest_174 ?_
  refine r_aload_n (pc := 175) 1 0 rfl rfl hG dX12_digest_175 ?_
  refine r_lload_n (pc := 176) 0 1 rfl rfl hG dX12_digest_176 ?_
  refine r_bipush (pc := 177) (v := 90) (by decide) hG dX12_digest_177 ?_
  refine r_bipush (pc := 179) (v := 6) (by decide) hG dX12_digest_179 ?_
  refine r_aload_n (pc := 181) 1 0 rfl rfl hG dX12_digest_181 ?_
  refine gf12_0 (pc := 182) lk1131 hG dX12_digest_182 ?_
  refine r_bipush (pc := 185) (v := 89) (by decide) hG dX12_digest_185 ?_
  refine r_iald (pc := 187) (i := 115) (rfl : shp 115 = 14) rfl (by decide) hG dX12_digest_187 ?_
  refine r_imul (pc := 188) hG dX12_digest_188 ?_
  refine r_bR hG (fun r13 e15 => ?_)
  refine r_callVl (pc := 189) (As := [.long r10, .int 90, .int (6 * (σ.1 115 (89 : Int32).toNatClampNeg))]) (c_Mo_adds X N r10 90 (6 * (σ.1 115 (89 : Int32).toNatClampNeg)) σ r13 e15) (wsOf_at (rfl : shp 114 = 12) (by decide) rfl) rfl mfX12_327_X12_adds hyVX12_adds (by decide) (by decide) rfl (Nat.le_of_ble_eq_true rfl) hG dX12_digest_189 rfl (fun n14 => ?_)
  refine r_lstore_n (pc := 192) (lv' := [(1, .long r13), (0, .ref (X.2.1 + 114))]) 1 rfl (by decide) rfl hG dX12_digest_192 ?_
  refine r_aload_n (pc := 193) 1 0 rfl rfl hG dX12_digest_193 ?_
  refine r_lload_n (pc := 194) 0 1 rfl rfl hG dX12_digest_194 ?_
  refine r_bipush (pc := 195) (v := 127) (by decide) hG dX12_digest_195 ?_
  refine r_iconst (pc := 197) (v := 5) (by decide) hG dX12_digest_197 ?_
  refine r_aload_n (pc := 198) 1 0 rfl rfl hG dX12_digest_198 ?_
  refine gf12_0 (pc := 199) lk1131 hG dX12_digest_199 ?_
  refine r_bipush (pc := 202) (v := 126) (by decide) hG dX12_digest_202 ?_
  refine r_iald (pc := 204) (i := 115) (rfl : shp 115 = 14) rfl (by decide) hG dX12_digest_204 ?_
  refine r_imul (pc := 205) hG dX12_digest_205 ?_
  refine r_bR hG (fun r16 e18 => ?_)
  refine r_callVl (pc := 206) (As := [.long r13, .int 127, .int (5 * (σ.1 115 (126 : Int32).toNatClampNeg))]) (c_Mo_adds X N r13 127 (5 * (σ.1 115 (126 : Int32).toNatClampNeg)) σ r16 e18) (wsOf_at (rfl : shp 114 = 12) (by decide) rfl) rfl mfX12_327_X12_adds hyVX12_adds (by decide) (by decide) rfl (Nat.le_of_ble_eq_true rfl) hG dX12_digest_206 rfl (fun n17 => ?_)
  refine r_lstore_n (pc := 209) (lv' := [(1, .long r16), (0, .ref (X.2.1 + 114))]) 1 rfl (by decide) rfl hG dX12_digest_209 ?_
  refine r_ldc2 (pc := 210) (v := 31) lk1603 hG dX12_digest_210 ?_
  refine r_ldc2 (pc := 213) (v := 31) lk1603 hG dX12_digest_213 ?_
  refine r_lload_n (pc := 216) 0 1 rfl rfl hG dX12_digest_216 ?_
  refine r_lmul (pc := 217) hG dX12_digest_217 ?_
  refine r_aload_n (pc := 218) 1 0 rfl rfl hG dX12_digest_218 ?_
  refine gf12_6 (pc := 219) lk1137 hG dX12_digest_219 ?_
  refine r_ladd (pc := 222) hG dX12_digest_222 ?_
  refine r_lmul (pc := 223) hG dX12_digest_223 ?_
  refine r_aload_n (pc := 224) 1 0 rfl rfl hG dX12_digest_224 ?_
  refine gf12_7 (pc := 225) lk1138 hG dX12_digest_225 ?_
  refine r_ladd (pc := 228) hG dX12_digest_228 ?_
  exact r_lret (pc := 229) rfl hG dX12_digest_229
set_option maxRecDepth 4000 in
theorem w_Mo_digest_J152 {σ : St} {X : Cx} {G : GT Int64} (N : Nat) (hG : IsG X RX12 cX12_digest 5 3 (some .long) (oL σ) G) {K103 : Int64 → Int32 → St → Option Int64} (hK103 : ∀ (v1 : Int64) (v3 : Int32), G (K103 v1 v3 σ) σ 103 [(0, .ref (X.2.1 + 114)), (1, .long v1), (3, .int v3)] []) (v1 : Int64) (v3 : Int32) : G (Mo_digest_J152 N K103 v1 v3 σ) σ 152 [(0, .ref (X.2.1 + 114)), (1, .long v1), (3, .int v3)] [] := by
  unfold Mo_digest_J152
  refine r_bIinc (pc := 152) (lv' := fun x20 => [(3, .int x20), (0, .ref (X.2.1 + 114)), (1, .long v1)]) 2 rfl rfl (by decide) (fun _ => rfl) hG dX12_digest_152 (fun x20 => ?_)
  refine r_goto (pc := 155) (tgt := 103) (by decide) hG dX12_digest_155 ?_
  exact r_sub [1, 2, 0] rfl hG (hK103 v1 x20)
set_option maxRecDepth 4000 in
theorem w_Mo_digest_L117B {σ : St} {X : Cx} {G : GT Int64} (N : Nat) (hG : IsG X RX12 cX12_digest 5 3 (some .long) (oL σ) G) {K103 : Int64 → Int32 → St → Option Int64} {K117 : Int64 → Int32 → Int32 → St → Option Int64} (hK103 : ∀ (v1 : Int64) (v3 : Int32), G (K103 v1 v3 σ) σ 103 [(0, .ref (X.2.1 + 114)), (1, .long v1), (3, .int v3)] []) (hK117 : ∀ (v1 : Int64) (v3 : Int32) (v4 : Int32), G (K117 v1 v3 v4 σ) σ 117 [(0, .ref (X.2.1 + 114)), (1, .long v1), (3, .int v3), (4, .int v4)] []) (v1 : Int64) (v3 : Int32) (v4 : Int32) : G (Mo_digest_L117B N K103 K117 v1 v3 v4 σ) σ 117 [(0, .ref (X.2.1 + 114)), (1, .long v1), (3, .int v3), (4, .int v4)] [] := by
  unfold Mo_digest_L117B
  refine r_iload (pc := 117) 3 rfl hG dX12_digest_117 ?_
  refine r_bipush (pc := 119) (v := 6) (by decide) hG dX12_digest_119 ?_
  refine r_icmp_ge (pc := 121) (tgt := 152) (by decide) hG dX12_digest_121 (fun h19 => ?_) (fun h19 => ?_)
  · exact r_sub [0, 1, 2] rfl hG (w_Mo_digest_J152 N hG hK103 v1 v3)
  · refine r_ldc2 (pc := 124) (v := 31) lk1603 hG dX12_digest_124 ?_
    refine r_lload_n (pc := 127) 1 1 rfl rfl hG dX12_digest_127 ?_
    refine r_lmul (pc := 128) hG dX12_digest_128 ?_
    refine r_aload_n (pc := 129) 0 0 rfl rfl hG dX12_digest_129 ?_
    refine gf12_0 (pc := 130) lk1131 hG dX12_digest_130 ?_
    refine r_bipush (pc := 133) (v := 44) (by decide) hG dX12_digest_133 ?_
    refine r_iconst (pc := 135) (v := 4) (by decide) hG dX12_digest_135 ?_
    refine r_iload (pc := 136) 3 rfl hG dX12_digest_136 ?_
    refine r_imul (pc := 138) hG dX12_digest_138 ?_
    refine r_iadd (pc := 139) hG dX12_digest_139 ?_
    refine r_iload_n (pc := 140) 2 3 rfl rfl hG dX12_digest_140 ?_
    refine r_iadd (pc := 141) hG dX12_digest_141 ?_
    refine r_ck hG (fun h21 => ?_)
    refine r_iald (pc := 142) (i := 115) (rfl : shp 115 = 14) rfl h21 hG dX12_digest_142 ?_
    refine r_i2l (pc := 143) hG dX12_digest_143 ?_
    refine r_ladd (pc := 144) hG dX12_digest_144 ?_
    refine r_bL hG (fun x22 => ?_)
    refine r_lstore_n (pc := 145) (lv' := [(1, .long x22), (0, .ref (X.2.1 + 114)), (3, .int v3), (4, .int v4)]) 1 rfl (by decide) rfl hG dX12_digest_145 ?_
    refine r_bIinc (pc := 146) (lv' := fun x23 => [(4, .int x23), (1, .long x22), (0, .ref (X.2.1 + 114)), (3, .int v3)]) 3 rfl rfl (by decide) (fun _ => rfl) hG dX12_digest_146 (fun x23 => ?_)
    refine r_goto (pc := 149) (tgt := 117) (by decide) hG dX12_digest_149 ?_
    exact r_sub [2, 1, 3, 0] rfl hG (hK117 x22 v3 x23)
set_option maxRecDepth 4000 in
theorem w_Mo_digest_L117 {σ : St} {X : Cx} {G : GT Int64} (N : Nat) (hG : IsG X RX12 cX12_digest 5 3 (some .long) (oL σ) G) {K103 : Int64 → Int32 → St → Option Int64} (hK103 : ∀ (v1 : Int64) (v3 : Int32), G (K103 v1 v3 σ) σ 103 [(0, .ref (X.2.1 + 114)), (1, .long v1), (3, .int v3)] []) : ∀ (n : Nat), ∀ (v1 : Int64) (v3 : Int32) (v4 : Int32), G (Mo_digest_L117 N K103 n v1 v3 v4 σ) σ 117 [(0, .ref (X.2.1 + 114)), (1, .long v1), (3, .int v3), (4, .int v4)] [] := by
  intro n
  induction n with
  | zero => intro v1 v3 v4; exact r_none hG
  | succ n ih => intro v1 v3 v4; exact w_Mo_digest_L117B N hG hK103 ih v1 v3 v4
set_option maxRecDepth 4000 in
theorem w_Mo_digest_L103B {σ : St} {X : Cx} {G : GT Int64} (N : Nat) (hG : IsG X RX12 cX12_digest 5 3 (some .long) (oL σ) G) {K103 : Int64 → Int32 → St → Option Int64} (hK103 : ∀ (v1 : Int64) (v3 : Int32), G (K103 v1 v3 σ) σ 103 [(0, .ref (X.2.1 + 114)), (1, .long v1), (3, .int v3)] []) (v1 : Int64) (v3 : Int32) : G (Mo_digest_L103B N K103 v1 v3 σ) σ 103 [(0, .ref (X.2.1 + 114)), (1, .long v1), (3, .int v3)] [] := by
  unfold Mo_digest_L103B
  refine r_iload_n (pc := 103) 2 3 rfl rfl hG dX12_digest_103 ?_
  refine r_aload_n (pc := 104) 0 0 rfl rfl hG dX12_digest_104 ?_
  refine gf12_0 (pc := 105) lk1131 hG dX12_digest_105 ?_
  refine r_bipush (pc := 108) (v := 37) (by decide) hG dX12_digest_108 ?_
  refine r_iald (pc := 110) (i := 115) (rfl : shp 115 = 14) rfl (by decide) hG dX12_digest_110 ?_
  refine r_icmp_ge (pc := 111) (tgt := 158) (by decide) hG dX12_digest_111 (fun h9 => ?_) (fun h9 => ?_)
  · exact r_sub [0, 1] rfl hG (w_Mo_digest_J158 N hG v1)
  · refine r_iconst (pc := 114) (v := 0) (by decide) hG dX12_digest_114 ?_
    refine r_istore (pc := 115) (lv' := [(4, .int 0), (0, .ref (X.2.1 + 114)), (1, .long v1), (3, .int v3)]) (by decide) rfl hG dX12_digest_115 ?_
    exact r_sub [1, 2, 3, 0] rfl hG (w_Mo_digest_L117 N hG hK103 N v1 v3 0)
set_option maxRecDepth 4000 in
theorem w_Mo_digest_L103 {σ : St} {X : Cx} {G : GT Int64} (N : Nat) (hG : IsG X RX12 cX12_digest 5 3 (some .long) (oL σ) G) : ∀ (n : Nat), ∀ (v1 : Int64) (v3 : Int32), G (Mo_digest_L103 N n v1 v3 σ) σ 103 [(0, .ref (X.2.1 + 114)), (1, .long v1), (3, .int v3)] [] := by
  intro n
  induction n with
  | zero => intro v1 v3; exact r_none hG
  | succ n ih => intro v1 v3; exact w_Mo_digest_L103B N hG ih v1 v3
set_option maxRecDepth 4000 in
theorem w_Mo_digest_J101 {σ : St} {X : Cx} {G : GT Int64} (N : Nat) (hG : IsG X RX12 cX12_digest 5 3 (some .long) (oL σ) G) (v1 : Int64) : G (Mo_digest_J101 N v1 σ) σ 101 [(0, .ref (X.2.1 + 114)), (1, .long v1)] [] := by
  unfold Mo_digest_J101
  refine r_iconst (pc := 101) (v := 0) (by decide) hG dX12_digest_101 ?_
  refine r_istore_n (pc := 102) (lv' := [(3, .int 0), (0, .ref (X.2.1 + 114)), (1, .long v1)]) 3 rfl (by decide) rfl hG dX12_digest_102 ?_
  exact r_sub [1, 2, 0] rfl hG (w_Mo_digest_L103 N hG N v1 0)
set_option maxRecDepth 4000 in
theorem w_Mo_digest_L52B {σ : St} {X : Cx} {G : GT Int64} (N : Nat) (hG : IsG X RX12 cX12_digest 5 3 (some .long) (oL σ) G) {K52 : Int64 → Int32 → St → Option Int64} (hK52 : ∀ (v1 : Int64) (v3 : Int32), G (K52 v1 v3 σ) σ 52 [(0, .ref (X.2.1 + 114)), (1, .long v1), (3, .int v3)] []) (v1 : Int64) (v3 : Int32) : G (Mo_digest_L52B N K52 v1 v3 σ) σ 52 [(0, .ref (X.2.1 + 114)), (1, .long v1), (3, .int v3)] [] := by
  unfold Mo_digest_L52B
  refine r_iload_n (pc := 52) 2 3 rfl rfl hG dX12_digest_52 ?_
  refine r_aload_n (pc := 53) 0 0 rfl rfl hG dX12_digest_53 ?_
  refine gf12_0 (pc := 54) lk1131 hG dX12_digest_54 ?_
  refine r_bipush (pc := 57) (v := 36) (by decide) hG dX12_digest_57 ?_
  refine r_iald (pc := 59) (i := 115) (rfl : shp 115 = 14) rfl (by decide) hG dX12_digest_59 ?_
  refine r_icmp_ge (pc := 60) (tgt := 101) (by decide) hG dX12_digest_60 (fun h8 => ?_) (fun h8 => ?_)
  · exact r_sub [0, 1] rfl hG (w_Mo_digest_J101 N hG v1)
  · refine r_ldc2 (pc := 63) (v := 31) lk1603 hG dX12_digest_63 ?_
    refine r_ldc2 (pc := 66) (v := 31) lk1603 hG dX12_digest_66 ?_
    refine r_lload_n (pc := 69) 1 1 rfl rfl hG dX12_digest_69 ?_
    refine r_lmul (pc := 70) hG dX12_digest_70 ?_
    refine r_aload_n (pc := 71) 0 0 rfl rfl hG dX12_digest_71 ?_
    refine gf12_0 (pc := 72) lk1131 hG dX12_digest_72 ?_
    refine r_bipush (pc := 75) (v := 38) (by decide) hG dX12_digest_75 ?_
    refine r_iload_n (pc := 77) 2 3 rfl rfl hG dX12_digest_77 ?_
    refine r_iadd (pc := 78) hG dX12_digest_78 ?_
    refine r_ck hG (fun h24 => ?_)
    refine r_iald (pc := 79) (i := 115) (rfl : shp 115 = 14) rfl h24 hG dX12_digest_79 ?_
    refine r_i2l (pc := 80) hG dX12_digest_80 ?_
    refine r_ladd (pc := 81) hG dX12_digest_81 ?_
    refine r_lmul (pc := 82) hG dX12_digest_82 ?_
    refine r_aload_n (pc := 83) 0 0 rfl rfl hG dX12_digest_83 ?_
    refine gf12_0 (pc := 84) lk1131 hG dX12_digest_84 ?_
    refine r_bipush (pc := 87) (v := 41) (by decide) hG dX12_digest_87 ?_
    refine r_iload_n (pc := 89) 2 3 rfl rfl hG dX12_digest_89 ?_
    refine r_iadd (pc := 90) hG dX12_digest_90 ?_
    refine r_ck hG (fun h25 => ?_)
    refine r_iald (pc := 91) (i := 115) (rfl : shp 115 = 14) rfl h25 hG dX12_digest_91 ?_
    refine r_i2l (pc := 92) hG dX12_digest_92 ?_
    refine r_ladd (pc := 93) hG dX12_digest_93 ?_
    refine r_bL hG (fun x26 => ?_)
    refine r_lstore_n (pc := 94) (lv' := [(1, .long x26), (0, .ref (X.2.1 + 114)), (3, .int v3)]) 1 rfl (by decide) rfl hG dX12_digest_94 ?_
    refine r_bIinc (pc := 95) (lv' := fun x27 => [(3, .int x27), (1, .long x26), (0, .ref (X.2.1 + 114))]) 2 rfl rfl (by decide) (fun _ => rfl) hG dX12_digest_95 (fun x27 => ?_)
    refine r_goto (pc := 98) (tgt := 52) (by decide) hG dX12_digest_98 ?_
    exact r_sub [2, 1, 0] rfl hG (hK52 x26 x27)
set_option maxRecDepth 4000 in
theorem w_Mo_digest_L52 {σ : St} {X : Cx} {G : GT Int64} (N : Nat) (hG : IsG X RX12 cX12_digest 5 3 (some .long) (oL σ) G) : ∀ (n : Nat), ∀ (v1 : Int64) (v3 : Int32), G (Mo_digest_L52 N n v1 v3 σ) σ 52 [(0, .ref (X.2.1 + 114)), (1, .long v1), (3, .int v3)] [] := by
  intro n
  induction n with
  | zero => intro v1 v3; exact r_none hG
  | succ n ih => intro v1 v3; exact w_Mo_digest_L52B N hG ih v1 v3
set_option maxRecDepth 4000 in
theorem w_Mo_digest_J31 {σ : St} {X : Cx} {G : GT Int64} (N : Nat) (hG : IsG X RX12 cX12_digest 5 3 (some .long) (oL σ) G) (v1 : Int64) : G (Mo_digest_J31 N v1 σ) σ 31 [(0, .ref (X.2.1 + 114)), (1, .long v1)] [] := by
  unfold Mo_digest_J31
  refine r_aload_n (pc := 31) 0 0 rfl rfl hG dX12_digest_31 ?_
  refine r_lload_n (pc := 32) 1 1 rfl rfl hG dX12_digest_32 ?_
  refine r_iconst (pc := 33) (v := 0) (by decide) hG dX12_digest_33 ?_
  refine r_bipush (pc := 34) (v := 8) (by decide) hG dX12_digest_34 ?_
  refine r_bR hG (fun r2 e4 => ?_)
  refine r_callVl (pc := 36) (As := [.long v1, .int 0, .int 8]) (c_Mo_adds X N v1 0 8 σ r2 e4) (wsOf_at (rfl : shp 114 = 12) (by decide) rfl) rfl mfX12_327_X12_adds hyVX12_adds (by decide) (by decide) rfl (Nat.le_of_ble_eq_true rfl) hG dX12_digest_36 rfl (fun n3 => ?_)
  refine r_lstore_n (pc := 39) (lv' := [(1, .long r2), (0, .ref (X.2.1 + 114))]) 1 rfl (by decide) rfl hG dX12_digest_39 ?_
  refine r_aload_n (pc := 40) 1 0 rfl rfl hG dX12_digest_40 ?_
  refine r_lload_n (pc := 41) 0 1 rfl rfl hG dX12_digest_41 ?_
  refine r_bipush (pc := 42) (v := 8) (by decide) hG dX12_digest_42 ?_
  refine r_bipush (pc := 44) (v := 28) (by decide) hG dX12_digest_44 ?_
  refine r_bR hG (fun r5 e7 => ?_)
  refine r_callVl (pc := 46) (As := [.long r2, .int 8, .int 28]) (c_Mo_adds X N r2 8 28 σ r5 e7) (wsOf_at (rfl : shp 114 = 12) (by decide) rfl) rfl mfX12_327_X12_adds hyVX12_adds (by decide) (by decide) rfl (Nat.le_of_ble_eq_true rfl) hG dX12_digest_46 rfl (fun n6 => ?_)
  refine r_lstore_n (pc := 49) (lv' := [(1, .long r5), (0, .ref (X.2.1 + 114))]) 1 rfl (by decide) rfl hG dX12_digest_49 ?_
  refine r_iconst (pc := 50) (v := 0) (by decide) hG dX12_digest_50 ?_
  refine r_istore_n (pc := 51) (lv' := [(3, .int 0), (1, .long r5), (0, .ref (X.2.1 + 114))]) 3 rfl (by decide) rfl hG dX12_digest_51 ?_
  exact r_sub [2, 1, 0] rfl hG (w_Mo_digest_L52 N hG N r5 0)
set_option maxRecDepth 4000 in
theorem w_Mo_digest_L6B {σ : St} {X : Cx} {G : GT Int64} (N : Nat) (hG : IsG X RX12 cX12_digest 5 3 (some .long) (oL σ) G) {K6 : Int64 → Int32 → St → Option Int64} (hK6 : ∀ (v1 : Int64) (v3 : Int32), G (K6 v1 v3 σ) σ 6 [(0, .ref (X.2.1 + 114)), (1, .long v1), (3, .int v3)] []) (v1 : Int64) (v3 : Int32) : G (Mo_digest_L6B N K6 v1 v3 σ) σ 6 [(0, .ref (X.2.1 + 114)), (1, .long v1), (3, .int v3)] [] := by
  unfold Mo_digest_L6B
  refine r_iload_n (pc := 6) 2 3 rfl rfl hG dX12_digest_6 ?_
  refine r_bipush (pc := 7) (v := 11) (by decide) hG dX12_digest_7 ?_
  refine r_icmp_ge (pc := 9) (tgt := 31) (by decide) hG dX12_digest_9 (fun h1 => ?_) (fun h1 => ?_)
  · exact r_sub [0, 1] rfl hG (w_Mo_digest_J31 N hG v1)
  · refine r_ldc2 (pc := 12) (v := 31) lk1603 hG dX12_digest_12 ?_
    refine r_lload_n (pc := 15) 1 1 rfl rfl hG dX12_digest_15 ?_
    refine r_lmul (pc := 16) hG dX12_digest_16 ?_
    refine r_aload_n (pc := 17) 0 0 rfl rfl hG dX12_digest_17 ?_
    refine r_iload_n (pc := 18) 2 3 rfl rfl hG dX12_digest_18 ?_
    refine r_bR hG (fun r28 e30 => ?_)
    refine r_callVi (pc := 19) (As := [.int v3]) (c_Mo_counted X N v3 σ r28 e30) (wsOf_at (rfl : shp 114 = 12) (by decide) rfl) rfl mfX12_320_X12_counted hyVX12_counted (by decide) (by decide) rfl (Nat.le_of_ble_eq_true rfl) hG dX12_digest_19 rfl (fun n29 => ?_)
    refine r_i2l (pc := 22) hG dX12_digest_22 ?_
    refine r_ladd (pc := 23) hG dX12_digest_23 ?_
    refine r_bL hG (fun x31 => ?_)
    refine r_lstore_n (pc := 24) (lv' := [(1, .long x31), (0, .ref (X.2.1 + 114)), (3, .int v3)]) 1 rfl (by decide) rfl hG dX12_digest_24 ?_
    refine r_bIinc (pc := 25) (lv' := fun x32 => [(3, .int x32), (1, .long x31), (0, .ref (X.2.1 + 114))]) 2 rfl rfl (by decide) (fun _ => rfl) hG dX12_digest_25 (fun x32 => ?_)
    refine r_goto (pc := 28) (tgt := 6) (by decide) hG dX12_digest_28 ?_
    exact r_sub [2, 1, 0] rfl hG (hK6 x31 x32)
set_option maxRecDepth 4000 in
theorem w_Mo_digest_L6 {σ : St} {X : Cx} {G : GT Int64} (N : Nat) (hG : IsG X RX12 cX12_digest 5 3 (some .long) (oL σ) G) : ∀ (n : Nat), ∀ (v1 : Int64) (v3 : Int32), G (Mo_digest_L6 N n v1 v3 σ) σ 6 [(0, .ref (X.2.1 + 114)), (1, .long v1), (3, .int v3)] [] := by
  intro n
  induction n with
  | zero => intro v1 v3; exact r_none hG
  | succ n ih => intro v1 v3; exact w_Mo_digest_L6B N hG ih v1 v3
set_option maxRecDepth 4000 in
theorem c_Mo_digest (X : Cx) (N : Nat) (σ : St) (r : Int64) (hE : Mo_digest N σ = some r) : Ctr X yX12_digest cX12_digest 5 (some .long) 3 [.ref (X.2.1 + 114)] σ (some (.long r)) σ := by
  refine Ctr.of (out := (oL σ)) (E := Mo_digest N σ) rfl (Nat.le_of_ble_eq_true rfl) (fun G hG => ?_) r hE
  unfold Mo_digest
  refine r_ldc2 (pc := 0) (v := 1847) lk1602 hG dX12_digest_0 ?_
  refine r_lstore_n (pc := 3) (lv' := [(1, .long 1847), (0, .ref (X.2.1 + 114))]) 1 rfl (by decide) rfl hG dX12_digest_3 ?_
  refine r_iconst (pc := 4) (v := 0) (by decide) hG dX12_digest_4 ?_
  refine r_istore_n (pc := 5) (lv' := [(3, .int 0), (1, .long 1847), (0, .ref (X.2.1 + 114))]) 3 rfl (by decide) rfl hG dX12_digest_5 ?_
  exact r_sub [2, 1, 0] rfl hG (w_Mo_digest_L6 N hG N 1847 0)
