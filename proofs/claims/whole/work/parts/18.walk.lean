set_option maxRecDepth 4000 in
theorem w_Mo_rowersOf_J109 {σ : St} {X : Cx} {G : GT Int32} (N : Nat) (hG : IsG X RX12 cX12_rowersOf 6 2 (some .int) (oI σ) G) {K5 : Int32 → Int32 → Int32 → St → Option Int32} (hK5 : ∀ (v1 : Int32) (v2 : Int32) (v3 : Int32), G (K5 v1 v2 v3 σ) σ 5 [(0, .ref (X.2.1 + 114)), (1, .int v1), (2, .int v2), (3, .int v3)] []) (v1 : Int32) (v2 : Int32) (v3 : Int32) : G (Mo_rowersOf_J109 N K5 v1 v2 v3 σ) σ 109 [(0, .ref (X.2.1 + 114)), (1, .int v1), (2, .int v2), (3, .int v3)] [] := by
  unfold Mo_rowersOf_J109
  refine r_bIinc (pc := 109) (lv' := fun x4 => [(3, .int x4), (0, .ref (X.2.1 + 114)), (1, .int v1), (2, .int v2)]) 3 rfl rfl (by decide) (fun _ => rfl) hG dX12_rowersOf_109 (fun x4 => ?_)
  refine r_goto (pc := 112) (tgt := 5) (by decide) hG dX12_rowersOf_112 ?_
  exact r_sub [1, 2, 3, 0] rfl hG (hK5 v1 v2 x4)
set_option maxRecDepth 4000 in
theorem w_Mo_rowersOf_J101 {σ : St} {X : Cx} {G : GT Int32} (N : Nat) (hG : IsG X RX12 cX12_rowersOf 6 2 (some .int) (oI σ) G) {K5 : Int32 → Int32 → Int32 → St → Option Int32} {K27 : Int32 → Int32 → Int32 → Int32 → Int32 → St → Option Int32} (hK5 : ∀ (v1 : Int32) (v2 : Int32) (v3 : Int32), G (K5 v1 v2 v3 σ) σ 5 [(0, .ref (X.2.1 + 114)), (1, .int v1), (2, .int v2), (3, .int v3)] []) (hK27 : ∀ (v1 : Int32) (v2 : Int32) (v3 : Int32) (v4 : Int32) (v5 : Int32), G (K27 v1 v2 v3 v4 v5 σ) σ 27 [(0, .ref (X.2.1 + 114)), (1, .int v1), (2, .int v2), (3, .int v3), (4, .int v4), (5, .int v5)] []) (v1 : Int32) (v3 : Int32) (v4 : Int32) (v5 : Int32) (w0 : Int32) (w1 : Int32) : G (Mo_rowersOf_J101 N K5 K27 v1 v3 v4 v5 w0 w1 σ) σ 101 [(0, .ref (X.2.1 + 114)), (1, .int v1), (3, .int v3), (4, .int v4), (5, .int v5)] [.int w1, .int w0] := by
  unfold Mo_rowersOf_J101
  refine r_iand (pc := 101) hG dX12_rowersOf_101 ?_
  refine r_bI hG (fun x15 => ?_)
  refine r_istore_n (pc := 102) (lv' := [(2, .int x15), (0, .ref (X.2.1 + 114)), (1, .int v1), (3, .int v3), (4, .int v4), (5, .int v5)]) 2 rfl (by decide) rfl hG dX12_rowersOf_102 ?_
  refine r_bIinc (pc := 103) (lv' := fun x16 => [(5, .int x16), (2, .int x15), (0, .ref (X.2.1 + 114)), (1, .int v1), (3, .int v3), (4, .int v4)]) 5 rfl rfl (by decide) (fun _ => rfl) hG dX12_rowersOf_103 (fun x16 => ?_)
  refine r_goto (pc := 106) (tgt := 27) (by decide) hG dX12_rowersOf_106 ?_
  exact r_sub [2, 3, 1, 4, 5, 0] rfl hG (hK27 v1 x15 v3 v4 x16)
set_option maxRecDepth 4000 in
theorem w_Mo_rowersOf_L27B {σ : St} {X : Cx} {G : GT Int32} (N : Nat) (hG : IsG X RX12 cX12_rowersOf 6 2 (some .int) (oI σ) G) {K5 : Int32 → Int32 → Int32 → St → Option Int32} {K27 : Int32 → Int32 → Int32 → Int32 → Int32 → St → Option Int32} (hK5 : ∀ (v1 : Int32) (v2 : Int32) (v3 : Int32), G (K5 v1 v2 v3 σ) σ 5 [(0, .ref (X.2.1 + 114)), (1, .int v1), (2, .int v2), (3, .int v3)] []) (hK27 : ∀ (v1 : Int32) (v2 : Int32) (v3 : Int32) (v4 : Int32) (v5 : Int32), G (K27 v1 v2 v3 v4 v5 σ) σ 27 [(0, .ref (X.2.1 + 114)), (1, .int v1), (2, .int v2), (3, .int v3), (4, .int v4), (5, .int v5)] []) (v1 : Int32) (v2 : Int32) (v3 : Int32) (v4 : Int32) (v5 : Int32) : G (Mo_rowersOf_L27B N K5 K27 v1 v2 v3 v4 v5 σ) σ 27 [(0, .ref (X.2.1 + 114)), (1, .int v1), (2, .int v2), (3, .int v3), (4, .int v4), (5, .int v5)] [] := by
  unfold Mo_rowersOf_L27B
  refine r_iload (pc := 27) 5 rfl hG dX12_rowersOf_27 ?_
  refine r_bipush (pc := 29) (v := 6) (by decide) hG dX12_rowersOf_29 ?_
  refine r_icmp_ge (pc := 31) (tgt := 109) (by decide) hG dX12_rowersOf_31 (fun h3 => ?_) (fun h3 => ?_)
  · exact r_sub [0, 1, 2, 3] rfl hG (w_Mo_rowersOf_J109 N hG hK5 v1 v2 v3)
  · refine r_aload_n (pc := 34) 0 0 rfl rfl hG dX12_rowersOf_34 ?_
    refine gf12_0 (pc := 35) lk1131 hG dX12_rowersOf_35 ?_
    refine r_iload (pc := 38) 4 rfl hG dX12_rowersOf_38 ?_
    refine r_ck hG (fun h5 => ?_)
    refine r_iald (pc := 40) (i := 115) (rfl : shp 115 = 14) rfl h5 hG dX12_rowersOf_40 ?_
    refine r_iload_n (pc := 41) 1 1 rfl rfl hG dX12_rowersOf_41 ?_
    refine r_icmp_ne (pc := 42) (tgt := 109) (by decide) hG dX12_rowersOf_42 (fun h6 => ?_) (fun h6 => ?_)
    · exact r_sub [0, 1, 2, 3] rfl hG (w_Mo_rowersOf_J109 N hG hK5 v1 v2 v3)
    · refine r_iload_n (pc := 45) 2 2 rfl rfl hG dX12_rowersOf_45 ?_
      refine r_iload (pc := 46) 5 rfl hG dX12_rowersOf_46 ?_
      refine r_aload_n (pc := 48) 0 0 rfl rfl hG dX12_rowersOf_48 ?_
      refine gf12_0 (pc := 49) lk1131 hG dX12_rowersOf_49 ?_
      refine r_iload (pc := 52) 4 rfl hG dX12_rowersOf_52 ?_
      refine r_iconst (pc := 54) (v := 1) (by decide) hG dX12_rowersOf_54 ?_
      refine r_iadd (pc := 55) hG dX12_rowersOf_55 ?_
      refine r_ck hG (fun h7 => ?_)
      refine r_iald (pc := 56) (i := 115) (rfl : shp 115 = 14) rfl h7 hG dX12_rowersOf_56 ?_
      refine r_aload_n (pc := 57) 0 0 rfl rfl hG dX12_rowersOf_57 ?_
      refine gf12_0 (pc := 58) lk1131 hG dX12_rowersOf_58 ?_
      refine r_iload (pc := 61) 4 rfl hG dX12_rowersOf_61 ?_
      refine r_iconst (pc := 63) (v := 2) (by decide) hG dX12_rowersOf_63 ?_
      refine r_iadd (pc := 64) hG dX12_rowersOf_64 ?_
      refine r_ck hG (fun h8 => ?_)
      refine r_iald (pc := 65) (i := 115) (rfl : shp 115 = 14) rfl h8 hG dX12_rowersOf_65 ?_
      refine r_aload_n (pc := 66) 0 0 rfl rfl hG dX12_rowersOf_66 ?_
      refine gf12_0 (pc := 67) lk1131 hG dX12_rowersOf_67 ?_
      refine r_iload (pc := 70) 4 rfl hG dX12_rowersOf_70 ?_
      refine r_iconst (pc := 72) (v := 3) (by decide) hG dX12_rowersOf_72 ?_
      refine r_iadd (pc := 73) hG dX12_rowersOf_73 ?_
      refine r_ck hG (fun h9 => ?_)
      refine r_iald (pc := 74) (i := 115) (rfl : shp 115 = 14) rfl h9 hG dX12_rowersOf_74 ?_
      refine r_callSi (pc := 75) (As := [.int v5, .int (σ.1 115 ((v4 + 1)).toNatClampNeg), .int (σ.1 115 ((v4 + 2)).toNatClampNeg), .int (σ.1 115 ((v4 + 3)).toNatClampNeg)]) (c_Mo_tells X v5 (σ.1 115 ((v4 + 1)).toNatClampNeg) (σ.1 115 ((v4 + 2)).toNatClampNeg) (σ.1 115 ((v4 + 3)).toNatClampNeg) σ) mfX12_182_X12_tells hySX12_tells (by decide) (by decide) rfl (Nat.le_of_ble_eq_true rfl) hG dX12_rowersOf_75 rfl (fun n11 => ?_)
      refine r_aload_n (pc := 78) 0 0 rfl rfl hG dX12_rowersOf_78 ?_
      refine gf12_0 (pc := 79) lk1131 hG dX12_rowersOf_79 ?_
      refine r_iload (pc := 82) 4 rfl hG dX12_rowersOf_82 ?_
      refine r_iconst (pc := 84) (v := 4) (by decide) hG dX12_rowersOf_84 ?_
      refine r_iadd (pc := 85) hG dX12_rowersOf_85 ?_
      refine r_ck hG (fun h13 => ?_)
      refine r_iald (pc := 86) (i := 115) (rfl : shp 115 = 14) rfl h13 hG dX12_rowersOf_86 ?_
      refine r_icmp_ne (pc := 87) (tgt := 95) (by decide) hG dX12_rowersOf_87 (fun h14 => ?_) (fun h14 => ?_)
      · refine r_iconst (pc := 95) (v := 1) (by decide) hG dX12_rowersOf_95 ?_
        refine r_iload (pc := 96) 5 rfl hG dX12_rowersOf_96 ?_
        refine r_ishl (pc := 98) hG dX12_rowersOf_98 ?_
        refine r_iconst (pc := 99) (v := (-1)) (by decide) hG dX12_rowersOf_99 ?_
        refine r_ixor (pc := 100) hG dX12_rowersOf_100 ?_
        exact r_sub [0, 1, 3, 4, 5] rfl hG (w_Mo_rowersOf_J101 N hG hK5 hK27 v1 v3 v4 v5 v2 ((1 <<< (v5 &&& 31)) ^^^ (-1)))
      · refine r_bipush (pc := 90) (v := 63) (by decide) hG dX12_rowersOf_90 ?_
        refine r_goto (pc := 92) (tgt := 101) (by decide) hG dX12_rowersOf_92 ?_
        exact r_sub [0, 1, 3, 4, 5] rfl hG (w_Mo_rowersOf_J101 N hG hK5 hK27 v1 v3 v4 v5 v2 63)
set_option maxRecDepth 4000 in
theorem w_Mo_rowersOf_L27 {σ : St} {X : Cx} {G : GT Int32} (N : Nat) (hG : IsG X RX12 cX12_rowersOf 6 2 (some .int) (oI σ) G) {K5 : Int32 → Int32 → Int32 → St → Option Int32} (hK5 : ∀ (v1 : Int32) (v2 : Int32) (v3 : Int32), G (K5 v1 v2 v3 σ) σ 5 [(0, .ref (X.2.1 + 114)), (1, .int v1), (2, .int v2), (3, .int v3)] []) : ∀ (n : Nat), ∀ (v1 : Int32) (v2 : Int32) (v3 : Int32) (v4 : Int32) (v5 : Int32), G (Mo_rowersOf_L27 N K5 n v1 v2 v3 v4 v5 σ) σ 27 [(0, .ref (X.2.1 + 114)), (1, .int v1), (2, .int v2), (3, .int v3), (4, .int v4), (5, .int v5)] [] := by
  intro n
  induction n with
  | zero => intro v1 v2 v3 v4 v5; exact r_none hG
  | succ n ih => intro v1 v2 v3 v4 v5; exact w_Mo_rowersOf_L27B N hG hK5 ih v1 v2 v3 v4 v5
set_option maxRecDepth 4000 in
theorem w_Mo_rowersOf_L5B {σ : St} {X : Cx} {G : GT Int32} (N : Nat) (hG : IsG X RX12 cX12_rowersOf 6 2 (some .int) (oI σ) G) {K5 : Int32 → Int32 → Int32 → St → Option Int32} (hK5 : ∀ (v1 : Int32) (v2 : Int32) (v3 : Int32), G (K5 v1 v2 v3 σ) σ 5 [(0, .ref (X.2.1 + 114)), (1, .int v1), (2, .int v2), (3, .int v3)] []) (v1 : Int32) (v2 : Int32) (v3 : Int32) : G (Mo_rowersOf_L5B N K5 v1 v2 v3 σ) σ 5 [(0, .ref (X.2.1 + 114)), (1, .int v1), (2, .int v2), (3, .int v3)] [] := by
  unfold Mo_rowersOf_L5B
  refine r_iload_n (pc := 5) 3 3 rfl rfl hG dX12_rowersOf_5 ?_
  refine r_aload_n (pc := 6) 0 0 rfl rfl hG dX12_rowersOf_6 ?_
  refine gf12_0 (pc := 7) lk1131 hG dX12_rowersOf_7 ?_
  refine r_bipush (pc := 10) (v := 126) (by decide) hG dX12_rowersOf_10 ?_
  refine r_iald (pc := 12) (i := 115) (rfl : shp 115 = 14) rfl (by decide) hG dX12_rowersOf_12 ?_
  refine r_icmp_ge (pc := 13) (tgt := 115) (by decide) hG dX12_rowersOf_13 (fun h1 => ?_) (fun h1 => ?_)
  · refine r_iload_n (pc := 115) 2 2 rfl rfl hG dX12_rowersOf_115 ?_
    exact r_iret (pc := 116) rfl hG dX12_rowersOf_116
  · refine r_bipush (pc := 16) (v := 127) (by decide) hG dX12_rowersOf_16 ?_
    refine r_iconst (pc := 18) (v := 5) (by decide) hG dX12_rowersOf_18 ?_
    refine r_iload_n (pc := 19) 3 3 rfl rfl hG dX12_rowersOf_19 ?_
    refine r_imul (pc := 20) hG dX12_rowersOf_20 ?_
    refine r_iadd (pc := 21) hG dX12_rowersOf_21 ?_
    refine r_bI hG (fun x2 => ?_)
    refine r_istore (pc := 22) (lv' := [(4, .int x2), (0, .ref (X.2.1 + 114)), (1, .int v1), (2, .int v2), (3, .int v3)]) (by decide) rfl hG dX12_rowersOf_22 ?_
    refine r_iconst (pc := 24) (v := 0) (by decide) hG dX12_rowersOf_24 ?_
    refine r_istore (pc := 25) (lv' := [(5, .int 0), (4, .int x2), (0, .ref (X.2.1 + 114)), (1, .int v1), (2, .int v2), (3, .int v3)]) (by decide) rfl hG dX12_rowersOf_25 ?_
    exact r_sub [2, 3, 4, 5, 1, 0] rfl hG (w_Mo_rowersOf_L27 N hG hK5 N v1 v2 v3 x2 0)
set_option maxRecDepth 4000 in
theorem w_Mo_rowersOf_L5 {σ : St} {X : Cx} {G : GT Int32} (N : Nat) (hG : IsG X RX12 cX12_rowersOf 6 2 (some .int) (oI σ) G) : ∀ (n : Nat), ∀ (v1 : Int32) (v2 : Int32) (v3 : Int32), G (Mo_rowersOf_L5 N n v1 v2 v3 σ) σ 5 [(0, .ref (X.2.1 + 114)), (1, .int v1), (2, .int v2), (3, .int v3)] [] := by
  intro n
  induction n with
  | zero => intro v1 v2 v3; exact r_none hG
  | succ n ih => intro v1 v2 v3; exact w_Mo_rowersOf_L5B N hG ih v1 v2 v3
set_option maxRecDepth 4000 in
theorem c_Mo_rowersOf (X : Cx) (N : Nat) (v1 : Int32) (σ : St) (r : Int32) (hE : Mo_rowersOf N v1 σ = some r) : Ctr X yX12_rowersOf cX12_rowersOf 6 (some .int) 2 [.ref (X.2.1 + 114), .int v1] σ (some (.int r)) σ := by
  refine Ctr.of (out := (oI σ)) (E := Mo_rowersOf N v1 σ) rfl (Nat.le_of_ble_eq_true rfl) (fun G hG => ?_) r hE
  unfold Mo_rowersOf
  refine r_bipush (pc := 0) (v := 63) (by decide) hG dX12_rowersOf_0 ?_
  refine r_istore_n (pc := 2) (lv' := [(2, .int 63), (0, .ref (X.2.1 + 114)), (1, .int v1)]) 2 rfl (by decide) rfl hG dX12_rowersOf_2 ?_
  refine r_iconst (pc := 3) (v := 0) (by decide) hG dX12_rowersOf_3 ?_
  refine r_istore_n (pc := 4) (lv' := [(3, .int 0), (2, .int 63), (0, .ref (X.2.1 + 114)), (1, .int v1)]) 3 rfl (by decide) rfl hG dX12_rowersOf_4 ?_
  exact r_sub [2, 3, 1, 0] rfl hG (w_Mo_rowersOf_L5 N hG N v1 63 0)
set_option maxRecDepth 4000 in
theorem c_Mo_kinds (X : Cx) (N : Nat) (v1 : Int32) (σ : St) (r : Int32) (σ1 : St) (hE : Mo_kinds N v1 σ = some (r, σ1)) : Ctr X yX12_kinds cX12_kinds 2 (some .int) 3 [.ref (X.2.1 + 114), .int v1] σ (some (.int r)) σ1 := by
  refine Ctr.of (out := oWI) (E := Mo_kinds N v1 σ) rfl (Nat.le_of_ble_eq_true rfl) (fun G hG => ?_) (r, σ1) hE
  unfold Mo_kinds
  refine r_aload_n (pc := 0) 0 0 rfl rfl hG dX12_kinds_0 ?_
  refine r_iload_n (pc := 1) 1 1 rfl rfl hG dX12_kinds_1 ?_
  refine r_bR hG (fun r1 e3 => ?_)
  refine r_callVi (pc := 2) (As := [.int v1]) (c_Mo_isRower X N v1 σ r1 e3) (wsOf_at (rfl : shp 114 = 12) (by decide) rfl) rfl mfX12_193_X12_isRower hyVX12_isRower (by decide) (by decide) rfl (Nat.le_of_ble_eq_true rfl) hG dX12_kinds_2 rfl (fun n2 => ?_)
  refine r_if_eq (pc := 5) (tgt := 16) (by decide) hG dX12_kinds_5 (fun h4 => ?_) (fun h4 => ?_)
  · refine r_aload_n (pc := 16) 0 0 rfl rfl hG dX12_kinds_16 ?_
    refine r_bipush (pc := 17) (v := (-2)) (by decide) hG dX12_kinds_17 ?_
    refine r_bW hG (fun r5 s6 e8 => ?_)
    refine r_callVi (pc := 19) (As := [.int (-2)]) (c_Mo_bad X N (-2) σ r5 s6 e8) (wsOf_at (rfl : shp 114 = 12) (by decide) rfl) rfl mfX12_84_X12_bad hyVX12_bad (by decide) (by decide) rfl (Nat.le_of_ble_eq_true rfl) hG dX12_kinds_19 rfl (fun n7 => ?_)
    exact r_iret (pc := 22) rfl hG dX12_kinds_22
  · refine r_aload_n (pc := 8) 0 0 rfl rfl hG dX12_kinds_8 ?_
    refine r_iload_n (pc := 9) 1 1 rfl rfl hG dX12_kinds_9 ?_
    refine r_bR hG (fun r9 e11 => ?_)
    refine r_callVi (pc := 10) (As := [.int v1]) (c_Mo_rowersOf X N v1 σ r9 e11) (wsOf_at (rfl : shp 114 = 12) (by decide) rfl) rfl mfX12_274_X12_rowersOf hyVX12_rowersOf (by decide) (by decide) rfl (Nat.le_of_ble_eq_true rfl) hG dX12_kinds_10 rfl (fun n10 => ?_)
    refine r_goto (pc := 13) (tgt := 22) (by decide) hG dX12_kinds_13 ?_
    exact r_iret (pc := 22) rfl hG dX12_kinds_22
set_option maxRecDepth 4000 in
theorem w_Mo_ask_J136 {X : Cx} {G : GT (Int32 × St)} (N : Nat) (hG : IsG X RX12 cX12_ask 8 3 (some .int) oWI G) {K30 : Int32 → Int32 → Int32 → Int32 → Int32 → St → Option (Int32 × St)} (hK30 : ∀ (v1 : Int32) (v2 : Int32) (v3 : Int32) (v4 : Int32) (v5 : Int32) (s : St), G (K30 v1 v2 v3 v4 v5 s) s 30 [(0, .ref (X.2.1 + 114)), (1, .int v1), (2, .int v2), (3, .int v3), (4, .int v4), (5, .int v5)] []) (v1 : Int32) (v2 : Int32) (v3 : Int32) (v4 : Int32) (v5 : Int32) (σ : St) : G (Mo_ask_J136 N K30 v1 v2 v3 v4 v5 σ) σ 136 [(0, .ref (X.2.1 + 114)), (1, .int v1), (2, .int v2), (3, .int v3), (4, .int v4), (5, .int v5)] [] := by
  unfold Mo_ask_J136
  refine r_bIinc (pc := 136) (lv' := fun x11 => [(5, .int x11), (0, .ref (X.2.1 + 114)), (1, .int v1), (2, .int v2), (3, .int v3), (4, .int v4)]) 5 rfl rfl (by decide) (fun _ => rfl) hG dX12_ask_136 (fun x11 => ?_)
  refine r_goto (pc := 139) (tgt := 30) (by decide) hG dX12_ask_139 ?_
  exact r_sub [1, 2, 3, 4, 5, 0] rfl hG (hK30 v1 v2 v3 v4 x11 σ)
set_option maxRecDepth 4000 in
theorem w_Mo_ask_J120 {X : Cx} {G : GT (Int32 × St)} (N : Nat) (hG : IsG X RX12 cX12_ask 8 3 (some .int) oWI G) {K30 : Int32 → Int32 → Int32 → Int32 → Int32 → St → Option (Int32 × St)} {K44 : Int32 → Int32 → Int32 → Int32 → Int32 → Int32 → St → Option (Int32 × St)} (hK30 : ∀ (v1 : Int32) (v2 : Int32) (v3 : Int32) (v4 : Int32) (v5 : Int32) (s : St), G (K30 v1 v2 v3 v4 v5 s) s 30 [(0, .ref (X.2.1 + 114)), (1, .int v1), (2, .int v2), (3, .int v3), (4, .int v4), (5, .int v5)] []) (hK44 : ∀ (v1 : Int32) (v2 : Int32) (v3 : Int32) (v4 : Int32) (v5 : Int32) (v6 : Int32) (s : St), G (K44 v1 v2 v3 v4 v5 v6 s) s 44 [(0, .ref (X.2.1 + 114)), (1, .int v1), (2, .int v2), (3, .int v3), (4, .int v4), (5, .int v5), (6, .int v6)] []) (v1 : Int32) (v2 : Int32) (v4 : Int32) (v5 : Int32) (v6 : Int32) (v7 : Int32) (w0 : Int32) (σ : St) : G (Mo_ask_J120 N K30 K44 v1 v2 v4 v5 v6 v7 w0 σ) σ 120 [(0, .ref (X.2.1 + 114)), (1, .int v1), (2, .int v2), (4, .int v4), (5, .int v5), (6, .int v6), (7, .int v7)] [.int w0] := by
  unfold Mo_ask_J120
  refine r_istore_n (pc := 120) (lv' := [(3, .int w0), (0, .ref (X.2.1 + 114)), (1, .int v1), (2, .int v2), (4, .int v4), (5, .int v5), (6, .int v6), (7, .int v7)]) 3 rfl (by decide) rfl hG dX12_ask_120 ?_
  refine r_iload (pc := 121) 4 rfl hG dX12_ask_121 ?_
  refine r_iload (pc := 123) 7 rfl hG dX12_ask_123 ?_
  refine r_callSi (pc := 125) (As := [.int v4, .int v7]) (c_Mo_less X v4 v7 σ) mfX12_75_X12_less hySX12_less (by decide) (by decide) rfl (Nat.le_of_ble_eq_true rfl) hG dX12_ask_125 rfl (fun n18 => ?_)
  refine r_bI hG (fun x20 => ?_)
  refine r_istore (pc := 128) (lv' := [(4, .int x20), (3, .int w0), (0, .ref (X.2.1 + 114)), (1, .int v1), (2, .int v2), (5, .int v5), (6, .int v6), (7, .int v7)]) (by decide) rfl hG dX12_ask_128 ?_
  refine r_bIinc (pc := 130) (lv' := fun x21 => [(6, .int x21), (4, .int x20), (3, .int w0), (0, .ref (X.2.1 + 114)), (1, .int v1), (2, .int v2), (5, .int v5), (7, .int v7)]) 6 rfl rfl (by decide) (fun _ => rfl) hG dX12_ask_130 (fun x21 => ?_)
  refine r_goto (pc := 133) (tgt := 44) (by decide) hG dX12_ask_133 ?_
  exact r_sub [3, 4, 5, 2, 1, 6, 0] rfl hG (hK44 v1 v2 w0 x20 v5 x21 σ)
set_option maxRecDepth 4000 in
theorem w_Mo_ask_J92 {X : Cx} {G : GT (Int32 × St)} (N : Nat) (hG : IsG X RX12 cX12_ask 8 3 (some .int) oWI G) {K30 : Int32 → Int32 → Int32 → Int32 → Int32 → St → Option (Int32 × St)} {K44 : Int32 → Int32 → Int32 → Int32 → Int32 → Int32 → St → Option (Int32 × St)} (hK30 : ∀ (v1 : Int32) (v2 : Int32) (v3 : Int32) (v4 : Int32) (v5 : Int32) (s : St), G (K30 v1 v2 v3 v4 v5 s) s 30 [(0, .ref (X.2.1 + 114)), (1, .int v1), (2, .int v2), (3, .int v3), (4, .int v4), (5, .int v5)] []) (hK44 : ∀ (v1 : Int32) (v2 : Int32) (v3 : Int32) (v4 : Int32) (v5 : Int32) (v6 : Int32) (s : St), G (K44 v1 v2 v3 v4 v5 v6 s) s 44 [(0, .ref (X.2.1 + 114)), (1, .int v1), (2, .int v2), (3, .int v3), (4, .int v4), (5, .int v5), (6, .int v6)] []) (v1 : Int32) (v2 : Int32) (v3 : Int32) (v4 : Int32) (v5 : Int32) (v6 : Int32) (σ : St) : G (Mo_ask_J92 N K30 K44 v1 v2 v3 v4 v5 v6 σ) σ 92 [(0, .ref (X.2.1 + 114)), (1, .int v1), (2, .int v2), (3, .int v3), (4, .int v4), (5, .int v5), (6, .int v6)] [] := by
  unfold Mo_ask_J92
  refine r_aload_n (pc := 92) 0 0 rfl rfl hG dX12_ask_92 ?_
  refine r_iload_n (pc := 93) 2 2 rfl rfl hG dX12_ask_93 ?_
  refine r_bipush (pc := 94) (v := 6) (by decide) hG dX12_ask_94 ?_
  refine r_bR hG (fun r13 e15 => ?_)
  refine r_callVi (pc := 96) (As := [.int v2, .int 6]) (c_Mo_mostAlike X N v2 6 σ r13 e15) (wsOf_at (rfl : shp 114 = 12) (by decide) rfl) rfl mfX12_264_X12_mostAlike hyVX12_mostAlike (by decide) (by decide) rfl (Nat.le_of_ble_eq_true rfl) hG dX12_ask_96 rfl (fun n14 => ?_)
  refine r_istore (pc := 99) (lv' := [(7, .int r13), (0, .ref (X.2.1 + 114)), (1, .int v1), (2, .int v2), (3, .int v3), (4, .int v4), (5, .int v5), (6, .int v6)]) (by decide) rfl hG dX12_ask_99 ?_
  refine r_iload (pc := 101) 0 rfl hG dX12_ask_101 ?_
  refine r_iload (pc := 103) 5 rfl hG dX12_ask_103 ?_
  refine r_icmp_ge (pc := 105) (tgt := 119) (by decide) hG dX12_ask_105 (fun h16 => ?_) (fun h16 => ?_)
  · refine r_iload_n (pc := 119) 4 3 rfl rfl hG dX12_ask_119 ?_
    exact r_sub [1, 2, 3, 5, 6, 7, 0] rfl hG (w_Mo_ask_J120 N hG hK30 hK44 v1 v2 v4 v5 v6 r13 v3 σ)
  · refine r_bipush (pc := 108) (v := 100) (by decide) hG dX12_ask_108 ?_
    refine r_iload (pc := 110) 6 rfl hG dX12_ask_110 ?_
    refine r_imul (pc := 112) hG dX12_ask_112 ?_
    refine r_iload (pc := 113) 7 rfl hG dX12_ask_113 ?_
    refine r_iadd (pc := 115) hG dX12_ask_115 ?_
    refine r_goto (pc := 116) (tgt := 120) (by decide) hG dX12_ask_116 ?_
    exact r_sub [1, 2, 3, 5, 6, 7, 0] rfl hG (w_Mo_ask_J120 N hG hK30 hK44 v1 v2 v4 v5 v6 r13 ((100 * v5) + v6) σ)
set_option maxRecDepth 4000 in
theorem w_Mo_ask_L54B {X : Cx} {G : GT (Int32 × St)} (N : Nat) (hG : IsG X RX12 cX12_ask 8 3 (some .int) oWI G) {K30 : Int32 → Int32 → Int32 → Int32 → Int32 → St → Option (Int32 × St)} {K44 : Int32 → Int32 → Int32 → Int32 → Int32 → Int32 → St → Option (Int32 × St)} {K54 : Int32 → Int32 → Int32 → Int32 → Int32 → Int32 → Int32 → St → Option (Int32 × St)} (hK30 : ∀ (v1 : Int32) (v2 : Int32) (v3 : Int32) (v4 : Int32) (v5 : Int32) (s : St), G (K30 v1 v2 v3 v4 v5 s) s 30 [(0, .ref (X.2.1 + 114)), (1, .int v1), (2, .int v2), (3, .int v3), (4, .int v4), (5, .int v5)] []) (hK44 : ∀ (v1 : Int32) (v2 : Int32) (v3 : Int32) (v4 : Int32) (v5 : Int32) (v6 : Int32) (s : St), G (K44 v1 v2 v3 v4 v5 v6 s) s 44 [(0, .ref (X.2.1 + 114)), (1, .int v1), (2, .int v2), (3, .int v3), (4, .int v4), (5, .int v5), (6, .int v6)] []) (hK54 : ∀ (v1 : Int32) (v2 : Int32) (v3 : Int32) (v4 : Int32) (v5 : Int32) (v6 : Int32) (v7 : Int32) (s : St), G (K54 v1 v2 v3 v4 v5 v6 v7 s) s 54 [(0, .ref (X.2.1 + 114)), (1, .int v1), (2, .int v2), (3, .int v3), (4, .int v4), (5, .int v5), (6, .int v6), (7, .int v7)] []) (v1 : Int32) (v2 : Int32) (v3 : Int32) (v4 : Int32) (v5 : Int32) (v6 : Int32) (v7 : Int32) (σ : St) : G (Mo_ask_L54B N K30 K44 K54 v1 v2 v3 v4 v5 v6 v7 σ) σ 54 [(0, .ref (X.2.1 + 114)), (1, .int v1), (2, .int v2), (3, .int v3), (4, .int v4), (5, .int v5), (6, .int v6), (7, .int v7)] [] := by
  unfold Mo_ask_L54B
  refine r_iload (pc := 54) 7 rfl hG dX12_ask_54 ?_
  refine r_bipush (pc := 56) (v := 6) (by decide) hG dX12_ask_56 ?_
  refine r_icmp_ge (pc := 58) (tgt := 92) (by decide) hG dX12_ask_58 (fun h12 => ?_) (fun h12 => ?_)
  · exact r_sub [0, 1, 2, 3, 4, 5, 6] rfl hG (w_Mo_ask_J92 N hG hK30 hK44 v1 v2 v3 v4 v5 v6 σ)
  · refine r_aload_n (pc := 61) 0 0 rfl rfl hG dX12_ask_61 ?_
    refine gf12_33 (pc := 62) lk1164 hG dX12_ask_62 ?_
    refine r_iload (pc := 65) 7 rfl hG dX12_ask_65 ?_
    refine r_iload (pc := 67) 7 rfl hG dX12_ask_67 ?_
    refine r_aload_n (pc := 69) 0 0 rfl rfl hG dX12_ask_69 ?_
    refine gf12_0 (pc := 70) lk1131 hG dX12_ask_70 ?_
    refine r_bipush (pc := 73) (v := 41) (by decide) hG dX12_ask_73 ?_
    refine r_iload_n (pc := 75) 1 1 rfl rfl hG dX12_ask_75 ?_
    refine r_iadd (pc := 76) hG dX12_ask_76 ?_
    refine r_ck hG (fun h22 => ?_)
    refine r_iald (pc := 77) (i := 115) (rfl : shp 115 = 14) rfl h22 hG dX12_ask_77 ?_
    refine r_iload (pc := 78) 5 rfl hG dX12_ask_78 ?_
    refine r_iload (pc := 80) 6 rfl hG dX12_ask_80 ?_
    refine r_callSi (pc := 82) (As := [.int v7, .int (σ.1 115 ((41 + v1)).toNatClampNeg), .int v5, .int v6]) (c_Mo_tells X v7 (σ.1 115 ((41 + v1)).toNatClampNeg) v5 v6 σ) mfX12_182_X12_tells hySX12_tells (by decide) (by decide) rfl (Nat.le_of_ble_eq_true rfl) hG dX12_ask_82 rfl (fun n24 => ?_)
    refine r_ck hG (fun h26 => ?_)
    refine r_iast (pc := 85) (i := 132) (rfl : shp 132 = 14) rfl h26 hG dX12_ask_85 ?_
    refine r_bS hG (fun s27 => ?_)
    refine r_bIinc (pc := 86) (lv' := fun x28 => [(7, .int x28), (0, .ref (X.2.1 + 114)), (1, .int v1), (2, .int v2), (3, .int v3), (4, .int v4), (5, .int v5), (6, .int v6)]) 7 rfl rfl (by decide) (fun _ => rfl) hG dX12_ask_86 (fun x28 => ?_)
    refine r_goto (pc := 89) (tgt := 54) (by decide) hG dX12_ask_89 ?_
    exact r_sub [1, 2, 3, 4, 5, 6, 7, 0] rfl hG (hK54 v1 v2 v3 v4 v5 v6 x28 s27)
set_option maxRecDepth 4000 in
theorem w_Mo_ask_L54 {X : Cx} {G : GT (Int32 × St)} (N : Nat) (hG : IsG X RX12 cX12_ask 8 3 (some .int) oWI G) {K30 : Int32 → Int32 → Int32 → Int32 → Int32 → St → Option (Int32 × St)} {K44 : Int32 → Int32 → Int32 → Int32 → Int32 → Int32 → St → Option (Int32 × St)} (hK30 : ∀ (v1 : Int32) (v2 : Int32) (v3 : Int32) (v4 : Int32) (v5 : Int32) (s : St), G (K30 v1 v2 v3 v4 v5 s) s 30 [(0, .ref (X.2.1 + 114)), (1, .int v1), (2, .int v2), (3, .int v3), (4, .int v4), (5, .int v5)] []) (hK44 : ∀ (v1 : Int32) (v2 : Int32) (v3 : Int32) (v4 : Int32) (v5 : Int32) (v6 : Int32) (s : St), G (K44 v1 v2 v3 v4 v5 v6 s) s 44 [(0, .ref (X.2.1 + 114)), (1, .int v1), (2, .int v2), (3, .int v3), (4, .int v4), (5, .int v5), (6, .int v6)] []) : ∀ (n : Nat), ∀ (v1 : Int32) (v2 : Int32) (v3 : Int32) (v4 : Int32) (v5 : Int32) (v6 : Int32) (v7 : Int32) (σ : St), G (Mo_ask_L54 N K30 K44 n v1 v2 v3 v4 v5 v6 v7 σ) σ 54 [(0, .ref (X.2.1 + 114)), (1, .int v1), (2, .int v2), (3, .int v3), (4, .int v4), (5, .int v5), (6, .int v6), (7, .int v7)] [] := by
  intro n
  induction n with
  | zero => intro v1 v2 v3 v4 v5 v6 v7 σ; exact r_none hG
  | succ n ih => intro v1 v2 v3 v4 v5 v6 v7 σ; exact w_Mo_ask_L54B N hG hK30 hK44 ih v1 v2 v3 v4 v5 v6 v7 σ
set_option maxRecDepth 4000 in
theorem w_Mo_ask_L44B {X : Cx} {G : GT (Int32 × St)} (N : Nat) (hG : IsG X RX12 cX12_ask 8 3 (some .int) oWI G) {K30 : Int32 → Int32 → Int32 → Int32 → Int32 → St → Option (Int32 × St)} {K44 : Int32 → Int32 → Int32 → Int32 → Int32 → Int32 → St → Option (Int32 × St)} (hK30 : ∀ (v1 : Int32) (v2 : Int32) (v3 : Int32) (v4 : Int32) (v5 : Int32) (s : St), G (K30 v1 v2 v3 v4 v5 s) s 30 [(0, .ref (X.2.1 + 114)), (1, .int v1), (2, .int v2), (3, .int v3), (4, .int v4), (5, .int v5)] []) (hK44 : ∀ (v1 : Int32) (v2 : Int32) (v3 : Int32) (v4 : Int32) (v5 : Int32) (v6 : Int32) (s : St), G (K44 v1 v2 v3 v4 v5 v6 s) s 44 [(0, .ref (X.2.1 + 114)), (1, .int v1), (2, .int v2), (3, .int v3), (4, .int v4), (5, .int v5), (6, .int v6)] []) (v1 : Int32) (v2 : Int32) (v3 : Int32) (v4 : Int32) (v5 : Int32) (v6 : Int32) (σ : St) : G (Mo_ask_L44B N K30 K44 v1 v2 v3 v4 v5 v6 σ) σ 44 [(0, .ref (X.2.1 + 114)), (1, .int v1), (2, .int v2), (3, .int v3), (4, .int v4), (5, .int v5), (6, .int v6)] [] := by
  unfold Mo_ask_L44B
  refine r_iload (pc := 44) 6 rfl hG dX12_ask_44 ?_
  refine r_bipush (pc := 46) (v := 31) (by decide) hG dX12_ask_46 ?_
  refine r_icmp_ge (pc := 48) (tgt := 136) (by decide) hG dX12_ask_48 (fun h10 => ?_) (fun h10 => ?_)
  · exact r_sub [0, 1, 2, 3, 4, 5] rfl hG (w_Mo_ask_J136 N hG hK30 v1 v2 v3 v4 v5 σ)
  · refine r_iconst (pc := 51) (v := 0) (by decide) hG dX12_ask_51 ?_
    refine r_istore (pc := 52) (lv' := [(7, .int 0), (0, .ref (X.2.1 + 114)), (1, .int v1), (2, .int v2), (3, .int v3), (4, .int v4), (5, .int v5), (6, .int v6)]) (by decide) rfl hG dX12_ask_52 ?_
    exact r_sub [1, 2, 3, 4, 5, 6, 7, 0] rfl hG (w_Mo_ask_L54 N hG hK30 hK44 N v1 v2 v3 v4 v5 v6 0 σ)
set_option maxRecDepth 4000 in
theorem w_Mo_ask_L44 {X : Cx} {G : GT (Int32 × St)} (N : Nat) (hG : IsG X RX12 cX12_ask 8 3 (some .int) oWI G) {K30 : Int32 → Int32 → Int32 → Int32 → Int32 → St → Option (Int32 × St)} (hK30 : ∀ (v1 : Int32) (v2 : Int32) (v3 : Int32) (v4 : Int32) (v5 : Int32) (s : St), G (K30 v1 v2 v3 v4 v5 s) s 30 [(0, .ref (X.2.1 + 114)), (1, .int v1), (2, .int v2), (3, .int v3), (4, .int v4), (5, .int v5)] []) : ∀ (n : Nat), ∀ (v1 : Int32) (v2 : Int32) (v3 : Int32) (v4 : Int32) (v5 : Int32) (v6 : Int32) (σ : St), G (Mo_ask_L44 N K30 n v1 v2 v3 v4 v5 v6 σ) σ 44 [(0, .ref (X.2.1 + 114)), (1, .int v1), (2, .int v2), (3, .int v3), (4, .int v4), (5, .int v5), (6, .int v6)] [] := by
  intro n
  induction n with
  | zero => intro v1 v2 v3 v4 v5 v6 σ; exact r_none hG
  | succ n ih => intro v1 v2 v3 v4 v5 v6 σ; exact w_Mo_ask_L44B N hG hK30 ih v1 v2 v3 v4 v5 v6 σ
set_option maxRecDepth 4000 in
theorem w_Mo_ask_L30B {X : Cx} {G : GT (Int32 × St)} (N : Nat) (hG : IsG X RX12 cX12_ask 8 3 (some .int) oWI G) {K30 : Int32 → Int32 → Int32 → Int32 → Int32 → St → Option (Int32 × St)} (hK30 : ∀ (v1 : Int32) (v2 : Int32) (v3 : Int32) (v4 : Int32) (v5 : Int32) (s : St), G (K30 v1 v2 v3 v4 v5 s) s 30 [(0, .ref (X.2.1 + 114)), (1, .int v1), (2, .int v2), (3, .int v3), (4, .int v4), (5, .int v5)] []) (v1 : Int32) (v2 : Int32) (v3 : Int32) (v4 : Int32) (v5 : Int32) (σ : St) : G (Mo_ask_L30B N K30 v1 v2 v3 v4 v5 σ) σ 30 [(0, .ref (X.2.1 + 114)), (1, .int v1), (2, .int v2), (3, .int v3), (4, .int v4), (5, .int v5)] [] := by
  unfold Mo_ask_L30B
  refine r_iload (pc := 30) 5 rfl hG dX12_ask_30 ?_
  refine r_bipush (pc := 32) (v := 10) (by decide) hG dX12_ask_32 ?_
  refine r_icmp_ge (pc := 34) (tgt := 142) (by decide) hG dX12_ask_34 (fun h8 => ?_) (fun h8 => ?_)
  · refine r_iload_n (pc := 142) 3 3 rfl rfl hG dX12_ask_142 ?_
    exact r_iret (pc := 143) rfl hG dX12_ask_143
  · refine r_iload_n (pc := 37) 2 2 rfl rfl hG dX12_ask_37 ?_
    refine r_if_eq (pc := 38) (tgt := 142) (by decide) hG dX12_ask_38 (fun h9 => ?_) (fun h9 => ?_)
    · refine r_iload_n (pc := 142) 3 3 rfl rfl hG dX12_ask_142 ?_
      exact r_iret (pc := 143) rfl hG dX12_ask_143
    · refine r_iconst (pc := 41) (v := 0) (by decide) hG dX12_ask_41 ?_
      refine r_istore (pc := 42) (lv' := [(6, .int 0), (0, .ref (X.2.1 + 114)), (1, .int v1), (2, .int v2), (3, .int v3), (4, .int v4), (5, .int v5)]) (by decide) rfl hG dX12_ask_42 ?_
      exact r_sub [1, 2, 3, 4, 5, 6, 0] rfl hG (w_Mo_ask_L44 N hG hK30 N v1 v2 v3 v4 v5 0 σ)
set_option maxRecDepth 4000 in
theorem w_Mo_ask_L30 {X : Cx} {G : GT (Int32 × St)} (N : Nat) (hG : IsG X RX12 cX12_ask 8 3 (some .int) oWI G) : ∀ (n : Nat), ∀ (v1 : Int32) (v2 : Int32) (v3 : Int32) (v4 : Int32) (v5 : Int32) (σ : St), G (Mo_ask_L30 N n v1 v2 v3 v4 v5 σ) σ 30 [(0, .ref (X.2.1 + 114)), (1, .int v1), (2, .int v2), (3, .int v3), (4, .int v4), (5, .int v5)] [] := by
  intro n
  induction n with
  | zero => intro v1 v2 v3 v4 v5 σ; exact r_none hG
  | succ n ih => intro v1 v2 v3 v4 v5 σ; exact w_Mo_ask_L30B N hG ih v1 v2 v3 v4 v5 σ
set_option maxRecDepth 4000 in
theorem c_Mo_ask (X : Cx) (N : Nat) (v1 : Int32) (σ : St) (r : Int32) (σ1 : St) (hE : Mo_ask N v1 σ = some (r, σ1)) : Ctr X yX12_ask cX12_ask 8 (some .int) 3 [.ref (X.2.1 + 114), .int v1] σ (some (.int r)) σ1 := by
  refine Ctr.of (out := oWI) (E := Mo_ask N v1 σ) rfl (Nat.le_of_ble_eq_true rfl) (fun G hG => ?_) (r, σ1) hE
  unfold Mo_ask
  refine r_aload_n (pc := 0) 0 0 rfl rfl hG dX12_ask_0 ?_
  refine r_iload_n (pc := 1) 1 1 rfl rfl hG dX12_ask_1 ?_
  refine r_bR hG (fun r1 e3 => ?_)
  refine r_callVi (pc := 2) (As := [.int v1]) (c_Mo_isRower X N v1 σ r1 e3) (wsOf_at (rfl : shp 114 = 12) (by decide) rfl) rfl mfX12_193_X12_isRower hyVX12_isRower (by decide) (by decide) rfl (Nat.le_of_ble_eq_true rfl) hG dX12_ask_2 rfl (fun n2 => ?_)
  refine r_if_ne (pc := 5) (tgt := 15) (by decide) hG dX12_ask_5 (fun h4 => ?_) (fun h4 => ?_)
  · refine r_aload_n (pc := 15) 0 0 rfl rfl hG dX12_ask_15 ?_
    refine r_iload_n (pc := 16) 1 1 rfl rfl hG dX12_ask_16 ?_
    refine r_bR hG (fun r5 e7 => ?_)
    refine r_callVi (pc := 17) (As := [.int v1]) (c_Mo_rowersOf X N v1 σ r5 e7) (wsOf_at (rfl : shp 114 = 12) (by decide) rfl) rfl mfX12_274_X12_rowersOf hyVX12_rowersOf (by decide) (by decide) rfl (Nat.le_of_ble_eq_true rfl) hG dX12_ask_17 rfl (fun n6 => ?_)
    refine r_istore_n (pc := 20) (lv' := [(2, .int r5), (0, .ref (X.2.1 + 114)), (1, .int v1)]) 2 rfl (by decide) rfl hG dX12_ask_20 ?_
    refine r_iconst (pc := 21) (v := (-1)) (by decide) hG dX12_ask_21 ?_
    refine r_istore_n (pc := 22) (lv' := [(3, .int (-1)), (2, .int r5), (0, .ref (X.2.1 + 114)), (1, .int v1)]) 3 rfl (by decide) rfl hG dX12_ask_22 ?_
    refine r_bipush (pc := 23) (v := 99) (by decide) hG dX12_ask_23 ?_
    refine r_istore (pc := 25) (lv' := [(4, .int 99), (3, .int (-1)), (2, .int r5), (0, .ref (X.2.1 + 114)), (1, .int v1)]) (by decide) rfl hG dX12_ask_25 ?_
    refine r_iconst (pc := 27) (v := 0) (by decide) hG dX12_ask_27 ?_
    refine r_istore (pc := 28) (lv' := [(5, .int 0), (4, .int 99), (3, .int (-1)), (2, .int r5), (0, .ref (X.2.1 + 114)), (1, .int v1)]) (by decide) rfl hG dX12_ask_28 ?_
    exact r_sub [4, 5, 3, 2, 1, 0] rfl hG (w_Mo_ask_L30 N hG N v1 r5 (-1) 99 0 σ)
  · refine r_aload_n (pc := 8) 0 0 rfl rfl hG dX12_ask_8 ?_
    refine r_bipush (pc := 9) (v := (-2)) (by decide) hG dX12_ask_9 ?_
    refine r_bW hG (fun r29 s30 e32 => ?_)
    refine r_callVi (pc := 11) (As := [.int (-2)]) (c_Mo_bad X N (-2) σ r29 s30 e32) (wsOf_at (rfl : shp 114 = 12) (by decide) rfl) rfl mfX12_84_X12_bad hyVX12_bad (by decide) (by decide) rfl (Nat.le_of_ble_eq_true rfl) hG dX12_ask_11 rfl (fun n31 => ?_)
    exact r_iret (pc := 14) rfl hG dX12_ask_14
set_option maxRecDepth 4000 in
theorem c_Mo_hurtAt (X : Cx) (N : Nat) (v1 : Int32) (v2 : Int32) (v3 : Int32) (σ : St) (r : Int32) (hE : Mo_hurtAt N v1 v2 v3 σ = some r) : Ctr X yX12_hurtAt cX12_hurtAt 6 (some .int) 3 [.ref (X.2.1 + 114), .int v1, .int v2, .int v3] σ (some (.int r)) σ := by
  refine Ctr.of (out := (oI σ)) (E := Mo_hurtAt N v1 v2 v3 σ) rfl (Nat.le_of_ble_eq_true rfl) (fun G hG => ?_) r hE
  unfold Mo_hurtAt
  refine r_bipush (pc := 0) (v := 9) (by decide) hG dX12_hurtAt_0 ?_
  refine r_iconst (pc := 2) (v := 3) (by decide) hG dX12_hurtAt_2 ?_
  refine r_iload_n (pc := 3) 3 3 rfl rfl hG dX12_hurtAt_3 ?_
  refine r_imul (pc := 4) hG dX12_hurtAt_4 ?_
  refine r_isub (pc := 5) hG dX12_hurtAt_5 ?_
  refine r_bI hG (fun x1 => ?_)
  refine r_istore (pc := 6) (lv' := [(4, .int x1), (0, .ref (X.2.1 + 114)), (1, .int v1), (2, .int v2), (3, .int v3)]) (by decide) rfl hG dX12_hurtAt_6 ?_
  refine r_aload_n (pc := 8) 1 0 rfl rfl hG dX12_hurtAt_8 ?_
  refine gf12_0 (pc := 9) lk1131 hG dX12_hurtAt_9 ?_
  refine r_bipush (pc := 12) (v := 38) (by decide) hG dX12_hurtAt_12 ?_
  refine r_iload_n (pc := 14) 3 2 rfl rfl hG dX12_hurtAt_14 ?_
  refine r_iadd (pc := 15) hG dX12_hurtAt_15 ?_
  refine r_ck hG (fun h2 => ?_)
  refine r_iald (pc := 16) (i := 115) (rfl : shp 115 = 14) rfl h2 hG dX12_hurtAt_16 ?_
  refine r_aload_n (pc := 17) 1 0 rfl rfl hG dX12_hurtAt_17 ?_
  refine gf12_0 (pc := 18) lk1131 hG dX12_hurtAt_18 ?_
  refine r_bipush (pc := 21) (v := 41) (by decide) hG dX12_hurtAt_21 ?_
  refine r_iload_n (pc := 23) 3 2 rfl rfl hG dX12_hurtAt_23 ?_
  refine r_iadd (pc := 24) hG dX12_hurtAt_24 ?_
  refine r_ck hG (fun h3 => ?_)
  refine r_iald (pc := 25) (i := 115) (rfl : shp 115 = 14) rfl h3 hG dX12_hurtAt_25 ?_
  refine r_iload (pc := 26) 0 rfl hG dX12_hurtAt_26 ?_
  refine r_aload_n (pc := 28) 1 0 rfl rfl hG dX12_hurtAt_28 ?_
  refine gf12_0 (pc := 29) lk1131 hG dX12_hurtAt_29 ?_
  refine r_bipush (pc := 32) (v := 64) (by decide) hG dX12_hurtAt_32 ?_
  refine r_iload_n (pc := 34) 2 1 rfl rfl hG dX12_hurtAt_34 ?_
  refine r_iadd (pc := 35) hG dX12_hurtAt_35 ?_
  refine r_ck hG (fun h4 => ?_)
  refine r_iald (pc := 36) (i := 115) (rfl : shp 115 = 14) rfl h4 hG dX12_hurtAt_36 ?_
  refine r_callSi (pc := 37) (As := [.int (σ.1 115 ((38 + v2)).toNatClampNeg), .int (σ.1 115 ((41 + v2)).toNatClampNeg), .int x1, .int (σ.1 115 ((64 + v1)).toNatClampNeg)]) (c_Mo_tells X (σ.1 115 ((38 + v2)).toNatClampNeg) (σ.1 115 ((41 + v2)).toNatClampNeg) x1 (σ.1 115 ((64 + v1)).toNatClampNeg) σ) mfX12_182_X12_tells hySX12_tells (by decide) (by decide) rfl (Nat.le_of_ble_eq_true rfl) hG dX12_hurtAt_37 rfl (fun n6 => ?_)
  refine r_aload_n (pc := 40) 1 0 rfl rfl hG dX12_hurtAt_40 ?_
  refine gf12_0 (pc := 41) lk1131 hG dX12_hurtAt_41 ?_
  refine r_bipush (pc := 44) (v := 48) (by decide) hG dX12_hurtAt_44 ?_
  refine r_iload_n (pc := 46) 2 1 rfl rfl hG dX12_hurtAt_46 ?_
  refine r_iadd (pc := 47) hG dX12_hurtAt_47 ?_
  refine r_ck hG (fun h8 => ?_)
  refine r_iald (pc := 48) (i := 115) (rfl : shp 115 = 14) rfl h8 hG dX12_hurtAt_48 ?_
  refine r_aload_n (pc := 49) 1 0 rfl rfl hG dX12_hurtAt_49 ?_
  refine gf12_0 (pc := 50) lk1131 hG dX12_hurtAt_50 ?_
  refine r_bipush (pc := 53) (v := 52) (by decide) hG dX12_hurtAt_53 ?_
  refine r_iload_n (pc := 55) 2 1 rfl rfl hG dX12_hurtAt_55 ?_
  refine r_iadd (pc := 56) hG dX12_hurtAt_56 ?_
  refine r_ck hG (fun h9 => ?_)
  refine r_iald (pc := 57) (i := 115) (rfl : shp 115 = 14) rfl h9 hG dX12_hurtAt_57 ?_
  refine r_isub (pc := 58) hG dX12_hurtAt_58 ?_
  refine r_callSi (pc := 59) (As := [.int (Mo_tells (σ.1 115 ((38 + v2)).toNatClampNeg) (σ.1 115 ((41 + v2)).toNatClampNeg) x1 (σ.1 115 ((64 + v1)).toNatClampNeg)), .int ((σ.1 115 ((48 + v1)).toNatClampNeg) - (σ.1 115 ((52 + v1)).toNatClampNeg))]) (c_Mo_less X (Mo_tells (σ.1 115 ((38 + v2)).toNatClampNeg) (σ.1 115 ((41 + v2)).toNatClampNeg) x1 (σ.1 115 ((64 + v1)).toNatClampNeg)) ((σ.1 115 ((48 + v1)).toNatClampNeg) - (σ.1 115 ((52 + v1)).toNatClampNeg)) σ) mfX12_75_X12_less hySX12_less (by decide) (by decide) rfl (Nat.le_of_ble_eq_true rfl) hG dX12_hurtAt_59 rfl (fun n11 => ?_)
  refine r_bI hG (fun x13 => ?_)
  refine r_istore (pc := 62) (lv' := [(5, .int x13), (4, .int x1), (0, .ref (X.2.1 + 114)), (1, .int v1), (2, .int v2), (3, .int v3)]) (by decide) rfl hG dX12_hurtAt_62 ?_
  refine r_aload_n (pc := 64) 2 0 rfl rfl hG dX12_hurtAt_64 ?_
  refine gf12_0 (pc := 65) lk1131 hG dX12_hurtAt_65 ?_
  refine r_bipush (pc := 68) (v := 44) (by decide) hG dX12_hurtAt_68 ?_
  refine r_iload_n (pc := 70) 3 1 rfl rfl hG dX12_hurtAt_70 ?_
  refine r_iadd (pc := 71) hG dX12_hurtAt_71 ?_
  refine r_ck hG (fun h14 => ?_)
  refine r_iald (pc := 72) (i := 115) (rfl : shp 115 = 14) rfl h14 hG dX12_hurtAt_72 ?_
  refine r_aload_n (pc := 73) 2 0 rfl rfl hG dX12_hurtAt_73 ?_
  refine gf12_0 (pc := 74) lk1131 hG dX12_hurtAt_74 ?_
  refine r_bipush (pc := 77) (v := 48) (by decide) hG dX12_hurtAt_77 ?_
  refine r_iload_n (pc := 79) 3 1 rfl rfl hG dX12_hurtAt_79 ?_
  refine r_iadd (pc := 80) hG dX12_hurtAt_80 ?_
  refine r_ck hG (fun h15 => ?_)
  refine r_iald (pc := 81) (i := 115) (rfl : shp 115 = 14) rfl h15 hG dX12_hurtAt_81 ?_
  refine r_aload_n (pc := 82) 2 0 rfl rfl hG dX12_hurtAt_82 ?_
  refine gf12_0 (pc := 83) lk1131 hG dX12_hurtAt_83 ?_
  refine r_bipush (pc := 86) (v := 52) (by decide) hG dX12_hurtAt_86 ?_
  refine r_iload_n (pc := 88) 3 1 rfl rfl hG dX12_hurtAt_88 ?_
  refine r_iadd (pc := 89) hG dX12_hurtAt_89 ?_
  refine r_ck hG (fun h16 => ?_)
  refine r_iald (pc := 90) (i := 115) (rfl : shp 115 = 14) rfl h16 hG dX12_hurtAt_90 ?_
  refine r_iload (pc := 91) 0 rfl hG dX12_hurtAt_91 ?_
  refine r_iload (pc := 93) 1 rfl hG dX12_hurtAt_93 ?_
  refine r_callSi (pc := 95) (As := [.int (σ.1 115 ((44 + v1)).toNatClampNeg), .int (σ.1 115 ((48 + v1)).toNatClampNeg), .int (σ.1 115 ((52 + v1)).toNatClampNeg), .int x13, .int x1]) (c_Mo_hurts X (σ.1 115 ((44 + v1)).toNatClampNeg) (σ.1 115 ((48 + v1)).toNatClampNeg) (σ.1 115 ((52 + v1)).toNatClampNeg) x13 x1 σ) mfX12_186_X12_hurts hySX12_hurts (by decide) (by decide) rfl (Nat.le_of_ble_eq_true rfl) hG dX12_hurtAt_95 rfl (fun n18 => ?_)
  exact r_iret (pc := 98) rfl hG dX12_hurtAt_98
set_option maxRecDepth 4000 in
theorem w_Mo_rests_J90 {σ : St} {X : Cx} {G : GT Int32} (N : Nat) (hG : IsG X RX12 cX12_rests 8 4 (some .boolean) (oI σ) G) {K20 : Int32 → Int32 → Int32 → Int32 → Int32 → Int32 → Int32 → St → Option Int32} (hK20 : ∀ (v1 : Int32) (v2 : Int32) (v3 : Int32) (v4 : Int32) (v5 : Int32) (v6 : Int32) (v7 : Int32), rvN (some .boolean) (some (.int v6)) → G (K20 v1 v2 v3 v4 v5 v6 v7 σ) σ 20 [(0, .ref (X.2.1 + 114)), (1, .int v1), (2, .int v2), (3, .int v3), (4, .int v4), (5, .int v5), (6, .int v6), (7, .int v7)] []) (v1 : Int32) (v2 : Int32) (v3 : Int32) (v4 : Int32) (v5 : Int32) (v7 : Int32) (w0 : Int32) (hw0 : rvN (some .boolean) (some (.int w0))) : G (Mo_rests_J90 N K20 v1 v2 v3 v4 v5 v7 w0 σ) σ 90 [(0, .ref (X.2.1 + 114)), (1, .int v1), (2, .int v2), (3, .int v3), (4, .int v4), (5, .int v5), (7, .int v7)] [.int w0] := by
  unfold Mo_rests_J90
  refine r_istore (pc := 90) (lv' := [(6, .int w0), (0, .ref (X.2.1 + 114)), (1, .int v1), (2, .int v2), (3, .int v3), (4, .int v4), (5, .int v5), (7, .int v7)]) (by decide) rfl hG dX12_rests_90 ?_
  refine r_bIinc (pc := 92) (lv' := fun x9 => [(7, .int x9), (6, .int w0), (0, .ref (X.2.1 + 114)), (1, .int v1), (2, .int v2), (3, .int v3), (4, .int v4), (5, .int v5)]) 7 rfl rfl (by decide) (fun _ => rfl) hG dX12_rests_92 (fun x9 => ?_)
  refine r_goto (pc := 95) (tgt := 20) (by decide) hG dX12_rests_95 ?_
  exact r_sub [2, 3, 4, 5, 6, 7, 1, 0] rfl hG (hK20 v1 v2 v3 v4 v5 w0 x9 hw0)
set_option maxRecDepth 4000 in
theorem w_Mo_rests_J89 {σ : St} {X : Cx} {G : GT Int32} (N : Nat) (hG : IsG X RX12 cX12_rests 8 4 (some .boolean) (oI σ) G) {K20 : Int32 → Int32 → Int32 → Int32 → Int32 → Int32 → Int32 → St → Option Int32} (hK20 : ∀ (v1 : Int32) (v2 : Int32) (v3 : Int32) (v4 : Int32) (v5 : Int32) (v6 : Int32) (v7 : Int32), rvN (some .boolean) (some (.int v6)) → G (K20 v1 v2 v3 v4 v5 v6 v7 σ) σ 20 [(0, .ref (X.2.1 + 114)), (1, .int v1), (2, .int v2), (3, .int v3), (4, .int v4), (5, .int v5), (6, .int v6), (7, .int v7)] []) (v1 : Int32) (v2 : Int32) (v3 : Int32) (v4 : Int32) (v5 : Int32) (v7 : Int32) : G (Mo_rests_J89 N K20 v1 v2 v3 v4 v5 v7 σ) σ 89 [(0, .ref (X.2.1 + 114)), (1, .int v1), (2, .int v2), (3, .int v3), (4, .int v4), (5, .int v5), (7, .int v7)] [] := by
  unfold Mo_rests_J89
  refine r_iconst (pc := 89) (v := 0) (by decide) hG dX12_rests_89 ?_
  exact w_Mo_rests_J90 N hG hK20 v1 v2 v3 v4 v5 v7 0 rvN_b0
set_option maxRecDepth 4000 in
theorem w_Mo_rests_L20B {σ : St} {X : Cx} {G : GT Int32} (N : Nat) (hG : IsG X RX12 cX12_rests 8 4 (some .boolean) (oI σ) G) {K20 : Int32 → Int32 → Int32 → Int32 → Int32 → Int32 → Int32 → St → Option Int32} (hK20 : ∀ (v1 : Int32) (v2 : Int32) (v3 : Int32) (v4 : Int32) (v5 : Int32) (v6 : Int32) (v7 : Int32), rvN (some .boolean) (some (.int v6)) → G (K20 v1 v2 v3 v4 v5 v6 v7 σ) σ 20 [(0, .ref (X.2.1 + 114)), (1, .int v1), (2, .int v2), (3, .int v3), (4, .int v4), (5, .int v5), (6, .int v6), (7, .int v7)] []) (v1 : Int32) (v2 : Int32) (v3 : Int32) (v4 : Int32) (v5 : Int32) (v6 : Int32) (v7 : Int32) (hv6 : rvN (some .boolean) (some (.int v6))) : G (Mo_rests_L20B N K20 v1 v2 v3 v4 v5 v6 v7 σ) σ 20 [(0, .ref (X.2.1 + 114)), (1, .int v1), (2, .int v2), (3, .int v3), (4, .int v4), (5, .int v5), (6, .int v6), (7, .int v7)] [] := by
  unfold Mo_rests_L20B
  refine r_iload (pc := 20) 7 rfl hG dX12_rests_20 ?_
  refine r_iconst (pc := 22) (v := 4) (by decide) hG dX12_rests_22 ?_
  refine r_icmp_ge (pc := 23) (tgt := 98) (by decide) hG dX12_rests_23 (fun h7 => ?_) (fun h7 => ?_)
  · refine r_iload (pc := 98) 6 rfl hG dX12_rests_98 ?_
    exact r_zret (pc := 100) hv6 rfl hG dX12_rests_100
  · refine r_iload (pc := 26) 6 rfl hG dX12_rests_26 ?_
    refine r_if_eq (pc := 28) (tgt := 89) (by decide) hG dX12_rests_28 (fun h8 => ?_) (fun h8 => ?_)
    · exact r_sub [0, 1, 2, 3, 4, 5, 7] rfl hG (w_Mo_rests_J89 N hG hK20 v1 v2 v3 v4 v5 v7)
    · refine r_aload_n (pc := 31) 0 0 rfl rfl hG dX12_rests_31 ?_
      refine r_iload_n (pc := 32) 1 1 rfl rfl hG dX12_rests_32 ?_
      refine r_iload_n (pc := 33) 2 2 rfl rfl hG dX12_rests_33 ?_
      refine r_iload (pc := 34) 7 rfl hG dX12_rests_34 ?_
      refine r_iload (pc := 36) 4 rfl hG dX12_rests_36 ?_
      refine r_callSi (pc := 38) (As := [.int v7, .int v4]) (c_Mo_less X v7 v4 σ) mfX12_75_X12_less hySX12_less (by decide) (by decide) rfl (Nat.le_of_ble_eq_true rfl) hG dX12_rests_38 rfl (fun n11 => ?_)
      refine r_bR hG (fun r13 e15 => ?_)
      refine r_callVi (pc := 41) (As := [.int v1, .int v2, .int (Mo_less v7 v4)]) (c_Mo_hurtAt X N v1 v2 (Mo_less v7 v4) σ r13 e15) (wsOf_at (rfl : shp 114 = 12) (by decide) rfl) rfl mfX12_277_X12_hurtAt hyVX12_hurtAt (by decide) (by decide) rfl (Nat.le_of_ble_eq_true rfl) hG dX12_rests_41 rfl (fun n14 => ?_)
      refine r_ineg (pc := 44) hG dX12_rests_44 ?_
      refine r_iload (pc := 45) 7 rfl hG dX12_rests_45 ?_
      refine r_isub (pc := 47) hG dX12_rests_47 ?_
      refine r_iload (pc := 48) 5 rfl hG dX12_rests_48 ?_
      refine r_ineg (pc := 50) hG dX12_rests_50 ?_
      refine r_iload_n (pc := 51) 3 3 rfl rfl hG dX12_rests_51 ?_
      refine r_isub (pc := 52) hG dX12_rests_52 ?_
      refine r_icmp_gt (pc := 53) (tgt := 89) (by decide) hG dX12_rests_53 (fun h16 => ?_) (fun h16 => ?_)
      · exact r_sub [0, 1, 2, 3, 4, 5, 7] rfl hG (w_Mo_rests_J89 N hG hK20 v1 v2 v3 v4 v5 v7)
      · refine r_aload_n (pc := 56) 0 0 rfl rfl hG dX12_rests_56 ?_
        refine r_iload_n (pc := 57) 1 1 rfl rfl hG dX12_rests_57 ?_
        refine r_iload_n (pc := 58) 2 2 rfl rfl hG dX12_rests_58 ?_
        refine r_iload_n (pc := 59) 3 3 rfl rfl hG dX12_rests_59 ?_
        refine r_iload (pc := 60) 7 rfl hG dX12_rests_60 ?_
        refine r_callSi (pc := 62) (As := [.int v3, .int v7]) (c_Mo_less X v3 v7 σ) mfX12_75_X12_less hySX12_less (by decide) (by decide) rfl (Nat.le_of_ble_eq_true rfl) hG dX12_rests_62 rfl (fun n18 => ?_)
        refine r_bR hG (fun r20 e22 => ?_)
        refine r_callVi (pc := 65) (As := [.int v1, .int v2, .int (Mo_less v3 v7)]) (c_Mo_hurtAt X N v1 v2 (Mo_less v3 v7) σ r20 e22) (wsOf_at (rfl : shp 114 = 12) (by decide) rfl) rfl mfX12_277_X12_hurtAt hyVX12_hurtAt (by decide) (by decide) rfl (Nat.le_of_ble_eq_true rfl) hG dX12_rests_65 rfl (fun n21 => ?_)
        refine r_ineg (pc := 68) hG dX12_rests_68 ?_
        refine r_iconst (pc := 69) (v := 2) (by decide) hG dX12_rests_69 ?_
        refine r_iload (pc := 70) 7 rfl hG dX12_rests_70 ?_
        refine r_imul (pc := 72) hG dX12_rests_72 ?_
        refine r_isub (pc := 73) hG dX12_rests_73 ?_
        refine r_iload (pc := 74) 5 rfl hG dX12_rests_74 ?_
        refine r_ineg (pc := 76) hG dX12_rests_76 ?_
        refine r_iconst (pc := 77) (v := 2) (by decide) hG dX12_rests_77 ?_
        refine r_iload (pc := 78) 4 rfl hG dX12_rests_78 ?_
        refine r_imul (pc := 80) hG dX12_rests_80 ?_
        refine r_isub (pc := 81) hG dX12_rests_81 ?_
        refine r_icmp_gt (pc := 82) (tgt := 89) (by decide) hG dX12_rests_82 (fun h23 => ?_) (fun h23 => ?_)
        · exact r_sub [0, 1, 2, 3, 4, 5, 7] rfl hG (w_Mo_rests_J89 N hG hK20 v1 v2 v3 v4 v5 v7)
        · refine r_iconst (pc := 85) (v := 1) (by decide) hG dX12_rests_85 ?_
          refine r_goto (pc := 86) (tgt := 90) (by decide) hG dX12_rests_86 ?_
          exact r_sub [0, 1, 2, 3, 4, 5, 7] rfl hG (w_Mo_rests_J90 N hG hK20 v1 v2 v3 v4 v5 v7 1 rvN_b1)
set_option maxRecDepth 4000 in
theorem w_Mo_rests_L20 {σ : St} {X : Cx} {G : GT Int32} (N : Nat) (hG : IsG X RX12 cX12_rests 8 4 (some .boolean) (oI σ) G) : ∀ (n : Nat), ∀ (v1 : Int32) (v2 : Int32) (v3 : Int32) (v4 : Int32) (v5 : Int32) (v6 : Int32) (v7 : Int32), rvN (some .boolean) (some (.int v6)) → G (Mo_rests_L20 N n v1 v2 v3 v4 v5 v6 v7 σ) σ 20 [(0, .ref (X.2.1 + 114)), (1, .int v1), (2, .int v2), (3, .int v3), (4, .int v4), (5, .int v5), (6, .int v6), (7, .int v7)] [] := by
  intro n
  induction n with
  | zero => intro v1 v2 v3 v4 v5 v6 v7 hv6; exact r_none hG
  | succ n ih => intro v1 v2 v3 v4 v5 v6 v7 hv6; exact w_Mo_rests_L20B N hG ih v1 v2 v3 v4 v5 v6 v7 hv6
set_option maxRecDepth 4000 in
theorem c_Mo_rests (X : Cx) (N : Nat) (v1 : Int32) (v2 : Int32) (v3 : Int32) (v4 : Int32) (σ : St) (r : Int32) (hE : Mo_rests N v1 v2 v3 v4 σ = some r) : Ctr X yX12_rests cX12_rests 8 (some .boolean) 4 [.ref (X.2.1 + 114), .int v1, .int v2, .int v3, .int v4] σ (some (.int r)) σ := by
  refine Ctr.of (out := (oI σ)) (E := Mo_rests N v1 v2 v3 v4 σ) rfl (Nat.le_of_ble_eq_true rfl) (fun G hG => ?_) r hE
  unfold Mo_rests
  refine r_aload_n (pc := 0) 0 0 rfl rfl hG dX12_rests_0 ?_
  refine r_iload_n (pc := 1) 1 1 rfl rfl hG dX12_rests_1 ?_
  refine r_iload_n (pc := 2) 2 2 rfl rfl hG dX12_rests_2 ?_
  refine r_iload_n (pc := 3) 3 3 rfl rfl hG dX12_rests_3 ?_
  refine r_iload (pc := 4) 4 rfl hG dX12_rests_4 ?_
  refine r_callSi (pc := 6) (As := [.int v3, .int v4]) (c_Mo_less X v3 v4 σ) mfX12_75_X12_less hySX12_less (by decide) (by decide) rfl (Nat.le_of_ble_eq_true rfl) hG dX12_rests_6 rfl (fun n2 => ?_)
  refine r_bR hG (fun r4 e6 => ?_)
  refine r_callVi (pc := 9) (As := [.int v1, .int v2, .int (Mo_less v3 v4)]) (c_Mo_hurtAt X N v1 v2 (Mo_less v3 v4) σ r4 e6) (wsOf_at (rfl : shp 114 = 12) (by decide) rfl) rfl mfX12_277_X12_hurtAt hyVX12_hurtAt (by decide) (by decide) rfl (Nat.le_of_ble_eq_true rfl) hG dX12_rests_9 rfl (fun n5 => ?_)
  refine r_istore (pc := 12) (lv' := [(5, .int r4), (0, .ref (X.2.1 + 114)), (1, .int v1), (2, .int v2), (3, .int v3), (4, .int v4)]) (by decide) rfl hG dX12_rests_12 ?_
  refine r_iconst (pc := 14) (v := 1) (by decide) hG dX12_rests_14 ?_
  refine r_istore (pc := 15) (lv' := [(6, .int 1), (5, .int r4), (0, .ref (X.2.1 + 114)), (1, .int v1), (2, .int v2), (3, .int v3), (4, .int v4)]) (by decide) rfl hG dX12_rests_15 ?_
  refine r_iconst (pc := 17) (v := 0) (by decide) hG dX12_rests_17 ?_
  refine r_istore (pc := 18) (lv' := [(7, .int 0), (6, .int 1), (5, .int r4), (0, .ref (X.2.1 + 114)), (1, .int v1), (2, .int v2), (3, .int v3), (4, .int v4)]) (by decide) rfl hG dX12_rests_18 ?_
  exact r_sub [3, 4, 5, 6, 7, 2, 1, 0] rfl hG (w_Mo_rests_L20 N hG N v1 v2 v3 v4 r4 1 0 rvN_b1)
set_option maxRecDepth 4000 in
theorem w_Mo_lamp_J21 {X : Cx} {G : GT (Int32 × St)} (N : Nat) (hG : IsG X RX12 cX12_lamp 7 5 (some .int) oWI G) (σ : St) : G (Mo_lamp_J21 N σ) σ 21 [(0, .ref (X.2.1 + 114))] [] := by
  unfold Mo_lamp_J21
  refine r_aload_n (pc := 21) 0 0 rfl rfl hG dX12_lamp_21 ?_
  refine r_bipush (pc := 22) (v := (-10)) (by decide) hG dX12_lamp_22 ?_
  refine r_bW hG (fun r5 s6 e8 => ?_)
  refine r_callVi (pc := 24) (As := [.int (-10)]) (c_Mo_bad X N (-10) σ r5 s6 e8) (wsOf_at (rfl : shp 114 = 12) (by decide) rfl) rfl mfX12_84_X12_bad hyVX12_bad (by decide) (by decide) rfl (Nat.le_of_ble_eq_true rfl) hG dX12_lamp_24 rfl (fun n7 => ?_)
  exact r_iret (pc := 27) rfl hG dX12_lamp_27
set_option maxRecDepth 4000 in
theorem w_Mo_lamp_J92 {X : Cx} {G : GT (Int32 × St)} (N : Nat) (hG : IsG X RX12 cX12_lamp 7 5 (some .int) oWI G) (v3 : Int32) (v4 : Int32) (σ : St) : G (Mo_lamp_J92 N v3 v4 σ) σ 92 [(3, .int v3), (4, .int v4)] [] := by
  unfold Mo_lamp_J92
  refine r_iload_n (pc := 92) 0 3 rfl rfl hG dX12_lamp_92 ?_
  refine r_if_ge (pc := 93) (tgt := 101) (by decide) hG dX12_lamp_93 (fun h15 => ?_) (fun h15 => ?_)
  · refine r_bipush (pc := 101) (v := (-5)) (by decide) hG dX12_lamp_101 ?_
    exact r_iret (pc := 103) rfl hG dX12_lamp_103
  · refine r_iload (pc := 96) 1 rfl hG dX12_lamp_96 ?_
    refine r_goto (pc := 98) (tgt := 103) (by decide) hG dX12_lamp_98 ?_
    exact r_iret (pc := 103) rfl hG dX12_lamp_103
set_option maxRecDepth 4000 in
theorem w_Mo_lamp_J86 {X : Cx} {G : GT (Int32 × St)} (N : Nat) (hG : IsG X RX12 cX12_lamp 7 5 (some .int) oWI G) {K34 : Int32 → Int32 → Int32 → Int32 → Int32 → St → Option (Int32 × St)} (hK34 : ∀ (v1 : Int32) (v2 : Int32) (v3 : Int32) (v4 : Int32) (v5 : Int32) (s : St), G (K34 v1 v2 v3 v4 v5 s) s 34 [(0, .ref (X.2.1 + 114)), (1, .int v1), (2, .int v2), (3, .int v3), (4, .int v4), (5, .int v5)] []) (v1 : Int32) (v2 : Int32) (v3 : Int32) (v4 : Int32) (v5 : Int32) (σ : St) : G (Mo_lamp_J86 N K34 v1 v2 v3 v4 v5 σ) σ 86 [(0, .ref (X.2.1 + 114)), (1, .int v1), (2, .int v2), (3, .int v3), (4, .int v4), (5, .int v5)] [] := by
  unfold Mo_lamp_J86
  refine r_bIinc (pc := 86) (lv' := fun x17 => [(5, .int x17), (0, .ref (X.2.1 + 114)), (1, .int v1), (2, .int v2), (3, .int v3), (4, .int v4)]) 5 rfl rfl (by decide) (fun _ => rfl) hG dX12_lamp_86 (fun x17 => ?_)
  refine r_goto (pc := 89) (tgt := 34) (by decide) hG dX12_lamp_89 ?_
  exact r_sub [1, 2, 3, 4, 5, 0] rfl hG (hK34 v1 v2 v3 v4 x17 σ)
set_option maxRecDepth 4000 in
theorem w_Mo_lamp_J80 {X : Cx} {G : GT (Int32 × St)} (N : Nat) (hG : IsG X RX12 cX12_lamp 7 5 (some .int) oWI G) {K34 : Int32 → Int32 → Int32 → Int32 → Int32 → St → Option (Int32 × St)} {K43 : Int32 → Int32 → Int32 → Int32 → Int32 → Int32 → St → Option (Int32 × St)} (hK34 : ∀ (v1 : Int32) (v2 : Int32) (v3 : Int32) (v4 : Int32) (v5 : Int32) (s : St), G (K34 v1 v2 v3 v4 v5 s) s 34 [(0, .ref (X.2.1 + 114)), (1, .int v1), (2, .int v2), (3, .int v3), (4, .int v4), (5, .int v5)] []) (hK43 : ∀ (v1 : Int32) (v2 : Int32) (v3 : Int32) (v4 : Int32) (v5 : Int32) (v6 : Int32) (s : St), G (K43 v1 v2 v3 v4 v5 v6 s) s 43 [(0, .ref (X.2.1 + 114)), (1, .int v1), (2, .int v2), (3, .int v3), (4, .int v4), (5, .int v5), (6, .int v6)] []) (v1 : Int32) (v2 : Int32) (v3 : Int32) (v4 : Int32) (v5 : Int32) (v6 : Int32) (σ : St) : G (Mo_lamp_J80 N K34 K43 v1 v2 v3 v4 v5 v6 σ) σ 80 [(0, .ref (X.2.1 + 114)), (1, .int v1), (2, .int v2), (3, .int v3), (4, .int v4), (5, .int v5), (6, .int v6)] [] := by
  unfold Mo_lamp_J80
  refine r_bIinc (pc := 80) (lv' := fun x22 => [(6, .int x22), (0, .ref (X.2.1 + 114)), (1, .int v1), (2, .int v2), (3, .int v3), (4, .int v4), (5, .int v5)]) 6 rfl rfl (by decide) (fun _ => rfl) hG dX12_lamp_80 (fun x22 => ?_)
  refine r_goto (pc := 83) (tgt := 43) (by decide) hG dX12_lamp_83 ?_
  exact r_sub [1, 2, 3, 4, 5, 6, 0] rfl hG (hK43 v1 v2 v3 v4 v5 x22 σ)
set_option maxRecDepth 4000 in
theorem w_Mo_lamp_J68 {X : Cx} {G : GT (Int32 × St)} (N : Nat) (hG : IsG X RX12 cX12_lamp 7 5 (some .int) oWI G) (v5 : Int32) (v6 : Int32) (σ : St) : G (Mo_lamp_J68 N v5 v6 σ) σ 68 [(5, .int v5), (6, .int v6)] [] := by
  unfold Mo_lamp_J68
  refine r_bipush (pc := 68) (v := 10) (by decide) hG dX12_lamp_68 ?_
  refine r_iload (pc := 70) 0 rfl hG dX12_lamp_70 ?_
  refine r_imul (pc := 72) hG dX12_lamp_72 ?_
  refine r_iload (pc := 73) 1 rfl hG dX12_lamp_73 ?_
  refine r_iadd (pc := 75) hG dX12_lamp_75 ?_
  exact r_iret (pc := 76) rfl hG dX12_lamp_76
set_option maxRecDepth 4000 in
theorem w_Mo_lamp_L43B {X : Cx} {G : GT (Int32 × St)} (N : Nat) (hG : IsG X RX12 cX12_lamp 7 5 (some .int) oWI G) {K34 : Int32 → Int32 → Int32 → Int32 → Int32 → St → Option (Int32 × St)} {K43 : Int32 → Int32 → Int32 → Int32 → Int32 → Int32 → St → Option (Int32 × St)} (hK34 : ∀ (v1 : Int32) (v2 : Int32) (v3 : Int32) (v4 : Int32) (v5 : Int32) (s : St), G (K34 v1 v2 v3 v4 v5 s) s 34 [(0, .ref (X.2.1 + 114)), (1, .int v1), (2, .int v2), (3, .int v3), (4, .int v4), (5, .int v5)] []) (hK43 : ∀ (v1 : Int32) (v2 : Int32) (v3 : Int32) (v4 : Int32) (v5 : Int32) (v6 : Int32) (s : St), G (K43 v1 v2 v3 v4 v5 v6 s) s 43 [(0, .ref (X.2.1 + 114)), (1, .int v1), (2, .int v2), (3, .int v3), (4, .int v4), (5, .int v5), (6, .int v6)] []) (v1 : Int32) (v2 : Int32) (v3 : Int32) (v4 : Int32) (v5 : Int32) (v6 : Int32) (σ : St) : G (Mo_lamp_L43B N K34 K43 v1 v2 v3 v4 v5 v6 σ) σ 43 [(0, .ref (X.2.1 + 114)), (1, .int v1), (2, .int v2), (3, .int v3), (4, .int v4), (5, .int v5), (6, .int v6)] [] := by
  unfold Mo_lamp_L43B
  refine r_iload (pc := 43) 6 rfl hG dX12_lamp_43 ?_
  refine r_iconst (pc := 45) (v := 4) (by decide) hG dX12_lamp_45 ?_
  refine r_icmp_ge (pc := 46) (tgt := 86) (by decide) hG dX12_lamp_46 (fun h16 => ?_) (fun h16 => ?_)
  · exact r_sub [0, 1, 2, 3, 4, 5] rfl hG (w_Mo_lamp_J86 N hG hK34 v1 v2 v3 v4 v5 σ)
  · refine r_aload_n (pc := 49) 0 0 rfl rfl hG dX12_lamp_49 ?_
    refine r_iload_n (pc := 50) 1 1 rfl rfl hG dX12_lamp_50 ?_
    refine r_iload_n (pc := 51) 2 2 rfl rfl hG dX12_lamp_51 ?_
    refine r_iload (pc := 52) 5 rfl hG dX12_lamp_52 ?_
    refine r_iload (pc := 54) 6 rfl hG dX12_lamp_54 ?_
    refine r_bR hG (fun r18 e20 => ?_)
    refine r_callVi (pc := 56) (As := [.int v1, .int v2, .int v5, .int v6]) (c_Mo_rests X N v1 v2 v5 v6 σ r18 e20) (wsOf_at (rfl : shp 114 = 12) (by decide) rfl) rfl mfX12_281_X12_rests hyVX12_rests (by decide) (by decide) rfl (Nat.le_of_ble_eq_true rfl) hG dX12_lamp_56 rfl (fun n19 => ?_)
    refine r_if_eq (pc := 59) (tgt := 80) (by decide) hG dX12_lamp_59 (fun h21 => ?_) (fun h21 => ?_)
    · exact w_Mo_lamp_J80 N hG hK34 hK43 v1 v2 v3 v4 v5 v6 σ
    · refine r_iload (pc := 62) 4 rfl hG dX12_lamp_62 ?_
      refine r_iload_n (pc := 64) 3 3 rfl rfl hG dX12_lamp_64 ?_
      refine r_icmp_ne (pc := 65) (tgt := 77) (by decide) hG dX12_lamp_65 (fun h23 => ?_) (fun h23 => ?_)
      · refine r_bIinc (pc := 77) (lv' := fun x24 => [(4, .int x24), (0, .ref (X.2.1 + 114)), (1, .int v1), (2, .int v2), (3, .int v3), (5, .int v5), (6, .int v6)]) 4 rfl rfl (by decide) (fun _ => rfl) hG dX12_lamp_77 (fun x24 => ?_)
        exact r_sub [1, 2, 3, 4, 0, 5, 6] rfl hG (w_Mo_lamp_J80 N hG hK34 hK43 v1 v2 v3 x24 v5 v6 σ)
      · exact r_sub [5, 6] rfl hG (w_Mo_lamp_J68 N hG v5 v6 σ)
set_option maxRecDepth 4000 in
theorem w_Mo_lamp_L43 {X : Cx} {G : GT (Int32 × St)} (N : Nat) (hG : IsG X RX12 cX12_lamp 7 5 (some .int) oWI G) {K34 : Int32 → Int32 → Int32 → Int32 → Int32 → St → Option (Int32 × St)} (hK34 : ∀ (v1 : Int32) (v2 : Int32) (v3 : Int32) (v4 : Int32) (v5 : Int32) (s : St), G (K34 v1 v2 v3 v4 v5 s) s 34 [(0, .ref (X.2.1 + 114)), (1, .int v1), (2, .int v2), (3, .int v3), (4, .int v4), (5, .int v5)] []) : ∀ (n : Nat), ∀ (v1 : Int32) (v2 : Int32) (v3 : Int32) (v4 : Int32) (v5 : Int32) (v6 : Int32) (σ : St), G (Mo_lamp_L43 N K34 n v1 v2 v3 v4 v5 v6 σ) σ 43 [(0, .ref (X.2.1 + 114)), (1, .int v1), (2, .int v2), (3, .int v3), (4, .int v4), (5, .int v5), (6, .int v6)] [] := by
  intro n
  induction n with
  | zero => intro v1 v2 v3 v4 v5 v6 σ; exact r_none hG
  | succ n ih => intro v1 v2 v3 v4 v5 v6 σ; exact w_Mo_lamp_L43B N hG hK34 ih v1 v2 v3 v4 v5 v6 σ
set_option maxRecDepth 4000 in
theorem w_Mo_lamp_L34B {X : Cx} {G : GT (Int32 × St)} (N : Nat) (hG : IsG X RX12 cX12_lamp 7 5 (some .int) oWI G) {K34 : Int32 → Int32 → Int32 → Int32 → Int32 → St → Option (Int32 × St)} (hK34 : ∀ (v1 : Int32) (v2 : Int32) (v3 : Int32) (v4 : Int32) (v5 : Int32) (s : St), G (K34 v1 v2 v3 v4 v5 s) s 34 [(0, .ref (X.2.1 + 114)), (1, .int v1), (2, .int v2), (3, .int v3), (4, .int v4), (5, .int v5)] []) (v1 : Int32) (v2 : Int32) (v3 : Int32) (v4 : Int32) (v5 : Int32) (σ : St) : G (Mo_lamp_L34B N K34 v1 v2 v3 v4 v5 σ) σ 34 [(0, .ref (X.2.1 + 114)), (1, .int v1), (2, .int v2), (3, .int v3), (4, .int v4), (5, .int v5)] [] := by
  unfold Mo_lamp_L34B
  refine r_iload (pc := 34) 5 rfl hG dX12_lamp_34 ?_
  refine r_iconst (pc := 36) (v := 4) (by decide) hG dX12_lamp_36 ?_
  refine r_icmp_ge (pc := 37) (tgt := 92) (by decide) hG dX12_lamp_37 (fun h14 => ?_) (fun h14 => ?_)
  · exact r_sub [3, 4] rfl hG (w_Mo_lamp_J92 N hG v3 v4 σ)
  · refine r_iconst (pc := 40) (v := 0) (by decide) hG dX12_lamp_40 ?_
    refine r_istore (pc := 41) (lv' := [(6, .int 0), (0, .ref (X.2.1 + 114)), (1, .int v1), (2, .int v2), (3, .int v3), (4, .int v4), (5, .int v5)]) (by decide) rfl hG dX12_lamp_41 ?_
    exact r_sub [1, 2, 3, 4, 5, 6, 0] rfl hG (w_Mo_lamp_L43 N hG hK34 N v1 v2 v3 v4 v5 0 σ)
set_option maxRecDepth 4000 in
theorem w_Mo_lamp_L34 {X : Cx} {G : GT (Int32 × St)} (N : Nat) (hG : IsG X RX12 cX12_lamp 7 5 (some .int) oWI G) : ∀ (n : Nat), ∀ (v1 : Int32) (v2 : Int32) (v3 : Int32) (v4 : Int32) (v5 : Int32) (σ : St), G (Mo_lamp_L34 N n v1 v2 v3 v4 v5 σ) σ 34 [(0, .ref (X.2.1 + 114)), (1, .int v1), (2, .int v2), (3, .int v3), (4, .int v4), (5, .int v5)] [] := by
  intro n
  induction n with
  | zero => intro v1 v2 v3 v4 v5 σ; exact r_none hG
  | succ n ih => intro v1 v2 v3 v4 v5 σ; exact w_Mo_lamp_L34B N hG ih v1 v2 v3 v4 v5 σ
set_option maxRecDepth 4000 in
theorem c_Mo_lamp (X : Cx) (N : Nat) (v1 : Int32) (v2 : Int32) (v3 : Int32) (σ : St) (r : Int32) (σ1 : St) (hE : Mo_lamp N v1 v2 v3 σ = some (r, σ1)) : Ctr X yX12_lamp cX12_lamp 7 (some .int) 5 [.ref (X.2.1 + 114), .int v1, .int v2, .int v3] σ (some (.int r)) σ1 := by
  refine Ctr.of (out := oWI) (E := Mo_lamp N v1 v2 v3 σ) rfl (Nat.le_of_ble_eq_true rfl) (fun G hG => ?_) (r, σ1) hE
  unfold Mo_lamp
  refine r_aload_n (pc := 0) 0 0 rfl rfl hG dX12_lamp_0 ?_
  refine r_iload_n (pc := 1) 1 1 rfl rfl hG dX12_lamp_1 ?_
  refine r_bR hG (fun r1 e3 => ?_)
  refine r_callVi (pc := 2) (As := [.int v1]) (c_Mo_isGuest X N v1 σ r1 e3) (wsOf_at (rfl : shp 114 = 12) (by decide) rfl) rfl mfX12_190_X12_isGuest hyVX12_isGuest (by decide) (by decide) rfl (Nat.le_of_ble_eq_true rfl) hG dX12_lamp_2 rfl (fun n2 => ?_)
  refine r_if_eq (pc := 5) (tgt := 21) (by decide) hG dX12_lamp_5 (fun h4 => ?_) (fun h4 => ?_)
  · exact r_sub [0] rfl hG (w_Mo_lamp_J21 N hG σ)
  · refine r_aload_n (pc := 8) 0 0 rfl rfl hG dX12_lamp_8 ?_
    refine r_iload_n (pc := 9) 2 2 rfl rfl hG dX12_lamp_9 ?_
    refine r_bR hG (fun r9 e11 => ?_)
    refine r_callVi (pc := 10) (As := [.int v2]) (c_Mo_isRower X N v2 σ r9 e11) (wsOf_at (rfl : shp 114 = 12) (by decide) rfl) rfl mfX12_193_X12_isRower hyVX12_isRower (by decide) (by decide) rfl (Nat.le_of_ble_eq_true rfl) hG dX12_lamp_10 rfl (fun n10 => ?_)
    refine r_if_eq (pc := 13) (tgt := 21) (by decide) hG dX12_lamp_13 (fun h12 => ?_) (fun h12 => ?_)
    · exact r_sub [0] rfl hG (w_Mo_lamp_J21 N hG σ)
    · refine r_iload_n (pc := 16) 3 3 rfl rfl hG dX12_lamp_16 ?_
      refine r_iconst (pc := 17) (v := (-1)) (by decide) hG dX12_lamp_17 ?_
      refine r_icmp_ge (pc := 18) (tgt := 28) (by decide) hG dX12_lamp_18 (fun h13 => ?_) (fun h13 => ?_)
      · refine r_iconst (pc := 28) (v := 0) (by decide) hG dX12_lamp_28 ?_
        refine r_istore (pc := 29) (lv' := [(4, .int 0), (0, .ref (X.2.1 + 114)), (1, .int v1), (2, .int v2), (3, .int v3)]) (by decide) rfl hG dX12_lamp_29 ?_
        refine r_iconst (pc := 31) (v := 0) (by decide) hG dX12_lamp_31 ?_
        refine r_istore (pc := 32) (lv' := [(5, .int 0), (4, .int 0), (0, .ref (X.2.1 + 114)), (1, .int v1), (2, .int v2), (3, .int v3)]) (by decide) rfl hG dX12_lamp_32 ?_
        exact r_sub [2, 3, 4, 5, 1, 0] rfl hG (w_Mo_lamp_L34 N hG N v1 v2 v3 0 0 σ)
      · exact r_sub [0] rfl hG (w_Mo_lamp_J21 N hG σ)
set_option maxRecDepth 4000 in
theorem w_Mo_tellsPart_J31 {X : Cx} {G : GT St} (N : Nat) (hG : IsG X RX12 cX12_tellsPart 11 1 none oWV G) (v1 : Int64) (v3 : Int64) (v5 : Int64) (σ : St) : G (Mo_tellsPart_J31 N v1 v3 v5 σ) σ 31 [(0, .ref (X.2.1 + 114)), (1, .long v1), (3, .long v3), (5, .long v5)] [] := by
  unfold Mo_tellsPart_J31
  refine r_aload_n (pc := 31) 0 0 rfl rfl hG dX12_tellsPart_31 ?_
  refine r_lload_n (pc := 32) 1 1 rfl rfl hG dX12_tellsPart_32 ?_
  refine r_lload (pc := 33) 3 rfl hG dX12_tellsPart_33 ?_
  refine r_chkN hG (fun h2 => ?_)
  refine r_ldiv (pc := 35) h2 hG dX12_tellsPart_35 ?_
  refine pf12_6 (pc := 36) lk1137 hG dX12_tellsPart_36 ?_
  refine r_bS hG (fun s3 => ?_)
  refine r_aload_n (pc := 39) 0 0 rfl rfl hG dX12_tellsPart_39 ?_
  refine r_lload_n (pc := 40) 2 3 rfl rfl hG dX12_tellsPart_40 ?_
  refine r_lload (pc := 41) 3 rfl hG dX12_tellsPart_41 ?_
  refine r_chkN hG (fun h4 => ?_)
  refine r_ldiv (pc := 43) h4 hG dX12_tellsPart_43 ?_
  refine pf12_7 (pc := 44) lk1138 hG dX12_tellsPart_44 ?_
  refine r_bS hG (fun s5 => ?_)
  exact r_vret (pc := 47) rfl hG dX12_tellsPart_47
set_option maxRecDepth 4000 in
theorem w_Mo_tellsPart_L6B {X : Cx} {G : GT St} (N : Nat) (hG : IsG X RX12 cX12_tellsPart 11 1 none oWV G) {K6 : Int64 → Int64 → Int64 → Int64 → St → Option St} (hK6 : ∀ (v1 : Int64) (v3 : Int64) (v5 : Int64) (v7 : Int64) (s : St), G (K6 v1 v3 v5 v7 s) s 6 [(0, .ref (X.2.1 + 114)), (1, .long v1), (3, .long v3), (5, .long v5), (7, .long v7)] []) (v1 : Int64) (v3 : Int64) (v5 : Int64) (v7 : Int64) (σ : St) : G (Mo_tellsPart_L6B N K6 v1 v3 v5 v7 σ) σ 6 [(0, .ref (X.2.1 + 114)), (1, .long v1), (3, .long v3), (5, .long v5), (7, .long v7)] [] := by
  unfold Mo_tellsPart_L6B
  refine r_lload (pc := 6) 4 rfl hG dX12_tellsPart_6 ?_
  refine r_lconst (pc := 8) (v := 0) (by decide) hG dX12_tellsPart_8 ?_
  refine r_lcmp (pc := 9) hG dX12_tellsPart_9 ?_
  refine r_if_eq (pc := 10) (tgt := 31) (by decide) hG dX12_tellsPart_10 (fun h1 => ?_) (fun h1 => ?_)
  · exact r_sub [0, 1, 2, 3] rfl hG (w_Mo_tellsPart_J31 N hG v1 v3 v5 σ)
  · refine r_lload (pc := 13) 3 rfl hG dX12_tellsPart_13 ?_
    refine r_lload (pc := 15) 4 rfl hG dX12_tellsPart_15 ?_
    refine r_chkN hG (fun h6 => ?_)
    refine r_lrem (pc := 17) h6 hG dX12_tellsPart_17 ?_
    refine r_bL hG (fun x7 => ?_)
    refine r_lstore (pc := 18) (lv' := [(9, .long x7), (0, .ref (X.2.1 + 114)), (1, .long v1), (3, .long v3), (5, .long v5), (7, .long v7)]) (by decide) rfl hG dX12_tellsPart_18 ?_
    refine r_lload (pc := 20) 5 rfl hG dX12_tellsPart_20 ?_
    refine r_lstore (pc := 22) (lv' := [(5, .long v7), (9, .long x7), (0, .ref (X.2.1 + 114)), (1, .long v1), (3, .long v3), (7, .long v7)]) (by decide) rfl hG dX12_tellsPart_22 ?_
    refine r_lload (pc := 24) 1 rfl hG dX12_tellsPart_24 ?_
    refine r_lstore (pc := 26) (lv' := [(7, .long x7), (5, .long v7), (9, .long x7), (0, .ref (X.2.1 + 114)), (1, .long v1), (3, .long v3)]) (by decide) rfl hG dX12_tellsPart_26 ?_
    refine r_goto (pc := 28) (tgt := 6) (by decide) hG dX12_tellsPart_28 ?_
    exact r_sub [3, 4, 5, 1, 0] rfl hG (hK6 v1 v3 v7 x7 σ)
set_option maxRecDepth 4000 in
theorem w_Mo_tellsPart_L6 {X : Cx} {G : GT St} (N : Nat) (hG : IsG X RX12 cX12_tellsPart 11 1 none oWV G) : ∀ (n : Nat), ∀ (v1 : Int64) (v3 : Int64) (v5 : Int64) (v7 : Int64) (σ : St), G (Mo_tellsPart_L6 N n v1 v3 v5 v7 σ) σ 6 [(0, .ref (X.2.1 + 114)), (1, .long v1), (3, .long v3), (5, .long v5), (7, .long v7)] [] := by
  intro n
  induction n with
  | zero => intro v1 v3 v5 v7 σ; exact r_none hG
  | succ n ih => intro v1 v3 v5 v7 σ; exact w_Mo_tellsPart_L6B N hG ih v1 v3 v5 v7 σ
set_option maxRecDepth 4000 in
theorem c_Mo_tellsPart (X : Cx) (N : Nat) (v1 : Int64) (v3 : Int64) (σ : St) (σ1 : St) (hE : Mo_tellsPart N v1 v3 σ = some σ1) : Ctr X yX12_tellsPart cX12_tellsPart 11 none 1 [.ref (X.2.1 + 114), .long v1, .long v3] σ none σ1 := by
  refine Ctr.of (out := oWV) (E := Mo_tellsPart N v1 v3 σ) rfl (Nat.le_of_ble_eq_true rfl) (fun G hG => ?_) σ1 hE
  unfold Mo_tellsPart
  refine r_lload_n (pc := 0) 1 1 rfl rfl hG dX12_tellsPart_0 ?_
  refine r_lstore (pc := 1) (lv' := [(5, .long v1), (0, .ref (X.2.1 + 114)), (1, .long v1), (3, .long v3)]) (by decide) rfl hG dX12_tellsPart_1 ?_
  refine r_lload_n (pc := 3) 3 3 rfl rfl hG dX12_tellsPart_3 ?_
  refine r_lstore (pc := 4) (lv' := [(7, .long v3), (5, .long v1), (0, .ref (X.2.1 + 114)), (1, .long v1), (3, .long v3)]) (by decide) rfl hG dX12_tellsPart_4 ?_
  exact r_sub [2, 3, 4, 1, 0] rfl hG (w_Mo_tellsPart_L6 N hG N v1 v3 v1 v3 σ)
set_option maxRecDepth 4000 in
theorem w_Mo_weighs_J179 {X : Cx} {G : GT (Int32 × St)} (N : Nat) (hG : IsG X RX12 cX12_weighs 13 5 (some .int) oWI G) (v5 : Int64) (v7 : Int64) (σ : St) : G (Mo_weighs_J179 N v5 v7 σ) σ 179 [(0, .ref (X.2.1 + 114)), (5, .long v5), (7, .long v7)] [] := by
  unfold Mo_weighs_J179
  refine r_aload_n (pc := 179) 0 0 rfl rfl hG dX12_weighs_179 ?_
  refine r_lload (pc := 180) 1 rfl hG dX12_weighs_180 ?_
  refine r_lload (pc := 182) 2 rfl hG dX12_weighs_182 ?_
  refine r_bR hG (fun s4 e6 => ?_)
  refine r_callVv (pc := 184) (As := [.long v5, .long v7]) (c_Mo_tellsPart X N v5 v7 σ s4 e6) (wsOf_at (rfl : shp 114 = 12) (by decide) rfl) rfl mfX12_290_X12_tellsPart hyVX12_tellsPart (by decide) (by decide) rfl (Nat.le_of_ble_eq_true rfl) hG dX12_weighs_184 rfl (fun n5 => ?_)
  refine r_iconst (pc := 187) (v := 1) (by decide) hG dX12_weighs_187 ?_
  exact r_iret (pc := 188) rfl hG dX12_weighs_188
set_option maxRecDepth 4000 in
theorem w_Mo_weighs_J170 {X : Cx} {G : GT (Int32 × St)} (N : Nat) (hG : IsG X RX12 cX12_weighs 13 5 (some .int) oWI G) {K35 : Int32 → Int32 → Int32 → Int32 → Int64 → Int64 → Int32 → St → Option (Int32 × St)} (hK35 : ∀ (v1 : Int32) (v2 : Int32) (v3 : Int32) (v4 : Int32) (v5 : Int64) (v7 : Int64) (v9 : Int32) (s : St), G (K35 v1 v2 v3 v4 v5 v7 v9 s) s 35 [(0, .ref (X.2.1 + 114)), (1, .int v1), (2, .int v2), (3, .int v3), (4, .int v4), (5, .long v5), (7, .long v7), (9, .int v9)] []) (v1 : Int32) (v2 : Int32) (v3 : Int32) (v4 : Int32) (v7 : Int64) (v9 : Int32) (w0 : Int64) (w1 : Int64) (σ : St) : G (Mo_weighs_J170 N K35 v1 v2 v3 v4 v7 v9 w0 w1 σ) σ 170 [(0, .ref (X.2.1 + 114)), (1, .int v1), (2, .int v2), (3, .int v3), (4, .int v4), (7, .long v7), (9, .int v9)] [.long w1, .long w0] := by
  unfold Mo_weighs_J170
  refine r_ladd (pc := 170) hG dX12_weighs_170 ?_
  refine r_bL hG (fun x15 => ?_)
  refine r_lstore (pc := 171) (lv' := [(5, .long x15), (0, .ref (X.2.1 + 114)), (1, .int v1), (2, .int v2), (3, .int v3), (4, .int v4), (7, .long v7), (9, .int v9)]) (by decide) rfl hG dX12_weighs_171 ?_
  refine r_bIinc (pc := 173) (lv' := fun x16 => [(9, .int x16), (5, .long x15), (0, .ref (X.2.1 + 114)), (1, .int v1), (2, .int v2), (3, .int v3), (4, .int v4), (7, .long v7)]) 7 rfl rfl (by decide) (fun _ => rfl) hG dX12_weighs_173 (fun x16 => ?_)
  refine r_goto (pc := 176) (tgt := 35) (by decide) hG dX12_weighs_176 ?_
  exact r_sub [2, 3, 4, 5, 6, 1, 7, 0] rfl hG (hK35 v1 v2 v3 v4 x15 v7 x16 σ)
set_option maxRecDepth 4000 in
theorem w_Mo_weighs_J129 {X : Cx} {G : GT (Int32 × St)} (N : Nat) (hG : IsG X RX12 cX12_weighs 13 5 (some .int) oWI G) {K35 : Int32 → Int32 → Int32 → Int32 → Int64 → Int64 → Int32 → St → Option (Int32 × St)} (hK35 : ∀ (v1 : Int32) (v2 : Int32) (v3 : Int32) (v4 : Int32) (v5 : Int64) (v7 : Int64) (v9 : Int32) (s : St), G (K35 v1 v2 v3 v4 v5 v7 v9 s) s 35 [(0, .ref (X.2.1 + 114)), (1, .int v1), (2, .int v2), (3, .int v3), (4, .int v4), (5, .long v5), (7, .long v7), (9, .int v9)] []) (v1 : Int32) (v2 : Int32) (v3 : Int32) (v4 : Int32) (v5 : Int64) (v7 : Int64) (v9 : Int32) (v10 : Int64) (σ : St) : G (Mo_weighs_J129 N K35 v1 v2 v3 v4 v5 v7 v9 v10 σ) σ 129 [(0, .ref (X.2.1 + 114)), (1, .int v1), (2, .int v2), (3, .int v3), (4, .int v4), (5, .long v5), (7, .long v7), (9, .int v9), (10, .long v10)] [] := by
  unfold Mo_weighs_J129
  refine r_lload (pc := 129) 5 rfl hG dX12_weighs_129 ?_
  refine r_iload_n (pc := 131) 3 3 rfl rfl hG dX12_weighs_131 ?_
  refine r_if_ge (pc := 132) (tgt := 151) (by decide) hG dX12_weighs_132 (fun h12 => ?_) (fun h12 => ?_)
  · refine r_aload_n (pc := 151) 0 0 rfl rfl hG dX12_weighs_151 ?_
    refine gf12_17 (pc := 152) lk1148 hG dX12_weighs_152 ?_
    refine r_aload_n (pc := 155) 0 0 rfl rfl hG dX12_weighs_155 ?_
    refine gf12_22 (pc := 156) lk1153 hG dX12_weighs_156 ?_
    refine r_ck hG (fun h13 => ?_)
    refine r_iald (pc := 159) (i := 124) (rfl : shp 124 = 14) rfl h13 hG dX12_weighs_159 ?_
    refine r_iload_n (pc := 160) 3 3 rfl rfl hG dX12_weighs_160 ?_
    refine r_icmp_lt (pc := 161) (tgt := 169) (by decide) hG dX12_weighs_161 (fun h14 => ?_) (fun h14 => ?_)
    · refine r_lconst (pc := 169) (v := 0) (by decide) hG dX12_weighs_169 ?_
      exact r_sub [0, 1, 2, 3, 4, 6, 7] rfl hG (w_Mo_weighs_J170 N hG hK35 v1 v2 v3 v4 v7 v9 v5 0 σ)
    · refine r_lload (pc := 164) 8 rfl hG dX12_weighs_164 ?_
      refine r_goto (pc := 166) (tgt := 170) (by decide) hG dX12_weighs_166 ?_
      exact r_sub [0, 1, 2, 3, 4, 6, 7] rfl hG (w_Mo_weighs_J170 N hG hK35 v1 v2 v3 v4 v7 v9 v5 v10 σ)
  · refine r_lload (pc := 135) 8 rfl hG dX12_weighs_135 ?_
    refine r_aload_n (pc := 137) 0 0 rfl rfl hG dX12_weighs_137 ?_
    refine gf12_18 (pc := 138) lk1149 hG dX12_weighs_138 ?_
    refine r_aload_n (pc := 141) 0 0 rfl rfl hG dX12_weighs_141 ?_
    refine gf12_22 (pc := 142) lk1153 hG dX12_weighs_142 ?_
    refine r_ck hG (fun h17 => ?_)
    refine r_iald (pc := 145) (i := 125) (rfl : shp 125 = 14) rfl h17 hG dX12_weighs_145 ?_
    refine r_i2l (pc := 146) hG dX12_weighs_146 ?_
    refine r_lmul (pc := 147) hG dX12_weighs_147 ?_
    refine r_goto (pc := 148) (tgt := 170) (by decide) hG dX12_weighs_148 ?_
    exact r_sub [0, 1, 2, 3, 4, 6, 7] rfl hG (w_Mo_weighs_J170 N hG hK35 v1 v2 v3 v4 v7 v9 v5 (v10 * (((σ.1 125 ((σ.1 114 22)).toNatClampNeg)).toInt64)) σ)
set_option maxRecDepth 4000 in
theorem w_Mo_weighs_J120 {X : Cx} {G : GT (Int32 × St)} (N : Nat) (hG : IsG X RX12 cX12_weighs 13 5 (some .int) oWI G) {K35 : Int32 → Int32 → Int32 → Int32 → Int64 → Int64 → Int32 → St → Option (Int32 × St)} {K57 : Int32 → Int32 → Int32 → Int32 → Int64 → Int64 → Int32 → Int64 → Int32 → St → Option (Int32 × St)} (hK35 : ∀ (v1 : Int32) (v2 : Int32) (v3 : Int32) (v4 : Int32) (v5 : Int64) (v7 : Int64) (v9 : Int32) (s : St), G (K35 v1 v2 v3 v4 v5 v7 v9 s) s 35 [(0, .ref (X.2.1 + 114)), (1, .int v1), (2, .int v2), (3, .int v3), (4, .int v4), (5, .long v5), (7, .long v7), (9, .int v9)] []) (hK57 : ∀ (v1 : Int32) (v2 : Int32) (v3 : Int32) (v4 : Int32) (v5 : Int64) (v7 : Int64) (v9 : Int32) (v10 : Int64) (v12 : Int32) (s : St), G (K57 v1 v2 v3 v4 v5 v7 v9 v10 v12 s) s 57 [(0, .ref (X.2.1 + 114)), (1, .int v1), (2, .int v2), (3, .int v3), (4, .int v4), (5, .long v5), (7, .long v7), (9, .int v9), (10, .long v10), (12, .int v12)] []) (v1 : Int32) (v2 : Int32) (v3 : Int32) (v4 : Int32) (v5 : Int64) (v7 : Int64) (v9 : Int32) (v10 : Int64) (v12 : Int32) (w1 : Int32) (w2 : Int32) (w3 : Int32) (w4 : Int32) (w5 : Int32) (σ : St) : G (Mo_weighs_J120 N K35 K57 v1 v2 v3 v4 v5 v7 v9 v10 v12 w1 w2 w3 w4 w5 σ) σ 120 [(0, .ref (X.2.1 + 114)), (1, .int v1), (2, .int v2), (3, .int v3), (4, .int v4), (5, .long v5), (7, .long v7), (9, .int v9), (10, .long v10), (12, .int v12)] [.int w5, .int w4, .int w3, .int w2, .int w1, .ref (X.2.1 + 114)] := by
  unfold Mo_weighs_J120
  refine r_bR hG (fun s29 e31 => ?_)
  refine r_callVv (pc := 120) (As := [.int w1, .int w2, .int w3, .int w4, .int w5]) (c_Mo_goesOn X N w1 w2 w3 w4 w5 σ s29 e31) (wsOf_at (rfl : shp 114 = 12) (by decide) rfl) rfl mfX12_234_X12_goesOn hyVX12_goesOn (by decide) (by decide) rfl (Nat.le_of_ble_eq_true rfl) hG dX12_weighs_120 rfl (fun n30 => ?_)
  refine r_bIinc (pc := 123) (lv' := fun x32 => [(12, .int x32), (0, .ref (X.2.1 + 114)), (1, .int v1), (2, .int v2), (3, .int v3), (4, .int v4), (5, .long v5), (7, .long v7), (9, .int v9), (10, .long v10)]) 9 rfl rfl (by decide) (fun _ => rfl) hG dX12_weighs_123 (fun x32 => ?_)
  refine r_goto (pc := 126) (tgt := 57) (by decide) hG dX12_weighs_126 ?_
  exact r_sub [1, 2, 3, 4, 5, 6, 7, 8, 9, 0] rfl hG (hK57 v1 v2 v3 v4 v5 v7 v9 v10 x32 s29)
set_option maxRecDepth 4000 in
theorem w_Mo_weighs_J90 {X : Cx} {G : GT (Int32 × St)} (N : Nat) (hG : IsG X RX12 cX12_weighs 13 5 (some .int) oWI G) {K35 : Int32 → Int32 → Int32 → Int32 → Int64 → Int64 → Int32 → St → Option (Int32 × St)} {K57 : Int32 → Int32 → Int32 → Int32 → Int64 → Int64 → Int32 → Int64 → Int32 → St → Option (Int32 × St)} (hK35 : ∀ (v1 : Int32) (v2 : Int32) (v3 : Int32) (v4 : Int32) (v5 : Int64) (v7 : Int64) (v9 : Int32) (s : St), G (K35 v1 v2 v3 v4 v5 v7 v9 s) s 35 [(0, .ref (X.2.1 + 114)), (1, .int v1), (2, .int v2), (3, .int v3), (4, .int v4), (5, .long v5), (7, .long v7), (9, .int v9)] []) (hK57 : ∀ (v1 : Int32) (v2 : Int32) (v3 : Int32) (v4 : Int32) (v5 : Int64) (v7 : Int64) (v9 : Int32) (v10 : Int64) (v12 : Int32) (s : St), G (K57 v1 v2 v3 v4 v5 v7 v9 v10 v12 s) s 57 [(0, .ref (X.2.1 + 114)), (1, .int v1), (2, .int v2), (3, .int v3), (4, .int v4), (5, .long v5), (7, .long v7), (9, .int v9), (10, .long v10), (12, .int v12)] []) (v1 : Int32) (v2 : Int32) (v3 : Int32) (v4 : Int32) (v5 : Int64) (v7 : Int64) (v9 : Int32) (v12 : Int32) (w0 : Int64) (w1 : Int64) (σ : St) : G (Mo_weighs_J90 N K35 K57 v1 v2 v3 v4 v5 v7 v9 v12 w0 w1 σ) σ 90 [(0, .ref (X.2.1 + 114)), (1, .int v1), (2, .int v2), (3, .int v3), (4, .int v4), (5, .long v5), (7, .long v7), (9, .int v9), (12, .int v12)] [.long w1, .long w0] := by
  unfold Mo_weighs_J90
  refine r_lmul (pc := 90) hG dX12_weighs_90 ?_
  refine r_bL hG (fun x22 => ?_)
  refine r_lstore (pc := 91) (lv' := [(10, .long x22), (0, .ref (X.2.1 + 114)), (1, .int v1), (2, .int v2), (3, .int v3), (4, .int v4), (5, .long v5), (7, .long v7), (9, .int v9), (12, .int v12)]) (by decide) rfl hG dX12_weighs_91 ?_
  refine r_aload_n (pc := 93) 1 0 rfl rfl hG dX12_weighs_93 ?_
  refine r_iload_n (pc := 94) 2 1 rfl rfl hG dX12_weighs_94 ?_
  refine r_iload_n (pc := 95) 3 2 rfl rfl hG dX12_weighs_95 ?_
  refine r_iload (pc := 96) 9 rfl hG dX12_weighs_96 ?_
  refine r_aload_n (pc := 98) 1 0 rfl rfl hG dX12_weighs_98 ?_
  refine gf12_23 (pc := 99) lk1154 hG dX12_weighs_99 ?_
  refine r_iload (pc := 102) 9 rfl hG dX12_weighs_102 ?_
  refine r_ck hG (fun h23 => ?_)
  refine r_iald (pc := 104) (i := 129) (rfl : shp 129 = 14) rfl h23 hG dX12_weighs_104 ?_
  refine r_iload (pc := 105) 8 rfl hG dX12_weighs_105 ?_
  refine r_iload (pc := 107) 9 rfl hG dX12_weighs_107 ?_
  refine r_callSi (pc := 109) (As := [.int v9, .int v12]) (c_Mo_has X v9 v12 σ) mfX12_231_X12_has hySX12_has (by decide) (by decide) rfl (Nat.le_of_ble_eq_true rfl) hG dX12_weighs_109 rfl (fun n25 => ?_)
  refine r_if_ne (pc := 112) (tgt := 119) (by decide) hG dX12_weighs_112 (fun h27 => ?_) (fun h27 => ?_)
  · refine r_iconst (pc := 119) (v := 0) (by decide) hG dX12_weighs_119 ?_
    exact r_sub [1, 2, 3, 4, 5, 6, 7, 8, 0, 9] rfl hG (w_Mo_weighs_J120 N hG hK35 hK57 v1 v2 v3 v4 v5 v7 v9 x22 v12 v1 v2 v12 (σ.1 129 (v12).toNatClampNeg) 0 σ)
  · refine r_iconst (pc := 115) (v := 1) (by decide) hG dX12_weighs_115 ?_
    refine r_goto (pc := 116) (tgt := 120) (by decide) hG dX12_weighs_116 ?_
    exact r_sub [1, 2, 3, 4, 5, 6, 7, 8, 0, 9] rfl hG (w_Mo_weighs_J120 N hG hK35 hK57 v1 v2 v3 v4 v5 v7 v9 x22 v12 v1 v2 v12 (σ.1 129 (v12).toNatClampNeg) 1 σ)
set_option maxRecDepth 4000 in
theorem w_Mo_weighs_L57B {X : Cx} {G : GT (Int32 × St)} (N : Nat) (hG : IsG X RX12 cX12_weighs 13 5 (some .int) oWI G) {K35 : Int32 → Int32 → Int32 → Int32 → Int64 → Int64 → Int32 → St → Option (Int32 × St)} {K57 : Int32 → Int32 → Int32 → Int32 → Int64 → Int64 → Int32 → Int64 → Int32 → St → Option (Int32 × St)} (hK35 : ∀ (v1 : Int32) (v2 : Int32) (v3 : Int32) (v4 : Int32) (v5 : Int64) (v7 : Int64) (v9 : Int32) (s : St), G (K35 v1 v2 v3 v4 v5 v7 v9 s) s 35 [(0, .ref (X.2.1 + 114)), (1, .int v1), (2, .int v2), (3, .int v3), (4, .int v4), (5, .long v5), (7, .long v7), (9, .int v9)] []) (hK57 : ∀ (v1 : Int32) (v2 : Int32) (v3 : Int32) (v4 : Int32) (v5 : Int64) (v7 : Int64) (v9 : Int32) (v10 : Int64) (v12 : Int32) (s : St), G (K57 v1 v2 v3 v4 v5 v7 v9 v10 v12 s) s 57 [(0, .ref (X.2.1 + 114)), (1, .int v1), (2, .int v2), (3, .int v3), (4, .int v4), (5, .long v5), (7, .long v7), (9, .int v9), (10, .long v10), (12, .int v12)] []) (v1 : Int32) (v2 : Int32) (v3 : Int32) (v4 : Int32) (v5 : Int64) (v7 : Int64) (v9 : Int32) (v10 : Int64) (v12 : Int32) (σ : St) : G (Mo_weighs_L57B N K35 K57 v1 v2 v3 v4 v5 v7 v9 v10 v12 σ) σ 57 [(0, .ref (X.2.1 + 114)), (1, .int v1), (2, .int v2), (3, .int v3), (4, .int v4), (5, .long v5), (7, .long v7), (9, .int v9), (10, .long v10), (12, .int v12)] [] := by
  unfold Mo_weighs_L57B
  refine r_iload (pc := 57) 9 rfl hG dX12_weighs_57 ?_
  refine r_aload_n (pc := 59) 0 0 rfl rfl hG dX12_weighs_59 ?_
  refine gf12_22 (pc := 60) lk1153 hG dX12_weighs_60 ?_
  refine r_icmp_ge (pc := 63) (tgt := 129) (by decide) hG dX12_weighs_63 (fun h11 => ?_) (fun h11 => ?_)
  · exact r_sub [0, 1, 2, 3, 4, 5, 6, 7, 8] rfl hG (w_Mo_weighs_J129 N hG hK35 v1 v2 v3 v4 v5 v7 v9 v10 σ)
  · refine r_lload (pc := 66) 8 rfl hG dX12_weighs_66 ?_
    refine r_iload (pc := 68) 7 rfl hG dX12_weighs_68 ?_
    refine r_iload (pc := 70) 9 rfl hG dX12_weighs_70 ?_
    refine r_callSi (pc := 72) (As := [.int v9, .int v12]) (c_Mo_has X v9 v12 σ) mfX12_231_X12_has hySX12_has (by decide) (by decide) rfl (Nat.le_of_ble_eq_true rfl) hG dX12_weighs_72 rfl (fun n19 => ?_)
    refine r_if_eq (pc := 75) (tgt := 84) (by decide) hG dX12_weighs_75 (fun h21 => ?_) (fun h21 => ?_)
    · refine r_bipush (pc := 84) (v := 10) (by decide) hG dX12_weighs_84 ?_
      refine r_iload (pc := 86) 4 rfl hG dX12_weighs_86 ?_
      refine r_isub (pc := 88) hG dX12_weighs_88 ?_
      refine r_i2l (pc := 89) hG dX12_weighs_89 ?_
      exact r_sub [0, 1, 2, 3, 4, 5, 6, 7, 9] rfl hG (w_Mo_weighs_J90 N hG hK35 hK57 v1 v2 v3 v4 v5 v7 v9 v12 v10 (((10 - v4)).toInt64) σ)
    · refine r_iload (pc := 78) 4 rfl hG dX12_weighs_78 ?_
      refine r_i2l (pc := 80) hG dX12_weighs_80 ?_
      refine r_goto (pc := 81) (tgt := 90) (by decide) hG dX12_weighs_81 ?_
      exact r_sub [0, 1, 2, 3, 4, 5, 6, 7, 9] rfl hG (w_Mo_weighs_J90 N hG hK35 hK57 v1 v2 v3 v4 v5 v7 v9 v12 v10 ((v4).toInt64) σ)
set_option maxRecDepth 4000 in
theorem w_Mo_weighs_L57 {X : Cx} {G : GT (Int32 × St)} (N : Nat) (hG : IsG X RX12 cX12_weighs 13 5 (some .int) oWI G) {K35 : Int32 → Int32 → Int32 → Int32 → Int64 → Int64 → Int32 → St → Option (Int32 × St)} (hK35 : ∀ (v1 : Int32) (v2 : Int32) (v3 : Int32) (v4 : Int32) (v5 : Int64) (v7 : Int64) (v9 : Int32) (s : St), G (K35 v1 v2 v3 v4 v5 v7 v9 s) s 35 [(0, .ref (X.2.1 + 114)), (1, .int v1), (2, .int v2), (3, .int v3), (4, .int v4), (5, .long v5), (7, .long v7), (9, .int v9)] []) : ∀ (n : Nat), ∀ (v1 : Int32) (v2 : Int32) (v3 : Int32) (v4 : Int32) (v5 : Int64) (v7 : Int64) (v9 : Int32) (v10 : Int64) (v12 : Int32) (σ : St), G (Mo_weighs_L57 N K35 n v1 v2 v3 v4 v5 v7 v9 v10 v12 σ) σ 57 [(0, .ref (X.2.1 + 114)), (1, .int v1), (2, .int v2), (3, .int v3), (4, .int v4), (5, .long v5), (7, .long v7), (9, .int v9), (10, .long v10), (12, .int v12)] [] := by
  intro n
  induction n with
  | zero => intro v1 v2 v3 v4 v5 v7 v9 v10 v12 σ; exact r_none hG
  | succ n ih => intro v1 v2 v3 v4 v5 v7 v9 v10 v12 σ; exact w_Mo_weighs_L57B N hG hK35 ih v1 v2 v3 v4 v5 v7 v9 v10 v12 σ
set_option maxRecDepth 4000 in
theorem w_Mo_weighs_L35B {X : Cx} {G : GT (Int32 × St)} (N : Nat) (hG : IsG X RX12 cX12_weighs 13 5 (some .int) oWI G) {K35 : Int32 → Int32 → Int32 → Int32 → Int64 → Int64 → Int32 → St → Option (Int32 × St)} (hK35 : ∀ (v1 : Int32) (v2 : Int32) (v3 : Int32) (v4 : Int32) (v5 : Int64) (v7 : Int64) (v9 : Int32) (s : St), G (K35 v1 v2 v3 v4 v5 v7 v9 s) s 35 [(0, .ref (X.2.1 + 114)), (1, .int v1), (2, .int v2), (3, .int v3), (4, .int v4), (5, .long v5), (7, .long v7), (9, .int v9)] []) (v1 : Int32) (v2 : Int32) (v3 : Int32) (v4 : Int32) (v5 : Int64) (v7 : Int64) (v9 : Int32) (σ : St) : G (Mo_weighs_L35B N K35 v1 v2 v3 v4 v5 v7 v9 σ) σ 35 [(0, .ref (X.2.1 + 114)), (1, .int v1), (2, .int v2), (3, .int v3), (4, .int v4), (5, .long v5), (7, .long v7), (9, .int v9)] [] := by
  unfold Mo_weighs_L35B
  refine r_iload (pc := 35) 7 rfl hG dX12_weighs_35 ?_
  refine r_iconst (pc := 37) (v := 1) (by decide) hG dX12_weighs_37 ?_
  refine r_aload_n (pc := 38) 0 0 rfl rfl hG dX12_weighs_38 ?_
  refine gf12_22 (pc := 39) lk1153 hG dX12_weighs_39 ?_
  refine r_ishl (pc := 42) hG dX12_weighs_42 ?_
  refine r_icmp_ge (pc := 43) (tgt := 179) (by decide) hG dX12_weighs_43 (fun h2 => ?_) (fun h2 => ?_)
  · exact r_sub [0, 5, 6] rfl hG (w_Mo_weighs_J179 N hG v5 v7 σ)
  · refine r_lconst (pc := 46) (v := 1) (by decide) hG dX12_weighs_46 ?_
    refine r_lstore (pc := 47) (lv' := [(10, .long 1), (0, .ref (X.2.1 + 114)), (1, .int v1), (2, .int v2), (3, .int v3), (4, .int v4), (5, .long v5), (7, .long v7), (9, .int v9)]) (by decide) rfl hG dX12_weighs_47 ?_
    refine r_aload_n (pc := 49) 1 0 rfl rfl hG dX12_weighs_49 ?_
    refine r_iload_n (pc := 50) 2 1 rfl rfl hG dX12_weighs_50 ?_
    refine r_bR hG (fun s8 e10 => ?_)
    refine r_callVv (pc := 51) (As := [.int v1]) (c_Mo_starts X N v1 σ s8 e10) (wsOf_at (rfl : shp 114 = 12) (by decide) rfl) rfl mfX12_225_X12_starts hyVX12_starts (by decide) (by decide) rfl (Nat.le_of_ble_eq_true rfl) hG dX12_weighs_51 rfl (fun n9 => ?_)
    refine r_iconst (pc := 54) (v := 0) (by decide) hG dX12_weighs_54 ?_
    refine r_istore (pc := 55) (lv' := [(12, .int 0), (10, .long 1), (0, .ref (X.2.1 + 114)), (1, .int v1), (2, .int v2), (3, .int v3), (4, .int v4), (5, .long v5), (7, .long v7), (9, .int v9)]) (by decide) rfl hG dX12_weighs_55 ?_
    exact r_sub [2, 3, 4, 5, 6, 7, 8, 9, 1, 0] rfl hG (w_Mo_weighs_L57 N hG hK35 N v1 v2 v3 v4 v5 v7 v9 1 0 s8)
set_option maxRecDepth 4000 in
theorem w_Mo_weighs_L35 {X : Cx} {G : GT (Int32 × St)} (N : Nat) (hG : IsG X RX12 cX12_weighs 13 5 (some .int) oWI G) : ∀ (n : Nat), ∀ (v1 : Int32) (v2 : Int32) (v3 : Int32) (v4 : Int32) (v5 : Int64) (v7 : Int64) (v9 : Int32) (σ : St), G (Mo_weighs_L35 N n v1 v2 v3 v4 v5 v7 v9 σ) σ 35 [(0, .ref (X.2.1 + 114)), (1, .int v1), (2, .int v2), (3, .int v3), (4, .int v4), (5, .long v5), (7, .long v7), (9, .int v9)] [] := by
  intro n
  induction n with
  | zero => intro v1 v2 v3 v4 v5 v7 v9 σ; exact r_none hG
  | succ n ih => intro v1 v2 v3 v4 v5 v7 v9 σ; exact w_Mo_weighs_L35B N hG ih v1 v2 v3 v4 v5 v7 v9 σ
set_option maxRecDepth 4000 in
theorem w_Mo_weighs_J32 {X : Cx} {G : GT (Int32 × St)} (N : Nat) (hG : IsG X RX12 cX12_weighs 13 5 (some .int) oWI G) (v1 : Int32) (v2 : Int32) (v3 : Int32) (v4 : Int32) (v5 : Int64) (v7 : Int64) (σ : St) : G (Mo_weighs_J32 N v1 v2 v3 v4 v5 v7 σ) σ 32 [(0, .ref (X.2.1 + 114)), (1, .int v1), (2, .int v2), (3, .int v3), (4, .int v4), (5, .long v5), (7, .long v7)] [] := by
  unfold Mo_weighs_J32
  refine r_iconst (pc := 32) (v := 0) (by decide) hG dX12_weighs_32 ?_
  refine r_istore (pc := 33) (lv' := [(9, .int 0), (0, .ref (X.2.1 + 114)), (1, .int v1), (2, .int v2), (3, .int v3), (4, .int v4), (5, .long v5), (7, .long v7)]) (by decide) rfl hG dX12_weighs_33 ?_
  exact r_sub [1, 2, 3, 4, 5, 6, 7, 0] rfl hG (w_Mo_weighs_L35 N hG N v1 v2 v3 v4 v5 v7 0 σ)
set_option maxRecDepth 4000 in
theorem w_Mo_weighs_L9B {X : Cx} {G : GT (Int32 × St)} (N : Nat) (hG : IsG X RX12 cX12_weighs 13 5 (some .int) oWI G) {K9 : Int32 → Int32 → Int32 → Int32 → Int64 → Int64 → Int32 → St → Option (Int32 × St)} (hK9 : ∀ (v1 : Int32) (v2 : Int32) (v3 : Int32) (v4 : Int32) (v5 : Int64) (v7 : Int64) (v9 : Int32) (s : St), G (K9 v1 v2 v3 v4 v5 v7 v9 s) s 9 [(0, .ref (X.2.1 + 114)), (1, .int v1), (2, .int v2), (3, .int v3), (4, .int v4), (5, .long v5), (7, .long v7), (9, .int v9)] []) (v1 : Int32) (v2 : Int32) (v3 : Int32) (v4 : Int32) (v5 : Int64) (v7 : Int64) (v9 : Int32) (σ : St) : G (Mo_weighs_L9B N K9 v1 v2 v3 v4 v5 v7 v9 σ) σ 9 [(0, .ref (X.2.1 + 114)), (1, .int v1), (2, .int v2), (3, .int v3), (4, .int v4), (5, .long v5), (7, .long v7), (9, .int v9)] [] := by
  unfold Mo_weighs_L9B
  refine r_iload (pc := 9) 7 rfl hG dX12_weighs_9 ?_
  refine r_aload_n (pc := 11) 0 0 rfl rfl hG dX12_weighs_11 ?_
  refine gf12_22 (pc := 12) lk1153 hG dX12_weighs_12 ?_
  refine r_icmp_ge (pc := 15) (tgt := 32) (by decide) hG dX12_weighs_15 (fun h1 => ?_) (fun h1 => ?_)
  · exact r_sub [0, 1, 2, 3, 4, 5, 6] rfl hG (w_Mo_weighs_J32 N hG v1 v2 v3 v4 v5 v7 σ)
  · refine r_lload (pc := 18) 6 rfl hG dX12_weighs_18 ?_
    refine r_ldc2 (pc := 20) (v := 10) lk1543 hG dX12_weighs_20 ?_
    refine r_lmul (pc := 23) hG dX12_weighs_23 ?_
    refine r_bL hG (fun x33 => ?_)
    refine r_lstore (pc := 24) (lv' := [(7, .long x33), (0, .ref (X.2.1 + 114)), (1, .int v1), (2, .int v2), (3, .int v3), (4, .int v4), (5, .long v5), (9, .int v9)]) (by decide) rfl hG dX12_weighs_24 ?_
    refine r_bIinc (pc := 26) (lv' := fun x34 => [(9, .int x34), (7, .long x33), (0, .ref (X.2.1 + 114)), (1, .int v1), (2, .int v2), (3, .int v3), (4, .int v4), (5, .long v5)]) 7 rfl rfl (by decide) (fun _ => rfl) hG dX12_weighs_26 (fun x34 => ?_)
    refine r_goto (pc := 29) (tgt := 9) (by decide) hG dX12_weighs_29 ?_
    exact r_sub [2, 3, 4, 5, 6, 7, 1, 0] rfl hG (hK9 v1 v2 v3 v4 v5 x33 x34 σ)
set_option maxRecDepth 4000 in
theorem w_Mo_weighs_L9 {X : Cx} {G : GT (Int32 × St)} (N : Nat) (hG : IsG X RX12 cX12_weighs 13 5 (some .int) oWI G) : ∀ (n : Nat), ∀ (v1 : Int32) (v2 : Int32) (v3 : Int32) (v4 : Int32) (v5 : Int64) (v7 : Int64) (v9 : Int32) (σ : St), G (Mo_weighs_L9 N n v1 v2 v3 v4 v5 v7 v9 σ) σ 9 [(0, .ref (X.2.1 + 114)), (1, .int v1), (2, .int v2), (3, .int v3), (4, .int v4), (5, .long v5), (7, .long v7), (9, .int v9)] [] := by
  intro n
  induction n with
  | zero => intro v1 v2 v3 v4 v5 v7 v9 σ; exact r_none hG
  | succ n ih => intro v1 v2 v3 v4 v5 v7 v9 σ; exact w_Mo_weighs_L9B N hG ih v1 v2 v3 v4 v5 v7 v9 σ
set_option maxRecDepth 4000 in
theorem c_Mo_weighs (X : Cx) (N : Nat) (v1 : Int32) (v2 : Int32) (v3 : Int32) (v4 : Int32) (σ : St) (r : Int32) (σ1 : St) (hE : Mo_weighs N v1 v2 v3 v4 σ = some (r, σ1)) : Ctr X yX12_weighs cX12_weighs 13 (some .int) 5 [.ref (X.2.1 + 114), .int v1, .int v2, .int v3, .int v4] σ (some (.int r)) σ1 := by
  refine Ctr.of (out := oWI) (E := Mo_weighs N v1 v2 v3 v4 σ) rfl (Nat.le_of_ble_eq_true rfl) (fun G hG => ?_) (r, σ1) hE
  unfold Mo_weighs
  refine r_lconst (pc := 0) (v := 0) (by decide) hG dX12_weighs_0 ?_
  refine r_lstore (pc := 1) (lv' := [(5, .long 0), (0, .ref (X.2.1 + 114)), (1, .int v1), (2, .int v2), (3, .int v3), (4, .int v4)]) (by decide) rfl hG dX12_weighs_1 ?_
  refine r_lconst (pc := 3) (v := 1) (by decide) hG dX12_weighs_3 ?_
  refine r_lstore (pc := 4) (lv' := [(7, .long 1), (5, .long 0), (0, .ref (X.2.1 + 114)), (1, .int v1), (2, .int v2), (3, .int v3), (4, .int v4)]) (by decide) rfl hG dX12_weighs_4 ?_
  refine r_iconst (pc := 6) (v := 0) (by decide) hG dX12_weighs_6 ?_
  refine r_istore (pc := 7) (lv' := [(9, .int 0), (7, .long 1), (5, .long 0), (0, .ref (X.2.1 + 114)), (1, .int v1), (2, .int v2), (3, .int v3), (4, .int v4)]) (by decide) rfl hG dX12_weighs_7 ?_
  exact r_sub [3, 4, 5, 6, 7, 2, 1, 0] rfl hG (w_Mo_weighs_L9 N hG N v1 v2 v3 v4 0 1 0 σ)
set_option maxRecDepth 4000 in
theorem w_Mo_odds_J41 {X : Cx} {G : GT (Int32 × St)} (N : Nat) (hG : IsG X RX12 cX12_odds 5 6 (some .int) oWI G) (σ : St) : G (Mo_odds_J41 N σ) σ 41 [(0, .ref (X.2.1 + 114))] [] := by
  unfold Mo_odds_J41
  refine r_aload_n (pc := 41) 0 0 rfl rfl hG dX12_odds_41 ?_
  refine r_bipush (pc := 42) (v := (-2)) (by decide) hG dX12_odds_42 ?_
  refine r_bW hG (fun r5 s6 e8 => ?_)
  refine r_callVi (pc := 44) (As := [.int (-2)]) (c_Mo_bad X N (-2) σ r5 s6 e8) (wsOf_at (rfl : shp 114 = 12) (by decide) rfl) rfl mfX12_84_X12_bad hyVX12_bad (by decide) (by decide) rfl (Nat.le_of_ble_eq_true rfl) hG dX12_odds_44 rfl (fun n7 => ?_)
  exact r_iret (pc := 47) rfl hG dX12_odds_47
set_option maxRecDepth 4000 in
theorem c_Mo_odds (X : Cx) (N : Nat) (v1 : Int32) (v2 : Int32) (v3 : Int32) (v4 : Int32) (σ : St) (r : Int32) (σ1 : St) (hE : Mo_odds N v1 v2 v3 v4 σ = some (r, σ1)) : Ctr X yX12_odds cX12_odds 5 (some .int) 6 [.ref (X.2.1 + 114), .int v1, .int v2, .int v3, .int v4] σ (some (.int r)) σ1 := by
  refine Ctr.of (out := oWI) (E := Mo_odds N v1 v2 v3 v4 σ) rfl (Nat.le_of_ble_eq_true rfl) (fun G hG => ?_) (r, σ1) hE
  unfold Mo_odds
  refine r_aload_n (pc := 0) 0 0 rfl rfl hG dX12_odds_0 ?_
  refine r_iload_n (pc := 1) 1 1 rfl rfl hG dX12_odds_1 ?_
  refine r_bR hG (fun r1 e3 => ?_)
  refine r_callVi (pc := 2) (As := [.int v1]) (c_Mo_isGuest X N v1 σ r1 e3) (wsOf_at (rfl : shp 114 = 12) (by decide) rfl) rfl mfX12_190_X12_isGuest hyVX12_isGuest (by decide) (by decide) rfl (Nat.le_of_ble_eq_true rfl) hG dX12_odds_2 rfl (fun n2 => ?_)
  refine r_if_eq (pc := 5) (tgt := 41) (by decide) hG dX12_odds_5 (fun h4 => ?_) (fun h4 => ?_)
  · exact r_sub [0] rfl hG (w_Mo_odds_J41 N hG σ)
  · refine r_aload_n (pc := 8) 0 0 rfl rfl hG dX12_odds_8 ?_
    refine r_iload_n (pc := 9) 2 2 rfl rfl hG dX12_odds_9 ?_
    refine r_bR hG (fun r9 e11 => ?_)
    refine r_callVi (pc := 10) (As := [.int v2]) (c_Mo_isRower X N v2 σ r9 e11) (wsOf_at (rfl : shp 114 = 12) (by decide) rfl) rfl mfX12_193_X12_isRower hyVX12_isRower (by decide) (by decide) rfl (Nat.le_of_ble_eq_true rfl) hG dX12_odds_10 rfl (fun n10 => ?_)
    refine r_if_eq (pc := 13) (tgt := 41) (by decide) hG dX12_odds_13 (fun h12 => ?_) (fun h12 => ?_)
    · exact r_sub [0] rfl hG (w_Mo_odds_J41 N hG σ)
    · refine r_iload_n (pc := 16) 3 3 rfl rfl hG dX12_odds_16 ?_
      refine r_i2l (pc := 17) hG dX12_odds_17 ?_
      refine r_lconst (pc := 18) (v := 0) (by decide) hG dX12_odds_18 ?_
      refine r_ldc2 (pc := 19) (v := 40) lk1289 hG dX12_odds_19 ?_
      refine r_callSi (pc := 22) (As := [.long ((v3).toInt64), .long 0, .long 40]) (c_Mo_in X ((v3).toInt64) 0 40 σ) mfX12_69_X12_in hySX12_in (by decide) (by decide) rfl (Nat.le_of_ble_eq_true rfl) hG dX12_odds_22 rfl (fun n14 => ?_)
      refine r_if_eq (pc := 25) (tgt := 41) (by decide) hG dX12_odds_25 (fun h16 => ?_) (fun h16 => ?_)
      · exact r_sub [0] rfl hG (w_Mo_odds_J41 N hG σ)
      · refine r_iload (pc := 28) 4 rfl hG dX12_odds_28 ?_
        refine r_i2l (pc := 30) hG dX12_odds_30 ?_
        refine r_lconst (pc := 31) (v := 0) (by decide) hG dX12_odds_31 ?_
        refine r_ldc2 (pc := 32) (v := 10) lk1543 hG dX12_odds_32 ?_
        refine r_callSi (pc := 35) (As := [.long ((v4).toInt64), .long 0, .long 10]) (c_Mo_in X ((v4).toInt64) 0 10 σ) mfX12_69_X12_in hySX12_in (by decide) (by decide) rfl (Nat.le_of_ble_eq_true rfl) hG dX12_odds_35 rfl (fun n18 => ?_)
        refine r_if_ne (pc := 38) (tgt := 48) (by decide) hG dX12_odds_38 (fun h20 => ?_) (fun h20 => ?_)
        · refine r_aload_n (pc := 48) 0 0 rfl rfl hG dX12_odds_48 ?_
          refine r_iload_n (pc := 49) 1 1 rfl rfl hG dX12_odds_49 ?_
          refine r_iload_n (pc := 50) 2 2 rfl rfl hG dX12_odds_50 ?_
          refine r_bR hG (fun s22 e24 => ?_)
          refine r_callVv (pc := 51) (As := [.int v1, .int v2]) (c_Mo_finds X N v1 v2 σ s22 e24) (wsOf_at (rfl : shp 114 = 12) (by decide) rfl) rfl mfX12_238_X12_finds hyVX12_finds (by decide) (by decide) rfl (Nat.le_of_ble_eq_true rfl) hG dX12_odds_51 rfl (fun n23 => ?_)
          refine r_aload_n (pc := 54) 0 0 rfl rfl hG dX12_odds_54 ?_
          refine gf12_22 (pc := 55) lk1153 hG dX12_odds_55 ?_
          refine r_if_ne (pc := 58) (tgt := 68) (by decide) hG dX12_odds_58 (fun h25 => ?_) (fun h25 => ?_)
          · refine r_aload_n (pc := 68) 0 0 rfl rfl hG dX12_odds_68 ?_
            refine r_iload_n (pc := 69) 1 1 rfl rfl hG dX12_odds_69 ?_
            refine r_iload_n (pc := 70) 2 2 rfl rfl hG dX12_odds_70 ?_
            refine r_iload_n (pc := 71) 3 3 rfl rfl hG dX12_odds_71 ?_
            refine r_iload (pc := 72) 4 rfl hG dX12_odds_72 ?_
            refine r_bW hG (fun r26 s27 e29 => ?_)
            refine r_callVi (pc := 74) (As := [.int v1, .int v2, .int v3, .int v4]) (c_Mo_weighs X N v1 v2 v3 v4 s22 r26 s27 e29) (wsOf_at (rfl : shp 114 = 12) (by decide) rfl) rfl mfX12_294_X12_weighs hyVX12_weighs (by decide) (by decide) rfl (Nat.le_of_ble_eq_true rfl) hG dX12_odds_74 rfl (fun n28 => ?_)
            exact r_iret (pc := 77) rfl hG dX12_odds_77
          · refine r_aload_n (pc := 61) 0 0 rfl rfl hG dX12_odds_61 ?_
            refine r_bW hG (fun r30 s31 e33 => ?_)
            refine r_callVi (pc := 62) (As := []) (c_Mo_no X N s22 r30 s31 e33) (wsOf_at (rfl : shp 114 = 12) (by decide) rfl) rfl mfX12_196_X12_no hyVX12_no (by decide) (by decide) rfl (Nat.le_of_ble_eq_true rfl) hG dX12_odds_62 rfl (fun n32 => ?_)
            refine r_goto (pc := 65) (tgt := 77) (by decide) hG dX12_odds_65 ?_
            exact r_iret (pc := 77) rfl hG dX12_odds_77
        · exact r_sub [0] rfl hG (w_Mo_odds_J41 N hG σ)
set_option maxRecDepth 4000 in
theorem w_Mo_mean_J28 {X : Cx} {G : GT (Int32 × St)} (N : Nat) (hG : IsG X RX12 cX12_mean 4 6 (some .int) oWI G) (σ : St) : G (Mo_mean_J28 N σ) σ 28 [(0, .ref (X.2.1 + 114))] [] := by
  unfold Mo_mean_J28
  refine r_aload_n (pc := 28) 0 0 rfl rfl hG dX12_mean_28 ?_
  refine r_bipush (pc := 29) (v := (-2)) (by decide) hG dX12_mean_29 ?_
  refine r_bW hG (fun r5 s6 e8 => ?_)
  refine r_callVi (pc := 31) (As := [.int (-2)]) (c_Mo_bad X N (-2) σ r5 s6 e8) (wsOf_at (rfl : shp 114 = 12) (by decide) rfl) rfl mfX12_84_X12_bad hyVX12_bad (by decide) (by decide) rfl (Nat.le_of_ble_eq_true rfl) hG dX12_mean_31 rfl (fun n7 => ?_)
  exact r_iret (pc := 34) rfl hG dX12_mean_34
set_option maxRecDepth 4000 in
theorem c_Mo_mean (X : Cx) (N : Nat) (v1 : Int32) (v2 : Int32) (v3 : Int32) (σ : St) (r : Int32) (σ1 : St) (hE : Mo_mean N v1 v2 v3 σ = some (r, σ1)) : Ctr X yX12_mean cX12_mean 4 (some .int) 6 [.ref (X.2.1 + 114), .int v1, .int v2, .int v3] σ (some (.int r)) σ1 := by
  refine Ctr.of (out := oWI) (E := Mo_mean N v1 v2 v3 σ) rfl (Nat.le_of_ble_eq_true rfl) (fun G hG => ?_) (r, σ1) hE
  unfold Mo_mean
  refine r_aload_n (pc := 0) 0 0 rfl rfl hG dX12_mean_0 ?_
  refine r_iload_n (pc := 1) 1 1 rfl rfl hG dX12_mean_1 ?_
  refine r_bR hG (fun r1 e3 => ?_)
  refine r_callVi (pc := 2) (As := [.int v1]) (c_Mo_isGuest X N v1 σ r1 e3) (wsOf_at (rfl : shp 114 = 12) (by decide) rfl) rfl mfX12_190_X12_isGuest hyVX12_isGuest (by decide) (by decide) rfl (Nat.le_of_ble_eq_true rfl) hG dX12_mean_2 rfl (fun n2 => ?_)
  refine r_if_eq (pc := 5) (tgt := 28) (by decide) hG dX12_mean_5 (fun h4 => ?_) (fun h4 => ?_)
  · exact r_sub [0] rfl hG (w_Mo_mean_J28 N hG σ)
  · refine r_aload_n (pc := 8) 0 0 rfl rfl hG dX12_mean_8 ?_
    refine r_iload_n (pc := 9) 2 2 rfl rfl hG dX12_mean_9 ?_
    refine r_bR hG (fun r9 e11 => ?_)
    refine r_callVi (pc := 10) (As := [.int v2]) (c_Mo_isRower X N v2 σ r9 e11) (wsOf_at (rfl : shp 114 = 12) (by decide) rfl) rfl mfX12_193_X12_isRower hyVX12_isRower (by decide) (by decide) rfl (Nat.le_of_ble_eq_true rfl) hG dX12_mean_10 rfl (fun n10 => ?_)
    refine r_if_eq (pc := 13) (tgt := 28) (by decide) hG dX12_mean_13 (fun h12 => ?_) (fun h12 => ?_)
    · exact r_sub [0] rfl hG (w_Mo_mean_J28 N hG σ)
    · refine r_iload_n (pc := 16) 3 3 rfl rfl hG dX12_mean_16 ?_
      refine r_i2l (pc := 17) hG dX12_mean_17 ?_
      refine r_lconst (pc := 18) (v := 0) (by decide) hG dX12_mean_18 ?_
      refine r_ldc2 (pc := 19) (v := 10) lk1543 hG dX12_mean_19 ?_
      refine r_callSi (pc := 22) (As := [.long ((v3).toInt64), .long 0, .long 10]) (c_Mo_in X ((v3).toInt64) 0 10 σ) mfX12_69_X12_in hySX12_in (by decide) (by decide) rfl (Nat.le_of_ble_eq_true rfl) hG dX12_mean_22 rfl (fun n14 => ?_)
      refine r_if_ne (pc := 25) (tgt := 35) (by decide) hG dX12_mean_25 (fun h16 => ?_) (fun h16 => ?_)
      · refine r_aload_n (pc := 35) 0 0 rfl rfl hG dX12_mean_35 ?_
        refine r_iload_n (pc := 36) 1 1 rfl rfl hG dX12_mean_36 ?_
        refine r_iload_n (pc := 37) 2 2 rfl rfl hG dX12_mean_37 ?_
        refine r_bR hG (fun s18 e20 => ?_)
        refine r_callVv (pc := 38) (As := [.int v1, .int v2]) (c_Mo_finds X N v1 v2 σ s18 e20) (wsOf_at (rfl : shp 114 = 12) (by decide) rfl) rfl mfX12_238_X12_finds hyVX12_finds (by decide) (by decide) rfl (Nat.le_of_ble_eq_true rfl) hG dX12_mean_38 rfl (fun n19 => ?_)
        refine r_aload_n (pc := 41) 0 0 rfl rfl hG dX12_mean_41 ?_
        refine gf12_22 (pc := 42) lk1153 hG dX12_mean_42 ?_
        refine r_if_ne (pc := 45) (tgt := 55) (by decide) hG dX12_mean_45 (fun h21 => ?_) (fun h21 => ?_)
        · refine r_aload_n (pc := 55) 0 0 rfl rfl hG dX12_mean_55 ?_
          refine r_iload_n (pc := 56) 1 1 rfl rfl hG dX12_mean_56 ?_
          refine r_iload_n (pc := 57) 2 2 rfl rfl hG dX12_mean_57 ?_
          refine r_iconst (pc := 58) (v := (-1)) (by decide) hG dX12_mean_58 ?_
          refine r_iload_n (pc := 59) 3 3 rfl rfl hG dX12_mean_59 ?_
          refine r_bW hG (fun r22 s23 e25 => ?_)
          refine r_callVi (pc := 60) (As := [.int v1, .int v2, .int (-1), .int v3]) (c_Mo_weighs X N v1 v2 (-1) v3 s18 r22 s23 e25) (wsOf_at (rfl : shp 114 = 12) (by decide) rfl) rfl mfX12_294_X12_weighs hyVX12_weighs (by decide) (by decide) rfl (Nat.le_of_ble_eq_true rfl) hG dX12_mean_60 rfl (fun n24 => ?_)
          exact r_iret (pc := 63) rfl hG dX12_mean_63
        · refine r_aload_n (pc := 48) 0 0 rfl rfl hG dX12_mean_48 ?_
          refine r_bW hG (fun r26 s27 e29 => ?_)
          refine r_callVi (pc := 49) (As := []) (c_Mo_no X N s18 r26 s27 e29) (wsOf_at (rfl : shp 114 = 12) (by decide) rfl) rfl mfX12_196_X12_no hyVX12_no (by decide) (by decide) rfl (Nat.le_of_ble_eq_true rfl) hG dX12_mean_49 rfl (fun n28 => ?_)
          refine r_goto (pc := 52) (tgt := 63) (by decide) hG dX12_mean_52 ?_
          exact r_iret (pc := 63) rfl hG dX12_mean_63
      · exact r_sub [0] rfl hG (w_Mo_mean_J28 N hG σ)
set_option maxRecDepth 4000 in
theorem w_Mo_nights_J24 {X : Cx} {G : GT (Int32 × St)} (N : Nat) (hG : IsG X RX12 cX12_nights 9 5 (some .int) oWI G) (σ : St) : G (Mo_nights_J24 N σ) σ 24 [(0, .ref (X.2.1 + 114))] [] := by
  unfold Mo_nights_J24
  refine r_aload_n (pc := 24) 0 0 rfl rfl hG dX12_nights_24 ?_
  refine r_bipush (pc := 25) (v := (-2)) (by decide) hG dX12_nights_25 ?_
  refine r_bW hG (fun r5 s6 e8 => ?_)
  refine r_callVi (pc := 27) (As := [.int (-2)]) (c_Mo_bad X N (-2) σ r5 s6 e8) (wsOf_at (rfl : shp 114 = 12) (by decide) rfl) rfl mfX12_84_X12_bad hyVX12_bad (by decide) (by decide) rfl (Nat.le_of_ble_eq_true rfl) hG dX12_nights_27 rfl (fun n7 => ?_)
  exact r_iret (pc := 30) rfl hG dX12_nights_30
set_option maxRecDepth 4000 in
theorem w_Mo_nights_J260 {X : Cx} {G : GT (Int32 × St)} (N : Nat) (hG : IsG X RX12 cX12_nights 9 5 (some .int) oWI G) (v5 : Int32) (σ : St) : G (Mo_nights_J260 N v5 σ) σ 260 [(0, .ref (X.2.1 + 114)), (5, .int v5)] [] := by
  unfold Mo_nights_J260
  refine r_aload_n (pc := 260) 0 0 rfl rfl hG dX12_nights_260 ?_
  refine gf12_1 (pc := 261) lk1132 hG dX12_nights_261 ?_
  refine r_iconst (pc := 264) (v := 0) (by decide) hG dX12_nights_264 ?_
  refine r_aload_n (pc := 265) 0 0 rfl rfl hG dX12_nights_265 ?_
  refine gf12_0 (pc := 266) lk1131 hG dX12_nights_266 ?_
  refine r_bipush (pc := 269) (v := 52) (by decide) hG dX12_nights_269 ?_
  refine r_bipush (pc := 271) (v := 16) (by decide) hG dX12_nights_271 ?_
  refine r_bR hG (fun s21 e23 => ?_)
  refine r_callSv (pc := 273) (As := [.ref (X.2.1 + 116), .int 0, .ref (X.2.1 + 115), .int 52, .int 16]) (c_Mo_copies X N 116 0 115 52 16 σ (rfl : shp 116 = 14) (rfl : shp 115 = 14) s21 e23) mfX12_175_X12_copies hySX12_copies (by decide) (by decide) rfl (Nat.le_of_ble_eq_true rfl) hG dX12_nights_273 rfl (fun n22 => ?_)
  refine r_iload (pc := 276) 1 rfl hG dX12_nights_276 ?_
  exact r_iret (pc := 278) rfl hG dX12_nights_278
set_option maxRecDepth 4000 in
theorem w_Mo_nights_J251 {X : Cx} {G : GT (Int32 × St)} (N : Nat) (hG : IsG X RX12 cX12_nights 9 5 (some .int) oWI G) {K209 : Int32 → Int32 → St → Option (Int32 × St)} (hK209 : ∀ (v5 : Int32) (v6 : Int32) (s : St), G (K209 v5 v6 s) s 209 [(0, .ref (X.2.1 + 114)), (5, .int v5), (6, .int v6)] []) (v6 : Int32) (w0 : Int32) (w1 : Int32) (σ : St) : G (Mo_nights_J251 N K209 v6 w0 w1 σ) σ 251 [(0, .ref (X.2.1 + 114)), (6, .int v6)] [.int w1, .int w0] := by
  unfold Mo_nights_J251
  refine r_iadd (pc := 251) hG dX12_nights_251 ?_
  refine r_bI hG (fun x27 => ?_)
  refine r_istore (pc := 252) (lv' := [(5, .int x27), (0, .ref (X.2.1 + 114)), (6, .int v6)]) (by decide) rfl hG dX12_nights_252 ?_
  refine r_bIinc (pc := 254) (lv' := fun x28 => [(6, .int x28), (5, .int x27), (0, .ref (X.2.1 + 114))]) 2 rfl rfl (by decide) (fun _ => rfl) hG dX12_nights_254 (fun x28 => ?_)
  refine r_goto (pc := 257) (tgt := 209) (by decide) hG dX12_nights_257 ?_
  exact r_sub [2, 1, 0] rfl hG (hK209 x27 x28 σ)
set_option maxRecDepth 4000 in
theorem w_Mo_nights_L209B {X : Cx} {G : GT (Int32 × St)} (N : Nat) (hG : IsG X RX12 cX12_nights 9 5 (some .int) oWI G) {K209 : Int32 → Int32 → St → Option (Int32 × St)} (hK209 : ∀ (v5 : Int32) (v6 : Int32) (s : St), G (K209 v5 v6 s) s 209 [(0, .ref (X.2.1 + 114)), (5, .int v5), (6, .int v6)] []) (v5 : Int32) (v6 : Int32) (σ : St) : G (Mo_nights_L209B N K209 v5 v6 σ) σ 209 [(0, .ref (X.2.1 + 114)), (5, .int v5), (6, .int v6)] [] := by
  unfold Mo_nights_L209B
  refine r_iload (pc := 209) 2 rfl hG dX12_nights_209 ?_
  refine r_aload_n (pc := 211) 0 0 rfl rfl hG dX12_nights_211 ?_
  refine gf12_0 (pc := 212) lk1131 hG dX12_nights_212 ?_
  refine r_bipush (pc := 215) (v := 37) (by decide) hG dX12_nights_215 ?_
  refine r_iald (pc := 217) (i := 115) (rfl : shp 115 = 14) rfl (by decide) hG dX12_nights_217 ?_
  refine r_icmp_ge (pc := 218) (tgt := 260) (by decide) hG dX12_nights_218 (fun h19 => ?_) (fun h19 => ?_)
  · exact r_sub [0, 1] rfl hG (w_Mo_nights_J260 N hG v5 σ)
  · refine r_iload (pc := 221) 1 rfl hG dX12_nights_221 ?_
    refine r_aload_n (pc := 223) 0 0 rfl rfl hG dX12_nights_223 ?_
    refine gf12_0 (pc := 224) lk1131 hG dX12_nights_224 ?_
    refine r_bipush (pc := 227) (v := 52) (by decide) hG dX12_nights_227 ?_
    refine r_iload (pc := 229) 2 rfl hG dX12_nights_229 ?_
    refine r_iadd (pc := 231) hG dX12_nights_231 ?_
    refine r_ck hG (fun h24 => ?_)
    refine r_iald (pc := 232) (i := 115) (rfl : shp 115 = 14) rfl h24 hG dX12_nights_232 ?_
    refine r_aload_n (pc := 233) 0 0 rfl rfl hG dX12_nights_233 ?_
    refine gf12_0 (pc := 234) lk1131 hG dX12_nights_234 ?_
    refine r_bipush (pc := 237) (v := 48) (by decide) hG dX12_nights_237 ?_
    refine r_iload (pc := 239) 2 rfl hG dX12_nights_239 ?_
    refine r_iadd (pc := 241) hG dX12_nights_241 ?_
    refine r_ck hG (fun h25 => ?_)
    refine r_iald (pc := 242) (i := 115) (rfl : shp 115 = 14) rfl h25 hG dX12_nights_242 ?_
    refine r_icmp_ne (pc := 243) (tgt := 250) (by decide) hG dX12_nights_243 (fun h26 => ?_) (fun h26 => ?_)
    · refine r_iconst (pc := 250) (v := 0) (by decide) hG dX12_nights_250 ?_
      exact r_sub [0, 2] rfl hG (w_Mo_nights_J251 N hG hK209 v6 v5 0 σ)
    · refine r_iconst (pc := 246) (v := 1) (by decide) hG dX12_nights_246 ?_
      refine r_goto (pc := 247) (tgt := 251) (by decide) hG dX12_nights_247 ?_
      exact r_sub [0, 2] rfl hG (w_Mo_nights_J251 N hG hK209 v6 v5 1 σ)
set_option maxRecDepth 4000 in
theorem w_Mo_nights_L209 {X : Cx} {G : GT (Int32 × St)} (N : Nat) (hG : IsG X RX12 cX12_nights 9 5 (some .int) oWI G) : ∀ (n : Nat), ∀ (v5 : Int32) (v6 : Int32) (σ : St), G (Mo_nights_L209 N n v5 v6 σ) σ 209 [(0, .ref (X.2.1 + 114)), (5, .int v5), (6, .int v6)] [] := by
  intro n
  induction n with
  | zero => intro v5 v6 σ; exact r_none hG
  | succ n ih => intro v5 v6 σ; exact w_Mo_nights_L209B N hG ih v5 v6 σ
set_option maxRecDepth 4000 in
theorem w_Mo_nights_J203 {X : Cx} {G : GT (Int32 × St)} (N : Nat) (hG : IsG X RX12 cX12_nights 9 5 (some .int) oWI G) (σ : St) : G (Mo_nights_J203 N σ) σ 203 [(0, .ref (X.2.1 + 114))] [] := by
  unfold Mo_nights_J203
  refine r_iconst (pc := 203) (v := 0) (by decide) hG dX12_nights_203 ?_
  refine r_istore (pc := 204) (lv' := [(5, .int 0), (0, .ref (X.2.1 + 114))]) (by decide) rfl hG dX12_nights_204 ?_
  refine r_iconst (pc := 206) (v := 0) (by decide) hG dX12_nights_206 ?_
  refine r_istore (pc := 207) (lv' := [(6, .int 0), (5, .int 0), (0, .ref (X.2.1 + 114))]) (by decide) rfl hG dX12_nights_207 ?_
  exact r_sub [2, 1, 0] rfl hG (w_Mo_nights_L209 N hG N 0 0 σ)
set_option maxRecDepth 4000 in
theorem w_Mo_nights_J197 {X : Cx} {G : GT (Int32 × St)} (N : Nat) (hG : IsG X RX12 cX12_nights 9 5 (some .int) oWI G) {K53 : Int32 → Int64 → Int32 → St → Option (Int32 × St)} (hK53 : ∀ (v2 : Int32) (v3 : Int64) (v5 : Int32) (s : St), G (K53 v2 v3 v5 s) s 53 [(0, .ref (X.2.1 + 114)), (2, .int v2), (3, .long v3), (5, .int v5)] []) (v2 : Int32) (v3 : Int64) (v5 : Int32) (σ : St) : G (Mo_nights_J197 N K53 v2 v3 v5 σ) σ 197 [(0, .ref (X.2.1 + 114)), (2, .int v2), (3, .long v3), (5, .int v5)] [] := by
  unfold Mo_nights_J197
  refine r_bIinc (pc := 197) (lv' := fun x41 => [(5, .int x41), (0, .ref (X.2.1 + 114)), (2, .int v2), (3, .long v3)]) 3 rfl rfl (by decide) (fun _ => rfl) hG dX12_nights_197 (fun x41 => ?_)
  refine r_goto (pc := 200) (tgt := 53) (by decide) hG dX12_nights_200 ?_
  exact r_sub [1, 2, 3, 0] rfl hG (hK53 v2 v3 x41 σ)
set_option maxRecDepth 4000 in
theorem w_Mo_nights_J151 {X : Cx} {G : GT (Int32 × St)} (N : Nat) (hG : IsG X RX12 cX12_nights 9 5 (some .int) oWI G) {K53 : Int32 → Int64 → Int32 → St → Option (Int32 × St)} (hK53 : ∀ (v2 : Int32) (v3 : Int64) (v5 : Int32) (s : St), G (K53 v2 v3 v5 s) s 53 [(0, .ref (X.2.1 + 114)), (2, .int v2), (3, .long v3), (5, .int v5)] []) (v2 : Int32) (v3 : Int64) (v5 : Int32) (v6 : Int32) (σ : St) : G (Mo_nights_J151 N K53 v2 v3 v5 v6 σ) σ 151 [(0, .ref (X.2.1 + 114)), (2, .int v2), (3, .long v3), (5, .int v5), (6, .int v6)] [] := by
  unfold Mo_nights_J151
  refine r_aload_n (pc := 151) 0 0 rfl rfl hG dX12_nights_151 ?_
  refine r_iload (pc := 152) 4 rfl hG dX12_nights_152 ?_
  refine r_bR hG (fun r37 e39 => ?_)
  refine r_callVi (pc := 154) (As := [.int v6]) (c_Mo_isGuest X N v6 σ r37 e39) (wsOf_at (rfl : shp 114 = 12) (by decide) rfl) rfl mfX12_190_X12_isGuest hyVX12_isGuest (by decide) (by decide) rfl (Nat.le_of_ble_eq_true rfl) hG dX12_nights_154 rfl (fun n38 => ?_)
  refine r_if_eq (pc := 157) (tgt := 197) (by decide) hG dX12_nights_157 (fun h40 => ?_) (fun h40 => ?_)
  · exact r_sub [0, 1, 2, 3] rfl hG (w_Mo_nights_J197 N hG hK53 v2 v3 v5 σ)
  · refine r_aload_n (pc := 160) 0 0 rfl rfl hG dX12_nights_160 ?_
    refine gf12_0 (pc := 161) lk1131 hG dX12_nights_161 ?_
    refine r_bipush (pc := 164) (v := 60) (by decide) hG dX12_nights_164 ?_
    refine r_iload (pc := 166) 4 rfl hG dX12_nights_166 ?_
    refine r_iadd (pc := 168) hG dX12_nights_168 ?_
    refine r_ck hG (fun h42 => ?_)
    refine r_iald (pc := 169) (i := 115) (rfl : shp 115 = 14) rfl h42 hG dX12_nights_169 ?_
    refine r_bipush (pc := 170) (v := 7) (by decide) hG dX12_nights_170 ?_
    refine r_icmp_ne (pc := 172) (tgt := 197) (by decide) hG dX12_nights_172 (fun h43 => ?_) (fun h43 => ?_)
    · exact r_sub [0, 1, 2, 3] rfl hG (w_Mo_nights_J197 N hG hK53 v2 v3 v5 σ)
    · refine r_aload_n (pc := 175) 0 0 rfl rfl hG dX12_nights_175 ?_
      refine gf12_0 (pc := 176) lk1131 hG dX12_nights_176 ?_
      refine r_bipush (pc := 179) (v := 60) (by decide) hG dX12_nights_179 ?_
      refine r_iload (pc := 181) 4 rfl hG dX12_nights_181 ?_
      refine r_iadd (pc := 183) hG dX12_nights_183 ?_
      refine r_iconst (pc := 184) (v := 0) (by decide) hG dX12_nights_184 ?_
      refine r_ck hG (fun h44 => ?_)
      refine r_iast (pc := 185) (i := 115) (rfl : shp 115 = 14) rfl h44 hG dX12_nights_185 ?_
      refine r_bS hG (fun s45 => ?_)
      refine r_aload_n (pc := 186) 0 0 rfl rfl hG dX12_nights_186 ?_
      refine gf12_0 (pc := 187) lk1131 hG dX12_nights_187 ?_
      refine r_bipush (pc := 190) (v := 64) (by decide) hG dX12_nights_190 ?_
      refine r_iload (pc := 192) 4 rfl hG dX12_nights_192 ?_
      refine r_iadd (pc := 194) hG dX12_nights_194 ?_
      refine r_iconst (pc := 195) (v := 0) (by decide) hG dX12_nights_195 ?_
      refine r_ck hG (fun h46 => ?_)
      refine r_iast (pc := 196) (i := 115) (rfl : shp 115 = 14) rfl h46 hG dX12_nights_196 ?_
      refine r_bS hG (fun s47 => ?_)
      exact r_sub [0, 1, 2, 3] rfl hG (w_Mo_nights_J197 N hG hK53 v2 v3 v5 s47)
set_option maxRecDepth 4000 in
theorem w_Mo_nights_L53B {X : Cx} {G : GT (Int32 × St)} (N : Nat) (hG : IsG X RX12 cX12_nights 9 5 (some .int) oWI G) {K53 : Int32 → Int64 → Int32 → St → Option (Int32 × St)} (hK53 : ∀ (v2 : Int32) (v3 : Int64) (v5 : Int32) (s : St), G (K53 v2 v3 v5 s) s 53 [(0, .ref (X.2.1 + 114)), (2, .int v2), (3, .long v3), (5, .int v5)] []) (v2 : Int32) (v3 : Int64) (v5 : Int32) (σ : St) : G (Mo_nights_L53B N K53 v2 v3 v5 σ) σ 53 [(0, .ref (X.2.1 + 114)), (2, .int v2), (3, .long v3), (5, .int v5)] [] := by
  unfold Mo_nights_L53B
  refine r_iload (pc := 53) 3 rfl hG dX12_nights_53 ?_
  refine r_iload_n (pc := 55) 1 2 rfl rfl hG dX12_nights_55 ?_
  refine r_icmp_ge (pc := 56) (tgt := 203) (by decide) hG dX12_nights_56 (fun h18 => ?_) (fun h18 => ?_)
  · exact r_sub [0] rfl hG (w_Mo_nights_J203 N hG σ)
  · refine r_lload_n (pc := 59) 2 3 rfl rfl hG dX12_nights_59 ?_
    refine r_ldc2 (pc := 60) (v := 1103515245) lk1561 hG dX12_nights_60 ?_
    refine r_lmul (pc := 63) hG dX12_nights_63 ?_
    refine r_ldc2 (pc := 64) (v := 12345) lk1562 hG dX12_nights_64 ?_
    refine r_ladd (pc := 67) hG dX12_nights_67 ?_
    refine r_ldc2 (pc := 68) (v := 2147483648) lk1563 hG dX12_nights_68 ?_
    refine r_lrem (pc := 71) (by decide) hG dX12_nights_71 ?_
    refine r_bL hG (fun x29 => ?_)
    refine r_lstore_n (pc := 72) (lv' := [(3, .long x29), (0, .ref (X.2.1 + 114)), (2, .int v2), (5, .int v5)]) 3 rfl (by decide) rfl hG dX12_nights_72 ?_
    refine r_lload_n (pc := 73) 0 3 rfl rfl hG dX12_nights_73 ?_
    refine r_ldc2 (pc := 74) (v := 65536) lk1564 hG dX12_nights_74 ?_
    refine r_ldiv (pc := 77) (by decide) hG dX12_nights_77 ?_
    refine r_ldc2 (pc := 78) (v := 4) lk1565 hG dX12_nights_78 ?_
    refine r_lrem (pc := 81) (by decide) hG dX12_nights_81 ?_
    refine r_l2i (pc := 82) hG dX12_nights_82 ?_
    refine r_bI hG (fun x30 => ?_)
    refine r_istore (pc := 83) (lv' := [(6, .int x30), (3, .long x29), (0, .ref (X.2.1 + 114)), (2, .int v2), (5, .int v5)]) (by decide) rfl hG dX12_nights_83 ?_
    refine r_lload_n (pc := 85) 1 3 rfl rfl hG dX12_nights_85 ?_
    refine r_ldc2 (pc := 86) (v := 262144) lk1566 hG dX12_nights_86 ?_
    refine r_ldiv (pc := 89) (by decide) hG dX12_nights_89 ?_
    refine r_ldc2 (pc := 90) (v := 3) lk1567 hG dX12_nights_90 ?_
    refine r_lrem (pc := 93) (by decide) hG dX12_nights_93 ?_
    refine r_l2i (pc := 94) hG dX12_nights_94 ?_
    refine r_bI hG (fun x31 => ?_)
    refine r_istore (pc := 95) (lv' := [(7, .int x31), (6, .int x30), (3, .long x29), (0, .ref (X.2.1 + 114)), (2, .int v2), (5, .int v5)]) (by decide) rfl hG dX12_nights_95 ?_
    refine r_lload_n (pc := 97) 2 3 rfl rfl hG dX12_nights_97 ?_
    refine r_ldc2 (pc := 98) (v := 1048576) lk1568 hG dX12_nights_98 ?_
    refine r_ldiv (pc := 101) (by decide) hG dX12_nights_101 ?_
    refine r_ldc2 (pc := 102) (v := 8) lk1569 hG dX12_nights_102 ?_
    refine r_lrem (pc := 105) (by decide) hG dX12_nights_105 ?_
    refine r_l2i (pc := 106) hG dX12_nights_106 ?_
    refine r_bI hG (fun x32 => ?_)
    refine r_istore (pc := 107) (lv' := [(8, .int x32), (7, .int x31), (6, .int x30), (3, .long x29), (0, .ref (X.2.1 + 114)), (2, .int v2), (5, .int v5)]) (by decide) rfl hG dX12_nights_107 ?_
    refine r_aload_n (pc := 109) 4 0 rfl rfl hG dX12_nights_109 ?_
    refine r_iload (pc := 110) 2 rfl hG dX12_nights_110 ?_
    refine r_bR hG (fun r33 e35 => ?_)
    refine r_callVi (pc := 112) (As := [.int x30]) (c_Mo_isGuest X N x30 σ r33 e35) (wsOf_at (rfl : shp 114 = 12) (by decide) rfl) rfl mfX12_190_X12_isGuest hyVX12_isGuest (by decide) (by decide) rfl (Nat.le_of_ble_eq_true rfl) hG dX12_nights_112 rfl (fun n34 => ?_)
    refine r_if_eq (pc := 115) (tgt := 151) (by decide) hG dX12_nights_115 (fun h36 => ?_) (fun h36 => ?_)
    · exact r_sub [4, 5, 3, 6, 2] rfl hG (w_Mo_nights_J151 N hG hK53 v2 x29 v5 x30 σ)
    · refine r_aload_n (pc := 118) 4 0 rfl rfl hG dX12_nights_118 ?_
      refine r_iload (pc := 119) 1 rfl hG dX12_nights_119 ?_
      refine r_bR hG (fun r48 e50 => ?_)
      refine r_callVi (pc := 121) (As := [.int x31]) (c_Mo_isRower X N x31 σ r48 e50) (wsOf_at (rfl : shp 114 = 12) (by decide) rfl) rfl mfX12_193_X12_isRower hyVX12_isRower (by decide) (by decide) rfl (Nat.le_of_ble_eq_true rfl) hG dX12_nights_121 rfl (fun n49 => ?_)
      refine r_if_eq (pc := 124) (tgt := 151) (by decide) hG dX12_nights_124 (fun h51 => ?_) (fun h51 => ?_)
      · exact r_sub [4, 5, 3, 6, 2] rfl hG (w_Mo_nights_J151 N hG hK53 v2 x29 v5 x30 σ)
      · refine r_aload_n (pc := 127) 4 0 rfl rfl hG dX12_nights_127 ?_
        refine r_iload (pc := 128) 2 rfl hG dX12_nights_128 ?_
        refine r_iload (pc := 130) 0 rfl hG dX12_nights_130 ?_
        refine r_bR hG (fun r52 e54 => ?_)
        refine r_callVi (pc := 132) (As := [.int x30, .int x32]) (c_Mo_can X N x30 x32 σ r52 e54) (wsOf_at (rfl : shp 114 = 12) (by decide) rfl) rfl mfX12_161_X12_can hyVX12_can (by decide) (by decide) rfl (Nat.le_of_ble_eq_true rfl) hG dX12_nights_132 rfl (fun n53 => ?_)
        refine r_if_eq (pc := 135) (tgt := 151) (by decide) hG dX12_nights_135 (fun h55 => ?_) (fun h55 => ?_)
        · exact r_sub [4, 5, 3, 6, 2] rfl hG (w_Mo_nights_J151 N hG hK53 v2 x29 v5 x30 σ)
        · refine r_aload_n (pc := 138) 4 0 rfl rfl hG dX12_nights_138 ?_
          refine r_iload (pc := 139) 2 rfl hG dX12_nights_139 ?_
          refine r_iload (pc := 141) 1 rfl hG dX12_nights_141 ?_
          refine r_iload (pc := 143) 0 rfl hG dX12_nights_143 ?_
          refine r_bR hG (fun s57 e59 => ?_)
          refine r_callVv (pc := 145) (As := [.int x30, .int x31, .int x32]) (c_Mo_rowed X N x30 x31 x32 σ s57 e59) (wsOf_at (rfl : shp 114 = 12) (by decide) rfl) rfl mfX12_165_X12_rowed hyVX12_rowed (by decide) (by decide) rfl (Nat.le_of_ble_eq_true rfl) hG dX12_nights_145 rfl (fun n58 => ?_)
          refine r_goto (pc := 148) (tgt := 197) (by decide) hG dX12_nights_148 ?_
          exact r_sub [4, 5, 3, 6] rfl hG (w_Mo_nights_J197 N hG hK53 v2 x29 v5 s57)
set_option maxRecDepth 4000 in
theorem w_Mo_nights_L53 {X : Cx} {G : GT (Int32 × St)} (N : Nat) (hG : IsG X RX12 cX12_nights 9 5 (some .int) oWI G) : ∀ (n : Nat), ∀ (v2 : Int32) (v3 : Int64) (v5 : Int32) (σ : St), G (Mo_nights_L53 N n v2 v3 v5 σ) σ 53 [(0, .ref (X.2.1 + 114)), (2, .int v2), (3, .long v3), (5, .int v5)] [] := by
  intro n
  induction n with
  | zero => intro v2 v3 v5 σ; exact r_none hG
  | succ n ih => intro v2 v3 v5 σ; exact w_Mo_nights_L53B N hG ih v2 v3 v5 σ
set_option maxRecDepth 4000 in
theorem c_Mo_nights (X : Cx) (N : Nat) (v1 : Int32) (v2 : Int32) (σ : St) (r : Int32) (σ1 : St) (hE : Mo_nights N v1 v2 σ = some (r, σ1)) : Ctr X yX12_nights cX12_nights 9 (some .int) 5 [.ref (X.2.1 + 114), .int v1, .int v2] σ (some (.int r)) σ1 := by
  refine Ctr.of (out := oWI) (E := Mo_nights N v1 v2 σ) rfl (Nat.le_of_ble_eq_true rfl) (fun G hG => ?_) (r, σ1) hE
  unfold Mo_nights
  refine r_iload_n (pc := 0) 1 1 rfl rfl hG dX12_nights_0 ?_
  refine r_i2l (pc := 1) hG dX12_nights_1 ?_
  refine r_lconst (pc := 2) (v := 0) (by decide) hG dX12_nights_2 ?_
  refine r_ldc2 (pc := 3) (v := 999999) lk1560 hG dX12_nights_3 ?_
  refine r_callSi (pc := 6) (As := [.long ((v1).toInt64), .long 0, .long 999999]) (c_Mo_in X ((v1).toInt64) 0 999999 σ) mfX12_69_X12_in hySX12_in (by decide) (by decide) rfl (Nat.le_of_ble_eq_true rfl) hG dX12_nights_6 rfl (fun n2 => ?_)
  refine r_if_eq (pc := 9) (tgt := 24) (by decide) hG dX12_nights_9 (fun h4 => ?_) (fun h4 => ?_)
  · exact r_sub [0] rfl hG (w_Mo_nights_J24 N hG σ)
  · refine r_iload_n (pc := 12) 2 2 rfl rfl hG dX12_nights_12 ?_
    refine r_i2l (pc := 13) hG dX12_nights_13 ?_
    refine r_lconst (pc := 14) (v := 0) (by decide) hG dX12_nights_14 ?_
    refine r_ldc2 (pc := 15) (v := 60) lk1494 hG dX12_nights_15 ?_
    refine r_callSi (pc := 18) (As := [.long ((v2).toInt64), .long 0, .long 60]) (c_Mo_in X ((v2).toInt64) 0 60 σ) mfX12_69_X12_in hySX12_in (by decide) (by decide) rfl (Nat.le_of_ble_eq_true rfl) hG dX12_nights_18 rfl (fun n10 => ?_)
    refine r_if_ne (pc := 21) (tgt := 31) (by decide) hG dX12_nights_21 (fun h12 => ?_) (fun h12 => ?_)
    · refine r_aload_n (pc := 31) 0 0 rfl rfl hG dX12_nights_31 ?_
      refine gf12_0 (pc := 32) lk1131 hG dX12_nights_32 ?_
      refine r_bipush (pc := 35) (v := 52) (by decide) hG dX12_nights_35 ?_
      refine r_aload_n (pc := 37) 0 0 rfl rfl hG dX12_nights_37 ?_
      refine gf12_1 (pc := 38) lk1132 hG dX12_nights_38 ?_
      refine r_iconst (pc := 41) (v := 0) (by decide) hG dX12_nights_41 ?_
      refine r_bipush (pc := 42) (v := 16) (by decide) hG dX12_nights_42 ?_
      refine r_bR hG (fun s14 e16 => ?_)
      refine r_callSv (pc := 44) (As := [.ref (X.2.1 + 115), .int 52, .ref (X.2.1 + 116), .int 0, .int 16]) (c_Mo_copies X N 115 52 116 0 16 σ (rfl : shp 115 = 14) (rfl : shp 116 = 14) s14 e16) mfX12_175_X12_copies hySX12_copies (by decide) (by decide) rfl (Nat.le_of_ble_eq_true rfl) hG dX12_nights_44 rfl (fun n15 => ?_)
      refine r_iload_n (pc := 47) 1 1 rfl rfl hG dX12_nights_47 ?_
      refine r_i2l (pc := 48) hG dX12_nights_48 ?_
      refine r_bL hG (fun x17 => ?_)
      refine r_lstore_n (pc := 49) (lv' := [(3, .long x17), (0, .ref (X.2.1 + 114)), (1, .int v1), (2, .int v2)]) 3 rfl (by decide) rfl hG dX12_nights_49 ?_
      refine r_iconst (pc := 50) (v := 0) (by decide) hG dX12_nights_50 ?_
      refine r_istore (pc := 51) (lv' := [(5, .int 0), (3, .long x17), (0, .ref (X.2.1 + 114)), (1, .int v1), (2, .int v2)]) (by decide) rfl hG dX12_nights_51 ?_
      exact r_sub [2, 4, 1, 0] rfl hG (w_Mo_nights_L53 N hG N v2 x17 0 s14)
    · exact r_sub [0] rfl hG (w_Mo_nights_J24 N hG σ)
set_option maxRecDepth 4000 in
theorem c_Mo_part (X : Cx) (N : Nat) (v1 : Int32) (σ : St) (r : Int64) (σ1 : St) (hE : Mo_part N v1 σ = some (r, σ1)) : Ctr X yX12_part cX12_part 2 (some .long) 2 [.ref (X.2.1 + 114), .int v1] σ (some (.long r)) σ1 := by
  refine Ctr.of (out := oWL) (E := Mo_part N v1 σ) rfl (Nat.le_of_ble_eq_true rfl) (fun G hG => ?_) (r, σ1) hE
  unfold Mo_part
  refine r_iload_n (pc := 0) 1 1 rfl rfl hG dX12_part_0 ?_
  refine r_if_ne (pc := 1) (tgt := 11) (by decide) hG dX12_part_1 (fun h1 => ?_) (fun h1 => ?_)
  · refine r_iload_n (pc := 11) 1 1 rfl rfl hG dX12_part_11 ?_
    refine r_iconst (pc := 12) (v := 1) (by decide) hG dX12_part_12 ?_
    refine r_icmp_ne (pc := 13) (tgt := 23) (by decide) hG dX12_part_13 (fun h2 => ?_) (fun h2 => ?_)
    · refine r_aload_n (pc := 23) 0 0 rfl rfl hG dX12_part_23 ?_
      refine r_bipush (pc := 24) (v := (-2)) (by decide) hG dX12_part_24 ?_
      refine r_bW hG (fun r3 s4 e6 => ?_)
      refine r_callVi (pc := 26) (As := [.int (-2)]) (c_Mo_bad X N (-2) σ r3 s4 e6) (wsOf_at (rfl : shp 114 = 12) (by decide) rfl) rfl mfX12_84_X12_bad hyVX12_bad (by decide) (by decide) rfl (Nat.le_of_ble_eq_true rfl) hG dX12_part_26 rfl (fun n5 => ?_)
      refine r_i2l (pc := 29) hG dX12_part_29 ?_
      exact r_lret (pc := 30) rfl hG dX12_part_30
    · refine r_aload_n (pc := 16) 0 0 rfl rfl hG dX12_part_16 ?_
      refine gf12_7 (pc := 17) lk1138 hG dX12_part_17 ?_
      refine r_goto (pc := 20) (tgt := 30) (by decide) hG dX12_part_20 ?_
      exact r_lret (pc := 30) rfl hG dX12_part_30
  · refine r_aload_n (pc := 4) 0 0 rfl rfl hG dX12_part_4 ?_
    refine gf12_6 (pc := 5) lk1137 hG dX12_part_5 ?_
    refine r_goto (pc := 8) (tgt := 30) (by decide) hG dX12_part_8 ?_
    exact r_lret (pc := 30) rfl hG dX12_part_30
set_option maxRecDepth 4000 in
theorem c_Mo_image (X : Cx) (N : Nat) (v1 : Int32) (σ : St) (r : Int32) (σ1 : St) (hE : Mo_image N v1 σ = some (r, σ1)) : Ctr X yX12_image cX12_image 2 (some .int) 2 [.ref (X.2.1 + 114), .int v1] σ (some (.int r)) σ1 := by
  refine Ctr.of (out := oWI) (E := Mo_image N v1 σ) rfl (Nat.le_of_ble_eq_true rfl) (fun G hG => ?_) (r, σ1) hE
  unfold Mo_image
  refine r_iload_n (pc := 0) 1 1 rfl rfl hG dX12_image_0 ?_
  refine r_i2l (pc := 1) hG dX12_image_1 ?_
  refine r_lconst (pc := 2) (v := 0) (by decide) hG dX12_image_2 ?_
  refine r_lconst (pc := 3) (v := 1) (by decide) hG dX12_image_3 ?_
  refine r_callSi (pc := 4) (As := [.long ((v1).toInt64), .long 0, .long 1]) (c_Mo_in X ((v1).toInt64) 0 1 σ) mfX12_69_X12_in hySX12_in (by decide) (by decide) rfl (Nat.le_of_ble_eq_true rfl) hG dX12_image_4 rfl (fun n2 => ?_)
  refine r_if_ne (pc := 7) (tgt := 17) (by decide) hG dX12_image_7 (fun h4 => ?_) (fun h4 => ?_)
  · refine r_aload_n (pc := 17) 0 0 rfl rfl hG dX12_image_17 ?_
    refine gf12_0 (pc := 18) lk1131 hG dX12_image_18 ?_
    refine r_iconst (pc := 21) (v := 0) (by decide) hG dX12_image_21 ?_
    refine r_aload_n (pc := 22) 0 0 rfl rfl hG dX12_image_22 ?_
    refine gf12_2 (pc := 23) lk1133 hG dX12_image_23 ?_
    refine r_sipush (pc := 26) (v := 286) (by decide) hG dX12_image_26 ?_
    refine r_iload_n (pc := 29) 1 1 rfl rfl hG dX12_image_29 ?_
    refine r_imul (pc := 30) hG dX12_image_30 ?_
    refine r_sipush (pc := 31) (v := 286) (by decide) hG dX12_image_31 ?_
    refine r_bR hG (fun s6 e8 => ?_)
    refine r_callSv (pc := 34) (As := [.ref (X.2.1 + 115), .int 0, .ref (X.2.1 + 117), .int (286 * v1), .int 286]) (c_Mo_copies X N 115 0 117 (286 * v1) 286 σ (rfl : shp 115 = 14) (rfl : shp 117 = 14) s6 e8) mfX12_175_X12_copies hySX12_copies (by decide) (by decide) rfl (Nat.le_of_ble_eq_true rfl) hG dX12_image_34 rfl (fun n7 => ?_)
    refine r_aload_n (pc := 37) 0 0 rfl rfl hG dX12_image_37 ?_
    refine gf12_3 (pc := 38) lk1134 hG dX12_image_38 ?_
    refine r_iload_n (pc := 41) 1 1 rfl rfl hG dX12_image_41 ?_
    refine r_iconst (pc := 42) (v := 1) (by decide) hG dX12_image_42 ?_
    refine r_ck hG (fun h9 => ?_)
    refine r_zast (pc := 43) (i := 118) (rfl : shp 118 = 15) rfl h9 hG dX12_image_43 ?_
    refine r_bS hG (fun s10 => ?_)
    refine r_iconst (pc := 44) (v := 1) (by decide) hG dX12_image_44 ?_
    exact r_iret (pc := 45) rfl hG dX12_image_45
  · refine r_aload_n (pc := 10) 0 0 rfl rfl hG dX12_image_10 ?_
    refine r_bipush (pc := 11) (v := (-2)) (by decide) hG dX12_image_11 ?_
    refine r_bW hG (fun r11 s12 e14 => ?_)
    refine r_callVi (pc := 13) (As := [.int (-2)]) (c_Mo_bad X N (-2) σ r11 s12 e14) (wsOf_at (rfl : shp 114 = 12) (by decide) rfl) rfl mfX12_84_X12_bad hyVX12_bad (by decide) (by decide) rfl (Nat.le_of_ble_eq_true rfl) hG dX12_image_13 rfl (fun n13 => ?_)
    exact r_iret (pc := 16) rfl hG dX12_image_16
set_option maxRecDepth 4000 in
theorem c_Mo_from (X : Cx) (N : Nat) (v1 : Int32) (σ : St) (r : Int32) (σ1 : St) (hE : Mo_from N v1 σ = some (r, σ1)) : Ctr X yX12_from cX12_from 2 (some .int) 2 [.ref (X.2.1 + 114), .int v1] σ (some (.int r)) σ1 := by
  refine Ctr.of (out := oWI) (E := Mo_from N v1 σ) rfl (Nat.le_of_ble_eq_true rfl) (fun G hG => ?_) (r, σ1) hE
  unfold Mo_from
  refine r_iload_n (pc := 0) 1 1 rfl rfl hG dX12_from_0 ?_
  refine r_i2l (pc := 1) hG dX12_from_1 ?_
  refine r_lconst (pc := 2) (v := 0) (by decide) hG dX12_from_2 ?_
  refine r_lconst (pc := 3) (v := 1) (by decide) hG dX12_from_3 ?_
  refine r_callSi (pc := 4) (As := [.long ((v1).toInt64), .long 0, .long 1]) (c_Mo_in X ((v1).toInt64) 0 1 σ) mfX12_69_X12_in hySX12_in (by decide) (by decide) rfl (Nat.le_of_ble_eq_true rfl) hG dX12_from_4 rfl (fun n2 => ?_)
  refine r_if_ne (pc := 7) (tgt := 17) (by decide) hG dX12_from_7 (fun h4 => ?_) (fun h4 => ?_)
  · refine r_aload_n (pc := 17) 0 0 rfl rfl hG dX12_from_17 ?_
    refine gf12_3 (pc := 18) lk1134 hG dX12_from_18 ?_
    refine r_iload_n (pc := 21) 1 1 rfl rfl hG dX12_from_21 ?_
    refine r_ck hG (fun h5 => ?_)
    refine r_zald (pc := 22) (i := 118) (rfl : shp 118 = 15) rfl h5 hG dX12_from_22 ?_
    refine r_if_ne (pc := 23) (tgt := 31) (by decide) hG dX12_from_23 (fun h6 => ?_) (fun h6 => ?_)
    · refine r_aload_n (pc := 31) 0 0 rfl rfl hG dX12_from_31 ?_
      refine gf12_2 (pc := 32) lk1133 hG dX12_from_32 ?_
      refine r_sipush (pc := 35) (v := 286) (by decide) hG dX12_from_35 ?_
      refine r_iload_n (pc := 38) 1 1 rfl rfl hG dX12_from_38 ?_
      refine r_imul (pc := 39) hG dX12_from_39 ?_
      refine r_aload_n (pc := 40) 0 0 rfl rfl hG dX12_from_40 ?_
      refine gf12_0 (pc := 41) lk1131 hG dX12_from_41 ?_
      refine r_iconst (pc := 44) (v := 0) (by decide) hG dX12_from_44 ?_
      refine r_sipush (pc := 45) (v := 286) (by decide) hG dX12_from_45 ?_
      refine r_bR hG (fun s8 e10 => ?_)
      refine r_callSv (pc := 48) (As := [.ref (X.2.1 + 117), .int (286 * v1), .ref (X.2.1 + 115), .int 0, .int 286]) (c_Mo_copies X N 117 (286 * v1) 115 0 286 σ (rfl : shp 117 = 14) (rfl : shp 115 = 14) s8 e10) mfX12_175_X12_copies hySX12_copies (by decide) (by decide) rfl (Nat.le_of_ble_eq_true rfl) hG dX12_from_48 rfl (fun n9 => ?_)
      refine r_iconst (pc := 51) (v := 1) (by decide) hG dX12_from_51 ?_
      exact r_iret (pc := 52) rfl hG dX12_from_52
    · refine r_aload_n (pc := 26) 0 0 rfl rfl hG dX12_from_26 ?_
      refine r_bW hG (fun r11 s12 e14 => ?_)
      refine r_callVi (pc := 27) (As := []) (c_Mo_no X N σ r11 s12 e14) (wsOf_at (rfl : shp 114 = 12) (by decide) rfl) rfl mfX12_196_X12_no hyVX12_no (by decide) (by decide) rfl (Nat.le_of_ble_eq_true rfl) hG dX12_from_27 rfl (fun n13 => ?_)
      exact r_iret (pc := 30) rfl hG dX12_from_30
  · refine r_aload_n (pc := 10) 0 0 rfl rfl hG dX12_from_10 ?_
    refine r_bipush (pc := 11) (v := (-2)) (by decide) hG dX12_from_11 ?_
    refine r_bW hG (fun r15 s16 e18 => ?_)
    refine r_callVi (pc := 13) (As := [.int (-2)]) (c_Mo_bad X N (-2) σ r15 s16 e18) (wsOf_at (rfl : shp 114 = 12) (by decide) rfl) rfl mfX12_84_X12_bad hyVX12_bad (by decide) (by decide) rfl (Nat.le_of_ble_eq_true rfl) hG dX12_from_13 rfl (fun n17 => ?_)
    exact r_iret (pc := 16) rfl hG dX12_from_16
set_option maxRecDepth 4000 in
theorem c_Mo_status (X : Cx) (N : Nat) (v1 : Int32) (σ : St) (r : Int32) (σ1 : St) (hE : Mo_status N v1 σ = some (r, σ1)) : Ctr X yX12_status cX12_status 2 (some .int) 2 [.ref (X.2.1 + 114), .int v1] σ (some (.int r)) σ1 := by
  refine Ctr.of (out := oWI) (E := Mo_status N v1 σ) rfl (Nat.le_of_ble_eq_true rfl) (fun G hG => ?_) (r, σ1) hE
  unfold Mo_status
  refine r_iload_n (pc := 0) 1 1 rfl rfl hG dX12_status_0 ?_
  refine r_i2l (pc := 1) hG dX12_status_1 ?_
  refine r_lconst (pc := 2) (v := 0) (by decide) hG dX12_status_2 ?_
  refine r_ldc2 (pc := 3) (v := 2) lk1400 hG dX12_status_3 ?_
  refine r_callSi (pc := 6) (As := [.long ((v1).toInt64), .long 0, .long 2]) (c_Mo_in X ((v1).toInt64) 0 2 σ) mfX12_69_X12_in hySX12_in (by decide) (by decide) rfl (Nat.le_of_ble_eq_true rfl) hG dX12_status_6 rfl (fun n2 => ?_)
  refine r_if_eq (pc := 9) (tgt := 21) (by decide) hG dX12_status_9 (fun h4 => ?_) (fun h4 => ?_)
  · refine r_aload_n (pc := 21) 0 0 rfl rfl hG dX12_status_21 ?_
    refine r_iconst (pc := 22) (v := (-1)) (by decide) hG dX12_status_22 ?_
    refine r_bW hG (fun r5 s6 e8 => ?_)
    refine r_callVi (pc := 23) (As := [.int (-1)]) (c_Mo_bad X N (-1) σ r5 s6 e8) (wsOf_at (rfl : shp 114 = 12) (by decide) rfl) rfl mfX12_84_X12_bad hyVX12_bad (by decide) (by decide) rfl (Nat.le_of_ble_eq_true rfl) hG dX12_status_23 rfl (fun n7 => ?_)
    exact r_iret (pc := 26) rfl hG dX12_status_26
  · refine r_aload_n (pc := 12) 0 0 rfl rfl hG dX12_status_12 ?_
    refine gf12_8 (pc := 13) lk1139 hG dX12_status_13 ?_
    refine r_iload_n (pc := 16) 1 1 rfl rfl hG dX12_status_16 ?_
    refine r_ck hG (fun h9 => ?_)
    refine r_iald (pc := 17) (i := 120) (rfl : shp 120 = 14) rfl h9 hG dX12_status_17 ?_
    refine r_goto (pc := 18) (tgt := 26) (by decide) hG dX12_status_18 ?_
    exact r_iret (pc := 26) rfl hG dX12_status_26
set_option maxRecDepth 4000 in
theorem w_Mo_sum_L5B {σ : St} {X : Cx} {G : GT Int32} (N : Nat) (hG : IsG X RX12 cX12_sum 5 1 (some .int) (oI σ) G) {K5 : Int32 → Int32 → Int32 → Int32 → St → Option Int32} (hK5 : ∀ (v1 : Int32) (v2 : Int32) (v3 : Int32) (v4 : Int32), G (K5 v1 v2 v3 v4 σ) σ 5 [(0, .ref (X.2.1 + 114)), (1, .int v1), (2, .int v2), (3, .int v3), (4, .int v4)] []) (v1 : Int32) (v2 : Int32) (v3 : Int32) (v4 : Int32) : G (Mo_sum_L5B N K5 v1 v2 v3 v4 σ) σ 5 [(0, .ref (X.2.1 + 114)), (1, .int v1), (2, .int v2), (3, .int v3), (4, .int v4)] [] := by
  unfold Mo_sum_L5B
  refine r_iload (pc := 5) 4 rfl hG dX12_sum_5 ?_
  refine r_iload_n (pc := 7) 2 2 rfl rfl hG dX12_sum_7 ?_
  refine r_icmp_ge (pc := 8) (tgt := 29) (by decide) hG dX12_sum_8 (fun h1 => ?_) (fun h1 => ?_)
  · refine r_iload_n (pc := 29) 3 3 rfl rfl hG dX12_sum_29 ?_
    exact r_iret (pc := 30) rfl hG dX12_sum_30
  · refine r_iload_n (pc := 11) 3 3 rfl rfl hG dX12_sum_11 ?_
    refine r_aload_n (pc := 12) 0 0 rfl rfl hG dX12_sum_12 ?_
    refine gf12_0 (pc := 13) lk1131 hG dX12_sum_13 ?_
    refine r_iload_n (pc := 16) 1 1 rfl rfl hG dX12_sum_16 ?_
    refine r_iload (pc := 17) 4 rfl hG dX12_sum_17 ?_
    refine r_iadd (pc := 19) hG dX12_sum_19 ?_
    refine r_ck hG (fun h2 => ?_)
    refine r_iald (pc := 20) (i := 115) (rfl : shp 115 = 14) rfl h2 hG dX12_sum_20 ?_
    refine r_iadd (pc := 21) hG dX12_sum_21 ?_
    refine r_bI hG (fun x3 => ?_)
    refine r_istore_n (pc := 22) (lv' := [(3, .int x3), (0, .ref (X.2.1 + 114)), (1, .int v1), (2, .int v2), (4, .int v4)]) 3 rfl (by decide) rfl hG dX12_sum_22 ?_
    refine r_bIinc (pc := 23) (lv' := fun x4 => [(4, .int x4), (3, .int x3), (0, .ref (X.2.1 + 114)), (1, .int v1), (2, .int v2)]) 4 rfl rfl (by decide) (fun _ => rfl) hG dX12_sum_23 (fun x4 => ?_)
    refine r_goto (pc := 26) (tgt := 5) (by decide) hG dX12_sum_26 ?_
    exact r_sub [2, 3, 4, 1, 0] rfl hG (hK5 v1 v2 x3 x4)
set_option maxRecDepth 4000 in
theorem w_Mo_sum_L5 {σ : St} {X : Cx} {G : GT Int32} (N : Nat) (hG : IsG X RX12 cX12_sum 5 1 (some .int) (oI σ) G) : ∀ (n : Nat), ∀ (v1 : Int32) (v2 : Int32) (v3 : Int32) (v4 : Int32), G (Mo_sum_L5 N n v1 v2 v3 v4 σ) σ 5 [(0, .ref (X.2.1 + 114)), (1, .int v1), (2, .int v2), (3, .int v3), (4, .int v4)] [] := by
  intro n
  induction n with
  | zero => intro v1 v2 v3 v4; exact r_none hG
  | succ n ih => intro v1 v2 v3 v4; exact w_Mo_sum_L5B N hG ih v1 v2 v3 v4
set_option maxRecDepth 4000 in
theorem c_Mo_sum (X : Cx) (N : Nat) (v1 : Int32) (v2 : Int32) (σ : St) (r : Int32) (hE : Mo_sum N v1 v2 σ = some r) : Ctr X yX12_sum cX12_sum 5 (some .int) 1 [.ref (X.2.1 + 114), .int v1, .int v2] σ (some (.int r)) σ := by
  refine Ctr.of (out := (oI σ)) (E := Mo_sum N v1 v2 σ) rfl (Nat.le_of_ble_eq_true rfl) (fun G hG => ?_) r hE
  unfold Mo_sum
  refine r_iconst (pc := 0) (v := 0) (by decide) hG dX12_sum_0 ?_
  refine r_istore_n (pc := 1) (lv' := [(3, .int 0), (0, .ref (X.2.1 + 114)), (1, .int v1), (2, .int v2)]) 3 rfl (by decide) rfl hG dX12_sum_1 ?_
  refine r_iconst (pc := 2) (v := 0) (by decide) hG dX12_sum_2 ?_
  refine r_istore (pc := 3) (lv' := [(4, .int 0), (3, .int 0), (0, .ref (X.2.1 + 114)), (1, .int v1), (2, .int v2)]) (by decide) rfl hG dX12_sum_3 ?_
  exact r_sub [2, 3, 4, 1, 0] rfl hG (w_Mo_sum_L5 N hG N v1 v2 0 0)
set_option maxRecDepth 4000 in
theorem w_Mo_counted_J82 {σ : St} {X : Cx} {G : GT Int32} (N : Nat) (hG : IsG X RX12 cX12_counted 4 2 (some .int) (oI σ) G) {K58 : Int32 → Int32 → St → Option Int32} (hK58 : ∀ (v2 : Int32) (v3 : Int32), G (K58 v2 v3 σ) σ 58 [(0, .ref (X.2.1 + 114)), (2, .int v2), (3, .int v3)] []) (v3 : Int32) (w0 : Int32) (w1 : Int32) : G (Mo_counted_J82 N K58 v3 w0 w1 σ) σ 82 [(0, .ref (X.2.1 + 114)), (3, .int v3)] [.int w1, .int w0] := by
  unfold Mo_counted_J82
  refine r_iadd (pc := 82) hG dX12_counted_82 ?_
  refine r_bI hG (fun x5 => ?_)
  refine r_istore_n (pc := 83) (lv' := [(2, .int x5), (0, .ref (X.2.1 + 114)), (3, .int v3)]) 2 rfl (by decide) rfl hG dX12_counted_83 ?_
  refine r_bIinc (pc := 84) (lv' := fun x6 => [(3, .int x6), (2, .int x5), (0, .ref (X.2.1 + 114))]) 2 rfl rfl (by decide) (fun _ => rfl) hG dX12_counted_84 (fun x6 => ?_)
  refine r_goto (pc := 87) (tgt := 58) (by decide) hG dX12_counted_87 ?_
  exact r_sub [2, 1, 0] rfl hG (hK58 x5 x6)
set_option maxRecDepth 4000 in
theorem w_Mo_counted_L58B {σ : St} {X : Cx} {G : GT Int32} (N : Nat) (hG : IsG X RX12 cX12_counted 4 2 (some .int) (oI σ) G) {K58 : Int32 → Int32 → St → Option Int32} (hK58 : ∀ (v2 : Int32) (v3 : Int32), G (K58 v2 v3 σ) σ 58 [(0, .ref (X.2.1 + 114)), (2, .int v2), (3, .int v3)] []) (v2 : Int32) (v3 : Int32) : G (Mo_counted_L58B N K58 v2 v3 σ) σ 58 [(0, .ref (X.2.1 + 114)), (2, .int v2), (3, .int v3)] [] := by
  unfold Mo_counted_L58B
  refine r_iload_n (pc := 58) 2 3 rfl rfl hG dX12_counted_58 ?_
  refine r_bipush (pc := 59) (v := 28) (by decide) hG dX12_counted_59 ?_
  refine r_icmp_ge (pc := 61) (tgt := 90) (by decide) hG dX12_counted_61 (fun h2 => ?_) (fun h2 => ?_)
  · refine r_iload_n (pc := 90) 1 2 rfl rfl hG dX12_counted_90 ?_
    exact r_iret (pc := 91) rfl hG dX12_counted_91
  · refine r_iload_n (pc := 64) 1 2 rfl rfl hG dX12_counted_64 ?_
    refine r_aload_n (pc := 65) 0 0 rfl rfl hG dX12_counted_65 ?_
    refine gf12_0 (pc := 66) lk1131 hG dX12_counted_66 ?_
    refine r_bipush (pc := 69) (v := 8) (by decide) hG dX12_counted_69 ?_
    refine r_iload_n (pc := 71) 2 3 rfl rfl hG dX12_counted_71 ?_
    refine r_iadd (pc := 72) hG dX12_counted_72 ?_
    refine r_ck hG (fun h3 => ?_)
    refine r_iald (pc := 73) (i := 115) (rfl : shp 115 = 14) rfl h3 hG dX12_counted_73 ?_
    refine r_if_le (pc := 74) (tgt := 81) (by decide) hG dX12_counted_74 (fun h4 => ?_) (fun h4 => ?_)
    · refine r_iconst (pc := 81) (v := 0) (by decide) hG dX12_counted_81 ?_
      exact r_sub [0, 2] rfl hG (w_Mo_counted_J82 N hG hK58 v3 v2 0)
    · refine r_iconst (pc := 77) (v := 1) (by decide) hG dX12_counted_77 ?_
      refine r_goto (pc := 78) (tgt := 82) (by decide) hG dX12_counted_78 ?_
      exact r_sub [0, 2] rfl hG (w_Mo_counted_J82 N hG hK58 v3 v2 1)
set_option maxRecDepth 4000 in
theorem w_Mo_counted_L58 {σ : St} {X : Cx} {G : GT Int32} (N : Nat) (hG : IsG X RX12 cX12_counted 4 2 (some .int) (oI σ) G) : ∀ (n : Nat), ∀ (v2 : Int32) (v3 : Int32), G (Mo_counted_L58 N n v2 v3 σ) σ 58 [(0, .ref (X.2.1 + 114)), (2, .int v2), (3, .int v3)] [] := by
  intro n
  induction n with
  | zero => intro v2 v3; exact r_none hG
  | succ n ih => intro v2 v3; exact w_Mo_counted_L58B N hG ih v2 v3
set_option maxRecDepth 4000 in
theorem w_Mo_counted_J150 {σ : St} {X : Cx} {G : GT Int32} (N : Nat) (hG : IsG X RX12 cX12_counted 4 2 (some .int) (oI σ) G) {K110 : Int32 → Int32 → St → Option Int32} (hK110 : ∀ (v2 : Int32) (v3 : Int32), G (K110 v2 v3 σ) σ 110 [(0, .ref (X.2.1 + 114)), (2, .int v2), (3, .int v3)] []) (v3 : Int32) (w0 : Int32) (w1 : Int32) : G (Mo_counted_J150 N K110 v3 w0 w1 σ) σ 150 [(0, .ref (X.2.1 + 114)), (3, .int v3)] [.int w1, .int w0] := by
  unfold Mo_counted_J150
  refine r_ior (pc := 150) hG dX12_counted_150 ?_
  refine r_bI hG (fun x14 => ?_)
  refine r_istore_n (pc := 151) (lv' := [(2, .int x14), (0, .ref (X.2.1 + 114)), (3, .int v3)]) 2 rfl (by decide) rfl hG dX12_counted_151 ?_
  refine r_bIinc (pc := 152) (lv' := fun x15 => [(3, .int x15), (2, .int x14), (0, .ref (X.2.1 + 114))]) 2 rfl rfl (by decide) (fun _ => rfl) hG dX12_counted_152 (fun x15 => ?_)
  refine r_goto (pc := 155) (tgt := 110) (by decide) hG dX12_counted_155 ?_
  exact r_sub [2, 1, 0] rfl hG (hK110 x14 x15)
set_option maxRecDepth 4000 in
theorem w_Mo_counted_L110B {σ : St} {X : Cx} {G : GT Int32} (N : Nat) (hG : IsG X RX12 cX12_counted 4 2 (some .int) (oI σ) G) {K110 : Int32 → Int32 → St → Option Int32} (hK110 : ∀ (v2 : Int32) (v3 : Int32), G (K110 v2 v3 σ) σ 110 [(0, .ref (X.2.1 + 114)), (2, .int v2), (3, .int v3)] []) (v2 : Int32) (v3 : Int32) : G (Mo_counted_L110B N K110 v2 v3 σ) σ 110 [(0, .ref (X.2.1 + 114)), (2, .int v2), (3, .int v3)] [] := by
  unfold Mo_counted_L110B
  refine r_iload_n (pc := 110) 2 3 rfl rfl hG dX12_counted_110 ?_
  refine r_aload_n (pc := 111) 0 0 rfl rfl hG dX12_counted_111 ?_
  refine gf12_0 (pc := 112) lk1131 hG dX12_counted_112 ?_
  refine r_bipush (pc := 115) (v := 37) (by decide) hG dX12_counted_115 ?_
  refine r_iald (pc := 117) (i := 115) (rfl : shp 115 = 14) rfl (by decide) hG dX12_counted_117 ?_
  refine r_icmp_ge (pc := 118) (tgt := 158) (by decide) hG dX12_counted_118 (fun h10 => ?_) (fun h10 => ?_)
  · refine r_iload_n (pc := 158) 1 2 rfl rfl hG dX12_counted_158 ?_
    exact r_iret (pc := 159) rfl hG dX12_counted_159
  · refine r_iload_n (pc := 121) 1 2 rfl rfl hG dX12_counted_121 ?_
    refine r_aload_n (pc := 122) 0 0 rfl rfl hG dX12_counted_122 ?_
    refine gf12_0 (pc := 123) lk1131 hG dX12_counted_123 ?_
    refine r_bipush (pc := 126) (v := 52) (by decide) hG dX12_counted_126 ?_
    refine r_iload_n (pc := 128) 2 3 rfl rfl hG dX12_counted_128 ?_
    refine r_iadd (pc := 129) hG dX12_counted_129 ?_
    refine r_ck hG (fun h11 => ?_)
    refine r_iald (pc := 130) (i := 115) (rfl : shp 115 = 14) rfl h11 hG dX12_counted_130 ?_
    refine r_aload_n (pc := 131) 0 0 rfl rfl hG dX12_counted_131 ?_
    refine gf12_0 (pc := 132) lk1131 hG dX12_counted_132 ?_
    refine r_bipush (pc := 135) (v := 48) (by decide) hG dX12_counted_135 ?_
    refine r_iload_n (pc := 137) 2 3 rfl rfl hG dX12_counted_137 ?_
    refine r_iadd (pc := 138) hG dX12_counted_138 ?_
    refine r_ck hG (fun h12 => ?_)
    refine r_iald (pc := 139) (i := 115) (rfl : shp 115 = 14) rfl h12 hG dX12_counted_139 ?_
    refine r_icmp_ne (pc := 140) (tgt := 149) (by decide) hG dX12_counted_140 (fun h13 => ?_) (fun h13 => ?_)
    · refine r_iconst (pc := 149) (v := 0) (by decide) hG dX12_counted_149 ?_
      exact r_sub [0, 2] rfl hG (w_Mo_counted_J150 N hG hK110 v3 v2 0)
    · refine r_iconst (pc := 143) (v := 1) (by decide) hG dX12_counted_143 ?_
      refine r_iload_n (pc := 144) 2 3 rfl rfl hG dX12_counted_144 ?_
      refine r_ishl (pc := 145) hG dX12_counted_145 ?_
      refine r_goto (pc := 146) (tgt := 150) (by decide) hG dX12_counted_146 ?_
      exact r_sub [0, 2] rfl hG (w_Mo_counted_J150 N hG hK110 v3 v2 (1 <<< (v3 &&& 31)))
set_option maxRecDepth 4000 in
theorem w_Mo_counted_L110 {σ : St} {X : Cx} {G : GT Int32} (N : Nat) (hG : IsG X RX12 cX12_counted 4 2 (some .int) (oI σ) G) : ∀ (n : Nat), ∀ (v2 : Int32) (v3 : Int32), G (Mo_counted_L110 N n v2 v3 σ) σ 110 [(0, .ref (X.2.1 + 114)), (2, .int v2), (3, .int v3)] [] := by
  intro n
  induction n with
  | zero => intro v2 v3; exact r_none hG
  | succ n ih => intro v2 v3; exact w_Mo_counted_L110B N hG ih v2 v3
set_option maxRecDepth 4000 in
theorem c_Mo_counted (X : Cx) (N : Nat) (v1 : Int32) (σ : St) (r : Int32) (hE : Mo_counted N v1 σ = some r) : Ctr X yX12_counted cX12_counted 4 (some .int) 2 [.ref (X.2.1 + 114), .int v1] σ (some (.int r)) σ := by
  refine Ctr.of (out := (oI σ)) (E := Mo_counted N v1 σ) rfl (Nat.le_of_ble_eq_true rfl) (fun G hG => ?_) r hE
  unfold Mo_counted
  refine r_iconst (pc := 0) (v := 0) (by decide) hG dX12_counted_0 ?_
  refine r_istore_n (pc := 1) (lv' := [(2, .int 0), (0, .ref (X.2.1 + 114)), (1, .int v1)]) 2 rfl (by decide) rfl hG dX12_counted_1 ?_
  refine r_iload_n (pc := 2) 2 1 rfl rfl hG dX12_counted_2 ?_
  refine r_ite hG (fun h1 => ?_) (fun h1 => ?_)
  · refine r_tableIn (pc := 3) (tgt := 56) (off := 53) (by rw [h1]; decide) (by rw [h1]; decide) (by rw [h1]; decide) (by decide) hG dX12_counted_3 ?_
    refine r_iconst (pc := 56) (v := 0) (by decide) hG dX12_counted_56 ?_
    refine r_istore_n (pc := 57) (lv' := [(3, .int 0), (2, .int 0), (0, .ref (X.2.1 + 114)), (1, .int v1)]) 3 rfl (by decide) rfl hG dX12_counted_57 ?_
    exact r_sub [2, 1, 0] rfl hG (w_Mo_counted_L58 N hG N 0 0)
  · refine r_ite hG (fun h7 => ?_) (fun h7 => ?_)
    · refine r_tableIn (pc := 3) (tgt := 92) (off := 89) (by rw [h7]; decide) (by rw [h7]; decide) (by rw [h7]; decide) (by decide) hG dX12_counted_3 ?_
      refine r_aload_n (pc := 92) 1 0 rfl rfl hG dX12_counted_92 ?_
      refine gf12_0 (pc := 93) lk1131 hG dX12_counted_93 ?_
      refine r_bipush (pc := 96) (v := 36) (by decide) hG dX12_counted_96 ?_
      refine r_iald (pc := 98) (i := 115) (rfl : shp 115 = 14) rfl (by decide) hG dX12_counted_98 ?_
      exact r_iret (pc := 99) rfl hG dX12_counted_99
    · refine r_ite hG (fun h8 => ?_) (fun h8 => ?_)
      · refine r_tableIn (pc := 3) (tgt := 100) (off := 97) (by rw [h8]; decide) (by rw [h8]; decide) (by rw [h8]; decide) (by decide) hG dX12_counted_3 ?_
        refine r_aload_n (pc := 100) 1 0 rfl rfl hG dX12_counted_100 ?_
        refine gf12_0 (pc := 101) lk1131 hG dX12_counted_101 ?_
        refine r_bipush (pc := 104) (v := 37) (by decide) hG dX12_counted_104 ?_
        refine r_iald (pc := 106) (i := 115) (rfl : shp 115 = 14) rfl (by decide) hG dX12_counted_106 ?_
        exact r_iret (pc := 107) rfl hG dX12_counted_107
      · refine r_ite hG (fun h9 => ?_) (fun h9 => ?_)
        · refine r_tableIn (pc := 3) (tgt := 108) (off := 105) (by rw [h9]; decide) (by rw [h9]; decide) (by rw [h9]; decide) (by decide) hG dX12_counted_3 ?_
          refine r_iconst (pc := 108) (v := 0) (by decide) hG dX12_counted_108 ?_
          refine r_istore_n (pc := 109) (lv' := [(3, .int 0), (2, .int 0), (0, .ref (X.2.1 + 114)), (1, .int v1)]) 3 rfl (by decide) rfl hG dX12_counted_109 ?_
          exact r_sub [2, 1, 0] rfl hG (w_Mo_counted_L110 N hG N 0 0)
        · refine r_ite hG (fun h16 => ?_) (fun h16 => ?_)
          · refine r_tableIn (pc := 3) (tgt := 160) (off := 157) (by rw [h16]; decide) (by rw [h16]; decide) (by rw [h16]; decide) (by decide) hG dX12_counted_3 ?_
            refine r_aload_n (pc := 160) 1 0 rfl rfl hG dX12_counted_160 ?_
            refine r_bipush (pc := 161) (v := 52) (by decide) hG dX12_counted_161 ?_
            refine r_aload_n (pc := 163) 1 0 rfl rfl hG dX12_counted_163 ?_
            refine gf12_0 (pc := 164) lk1131 hG dX12_counted_164 ?_
            refine r_bipush (pc := 167) (v := 37) (by decide) hG dX12_counted_167 ?_
            refine r_iald (pc := 169) (i := 115) (rfl : shp 115 = 14) rfl (by decide) hG dX12_counted_169 ?_
            refine r_bR hG (fun r17 e19 => ?_)
            refine r_callVi (pc := 170) (As := [.int 52, .int (σ.1 115 (37 : Int32).toNatClampNeg)]) (c_Mo_sum X N 52 (σ.1 115 (37 : Int32).toNatClampNeg) σ r17 e19) (wsOf_at (rfl : shp 114 = 12) (by decide) rfl) rfl mfX12_317_X12_sum hyVX12_sum (by decide) (by decide) rfl (Nat.le_of_ble_eq_true rfl) hG dX12_counted_170 rfl (fun n18 => ?_)
            exact r_iret (pc := 173) rfl hG dX12_counted_173
          · refine r_ite hG (fun h20 => ?_) (fun h20 => ?_)
            · refine r_tableIn (pc := 3) (tgt := 174) (off := 171) (by rw [h20]; decide) (by rw [h20]; decide) (by rw [h20]; decide) (by decide) hG dX12_counted_3 ?_
              refine r_aload_n (pc := 174) 1 0 rfl rfl hG dX12_counted_174 ?_
              refine r_bipush (pc := 175) (v := 56) (by decide) hG dX12_counted_175 ?_
              refine r_aload_n (pc := 177) 1 0 rfl rfl hG dX12_counted_177 ?_
              refine gf12_0 (pc := 178) lk1131 hG dX12_counted_178 ?_
              refine r_bipush (pc := 181) (v := 37) (by decide) hG dX12_counted_181 ?_
              refine r_iald (pc := 183) (i := 115) (rfl : shp 115 = 14) rfl (by decide) hG dX12_counted_183 ?_
              refine r_bR hG (fun r21 e23 => ?_)
              refine r_callVi (pc := 184) (As := [.int 56, .int (σ.1 115 (37 : Int32).toNatClampNeg)]) (c_Mo_sum X N 56 (σ.1 115 (37 : Int32).toNatClampNeg) σ r21 e23) (wsOf_at (rfl : shp 114 = 12) (by decide) rfl) rfl mfX12_317_X12_sum hyVX12_sum (by decide) (by decide) rfl (Nat.le_of_ble_eq_true rfl) hG dX12_counted_184 rfl (fun n22 => ?_)
              exact r_iret (pc := 187) rfl hG dX12_counted_187
            · refine r_ite hG (fun h24 => ?_) (fun h24 => ?_)
              · refine r_tableIn (pc := 3) (tgt := 188) (off := 185) (by rw [h24]; decide) (by rw [h24]; decide) (by rw [h24]; decide) (by decide) hG dX12_counted_3 ?_
                refine r_aload_n (pc := 188) 1 0 rfl rfl hG dX12_counted_188 ?_
                refine gf12_0 (pc := 189) lk1131 hG dX12_counted_189 ?_
                refine r_bipush (pc := 192) (v := 68) (by decide) hG dX12_counted_192 ?_
                refine r_iald (pc := 194) (i := 115) (rfl : shp 115 = 14) rfl (by decide) hG dX12_counted_194 ?_
                exact r_iret (pc := 195) rfl hG dX12_counted_195
              · refine r_ite hG (fun h25 => ?_) (fun h25 => ?_)
                · refine r_tableIn (pc := 3) (tgt := 196) (off := 193) (by rw [h25]; decide) (by rw [h25]; decide) (by rw [h25]; decide) (by decide) hG dX12_counted_3 ?_
                  refine r_aload_n (pc := 196) 1 0 rfl rfl hG dX12_counted_196 ?_
                  refine gf12_0 (pc := 197) lk1131 hG dX12_counted_197 ?_
                  refine r_bipush (pc := 200) (v := 89) (by decide) hG dX12_counted_200 ?_
                  refine r_iald (pc := 202) (i := 115) (rfl : shp 115 = 14) rfl (by decide) hG dX12_counted_202 ?_
                  exact r_iret (pc := 203) rfl hG dX12_counted_203
                · refine r_ite hG (fun h26 => ?_) (fun h26 => ?_)
                  · refine r_tableIn (pc := 3) (tgt := 204) (off := 201) (by rw [h26]; decide) (by rw [h26]; decide) (by rw [h26]; decide) (by decide) hG dX12_counted_3 ?_
                    refine r_aload_n (pc := 204) 1 0 rfl rfl hG dX12_counted_204 ?_
                    refine gf12_0 (pc := 205) lk1131 hG dX12_counted_205 ?_
                    refine r_bipush (pc := 208) (v := 126) (by decide) hG dX12_counted_208 ?_
                    refine r_iald (pc := 210) (i := 115) (rfl : shp 115 = 14) rfl (by decide) hG dX12_counted_210 ?_
                    exact r_iret (pc := 211) rfl hG dX12_counted_211
                  · refine r_ite hG (fun h27 => ?_) (fun h27 => ?_)
                    · refine r_tableIn (pc := 3) (tgt := 212) (off := 209) (by rw [h27]; decide) (by rw [h27]; decide) (by rw [h27]; decide) (by decide) hG dX12_counted_3 ?_
                      refine r_aload_n (pc := 212) 1 0 rfl rfl hG dX12_counted_212 ?_
                      refine gf12_0 (pc := 213) lk1131 hG dX12_counted_213 ?_
                      refine r_sipush (pc := 216) (v := 157) (by decide) hG dX12_counted_216 ?_
                      refine r_iald (pc := 219) (i := 115) (rfl : shp 115 = 14) rfl (by decide) hG dX12_counted_219 ?_
                      exact r_iret (pc := 220) rfl hG dX12_counted_220
                    · refine r_tableOut (pc := 3) (tgt := 221) (by have q0 := lv_neT h1 (a := 0) (by decide); have q1 := lv_neT h7 (a := 1) (by decide); have q2 := lv_neT h8 (a := 2) (by decide); have q3 := lv_neT h9 (a := 3) (by decide); have q4 := lv_neT h16 (a := 4) (by decide); have q5 := lv_neT h20 (a := 5) (by decide); have q6 := lv_neT h24 (a := 6) (by decide); have q7 := lv_neT h25 (a := 7) (by decide); have q8 := lv_neT h26 (a := 8) (by decide); have q9 := lv_neT h27 (a := 9) (by decide); omega) (by decide) hG dX12_counted_3 ?_
                      refine r_aload_n (pc := 221) 1 0 rfl rfl hG dX12_counted_221 ?_
                      refine gf12_5 (pc := 222) lk1136 hG dX12_counted_222 ?_
                      exact r_iret (pc := 225) rfl hG dX12_counted_225
