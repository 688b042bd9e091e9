set_option maxRecDepth 4000 in
theorem w_Mo_rows_J23 {X : Cx} {G : GT (Int32 × St)} (N : Nat) (hG : IsG X RX12 cX12_rows 4 5 (some .int) oWI G) (σ : St) : G (Mo_rows_J23 N σ) σ 23 [(0, .ref (X.2.1 + 114))] [] := by
  unfold Mo_rows_J23
  refine r_aload_n (pc := 23) 0 0 rfl rfl hG dX12_rows_23 ?_
  refine r_bipush (pc := 24) (v := (-2)) (by decide) hG dX12_rows_24 ?_
  refine r_bW hG (fun r5 s6 e8 => ?_)
  refine r_callVi (pc := 26) (As := [.int (-2)]) (c_Mo_bad X N (-2) σ r5 s6 e8) (wsOf_at (rfl : shp 114 = 12) (by decide) rfl) rfl mfX12_84_X12_bad hyVX12_bad (by decide) (by decide) rfl (Nat.le_of_ble_eq_true rfl) hG dX12_rows_26 rfl (fun n7 => ?_)
  exact r_iret (pc := 29) rfl hG dX12_rows_29
set_option maxRecDepth 4000 in
theorem c_Mo_rows (X : Cx) (N : Nat) (v1 : Int32) (v2 : Int32) (v3 : Int32) (σ : St) (r : Int32) (σ1 : St) (hE : Mo_rows N v1 v2 v3 σ = some (r, σ1)) : Ctr X yX12_rows cX12_rows 4 (some .int) 5 [.ref (X.2.1 + 114), .int v1, .int v2, .int v3] σ (some (.int r)) σ1 := by
  refine Ctr.of (out := oWI) (E := Mo_rows N v1 v2 v3 σ) rfl (Nat.le_of_ble_eq_true rfl) (fun G hG => ?_) (r, σ1) hE
  unfold Mo_rows
  refine r_aload_n (pc := 0) 0 0 rfl rfl hG dX12_rows_0 ?_
  refine r_iload_n (pc := 1) 1 1 rfl rfl hG dX12_rows_1 ?_
  refine r_bR hG (fun r1 e3 => ?_)
  refine r_callVi (pc := 2) (As := [.int v1]) (c_Mo_isGuest X N v1 σ r1 e3) (wsOf_at (rfl : shp 114 = 12) (by decide) rfl) rfl mfX12_190_X12_isGuest hyVX12_isGuest (by decide) (by decide) rfl (Nat.le_of_ble_eq_true rfl) hG dX12_rows_2 rfl (fun n2 => ?_)
  refine r_if_eq (pc := 5) (tgt := 23) (by decide) hG dX12_rows_5 (fun h4 => ?_) (fun h4 => ?_)
  · exact r_sub [0] rfl hG (w_Mo_rows_J23 N hG σ)
  · refine r_aload_n (pc := 8) 0 0 rfl rfl hG dX12_rows_8 ?_
    refine r_iload_n (pc := 9) 2 2 rfl rfl hG dX12_rows_9 ?_
    refine r_bR hG (fun r9 e11 => ?_)
    refine r_callVi (pc := 10) (As := [.int v2]) (c_Mo_isRower X N v2 σ r9 e11) (wsOf_at (rfl : shp 114 = 12) (by decide) rfl) rfl mfX12_193_X12_isRower hyVX12_isRower (by decide) (by decide) rfl (Nat.le_of_ble_eq_true rfl) hG dX12_rows_10 rfl (fun n10 => ?_)
    refine r_if_eq (pc := 13) (tgt := 23) (by decide) hG dX12_rows_13 (fun h12 => ?_) (fun h12 => ?_)
    · exact r_sub [0] rfl hG (w_Mo_rows_J23 N hG σ)
    · refine r_iload_n (pc := 16) 3 3 rfl rfl hG dX12_rows_16 ?_
      refine r_callSi (pc := 17) (As := [.int v3]) (c_Mo_isPlace X v3 σ) mfX12_92_X12_isPlace hySX12_isPlace (by decide) (by decide) rfl (Nat.le_of_ble_eq_true rfl) hG dX12_rows_17 rfl (fun n14 => ?_)
      refine r_if_ne (pc := 20) (tgt := 30) (by decide) hG dX12_rows_20 (fun h16 => ?_) (fun h16 => ?_)
      · refine r_aload_n (pc := 30) 0 0 rfl rfl hG dX12_rows_30 ?_
        refine r_iload_n (pc := 31) 1 1 rfl rfl hG dX12_rows_31 ?_
        refine r_iload_n (pc := 32) 3 3 rfl rfl hG dX12_rows_32 ?_
        refine r_bR hG (fun r17 e19 => ?_)
        refine r_callVi (pc := 33) (As := [.int v1, .int v3]) (c_Mo_can X N v1 v3 σ r17 e19) (wsOf_at (rfl : shp 114 = 12) (by decide) rfl) rfl mfX12_161_X12_can hyVX12_can (by decide) (by decide) rfl (Nat.le_of_ble_eq_true rfl) hG dX12_rows_33 rfl (fun n18 => ?_)
        refine r_if_ne (pc := 36) (tgt := 44) (by decide) hG dX12_rows_36 (fun h20 => ?_) (fun h20 => ?_)
        · refine r_aload_n (pc := 44) 0 0 rfl rfl hG dX12_rows_44 ?_
          refine r_bR hG (fun s22 e24 => ?_)
          refine r_callVv (pc := 45) (As := []) (c_Mo_notes X N σ s22 e24) (wsOf_at (rfl : shp 114 = 12) (by decide) rfl) rfl mfX12_199_X12_notes hyVX12_notes (by decide) (by decide) rfl (Nat.le_of_ble_eq_true rfl) hG dX12_rows_45 rfl (fun n23 => ?_)
          refine r_aload_n (pc := 48) 0 0 rfl rfl hG dX12_rows_48 ?_
          refine r_iload_n (pc := 49) 1 1 rfl rfl hG dX12_rows_49 ?_
          refine r_iload_n (pc := 50) 2 2 rfl rfl hG dX12_rows_50 ?_
          refine r_iload_n (pc := 51) 3 3 rfl rfl hG dX12_rows_51 ?_
          refine r_bR hG (fun s26 e28 => ?_)
          refine r_callVv (pc := 52) (As := [.int v1, .int v2, .int v3]) (c_Mo_rowed X N v1 v2 v3 s22 s26 e28) (wsOf_at (rfl : shp 114 = 12) (by decide) rfl) rfl mfX12_165_X12_rowed hyVX12_rowed (by decide) (by decide) rfl (Nat.le_of_ble_eq_true rfl) hG dX12_rows_52 rfl (fun n27 => ?_)
          refine r_aload_n (pc := 55) 0 0 rfl rfl hG dX12_rows_55 ?_
          refine gf12_0 (pc := 56) lk1131 hG dX12_rows_56 ?_
          refine r_bipush (pc := 59) (v := 52) (by decide) hG dX12_rows_59 ?_
          refine r_iload_n (pc := 61) 1 1 rfl rfl hG dX12_rows_61 ?_
          refine r_iadd (pc := 62) hG dX12_rows_62 ?_
          refine r_ck hG (fun h29 => ?_)
          refine r_iald (pc := 63) (i := 115) (rfl : shp 115 = 14) rfl h29 hG dX12_rows_63 ?_
          exact r_iret (pc := 64) rfl hG dX12_rows_64
        · refine r_aload_n (pc := 39) 0 0 rfl rfl hG dX12_rows_39 ?_
          refine r_bW hG (fun r30 s31 e33 => ?_)
          refine r_callVi (pc := 40) (As := []) (c_Mo_no X N σ r30 s31 e33) (wsOf_at (rfl : shp 114 = 12) (by decide) rfl) rfl mfX12_196_X12_no hyVX12_no (by decide) (by decide) rfl (Nat.le_of_ble_eq_true rfl) hG dX12_rows_40 rfl (fun n32 => ?_)
          exact r_iret (pc := 43) rfl hG dX12_rows_43
      · exact r_sub [0] rfl hG (w_Mo_rows_J23 N hG σ)
set_option maxRecDepth 4000 in
theorem c_Mo_enters (X : Cx) (N : Nat) (v1 : Int32) (σ : St) (r : Int32) (σ1 : St) (hE : Mo_enters N v1 σ = some (r, σ1)) : Ctr X yX12_enters cX12_enters 3 (some .int) 3 [.ref (X.2.1 + 114), .int v1] σ (some (.int r)) σ1 := by
  refine Ctr.of (out := oWI) (E := Mo_enters N v1 σ) rfl (Nat.le_of_ble_eq_true rfl) (fun G hG => ?_) (r, σ1) hE
  unfold Mo_enters
  refine r_aload_n (pc := 0) 0 0 rfl rfl hG dX12_enters_0 ?_
  refine r_iload_n (pc := 1) 1 1 rfl rfl hG dX12_enters_1 ?_
  refine r_bR hG (fun r1 e3 => ?_)
  refine r_callVi (pc := 2) (As := [.int v1]) (c_Mo_isGuest X N v1 σ r1 e3) (wsOf_at (rfl : shp 114 = 12) (by decide) rfl) rfl mfX12_190_X12_isGuest hyVX12_isGuest (by decide) (by decide) rfl (Nat.le_of_ble_eq_true rfl) hG dX12_enters_2 rfl (fun n2 => ?_)
  refine r_if_ne (pc := 5) (tgt := 15) (by decide) hG dX12_enters_5 (fun h4 => ?_) (fun h4 => ?_)
  · refine r_aload_n (pc := 15) 0 0 rfl rfl hG dX12_enters_15 ?_
    refine gf12_0 (pc := 16) lk1131 hG dX12_enters_16 ?_
    refine r_bipush (pc := 19) (v := 60) (by decide) hG dX12_enters_19 ?_
    refine r_iload_n (pc := 21) 1 1 rfl rfl hG dX12_enters_21 ?_
    refine r_iadd (pc := 22) hG dX12_enters_22 ?_
    refine r_ck hG (fun h5 => ?_)
    refine r_iald (pc := 23) (i := 115) (rfl : shp 115 = 14) rfl h5 hG dX12_enters_23 ?_
    refine r_if_ne (pc := 24) (tgt := 32) (by decide) hG dX12_enters_24 (fun h6 => ?_) (fun h6 => ?_)
    · refine r_aload_n (pc := 32) 0 0 rfl rfl hG dX12_enters_32 ?_
      refine r_bR hG (fun s8 e10 => ?_)
      refine r_callVv (pc := 33) (As := []) (c_Mo_notes X N σ s8 e10) (wsOf_at (rfl : shp 114 = 12) (by decide) rfl) rfl mfX12_199_X12_notes hyVX12_notes (by decide) (by decide) rfl (Nat.le_of_ble_eq_true rfl) hG dX12_enters_33 rfl (fun n9 => ?_)
      refine r_aload_n (pc := 36) 0 0 rfl rfl hG dX12_enters_36 ?_
      refine gf12_0 (pc := 37) lk1131 hG dX12_enters_37 ?_
      refine r_bipush (pc := 40) (v := 60) (by decide) hG dX12_enters_40 ?_
      refine r_iload_n (pc := 42) 1 1 rfl rfl hG dX12_enters_42 ?_
      refine r_iadd (pc := 43) hG dX12_enters_43 ?_
      refine r_ck hG (fun h11 => ?_)
      refine r_iald (pc := 44) (i := 115) (rfl : shp 115 = 14) rfl h11 hG dX12_enters_44 ?_
      refine r_bI hG (fun x12 => ?_)
      refine r_istore_n (pc := 45) (lv' := [(2, .int x12), (0, .ref (X.2.1 + 114)), (1, .int v1)]) 2 rfl (by decide) rfl hG dX12_enters_45 ?_
      refine r_aload_n (pc := 46) 1 0 rfl rfl hG dX12_enters_46 ?_
      refine gf12_0 (pc := 47) lk1131 hG dX12_enters_47 ?_
      refine r_bipush (pc := 50) (v := 60) (by decide) hG dX12_enters_50 ?_
      refine r_iload_n (pc := 52) 2 1 rfl rfl hG dX12_enters_52 ?_
      refine r_iadd (pc := 53) hG dX12_enters_53 ?_
      refine r_iconst (pc := 54) (v := 0) (by decide) hG dX12_enters_54 ?_
      refine r_ck hG (fun h13 => ?_)
      refine r_iast (pc := 55) (i := 115) (rfl : shp 115 = 14) rfl h13 hG dX12_enters_55 ?_
      refine r_bS hG (fun s14 => ?_)
      refine r_aload_n (pc := 56) 1 0 rfl rfl hG dX12_enters_56 ?_
      refine gf12_0 (pc := 57) lk1131 hG dX12_enters_57 ?_
      refine r_bipush (pc := 60) (v := 64) (by decide) hG dX12_enters_60 ?_
      refine r_iload_n (pc := 62) 2 1 rfl rfl hG dX12_enters_62 ?_
      refine r_iadd (pc := 63) hG dX12_enters_63 ?_
      refine r_iconst (pc := 64) (v := 0) (by decide) hG dX12_enters_64 ?_
      refine r_ck hG (fun h15 => ?_)
      refine r_iast (pc := 65) (i := 115) (rfl : shp 115 = 14) rfl h15 hG dX12_enters_65 ?_
      refine r_bS hG (fun s16 => ?_)
      refine r_iload_n (pc := 66) 0 2 rfl rfl hG dX12_enters_66 ?_
      exact r_iret (pc := 67) rfl hG dX12_enters_67
    · refine r_aload_n (pc := 27) 0 0 rfl rfl hG dX12_enters_27 ?_
      refine r_bW hG (fun r17 s18 e20 => ?_)
      refine r_callVi (pc := 28) (As := []) (c_Mo_no X N σ r17 s18 e20) (wsOf_at (rfl : shp 114 = 12) (by decide) rfl) rfl mfX12_196_X12_no hyVX12_no (by decide) (by decide) rfl (Nat.le_of_ble_eq_true rfl) hG dX12_enters_28 rfl (fun n19 => ?_)
      exact r_iret (pc := 31) rfl hG dX12_enters_31
  · refine r_aload_n (pc := 8) 0 0 rfl rfl hG dX12_enters_8 ?_
    refine r_bipush (pc := 9) (v := (-2)) (by decide) hG dX12_enters_9 ?_
    refine r_bW hG (fun r21 s22 e24 => ?_)
    refine r_callVi (pc := 11) (As := [.int (-2)]) (c_Mo_bad X N (-2) σ r21 s22 e24) (wsOf_at (rfl : shp 114 = 12) (by decide) rfl) rfl mfX12_84_X12_bad hyVX12_bad (by decide) (by decide) rfl (Nat.le_of_ble_eq_true rfl) hG dX12_enters_11 rfl (fun n23 => ?_)
    exact r_iret (pc := 14) rfl hG dX12_enters_14
set_option maxRecDepth 4000 in
theorem c_Mo_undo (X : Cx) (N : Nat) (σ : St) (r : Int32) (σ1 : St) (hE : Mo_undo N σ = some (r, σ1)) : Ctr X yX12_undo cX12_undo 1 (some .int) 2 [.ref (X.2.1 + 114)] σ (some (.int r)) σ1 := by
  refine Ctr.of (out := oWI) (E := Mo_undo N σ) rfl (Nat.le_of_ble_eq_true rfl) (fun G hG => ?_) (r, σ1) hE
  unfold Mo_undo
  refine r_aload_n (pc := 0) 0 0 rfl rfl hG dX12_undo_0 ?_
  refine gf12_0 (pc := 1) lk1131 hG dX12_undo_1 ?_
  refine r_sipush (pc := 4) (v := 157) (by decide) hG dX12_undo_4 ?_
  refine r_iald (pc := 7) (i := 115) (rfl : shp 115 = 14) rfl (by decide) hG dX12_undo_7 ?_
  refine r_if_ne (pc := 8) (tgt := 16) (by decide) hG dX12_undo_8 (fun h1 => ?_) (fun h1 => ?_)
  · refine r_aload_n (pc := 16) 0 0 rfl rfl hG dX12_undo_16 ?_
    refine gf12_0 (pc := 17) lk1131 hG dX12_undo_17 ?_
    refine r_sipush (pc := 20) (v := 157) (by decide) hG dX12_undo_20 ?_
    refine r_dup2 (pc := 23) rfl rfl hG dX12_undo_23 ?_
    refine r_iald (pc := 24) (i := 115) (rfl : shp 115 = 14) rfl (by decide) hG dX12_undo_24 ?_
    refine r_iconst (pc := 25) (v := 1) (by decide) hG dX12_undo_25 ?_
    refine r_isub (pc := 26) hG dX12_undo_26 ?_
    refine r_iast (pc := 27) (i := 115) (rfl : shp 115 = 14) rfl (by decide) hG dX12_undo_27 ?_
    refine r_bS hG (fun s2 => ?_)
    refine r_aload_n (pc := 28) 0 0 rfl rfl hG dX12_undo_28 ?_
    refine gf12_0 (pc := 29) lk1131 hG dX12_undo_29 ?_
    refine r_sipush (pc := 32) (v := 158) (by decide) hG dX12_undo_32 ?_
    refine r_bipush (pc := 35) (v := 16) (by decide) hG dX12_undo_35 ?_
    refine r_aload_n (pc := 37) 0 0 rfl rfl hG dX12_undo_37 ?_
    refine gf12_0 (pc := 38) lk1131 hG dX12_undo_38 ?_
    refine r_sipush (pc := 41) (v := 157) (by decide) hG dX12_undo_41 ?_
    refine r_iald (pc := 44) (i := 115) (rfl : shp 115 = 14) rfl (by decide) hG dX12_undo_44 ?_
    refine r_imul (pc := 45) hG dX12_undo_45 ?_
    refine r_iadd (pc := 46) hG dX12_undo_46 ?_
    refine r_aload_n (pc := 47) 0 0 rfl rfl hG dX12_undo_47 ?_
    refine gf12_0 (pc := 48) lk1131 hG dX12_undo_48 ?_
    refine r_bipush (pc := 51) (v := 52) (by decide) hG dX12_undo_51 ?_
    refine r_bipush (pc := 53) (v := 16) (by decide) hG dX12_undo_53 ?_
    refine r_bR hG (fun s4 e6 => ?_)
    refine r_callSv (pc := 55) (As := [.ref (X.2.1 + 115), .int (158 + (16 * (s2.1 115 (157 : Int32).toNatClampNeg))), .ref (X.2.1 + 115), .int 52, .int 16]) (c_Mo_copies X N 115 (158 + (16 * (s2.1 115 (157 : Int32).toNatClampNeg))) 115 52 16 s2 (rfl : shp 115 = 14) (rfl : shp 115 = 14) s4 e6) mfX12_175_X12_copies hySX12_copies (by decide) (by decide) rfl (Nat.le_of_ble_eq_true rfl) hG dX12_undo_55 rfl (fun n5 => ?_)
    refine r_aload_n (pc := 58) 0 0 rfl rfl hG dX12_undo_58 ?_
    refine gf12_0 (pc := 59) lk1131 hG dX12_undo_59 ?_
    refine r_sipush (pc := 62) (v := 157) (by decide) hG dX12_undo_62 ?_
    refine r_iald (pc := 65) (i := 115) (rfl : shp 115 = 14) rfl (by decide) hG dX12_undo_65 ?_
    exact r_iret (pc := 66) rfl hG dX12_undo_66
  · refine r_aload_n (pc := 11) 0 0 rfl rfl hG dX12_undo_11 ?_
    refine r_bW hG (fun r7 s8 e10 => ?_)
    refine r_callVi (pc := 12) (As := []) (c_Mo_no X N σ r7 s8 e10) (wsOf_at (rfl : shp 114 = 12) (by decide) rfl) rfl mfX12_196_X12_no hyVX12_no (by decide) (by decide) rfl (Nat.le_of_ble_eq_true rfl) hG dX12_undo_12 rfl (fun n9 => ?_)
    exact r_iret (pc := 15) rfl hG dX12_undo_15
set_option maxRecDepth 4000 in
theorem w_Mo_of_J36 {X : Cx} {G : GT (Int32 × St)} (N : Nat) (hG : IsG X RX12 cX12_of 3 3 (some .int) oWI G) (σ : St) : G (Mo_of_J36 N σ) σ 36 [(0, .ref (X.2.1 + 114))] [] := by
  unfold Mo_of_J36
  refine r_aload_n (pc := 36) 0 0 rfl rfl hG dX12_of_36 ?_
  refine r_bipush (pc := 37) (v := (-2)) (by decide) hG dX12_of_37 ?_
  refine r_bW hG (fun r5 s6 e8 => ?_)
  refine r_callVi (pc := 39) (As := [.int (-2)]) (c_Mo_bad X N (-2) σ r5 s6 e8) (wsOf_at (rfl : shp 114 = 12) (by decide) rfl) rfl mfX12_84_X12_bad hyVX12_bad (by decide) (by decide) rfl (Nat.le_of_ble_eq_true rfl) hG dX12_of_39 rfl (fun n7 => ?_)
  exact r_iret (pc := 42) rfl hG dX12_of_42
set_option maxRecDepth 4000 in
theorem c_Mo_of (X : Cx) (N : Nat) (v1 : Int32) (v2 : Int32) (σ : St) (r : Int32) (σ1 : St) (hE : Mo_of N v1 v2 σ = some (r, σ1)) : Ctr X yX12_of cX12_of 3 (some .int) 3 [.ref (X.2.1 + 114), .int v1, .int v2] σ (some (.int r)) σ1 := by
  refine Ctr.of (out := oWI) (E := Mo_of N v1 v2 σ) rfl (Nat.le_of_ble_eq_true rfl) (fun G hG => ?_) (r, σ1) hE
  unfold Mo_of
  refine r_aload_n (pc := 0) 0 0 rfl rfl hG dX12_of_0 ?_
  refine r_iload_n (pc := 1) 1 1 rfl rfl hG dX12_of_1 ?_
  refine r_bR hG (fun r1 e3 => ?_)
  refine r_callVi (pc := 2) (As := [.int v1]) (c_Mo_isGuest X N v1 σ r1 e3) (wsOf_at (rfl : shp 114 = 12) (by decide) rfl) rfl mfX12_190_X12_isGuest hyVX12_isGuest (by decide) (by decide) rfl (Nat.le_of_ble_eq_true rfl) hG dX12_of_2 rfl (fun n2 => ?_)
  refine r_if_eq (pc := 5) (tgt := 36) (by decide) hG dX12_of_5 (fun h4 => ?_) (fun h4 => ?_)
  · exact r_sub [0] rfl hG (w_Mo_of_J36 N hG σ)
  · refine r_iload_n (pc := 8) 2 2 rfl rfl hG dX12_of_8 ?_
    refine r_i2l (pc := 9) hG dX12_of_9 ?_
    refine r_lconst (pc := 10) (v := 0) (by decide) hG dX12_of_10 ?_
    refine r_ldc2 (pc := 11) (v := 5) lk1276 hG dX12_of_11 ?_
    refine r_callSi (pc := 14) (As := [.long ((v2).toInt64), .long 0, .long 5]) (c_Mo_in X ((v2).toInt64) 0 5 σ) mfX12_69_X12_in hySX12_in (by decide) (by decide) rfl (Nat.le_of_ble_eq_true rfl) hG dX12_of_14 rfl (fun n10 => ?_)
    refine r_if_eq (pc := 17) (tgt := 36) (by decide) hG dX12_of_17 (fun h12 => ?_) (fun h12 => ?_)
    · exact r_sub [0] rfl hG (w_Mo_of_J36 N hG σ)
    · refine r_aload_n (pc := 20) 0 0 rfl rfl hG dX12_of_20 ?_
      refine gf12_0 (pc := 21) lk1131 hG dX12_of_21 ?_
      refine r_bipush (pc := 24) (v := 44) (by decide) hG dX12_of_24 ?_
      refine r_iconst (pc := 26) (v := 4) (by decide) hG dX12_of_26 ?_
      refine r_iload_n (pc := 27) 2 2 rfl rfl hG dX12_of_27 ?_
      refine r_imul (pc := 28) hG dX12_of_28 ?_
      refine r_iadd (pc := 29) hG dX12_of_29 ?_
      refine r_iload_n (pc := 30) 1 1 rfl rfl hG dX12_of_30 ?_
      refine r_iadd (pc := 31) hG dX12_of_31 ?_
      refine r_ck hG (fun h13 => ?_)
      refine r_iald (pc := 32) (i := 115) (rfl : shp 115 = 14) rfl h13 hG dX12_of_32 ?_
      refine r_goto (pc := 33) (tgt := 42) (by decide) hG dX12_of_33 ?_
      exact r_iret (pc := 42) rfl hG dX12_of_42
set_option maxRecDepth 4000 in
theorem w_Mo_who_J34 {X : Cx} {G : GT (Int32 × St)} (N : Nat) (hG : IsG X RX12 cX12_who 3 3 (some .int) oWI G) (σ : St) : G (Mo_who_J34 N σ) σ 34 [(0, .ref (X.2.1 + 114))] [] := by
  unfold Mo_who_J34
  refine r_aload_n (pc := 34) 0 0 rfl rfl hG dX12_who_34 ?_
  refine r_bipush (pc := 35) (v := (-2)) (by decide) hG dX12_who_35 ?_
  refine r_bW hG (fun r5 s6 e8 => ?_)
  refine r_callVi (pc := 37) (As := [.int (-2)]) (c_Mo_bad X N (-2) σ r5 s6 e8) (wsOf_at (rfl : shp 114 = 12) (by decide) rfl) rfl mfX12_84_X12_bad hyVX12_bad (by decide) (by decide) rfl (Nat.le_of_ble_eq_true rfl) hG dX12_who_37 rfl (fun n7 => ?_)
  exact r_iret (pc := 40) rfl hG dX12_who_40
set_option maxRecDepth 4000 in
theorem c_Mo_who (X : Cx) (N : Nat) (v1 : Int32) (v2 : Int32) (σ : St) (r : Int32) (σ1 : St) (hE : Mo_who N v1 v2 σ = some (r, σ1)) : Ctr X yX12_who cX12_who 3 (some .int) 3 [.ref (X.2.1 + 114), .int v1, .int v2] σ (some (.int r)) σ1 := by
  refine Ctr.of (out := oWI) (E := Mo_who N v1 v2 σ) rfl (Nat.le_of_ble_eq_true rfl) (fun G hG => ?_) (r, σ1) hE
  unfold Mo_who
  refine r_aload_n (pc := 0) 0 0 rfl rfl hG dX12_who_0 ?_
  refine r_iload_n (pc := 1) 1 1 rfl rfl hG dX12_who_1 ?_
  refine r_bR hG (fun r1 e3 => ?_)
  refine r_callVi (pc := 2) (As := [.int v1]) (c_Mo_isRower X N v1 σ r1 e3) (wsOf_at (rfl : shp 114 = 12) (by decide) rfl) rfl mfX12_193_X12_isRower hyVX12_isRower (by decide) (by decide) rfl (Nat.le_of_ble_eq_true rfl) hG dX12_who_2 rfl (fun n2 => ?_)
  refine r_if_eq (pc := 5) (tgt := 34) (by decide) hG dX12_who_5 (fun h4 => ?_) (fun h4 => ?_)
  · exact r_sub [0] rfl hG (w_Mo_who_J34 N hG σ)
  · refine r_iload_n (pc := 8) 2 2 rfl rfl hG dX12_who_8 ?_
    refine r_i2l (pc := 9) hG dX12_who_9 ?_
    refine r_lconst (pc := 10) (v := 0) (by decide) hG dX12_who_10 ?_
    refine r_lconst (pc := 11) (v := 1) (by decide) hG dX12_who_11 ?_
    refine r_callSi (pc := 12) (As := [.long ((v2).toInt64), .long 0, .long 1]) (c_Mo_in X ((v2).toInt64) 0 1 σ) mfX12_69_X12_in hySX12_in (by decide) (by decide) rfl (Nat.le_of_ble_eq_true rfl) hG dX12_who_12 rfl (fun n10 => ?_)
    refine r_if_eq (pc := 15) (tgt := 34) (by decide) hG dX12_who_15 (fun h12 => ?_) (fun h12 => ?_)
    · exact r_sub [0] rfl hG (w_Mo_who_J34 N hG σ)
    · refine r_aload_n (pc := 18) 0 0 rfl rfl hG dX12_who_18 ?_
      refine gf12_0 (pc := 19) lk1131 hG dX12_who_19 ?_
      refine r_bipush (pc := 22) (v := 38) (by decide) hG dX12_who_22 ?_
      refine r_iconst (pc := 24) (v := 3) (by decide) hG dX12_who_24 ?_
      refine r_iload_n (pc := 25) 2 2 rfl rfl hG dX12_who_25 ?_
      refine r_imul (pc := 26) hG dX12_who_26 ?_
      refine r_iadd (pc := 27) hG dX12_who_27 ?_
      refine r_iload_n (pc := 28) 1 1 rfl rfl hG dX12_who_28 ?_
      refine r_iadd (pc := 29) hG dX12_who_29 ?_
      refine r_ck hG (fun h13 => ?_)
      refine r_iald (pc := 30) (i := 115) (rfl : shp 115 = 14) rfl h13 hG dX12_who_30 ?_
      refine r_goto (pc := 31) (tgt := 40) (by decide) hG dX12_who_31 ?_
      exact r_iret (pc := 40) rfl hG dX12_who_40
set_option maxRecDepth 4000 in
theorem w_Mo_beside_J27 {σ : St} {X : Cx} {G : GT Int32} (N : Nat) (hG : IsG X RX12 cX12_beside 4 4 (some .int) (oI σ) G) {K4 : Int32 → Int32 → Int32 → St → Option Int32} (hK4 : ∀ (v1 : Int32) (v2 : Int32) (v3 : Int32), G (K4 v1 v2 v3 σ) σ 4 [(0, .ref (X.2.1 + 114)), (1, .int v1), (2, .int v2), (3, .int v3)] []) (v1 : Int32) (v3 : Int32) (w0 : Int32) (w1 : Int32) : G (Mo_beside_J27 N K4 v1 v3 w0 w1 σ) σ 27 [(0, .ref (X.2.1 + 114)), (1, .int v1), (3, .int v3)] [.int w1, .int w0] := by
  unfold Mo_beside_J27
  refine r_ior (pc := 27) hG dX12_beside_27 ?_
  refine r_bI hG (fun x6 => ?_)
  refine r_istore_n (pc := 28) (lv' := [(2, .int x6), (0, .ref (X.2.1 + 114)), (1, .int v1), (3, .int v3)]) 2 rfl (by decide) rfl hG dX12_beside_28 ?_
  refine r_bIinc (pc := 29) (lv' := fun x7 => [(3, .int x7), (2, .int x6), (0, .ref (X.2.1 + 114)), (1, .int v1)]) 3 rfl rfl (by decide) (fun _ => rfl) hG dX12_beside_29 (fun x7 => ?_)
  refine r_goto (pc := 32) (tgt := 4) (by decide) hG dX12_beside_32 ?_
  exact r_sub [2, 3, 1, 0] rfl hG (hK4 v1 x6 x7)
set_option maxRecDepth 4000 in
theorem w_Mo_beside_L4B {σ : St} {X : Cx} {G : GT Int32} (N : Nat) (hG : IsG X RX12 cX12_beside 4 4 (some .int) (oI σ) G) {K4 : Int32 → Int32 → Int32 → St → Option Int32} (hK4 : ∀ (v1 : Int32) (v2 : Int32) (v3 : Int32), G (K4 v1 v2 v3 σ) σ 4 [(0, .ref (X.2.1 + 114)), (1, .int v1), (2, .int v2), (3, .int v3)] []) (v1 : Int32) (v2 : Int32) (v3 : Int32) : G (Mo_beside_L4B N K4 v1 v2 v3 σ) σ 4 [(0, .ref (X.2.1 + 114)), (1, .int v1), (2, .int v2), (3, .int v3)] [] := by
  unfold Mo_beside_L4B
  refine r_iload_n (pc := 4) 3 3 rfl rfl hG dX12_beside_4 ?_
  refine r_bipush (pc := 5) (v := 8) (by decide) hG dX12_beside_5 ?_
  refine r_icmp_ge (pc := 7) (tgt := 35) (by decide) hG dX12_beside_7 (fun h1 => ?_) (fun h1 => ?_)
  · refine r_iload_n (pc := 35) 2 2 rfl rfl hG dX12_beside_35 ?_
    exact r_iret (pc := 36) rfl hG dX12_beside_36
  · refine r_iload_n (pc := 10) 2 2 rfl rfl hG dX12_beside_10 ?_
    refine r_aload_n (pc := 11) 0 0 rfl rfl hG dX12_beside_11 ?_
    refine r_iload_n (pc := 12) 1 1 rfl rfl hG dX12_beside_12 ?_
    refine r_iload_n (pc := 13) 3 3 rfl rfl hG dX12_beside_13 ?_
    refine r_bR hG (fun r2 e4 => ?_)
    refine r_callVi (pc := 14) (As := [.int v1, .int v3]) (c_Mo_strokesOf X N v1 v3 σ r2 e4) (wsOf_at (rfl : shp 114 = 12) (by decide) rfl) rfl mfX12_96_X12_strokesOf hyVX12_strokesOf (by decide) (by decide) rfl (Nat.le_of_ble_eq_true rfl) hG dX12_beside_14 rfl (fun n3 => ?_)
    refine r_if_le (pc := 17) (tgt := 26) (by decide) hG dX12_beside_17 (fun h5 => ?_) (fun h5 => ?_)
    · refine r_iconst (pc := 26) (v := 0) (by decide) hG dX12_beside_26 ?_
      exact r_sub [0, 1, 3] rfl hG (w_Mo_beside_J27 N hG hK4 v1 v3 v2 0)
    · refine r_iconst (pc := 20) (v := 1) (by decide) hG dX12_beside_20 ?_
      refine r_iload_n (pc := 21) 3 3 rfl rfl hG dX12_beside_21 ?_
      refine r_ishl (pc := 22) hG dX12_beside_22 ?_
      refine r_goto (pc := 23) (tgt := 27) (by decide) hG dX12_beside_23 ?_
      exact r_sub [0, 1, 3] rfl hG (w_Mo_beside_J27 N hG hK4 v1 v3 v2 (1 <<< (v3 &&& 31)))
set_option maxRecDepth 4000 in
theorem w_Mo_beside_L4 {σ : St} {X : Cx} {G : GT Int32} (N : Nat) (hG : IsG X RX12 cX12_beside 4 4 (some .int) (oI σ) G) : ∀ (n : Nat), ∀ (v1 : Int32) (v2 : Int32) (v3 : Int32), G (Mo_beside_L4 N n v1 v2 v3 σ) σ 4 [(0, .ref (X.2.1 + 114)), (1, .int v1), (2, .int v2), (3, .int v3)] [] := by
  intro n
  induction n with
  | zero => intro v1 v2 v3; exact r_none hG
  | succ n ih => intro v1 v2 v3; exact w_Mo_beside_L4B N hG ih v1 v2 v3
set_option maxRecDepth 4000 in
theorem c_Mo_beside (X : Cx) (N : Nat) (v1 : Int32) (σ : St) (r : Int32) (hE : Mo_beside N v1 σ = some r) : Ctr X yX12_beside cX12_beside 4 (some .int) 4 [.ref (X.2.1 + 114), .int v1] σ (some (.int r)) σ := by
  refine Ctr.of (out := (oI σ)) (E := Mo_beside N v1 σ) rfl (Nat.le_of_ble_eq_true rfl) (fun G hG => ?_) r hE
  unfold Mo_beside
  refine r_iconst (pc := 0) (v := 0) (by decide) hG dX12_beside_0 ?_
  refine r_istore_n (pc := 1) (lv' := [(2, .int 0), (0, .ref (X.2.1 + 114)), (1, .int v1)]) 2 rfl (by decide) rfl hG dX12_beside_1 ?_
  refine r_iconst (pc := 2) (v := 0) (by decide) hG dX12_beside_2 ?_
  refine r_istore_n (pc := 3) (lv' := [(3, .int 0), (2, .int 0), (0, .ref (X.2.1 + 114)), (1, .int v1)]) 3 rfl (by decide) rfl hG dX12_beside_3 ?_
  exact r_sub [2, 3, 1, 0] rfl hG (w_Mo_beside_L4 N hG N v1 0 0)
set_option maxRecDepth 4000 in
theorem w_Mo_about_J19 {X : Cx} {G : GT (Int32 × St)} (N : Nat) (hG : IsG X RX12 cX12_about 5 5 (some .int) oWI G) (σ : St) : G (Mo_about_J19 N σ) σ 19 [(0, .ref (X.2.1 + 114))] [] := by
  unfold Mo_about_J19
  refine r_aload_n (pc := 19) 0 0 rfl rfl hG dX12_about_19 ?_
  refine r_bipush (pc := 20) (v := (-2)) (by decide) hG dX12_about_20 ?_
  refine r_bW hG (fun r5 s6 e8 => ?_)
  refine r_callVi (pc := 22) (As := [.int (-2)]) (c_Mo_bad X N (-2) σ r5 s6 e8) (wsOf_at (rfl : shp 114 = 12) (by decide) rfl) rfl mfX12_84_X12_bad hyVX12_bad (by decide) (by decide) rfl (Nat.le_of_ble_eq_true rfl) hG dX12_about_22 rfl (fun n7 => ?_)
  exact r_iret (pc := 25) rfl hG dX12_about_25
set_option maxRecDepth 4000 in
theorem w_Mo_about_J92 {X : Cx} {G : GT (Int32 × St)} (N : Nat) (hG : IsG X RX12 cX12_about 5 5 (some .int) oWI G) {K57 : Int32 → Int32 → Int32 → St → Option (Int32 × St)} (hK57 : ∀ (v1 : Int32) (v3 : Int32) (v4 : Int32) (s : St), G (K57 v1 v3 v4 s) s 57 [(0, .ref (X.2.1 + 114)), (1, .int v1), (3, .int v3), (4, .int v4)] []) (v1 : Int32) (v4 : Int32) (w0 : Int32) (w1 : Int32) (σ : St) : G (Mo_about_J92 N K57 v1 v4 w0 w1 σ) σ 92 [(0, .ref (X.2.1 + 114)), (1, .int v1), (4, .int v4)] [.int w1, .int w0] := by
  unfold Mo_about_J92
  refine r_ior (pc := 92) hG dX12_about_92 ?_
  refine r_bI hG (fun x17 => ?_)
  refine r_istore_n (pc := 93) (lv' := [(3, .int x17), (0, .ref (X.2.1 + 114)), (1, .int v1), (4, .int v4)]) 3 rfl (by decide) rfl hG dX12_about_93 ?_
  refine r_bIinc (pc := 94) (lv' := fun x18 => [(4, .int x18), (3, .int x17), (0, .ref (X.2.1 + 114)), (1, .int v1)]) 3 rfl rfl (by decide) (fun _ => rfl) hG dX12_about_94 (fun x18 => ?_)
  refine r_goto (pc := 97) (tgt := 57) (by decide) hG dX12_about_97 ?_
  exact r_sub [2, 3, 1, 0] rfl hG (hK57 v1 x17 x18 σ)
set_option maxRecDepth 4000 in
theorem w_Mo_about_L57B {X : Cx} {G : GT (Int32 × St)} (N : Nat) (hG : IsG X RX12 cX12_about 5 5 (some .int) oWI G) {K57 : Int32 → Int32 → Int32 → St → Option (Int32 × St)} (hK57 : ∀ (v1 : Int32) (v3 : Int32) (v4 : Int32) (s : St), G (K57 v1 v3 v4 s) s 57 [(0, .ref (X.2.1 + 114)), (1, .int v1), (3, .int v3), (4, .int v4)] []) (v1 : Int32) (v3 : Int32) (v4 : Int32) (σ : St) : G (Mo_about_L57B N K57 v1 v3 v4 σ) σ 57 [(0, .ref (X.2.1 + 114)), (1, .int v1), (3, .int v3), (4, .int v4)] [] := by
  unfold Mo_about_L57B
  refine r_iload (pc := 57) 3 rfl hG dX12_about_57 ?_
  refine r_aload_n (pc := 59) 0 0 rfl rfl hG dX12_about_59 ?_
  refine gf12_0 (pc := 60) lk1131 hG dX12_about_60 ?_
  refine r_bipush (pc := 63) (v := 37) (by decide) hG dX12_about_63 ?_
  refine r_iald (pc := 65) (i := 115) (rfl : shp 115 = 14) rfl (by decide) hG dX12_about_65 ?_
  refine r_icmp_ge (pc := 66) (tgt := 100) (by decide) hG dX12_about_66 (fun h14 => ?_) (fun h14 => ?_)
  · refine r_iload_n (pc := 100) 2 3 rfl rfl hG dX12_about_100 ?_
    exact r_iret (pc := 101) rfl hG dX12_about_101
  · refine r_iload_n (pc := 69) 2 3 rfl rfl hG dX12_about_69 ?_
    refine r_aload_n (pc := 70) 0 0 rfl rfl hG dX12_about_70 ?_
    refine gf12_0 (pc := 71) lk1131 hG dX12_about_71 ?_
    refine r_bipush (pc := 74) (v := 60) (by decide) hG dX12_about_74 ?_
    refine r_iload (pc := 76) 3 rfl hG dX12_about_76 ?_
    refine r_iadd (pc := 78) hG dX12_about_78 ?_
    refine r_ck hG (fun h15 => ?_)
    refine r_iald (pc := 79) (i := 115) (rfl : shp 115 = 14) rfl h15 hG dX12_about_79 ?_
    refine r_iload_n (pc := 80) 1 1 rfl rfl hG dX12_about_80 ?_
    refine r_icmp_ne (pc := 81) (tgt := 91) (by decide) hG dX12_about_81 (fun h16 => ?_) (fun h16 => ?_)
    · refine r_iconst (pc := 91) (v := 0) (by decide) hG dX12_about_91 ?_
      exact r_sub [0, 1, 3] rfl hG (w_Mo_about_J92 N hG hK57 v1 v4 v3 0 σ)
    · refine r_iconst (pc := 84) (v := 1) (by decide) hG dX12_about_84 ?_
      refine r_iload (pc := 85) 3 rfl hG dX12_about_85 ?_
      refine r_ishl (pc := 87) hG dX12_about_87 ?_
      refine r_goto (pc := 88) (tgt := 92) (by decide) hG dX12_about_88 ?_
      exact r_sub [0, 1, 3] rfl hG (w_Mo_about_J92 N hG hK57 v1 v4 v3 (1 <<< (v4 &&& 31)) σ)
set_option maxRecDepth 4000 in
theorem w_Mo_about_L57 {X : Cx} {G : GT (Int32 × St)} (N : Nat) (hG : IsG X RX12 cX12_about 5 5 (some .int) oWI G) : ∀ (n : Nat), ∀ (v1 : Int32) (v3 : Int32) (v4 : Int32) (σ : St), G (Mo_about_L57 N n v1 v3 v4 σ) σ 57 [(0, .ref (X.2.1 + 114)), (1, .int v1), (3, .int v3), (4, .int v4)] [] := by
  intro n
  induction n with
  | zero => intro v1 v3 v4 σ; exact r_none hG
  | succ n ih => intro v1 v3 v4 σ; exact w_Mo_about_L57B N hG ih v1 v3 v4 σ
set_option maxRecDepth 4000 in
theorem c_Mo_about (X : Cx) (N : Nat) (v1 : Int32) (v2 : Int32) (σ : St) (r : Int32) (σ1 : St) (hE : Mo_about N v1 v2 σ = some (r, σ1)) : Ctr X yX12_about cX12_about 5 (some .int) 5 [.ref (X.2.1 + 114), .int v1, .int v2] σ (some (.int r)) σ1 := by
  refine Ctr.of (out := oWI) (E := Mo_about N v1 v2 σ) rfl (Nat.le_of_ble_eq_true rfl) (fun G hG => ?_) (r, σ1) hE
  unfold Mo_about
  refine r_iload_n (pc := 0) 1 1 rfl rfl hG dX12_about_0 ?_
  refine r_callSi (pc := 1) (As := [.int v1]) (c_Mo_isPlace X v1 σ) mfX12_92_X12_isPlace hySX12_isPlace (by decide) (by decide) rfl (Nat.le_of_ble_eq_true rfl) hG dX12_about_1 rfl (fun n2 => ?_)
  refine r_if_eq (pc := 4) (tgt := 19) (by decide) hG dX12_about_4 (fun h4 => ?_) (fun h4 => ?_)
  · exact r_sub [0] rfl hG (w_Mo_about_J19 N hG σ)
  · refine r_iload_n (pc := 7) 2 2 rfl rfl hG dX12_about_7 ?_
    refine r_i2l (pc := 8) hG dX12_about_8 ?_
    refine r_lconst (pc := 9) (v := 0) (by decide) hG dX12_about_9 ?_
    refine r_ldc2 (pc := 10) (v := 2) lk1400 hG dX12_about_10 ?_
    refine r_callSi (pc := 13) (As := [.long ((v2).toInt64), .long 0, .long 2]) (c_Mo_in X ((v2).toInt64) 0 2 σ) mfX12_69_X12_in hySX12_in (by decide) (by decide) rfl (Nat.le_of_ble_eq_true rfl) hG dX12_about_13 rfl (fun n10 => ?_)
    refine r_if_ne (pc := 16) (tgt := 26) (by decide) hG dX12_about_16 (fun h12 => ?_) (fun h12 => ?_)
    · refine r_iload_n (pc := 26) 2 2 rfl rfl hG dX12_about_26 ?_
      refine r_iconst (pc := 27) (v := 2) (by decide) hG dX12_about_27 ?_
      refine r_icmp_ge (pc := 28) (tgt := 52) (by decide) hG dX12_about_28 (fun h13 => ?_) (fun h13 => ?_)
      · refine r_iconst (pc := 52) (v := 0) (by decide) hG dX12_about_52 ?_
        refine r_istore_n (pc := 53) (lv' := [(3, .int 0), (0, .ref (X.2.1 + 114)), (1, .int v1), (2, .int v2)]) 3 rfl (by decide) rfl hG dX12_about_53 ?_
        refine r_iconst (pc := 54) (v := 0) (by decide) hG dX12_about_54 ?_
        refine r_istore (pc := 55) (lv' := [(4, .int 0), (3, .int 0), (0, .ref (X.2.1 + 114)), (1, .int v1), (2, .int v2)]) (by decide) rfl hG dX12_about_55 ?_
        exact r_sub [2, 3, 1, 0] rfl hG (w_Mo_about_L57 N hG N v1 0 0 σ)
      · refine r_iload_n (pc := 31) 2 2 rfl rfl hG dX12_about_31 ?_
        refine r_if_ne (pc := 32) (tgt := 46) (by decide) hG dX12_about_32 (fun h19 => ?_) (fun h19 => ?_)
        · refine r_aload_n (pc := 46) 0 0 rfl rfl hG dX12_about_46 ?_
          refine r_iload_n (pc := 47) 1 1 rfl rfl hG dX12_about_47 ?_
          refine r_bR hG (fun r20 e22 => ?_)
          refine r_callVi (pc := 48) (As := [.int v1]) (c_Mo_beside X N v1 σ r20 e22) (wsOf_at (rfl : shp 114 = 12) (by decide) rfl) rfl mfX12_204_X12_beside hyVX12_beside (by decide) (by decide) rfl (Nat.le_of_ble_eq_true rfl) hG dX12_about_48 rfl (fun n21 => ?_)
          exact r_iret (pc := 51) rfl hG dX12_about_51
        · refine r_aload_n (pc := 35) 0 0 rfl rfl hG dX12_about_35 ?_
          refine gf12_0 (pc := 36) lk1131 hG dX12_about_36 ?_
          refine r_iconst (pc := 39) (v := 0) (by decide) hG dX12_about_39 ?_
          refine r_iload_n (pc := 40) 1 1 rfl rfl hG dX12_about_40 ?_
          refine r_iadd (pc := 41) hG dX12_about_41 ?_
          refine r_ck hG (fun h23 => ?_)
          refine r_iald (pc := 42) (i := 115) (rfl : shp 115 = 14) rfl h23 hG dX12_about_42 ?_
          refine r_goto (pc := 43) (tgt := 51) (by decide) hG dX12_about_43 ?_
          exact r_iret (pc := 51) rfl hG dX12_about_51
    · exact r_sub [0] rfl hG (w_Mo_about_J19 N hG σ)
set_option maxRecDepth 4000 in
theorem w_Mo_strokes_J23 {X : Cx} {G : GT (Int32 × St)} (N : Nat) (hG : IsG X RX12 cX12_strokes 3 4 (some .int) oWI G) (σ : St) : G (Mo_strokes_J23 N σ) σ 23 [(0, .ref (X.2.1 + 114))] [] := by
  unfold Mo_strokes_J23
  refine r_aload_n (pc := 23) 0 0 rfl rfl hG dX12_strokes_23 ?_
  refine r_bipush (pc := 24) (v := (-2)) (by decide) hG dX12_strokes_24 ?_
  refine r_bW hG (fun r5 s6 e8 => ?_)
  refine r_callVi (pc := 26) (As := [.int (-2)]) (c_Mo_bad X N (-2) σ r5 s6 e8) (wsOf_at (rfl : shp 114 = 12) (by decide) rfl) rfl mfX12_84_X12_bad hyVX12_bad (by decide) (by decide) rfl (Nat.le_of_ble_eq_true rfl) hG dX12_strokes_26 rfl (fun n7 => ?_)
  exact r_iret (pc := 29) rfl hG dX12_strokes_29
set_option maxRecDepth 4000 in
theorem c_Mo_strokes (X : Cx) (N : Nat) (v1 : Int32) (v2 : Int32) (σ : St) (r : Int32) (σ1 : St) (hE : Mo_strokes N v1 v2 σ = some (r, σ1)) : Ctr X yX12_strokes cX12_strokes 3 (some .int) 4 [.ref (X.2.1 + 114), .int v1, .int v2] σ (some (.int r)) σ1 := by
  refine Ctr.of (out := oWI) (E := Mo_strokes N v1 v2 σ) rfl (Nat.le_of_ble_eq_true rfl) (fun G hG => ?_) (r, σ1) hE
  unfold Mo_strokes
  refine r_iload_n (pc := 0) 1 1 rfl rfl hG dX12_strokes_0 ?_
  refine r_callSi (pc := 1) (As := [.int v1]) (c_Mo_isPlace X v1 σ) mfX12_92_X12_isPlace hySX12_isPlace (by decide) (by decide) rfl (Nat.le_of_ble_eq_true rfl) hG dX12_strokes_1 rfl (fun n2 => ?_)
  refine r_if_eq (pc := 4) (tgt := 23) (by decide) hG dX12_strokes_4 (fun h4 => ?_) (fun h4 => ?_)
  · exact r_sub [0] rfl hG (w_Mo_strokes_J23 N hG σ)
  · refine r_iload_n (pc := 7) 2 2 rfl rfl hG dX12_strokes_7 ?_
    refine r_callSi (pc := 8) (As := [.int v2]) (c_Mo_isPlace X v2 σ) mfX12_92_X12_isPlace hySX12_isPlace (by decide) (by decide) rfl (Nat.le_of_ble_eq_true rfl) hG dX12_strokes_8 rfl (fun n10 => ?_)
    refine r_if_eq (pc := 11) (tgt := 23) (by decide) hG dX12_strokes_11 (fun h12 => ?_) (fun h12 => ?_)
    · exact r_sub [0] rfl hG (w_Mo_strokes_J23 N hG σ)
    · refine r_aload_n (pc := 14) 0 0 rfl rfl hG dX12_strokes_14 ?_
      refine r_iload_n (pc := 15) 1 1 rfl rfl hG dX12_strokes_15 ?_
      refine r_iload_n (pc := 16) 2 2 rfl rfl hG dX12_strokes_16 ?_
      refine r_bR hG (fun r13 e15 => ?_)
      refine r_callVi (pc := 17) (As := [.int v1, .int v2]) (c_Mo_strokesOf X N v1 v2 σ r13 e15) (wsOf_at (rfl : shp 114 = 12) (by decide) rfl) rfl mfX12_96_X12_strokesOf hyVX12_strokesOf (by decide) (by decide) rfl (Nat.le_of_ble_eq_true rfl) hG dX12_strokes_17 rfl (fun n14 => ?_)
      refine r_goto (pc := 20) (tgt := 29) (by decide) hG dX12_strokes_20 ?_
      exact r_iret (pc := 29) rfl hG dX12_strokes_29
set_option maxRecDepth 4000 in
theorem w_Mo_far_J14 {X : Cx} {G : GT (Int32 × St)} (N : Nat) (hG : IsG X RX12 cX12_far 7 4 (some .int) oWI G) (σ : St) : G (Mo_far_J14 N σ) σ 14 [(0, .ref (X.2.1 + 114))] [] := by
  unfold Mo_far_J14
  refine r_aload_n (pc := 14) 0 0 rfl rfl hG dX12_far_14 ?_
  refine r_bipush (pc := 15) (v := (-2)) (by decide) hG dX12_far_15 ?_
  refine r_bW hG (fun r5 s6 e8 => ?_)
  refine r_callVi (pc := 17) (As := [.int (-2)]) (c_Mo_bad X N (-2) σ r5 s6 e8) (wsOf_at (rfl : shp 114 = 12) (by decide) rfl) rfl mfX12_84_X12_bad hyVX12_bad (by decide) (by decide) rfl (Nat.le_of_ble_eq_true rfl) hG dX12_far_17 rfl (fun n7 => ?_)
  exact r_iret (pc := 20) rfl hG dX12_far_20
set_option maxRecDepth 4000 in
theorem w_Mo_far_J151 {X : Cx} {G : GT (Int32 × St)} (N : Nat) (hG : IsG X RX12 cX12_far 7 4 (some .int) oWI G) (v2 : Int32) (σ : St) : G (Mo_far_J151 N v2 σ) σ 151 [(0, .ref (X.2.1 + 114)), (2, .int v2)] [] := by
  unfold Mo_far_J151
  refine r_aload_n (pc := 151) 0 0 rfl rfl hG dX12_far_151 ?_
  refine gf12_15 (pc := 152) lk1146 hG dX12_far_152 ?_
  refine r_iload_n (pc := 155) 1 2 rfl rfl hG dX12_far_155 ?_
  refine r_ck hG (fun h15 => ?_)
  refine r_iald (pc := 156) (i := 122) (rfl : shp 122 = 14) rfl h15 hG dX12_far_156 ?_
  refine r_sipush (pc := 157) (v := 999) (by decide) hG dX12_far_157 ?_
  refine r_icmp_ne (pc := 160) (tgt := 167) (by decide) hG dX12_far_160 (fun h16 => ?_) (fun h16 => ?_)
  · refine r_aload_n (pc := 167) 0 0 rfl rfl hG dX12_far_167 ?_
    refine gf12_15 (pc := 168) lk1146 hG dX12_far_168 ?_
    refine r_iload_n (pc := 171) 1 2 rfl rfl hG dX12_far_171 ?_
    refine r_ck hG (fun h17 => ?_)
    refine r_iald (pc := 172) (i := 122) (rfl : shp 122 = 14) rfl h17 hG dX12_far_172 ?_
    exact r_iret (pc := 173) rfl hG dX12_far_173
  · refine r_iconst (pc := 163) (v := (-1)) (by decide) hG dX12_far_163 ?_
    refine r_goto (pc := 164) (tgt := 173) (by decide) hG dX12_far_164 ?_
    exact r_iret (pc := 173) rfl hG dX12_far_173
set_option maxRecDepth 4000 in
theorem w_Mo_far_J145 {X : Cx} {G : GT (Int32 × St)} (N : Nat) (hG : IsG X RX12 cX12_far 7 4 (some .int) oWI G) {K55 : Int32 → Int32 → St → Option (Int32 × St)} (hK55 : ∀ (v2 : Int32) (v3 : Int32) (s : St), G (K55 v2 v3 s) s 55 [(0, .ref (X.2.1 + 114)), (2, .int v2), (3, .int v3)] []) (v2 : Int32) (v3 : Int32) (σ : St) : G (Mo_far_J145 N K55 v2 v3 σ) σ 145 [(0, .ref (X.2.1 + 114)), (2, .int v2), (3, .int v3)] [] := by
  unfold Mo_far_J145
  refine r_bIinc (pc := 145) (lv' := fun x19 => [(3, .int x19), (0, .ref (X.2.1 + 114)), (2, .int v2)]) 2 rfl rfl (by decide) (fun _ => rfl) hG dX12_far_145 (fun x19 => ?_)
  refine r_goto (pc := 148) (tgt := 55) (by decide) hG dX12_far_148 ?_
  exact r_sub [1, 2, 0] rfl hG (hK55 v2 x19 σ)
set_option maxRecDepth 4000 in
theorem w_Mo_far_J139 {X : Cx} {G : GT (Int32 × St)} (N : Nat) (hG : IsG X RX12 cX12_far 7 4 (some .int) oWI G) {K55 : Int32 → Int32 → St → Option (Int32 × St)} {K64 : Int32 → Int32 → Int32 → St → Option (Int32 × St)} (hK55 : ∀ (v2 : Int32) (v3 : Int32) (s : St), G (K55 v2 v3 s) s 55 [(0, .ref (X.2.1 + 114)), (2, .int v2), (3, .int v3)] []) (hK64 : ∀ (v2 : Int32) (v3 : Int32) (v4 : Int32) (s : St), G (K64 v2 v3 v4 s) s 64 [(0, .ref (X.2.1 + 114)), (2, .int v2), (3, .int v3), (4, .int v4)] []) (v2 : Int32) (v3 : Int32) (v4 : Int32) (σ : St) : G (Mo_far_J139 N K55 K64 v2 v3 v4 σ) σ 139 [(0, .ref (X.2.1 + 114)), (2, .int v2), (3, .int v3), (4, .int v4)] [] := by
  unfold Mo_far_J139
  refine r_bIinc (pc := 139) (lv' := fun x21 => [(4, .int x21), (0, .ref (X.2.1 + 114)), (2, .int v2), (3, .int v3)]) 3 rfl rfl (by decide) (fun _ => rfl) hG dX12_far_139 (fun x21 => ?_)
  refine r_goto (pc := 142) (tgt := 64) (by decide) hG dX12_far_142 ?_
  exact r_sub [1, 2, 3, 0] rfl hG (hK64 v2 v3 x21 σ)
set_option maxRecDepth 4000 in
theorem w_Mo_far_J132 {X : Cx} {G : GT (Int32 × St)} (N : Nat) (hG : IsG X RX12 cX12_far 7 4 (some .int) oWI G) {K55 : Int32 → Int32 → St → Option (Int32 × St)} {K64 : Int32 → Int32 → Int32 → St → Option (Int32 × St)} {K74 : Int32 → Int32 → Int32 → Int32 → St → Option (Int32 × St)} (hK55 : ∀ (v2 : Int32) (v3 : Int32) (s : St), G (K55 v2 v3 s) s 55 [(0, .ref (X.2.1 + 114)), (2, .int v2), (3, .int v3)] []) (hK64 : ∀ (v2 : Int32) (v3 : Int32) (v4 : Int32) (s : St), G (K64 v2 v3 v4 s) s 64 [(0, .ref (X.2.1 + 114)), (2, .int v2), (3, .int v3), (4, .int v4)] []) (hK74 : ∀ (v2 : Int32) (v3 : Int32) (v4 : Int32) (v5 : Int32) (s : St), G (K74 v2 v3 v4 v5 s) s 74 [(0, .ref (X.2.1 + 114)), (2, .int v2), (3, .int v3), (4, .int v4), (5, .int v5)] []) (v2 : Int32) (v3 : Int32) (v4 : Int32) (v5 : Int32) (w1 : Int32) (w2 : Int32) (σ : St) : G (Mo_far_J132 N K55 K64 K74 v2 v3 v4 v5 w1 w2 σ) σ 132 [(0, .ref (X.2.1 + 114)), (2, .int v2), (3, .int v3), (4, .int v4), (5, .int v5)] [.int w2, .int w1, .ref (X.2.1 + 122)] := by
  unfold Mo_far_J132
  refine r_ck hG (fun h27 => ?_)
  refine r_iast (pc := 132) (i := 122) (rfl : shp 122 = 14) rfl h27 hG dX12_far_132 ?_
  refine r_bS hG (fun s28 => ?_)
  refine r_bIinc (pc := 133) (lv' := fun x29 => [(5, .int x29), (0, .ref (X.2.1 + 114)), (2, .int v2), (3, .int v3), (4, .int v4)]) 4 rfl rfl (by decide) (fun _ => rfl) hG dX12_far_133 (fun x29 => ?_)
  refine r_goto (pc := 136) (tgt := 74) (by decide) hG dX12_far_136 ?_
  exact r_sub [1, 2, 3, 4, 0] rfl hG (hK74 v2 v3 v4 x29 s28)
set_option maxRecDepth 4000 in
theorem w_Mo_far_L74B {X : Cx} {G : GT (Int32 × St)} (N : Nat) (hG : IsG X RX12 cX12_far 7 4 (some .int) oWI G) {K55 : Int32 → Int32 → St → Option (Int32 × St)} {K64 : Int32 → Int32 → Int32 → St → Option (Int32 × St)} {K74 : Int32 → Int32 → Int32 → Int32 → St → Option (Int32 × St)} (hK55 : ∀ (v2 : Int32) (v3 : Int32) (s : St), G (K55 v2 v3 s) s 55 [(0, .ref (X.2.1 + 114)), (2, .int v2), (3, .int v3)] []) (hK64 : ∀ (v2 : Int32) (v3 : Int32) (v4 : Int32) (s : St), G (K64 v2 v3 v4 s) s 64 [(0, .ref (X.2.1 + 114)), (2, .int v2), (3, .int v3), (4, .int v4)] []) (hK74 : ∀ (v2 : Int32) (v3 : Int32) (v4 : Int32) (v5 : Int32) (s : St), G (K74 v2 v3 v4 v5 s) s 74 [(0, .ref (X.2.1 + 114)), (2, .int v2), (3, .int v3), (4, .int v4), (5, .int v5)] []) (v2 : Int32) (v3 : Int32) (v4 : Int32) (v5 : Int32) (σ : St) : G (Mo_far_L74B N K55 K64 K74 v2 v3 v4 v5 σ) σ 74 [(0, .ref (X.2.1 + 114)), (2, .int v2), (3, .int v3), (4, .int v4), (5, .int v5)] [] := by
  unfold Mo_far_L74B
  refine r_iload (pc := 74) 4 rfl hG dX12_far_74 ?_
  refine r_bipush (pc := 76) (v := 8) (by decide) hG dX12_far_76 ?_
  refine r_icmp_ge (pc := 78) (tgt := 139) (by decide) hG dX12_far_78 (fun h20 => ?_) (fun h20 => ?_)
  · exact r_sub [0, 1, 2, 3] rfl hG (w_Mo_far_J139 N hG hK55 hK64 v2 v3 v4 σ)
  · refine r_aload_n (pc := 81) 0 0 rfl rfl hG dX12_far_81 ?_
    refine r_iload (pc := 82) 3 rfl hG dX12_far_82 ?_
    refine r_iload (pc := 84) 4 rfl hG dX12_far_84 ?_
    refine r_bR hG (fun r22 e24 => ?_)
    refine r_callVi (pc := 86) (As := [.int v4, .int v5]) (c_Mo_strokesOf X N v4 v5 σ r22 e24) (wsOf_at (rfl : shp 114 = 12) (by decide) rfl) rfl mfX12_96_X12_strokesOf hyVX12_strokesOf (by decide) (by decide) rfl (Nat.le_of_ble_eq_true rfl) hG dX12_far_86 rfl (fun n23 => ?_)
    refine r_istore (pc := 89) (lv' := [(6, .int r22), (0, .ref (X.2.1 + 114)), (2, .int v2), (3, .int v3), (4, .int v4), (5, .int v5)]) (by decide) rfl hG dX12_far_89 ?_
    refine r_aload_n (pc := 91) 1 0 rfl rfl hG dX12_far_91 ?_
    refine gf12_15 (pc := 92) lk1146 hG dX12_far_92 ?_
    refine r_iload (pc := 95) 5 rfl hG dX12_far_95 ?_
    refine r_iload (pc := 97) 0 rfl hG dX12_far_97 ?_
    refine r_if_le (pc := 99) (tgt := 125) (by decide) hG dX12_far_99 (fun h25 => ?_) (fun h25 => ?_)
    · refine r_aload_n (pc := 125) 1 0 rfl rfl hG dX12_far_125 ?_
      refine gf12_15 (pc := 126) lk1146 hG dX12_far_126 ?_
      refine r_iload (pc := 129) 5 rfl hG dX12_far_129 ?_
      refine r_ck hG (fun h26 => ?_)
      refine r_iald (pc := 131) (i := 122) (rfl : shp 122 = 14) rfl h26 hG dX12_far_131 ?_
      exact r_sub [1, 2, 3, 4, 5] rfl hG (w_Mo_far_J132 N hG hK55 hK64 hK74 v2 v3 v4 v5 v5 (σ.1 122 (v5).toNatClampNeg) σ)
    · refine r_aload_n (pc := 102) 1 0 rfl rfl hG dX12_far_102 ?_
      refine gf12_15 (pc := 103) lk1146 hG dX12_far_103 ?_
      refine r_iload (pc := 106) 5 rfl hG dX12_far_106 ?_
      refine r_ck hG (fun h30 => ?_)
      refine r_iald (pc := 108) (i := 122) (rfl : shp 122 = 14) rfl h30 hG dX12_far_108 ?_
      refine r_aload_n (pc := 109) 1 0 rfl rfl hG dX12_far_109 ?_
      refine gf12_15 (pc := 110) lk1146 hG dX12_far_110 ?_
      refine r_iload (pc := 113) 4 rfl hG dX12_far_113 ?_
      refine r_ck hG (fun h31 => ?_)
      refine r_iald (pc := 115) (i := 122) (rfl : shp 122 = 14) rfl h31 hG dX12_far_115 ?_
      refine r_iload (pc := 116) 0 rfl hG dX12_far_116 ?_
      refine r_iadd (pc := 118) hG dX12_far_118 ?_
      refine r_callSi (pc := 119) (As := [.int (σ.1 122 (v5).toNatClampNeg), .int ((σ.1 122 (v4).toNatClampNeg) + r22)]) (c_Mo_less X (σ.1 122 (v5).toNatClampNeg) ((σ.1 122 (v4).toNatClampNeg) + r22) σ) mfX12_75_X12_less hySX12_less (by decide) (by decide) rfl (Nat.le_of_ble_eq_true rfl) hG dX12_far_119 rfl (fun n33 => ?_)
      refine r_goto (pc := 122) (tgt := 132) (by decide) hG dX12_far_122 ?_
      exact r_sub [1, 2, 3, 4, 5] rfl hG (w_Mo_far_J132 N hG hK55 hK64 hK74 v2 v3 v4 v5 v5 (Mo_less (σ.1 122 (v5).toNatClampNeg) ((σ.1 122 (v4).toNatClampNeg) + r22)) σ)
set_option maxRecDepth 4000 in
theorem w_Mo_far_L74 {X : Cx} {G : GT (Int32 × St)} (N : Nat) (hG : IsG X RX12 cX12_far 7 4 (some .int) oWI G) {K55 : Int32 → Int32 → St → Option (Int32 × St)} {K64 : Int32 → Int32 → Int32 → St → Option (Int32 × St)} (hK55 : ∀ (v2 : Int32) (v3 : Int32) (s : St), G (K55 v2 v3 s) s 55 [(0, .ref (X.2.1 + 114)), (2, .int v2), (3, .int v3)] []) (hK64 : ∀ (v2 : Int32) (v3 : Int32) (v4 : Int32) (s : St), G (K64 v2 v3 v4 s) s 64 [(0, .ref (X.2.1 + 114)), (2, .int v2), (3, .int v3), (4, .int v4)] []) : ∀ (n : Nat), ∀ (v2 : Int32) (v3 : Int32) (v4 : Int32) (v5 : Int32) (σ : St), G (Mo_far_L74 N K55 K64 n v2 v3 v4 v5 σ) σ 74 [(0, .ref (X.2.1 + 114)), (2, .int v2), (3, .int v3), (4, .int v4), (5, .int v5)] [] := by
  intro n
  induction n with
  | zero => intro v2 v3 v4 v5 σ; exact r_none hG
  | succ n ih => intro v2 v3 v4 v5 σ; exact w_Mo_far_L74B N hG hK55 hK64 ih v2 v3 v4 v5 σ
set_option maxRecDepth 4000 in
theorem w_Mo_far_L64B {X : Cx} {G : GT (Int32 × St)} (N : Nat) (hG : IsG X RX12 cX12_far 7 4 (some .int) oWI G) {K55 : Int32 → Int32 → St → Option (Int32 × St)} {K64 : Int32 → Int32 → Int32 → St → Option (Int32 × St)} (hK55 : ∀ (v2 : Int32) (v3 : Int32) (s : St), G (K55 v2 v3 s) s 55 [(0, .ref (X.2.1 + 114)), (2, .int v2), (3, .int v3)] []) (hK64 : ∀ (v2 : Int32) (v3 : Int32) (v4 : Int32) (s : St), G (K64 v2 v3 v4 s) s 64 [(0, .ref (X.2.1 + 114)), (2, .int v2), (3, .int v3), (4, .int v4)] []) (v2 : Int32) (v3 : Int32) (v4 : Int32) (σ : St) : G (Mo_far_L64B N K55 K64 v2 v3 v4 σ) σ 64 [(0, .ref (X.2.1 + 114)), (2, .int v2), (3, .int v3), (4, .int v4)] [] := by
  unfold Mo_far_L64B
  refine r_iload (pc := 64) 3 rfl hG dX12_far_64 ?_
  refine r_bipush (pc := 66) (v := 8) (by decide) hG dX12_far_66 ?_
  refine r_icmp_ge (pc := 68) (tgt := 145) (by decide) hG dX12_far_68 (fun h18 => ?_) (fun h18 => ?_)
  · exact r_sub [0, 1, 2] rfl hG (w_Mo_far_J145 N hG hK55 v2 v3 σ)
  · refine r_iconst (pc := 71) (v := 0) (by decide) hG dX12_far_71 ?_
    refine r_istore (pc := 72) (lv' := [(5, .int 0), (0, .ref (X.2.1 + 114)), (2, .int v2), (3, .int v3), (4, .int v4)]) (by decide) rfl hG dX12_far_72 ?_
    exact r_sub [1, 2, 3, 4, 0] rfl hG (w_Mo_far_L74 N hG hK55 hK64 N v2 v3 v4 0 σ)
set_option maxRecDepth 4000 in
theorem w_Mo_far_L64 {X : Cx} {G : GT (Int32 × St)} (N : Nat) (hG : IsG X RX12 cX12_far 7 4 (some .int) oWI G) {K55 : Int32 → Int32 → St → Option (Int32 × St)} (hK55 : ∀ (v2 : Int32) (v3 : Int32) (s : St), G (K55 v2 v3 s) s 55 [(0, .ref (X.2.1 + 114)), (2, .int v2), (3, .int v3)] []) : ∀ (n : Nat), ∀ (v2 : Int32) (v3 : Int32) (v4 : Int32) (σ : St), G (Mo_far_L64 N K55 n v2 v3 v4 σ) σ 64 [(0, .ref (X.2.1 + 114)), (2, .int v2), (3, .int v3), (4, .int v4)] [] := by
  intro n
  induction n with
  | zero => intro v2 v3 v4 σ; exact r_none hG
  | succ n ih => intro v2 v3 v4 σ; exact w_Mo_far_L64B N hG hK55 ih v2 v3 v4 σ
set_option maxRecDepth 4000 in
theorem w_Mo_far_L55B {X : Cx} {G : GT (Int32 × St)} (N : Nat) (hG : IsG X RX12 cX12_far 7 4 (some .int) oWI G) {K55 : Int32 → Int32 → St → Option (Int32 × St)} (hK55 : ∀ (v2 : Int32) (v3 : Int32) (s : St), G (K55 v2 v3 s) s 55 [(0, .ref (X.2.1 + 114)), (2, .int v2), (3, .int v3)] []) (v2 : Int32) (v3 : Int32) (σ : St) : G (Mo_far_L55B N K55 v2 v3 σ) σ 55 [(0, .ref (X.2.1 + 114)), (2, .int v2), (3, .int v3)] [] := by
  unfold Mo_far_L55B
  refine r_iload_n (pc := 55) 2 3 rfl rfl hG dX12_far_55 ?_
  refine r_bipush (pc := 56) (v := 8) (by decide) hG dX12_far_56 ?_
  refine r_icmp_ge (pc := 58) (tgt := 151) (by decide) hG dX12_far_58 (fun h14 => ?_) (fun h14 => ?_)
  · exact r_sub [0, 1] rfl hG (w_Mo_far_J151 N hG v2 σ)
  · refine r_iconst (pc := 61) (v := 0) (by decide) hG dX12_far_61 ?_
    refine r_istore (pc := 62) (lv' := [(4, .int 0), (0, .ref (X.2.1 + 114)), (2, .int v2), (3, .int v3)]) (by decide) rfl hG dX12_far_62 ?_
    exact r_sub [1, 2, 3, 0] rfl hG (w_Mo_far_L64 N hG hK55 N v2 v3 0 σ)
set_option maxRecDepth 4000 in
theorem w_Mo_far_L55 {X : Cx} {G : GT (Int32 × St)} (N : Nat) (hG : IsG X RX12 cX12_far 7 4 (some .int) oWI G) : ∀ (n : Nat), ∀ (v2 : Int32) (v3 : Int32) (σ : St), G (Mo_far_L55 N n v2 v3 σ) σ 55 [(0, .ref (X.2.1 + 114)), (2, .int v2), (3, .int v3)] [] := by
  intro n
  induction n with
  | zero => intro v2 v3 σ; exact r_none hG
  | succ n ih => intro v2 v3 σ; exact w_Mo_far_L55B N hG ih v2 v3 σ
set_option maxRecDepth 4000 in
theorem w_Mo_far_J53 {X : Cx} {G : GT (Int32 × St)} (N : Nat) (hG : IsG X RX12 cX12_far 7 4 (some .int) oWI G) (v2 : Int32) (σ : St) : G (Mo_far_J53 N v2 σ) σ 53 [(0, .ref (X.2.1 + 114)), (2, .int v2)] [] := by
  unfold Mo_far_J53
  refine r_iconst (pc := 53) (v := 0) (by decide) hG dX12_far_53 ?_
  refine r_istore_n (pc := 54) (lv' := [(3, .int 0), (0, .ref (X.2.1 + 114)), (2, .int v2)]) 3 rfl (by decide) rfl hG dX12_far_54 ?_
  exact r_sub [1, 2, 0] rfl hG (w_Mo_far_L55 N hG N v2 0 σ)
set_option maxRecDepth 4000 in
theorem w_Mo_far_J46 {X : Cx} {G : GT (Int32 × St)} (N : Nat) (hG : IsG X RX12 cX12_far 7 4 (some .int) oWI G) {K23 : Int32 → Int32 → Int32 → St → Option (Int32 × St)} (hK23 : ∀ (v1 : Int32) (v2 : Int32) (v3 : Int32) (s : St), G (K23 v1 v2 v3 s) s 23 [(0, .ref (X.2.1 + 114)), (1, .int v1), (2, .int v2), (3, .int v3)] []) (v1 : Int32) (v2 : Int32) (v3 : Int32) (w1 : Int32) (w2 : Int32) (σ : St) : G (Mo_far_J46 N K23 v1 v2 v3 w1 w2 σ) σ 46 [(0, .ref (X.2.1 + 114)), (1, .int v1), (2, .int v2), (3, .int v3)] [.int w2, .int w1, .ref (X.2.1 + 122)] := by
  unfold Mo_far_J46
  refine r_ck hG (fun h36 => ?_)
  refine r_iast (pc := 46) (i := 122) (rfl : shp 122 = 14) rfl h36 hG dX12_far_46 ?_
  refine r_bS hG (fun s37 => ?_)
  refine r_bIinc (pc := 47) (lv' := fun x38 => [(3, .int x38), (0, .ref (X.2.1 + 114)), (1, .int v1), (2, .int v2)]) 3 rfl rfl (by decide) (fun _ => rfl) hG dX12_far_47 (fun x38 => ?_)
  refine r_goto (pc := 50) (tgt := 23) (by decide) hG dX12_far_50 ?_
  exact r_sub [1, 2, 3, 0] rfl hG (hK23 v1 v2 x38 s37)
set_option maxRecDepth 4000 in
theorem w_Mo_far_L23B {X : Cx} {G : GT (Int32 × St)} (N : Nat) (hG : IsG X RX12 cX12_far 7 4 (some .int) oWI G) {K23 : Int32 → Int32 → Int32 → St → Option (Int32 × St)} (hK23 : ∀ (v1 : Int32) (v2 : Int32) (v3 : Int32) (s : St), G (K23 v1 v2 v3 s) s 23 [(0, .ref (X.2.1 + 114)), (1, .int v1), (2, .int v2), (3, .int v3)] []) (v1 : Int32) (v2 : Int32) (v3 : Int32) (σ : St) : G (Mo_far_L23B N K23 v1 v2 v3 σ) σ 23 [(0, .ref (X.2.1 + 114)), (1, .int v1), (2, .int v2), (3, .int v3)] [] := by
  unfold Mo_far_L23B
  refine r_iload_n (pc := 23) 3 3 rfl rfl hG dX12_far_23 ?_
  refine r_bipush (pc := 24) (v := 8) (by decide) hG dX12_far_24 ?_
  refine r_icmp_ge (pc := 26) (tgt := 53) (by decide) hG dX12_far_26 (fun h13 => ?_) (fun h13 => ?_)
  · exact r_sub [0, 2] rfl hG (w_Mo_far_J53 N hG v2 σ)
  · refine r_aload_n (pc := 29) 0 0 rfl rfl hG dX12_far_29 ?_
    refine gf12_15 (pc := 30) lk1146 hG dX12_far_30 ?_
    refine r_iload_n (pc := 33) 3 3 rfl rfl hG dX12_far_33 ?_
    refine r_iload_n (pc := 34) 3 3 rfl rfl hG dX12_far_34 ?_
    refine r_iload_n (pc := 35) 1 1 rfl rfl hG dX12_far_35 ?_
    refine r_icmp_ne (pc := 36) (tgt := 43) (by decide) hG dX12_far_36 (fun h35 => ?_) (fun h35 => ?_)
    · refine r_sipush (pc := 43) (v := 999) (by decide) hG dX12_far_43 ?_
      exact w_Mo_far_J46 N hG hK23 v1 v2 v3 v3 999 σ
    · refine r_iconst (pc := 39) (v := 0) (by decide) hG dX12_far_39 ?_
      refine r_goto (pc := 40) (tgt := 46) (by decide) hG dX12_far_40 ?_
      exact w_Mo_far_J46 N hG hK23 v1 v2 v3 v3 0 σ
set_option maxRecDepth 4000 in
theorem w_Mo_far_L23 {X : Cx} {G : GT (Int32 × St)} (N : Nat) (hG : IsG X RX12 cX12_far 7 4 (some .int) oWI G) : ∀ (n : Nat), ∀ (v1 : Int32) (v2 : Int32) (v3 : Int32) (σ : St), G (Mo_far_L23 N n v1 v2 v3 σ) σ 23 [(0, .ref (X.2.1 + 114)), (1, .int v1), (2, .int v2), (3, .int v3)] [] := by
  intro n
  induction n with
  | zero => intro v1 v2 v3 σ; exact r_none hG
  | succ n ih => intro v1 v2 v3 σ; exact w_Mo_far_L23B N hG ih v1 v2 v3 σ
set_option maxRecDepth 4000 in
theorem c_Mo_far (X : Cx) (N : Nat) (v1 : Int32) (v2 : Int32) (σ : St) (r : Int32) (σ1 : St) (hE : Mo_far N v1 v2 σ = some (r, σ1)) : Ctr X yX12_far cX12_far 7 (some .int) 4 [.ref (X.2.1 + 114), .int v1, .int v2] σ (some (.int r)) σ1 := by
  refine Ctr.of (out := oWI) (E := Mo_far N v1 v2 σ) rfl (Nat.le_of_ble_eq_true rfl) (fun G hG => ?_) (r, σ1) hE
  unfold Mo_far
  refine r_iload_n (pc := 0) 1 1 rfl rfl hG dX12_far_0 ?_
  refine r_callSi (pc := 1) (As := [.int v1]) (c_Mo_isPlace X v1 σ) mfX12_92_X12_isPlace hySX12_isPlace (by decide) (by decide) rfl (Nat.le_of_ble_eq_true rfl) hG dX12_far_1 rfl (fun n2 => ?_)
  refine r_if_eq (pc := 4) (tgt := 14) (by decide) hG dX12_far_4 (fun h4 => ?_) (fun h4 => ?_)
  · exact r_sub [0] rfl hG (w_Mo_far_J14 N hG σ)
  · refine r_iload_n (pc := 7) 2 2 rfl rfl hG dX12_far_7 ?_
    refine r_callSi (pc := 8) (As := [.int v2]) (c_Mo_isPlace X v2 σ) mfX12_92_X12_isPlace hySX12_isPlace (by decide) (by decide) rfl (Nat.le_of_ble_eq_true rfl) hG dX12_far_8 rfl (fun n10 => ?_)
    refine r_if_ne (pc := 11) (tgt := 21) (by decide) hG dX12_far_11 (fun h12 => ?_) (fun h12 => ?_)
    · refine r_iconst (pc := 21) (v := 0) (by decide) hG dX12_far_21 ?_
      refine r_istore_n (pc := 22) (lv' := [(3, .int 0), (0, .ref (X.2.1 + 114)), (1, .int v1), (2, .int v2)]) 3 rfl (by decide) rfl hG dX12_far_22 ?_
      exact r_sub [1, 2, 3, 0] rfl hG (w_Mo_far_L23 N hG N v1 v2 0 σ)
    · exact r_sub [0] rfl hG (w_Mo_far_J14 N hG σ)
set_option maxRecDepth 4000 in
theorem w_Mo_would_J34 {X : Cx} {G : GT (Int32 × St)} (N : Nat) (hG : IsG X RX12 cX12_would 6 5 (some .int) oWI G) (σ : St) : G (Mo_would_J34 N σ) σ 34 [(0, .ref (X.2.1 + 114))] [] := by
  unfold Mo_would_J34
  refine r_aload_n (pc := 34) 0 0 rfl rfl hG dX12_would_34 ?_
  refine r_bipush (pc := 35) (v := (-2)) (by decide) hG dX12_would_35 ?_
  refine r_bW hG (fun r5 s6 e8 => ?_)
  refine r_callVi (pc := 37) (As := [.int (-2)]) (c_Mo_bad X N (-2) σ r5 s6 e8) (wsOf_at (rfl : shp 114 = 12) (by decide) rfl) rfl mfX12_84_X12_bad hyVX12_bad (by decide) (by decide) rfl (Nat.le_of_ble_eq_true rfl) hG dX12_would_37 rfl (fun n7 => ?_)
  exact r_iret (pc := 40) rfl hG dX12_would_40
set_option maxRecDepth 4000 in
theorem w_Mo_would_J91 {X : Cx} {G : GT (Int32 × St)} (N : Nat) (hG : IsG X RX12 cX12_would 6 5 (some .int) oWI G) (v1 : Int32) (w1 : Int32) (σ : St) : G (Mo_would_J91 N v1 w1 σ) σ 91 [(0, .ref (X.2.1 + 114)), (1, .int v1)] [.int w1, .ref (X.2.1 + 115)] := by
  unfold Mo_would_J91
  refine r_iload_n (pc := 91) 1 1 rfl rfl hG dX12_would_91 ?_
  refine r_iadd (pc := 92) hG dX12_would_92 ?_
  refine r_ck hG (fun h34 => ?_)
  refine r_iald (pc := 93) (i := 115) (rfl : shp 115 = 14) rfl h34 hG dX12_would_93 ?_
  refine r_bI hG (fun x35 => ?_)
  refine r_istore (pc := 94) (lv' := [(5, .int x35), (0, .ref (X.2.1 + 114)), (1, .int v1)]) (by decide) rfl hG dX12_would_94 ?_
  refine r_aload_n (pc := 96) 1 0 rfl rfl hG dX12_would_96 ?_
  refine gf12_1 (pc := 97) lk1132 hG dX12_would_97 ?_
  refine r_iconst (pc := 100) (v := 0) (by decide) hG dX12_would_100 ?_
  refine r_aload_n (pc := 101) 1 0 rfl rfl hG dX12_would_101 ?_
  refine gf12_0 (pc := 102) lk1131 hG dX12_would_102 ?_
  refine r_bipush (pc := 105) (v := 52) (by decide) hG dX12_would_105 ?_
  refine r_bipush (pc := 107) (v := 16) (by decide) hG dX12_would_107 ?_
  refine r_bR hG (fun s37 e39 => ?_)
  refine r_callSv (pc := 109) (As := [.ref (X.2.1 + 116), .int 0, .ref (X.2.1 + 115), .int 52, .int 16]) (c_Mo_copies X N 116 0 115 52 16 σ (rfl : shp 116 = 14) (rfl : shp 115 = 14) s37 e39) mfX12_175_X12_copies hySX12_copies (by decide) (by decide) rfl (Nat.le_of_ble_eq_true rfl) hG dX12_would_109 rfl (fun n38 => ?_)
  refine r_iload (pc := 112) 0 rfl hG dX12_would_112 ?_
  exact r_iret (pc := 114) rfl hG dX12_would_114
set_option maxRecDepth 4000 in
theorem c_Mo_would (X : Cx) (N : Nat) (v1 : Int32) (v2 : Int32) (v3 : Int32) (v4 : Int32) (σ : St) (r : Int32) (σ1 : St) (hE : Mo_would N v1 v2 v3 v4 σ = some (r, σ1)) : Ctr X yX12_would cX12_would 6 (some .int) 5 [.ref (X.2.1 + 114), .int v1, .int v2, .int v3, .int v4] σ (some (.int r)) σ1 := by
  refine Ctr.of (out := oWI) (E := Mo_would N v1 v2 v3 v4 σ) rfl (Nat.le_of_ble_eq_true rfl) (fun G hG => ?_) (r, σ1) hE
  unfold Mo_would
  refine r_aload_n (pc := 0) 0 0 rfl rfl hG dX12_would_0 ?_
  refine r_iload_n (pc := 1) 1 1 rfl rfl hG dX12_would_1 ?_
  refine r_bR hG (fun r1 e3 => ?_)
  refine r_callVi (pc := 2) (As := [.int v1]) (c_Mo_isGuest X N v1 σ r1 e3) (wsOf_at (rfl : shp 114 = 12) (by decide) rfl) rfl mfX12_190_X12_isGuest hyVX12_isGuest (by decide) (by decide) rfl (Nat.le_of_ble_eq_true rfl) hG dX12_would_2 rfl (fun n2 => ?_)
  refine r_if_eq (pc := 5) (tgt := 34) (by decide) hG dX12_would_5 (fun h4 => ?_) (fun h4 => ?_)
  · exact r_sub [0] rfl hG (w_Mo_would_J34 N hG σ)
  · refine r_aload_n (pc := 8) 0 0 rfl rfl hG dX12_would_8 ?_
    refine r_iload_n (pc := 9) 2 2 rfl rfl hG dX12_would_9 ?_
    refine r_bR hG (fun r9 e11 => ?_)
    refine r_callVi (pc := 10) (As := [.int v2]) (c_Mo_isRower X N v2 σ r9 e11) (wsOf_at (rfl : shp 114 = 12) (by decide) rfl) rfl mfX12_193_X12_isRower hyVX12_isRower (by decide) (by decide) rfl (Nat.le_of_ble_eq_true rfl) hG dX12_would_10 rfl (fun n10 => ?_)
    refine r_if_eq (pc := 13) (tgt := 34) (by decide) hG dX12_would_13 (fun h12 => ?_) (fun h12 => ?_)
    · exact r_sub [0] rfl hG (w_Mo_would_J34 N hG σ)
    · refine r_iload_n (pc := 16) 3 3 rfl rfl hG dX12_would_16 ?_
      refine r_callSi (pc := 17) (As := [.int v3]) (c_Mo_isPlace X v3 σ) mfX12_92_X12_isPlace hySX12_isPlace (by decide) (by decide) rfl (Nat.le_of_ble_eq_true rfl) hG dX12_would_17 rfl (fun n14 => ?_)
      refine r_if_eq (pc := 20) (tgt := 34) (by decide) hG dX12_would_20 (fun h16 => ?_) (fun h16 => ?_)
      · exact r_sub [0] rfl hG (w_Mo_would_J34 N hG σ)
      · refine r_iload (pc := 23) 4 rfl hG dX12_would_23 ?_
        refine r_i2l (pc := 25) hG dX12_would_25 ?_
        refine r_lconst (pc := 26) (v := 0) (by decide) hG dX12_would_26 ?_
        refine r_lconst (pc := 27) (v := 1) (by decide) hG dX12_would_27 ?_
        refine r_callSi (pc := 28) (As := [.long ((v4).toInt64), .long 0, .long 1]) (c_Mo_in X ((v4).toInt64) 0 1 σ) mfX12_69_X12_in hySX12_in (by decide) (by decide) rfl (Nat.le_of_ble_eq_true rfl) hG dX12_would_28 rfl (fun n18 => ?_)
        refine r_if_ne (pc := 31) (tgt := 41) (by decide) hG dX12_would_31 (fun h20 => ?_) (fun h20 => ?_)
        · refine r_aload_n (pc := 41) 0 0 rfl rfl hG dX12_would_41 ?_
          refine r_iload_n (pc := 42) 1 1 rfl rfl hG dX12_would_42 ?_
          refine r_iload_n (pc := 43) 3 3 rfl rfl hG dX12_would_43 ?_
          refine r_bR hG (fun r21 e23 => ?_)
          refine r_callVi (pc := 44) (As := [.int v1, .int v3]) (c_Mo_can X N v1 v3 σ r21 e23) (wsOf_at (rfl : shp 114 = 12) (by decide) rfl) rfl mfX12_161_X12_can hyVX12_can (by decide) (by decide) rfl (Nat.le_of_ble_eq_true rfl) hG dX12_would_44 rfl (fun n22 => ?_)
          refine r_if_ne (pc := 47) (tgt := 52) (by decide) hG dX12_would_47 (fun h24 => ?_) (fun h24 => ?_)
          · refine r_aload_n (pc := 52) 0 0 rfl rfl hG dX12_would_52 ?_
            refine gf12_0 (pc := 53) lk1131 hG dX12_would_53 ?_
            refine r_bipush (pc := 56) (v := 52) (by decide) hG dX12_would_56 ?_
            refine r_aload_n (pc := 58) 0 0 rfl rfl hG dX12_would_58 ?_
            refine gf12_1 (pc := 59) lk1132 hG dX12_would_59 ?_
            refine r_iconst (pc := 62) (v := 0) (by decide) hG dX12_would_62 ?_
            refine r_bipush (pc := 63) (v := 16) (by decide) hG dX12_would_63 ?_
            refine r_bR hG (fun s26 e28 => ?_)
            refine r_callSv (pc := 65) (As := [.ref (X.2.1 + 115), .int 52, .ref (X.2.1 + 116), .int 0, .int 16]) (c_Mo_copies X N 115 52 116 0 16 σ (rfl : shp 115 = 14) (rfl : shp 116 = 14) s26 e28) mfX12_175_X12_copies hySX12_copies (by decide) (by decide) rfl (Nat.le_of_ble_eq_true rfl) hG dX12_would_65 rfl (fun n27 => ?_)
            refine r_aload_n (pc := 68) 0 0 rfl rfl hG dX12_would_68 ?_
            refine r_iload_n (pc := 69) 1 1 rfl rfl hG dX12_would_69 ?_
            refine r_iload_n (pc := 70) 2 2 rfl rfl hG dX12_would_70 ?_
            refine r_iload_n (pc := 71) 3 3 rfl rfl hG dX12_would_71 ?_
            refine r_bR hG (fun s30 e32 => ?_)
            refine r_callVv (pc := 72) (As := [.int v1, .int v2, .int v3]) (c_Mo_rowed X N v1 v2 v3 s26 s30 e32) (wsOf_at (rfl : shp 114 = 12) (by decide) rfl) rfl mfX12_165_X12_rowed hyVX12_rowed (by decide) (by decide) rfl (Nat.le_of_ble_eq_true rfl) hG dX12_would_72 rfl (fun n31 => ?_)
            refine r_aload_n (pc := 75) 0 0 rfl rfl hG dX12_would_75 ?_
            refine gf12_0 (pc := 76) lk1131 hG dX12_would_76 ?_
            refine r_iload (pc := 79) 4 rfl hG dX12_would_79 ?_
            refine r_if_ne (pc := 81) (tgt := 89) (by decide) hG dX12_would_81 (fun h33 => ?_) (fun h33 => ?_)
            · refine r_bipush (pc := 89) (v := 56) (by decide) hG dX12_would_89 ?_
              exact r_sub [0, 1] rfl hG (w_Mo_would_J91 N hG v1 56 s30)
            · refine r_bipush (pc := 84) (v := 52) (by decide) hG dX12_would_84 ?_
              refine r_goto (pc := 86) (tgt := 91) (by decide) hG dX12_would_86 ?_
              exact r_sub [0, 1] rfl hG (w_Mo_would_J91 N hG v1 52 s30)
          · refine r_iconst (pc := 50) (v := (-1)) (by decide) hG dX12_would_50 ?_
            exact r_iret (pc := 51) rfl hG dX12_would_51
        · exact r_sub [0] rfl hG (w_Mo_would_J34 N hG σ)
set_option maxRecDepth 4000 in
theorem w_Mo_goesOn_J136 {X : Cx} {G : GT St} (N : Nat) (hG : IsG X RX12 cX12_goesOn 9 4 none oWV G) (v3 : Int32) (v4 : Int32) (v6 : Int32) (v7 : Int32) (w0 : Int32) (σ : St) : G (Mo_goesOn_J136 N v3 v4 v6 v7 w0 σ) σ 136 [(0, .ref (X.2.1 + 114)), (3, .int v3), (4, .int v4), (6, .int v6), (7, .int v7)] [.int w0] := by
  unfold Mo_goesOn_J136
  refine r_istore (pc := 136) (lv' := [(8, .int w0), (0, .ref (X.2.1 + 114)), (3, .int v3), (4, .int v4), (6, .int v6), (7, .int v7)]) (by decide) rfl hG dX12_goesOn_136 ?_
  refine r_aload_n (pc := 138) 1 0 rfl rfl hG dX12_goesOn_138 ?_
  refine gf12_16 (pc := 139) lk1147 hG dX12_goesOn_139 ?_
  refine r_iload_n (pc := 142) 2 3 rfl rfl hG dX12_goesOn_142 ?_
  refine r_iconst (pc := 143) (v := 1) (by decide) hG dX12_goesOn_143 ?_
  refine r_iadd (pc := 144) hG dX12_goesOn_144 ?_
  refine r_iload (pc := 145) 3 rfl hG dX12_goesOn_145 ?_
  refine r_ck hG (fun h12 => ?_)
  refine r_iast (pc := 147) (i := 123) (rfl : shp 123 = 14) rfl h12 hG dX12_goesOn_147 ?_
  refine r_bS hG (fun s13 => ?_)
  refine r_aload_n (pc := 148) 1 0 rfl rfl hG dX12_goesOn_148 ?_
  refine gf12_19 (pc := 149) lk1150 hG dX12_goesOn_149 ?_
  refine r_iload_n (pc := 152) 2 3 rfl rfl hG dX12_goesOn_152 ?_
  refine r_iconst (pc := 153) (v := 1) (by decide) hG dX12_goesOn_153 ?_
  refine r_iadd (pc := 154) hG dX12_goesOn_154 ?_
  refine r_iload (pc := 155) 4 rfl hG dX12_goesOn_155 ?_
  refine r_ck hG (fun h14 => ?_)
  refine r_iast (pc := 157) (i := 126) (rfl : shp 126 = 14) rfl h14 hG dX12_goesOn_157 ?_
  refine r_bS hG (fun s15 => ?_)
  refine r_aload_n (pc := 158) 1 0 rfl rfl hG dX12_goesOn_158 ?_
  refine gf12_17 (pc := 159) lk1148 hG dX12_goesOn_159 ?_
  refine r_iload_n (pc := 162) 2 3 rfl rfl hG dX12_goesOn_162 ?_
  refine r_iconst (pc := 163) (v := 1) (by decide) hG dX12_goesOn_163 ?_
  refine r_iadd (pc := 164) hG dX12_goesOn_164 ?_
  refine r_aload_n (pc := 165) 1 0 rfl rfl hG dX12_goesOn_165 ?_
  refine gf12_17 (pc := 166) lk1148 hG dX12_goesOn_166 ?_
  refine r_iload_n (pc := 169) 2 3 rfl rfl hG dX12_goesOn_169 ?_
  refine r_ck hG (fun h16 => ?_)
  refine r_iald (pc := 170) (i := 124) (rfl : shp 124 = 14) rfl h16 hG dX12_goesOn_170 ?_
  refine r_iload (pc := 171) 5 rfl hG dX12_goesOn_171 ?_
  refine r_iadd (pc := 173) hG dX12_goesOn_173 ?_
  refine r_ck hG (fun h17 => ?_)
  refine r_iast (pc := 174) (i := 124) (rfl : shp 124 = 14) rfl h17 hG dX12_goesOn_174 ?_
  refine r_bS hG (fun s18 => ?_)
  refine r_aload_n (pc := 175) 1 0 rfl rfl hG dX12_goesOn_175 ?_
  refine gf12_18 (pc := 176) lk1149 hG dX12_goesOn_176 ?_
  refine r_iload_n (pc := 179) 2 3 rfl rfl hG dX12_goesOn_179 ?_
  refine r_iconst (pc := 180) (v := 1) (by decide) hG dX12_goesOn_180 ?_
  refine r_iadd (pc := 181) hG dX12_goesOn_181 ?_
  refine r_sipush (pc := 182) (v := 999) (by decide) hG dX12_goesOn_182 ?_
  refine r_aload_n (pc := 185) 1 0 rfl rfl hG dX12_goesOn_185 ?_
  refine gf12_18 (pc := 186) lk1149 hG dX12_goesOn_186 ?_
  refine r_iload_n (pc := 189) 2 3 rfl rfl hG dX12_goesOn_189 ?_
  refine r_ck hG (fun h19 => ?_)
  refine r_iald (pc := 190) (i := 125) (rfl : shp 125 = 14) rfl h19 hG dX12_goesOn_190 ?_
  refine r_iload (pc := 191) 0 rfl hG dX12_goesOn_191 ?_
  refine r_iadd (pc := 193) hG dX12_goesOn_193 ?_
  refine r_callSi (pc := 194) (As := [.int 999, .int ((s18.1 125 (v3).toNatClampNeg) + w0)]) (c_Mo_less X 999 ((s18.1 125 (v3).toNatClampNeg) + w0) s18) mfX12_75_X12_less hySX12_less (by decide) (by decide) rfl (Nat.le_of_ble_eq_true rfl) hG dX12_goesOn_194 rfl (fun n21 => ?_)
  refine r_ck hG (fun h23 => ?_)
  refine r_iast (pc := 197) (i := 125) (rfl : shp 125 = 14) rfl h23 hG dX12_goesOn_197 ?_
  refine r_bS hG (fun s24 => ?_)
  refine r_aload_n (pc := 198) 1 0 rfl rfl hG dX12_goesOn_198 ?_
  refine gf12_21 (pc := 199) lk1152 hG dX12_goesOn_199 ?_
  refine r_iload_n (pc := 202) 2 3 rfl rfl hG dX12_goesOn_202 ?_
  refine r_iconst (pc := 203) (v := 1) (by decide) hG dX12_goesOn_203 ?_
  refine r_iadd (pc := 204) hG dX12_goesOn_204 ?_
  refine r_aload_n (pc := 205) 1 0 rfl rfl hG dX12_goesOn_205 ?_
  refine gf12_21 (pc := 206) lk1152 hG dX12_goesOn_206 ?_
  refine r_iload_n (pc := 209) 2 3 rfl rfl hG dX12_goesOn_209 ?_
  refine r_ck hG (fun h25 => ?_)
  refine r_iald (pc := 210) (i := 128) (rfl : shp 128 = 14) rfl h25 hG dX12_goesOn_210 ?_
  refine r_iconst (pc := 211) (v := 1) (by decide) hG dX12_goesOn_211 ?_
  refine r_iload (pc := 212) 3 rfl hG dX12_goesOn_212 ?_
  refine r_ishl (pc := 214) hG dX12_goesOn_214 ?_
  refine r_ior (pc := 215) hG dX12_goesOn_215 ?_
  refine r_ck hG (fun h26 => ?_)
  refine r_iast (pc := 216) (i := 128) (rfl : shp 128 = 14) rfl h26 hG dX12_goesOn_216 ?_
  refine r_bS hG (fun s27 => ?_)
  refine r_aload_n (pc := 217) 1 0 rfl rfl hG dX12_goesOn_217 ?_
  refine gf12_20 (pc := 218) lk1151 hG dX12_goesOn_218 ?_
  refine r_iload_n (pc := 221) 2 3 rfl rfl hG dX12_goesOn_221 ?_
  refine r_iconst (pc := 222) (v := 1) (by decide) hG dX12_goesOn_222 ?_
  refine r_iadd (pc := 223) hG dX12_goesOn_223 ?_
  refine r_iconst (pc := 224) (v := 0) (by decide) hG dX12_goesOn_224 ?_
  refine r_ck hG (fun h28 => ?_)
  refine r_iast (pc := 225) (i := 127) (rfl : shp 127 = 14) rfl h28 hG dX12_goesOn_225 ?_
  refine r_bS hG (fun s29 => ?_)
  exact r_vret (pc := 226) rfl hG dX12_goesOn_226
set_option maxRecDepth 4000 in
theorem w_Mo_goesOn_J87 {X : Cx} {G : GT St} (N : Nat) (hG : IsG X RX12 cX12_goesOn 9 4 none oWV G) (v1 : Int32) (v3 : Int32) (v4 : Int32) (v5 : Int32) (v6 : Int32) (w0 : Int32) (σ : St) : G (Mo_goesOn_J87 N v1 v3 v4 v5 v6 w0 σ) σ 87 [(0, .ref (X.2.1 + 114)), (1, .int v1), (3, .int v3), (4, .int v4), (5, .int v5), (6, .int v6)] [.int w0] := by
  unfold Mo_goesOn_J87
  refine r_istore (pc := 87) (lv' := [(7, .int w0), (0, .ref (X.2.1 + 114)), (1, .int v1), (3, .int v3), (4, .int v4), (5, .int v5), (6, .int v6)]) (by decide) rfl hG dX12_goesOn_87 ?_
  refine r_iload (pc := 89) 5 rfl hG dX12_goesOn_89 ?_
  refine r_if_eq (pc := 91) (tgt := 135) (by decide) hG dX12_goesOn_91 (fun h11 => ?_) (fun h11 => ?_)
  · refine r_iconst (pc := 135) (v := 0) (by decide) hG dX12_goesOn_135 ?_
    exact r_sub [1, 3, 4, 6, 0] rfl hG (w_Mo_goesOn_J136 N hG v3 v4 v6 w0 0 σ)
  · refine r_aload_n (pc := 94) 1 0 rfl rfl hG dX12_goesOn_94 ?_
    refine gf12_0 (pc := 95) lk1131 hG dX12_goesOn_95 ?_
    refine r_bipush (pc := 98) (v := 44) (by decide) hG dX12_goesOn_98 ?_
    refine r_iload_n (pc := 100) 2 1 rfl rfl hG dX12_goesOn_100 ?_
    refine r_iadd (pc := 101) hG dX12_goesOn_101 ?_
    refine r_ck hG (fun h30 => ?_)
    refine r_iald (pc := 102) (i := 115) (rfl : shp 115 = 14) rfl h30 hG dX12_goesOn_102 ?_
    refine r_aload_n (pc := 103) 1 0 rfl rfl hG dX12_goesOn_103 ?_
    refine gf12_0 (pc := 104) lk1131 hG dX12_goesOn_104 ?_
    refine r_bipush (pc := 107) (v := 48) (by decide) hG dX12_goesOn_107 ?_
    refine r_iload_n (pc := 109) 2 1 rfl rfl hG dX12_goesOn_109 ?_
    refine r_iadd (pc := 110) hG dX12_goesOn_110 ?_
    refine r_ck hG (fun h31 => ?_)
    refine r_iald (pc := 111) (i := 115) (rfl : shp 115 = 14) rfl h31 hG dX12_goesOn_111 ?_
    refine r_aload_n (pc := 112) 1 0 rfl rfl hG dX12_goesOn_112 ?_
    refine gf12_17 (pc := 113) lk1148 hG dX12_goesOn_113 ?_
    refine r_iload_n (pc := 116) 3 3 rfl rfl hG dX12_goesOn_116 ?_
    refine r_ck hG (fun h32 => ?_)
    refine r_iald (pc := 117) (i := 124) (rfl : shp 124 = 14) rfl h32 hG dX12_goesOn_117 ?_
    refine r_iload (pc := 118) 0 rfl hG dX12_goesOn_118 ?_
    refine r_aload_n (pc := 120) 1 0 rfl rfl hG dX12_goesOn_120 ?_
    refine gf12_0 (pc := 121) lk1131 hG dX12_goesOn_121 ?_
    refine r_iconst (pc := 124) (v := 0) (by decide) hG dX12_goesOn_124 ?_
    refine r_iload (pc := 125) 4 rfl hG dX12_goesOn_125 ?_
    refine r_iadd (pc := 127) hG dX12_goesOn_127 ?_
    refine r_ck hG (fun h33 => ?_)
    refine r_iald (pc := 128) (i := 115) (rfl : shp 115 = 14) rfl h33 hG dX12_goesOn_128 ?_
    refine r_callSi (pc := 129) (As := [.int (σ.1 115 ((44 + v1)).toNatClampNeg), .int (σ.1 115 ((48 + v1)).toNatClampNeg), .int (σ.1 124 (v3).toNatClampNeg), .int w0, .int (σ.1 115 ((0 + v4)).toNatClampNeg)]) (c_Mo_hurts X (σ.1 115 ((44 + v1)).toNatClampNeg) (σ.1 115 ((48 + v1)).toNatClampNeg) (σ.1 124 (v3).toNatClampNeg) w0 (σ.1 115 ((0 + v4)).toNatClampNeg) σ) mfX12_186_X12_hurts hySX12_hurts (by decide) (by decide) rfl (Nat.le_of_ble_eq_true rfl) hG dX12_goesOn_129 rfl (fun n35 => ?_)
    refine r_goto (pc := 132) (tgt := 136) (by decide) hG dX12_goesOn_132 ?_
    exact r_sub [1, 3, 4, 6, 0] rfl hG (w_Mo_goesOn_J136 N hG v3 v4 v6 w0 (Mo_hurts (σ.1 115 ((44 + v1)).toNatClampNeg) (σ.1 115 ((48 + v1)).toNatClampNeg) (σ.1 124 (v3).toNatClampNeg) w0 (σ.1 115 ((0 + v4)).toNatClampNeg)) σ)
set_option maxRecDepth 4000 in
theorem c_Mo_goesOn (X : Cx) (N : Nat) (v1 : Int32) (v2 : Int32) (v3 : Int32) (v4 : Int32) (v5 : Int32) (σ : St) (σ1 : St) (hE : Mo_goesOn N v1 v2 v3 v4 v5 σ = some σ1) : Ctr X yX12_goesOn cX12_goesOn 9 none 4 [.ref (X.2.1 + 114), .int v1, .int v2, .int v3, .int v4, .int v5] σ none σ1 := by
  refine Ctr.of (out := oWV) (E := Mo_goesOn N v1 v2 v3 v4 v5 σ) rfl (Nat.le_of_ble_eq_true rfl) (fun G hG => ?_) σ1 hE
  unfold Mo_goesOn
  refine r_sipush (pc := 0) (v := 999) (by decide) hG dX12_goesOn_0 ?_
  refine r_aload_n (pc := 3) 0 0 rfl rfl hG dX12_goesOn_3 ?_
  refine gf12_19 (pc := 4) lk1150 hG dX12_goesOn_4 ?_
  refine r_iload_n (pc := 7) 3 3 rfl rfl hG dX12_goesOn_7 ?_
  refine r_ck hG (fun h1 => ?_)
  refine r_iald (pc := 8) (i := 126) (rfl : shp 126 = 14) rfl h1 hG dX12_goesOn_8 ?_
  refine r_aload_n (pc := 9) 0 0 rfl rfl hG dX12_goesOn_9 ?_
  refine r_aload_n (pc := 10) 0 0 rfl rfl hG dX12_goesOn_10 ?_
  refine gf12_16 (pc := 11) lk1147 hG dX12_goesOn_11 ?_
  refine r_iload_n (pc := 14) 3 3 rfl rfl hG dX12_goesOn_14 ?_
  refine r_ck hG (fun h2 => ?_)
  refine r_iald (pc := 15) (i := 123) (rfl : shp 123 = 14) rfl h2 hG dX12_goesOn_15 ?_
  refine r_iload (pc := 16) 4 rfl hG dX12_goesOn_16 ?_
  refine r_bR hG (fun r3 e5 => ?_)
  refine r_callVi (pc := 18) (As := [.int (σ.1 123 (v3).toNatClampNeg), .int v4]) (c_Mo_strokesOf X N (σ.1 123 (v3).toNatClampNeg) v4 σ r3 e5) (wsOf_at (rfl : shp 114 = 12) (by decide) rfl) rfl mfX12_96_X12_strokesOf hyVX12_strokesOf (by decide) (by decide) rfl (Nat.le_of_ble_eq_true rfl) hG dX12_goesOn_18 rfl (fun n4 => ?_)
  refine r_iadd (pc := 21) hG dX12_goesOn_21 ?_
  refine r_callSi (pc := 22) (As := [.int 999, .int ((σ.1 126 (v3).toNatClampNeg) + r3)]) (c_Mo_less X 999 ((σ.1 126 (v3).toNatClampNeg) + r3) σ) mfX12_75_X12_less hySX12_less (by decide) (by decide) rfl (Nat.le_of_ble_eq_true rfl) hG dX12_goesOn_22 rfl (fun n7 => ?_)
  refine r_bI hG (fun x9 => ?_)
  refine r_istore (pc := 25) (lv' := [(6, .int x9), (0, .ref (X.2.1 + 114)), (1, .int v1), (2, .int v2), (3, .int v3), (4, .int v4), (5, .int v5)]) (by decide) rfl hG dX12_goesOn_25 ?_
  refine r_iload (pc := 27) 6 rfl hG dX12_goesOn_27 ?_
  refine r_if_eq (pc := 29) (tgt := 86) (by decide) hG dX12_goesOn_29 (fun h10 => ?_) (fun h10 => ?_)
  · refine r_iconst (pc := 86) (v := 0) (by decide) hG dX12_goesOn_86 ?_
    exact r_sub [1, 2, 4, 5, 6, 0] rfl hG (w_Mo_goesOn_J87 N hG v1 v3 v4 v5 x9 0 σ)
  · refine r_aload_n (pc := 32) 1 0 rfl rfl hG dX12_goesOn_32 ?_
    refine gf12_0 (pc := 33) lk1131 hG dX12_goesOn_33 ?_
    refine r_bipush (pc := 36) (v := 38) (by decide) hG dX12_goesOn_36 ?_
    refine r_iload_n (pc := 38) 3 2 rfl rfl hG dX12_goesOn_38 ?_
    refine r_iadd (pc := 39) hG dX12_goesOn_39 ?_
    refine r_ck hG (fun h37 => ?_)
    refine r_iald (pc := 40) (i := 115) (rfl : shp 115 = 14) rfl h37 hG dX12_goesOn_40 ?_
    refine r_aload_n (pc := 41) 1 0 rfl rfl hG dX12_goesOn_41 ?_
    refine gf12_0 (pc := 42) lk1131 hG dX12_goesOn_42 ?_
    refine r_bipush (pc := 45) (v := 41) (by decide) hG dX12_goesOn_45 ?_
    refine r_iload_n (pc := 47) 3 2 rfl rfl hG dX12_goesOn_47 ?_
    refine r_iadd (pc := 48) hG dX12_goesOn_48 ?_
    refine r_ck hG (fun h38 => ?_)
    refine r_iald (pc := 49) (i := 115) (rfl : shp 115 = 14) rfl h38 hG dX12_goesOn_49 ?_
    refine r_aload_n (pc := 50) 1 0 rfl rfl hG dX12_goesOn_50 ?_
    refine gf12_0 (pc := 51) lk1131 hG dX12_goesOn_51 ?_
    refine r_iconst (pc := 54) (v := 0) (by decide) hG dX12_goesOn_54 ?_
    refine r_iload (pc := 55) 5 rfl hG dX12_goesOn_55 ?_
    refine r_iadd (pc := 57) hG dX12_goesOn_57 ?_
    refine r_ck hG (fun h39 => ?_)
    refine r_iald (pc := 58) (i := 115) (rfl : shp 115 = 14) rfl h39 hG dX12_goesOn_58 ?_
    refine r_iload (pc := 59) 0 rfl hG dX12_goesOn_59 ?_
    refine r_callSi (pc := 61) (As := [.int (σ.1 115 ((38 + v2)).toNatClampNeg), .int (σ.1 115 ((41 + v2)).toNatClampNeg), .int (σ.1 115 ((0 + v4)).toNatClampNeg), .int x9]) (c_Mo_tells X (σ.1 115 ((38 + v2)).toNatClampNeg) (σ.1 115 ((41 + v2)).toNatClampNeg) (σ.1 115 ((0 + v4)).toNatClampNeg) x9 σ) mfX12_182_X12_tells hySX12_tells (by decide) (by decide) rfl (Nat.le_of_ble_eq_true rfl) hG dX12_goesOn_61 rfl (fun n41 => ?_)
    refine r_aload_n (pc := 64) 1 0 rfl rfl hG dX12_goesOn_64 ?_
    refine gf12_0 (pc := 65) lk1131 hG dX12_goesOn_65 ?_
    refine r_bipush (pc := 68) (v := 48) (by decide) hG dX12_goesOn_68 ?_
    refine r_iload_n (pc := 70) 2 1 rfl rfl hG dX12_goesOn_70 ?_
    refine r_iadd (pc := 71) hG dX12_goesOn_71 ?_
    refine r_ck hG (fun h43 => ?_)
    refine r_iald (pc := 72) (i := 115) (rfl : shp 115 = 14) rfl h43 hG dX12_goesOn_72 ?_
    refine r_aload_n (pc := 73) 1 0 rfl rfl hG dX12_goesOn_73 ?_
    refine gf12_17 (pc := 74) lk1148 hG dX12_goesOn_74 ?_
    refine r_iload_n (pc := 77) 4 3 rfl rfl hG dX12_goesOn_77 ?_
    refine r_ck hG (fun h44 => ?_)
    refine r_iald (pc := 78) (i := 124) (rfl : shp 124 = 14) rfl h44 hG dX12_goesOn_78 ?_
    refine r_isub (pc := 79) hG dX12_goesOn_79 ?_
    refine r_callSi (pc := 80) (As := [.int (Mo_tells (σ.1 115 ((38 + v2)).toNatClampNeg) (σ.1 115 ((41 + v2)).toNatClampNeg) (σ.1 115 ((0 + v4)).toNatClampNeg) x9), .int ((σ.1 115 ((48 + v1)).toNatClampNeg) - (σ.1 124 (v3).toNatClampNeg))]) (c_Mo_less X (Mo_tells (σ.1 115 ((38 + v2)).toNatClampNeg) (σ.1 115 ((41 + v2)).toNatClampNeg) (σ.1 115 ((0 + v4)).toNatClampNeg) x9) ((σ.1 115 ((48 + v1)).toNatClampNeg) - (σ.1 124 (v3).toNatClampNeg)) σ) mfX12_75_X12_less hySX12_less (by decide) (by decide) rfl (Nat.le_of_ble_eq_true rfl) hG dX12_goesOn_80 rfl (fun n46 => ?_)
    refine r_goto (pc := 83) (tgt := 87) (by decide) hG dX12_goesOn_83 ?_
    exact r_sub [1, 2, 4, 5, 6, 0] rfl hG (w_Mo_goesOn_J87 N hG v1 v3 v4 v5 x9 (Mo_less (Mo_tells (σ.1 115 ((38 + v2)).toNatClampNeg) (σ.1 115 ((41 + v2)).toNatClampNeg) (σ.1 115 ((0 + v4)).toNatClampNeg) x9) ((σ.1 115 ((48 + v1)).toNatClampNeg) - (σ.1 124 (v3).toNatClampNeg))) σ)
set_option maxRecDepth 4000 in
theorem c_Mo_starts (X : Cx) (N : Nat) (v1 : Int32) (σ : St) (σ1 : St) (hE : Mo_starts N v1 σ = some σ1) : Ctr X yX12_starts cX12_starts 2 none 1 [.ref (X.2.1 + 114), .int v1] σ none σ1 := by
  refine Ctr.of (out := oWV) (E := Mo_starts N v1 σ) rfl (Nat.le_of_ble_eq_true rfl) (fun G hG => ?_) σ1 hE
  unfold Mo_starts
  refine r_aload_n (pc := 0) 0 0 rfl rfl hG dX12_starts_0 ?_
  refine gf12_16 (pc := 1) lk1147 hG dX12_starts_1 ?_
  refine r_iconst (pc := 4) (v := 0) (by decide) hG dX12_starts_4 ?_
  refine r_aload_n (pc := 5) 0 0 rfl rfl hG dX12_starts_5 ?_
  refine gf12_0 (pc := 6) lk1131 hG dX12_starts_6 ?_
  refine r_bipush (pc := 9) (v := 60) (by decide) hG dX12_starts_9 ?_
  refine r_iload_n (pc := 11) 1 1 rfl rfl hG dX12_starts_11 ?_
  refine r_iadd (pc := 12) hG dX12_starts_12 ?_
  refine r_ck hG (fun h1 => ?_)
  refine r_iald (pc := 13) (i := 115) (rfl : shp 115 = 14) rfl h1 hG dX12_starts_13 ?_
  refine r_iast (pc := 14) (i := 123) (rfl : shp 123 = 14) rfl (by decide) hG dX12_starts_14 ?_
  refine r_bS hG (fun s2 => ?_)
  refine r_aload_n (pc := 15) 0 0 rfl rfl hG dX12_starts_15 ?_
  refine gf12_17 (pc := 16) lk1148 hG dX12_starts_16 ?_
  refine r_iconst (pc := 19) (v := 0) (by decide) hG dX12_starts_19 ?_
  refine r_aload_n (pc := 20) 0 0 rfl rfl hG dX12_starts_20 ?_
  refine gf12_0 (pc := 21) lk1131 hG dX12_starts_21 ?_
  refine r_bipush (pc := 24) (v := 52) (by decide) hG dX12_starts_24 ?_
  refine r_iload_n (pc := 26) 1 1 rfl rfl hG dX12_starts_26 ?_
  refine r_iadd (pc := 27) hG dX12_starts_27 ?_
  refine r_ck hG (fun h3 => ?_)
  refine r_iald (pc := 28) (i := 115) (rfl : shp 115 = 14) rfl h3 hG dX12_starts_28 ?_
  refine r_iast (pc := 29) (i := 124) (rfl : shp 124 = 14) rfl (by decide) hG dX12_starts_29 ?_
  refine r_bS hG (fun s4 => ?_)
  refine r_aload_n (pc := 30) 0 0 rfl rfl hG dX12_starts_30 ?_
  refine gf12_18 (pc := 31) lk1149 hG dX12_starts_31 ?_
  refine r_iconst (pc := 34) (v := 0) (by decide) hG dX12_starts_34 ?_
  refine r_aload_n (pc := 35) 0 0 rfl rfl hG dX12_starts_35 ?_
  refine gf12_0 (pc := 36) lk1131 hG dX12_starts_36 ?_
  refine r_bipush (pc := 39) (v := 56) (by decide) hG dX12_starts_39 ?_
  refine r_iload_n (pc := 41) 1 1 rfl rfl hG dX12_starts_41 ?_
  refine r_iadd (pc := 42) hG dX12_starts_42 ?_
  refine r_ck hG (fun h5 => ?_)
  refine r_iald (pc := 43) (i := 115) (rfl : shp 115 = 14) rfl h5 hG dX12_starts_43 ?_
  refine r_iast (pc := 44) (i := 125) (rfl : shp 125 = 14) rfl (by decide) hG dX12_starts_44 ?_
  refine r_bS hG (fun s6 => ?_)
  refine r_aload_n (pc := 45) 0 0 rfl rfl hG dX12_starts_45 ?_
  refine gf12_19 (pc := 46) lk1150 hG dX12_starts_46 ?_
  refine r_iconst (pc := 49) (v := 0) (by decide) hG dX12_starts_49 ?_
  refine r_aload_n (pc := 50) 0 0 rfl rfl hG dX12_starts_50 ?_
  refine gf12_0 (pc := 51) lk1131 hG dX12_starts_51 ?_
  refine r_bipush (pc := 54) (v := 64) (by decide) hG dX12_starts_54 ?_
  refine r_iload_n (pc := 56) 1 1 rfl rfl hG dX12_starts_56 ?_
  refine r_iadd (pc := 57) hG dX12_starts_57 ?_
  refine r_ck hG (fun h7 => ?_)
  refine r_iald (pc := 58) (i := 115) (rfl : shp 115 = 14) rfl h7 hG dX12_starts_58 ?_
  refine r_iast (pc := 59) (i := 126) (rfl : shp 126 = 14) rfl (by decide) hG dX12_starts_59 ?_
  refine r_bS hG (fun s8 => ?_)
  refine r_aload_n (pc := 60) 0 0 rfl rfl hG dX12_starts_60 ?_
  refine gf12_21 (pc := 61) lk1152 hG dX12_starts_61 ?_
  refine r_iconst (pc := 64) (v := 0) (by decide) hG dX12_starts_64 ?_
  refine r_iconst (pc := 65) (v := 1) (by decide) hG dX12_starts_65 ?_
  refine r_aload_n (pc := 66) 0 0 rfl rfl hG dX12_starts_66 ?_
  refine gf12_0 (pc := 67) lk1131 hG dX12_starts_67 ?_
  refine r_bipush (pc := 70) (v := 60) (by decide) hG dX12_starts_70 ?_
  refine r_iload_n (pc := 72) 1 1 rfl rfl hG dX12_starts_72 ?_
  refine r_iadd (pc := 73) hG dX12_starts_73 ?_
  refine r_ck hG (fun h9 => ?_)
  refine r_iald (pc := 74) (i := 115) (rfl : shp 115 = 14) rfl h9 hG dX12_starts_74 ?_
  refine r_ishl (pc := 75) hG dX12_starts_75 ?_
  refine r_iast (pc := 76) (i := 128) (rfl : shp 128 = 14) rfl (by decide) hG dX12_starts_76 ?_
  refine r_bS hG (fun s10 => ?_)
  refine r_aload_n (pc := 77) 0 0 rfl rfl hG dX12_starts_77 ?_
  refine gf12_20 (pc := 78) lk1151 hG dX12_starts_78 ?_
  refine r_iconst (pc := 81) (v := 0) (by decide) hG dX12_starts_81 ?_
  refine r_iconst (pc := 82) (v := 0) (by decide) hG dX12_starts_82 ?_
  refine r_iast (pc := 83) (i := 127) (rfl : shp 127 = 14) rfl (by decide) hG dX12_starts_83 ?_
  refine r_bS hG (fun s11 => ?_)
  exact r_vret (pc := 84) rfl hG dX12_starts_84
set_option maxRecDepth 4000 in
theorem w_Mo_isBetter_J40 {σ : St} {X : Cx} {G : GT Int32} (N : Nat) (hG : IsG X RX12 cX12_isBetter 2 1 (some .boolean) (oI σ) G) : G (Mo_isBetter_J40 N σ) σ 40 [] [] := by
  unfold Mo_isBetter_J40
  refine r_iconst (pc := 40) (v := 1) (by decide) hG dX12_isBetter_40 ?_
  refine r_goto (pc := 41) (tgt := 45) (by decide) hG dX12_isBetter_41 ?_
  exact r_zret (pc := 45) rvN_b1 rfl hG dX12_isBetter_45
set_option maxRecDepth 4000 in
theorem w_Mo_isBetter_J20 {σ : St} {X : Cx} {G : GT Int32} (N : Nat) (hG : IsG X RX12 cX12_isBetter 2 1 (some .boolean) (oI σ) G) (v1 : Int32) : G (Mo_isBetter_J20 N v1 σ) σ 20 [(0, .ref (X.2.1 + 114)), (1, .int v1)] [] := by
  unfold Mo_isBetter_J20
  refine r_aload_n (pc := 20) 0 0 rfl rfl hG dX12_isBetter_20 ?_
  refine gf12_22 (pc := 21) lk1153 hG dX12_isBetter_21 ?_
  refine r_if_eq (pc := 24) (tgt := 40) (by decide) hG dX12_isBetter_24 (fun h2 => ?_) (fun h2 => ?_)
  · exact r_sub [] rfl hG (w_Mo_isBetter_J40 N hG)
  · refine r_aload_n (pc := 27) 0 0 rfl rfl hG dX12_isBetter_27 ?_
    refine gf12_17 (pc := 28) lk1148 hG dX12_isBetter_28 ?_
    refine r_iload_n (pc := 31) 1 1 rfl rfl hG dX12_isBetter_31 ?_
    refine r_ck hG (fun h3 => ?_)
    refine r_iald (pc := 32) (i := 124) (rfl : shp 124 = 14) rfl h3 hG dX12_isBetter_32 ?_
    refine r_aload_n (pc := 33) 0 0 rfl rfl hG dX12_isBetter_33 ?_
    refine gf12_24 (pc := 34) lk1155 hG dX12_isBetter_34 ?_
    refine r_icmp_le (pc := 37) (tgt := 44) (by decide) hG dX12_isBetter_37 (fun h4 => ?_) (fun h4 => ?_)
    · refine r_iconst (pc := 44) (v := 0) (by decide) hG dX12_isBetter_44 ?_
      exact r_zret (pc := 45) rvN_b0 rfl hG dX12_isBetter_45
    · exact r_sub [] rfl hG (w_Mo_isBetter_J40 N hG)
set_option maxRecDepth 4000 in
theorem c_Mo_isBetter (X : Cx) (N : Nat) (v1 : Int32) (σ : St) (r : Int32) (hE : Mo_isBetter N v1 σ = some r) : Ctr X yX12_isBetter cX12_isBetter 2 (some .boolean) 1 [.ref (X.2.1 + 114), .int v1] σ (some (.int r)) σ := by
  refine Ctr.of (out := (oI σ)) (E := Mo_isBetter N v1 σ) rfl (Nat.le_of_ble_eq_true rfl) (fun G hG => ?_) r hE
  unfold Mo_isBetter
  refine r_aload_n (pc := 0) 0 0 rfl rfl hG dX12_isBetter_0 ?_
  refine gf12_22 (pc := 1) lk1153 hG dX12_isBetter_1 ?_
  refine r_if_eq (pc := 4) (tgt := 20) (by decide) hG dX12_isBetter_4 (fun h1 => ?_) (fun h1 => ?_)
  · exact w_Mo_isBetter_J20 N hG v1
  · refine r_aload_n (pc := 7) 0 0 rfl rfl hG dX12_isBetter_7 ?_
    refine gf12_17 (pc := 8) lk1148 hG dX12_isBetter_8 ?_
    refine r_iload_n (pc := 11) 1 1 rfl rfl hG dX12_isBetter_11 ?_
    refine r_ck hG (fun h5 => ?_)
    refine r_iald (pc := 12) (i := 124) (rfl : shp 124 = 14) rfl h5 hG dX12_isBetter_12 ?_
    refine r_aload_n (pc := 13) 0 0 rfl rfl hG dX12_isBetter_13 ?_
    refine gf12_24 (pc := 14) lk1155 hG dX12_isBetter_14 ?_
    refine r_icmp_eq (pc := 17) (tgt := 46) (by decide) hG dX12_isBetter_17 (fun h6 => ?_) (fun h6 => ?_)
    · refine r_aload_n (pc := 46) 0 0 rfl rfl hG dX12_isBetter_46 ?_
      refine gf12_18 (pc := 47) lk1149 hG dX12_isBetter_47 ?_
      refine r_iload_n (pc := 50) 1 1 rfl rfl hG dX12_isBetter_50 ?_
      refine r_ck hG (fun h7 => ?_)
      refine r_iald (pc := 51) (i := 125) (rfl : shp 125 = 14) rfl h7 hG dX12_isBetter_51 ?_
      refine r_aload_n (pc := 52) 0 0 rfl rfl hG dX12_isBetter_52 ?_
      refine gf12_25 (pc := 53) lk1156 hG dX12_isBetter_53 ?_
      refine r_icmp_eq (pc := 56) (tgt := 80) (by decide) hG dX12_isBetter_56 (fun h8 => ?_) (fun h8 => ?_)
      · refine r_aload_n (pc := 80) 0 0 rfl rfl hG dX12_isBetter_80 ?_
        refine gf12_19 (pc := 81) lk1150 hG dX12_isBetter_81 ?_
        refine r_iload_n (pc := 84) 1 1 rfl rfl hG dX12_isBetter_84 ?_
        refine r_ck hG (fun h9 => ?_)
        refine r_iald (pc := 85) (i := 126) (rfl : shp 126 = 14) rfl h9 hG dX12_isBetter_85 ?_
        refine r_aload_n (pc := 86) 0 0 rfl rfl hG dX12_isBetter_86 ?_
        refine gf12_26 (pc := 87) lk1157 hG dX12_isBetter_87 ?_
        refine r_icmp_ge (pc := 90) (tgt := 97) (by decide) hG dX12_isBetter_90 (fun h10 => ?_) (fun h10 => ?_)
        · refine r_iconst (pc := 97) (v := 0) (by decide) hG dX12_isBetter_97 ?_
          exact r_zret (pc := 98) rvN_b0 rfl hG dX12_isBetter_98
        · refine r_iconst (pc := 93) (v := 1) (by decide) hG dX12_isBetter_93 ?_
          refine r_goto (pc := 94) (tgt := 98) (by decide) hG dX12_isBetter_94 ?_
          exact r_zret (pc := 98) rvN_b1 rfl hG dX12_isBetter_98
      · refine r_aload_n (pc := 59) 0 0 rfl rfl hG dX12_isBetter_59 ?_
        refine gf12_18 (pc := 60) lk1149 hG dX12_isBetter_60 ?_
        refine r_iload_n (pc := 63) 1 1 rfl rfl hG dX12_isBetter_63 ?_
        refine r_ck hG (fun h11 => ?_)
        refine r_iald (pc := 64) (i := 125) (rfl : shp 125 = 14) rfl h11 hG dX12_isBetter_64 ?_
        refine r_aload_n (pc := 65) 0 0 rfl rfl hG dX12_isBetter_65 ?_
        refine gf12_25 (pc := 66) lk1156 hG dX12_isBetter_66 ?_
        refine r_icmp_ge (pc := 69) (tgt := 76) (by decide) hG dX12_isBetter_69 (fun h12 => ?_) (fun h12 => ?_)
        · refine r_iconst (pc := 76) (v := 0) (by decide) hG dX12_isBetter_76 ?_
          refine r_goto (pc := 77) (tgt := 98) (by decide) hG dX12_isBetter_77 ?_
          exact r_zret (pc := 98) rvN_b0 rfl hG dX12_isBetter_98
        · refine r_iconst (pc := 72) (v := 1) (by decide) hG dX12_isBetter_72 ?_
          refine r_goto (pc := 73) (tgt := 98) (by decide) hG dX12_isBetter_73 ?_
          exact r_zret (pc := 98) rvN_b1 rfl hG dX12_isBetter_98
    · exact w_Mo_isBetter_J20 N hG v1
set_option maxRecDepth 4000 in
theorem w_Mo_arrives_J95 {X : Cx} {G : GT St} (N : Nat) (hG : IsG X RX12 cX12_arrives 3 2 none oWV G) (v2 : Int32) (σ : St) : G (Mo_arrives_J95 N v2 σ) σ 95 [(0, .ref (X.2.1 + 114)), (2, .int v2)] [] := by
  unfold Mo_arrives_J95
  refine r_aload_n (pc := 95) 0 0 rfl rfl hG dX12_arrives_95 ?_
  refine r_aload_n (pc := 96) 0 0 rfl rfl hG dX12_arrives_96 ?_
  refine gf12_18 (pc := 97) lk1149 hG dX12_arrives_97 ?_
  refine r_iload_n (pc := 100) 1 2 rfl rfl hG dX12_arrives_100 ?_
  refine r_ck hG (fun h9 => ?_)
  refine r_iald (pc := 101) (i := 125) (rfl : shp 125 = 14) rfl h9 hG dX12_arrives_101 ?_
  refine pf12_27 (pc := 102) lk1158 hG dX12_arrives_102 ?_
  refine r_bS hG (fun s10 => ?_)
  exact r_vret (pc := 105) rfl hG dX12_arrives_105
set_option maxRecDepth 4000 in
theorem w_Mo_arrives_J57 {X : Cx} {G : GT St} (N : Nat) (hG : IsG X RX12 cX12_arrives 3 2 none oWV G) (v1 : Int32) (v2 : Int32) (σ : St) : G (Mo_arrives_J57 N v1 v2 σ) σ 57 [(0, .ref (X.2.1 + 114)), (1, .int v1), (2, .int v2)] [] := by
  unfold Mo_arrives_J57
  refine r_aload_n (pc := 57) 0 0 rfl rfl hG dX12_arrives_57 ?_
  refine gf12_17 (pc := 58) lk1148 hG dX12_arrives_58 ?_
  refine r_iload_n (pc := 61) 2 2 rfl rfl hG dX12_arrives_61 ?_
  refine r_ck hG (fun h5 => ?_)
  refine r_iald (pc := 62) (i := 124) (rfl : shp 124 = 14) rfl h5 hG dX12_arrives_62 ?_
  refine r_aload_n (pc := 63) 0 0 rfl rfl hG dX12_arrives_63 ?_
  refine gf12_0 (pc := 64) lk1131 hG dX12_arrives_64 ?_
  refine r_bipush (pc := 67) (v := 48) (by decide) hG dX12_arrives_67 ?_
  refine r_iload_n (pc := 69) 1 1 rfl rfl hG dX12_arrives_69 ?_
  refine r_iadd (pc := 70) hG dX12_arrives_70 ?_
  refine r_ck hG (fun h6 => ?_)
  refine r_iald (pc := 71) (i := 115) (rfl : shp 115 = 14) rfl h6 hG dX12_arrives_71 ?_
  refine r_icmp_ne (pc := 72) (tgt := 105) (by decide) hG dX12_arrives_72 (fun h7 => ?_) (fun h7 => ?_)
  · exact r_vret (pc := 105) rfl hG dX12_arrives_105
  · refine r_aload_n (pc := 75) 0 0 rfl rfl hG dX12_arrives_75 ?_
    refine gf12_27 (pc := 76) lk1158 hG dX12_arrives_76 ?_
    refine r_if_lt (pc := 79) (tgt := 95) (by decide) hG dX12_arrives_79 (fun h8 => ?_) (fun h8 => ?_)
    · exact r_sub [0, 2] rfl hG (w_Mo_arrives_J95 N hG v2 σ)
    · refine r_aload_n (pc := 82) 0 0 rfl rfl hG dX12_arrives_82 ?_
      refine gf12_18 (pc := 83) lk1149 hG dX12_arrives_83 ?_
      refine r_iload_n (pc := 86) 2 2 rfl rfl hG dX12_arrives_86 ?_
      refine r_ck hG (fun h11 => ?_)
      refine r_iald (pc := 87) (i := 125) (rfl : shp 125 = 14) rfl h11 hG dX12_arrives_87 ?_
      refine r_aload_n (pc := 88) 0 0 rfl rfl hG dX12_arrives_88 ?_
      refine gf12_27 (pc := 89) lk1158 hG dX12_arrives_89 ?_
      refine r_icmp_ge (pc := 92) (tgt := 105) (by decide) hG dX12_arrives_92 (fun h12 => ?_) (fun h12 => ?_)
      · exact r_vret (pc := 105) rfl hG dX12_arrives_105
      · exact r_sub [0, 2] rfl hG (w_Mo_arrives_J95 N hG v2 σ)
set_option maxRecDepth 4000 in
theorem c_Mo_arrives (X : Cx) (N : Nat) (v1 : Int32) (v2 : Int32) (σ : St) (σ1 : St) (hE : Mo_arrives N v1 v2 σ = some σ1) : Ctr X yX12_arrives cX12_arrives 3 none 2 [.ref (X.2.1 + 114), .int v1, .int v2] σ none σ1 := by
  refine Ctr.of (out := oWV) (E := Mo_arrives N v1 v2 σ) rfl (Nat.le_of_ble_eq_true rfl) (fun G hG => ?_) σ1 hE
  unfold Mo_arrives
  refine r_aload_n (pc := 0) 0 0 rfl rfl hG dX12_arrives_0 ?_
  refine r_iload_n (pc := 1) 2 2 rfl rfl hG dX12_arrives_1 ?_
  refine r_bR hG (fun r1 e3 => ?_)
  refine r_callVi (pc := 2) (As := [.int v2]) (c_Mo_isBetter X N v2 σ r1 e3) (wsOf_at (rfl : shp 114 = 12) (by decide) rfl) rfl mfX12_219_X12_isBetter hyVX12_isBetter (by decide) (by decide) rfl (Nat.le_of_ble_eq_true rfl) hG dX12_arrives_2 rfl (fun n2 => ?_)
  refine r_if_eq (pc := 5) (tgt := 57) (by decide) hG dX12_arrives_5 (fun h4 => ?_) (fun h4 => ?_)
  · exact w_Mo_arrives_J57 N hG v1 v2 σ
  · refine r_aload_n (pc := 8) 0 0 rfl rfl hG dX12_arrives_8 ?_
    refine r_iload_n (pc := 9) 2 2 rfl rfl hG dX12_arrives_9 ?_
    refine pf12_22 (pc := 10) lk1153 hG dX12_arrives_10 ?_
    refine r_bS hG (fun s13 => ?_)
    refine r_aload_n (pc := 13) 0 0 rfl rfl hG dX12_arrives_13 ?_
    refine r_aload_n (pc := 14) 0 0 rfl rfl hG dX12_arrives_14 ?_
    refine gf12_17 (pc := 15) lk1148 hG dX12_arrives_15 ?_
    refine r_iload_n (pc := 18) 2 2 rfl rfl hG dX12_arrives_18 ?_
    refine r_ck hG (fun h14 => ?_)
    refine r_iald (pc := 19) (i := 124) (rfl : shp 124 = 14) rfl h14 hG dX12_arrives_19 ?_
    refine pf12_24 (pc := 20) lk1155 hG dX12_arrives_20 ?_
    refine r_bS hG (fun s15 => ?_)
    refine r_aload_n (pc := 23) 0 0 rfl rfl hG dX12_arrives_23 ?_
    refine r_aload_n (pc := 24) 0 0 rfl rfl hG dX12_arrives_24 ?_
    refine gf12_18 (pc := 25) lk1149 hG dX12_arrives_25 ?_
    refine r_iload_n (pc := 28) 2 2 rfl rfl hG dX12_arrives_28 ?_
    refine r_ck hG (fun h16 => ?_)
    refine r_iald (pc := 29) (i := 125) (rfl : shp 125 = 14) rfl h16 hG dX12_arrives_29 ?_
    refine pf12_25 (pc := 30) lk1156 hG dX12_arrives_30 ?_
    refine r_bS hG (fun s17 => ?_)
    refine r_aload_n (pc := 33) 0 0 rfl rfl hG dX12_arrives_33 ?_
    refine r_aload_n (pc := 34) 0 0 rfl rfl hG dX12_arrives_34 ?_
    refine gf12_19 (pc := 35) lk1150 hG dX12_arrives_35 ?_
    refine r_iload_n (pc := 38) 2 2 rfl rfl hG dX12_arrives_38 ?_
    refine r_ck hG (fun h18 => ?_)
    refine r_iald (pc := 39) (i := 126) (rfl : shp 126 = 14) rfl h18 hG dX12_arrives_39 ?_
    refine pf12_26 (pc := 40) lk1157 hG dX12_arrives_40 ?_
    refine r_bS hG (fun s19 => ?_)
    refine r_aload_n (pc := 43) 0 0 rfl rfl hG dX12_arrives_43 ?_
    refine gf12_16 (pc := 44) lk1147 hG dX12_arrives_44 ?_
    refine r_iconst (pc := 47) (v := 1) (by decide) hG dX12_arrives_47 ?_
    refine r_aload_n (pc := 48) 0 0 rfl rfl hG dX12_arrives_48 ?_
    refine gf12_23 (pc := 49) lk1154 hG dX12_arrives_49 ?_
    refine r_iconst (pc := 52) (v := 0) (by decide) hG dX12_arrives_52 ?_
    refine r_iload_n (pc := 53) 2 2 rfl rfl hG dX12_arrives_53 ?_
    refine r_bR hG (fun s21 e23 => ?_)
    refine r_callSv (pc := 54) (As := [.ref (X.2.1 + 123), .int 1, .ref (X.2.1 + 129), .int 0, .int v2]) (c_Mo_copies X N 123 1 129 0 v2 s19 (rfl : shp 123 = 14) (rfl : shp 129 = 14) s21 e23) mfX12_175_X12_copies hySX12_copies (by decide) (by decide) rfl (Nat.le_of_ble_eq_true rfl) hG dX12_arrives_54 rfl (fun n22 => ?_)
    exact w_Mo_arrives_J57 N hG v1 v2 s21
set_option maxRecDepth 4000 in
theorem w_Mo_finds_J139 {X : Cx} {G : GT St} (N : Nat) (hG : IsG X RX12 cX12_finds 5 5 none oWV G) {K35 : Int32 → Int32 → Int32 → St → Option St} (hK35 : ∀ (v1 : Int32) (v2 : Int32) (v3 : Int32) (s : St), G (K35 v1 v2 v3 s) s 35 [(0, .ref (X.2.1 + 114)), (1, .int v1), (2, .int v2), (3, .int v3)] []) (v1 : Int32) (v2 : Int32) (v3 : Int32) (σ : St) : G (Mo_finds_J139 N K35 v1 v2 v3 σ) σ 139 [(0, .ref (X.2.1 + 114)), (1, .int v1), (2, .int v2), (3, .int v3)] [] := by
  unfold Mo_finds_J139
  refine r_goto (pc := 139) (tgt := 35) (by decide) hG dX12_finds_139 ?_
  exact hK35 v1 v2 v3 σ
set_option maxRecDepth 4000 in
theorem w_Mo_finds_L35B {X : Cx} {G : GT St} (N : Nat) (hG : IsG X RX12 cX12_finds 5 5 none oWV G) {K35 : Int32 → Int32 → Int32 → St → Option St} (hK35 : ∀ (v1 : Int32) (v2 : Int32) (v3 : Int32) (s : St), G (K35 v1 v2 v3 s) s 35 [(0, .ref (X.2.1 + 114)), (1, .int v1), (2, .int v2), (3, .int v3)] []) (v1 : Int32) (v2 : Int32) (v3 : Int32) (σ : St) : G (Mo_finds_L35B N K35 v1 v2 v3 σ) σ 35 [(0, .ref (X.2.1 + 114)), (1, .int v1), (2, .int v2), (3, .int v3)] [] := by
  unfold Mo_finds_L35B
  refine r_iload_n (pc := 35) 3 3 rfl rfl hG dX12_finds_35 ?_
  refine r_if_lt (pc := 36) (tgt := 142) (by decide) hG dX12_finds_36 (fun h9 => ?_) (fun h9 => ?_)
  · exact r_vret (pc := 142) rfl hG dX12_finds_142
  · refine r_aload_n (pc := 39) 0 0 rfl rfl hG dX12_finds_39 ?_
    refine gf12_16 (pc := 40) lk1147 hG dX12_finds_40 ?_
    refine r_iload_n (pc := 43) 3 3 rfl rfl hG dX12_finds_43 ?_
    refine r_ck hG (fun h10 => ?_)
    refine r_iald (pc := 44) (i := 123) (rfl : shp 123 = 14) rfl h10 hG dX12_finds_44 ?_
    refine r_bipush (pc := 45) (v := 7) (by decide) hG dX12_finds_45 ?_
    refine r_icmp_ne (pc := 47) (tgt := 62) (by decide) hG dX12_finds_47 (fun h11 => ?_) (fun h11 => ?_)
    · refine r_aload_n (pc := 62) 0 0 rfl rfl hG dX12_finds_62 ?_
      refine gf12_20 (pc := 63) lk1151 hG dX12_finds_63 ?_
      refine r_iload_n (pc := 66) 3 3 rfl rfl hG dX12_finds_66 ?_
      refine r_ck hG (fun h12 => ?_)
      refine r_iald (pc := 67) (i := 127) (rfl : shp 127 = 14) rfl h12 hG dX12_finds_67 ?_
      refine r_bipush (pc := 68) (v := 7) (by decide) hG dX12_finds_68 ?_
      refine r_icmp_le (pc := 70) (tgt := 79) (by decide) hG dX12_finds_70 (fun h13 => ?_) (fun h13 => ?_)
      · refine r_aload_n (pc := 79) 0 0 rfl rfl hG dX12_finds_79 ?_
        refine gf12_20 (pc := 80) lk1151 hG dX12_finds_80 ?_
        refine r_iload_n (pc := 83) 3 3 rfl rfl hG dX12_finds_83 ?_
        refine r_ck hG (fun h14 => ?_)
        refine r_iald (pc := 84) (i := 127) (rfl : shp 127 = 14) rfl h14 hG dX12_finds_84 ?_
        refine r_bI hG (fun x15 => ?_)
        refine r_istore (pc := 85) (lv' := [(4, .int x15), (0, .ref (X.2.1 + 114)), (1, .int v1), (2, .int v2), (3, .int v3)]) (by decide) rfl hG dX12_finds_85 ?_
        refine r_aload_n (pc := 87) 1 0 rfl rfl hG dX12_finds_87 ?_
        refine gf12_20 (pc := 88) lk1151 hG dX12_finds_88 ?_
        refine r_iload_n (pc := 91) 4 3 rfl rfl hG dX12_finds_91 ?_
        refine r_dup2 (pc := 92) rfl rfl hG dX12_finds_92 ?_
        refine r_ck hG (fun h16 => ?_)
        refine r_iald (pc := 93) (i := 127) (rfl : shp 127 = 14) rfl h16 hG dX12_finds_93 ?_
        refine r_iconst (pc := 94) (v := 1) (by decide) hG dX12_finds_94 ?_
        refine r_iadd (pc := 95) hG dX12_finds_95 ?_
        refine r_ck hG (fun h17 => ?_)
        refine r_iast (pc := 96) (i := 127) (rfl : shp 127 = 14) rfl h17 hG dX12_finds_96 ?_
        refine r_bS hG (fun s18 => ?_)
        refine r_aload_n (pc := 97) 1 0 rfl rfl hG dX12_finds_97 ?_
        refine gf12_21 (pc := 98) lk1152 hG dX12_finds_98 ?_
        refine r_iload_n (pc := 101) 4 3 rfl rfl hG dX12_finds_101 ?_
        refine r_ck hG (fun h19 => ?_)
        refine r_iald (pc := 102) (i := 128) (rfl : shp 128 = 14) rfl h19 hG dX12_finds_102 ?_
        refine r_iload (pc := 103) 0 rfl hG dX12_finds_103 ?_
        refine r_callSi (pc := 105) (As := [.int (s18.1 128 (v3).toNatClampNeg), .int x15]) (c_Mo_has X (s18.1 128 (v3).toNatClampNeg) x15 s18) mfX12_231_X12_has hySX12_has (by decide) (by decide) rfl (Nat.le_of_ble_eq_true rfl) hG dX12_finds_105 rfl (fun n21 => ?_)
        refine r_if_ne (pc := 108) (tgt := 139) (by decide) hG dX12_finds_108 (fun h23 => ?_) (fun h23 => ?_)
        · exact r_sub [1, 2, 3, 4] rfl hG (w_Mo_finds_J139 N hG hK35 v1 v2 v3 s18)
        · refine r_aload_n (pc := 111) 1 0 rfl rfl hG dX12_finds_111 ?_
          refine r_aload_n (pc := 112) 1 0 rfl rfl hG dX12_finds_112 ?_
          refine gf12_16 (pc := 113) lk1147 hG dX12_finds_113 ?_
          refine r_iload_n (pc := 116) 4 3 rfl rfl hG dX12_finds_116 ?_
          refine r_ck hG (fun h24 => ?_)
          refine r_iald (pc := 117) (i := 123) (rfl : shp 123 = 14) rfl h24 hG dX12_finds_117 ?_
          refine r_iload (pc := 118) 0 rfl hG dX12_finds_118 ?_
          refine r_bR hG (fun r25 e27 => ?_)
          refine r_callVi (pc := 120) (As := [.int (s18.1 123 (v3).toNatClampNeg), .int x15]) (c_Mo_strokesOf X N (s18.1 123 (v3).toNatClampNeg) x15 s18 r25 e27) (wsOf_at (rfl : shp 114 = 12) (by decide) rfl) rfl mfX12_96_X12_strokesOf hyVX12_strokesOf (by decide) (by decide) rfl (Nat.le_of_ble_eq_true rfl) hG dX12_finds_120 rfl (fun n26 => ?_)
          refine r_if_le (pc := 123) (tgt := 139) (by decide) hG dX12_finds_123 (fun h28 => ?_) (fun h28 => ?_)
          · exact r_sub [1, 2, 3, 4] rfl hG (w_Mo_finds_J139 N hG hK35 v1 v2 v3 s18)
          · refine r_aload_n (pc := 126) 1 0 rfl rfl hG dX12_finds_126 ?_
            refine r_iload_n (pc := 127) 2 1 rfl rfl hG dX12_finds_127 ?_
            refine r_iload_n (pc := 128) 3 2 rfl rfl hG dX12_finds_128 ?_
            refine r_iload_n (pc := 129) 4 3 rfl rfl hG dX12_finds_129 ?_
            refine r_iload (pc := 130) 0 rfl hG dX12_finds_130 ?_
            refine r_iconst (pc := 132) (v := 1) (by decide) hG dX12_finds_132 ?_
            refine r_bR hG (fun s30 e32 => ?_)
            refine r_callVv (pc := 133) (As := [.int v1, .int v2, .int v3, .int x15, .int 1]) (c_Mo_goesOn X N v1 v2 v3 x15 1 s18 s30 e32) (wsOf_at (rfl : shp 114 = 12) (by decide) rfl) rfl mfX12_234_X12_goesOn hyVX12_goesOn (by decide) (by decide) rfl (Nat.le_of_ble_eq_true rfl) hG dX12_finds_133 rfl (fun n31 => ?_)
            refine r_bIinc (pc := 136) (lv' := fun x33 => [(3, .int x33), (4, .int x15), (0, .ref (X.2.1 + 114)), (1, .int v1), (2, .int v2)]) 4 rfl rfl (by decide) (fun _ => rfl) hG dX12_finds_136 (fun x33 => ?_)
            exact r_sub [2, 3, 4, 0] rfl hG (w_Mo_finds_J139 N hG hK35 v1 v2 x33 s30)
      · refine r_bIinc (pc := 73) (lv' := fun x34 => [(3, .int x34), (0, .ref (X.2.1 + 114)), (1, .int v1), (2, .int v2)]) 3 rfl (by rw [show Int32.ofInt (-1) = (-1 : Int32) from by decide]) (by decide) (fun _ => rfl) hG dX12_finds_73 (fun x34 => ?_)
        refine r_goto (pc := 76) (tgt := 35) (by decide) hG dX12_finds_76 ?_
        exact r_sub [1, 2, 3, 0] rfl hG (hK35 v1 v2 x34 σ)
    · refine r_aload_n (pc := 50) 0 0 rfl rfl hG dX12_finds_50 ?_
      refine r_iload_n (pc := 51) 1 1 rfl rfl hG dX12_finds_51 ?_
      refine r_iload_n (pc := 52) 3 3 rfl rfl hG dX12_finds_52 ?_
      refine r_bR hG (fun s36 e38 => ?_)
      refine r_callVv (pc := 53) (As := [.int v1, .int v3]) (c_Mo_arrives X N v1 v3 σ s36 e38) (wsOf_at (rfl : shp 114 = 12) (by decide) rfl) rfl mfX12_228_X12_arrives hyVX12_arrives (by decide) (by decide) rfl (Nat.le_of_ble_eq_true rfl) hG dX12_finds_53 rfl (fun n37 => ?_)
      refine r_bIinc (pc := 56) (lv' := fun x39 => [(3, .int x39), (0, .ref (X.2.1 + 114)), (1, .int v1), (2, .int v2)]) 3 rfl (by rw [show Int32.ofInt (-1) = (-1 : Int32) from by decide]) (by decide) (fun _ => rfl) hG dX12_finds_56 (fun x39 => ?_)
      refine r_goto (pc := 59) (tgt := 35) (by decide) hG dX12_finds_59 ?_
      exact r_sub [1, 2, 3, 0] rfl hG (hK35 v1 v2 x39 s36)
set_option maxRecDepth 4000 in
theorem w_Mo_finds_L35 {X : Cx} {G : GT St} (N : Nat) (hG : IsG X RX12 cX12_finds 5 5 none oWV G) : ∀ (n : Nat), ∀ (v1 : Int32) (v2 : Int32) (v3 : Int32) (σ : St), G (Mo_finds_L35 N n v1 v2 v3 σ) σ 35 [(0, .ref (X.2.1 + 114)), (1, .int v1), (2, .int v2), (3, .int v3)] [] := by
  intro n
  induction n with
  | zero => intro v1 v2 v3 σ; exact r_none hG
  | succ n ih => intro v1 v2 v3 σ; exact w_Mo_finds_L35B N hG ih v1 v2 v3 σ
set_option maxRecDepth 4000 in
theorem w_Mo_finds_J34 {X : Cx} {G : GT St} (N : Nat) (hG : IsG X RX12 cX12_finds 5 5 none oWV G) (v1 : Int32) (v2 : Int32) (w0 : Int32) (σ : St) : G (Mo_finds_J34 N v1 v2 w0 σ) σ 34 [(0, .ref (X.2.1 + 114)), (1, .int v1), (2, .int v2)] [.int w0] := by
  unfold Mo_finds_J34
  refine r_istore_n (pc := 34) (lv' := [(3, .int w0), (0, .ref (X.2.1 + 114)), (1, .int v1), (2, .int v2)]) 3 rfl (by decide) rfl hG dX12_finds_34 ?_
  exact r_sub [1, 2, 3, 0] rfl hG (w_Mo_finds_L35 N hG N v1 v2 w0 σ)
set_option maxRecDepth 4000 in
theorem c_Mo_finds (X : Cx) (N : Nat) (v1 : Int32) (v2 : Int32) (σ : St) (σ1 : St) (hE : Mo_finds N v1 v2 σ = some σ1) : Ctr X yX12_finds cX12_finds 5 none 5 [.ref (X.2.1 + 114), .int v1, .int v2] σ none σ1 := by
  refine Ctr.of (out := oWV) (E := Mo_finds N v1 v2 σ) rfl (Nat.le_of_ble_eq_true rfl) (fun G hG => ?_) σ1 hE
  unfold Mo_finds
  refine r_aload_n (pc := 0) 0 0 rfl rfl hG dX12_finds_0 ?_
  refine r_iconst (pc := 1) (v := 0) (by decide) hG dX12_finds_1 ?_
  refine pf12_22 (pc := 2) lk1153 hG dX12_finds_2 ?_
  refine r_bS hG (fun s1 => ?_)
  refine r_aload_n (pc := 5) 0 0 rfl rfl hG dX12_finds_5 ?_
  refine r_iconst (pc := 6) (v := (-1)) (by decide) hG dX12_finds_6 ?_
  refine pf12_27 (pc := 7) lk1158 hG dX12_finds_7 ?_
  refine r_bS hG (fun s2 => ?_)
  refine r_aload_n (pc := 10) 0 0 rfl rfl hG dX12_finds_10 ?_
  refine r_iload_n (pc := 11) 1 1 rfl rfl hG dX12_finds_11 ?_
  refine r_bR hG (fun s4 e6 => ?_)
  refine r_callVv (pc := 12) (As := [.int v1]) (c_Mo_starts X N v1 s2 s4 e6) (wsOf_at (rfl : shp 114 = 12) (by decide) rfl) rfl mfX12_225_X12_starts hyVX12_starts (by decide) (by decide) rfl (Nat.le_of_ble_eq_true rfl) hG dX12_finds_12 rfl (fun n5 => ?_)
  refine r_aload_n (pc := 15) 0 0 rfl rfl hG dX12_finds_15 ?_
  refine gf12_0 (pc := 16) lk1131 hG dX12_finds_16 ?_
  refine r_bipush (pc := 19) (v := 60) (by decide) hG dX12_finds_19 ?_
  refine r_iload_n (pc := 21) 1 1 rfl rfl hG dX12_finds_21 ?_
  refine r_iadd (pc := 22) hG dX12_finds_22 ?_
  refine r_ck hG (fun h7 => ?_)
  refine r_iald (pc := 23) (i := 115) (rfl : shp 115 = 14) rfl h7 hG dX12_finds_23 ?_
  refine r_bipush (pc := 24) (v := 7) (by decide) hG dX12_finds_24 ?_
  refine r_icmp_ne (pc := 26) (tgt := 33) (by decide) hG dX12_finds_26 (fun h8 => ?_) (fun h8 => ?_)
  · refine r_iconst (pc := 33) (v := 0) (by decide) hG dX12_finds_33 ?_
    exact w_Mo_finds_J34 N hG v1 v2 0 s4
  · refine r_iconst (pc := 29) (v := (-1)) (by decide) hG dX12_finds_29 ?_
    refine r_goto (pc := 30) (tgt := 34) (by decide) hG dX12_finds_30 ?_
    exact w_Mo_finds_J34 N hG v1 v2 (-1) s4
set_option maxRecDepth 4000 in
theorem w_Mo_way_J22 {X : Cx} {G : GT (Int32 × St)} (N : Nat) (hG : IsG X RX12 cX12_way 4 6 (some .int) oWI G) (σ : St) : G (Mo_way_J22 N σ) σ 22 [(0, .ref (X.2.1 + 114))] [] := by
  unfold Mo_way_J22
  refine r_aload_n (pc := 22) 0 0 rfl rfl hG dX12_way_22 ?_
  refine r_bipush (pc := 23) (v := (-10)) (by decide) hG dX12_way_23 ?_
  refine r_bW hG (fun r5 s6 e8 => ?_)
  refine r_callVi (pc := 25) (As := [.int (-10)]) (c_Mo_bad X N (-10) σ r5 s6 e8) (wsOf_at (rfl : shp 114 = 12) (by decide) rfl) rfl mfX12_84_X12_bad hyVX12_bad (by decide) (by decide) rfl (Nat.le_of_ble_eq_true rfl) hG dX12_way_25 rfl (fun n7 => ?_)
  exact r_iret (pc := 28) rfl hG dX12_way_28
set_option maxRecDepth 4000 in
theorem c_Mo_way (X : Cx) (N : Nat) (v1 : Int32) (v2 : Int32) (v3 : Int32) (σ : St) (r : Int32) (σ1 : St) (hE : Mo_way N v1 v2 v3 σ = some (r, σ1)) : Ctr X yX12_way cX12_way 4 (some .int) 6 [.ref (X.2.1 + 114), .int v1, .int v2, .int v3] σ (some (.int r)) σ1 := by
  refine Ctr.of (out := oWI) (E := Mo_way N v1 v2 v3 σ) rfl (Nat.le_of_ble_eq_true rfl) (fun G hG => ?_) (r, σ1) hE
  unfold Mo_way
  refine r_aload_n (pc := 0) 0 0 rfl rfl hG dX12_way_0 ?_
  refine r_iload_n (pc := 1) 1 1 rfl rfl hG dX12_way_1 ?_
  refine r_bR hG (fun r1 e3 => ?_)
  refine r_callVi (pc := 2) (As := [.int v1]) (c_Mo_isGuest X N v1 σ r1 e3) (wsOf_at (rfl : shp 114 = 12) (by decide) rfl) rfl mfX12_190_X12_isGuest hyVX12_isGuest (by decide) (by decide) rfl (Nat.le_of_ble_eq_true rfl) hG dX12_way_2 rfl (fun n2 => ?_)
  refine r_if_eq (pc := 5) (tgt := 22) (by decide) hG dX12_way_5 (fun h4 => ?_) (fun h4 => ?_)
  · exact r_sub [0] rfl hG (w_Mo_way_J22 N hG σ)
  · refine r_aload_n (pc := 8) 0 0 rfl rfl hG dX12_way_8 ?_
    refine r_iload_n (pc := 9) 2 2 rfl rfl hG dX12_way_9 ?_
    refine r_bR hG (fun r9 e11 => ?_)
    refine r_callVi (pc := 10) (As := [.int v2]) (c_Mo_isRower X N v2 σ r9 e11) (wsOf_at (rfl : shp 114 = 12) (by decide) rfl) rfl mfX12_193_X12_isRower hyVX12_isRower (by decide) (by decide) rfl (Nat.le_of_ble_eq_true rfl) hG dX12_way_10 rfl (fun n10 => ?_)
    refine r_if_eq (pc := 13) (tgt := 22) (by decide) hG dX12_way_13 (fun h12 => ?_) (fun h12 => ?_)
    · exact r_sub [0] rfl hG (w_Mo_way_J22 N hG σ)
    · refine r_iload_n (pc := 16) 3 3 rfl rfl hG dX12_way_16 ?_
      refine r_bipush (pc := 17) (v := (-4)) (by decide) hG dX12_way_17 ?_
      refine r_icmp_ge (pc := 19) (tgt := 29) (by decide) hG dX12_way_19 (fun h13 => ?_) (fun h13 => ?_)
      · refine r_aload_n (pc := 29) 0 0 rfl rfl hG dX12_way_29 ?_
        refine r_iload_n (pc := 30) 1 1 rfl rfl hG dX12_way_30 ?_
        refine r_iload_n (pc := 31) 2 2 rfl rfl hG dX12_way_31 ?_
        refine r_bR hG (fun s15 e17 => ?_)
        refine r_callVv (pc := 32) (As := [.int v1, .int v2]) (c_Mo_finds X N v1 v2 σ s15 e17) (wsOf_at (rfl : shp 114 = 12) (by decide) rfl) rfl mfX12_238_X12_finds hyVX12_finds (by decide) (by decide) rfl (Nat.le_of_ble_eq_true rfl) hG dX12_way_32 rfl (fun n16 => ?_)
        refine r_aload_n (pc := 35) 0 0 rfl rfl hG dX12_way_35 ?_
        refine gf12_22 (pc := 36) lk1153 hG dX12_way_36 ?_
        refine r_if_ne (pc := 39) (tgt := 44) (by decide) hG dX12_way_39 (fun h18 => ?_) (fun h18 => ?_)
        · refine r_iload_n (pc := 44) 3 3 rfl rfl hG dX12_way_44 ?_
          refine r_ite hG (fun h19 => ?_) (fun h19 => ?_)
          · refine r_tableIn (pc := 45) (tgt := 76) (off := 31) (by rw [h19]; decide) (by rw [h19]; decide) (by rw [h19]; decide) (by decide) hG dX12_way_45 ?_
            refine r_aload_n (pc := 76) 0 0 rfl rfl hG dX12_way_76 ?_
            refine gf12_24 (pc := 77) lk1155 hG dX12_way_77 ?_
            exact r_iret (pc := 80) rfl hG dX12_way_80
          · refine r_ite hG (fun h20 => ?_) (fun h20 => ?_)
            · refine r_tableIn (pc := 45) (tgt := 81) (off := 36) (by rw [h20]; decide) (by rw [h20]; decide) (by rw [h20]; decide) (by decide) hG dX12_way_45 ?_
              refine r_aload_n (pc := 81) 0 0 rfl rfl hG dX12_way_81 ?_
              refine gf12_25 (pc := 82) lk1156 hG dX12_way_82 ?_
              exact r_iret (pc := 85) rfl hG dX12_way_85
            · refine r_ite hG (fun h21 => ?_) (fun h21 => ?_)
              · refine r_tableIn (pc := 45) (tgt := 86) (off := 41) (by rw [h21]; decide) (by rw [h21]; decide) (by rw [h21]; decide) (by decide) hG dX12_way_45 ?_
                refine r_aload_n (pc := 86) 0 0 rfl rfl hG dX12_way_86 ?_
                refine gf12_26 (pc := 87) lk1157 hG dX12_way_87 ?_
                exact r_iret (pc := 90) rfl hG dX12_way_90
              · refine r_ite hG (fun h22 => ?_) (fun h22 => ?_)
                · refine r_tableIn (pc := 45) (tgt := 91) (off := 46) (by rw [h22]; decide) (by rw [h22]; decide) (by rw [h22]; decide) (by decide) hG dX12_way_45 ?_
                  refine r_aload_n (pc := 91) 0 0 rfl rfl hG dX12_way_91 ?_
                  refine gf12_22 (pc := 92) lk1153 hG dX12_way_92 ?_
                  exact r_iret (pc := 95) rfl hG dX12_way_95
                · refine r_tableOut (pc := 45) (tgt := 96) (by have q0 := lv_neT h19 (a := (-4)) (by decide); have q1 := lv_neT h20 (a := (-3)) (by decide); have q2 := lv_neT h21 (a := (-2)) (by decide); have q3 := lv_neT h22 (a := (-1)) (by decide); omega) (by decide) hG dX12_way_45 ?_
                  refine r_iload_n (pc := 96) 3 3 rfl rfl hG dX12_way_96 ?_
                  refine r_aload_n (pc := 97) 0 0 rfl rfl hG dX12_way_97 ?_
                  refine gf12_22 (pc := 98) lk1153 hG dX12_way_98 ?_
                  refine r_icmp_ge (pc := 101) (tgt := 113) (by decide) hG dX12_way_101 (fun h23 => ?_) (fun h23 => ?_)
                  · refine r_bipush (pc := 113) (v := (-5)) (by decide) hG dX12_way_113 ?_
                    exact r_iret (pc := 115) rfl hG dX12_way_115
                  · refine r_aload_n (pc := 104) 0 0 rfl rfl hG dX12_way_104 ?_
                    refine gf12_23 (pc := 105) lk1154 hG dX12_way_105 ?_
                    refine r_iload_n (pc := 108) 3 3 rfl rfl hG dX12_way_108 ?_
                    refine r_ck hG (fun h24 => ?_)
                    refine r_iald (pc := 109) (i := 129) (rfl : shp 129 = 14) rfl h24 hG dX12_way_109 ?_
                    refine r_goto (pc := 110) (tgt := 115) (by decide) hG dX12_way_110 ?_
                    exact r_iret (pc := 115) rfl hG dX12_way_115
        · refine r_iconst (pc := 42) (v := (-1)) (by decide) hG dX12_way_42 ?_
          exact r_iret (pc := 43) rfl hG dX12_way_43
      · exact r_sub [0] rfl hG (w_Mo_way_J22 N hG σ)
set_option maxRecDepth 4000 in
theorem w_Mo_gentle_J16 {X : Cx} {G : GT (Int32 × St)} (N : Nat) (hG : IsG X RX12 cX12_gentle 3 6 (some .int) oWI G) (σ : St) : G (Mo_gentle_J16 N σ) σ 16 [(0, .ref (X.2.1 + 114))] [] := by
  unfold Mo_gentle_J16
  refine r_aload_n (pc := 16) 0 0 rfl rfl hG dX12_gentle_16 ?_
  refine r_bipush (pc := 17) (v := (-2)) (by decide) hG dX12_gentle_17 ?_
  refine r_bW hG (fun r5 s6 e8 => ?_)
  refine r_callVi (pc := 19) (As := [.int (-2)]) (c_Mo_bad X N (-2) σ r5 s6 e8) (wsOf_at (rfl : shp 114 = 12) (by decide) rfl) rfl mfX12_84_X12_bad hyVX12_bad (by decide) (by decide) rfl (Nat.le_of_ble_eq_true rfl) hG dX12_gentle_19 rfl (fun n7 => ?_)
  exact r_iret (pc := 22) rfl hG dX12_gentle_22
set_option maxRecDepth 4000 in
theorem c_Mo_gentle (X : Cx) (N : Nat) (v1 : Int32) (v2 : Int32) (σ : St) (r : Int32) (σ1 : St) (hE : Mo_gentle N v1 v2 σ = some (r, σ1)) : Ctr X yX12_gentle cX12_gentle 3 (some .int) 6 [.ref (X.2.1 + 114), .int v1, .int v2] σ (some (.int r)) σ1 := by
  refine Ctr.of (out := oWI) (E := Mo_gentle N v1 v2 σ) rfl (Nat.le_of_ble_eq_true rfl) (fun G hG => ?_) (r, σ1) hE
  unfold Mo_gentle
  refine r_aload_n (pc := 0) 0 0 rfl rfl hG dX12_gentle_0 ?_
  refine r_iload_n (pc := 1) 1 1 rfl rfl hG dX12_gentle_1 ?_
  refine r_bR hG (fun r1 e3 => ?_)
  refine r_callVi (pc := 2) (As := [.int v1]) (c_Mo_isGuest X N v1 σ r1 e3) (wsOf_at (rfl : shp 114 = 12) (by decide) rfl) rfl mfX12_190_X12_isGuest hyVX12_isGuest (by decide) (by decide) rfl (Nat.le_of_ble_eq_true rfl) hG dX12_gentle_2 rfl (fun n2 => ?_)
  refine r_if_eq (pc := 5) (tgt := 16) (by decide) hG dX12_gentle_5 (fun h4 => ?_) (fun h4 => ?_)
  · exact r_sub [0] rfl hG (w_Mo_gentle_J16 N hG σ)
  · refine r_aload_n (pc := 8) 0 0 rfl rfl hG dX12_gentle_8 ?_
    refine r_iload_n (pc := 9) 2 2 rfl rfl hG dX12_gentle_9 ?_
    refine r_bR hG (fun r9 e11 => ?_)
    refine r_callVi (pc := 10) (As := [.int v2]) (c_Mo_isRower X N v2 σ r9 e11) (wsOf_at (rfl : shp 114 = 12) (by decide) rfl) rfl mfX12_193_X12_isRower hyVX12_isRower (by decide) (by decide) rfl (Nat.le_of_ble_eq_true rfl) hG dX12_gentle_10 rfl (fun n10 => ?_)
    refine r_if_ne (pc := 13) (tgt := 23) (by decide) hG dX12_gentle_13 (fun h12 => ?_) (fun h12 => ?_)
    · refine r_aload_n (pc := 23) 0 0 rfl rfl hG dX12_gentle_23 ?_
      refine r_iload_n (pc := 24) 1 1 rfl rfl hG dX12_gentle_24 ?_
      refine r_iload_n (pc := 25) 2 2 rfl rfl hG dX12_gentle_25 ?_
      refine r_bR hG (fun s14 e16 => ?_)
      refine r_callVv (pc := 26) (As := [.int v1, .int v2]) (c_Mo_finds X N v1 v2 σ s14 e16) (wsOf_at (rfl : shp 114 = 12) (by decide) rfl) rfl mfX12_238_X12_finds hyVX12_finds (by decide) (by decide) rfl (Nat.le_of_ble_eq_true rfl) hG dX12_gentle_26 rfl (fun n15 => ?_)
      refine r_aload_n (pc := 29) 0 0 rfl rfl hG dX12_gentle_29 ?_
      refine gf12_27 (pc := 30) lk1158 hG dX12_gentle_30 ?_
      exact r_iret (pc := 33) rfl hG dX12_gentle_33
    · exact r_sub [0] rfl hG (w_Mo_gentle_J16 N hG σ)
set_option maxRecDepth 4000 in
theorem w_Mo_where_J16 {X : Cx} {G : GT (Int32 × St)} (N : Nat) (hG : IsG X RX12 cX12_where 4 6 (some .int) oWI G) (σ : St) : G (Mo_where_J16 N σ) σ 16 [(0, .ref (X.2.1 + 114))] [] := by
  unfold Mo_where_J16
  refine r_aload_n (pc := 16) 0 0 rfl rfl hG dX12_where_16 ?_
  refine r_bipush (pc := 17) (v := (-10)) (by decide) hG dX12_where_17 ?_
  refine r_bW hG (fun r5 s6 e8 => ?_)
  refine r_callVi (pc := 19) (As := [.int (-10)]) (c_Mo_bad X N (-10) σ r5 s6 e8) (wsOf_at (rfl : shp 114 = 12) (by decide) rfl) rfl mfX12_84_X12_bad hyVX12_bad (by decide) (by decide) rfl (Nat.le_of_ble_eq_true rfl) hG dX12_where_19 rfl (fun n7 => ?_)
  exact r_iret (pc := 22) rfl hG dX12_where_22
set_option maxRecDepth 4000 in
theorem w_Mo_where_L70B {X : Cx} {G : GT (Int32 × St)} (N : Nat) (hG : IsG X RX12 cX12_where 4 6 (some .int) oWI G) {K70 : Int32 → Int32 → Int32 → St → Option (Int32 × St)} (hK70 : ∀ (v1 : Int32) (v2 : Int32) (v3 : Int32) (s : St), G (K70 v1 v2 v3 s) s 70 [(0, .ref (X.2.1 + 114)), (1, .int v1), (2, .int v2), (3, .int v3)] []) (v1 : Int32) (v2 : Int32) (v3 : Int32) (σ : St) : G (Mo_where_L70B N K70 v1 v2 v3 σ) σ 70 [(0, .ref (X.2.1 + 114)), (1, .int v1), (2, .int v2), (3, .int v3)] [] := by
  unfold Mo_where_L70B
  refine r_iload_n (pc := 70) 3 3 rfl rfl hG dX12_where_70 ?_
  refine r_aload_n (pc := 71) 0 0 rfl rfl hG dX12_where_71 ?_
  refine gf12_22 (pc := 72) lk1153 hG dX12_where_72 ?_
  refine r_icmp_ge (pc := 75) (tgt := 120) (by decide) hG dX12_where_75 (fun h25 => ?_) (fun h25 => ?_)
  · refine r_iconst (pc := 120) (v := (-1)) (by decide) hG dX12_where_120 ?_
    exact r_iret (pc := 121) rfl hG dX12_where_121
  · refine r_aload_n (pc := 78) 0 0 rfl rfl hG dX12_where_78 ?_
    refine r_iload_n (pc := 79) 1 1 rfl rfl hG dX12_where_79 ?_
    refine r_iload_n (pc := 80) 2 2 rfl rfl hG dX12_where_80 ?_
    refine r_iload_n (pc := 81) 3 3 rfl rfl hG dX12_where_81 ?_
    refine r_aload_n (pc := 82) 0 0 rfl rfl hG dX12_where_82 ?_
    refine gf12_23 (pc := 83) lk1154 hG dX12_where_83 ?_
    refine r_iload_n (pc := 86) 3 3 rfl rfl hG dX12_where_86 ?_
    refine r_ck hG (fun h26 => ?_)
    refine r_iald (pc := 87) (i := 129) (rfl : shp 129 = 14) rfl h26 hG dX12_where_87 ?_
    refine r_iconst (pc := 88) (v := 1) (by decide) hG dX12_where_88 ?_
    refine r_bR hG (fun s28 e30 => ?_)
    refine r_callVv (pc := 89) (As := [.int v1, .int v2, .int v3, .int (σ.1 129 (v3).toNatClampNeg), .int 1]) (c_Mo_goesOn X N v1 v2 v3 (σ.1 129 (v3).toNatClampNeg) 1 σ s28 e30) (wsOf_at (rfl : shp 114 = 12) (by decide) rfl) rfl mfX12_234_X12_goesOn hyVX12_goesOn (by decide) (by decide) rfl (Nat.le_of_ble_eq_true rfl) hG dX12_where_89 rfl (fun n29 => ?_)
    refine r_aload_n (pc := 92) 0 0 rfl rfl hG dX12_where_92 ?_
    refine gf12_17 (pc := 93) lk1148 hG dX12_where_93 ?_
    refine r_iload_n (pc := 96) 3 3 rfl rfl hG dX12_where_96 ?_
    refine r_iconst (pc := 97) (v := 1) (by decide) hG dX12_where_97 ?_
    refine r_iadd (pc := 98) hG dX12_where_98 ?_
    refine r_ck hG (fun h31 => ?_)
    refine r_iald (pc := 99) (i := 124) (rfl : shp 124 = 14) rfl h31 hG dX12_where_99 ?_
    refine r_aload_n (pc := 100) 0 0 rfl rfl hG dX12_where_100 ?_
    refine gf12_0 (pc := 101) lk1131 hG dX12_where_101 ?_
    refine r_bipush (pc := 104) (v := 48) (by decide) hG dX12_where_104 ?_
    refine r_iload_n (pc := 106) 1 1 rfl rfl hG dX12_where_106 ?_
    refine r_iadd (pc := 107) hG dX12_where_107 ?_
    refine r_ck hG (fun h32 => ?_)
    refine r_iald (pc := 108) (i := 115) (rfl : shp 115 = 14) rfl h32 hG dX12_where_108 ?_
    refine r_icmp_ne (pc := 109) (tgt := 114) (by decide) hG dX12_where_109 (fun h33 => ?_) (fun h33 => ?_)
    · refine r_bIinc (pc := 114) (lv' := fun x34 => [(3, .int x34), (0, .ref (X.2.1 + 114)), (1, .int v1), (2, .int v2)]) 3 rfl rfl (by decide) (fun _ => rfl) hG dX12_where_114 (fun x34 => ?_)
      refine r_goto (pc := 117) (tgt := 70) (by decide) hG dX12_where_117 ?_
      exact r_sub [1, 2, 3, 0] rfl hG (hK70 v1 v2 x34 s28)
    · refine r_iload_n (pc := 112) 3 3 rfl rfl hG dX12_where_112 ?_
      exact r_iret (pc := 113) rfl hG dX12_where_113
set_option maxRecDepth 4000 in
theorem w_Mo_where_L70 {X : Cx} {G : GT (Int32 × St)} (N : Nat) (hG : IsG X RX12 cX12_where 4 6 (some .int) oWI G) : ∀ (n : Nat), ∀ (v1 : Int32) (v2 : Int32) (v3 : Int32) (σ : St), G (Mo_where_L70 N n v1 v2 v3 σ) σ 70 [(0, .ref (X.2.1 + 114)), (1, .int v1), (2, .int v2), (3, .int v3)] [] := by
  intro n
  induction n with
  | zero => intro v1 v2 v3 σ; exact r_none hG
  | succ n ih => intro v1 v2 v3 σ; exact w_Mo_where_L70B N hG ih v1 v2 v3 σ
set_option maxRecDepth 4000 in
theorem c_Mo_where (X : Cx) (N : Nat) (v1 : Int32) (v2 : Int32) (σ : St) (r : Int32) (σ1 : St) (hE : Mo_where N v1 v2 σ = some (r, σ1)) : Ctr X yX12_where cX12_where 4 (some .int) 6 [.ref (X.2.1 + 114), .int v1, .int v2] σ (some (.int r)) σ1 := by
  refine Ctr.of (out := oWI) (E := Mo_where N v1 v2 σ) rfl (Nat.le_of_ble_eq_true rfl) (fun G hG => ?_) (r, σ1) hE
  unfold Mo_where
  refine r_aload_n (pc := 0) 0 0 rfl rfl hG dX12_where_0 ?_
  refine r_iload_n (pc := 1) 1 1 rfl rfl hG dX12_where_1 ?_
  refine r_bR hG (fun r1 e3 => ?_)
  refine r_callVi (pc := 2) (As := [.int v1]) (c_Mo_isGuest X N v1 σ r1 e3) (wsOf_at (rfl : shp 114 = 12) (by decide) rfl) rfl mfX12_190_X12_isGuest hyVX12_isGuest (by decide) (by decide) rfl (Nat.le_of_ble_eq_true rfl) hG dX12_where_2 rfl (fun n2 => ?_)
  refine r_if_eq (pc := 5) (tgt := 16) (by decide) hG dX12_where_5 (fun h4 => ?_) (fun h4 => ?_)
  · exact r_sub [0] rfl hG (w_Mo_where_J16 N hG σ)
  · refine r_aload_n (pc := 8) 0 0 rfl rfl hG dX12_where_8 ?_
    refine r_iload_n (pc := 9) 2 2 rfl rfl hG dX12_where_9 ?_
    refine r_bR hG (fun r9 e11 => ?_)
    refine r_callVi (pc := 10) (As := [.int v2]) (c_Mo_isRower X N v2 σ r9 e11) (wsOf_at (rfl : shp 114 = 12) (by decide) rfl) rfl mfX12_193_X12_isRower hyVX12_isRower (by decide) (by decide) rfl (Nat.le_of_ble_eq_true rfl) hG dX12_where_10 rfl (fun n10 => ?_)
    refine r_if_ne (pc := 13) (tgt := 23) (by decide) hG dX12_where_13 (fun h12 => ?_) (fun h12 => ?_)
    · refine r_aload_n (pc := 23) 0 0 rfl rfl hG dX12_where_23 ?_
      refine gf12_0 (pc := 24) lk1131 hG dX12_where_24 ?_
      refine r_bipush (pc := 27) (v := 52) (by decide) hG dX12_where_27 ?_
      refine r_iload_n (pc := 29) 1 1 rfl rfl hG dX12_where_29 ?_
      refine r_iadd (pc := 30) hG dX12_where_30 ?_
      refine r_ck hG (fun h13 => ?_)
      refine r_iald (pc := 31) (i := 115) (rfl : shp 115 = 14) rfl h13 hG dX12_where_31 ?_
      refine r_aload_n (pc := 32) 0 0 rfl rfl hG dX12_where_32 ?_
      refine gf12_0 (pc := 33) lk1131 hG dX12_where_33 ?_
      refine r_bipush (pc := 36) (v := 48) (by decide) hG dX12_where_36 ?_
      refine r_iload_n (pc := 38) 1 1 rfl rfl hG dX12_where_38 ?_
      refine r_iadd (pc := 39) hG dX12_where_39 ?_
      refine r_ck hG (fun h14 => ?_)
      refine r_iald (pc := 40) (i := 115) (rfl : shp 115 = 14) rfl h14 hG dX12_where_40 ?_
      refine r_icmp_ne (pc := 41) (tgt := 47) (by decide) hG dX12_where_41 (fun h15 => ?_) (fun h15 => ?_)
      · refine r_aload_n (pc := 47) 0 0 rfl rfl hG dX12_where_47 ?_
        refine r_iload_n (pc := 48) 1 1 rfl rfl hG dX12_where_48 ?_
        refine r_iload_n (pc := 49) 2 2 rfl rfl hG dX12_where_49 ?_
        refine r_bR hG (fun s17 e19 => ?_)
        refine r_callVv (pc := 50) (As := [.int v1, .int v2]) (c_Mo_finds X N v1 v2 σ s17 e19) (wsOf_at (rfl : shp 114 = 12) (by decide) rfl) rfl mfX12_238_X12_finds hyVX12_finds (by decide) (by decide) rfl (Nat.le_of_ble_eq_true rfl) hG dX12_where_50 rfl (fun n18 => ?_)
        refine r_aload_n (pc := 53) 0 0 rfl rfl hG dX12_where_53 ?_
        refine gf12_22 (pc := 54) lk1153 hG dX12_where_54 ?_
        refine r_if_ne (pc := 57) (tgt := 63) (by decide) hG dX12_where_57 (fun h20 => ?_) (fun h20 => ?_)
        · refine r_aload_n (pc := 63) 0 0 rfl rfl hG dX12_where_63 ?_
          refine r_iload_n (pc := 64) 1 1 rfl rfl hG dX12_where_64 ?_
          refine r_bR hG (fun s22 e24 => ?_)
          refine r_callVv (pc := 65) (As := [.int v1]) (c_Mo_starts X N v1 s17 s22 e24) (wsOf_at (rfl : shp 114 = 12) (by decide) rfl) rfl mfX12_225_X12_starts hyVX12_starts (by decide) (by decide) rfl (Nat.le_of_ble_eq_true rfl) hG dX12_where_65 rfl (fun n23 => ?_)
          refine r_iconst (pc := 68) (v := 0) (by decide) hG dX12_where_68 ?_
          refine r_istore_n (pc := 69) (lv' := [(3, .int 0), (0, .ref (X.2.1 + 114)), (1, .int v1), (2, .int v2)]) 3 rfl (by decide) rfl hG dX12_where_69 ?_
          exact r_sub [1, 2, 3, 0] rfl hG (w_Mo_where_L70 N hG N v1 v2 0 s22)
        · refine r_bipush (pc := 60) (v := (-4)) (by decide) hG dX12_where_60 ?_
          exact r_iret (pc := 62) rfl hG dX12_where_62
      · refine r_bipush (pc := 44) (v := (-3)) (by decide) hG dX12_where_44 ?_
        exact r_iret (pc := 46) rfl hG dX12_where_46
    · exact r_sub [0] rfl hG (w_Mo_where_J16 N hG σ)
set_option maxRecDepth 4000 in
theorem w_Mo_findsAll_J171 {X : Cx} {G : GT St} (N : Nat) (hG : IsG X RX12 cX12_findsAll 3 6 none oWV G) {K2 : Int32 → St → Option St} (hK2 : ∀ (v1 : Int32) (s : St), G (K2 v1 s) s 2 [(0, .ref (X.2.1 + 114)), (1, .int v1)] []) (v1 : Int32) (w1 : Int32) (w2 : Int32) (σ : St) : G (Mo_findsAll_J171 N K2 v1 w1 w2 σ) σ 171 [(0, .ref (X.2.1 + 114)), (1, .int v1)] [.int w2, .int w1, .ref (X.2.1 + 131)] := by
  unfold Mo_findsAll_J171
  refine r_ck hG (fun h9 => ?_)
  refine r_iast (pc := 171) (i := 131) (rfl : shp 131 = 14) rfl h9 hG dX12_findsAll_171 ?_
  refine r_bS hG (fun s10 => ?_)
  refine r_bIinc (pc := 172) (lv' := fun x11 => [(1, .int x11), (0, .ref (X.2.1 + 114))]) 1 rfl rfl (by decide) (fun _ => rfl) hG dX12_findsAll_172 (fun x11 => ?_)
  refine r_goto (pc := 175) (tgt := 2) (by decide) hG dX12_findsAll_175 ?_
  exact r_sub [1, 0] rfl hG (hK2 x11 s10)
set_option maxRecDepth 4000 in
theorem w_Mo_findsAll_J144 {X : Cx} {G : GT St} (N : Nat) (hG : IsG X RX12 cX12_findsAll 3 6 none oWV G) {K2 : Int32 → St → Option St} (hK2 : ∀ (v1 : Int32) (s : St), G (K2 v1 s) s 2 [(0, .ref (X.2.1 + 114)), (1, .int v1)] []) (v1 : Int32) (v2 : Int32) (w1 : Int32) (w2 : Int32) (σ : St) : G (Mo_findsAll_J144 N K2 v1 v2 w1 w2 σ) σ 144 [(0, .ref (X.2.1 + 114)), (1, .int v1), (2, .int v2)] [.int w2, .int w1, .ref (X.2.1 + 130)] := by
  unfold Mo_findsAll_J144
  refine r_ck hG (fun h6 => ?_)
  refine r_iast (pc := 144) (i := 130) (rfl : shp 130 = 14) rfl h6 hG dX12_findsAll_144 ?_
  refine r_bS hG (fun s7 => ?_)
  refine r_aload_n (pc := 145) 0 0 rfl rfl hG dX12_findsAll_145 ?_
  refine gf12_29 (pc := 146) lk1160 hG dX12_findsAll_146 ?_
  refine r_iconst (pc := 149) (v := 4) (by decide) hG dX12_findsAll_149 ?_
  refine r_iload_n (pc := 150) 1 1 rfl rfl hG dX12_findsAll_150 ?_
  refine r_imul (pc := 151) hG dX12_findsAll_151 ?_
  refine r_iconst (pc := 152) (v := 3) (by decide) hG dX12_findsAll_152 ?_
  refine r_iadd (pc := 153) hG dX12_findsAll_153 ?_
  refine r_iload_n (pc := 154) 2 2 rfl rfl hG dX12_findsAll_154 ?_
  refine r_if_eq (pc := 155) (tgt := 170) (by decide) hG dX12_findsAll_155 (fun h8 => ?_) (fun h8 => ?_)
  · refine r_iconst (pc := 170) (v := (-1)) (by decide) hG dX12_findsAll_170 ?_
    exact r_sub [0, 1] rfl hG (w_Mo_findsAll_J171 N hG hK2 v1 ((4 * v1) + 3) (-1) s7)
  · refine r_aload_n (pc := 158) 0 0 rfl rfl hG dX12_findsAll_158 ?_
    refine gf12_0 (pc := 159) lk1131 hG dX12_findsAll_159 ?_
    refine r_bipush (pc := 162) (v := 56) (by decide) hG dX12_findsAll_162 ?_
    refine r_iload_n (pc := 164) 1 1 rfl rfl hG dX12_findsAll_164 ?_
    refine r_iadd (pc := 165) hG dX12_findsAll_165 ?_
    refine r_ck hG (fun h12 => ?_)
    refine r_iald (pc := 166) (i := 115) (rfl : shp 115 = 14) rfl h12 hG dX12_findsAll_166 ?_
    refine r_goto (pc := 167) (tgt := 171) (by decide) hG dX12_findsAll_167 ?_
    exact r_sub [0, 1] rfl hG (w_Mo_findsAll_J171 N hG hK2 v1 ((4 * v1) + 3) (s7.1 115 ((56 + v1)).toNatClampNeg) s7)
set_option maxRecDepth 4000 in
theorem w_Mo_findsAll_J117 {X : Cx} {G : GT St} (N : Nat) (hG : IsG X RX12 cX12_findsAll 3 6 none oWV G) {K2 : Int32 → St → Option St} (hK2 : ∀ (v1 : Int32) (s : St), G (K2 v1 s) s 2 [(0, .ref (X.2.1 + 114)), (1, .int v1)] []) (v1 : Int32) (w0 : Int32) (σ : St) : G (Mo_findsAll_J117 N K2 v1 w0 σ) σ 117 [(0, .ref (X.2.1 + 114)), (1, .int v1)] [.int w0] := by
  unfold Mo_findsAll_J117
  refine r_istore_n (pc := 117) (lv' := [(2, .int w0), (0, .ref (X.2.1 + 114)), (1, .int v1)]) 2 rfl (by decide) rfl hG dX12_findsAll_117 ?_
  refine r_aload_n (pc := 118) 1 0 rfl rfl hG dX12_findsAll_118 ?_
  refine gf12_28 (pc := 119) lk1159 hG dX12_findsAll_119 ?_
  refine r_iconst (pc := 122) (v := 4) (by decide) hG dX12_findsAll_122 ?_
  refine r_iload_n (pc := 123) 2 1 rfl rfl hG dX12_findsAll_123 ?_
  refine r_imul (pc := 124) hG dX12_findsAll_124 ?_
  refine r_iconst (pc := 125) (v := 3) (by decide) hG dX12_findsAll_125 ?_
  refine r_iadd (pc := 126) hG dX12_findsAll_126 ?_
  refine r_iload_n (pc := 127) 0 2 rfl rfl hG dX12_findsAll_127 ?_
  refine r_if_eq (pc := 128) (tgt := 143) (by decide) hG dX12_findsAll_128 (fun h5 => ?_) (fun h5 => ?_)
  · refine r_iconst (pc := 143) (v := (-1)) (by decide) hG dX12_findsAll_143 ?_
    exact r_sub [1, 2, 0] rfl hG (w_Mo_findsAll_J144 N hG hK2 v1 w0 ((4 * v1) + 3) (-1) σ)
  · refine r_aload_n (pc := 131) 1 0 rfl rfl hG dX12_findsAll_131 ?_
    refine gf12_0 (pc := 132) lk1131 hG dX12_findsAll_132 ?_
    refine r_bipush (pc := 135) (v := 52) (by decide) hG dX12_findsAll_135 ?_
    refine r_iload_n (pc := 137) 2 1 rfl rfl hG dX12_findsAll_137 ?_
    refine r_iadd (pc := 138) hG dX12_findsAll_138 ?_
    refine r_ck hG (fun h13 => ?_)
    refine r_iald (pc := 139) (i := 115) (rfl : shp 115 = 14) rfl h13 hG dX12_findsAll_139 ?_
    refine r_goto (pc := 140) (tgt := 144) (by decide) hG dX12_findsAll_140 ?_
    exact r_sub [1, 2, 0] rfl hG (w_Mo_findsAll_J144 N hG hK2 v1 w0 ((4 * v1) + 3) (σ.1 115 ((52 + v1)).toNatClampNeg) σ)
set_option maxRecDepth 4000 in
theorem w_Mo_findsAll_J98 {X : Cx} {G : GT St} (N : Nat) (hG : IsG X RX12 cX12_findsAll 3 6 none oWV G) {K2 : Int32 → St → Option St} (hK2 : ∀ (v1 : Int32) (s : St), G (K2 v1 s) s 2 [(0, .ref (X.2.1 + 114)), (1, .int v1)] []) (v1 : Int32) (σ : St) : G (Mo_findsAll_J98 N K2 v1 σ) σ 98 [(0, .ref (X.2.1 + 114)), (1, .int v1)] [] := by
  unfold Mo_findsAll_J98
  refine r_aload_n (pc := 98) 0 0 rfl rfl hG dX12_findsAll_98 ?_
  refine gf12_0 (pc := 99) lk1131 hG dX12_findsAll_99 ?_
  refine r_bipush (pc := 102) (v := 60) (by decide) hG dX12_findsAll_102 ?_
  refine r_iload_n (pc := 104) 1 1 rfl rfl hG dX12_findsAll_104 ?_
  refine r_iadd (pc := 105) hG dX12_findsAll_105 ?_
  refine r_ck hG (fun h3 => ?_)
  refine r_iald (pc := 106) (i := 115) (rfl : shp 115 = 14) rfl h3 hG dX12_findsAll_106 ?_
  refine r_bipush (pc := 107) (v := 7) (by decide) hG dX12_findsAll_107 ?_
  refine r_icmp_ne (pc := 109) (tgt := 116) (by decide) hG dX12_findsAll_109 (fun h4 => ?_) (fun h4 => ?_)
  · refine r_iconst (pc := 116) (v := 0) (by decide) hG dX12_findsAll_116 ?_
    exact w_Mo_findsAll_J117 N hG hK2 v1 0 σ
  · refine r_iconst (pc := 112) (v := 1) (by decide) hG dX12_findsAll_112 ?_
    refine r_goto (pc := 113) (tgt := 117) (by decide) hG dX12_findsAll_113 ?_
    exact w_Mo_findsAll_J117 N hG hK2 v1 1 σ
set_option maxRecDepth 4000 in
theorem w_Mo_findsAll_J91 {X : Cx} {G : GT St} (N : Nat) (hG : IsG X RX12 cX12_findsAll 3 6 none oWV G) {K2 : Int32 → St → Option St} {K15 : Int32 → Int32 → St → Option St} (hK2 : ∀ (v1 : Int32) (s : St), G (K2 v1 s) s 2 [(0, .ref (X.2.1 + 114)), (1, .int v1)] []) (hK15 : ∀ (v1 : Int32) (v2 : Int32) (s : St), G (K15 v1 v2 s) s 15 [(0, .ref (X.2.1 + 114)), (1, .int v1), (2, .int v2)] []) (v1 : Int32) (v2 : Int32) (w1 : Int32) (w2 : Int32) (σ : St) : G (Mo_findsAll_J91 N K2 K15 v1 v2 w1 w2 σ) σ 91 [(0, .ref (X.2.1 + 114)), (1, .int v1), (2, .int v2)] [.int w2, .int w1, .ref (X.2.1 + 131)] := by
  unfold Mo_findsAll_J91
  refine r_ck hG (fun h20 => ?_)
  refine r_iast (pc := 91) (i := 131) (rfl : shp 131 = 14) rfl h20 hG dX12_findsAll_91 ?_
  refine r_bS hG (fun s21 => ?_)
  refine r_bIinc (pc := 92) (lv' := fun x22 => [(2, .int x22), (0, .ref (X.2.1 + 114)), (1, .int v1)]) 2 rfl rfl (by decide) (fun _ => rfl) hG dX12_findsAll_92 (fun x22 => ?_)
  refine r_goto (pc := 95) (tgt := 15) (by decide) hG dX12_findsAll_95 ?_
  exact r_sub [1, 2, 0] rfl hG (hK15 v1 x22 s21)
set_option maxRecDepth 4000 in
theorem w_Mo_findsAll_J66 {X : Cx} {G : GT St} (N : Nat) (hG : IsG X RX12 cX12_findsAll 3 6 none oWV G) {K2 : Int32 → St → Option St} {K15 : Int32 → Int32 → St → Option St} (hK2 : ∀ (v1 : Int32) (s : St), G (K2 v1 s) s 2 [(0, .ref (X.2.1 + 114)), (1, .int v1)] []) (hK15 : ∀ (v1 : Int32) (v2 : Int32) (s : St), G (K15 v1 v2 s) s 15 [(0, .ref (X.2.1 + 114)), (1, .int v1), (2, .int v2)] []) (v1 : Int32) (v2 : Int32) (w1 : Int32) (w2 : Int32) (σ : St) : G (Mo_findsAll_J66 N K2 K15 v1 v2 w1 w2 σ) σ 66 [(0, .ref (X.2.1 + 114)), (1, .int v1), (2, .int v2)] [.int w2, .int w1, .ref (X.2.1 + 130)] := by
  unfold Mo_findsAll_J66
  refine r_ck hG (fun h17 => ?_)
  refine r_iast (pc := 66) (i := 130) (rfl : shp 130 = 14) rfl h17 hG dX12_findsAll_66 ?_
  refine r_bS hG (fun s18 => ?_)
  refine r_aload_n (pc := 67) 0 0 rfl rfl hG dX12_findsAll_67 ?_
  refine gf12_29 (pc := 68) lk1160 hG dX12_findsAll_68 ?_
  refine r_iconst (pc := 71) (v := 4) (by decide) hG dX12_findsAll_71 ?_
  refine r_iload_n (pc := 72) 1 1 rfl rfl hG dX12_findsAll_72 ?_
  refine r_imul (pc := 73) hG dX12_findsAll_73 ?_
  refine r_iload_n (pc := 74) 2 2 rfl rfl hG dX12_findsAll_74 ?_
  refine r_iadd (pc := 75) hG dX12_findsAll_75 ?_
  refine r_aload_n (pc := 76) 0 0 rfl rfl hG dX12_findsAll_76 ?_
  refine gf12_22 (pc := 77) lk1153 hG dX12_findsAll_77 ?_
  refine r_if_ne (pc := 80) (tgt := 87) (by decide) hG dX12_findsAll_80 (fun h19 => ?_) (fun h19 => ?_)
  · refine r_aload_n (pc := 87) 0 0 rfl rfl hG dX12_findsAll_87 ?_
    refine gf12_25 (pc := 88) lk1156 hG dX12_findsAll_88 ?_
    exact w_Mo_findsAll_J91 N hG hK2 hK15 v1 v2 ((4 * v1) + v2) (s18.1 114 25) s18
  · refine r_iconst (pc := 83) (v := (-1)) (by decide) hG dX12_findsAll_83 ?_
    refine r_goto (pc := 84) (tgt := 91) (by decide) hG dX12_findsAll_84 ?_
    exact w_Mo_findsAll_J91 N hG hK2 hK15 v1 v2 ((4 * v1) + v2) (-1) s18
set_option maxRecDepth 4000 in
theorem w_Mo_findsAll_J42 {X : Cx} {G : GT St} (N : Nat) (hG : IsG X RX12 cX12_findsAll 3 6 none oWV G) {K2 : Int32 → St → Option St} {K15 : Int32 → Int32 → St → Option St} (hK2 : ∀ (v1 : Int32) (s : St), G (K2 v1 s) s 2 [(0, .ref (X.2.1 + 114)), (1, .int v1)] []) (hK15 : ∀ (v1 : Int32) (v2 : Int32) (s : St), G (K15 v1 v2 s) s 15 [(0, .ref (X.2.1 + 114)), (1, .int v1), (2, .int v2)] []) (v1 : Int32) (v2 : Int32) (σ : St) : G (Mo_findsAll_J42 N K2 K15 v1 v2 σ) σ 42 [(0, .ref (X.2.1 + 114)), (1, .int v1), (2, .int v2)] [] := by
  unfold Mo_findsAll_J42
  refine r_aload_n (pc := 42) 0 0 rfl rfl hG dX12_findsAll_42 ?_
  refine gf12_28 (pc := 43) lk1159 hG dX12_findsAll_43 ?_
  refine r_iconst (pc := 46) (v := 4) (by decide) hG dX12_findsAll_46 ?_
  refine r_iload_n (pc := 47) 1 1 rfl rfl hG dX12_findsAll_47 ?_
  refine r_imul (pc := 48) hG dX12_findsAll_48 ?_
  refine r_iload_n (pc := 49) 2 2 rfl rfl hG dX12_findsAll_49 ?_
  refine r_iadd (pc := 50) hG dX12_findsAll_50 ?_
  refine r_aload_n (pc := 51) 0 0 rfl rfl hG dX12_findsAll_51 ?_
  refine gf12_22 (pc := 52) lk1153 hG dX12_findsAll_52 ?_
  refine r_if_ne (pc := 55) (tgt := 62) (by decide) hG dX12_findsAll_55 (fun h16 => ?_) (fun h16 => ?_)
  · refine r_aload_n (pc := 62) 0 0 rfl rfl hG dX12_findsAll_62 ?_
    refine gf12_24 (pc := 63) lk1155 hG dX12_findsAll_63 ?_
    exact w_Mo_findsAll_J66 N hG hK2 hK15 v1 v2 ((4 * v1) + v2) (σ.1 114 24) σ
  · refine r_iconst (pc := 58) (v := (-1)) (by decide) hG dX12_findsAll_58 ?_
    refine r_goto (pc := 59) (tgt := 66) (by decide) hG dX12_findsAll_59 ?_
    exact w_Mo_findsAll_J66 N hG hK2 hK15 v1 v2 ((4 * v1) + v2) (-1) σ
set_option maxRecDepth 4000 in
theorem w_Mo_findsAll_L15B {X : Cx} {G : GT St} (N : Nat) (hG : IsG X RX12 cX12_findsAll 3 6 none oWV G) {K2 : Int32 → St → Option St} {K15 : Int32 → Int32 → St → Option St} (hK2 : ∀ (v1 : Int32) (s : St), G (K2 v1 s) s 2 [(0, .ref (X.2.1 + 114)), (1, .int v1)] []) (hK15 : ∀ (v1 : Int32) (v2 : Int32) (s : St), G (K15 v1 v2 s) s 15 [(0, .ref (X.2.1 + 114)), (1, .int v1), (2, .int v2)] []) (v1 : Int32) (v2 : Int32) (σ : St) : G (Mo_findsAll_L15B N K2 K15 v1 v2 σ) σ 15 [(0, .ref (X.2.1 + 114)), (1, .int v1), (2, .int v2)] [] := by
  unfold Mo_findsAll_L15B
  refine r_iload_n (pc := 15) 2 2 rfl rfl hG dX12_findsAll_15 ?_
  refine r_iconst (pc := 16) (v := 3) (by decide) hG dX12_findsAll_16 ?_
  refine r_icmp_ge (pc := 17) (tgt := 98) (by decide) hG dX12_findsAll_17 (fun h2 => ?_) (fun h2 => ?_)
  · exact r_sub [0, 1] rfl hG (w_Mo_findsAll_J98 N hG hK2 v1 σ)
  · refine r_aload_n (pc := 20) 0 0 rfl rfl hG dX12_findsAll_20 ?_
    refine r_iconst (pc := 21) (v := 0) (by decide) hG dX12_findsAll_21 ?_
    refine pf12_22 (pc := 22) lk1153 hG dX12_findsAll_22 ?_
    refine r_bS hG (fun s14 => ?_)
    refine r_iload_n (pc := 25) 2 2 rfl rfl hG dX12_findsAll_25 ?_
    refine r_aload_n (pc := 26) 0 0 rfl rfl hG dX12_findsAll_26 ?_
    refine gf12_0 (pc := 27) lk1131 hG dX12_findsAll_27 ?_
    refine r_bipush (pc := 30) (v := 36) (by decide) hG dX12_findsAll_30 ?_
    refine r_iald (pc := 32) (i := 115) (rfl : shp 115 = 14) rfl (by decide) hG dX12_findsAll_32 ?_
    refine r_icmp_ge (pc := 33) (tgt := 42) (by decide) hG dX12_findsAll_33 (fun h15 => ?_) (fun h15 => ?_)
    · exact w_Mo_findsAll_J42 N hG hK2 hK15 v1 v2 s14
    · refine r_aload_n (pc := 36) 0 0 rfl rfl hG dX12_findsAll_36 ?_
      refine r_iload_n (pc := 37) 1 1 rfl rfl hG dX12_findsAll_37 ?_
      refine r_iload_n (pc := 38) 2 2 rfl rfl hG dX12_findsAll_38 ?_
      refine r_bR hG (fun s24 e26 => ?_)
      refine r_callVv (pc := 39) (As := [.int v1, .int v2]) (c_Mo_finds X N v1 v2 s14 s24 e26) (wsOf_at (rfl : shp 114 = 12) (by decide) rfl) rfl mfX12_238_X12_finds hyVX12_finds (by decide) (by decide) rfl (Nat.le_of_ble_eq_true rfl) hG dX12_findsAll_39 rfl (fun n25 => ?_)
      exact w_Mo_findsAll_J42 N hG hK2 hK15 v1 v2 s24
set_option maxRecDepth 4000 in
theorem w_Mo_findsAll_L15 {X : Cx} {G : GT St} (N : Nat) (hG : IsG X RX12 cX12_findsAll 3 6 none oWV G) {K2 : Int32 → St → Option St} (hK2 : ∀ (v1 : Int32) (s : St), G (K2 v1 s) s 2 [(0, .ref (X.2.1 + 114)), (1, .int v1)] []) : ∀ (n : Nat), ∀ (v1 : Int32) (v2 : Int32) (σ : St), G (Mo_findsAll_L15 N K2 n v1 v2 σ) σ 15 [(0, .ref (X.2.1 + 114)), (1, .int v1), (2, .int v2)] [] := by
  intro n
  induction n with
  | zero => intro v1 v2 σ; exact r_none hG
  | succ n ih => intro v1 v2 σ; exact w_Mo_findsAll_L15B N hG hK2 ih v1 v2 σ
set_option maxRecDepth 4000 in
theorem w_Mo_findsAll_L2B {X : Cx} {G : GT St} (N : Nat) (hG : IsG X RX12 cX12_findsAll 3 6 none oWV G) {K2 : Int32 → St → Option St} (hK2 : ∀ (v1 : Int32) (s : St), G (K2 v1 s) s 2 [(0, .ref (X.2.1 + 114)), (1, .int v1)] []) (v1 : Int32) (σ : St) : G (Mo_findsAll_L2B N K2 v1 σ) σ 2 [(0, .ref (X.2.1 + 114)), (1, .int v1)] [] := by
  unfold Mo_findsAll_L2B
  refine r_iload_n (pc := 2) 1 1 rfl rfl hG dX12_findsAll_2 ?_
  refine r_aload_n (pc := 3) 0 0 rfl rfl hG dX12_findsAll_3 ?_
  refine gf12_0 (pc := 4) lk1131 hG dX12_findsAll_4 ?_
  refine r_bipush (pc := 7) (v := 37) (by decide) hG dX12_findsAll_7 ?_
  refine r_iald (pc := 9) (i := 115) (rfl : shp 115 = 14) rfl (by decide) hG dX12_findsAll_9 ?_
  refine r_icmp_ge (pc := 10) (tgt := 178) (by decide) hG dX12_findsAll_10 (fun h1 => ?_) (fun h1 => ?_)
  · exact r_vret (pc := 178) rfl hG dX12_findsAll_178
  · refine r_iconst (pc := 13) (v := 0) (by decide) hG dX12_findsAll_13 ?_
    refine r_istore_n (pc := 14) (lv' := [(2, .int 0), (0, .ref (X.2.1 + 114)), (1, .int v1)]) 2 rfl (by decide) rfl hG dX12_findsAll_14 ?_
    exact r_sub [1, 2, 0] rfl hG (w_Mo_findsAll_L15 N hG hK2 N v1 0 σ)
set_option maxRecDepth 4000 in
theorem w_Mo_findsAll_L2 {X : Cx} {G : GT St} (N : Nat) (hG : IsG X RX12 cX12_findsAll 3 6 none oWV G) : ∀ (n : Nat), ∀ (v1 : Int32) (σ : St), G (Mo_findsAll_L2 N n v1 σ) σ 2 [(0, .ref (X.2.1 + 114)), (1, .int v1)] [] := by
  intro n
  induction n with
  | zero => intro v1 σ; exact r_none hG
  | succ n ih => intro v1 σ; exact w_Mo_findsAll_L2B N hG ih v1 σ
set_option maxRecDepth 4000 in
theorem c_Mo_findsAll (X : Cx) (N : Nat) (σ : St) (σ1 : St) (hE : Mo_findsAll N σ = some σ1) : Ctr X yX12_findsAll cX12_findsAll 3 none 6 [.ref (X.2.1 + 114)] σ none σ1 := by
  refine Ctr.of (out := oWV) (E := Mo_findsAll N σ) rfl (Nat.le_of_ble_eq_true rfl) (fun G hG => ?_) σ1 hE
  unfold Mo_findsAll
  refine r_iconst (pc := 0) (v := 0) (by decide) hG dX12_findsAll_0 ?_
  refine r_istore_n (pc := 1) (lv' := [(1, .int 0), (0, .ref (X.2.1 + 114))]) 1 rfl (by decide) rfl hG dX12_findsAll_1 ?_
  exact r_sub [1, 0] rfl hG (w_Mo_findsAll_L2 N hG N 0 σ)
