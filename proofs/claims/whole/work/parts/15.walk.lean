set_option maxRecDepth 4000 in
theorem w_Mo_begins_L24B {X : Cx} {G : GT St} (N : Nat) (hG : IsG X RX12 cX12_begins 3 1 none oWV G) {K24 : Int32 → Int32 → St → Option St} (hK24 : ∀ (v1 : Int32) (v2 : Int32) (s : St), G (K24 v1 v2 s) s 24 [(0, .ref (X.2.1 + 114)), (1, .int v1), (2, .int v2)] []) (v1 : Int32) (v2 : Int32) (σ : St) : G (Mo_begins_L24B N K24 v1 v2 σ) σ 24 [(0, .ref (X.2.1 + 114)), (1, .int v1), (2, .int v2)] [] := by
  unfold Mo_begins_L24B
  refine r_iload_n (pc := 24) 2 2 rfl rfl hG dX12_begins_24 ?_
  refine r_bipush (pc := 25) (v := 8) (by decide) hG dX12_begins_25 ?_
  refine r_icmp_ge (pc := 27) (tgt := 45) (by decide) hG dX12_begins_27 (fun h2 => ?_) (fun h2 => ?_)
  · exact r_vret (pc := 45) rfl hG dX12_begins_45
  · refine r_aload_n (pc := 30) 0 0 rfl rfl hG dX12_begins_30 ?_
    refine gf12_0 (pc := 31) lk1131 hG dX12_begins_31 ?_
    refine r_iconst (pc := 34) (v := 0) (by decide) hG dX12_begins_34 ?_
    refine r_iload_n (pc := 35) 2 2 rfl rfl hG dX12_begins_35 ?_
    refine r_iadd (pc := 36) hG dX12_begins_36 ?_
    refine r_iload_n (pc := 37) 1 1 rfl rfl hG dX12_begins_37 ?_
    refine r_ck hG (fun h3 => ?_)
    refine r_iast (pc := 38) (i := 115) (rfl : shp 115 = 14) rfl h3 hG dX12_begins_38 ?_
    refine r_bS hG (fun s4 => ?_)
    refine r_bIinc (pc := 39) (lv' := fun x5 => [(2, .int x5), (0, .ref (X.2.1 + 114)), (1, .int v1)]) 2 rfl rfl (by decide) (fun _ => rfl) hG dX12_begins_39 (fun x5 => ?_)
    refine r_goto (pc := 42) (tgt := 24) (by decide) hG dX12_begins_42 ?_
    exact r_sub [1, 2, 0] rfl hG (hK24 v1 x5 s4)
set_option maxRecDepth 4000 in
theorem w_Mo_begins_L24 {X : Cx} {G : GT St} (N : Nat) (hG : IsG X RX12 cX12_begins 3 1 none oWV G) : ∀ (n : Nat), ∀ (v1 : Int32) (v2 : Int32) (σ : St), G (Mo_begins_L24 N n v1 v2 σ) σ 24 [(0, .ref (X.2.1 + 114)), (1, .int v1), (2, .int v2)] [] := by
  intro n
  induction n with
  | zero => intro v1 v2 σ; exact r_none hG
  | succ n ih => intro v1 v2 σ; exact w_Mo_begins_L24B N hG ih v1 v2 σ
set_option maxRecDepth 4000 in
theorem w_Mo_begins_J22 {X : Cx} {G : GT St} (N : Nat) (hG : IsG X RX12 cX12_begins 3 1 none oWV G) (v1 : Int32) (σ : St) : G (Mo_begins_J22 N v1 σ) σ 22 [(0, .ref (X.2.1 + 114)), (1, .int v1)] [] := by
  unfold Mo_begins_J22
  refine r_iconst (pc := 22) (v := 0) (by decide) hG dX12_begins_22 ?_
  refine r_istore_n (pc := 23) (lv' := [(2, .int 0), (0, .ref (X.2.1 + 114)), (1, .int v1)]) 2 rfl (by decide) rfl hG dX12_begins_23 ?_
  exact r_sub [1, 2, 0] rfl hG (w_Mo_begins_L24 N hG N v1 0 σ)
set_option maxRecDepth 4000 in
theorem w_Mo_begins_L2B {X : Cx} {G : GT St} (N : Nat) (hG : IsG X RX12 cX12_begins 3 1 none oWV G) {K2 : Int32 → Int32 → St → Option St} (hK2 : ∀ (v1 : Int32) (v2 : Int32) (s : St), G (K2 v1 v2 s) s 2 [(0, .ref (X.2.1 + 114)), (1, .int v1), (2, .int v2)] []) (v1 : Int32) (v2 : Int32) (σ : St) : G (Mo_begins_L2B N K2 v1 v2 σ) σ 2 [(0, .ref (X.2.1 + 114)), (1, .int v1), (2, .int v2)] [] := by
  unfold Mo_begins_L2B
  refine r_iload_n (pc := 2) 2 2 rfl rfl hG dX12_begins_2 ?_
  refine r_sipush (pc := 3) (v := 286) (by decide) hG dX12_begins_3 ?_
  refine r_icmp_ge (pc := 6) (tgt := 22) (by decide) hG dX12_begins_6 (fun h1 => ?_) (fun h1 => ?_)
  · exact r_sub [0, 1] rfl hG (w_Mo_begins_J22 N hG v1 σ)
  · refine r_aload_n (pc := 9) 0 0 rfl rfl hG dX12_begins_9 ?_
    refine gf12_0 (pc := 10) lk1131 hG dX12_begins_10 ?_
    refine r_iload_n (pc := 13) 2 2 rfl rfl hG dX12_begins_13 ?_
    refine r_iconst (pc := 14) (v := 0) (by decide) hG dX12_begins_14 ?_
    refine r_ck hG (fun h6 => ?_)
    refine r_iast (pc := 15) (i := 115) (rfl : shp 115 = 14) rfl h6 hG dX12_begins_15 ?_
    refine r_bS hG (fun s7 => ?_)
    refine r_bIinc (pc := 16) (lv' := fun x8 => [(2, .int x8), (0, .ref (X.2.1 + 114)), (1, .int v1)]) 2 rfl rfl (by decide) (fun _ => rfl) hG dX12_begins_16 (fun x8 => ?_)
    refine r_goto (pc := 19) (tgt := 2) (by decide) hG dX12_begins_19 ?_
    exact r_sub [1, 2, 0] rfl hG (hK2 v1 x8 s7)
set_option maxRecDepth 4000 in
theorem w_Mo_begins_L2 {X : Cx} {G : GT St} (N : Nat) (hG : IsG X RX12 cX12_begins 3 1 none oWV G) : ∀ (n : Nat), ∀ (v1 : Int32) (v2 : Int32) (σ : St), G (Mo_begins_L2 N n v1 v2 σ) σ 2 [(0, .ref (X.2.1 + 114)), (1, .int v1), (2, .int v2)] [] := by
  intro n
  induction n with
  | zero => intro v1 v2 σ; exact r_none hG
  | succ n ih => intro v1 v2 σ; exact w_Mo_begins_L2B N hG ih v1 v2 σ
set_option maxRecDepth 4000 in
theorem c_Mo_begins (X : Cx) (N : Nat) (v1 : Int32) (σ : St) (σ1 : St) (hE : Mo_begins N v1 σ = some σ1) : Ctr X yX12_begins cX12_begins 3 none 1 [.ref (X.2.1 + 114), .int v1] σ none σ1 := by
  refine Ctr.of (out := oWV) (E := Mo_begins N v1 σ) rfl (Nat.le_of_ble_eq_true rfl) (fun G hG => ?_) σ1 hE
  unfold Mo_begins
  refine r_iconst (pc := 0) (v := 0) (by decide) hG dX12_begins_0 ?_
  refine r_istore_n (pc := 1) (lv' := [(2, .int 0), (0, .ref (X.2.1 + 114)), (1, .int v1)]) 2 rfl (by decide) rfl hG dX12_begins_1 ?_
  exact r_sub [1, 2, 0] rfl hG (w_Mo_begins_L2 N hG N v1 0 σ)
set_option maxRecDepth 4000 in
theorem c_Mo_water (X : Cx) (N : Nat) (v1 : Int32) (σ : St) (r : Int32) (σ1 : St) (hE : Mo_water N v1 σ = some (r, σ1)) : Ctr X yX12_water cX12_water 3 (some .int) 2 [.ref (X.2.1 + 114), .int v1] σ (some (.int r)) σ1 := by
  refine Ctr.of (out := oWI) (E := Mo_water N v1 σ) rfl (Nat.le_of_ble_eq_true rfl) (fun G hG => ?_) (r, σ1) hE
  unfold Mo_water
  refine r_iload_n (pc := 0) 1 1 rfl rfl hG dX12_water_0 ?_
  refine r_i2l (pc := 1) hG dX12_water_1 ?_
  refine r_lconst (pc := 2) (v := 0) (by decide) hG dX12_water_2 ?_
  refine r_ldc2 (pc := 3) (v := 9) lk1238 hG dX12_water_3 ?_
  refine r_callSi (pc := 6) (As := [.long ((v1).toInt64), .long 0, .long 9]) (c_Mo_in X ((v1).toInt64) 0 9 σ) mfX12_69_X12_in hySX12_in (by decide) (by decide) rfl (Nat.le_of_ble_eq_true rfl) hG dX12_water_6 rfl (fun n2 => ?_)
  refine r_if_ne (pc := 9) (tgt := 19) (by decide) hG dX12_water_9 (fun h4 => ?_) (fun h4 => ?_)
  · refine r_aload_n (pc := 19) 0 0 rfl rfl hG dX12_water_19 ?_
    refine gf12_0 (pc := 20) lk1131 hG dX12_water_20 ?_
    refine r_bipush (pc := 23) (v := 37) (by decide) hG dX12_water_23 ?_
    refine r_iald (pc := 25) (i := 115) (rfl : shp 115 = 14) rfl (by decide) hG dX12_water_25 ?_
    refine r_bI hG (fun x5 => ?_)
    refine r_istore_n (pc := 26) (lv' := [(2, .int x5), (0, .ref (X.2.1 + 114)), (1, .int v1)]) 2 rfl (by decide) rfl hG dX12_water_26 ?_
    refine r_aload_n (pc := 27) 1 0 rfl rfl hG dX12_water_27 ?_
    refine r_iload_n (pc := 28) 2 1 rfl rfl hG dX12_water_28 ?_
    refine r_bR hG (fun s7 e9 => ?_)
    refine r_callVv (pc := 29) (As := [.int v1]) (c_Mo_begins X N v1 σ s7 e9) (wsOf_at (rfl : shp 114 = 12) (by decide) rfl) rfl mfX12_88_X12_begins hyVX12_begins (by decide) (by decide) rfl (Nat.le_of_ble_eq_true rfl) hG dX12_water_29 rfl (fun n8 => ?_)
    refine r_iload_n (pc := 32) 0 2 rfl rfl hG dX12_water_32 ?_
    exact r_iret (pc := 33) rfl hG dX12_water_33
  · refine r_aload_n (pc := 12) 0 0 rfl rfl hG dX12_water_12 ?_
    refine r_bipush (pc := 13) (v := (-2)) (by decide) hG dX12_water_13 ?_
    refine r_bW hG (fun r10 s11 e13 => ?_)
    refine r_callVi (pc := 15) (As := [.int (-2)]) (c_Mo_bad X N (-2) σ r10 s11 e13) (wsOf_at (rfl : shp 114 = 12) (by decide) rfl) rfl mfX12_84_X12_bad hyVX12_bad (by decide) (by decide) rfl (Nat.le_of_ble_eq_true rfl) hG dX12_water_15 rfl (fun n12 => ?_)
    exact r_iret (pc := 18) rfl hG dX12_water_18
set_option maxRecDepth 4000 in
theorem w_Mo_dark_J19 {X : Cx} {G : GT (Int32 × St)} (N : Nat) (hG : IsG X RX12 cX12_dark 4 3 (some .int) oWI G) (σ : St) : G (Mo_dark_J19 N σ) σ 19 [(0, .ref (X.2.1 + 114))] [] := by
  unfold Mo_dark_J19
  refine r_aload_n (pc := 19) 0 0 rfl rfl hG dX12_dark_19 ?_
  refine r_bipush (pc := 20) (v := (-2)) (by decide) hG dX12_dark_20 ?_
  refine r_bW hG (fun r5 s6 e8 => ?_)
  refine r_callVi (pc := 22) (As := [.int (-2)]) (c_Mo_bad X N (-2) σ r5 s6 e8) (wsOf_at (rfl : shp 114 = 12) (by decide) rfl) rfl mfX12_84_X12_bad hyVX12_bad (by decide) (by decide) rfl (Nat.le_of_ble_eq_true rfl) hG dX12_dark_22 rfl (fun n7 => ?_)
  exact r_iret (pc := 25) rfl hG dX12_dark_25
set_option maxRecDepth 4000 in
theorem c_Mo_dark (X : Cx) (N : Nat) (v1 : Int32) (v2 : Int32) (σ : St) (r : Int32) (σ1 : St) (hE : Mo_dark N v1 v2 σ = some (r, σ1)) : Ctr X yX12_dark cX12_dark 4 (some .int) 3 [.ref (X.2.1 + 114), .int v1, .int v2] σ (some (.int r)) σ1 := by
  refine Ctr.of (out := oWI) (E := Mo_dark N v1 v2 σ) rfl (Nat.le_of_ble_eq_true rfl) (fun G hG => ?_) (r, σ1) hE
  unfold Mo_dark
  refine r_iload_n (pc := 0) 1 1 rfl rfl hG dX12_dark_0 ?_
  refine r_callSi (pc := 1) (As := [.int v1]) (c_Mo_isPlace X v1 σ) mfX12_92_X12_isPlace hySX12_isPlace (by decide) (by decide) rfl (Nat.le_of_ble_eq_true rfl) hG dX12_dark_1 rfl (fun n2 => ?_)
  refine r_if_eq (pc := 4) (tgt := 19) (by decide) hG dX12_dark_4 (fun h4 => ?_) (fun h4 => ?_)
  · exact r_sub [0] rfl hG (w_Mo_dark_J19 N hG σ)
  · refine r_iload_n (pc := 7) 2 2 rfl rfl hG dX12_dark_7 ?_
    refine r_i2l (pc := 8) hG dX12_dark_8 ?_
    refine r_lconst (pc := 9) (v := 0) (by decide) hG dX12_dark_9 ?_
    refine r_ldc2 (pc := 10) (v := 9) lk1238 hG dX12_dark_10 ?_
    refine r_callSi (pc := 13) (As := [.long ((v2).toInt64), .long 0, .long 9]) (c_Mo_in X ((v2).toInt64) 0 9 σ) mfX12_69_X12_in hySX12_in (by decide) (by decide) rfl (Nat.le_of_ble_eq_true rfl) hG dX12_dark_13 rfl (fun n10 => ?_)
    refine r_if_ne (pc := 16) (tgt := 26) (by decide) hG dX12_dark_16 (fun h12 => ?_) (fun h12 => ?_)
    · refine r_aload_n (pc := 26) 0 0 rfl rfl hG dX12_dark_26 ?_
      refine gf12_0 (pc := 27) lk1131 hG dX12_dark_27 ?_
      refine r_iconst (pc := 30) (v := 0) (by decide) hG dX12_dark_30 ?_
      refine r_iload_n (pc := 31) 1 1 rfl rfl hG dX12_dark_31 ?_
      refine r_iadd (pc := 32) hG dX12_dark_32 ?_
      refine r_ck hG (fun h13 => ?_)
      refine r_iald (pc := 33) (i := 115) (rfl : shp 115 = 14) rfl h13 hG dX12_dark_33 ?_
      refine r_bI hG (fun x14 => ?_)
      refine r_istore_n (pc := 34) (lv' := [(3, .int x14), (0, .ref (X.2.1 + 114)), (1, .int v1), (2, .int v2)]) 3 rfl (by decide) rfl hG dX12_dark_34 ?_
      refine r_aload_n (pc := 35) 1 0 rfl rfl hG dX12_dark_35 ?_
      refine gf12_0 (pc := 36) lk1131 hG dX12_dark_36 ?_
      refine r_iconst (pc := 39) (v := 0) (by decide) hG dX12_dark_39 ?_
      refine r_iload_n (pc := 40) 2 1 rfl rfl hG dX12_dark_40 ?_
      refine r_iadd (pc := 41) hG dX12_dark_41 ?_
      refine r_iload_n (pc := 42) 3 2 rfl rfl hG dX12_dark_42 ?_
      refine r_ck hG (fun h15 => ?_)
      refine r_iast (pc := 43) (i := 115) (rfl : shp 115 = 14) rfl h15 hG dX12_dark_43 ?_
      refine r_bS hG (fun s16 => ?_)
      refine r_aload_n (pc := 44) 1 0 rfl rfl hG dX12_dark_44 ?_
      refine gf12_0 (pc := 45) lk1131 hG dX12_dark_45 ?_
      refine r_sipush (pc := 48) (v := 157) (by decide) hG dX12_dark_48 ?_
      refine r_iconst (pc := 51) (v := 0) (by decide) hG dX12_dark_51 ?_
      refine r_iast (pc := 52) (i := 115) (rfl : shp 115 = 14) rfl (by decide) hG dX12_dark_52 ?_
      refine r_bS hG (fun s17 => ?_)
      refine r_iload_n (pc := 53) 0 3 rfl rfl hG dX12_dark_53 ?_
      exact r_iret (pc := 54) rfl hG dX12_dark_54
    · exact r_sub [0] rfl hG (w_Mo_dark_J19 N hG σ)
set_option maxRecDepth 4000 in
theorem w_Mo_canal_J31 {X : Cx} {G : GT (Int32 × St)} (N : Nat) (hG : IsG X RX12 cX12_canal 5 4 (some .int) oWI G) (σ : St) : G (Mo_canal_J31 N σ) σ 31 [(0, .ref (X.2.1 + 114))] [] := by
  unfold Mo_canal_J31
  refine r_aload_n (pc := 31) 0 0 rfl rfl hG dX12_canal_31 ?_
  refine r_bipush (pc := 32) (v := (-2)) (by decide) hG dX12_canal_32 ?_
  refine r_bW hG (fun r5 s6 e8 => ?_)
  refine r_callVi (pc := 34) (As := [.int (-2)]) (c_Mo_bad X N (-2) σ r5 s6 e8) (wsOf_at (rfl : shp 114 = 12) (by decide) rfl) rfl mfX12_84_X12_bad hyVX12_bad (by decide) (by decide) rfl (Nat.le_of_ble_eq_true rfl) hG dX12_canal_34 rfl (fun n7 => ?_)
  exact r_iret (pc := 37) rfl hG dX12_canal_37
set_option maxRecDepth 4000 in
theorem c_Mo_canal (X : Cx) (N : Nat) (v1 : Int32) (v2 : Int32) (v3 : Int32) (σ : St) (r : Int32) (σ1 : St) (hE : Mo_canal N v1 v2 v3 σ = some (r, σ1)) : Ctr X yX12_canal cX12_canal 5 (some .int) 4 [.ref (X.2.1 + 114), .int v1, .int v2, .int v3] σ (some (.int r)) σ1 := by
  refine Ctr.of (out := oWI) (E := Mo_canal N v1 v2 v3 σ) rfl (Nat.le_of_ble_eq_true rfl) (fun G hG => ?_) (r, σ1) hE
  unfold Mo_canal
  refine r_iload_n (pc := 0) 1 1 rfl rfl hG dX12_canal_0 ?_
  refine r_callSi (pc := 1) (As := [.int v1]) (c_Mo_isPlace X v1 σ) mfX12_92_X12_isPlace hySX12_isPlace (by decide) (by decide) rfl (Nat.le_of_ble_eq_true rfl) hG dX12_canal_1 rfl (fun n2 => ?_)
  refine r_if_eq (pc := 4) (tgt := 31) (by decide) hG dX12_canal_4 (fun h4 => ?_) (fun h4 => ?_)
  · exact r_sub [0] rfl hG (w_Mo_canal_J31 N hG σ)
  · refine r_iload_n (pc := 7) 2 2 rfl rfl hG dX12_canal_7 ?_
    refine r_callSi (pc := 8) (As := [.int v2]) (c_Mo_isPlace X v2 σ) mfX12_92_X12_isPlace hySX12_isPlace (by decide) (by decide) rfl (Nat.le_of_ble_eq_true rfl) hG dX12_canal_8 rfl (fun n10 => ?_)
    refine r_if_eq (pc := 11) (tgt := 31) (by decide) hG dX12_canal_11 (fun h12 => ?_) (fun h12 => ?_)
    · exact r_sub [0] rfl hG (w_Mo_canal_J31 N hG σ)
    · refine r_iload_n (pc := 14) 1 1 rfl rfl hG dX12_canal_14 ?_
      refine r_iload_n (pc := 15) 2 2 rfl rfl hG dX12_canal_15 ?_
      refine r_icmp_eq (pc := 16) (tgt := 31) (by decide) hG dX12_canal_16 (fun h13 => ?_) (fun h13 => ?_)
      · exact r_sub [0] rfl hG (w_Mo_canal_J31 N hG σ)
      · refine r_iload_n (pc := 19) 3 3 rfl rfl hG dX12_canal_19 ?_
        refine r_i2l (pc := 20) hG dX12_canal_20 ?_
        refine r_lconst (pc := 21) (v := 0) (by decide) hG dX12_canal_21 ?_
        refine r_ldc2 (pc := 22) (v := 9) lk1238 hG dX12_canal_22 ?_
        refine r_callSi (pc := 25) (As := [.long ((v3).toInt64), .long 0, .long 9]) (c_Mo_in X ((v3).toInt64) 0 9 σ) mfX12_69_X12_in hySX12_in (by decide) (by decide) rfl (Nat.le_of_ble_eq_true rfl) hG dX12_canal_25 rfl (fun n15 => ?_)
        refine r_if_ne (pc := 28) (tgt := 38) (by decide) hG dX12_canal_28 (fun h17 => ?_) (fun h17 => ?_)
        · refine r_aload_n (pc := 38) 0 0 rfl rfl hG dX12_canal_38 ?_
          refine r_iload_n (pc := 39) 1 1 rfl rfl hG dX12_canal_39 ?_
          refine r_iload_n (pc := 40) 2 2 rfl rfl hG dX12_canal_40 ?_
          refine r_bR hG (fun r18 e20 => ?_)
          refine r_callVi (pc := 41) (As := [.int v1, .int v2]) (c_Mo_strokesOf X N v1 v2 σ r18 e20) (wsOf_at (rfl : shp 114 = 12) (by decide) rfl) rfl mfX12_96_X12_strokesOf hyVX12_strokesOf (by decide) (by decide) rfl (Nat.le_of_ble_eq_true rfl) hG dX12_canal_41 rfl (fun n19 => ?_)
          refine r_istore (pc := 44) (lv' := [(4, .int r18), (0, .ref (X.2.1 + 114)), (1, .int v1), (2, .int v2), (3, .int v3)]) (by decide) rfl hG dX12_canal_44 ?_
          refine r_aload_n (pc := 46) 1 0 rfl rfl hG dX12_canal_46 ?_
          refine gf12_0 (pc := 47) lk1131 hG dX12_canal_47 ?_
          refine r_iload_n (pc := 50) 2 1 rfl rfl hG dX12_canal_50 ?_
          refine r_iload_n (pc := 51) 3 2 rfl rfl hG dX12_canal_51 ?_
          refine r_callSi (pc := 52) (As := [.int v1, .int v2]) (c_Mo_canalOf X v1 v2 σ) mfX12_79_X12_canalOf hySX12_canalOf (by decide) (by decide) rfl (Nat.le_of_ble_eq_true rfl) hG dX12_canal_52 rfl (fun n22 => ?_)
          refine r_iload_n (pc := 55) 4 3 rfl rfl hG dX12_canal_55 ?_
          refine r_ck hG (fun h24 => ?_)
          refine r_iast (pc := 56) (i := 115) (rfl : shp 115 = 14) rfl h24 hG dX12_canal_56 ?_
          refine r_bS hG (fun s25 => ?_)
          refine r_aload_n (pc := 57) 1 0 rfl rfl hG dX12_canal_57 ?_
          refine gf12_0 (pc := 58) lk1131 hG dX12_canal_58 ?_
          refine r_sipush (pc := 61) (v := 157) (by decide) hG dX12_canal_61 ?_
          refine r_iconst (pc := 64) (v := 0) (by decide) hG dX12_canal_64 ?_
          refine r_iast (pc := 65) (i := 115) (rfl : shp 115 = 14) rfl (by decide) hG dX12_canal_65 ?_
          refine r_bS hG (fun s26 => ?_)
          refine r_iload (pc := 66) 0 rfl hG dX12_canal_66 ?_
          exact r_iret (pc := 68) rfl hG dX12_canal_68
        · exact r_sub [0] rfl hG (w_Mo_canal_J31 N hG σ)
set_option maxRecDepth 4000 in
theorem c_Mo_addRower (X : Cx) (N : Nat) (v1 : Int32) (v2 : Int32) (σ : St) (σ1 : St) (hE : Mo_addRower N v1 v2 σ = some σ1) : Ctr X yX12_addRower cX12_addRower 3 none 1 [.ref (X.2.1 + 114), .int v1, .int v2] σ none σ1 := by
  refine Ctr.of (out := oWV) (E := Mo_addRower N v1 v2 σ) rfl (Nat.le_of_ble_eq_true rfl) (fun G hG => ?_) σ1 hE
  unfold Mo_addRower
  refine r_aload_n (pc := 0) 0 0 rfl rfl hG dX12_addRower_0 ?_
  refine gf12_0 (pc := 1) lk1131 hG dX12_addRower_1 ?_
  refine r_bipush (pc := 4) (v := 38) (by decide) hG dX12_addRower_4 ?_
  refine r_aload_n (pc := 6) 0 0 rfl rfl hG dX12_addRower_6 ?_
  refine gf12_0 (pc := 7) lk1131 hG dX12_addRower_7 ?_
  refine r_bipush (pc := 10) (v := 36) (by decide) hG dX12_addRower_10 ?_
  refine r_iald (pc := 12) (i := 115) (rfl : shp 115 = 14) rfl (by decide) hG dX12_addRower_12 ?_
  refine r_iadd (pc := 13) hG dX12_addRower_13 ?_
  refine r_iload_n (pc := 14) 1 1 rfl rfl hG dX12_addRower_14 ?_
  refine r_ck hG (fun h1 => ?_)
  refine r_iast (pc := 15) (i := 115) (rfl : shp 115 = 14) rfl h1 hG dX12_addRower_15 ?_
  refine r_bS hG (fun s2 => ?_)
  refine r_aload_n (pc := 16) 0 0 rfl rfl hG dX12_addRower_16 ?_
  refine gf12_0 (pc := 17) lk1131 hG dX12_addRower_17 ?_
  refine r_bipush (pc := 20) (v := 41) (by decide) hG dX12_addRower_20 ?_
  refine r_aload_n (pc := 22) 0 0 rfl rfl hG dX12_addRower_22 ?_
  refine gf12_0 (pc := 23) lk1131 hG dX12_addRower_23 ?_
  refine r_bipush (pc := 26) (v := 36) (by decide) hG dX12_addRower_26 ?_
  refine r_iald (pc := 28) (i := 115) (rfl : shp 115 = 14) rfl (by decide) hG dX12_addRower_28 ?_
  refine r_iadd (pc := 29) hG dX12_addRower_29 ?_
  refine r_iload_n (pc := 30) 2 2 rfl rfl hG dX12_addRower_30 ?_
  refine r_ck hG (fun h3 => ?_)
  refine r_iast (pc := 31) (i := 115) (rfl : shp 115 = 14) rfl h3 hG dX12_addRower_31 ?_
  refine r_bS hG (fun s4 => ?_)
  refine r_aload_n (pc := 32) 0 0 rfl rfl hG dX12_addRower_32 ?_
  refine gf12_0 (pc := 33) lk1131 hG dX12_addRower_33 ?_
  refine r_bipush (pc := 36) (v := 36) (by decide) hG dX12_addRower_36 ?_
  refine r_dup2 (pc := 38) rfl rfl hG dX12_addRower_38 ?_
  refine r_iald (pc := 39) (i := 115) (rfl : shp 115 = 14) rfl (by decide) hG dX12_addRower_39 ?_
  refine r_iconst (pc := 40) (v := 1) (by decide) hG dX12_addRower_40 ?_
  refine r_iadd (pc := 41) hG dX12_addRower_41 ?_
  refine r_iast (pc := 42) (i := 115) (rfl : shp 115 = 14) rfl (by decide) hG dX12_addRower_42 ?_
  refine r_bS hG (fun s5 => ?_)
  refine r_aload_n (pc := 43) 0 0 rfl rfl hG dX12_addRower_43 ?_
  refine gf12_0 (pc := 44) lk1131 hG dX12_addRower_44 ?_
  refine r_sipush (pc := 47) (v := 157) (by decide) hG dX12_addRower_47 ?_
  refine r_iconst (pc := 50) (v := 0) (by decide) hG dX12_addRower_50 ?_
  refine r_iast (pc := 51) (i := 115) (rfl : shp 115 = 14) rfl (by decide) hG dX12_addRower_51 ?_
  refine r_bS hG (fun s6 => ?_)
  exact r_vret (pc := 52) rfl hG dX12_addRower_52
set_option maxRecDepth 4000 in
theorem w_Mo_rower_J24 {X : Cx} {G : GT (Int32 × St)} (N : Nat) (hG : IsG X RX12 cX12_rower 3 2 (some .int) oWI G) (σ : St) : G (Mo_rower_J24 N σ) σ 24 [(0, .ref (X.2.1 + 114))] [] := by
  unfold Mo_rower_J24
  refine r_aload_n (pc := 24) 0 0 rfl rfl hG dX12_rower_24 ?_
  refine r_bipush (pc := 25) (v := (-2)) (by decide) hG dX12_rower_25 ?_
  refine r_bW hG (fun r5 s6 e8 => ?_)
  refine r_callVi (pc := 27) (As := [.int (-2)]) (c_Mo_bad X N (-2) σ r5 s6 e8) (wsOf_at (rfl : shp 114 = 12) (by decide) rfl) rfl mfX12_84_X12_bad hyVX12_bad (by decide) (by decide) rfl (Nat.le_of_ble_eq_true rfl) hG dX12_rower_27 rfl (fun n7 => ?_)
  exact r_iret (pc := 30) rfl hG dX12_rower_30
set_option maxRecDepth 4000 in
theorem c_Mo_rower (X : Cx) (N : Nat) (v1 : Int32) (v2 : Int32) (σ : St) (r : Int32) (σ1 : St) (hE : Mo_rower N v1 v2 σ = some (r, σ1)) : Ctr X yX12_rower cX12_rower 3 (some .int) 2 [.ref (X.2.1 + 114), .int v1, .int v2] σ (some (.int r)) σ1 := by
  refine Ctr.of (out := oWI) (E := Mo_rower N v1 v2 σ) rfl (Nat.le_of_ble_eq_true rfl) (fun G hG => ?_) (r, σ1) hE
  unfold Mo_rower
  refine r_iload_n (pc := 0) 1 1 rfl rfl hG dX12_rower_0 ?_
  refine r_i2l (pc := 1) hG dX12_rower_1 ?_
  refine r_lconst (pc := 2) (v := 0) (by decide) hG dX12_rower_2 ?_
  refine r_ldc2 (pc := 3) (v := 5) lk1276 hG dX12_rower_3 ?_
  refine r_callSi (pc := 6) (As := [.long ((v1).toInt64), .long 0, .long 5]) (c_Mo_in X ((v1).toInt64) 0 5 σ) mfX12_69_X12_in hySX12_in (by decide) (by decide) rfl (Nat.le_of_ble_eq_true rfl) hG dX12_rower_6 rfl (fun n2 => ?_)
  refine r_if_eq (pc := 9) (tgt := 24) (by decide) hG dX12_rower_9 (fun h4 => ?_) (fun h4 => ?_)
  · exact r_sub [0] rfl hG (w_Mo_rower_J24 N hG σ)
  · refine r_iload_n (pc := 12) 2 2 rfl rfl hG dX12_rower_12 ?_
    refine r_i2l (pc := 13) hG dX12_rower_13 ?_
    refine r_lconst (pc := 14) (v := 0) (by decide) hG dX12_rower_14 ?_
    refine r_ldc2 (pc := 15) (v := 9) lk1238 hG dX12_rower_15 ?_
    refine r_callSi (pc := 18) (As := [.long ((v2).toInt64), .long 0, .long 9]) (c_Mo_in X ((v2).toInt64) 0 9 σ) mfX12_69_X12_in hySX12_in (by decide) (by decide) rfl (Nat.le_of_ble_eq_true rfl) hG dX12_rower_18 rfl (fun n10 => ?_)
    refine r_if_ne (pc := 21) (tgt := 31) (by decide) hG dX12_rower_21 (fun h12 => ?_) (fun h12 => ?_)
    · refine r_aload_n (pc := 31) 0 0 rfl rfl hG dX12_rower_31 ?_
      refine gf12_0 (pc := 32) lk1131 hG dX12_rower_32 ?_
      refine r_bipush (pc := 35) (v := 36) (by decide) hG dX12_rower_35 ?_
      refine r_iald (pc := 37) (i := 115) (rfl : shp 115 = 14) rfl (by decide) hG dX12_rower_37 ?_
      refine r_iconst (pc := 38) (v := 3) (by decide) hG dX12_rower_38 ?_
      refine r_icmp_ne (pc := 39) (tgt := 47) (by decide) hG dX12_rower_39 (fun h13 => ?_) (fun h13 => ?_)
      · refine r_aload_n (pc := 47) 0 0 rfl rfl hG dX12_rower_47 ?_
        refine r_iload_n (pc := 48) 1 1 rfl rfl hG dX12_rower_48 ?_
        refine r_iload_n (pc := 49) 2 2 rfl rfl hG dX12_rower_49 ?_
        refine r_bR hG (fun s15 e17 => ?_)
        refine r_callVv (pc := 50) (As := [.int v1, .int v2]) (c_Mo_addRower X N v1 v2 σ s15 e17) (wsOf_at (rfl : shp 114 = 12) (by decide) rfl) rfl mfX12_105_X12_addRower hyVX12_addRower (by decide) (by decide) rfl (Nat.le_of_ble_eq_true rfl) hG dX12_rower_50 rfl (fun n16 => ?_)
        refine r_aload_n (pc := 53) 0 0 rfl rfl hG dX12_rower_53 ?_
        refine gf12_0 (pc := 54) lk1131 hG dX12_rower_54 ?_
        refine r_bipush (pc := 57) (v := 36) (by decide) hG dX12_rower_57 ?_
        refine r_iald (pc := 59) (i := 115) (rfl : shp 115 = 14) rfl (by decide) hG dX12_rower_59 ?_
        refine r_iconst (pc := 60) (v := 1) (by decide) hG dX12_rower_60 ?_
        refine r_isub (pc := 61) hG dX12_rower_61 ?_
        exact r_iret (pc := 62) rfl hG dX12_rower_62
      · refine r_aload_n (pc := 42) 0 0 rfl rfl hG dX12_rower_42 ?_
        refine r_bW hG (fun r18 s19 e21 => ?_)
        refine r_callVi (pc := 43) (As := []) (c_Mo_full X N σ r18 s19 e21) (wsOf_at (rfl : shp 114 = 12) (by decide) rfl) rfl mfX12_101_X12_full hyVX12_full (by decide) (by decide) rfl (Nat.le_of_ble_eq_true rfl) hG dX12_rower_43 rfl (fun n20 => ?_)
        exact r_iret (pc := 46) rfl hG dX12_rower_46
    · exact r_sub [0] rfl hG (w_Mo_rower_J24 N hG σ)
set_option maxRecDepth 4000 in
theorem c_Mo_addGuest (X : Cx) (N : Nat) (v1 : Int32) (v2 : Int32) (σ : St) (σ1 : St) (hE : Mo_addGuest N v1 v2 σ = some σ1) : Ctr X yX12_addGuest cX12_addGuest 3 none 1 [.ref (X.2.1 + 114), .int v1, .int v2] σ none σ1 := by
  refine Ctr.of (out := oWV) (E := Mo_addGuest N v1 v2 σ) rfl (Nat.le_of_ble_eq_true rfl) (fun G hG => ?_) σ1 hE
  unfold Mo_addGuest
  refine r_aload_n (pc := 0) 0 0 rfl rfl hG dX12_addGuest_0 ?_
  refine gf12_0 (pc := 1) lk1131 hG dX12_addGuest_1 ?_
  refine r_bipush (pc := 4) (v := 44) (by decide) hG dX12_addGuest_4 ?_
  refine r_aload_n (pc := 6) 0 0 rfl rfl hG dX12_addGuest_6 ?_
  refine gf12_0 (pc := 7) lk1131 hG dX12_addGuest_7 ?_
  refine r_bipush (pc := 10) (v := 37) (by decide) hG dX12_addGuest_10 ?_
  refine r_iald (pc := 12) (i := 115) (rfl : shp 115 = 14) rfl (by decide) hG dX12_addGuest_12 ?_
  refine r_iadd (pc := 13) hG dX12_addGuest_13 ?_
  refine r_iload_n (pc := 14) 1 1 rfl rfl hG dX12_addGuest_14 ?_
  refine r_ck hG (fun h1 => ?_)
  refine r_iast (pc := 15) (i := 115) (rfl : shp 115 = 14) rfl h1 hG dX12_addGuest_15 ?_
  refine r_bS hG (fun s2 => ?_)
  refine r_aload_n (pc := 16) 0 0 rfl rfl hG dX12_addGuest_16 ?_
  refine gf12_0 (pc := 17) lk1131 hG dX12_addGuest_17 ?_
  refine r_bipush (pc := 20) (v := 48) (by decide) hG dX12_addGuest_20 ?_
  refine r_aload_n (pc := 22) 0 0 rfl rfl hG dX12_addGuest_22 ?_
  refine gf12_0 (pc := 23) lk1131 hG dX12_addGuest_23 ?_
  refine r_bipush (pc := 26) (v := 37) (by decide) hG dX12_addGuest_26 ?_
  refine r_iald (pc := 28) (i := 115) (rfl : shp 115 = 14) rfl (by decide) hG dX12_addGuest_28 ?_
  refine r_iadd (pc := 29) hG dX12_addGuest_29 ?_
  refine r_iload_n (pc := 30) 2 2 rfl rfl hG dX12_addGuest_30 ?_
  refine r_ck hG (fun h3 => ?_)
  refine r_iast (pc := 31) (i := 115) (rfl : shp 115 = 14) rfl h3 hG dX12_addGuest_31 ?_
  refine r_bS hG (fun s4 => ?_)
  refine r_aload_n (pc := 32) 0 0 rfl rfl hG dX12_addGuest_32 ?_
  refine gf12_0 (pc := 33) lk1131 hG dX12_addGuest_33 ?_
  refine r_bipush (pc := 36) (v := 37) (by decide) hG dX12_addGuest_36 ?_
  refine r_dup2 (pc := 38) rfl rfl hG dX12_addGuest_38 ?_
  refine r_iald (pc := 39) (i := 115) (rfl : shp 115 = 14) rfl (by decide) hG dX12_addGuest_39 ?_
  refine r_iconst (pc := 40) (v := 1) (by decide) hG dX12_addGuest_40 ?_
  refine r_iadd (pc := 41) hG dX12_addGuest_41 ?_
  refine r_iast (pc := 42) (i := 115) (rfl : shp 115 = 14) rfl (by decide) hG dX12_addGuest_42 ?_
  refine r_bS hG (fun s5 => ?_)
  refine r_aload_n (pc := 43) 0 0 rfl rfl hG dX12_addGuest_43 ?_
  refine gf12_0 (pc := 44) lk1131 hG dX12_addGuest_44 ?_
  refine r_sipush (pc := 47) (v := 157) (by decide) hG dX12_addGuest_47 ?_
  refine r_iconst (pc := 50) (v := 0) (by decide) hG dX12_addGuest_50 ?_
  refine r_iast (pc := 51) (i := 115) (rfl : shp 115 = 14) rfl (by decide) hG dX12_addGuest_51 ?_
  refine r_bS hG (fun s6 => ?_)
  exact r_vret (pc := 52) rfl hG dX12_addGuest_52
set_option maxRecDepth 4000 in
theorem w_Mo_guest_J24 {X : Cx} {G : GT (Int32 × St)} (N : Nat) (hG : IsG X RX12 cX12_guest 3 2 (some .int) oWI G) (σ : St) : G (Mo_guest_J24 N σ) σ 24 [(0, .ref (X.2.1 + 114))] [] := by
  unfold Mo_guest_J24
  refine r_aload_n (pc := 24) 0 0 rfl rfl hG dX12_guest_24 ?_
  refine r_bipush (pc := 25) (v := (-2)) (by decide) hG dX12_guest_25 ?_
  refine r_bW hG (fun r5 s6 e8 => ?_)
  refine r_callVi (pc := 27) (As := [.int (-2)]) (c_Mo_bad X N (-2) σ r5 s6 e8) (wsOf_at (rfl : shp 114 = 12) (by decide) rfl) rfl mfX12_84_X12_bad hyVX12_bad (by decide) (by decide) rfl (Nat.le_of_ble_eq_true rfl) hG dX12_guest_27 rfl (fun n7 => ?_)
  exact r_iret (pc := 30) rfl hG dX12_guest_30
set_option maxRecDepth 4000 in
theorem c_Mo_guest (X : Cx) (N : Nat) (v1 : Int32) (v2 : Int32) (σ : St) (r : Int32) (σ1 : St) (hE : Mo_guest N v1 v2 σ = some (r, σ1)) : Ctr X yX12_guest cX12_guest 3 (some .int) 2 [.ref (X.2.1 + 114), .int v1, .int v2] σ (some (.int r)) σ1 := by
  refine Ctr.of (out := oWI) (E := Mo_guest N v1 v2 σ) rfl (Nat.le_of_ble_eq_true rfl) (fun G hG => ?_) (r, σ1) hE
  unfold Mo_guest
  refine r_iload_n (pc := 0) 1 1 rfl rfl hG dX12_guest_0 ?_
  refine r_i2l (pc := 1) hG dX12_guest_1 ?_
  refine r_lconst (pc := 2) (v := 0) (by decide) hG dX12_guest_2 ?_
  refine r_ldc2 (pc := 3) (v := 5) lk1276 hG dX12_guest_3 ?_
  refine r_callSi (pc := 6) (As := [.long ((v1).toInt64), .long 0, .long 5]) (c_Mo_in X ((v1).toInt64) 0 5 σ) mfX12_69_X12_in hySX12_in (by decide) (by decide) rfl (Nat.le_of_ble_eq_true rfl) hG dX12_guest_6 rfl (fun n2 => ?_)
  refine r_if_eq (pc := 9) (tgt := 24) (by decide) hG dX12_guest_9 (fun h4 => ?_) (fun h4 => ?_)
  · exact r_sub [0] rfl hG (w_Mo_guest_J24 N hG σ)
  · refine r_iload_n (pc := 12) 2 2 rfl rfl hG dX12_guest_12 ?_
    refine r_i2l (pc := 13) hG dX12_guest_13 ?_
    refine r_lconst (pc := 14) (v := 1) (by decide) hG dX12_guest_14 ?_
    refine r_ldc2 (pc := 15) (v := 40) lk1289 hG dX12_guest_15 ?_
    refine r_callSi (pc := 18) (As := [.long ((v2).toInt64), .long 1, .long 40]) (c_Mo_in X ((v2).toInt64) 1 40 σ) mfX12_69_X12_in hySX12_in (by decide) (by decide) rfl (Nat.le_of_ble_eq_true rfl) hG dX12_guest_18 rfl (fun n10 => ?_)
    refine r_if_ne (pc := 21) (tgt := 31) (by decide) hG dX12_guest_21 (fun h12 => ?_) (fun h12 => ?_)
    · refine r_aload_n (pc := 31) 0 0 rfl rfl hG dX12_guest_31 ?_
      refine gf12_0 (pc := 32) lk1131 hG dX12_guest_32 ?_
      refine r_bipush (pc := 35) (v := 37) (by decide) hG dX12_guest_35 ?_
      refine r_iald (pc := 37) (i := 115) (rfl : shp 115 = 14) rfl (by decide) hG dX12_guest_37 ?_
      refine r_iconst (pc := 38) (v := 4) (by decide) hG dX12_guest_38 ?_
      refine r_icmp_ne (pc := 39) (tgt := 47) (by decide) hG dX12_guest_39 (fun h13 => ?_) (fun h13 => ?_)
      · refine r_aload_n (pc := 47) 0 0 rfl rfl hG dX12_guest_47 ?_
        refine r_iload_n (pc := 48) 1 1 rfl rfl hG dX12_guest_48 ?_
        refine r_iload_n (pc := 49) 2 2 rfl rfl hG dX12_guest_49 ?_
        refine r_bR hG (fun s15 e17 => ?_)
        refine r_callVv (pc := 50) (As := [.int v1, .int v2]) (c_Mo_addGuest X N v1 v2 σ s15 e17) (wsOf_at (rfl : shp 114 = 12) (by decide) rfl) rfl mfX12_111_X12_addGuest hyVX12_addGuest (by decide) (by decide) rfl (Nat.le_of_ble_eq_true rfl) hG dX12_guest_50 rfl (fun n16 => ?_)
        refine r_aload_n (pc := 53) 0 0 rfl rfl hG dX12_guest_53 ?_
        refine gf12_0 (pc := 54) lk1131 hG dX12_guest_54 ?_
        refine r_bipush (pc := 57) (v := 37) (by decide) hG dX12_guest_57 ?_
        refine r_iald (pc := 59) (i := 115) (rfl : shp 115 = 14) rfl (by decide) hG dX12_guest_59 ?_
        refine r_iconst (pc := 60) (v := 1) (by decide) hG dX12_guest_60 ?_
        refine r_isub (pc := 61) hG dX12_guest_61 ?_
        exact r_iret (pc := 62) rfl hG dX12_guest_62
      · refine r_aload_n (pc := 42) 0 0 rfl rfl hG dX12_guest_42 ?_
        refine r_bW hG (fun r18 s19 e21 => ?_)
        refine r_callVi (pc := 43) (As := []) (c_Mo_full X N σ r18 s19 e21) (wsOf_at (rfl : shp 114 = 12) (by decide) rfl) rfl mfX12_101_X12_full hyVX12_full (by decide) (by decide) rfl (Nat.le_of_ble_eq_true rfl) hG dX12_guest_43 rfl (fun n20 => ?_)
        exact r_iret (pc := 46) rfl hG dX12_guest_46
    · exact r_sub [0] rfl hG (w_Mo_guest_J24 N hG σ)
set_option maxRecDepth 4000 in
theorem c_Mo_type (X : Cx) (N : Nat) (v1 : Int32) (σ : St) (r : Int32) (σ1 : St) (hE : Mo_type N v1 σ = some (r, σ1)) : Ctr X yX12_type cX12_type 2 (some .int) 2 [.ref (X.2.1 + 114), .int v1] σ (some (.int r)) σ1 := by
  refine Ctr.of (out := oWI) (E := Mo_type N v1 σ) rfl (Nat.le_of_ble_eq_true rfl) (fun G hG => ?_) (r, σ1) hE
  unfold Mo_type
  refine r_iload_n (pc := 0) 1 1 rfl rfl hG dX12_type_0 ?_
  refine r_i2l (pc := 1) hG dX12_type_1 ?_
  refine r_lconst (pc := 2) (v := 0) (by decide) hG dX12_type_2 ?_
  refine r_ldc2 (pc := 3) (v := 127) lk1298 hG dX12_type_3 ?_
  refine r_callSi (pc := 6) (As := [.long ((v1).toInt64), .long 0, .long 127]) (c_Mo_in X ((v1).toInt64) 0 127 σ) mfX12_69_X12_in hySX12_in (by decide) (by decide) rfl (Nat.le_of_ble_eq_true rfl) hG dX12_type_6 rfl (fun n2 => ?_)
  refine r_if_ne (pc := 9) (tgt := 19) (by decide) hG dX12_type_9 (fun h4 => ?_) (fun h4 => ?_)
  · refine r_aload_n (pc := 19) 0 0 rfl rfl hG dX12_type_19 ?_
    refine gf12_5 (pc := 20) lk1136 hG dX12_type_20 ?_
    refine r_sipush (pc := 23) (v := 150) (by decide) hG dX12_type_23 ?_
    refine r_icmp_ne (pc := 26) (tgt := 34) (by decide) hG dX12_type_26 (fun h5 => ?_) (fun h5 => ?_)
    · refine r_aload_n (pc := 34) 0 0 rfl rfl hG dX12_type_34 ?_
      refine gf12_4 (pc := 35) lk1135 hG dX12_type_35 ?_
      refine r_aload_n (pc := 38) 0 0 rfl rfl hG dX12_type_38 ?_
      refine gf12_5 (pc := 39) lk1136 hG dX12_type_39 ?_
      refine r_iload_n (pc := 42) 1 1 rfl rfl hG dX12_type_42 ?_
      refine r_ck hG (fun h6 => ?_)
      refine r_iast (pc := 43) (i := 119) (rfl : shp 119 = 14) rfl h6 hG dX12_type_43 ?_
      refine r_bS hG (fun s7 => ?_)
      refine r_aload_n (pc := 44) 0 0 rfl rfl hG dX12_type_44 ?_
      refine r_dup (pc := 45) rfl hG dX12_type_45 ?_
      refine gf12_5 (pc := 46) lk1136 hG dX12_type_46 ?_
      refine r_iconst (pc := 49) (v := 1) (by decide) hG dX12_type_49 ?_
      refine r_iadd (pc := 50) hG dX12_type_50 ?_
      refine pf12_5 (pc := 51) lk1136 hG dX12_type_51 ?_
      refine r_bS hG (fun s8 => ?_)
      refine r_aload_n (pc := 54) 0 0 rfl rfl hG dX12_type_54 ?_
      refine gf12_5 (pc := 55) lk1136 hG dX12_type_55 ?_
      exact r_iret (pc := 58) rfl hG dX12_type_58
    · refine r_aload_n (pc := 29) 0 0 rfl rfl hG dX12_type_29 ?_
      refine r_bW hG (fun r9 s10 e12 => ?_)
      refine r_callVi (pc := 30) (As := []) (c_Mo_full X N σ r9 s10 e12) (wsOf_at (rfl : shp 114 = 12) (by decide) rfl) rfl mfX12_101_X12_full hyVX12_full (by decide) (by decide) rfl (Nat.le_of_ble_eq_true rfl) hG dX12_type_30 rfl (fun n11 => ?_)
      exact r_iret (pc := 33) rfl hG dX12_type_33
  · refine r_aload_n (pc := 12) 0 0 rfl rfl hG dX12_type_12 ?_
    refine r_bipush (pc := 13) (v := (-2)) (by decide) hG dX12_type_13 ?_
    refine r_bW hG (fun r13 s14 e16 => ?_)
    refine r_callVi (pc := 15) (As := [.int (-2)]) (c_Mo_bad X N (-2) σ r13 s14 e16) (wsOf_at (rfl : shp 114 = 12) (by decide) rfl) rfl mfX12_84_X12_bad hyVX12_bad (by decide) (by decide) rfl (Nat.le_of_ble_eq_true rfl) hG dX12_type_15 rfl (fun n15 => ?_)
    exact r_iret (pc := 18) rfl hG dX12_type_18
set_option maxRecDepth 4000 in
theorem c_Mo_clear (X : Cx) (N : Nat) (σ : St) (r : Int32) (σ1 : St) (hE : Mo_clear N σ = some (r, σ1)) : Ctr X yX12_clear cX12_clear 2 (some .int) 1 [.ref (X.2.1 + 114)] σ (some (.int r)) σ1 := by
  refine Ctr.of (out := oWI) (E := Mo_clear N σ) rfl (Nat.le_of_ble_eq_true rfl) (fun G hG => ?_) (r, σ1) hE
  unfold Mo_clear
  refine r_aload_n (pc := 0) 0 0 rfl rfl hG dX12_clear_0 ?_
  refine gf12_5 (pc := 1) lk1136 hG dX12_clear_1 ?_
  refine r_bI hG (fun x1 => ?_)
  refine r_istore_n (pc := 4) (lv' := [(1, .int x1), (0, .ref (X.2.1 + 114))]) 1 rfl (by decide) rfl hG dX12_clear_4 ?_
  refine r_aload_n (pc := 5) 1 0 rfl rfl hG dX12_clear_5 ?_
  refine r_iconst (pc := 6) (v := 0) (by decide) hG dX12_clear_6 ?_
  refine pf12_5 (pc := 7) lk1136 hG dX12_clear_7 ?_
  refine r_bS hG (fun s2 => ?_)
  refine r_iload_n (pc := 10) 0 1 rfl rfl hG dX12_clear_10 ?_
  exact r_iret (pc := 11) rfl hG dX12_clear_11
set_option maxRecDepth 4000 in
theorem c_Mo_letter (X : Cx) (N : Nat) (v1 : Int32) (σ : St) (r : Int32) (hE : Mo_letter N v1 σ = some r) : Ctr X yX12_letter cX12_letter 2 (some .int) 1 [.ref (X.2.1 + 114), .int v1] σ (some (.int r)) σ := by
  refine Ctr.of (out := (oI σ)) (E := Mo_letter N v1 σ) rfl (Nat.le_of_ble_eq_true rfl) (fun G hG => ?_) r hE
  unfold Mo_letter
  refine r_iload_n (pc := 0) 1 1 rfl rfl hG dX12_letter_0 ?_
  refine r_aload_n (pc := 1) 0 0 rfl rfl hG dX12_letter_1 ?_
  refine gf12_5 (pc := 2) lk1136 hG dX12_letter_2 ?_
  refine r_icmp_ge (pc := 5) (tgt := 17) (by decide) hG dX12_letter_5 (fun h1 => ?_) (fun h1 => ?_)
  · refine r_iconst (pc := 17) (v := (-1)) (by decide) hG dX12_letter_17 ?_
    exact r_iret (pc := 18) rfl hG dX12_letter_18
  · refine r_aload_n (pc := 8) 0 0 rfl rfl hG dX12_letter_8 ?_
    refine gf12_4 (pc := 9) lk1135 hG dX12_letter_9 ?_
    refine r_iload_n (pc := 12) 1 1 rfl rfl hG dX12_letter_12 ?_
    refine r_ck hG (fun h2 => ?_)
    refine r_iald (pc := 13) (i := 119) (rfl : shp 119 = 14) rfl h2 hG dX12_letter_13 ?_
    refine r_goto (pc := 14) (tgt := 18) (by decide) hG dX12_letter_14 ?_
    exact r_iret (pc := 18) rfl hG dX12_letter_18
set_option maxRecDepth 4000 in
theorem w_Mo_step_J276 {X : Cx} {G : GT St} (N : Nat) (hG : IsG X RX12 cX12_step 2 2 none oWV G) (w1 : Int32) (w2 : Int32) (σ : St) : G (Mo_step_J276 N w1 w2 σ) σ 276 [] [.int w2, .int w1, .ref (X.2.1 + 114)] := by
  unfold Mo_step_J276
  refine r_iadd (pc := 276) hG dX12_step_276 ?_
  refine pf12_9 (pc := 277) lk1140 hG dX12_step_277 ?_
  refine r_bS hG (fun s24 => ?_)
  exact r_vret (pc := 280) rfl hG dX12_step_280
set_option maxRecDepth 4000 in
theorem w_Mo_step_J253 {X : Cx} {G : GT St} (N : Nat) (hG : IsG X RX12 cX12_step 2 2 none oWV G) (w1 : Int32) (σ : St) : G (Mo_step_J253 N w1 σ) σ 253 [] [.int w1, .ref (X.2.1 + 114)] := by
  unfold Mo_step_J253
  refine pf12_11 (pc := 253) lk1142 hG dX12_step_253 ?_
  refine r_bS hG (fun s33 => ?_)
  refine r_goto (pc := 256) (tgt := 280) (by decide) hG dX12_step_256 ?_
  exact r_vret (pc := 280) rfl hG dX12_step_280
set_option maxRecDepth 4000 in
theorem w_Mo_step_J234 {X : Cx} {G : GT St} (N : Nat) (hG : IsG X RX12 cX12_step 2 2 none oWV G) (σ : St) : G (Mo_step_J234 N σ) σ 234 [(0, .ref (X.2.1 + 114))] [] := by
  unfold Mo_step_J234
  refine r_aload_n (pc := 234) 0 0 rfl rfl hG dX12_step_234 ?_
  refine r_aload_n (pc := 235) 0 0 rfl rfl hG dX12_step_235 ?_
  refine gf12_9 (pc := 236) lk1140 hG dX12_step_236 ?_
  refine r_aload_n (pc := 239) 0 0 rfl rfl hG dX12_step_239 ?_
  refine gf12_10 (pc := 240) lk1141 hG dX12_step_240 ?_
  refine r_isub (pc := 243) hG dX12_step_243 ?_
  refine r_iconst (pc := 244) (v := 2) (by decide) hG dX12_step_244 ?_
  refine r_icmp_le (pc := 245) (tgt := 252) (by decide) hG dX12_step_245 (fun h32 => ?_) (fun h32 => ?_)
  · refine r_iconst (pc := 252) (v := 2) (by decide) hG dX12_step_252 ?_
    exact r_sub [] rfl hG (w_Mo_step_J253 N hG 2 σ)
  · refine r_iconst (pc := 248) (v := 4) (by decide) hG dX12_step_248 ?_
    refine r_goto (pc := 249) (tgt := 253) (by decide) hG dX12_step_249 ?_
    exact r_sub [] rfl hG (w_Mo_step_J253 N hG 4 σ)
set_option maxRecDepth 4000 in
theorem w_Mo_step_J218 {X : Cx} {G : GT St} (N : Nat) (hG : IsG X RX12 cX12_step 2 2 none oWV G) {K157 : St → Option St} (hK157 : ∀  (s : St), G (K157  s) s 157 [(0, .ref (X.2.1 + 114))] []) (w1 : Int32) (σ : St) : G (Mo_step_J218 N K157 w1 σ) σ 218 [(0, .ref (X.2.1 + 114))] [.int w1, .ref (X.2.1 + 114)] := by
  unfold Mo_step_J218
  refine pf12_12 (pc := 218) lk1143 hG dX12_step_218 ?_
  refine r_bS hG (fun s35 => ?_)
  refine r_aload_n (pc := 221) 0 0 rfl rfl hG dX12_step_221 ?_
  refine r_dup (pc := 222) rfl hG dX12_step_222 ?_
  refine gf12_9 (pc := 223) lk1140 hG dX12_step_223 ?_
  refine r_iconst (pc := 226) (v := 1) (by decide) hG dX12_step_226 ?_
  refine r_iadd (pc := 227) hG dX12_step_227 ?_
  refine pf12_9 (pc := 228) lk1140 hG dX12_step_228 ?_
  refine r_bS hG (fun s36 => ?_)
  refine r_goto (pc := 231) (tgt := 157) (by decide) hG dX12_step_231 ?_
  exact hK157 s36
set_option maxRecDepth 4000 in
theorem w_Mo_step_L157B {X : Cx} {G : GT St} (N : Nat) (hG : IsG X RX12 cX12_step 2 2 none oWV G) {K157 : St → Option St} (hK157 : ∀  (s : St), G (K157  s) s 157 [(0, .ref (X.2.1 + 114))] []) (σ : St) : G (Mo_step_L157B N K157 σ) σ 157 [(0, .ref (X.2.1 + 114))] [] := by
  unfold Mo_step_L157B
  refine r_aload_n (pc := 157) 0 0 rfl rfl hG dX12_step_157 ?_
  refine r_aload_n (pc := 158) 0 0 rfl rfl hG dX12_step_158 ?_
  refine gf12_9 (pc := 159) lk1140 hG dX12_step_159 ?_
  refine r_bR hG (fun r25 e27 => ?_)
  refine r_callVi (pc := 162) (As := [.int (σ.1 114 9)]) (c_Mo_letter X N (σ.1 114 9) σ r25 e27) (wsOf_at (rfl : shp 114 = 12) (by decide) rfl) rfl mfX12_123_X12_letter hyVX12_letter (by decide) (by decide) rfl (Nat.le_of_ble_eq_true rfl) hG dX12_step_162 rfl (fun n26 => ?_)
  refine r_i2l (pc := 165) hG dX12_step_165 ?_
  refine r_ldc2 (pc := 166) (v := 48) lk1324 hG dX12_step_166 ?_
  refine r_ldc2 (pc := 169) (v := 57) lk1325 hG dX12_step_169 ?_
  refine r_callSi (pc := 172) (As := [.long ((r25).toInt64), .long 48, .long 57]) (c_Mo_in X ((r25).toInt64) 48 57 σ) mfX12_69_X12_in hySX12_in (by decide) (by decide) rfl (Nat.le_of_ble_eq_true rfl) hG dX12_step_172 rfl (fun n29 => ?_)
  refine r_if_eq (pc := 175) (tgt := 234) (by decide) hG dX12_step_175 (fun h31 => ?_) (fun h31 => ?_)
  · exact w_Mo_step_J234 N hG σ
  · refine r_aload_n (pc := 178) 0 0 rfl rfl hG dX12_step_178 ?_
    refine r_aload_n (pc := 179) 0 0 rfl rfl hG dX12_step_179 ?_
    refine gf12_9 (pc := 180) lk1140 hG dX12_step_180 ?_
    refine r_aload_n (pc := 183) 0 0 rfl rfl hG dX12_step_183 ?_
    refine gf12_10 (pc := 184) lk1141 hG dX12_step_184 ?_
    refine r_isub (pc := 187) hG dX12_step_187 ?_
    refine r_iconst (pc := 188) (v := 2) (by decide) hG dX12_step_188 ?_
    refine r_icmp_ge (pc := 189) (tgt := 214) (by decide) hG dX12_step_189 (fun h34 => ?_) (fun h34 => ?_)
    · refine r_aload_n (pc := 214) 0 0 rfl rfl hG dX12_step_214 ?_
      refine gf12_12 (pc := 215) lk1143 hG dX12_step_215 ?_
      exact w_Mo_step_J218 N hG hK157 (σ.1 114 12) σ
    · refine r_bipush (pc := 192) (v := 10) (by decide) hG dX12_step_192 ?_
      refine r_aload_n (pc := 194) 0 0 rfl rfl hG dX12_step_194 ?_
      refine gf12_12 (pc := 195) lk1143 hG dX12_step_195 ?_
      refine r_imul (pc := 198) hG dX12_step_198 ?_
      refine r_aload_n (pc := 199) 0 0 rfl rfl hG dX12_step_199 ?_
      refine r_aload_n (pc := 200) 0 0 rfl rfl hG dX12_step_200 ?_
      refine gf12_9 (pc := 201) lk1140 hG dX12_step_201 ?_
      refine r_bR hG (fun r37 e39 => ?_)
      refine r_callVi (pc := 204) (As := [.int (σ.1 114 9)]) (c_Mo_letter X N (σ.1 114 9) σ r37 e39) (wsOf_at (rfl : shp 114 = 12) (by decide) rfl) rfl mfX12_123_X12_letter hyVX12_letter (by decide) (by decide) rfl (Nat.le_of_ble_eq_true rfl) hG dX12_step_204 rfl (fun n38 => ?_)
      refine r_iadd (pc := 207) hG dX12_step_207 ?_
      refine r_bipush (pc := 208) (v := 48) (by decide) hG dX12_step_208 ?_
      refine r_isub (pc := 210) hG dX12_step_210 ?_
      refine r_goto (pc := 211) (tgt := 218) (by decide) hG dX12_step_211 ?_
      exact w_Mo_step_J218 N hG hK157 (((10 * (σ.1 114 12)) + r37) - 48) σ
set_option maxRecDepth 4000 in
theorem w_Mo_step_L157 {X : Cx} {G : GT St} (N : Nat) (hG : IsG X RX12 cX12_step 2 2 none oWV G) : ∀ (n : Nat), ∀  (σ : St), G (Mo_step_L157 N n σ) σ 157 [(0, .ref (X.2.1 + 114))] [] := by
  intro n
  induction n with
  | zero => intro σ; exact r_none hG
  | succ n ih => intro σ; exact w_Mo_step_L157B N hG ih σ
set_option maxRecDepth 4000 in
theorem w_Mo_step_L115B {X : Cx} {G : GT St} (N : Nat) (hG : IsG X RX12 cX12_step 2 2 none oWV G) {K115 : St → Option St} (hK115 : ∀  (s : St), G (K115  s) s 115 [(0, .ref (X.2.1 + 114))] []) (σ : St) : G (Mo_step_L115B N K115 σ) σ 115 [(0, .ref (X.2.1 + 114))] [] := by
  unfold Mo_step_L115B
  refine r_aload_n (pc := 115) 0 0 rfl rfl hG dX12_step_115 ?_
  refine r_aload_n (pc := 116) 0 0 rfl rfl hG dX12_step_116 ?_
  refine gf12_9 (pc := 117) lk1140 hG dX12_step_117 ?_
  refine r_bR hG (fun r40 e42 => ?_)
  refine r_callVi (pc := 120) (As := [.int (σ.1 114 9)]) (c_Mo_letter X N (σ.1 114 9) σ r40 e42) (wsOf_at (rfl : shp 114 = 12) (by decide) rfl) rfl mfX12_123_X12_letter hyVX12_letter (by decide) (by decide) rfl (Nat.le_of_ble_eq_true rfl) hG dX12_step_120 rfl (fun n41 => ?_)
  refine r_i2l (pc := 123) hG dX12_step_123 ?_
  refine r_ldc2 (pc := 124) (v := 97) lk1322 hG dX12_step_124 ?_
  refine r_ldc2 (pc := 127) (v := 122) lk1323 hG dX12_step_127 ?_
  refine r_callSi (pc := 130) (As := [.long ((r40).toInt64), .long 97, .long 122]) (c_Mo_in X ((r40).toInt64) 97 122 σ) mfX12_69_X12_in hySX12_in (by decide) (by decide) rfl (Nat.le_of_ble_eq_true rfl) hG dX12_step_130 rfl (fun n44 => ?_)
  refine r_if_eq (pc := 133) (tgt := 280) (by decide) hG dX12_step_133 (fun h46 => ?_) (fun h46 => ?_)
  · exact r_vret (pc := 280) rfl hG dX12_step_280
  · refine r_aload_n (pc := 136) 0 0 rfl rfl hG dX12_step_136 ?_
    refine r_dup (pc := 137) rfl hG dX12_step_137 ?_
    refine gf12_9 (pc := 138) lk1140 hG dX12_step_138 ?_
    refine r_iconst (pc := 141) (v := 1) (by decide) hG dX12_step_141 ?_
    refine r_iadd (pc := 142) hG dX12_step_142 ?_
    refine pf12_9 (pc := 143) lk1140 hG dX12_step_143 ?_
    refine r_bS hG (fun s47 => ?_)
    refine r_goto (pc := 146) (tgt := 115) (by decide) hG dX12_step_146 ?_
    exact hK115 s47
set_option maxRecDepth 4000 in
theorem w_Mo_step_L115 {X : Cx} {G : GT St} (N : Nat) (hG : IsG X RX12 cX12_step 2 2 none oWV G) : ∀ (n : Nat), ∀  (σ : St), G (Mo_step_L115 N n σ) σ 115 [(0, .ref (X.2.1 + 114))] [] := by
  intro n
  induction n with
  | zero => intro σ; exact r_none hG
  | succ n ih => intro σ; exact w_Mo_step_L115B N hG ih σ
set_option maxRecDepth 4000 in
theorem w_Mo_step_J104 {X : Cx} {G : GT St} (N : Nat) (hG : IsG X RX12 cX12_step 2 2 none oWV G) (w1 : Int32) (σ : St) : G (Mo_step_J104 N w1 σ) σ 104 [(0, .ref (X.2.1 + 114))] [.int w1, .ref (X.2.1 + 114)] := by
  unfold Mo_step_J104
  refine pf12_11 (pc := 104) lk1142 hG dX12_step_104 ?_
  refine r_bS hG (fun s20 => ?_)
  refine r_aload_n (pc := 107) 0 0 rfl rfl hG dX12_step_107 ?_
  refine gf12_11 (pc := 108) lk1142 hG dX12_step_108 ?_
  refine r_iconst (pc := 111) (v := 1) (by decide) hG dX12_step_111 ?_
  refine r_icmp_ne (pc := 112) (tgt := 149) (by decide) hG dX12_step_112 (fun h21 => ?_) (fun h21 => ?_)
  · refine r_aload_n (pc := 149) 0 0 rfl rfl hG dX12_step_149 ?_
    refine gf12_11 (pc := 150) lk1142 hG dX12_step_150 ?_
    refine r_iconst (pc := 153) (v := 2) (by decide) hG dX12_step_153 ?_
    refine r_icmp_ne (pc := 154) (tgt := 259) (by decide) hG dX12_step_154 (fun h22 => ?_) (fun h22 => ?_)
    · refine r_aload_n (pc := 259) 0 0 rfl rfl hG dX12_step_259 ?_
      refine r_dup (pc := 260) rfl hG dX12_step_260 ?_
      refine gf12_9 (pc := 261) lk1140 hG dX12_step_261 ?_
      refine r_aload_n (pc := 264) 0 0 rfl rfl hG dX12_step_264 ?_
      refine gf12_11 (pc := 265) lk1142 hG dX12_step_265 ?_
      refine r_if_ne (pc := 268) (tgt := 275) (by decide) hG dX12_step_268 (fun h23 => ?_) (fun h23 => ?_)
      · refine r_iconst (pc := 275) (v := 1) (by decide) hG dX12_step_275 ?_
        exact r_sub [] rfl hG (w_Mo_step_J276 N hG (s20.1 114 9) 1 s20)
      · refine r_iconst (pc := 271) (v := 0) (by decide) hG dX12_step_271 ?_
        refine r_goto (pc := 272) (tgt := 276) (by decide) hG dX12_step_272 ?_
        exact r_sub [] rfl hG (w_Mo_step_J276 N hG (s20.1 114 9) 0 s20)
    · exact w_Mo_step_L157 N hG N s20
  · exact w_Mo_step_L115 N hG N s20
set_option maxRecDepth 4000 in
theorem w_Mo_step_J26 {X : Cx} {G : GT St} (N : Nat) (hG : IsG X RX12 cX12_step 2 2 none oWV G) (σ : St) : G (Mo_step_J26 N σ) σ 26 [(0, .ref (X.2.1 + 114))] [] := by
  unfold Mo_step_J26
  refine r_aload_n (pc := 26) 0 0 rfl rfl hG dX12_step_26 ?_
  refine r_aload_n (pc := 27) 0 0 rfl rfl hG dX12_step_27 ?_
  refine gf12_9 (pc := 28) lk1140 hG dX12_step_28 ?_
  refine pf12_10 (pc := 31) lk1141 hG dX12_step_31 ?_
  refine r_bS hG (fun s5 => ?_)
  refine r_aload_n (pc := 34) 0 0 rfl rfl hG dX12_step_34 ?_
  refine r_aload_n (pc := 35) 0 0 rfl rfl hG dX12_step_35 ?_
  refine gf12_9 (pc := 36) lk1140 hG dX12_step_36 ?_
  refine r_bR hG (fun r6 e8 => ?_)
  refine r_callVi (pc := 39) (As := [.int (s5.1 114 9)]) (c_Mo_letter X N (s5.1 114 9) s5 r6 e8) (wsOf_at (rfl : shp 114 = 12) (by decide) rfl) rfl mfX12_123_X12_letter hyVX12_letter (by decide) (by decide) rfl (Nat.le_of_ble_eq_true rfl) hG dX12_step_39 rfl (fun n7 => ?_)
  refine r_istore_n (pc := 42) (lv' := [(1, .int r6), (0, .ref (X.2.1 + 114))]) 1 rfl (by decide) rfl hG dX12_step_42 ?_
  refine r_aload_n (pc := 43) 1 0 rfl rfl hG dX12_step_43 ?_
  refine r_iconst (pc := 44) (v := 0) (by decide) hG dX12_step_44 ?_
  refine pf12_12 (pc := 45) lk1143 hG dX12_step_45 ?_
  refine r_bS hG (fun s9 => ?_)
  refine r_aload_n (pc := 48) 1 0 rfl rfl hG dX12_step_48 ?_
  refine r_iload_n (pc := 49) 0 1 rfl rfl hG dX12_step_49 ?_
  refine r_if_ge (pc := 50) (tgt := 57) (by decide) hG dX12_step_50 (fun h10 => ?_) (fun h10 => ?_)
  · refine r_iload_n (pc := 57) 0 1 rfl rfl hG dX12_step_57 ?_
    refine r_i2l (pc := 58) hG dX12_step_58 ?_
    refine r_ldc2 (pc := 59) (v := 97) lk1322 hG dX12_step_59 ?_
    refine r_ldc2 (pc := 62) (v := 122) lk1323 hG dX12_step_62 ?_
    refine r_callSi (pc := 65) (As := [.long ((r6).toInt64), .long 97, .long 122]) (c_Mo_in X ((r6).toInt64) 97 122 s9) mfX12_69_X12_in hySX12_in (by decide) (by decide) rfl (Nat.le_of_ble_eq_true rfl) hG dX12_step_65 rfl (fun n12 => ?_)
    refine r_if_eq (pc := 68) (tgt := 75) (by decide) hG dX12_step_68 (fun h14 => ?_) (fun h14 => ?_)
    · refine r_iload_n (pc := 75) 0 1 rfl rfl hG dX12_step_75 ?_
      refine r_i2l (pc := 76) hG dX12_step_76 ?_
      refine r_ldc2 (pc := 77) (v := 48) lk1324 hG dX12_step_77 ?_
      refine r_ldc2 (pc := 80) (v := 57) lk1325 hG dX12_step_80 ?_
      refine r_callSi (pc := 83) (As := [.long ((r6).toInt64), .long 48, .long 57]) (c_Mo_in X ((r6).toInt64) 48 57 s9) mfX12_69_X12_in hySX12_in (by decide) (by decide) rfl (Nat.le_of_ble_eq_true rfl) hG dX12_step_83 rfl (fun n16 => ?_)
      refine r_if_eq (pc := 86) (tgt := 93) (by decide) hG dX12_step_86 (fun h18 => ?_) (fun h18 => ?_)
      · refine r_iload_n (pc := 93) 0 1 rfl rfl hG dX12_step_93 ?_
        refine r_bipush (pc := 94) (v := 59) (by decide) hG dX12_step_94 ?_
        refine r_icmp_ne (pc := 96) (tgt := 103) (by decide) hG dX12_step_96 (fun h19 => ?_) (fun h19 => ?_)
        · refine r_iconst (pc := 103) (v := 4) (by decide) hG dX12_step_103 ?_
          exact r_sub [1] rfl hG (w_Mo_step_J104 N hG 4 s9)
        · refine r_iconst (pc := 99) (v := 3) (by decide) hG dX12_step_99 ?_
          refine r_goto (pc := 100) (tgt := 104) (by decide) hG dX12_step_100 ?_
          exact r_sub [1] rfl hG (w_Mo_step_J104 N hG 3 s9)
      · refine r_iconst (pc := 89) (v := 2) (by decide) hG dX12_step_89 ?_
        refine r_goto (pc := 90) (tgt := 104) (by decide) hG dX12_step_90 ?_
        exact r_sub [1] rfl hG (w_Mo_step_J104 N hG 2 s9)
    · refine r_iconst (pc := 71) (v := 1) (by decide) hG dX12_step_71 ?_
      refine r_goto (pc := 72) (tgt := 104) (by decide) hG dX12_step_72 ?_
      exact r_sub [1] rfl hG (w_Mo_step_J104 N hG 1 s9)
  · refine r_iconst (pc := 53) (v := 0) (by decide) hG dX12_step_53 ?_
    refine r_goto (pc := 54) (tgt := 104) (by decide) hG dX12_step_54 ?_
    exact r_sub [1] rfl hG (w_Mo_step_J104 N hG 0 s9)
set_option maxRecDepth 4000 in
theorem w_Mo_step_L0B {X : Cx} {G : GT St} (N : Nat) (hG : IsG X RX12 cX12_step 2 2 none oWV G) {K0 : St → Option St} (hK0 : ∀  (s : St), G (K0  s) s 0 [(0, .ref (X.2.1 + 114))] []) (σ : St) : G (Mo_step_L0B N K0 σ) σ 0 [(0, .ref (X.2.1 + 114))] [] := by
  unfold Mo_step_L0B
  refine r_aload_n (pc := 0) 0 0 rfl rfl hG dX12_step_0 ?_
  refine r_aload_n (pc := 1) 0 0 rfl rfl hG dX12_step_1 ?_
  refine gf12_9 (pc := 2) lk1140 hG dX12_step_2 ?_
  refine r_bR hG (fun r1 e3 => ?_)
  refine r_callVi (pc := 5) (As := [.int (σ.1 114 9)]) (c_Mo_letter X N (σ.1 114 9) σ r1 e3) (wsOf_at (rfl : shp 114 = 12) (by decide) rfl) rfl mfX12_123_X12_letter hyVX12_letter (by decide) (by decide) rfl (Nat.le_of_ble_eq_true rfl) hG dX12_step_5 rfl (fun n2 => ?_)
  refine r_bipush (pc := 8) (v := 32) (by decide) hG dX12_step_8 ?_
  refine r_icmp_ne (pc := 10) (tgt := 26) (by decide) hG dX12_step_10 (fun h4 => ?_) (fun h4 => ?_)
  · exact w_Mo_step_J26 N hG σ
  · refine r_aload_n (pc := 13) 0 0 rfl rfl hG dX12_step_13 ?_
    refine r_dup (pc := 14) rfl hG dX12_step_14 ?_
    refine gf12_9 (pc := 15) lk1140 hG dX12_step_15 ?_
    refine r_iconst (pc := 18) (v := 1) (by decide) hG dX12_step_18 ?_
    refine r_iadd (pc := 19) hG dX12_step_19 ?_
    refine pf12_9 (pc := 20) lk1140 hG dX12_step_20 ?_
    refine r_bS hG (fun s48 => ?_)
    refine r_goto (pc := 23) (tgt := 0) (by decide) hG dX12_step_23 ?_
    exact hK0 s48
set_option maxRecDepth 4000 in
theorem w_Mo_step_L0 {X : Cx} {G : GT St} (N : Nat) (hG : IsG X RX12 cX12_step 2 2 none oWV G) : ∀ (n : Nat), ∀  (σ : St), G (Mo_step_L0 N n σ) σ 0 [(0, .ref (X.2.1 + 114))] [] := by
  intro n
  induction n with
  | zero => intro σ; exact r_none hG
  | succ n ih => intro σ; exact w_Mo_step_L0B N hG ih σ
set_option maxRecDepth 4000 in
theorem c_Mo_step (X : Cx) (N : Nat) (σ : St) (σ1 : St) (hE : Mo_step N σ = some σ1) : Ctr X yX12_step cX12_step 2 none 2 [.ref (X.2.1 + 114)] σ none σ1 := by
  refine Ctr.of (out := oWV) (E := Mo_step N σ) rfl (Nat.le_of_ble_eq_true rfl) (fun G hG => ?_) σ1 hE
  unfold Mo_step
  exact w_Mo_step_L0 N hG N σ
set_option maxRecDepth 4000 in
theorem w_Mo_isWord_J122 {σ : St} {X : Cx} {G : GT Int32} (N : Nat) (hG : IsG X RX12 cX12_isWord 8 2 (some .boolean) (oI σ) G) : G (Mo_isWord_J122 N σ) σ 122 [] [] := by
  unfold Mo_isWord_J122
  refine r_iconst (pc := 122) (v := 1) (by decide) hG dX12_isWord_122 ?_
  refine r_goto (pc := 123) (tgt := 127) (by decide) hG dX12_isWord_123 ?_
  exact r_zret (pc := 127) rvN_b1 rfl hG dX12_isWord_127
set_option maxRecDepth 4000 in
theorem w_Mo_isWord_J79 {σ : St} {X : Cx} {G : GT Int32} (N : Nat) (hG : IsG X RX12 cX12_isWord 8 2 (some .boolean) (oI σ) G) (v4 : Int32) (v5 : Int32) (v6 : Int32) (w0 : Int32) (hw0 : rvN (some .boolean) (some (.int w0))) : G (Mo_isWord_J79 N v4 v5 v6 w0 σ) σ 79 [(0, .ref (X.2.1 + 114)), (4, .int v4), (5, .int v5), (6, .int v6)] [.int w0] := by
  unfold Mo_isWord_J79
  refine r_istore (pc := 79) (lv' := [(7, .int w0), (0, .ref (X.2.1 + 114)), (4, .int v4), (5, .int v5), (6, .int v6)]) (by decide) rfl hG dX12_isWord_79 ?_
  refine r_iload (pc := 81) 0 rfl hG dX12_isWord_81 ?_
  refine r_if_eq (pc := 83) (tgt := 126) (by decide) hG dX12_isWord_83 (fun h3 => ?_) (fun h3 => ?_)
  · refine r_iconst (pc := 126) (v := 0) (by decide) hG dX12_isWord_126 ?_
    exact r_zret (pc := 127) rvN_b0 rfl hG dX12_isWord_127
  · refine r_iload (pc := 86) 4 rfl hG dX12_isWord_86 ?_
    refine r_iconst (pc := 88) (v := 3) (by decide) hG dX12_isWord_88 ?_
    refine r_icmp_eq (pc := 89) (tgt := 122) (by decide) hG dX12_isWord_89 (fun h4 => ?_) (fun h4 => ?_)
    · exact r_sub [] rfl hG (w_Mo_isWord_J122 N hG)
    · refine r_aload_n (pc := 92) 1 0 rfl rfl hG dX12_isWord_92 ?_
      refine r_aload_n (pc := 93) 1 0 rfl rfl hG dX12_isWord_93 ?_
      refine gf12_10 (pc := 94) lk1141 hG dX12_isWord_94 ?_
      refine r_iconst (pc := 97) (v := 3) (by decide) hG dX12_isWord_97 ?_
      refine r_iadd (pc := 98) hG dX12_isWord_98 ?_
      refine r_bR hG (fun r5 e7 => ?_)
      refine r_callVi (pc := 99) (As := [.int ((σ.1 114 10) + 3)]) (c_Mo_letter X N ((σ.1 114 10) + 3) σ r5 e7) (wsOf_at (rfl : shp 114 = 12) (by decide) rfl) rfl mfX12_123_X12_letter hyVX12_letter (by decide) (by decide) rfl (Nat.le_of_ble_eq_true rfl) hG dX12_isWord_99 rfl (fun n6 => ?_)
      refine r_iload (pc := 102) 2 rfl hG dX12_isWord_102 ?_
      refine r_icmp_ne (pc := 104) (tgt := 126) (by decide) hG dX12_isWord_104 (fun h8 => ?_) (fun h8 => ?_)
      · refine r_iconst (pc := 126) (v := 0) (by decide) hG dX12_isWord_126 ?_
        exact r_zret (pc := 127) rvN_b0 rfl hG dX12_isWord_127
      · refine r_aload_n (pc := 107) 1 0 rfl rfl hG dX12_isWord_107 ?_
        refine r_aload_n (pc := 108) 1 0 rfl rfl hG dX12_isWord_108 ?_
        refine gf12_10 (pc := 109) lk1141 hG dX12_isWord_109 ?_
        refine r_iconst (pc := 112) (v := 4) (by decide) hG dX12_isWord_112 ?_
        refine r_iadd (pc := 113) hG dX12_isWord_113 ?_
        refine r_bR hG (fun r9 e11 => ?_)
        refine r_callVi (pc := 114) (As := [.int ((σ.1 114 10) + 4)]) (c_Mo_letter X N ((σ.1 114 10) + 4) σ r9 e11) (wsOf_at (rfl : shp 114 = 12) (by decide) rfl) rfl mfX12_123_X12_letter hyVX12_letter (by decide) (by decide) rfl (Nat.le_of_ble_eq_true rfl) hG dX12_isWord_114 rfl (fun n10 => ?_)
        refine r_iload (pc := 117) 3 rfl hG dX12_isWord_117 ?_
        refine r_icmp_ne (pc := 119) (tgt := 126) (by decide) hG dX12_isWord_119 (fun h12 => ?_) (fun h12 => ?_)
        · refine r_iconst (pc := 126) (v := 0) (by decide) hG dX12_isWord_126 ?_
          exact r_zret (pc := 127) rvN_b0 rfl hG dX12_isWord_127
        · exact r_sub [] rfl hG (w_Mo_isWord_J122 N hG)
set_option maxRecDepth 4000 in
theorem w_Mo_isWord_J78 {σ : St} {X : Cx} {G : GT Int32} (N : Nat) (hG : IsG X RX12 cX12_isWord 8 2 (some .boolean) (oI σ) G) (v4 : Int32) (v5 : Int32) (v6 : Int32) : G (Mo_isWord_J78 N v4 v5 v6 σ) σ 78 [(0, .ref (X.2.1 + 114)), (4, .int v4), (5, .int v5), (6, .int v6)] [] := by
  unfold Mo_isWord_J78
  refine r_iconst (pc := 78) (v := 0) (by decide) hG dX12_isWord_78 ?_
  exact w_Mo_isWord_J79 N hG v4 v5 v6 0 rvN_b0
set_option maxRecDepth 4000 in
theorem w_Mo_isWord_J10 {σ : St} {X : Cx} {G : GT Int32} (N : Nat) (hG : IsG X RX12 cX12_isWord 8 2 (some .boolean) (oI σ) G) (v1 : Int32) (v2 : Int32) (v3 : Int32) (v4 : Int32) (v5 : Int32) (w0 : Int32) : G (Mo_isWord_J10 N v1 v2 v3 v4 v5 w0 σ) σ 10 [(0, .ref (X.2.1 + 114)), (1, .int v1), (2, .int v2), (3, .int v3), (4, .int v4), (5, .int v5)] [.int w0] := by
  unfold Mo_isWord_J10
  refine r_istore (pc := 10) (lv' := [(6, .int w0), (0, .ref (X.2.1 + 114)), (1, .int v1), (2, .int v2), (3, .int v3), (4, .int v4), (5, .int v5)]) (by decide) rfl hG dX12_isWord_10 ?_
  refine r_aload_n (pc := 12) 1 0 rfl rfl hG dX12_isWord_12 ?_
  refine gf12_11 (pc := 13) lk1142 hG dX12_isWord_13 ?_
  refine r_iconst (pc := 16) (v := 1) (by decide) hG dX12_isWord_16 ?_
  refine r_icmp_ne (pc := 17) (tgt := 78) (by decide) hG dX12_isWord_17 (fun h2 => ?_) (fun h2 => ?_)
  · exact r_sub [1, 5, 6, 0] rfl hG (w_Mo_isWord_J78 N hG v4 v5 w0)
  · refine r_aload_n (pc := 20) 1 0 rfl rfl hG dX12_isWord_20 ?_
    refine gf12_9 (pc := 21) lk1140 hG dX12_isWord_21 ?_
    refine r_aload_n (pc := 24) 1 0 rfl rfl hG dX12_isWord_24 ?_
    refine gf12_10 (pc := 25) lk1141 hG dX12_isWord_25 ?_
    refine r_isub (pc := 28) hG dX12_isWord_28 ?_
    refine r_iload (pc := 29) 0 rfl hG dX12_isWord_29 ?_
    refine r_icmp_ne (pc := 31) (tgt := 78) (by decide) hG dX12_isWord_31 (fun h13 => ?_) (fun h13 => ?_)
    · exact r_sub [1, 5, 6, 0] rfl hG (w_Mo_isWord_J78 N hG v4 v5 w0)
    · refine r_aload_n (pc := 34) 1 0 rfl rfl hG dX12_isWord_34 ?_
      refine r_aload_n (pc := 35) 1 0 rfl rfl hG dX12_isWord_35 ?_
      refine gf12_10 (pc := 36) lk1141 hG dX12_isWord_36 ?_
      refine r_bR hG (fun r14 e16 => ?_)
      refine r_callVi (pc := 39) (As := [.int (σ.1 114 10)]) (c_Mo_letter X N (σ.1 114 10) σ r14 e16) (wsOf_at (rfl : shp 114 = 12) (by decide) rfl) rfl mfX12_123_X12_letter hyVX12_letter (by decide) (by decide) rfl (Nat.le_of_ble_eq_true rfl) hG dX12_isWord_39 rfl (fun n15 => ?_)
      refine r_iload_n (pc := 42) 2 1 rfl rfl hG dX12_isWord_42 ?_
      refine r_icmp_ne (pc := 43) (tgt := 78) (by decide) hG dX12_isWord_43 (fun h17 => ?_) (fun h17 => ?_)
      · exact r_sub [1, 5, 6, 0] rfl hG (w_Mo_isWord_J78 N hG v4 v5 w0)
      · refine r_aload_n (pc := 46) 1 0 rfl rfl hG dX12_isWord_46 ?_
        refine r_aload_n (pc := 47) 1 0 rfl rfl hG dX12_isWord_47 ?_
        refine gf12_10 (pc := 48) lk1141 hG dX12_isWord_48 ?_
        refine r_iconst (pc := 51) (v := 1) (by decide) hG dX12_isWord_51 ?_
        refine r_iadd (pc := 52) hG dX12_isWord_52 ?_
        refine r_bR hG (fun r18 e20 => ?_)
        refine r_callVi (pc := 53) (As := [.int ((σ.1 114 10) + 1)]) (c_Mo_letter X N ((σ.1 114 10) + 1) σ r18 e20) (wsOf_at (rfl : shp 114 = 12) (by decide) rfl) rfl mfX12_123_X12_letter hyVX12_letter (by decide) (by decide) rfl (Nat.le_of_ble_eq_true rfl) hG dX12_isWord_53 rfl (fun n19 => ?_)
        refine r_iload_n (pc := 56) 3 2 rfl rfl hG dX12_isWord_56 ?_
        refine r_icmp_ne (pc := 57) (tgt := 78) (by decide) hG dX12_isWord_57 (fun h21 => ?_) (fun h21 => ?_)
        · exact r_sub [1, 5, 6, 0] rfl hG (w_Mo_isWord_J78 N hG v4 v5 w0)
        · refine r_aload_n (pc := 60) 1 0 rfl rfl hG dX12_isWord_60 ?_
          refine r_aload_n (pc := 61) 1 0 rfl rfl hG dX12_isWord_61 ?_
          refine gf12_10 (pc := 62) lk1141 hG dX12_isWord_62 ?_
          refine r_iconst (pc := 65) (v := 2) (by decide) hG dX12_isWord_65 ?_
          refine r_iadd (pc := 66) hG dX12_isWord_66 ?_
          refine r_bR hG (fun r22 e24 => ?_)
          refine r_callVi (pc := 67) (As := [.int ((σ.1 114 10) + 2)]) (c_Mo_letter X N ((σ.1 114 10) + 2) σ r22 e24) (wsOf_at (rfl : shp 114 = 12) (by decide) rfl) rfl mfX12_123_X12_letter hyVX12_letter (by decide) (by decide) rfl (Nat.le_of_ble_eq_true rfl) hG dX12_isWord_67 rfl (fun n23 => ?_)
          refine r_iload_n (pc := 70) 4 3 rfl rfl hG dX12_isWord_70 ?_
          refine r_icmp_ne (pc := 71) (tgt := 78) (by decide) hG dX12_isWord_71 (fun h25 => ?_) (fun h25 => ?_)
          · exact r_sub [1, 5, 6, 0] rfl hG (w_Mo_isWord_J78 N hG v4 v5 w0)
          · refine r_iconst (pc := 74) (v := 1) (by decide) hG dX12_isWord_74 ?_
            refine r_goto (pc := 75) (tgt := 79) (by decide) hG dX12_isWord_75 ?_
            exact r_sub [1, 5, 6, 0] rfl hG (w_Mo_isWord_J79 N hG v4 v5 w0 1 rvN_b1)
set_option maxRecDepth 4000 in
theorem c_Mo_isWord (X : Cx) (N : Nat) (v1 : Int32) (v2 : Int32) (v3 : Int32) (v4 : Int32) (v5 : Int32) (σ : St) (r : Int32) (hE : Mo_isWord N v1 v2 v3 v4 v5 σ = some r) : Ctr X yX12_isWord cX12_isWord 8 (some .boolean) 2 [.ref (X.2.1 + 114), .int v1, .int v2, .int v3, .int v4, .int v5] σ (some (.int r)) σ := by
  refine Ctr.of (out := (oI σ)) (E := Mo_isWord N v1 v2 v3 v4 v5 σ) rfl (Nat.le_of_ble_eq_true rfl) (fun G hG => ?_) r hE
  unfold Mo_isWord
  refine r_iload (pc := 0) 4 rfl hG dX12_isWord_0 ?_
  refine r_if_ne (pc := 2) (tgt := 9) (by decide) hG dX12_isWord_2 (fun h1 => ?_) (fun h1 => ?_)
  · refine r_iconst (pc := 9) (v := 5) (by decide) hG dX12_isWord_9 ?_
    exact w_Mo_isWord_J10 N hG v1 v2 v3 v4 v5 5
  · refine r_iconst (pc := 5) (v := 3) (by decide) hG dX12_isWord_5 ?_
    refine r_goto (pc := 6) (tgt := 10) (by decide) hG dX12_isWord_6 ?_
    exact w_Mo_isWord_J10 N hG v1 v2 v3 v4 v5 3
set_option maxRecDepth 4000 in
theorem c_Mo_number (X : Cx) (N : Nat) (v1 : Int32) (v2 : Int32) (v3 : Int32) (σ : St) (r : Int32) (σ1 : St) (hE : Mo_number N v1 v2 v3 σ = some (r, σ1)) : Ctr X yX12_number cX12_number 4 (some .boolean) 3 [.ref (X.2.1 + 114), .int v1, .int v2, .int v3] σ (some (.int r)) σ1 := by
  refine Ctr.of (out := oWI) (E := Mo_number N v1 v2 v3 σ) rfl (Nat.le_of_ble_eq_true rfl) (fun G hG => ?_) (r, σ1) hE
  unfold Mo_number
  refine r_aload_n (pc := 0) 0 0 rfl rfl hG dX12_number_0 ?_
  refine r_bR hG (fun s2 e4 => ?_)
  refine r_callVv (pc := 1) (As := []) (c_Mo_step X N σ s2 e4) (wsOf_at (rfl : shp 114 = 12) (by decide) rfl) rfl mfX12_143_X12_step hyVX12_step (by decide) (by decide) rfl (Nat.le_of_ble_eq_true rfl) hG dX12_number_1 rfl (fun n3 => ?_)
  refine r_aload_n (pc := 4) 0 0 rfl rfl hG dX12_number_4 ?_
  refine gf12_13 (pc := 5) lk1144 hG dX12_number_5 ?_
  refine r_iload_n (pc := 8) 1 1 rfl rfl hG dX12_number_8 ?_
  refine r_aload_n (pc := 9) 0 0 rfl rfl hG dX12_number_9 ?_
  refine gf12_12 (pc := 10) lk1143 hG dX12_number_10 ?_
  refine r_ck hG (fun h5 => ?_)
  refine r_iast (pc := 13) (i := 121) (rfl : shp 121 = 14) rfl h5 hG dX12_number_13 ?_
  refine r_bS hG (fun s6 => ?_)
  refine r_aload_n (pc := 14) 0 0 rfl rfl hG dX12_number_14 ?_
  refine gf12_11 (pc := 15) lk1142 hG dX12_number_15 ?_
  refine r_iconst (pc := 18) (v := 2) (by decide) hG dX12_number_18 ?_
  refine r_icmp_ne (pc := 19) (tgt := 41) (by decide) hG dX12_number_19 (fun h7 => ?_) (fun h7 => ?_)
  · refine r_iconst (pc := 41) (v := 0) (by decide) hG dX12_number_41 ?_
    exact r_zret (pc := 42) rvN_b0 rfl hG dX12_number_42
  · refine r_aload_n (pc := 22) 0 0 rfl rfl hG dX12_number_22 ?_
    refine gf12_12 (pc := 23) lk1143 hG dX12_number_23 ?_
    refine r_i2l (pc := 26) hG dX12_number_26 ?_
    refine r_iload_n (pc := 27) 2 2 rfl rfl hG dX12_number_27 ?_
    refine r_i2l (pc := 28) hG dX12_number_28 ?_
    refine r_iload_n (pc := 29) 3 3 rfl rfl hG dX12_number_29 ?_
    refine r_i2l (pc := 30) hG dX12_number_30 ?_
    refine r_callSi (pc := 31) (As := [.long (((s6.1 114 12)).toInt64), .long ((v2).toInt64), .long ((v3).toInt64)]) (c_Mo_in X (((s6.1 114 12)).toInt64) ((v2).toInt64) ((v3).toInt64) s6) mfX12_69_X12_in hySX12_in (by decide) (by decide) rfl (Nat.le_of_ble_eq_true rfl) hG dX12_number_31 rfl (fun n9 => ?_)
    refine r_if_eq (pc := 34) (tgt := 41) (by decide) hG dX12_number_34 (fun h11 => ?_) (fun h11 => ?_)
    · refine r_iconst (pc := 41) (v := 0) (by decide) hG dX12_number_41 ?_
      exact r_zret (pc := 42) rvN_b0 rfl hG dX12_number_42
    · refine r_iconst (pc := 37) (v := 1) (by decide) hG dX12_number_37 ?_
      refine r_goto (pc := 38) (tgt := 42) (by decide) hG dX12_number_38 ?_
      exact r_zret (pc := 42) rvN_b1 rfl hG dX12_number_42
set_option maxRecDepth 4000 in
theorem c_Mo_ends (X : Cx) (N : Nat) (σ : St) (r : Int32) (σ1 : St) (hE : Mo_ends N σ = some (r, σ1)) : Ctr X yX12_ends cX12_ends 1 (some .boolean) 3 [.ref (X.2.1 + 114)] σ (some (.int r)) σ1 := by
  refine Ctr.of (out := oWI) (E := Mo_ends N σ) rfl (Nat.le_of_ble_eq_true rfl) (fun G hG => ?_) (r, σ1) hE
  unfold Mo_ends
  refine r_aload_n (pc := 0) 0 0 rfl rfl hG dX12_ends_0 ?_
  refine r_bR hG (fun s2 e4 => ?_)
  refine r_callVv (pc := 1) (As := []) (c_Mo_step X N σ s2 e4) (wsOf_at (rfl : shp 114 = 12) (by decide) rfl) rfl mfX12_143_X12_step hyVX12_step (by decide) (by decide) rfl (Nat.le_of_ble_eq_true rfl) hG dX12_ends_1 rfl (fun n3 => ?_)
  refine r_aload_n (pc := 4) 0 0 rfl rfl hG dX12_ends_4 ?_
  refine gf12_11 (pc := 5) lk1142 hG dX12_ends_5 ?_
  refine r_iconst (pc := 8) (v := 3) (by decide) hG dX12_ends_8 ?_
  refine r_icmp_ne (pc := 9) (tgt := 16) (by decide) hG dX12_ends_9 (fun h5 => ?_) (fun h5 => ?_)
  · refine r_iconst (pc := 16) (v := 0) (by decide) hG dX12_ends_16 ?_
    exact r_zret (pc := 17) rvN_b0 rfl hG dX12_ends_17
  · refine r_iconst (pc := 12) (v := 1) (by decide) hG dX12_ends_12 ?_
    refine r_goto (pc := 13) (tgt := 17) (by decide) hG dX12_ends_13 ?_
    exact r_zret (pc := 17) rvN_b1 rfl hG dX12_ends_17
set_option maxRecDepth 4000 in
theorem c_Mo_isDark (X : Cx) (N : Nat) (σ : St) (r : Int32) (hE : Mo_isDark N σ = some r) : Ctr X yX12_isDark cX12_isDark 1 (some .boolean) 2 [.ref (X.2.1 + 114)] σ (some (.int r)) σ := by
  refine Ctr.of (out := (oI σ)) (E := Mo_isDark N σ) rfl (Nat.le_of_ble_eq_true rfl) (fun G hG => ?_) r hE
  unfold Mo_isDark
  refine r_aload_n (pc := 0) 0 0 rfl rfl hG dX12_isDark_0 ?_
  refine gf12_11 (pc := 1) lk1142 hG dX12_isDark_1 ?_
  refine r_iconst (pc := 4) (v := 1) (by decide) hG dX12_isDark_4 ?_
  refine r_icmp_ne (pc := 5) (tgt := 83) (by decide) hG dX12_isDark_5 (fun h1 => ?_) (fun h1 => ?_)
  · refine r_iconst (pc := 83) (v := 0) (by decide) hG dX12_isDark_83 ?_
    exact r_zret (pc := 84) rvN_b0 rfl hG dX12_isDark_84
  · refine r_aload_n (pc := 8) 0 0 rfl rfl hG dX12_isDark_8 ?_
    refine gf12_9 (pc := 9) lk1140 hG dX12_isDark_9 ?_
    refine r_aload_n (pc := 12) 0 0 rfl rfl hG dX12_isDark_12 ?_
    refine gf12_10 (pc := 13) lk1141 hG dX12_isDark_13 ?_
    refine r_isub (pc := 16) hG dX12_isDark_16 ?_
    refine r_iconst (pc := 17) (v := 4) (by decide) hG dX12_isDark_17 ?_
    refine r_icmp_ne (pc := 18) (tgt := 83) (by decide) hG dX12_isDark_18 (fun h2 => ?_) (fun h2 => ?_)
    · refine r_iconst (pc := 83) (v := 0) (by decide) hG dX12_isDark_83 ?_
      exact r_zret (pc := 84) rvN_b0 rfl hG dX12_isDark_84
    · refine r_aload_n (pc := 21) 0 0 rfl rfl hG dX12_isDark_21 ?_
      refine r_aload_n (pc := 22) 0 0 rfl rfl hG dX12_isDark_22 ?_
      refine gf12_10 (pc := 23) lk1141 hG dX12_isDark_23 ?_
      refine r_bR hG (fun r3 e5 => ?_)
      refine r_callVi (pc := 26) (As := [.int (σ.1 114 10)]) (c_Mo_letter X N (σ.1 114 10) σ r3 e5) (wsOf_at (rfl : shp 114 = 12) (by decide) rfl) rfl mfX12_123_X12_letter hyVX12_letter (by decide) (by decide) rfl (Nat.le_of_ble_eq_true rfl) hG dX12_isDark_26 rfl (fun n4 => ?_)
      refine r_bipush (pc := 29) (v := 100) (by decide) hG dX12_isDark_29 ?_
      refine r_icmp_ne (pc := 31) (tgt := 83) (by decide) hG dX12_isDark_31 (fun h6 => ?_) (fun h6 => ?_)
      · refine r_iconst (pc := 83) (v := 0) (by decide) hG dX12_isDark_83 ?_
        exact r_zret (pc := 84) rvN_b0 rfl hG dX12_isDark_84
      · refine r_aload_n (pc := 34) 0 0 rfl rfl hG dX12_isDark_34 ?_
        refine r_aload_n (pc := 35) 0 0 rfl rfl hG dX12_isDark_35 ?_
        refine gf12_10 (pc := 36) lk1141 hG dX12_isDark_36 ?_
        refine r_iconst (pc := 39) (v := 1) (by decide) hG dX12_isDark_39 ?_
        refine r_iadd (pc := 40) hG dX12_isDark_40 ?_
        refine r_bR hG (fun r7 e9 => ?_)
        refine r_callVi (pc := 41) (As := [.int ((σ.1 114 10) + 1)]) (c_Mo_letter X N ((σ.1 114 10) + 1) σ r7 e9) (wsOf_at (rfl : shp 114 = 12) (by decide) rfl) rfl mfX12_123_X12_letter hyVX12_letter (by decide) (by decide) rfl (Nat.le_of_ble_eq_true rfl) hG dX12_isDark_41 rfl (fun n8 => ?_)
        refine r_bipush (pc := 44) (v := 97) (by decide) hG dX12_isDark_44 ?_
        refine r_icmp_ne (pc := 46) (tgt := 83) (by decide) hG dX12_isDark_46 (fun h10 => ?_) (fun h10 => ?_)
        · refine r_iconst (pc := 83) (v := 0) (by decide) hG dX12_isDark_83 ?_
          exact r_zret (pc := 84) rvN_b0 rfl hG dX12_isDark_84
        · refine r_aload_n (pc := 49) 0 0 rfl rfl hG dX12_isDark_49 ?_
          refine r_aload_n (pc := 50) 0 0 rfl rfl hG dX12_isDark_50 ?_
          refine gf12_10 (pc := 51) lk1141 hG dX12_isDark_51 ?_
          refine r_iconst (pc := 54) (v := 2) (by decide) hG dX12_isDark_54 ?_
          refine r_iadd (pc := 55) hG dX12_isDark_55 ?_
          refine r_bR hG (fun r11 e13 => ?_)
          refine r_callVi (pc := 56) (As := [.int ((σ.1 114 10) + 2)]) (c_Mo_letter X N ((σ.1 114 10) + 2) σ r11 e13) (wsOf_at (rfl : shp 114 = 12) (by decide) rfl) rfl mfX12_123_X12_letter hyVX12_letter (by decide) (by decide) rfl (Nat.le_of_ble_eq_true rfl) hG dX12_isDark_56 rfl (fun n12 => ?_)
          refine r_bipush (pc := 59) (v := 114) (by decide) hG dX12_isDark_59 ?_
          refine r_icmp_ne (pc := 61) (tgt := 83) (by decide) hG dX12_isDark_61 (fun h14 => ?_) (fun h14 => ?_)
          · refine r_iconst (pc := 83) (v := 0) (by decide) hG dX12_isDark_83 ?_
            exact r_zret (pc := 84) rvN_b0 rfl hG dX12_isDark_84
          · refine r_aload_n (pc := 64) 0 0 rfl rfl hG dX12_isDark_64 ?_
            refine r_aload_n (pc := 65) 0 0 rfl rfl hG dX12_isDark_65 ?_
            refine gf12_10 (pc := 66) lk1141 hG dX12_isDark_66 ?_
            refine r_iconst (pc := 69) (v := 3) (by decide) hG dX12_isDark_69 ?_
            refine r_iadd (pc := 70) hG dX12_isDark_70 ?_
            refine r_bR hG (fun r15 e17 => ?_)
            refine r_callVi (pc := 71) (As := [.int ((σ.1 114 10) + 3)]) (c_Mo_letter X N ((σ.1 114 10) + 3) σ r15 e17) (wsOf_at (rfl : shp 114 = 12) (by decide) rfl) rfl mfX12_123_X12_letter hyVX12_letter (by decide) (by decide) rfl (Nat.le_of_ble_eq_true rfl) hG dX12_isDark_71 rfl (fun n16 => ?_)
            refine r_bipush (pc := 74) (v := 107) (by decide) hG dX12_isDark_74 ?_
            refine r_icmp_ne (pc := 76) (tgt := 83) (by decide) hG dX12_isDark_76 (fun h18 => ?_) (fun h18 => ?_)
            · refine r_iconst (pc := 83) (v := 0) (by decide) hG dX12_isDark_83 ?_
              exact r_zret (pc := 84) rvN_b0 rfl hG dX12_isDark_84
            · refine r_iconst (pc := 79) (v := 1) (by decide) hG dX12_isDark_79 ?_
              refine r_goto (pc := 80) (tgt := 84) (by decide) hG dX12_isDark_80 ?_
              exact r_zret (pc := 84) rvN_b1 rfl hG dX12_isDark_84
set_option maxRecDepth 4000 in
theorem c_Mo_can (X : Cx) (N : Nat) (v1 : Int32) (v2 : Int32) (σ : St) (r : Int32) (hE : Mo_can N v1 v2 σ = some r) : Ctr X yX12_can cX12_can 3 (some .boolean) 4 [.ref (X.2.1 + 114), .int v1, .int v2] σ (some (.int r)) σ := by
  refine Ctr.of (out := (oI σ)) (E := Mo_can N v1 v2 σ) rfl (Nat.le_of_ble_eq_true rfl) (fun G hG => ?_) r hE
  unfold Mo_can
  refine r_aload_n (pc := 0) 0 0 rfl rfl hG dX12_can_0 ?_
  refine gf12_0 (pc := 1) lk1131 hG dX12_can_1 ?_
  refine r_bipush (pc := 4) (v := 60) (by decide) hG dX12_can_4 ?_
  refine r_iload_n (pc := 6) 1 1 rfl rfl hG dX12_can_6 ?_
  refine r_iadd (pc := 7) hG dX12_can_7 ?_
  refine r_ck hG (fun h1 => ?_)
  refine r_iald (pc := 8) (i := 115) (rfl : shp 115 = 14) rfl h1 hG dX12_can_8 ?_
  refine r_bipush (pc := 9) (v := 7) (by decide) hG dX12_can_9 ?_
  refine r_icmp_eq (pc := 11) (tgt := 35) (by decide) hG dX12_can_11 (fun h2 => ?_) (fun h2 => ?_)
  · refine r_iconst (pc := 35) (v := 0) (by decide) hG dX12_can_35 ?_
    exact r_zret (pc := 36) rvN_b0 rfl hG dX12_can_36
  · refine r_aload_n (pc := 14) 0 0 rfl rfl hG dX12_can_14 ?_
    refine r_aload_n (pc := 15) 0 0 rfl rfl hG dX12_can_15 ?_
    refine gf12_0 (pc := 16) lk1131 hG dX12_can_16 ?_
    refine r_bipush (pc := 19) (v := 60) (by decide) hG dX12_can_19 ?_
    refine r_iload_n (pc := 21) 1 1 rfl rfl hG dX12_can_21 ?_
    refine r_iadd (pc := 22) hG dX12_can_22 ?_
    refine r_ck hG (fun h3 => ?_)
    refine r_iald (pc := 23) (i := 115) (rfl : shp 115 = 14) rfl h3 hG dX12_can_23 ?_
    refine r_iload_n (pc := 24) 2 2 rfl rfl hG dX12_can_24 ?_
    refine r_bR hG (fun r4 e6 => ?_)
    refine r_callVi (pc := 25) (As := [.int (σ.1 115 ((60 + v1)).toNatClampNeg), .int v2]) (c_Mo_strokesOf X N (σ.1 115 ((60 + v1)).toNatClampNeg) v2 σ r4 e6) (wsOf_at (rfl : shp 114 = 12) (by decide) rfl) rfl mfX12_96_X12_strokesOf hyVX12_strokesOf (by decide) (by decide) rfl (Nat.le_of_ble_eq_true rfl) hG dX12_can_25 rfl (fun n5 => ?_)
    refine r_if_le (pc := 28) (tgt := 35) (by decide) hG dX12_can_28 (fun h7 => ?_) (fun h7 => ?_)
    · refine r_iconst (pc := 35) (v := 0) (by decide) hG dX12_can_35 ?_
      exact r_zret (pc := 36) rvN_b0 rfl hG dX12_can_36
    · refine r_iconst (pc := 31) (v := 1) (by decide) hG dX12_can_31 ?_
      refine r_goto (pc := 32) (tgt := 36) (by decide) hG dX12_can_32 ?_
      exact r_zret (pc := 36) rvN_b1 rfl hG dX12_can_36
set_option maxRecDepth 4000 in
theorem c_Mo_rowed (X : Cx) (N : Nat) (v1 : Int32) (v2 : Int32) (v3 : Int32) (σ : St) (σ1 : St) (hE : Mo_rowed N v1 v2 v3 σ = some σ1) : Ctr X yX12_rowed cX12_rowed 5 none 4 [.ref (X.2.1 + 114), .int v1, .int v2, .int v3] σ none σ1 := by
  refine Ctr.of (out := oWV) (E := Mo_rowed N v1 v2 v3 σ) rfl (Nat.le_of_ble_eq_true rfl) (fun G hG => ?_) σ1 hE
  unfold Mo_rowed
  refine r_aload_n (pc := 0) 0 0 rfl rfl hG dX12_rowed_0 ?_
  refine gf12_0 (pc := 1) lk1131 hG dX12_rowed_1 ?_
  refine r_bipush (pc := 4) (v := 64) (by decide) hG dX12_rowed_4 ?_
  refine r_iload_n (pc := 6) 1 1 rfl rfl hG dX12_rowed_6 ?_
  refine r_iadd (pc := 7) hG dX12_rowed_7 ?_
  refine r_sipush (pc := 8) (v := 999) (by decide) hG dX12_rowed_8 ?_
  refine r_aload_n (pc := 11) 0 0 rfl rfl hG dX12_rowed_11 ?_
  refine gf12_0 (pc := 12) lk1131 hG dX12_rowed_12 ?_
  refine r_bipush (pc := 15) (v := 64) (by decide) hG dX12_rowed_15 ?_
  refine r_iload_n (pc := 17) 1 1 rfl rfl hG dX12_rowed_17 ?_
  refine r_iadd (pc := 18) hG dX12_rowed_18 ?_
  refine r_ck hG (fun h1 => ?_)
  refine r_iald (pc := 19) (i := 115) (rfl : shp 115 = 14) rfl h1 hG dX12_rowed_19 ?_
  refine r_aload_n (pc := 20) 0 0 rfl rfl hG dX12_rowed_20 ?_
  refine r_aload_n (pc := 21) 0 0 rfl rfl hG dX12_rowed_21 ?_
  refine gf12_0 (pc := 22) lk1131 hG dX12_rowed_22 ?_
  refine r_bipush (pc := 25) (v := 60) (by decide) hG dX12_rowed_25 ?_
  refine r_iload_n (pc := 27) 1 1 rfl rfl hG dX12_rowed_27 ?_
  refine r_iadd (pc := 28) hG dX12_rowed_28 ?_
  refine r_ck hG (fun h2 => ?_)
  refine r_iald (pc := 29) (i := 115) (rfl : shp 115 = 14) rfl h2 hG dX12_rowed_29 ?_
  refine r_iload_n (pc := 30) 3 3 rfl rfl hG dX12_rowed_30 ?_
  refine r_bR hG (fun r3 e5 => ?_)
  refine r_callVi (pc := 31) (As := [.int (σ.1 115 ((60 + v1)).toNatClampNeg), .int v3]) (c_Mo_strokesOf X N (σ.1 115 ((60 + v1)).toNatClampNeg) v3 σ r3 e5) (wsOf_at (rfl : shp 114 = 12) (by decide) rfl) rfl mfX12_96_X12_strokesOf hyVX12_strokesOf (by decide) (by decide) rfl (Nat.le_of_ble_eq_true rfl) hG dX12_rowed_31 rfl (fun n4 => ?_)
  refine r_iadd (pc := 34) hG dX12_rowed_34 ?_
  refine r_callSi (pc := 35) (As := [.int 999, .int ((σ.1 115 ((64 + v1)).toNatClampNeg) + r3)]) (c_Mo_less X 999 ((σ.1 115 ((64 + v1)).toNatClampNeg) + r3) σ) mfX12_75_X12_less hySX12_less (by decide) (by decide) rfl (Nat.le_of_ble_eq_true rfl) hG dX12_rowed_35 rfl (fun n7 => ?_)
  refine r_ck hG (fun h9 => ?_)
  refine r_iast (pc := 38) (i := 115) (rfl : shp 115 = 14) rfl h9 hG dX12_rowed_38 ?_
  refine r_bS hG (fun s10 => ?_)
  refine r_aload_n (pc := 39) 0 0 rfl rfl hG dX12_rowed_39 ?_
  refine gf12_0 (pc := 40) lk1131 hG dX12_rowed_40 ?_
  refine r_bipush (pc := 43) (v := 60) (by decide) hG dX12_rowed_43 ?_
  refine r_iload_n (pc := 45) 1 1 rfl rfl hG dX12_rowed_45 ?_
  refine r_iadd (pc := 46) hG dX12_rowed_46 ?_
  refine r_iload_n (pc := 47) 3 3 rfl rfl hG dX12_rowed_47 ?_
  refine r_ck hG (fun h11 => ?_)
  refine r_iast (pc := 48) (i := 115) (rfl : shp 115 = 14) rfl h11 hG dX12_rowed_48 ?_
  refine r_bS hG (fun s12 => ?_)
  refine r_aload_n (pc := 49) 0 0 rfl rfl hG dX12_rowed_49 ?_
  refine gf12_0 (pc := 50) lk1131 hG dX12_rowed_50 ?_
  refine r_bipush (pc := 53) (v := 38) (by decide) hG dX12_rowed_53 ?_
  refine r_iload_n (pc := 55) 2 2 rfl rfl hG dX12_rowed_55 ?_
  refine r_iadd (pc := 56) hG dX12_rowed_56 ?_
  refine r_ck hG (fun h13 => ?_)
  refine r_iald (pc := 57) (i := 115) (rfl : shp 115 = 14) rfl h13 hG dX12_rowed_57 ?_
  refine r_aload_n (pc := 58) 0 0 rfl rfl hG dX12_rowed_58 ?_
  refine gf12_0 (pc := 59) lk1131 hG dX12_rowed_59 ?_
  refine r_bipush (pc := 62) (v := 41) (by decide) hG dX12_rowed_62 ?_
  refine r_iload_n (pc := 64) 2 2 rfl rfl hG dX12_rowed_64 ?_
  refine r_iadd (pc := 65) hG dX12_rowed_65 ?_
  refine r_ck hG (fun h14 => ?_)
  refine r_iald (pc := 66) (i := 115) (rfl : shp 115 = 14) rfl h14 hG dX12_rowed_66 ?_
  refine r_aload_n (pc := 67) 0 0 rfl rfl hG dX12_rowed_67 ?_
  refine gf12_0 (pc := 68) lk1131 hG dX12_rowed_68 ?_
  refine r_iconst (pc := 71) (v := 0) (by decide) hG dX12_rowed_71 ?_
  refine r_iload_n (pc := 72) 3 3 rfl rfl hG dX12_rowed_72 ?_
  refine r_iadd (pc := 73) hG dX12_rowed_73 ?_
  refine r_ck hG (fun h15 => ?_)
  refine r_iald (pc := 74) (i := 115) (rfl : shp 115 = 14) rfl h15 hG dX12_rowed_74 ?_
  refine r_aload_n (pc := 75) 0 0 rfl rfl hG dX12_rowed_75 ?_
  refine gf12_0 (pc := 76) lk1131 hG dX12_rowed_76 ?_
  refine r_bipush (pc := 79) (v := 64) (by decide) hG dX12_rowed_79 ?_
  refine r_iload_n (pc := 81) 1 1 rfl rfl hG dX12_rowed_81 ?_
  refine r_iadd (pc := 82) hG dX12_rowed_82 ?_
  refine r_ck hG (fun h16 => ?_)
  refine r_iald (pc := 83) (i := 115) (rfl : shp 115 = 14) rfl h16 hG dX12_rowed_83 ?_
  refine r_callSi (pc := 84) (As := [.int (s12.1 115 ((38 + v2)).toNatClampNeg), .int (s12.1 115 ((41 + v2)).toNatClampNeg), .int (s12.1 115 ((0 + v3)).toNatClampNeg), .int (s12.1 115 ((64 + v1)).toNatClampNeg)]) (c_Mo_tells X (s12.1 115 ((38 + v2)).toNatClampNeg) (s12.1 115 ((41 + v2)).toNatClampNeg) (s12.1 115 ((0 + v3)).toNatClampNeg) (s12.1 115 ((64 + v1)).toNatClampNeg) s12) mfX12_182_X12_tells hySX12_tells (by decide) (by decide) rfl (Nat.le_of_ble_eq_true rfl) hG dX12_rowed_84 rfl (fun n18 => ?_)
  refine r_aload_n (pc := 87) 0 0 rfl rfl hG dX12_rowed_87 ?_
  refine gf12_0 (pc := 88) lk1131 hG dX12_rowed_88 ?_
  refine r_bipush (pc := 91) (v := 48) (by decide) hG dX12_rowed_91 ?_
  refine r_iload_n (pc := 93) 1 1 rfl rfl hG dX12_rowed_93 ?_
  refine r_iadd (pc := 94) hG dX12_rowed_94 ?_
  refine r_ck hG (fun h20 => ?_)
  refine r_iald (pc := 95) (i := 115) (rfl : shp 115 = 14) rfl h20 hG dX12_rowed_95 ?_
  refine r_aload_n (pc := 96) 0 0 rfl rfl hG dX12_rowed_96 ?_
  refine gf12_0 (pc := 97) lk1131 hG dX12_rowed_97 ?_
  refine r_bipush (pc := 100) (v := 52) (by decide) hG dX12_rowed_100 ?_
  refine r_iload_n (pc := 102) 1 1 rfl rfl hG dX12_rowed_102 ?_
  refine r_iadd (pc := 103) hG dX12_rowed_103 ?_
  refine r_ck hG (fun h21 => ?_)
  refine r_iald (pc := 104) (i := 115) (rfl : shp 115 = 14) rfl h21 hG dX12_rowed_104 ?_
  refine r_isub (pc := 105) hG dX12_rowed_105 ?_
  refine r_callSi (pc := 106) (As := [.int (Mo_tells (s12.1 115 ((38 + v2)).toNatClampNeg) (s12.1 115 ((41 + v2)).toNatClampNeg) (s12.1 115 ((0 + v3)).toNatClampNeg) (s12.1 115 ((64 + v1)).toNatClampNeg)), .int ((s12.1 115 ((48 + v1)).toNatClampNeg) - (s12.1 115 ((52 + v1)).toNatClampNeg))]) (c_Mo_less X (Mo_tells (s12.1 115 ((38 + v2)).toNatClampNeg) (s12.1 115 ((41 + v2)).toNatClampNeg) (s12.1 115 ((0 + v3)).toNatClampNeg) (s12.1 115 ((64 + v1)).toNatClampNeg)) ((s12.1 115 ((48 + v1)).toNatClampNeg) - (s12.1 115 ((52 + v1)).toNatClampNeg)) s12) mfX12_75_X12_less hySX12_less (by decide) (by decide) rfl (Nat.le_of_ble_eq_true rfl) hG dX12_rowed_106 rfl (fun n23 => ?_)
  refine r_bI hG (fun x25 => ?_)
  refine r_istore (pc := 109) (lv' := [(4, .int x25), (0, .ref (X.2.1 + 114)), (1, .int v1), (2, .int v2), (3, .int v3)]) (by decide) rfl hG dX12_rowed_109 ?_
  refine r_aload_n (pc := 111) 1 0 rfl rfl hG dX12_rowed_111 ?_
  refine gf12_0 (pc := 112) lk1131 hG dX12_rowed_112 ?_
  refine r_bipush (pc := 115) (v := 56) (by decide) hG dX12_rowed_115 ?_
  refine r_iload_n (pc := 117) 2 1 rfl rfl hG dX12_rowed_117 ?_
  refine r_iadd (pc := 118) hG dX12_rowed_118 ?_
  refine r_sipush (pc := 119) (v := 999) (by decide) hG dX12_rowed_119 ?_
  refine r_aload_n (pc := 122) 1 0 rfl rfl hG dX12_rowed_122 ?_
  refine gf12_0 (pc := 123) lk1131 hG dX12_rowed_123 ?_
  refine r_bipush (pc := 126) (v := 56) (by decide) hG dX12_rowed_126 ?_
  refine r_iload_n (pc := 128) 2 1 rfl rfl hG dX12_rowed_128 ?_
  refine r_iadd (pc := 129) hG dX12_rowed_129 ?_
  refine r_ck hG (fun h26 => ?_)
  refine r_iald (pc := 130) (i := 115) (rfl : shp 115 = 14) rfl h26 hG dX12_rowed_130 ?_
  refine r_aload_n (pc := 131) 1 0 rfl rfl hG dX12_rowed_131 ?_
  refine gf12_0 (pc := 132) lk1131 hG dX12_rowed_132 ?_
  refine r_bipush (pc := 135) (v := 44) (by decide) hG dX12_rowed_135 ?_
  refine r_iload_n (pc := 137) 2 1 rfl rfl hG dX12_rowed_137 ?_
  refine r_iadd (pc := 138) hG dX12_rowed_138 ?_
  refine r_ck hG (fun h27 => ?_)
  refine r_iald (pc := 139) (i := 115) (rfl : shp 115 = 14) rfl h27 hG dX12_rowed_139 ?_
  refine r_aload_n (pc := 140) 1 0 rfl rfl hG dX12_rowed_140 ?_
  refine gf12_0 (pc := 141) lk1131 hG dX12_rowed_141 ?_
  refine r_bipush (pc := 144) (v := 48) (by decide) hG dX12_rowed_144 ?_
  refine r_iload_n (pc := 146) 2 1 rfl rfl hG dX12_rowed_146 ?_
  refine r_iadd (pc := 147) hG dX12_rowed_147 ?_
  refine r_ck hG (fun h28 => ?_)
  refine r_iald (pc := 148) (i := 115) (rfl : shp 115 = 14) rfl h28 hG dX12_rowed_148 ?_
  refine r_aload_n (pc := 149) 1 0 rfl rfl hG dX12_rowed_149 ?_
  refine gf12_0 (pc := 150) lk1131 hG dX12_rowed_150 ?_
  refine r_bipush (pc := 153) (v := 52) (by decide) hG dX12_rowed_153 ?_
  refine r_iload_n (pc := 155) 2 1 rfl rfl hG dX12_rowed_155 ?_
  refine r_iadd (pc := 156) hG dX12_rowed_156 ?_
  refine r_ck hG (fun h29 => ?_)
  refine r_iald (pc := 157) (i := 115) (rfl : shp 115 = 14) rfl h29 hG dX12_rowed_157 ?_
  refine r_iload (pc := 158) 0 rfl hG dX12_rowed_158 ?_
  refine r_aload_n (pc := 160) 1 0 rfl rfl hG dX12_rowed_160 ?_
  refine gf12_0 (pc := 161) lk1131 hG dX12_rowed_161 ?_
  refine r_iconst (pc := 164) (v := 0) (by decide) hG dX12_rowed_164 ?_
  refine r_iload_n (pc := 165) 4 3 rfl rfl hG dX12_rowed_165 ?_
  refine r_iadd (pc := 166) hG dX12_rowed_166 ?_
  refine r_ck hG (fun h30 => ?_)
  refine r_iald (pc := 167) (i := 115) (rfl : shp 115 = 14) rfl h30 hG dX12_rowed_167 ?_
  refine r_callSi (pc := 168) (As := [.int (s12.1 115 ((44 + v1)).toNatClampNeg), .int (s12.1 115 ((48 + v1)).toNatClampNeg), .int (s12.1 115 ((52 + v1)).toNatClampNeg), .int x25, .int (s12.1 115 ((0 + v3)).toNatClampNeg)]) (c_Mo_hurts X (s12.1 115 ((44 + v1)).toNatClampNeg) (s12.1 115 ((48 + v1)).toNatClampNeg) (s12.1 115 ((52 + v1)).toNatClampNeg) x25 (s12.1 115 ((0 + v3)).toNatClampNeg) s12) mfX12_186_X12_hurts hySX12_hurts (by decide) (by decide) rfl (Nat.le_of_ble_eq_true rfl) hG dX12_rowed_168 rfl (fun n32 => ?_)
  refine r_iadd (pc := 171) hG dX12_rowed_171 ?_
  refine r_callSi (pc := 172) (As := [.int 999, .int ((s12.1 115 ((56 + v1)).toNatClampNeg) + (Mo_hurts (s12.1 115 ((44 + v1)).toNatClampNeg) (s12.1 115 ((48 + v1)).toNatClampNeg) (s12.1 115 ((52 + v1)).toNatClampNeg) x25 (s12.1 115 ((0 + v3)).toNatClampNeg)))]) (c_Mo_less X 999 ((s12.1 115 ((56 + v1)).toNatClampNeg) + (Mo_hurts (s12.1 115 ((44 + v1)).toNatClampNeg) (s12.1 115 ((48 + v1)).toNatClampNeg) (s12.1 115 ((52 + v1)).toNatClampNeg) x25 (s12.1 115 ((0 + v3)).toNatClampNeg))) s12) mfX12_75_X12_less hySX12_less (by decide) (by decide) rfl (Nat.le_of_ble_eq_true rfl) hG dX12_rowed_172 rfl (fun n35 => ?_)
  refine r_ck hG (fun h37 => ?_)
  refine r_iast (pc := 175) (i := 115) (rfl : shp 115 = 14) rfl h37 hG dX12_rowed_175 ?_
  refine r_bS hG (fun s38 => ?_)
  refine r_aload_n (pc := 176) 1 0 rfl rfl hG dX12_rowed_176 ?_
  refine gf12_0 (pc := 177) lk1131 hG dX12_rowed_177 ?_
  refine r_bipush (pc := 180) (v := 52) (by decide) hG dX12_rowed_180 ?_
  refine r_iload_n (pc := 182) 2 1 rfl rfl hG dX12_rowed_182 ?_
  refine r_iadd (pc := 183) hG dX12_rowed_183 ?_
  refine r_dup2 (pc := 184) rfl rfl hG dX12_rowed_184 ?_
  refine r_ck hG (fun h39 => ?_)
  refine r_iald (pc := 185) (i := 115) (rfl : shp 115 = 14) rfl h39 hG dX12_rowed_185 ?_
  refine r_iload (pc := 186) 0 rfl hG dX12_rowed_186 ?_
  refine r_iadd (pc := 188) hG dX12_rowed_188 ?_
  refine r_ck hG (fun h40 => ?_)
  refine r_iast (pc := 189) (i := 115) (rfl : shp 115 = 14) rfl h40 hG dX12_rowed_189 ?_
  refine r_bS hG (fun s41 => ?_)
  exact r_vret (pc := 190) rfl hG dX12_rowed_190
set_option maxRecDepth 4000 in
theorem w_Mo_readsItem_J313 {X : Cx} {G : GT (Int32 × St)} (N : Nat) (hG : IsG X RX12 cX12_readsItem 1 5 (some .boolean) oWI G) (σ : St) : G (Mo_readsItem_J313 N σ) σ 313 [(0, .ref (X.2.1 + 114))] [] := by
  unfold Mo_readsItem_J313
  refine r_aload_n (pc := 313) 0 0 rfl rfl hG dX12_readsItem_313 ?_
  refine r_bipush (pc := 314) (v := 114) (by decide) hG dX12_readsItem_314 ?_
  refine r_bipush (pc := 316) (v := 111) (by decide) hG dX12_readsItem_316 ?_
  refine r_bipush (pc := 318) (v := 119) (by decide) hG dX12_readsItem_318 ?_
  refine r_iconst (pc := 320) (v := 0) (by decide) hG dX12_readsItem_320 ?_
  refine r_iconst (pc := 321) (v := 0) (by decide) hG dX12_readsItem_321 ?_
  refine r_bR hG (fun r17 e19 => ?_)
  refine r_callVi (pc := 322) (As := [.int 114, .int 111, .int 119, .int 0, .int 0]) (c_Mo_isWord X N 114 111 119 0 0 σ r17 e19) (wsOf_at (rfl : shp 114 = 12) (by decide) rfl) rfl mfX12_157_X12_isWord hyVX12_isWord (by decide) (by decide) rfl (Nat.le_of_ble_eq_true rfl) hG dX12_readsItem_322 rfl (fun n18 => ?_)
  refine r_if_eq (pc := 325) (tgt := 401) (by decide) hG dX12_readsItem_325 (fun h20 => ?_) (fun h20 => ?_)
  · refine r_iconst (pc := 401) (v := 0) (by decide) hG dX12_readsItem_401 ?_
    exact r_zret (pc := 402) rvN_b0 rfl hG dX12_readsItem_402
  · refine r_aload_n (pc := 328) 0 0 rfl rfl hG dX12_readsItem_328 ?_
    refine r_iconst (pc := 329) (v := 0) (by decide) hG dX12_readsItem_329 ?_
    refine r_iconst (pc := 330) (v := 0) (by decide) hG dX12_readsItem_330 ?_
    refine r_aload_n (pc := 331) 0 0 rfl rfl hG dX12_readsItem_331 ?_
    refine gf12_0 (pc := 332) lk1131 hG dX12_readsItem_332 ?_
    refine r_bipush (pc := 335) (v := 37) (by decide) hG dX12_readsItem_335 ?_
    refine r_iald (pc := 337) (i := 115) (rfl : shp 115 = 14) rfl (by decide) hG dX12_readsItem_337 ?_
    refine r_iconst (pc := 338) (v := 1) (by decide) hG dX12_readsItem_338 ?_
    refine r_isub (pc := 339) hG dX12_readsItem_339 ?_
    refine r_bW hG (fun r21 s22 e24 => ?_)
    refine r_callVi (pc := 340) (As := [.int 0, .int 0, .int ((σ.1 115 (37 : Int32).toNatClampNeg) - 1)]) (c_Mo_number X N 0 0 ((σ.1 115 (37 : Int32).toNatClampNeg) - 1) σ r21 s22 e24) (wsOf_at (rfl : shp 114 = 12) (by decide) rfl) rfl mfX12_150_X12_number hyVX12_number (by decide) (by decide) rfl (Nat.le_of_ble_eq_true rfl) hG dX12_readsItem_340 rfl (fun n23 => ?_)
    refine r_if_eq (pc := 343) (tgt := 401) (by decide) hG dX12_readsItem_343 (fun h25 => ?_) (fun h25 => ?_)
    · refine r_iconst (pc := 401) (v := 0) (by decide) hG dX12_readsItem_401 ?_
      exact r_zret (pc := 402) rvN_b0 rfl hG dX12_readsItem_402
    · refine r_aload_n (pc := 346) 0 0 rfl rfl hG dX12_readsItem_346 ?_
      refine r_iconst (pc := 347) (v := 1) (by decide) hG dX12_readsItem_347 ?_
      refine r_iconst (pc := 348) (v := 0) (by decide) hG dX12_readsItem_348 ?_
      refine r_aload_n (pc := 349) 0 0 rfl rfl hG dX12_readsItem_349 ?_
      refine gf12_0 (pc := 350) lk1131 hG dX12_readsItem_350 ?_
      refine r_bipush (pc := 353) (v := 36) (by decide) hG dX12_readsItem_353 ?_
      refine r_iald (pc := 355) (i := 115) (rfl : shp 115 = 14) rfl (by decide) hG dX12_readsItem_355 ?_
      refine r_iconst (pc := 356) (v := 1) (by decide) hG dX12_readsItem_356 ?_
      refine r_isub (pc := 357) hG dX12_readsItem_357 ?_
      refine r_bW hG (fun r26 s27 e29 => ?_)
      refine r_callVi (pc := 358) (As := [.int 1, .int 0, .int ((s22.1 115 (36 : Int32).toNatClampNeg) - 1)]) (c_Mo_number X N 1 0 ((s22.1 115 (36 : Int32).toNatClampNeg) - 1) s22 r26 s27 e29) (wsOf_at (rfl : shp 114 = 12) (by decide) rfl) rfl mfX12_150_X12_number hyVX12_number (by decide) (by decide) rfl (Nat.le_of_ble_eq_true rfl) hG dX12_readsItem_358 rfl (fun n28 => ?_)
      refine r_if_eq (pc := 361) (tgt := 401) (by decide) hG dX12_readsItem_361 (fun h30 => ?_) (fun h30 => ?_)
      · refine r_iconst (pc := 401) (v := 0) (by decide) hG dX12_readsItem_401 ?_
        exact r_zret (pc := 402) rvN_b0 rfl hG dX12_readsItem_402
      · refine r_aload_n (pc := 364) 0 0 rfl rfl hG dX12_readsItem_364 ?_
        refine r_iconst (pc := 365) (v := 2) (by decide) hG dX12_readsItem_365 ?_
        refine r_iconst (pc := 366) (v := 0) (by decide) hG dX12_readsItem_366 ?_
        refine r_bipush (pc := 367) (v := 7) (by decide) hG dX12_readsItem_367 ?_
        refine r_bW hG (fun r31 s32 e34 => ?_)
        refine r_callVi (pc := 369) (As := [.int 2, .int 0, .int 7]) (c_Mo_number X N 2 0 7 s27 r31 s32 e34) (wsOf_at (rfl : shp 114 = 12) (by decide) rfl) rfl mfX12_150_X12_number hyVX12_number (by decide) (by decide) rfl (Nat.le_of_ble_eq_true rfl) hG dX12_readsItem_369 rfl (fun n33 => ?_)
        refine r_if_eq (pc := 372) (tgt := 401) (by decide) hG dX12_readsItem_372 (fun h35 => ?_) (fun h35 => ?_)
        · refine r_iconst (pc := 401) (v := 0) (by decide) hG dX12_readsItem_401 ?_
          exact r_zret (pc := 402) rvN_b0 rfl hG dX12_readsItem_402
        · refine r_aload_n (pc := 375) 0 0 rfl rfl hG dX12_readsItem_375 ?_
          refine r_aload_n (pc := 376) 0 0 rfl rfl hG dX12_readsItem_376 ?_
          refine gf12_13 (pc := 377) lk1144 hG dX12_readsItem_377 ?_
          refine r_iconst (pc := 380) (v := 0) (by decide) hG dX12_readsItem_380 ?_
          refine r_iald (pc := 381) (i := 121) (rfl : shp 121 = 14) rfl (by decide) hG dX12_readsItem_381 ?_
          refine r_aload_n (pc := 382) 0 0 rfl rfl hG dX12_readsItem_382 ?_
          refine gf12_13 (pc := 383) lk1144 hG dX12_readsItem_383 ?_
          refine r_iconst (pc := 386) (v := 2) (by decide) hG dX12_readsItem_386 ?_
          refine r_iald (pc := 387) (i := 121) (rfl : shp 121 = 14) rfl (by decide) hG dX12_readsItem_387 ?_
          refine r_bR hG (fun r36 e38 => ?_)
          refine r_callVi (pc := 388) (As := [.int (s32.1 121 (0 : Int32).toNatClampNeg), .int (s32.1 121 (2 : Int32).toNatClampNeg)]) (c_Mo_can X N (s32.1 121 (0 : Int32).toNatClampNeg) (s32.1 121 (2 : Int32).toNatClampNeg) s32 r36 e38) (wsOf_at (rfl : shp 114 = 12) (by decide) rfl) rfl mfX12_161_X12_can hyVX12_can (by decide) (by decide) rfl (Nat.le_of_ble_eq_true rfl) hG dX12_readsItem_388 rfl (fun n37 => ?_)
          refine r_if_eq (pc := 391) (tgt := 401) (by decide) hG dX12_readsItem_391 (fun h39 => ?_) (fun h39 => ?_)
          · refine r_iconst (pc := 401) (v := 0) (by decide) hG dX12_readsItem_401 ?_
            exact r_zret (pc := 402) rvN_b0 rfl hG dX12_readsItem_402
          · refine r_aload_n (pc := 394) 0 0 rfl rfl hG dX12_readsItem_394 ?_
            refine r_bW hG (fun r40 s41 e43 => ?_)
            refine r_callVi (pc := 395) (As := []) (c_Mo_ends X N s32 r40 s41 e43) (wsOf_at (rfl : shp 114 = 12) (by decide) rfl) rfl mfX12_154_X12_ends hyVX12_ends (by decide) (by decide) rfl (Nat.le_of_ble_eq_true rfl) hG dX12_readsItem_395 rfl (fun n42 => ?_)
            refine r_if_ne (pc := 398) (tgt := 403) (by decide) hG dX12_readsItem_398 (fun h44 => ?_) (fun h44 => ?_)
            · refine r_aload_n (pc := 403) 0 0 rfl rfl hG dX12_readsItem_403 ?_
              refine r_aload_n (pc := 404) 0 0 rfl rfl hG dX12_readsItem_404 ?_
              refine gf12_13 (pc := 405) lk1144 hG dX12_readsItem_405 ?_
              refine r_iconst (pc := 408) (v := 0) (by decide) hG dX12_readsItem_408 ?_
              refine r_iald (pc := 409) (i := 121) (rfl : shp 121 = 14) rfl (by decide) hG dX12_readsItem_409 ?_
              refine r_aload_n (pc := 410) 0 0 rfl rfl hG dX12_readsItem_410 ?_
              refine gf12_13 (pc := 411) lk1144 hG dX12_readsItem_411 ?_
              refine r_iconst (pc := 414) (v := 1) (by decide) hG dX12_readsItem_414 ?_
              refine r_iald (pc := 415) (i := 121) (rfl : shp 121 = 14) rfl (by decide) hG dX12_readsItem_415 ?_
              refine r_aload_n (pc := 416) 0 0 rfl rfl hG dX12_readsItem_416 ?_
              refine gf12_13 (pc := 417) lk1144 hG dX12_readsItem_417 ?_
              refine r_iconst (pc := 420) (v := 2) (by decide) hG dX12_readsItem_420 ?_
              refine r_iald (pc := 421) (i := 121) (rfl : shp 121 = 14) rfl (by decide) hG dX12_readsItem_421 ?_
              refine r_bR hG (fun s46 e48 => ?_)
              refine r_callVv (pc := 422) (As := [.int (s41.1 121 (0 : Int32).toNatClampNeg), .int (s41.1 121 (1 : Int32).toNatClampNeg), .int (s41.1 121 (2 : Int32).toNatClampNeg)]) (c_Mo_rowed X N (s41.1 121 (0 : Int32).toNatClampNeg) (s41.1 121 (1 : Int32).toNatClampNeg) (s41.1 121 (2 : Int32).toNatClampNeg) s41 s46 e48) (wsOf_at (rfl : shp 114 = 12) (by decide) rfl) rfl mfX12_165_X12_rowed hyVX12_rowed (by decide) (by decide) rfl (Nat.le_of_ble_eq_true rfl) hG dX12_readsItem_422 rfl (fun n47 => ?_)
              refine r_iconst (pc := 425) (v := 1) (by decide) hG dX12_readsItem_425 ?_
              exact r_zret (pc := 426) rvN_b1 rfl hG dX12_readsItem_426
            · refine r_iconst (pc := 401) (v := 0) (by decide) hG dX12_readsItem_401 ?_
              exact r_zret (pc := 402) rvN_b0 rfl hG dX12_readsItem_402
set_option maxRecDepth 4000 in
theorem w_Mo_readsItem_J237 {X : Cx} {G : GT (Int32 × St)} (N : Nat) (hG : IsG X RX12 cX12_readsItem 1 5 (some .boolean) oWI G) (σ : St) : G (Mo_readsItem_J237 N σ) σ 237 [(0, .ref (X.2.1 + 114))] [] := by
  unfold Mo_readsItem_J237
  refine r_aload_n (pc := 237) 0 0 rfl rfl hG dX12_readsItem_237 ?_
  refine r_bipush (pc := 238) (v := 103) (by decide) hG dX12_readsItem_238 ?_
  refine r_bipush (pc := 240) (v := 117) (by decide) hG dX12_readsItem_240 ?_
  refine r_bipush (pc := 242) (v := 101) (by decide) hG dX12_readsItem_242 ?_
  refine r_bipush (pc := 244) (v := 115) (by decide) hG dX12_readsItem_244 ?_
  refine r_bipush (pc := 246) (v := 116) (by decide) hG dX12_readsItem_246 ?_
  refine r_bR hG (fun r13 e15 => ?_)
  refine r_callVi (pc := 248) (As := [.int 103, .int 117, .int 101, .int 115, .int 116]) (c_Mo_isWord X N 103 117 101 115 116 σ r13 e15) (wsOf_at (rfl : shp 114 = 12) (by decide) rfl) rfl mfX12_157_X12_isWord hyVX12_isWord (by decide) (by decide) rfl (Nat.le_of_ble_eq_true rfl) hG dX12_readsItem_248 rfl (fun n14 => ?_)
  refine r_if_eq (pc := 251) (tgt := 313) (by decide) hG dX12_readsItem_251 (fun h16 => ?_) (fun h16 => ?_)
  · exact w_Mo_readsItem_J313 N hG σ
  · refine r_aload_n (pc := 254) 0 0 rfl rfl hG dX12_readsItem_254 ?_
    refine gf12_0 (pc := 255) lk1131 hG dX12_readsItem_255 ?_
    refine r_bipush (pc := 258) (v := 37) (by decide) hG dX12_readsItem_258 ?_
    refine r_iald (pc := 260) (i := 115) (rfl : shp 115 = 14) rfl (by decide) hG dX12_readsItem_260 ?_
    refine r_iconst (pc := 261) (v := 4) (by decide) hG dX12_readsItem_261 ?_
    refine r_icmp_ge (pc := 262) (tgt := 313) (by decide) hG dX12_readsItem_262 (fun h49 => ?_) (fun h49 => ?_)
    · exact w_Mo_readsItem_J313 N hG σ
    · refine r_aload_n (pc := 265) 0 0 rfl rfl hG dX12_readsItem_265 ?_
      refine r_iconst (pc := 266) (v := 0) (by decide) hG dX12_readsItem_266 ?_
      refine r_iconst (pc := 267) (v := 0) (by decide) hG dX12_readsItem_267 ?_
      refine r_iconst (pc := 268) (v := 5) (by decide) hG dX12_readsItem_268 ?_
      refine r_bW hG (fun r50 s51 e53 => ?_)
      refine r_callVi (pc := 269) (As := [.int 0, .int 0, .int 5]) (c_Mo_number X N 0 0 5 σ r50 s51 e53) (wsOf_at (rfl : shp 114 = 12) (by decide) rfl) rfl mfX12_150_X12_number hyVX12_number (by decide) (by decide) rfl (Nat.le_of_ble_eq_true rfl) hG dX12_readsItem_269 rfl (fun n52 => ?_)
      refine r_if_eq (pc := 272) (tgt := 293) (by decide) hG dX12_readsItem_272 (fun h54 => ?_) (fun h54 => ?_)
      · refine r_iconst (pc := 293) (v := 0) (by decide) hG dX12_readsItem_293 ?_
        exact r_zret (pc := 294) rvN_b0 rfl hG dX12_readsItem_294
      · refine r_aload_n (pc := 275) 0 0 rfl rfl hG dX12_readsItem_275 ?_
        refine r_iconst (pc := 276) (v := 1) (by decide) hG dX12_readsItem_276 ?_
        refine r_iconst (pc := 277) (v := 1) (by decide) hG dX12_readsItem_277 ?_
        refine r_bipush (pc := 278) (v := 40) (by decide) hG dX12_readsItem_278 ?_
        refine r_bW hG (fun r55 s56 e58 => ?_)
        refine r_callVi (pc := 280) (As := [.int 1, .int 1, .int 40]) (c_Mo_number X N 1 1 40 s51 r55 s56 e58) (wsOf_at (rfl : shp 114 = 12) (by decide) rfl) rfl mfX12_150_X12_number hyVX12_number (by decide) (by decide) rfl (Nat.le_of_ble_eq_true rfl) hG dX12_readsItem_280 rfl (fun n57 => ?_)
        refine r_if_eq (pc := 283) (tgt := 293) (by decide) hG dX12_readsItem_283 (fun h59 => ?_) (fun h59 => ?_)
        · refine r_iconst (pc := 293) (v := 0) (by decide) hG dX12_readsItem_293 ?_
          exact r_zret (pc := 294) rvN_b0 rfl hG dX12_readsItem_294
        · refine r_aload_n (pc := 286) 0 0 rfl rfl hG dX12_readsItem_286 ?_
          refine r_bW hG (fun r60 s61 e63 => ?_)
          refine r_callVi (pc := 287) (As := []) (c_Mo_ends X N s56 r60 s61 e63) (wsOf_at (rfl : shp 114 = 12) (by decide) rfl) rfl mfX12_154_X12_ends hyVX12_ends (by decide) (by decide) rfl (Nat.le_of_ble_eq_true rfl) hG dX12_readsItem_287 rfl (fun n62 => ?_)
          refine r_if_ne (pc := 290) (tgt := 295) (by decide) hG dX12_readsItem_290 (fun h64 => ?_) (fun h64 => ?_)
          · refine r_aload_n (pc := 295) 0 0 rfl rfl hG dX12_readsItem_295 ?_
            refine r_aload_n (pc := 296) 0 0 rfl rfl hG dX12_readsItem_296 ?_
            refine gf12_13 (pc := 297) lk1144 hG dX12_readsItem_297 ?_
            refine r_iconst (pc := 300) (v := 0) (by decide) hG dX12_readsItem_300 ?_
            refine r_iald (pc := 301) (i := 121) (rfl : shp 121 = 14) rfl (by decide) hG dX12_readsItem_301 ?_
            refine r_aload_n (pc := 302) 0 0 rfl rfl hG dX12_readsItem_302 ?_
            refine gf12_13 (pc := 303) lk1144 hG dX12_readsItem_303 ?_
            refine r_iconst (pc := 306) (v := 1) (by decide) hG dX12_readsItem_306 ?_
            refine r_iald (pc := 307) (i := 121) (rfl : shp 121 = 14) rfl (by decide) hG dX12_readsItem_307 ?_
            refine r_bR hG (fun s66 e68 => ?_)
            refine r_callVv (pc := 308) (As := [.int (s61.1 121 (0 : Int32).toNatClampNeg), .int (s61.1 121 (1 : Int32).toNatClampNeg)]) (c_Mo_addGuest X N (s61.1 121 (0 : Int32).toNatClampNeg) (s61.1 121 (1 : Int32).toNatClampNeg) s61 s66 e68) (wsOf_at (rfl : shp 114 = 12) (by decide) rfl) rfl mfX12_111_X12_addGuest hyVX12_addGuest (by decide) (by decide) rfl (Nat.le_of_ble_eq_true rfl) hG dX12_readsItem_308 rfl (fun n67 => ?_)
            refine r_iconst (pc := 311) (v := 1) (by decide) hG dX12_readsItem_311 ?_
            exact r_zret (pc := 312) rvN_b1 rfl hG dX12_readsItem_312
          · refine r_iconst (pc := 293) (v := 0) (by decide) hG dX12_readsItem_293 ?_
            exact r_zret (pc := 294) rvN_b0 rfl hG dX12_readsItem_294
set_option maxRecDepth 4000 in
theorem c_Mo_readsItem (X : Cx) (N : Nat) (σ : St) (r : Int32) (σ1 : St) (hE : Mo_readsItem N σ = some (r, σ1)) : Ctr X yX12_readsItem cX12_readsItem 1 (some .boolean) 5 [.ref (X.2.1 + 114)] σ (some (.int r)) σ1 := by
  refine Ctr.of (out := oWI) (E := Mo_readsItem N σ) rfl (Nat.le_of_ble_eq_true rfl) (fun G hG => ?_) (r, σ1) hE
  unfold Mo_readsItem
  refine r_aload_n (pc := 0) 0 0 rfl rfl hG dX12_readsItem_0 ?_
  refine r_bR hG (fun r1 e3 => ?_)
  refine r_callVi (pc := 1) (As := []) (c_Mo_isDark X N σ r1 e3) (wsOf_at (rfl : shp 114 = 12) (by decide) rfl) rfl mfX12_146_X12_isDark hyVX12_isDark (by decide) (by decide) rfl (Nat.le_of_ble_eq_true rfl) hG dX12_readsItem_1 rfl (fun n2 => ?_)
  refine r_if_eq (pc := 4) (tgt := 59) (by decide) hG dX12_readsItem_4 (fun h4 => ?_) (fun h4 => ?_)
  · refine r_aload_n (pc := 59) 0 0 rfl rfl hG dX12_readsItem_59 ?_
    refine r_bipush (pc := 60) (v := 99) (by decide) hG dX12_readsItem_60 ?_
    refine r_bipush (pc := 62) (v := 97) (by decide) hG dX12_readsItem_62 ?_
    refine r_bipush (pc := 64) (v := 110) (by decide) hG dX12_readsItem_64 ?_
    refine r_bipush (pc := 66) (v := 97) (by decide) hG dX12_readsItem_66 ?_
    refine r_bipush (pc := 68) (v := 108) (by decide) hG dX12_readsItem_68 ?_
    refine r_bR hG (fun r5 e7 => ?_)
    refine r_callVi (pc := 70) (As := [.int 99, .int 97, .int 110, .int 97, .int 108]) (c_Mo_isWord X N 99 97 110 97 108 σ r5 e7) (wsOf_at (rfl : shp 114 = 12) (by decide) rfl) rfl mfX12_157_X12_isWord hyVX12_isWord (by decide) (by decide) rfl (Nat.le_of_ble_eq_true rfl) hG dX12_readsItem_70 rfl (fun n6 => ?_)
    refine r_if_eq (pc := 73) (tgt := 161) (by decide) hG dX12_readsItem_73 (fun h8 => ?_) (fun h8 => ?_)
    · refine r_aload_n (pc := 161) 0 0 rfl rfl hG dX12_readsItem_161 ?_
      refine r_bipush (pc := 162) (v := 114) (by decide) hG dX12_readsItem_162 ?_
      refine r_bipush (pc := 164) (v := 111) (by decide) hG dX12_readsItem_164 ?_
      refine r_bipush (pc := 166) (v := 119) (by decide) hG dX12_readsItem_166 ?_
      refine r_bipush (pc := 168) (v := 101) (by decide) hG dX12_readsItem_168 ?_
      refine r_bipush (pc := 170) (v := 114) (by decide) hG dX12_readsItem_170 ?_
      refine r_bR hG (fun r9 e11 => ?_)
      refine r_callVi (pc := 172) (As := [.int 114, .int 111, .int 119, .int 101, .int 114]) (c_Mo_isWord X N 114 111 119 101 114 σ r9 e11) (wsOf_at (rfl : shp 114 = 12) (by decide) rfl) rfl mfX12_157_X12_isWord hyVX12_isWord (by decide) (by decide) rfl (Nat.le_of_ble_eq_true rfl) hG dX12_readsItem_172 rfl (fun n10 => ?_)
      refine r_if_eq (pc := 175) (tgt := 237) (by decide) hG dX12_readsItem_175 (fun h12 => ?_) (fun h12 => ?_)
      · exact w_Mo_readsItem_J237 N hG σ
      · refine r_aload_n (pc := 178) 0 0 rfl rfl hG dX12_readsItem_178 ?_
        refine gf12_0 (pc := 179) lk1131 hG dX12_readsItem_179 ?_
        refine r_bipush (pc := 182) (v := 36) (by decide) hG dX12_readsItem_182 ?_
        refine r_iald (pc := 184) (i := 115) (rfl : shp 115 = 14) rfl (by decide) hG dX12_readsItem_184 ?_
        refine r_iconst (pc := 185) (v := 3) (by decide) hG dX12_readsItem_185 ?_
        refine r_icmp_ge (pc := 186) (tgt := 237) (by decide) hG dX12_readsItem_186 (fun h69 => ?_) (fun h69 => ?_)
        · exact w_Mo_readsItem_J237 N hG σ
        · refine r_aload_n (pc := 189) 0 0 rfl rfl hG dX12_readsItem_189 ?_
          refine r_iconst (pc := 190) (v := 0) (by decide) hG dX12_readsItem_190 ?_
          refine r_iconst (pc := 191) (v := 0) (by decide) hG dX12_readsItem_191 ?_
          refine r_iconst (pc := 192) (v := 5) (by decide) hG dX12_readsItem_192 ?_
          refine r_bW hG (fun r70 s71 e73 => ?_)
          refine r_callVi (pc := 193) (As := [.int 0, .int 0, .int 5]) (c_Mo_number X N 0 0 5 σ r70 s71 e73) (wsOf_at (rfl : shp 114 = 12) (by decide) rfl) rfl mfX12_150_X12_number hyVX12_number (by decide) (by decide) rfl (Nat.le_of_ble_eq_true rfl) hG dX12_readsItem_193 rfl (fun n72 => ?_)
          refine r_if_eq (pc := 196) (tgt := 217) (by decide) hG dX12_readsItem_196 (fun h74 => ?_) (fun h74 => ?_)
          · refine r_iconst (pc := 217) (v := 0) (by decide) hG dX12_readsItem_217 ?_
            exact r_zret (pc := 218) rvN_b0 rfl hG dX12_readsItem_218
          · refine r_aload_n (pc := 199) 0 0 rfl rfl hG dX12_readsItem_199 ?_
            refine r_iconst (pc := 200) (v := 1) (by decide) hG dX12_readsItem_200 ?_
            refine r_iconst (pc := 201) (v := 0) (by decide) hG dX12_readsItem_201 ?_
            refine r_bipush (pc := 202) (v := 9) (by decide) hG dX12_readsItem_202 ?_
            refine r_bW hG (fun r75 s76 e78 => ?_)
            refine r_callVi (pc := 204) (As := [.int 1, .int 0, .int 9]) (c_Mo_number X N 1 0 9 s71 r75 s76 e78) (wsOf_at (rfl : shp 114 = 12) (by decide) rfl) rfl mfX12_150_X12_number hyVX12_number (by decide) (by decide) rfl (Nat.le_of_ble_eq_true rfl) hG dX12_readsItem_204 rfl (fun n77 => ?_)
            refine r_if_eq (pc := 207) (tgt := 217) (by decide) hG dX12_readsItem_207 (fun h79 => ?_) (fun h79 => ?_)
            · refine r_iconst (pc := 217) (v := 0) (by decide) hG dX12_readsItem_217 ?_
              exact r_zret (pc := 218) rvN_b0 rfl hG dX12_readsItem_218
            · refine r_aload_n (pc := 210) 0 0 rfl rfl hG dX12_readsItem_210 ?_
              refine r_bW hG (fun r80 s81 e83 => ?_)
              refine r_callVi (pc := 211) (As := []) (c_Mo_ends X N s76 r80 s81 e83) (wsOf_at (rfl : shp 114 = 12) (by decide) rfl) rfl mfX12_154_X12_ends hyVX12_ends (by decide) (by decide) rfl (Nat.le_of_ble_eq_true rfl) hG dX12_readsItem_211 rfl (fun n82 => ?_)
              refine r_if_ne (pc := 214) (tgt := 219) (by decide) hG dX12_readsItem_214 (fun h84 => ?_) (fun h84 => ?_)
              · refine r_aload_n (pc := 219) 0 0 rfl rfl hG dX12_readsItem_219 ?_
                refine r_aload_n (pc := 220) 0 0 rfl rfl hG dX12_readsItem_220 ?_
                refine gf12_13 (pc := 221) lk1144 hG dX12_readsItem_221 ?_
                refine r_iconst (pc := 224) (v := 0) (by decide) hG dX12_readsItem_224 ?_
                refine r_iald (pc := 225) (i := 121) (rfl : shp 121 = 14) rfl (by decide) hG dX12_readsItem_225 ?_
                refine r_aload_n (pc := 226) 0 0 rfl rfl hG dX12_readsItem_226 ?_
                refine gf12_13 (pc := 227) lk1144 hG dX12_readsItem_227 ?_
                refine r_iconst (pc := 230) (v := 1) (by decide) hG dX12_readsItem_230 ?_
                refine r_iald (pc := 231) (i := 121) (rfl : shp 121 = 14) rfl (by decide) hG dX12_readsItem_231 ?_
                refine r_bR hG (fun s86 e88 => ?_)
                refine r_callVv (pc := 232) (As := [.int (s81.1 121 (0 : Int32).toNatClampNeg), .int (s81.1 121 (1 : Int32).toNatClampNeg)]) (c_Mo_addRower X N (s81.1 121 (0 : Int32).toNatClampNeg) (s81.1 121 (1 : Int32).toNatClampNeg) s81 s86 e88) (wsOf_at (rfl : shp 114 = 12) (by decide) rfl) rfl mfX12_105_X12_addRower hyVX12_addRower (by decide) (by decide) rfl (Nat.le_of_ble_eq_true rfl) hG dX12_readsItem_232 rfl (fun n87 => ?_)
                refine r_iconst (pc := 235) (v := 1) (by decide) hG dX12_readsItem_235 ?_
                exact r_zret (pc := 236) rvN_b1 rfl hG dX12_readsItem_236
              · refine r_iconst (pc := 217) (v := 0) (by decide) hG dX12_readsItem_217 ?_
                exact r_zret (pc := 218) rvN_b0 rfl hG dX12_readsItem_218
    · refine r_aload_n (pc := 76) 0 0 rfl rfl hG dX12_readsItem_76 ?_
      refine r_iconst (pc := 77) (v := 0) (by decide) hG dX12_readsItem_77 ?_
      refine r_iconst (pc := 78) (v := 0) (by decide) hG dX12_readsItem_78 ?_
      refine r_bipush (pc := 79) (v := 7) (by decide) hG dX12_readsItem_79 ?_
      refine r_bW hG (fun r89 s90 e92 => ?_)
      refine r_callVi (pc := 81) (As := [.int 0, .int 0, .int 7]) (c_Mo_number X N 0 0 7 σ r89 s90 e92) (wsOf_at (rfl : shp 114 = 12) (by decide) rfl) rfl mfX12_150_X12_number hyVX12_number (by decide) (by decide) rfl (Nat.le_of_ble_eq_true rfl) hG dX12_readsItem_81 rfl (fun n91 => ?_)
      refine r_if_eq (pc := 84) (tgt := 131) (by decide) hG dX12_readsItem_84 (fun h93 => ?_) (fun h93 => ?_)
      · refine r_iconst (pc := 131) (v := 0) (by decide) hG dX12_readsItem_131 ?_
        exact r_zret (pc := 132) rvN_b0 rfl hG dX12_readsItem_132
      · refine r_aload_n (pc := 87) 0 0 rfl rfl hG dX12_readsItem_87 ?_
        refine r_iconst (pc := 88) (v := 1) (by decide) hG dX12_readsItem_88 ?_
        refine r_iconst (pc := 89) (v := 0) (by decide) hG dX12_readsItem_89 ?_
        refine r_bipush (pc := 90) (v := 7) (by decide) hG dX12_readsItem_90 ?_
        refine r_bW hG (fun r94 s95 e97 => ?_)
        refine r_callVi (pc := 92) (As := [.int 1, .int 0, .int 7]) (c_Mo_number X N 1 0 7 s90 r94 s95 e97) (wsOf_at (rfl : shp 114 = 12) (by decide) rfl) rfl mfX12_150_X12_number hyVX12_number (by decide) (by decide) rfl (Nat.le_of_ble_eq_true rfl) hG dX12_readsItem_92 rfl (fun n96 => ?_)
        refine r_if_eq (pc := 95) (tgt := 131) (by decide) hG dX12_readsItem_95 (fun h98 => ?_) (fun h98 => ?_)
        · refine r_iconst (pc := 131) (v := 0) (by decide) hG dX12_readsItem_131 ?_
          exact r_zret (pc := 132) rvN_b0 rfl hG dX12_readsItem_132
        · refine r_aload_n (pc := 98) 0 0 rfl rfl hG dX12_readsItem_98 ?_
          refine gf12_13 (pc := 99) lk1144 hG dX12_readsItem_99 ?_
          refine r_iconst (pc := 102) (v := 0) (by decide) hG dX12_readsItem_102 ?_
          refine r_iald (pc := 103) (i := 121) (rfl : shp 121 = 14) rfl (by decide) hG dX12_readsItem_103 ?_
          refine r_aload_n (pc := 104) 0 0 rfl rfl hG dX12_readsItem_104 ?_
          refine gf12_13 (pc := 105) lk1144 hG dX12_readsItem_105 ?_
          refine r_iconst (pc := 108) (v := 1) (by decide) hG dX12_readsItem_108 ?_
          refine r_iald (pc := 109) (i := 121) (rfl : shp 121 = 14) rfl (by decide) hG dX12_readsItem_109 ?_
          refine r_icmp_eq (pc := 110) (tgt := 131) (by decide) hG dX12_readsItem_110 (fun h99 => ?_) (fun h99 => ?_)
          · refine r_iconst (pc := 131) (v := 0) (by decide) hG dX12_readsItem_131 ?_
            exact r_zret (pc := 132) rvN_b0 rfl hG dX12_readsItem_132
          · refine r_aload_n (pc := 113) 0 0 rfl rfl hG dX12_readsItem_113 ?_
            refine r_iconst (pc := 114) (v := 2) (by decide) hG dX12_readsItem_114 ?_
            refine r_iconst (pc := 115) (v := 0) (by decide) hG dX12_readsItem_115 ?_
            refine r_bipush (pc := 116) (v := 9) (by decide) hG dX12_readsItem_116 ?_
            refine r_bW hG (fun r100 s101 e103 => ?_)
            refine r_callVi (pc := 118) (As := [.int 2, .int 0, .int 9]) (c_Mo_number X N 2 0 9 s95 r100 s101 e103) (wsOf_at (rfl : shp 114 = 12) (by decide) rfl) rfl mfX12_150_X12_number hyVX12_number (by decide) (by decide) rfl (Nat.le_of_ble_eq_true rfl) hG dX12_readsItem_118 rfl (fun n102 => ?_)
            refine r_if_eq (pc := 121) (tgt := 131) (by decide) hG dX12_readsItem_121 (fun h104 => ?_) (fun h104 => ?_)
            · refine r_iconst (pc := 131) (v := 0) (by decide) hG dX12_readsItem_131 ?_
              exact r_zret (pc := 132) rvN_b0 rfl hG dX12_readsItem_132
            · refine r_aload_n (pc := 124) 0 0 rfl rfl hG dX12_readsItem_124 ?_
              refine r_bW hG (fun r105 s106 e108 => ?_)
              refine r_callVi (pc := 125) (As := []) (c_Mo_ends X N s101 r105 s106 e108) (wsOf_at (rfl : shp 114 = 12) (by decide) rfl) rfl mfX12_154_X12_ends hyVX12_ends (by decide) (by decide) rfl (Nat.le_of_ble_eq_true rfl) hG dX12_readsItem_125 rfl (fun n107 => ?_)
              refine r_if_ne (pc := 128) (tgt := 133) (by decide) hG dX12_readsItem_128 (fun h109 => ?_) (fun h109 => ?_)
              · refine r_aload_n (pc := 133) 0 0 rfl rfl hG dX12_readsItem_133 ?_
                refine gf12_0 (pc := 134) lk1131 hG dX12_readsItem_134 ?_
                refine r_aload_n (pc := 137) 0 0 rfl rfl hG dX12_readsItem_137 ?_
                refine gf12_13 (pc := 138) lk1144 hG dX12_readsItem_138 ?_
                refine r_iconst (pc := 141) (v := 0) (by decide) hG dX12_readsItem_141 ?_
                refine r_iald (pc := 142) (i := 121) (rfl : shp 121 = 14) rfl (by decide) hG dX12_readsItem_142 ?_
                refine r_aload_n (pc := 143) 0 0 rfl rfl hG dX12_readsItem_143 ?_
                refine gf12_13 (pc := 144) lk1144 hG dX12_readsItem_144 ?_
                refine r_iconst (pc := 147) (v := 1) (by decide) hG dX12_readsItem_147 ?_
                refine r_iald (pc := 148) (i := 121) (rfl : shp 121 = 14) rfl (by decide) hG dX12_readsItem_148 ?_
                refine r_callSi (pc := 149) (As := [.int (s106.1 121 (0 : Int32).toNatClampNeg), .int (s106.1 121 (1 : Int32).toNatClampNeg)]) (c_Mo_canalOf X (s106.1 121 (0 : Int32).toNatClampNeg) (s106.1 121 (1 : Int32).toNatClampNeg) s106) mfX12_79_X12_canalOf hySX12_canalOf (by decide) (by decide) rfl (Nat.le_of_ble_eq_true rfl) hG dX12_readsItem_149 rfl (fun n111 => ?_)
                refine r_aload_n (pc := 152) 0 0 rfl rfl hG dX12_readsItem_152 ?_
                refine gf12_13 (pc := 153) lk1144 hG dX12_readsItem_153 ?_
                refine r_iconst (pc := 156) (v := 2) (by decide) hG dX12_readsItem_156 ?_
                refine r_iald (pc := 157) (i := 121) (rfl : shp 121 = 14) rfl (by decide) hG dX12_readsItem_157 ?_
                refine r_ck hG (fun h113 => ?_)
                refine r_iast (pc := 158) (i := 115) (rfl : shp 115 = 14) rfl h113 hG dX12_readsItem_158 ?_
                refine r_bS hG (fun s114 => ?_)
                refine r_iconst (pc := 159) (v := 1) (by decide) hG dX12_readsItem_159 ?_
                exact r_zret (pc := 160) rvN_b1 rfl hG dX12_readsItem_160
              · refine r_iconst (pc := 131) (v := 0) (by decide) hG dX12_readsItem_131 ?_
                exact r_zret (pc := 132) rvN_b0 rfl hG dX12_readsItem_132
  · refine r_aload_n (pc := 7) 0 0 rfl rfl hG dX12_readsItem_7 ?_
    refine r_iconst (pc := 8) (v := 0) (by decide) hG dX12_readsItem_8 ?_
    refine r_iconst (pc := 9) (v := 0) (by decide) hG dX12_readsItem_9 ?_
    refine r_bipush (pc := 10) (v := 7) (by decide) hG dX12_readsItem_10 ?_
    refine r_bW hG (fun r115 s116 e118 => ?_)
    refine r_callVi (pc := 12) (As := [.int 0, .int 0, .int 7]) (c_Mo_number X N 0 0 7 σ r115 s116 e118) (wsOf_at (rfl : shp 114 = 12) (by decide) rfl) rfl mfX12_150_X12_number hyVX12_number (by decide) (by decide) rfl (Nat.le_of_ble_eq_true rfl) hG dX12_readsItem_12 rfl (fun n117 => ?_)
    refine r_if_eq (pc := 15) (tgt := 36) (by decide) hG dX12_readsItem_15 (fun h119 => ?_) (fun h119 => ?_)
    · refine r_iconst (pc := 36) (v := 0) (by decide) hG dX12_readsItem_36 ?_
      exact r_zret (pc := 37) rvN_b0 rfl hG dX12_readsItem_37
    · refine r_aload_n (pc := 18) 0 0 rfl rfl hG dX12_readsItem_18 ?_
      refine r_iconst (pc := 19) (v := 1) (by decide) hG dX12_readsItem_19 ?_
      refine r_iconst (pc := 20) (v := 0) (by decide) hG dX12_readsItem_20 ?_
      refine r_bipush (pc := 21) (v := 9) (by decide) hG dX12_readsItem_21 ?_
      refine r_bW hG (fun r120 s121 e123 => ?_)
      refine r_callVi (pc := 23) (As := [.int 1, .int 0, .int 9]) (c_Mo_number X N 1 0 9 s116 r120 s121 e123) (wsOf_at (rfl : shp 114 = 12) (by decide) rfl) rfl mfX12_150_X12_number hyVX12_number (by decide) (by decide) rfl (Nat.le_of_ble_eq_true rfl) hG dX12_readsItem_23 rfl (fun n122 => ?_)
      refine r_if_eq (pc := 26) (tgt := 36) (by decide) hG dX12_readsItem_26 (fun h124 => ?_) (fun h124 => ?_)
      · refine r_iconst (pc := 36) (v := 0) (by decide) hG dX12_readsItem_36 ?_
        exact r_zret (pc := 37) rvN_b0 rfl hG dX12_readsItem_37
      · refine r_aload_n (pc := 29) 0 0 rfl rfl hG dX12_readsItem_29 ?_
        refine r_bW hG (fun r125 s126 e128 => ?_)
        refine r_callVi (pc := 30) (As := []) (c_Mo_ends X N s121 r125 s126 e128) (wsOf_at (rfl : shp 114 = 12) (by decide) rfl) rfl mfX12_154_X12_ends hyVX12_ends (by decide) (by decide) rfl (Nat.le_of_ble_eq_true rfl) hG dX12_readsItem_30 rfl (fun n127 => ?_)
        refine r_if_ne (pc := 33) (tgt := 38) (by decide) hG dX12_readsItem_33 (fun h129 => ?_) (fun h129 => ?_)
        · refine r_aload_n (pc := 38) 0 0 rfl rfl hG dX12_readsItem_38 ?_
          refine gf12_0 (pc := 39) lk1131 hG dX12_readsItem_39 ?_
          refine r_iconst (pc := 42) (v := 0) (by decide) hG dX12_readsItem_42 ?_
          refine r_aload_n (pc := 43) 0 0 rfl rfl hG dX12_readsItem_43 ?_
          refine gf12_13 (pc := 44) lk1144 hG dX12_readsItem_44 ?_
          refine r_iconst (pc := 47) (v := 0) (by decide) hG dX12_readsItem_47 ?_
          refine r_iald (pc := 48) (i := 121) (rfl : shp 121 = 14) rfl (by decide) hG dX12_readsItem_48 ?_
          refine r_iadd (pc := 49) hG dX12_readsItem_49 ?_
          refine r_aload_n (pc := 50) 0 0 rfl rfl hG dX12_readsItem_50 ?_
          refine gf12_13 (pc := 51) lk1144 hG dX12_readsItem_51 ?_
          refine r_iconst (pc := 54) (v := 1) (by decide) hG dX12_readsItem_54 ?_
          refine r_iald (pc := 55) (i := 121) (rfl : shp 121 = 14) rfl (by decide) hG dX12_readsItem_55 ?_
          refine r_ck hG (fun h130 => ?_)
          refine r_iast (pc := 56) (i := 115) (rfl : shp 115 = 14) rfl h130 hG dX12_readsItem_56 ?_
          refine r_bS hG (fun s131 => ?_)
          refine r_iconst (pc := 57) (v := 1) (by decide) hG dX12_readsItem_57 ?_
          exact r_zret (pc := 58) rvN_b1 rfl hG dX12_readsItem_58
        · refine r_iconst (pc := 36) (v := 0) (by decide) hG dX12_readsItem_36 ?_
          exact r_zret (pc := 37) rvN_b0 rfl hG dX12_readsItem_37
set_option maxRecDepth 4000 in
theorem w_Mo_reads_J108 {X : Cx} {G : GT (Int32 × St)} (N : Nat) (hG : IsG X RX12 cX12_reads 1 6 (some .boolean) oWI G) (σ : St) : G (Mo_reads_J108 N σ) σ 108 [(0, .ref (X.2.1 + 114))] [] := by
  unfold Mo_reads_J108
  refine r_aload_n (pc := 108) 0 0 rfl rfl hG dX12_reads_108 ?_
  refine gf12_0 (pc := 109) lk1131 hG dX12_reads_109 ?_
  refine r_sipush (pc := 112) (v := 157) (by decide) hG dX12_reads_112 ?_
  refine r_iconst (pc := 115) (v := 0) (by decide) hG dX12_reads_115 ?_
  refine r_iast (pc := 116) (i := 115) (rfl : shp 115 = 14) rfl (by decide) hG dX12_reads_116 ?_
  refine r_bS hG (fun s31 => ?_)
  refine r_iconst (pc := 117) (v := 1) (by decide) hG dX12_reads_117 ?_
  exact r_zret (pc := 118) rvN_b1 rfl hG dX12_reads_118
set_option maxRecDepth 4000 in
theorem w_Mo_reads_L75B {X : Cx} {G : GT (Int32 × St)} (N : Nat) (hG : IsG X RX12 cX12_reads 1 6 (some .boolean) oWI G) {K75 : St → Option (Int32 × St)} (hK75 : ∀  (s : St), G (K75  s) s 75 [(0, .ref (X.2.1 + 114))] []) (σ : St) : G (Mo_reads_L75B N K75 σ) σ 75 [(0, .ref (X.2.1 + 114))] [] := by
  unfold Mo_reads_L75B
  refine r_aload_n (pc := 75) 0 0 rfl rfl hG dX12_reads_75 ?_
  refine gf12_11 (pc := 76) lk1142 hG dX12_reads_76 ?_
  refine r_if_eq (pc := 79) (tgt := 108) (by decide) hG dX12_reads_79 (fun h30 => ?_) (fun h30 => ?_)
  · exact w_Mo_reads_J108 N hG σ
  · refine r_aload_n (pc := 82) 0 0 rfl rfl hG dX12_reads_82 ?_
    refine r_bW hG (fun r32 s33 e35 => ?_)
    refine r_callVi (pc := 83) (As := []) (c_Mo_readsItem X N σ r32 s33 e35) (wsOf_at (rfl : shp 114 = 12) (by decide) rfl) rfl mfX12_172_X12_readsItem hyVX12_readsItem (by decide) (by decide) rfl (Nat.le_of_ble_eq_true rfl) hG dX12_reads_83 rfl (fun n34 => ?_)
    refine r_if_ne (pc := 86) (tgt := 91) (by decide) hG dX12_reads_86 (fun h36 => ?_) (fun h36 => ?_)
    · refine r_aload_n (pc := 91) 0 0 rfl rfl hG dX12_reads_91 ?_
      refine r_dup (pc := 92) rfl hG dX12_reads_92 ?_
      refine gf12_14 (pc := 93) lk1145 hG dX12_reads_93 ?_
      refine r_iconst (pc := 96) (v := 1) (by decide) hG dX12_reads_96 ?_
      refine r_iadd (pc := 97) hG dX12_reads_97 ?_
      refine pf12_14 (pc := 98) lk1145 hG dX12_reads_98 ?_
      refine r_bS hG (fun s37 => ?_)
      refine r_aload_n (pc := 101) 0 0 rfl rfl hG dX12_reads_101 ?_
      refine r_bR hG (fun s39 e41 => ?_)
      refine r_callVv (pc := 102) (As := []) (c_Mo_step X N s37 s39 e41) (wsOf_at (rfl : shp 114 = 12) (by decide) rfl) rfl mfX12_143_X12_step hyVX12_step (by decide) (by decide) rfl (Nat.le_of_ble_eq_true rfl) hG dX12_reads_102 rfl (fun n40 => ?_)
      refine r_goto (pc := 105) (tgt := 75) (by decide) hG dX12_reads_105 ?_
      exact hK75 s39
    · refine r_iconst (pc := 89) (v := 0) (by decide) hG dX12_reads_89 ?_
      exact r_zret (pc := 90) rvN_b0 rfl hG dX12_reads_90
set_option maxRecDepth 4000 in
theorem w_Mo_reads_L75 {X : Cx} {G : GT (Int32 × St)} (N : Nat) (hG : IsG X RX12 cX12_reads 1 6 (some .boolean) oWI G) : ∀ (n : Nat), ∀  (σ : St), G (Mo_reads_L75 N n σ) σ 75 [(0, .ref (X.2.1 + 114))] [] := by
  intro n
  induction n with
  | zero => intro σ; exact r_none hG
  | succ n ih => intro σ; exact w_Mo_reads_L75B N hG ih σ
set_option maxRecDepth 4000 in
theorem c_Mo_reads (X : Cx) (N : Nat) (σ : St) (r : Int32) (σ1 : St) (hE : Mo_reads N σ = some (r, σ1)) : Ctr X yX12_reads cX12_reads 1 (some .boolean) 6 [.ref (X.2.1 + 114)] σ (some (.int r)) σ1 := by
  refine Ctr.of (out := oWI) (E := Mo_reads N σ) rfl (Nat.le_of_ble_eq_true rfl) (fun G hG => ?_) (r, σ1) hE
  unfold Mo_reads
  refine r_aload_n (pc := 0) 0 0 rfl rfl hG dX12_reads_0 ?_
  refine r_iconst (pc := 1) (v := 0) (by decide) hG dX12_reads_1 ?_
  refine pf12_9 (pc := 2) lk1140 hG dX12_reads_2 ?_
  refine r_bS hG (fun s1 => ?_)
  refine r_aload_n (pc := 5) 0 0 rfl rfl hG dX12_reads_5 ?_
  refine r_iconst (pc := 6) (v := 0) (by decide) hG dX12_reads_6 ?_
  refine pf12_14 (pc := 7) lk1145 hG dX12_reads_7 ?_
  refine r_bS hG (fun s2 => ?_)
  refine r_aload_n (pc := 10) 0 0 rfl rfl hG dX12_reads_10 ?_
  refine r_bR hG (fun s4 e6 => ?_)
  refine r_callVv (pc := 11) (As := []) (c_Mo_step X N s2 s4 e6) (wsOf_at (rfl : shp 114 = 12) (by decide) rfl) rfl mfX12_143_X12_step hyVX12_step (by decide) (by decide) rfl (Nat.le_of_ble_eq_true rfl) hG dX12_reads_11 rfl (fun n5 => ?_)
  refine r_aload_n (pc := 14) 0 0 rfl rfl hG dX12_reads_14 ?_
  refine r_bipush (pc := 15) (v := 119) (by decide) hG dX12_reads_15 ?_
  refine r_bipush (pc := 17) (v := 97) (by decide) hG dX12_reads_17 ?_
  refine r_bipush (pc := 19) (v := 116) (by decide) hG dX12_reads_19 ?_
  refine r_bipush (pc := 21) (v := 101) (by decide) hG dX12_reads_21 ?_
  refine r_bipush (pc := 23) (v := 114) (by decide) hG dX12_reads_23 ?_
  refine r_bR hG (fun r7 e9 => ?_)
  refine r_callVi (pc := 25) (As := [.int 119, .int 97, .int 116, .int 101, .int 114]) (c_Mo_isWord X N 119 97 116 101 114 s4 r7 e9) (wsOf_at (rfl : shp 114 = 12) (by decide) rfl) rfl mfX12_157_X12_isWord hyVX12_isWord (by decide) (by decide) rfl (Nat.le_of_ble_eq_true rfl) hG dX12_reads_25 rfl (fun n8 => ?_)
  refine r_if_eq (pc := 28) (tgt := 49) (by decide) hG dX12_reads_28 (fun h10 => ?_) (fun h10 => ?_)
  · refine r_iconst (pc := 49) (v := 0) (by decide) hG dX12_reads_49 ?_
    exact r_zret (pc := 50) rvN_b0 rfl hG dX12_reads_50
  · refine r_aload_n (pc := 31) 0 0 rfl rfl hG dX12_reads_31 ?_
    refine r_iconst (pc := 32) (v := 0) (by decide) hG dX12_reads_32 ?_
    refine r_iconst (pc := 33) (v := 0) (by decide) hG dX12_reads_33 ?_
    refine r_bipush (pc := 34) (v := 9) (by decide) hG dX12_reads_34 ?_
    refine r_bW hG (fun r11 s12 e14 => ?_)
    refine r_callVi (pc := 36) (As := [.int 0, .int 0, .int 9]) (c_Mo_number X N 0 0 9 s4 r11 s12 e14) (wsOf_at (rfl : shp 114 = 12) (by decide) rfl) rfl mfX12_150_X12_number hyVX12_number (by decide) (by decide) rfl (Nat.le_of_ble_eq_true rfl) hG dX12_reads_36 rfl (fun n13 => ?_)
    refine r_if_eq (pc := 39) (tgt := 49) (by decide) hG dX12_reads_39 (fun h15 => ?_) (fun h15 => ?_)
    · refine r_iconst (pc := 49) (v := 0) (by decide) hG dX12_reads_49 ?_
      exact r_zret (pc := 50) rvN_b0 rfl hG dX12_reads_50
    · refine r_aload_n (pc := 42) 0 0 rfl rfl hG dX12_reads_42 ?_
      refine r_bW hG (fun r16 s17 e19 => ?_)
      refine r_callVi (pc := 43) (As := []) (c_Mo_ends X N s12 r16 s17 e19) (wsOf_at (rfl : shp 114 = 12) (by decide) rfl) rfl mfX12_154_X12_ends hyVX12_ends (by decide) (by decide) rfl (Nat.le_of_ble_eq_true rfl) hG dX12_reads_43 rfl (fun n18 => ?_)
      refine r_if_ne (pc := 46) (tgt := 51) (by decide) hG dX12_reads_46 (fun h20 => ?_) (fun h20 => ?_)
      · refine r_aload_n (pc := 51) 0 0 rfl rfl hG dX12_reads_51 ?_
        refine r_aload_n (pc := 52) 0 0 rfl rfl hG dX12_reads_52 ?_
        refine gf12_13 (pc := 53) lk1144 hG dX12_reads_53 ?_
        refine r_iconst (pc := 56) (v := 0) (by decide) hG dX12_reads_56 ?_
        refine r_iald (pc := 57) (i := 121) (rfl : shp 121 = 14) rfl (by decide) hG dX12_reads_57 ?_
        refine r_bR hG (fun s22 e24 => ?_)
        refine r_callVv (pc := 58) (As := [.int (s17.1 121 (0 : Int32).toNatClampNeg)]) (c_Mo_begins X N (s17.1 121 (0 : Int32).toNatClampNeg) s17 s22 e24) (wsOf_at (rfl : shp 114 = 12) (by decide) rfl) rfl mfX12_88_X12_begins hyVX12_begins (by decide) (by decide) rfl (Nat.le_of_ble_eq_true rfl) hG dX12_reads_58 rfl (fun n23 => ?_)
        refine r_aload_n (pc := 61) 0 0 rfl rfl hG dX12_reads_61 ?_
        refine r_dup (pc := 62) rfl hG dX12_reads_62 ?_
        refine gf12_14 (pc := 63) lk1145 hG dX12_reads_63 ?_
        refine r_iconst (pc := 66) (v := 1) (by decide) hG dX12_reads_66 ?_
        refine r_iadd (pc := 67) hG dX12_reads_67 ?_
        refine pf12_14 (pc := 68) lk1145 hG dX12_reads_68 ?_
        refine r_bS hG (fun s25 => ?_)
        refine r_aload_n (pc := 71) 0 0 rfl rfl hG dX12_reads_71 ?_
        refine r_bR hG (fun s27 e29 => ?_)
        refine r_callVv (pc := 72) (As := []) (c_Mo_step X N s25 s27 e29) (wsOf_at (rfl : shp 114 = 12) (by decide) rfl) rfl mfX12_143_X12_step hyVX12_step (by decide) (by decide) rfl (Nat.le_of_ble_eq_true rfl) hG dX12_reads_72 rfl (fun n28 => ?_)
        exact w_Mo_reads_L75 N hG N s27
      · refine r_iconst (pc := 49) (v := 0) (by decide) hG dX12_reads_49 ?_
        exact r_zret (pc := 50) rvN_b0 rfl hG dX12_reads_50
set_option maxRecDepth 4000 in
theorem c_Mo_read (X : Cx) (N : Nat) (σ : St) (r : Int32) (σ1 : St) (hE : Mo_read N σ = some (r, σ1)) : Ctr X yX12_read cX12_read 1 (some .int) 7 [.ref (X.2.1 + 114)] σ (some (.int r)) σ1 := by
  refine Ctr.of (out := oWI) (E := Mo_read N σ) rfl (Nat.le_of_ble_eq_true rfl) (fun G hG => ?_) (r, σ1) hE
  unfold Mo_read
  refine r_aload_n (pc := 0) 0 0 rfl rfl hG dX12_read_0 ?_
  refine gf12_0 (pc := 1) lk1131 hG dX12_read_1 ?_
  refine r_iconst (pc := 4) (v := 0) (by decide) hG dX12_read_4 ?_
  refine r_aload_n (pc := 5) 0 0 rfl rfl hG dX12_read_5 ?_
  refine gf12_1 (pc := 6) lk1132 hG dX12_read_6 ?_
  refine r_iconst (pc := 9) (v := 0) (by decide) hG dX12_read_9 ?_
  refine r_sipush (pc := 10) (v := 286) (by decide) hG dX12_read_10 ?_
  refine r_bR hG (fun s2 e4 => ?_)
  refine r_callSv (pc := 13) (As := [.ref (X.2.1 + 115), .int 0, .ref (X.2.1 + 116), .int 0, .int 286]) (c_Mo_copies X N 115 0 116 0 286 σ (rfl : shp 115 = 14) (rfl : shp 116 = 14) s2 e4) mfX12_175_X12_copies hySX12_copies (by decide) (by decide) rfl (Nat.le_of_ble_eq_true rfl) hG dX12_read_13 rfl (fun n3 => ?_)
  refine r_aload_n (pc := 16) 0 0 rfl rfl hG dX12_read_16 ?_
  refine r_bW hG (fun r5 s6 e8 => ?_)
  refine r_callVi (pc := 17) (As := []) (c_Mo_reads X N s2 r5 s6 e8) (wsOf_at (rfl : shp 114 = 12) (by decide) rfl) rfl mfX12_179_X12_reads hyVX12_reads (by decide) (by decide) rfl (Nat.le_of_ble_eq_true rfl) hG dX12_read_17 rfl (fun n7 => ?_)
  refine r_if_ne (pc := 20) (tgt := 47) (by decide) hG dX12_read_20 (fun h9 => ?_) (fun h9 => ?_)
  · refine r_aload_n (pc := 47) 0 0 rfl rfl hG dX12_read_47 ?_
    refine gf12_14 (pc := 48) lk1145 hG dX12_read_48 ?_
    exact r_iret (pc := 51) rfl hG dX12_read_51
  · refine r_aload_n (pc := 23) 0 0 rfl rfl hG dX12_read_23 ?_
    refine gf12_1 (pc := 24) lk1132 hG dX12_read_24 ?_
    refine r_iconst (pc := 27) (v := 0) (by decide) hG dX12_read_27 ?_
    refine r_aload_n (pc := 28) 0 0 rfl rfl hG dX12_read_28 ?_
    refine gf12_0 (pc := 29) lk1131 hG dX12_read_29 ?_
    refine r_iconst (pc := 32) (v := 0) (by decide) hG dX12_read_32 ?_
    refine r_sipush (pc := 33) (v := 286) (by decide) hG dX12_read_33 ?_
    refine r_bR hG (fun s11 e13 => ?_)
    refine r_callSv (pc := 36) (As := [.ref (X.2.1 + 116), .int 0, .ref (X.2.1 + 115), .int 0, .int 286]) (c_Mo_copies X N 116 0 115 0 286 s6 (rfl : shp 116 = 14) (rfl : shp 115 = 14) s11 e13) mfX12_175_X12_copies hySX12_copies (by decide) (by decide) rfl (Nat.le_of_ble_eq_true rfl) hG dX12_read_36 rfl (fun n12 => ?_)
    refine r_bipush (pc := 39) (v := (-10)) (by decide) hG dX12_read_39 ?_
    refine r_aload_n (pc := 41) 0 0 rfl rfl hG dX12_read_41 ?_
    refine gf12_10 (pc := 42) lk1141 hG dX12_read_42 ?_
    refine r_isub (pc := 45) hG dX12_read_45 ?_
    exact r_iret (pc := 46) rfl hG dX12_read_46
set_option maxRecDepth 4000 in
theorem w_Mo_notes_J59 {X : Cx} {G : GT St} (N : Nat) (hG : IsG X RX12 cX12_notes 2 2 none oWV G) (σ : St) : G (Mo_notes_J59 N σ) σ 59 [(0, .ref (X.2.1 + 114))] [] := by
  unfold Mo_notes_J59
  refine r_aload_n (pc := 59) 0 0 rfl rfl hG dX12_notes_59 ?_
  refine gf12_0 (pc := 60) lk1131 hG dX12_notes_60 ?_
  refine r_bipush (pc := 63) (v := 52) (by decide) hG dX12_notes_63 ?_
  refine r_aload_n (pc := 65) 0 0 rfl rfl hG dX12_notes_65 ?_
  refine gf12_0 (pc := 66) lk1131 hG dX12_notes_66 ?_
  refine r_sipush (pc := 69) (v := 158) (by decide) hG dX12_notes_69 ?_
  refine r_bipush (pc := 72) (v := 16) (by decide) hG dX12_notes_72 ?_
  refine r_aload_n (pc := 74) 0 0 rfl rfl hG dX12_notes_74 ?_
  refine gf12_0 (pc := 75) lk1131 hG dX12_notes_75 ?_
  refine r_sipush (pc := 78) (v := 157) (by decide) hG dX12_notes_78 ?_
  refine r_iald (pc := 81) (i := 115) (rfl : shp 115 = 14) rfl (by decide) hG dX12_notes_81 ?_
  refine r_imul (pc := 82) hG dX12_notes_82 ?_
  refine r_iadd (pc := 83) hG dX12_notes_83 ?_
  refine r_bipush (pc := 84) (v := 16) (by decide) hG dX12_notes_84 ?_
  refine r_bR hG (fun s3 e5 => ?_)
  refine r_callSv (pc := 86) (As := [.ref (X.2.1 + 115), .int 52, .ref (X.2.1 + 115), .int (158 + (16 * (σ.1 115 (157 : Int32).toNatClampNeg))), .int 16]) (c_Mo_copies X N 115 52 115 (158 + (16 * (σ.1 115 (157 : Int32).toNatClampNeg))) 16 σ (rfl : shp 115 = 14) (rfl : shp 115 = 14) s3 e5) mfX12_175_X12_copies hySX12_copies (by decide) (by decide) rfl (Nat.le_of_ble_eq_true rfl) hG dX12_notes_86 rfl (fun n4 => ?_)
  refine r_aload_n (pc := 89) 0 0 rfl rfl hG dX12_notes_89 ?_
  refine gf12_0 (pc := 90) lk1131 hG dX12_notes_90 ?_
  refine r_sipush (pc := 93) (v := 157) (by decide) hG dX12_notes_93 ?_
  refine r_dup2 (pc := 96) rfl rfl hG dX12_notes_96 ?_
  refine r_iald (pc := 97) (i := 115) (rfl : shp 115 = 14) rfl (by decide) hG dX12_notes_97 ?_
  refine r_iconst (pc := 98) (v := 1) (by decide) hG dX12_notes_98 ?_
  refine r_iadd (pc := 99) hG dX12_notes_99 ?_
  refine r_iast (pc := 100) (i := 115) (rfl : shp 115 = 14) rfl (by decide) hG dX12_notes_100 ?_
  refine r_bS hG (fun s6 => ?_)
  exact r_vret (pc := 101) rfl hG dX12_notes_101
set_option maxRecDepth 4000 in
theorem w_Mo_notes_J47 {X : Cx} {G : GT St} (N : Nat) (hG : IsG X RX12 cX12_notes 2 2 none oWV G) (σ : St) : G (Mo_notes_J47 N σ) σ 47 [(0, .ref (X.2.1 + 114))] [] := by
  unfold Mo_notes_J47
  refine r_aload_n (pc := 47) 0 0 rfl rfl hG dX12_notes_47 ?_
  refine gf12_0 (pc := 48) lk1131 hG dX12_notes_48 ?_
  refine r_sipush (pc := 51) (v := 157) (by decide) hG dX12_notes_51 ?_
  refine r_dup2 (pc := 54) rfl rfl hG dX12_notes_54 ?_
  refine r_iald (pc := 55) (i := 115) (rfl : shp 115 = 14) rfl (by decide) hG dX12_notes_55 ?_
  refine r_iconst (pc := 56) (v := 1) (by decide) hG dX12_notes_56 ?_
  refine r_isub (pc := 57) hG dX12_notes_57 ?_
  refine r_iast (pc := 58) (i := 115) (rfl : shp 115 = 14) rfl (by decide) hG dX12_notes_58 ?_
  refine r_bS hG (fun s8 => ?_)
  exact w_Mo_notes_J59 N hG s8
set_option maxRecDepth 4000 in
theorem w_Mo_notes_L15B {X : Cx} {G : GT St} (N : Nat) (hG : IsG X RX12 cX12_notes 2 2 none oWV G) {K15 : Int32 → St → Option St} (hK15 : ∀ (v1 : Int32) (s : St), G (K15 v1 s) s 15 [(0, .ref (X.2.1 + 114)), (1, .int v1)] []) (v1 : Int32) (σ : St) : G (Mo_notes_L15B N K15 v1 σ) σ 15 [(0, .ref (X.2.1 + 114)), (1, .int v1)] [] := by
  unfold Mo_notes_L15B
  refine r_iload_n (pc := 15) 1 1 rfl rfl hG dX12_notes_15 ?_
  refine r_bipush (pc := 16) (v := 112) (by decide) hG dX12_notes_16 ?_
  refine r_icmp_ge (pc := 18) (tgt := 47) (by decide) hG dX12_notes_18 (fun h7 => ?_) (fun h7 => ?_)
  · exact r_sub [0] rfl hG (w_Mo_notes_J47 N hG σ)
  · refine r_aload_n (pc := 21) 0 0 rfl rfl hG dX12_notes_21 ?_
    refine gf12_0 (pc := 22) lk1131 hG dX12_notes_22 ?_
    refine r_sipush (pc := 25) (v := 158) (by decide) hG dX12_notes_25 ?_
    refine r_iload_n (pc := 28) 1 1 rfl rfl hG dX12_notes_28 ?_
    refine r_iadd (pc := 29) hG dX12_notes_29 ?_
    refine r_aload_n (pc := 30) 0 0 rfl rfl hG dX12_notes_30 ?_
    refine gf12_0 (pc := 31) lk1131 hG dX12_notes_31 ?_
    refine r_sipush (pc := 34) (v := 174) (by decide) hG dX12_notes_34 ?_
    refine r_iload_n (pc := 37) 1 1 rfl rfl hG dX12_notes_37 ?_
    refine r_iadd (pc := 38) hG dX12_notes_38 ?_
    refine r_ck hG (fun h9 => ?_)
    refine r_iald (pc := 39) (i := 115) (rfl : shp 115 = 14) rfl h9 hG dX12_notes_39 ?_
    refine r_ck hG (fun h10 => ?_)
    refine r_iast (pc := 40) (i := 115) (rfl : shp 115 = 14) rfl h10 hG dX12_notes_40 ?_
    refine r_bS hG (fun s11 => ?_)
    refine r_bIinc (pc := 41) (lv' := fun x12 => [(1, .int x12), (0, .ref (X.2.1 + 114))]) 1 rfl rfl (by decide) (fun _ => rfl) hG dX12_notes_41 (fun x12 => ?_)
    refine r_goto (pc := 44) (tgt := 15) (by decide) hG dX12_notes_44 ?_
    exact r_sub [1, 0] rfl hG (hK15 x12 s11)
set_option maxRecDepth 4000 in
theorem w_Mo_notes_L15 {X : Cx} {G : GT St} (N : Nat) (hG : IsG X RX12 cX12_notes 2 2 none oWV G) : ∀ (n : Nat), ∀ (v1 : Int32) (σ : St), G (Mo_notes_L15 N n v1 σ) σ 15 [(0, .ref (X.2.1 + 114)), (1, .int v1)] [] := by
  intro n
  induction n with
  | zero => intro v1 σ; exact r_none hG
  | succ n ih => intro v1 σ; exact w_Mo_notes_L15B N hG ih v1 σ
set_option maxRecDepth 4000 in
theorem c_Mo_notes (X : Cx) (N : Nat) (σ : St) (σ1 : St) (hE : Mo_notes N σ = some σ1) : Ctr X yX12_notes cX12_notes 2 none 2 [.ref (X.2.1 + 114)] σ none σ1 := by
  refine Ctr.of (out := oWV) (E := Mo_notes N σ) rfl (Nat.le_of_ble_eq_true rfl) (fun G hG => ?_) σ1 hE
  unfold Mo_notes
  refine r_aload_n (pc := 0) 0 0 rfl rfl hG dX12_notes_0 ?_
  refine gf12_0 (pc := 1) lk1131 hG dX12_notes_1 ?_
  refine r_sipush (pc := 4) (v := 157) (by decide) hG dX12_notes_4 ?_
  refine r_iald (pc := 7) (i := 115) (rfl : shp 115 = 14) rfl (by decide) hG dX12_notes_7 ?_
  refine r_bipush (pc := 8) (v := 8) (by decide) hG dX12_notes_8 ?_
  refine r_icmp_ne (pc := 10) (tgt := 59) (by decide) hG dX12_notes_10 (fun h1 => ?_) (fun h1 => ?_)
  · exact w_Mo_notes_J59 N hG σ
  · refine r_iconst (pc := 13) (v := 0) (by decide) hG dX12_notes_13 ?_
    refine r_istore_n (pc := 14) (lv' := [(1, .int 0), (0, .ref (X.2.1 + 114))]) 1 rfl (by decide) rfl hG dX12_notes_14 ?_
    exact r_sub [1, 0] rfl hG (w_Mo_notes_L15 N hG N 0 σ)
