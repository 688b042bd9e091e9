set_option maxRecDepth 4000 in
theorem w_Go_share_J25 {X : Cx} {G : GT (Int32 × St)} (N : Nat) (hG : IsG X RX11 cX11_share 2 21 (some .int) oWI G) (v1 : Int32) (σ : St) : G (Go_share_J25 N v1 σ) σ 25 [(0, .ref (X.2.1 + 0)), (1, .int v1)] [] := by
  unfold Go_share_J25
  refine r_aload_n (pc := 25) 0 0 rfl rfl hG dX11_share_25 ?_
  refine gf11_10 (pc := 26) lk450 hG dX11_share_26 ?_
  refine r_aload_n (pc := 29) 0 0 rfl rfl hG dX11_share_29 ?_
  refine gf11_0 (pc := 30) lk440 hG dX11_share_30 ?_
  refine r_aload_n (pc := 33) 0 0 rfl rfl hG dX11_share_33 ?_
  refine gf11_9 (pc := 34) lk449 hG dX11_share_34 ?_
  refine r_bR hG (fun s3 e5 => ?_)
  refine r_callVv (pc := 37) (As := [.ref (X.2.1 + 1), .ref (X.2.1 + 47)]) (c_Sh_search X N 1 σ (rfl : shp 1 = 4) s3 e5) (wsOf_at (rfl : shp 58 = 8) (by decide) rfl) rfl mfX11_247_X8_search hyVX8_search (by decide) (by decide) rfl (Nat.le_of_ble_eq_true rfl) hG dX11_share_37 rfl (fun n4 => ?_)
  refine r_aload_n (pc := 40) 0 0 rfl rfl hG dX11_share_40 ?_
  refine gf11_10 (pc := 41) lk450 hG dX11_share_41 ?_
  refine gf8_5 (pc := 44) lk331 hG dX11_share_44 ?_
  refine r_if_ne (pc := 47) (tgt := 53) (by decide) hG dX11_share_47 (fun h6 => ?_) (fun h6 => ?_)
  · refine r_iload_n (pc := 53) 1 1 rfl rfl hG dX11_share_53 ?_
    refine r_ite hG (fun h7 => ?_) (fun h7 => ?_)
    · refine r_lookup (pc := 54) (tgt := 80) (off := 26) (by decide) (by rw [h7]; decide) (by decide) hG dX11_share_54 ?_
      refine r_aload_n (pc := 80) 0 0 rfl rfl hG dX11_share_80 ?_
      refine gf11_10 (pc := 81) lk450 hG dX11_share_81 ?_
      refine gf8_6 (pc := 84) lk333 hG dX11_share_84 ?_
      exact r_iret (pc := 87) rfl hG dX11_share_87
    · refine r_ite hG (fun h8 => ?_) (fun h8 => ?_)
      · refine r_lookup (pc := 54) (tgt := 88) (off := 34) (by decide) (by rw [h8]; decide) (by decide) hG dX11_share_54 ?_
        refine r_aload_n (pc := 88) 0 0 rfl rfl hG dX11_share_88 ?_
        refine gf11_10 (pc := 89) lk450 hG dX11_share_89 ?_
        refine gf8_7 (pc := 92) lk335 hG dX11_share_92 ?_
        exact r_iret (pc := 95) rfl hG dX11_share_95
      · refine r_lookup (pc := 54) (tgt := 96) (off := 42) (by decide) (by rw [show (#[((-3), 26), ((-2), 34)] : Array (Int × Int)).toList = [((-3), 26), ((-2), 34)] from rfl, lv_osw h7 (a := (-3)) (by decide), lv_osw h8 (a := (-2)) (by decide)]; rfl) (by decide) hG dX11_share_54 ?_
        refine r_aload_n (pc := 96) 0 0 rfl rfl hG dX11_share_96 ?_
        refine gf11_10 (pc := 97) lk450 hG dX11_share_97 ?_
        refine gf8_4 (pc := 100) lk329 hG dX11_share_100 ?_
        refine r_iload_n (pc := 103) 1 1 rfl rfl hG dX11_share_103 ?_
        refine r_ck hG (fun h9 => ?_)
        refine r_iald (pc := 104) (i := 63) (rfl : shp 63 = 14) rfl h9 hG dX11_share_104 ?_
        exact r_iret (pc := 105) rfl hG dX11_share_105
  · refine r_bipush (pc := 50) (v := (-5)) (by decide) hG dX11_share_50 ?_
    exact r_iret (pc := 52) rfl hG dX11_share_52
set_option maxRecDepth 4000 in
theorem c_Go_share (X : Cx) (N : Nat) (v1 : Int32) (σ : St) (r : Int32) (σ1 : St) (hE : Go_share N v1 σ = some (r, σ1)) : Ctr X yX11_share cX11_share 2 (some .int) 21 [.ref (X.2.1 + 0), .int v1] σ (some (.int r)) σ1 := by
  refine Ctr.of (out := oWI) (E := Go_share N v1 σ) rfl (Nat.le_of_ble_eq_true rfl) (fun G hG => ?_) (r, σ1) hE
  unfold Go_share
  refine r_iload_n (pc := 0) 1 1 rfl rfl hG dX11_share_0 ?_
  refine r_bipush (pc := 1) (v := (-3)) (by decide) hG dX11_share_1 ?_
  refine r_icmp_eq (pc := 3) (tgt := 25) (by decide) hG dX11_share_3 (fun h1 => ?_) (fun h1 => ?_)
  · exact w_Go_share_J25 N hG v1 σ
  · refine r_iload_n (pc := 6) 1 1 rfl rfl hG dX11_share_6 ?_
    refine r_bipush (pc := 7) (v := (-2)) (by decide) hG dX11_share_7 ?_
    refine r_icmp_eq (pc := 9) (tgt := 25) (by decide) hG dX11_share_9 (fun h10 => ?_) (fun h10 => ?_)
    · exact w_Go_share_J25 N hG v1 σ
    · refine r_aload_n (pc := 12) 0 0 rfl rfl hG dX11_share_12 ?_
      refine r_iload_n (pc := 13) 1 1 rfl rfl hG dX11_share_13 ?_
      refine r_bR hG (fun r11 e13 => ?_)
      refine r_callVi (pc := 14) (As := [.int v1]) (c_Go_isGuest X N v1 σ r11 e13) (wsOf_at (rfl : shp 0 = 11) (by decide) rfl) rfl mfX11_154_X11_isGuest hyVX11_isGuest (by decide) (by decide) rfl (Nat.le_of_ble_eq_true rfl) hG dX11_share_14 rfl (fun n12 => ?_)
      refine r_if_ne (pc := 17) (tgt := 25) (by decide) hG dX11_share_17 (fun h14 => ?_) (fun h14 => ?_)
      · exact w_Go_share_J25 N hG v1 σ
      · refine r_aload_n (pc := 20) 0 0 rfl rfl hG dX11_share_20 ?_
        refine r_bW hG (fun r15 s16 e18 => ?_)
        refine r_callVi (pc := 21) (As := []) (c_Go_refuseFarBad X N σ r15 s16 e18) (wsOf_at (rfl : shp 0 = 11) (by decide) rfl) rfl mfX11_222_X11_refuseFarBad hyVX11_refuseFarBad (by decide) (by decide) rfl (Nat.le_of_ble_eq_true rfl) hG dX11_share_21 rfl (fun n17 => ?_)
        exact r_iret (pc := 24) rfl hG dX11_share_24
set_option maxRecDepth 4000 in
theorem w_Go_seen_J39 {X : Cx} {G : GT (Int32 × St)} (N : Nat) (hG : IsG X RX11 cX11_seen 6 3 (some .int) oWI G) (σ : St) : G (Go_seen_J39 N σ) σ 39 [(0, .ref (X.2.1 + 0))] [] := by
  unfold Go_seen_J39
  refine r_aload_n (pc := 39) 0 0 rfl rfl hG dX11_seen_39 ?_
  refine r_bW hG (fun r5 s6 e8 => ?_)
  refine r_callVi (pc := 40) (As := []) (c_Go_refuseBad X N σ r5 s6 e8) (wsOf_at (rfl : shp 0 = 11) (by decide) rfl) rfl mfX11_95_X11_refuseBad hyVX11_refuseBad (by decide) (by decide) rfl (Nat.le_of_ble_eq_true rfl) hG dX11_seen_40 rfl (fun n7 => ?_)
  exact r_iret (pc := 43) rfl hG dX11_seen_43
set_option maxRecDepth 4000 in
theorem c_Go_seen (X : Cx) (N : Nat) (v1 : Int32) (v2 : Int32) (v3 : Int32) (v4 : Int32) (σ : St) (r : Int32) (σ1 : St) (hE : Go_seen N v1 v2 v3 v4 σ = some (r, σ1)) : Ctr X yX11_seen cX11_seen 6 (some .int) 3 [.ref (X.2.1 + 0), .int v1, .int v2, .int v3, .int v4] σ (some (.int r)) σ1 := by
  refine Ctr.of (out := oWI) (E := Go_seen N v1 v2 v3 v4 σ) rfl (Nat.le_of_ble_eq_true rfl) (fun G hG => ?_) (r, σ1) hE
  unfold Go_seen
  refine r_aload_n (pc := 0) 0 0 rfl rfl hG dX11_seen_0 ?_
  refine r_iload_n (pc := 1) 1 1 rfl rfl hG dX11_seen_1 ?_
  refine r_bR hG (fun r1 e3 => ?_)
  refine r_callVi (pc := 2) (As := [.int v1]) (c_Go_isRower X N v1 σ r1 e3) (wsOf_at (rfl : shp 0 = 11) (by decide) rfl) rfl mfX11_157_X11_isRower hyVX11_isRower (by decide) (by decide) rfl (Nat.le_of_ble_eq_true rfl) hG dX11_seen_2 rfl (fun n2 => ?_)
  refine r_if_eq (pc := 5) (tgt := 39) (by decide) hG dX11_seen_5 (fun h4 => ?_) (fun h4 => ?_)
  · exact r_sub [0] rfl hG (w_Go_seen_J39 N hG σ)
  · refine r_iload_n (pc := 8) 2 2 rfl rfl hG dX11_seen_8 ?_
    refine r_iconst (pc := 9) (v := 0) (by decide) hG dX11_seen_9 ?_
    refine r_bipush (pc := 10) (v := 9) (by decide) hG dX11_seen_10 ?_
    refine r_callSi (pc := 12) (As := [.int v2, .int 0, .int 9]) (c_Go_within X v2 0 9 σ) mfX11_91_X11_within hySX11_within (by decide) (by decide) rfl (Nat.le_of_ble_eq_true rfl) hG dX11_seen_12 rfl (fun n10 => ?_)
    refine r_if_eq (pc := 15) (tgt := 39) (by decide) hG dX11_seen_15 (fun h12 => ?_) (fun h12 => ?_)
    · exact r_sub [0] rfl hG (w_Go_seen_J39 N hG σ)
    · refine r_iload_n (pc := 18) 3 3 rfl rfl hG dX11_seen_18 ?_
      refine r_iconst (pc := 19) (v := 0) (by decide) hG dX11_seen_19 ?_
      refine r_bipush (pc := 20) (v := 99) (by decide) hG dX11_seen_20 ?_
      refine r_callSi (pc := 22) (As := [.int v3, .int 0, .int 99]) (c_Go_within X v3 0 99 σ) mfX11_91_X11_within hySX11_within (by decide) (by decide) rfl (Nat.le_of_ble_eq_true rfl) hG dX11_seen_22 rfl (fun n14 => ?_)
      refine r_if_eq (pc := 25) (tgt := 39) (by decide) hG dX11_seen_25 (fun h16 => ?_) (fun h16 => ?_)
      · exact r_sub [0] rfl hG (w_Go_seen_J39 N hG σ)
      · refine r_iload (pc := 28) 4 rfl hG dX11_seen_28 ?_
        refine r_iconst (pc := 30) (v := 0) (by decide) hG dX11_seen_30 ?_
        refine r_bipush (pc := 31) (v := 99) (by decide) hG dX11_seen_31 ?_
        refine r_callSi (pc := 33) (As := [.int v4, .int 0, .int 99]) (c_Go_within X v4 0 99 σ) mfX11_91_X11_within hySX11_within (by decide) (by decide) rfl (Nat.le_of_ble_eq_true rfl) hG dX11_seen_33 rfl (fun n18 => ?_)
        refine r_if_ne (pc := 36) (tgt := 44) (by decide) hG dX11_seen_36 (fun h20 => ?_) (fun h20 => ?_)
        · refine r_aload_n (pc := 44) 0 0 rfl rfl hG dX11_seen_44 ?_
          refine gf11_0 (pc := 45) lk440 hG dX11_seen_45 ?_
          refine gf4_6 (pc := 48) (i := 1) (rfl : shp 1 = 4) lk242 hG dX11_seen_48 ?_
          refine r_astore (pc := 51) (lv' := [(5, .ref (X.2.1 + 6)), (0, .ref (X.2.1 + 0)), (1, .int v1), (2, .int v2), (3, .int v3), (4, .int v4)]) (by decide) rfl hG dX11_seen_51 ?_
          refine r_aload (pc := 53) 0 rfl hG dX11_seen_53 ?_
          refine r_bR hG (fun r21 e23 => ?_)
          refine r_callVi (pc := 55) (As := []) (c_Ta_isFull X N 6 σ (rfl : shp 6 = 9) r21 e23) (wsOf_at (rfl : shp 6 = 9) (by decide) rfl) rfl mfX11_263_X9_isFull hyVX9_isFull (by decide) (by decide) rfl (Nat.le_of_ble_eq_true rfl) hG dX11_seen_55 rfl (fun n22 => ?_)
          refine r_if_eq (pc := 58) (tgt := 66) (by decide) hG dX11_seen_58 (fun h24 => ?_) (fun h24 => ?_)
          · refine r_aload (pc := 66) 0 rfl hG dX11_seen_66 ?_
            refine r_iconst (pc := 68) (v := 0) (by decide) hG dX11_seen_68 ?_
            refine r_iload_n (pc := 69) 2 1 rfl rfl hG dX11_seen_69 ?_
            refine r_bR hG (fun s26 e28 => ?_)
            refine r_callVv (pc := 70) (As := [.int 0, .int v1]) (c_Ta_put X N 6 0 v1 σ (rfl : shp 6 = 9) s26 e28) (wsOf_at (rfl : shp 6 = 9) (by decide) rfl) rfl mfX11_268_X9_put hyVX9_put (by decide) (by decide) rfl (Nat.le_of_ble_eq_true rfl) hG dX11_seen_70 rfl (fun n27 => ?_)
            refine r_aload (pc := 73) 0 rfl hG dX11_seen_73 ?_
            refine r_iconst (pc := 75) (v := 1) (by decide) hG dX11_seen_75 ?_
            refine r_iload_n (pc := 76) 3 2 rfl rfl hG dX11_seen_76 ?_
            refine r_bR hG (fun s30 e32 => ?_)
            refine r_callVv (pc := 77) (As := [.int 1, .int v2]) (c_Ta_put X N 6 1 v2 s26 (rfl : shp 6 = 9) s30 e32) (wsOf_at (rfl : shp 6 = 9) (by decide) rfl) rfl mfX11_268_X9_put hyVX9_put (by decide) (by decide) rfl (Nat.le_of_ble_eq_true rfl) hG dX11_seen_77 rfl (fun n31 => ?_)
            refine r_aload (pc := 80) 0 rfl hG dX11_seen_80 ?_
            refine r_iconst (pc := 82) (v := 2) (by decide) hG dX11_seen_82 ?_
            refine r_iload_n (pc := 83) 4 3 rfl rfl hG dX11_seen_83 ?_
            refine r_bR hG (fun s34 e36 => ?_)
            refine r_callVv (pc := 84) (As := [.int 2, .int v3]) (c_Ta_put X N 6 2 v3 s30 (rfl : shp 6 = 9) s34 e36) (wsOf_at (rfl : shp 6 = 9) (by decide) rfl) rfl mfX11_268_X9_put hyVX9_put (by decide) (by decide) rfl (Nat.le_of_ble_eq_true rfl) hG dX11_seen_84 rfl (fun n35 => ?_)
            refine r_aload (pc := 87) 0 rfl hG dX11_seen_87 ?_
            refine r_iconst (pc := 89) (v := 3) (by decide) hG dX11_seen_89 ?_
            refine r_iload (pc := 90) 5 rfl hG dX11_seen_90 ?_
            refine r_bR hG (fun s38 e40 => ?_)
            refine r_callVv (pc := 92) (As := [.int 3, .int v4]) (c_Ta_put X N 6 3 v4 s34 (rfl : shp 6 = 9) s38 e40) (wsOf_at (rfl : shp 6 = 9) (by decide) rfl) rfl mfX11_268_X9_put hyVX9_put (by decide) (by decide) rfl (Nat.le_of_ble_eq_true rfl) hG dX11_seen_92 rfl (fun n39 => ?_)
            refine r_aload (pc := 95) 0 rfl hG dX11_seen_95 ?_
            refine r_bW hG (fun r41 s42 e44 => ?_)
            refine r_callVi (pc := 97) (As := []) (c_Ta_keep X N 6 s38 (rfl : shp 6 = 9) r41 s42 e44) (wsOf_at (rfl : shp 6 = 9) (by decide) rfl) rfl mfX11_271_X9_keep hyVX9_keep (by decide) (by decide) rfl (Nat.le_of_ble_eq_true rfl) hG dX11_seen_97 rfl (fun n43 => ?_)
            exact r_iret (pc := 100) rfl hG dX11_seen_100
          · refine r_aload_n (pc := 61) 1 0 rfl rfl hG dX11_seen_61 ?_
            refine r_bW hG (fun r45 s46 e48 => ?_)
            refine r_callVi (pc := 62) (As := []) (c_Go_refuseFull X N σ r45 s46 e48) (wsOf_at (rfl : shp 0 = 11) (by decide) rfl) rfl mfX11_130_X11_refuseFull hyVX11_refuseFull (by decide) (by decide) rfl (Nat.le_of_ble_eq_true rfl) hG dX11_seen_62 rfl (fun n47 => ?_)
            exact r_iret (pc := 65) rfl hG dX11_seen_65
        · exact r_sub [0] rfl hG (w_Go_seen_J39 N hG σ)
set_option maxRecDepth 4000 in
theorem c_Go_tongues (X : Cx) (N : Nat) (v1 : Int32) (σ : St) (r : Int32) (σ1 : St) (hE : Go_tongues N v1 σ = some (r, σ1)) : Ctr X yX11_tongues cX11_tongues 2 (some .int) 9 [.ref (X.2.1 + 0), .int v1] σ (some (.int r)) σ1 := by
  refine Ctr.of (out := oWI) (E := Go_tongues N v1 σ) rfl (Nat.le_of_ble_eq_true rfl) (fun G hG => ?_) (r, σ1) hE
  unfold Go_tongues
  refine r_aload_n (pc := 0) 0 0 rfl rfl hG dX11_tongues_0 ?_
  refine r_iload_n (pc := 1) 1 1 rfl rfl hG dX11_tongues_1 ?_
  refine r_bR hG (fun r1 e3 => ?_)
  refine r_callVi (pc := 2) (As := [.int v1]) (c_Go_isRower X N v1 σ r1 e3) (wsOf_at (rfl : shp 0 = 11) (by decide) rfl) rfl mfX11_157_X11_isRower hyVX11_isRower (by decide) (by decide) rfl (Nat.le_of_ble_eq_true rfl) hG dX11_tongues_2 rfl (fun n2 => ?_)
  refine r_if_eq (pc := 5) (tgt := 23) (by decide) hG dX11_tongues_5 (fun h4 => ?_) (fun h4 => ?_)
  · refine r_aload_n (pc := 23) 0 0 rfl rfl hG dX11_tongues_23 ?_
    refine r_bW hG (fun r5 s6 e8 => ?_)
    refine r_callVi (pc := 24) (As := []) (c_Go_refuseBad X N σ r5 s6 e8) (wsOf_at (rfl : shp 0 = 11) (by decide) rfl) rfl mfX11_95_X11_refuseBad hyVX11_refuseBad (by decide) (by decide) rfl (Nat.le_of_ble_eq_true rfl) hG dX11_tongues_24 rfl (fun n7 => ?_)
    exact r_iret (pc := 27) rfl hG dX11_tongues_27
  · refine r_aload_n (pc := 8) 0 0 rfl rfl hG dX11_tongues_8 ?_
    refine gf11_11 (pc := 9) lk451 hG dX11_tongues_9 ?_
    refine r_aload_n (pc := 12) 0 0 rfl rfl hG dX11_tongues_12 ?_
    refine gf11_0 (pc := 13) lk440 hG dX11_tongues_13 ?_
    refine r_iload_n (pc := 16) 1 1 rfl rfl hG dX11_tongues_16 ?_
    refine r_bR hG (fun r9 e11 => ?_)
    refine r_callVi (pc := 17) (As := [.ref (X.2.1 + 1), .int v1]) (c_Gs_tonguesLeft X N 1 v1 σ (rfl : shp 1 = 4) r9 e11) (wsOf_at (rfl : shp 64 = 0) (by decide) rfl) rfl mfX11_273_X0_tonguesLeft hyVX0_tonguesLeft (by decide) (by decide) rfl (Nat.le_of_ble_eq_true rfl) hG dX11_tongues_17 rfl (fun n10 => ?_)
    refine r_goto (pc := 20) (tgt := 27) (by decide) hG dX11_tongues_20 ?_
    exact r_iret (pc := 27) rfl hG dX11_tongues_27
set_option maxRecDepth 4000 in
theorem c_Go_tell (X : Cx) (N : Nat) (v1 : Int32) (σ : St) (r : Int32) (σ1 : St) (hE : Go_tell N v1 σ = some (r, σ1)) : Ctr X yX11_tell cX11_tell 2 (some .int) 10 [.ref (X.2.1 + 0), .int v1] σ (some (.int r)) σ1 := by
  refine Ctr.of (out := oWI) (E := Go_tell N v1 σ) rfl (Nat.le_of_ble_eq_true rfl) (fun G hG => ?_) (r, σ1) hE
  unfold Go_tell
  refine r_aload_n (pc := 0) 0 0 rfl rfl hG dX11_tell_0 ?_
  refine r_iload_n (pc := 1) 1 1 rfl rfl hG dX11_tell_1 ?_
  refine r_bR hG (fun r1 e3 => ?_)
  refine r_callVi (pc := 2) (As := [.int v1]) (c_Go_isRower X N v1 σ r1 e3) (wsOf_at (rfl : shp 0 = 11) (by decide) rfl) rfl mfX11_157_X11_isRower hyVX11_isRower (by decide) (by decide) rfl (Nat.le_of_ble_eq_true rfl) hG dX11_tell_2 rfl (fun n2 => ?_)
  refine r_if_eq (pc := 5) (tgt := 23) (by decide) hG dX11_tell_5 (fun h4 => ?_) (fun h4 => ?_)
  · refine r_aload_n (pc := 23) 0 0 rfl rfl hG dX11_tell_23 ?_
    refine r_bW hG (fun r5 s6 e8 => ?_)
    refine r_callVi (pc := 24) (As := []) (c_Go_refuseBad X N σ r5 s6 e8) (wsOf_at (rfl : shp 0 = 11) (by decide) rfl) rfl mfX11_95_X11_refuseBad hyVX11_refuseBad (by decide) (by decide) rfl (Nat.le_of_ble_eq_true rfl) hG dX11_tell_24 rfl (fun n7 => ?_)
    exact r_iret (pc := 27) rfl hG dX11_tell_27
  · refine r_aload_n (pc := 8) 0 0 rfl rfl hG dX11_tell_8 ?_
    refine gf11_11 (pc := 9) lk451 hG dX11_tell_9 ?_
    refine r_aload_n (pc := 12) 0 0 rfl rfl hG dX11_tell_12 ?_
    refine gf11_0 (pc := 13) lk440 hG dX11_tell_13 ?_
    refine r_iload_n (pc := 16) 1 1 rfl rfl hG dX11_tell_16 ?_
    refine r_bW hG (fun r9 s10 e12 => ?_)
    refine r_callVi (pc := 17) (As := [.ref (X.2.1 + 1), .int v1]) (c_Gs_bestTelling X N 1 v1 σ (rfl : shp 1 = 4) r9 s10 e12) (wsOf_at (rfl : shp 64 = 0) (by decide) rfl) rfl mfX11_277_X0_bestTelling hyVX0_bestTelling (by decide) (by decide) rfl (Nat.le_of_ble_eq_true rfl) hG dX11_tell_17 rfl (fun n11 => ?_)
    refine r_goto (pc := 20) (tgt := 27) (by decide) hG dX11_tell_20 ?_
    exact r_iret (pc := 27) rfl hG dX11_tell_27
set_option maxRecDepth 4000 in
theorem w_Go_note_J38 {X : Cx} {G : GT (Int32 × St)} (N : Nat) (hG : IsG X RX11 cX11_note 8 3 (some .int) oWI G) (σ : St) : G (Go_note_J38 N σ) σ 38 [(0, .ref (X.2.1 + 0))] [] := by
  unfold Go_note_J38
  refine r_aload_n (pc := 38) 0 0 rfl rfl hG dX11_note_38 ?_
  refine r_bW hG (fun r5 s6 e8 => ?_)
  refine r_callVi (pc := 39) (As := []) (c_Go_refuseBad X N σ r5 s6 e8) (wsOf_at (rfl : shp 0 = 11) (by decide) rfl) rfl mfX11_95_X11_refuseBad hyVX11_refuseBad (by decide) (by decide) rfl (Nat.le_of_ble_eq_true rfl) hG dX11_note_39 rfl (fun n7 => ?_)
  exact r_iret (pc := 42) rfl hG dX11_note_42
set_option maxRecDepth 4000 in
theorem w_Go_note_J65 {X : Cx} {G : GT (Int32 × St)} (N : Nat) (hG : IsG X RX11 cX11_note 8 3 (some .int) oWI G) (σ : St) : G (Go_note_J65 N σ) σ 65 [(0, .ref (X.2.1 + 0))] [] := by
  unfold Go_note_J65
  refine r_aload_n (pc := 65) 0 0 rfl rfl hG dX11_note_65 ?_
  refine r_bW hG (fun r25 s26 e28 => ?_)
  refine r_callVi (pc := 66) (As := []) (c_Go_refuseBad X N σ r25 s26 e28) (wsOf_at (rfl : shp 0 = 11) (by decide) rfl) rfl mfX11_95_X11_refuseBad hyVX11_refuseBad (by decide) (by decide) rfl (Nat.le_of_ble_eq_true rfl) hG dX11_note_66 rfl (fun n27 => ?_)
  exact r_iret (pc := 69) rfl hG dX11_note_69
set_option maxRecDepth 4000 in
theorem c_Go_note (X : Cx) (N : Nat) (v1 : Int32) (v2 : Int32) (v3 : Int32) (v4 : Int32) (v5 : Int32) (v6 : Int32) (σ : St) (r : Int32) (σ1 : St) (hE : Go_note N v1 v2 v3 v4 v5 v6 σ = some (r, σ1)) : Ctr X yX11_note cX11_note 8 (some .int) 3 [.ref (X.2.1 + 0), .int v1, .int v2, .int v3, .int v4, .int v5, .int v6] σ (some (.int r)) σ1 := by
  refine Ctr.of (out := oWI) (E := Go_note N v1 v2 v3 v4 v5 v6 σ) rfl (Nat.le_of_ble_eq_true rfl) (fun G hG => ?_) (r, σ1) hE
  unfold Go_note
  refine r_aload_n (pc := 0) 0 0 rfl rfl hG dX11_note_0 ?_
  refine r_iload_n (pc := 1) 1 1 rfl rfl hG dX11_note_1 ?_
  refine r_bR hG (fun r1 e3 => ?_)
  refine r_callVi (pc := 2) (As := [.int v1]) (c_Go_isGuest X N v1 σ r1 e3) (wsOf_at (rfl : shp 0 = 11) (by decide) rfl) rfl mfX11_154_X11_isGuest hyVX11_isGuest (by decide) (by decide) rfl (Nat.le_of_ble_eq_true rfl) hG dX11_note_2 rfl (fun n2 => ?_)
  refine r_if_eq (pc := 5) (tgt := 38) (by decide) hG dX11_note_5 (fun h4 => ?_) (fun h4 => ?_)
  · exact r_sub [0] rfl hG (w_Go_note_J38 N hG σ)
  · refine r_iload_n (pc := 8) 2 2 rfl rfl hG dX11_note_8 ?_
    refine r_iconst (pc := 9) (v := 1) (by decide) hG dX11_note_9 ?_
    refine r_bipush (pc := 10) (v := 40) (by decide) hG dX11_note_10 ?_
    refine r_callSi (pc := 12) (As := [.int v2, .int 1, .int 40]) (c_Go_within X v2 1 40 σ) mfX11_91_X11_within hySX11_within (by decide) (by decide) rfl (Nat.le_of_ble_eq_true rfl) hG dX11_note_12 rfl (fun n10 => ?_)
    refine r_if_eq (pc := 15) (tgt := 38) (by decide) hG dX11_note_15 (fun h12 => ?_) (fun h12 => ?_)
    · exact r_sub [0] rfl hG (w_Go_note_J38 N hG σ)
    · refine r_iload_n (pc := 18) 3 3 rfl rfl hG dX11_note_18 ?_
      refine r_iconst (pc := 19) (v := 0) (by decide) hG dX11_note_19 ?_
      refine r_iload_n (pc := 20) 2 2 rfl rfl hG dX11_note_20 ?_
      refine r_callSi (pc := 21) (As := [.int v3, .int 0, .int v2]) (c_Go_within X v3 0 v2 σ) mfX11_91_X11_within hySX11_within (by decide) (by decide) rfl (Nat.le_of_ble_eq_true rfl) hG dX11_note_21 rfl (fun n14 => ?_)
      refine r_if_eq (pc := 24) (tgt := 38) (by decide) hG dX11_note_24 (fun h16 => ?_) (fun h16 => ?_)
      · exact r_sub [0] rfl hG (w_Go_note_J38 N hG σ)
      · refine r_iload (pc := 27) 4 rfl hG dX11_note_27 ?_
        refine r_iconst (pc := 29) (v := 0) (by decide) hG dX11_note_29 ?_
        refine r_bipush (pc := 30) (v := 20) (by decide) hG dX11_note_30 ?_
        refine r_callSi (pc := 32) (As := [.int v4, .int 0, .int 20]) (c_Go_within X v4 0 20 σ) mfX11_91_X11_within hySX11_within (by decide) (by decide) rfl (Nat.le_of_ble_eq_true rfl) hG dX11_note_32 rfl (fun n18 => ?_)
        refine r_if_ne (pc := 35) (tgt := 43) (by decide) hG dX11_note_35 (fun h20 => ?_) (fun h20 => ?_)
        · refine r_iload (pc := 43) 5 rfl hG dX11_note_43 ?_
          refine r_iconst (pc := 45) (v := 0) (by decide) hG dX11_note_45 ?_
          refine r_bipush (pc := 46) (v := 9) (by decide) hG dX11_note_46 ?_
          refine r_callSi (pc := 48) (As := [.int v5, .int 0, .int 9]) (c_Go_within X v5 0 9 σ) mfX11_91_X11_within hySX11_within (by decide) (by decide) rfl (Nat.le_of_ble_eq_true rfl) hG dX11_note_48 rfl (fun n22 => ?_)
          refine r_if_eq (pc := 51) (tgt := 65) (by decide) hG dX11_note_51 (fun h24 => ?_) (fun h24 => ?_)
          · exact r_sub [0] rfl hG (w_Go_note_J65 N hG σ)
          · refine r_iload (pc := 54) 6 rfl hG dX11_note_54 ?_
            refine r_iconst (pc := 56) (v := 0) (by decide) hG dX11_note_56 ?_
            refine r_bipush (pc := 57) (v := 60) (by decide) hG dX11_note_57 ?_
            refine r_callSi (pc := 59) (As := [.int v6, .int 0, .int 60]) (c_Go_within X v6 0 60 σ) mfX11_91_X11_within hySX11_within (by decide) (by decide) rfl (Nat.le_of_ble_eq_true rfl) hG dX11_note_59 rfl (fun n30 => ?_)
            refine r_if_ne (pc := 62) (tgt := 70) (by decide) hG dX11_note_62 (fun h32 => ?_) (fun h32 => ?_)
            · refine r_aload_n (pc := 70) 0 0 rfl rfl hG dX11_note_70 ?_
              refine gf11_0 (pc := 71) lk440 hG dX11_note_71 ?_
              refine gf4_7 (pc := 74) (i := 1) (rfl : shp 1 = 4) lk245 hG dX11_note_74 ?_
              refine r_astore (pc := 77) (lv' := [(7, .ref (X.2.1 + 8)), (0, .ref (X.2.1 + 0)), (1, .int v1), (2, .int v2), (3, .int v3), (4, .int v4), (5, .int v5), (6, .int v6)]) (by decide) rfl hG dX11_note_77 ?_
              refine r_aload (pc := 79) 0 rfl hG dX11_note_79 ?_
              refine r_bR hG (fun r33 e35 => ?_)
              refine r_callVi (pc := 81) (As := []) (c_Ta_isFull X N 8 σ (rfl : shp 8 = 9) r33 e35) (wsOf_at (rfl : shp 8 = 9) (by decide) rfl) rfl mfX11_263_X9_isFull hyVX9_isFull (by decide) (by decide) rfl (Nat.le_of_ble_eq_true rfl) hG dX11_note_81 rfl (fun n34 => ?_)
              refine r_if_eq (pc := 84) (tgt := 92) (by decide) hG dX11_note_84 (fun h36 => ?_) (fun h36 => ?_)
              · refine r_aload (pc := 92) 0 rfl hG dX11_note_92 ?_
                refine r_iconst (pc := 94) (v := 0) (by decide) hG dX11_note_94 ?_
                refine r_iload_n (pc := 95) 2 1 rfl rfl hG dX11_note_95 ?_
                refine r_bR hG (fun s38 e40 => ?_)
                refine r_callVv (pc := 96) (As := [.int 0, .int v1]) (c_Ta_put X N 8 0 v1 σ (rfl : shp 8 = 9) s38 e40) (wsOf_at (rfl : shp 8 = 9) (by decide) rfl) rfl mfX11_268_X9_put hyVX9_put (by decide) (by decide) rfl (Nat.le_of_ble_eq_true rfl) hG dX11_note_96 rfl (fun n39 => ?_)
                refine r_aload (pc := 99) 0 rfl hG dX11_note_99 ?_
                refine r_iconst (pc := 101) (v := 1) (by decide) hG dX11_note_101 ?_
                refine r_iload_n (pc := 102) 3 2 rfl rfl hG dX11_note_102 ?_
                refine r_bR hG (fun s42 e44 => ?_)
                refine r_callVv (pc := 103) (As := [.int 1, .int v2]) (c_Ta_put X N 8 1 v2 s38 (rfl : shp 8 = 9) s42 e44) (wsOf_at (rfl : shp 8 = 9) (by decide) rfl) rfl mfX11_268_X9_put hyVX9_put (by decide) (by decide) rfl (Nat.le_of_ble_eq_true rfl) hG dX11_note_103 rfl (fun n43 => ?_)
                refine r_aload (pc := 106) 0 rfl hG dX11_note_106 ?_
                refine r_iconst (pc := 108) (v := 2) (by decide) hG dX11_note_108 ?_
                refine r_iload_n (pc := 109) 4 3 rfl rfl hG dX11_note_109 ?_
                refine r_bR hG (fun s46 e48 => ?_)
                refine r_callVv (pc := 110) (As := [.int 2, .int v3]) (c_Ta_put X N 8 2 v3 s42 (rfl : shp 8 = 9) s46 e48) (wsOf_at (rfl : shp 8 = 9) (by decide) rfl) rfl mfX11_268_X9_put hyVX9_put (by decide) (by decide) rfl (Nat.le_of_ble_eq_true rfl) hG dX11_note_110 rfl (fun n47 => ?_)
                refine r_aload (pc := 113) 0 rfl hG dX11_note_113 ?_
                refine r_iconst (pc := 115) (v := 3) (by decide) hG dX11_note_115 ?_
                refine r_iload (pc := 116) 5 rfl hG dX11_note_116 ?_
                refine r_bR hG (fun s50 e52 => ?_)
                refine r_callVv (pc := 118) (As := [.int 3, .int v4]) (c_Ta_put X N 8 3 v4 s46 (rfl : shp 8 = 9) s50 e52) (wsOf_at (rfl : shp 8 = 9) (by decide) rfl) rfl mfX11_268_X9_put hyVX9_put (by decide) (by decide) rfl (Nat.le_of_ble_eq_true rfl) hG dX11_note_118 rfl (fun n51 => ?_)
                refine r_aload (pc := 121) 0 rfl hG dX11_note_121 ?_
                refine r_iconst (pc := 123) (v := 4) (by decide) hG dX11_note_123 ?_
                refine r_iload (pc := 124) 6 rfl hG dX11_note_124 ?_
                refine r_bR hG (fun s54 e56 => ?_)
                refine r_callVv (pc := 126) (As := [.int 4, .int v5]) (c_Ta_put X N 8 4 v5 s50 (rfl : shp 8 = 9) s54 e56) (wsOf_at (rfl : shp 8 = 9) (by decide) rfl) rfl mfX11_268_X9_put hyVX9_put (by decide) (by decide) rfl (Nat.le_of_ble_eq_true rfl) hG dX11_note_126 rfl (fun n55 => ?_)
                refine r_aload (pc := 129) 0 rfl hG dX11_note_129 ?_
                refine r_iconst (pc := 131) (v := 5) (by decide) hG dX11_note_131 ?_
                refine r_iload (pc := 132) 7 rfl hG dX11_note_132 ?_
                refine r_bR hG (fun s58 e60 => ?_)
                refine r_callVv (pc := 134) (As := [.int 5, .int v6]) (c_Ta_put X N 8 5 v6 s54 (rfl : shp 8 = 9) s58 e60) (wsOf_at (rfl : shp 8 = 9) (by decide) rfl) rfl mfX11_268_X9_put hyVX9_put (by decide) (by decide) rfl (Nat.le_of_ble_eq_true rfl) hG dX11_note_134 rfl (fun n59 => ?_)
                refine r_aload (pc := 137) 0 rfl hG dX11_note_137 ?_
                refine r_bW hG (fun r61 s62 e64 => ?_)
                refine r_callVi (pc := 139) (As := []) (c_Ta_keep X N 8 s58 (rfl : shp 8 = 9) r61 s62 e64) (wsOf_at (rfl : shp 8 = 9) (by decide) rfl) rfl mfX11_271_X9_keep hyVX9_keep (by decide) (by decide) rfl (Nat.le_of_ble_eq_true rfl) hG dX11_note_139 rfl (fun n63 => ?_)
                exact r_iret (pc := 142) rfl hG dX11_note_142
              · refine r_aload_n (pc := 87) 1 0 rfl rfl hG dX11_note_87 ?_
                refine r_bW hG (fun r65 s66 e68 => ?_)
                refine r_callVi (pc := 88) (As := []) (c_Go_refuseFull X N σ r65 s66 e68) (wsOf_at (rfl : shp 0 = 11) (by decide) rfl) rfl mfX11_130_X11_refuseFull hyVX11_refuseFull (by decide) (by decide) rfl (Nat.le_of_ble_eq_true rfl) hG dX11_note_88 rfl (fun n67 => ?_)
                exact r_iret (pc := 91) rfl hG dX11_note_91
            · exact r_sub [0] rfl hG (w_Go_note_J65 N hG σ)
        · exact r_sub [0] rfl hG (w_Go_note_J38 N hG σ)
set_option maxRecDepth 4000 in
theorem w_Go_mark_J28 {X : Cx} {G : GT (Int32 × St)} (N : Nat) (hG : IsG X RX11 cX11_mark 7 3 (some .int) oWI G) (σ : St) : G (Go_mark_J28 N σ) σ 28 [(0, .ref (X.2.1 + 0))] [] := by
  unfold Go_mark_J28
  refine r_aload_n (pc := 28) 0 0 rfl rfl hG dX11_mark_28 ?_
  refine r_bW hG (fun r5 s6 e8 => ?_)
  refine r_callVi (pc := 29) (As := []) (c_Go_refuseBad X N σ r5 s6 e8) (wsOf_at (rfl : shp 0 = 11) (by decide) rfl) rfl mfX11_95_X11_refuseBad hyVX11_refuseBad (by decide) (by decide) rfl (Nat.le_of_ble_eq_true rfl) hG dX11_mark_29 rfl (fun n7 => ?_)
  exact r_iret (pc := 32) rfl hG dX11_mark_32
set_option maxRecDepth 4000 in
theorem w_Go_mark_J55 {X : Cx} {G : GT (Int32 × St)} (N : Nat) (hG : IsG X RX11 cX11_mark 7 3 (some .int) oWI G) (σ : St) : G (Go_mark_J55 N σ) σ 55 [(0, .ref (X.2.1 + 0))] [] := by
  unfold Go_mark_J55
  refine r_aload_n (pc := 55) 0 0 rfl rfl hG dX11_mark_55 ?_
  refine r_bW hG (fun r21 s22 e24 => ?_)
  refine r_callVi (pc := 56) (As := []) (c_Go_refuseBad X N σ r21 s22 e24) (wsOf_at (rfl : shp 0 = 11) (by decide) rfl) rfl mfX11_95_X11_refuseBad hyVX11_refuseBad (by decide) (by decide) rfl (Nat.le_of_ble_eq_true rfl) hG dX11_mark_56 rfl (fun n23 => ?_)
  exact r_iret (pc := 59) rfl hG dX11_mark_59
set_option maxRecDepth 4000 in
theorem c_Go_mark (X : Cx) (N : Nat) (v1 : Int32) (v2 : Int32) (v3 : Int32) (v4 : Int32) (v5 : Int32) (σ : St) (r : Int32) (σ1 : St) (hE : Go_mark N v1 v2 v3 v4 v5 σ = some (r, σ1)) : Ctr X yX11_mark cX11_mark 7 (some .int) 3 [.ref (X.2.1 + 0), .int v1, .int v2, .int v3, .int v4, .int v5] σ (some (.int r)) σ1 := by
  refine Ctr.of (out := oWI) (E := Go_mark N v1 v2 v3 v4 v5 σ) rfl (Nat.le_of_ble_eq_true rfl) (fun G hG => ?_) (r, σ1) hE
  unfold Go_mark
  refine r_aload_n (pc := 0) 0 0 rfl rfl hG dX11_mark_0 ?_
  refine r_iload_n (pc := 1) 1 1 rfl rfl hG dX11_mark_1 ?_
  refine r_bR hG (fun r1 e3 => ?_)
  refine r_callVi (pc := 2) (As := [.int v1]) (c_Go_isRower X N v1 σ r1 e3) (wsOf_at (rfl : shp 0 = 11) (by decide) rfl) rfl mfX11_157_X11_isRower hyVX11_isRower (by decide) (by decide) rfl (Nat.le_of_ble_eq_true rfl) hG dX11_mark_2 rfl (fun n2 => ?_)
  refine r_if_eq (pc := 5) (tgt := 28) (by decide) hG dX11_mark_5 (fun h4 => ?_) (fun h4 => ?_)
  · exact r_sub [0] rfl hG (w_Go_mark_J28 N hG σ)
  · refine r_iload_n (pc := 8) 2 2 rfl rfl hG dX11_mark_8 ?_
    refine r_iconst (pc := 9) (v := 0) (by decide) hG dX11_mark_9 ?_
    refine r_bipush (pc := 10) (v := 9) (by decide) hG dX11_mark_10 ?_
    refine r_callSi (pc := 12) (As := [.int v2, .int 0, .int 9]) (c_Go_within X v2 0 9 σ) mfX11_91_X11_within hySX11_within (by decide) (by decide) rfl (Nat.le_of_ble_eq_true rfl) hG dX11_mark_12 rfl (fun n10 => ?_)
    refine r_if_eq (pc := 15) (tgt := 28) (by decide) hG dX11_mark_15 (fun h12 => ?_) (fun h12 => ?_)
    · exact r_sub [0] rfl hG (w_Go_mark_J28 N hG σ)
    · refine r_iload_n (pc := 18) 3 3 rfl rfl hG dX11_mark_18 ?_
      refine r_iconst (pc := 19) (v := 0) (by decide) hG dX11_mark_19 ?_
      refine r_bipush (pc := 20) (v := 9) (by decide) hG dX11_mark_20 ?_
      refine r_callSi (pc := 22) (As := [.int v3, .int 0, .int 9]) (c_Go_within X v3 0 9 σ) mfX11_91_X11_within hySX11_within (by decide) (by decide) rfl (Nat.le_of_ble_eq_true rfl) hG dX11_mark_22 rfl (fun n14 => ?_)
      refine r_if_ne (pc := 25) (tgt := 33) (by decide) hG dX11_mark_25 (fun h16 => ?_) (fun h16 => ?_)
      · refine r_iload (pc := 33) 4 rfl hG dX11_mark_33 ?_
        refine r_iconst (pc := 35) (v := 0) (by decide) hG dX11_mark_35 ?_
        refine r_bipush (pc := 36) (v := 99) (by decide) hG dX11_mark_36 ?_
        refine r_callSi (pc := 38) (As := [.int v4, .int 0, .int 99]) (c_Go_within X v4 0 99 σ) mfX11_91_X11_within hySX11_within (by decide) (by decide) rfl (Nat.le_of_ble_eq_true rfl) hG dX11_mark_38 rfl (fun n18 => ?_)
        refine r_if_eq (pc := 41) (tgt := 55) (by decide) hG dX11_mark_41 (fun h20 => ?_) (fun h20 => ?_)
        · exact r_sub [0] rfl hG (w_Go_mark_J55 N hG σ)
        · refine r_iload (pc := 44) 5 rfl hG dX11_mark_44 ?_
          refine r_iconst (pc := 46) (v := 0) (by decide) hG dX11_mark_46 ?_
          refine r_bipush (pc := 47) (v := 99) (by decide) hG dX11_mark_47 ?_
          refine r_callSi (pc := 49) (As := [.int v5, .int 0, .int 99]) (c_Go_within X v5 0 99 σ) mfX11_91_X11_within hySX11_within (by decide) (by decide) rfl (Nat.le_of_ble_eq_true rfl) hG dX11_mark_49 rfl (fun n26 => ?_)
          refine r_if_ne (pc := 52) (tgt := 60) (by decide) hG dX11_mark_52 (fun h28 => ?_) (fun h28 => ?_)
          · refine r_aload_n (pc := 60) 0 0 rfl rfl hG dX11_mark_60 ?_
            refine gf11_0 (pc := 61) lk440 hG dX11_mark_61 ?_
            refine gf4_8 (pc := 64) (i := 1) (rfl : shp 1 = 4) lk248 hG dX11_mark_64 ?_
            refine r_astore (pc := 67) (lv' := [(6, .ref (X.2.1 + 10)), (0, .ref (X.2.1 + 0)), (1, .int v1), (2, .int v2), (3, .int v3), (4, .int v4), (5, .int v5)]) (by decide) rfl hG dX11_mark_67 ?_
            refine r_aload (pc := 69) 0 rfl hG dX11_mark_69 ?_
            refine r_bR hG (fun r29 e31 => ?_)
            refine r_callVi (pc := 71) (As := []) (c_Ta_isFull X N 10 σ (rfl : shp 10 = 9) r29 e31) (wsOf_at (rfl : shp 10 = 9) (by decide) rfl) rfl mfX11_263_X9_isFull hyVX9_isFull (by decide) (by decide) rfl (Nat.le_of_ble_eq_true rfl) hG dX11_mark_71 rfl (fun n30 => ?_)
            refine r_if_eq (pc := 74) (tgt := 82) (by decide) hG dX11_mark_74 (fun h32 => ?_) (fun h32 => ?_)
            · refine r_aload (pc := 82) 0 rfl hG dX11_mark_82 ?_
              refine r_iconst (pc := 84) (v := 0) (by decide) hG dX11_mark_84 ?_
              refine r_iload_n (pc := 85) 2 1 rfl rfl hG dX11_mark_85 ?_
              refine r_bR hG (fun s34 e36 => ?_)
              refine r_callVv (pc := 86) (As := [.int 0, .int v1]) (c_Ta_put X N 10 0 v1 σ (rfl : shp 10 = 9) s34 e36) (wsOf_at (rfl : shp 10 = 9) (by decide) rfl) rfl mfX11_268_X9_put hyVX9_put (by decide) (by decide) rfl (Nat.le_of_ble_eq_true rfl) hG dX11_mark_86 rfl (fun n35 => ?_)
              refine r_aload (pc := 89) 0 rfl hG dX11_mark_89 ?_
              refine r_iconst (pc := 91) (v := 1) (by decide) hG dX11_mark_91 ?_
              refine r_iload_n (pc := 92) 3 2 rfl rfl hG dX11_mark_92 ?_
              refine r_bR hG (fun s38 e40 => ?_)
              refine r_callVv (pc := 93) (As := [.int 1, .int v2]) (c_Ta_put X N 10 1 v2 s34 (rfl : shp 10 = 9) s38 e40) (wsOf_at (rfl : shp 10 = 9) (by decide) rfl) rfl mfX11_268_X9_put hyVX9_put (by decide) (by decide) rfl (Nat.le_of_ble_eq_true rfl) hG dX11_mark_93 rfl (fun n39 => ?_)
              refine r_aload (pc := 96) 0 rfl hG dX11_mark_96 ?_
              refine r_iconst (pc := 98) (v := 2) (by decide) hG dX11_mark_98 ?_
              refine r_iload_n (pc := 99) 4 3 rfl rfl hG dX11_mark_99 ?_
              refine r_bR hG (fun s42 e44 => ?_)
              refine r_callVv (pc := 100) (As := [.int 2, .int v3]) (c_Ta_put X N 10 2 v3 s38 (rfl : shp 10 = 9) s42 e44) (wsOf_at (rfl : shp 10 = 9) (by decide) rfl) rfl mfX11_268_X9_put hyVX9_put (by decide) (by decide) rfl (Nat.le_of_ble_eq_true rfl) hG dX11_mark_100 rfl (fun n43 => ?_)
              refine r_aload (pc := 103) 0 rfl hG dX11_mark_103 ?_
              refine r_iconst (pc := 105) (v := 3) (by decide) hG dX11_mark_105 ?_
              refine r_iload (pc := 106) 5 rfl hG dX11_mark_106 ?_
              refine r_bR hG (fun s46 e48 => ?_)
              refine r_callVv (pc := 108) (As := [.int 3, .int v4]) (c_Ta_put X N 10 3 v4 s42 (rfl : shp 10 = 9) s46 e48) (wsOf_at (rfl : shp 10 = 9) (by decide) rfl) rfl mfX11_268_X9_put hyVX9_put (by decide) (by decide) rfl (Nat.le_of_ble_eq_true rfl) hG dX11_mark_108 rfl (fun n47 => ?_)
              refine r_aload (pc := 111) 0 rfl hG dX11_mark_111 ?_
              refine r_iconst (pc := 113) (v := 4) (by decide) hG dX11_mark_113 ?_
              refine r_iload (pc := 114) 6 rfl hG dX11_mark_114 ?_
              refine r_bR hG (fun s50 e52 => ?_)
              refine r_callVv (pc := 116) (As := [.int 4, .int v5]) (c_Ta_put X N 10 4 v5 s46 (rfl : shp 10 = 9) s50 e52) (wsOf_at (rfl : shp 10 = 9) (by decide) rfl) rfl mfX11_268_X9_put hyVX9_put (by decide) (by decide) rfl (Nat.le_of_ble_eq_true rfl) hG dX11_mark_116 rfl (fun n51 => ?_)
              refine r_aload (pc := 119) 0 rfl hG dX11_mark_119 ?_
              refine r_bW hG (fun r53 s54 e56 => ?_)
              refine r_callVi (pc := 121) (As := []) (c_Ta_keep X N 10 s50 (rfl : shp 10 = 9) r53 s54 e56) (wsOf_at (rfl : shp 10 = 9) (by decide) rfl) rfl mfX11_271_X9_keep hyVX9_keep (by decide) (by decide) rfl (Nat.le_of_ble_eq_true rfl) hG dX11_mark_121 rfl (fun n55 => ?_)
              exact r_iret (pc := 124) rfl hG dX11_mark_124
            · refine r_aload_n (pc := 77) 1 0 rfl rfl hG dX11_mark_77 ?_
              refine r_bW hG (fun r57 s58 e60 => ?_)
              refine r_callVi (pc := 78) (As := []) (c_Go_refuseFull X N σ r57 s58 e60) (wsOf_at (rfl : shp 0 = 11) (by decide) rfl) rfl mfX11_130_X11_refuseFull hyVX11_refuseFull (by decide) (by decide) rfl (Nat.le_of_ble_eq_true rfl) hG dX11_mark_78 rfl (fun n59 => ?_)
              exact r_iret (pc := 81) rfl hG dX11_mark_81
          · exact r_sub [0] rfl hG (w_Go_mark_J55 N hG σ)
      · exact r_sub [0] rfl hG (w_Go_mark_J28 N hG σ)
set_option maxRecDepth 4000 in
theorem w_Go_forget_J50 {X : Cx} {G : GT (Int32 × St)} (N : Nat) (hG : IsG X RX11 cX11_forget 4 2 (some .int) oWI G) (w0 : Nat) (σ : St) (hw0 : shp w0 = 9) : G (Go_forget_J50 N w0 σ) σ 50 [] [.ref (X.2.1 + w0)] := by
  unfold Go_forget_J50
  refine r_astore_n (pc := 50) (lv' := [(2, .ref (X.2.1 + w0))]) 2 rfl (by decide) rfl hG dX11_forget_50 ?_
  refine r_aload_n (pc := 51) 0 2 rfl rfl hG dX11_forget_51 ?_
  refine gf9_3 (pc := 52) (i := w0) hw0 lk124 hG dX11_forget_52 ?_
  refine r_bI hG (fun x7 => ?_)
  refine r_istore_n (pc := 55) (lv' := [(3, .int x7), (2, .ref (X.2.1 + w0))]) 3 rfl (by decide) rfl hG dX11_forget_55 ?_
  refine r_aload_n (pc := 56) 1 2 rfl rfl hG dX11_forget_56 ?_
  refine r_iconst (pc := 57) (v := 0) (by decide) hG dX11_forget_57 ?_
  refine pf9_3 (pc := 58) (i := w0) hw0 lk124 hG dX11_forget_58 ?_
  refine r_bS hG (fun s8 => ?_)
  refine r_iload_n (pc := 61) 0 3 rfl rfl hG dX11_forget_61 ?_
  exact r_iret (pc := 62) rfl hG dX11_forget_62
set_option maxRecDepth 4000 in
theorem c_Go_forget (X : Cx) (N : Nat) (v1 : Int32) (σ : St) (r : Int32) (σ1 : St) (hE : Go_forget N v1 σ = some (r, σ1)) : Ctr X yX11_forget cX11_forget 4 (some .int) 2 [.ref (X.2.1 + 0), .int v1] σ (some (.int r)) σ1 := by
  refine Ctr.of (out := oWI) (E := Go_forget N v1 σ) rfl (Nat.le_of_ble_eq_true rfl) (fun G hG => ?_) (r, σ1) hE
  unfold Go_forget
  refine r_iload_n (pc := 0) 1 1 rfl rfl hG dX11_forget_0 ?_
  refine r_iconst (pc := 1) (v := 0) (by decide) hG dX11_forget_1 ?_
  refine r_iconst (pc := 2) (v := 2) (by decide) hG dX11_forget_2 ?_
  refine r_callSi (pc := 3) (As := [.int v1, .int 0, .int 2]) (c_Go_within X v1 0 2 σ) mfX11_91_X11_within hySX11_within (by decide) (by decide) rfl (Nat.le_of_ble_eq_true rfl) hG dX11_forget_3 rfl (fun n2 => ?_)
  refine r_if_ne (pc := 6) (tgt := 14) (by decide) hG dX11_forget_6 (fun h4 => ?_) (fun h4 => ?_)
  · refine r_iload_n (pc := 14) 1 1 rfl rfl hG dX11_forget_14 ?_
    refine r_if_ne (pc := 15) (tgt := 28) (by decide) hG dX11_forget_15 (fun h5 => ?_) (fun h5 => ?_)
    · refine r_iload_n (pc := 28) 1 1 rfl rfl hG dX11_forget_28 ?_
      refine r_iconst (pc := 29) (v := 1) (by decide) hG dX11_forget_29 ?_
      refine r_icmp_ne (pc := 30) (tgt := 43) (by decide) hG dX11_forget_30 (fun h6 => ?_) (fun h6 => ?_)
      · refine r_aload_n (pc := 43) 0 0 rfl rfl hG dX11_forget_43 ?_
        refine gf11_0 (pc := 44) lk440 hG dX11_forget_44 ?_
        refine gf4_8 (pc := 47) (i := 1) (rfl : shp 1 = 4) lk248 hG dX11_forget_47 ?_
        exact r_sub [] rfl hG (w_Go_forget_J50 N hG 10 σ (rfl : shp 10 = 9))
      · refine r_aload_n (pc := 33) 0 0 rfl rfl hG dX11_forget_33 ?_
        refine gf11_0 (pc := 34) lk440 hG dX11_forget_34 ?_
        refine gf4_7 (pc := 37) (i := 1) (rfl : shp 1 = 4) lk245 hG dX11_forget_37 ?_
        refine r_goto (pc := 40) (tgt := 50) (by decide) hG dX11_forget_40 ?_
        exact r_sub [] rfl hG (w_Go_forget_J50 N hG 8 σ (rfl : shp 8 = 9))
    · refine r_aload_n (pc := 18) 0 0 rfl rfl hG dX11_forget_18 ?_
      refine gf11_0 (pc := 19) lk440 hG dX11_forget_19 ?_
      refine gf4_6 (pc := 22) (i := 1) (rfl : shp 1 = 4) lk242 hG dX11_forget_22 ?_
      refine r_goto (pc := 25) (tgt := 50) (by decide) hG dX11_forget_25 ?_
      exact r_sub [] rfl hG (w_Go_forget_J50 N hG 6 σ (rfl : shp 6 = 9))
  · refine r_aload_n (pc := 9) 0 0 rfl rfl hG dX11_forget_9 ?_
    refine r_bW hG (fun r9 s10 e12 => ?_)
    refine r_callVi (pc := 10) (As := []) (c_Go_refuseBad X N σ r9 s10 e12) (wsOf_at (rfl : shp 0 = 11) (by decide) rfl) rfl mfX11_95_X11_refuseBad hyVX11_refuseBad (by decide) (by decide) rfl (Nat.le_of_ble_eq_true rfl) hG dX11_forget_10 rfl (fun n11 => ?_)
    exact r_iret (pc := 13) rfl hG dX11_forget_13
set_option maxRecDepth 4000 in
theorem c_Go_is (X : Cx) (N : Nat) (v1 : Int32) (σ : St) (r : Int32) (σ1 : St) (hE : Go_is N v1 σ = some (r, σ1)) : Ctr X yX11_is cX11_is 2 (some .int) 9 [.ref (X.2.1 + 0), .int v1] σ (some (.int r)) σ1 := by
  refine Ctr.of (out := oWI) (E := Go_is N v1 σ) rfl (Nat.le_of_ble_eq_true rfl) (fun G hG => ?_) (r, σ1) hE
  unfold Go_is
  refine r_aload_n (pc := 0) 0 0 rfl rfl hG dX11_is_0 ?_
  refine r_iload_n (pc := 1) 1 1 rfl rfl hG dX11_is_1 ?_
  refine r_bR hG (fun r1 e3 => ?_)
  refine r_callVi (pc := 2) (As := [.int v1]) (c_Go_isGuest X N v1 σ r1 e3) (wsOf_at (rfl : shp 0 = 11) (by decide) rfl) rfl mfX11_154_X11_isGuest hyVX11_isGuest (by decide) (by decide) rfl (Nat.le_of_ble_eq_true rfl) hG dX11_is_2 rfl (fun n2 => ?_)
  refine r_if_eq (pc := 5) (tgt := 23) (by decide) hG dX11_is_5 (fun h4 => ?_) (fun h4 => ?_)
  · refine r_aload_n (pc := 23) 0 0 rfl rfl hG dX11_is_23 ?_
    refine r_bW hG (fun r5 s6 e8 => ?_)
    refine r_callVi (pc := 24) (As := []) (c_Go_refuseBad X N σ r5 s6 e8) (wsOf_at (rfl : shp 0 = 11) (by decide) rfl) rfl mfX11_95_X11_refuseBad hyVX11_refuseBad (by decide) (by decide) rfl (Nat.le_of_ble_eq_true rfl) hG dX11_is_24 rfl (fun n7 => ?_)
    exact r_iret (pc := 27) rfl hG dX11_is_27
  · refine r_aload_n (pc := 8) 0 0 rfl rfl hG dX11_is_8 ?_
    refine gf11_11 (pc := 9) lk451 hG dX11_is_9 ?_
    refine r_aload_n (pc := 12) 0 0 rfl rfl hG dX11_is_12 ?_
    refine gf11_0 (pc := 13) lk440 hG dX11_is_13 ?_
    refine r_iload_n (pc := 16) 1 1 rfl rfl hG dX11_is_16 ?_
    refine r_bR hG (fun r9 e11 => ?_)
    refine r_callVi (pc := 17) (As := [.ref (X.2.1 + 1), .int v1]) (c_Gs_guestKindsLeft X N 1 v1 σ (rfl : shp 1 = 4) r9 e11) (wsOf_at (rfl : shp 64 = 0) (by decide) rfl) rfl mfX11_287_X0_guestKindsLeft hyVX0_guestKindsLeft (by decide) (by decide) rfl (Nat.le_of_ble_eq_true rfl) hG dX11_is_17 rfl (fun n10 => ?_)
    refine r_goto (pc := 20) (tgt := 27) (by decide) hG dX11_is_20 ?_
    exact r_iret (pc := 27) rfl hG dX11_is_27
set_option maxRecDepth 4000 in
theorem c_Go_look (X : Cx) (N : Nat) (v1 : Int32) (σ : St) (r : Int32) (σ1 : St) (hE : Go_look N v1 σ = some (r, σ1)) : Ctr X yX11_look cX11_look 2 (some .int) 10 [.ref (X.2.1 + 0), .int v1] σ (some (.int r)) σ1 := by
  refine Ctr.of (out := oWI) (E := Go_look N v1 σ) rfl (Nat.le_of_ble_eq_true rfl) (fun G hG => ?_) (r, σ1) hE
  unfold Go_look
  refine r_aload_n (pc := 0) 0 0 rfl rfl hG dX11_look_0 ?_
  refine r_iload_n (pc := 1) 1 1 rfl rfl hG dX11_look_1 ?_
  refine r_bR hG (fun r1 e3 => ?_)
  refine r_callVi (pc := 2) (As := [.int v1]) (c_Go_isGuest X N v1 σ r1 e3) (wsOf_at (rfl : shp 0 = 11) (by decide) rfl) rfl mfX11_154_X11_isGuest hyVX11_isGuest (by decide) (by decide) rfl (Nat.le_of_ble_eq_true rfl) hG dX11_look_2 rfl (fun n2 => ?_)
  refine r_if_eq (pc := 5) (tgt := 23) (by decide) hG dX11_look_5 (fun h4 => ?_) (fun h4 => ?_)
  · refine r_aload_n (pc := 23) 0 0 rfl rfl hG dX11_look_23 ?_
    refine r_bW hG (fun r5 s6 e8 => ?_)
    refine r_callVi (pc := 24) (As := []) (c_Go_refuseBad X N σ r5 s6 e8) (wsOf_at (rfl : shp 0 = 11) (by decide) rfl) rfl mfX11_95_X11_refuseBad hyVX11_refuseBad (by decide) (by decide) rfl (Nat.le_of_ble_eq_true rfl) hG dX11_look_24 rfl (fun n7 => ?_)
    exact r_iret (pc := 27) rfl hG dX11_look_27
  · refine r_aload_n (pc := 8) 0 0 rfl rfl hG dX11_look_8 ?_
    refine gf11_11 (pc := 9) lk451 hG dX11_look_9 ?_
    refine r_aload_n (pc := 12) 0 0 rfl rfl hG dX11_look_12 ?_
    refine gf11_0 (pc := 13) lk440 hG dX11_look_13 ?_
    refine r_iload_n (pc := 16) 1 1 rfl rfl hG dX11_look_16 ?_
    refine r_bW hG (fun r9 s10 e12 => ?_)
    refine r_callVi (pc := 17) (As := [.ref (X.2.1 + 1), .int v1]) (c_Gs_bestLook X N 1 v1 σ (rfl : shp 1 = 4) r9 s10 e12) (wsOf_at (rfl : shp 64 = 0) (by decide) rfl) rfl mfX11_290_X0_bestLook hyVX0_bestLook (by decide) (by decide) rfl (Nat.le_of_ble_eq_true rfl) hG dX11_look_17 rfl (fun n11 => ?_)
    refine r_goto (pc := 20) (tgt := 27) (by decide) hG dX11_look_20 ?_
    exact r_iret (pc := 27) rfl hG dX11_look_27
set_option maxRecDepth 4000 in
theorem c_Go_kinds (X : Cx) (N : Nat) (v1 : Int32) (σ : St) (r : Int32) (σ1 : St) (hE : Go_kinds N v1 σ = some (r, σ1)) : Ctr X yX11_kinds cX11_kinds 2 (some .int) 9 [.ref (X.2.1 + 0), .int v1] σ (some (.int r)) σ1 := by
  refine Ctr.of (out := oWI) (E := Go_kinds N v1 σ) rfl (Nat.le_of_ble_eq_true rfl) (fun G hG => ?_) (r, σ1) hE
  unfold Go_kinds
  refine r_aload_n (pc := 0) 0 0 rfl rfl hG dX11_kinds_0 ?_
  refine r_iload_n (pc := 1) 1 1 rfl rfl hG dX11_kinds_1 ?_
  refine r_bR hG (fun r1 e3 => ?_)
  refine r_callVi (pc := 2) (As := [.int v1]) (c_Go_isRower X N v1 σ r1 e3) (wsOf_at (rfl : shp 0 = 11) (by decide) rfl) rfl mfX11_157_X11_isRower hyVX11_isRower (by decide) (by decide) rfl (Nat.le_of_ble_eq_true rfl) hG dX11_kinds_2 rfl (fun n2 => ?_)
  refine r_if_eq (pc := 5) (tgt := 23) (by decide) hG dX11_kinds_5 (fun h4 => ?_) (fun h4 => ?_)
  · refine r_aload_n (pc := 23) 0 0 rfl rfl hG dX11_kinds_23 ?_
    refine r_bW hG (fun r5 s6 e8 => ?_)
    refine r_callVi (pc := 24) (As := []) (c_Go_refuseBad X N σ r5 s6 e8) (wsOf_at (rfl : shp 0 = 11) (by decide) rfl) rfl mfX11_95_X11_refuseBad hyVX11_refuseBad (by decide) (by decide) rfl (Nat.le_of_ble_eq_true rfl) hG dX11_kinds_24 rfl (fun n7 => ?_)
    exact r_iret (pc := 27) rfl hG dX11_kinds_27
  · refine r_aload_n (pc := 8) 0 0 rfl rfl hG dX11_kinds_8 ?_
    refine gf11_11 (pc := 9) lk451 hG dX11_kinds_9 ?_
    refine r_aload_n (pc := 12) 0 0 rfl rfl hG dX11_kinds_12 ?_
    refine gf11_0 (pc := 13) lk440 hG dX11_kinds_13 ?_
    refine r_iload_n (pc := 16) 1 1 rfl rfl hG dX11_kinds_16 ?_
    refine r_bR hG (fun r9 e11 => ?_)
    refine r_callVi (pc := 17) (As := [.ref (X.2.1 + 1), .int v1]) (c_Gs_rowerKindsLeft X N 1 v1 σ (rfl : shp 1 = 4) r9 e11) (wsOf_at (rfl : shp 64 = 0) (by decide) rfl) rfl mfX11_293_X0_rowerKindsLeft hyVX0_rowerKindsLeft (by decide) (by decide) rfl (Nat.le_of_ble_eq_true rfl) hG dX11_kinds_17 rfl (fun n10 => ?_)
    refine r_goto (pc := 20) (tgt := 27) (by decide) hG dX11_kinds_20 ?_
    exact r_iret (pc := 27) rfl hG dX11_kinds_27
set_option maxRecDepth 4000 in
theorem c_Go_ask (X : Cx) (N : Nat) (v1 : Int32) (σ : St) (r : Int32) (σ1 : St) (hE : Go_ask N v1 σ = some (r, σ1)) : Ctr X yX11_ask cX11_ask 2 (some .int) 10 [.ref (X.2.1 + 0), .int v1] σ (some (.int r)) σ1 := by
  refine Ctr.of (out := oWI) (E := Go_ask N v1 σ) rfl (Nat.le_of_ble_eq_true rfl) (fun G hG => ?_) (r, σ1) hE
  unfold Go_ask
  refine r_aload_n (pc := 0) 0 0 rfl rfl hG dX11_ask_0 ?_
  refine r_iload_n (pc := 1) 1 1 rfl rfl hG dX11_ask_1 ?_
  refine r_bR hG (fun r1 e3 => ?_)
  refine r_callVi (pc := 2) (As := [.int v1]) (c_Go_isRower X N v1 σ r1 e3) (wsOf_at (rfl : shp 0 = 11) (by decide) rfl) rfl mfX11_157_X11_isRower hyVX11_isRower (by decide) (by decide) rfl (Nat.le_of_ble_eq_true rfl) hG dX11_ask_2 rfl (fun n2 => ?_)
  refine r_if_eq (pc := 5) (tgt := 23) (by decide) hG dX11_ask_5 (fun h4 => ?_) (fun h4 => ?_)
  · refine r_aload_n (pc := 23) 0 0 rfl rfl hG dX11_ask_23 ?_
    refine r_bW hG (fun r5 s6 e8 => ?_)
    refine r_callVi (pc := 24) (As := []) (c_Go_refuseBad X N σ r5 s6 e8) (wsOf_at (rfl : shp 0 = 11) (by decide) rfl) rfl mfX11_95_X11_refuseBad hyVX11_refuseBad (by decide) (by decide) rfl (Nat.le_of_ble_eq_true rfl) hG dX11_ask_24 rfl (fun n7 => ?_)
    exact r_iret (pc := 27) rfl hG dX11_ask_27
  · refine r_aload_n (pc := 8) 0 0 rfl rfl hG dX11_ask_8 ?_
    refine gf11_11 (pc := 9) lk451 hG dX11_ask_9 ?_
    refine r_aload_n (pc := 12) 0 0 rfl rfl hG dX11_ask_12 ?_
    refine gf11_0 (pc := 13) lk440 hG dX11_ask_13 ?_
    refine r_iload_n (pc := 16) 1 1 rfl rfl hG dX11_ask_16 ?_
    refine r_bW hG (fun r9 s10 e12 => ?_)
    refine r_callVi (pc := 17) (As := [.ref (X.2.1 + 1), .int v1]) (c_Gs_bestAsking X N 1 v1 σ (rfl : shp 1 = 4) r9 s10 e12) (wsOf_at (rfl : shp 64 = 0) (by decide) rfl) rfl mfX11_296_X0_bestAsking hyVX0_bestAsking (by decide) (by decide) rfl (Nat.le_of_ble_eq_true rfl) hG dX11_ask_17 rfl (fun n11 => ?_)
    refine r_goto (pc := 20) (tgt := 27) (by decide) hG dX11_ask_20 ?_
    exact r_iret (pc := 27) rfl hG dX11_ask_27
set_option maxRecDepth 4000 in
theorem w_Go_lamp_J21 {X : Cx} {G : GT (Int32 × St)} (N : Nat) (hG : IsG X RX11 cX11_lamp 4 9 (some .int) oWI G) (σ : St) : G (Go_lamp_J21 N σ) σ 21 [(0, .ref (X.2.1 + 0))] [] := by
  unfold Go_lamp_J21
  refine r_aload_n (pc := 21) 0 0 rfl rfl hG dX11_lamp_21 ?_
  refine r_bW hG (fun r5 s6 e8 => ?_)
  refine r_callVi (pc := 22) (As := []) (c_Go_refuseFarBad X N σ r5 s6 e8) (wsOf_at (rfl : shp 0 = 11) (by decide) rfl) rfl mfX11_222_X11_refuseFarBad hyVX11_refuseFarBad (by decide) (by decide) rfl (Nat.le_of_ble_eq_true rfl) hG dX11_lamp_22 rfl (fun n7 => ?_)
  exact r_iret (pc := 25) rfl hG dX11_lamp_25
set_option maxRecDepth 4000 in
theorem c_Go_lamp (X : Cx) (N : Nat) (v1 : Int32) (v2 : Int32) (v3 : Int32) (σ : St) (r : Int32) (σ1 : St) (hE : Go_lamp N v1 v2 v3 σ = some (r, σ1)) : Ctr X yX11_lamp cX11_lamp 4 (some .int) 9 [.ref (X.2.1 + 0), .int v1, .int v2, .int v3] σ (some (.int r)) σ1 := by
  refine Ctr.of (out := oWI) (E := Go_lamp N v1 v2 v3 σ) rfl (Nat.le_of_ble_eq_true rfl) (fun G hG => ?_) (r, σ1) hE
  unfold Go_lamp
  refine r_aload_n (pc := 0) 0 0 rfl rfl hG dX11_lamp_0 ?_
  refine r_iload_n (pc := 1) 1 1 rfl rfl hG dX11_lamp_1 ?_
  refine r_bR hG (fun r1 e3 => ?_)
  refine r_callVi (pc := 2) (As := [.int v1]) (c_Go_isGuest X N v1 σ r1 e3) (wsOf_at (rfl : shp 0 = 11) (by decide) rfl) rfl mfX11_154_X11_isGuest hyVX11_isGuest (by decide) (by decide) rfl (Nat.le_of_ble_eq_true rfl) hG dX11_lamp_2 rfl (fun n2 => ?_)
  refine r_if_eq (pc := 5) (tgt := 21) (by decide) hG dX11_lamp_5 (fun h4 => ?_) (fun h4 => ?_)
  · exact r_sub [0] rfl hG (w_Go_lamp_J21 N hG σ)
  · refine r_aload_n (pc := 8) 0 0 rfl rfl hG dX11_lamp_8 ?_
    refine r_iload_n (pc := 9) 2 2 rfl rfl hG dX11_lamp_9 ?_
    refine r_bR hG (fun r9 e11 => ?_)
    refine r_callVi (pc := 10) (As := [.int v2]) (c_Go_isRower X N v2 σ r9 e11) (wsOf_at (rfl : shp 0 = 11) (by decide) rfl) rfl mfX11_157_X11_isRower hyVX11_isRower (by decide) (by decide) rfl (Nat.le_of_ble_eq_true rfl) hG dX11_lamp_10 rfl (fun n10 => ?_)
    refine r_if_eq (pc := 13) (tgt := 21) (by decide) hG dX11_lamp_13 (fun h12 => ?_) (fun h12 => ?_)
    · exact r_sub [0] rfl hG (w_Go_lamp_J21 N hG σ)
    · refine r_iload_n (pc := 16) 3 3 rfl rfl hG dX11_lamp_16 ?_
      refine r_iconst (pc := 17) (v := (-1)) (by decide) hG dX11_lamp_17 ?_
      refine r_icmp_ge (pc := 18) (tgt := 26) (by decide) hG dX11_lamp_18 (fun h13 => ?_) (fun h13 => ?_)
      · refine r_aload_n (pc := 26) 0 0 rfl rfl hG dX11_lamp_26 ?_
        refine gf11_12 (pc := 27) lk452 hG dX11_lamp_27 ?_
        refine r_aload_n (pc := 30) 0 0 rfl rfl hG dX11_lamp_30 ?_
        refine gf11_0 (pc := 31) lk440 hG dX11_lamp_31 ?_
        refine gf4_3 (pc := 34) (i := 1) (rfl : shp 1 = 4) lk231 hG dX11_lamp_34 ?_
        refine r_iload_n (pc := 37) 1 1 rfl rfl hG dX11_lamp_37 ?_
        refine r_ck hG (fun h14 => ?_)
        refine r_aGuests (pc := 38) (i := 1) (rfl : shp 5 = 16) rfl h14 hG dX11_lamp_38 ?_
        refine r_aload_n (pc := 39) 0 0 rfl rfl hG dX11_lamp_39 ?_
        refine gf11_0 (pc := 40) lk440 hG dX11_lamp_40 ?_
        refine gf4_2 (pc := 43) (i := 1) (rfl : shp 1 = 4) lk225 hG dX11_lamp_43 ?_
        refine r_iload_n (pc := 46) 2 2 rfl rfl hG dX11_lamp_46 ?_
        refine r_ck hG (fun h15 => ?_)
        refine r_aRowers (pc := 47) (i := 1) (rfl : shp 4 = 18) rfl h15 hG dX11_lamp_47 ?_
        refine r_bR hG (fun s17 e19 => ?_)
        refine r_callVv (pc := 48) (As := [.ref (X.2.1 + (1 + 16 + (v1).toNatClampNeg)), .ref (X.2.1 + (1 + 13 + (v2).toNatClampNeg))]) (c_La_search X N (1 + 16 + (v1).toNatClampNeg) (1 + 13 + (v2).toNatClampNeg) σ (shGu (rfl : shp 1 = 4) h14) (shRo (rfl : shp 1 = 4) h15) s17 e19) (wsOf_at (rfl : shp 66 = 3) (by decide) rfl) rfl mfX11_299_X3_search hyVX3_search (by decide) (by decide) rfl (Nat.le_of_ble_eq_true rfl) hG dX11_lamp_48 rfl (fun n18 => ?_)
        refine r_iload_n (pc := 51) 3 3 rfl rfl hG dX11_lamp_51 ?_
        refine r_iconst (pc := 52) (v := (-1)) (by decide) hG dX11_lamp_52 ?_
        refine r_icmp_ne (pc := 53) (tgt := 64) (by decide) hG dX11_lamp_53 (fun h20 => ?_) (fun h20 => ?_)
        · refine r_iload_n (pc := 64) 3 3 rfl rfl hG dX11_lamp_64 ?_
          refine r_aload_n (pc := 65) 0 0 rfl rfl hG dX11_lamp_65 ?_
          refine gf11_12 (pc := 66) lk452 hG dX11_lamp_66 ?_
          refine gf3_2 (pc := 69) lk379 hG dX11_lamp_69 ?_
          refine r_icmp_ge (pc := 72) (tgt := 87) (by decide) hG dX11_lamp_72 (fun h21 => ?_) (fun h21 => ?_)
          · refine r_bipush (pc := 87) (v := (-5)) (by decide) hG dX11_lamp_87 ?_
            exact r_iret (pc := 89) rfl hG dX11_lamp_89
          · refine r_aload_n (pc := 75) 0 0 rfl rfl hG dX11_lamp_75 ?_
            refine gf11_12 (pc := 76) lk452 hG dX11_lamp_76 ?_
            refine gf3_1 (pc := 79) lk377 hG dX11_lamp_79 ?_
            refine r_iload_n (pc := 82) 3 3 rfl rfl hG dX11_lamp_82 ?_
            refine r_ck hG (fun h22 => ?_)
            refine r_iald (pc := 83) (i := 68) (rfl : shp 68 = 14) rfl h22 hG dX11_lamp_83 ?_
            refine r_goto (pc := 84) (tgt := 89) (by decide) hG dX11_lamp_84 ?_
            exact r_iret (pc := 89) rfl hG dX11_lamp_89
        · refine r_aload_n (pc := 56) 0 0 rfl rfl hG dX11_lamp_56 ?_
          refine gf11_12 (pc := 57) lk452 hG dX11_lamp_57 ?_
          refine gf3_2 (pc := 60) lk379 hG dX11_lamp_60 ?_
          exact r_iret (pc := 63) rfl hG dX11_lamp_63
      · exact r_sub [0] rfl hG (w_Go_lamp_J21 N hG σ)
set_option maxRecDepth 4000 in
theorem w_Go_odds_J37 {X : Cx} {G : GT (Int32 × St)} (N : Nat) (hG : IsG X RX11 cX11_odds 5 20 (some .int) oWI G) (σ : St) : G (Go_odds_J37 N σ) σ 37 [(0, .ref (X.2.1 + 0))] [] := by
  unfold Go_odds_J37
  refine r_aload_n (pc := 37) 0 0 rfl rfl hG dX11_odds_37 ?_
  refine r_bW hG (fun r5 s6 e8 => ?_)
  refine r_callVi (pc := 38) (As := []) (c_Go_refuseBad X N σ r5 s6 e8) (wsOf_at (rfl : shp 0 = 11) (by decide) rfl) rfl mfX11_95_X11_refuseBad hyVX11_refuseBad (by decide) (by decide) rfl (Nat.le_of_ble_eq_true rfl) hG dX11_odds_38 rfl (fun n7 => ?_)
  exact r_iret (pc := 41) rfl hG dX11_odds_41
set_option maxRecDepth 4000 in
theorem c_Go_odds (X : Cx) (N : Nat) (v1 : Int32) (v2 : Int32) (v3 : Int32) (v4 : Int32) (σ : St) (r : Int32) (σ1 : St) (hE : Go_odds N v1 v2 v3 v4 σ = some (r, σ1)) : Ctr X yX11_odds cX11_odds 5 (some .int) 20 [.ref (X.2.1 + 0), .int v1, .int v2, .int v3, .int v4] σ (some (.int r)) σ1 := by
  refine Ctr.of (out := oWI) (E := Go_odds N v1 v2 v3 v4 σ) rfl (Nat.le_of_ble_eq_true rfl) (fun G hG => ?_) (r, σ1) hE
  unfold Go_odds
  refine r_aload_n (pc := 0) 0 0 rfl rfl hG dX11_odds_0 ?_
  refine r_iload_n (pc := 1) 1 1 rfl rfl hG dX11_odds_1 ?_
  refine r_bR hG (fun r1 e3 => ?_)
  refine r_callVi (pc := 2) (As := [.int v1]) (c_Go_isGuest X N v1 σ r1 e3) (wsOf_at (rfl : shp 0 = 11) (by decide) rfl) rfl mfX11_154_X11_isGuest hyVX11_isGuest (by decide) (by decide) rfl (Nat.le_of_ble_eq_true rfl) hG dX11_odds_2 rfl (fun n2 => ?_)
  refine r_if_eq (pc := 5) (tgt := 37) (by decide) hG dX11_odds_5 (fun h4 => ?_) (fun h4 => ?_)
  · exact r_sub [0] rfl hG (w_Go_odds_J37 N hG σ)
  · refine r_aload_n (pc := 8) 0 0 rfl rfl hG dX11_odds_8 ?_
    refine r_iload_n (pc := 9) 2 2 rfl rfl hG dX11_odds_9 ?_
    refine r_bR hG (fun r9 e11 => ?_)
    refine r_callVi (pc := 10) (As := [.int v2]) (c_Go_isRower X N v2 σ r9 e11) (wsOf_at (rfl : shp 0 = 11) (by decide) rfl) rfl mfX11_157_X11_isRower hyVX11_isRower (by decide) (by decide) rfl (Nat.le_of_ble_eq_true rfl) hG dX11_odds_10 rfl (fun n10 => ?_)
    refine r_if_eq (pc := 13) (tgt := 37) (by decide) hG dX11_odds_13 (fun h12 => ?_) (fun h12 => ?_)
    · exact r_sub [0] rfl hG (w_Go_odds_J37 N hG σ)
    · refine r_iload_n (pc := 16) 3 3 rfl rfl hG dX11_odds_16 ?_
      refine r_iconst (pc := 17) (v := 0) (by decide) hG dX11_odds_17 ?_
      refine r_bipush (pc := 18) (v := 40) (by decide) hG dX11_odds_18 ?_
      refine r_callSi (pc := 20) (As := [.int v3, .int 0, .int 40]) (c_Go_within X v3 0 40 σ) mfX11_91_X11_within hySX11_within (by decide) (by decide) rfl (Nat.le_of_ble_eq_true rfl) hG dX11_odds_20 rfl (fun n14 => ?_)
      refine r_if_eq (pc := 23) (tgt := 37) (by decide) hG dX11_odds_23 (fun h16 => ?_) (fun h16 => ?_)
      · exact r_sub [0] rfl hG (w_Go_odds_J37 N hG σ)
      · refine r_iload (pc := 26) 4 rfl hG dX11_odds_26 ?_
        refine r_iconst (pc := 28) (v := 0) (by decide) hG dX11_odds_28 ?_
        refine r_bipush (pc := 29) (v := 10) (by decide) hG dX11_odds_29 ?_
        refine r_callSi (pc := 31) (As := [.int v4, .int 0, .int 10]) (c_Go_within X v4 0 10 σ) mfX11_91_X11_within hySX11_within (by decide) (by decide) rfl (Nat.le_of_ble_eq_true rfl) hG dX11_odds_31 rfl (fun n18 => ?_)
        refine r_if_ne (pc := 34) (tgt := 42) (by decide) hG dX11_odds_34 (fun h20 => ?_) (fun h20 => ?_)
        · refine r_aload_n (pc := 42) 0 0 rfl rfl hG dX11_odds_42 ?_
          refine gf11_9 (pc := 43) lk449 hG dX11_odds_43 ?_
          refine r_aload_n (pc := 46) 0 0 rfl rfl hG dX11_odds_46 ?_
          refine gf11_0 (pc := 47) lk440 hG dX11_odds_47 ?_
          refine r_aload_n (pc := 50) 0 0 rfl rfl hG dX11_odds_50 ?_
          refine gf11_0 (pc := 51) lk440 hG dX11_odds_51 ?_
          refine gf4_3 (pc := 54) (i := 1) (rfl : shp 1 = 4) lk231 hG dX11_odds_54 ?_
          refine r_iload_n (pc := 57) 1 1 rfl rfl hG dX11_odds_57 ?_
          refine r_ck hG (fun h21 => ?_)
          refine r_aGuests (pc := 58) (i := 1) (rfl : shp 5 = 16) rfl h21 hG dX11_odds_58 ?_
          refine r_aload_n (pc := 59) 0 0 rfl rfl hG dX11_odds_59 ?_
          refine gf11_0 (pc := 60) lk440 hG dX11_odds_60 ?_
          refine gf4_2 (pc := 63) (i := 1) (rfl : shp 1 = 4) lk225 hG dX11_odds_63 ?_
          refine r_iload_n (pc := 66) 2 2 rfl rfl hG dX11_odds_66 ?_
          refine r_ck hG (fun h22 => ?_)
          refine r_aRowers (pc := 67) (i := 1) (rfl : shp 4 = 18) rfl h22 hG dX11_odds_67 ?_
          refine r_bR hG (fun s24 e26 => ?_)
          refine r_callVv (pc := 68) (As := [.ref (X.2.1 + 1), .ref (X.2.1 + (1 + 16 + (v1).toNatClampNeg)), .ref (X.2.1 + (1 + 13 + (v2).toNatClampNeg))]) (c_Wy_search X N 1 (1 + 16 + (v1).toNatClampNeg) (1 + 13 + (v2).toNatClampNeg) σ (rfl : shp 1 = 4) (shGu (rfl : shp 1 = 4) h21) (shRo (rfl : shp 1 = 4) h22) s24 e26) (wsOf_at (rfl : shp 47 = 10) (by decide) rfl) rfl mfX11_225_X10_search hyVX10_search (by decide) (by decide) rfl (Nat.le_of_ble_eq_true rfl) hG dX11_odds_68 rfl (fun n25 => ?_)
          refine r_aload_n (pc := 71) 0 0 rfl rfl hG dX11_odds_71 ?_
          refine gf11_9 (pc := 72) lk449 hG dX11_odds_72 ?_
          refine gf10_2 (pc := 75) lk290 hG dX11_odds_75 ?_
          refine r_if_ne (pc := 78) (tgt := 86) (by decide) hG dX11_odds_78 (fun h27 => ?_) (fun h27 => ?_)
          · refine r_aload_n (pc := 86) 0 0 rfl rfl hG dX11_odds_86 ?_
            refine gf11_13 (pc := 87) lk453 hG dX11_odds_87 ?_
            refine r_aload_n (pc := 90) 0 0 rfl rfl hG dX11_odds_90 ?_
            refine gf11_0 (pc := 91) lk440 hG dX11_odds_91 ?_
            refine r_aload_n (pc := 94) 0 0 rfl rfl hG dX11_odds_94 ?_
            refine gf11_0 (pc := 95) lk440 hG dX11_odds_95 ?_
            refine gf4_3 (pc := 98) (i := 1) (rfl : shp 1 = 4) lk231 hG dX11_odds_98 ?_
            refine r_iload_n (pc := 101) 1 1 rfl rfl hG dX11_odds_101 ?_
            refine r_ck hG (fun h28 => ?_)
            refine r_aGuests (pc := 102) (i := 1) (rfl : shp 5 = 16) rfl h28 hG dX11_odds_102 ?_
            refine r_aload_n (pc := 103) 0 0 rfl rfl hG dX11_odds_103 ?_
            refine gf11_0 (pc := 104) lk440 hG dX11_odds_104 ?_
            refine gf4_2 (pc := 107) (i := 1) (rfl : shp 1 = 4) lk225 hG dX11_odds_107 ?_
            refine r_iload_n (pc := 110) 2 2 rfl rfl hG dX11_odds_110 ?_
            refine r_ck hG (fun h29 => ?_)
            refine r_aRowers (pc := 111) (i := 1) (rfl : shp 4 = 18) rfl h29 hG dX11_odds_111 ?_
            refine r_aload_n (pc := 112) 0 0 rfl rfl hG dX11_odds_112 ?_
            refine gf11_9 (pc := 113) lk449 hG dX11_odds_113 ?_
            refine r_iload_n (pc := 116) 3 3 rfl rfl hG dX11_odds_116 ?_
            refine r_iload (pc := 117) 4 rfl hG dX11_odds_117 ?_
            refine r_bR hG (fun s31 e33 => ?_)
            refine r_callVv (pc := 119) (As := [.ref (X.2.1 + 1), .ref (X.2.1 + (1 + 16 + (v1).toNatClampNeg)), .ref (X.2.1 + (1 + 13 + (v2).toNatClampNeg)), .ref (X.2.1 + 47), .int v3, .int v4]) (c_He_chance X N 1 (1 + 16 + (v1).toNatClampNeg) (1 + 13 + (v2).toNatClampNeg) v3 v4 s24 (rfl : shp 1 = 4) (shGu (rfl : shp 1 = 4) h28) (shRo (rfl : shp 1 = 4) h29) s31 e33) (wsOf_at (rfl : shp 69 = 2) (by decide) rfl) rfl mfX11_306_X2_chance hyVX2_chance (by decide) (by decide) rfl (Nat.le_of_ble_eq_true rfl) hG dX11_odds_119 rfl (fun n32 => ?_)
            refine r_iconst (pc := 122) (v := 1) (by decide) hG dX11_odds_122 ?_
            exact r_iret (pc := 123) rfl hG dX11_odds_123
          · refine r_aload_n (pc := 81) 0 0 rfl rfl hG dX11_odds_81 ?_
            refine r_bW hG (fun r34 s35 e37 => ?_)
            refine r_callVi (pc := 82) (As := []) (c_Go_refuseNo X N s24 r34 s35 e37) (wsOf_at (rfl : shp 0 = 11) (by decide) rfl) rfl mfX11_168_X11_refuseNo hyVX11_refuseNo (by decide) (by decide) rfl (Nat.le_of_ble_eq_true rfl) hG dX11_odds_82 rfl (fun n36 => ?_)
            exact r_iret (pc := 85) rfl hG dX11_odds_85
        · exact r_sub [0] rfl hG (w_Go_odds_J37 N hG σ)
set_option maxRecDepth 4000 in
theorem w_Go_mean_J26 {X : Cx} {G : GT (Int32 × St)} (N : Nat) (hG : IsG X RX11 cX11_mean 4 20 (some .int) oWI G) (σ : St) : G (Go_mean_J26 N σ) σ 26 [(0, .ref (X.2.1 + 0))] [] := by
  unfold Go_mean_J26
  refine r_aload_n (pc := 26) 0 0 rfl rfl hG dX11_mean_26 ?_
  refine r_bW hG (fun r5 s6 e8 => ?_)
  refine r_callVi (pc := 27) (As := []) (c_Go_refuseBad X N σ r5 s6 e8) (wsOf_at (rfl : shp 0 = 11) (by decide) rfl) rfl mfX11_95_X11_refuseBad hyVX11_refuseBad (by decide) (by decide) rfl (Nat.le_of_ble_eq_true rfl) hG dX11_mean_27 rfl (fun n7 => ?_)
  exact r_iret (pc := 30) rfl hG dX11_mean_30
set_option maxRecDepth 4000 in
theorem c_Go_mean (X : Cx) (N : Nat) (v1 : Int32) (v2 : Int32) (v3 : Int32) (σ : St) (r : Int32) (σ1 : St) (hE : Go_mean N v1 v2 v3 σ = some (r, σ1)) : Ctr X yX11_mean cX11_mean 4 (some .int) 20 [.ref (X.2.1 + 0), .int v1, .int v2, .int v3] σ (some (.int r)) σ1 := by
  refine Ctr.of (out := oWI) (E := Go_mean N v1 v2 v3 σ) rfl (Nat.le_of_ble_eq_true rfl) (fun G hG => ?_) (r, σ1) hE
  unfold Go_mean
  refine r_aload_n (pc := 0) 0 0 rfl rfl hG dX11_mean_0 ?_
  refine r_iload_n (pc := 1) 1 1 rfl rfl hG dX11_mean_1 ?_
  refine r_bR hG (fun r1 e3 => ?_)
  refine r_callVi (pc := 2) (As := [.int v1]) (c_Go_isGuest X N v1 σ r1 e3) (wsOf_at (rfl : shp 0 = 11) (by decide) rfl) rfl mfX11_154_X11_isGuest hyVX11_isGuest (by decide) (by decide) rfl (Nat.le_of_ble_eq_true rfl) hG dX11_mean_2 rfl (fun n2 => ?_)
  refine r_if_eq (pc := 5) (tgt := 26) (by decide) hG dX11_mean_5 (fun h4 => ?_) (fun h4 => ?_)
  · exact r_sub [0] rfl hG (w_Go_mean_J26 N hG σ)
  · refine r_aload_n (pc := 8) 0 0 rfl rfl hG dX11_mean_8 ?_
    refine r_iload_n (pc := 9) 2 2 rfl rfl hG dX11_mean_9 ?_
    refine r_bR hG (fun r9 e11 => ?_)
    refine r_callVi (pc := 10) (As := [.int v2]) (c_Go_isRower X N v2 σ r9 e11) (wsOf_at (rfl : shp 0 = 11) (by decide) rfl) rfl mfX11_157_X11_isRower hyVX11_isRower (by decide) (by decide) rfl (Nat.le_of_ble_eq_true rfl) hG dX11_mean_10 rfl (fun n10 => ?_)
    refine r_if_eq (pc := 13) (tgt := 26) (by decide) hG dX11_mean_13 (fun h12 => ?_) (fun h12 => ?_)
    · exact r_sub [0] rfl hG (w_Go_mean_J26 N hG σ)
    · refine r_iload_n (pc := 16) 3 3 rfl rfl hG dX11_mean_16 ?_
      refine r_iconst (pc := 17) (v := 0) (by decide) hG dX11_mean_17 ?_
      refine r_bipush (pc := 18) (v := 10) (by decide) hG dX11_mean_18 ?_
      refine r_callSi (pc := 20) (As := [.int v3, .int 0, .int 10]) (c_Go_within X v3 0 10 σ) mfX11_91_X11_within hySX11_within (by decide) (by decide) rfl (Nat.le_of_ble_eq_true rfl) hG dX11_mean_20 rfl (fun n14 => ?_)
      refine r_if_ne (pc := 23) (tgt := 31) (by decide) hG dX11_mean_23 (fun h16 => ?_) (fun h16 => ?_)
      · refine r_aload_n (pc := 31) 0 0 rfl rfl hG dX11_mean_31 ?_
        refine gf11_9 (pc := 32) lk449 hG dX11_mean_32 ?_
        refine r_aload_n (pc := 35) 0 0 rfl rfl hG dX11_mean_35 ?_
        refine gf11_0 (pc := 36) lk440 hG dX11_mean_36 ?_
        refine r_aload_n (pc := 39) 0 0 rfl rfl hG dX11_mean_39 ?_
        refine gf11_0 (pc := 40) lk440 hG dX11_mean_40 ?_
        refine gf4_3 (pc := 43) (i := 1) (rfl : shp 1 = 4) lk231 hG dX11_mean_43 ?_
        refine r_iload_n (pc := 46) 1 1 rfl rfl hG dX11_mean_46 ?_
        refine r_ck hG (fun h17 => ?_)
        refine r_aGuests (pc := 47) (i := 1) (rfl : shp 5 = 16) rfl h17 hG dX11_mean_47 ?_
        refine r_aload_n (pc := 48) 0 0 rfl rfl hG dX11_mean_48 ?_
        refine gf11_0 (pc := 49) lk440 hG dX11_mean_49 ?_
        refine gf4_2 (pc := 52) (i := 1) (rfl : shp 1 = 4) lk225 hG dX11_mean_52 ?_
        refine r_iload_n (pc := 55) 2 2 rfl rfl hG dX11_mean_55 ?_
        refine r_ck hG (fun h18 => ?_)
        refine r_aRowers (pc := 56) (i := 1) (rfl : shp 4 = 18) rfl h18 hG dX11_mean_56 ?_
        refine r_bR hG (fun s20 e22 => ?_)
        refine r_callVv (pc := 57) (As := [.ref (X.2.1 + 1), .ref (X.2.1 + (1 + 16 + (v1).toNatClampNeg)), .ref (X.2.1 + (1 + 13 + (v2).toNatClampNeg))]) (c_Wy_search X N 1 (1 + 16 + (v1).toNatClampNeg) (1 + 13 + (v2).toNatClampNeg) σ (rfl : shp 1 = 4) (shGu (rfl : shp 1 = 4) h17) (shRo (rfl : shp 1 = 4) h18) s20 e22) (wsOf_at (rfl : shp 47 = 10) (by decide) rfl) rfl mfX11_225_X10_search hyVX10_search (by decide) (by decide) rfl (Nat.le_of_ble_eq_true rfl) hG dX11_mean_57 rfl (fun n21 => ?_)
        refine r_aload_n (pc := 60) 0 0 rfl rfl hG dX11_mean_60 ?_
        refine gf11_9 (pc := 61) lk449 hG dX11_mean_61 ?_
        refine gf10_2 (pc := 64) lk290 hG dX11_mean_64 ?_
        refine r_if_ne (pc := 67) (tgt := 75) (by decide) hG dX11_mean_67 (fun h23 => ?_) (fun h23 => ?_)
        · refine r_aload_n (pc := 75) 0 0 rfl rfl hG dX11_mean_75 ?_
          refine gf11_13 (pc := 76) lk453 hG dX11_mean_76 ?_
          refine r_aload_n (pc := 79) 0 0 rfl rfl hG dX11_mean_79 ?_
          refine gf11_0 (pc := 80) lk440 hG dX11_mean_80 ?_
          refine r_aload_n (pc := 83) 0 0 rfl rfl hG dX11_mean_83 ?_
          refine gf11_0 (pc := 84) lk440 hG dX11_mean_84 ?_
          refine gf4_3 (pc := 87) (i := 1) (rfl : shp 1 = 4) lk231 hG dX11_mean_87 ?_
          refine r_iload_n (pc := 90) 1 1 rfl rfl hG dX11_mean_90 ?_
          refine r_ck hG (fun h24 => ?_)
          refine r_aGuests (pc := 91) (i := 1) (rfl : shp 5 = 16) rfl h24 hG dX11_mean_91 ?_
          refine r_aload_n (pc := 92) 0 0 rfl rfl hG dX11_mean_92 ?_
          refine gf11_0 (pc := 93) lk440 hG dX11_mean_93 ?_
          refine gf4_2 (pc := 96) (i := 1) (rfl : shp 1 = 4) lk225 hG dX11_mean_96 ?_
          refine r_iload_n (pc := 99) 2 2 rfl rfl hG dX11_mean_99 ?_
          refine r_ck hG (fun h25 => ?_)
          refine r_aRowers (pc := 100) (i := 1) (rfl : shp 4 = 18) rfl h25 hG dX11_mean_100 ?_
          refine r_aload_n (pc := 101) 0 0 rfl rfl hG dX11_mean_101 ?_
          refine gf11_9 (pc := 102) lk449 hG dX11_mean_102 ?_
          refine r_iload_n (pc := 105) 3 3 rfl rfl hG dX11_mean_105 ?_
          refine r_bR hG (fun s27 e29 => ?_)
          refine r_callVv (pc := 106) (As := [.ref (X.2.1 + 1), .ref (X.2.1 + (1 + 16 + (v1).toNatClampNeg)), .ref (X.2.1 + (1 + 13 + (v2).toNatClampNeg)), .ref (X.2.1 + 47), .int v3]) (c_He_meanHurt X N 1 (1 + 16 + (v1).toNatClampNeg) (1 + 13 + (v2).toNatClampNeg) v3 s20 (rfl : shp 1 = 4) (shGu (rfl : shp 1 = 4) h24) (shRo (rfl : shp 1 = 4) h25) s27 e29) (wsOf_at (rfl : shp 69 = 2) (by decide) rfl) rfl mfX11_310_X2_meanHurt hyVX2_meanHurt (by decide) (by decide) rfl (Nat.le_of_ble_eq_true rfl) hG dX11_mean_106 rfl (fun n28 => ?_)
          refine r_iconst (pc := 109) (v := 1) (by decide) hG dX11_mean_109 ?_
          exact r_iret (pc := 110) rfl hG dX11_mean_110
        · refine r_aload_n (pc := 70) 0 0 rfl rfl hG dX11_mean_70 ?_
          refine r_bW hG (fun r30 s31 e33 => ?_)
          refine r_callVi (pc := 71) (As := []) (c_Go_refuseNo X N s20 r30 s31 e33) (wsOf_at (rfl : shp 0 = 11) (by decide) rfl) rfl mfX11_168_X11_refuseNo hyVX11_refuseNo (by decide) (by decide) rfl (Nat.le_of_ble_eq_true rfl) hG dX11_mean_71 rfl (fun n32 => ?_)
          exact r_iret (pc := 74) rfl hG dX11_mean_74
      · exact r_sub [0] rfl hG (w_Go_mean_J26 N hG σ)
set_option maxRecDepth 4000 in
theorem w_Go_nights_J21 {X : Cx} {G : GT (Int32 × St)} (N : Nat) (hG : IsG X RX11 cX11_nights 6 10 (some .int) oWI G) (σ : St) : G (Go_nights_J21 N σ) σ 21 [(0, .ref (X.2.1 + 0))] [] := by
  unfold Go_nights_J21
  refine r_aload_n (pc := 21) 0 0 rfl rfl hG dX11_nights_21 ?_
  refine r_bW hG (fun r5 s6 e8 => ?_)
  refine r_callVi (pc := 22) (As := []) (c_Go_refuseBad X N σ r5 s6 e8) (wsOf_at (rfl : shp 0 = 11) (by decide) rfl) rfl mfX11_95_X11_refuseBad hyVX11_refuseBad (by decide) (by decide) rfl (Nat.le_of_ble_eq_true rfl) hG dX11_nights_22 rfl (fun n7 => ?_)
  exact r_iret (pc := 25) rfl hG dX11_nights_25
set_option maxRecDepth 4000 in
theorem w_Go_nights_J106 {X : Cx} {G : GT (Int32 × St)} (N : Nat) (hG : IsG X RX11 cX11_nights 6 10 (some .int) oWI G) (σ : St) : G (Go_nights_J106 N σ) σ 106 [(0, .ref (X.2.1 + 0))] [] := by
  unfold Go_nights_J106
  refine r_aload_n (pc := 106) 0 0 rfl rfl hG dX11_nights_106 ?_
  refine gf11_1 (pc := 107) lk441 hG dX11_nights_107 ?_
  refine r_bR hG (fun r19 e21 => ?_)
  refine r_callVi (pc := 110) (As := []) (c_Ni_toldBits X N 21 σ (rfl : shp 21 = 4) r19 e21) (wsOf_at (rfl : shp 21 = 4) (by decide) rfl) rfl mfX11_336_X4_toldBits hyVX4_toldBits (by decide) (by decide) rfl (Nat.le_of_ble_eq_true rfl) hG dX11_nights_110 rfl (fun n20 => ?_)
  refine r_callSi (pc := 113) (As := [.int r19]) (c_Jn_bitCount X r19 σ) mfX11_339_J6_bitCount_0f7a4 hySJ6_bitCount_0f7a4 (by decide) (by decide) rfl (Nat.le_of_ble_eq_true rfl) hG dX11_nights_113 rfl (fun n23 => ?_)
  exact r_iret (pc := 116) rfl hG dX11_nights_116
set_option maxRecDepth 4000 in
theorem w_Go_nights_L43B {X : Cx} {G : GT (Int32 × St)} (N : Nat) (hG : IsG X RX11 cX11_nights 6 10 (some .int) oWI G) {K43 : Int32 → Int64 → Int32 → St → Option (Int32 × St)} (hK43 : ∀ (v2 : Int32) (v3 : Int64) (v5 : Int32) (s : St), G (K43 v2 v3 v5 s) s 43 [(0, .ref (X.2.1 + 0)), (2, .int v2), (3, .long v3), (5, .int v5)] []) (v2 : Int32) (v3 : Int64) (v5 : Int32) (σ : St) : G (Go_nights_L43B N K43 v2 v3 v5 σ) σ 43 [(0, .ref (X.2.1 + 0)), (2, .int v2), (3, .long v3), (5, .int v5)] [] := by
  unfold Go_nights_L43B
  refine r_iload (pc := 43) 3 rfl hG dX11_nights_43 ?_
  refine r_iload_n (pc := 45) 1 2 rfl rfl hG dX11_nights_45 ?_
  refine r_icmp_ge (pc := 46) (tgt := 106) (by decide) hG dX11_nights_46 (fun h18 => ?_) (fun h18 => ?_)
  · exact r_sub [0] rfl hG (w_Go_nights_J106 N hG σ)
  · refine r_lload_n (pc := 49) 2 3 rfl rfl hG dX11_nights_49 ?_
    refine r_ldc2 (pc := 50) (v := 1103515245) lk1050 hG dX11_nights_50 ?_
    refine r_lmul (pc := 53) hG dX11_nights_53 ?_
    refine r_ldc2 (pc := 54) (v := 12345) lk1051 hG dX11_nights_54 ?_
    refine r_ladd (pc := 57) hG dX11_nights_57 ?_
    refine r_ldc2 (pc := 58) (v := 2147483648) lk1052 hG dX11_nights_58 ?_
    refine r_lrem (pc := 61) (by decide) hG dX11_nights_61 ?_
    refine r_bL hG (fun x25 => ?_)
    refine r_lstore_n (pc := 62) (lv' := [(3, .long x25), (0, .ref (X.2.1 + 0)), (2, .int v2), (5, .int v5)]) 3 rfl (by decide) rfl hG dX11_nights_62 ?_
    refine r_aload_n (pc := 63) 1 0 rfl rfl hG dX11_nights_63 ?_
    refine gf11_1 (pc := 64) lk441 hG dX11_nights_64 ?_
    refine r_lload_n (pc := 67) 0 3 rfl rfl hG dX11_nights_67 ?_
    refine r_ldc2 (pc := 68) (v := 65536) lk1053 hG dX11_nights_68 ?_
    refine r_ldiv (pc := 71) (by decide) hG dX11_nights_71 ?_
    refine r_ldc2 (pc := 72) (v := 4) lk1054 hG dX11_nights_72 ?_
    refine r_lrem (pc := 75) (by decide) hG dX11_nights_75 ?_
    refine r_l2i (pc := 76) hG dX11_nights_76 ?_
    refine r_lload_n (pc := 77) 0 3 rfl rfl hG dX11_nights_77 ?_
    refine r_ldc2 (pc := 78) (v := 262144) lk1055 hG dX11_nights_78 ?_
    refine r_ldiv (pc := 81) (by decide) hG dX11_nights_81 ?_
    refine r_ldc2 (pc := 82) (v := 3) lk1056 hG dX11_nights_82 ?_
    refine r_lrem (pc := 85) (by decide) hG dX11_nights_85 ?_
    refine r_l2i (pc := 86) hG dX11_nights_86 ?_
    refine r_lload_n (pc := 87) 0 3 rfl rfl hG dX11_nights_87 ?_
    refine r_ldc2 (pc := 88) (v := 1048576) lk1057 hG dX11_nights_88 ?_
    refine r_ldiv (pc := 91) (by decide) hG dX11_nights_91 ?_
    refine r_ldc2 (pc := 92) (v := 8) lk1058 hG dX11_nights_92 ?_
    refine r_lrem (pc := 95) (by decide) hG dX11_nights_95 ?_
    refine r_l2i (pc := 96) hG dX11_nights_96 ?_
    refine r_bR hG (fun s27 e29 => ?_)
    refine r_callVv (pc := 97) (As := [.int ((((x25 / 65536) - (x25 / 65536) / 4 * 4)).toInt32), .int ((((x25 / 262144) - (x25 / 262144) / 3 * 3)).toInt32), .int ((((x25 / 1048576) - (x25 / 1048576) / 8 * 8)).toInt32)]) (c_Ni_pass X N 21 ((((x25 / 65536) - (x25 / 65536) / 4 * 4)).toInt32) ((((x25 / 262144) - (x25 / 262144) / 3 * 3)).toInt32) ((((x25 / 1048576) - (x25 / 1048576) / 8 * 8)).toInt32) σ (rfl : shp 21 = 4) s27 e29) (wsOf_at (rfl : shp 21 = 4) (by decide) rfl) rfl mfX11_333_X4_pass hyVX4_pass (by decide) (by decide) rfl (Nat.le_of_ble_eq_true rfl) hG dX11_nights_97 rfl (fun n28 => ?_)
    refine r_bIinc (pc := 100) (lv' := fun x30 => [(5, .int x30), (3, .long x25), (0, .ref (X.2.1 + 0)), (2, .int v2)]) 3 rfl rfl (by decide) (fun _ => rfl) hG dX11_nights_100 (fun x30 => ?_)
    refine r_goto (pc := 103) (tgt := 43) (by decide) hG dX11_nights_103 ?_
    exact r_sub [2, 3, 1, 0] rfl hG (hK43 v2 x25 x30 s27)
set_option maxRecDepth 4000 in
theorem w_Go_nights_L43 {X : Cx} {G : GT (Int32 × St)} (N : Nat) (hG : IsG X RX11 cX11_nights 6 10 (some .int) oWI G) : ∀ (n : Nat), ∀ (v2 : Int32) (v3 : Int64) (v5 : Int32) (σ : St), G (Go_nights_L43 N n v2 v3 v5 σ) σ 43 [(0, .ref (X.2.1 + 0)), (2, .int v2), (3, .long v3), (5, .int v5)] [] := by
  intro n
  induction n with
  | zero => intro v2 v3 v5 σ; exact r_none hG
  | succ n ih => intro v2 v3 v5 σ; exact w_Go_nights_L43B N hG ih v2 v3 v5 σ
set_option maxRecDepth 4000 in
theorem c_Go_nights (X : Cx) (N : Nat) (v1 : Int32) (v2 : Int32) (σ : St) (r : Int32) (σ1 : St) (hE : Go_nights N v1 v2 σ = some (r, σ1)) : Ctr X yX11_nights cX11_nights 6 (some .int) 10 [.ref (X.2.1 + 0), .int v1, .int v2] σ (some (.int r)) σ1 := by
  refine Ctr.of (out := oWI) (E := Go_nights N v1 v2 σ) rfl (Nat.le_of_ble_eq_true rfl) (fun G hG => ?_) (r, σ1) hE
  unfold Go_nights
  refine r_iload_n (pc := 0) 1 1 rfl rfl hG dX11_nights_0 ?_
  refine r_iconst (pc := 1) (v := 0) (by decide) hG dX11_nights_1 ?_
  refine r_ldcw (pc := 2) (v := 999999) lk1049 hG dX11_nights_2 ?_
  refine r_callSi (pc := 5) (As := [.int v1, .int 0, .int 999999]) (c_Go_within X v1 0 999999 σ) mfX11_91_X11_within hySX11_within (by decide) (by decide) rfl (Nat.le_of_ble_eq_true rfl) hG dX11_nights_5 rfl (fun n2 => ?_)
  refine r_if_eq (pc := 8) (tgt := 21) (by decide) hG dX11_nights_8 (fun h4 => ?_) (fun h4 => ?_)
  · exact r_sub [0] rfl hG (w_Go_nights_J21 N hG σ)
  · refine r_iload_n (pc := 11) 2 2 rfl rfl hG dX11_nights_11 ?_
    refine r_iconst (pc := 12) (v := 0) (by decide) hG dX11_nights_12 ?_
    refine r_bipush (pc := 13) (v := 60) (by decide) hG dX11_nights_13 ?_
    refine r_callSi (pc := 15) (As := [.int v2, .int 0, .int 60]) (c_Go_within X v2 0 60 σ) mfX11_91_X11_within hySX11_within (by decide) (by decide) rfl (Nat.le_of_ble_eq_true rfl) hG dX11_nights_15 rfl (fun n10 => ?_)
    refine r_if_ne (pc := 18) (tgt := 26) (by decide) hG dX11_nights_18 (fun h12 => ?_) (fun h12 => ?_)
    · refine r_aload_n (pc := 26) 0 0 rfl rfl hG dX11_nights_26 ?_
      refine gf11_1 (pc := 27) lk441 hG dX11_nights_27 ?_
      refine r_aload_n (pc := 30) 0 0 rfl rfl hG dX11_nights_30 ?_
      refine gf11_0 (pc := 31) lk440 hG dX11_nights_31 ?_
      refine r_bR hG (fun s14 e16 => ?_)
      refine r_callVv (pc := 34) (As := [.ref (X.2.1 + 1)]) (c_Ni_take X N 21 1 σ (rfl : shp 21 = 4) (rfl : shp 1 = 4) s14 e16) (wsOf_at (rfl : shp 21 = 4) (by decide) rfl) rfl mfX11_150_X4_take hyVX4_take (by decide) (by decide) rfl (Nat.le_of_ble_eq_true rfl) hG dX11_nights_34 rfl (fun n15 => ?_)
      refine r_iload_n (pc := 37) 1 1 rfl rfl hG dX11_nights_37 ?_
      refine r_i2l (pc := 38) hG dX11_nights_38 ?_
      refine r_bL hG (fun x17 => ?_)
      refine r_lstore_n (pc := 39) (lv' := [(3, .long x17), (0, .ref (X.2.1 + 0)), (1, .int v1), (2, .int v2)]) 3 rfl (by decide) rfl hG dX11_nights_39 ?_
      refine r_iconst (pc := 40) (v := 0) (by decide) hG dX11_nights_40 ?_
      refine r_istore (pc := 41) (lv' := [(5, .int 0), (3, .long x17), (0, .ref (X.2.1 + 0)), (1, .int v1), (2, .int v2)]) (by decide) rfl hG dX11_nights_41 ?_
      exact r_sub [2, 4, 1, 0] rfl hG (w_Go_nights_L43 N hG N v2 x17 0 s14)
    · exact r_sub [0] rfl hG (w_Go_nights_J21 N hG σ)
set_option maxRecDepth 4000 in
theorem c_Go_part (X : Cx) (N : Nat) (v1 : Int32) (σ : St) (r : Int64) (σ1 : St) (hE : Go_part N v1 σ = some (r, σ1)) : Ctr X yX11_part cX11_part 2 (some .long) 2 [.ref (X.2.1 + 0), .int v1] σ (some (.long r)) σ1 := by
  refine Ctr.of (out := oWL) (E := Go_part N v1 σ) rfl (Nat.le_of_ble_eq_true rfl) (fun G hG => ?_) (r, σ1) hE
  unfold Go_part
  refine r_iload_n (pc := 0) 1 1 rfl rfl hG dX11_part_0 ?_
  refine r_iconst (pc := 1) (v := 0) (by decide) hG dX11_part_1 ?_
  refine r_iconst (pc := 2) (v := 1) (by decide) hG dX11_part_2 ?_
  refine r_callSi (pc := 3) (As := [.int v1, .int 0, .int 1]) (c_Go_within X v1 0 1 σ) mfX11_91_X11_within hySX11_within (by decide) (by decide) rfl (Nat.le_of_ble_eq_true rfl) hG dX11_part_3 rfl (fun n2 => ?_)
  refine r_if_ne (pc := 6) (tgt := 15) (by decide) hG dX11_part_6 (fun h4 => ?_) (fun h4 => ?_)
  · refine r_iload_n (pc := 15) 1 1 rfl rfl hG dX11_part_15 ?_
    refine r_if_ne (pc := 16) (tgt := 29) (by decide) hG dX11_part_16 (fun h5 => ?_) (fun h5 => ?_)
    · refine r_aload_n (pc := 29) 0 0 rfl rfl hG dX11_part_29 ?_
      refine gf11_13 (pc := 30) lk453 hG dX11_part_30 ?_
      refine gf2_2 (pc := 33) lk399 hG dX11_part_33 ?_
      exact r_lret (pc := 36) rfl hG dX11_part_36
    · refine r_aload_n (pc := 19) 0 0 rfl rfl hG dX11_part_19 ?_
      refine gf11_13 (pc := 20) lk453 hG dX11_part_20 ?_
      refine gf2_1 (pc := 23) lk397 hG dX11_part_23 ?_
      refine r_goto (pc := 26) (tgt := 36) (by decide) hG dX11_part_26 ?_
      exact r_lret (pc := 36) rfl hG dX11_part_36
  · refine r_aload_n (pc := 9) 0 0 rfl rfl hG dX11_part_9 ?_
    refine r_bW hG (fun r6 s7 e9 => ?_)
    refine r_callVi (pc := 10) (As := []) (c_Go_refuseBad X N σ r6 s7 e9) (wsOf_at (rfl : shp 0 = 11) (by decide) rfl) rfl mfX11_95_X11_refuseBad hyVX11_refuseBad (by decide) (by decide) rfl (Nat.le_of_ble_eq_true rfl) hG dX11_part_10 rfl (fun n8 => ?_)
    refine r_i2l (pc := 13) hG dX11_part_13 ?_
    exact r_lret (pc := 14) rfl hG dX11_part_14
set_option maxRecDepth 4000 in
theorem c_Go_image (X : Cx) (N : Nat) (v1 : Int32) (σ : St) (r : Int32) (σ1 : St) (hE : Go_image N v1 σ = some (r, σ1)) : Ctr X yX11_image cX11_image 2 (some .int) 4 [.ref (X.2.1 + 0), .int v1] σ (some (.int r)) σ1 := by
  refine Ctr.of (out := oWI) (E := Go_image N v1 σ) rfl (Nat.le_of_ble_eq_true rfl) (fun G hG => ?_) (r, σ1) hE
  unfold Go_image
  refine r_iload_n (pc := 0) 1 1 rfl rfl hG dX11_image_0 ?_
  refine r_iconst (pc := 1) (v := 0) (by decide) hG dX11_image_1 ?_
  refine r_iconst (pc := 2) (v := 1) (by decide) hG dX11_image_2 ?_
  refine r_callSi (pc := 3) (As := [.int v1, .int 0, .int 1]) (c_Go_within X v1 0 1 σ) mfX11_91_X11_within hySX11_within (by decide) (by decide) rfl (Nat.le_of_ble_eq_true rfl) hG dX11_image_3 rfl (fun n2 => ?_)
  refine r_if_ne (pc := 6) (tgt := 14) (by decide) hG dX11_image_6 (fun h4 => ?_) (fun h4 => ?_)
  · refine r_aload_n (pc := 14) 0 0 rfl rfl hG dX11_image_14 ?_
    refine gf11_2 (pc := 15) lk442 hG dX11_image_15 ?_
    refine r_iload_n (pc := 18) 1 1 rfl rfl hG dX11_image_18 ?_
    refine r_ck hG (fun h5 => ?_)
    refine r_aImages (pc := 19) rfl h5 hG dX11_image_19 ?_
    refine r_aload_n (pc := 20) 0 0 rfl rfl hG dX11_image_20 ?_
    refine gf11_0 (pc := 21) lk440 hG dX11_image_21 ?_
    refine r_bR hG (fun s7 e9 => ?_)
    refine r_callVv (pc := 24) (As := [.ref (X.2.1 + 1)]) (c_Ni_take X N (74 + 20 * (v1).toNatClampNeg) 1 σ (shIm h5) (rfl : shp 1 = 4) s7 e9) (wsOf_at (shIm h5) (by decide) rfl) rfl mfX11_150_X4_take hyVX4_take (by decide) (by decide) rfl (Nat.le_of_ble_eq_true rfl) hG dX11_image_24 rfl (fun n8 => ?_)
    refine r_aload_n (pc := 27) 0 0 rfl rfl hG dX11_image_27 ?_
    refine gf11_3 (pc := 28) lk443 hG dX11_image_28 ?_
    refine r_iload_n (pc := 31) 1 1 rfl rfl hG dX11_image_31 ?_
    refine r_iconst (pc := 32) (v := 1) (by decide) hG dX11_image_32 ?_
    refine r_ck hG (fun h10 => ?_)
    refine r_zast (pc := 33) (i := 42) (rfl : shp 42 = 15) rfl h10 hG dX11_image_33 ?_
    refine r_bS hG (fun s11 => ?_)
    refine r_iconst (pc := 34) (v := 1) (by decide) hG dX11_image_34 ?_
    exact r_iret (pc := 35) rfl hG dX11_image_35
  · refine r_aload_n (pc := 9) 0 0 rfl rfl hG dX11_image_9 ?_
    refine r_bW hG (fun r12 s13 e15 => ?_)
    refine r_callVi (pc := 10) (As := []) (c_Go_refuseBad X N σ r12 s13 e15) (wsOf_at (rfl : shp 0 = 11) (by decide) rfl) rfl mfX11_95_X11_refuseBad hyVX11_refuseBad (by decide) (by decide) rfl (Nat.le_of_ble_eq_true rfl) hG dX11_image_10 rfl (fun n14 => ?_)
    exact r_iret (pc := 13) rfl hG dX11_image_13
set_option maxRecDepth 4000 in
theorem c_Go_from (X : Cx) (N : Nat) (v1 : Int32) (σ : St) (r : Int32) (σ1 : St) (hE : Go_from N v1 σ = some (r, σ1)) : Ctr X yX11_from cX11_from 2 (some .int) 4 [.ref (X.2.1 + 0), .int v1] σ (some (.int r)) σ1 := by
  refine Ctr.of (out := oWI) (E := Go_from N v1 σ) rfl (Nat.le_of_ble_eq_true rfl) (fun G hG => ?_) (r, σ1) hE
  unfold Go_from
  refine r_iload_n (pc := 0) 1 1 rfl rfl hG dX11_from_0 ?_
  refine r_iconst (pc := 1) (v := 0) (by decide) hG dX11_from_1 ?_
  refine r_iconst (pc := 2) (v := 1) (by decide) hG dX11_from_2 ?_
  refine r_callSi (pc := 3) (As := [.int v1, .int 0, .int 1]) (c_Go_within X v1 0 1 σ) mfX11_91_X11_within hySX11_within (by decide) (by decide) rfl (Nat.le_of_ble_eq_true rfl) hG dX11_from_3 rfl (fun n2 => ?_)
  refine r_if_ne (pc := 6) (tgt := 14) (by decide) hG dX11_from_6 (fun h4 => ?_) (fun h4 => ?_)
  · refine r_aload_n (pc := 14) 0 0 rfl rfl hG dX11_from_14 ?_
    refine gf11_3 (pc := 15) lk443 hG dX11_from_15 ?_
    refine r_iload_n (pc := 18) 1 1 rfl rfl hG dX11_from_18 ?_
    refine r_ck hG (fun h5 => ?_)
    refine r_zald (pc := 19) (i := 42) (rfl : shp 42 = 15) rfl h5 hG dX11_from_19 ?_
    refine r_if_ne (pc := 20) (tgt := 28) (by decide) hG dX11_from_20 (fun h6 => ?_) (fun h6 => ?_)
    · refine r_aload_n (pc := 28) 0 0 rfl rfl hG dX11_from_28 ?_
      refine gf11_0 (pc := 29) lk440 hG dX11_from_29 ?_
      refine r_aload_n (pc := 32) 0 0 rfl rfl hG dX11_from_32 ?_
      refine gf11_2 (pc := 33) lk442 hG dX11_from_33 ?_
      refine r_iload_n (pc := 36) 1 1 rfl rfl hG dX11_from_36 ?_
      refine r_ck hG (fun h7 => ?_)
      refine r_aImages (pc := 37) rfl h7 hG dX11_from_37 ?_
      refine r_bR hG (fun s9 e11 => ?_)
      refine r_callVv (pc := 38) (As := [.ref (X.2.1 + (74 + 20 * (v1).toNatClampNeg))]) (c_Ni_take X N 1 (74 + 20 * (v1).toNatClampNeg) σ (rfl : shp 1 = 4) (shIm h7) s9 e11) (wsOf_at (rfl : shp 1 = 4) (by decide) rfl) rfl mfX11_150_X4_take hyVX4_take (by decide) (by decide) rfl (Nat.le_of_ble_eq_true rfl) hG dX11_from_38 rfl (fun n10 => ?_)
      refine r_iconst (pc := 41) (v := 1) (by decide) hG dX11_from_41 ?_
      exact r_iret (pc := 42) rfl hG dX11_from_42
    · refine r_aload_n (pc := 23) 0 0 rfl rfl hG dX11_from_23 ?_
      refine r_bW hG (fun r12 s13 e15 => ?_)
      refine r_callVi (pc := 24) (As := []) (c_Go_refuseNo X N σ r12 s13 e15) (wsOf_at (rfl : shp 0 = 11) (by decide) rfl) rfl mfX11_168_X11_refuseNo hyVX11_refuseNo (by decide) (by decide) rfl (Nat.le_of_ble_eq_true rfl) hG dX11_from_24 rfl (fun n14 => ?_)
      exact r_iret (pc := 27) rfl hG dX11_from_27
  · refine r_aload_n (pc := 9) 0 0 rfl rfl hG dX11_from_9 ?_
    refine r_bW hG (fun r16 s17 e19 => ?_)
    refine r_callVi (pc := 10) (As := []) (c_Go_refuseBad X N σ r16 s17 e19) (wsOf_at (rfl : shp 0 = 11) (by decide) rfl) rfl mfX11_95_X11_refuseBad hyVX11_refuseBad (by decide) (by decide) rfl (Nat.le_of_ble_eq_true rfl) hG dX11_from_10 rfl (fun n18 => ?_)
    exact r_iret (pc := 13) rfl hG dX11_from_13
set_option maxRecDepth 4000 in
theorem c_Go_status (X : Cx) (N : Nat) (v1 : Int32) (σ : St) (r : Int32) (σ1 : St) (hE : Go_status N v1 σ = some (r, σ1)) : Ctr X yX11_status cX11_status 2 (some .int) 2 [.ref (X.2.1 + 0), .int v1] σ (some (.int r)) σ1 := by
  refine Ctr.of (out := oWI) (E := Go_status N v1 σ) rfl (Nat.le_of_ble_eq_true rfl) (fun G hG => ?_) (r, σ1) hE
  unfold Go_status
  refine r_iload_n (pc := 0) 1 1 rfl rfl hG dX11_status_0 ?_
  refine r_iconst (pc := 1) (v := 0) (by decide) hG dX11_status_1 ?_
  refine r_iconst (pc := 2) (v := 2) (by decide) hG dX11_status_2 ?_
  refine r_callSi (pc := 3) (As := [.int v1, .int 0, .int 2]) (c_Go_within X v1 0 2 σ) mfX11_91_X11_within hySX11_within (by decide) (by decide) rfl (Nat.le_of_ble_eq_true rfl) hG dX11_status_3 rfl (fun n2 => ?_)
  refine r_if_ne (pc := 6) (tgt := 16) (by decide) hG dX11_status_6 (fun h4 => ?_) (fun h4 => ?_)
  · refine r_aload_n (pc := 16) 0 0 rfl rfl hG dX11_status_16 ?_
    refine gf11_6 (pc := 17) lk446 hG dX11_status_17 ?_
    refine r_iload_n (pc := 20) 1 1 rfl rfl hG dX11_status_20 ?_
    refine r_ck hG (fun h5 => ?_)
    refine r_iald (pc := 21) (i := 44) (rfl : shp 44 = 14) rfl h5 hG dX11_status_21 ?_
    exact r_iret (pc := 22) rfl hG dX11_status_22
  · refine r_aload_n (pc := 9) 0 0 rfl rfl hG dX11_status_9 ?_
    refine r_bW hG (fun r6 s7 e9 => ?_)
    refine r_callVi (pc := 10) (As := []) (c_Go_refuseBad X N σ r6 s7 e9) (wsOf_at (rfl : shp 0 = 11) (by decide) rfl) rfl mfX11_95_X11_refuseBad hyVX11_refuseBad (by decide) (by decide) rfl (Nat.le_of_ble_eq_true rfl) hG dX11_status_10 rfl (fun n8 => ?_)
    refine r_pop (pc := 13) rfl hG dX11_status_13 ?_
    refine r_iconst (pc := 14) (v := (-1)) (by decide) hG dX11_status_14 ?_
    exact r_iret (pc := 15) rfl hG dX11_status_15
set_option maxRecDepth 4000 in
theorem c_Go_count (X : Cx) (N : Nat) (v1 : Int32) (σ : St) (r : Int32) (σ1 : St) (hE : Go_count N v1 σ = some (r, σ1)) : Ctr X yX11_count cX11_count 2 (some .int) 4 [.ref (X.2.1 + 0), .int v1] σ (some (.int r)) σ1 := by
  refine Ctr.of (out := oWI) (E := Go_count N v1 σ) rfl (Nat.le_of_ble_eq_true rfl) (fun G hG => ?_) (r, σ1) hE
  unfold Go_count
  refine r_iload_n (pc := 0) 1 1 rfl rfl hG dX11_count_0 ?_
  refine r_ite hG (fun h1 => ?_) (fun h1 => ?_)
  · refine r_tableIn (pc := 1) (tgt := 60) (off := 59) (by rw [h1]; decide) (by rw [h1]; decide) (by rw [h1]; decide) (by decide) hG dX11_count_1 ?_
    refine r_aload_n (pc := 60) 0 0 rfl rfl hG dX11_count_60 ?_
    refine gf11_0 (pc := 61) lk440 hG dX11_count_61 ?_
    refine r_bR hG (fun r2 e4 => ?_)
    refine r_callVi (pc := 64) (As := []) (c_Ni_canalCount X N 1 σ (rfl : shp 1 = 4) r2 e4) (wsOf_at (rfl : shp 1 = 4) (by decide) rfl) rfl mfX11_351_X4_canalCount hyVX4_canalCount (by decide) (by decide) rfl (Nat.le_of_ble_eq_true rfl) hG dX11_count_64 rfl (fun n3 => ?_)
    exact r_iret (pc := 67) rfl hG dX11_count_67
  · refine r_ite hG (fun h5 => ?_) (fun h5 => ?_)
    · refine r_tableIn (pc := 1) (tgt := 68) (off := 67) (by rw [h5]; decide) (by rw [h5]; decide) (by rw [h5]; decide) (by decide) hG dX11_count_1 ?_
      refine r_aload_n (pc := 68) 0 0 rfl rfl hG dX11_count_68 ?_
      refine gf11_0 (pc := 69) lk440 hG dX11_count_69 ?_
      refine gf4_4 (pc := 72) (i := 1) (rfl : shp 1 = 4) lk235 hG dX11_count_72 ?_
      exact r_iret (pc := 75) rfl hG dX11_count_75
    · refine r_ite hG (fun h6 => ?_) (fun h6 => ?_)
      · refine r_tableIn (pc := 1) (tgt := 76) (off := 75) (by rw [h6]; decide) (by rw [h6]; decide) (by rw [h6]; decide) (by decide) hG dX11_count_1 ?_
        refine r_aload_n (pc := 76) 0 0 rfl rfl hG dX11_count_76 ?_
        refine gf11_0 (pc := 77) lk440 hG dX11_count_77 ?_
        refine gf4_5 (pc := 80) (i := 1) (rfl : shp 1 = 4) lk236 hG dX11_count_80 ?_
        exact r_iret (pc := 83) rfl hG dX11_count_83
      · refine r_ite hG (fun h7 => ?_) (fun h7 => ?_)
        · refine r_tableIn (pc := 1) (tgt := 84) (off := 83) (by rw [h7]; decide) (by rw [h7]; decide) (by rw [h7]; decide) (by decide) hG dX11_count_1 ?_
          refine r_aload_n (pc := 84) 0 0 rfl rfl hG dX11_count_84 ?_
          refine gf11_0 (pc := 85) lk440 hG dX11_count_85 ?_
          refine r_bR hG (fun r8 e10 => ?_)
          refine r_callVi (pc := 88) (As := []) (c_Ni_toldBits X N 1 σ (rfl : shp 1 = 4) r8 e10) (wsOf_at (rfl : shp 1 = 4) (by decide) rfl) rfl mfX11_336_X4_toldBits hyVX4_toldBits (by decide) (by decide) rfl (Nat.le_of_ble_eq_true rfl) hG dX11_count_88 rfl (fun n9 => ?_)
          exact r_iret (pc := 91) rfl hG dX11_count_91
        · refine r_ite hG (fun h11 => ?_) (fun h11 => ?_)
          · refine r_tableIn (pc := 1) (tgt := 92) (off := 91) (by rw [h11]; decide) (by rw [h11]; decide) (by rw [h11]; decide) (by decide) hG dX11_count_1 ?_
            refine r_aload_n (pc := 92) 0 0 rfl rfl hG dX11_count_92 ?_
            refine gf11_0 (pc := 93) lk440 hG dX11_count_93 ?_
            refine r_iconst (pc := 96) (v := 2) (by decide) hG dX11_count_96 ?_
            refine r_bR hG (fun r12 e14 => ?_)
            refine r_callVi (pc := 97) (As := [.int 2]) (c_Ni_sum X N 1 2 σ (rfl : shp 1 = 4) r12 e14) (wsOf_at (rfl : shp 1 = 4) (by decide) rfl) rfl mfX11_354_X4_sum hyVX4_sum (by decide) (by decide) rfl (Nat.le_of_ble_eq_true rfl) hG dX11_count_97 rfl (fun n13 => ?_)
            exact r_iret (pc := 100) rfl hG dX11_count_100
          · refine r_ite hG (fun h15 => ?_) (fun h15 => ?_)
            · refine r_tableIn (pc := 1) (tgt := 101) (off := 100) (by rw [h15]; decide) (by rw [h15]; decide) (by rw [h15]; decide) (by decide) hG dX11_count_1 ?_
              refine r_aload_n (pc := 101) 0 0 rfl rfl hG dX11_count_101 ?_
              refine gf11_0 (pc := 102) lk440 hG dX11_count_102 ?_
              refine r_iconst (pc := 105) (v := 3) (by decide) hG dX11_count_105 ?_
              refine r_bR hG (fun r16 e18 => ?_)
              refine r_callVi (pc := 106) (As := [.int 3]) (c_Ni_sum X N 1 3 σ (rfl : shp 1 = 4) r16 e18) (wsOf_at (rfl : shp 1 = 4) (by decide) rfl) rfl mfX11_354_X4_sum hyVX4_sum (by decide) (by decide) rfl (Nat.le_of_ble_eq_true rfl) hG dX11_count_106 rfl (fun n17 => ?_)
              exact r_iret (pc := 109) rfl hG dX11_count_109
            · refine r_ite hG (fun h19 => ?_) (fun h19 => ?_)
              · refine r_tableIn (pc := 1) (tgt := 110) (off := 109) (by rw [h19]; decide) (by rw [h19]; decide) (by rw [h19]; decide) (by decide) hG dX11_count_1 ?_
                refine r_aload_n (pc := 110) 0 0 rfl rfl hG dX11_count_110 ?_
                refine gf11_0 (pc := 111) lk440 hG dX11_count_111 ?_
                refine gf4_6 (pc := 114) (i := 1) (rfl : shp 1 = 4) lk242 hG dX11_count_114 ?_
                refine gf9_3 (pc := 117) (i := 6) (rfl : shp 6 = 9) lk124 hG dX11_count_117 ?_
                exact r_iret (pc := 120) rfl hG dX11_count_120
              · refine r_ite hG (fun h20 => ?_) (fun h20 => ?_)
                · refine r_tableIn (pc := 1) (tgt := 121) (off := 120) (by rw [h20]; decide) (by rw [h20]; decide) (by rw [h20]; decide) (by decide) hG dX11_count_1 ?_
                  refine r_aload_n (pc := 121) 0 0 rfl rfl hG dX11_count_121 ?_
                  refine gf11_0 (pc := 122) lk440 hG dX11_count_122 ?_
                  refine gf4_7 (pc := 125) (i := 1) (rfl : shp 1 = 4) lk245 hG dX11_count_125 ?_
                  refine gf9_3 (pc := 128) (i := 8) (rfl : shp 8 = 9) lk124 hG dX11_count_128 ?_
                  exact r_iret (pc := 131) rfl hG dX11_count_131
                · refine r_ite hG (fun h21 => ?_) (fun h21 => ?_)
                  · refine r_tableIn (pc := 1) (tgt := 132) (off := 131) (by rw [h21]; decide) (by rw [h21]; decide) (by rw [h21]; decide) (by decide) hG dX11_count_1 ?_
                    refine r_aload_n (pc := 132) 0 0 rfl rfl hG dX11_count_132 ?_
                    refine gf11_0 (pc := 133) lk440 hG dX11_count_133 ?_
                    refine gf4_8 (pc := 136) (i := 1) (rfl : shp 1 = 4) lk248 hG dX11_count_136 ?_
                    refine gf9_3 (pc := 139) (i := 10) (rfl : shp 10 = 9) lk124 hG dX11_count_139 ?_
                    exact r_iret (pc := 142) rfl hG dX11_count_142
                  · refine r_ite hG (fun h22 => ?_) (fun h22 => ?_)
                    · refine r_tableIn (pc := 1) (tgt := 143) (off := 142) (by rw [h22]; decide) (by rw [h22]; decide) (by rw [h22]; decide) (by decide) hG dX11_count_1 ?_
                      refine r_aload_n (pc := 143) 0 0 rfl rfl hG dX11_count_143 ?_
                      refine gf11_0 (pc := 144) lk440 hG dX11_count_144 ?_
                      refine gf4_9 (pc := 147) (i := 1) (rfl : shp 1 = 4) lk250 hG dX11_count_147 ?_
                      refine gf5_1 (pc := 150) (i := 12) (rfl : shp 12 = 5) lk144 hG dX11_count_150 ?_
                      exact r_iret (pc := 153) rfl hG dX11_count_153
                    · refine r_ite hG (fun h23 => ?_) (fun h23 => ?_)
                      · refine r_tableIn (pc := 1) (tgt := 154) (off := 153) (by rw [h23]; decide) (by rw [h23]; decide) (by rw [h23]; decide) (by decide) hG dX11_count_1 ?_
                        refine r_aload_n (pc := 154) 0 0 rfl rfl hG dX11_count_154 ?_
                        refine gf11_5 (pc := 155) lk445 hG dX11_count_155 ?_
                        exact r_iret (pc := 158) rfl hG dX11_count_158
                      · refine r_tableOut (pc := 1) (tgt := 159) (by have q0 := lv_neT h1 (a := 0) (by decide); have q1 := lv_neT h5 (a := 1) (by decide); have q2 := lv_neT h6 (a := 2) (by decide); have q3 := lv_neT h7 (a := 3) (by decide); have q4 := lv_neT h11 (a := 4) (by decide); have q5 := lv_neT h15 (a := 5) (by decide); have q6 := lv_neT h19 (a := 6) (by decide); have q7 := lv_neT h20 (a := 7) (by decide); have q8 := lv_neT h21 (a := 8) (by decide); have q9 := lv_neT h22 (a := 9) (by decide); have q10 := lv_neT h23 (a := 10) (by decide); omega) (by decide) hG dX11_count_1 ?_
                        refine r_aload_n (pc := 159) 0 0 rfl rfl hG dX11_count_159 ?_
                        refine r_bW hG (fun r24 s25 e27 => ?_)
                        refine r_callVi (pc := 160) (As := []) (c_Go_refuseBad X N σ r24 s25 e27) (wsOf_at (rfl : shp 0 = 11) (by decide) rfl) rfl mfX11_95_X11_refuseBad hyVX11_refuseBad (by decide) (by decide) rfl (Nat.le_of_ble_eq_true rfl) hG dX11_count_160 rfl (fun n26 => ?_)
                        exact r_iret (pc := 163) rfl hG dX11_count_163
set_option maxRecDepth 4000 in
theorem w_Go_digest_J31 {X : Cx} {G : GT (Int64 × St)} (N : Nat) (hG : IsG X RX11 cX11_digest 4 5 (some .long) oWL G) (v1 : Int64) (σ : St) : G (Go_digest_J31 N v1 σ) σ 31 [(0, .ref (X.2.1 + 0)), (1, .long v1)] [] := by
  unfold Go_digest_J31
  refine r_aload_n (pc := 31) 0 0 rfl rfl hG dX11_digest_31 ?_
  refine gf11_0 (pc := 32) lk440 hG dX11_digest_32 ?_
  refine r_lload_n (pc := 35) 1 1 rfl rfl hG dX11_digest_35 ?_
  refine r_bR hG (fun r2 e4 => ?_)
  refine r_callVl (pc := 36) (As := [.long v1]) (c_Ni_fold X N 1 v1 σ (rfl : shp 1 = 4) r2 e4) (wsOf_at (rfl : shp 1 = 4) (by decide) rfl) rfl mfX11_364_X4_fold hyVX4_fold (by decide) (by decide) rfl (Nat.le_of_ble_eq_true rfl) hG dX11_digest_36 rfl (fun n3 => ?_)
  refine r_lstore_n (pc := 39) (lv' := [(1, .long r2), (0, .ref (X.2.1 + 0))]) 1 rfl (by decide) rfl hG dX11_digest_39 ?_
  refine r_aload_n (pc := 40) 1 0 rfl rfl hG dX11_digest_40 ?_
  refine gf11_0 (pc := 41) lk440 hG dX11_digest_41 ?_
  refine gf4_6 (pc := 44) (i := 1) (rfl : shp 1 = 4) lk242 hG dX11_digest_44 ?_
  refine r_lload_n (pc := 47) 0 1 rfl rfl hG dX11_digest_47 ?_
  refine r_bR hG (fun r5 e7 => ?_)
  refine r_callVl (pc := 48) (As := [.long r2]) (c_Ta_fold X N 6 r2 σ (rfl : shp 6 = 9) r5 e7) (wsOf_at (rfl : shp 6 = 9) (by decide) rfl) rfl mfX11_368_X9_fold hyVX9_fold (by decide) (by decide) rfl (Nat.le_of_ble_eq_true rfl) hG dX11_digest_48 rfl (fun n6 => ?_)
  refine r_lstore_n (pc := 51) (lv' := [(1, .long r5), (0, .ref (X.2.1 + 0))]) 1 rfl (by decide) rfl hG dX11_digest_51 ?_
  refine r_aload_n (pc := 52) 1 0 rfl rfl hG dX11_digest_52 ?_
  refine gf11_0 (pc := 53) lk440 hG dX11_digest_53 ?_
  refine gf4_7 (pc := 56) (i := 1) (rfl : shp 1 = 4) lk245 hG dX11_digest_56 ?_
  refine r_lload_n (pc := 59) 0 1 rfl rfl hG dX11_digest_59 ?_
  refine r_bR hG (fun r8 e10 => ?_)
  refine r_callVl (pc := 60) (As := [.long r5]) (c_Ta_fold X N 8 r5 σ (rfl : shp 8 = 9) r8 e10) (wsOf_at (rfl : shp 8 = 9) (by decide) rfl) rfl mfX11_368_X9_fold hyVX9_fold (by decide) (by decide) rfl (Nat.le_of_ble_eq_true rfl) hG dX11_digest_60 rfl (fun n9 => ?_)
  refine r_lstore_n (pc := 63) (lv' := [(1, .long r8), (0, .ref (X.2.1 + 0))]) 1 rfl (by decide) rfl hG dX11_digest_63 ?_
  refine r_aload_n (pc := 64) 1 0 rfl rfl hG dX11_digest_64 ?_
  refine gf11_0 (pc := 65) lk440 hG dX11_digest_65 ?_
  refine gf4_8 (pc := 68) (i := 1) (rfl : shp 1 = 4) lk248 hG dX11_digest_68 ?_
  refine r_lload_n (pc := 71) 0 1 rfl rfl hG dX11_digest_71 ?_
  refine r_bR hG (fun r11 e13 => ?_)
  refine r_callVl (pc := 72) (As := [.long r8]) (c_Ta_fold X N 10 r8 σ (rfl : shp 10 = 9) r11 e13) (wsOf_at (rfl : shp 10 = 9) (by decide) rfl) rfl mfX11_368_X9_fold hyVX9_fold (by decide) (by decide) rfl (Nat.le_of_ble_eq_true rfl) hG dX11_digest_72 rfl (fun n12 => ?_)
  refine r_lstore_n (pc := 75) (lv' := [(1, .long r11), (0, .ref (X.2.1 + 0))]) 1 rfl (by decide) rfl hG dX11_digest_75 ?_
  refine r_ldc2 (pc := 76) (v := 31) lk1113 hG dX11_digest_76 ?_
  refine r_lload_n (pc := 79) 0 1 rfl rfl hG dX11_digest_79 ?_
  refine r_lmul (pc := 80) hG dX11_digest_80 ?_
  refine r_aload_n (pc := 81) 1 0 rfl rfl hG dX11_digest_81 ?_
  refine gf11_13 (pc := 82) lk453 hG dX11_digest_82 ?_
  refine gf2_1 (pc := 85) lk397 hG dX11_digest_85 ?_
  refine r_ladd (pc := 88) hG dX11_digest_88 ?_
  refine r_bL hG (fun x14 => ?_)
  refine r_lstore_n (pc := 89) (lv' := [(1, .long x14), (0, .ref (X.2.1 + 0))]) 1 rfl (by decide) rfl hG dX11_digest_89 ?_
  refine r_ldc2 (pc := 90) (v := 31) lk1113 hG dX11_digest_90 ?_
  refine r_lload_n (pc := 93) 0 1 rfl rfl hG dX11_digest_93 ?_
  refine r_lmul (pc := 94) hG dX11_digest_94 ?_
  refine r_aload_n (pc := 95) 1 0 rfl rfl hG dX11_digest_95 ?_
  refine gf11_13 (pc := 96) lk453 hG dX11_digest_96 ?_
  refine gf2_2 (pc := 99) lk399 hG dX11_digest_99 ?_
  refine r_ladd (pc := 102) hG dX11_digest_102 ?_
  exact r_lret (pc := 103) rfl hG dX11_digest_103
set_option maxRecDepth 4000 in
theorem w_Go_digest_L6B {X : Cx} {G : GT (Int64 × St)} (N : Nat) (hG : IsG X RX11 cX11_digest 4 5 (some .long) oWL G) {K6 : Int64 → Int32 → St → Option (Int64 × St)} (hK6 : ∀ (v1 : Int64) (v3 : Int32) (s : St), G (K6 v1 v3 s) s 6 [(0, .ref (X.2.1 + 0)), (1, .long v1), (3, .int v3)] []) (v1 : Int64) (v3 : Int32) (σ : St) : G (Go_digest_L6B N K6 v1 v3 σ) σ 6 [(0, .ref (X.2.1 + 0)), (1, .long v1), (3, .int v3)] [] := by
  unfold Go_digest_L6B
  refine r_iload_n (pc := 6) 2 3 rfl rfl hG dX11_digest_6 ?_
  refine r_bipush (pc := 7) (v := 10) (by decide) hG dX11_digest_7 ?_
  refine r_icmp_gt (pc := 9) (tgt := 31) (by decide) hG dX11_digest_9 (fun h1 => ?_) (fun h1 => ?_)
  · exact r_sub [0, 1] rfl hG (w_Go_digest_J31 N hG v1 σ)
  · refine r_ldc2 (pc := 12) (v := 31) lk1113 hG dX11_digest_12 ?_
    refine r_lload_n (pc := 15) 1 1 rfl rfl hG dX11_digest_15 ?_
    refine r_lmul (pc := 16) hG dX11_digest_16 ?_
    refine r_aload_n (pc := 17) 0 0 rfl rfl hG dX11_digest_17 ?_
    refine r_iload_n (pc := 18) 2 3 rfl rfl hG dX11_digest_18 ?_
    refine r_bW hG (fun r15 s16 e18 => ?_)
    refine r_callVi (pc := 19) (As := [.int v3]) (c_Go_count X N v3 σ r15 s16 e18) (wsOf_at (rfl : shp 0 = 11) (by decide) rfl) rfl mfX11_361_X11_count hyVX11_count (by decide) (by decide) rfl (Nat.le_of_ble_eq_true rfl) hG dX11_digest_19 rfl (fun n17 => ?_)
    refine r_i2l (pc := 22) hG dX11_digest_22 ?_
    refine r_ladd (pc := 23) hG dX11_digest_23 ?_
    refine r_bL hG (fun x19 => ?_)
    refine r_lstore_n (pc := 24) (lv' := [(1, .long x19), (0, .ref (X.2.1 + 0)), (3, .int v3)]) 1 rfl (by decide) rfl hG dX11_digest_24 ?_
    refine r_bIinc (pc := 25) (lv' := fun x20 => [(3, .int x20), (1, .long x19), (0, .ref (X.2.1 + 0))]) 2 rfl rfl (by decide) (fun _ => rfl) hG dX11_digest_25 (fun x20 => ?_)
    refine r_goto (pc := 28) (tgt := 6) (by decide) hG dX11_digest_28 ?_
    exact r_sub [2, 1, 0] rfl hG (hK6 x19 x20 s16)
set_option maxRecDepth 4000 in
theorem w_Go_digest_L6 {X : Cx} {G : GT (Int64 × St)} (N : Nat) (hG : IsG X RX11 cX11_digest 4 5 (some .long) oWL G) : ∀ (n : Nat), ∀ (v1 : Int64) (v3 : Int32) (σ : St), G (Go_digest_L6 N n v1 v3 σ) σ 6 [(0, .ref (X.2.1 + 0)), (1, .long v1), (3, .int v3)] [] := by
  intro n
  induction n with
  | zero => intro v1 v3 σ; exact r_none hG
  | succ n ih => intro v1 v3 σ; exact w_Go_digest_L6B N hG ih v1 v3 σ
set_option maxRecDepth 4000 in
theorem c_Go_digest (X : Cx) (N : Nat) (σ : St) (r : Int64) (σ1 : St) (hE : Go_digest N σ = some (r, σ1)) : Ctr X yX11_digest cX11_digest 4 (some .long) 5 [.ref (X.2.1 + 0)] σ (some (.long r)) σ1 := by
  refine Ctr.of (out := oWL) (E := Go_digest N σ) rfl (Nat.le_of_ble_eq_true rfl) (fun G hG => ?_) (r, σ1) hE
  unfold Go_digest
  refine r_ldc2 (pc := 0) (v := 1847) lk1112 hG dX11_digest_0 ?_
  refine r_lstore_n (pc := 3) (lv' := [(1, .long 1847), (0, .ref (X.2.1 + 0))]) 1 rfl (by decide) rfl hG dX11_digest_3 ?_
  refine r_iconst (pc := 4) (v := 0) (by decide) hG dX11_digest_4 ?_
  refine r_istore_n (pc := 5) (lv' := [(3, .int 0), (1, .long 1847), (0, .ref (X.2.1 + 0))]) 3 rfl (by decide) rfl hG dX11_digest_5 ?_
  exact r_sub [2, 1, 0] rfl hG (w_Go_digest_L6 N hG N 1847 0 σ)
set_option maxRecDepth 4000 in
theorem c_Mo_in (X : Cx) (v0 : Int64) (v2 : Int64) (v4 : Int64) (σ : St) : Ctr X yX12_in cX12_in 6 (some .boolean) 1 [.long v0, .long v2, .long v4] σ (some (.int (Mo_in v0 v2 v4))) σ := by
  refine Ctr.of (out := (oI σ)) (E := some (Mo_in v0 v2 v4)) rfl (Nat.le_of_ble_eq_true rfl) (fun G hG => ?_) _ rfl
  unfold Mo_in
  refine r_lload_n (pc := 0) 0 0 rfl rfl hG dX12_in_0 ?_
  refine r_lload_n (pc := 1) 1 2 rfl rfl hG dX12_in_1 ?_
  refine r_lcmp (pc := 2) hG dX12_in_2 ?_
  refine r_if_ltS (pc := 3) (tgt := 17) (by decide) hG dX12_in_3 (fun h1 => ?_) (fun h1 => ?_)
  · refine r_iconst (pc := 17) (v := 0) (by decide) hG dX12_in_17 ?_
    exact r_zret (pc := 18) rvN_b0 rfl hG dX12_in_18
  · refine r_lload_n (pc := 6) 0 0 rfl rfl hG dX12_in_6 ?_
    refine r_lload (pc := 7) 2 rfl hG dX12_in_7 ?_
    refine r_lcmp (pc := 9) hG dX12_in_9 ?_
    refine r_if_gtS (pc := 10) (tgt := 17) (by decide) hG dX12_in_10 (fun h2 => ?_) (fun h2 => ?_)
    · refine r_iconst (pc := 17) (v := 0) (by decide) hG dX12_in_17 ?_
      exact r_zret (pc := 18) rvN_b0 rfl hG dX12_in_18
    · refine r_iconst (pc := 13) (v := 1) (by decide) hG dX12_in_13 ?_
      refine r_goto (pc := 14) (tgt := 18) (by decide) hG dX12_in_14 ?_
      exact r_zret (pc := 18) rvN_b1 rfl hG dX12_in_18
set_option maxRecDepth 4000 in
theorem c_Mo_less (X : Cx) (v0 : Int32) (v1 : Int32) (σ : St) : Ctr X yX12_less cX12_less 2 (some .int) 1 [.int v0, .int v1] σ (some (.int (Mo_less v0 v1))) σ := by
  refine Ctr.of (out := (oI σ)) (E := some (Mo_less v0 v1)) rfl (Nat.le_of_ble_eq_true rfl) (fun G hG => ?_) _ rfl
  unfold Mo_less
  refine r_iload_n (pc := 0) 0 0 rfl rfl hG dX12_less_0 ?_
  refine r_iload_n (pc := 1) 1 1 rfl rfl hG dX12_less_1 ?_
  refine r_icmp_geS (pc := 2) (tgt := 9) (by decide) hG dX12_less_2 (fun h1 => ?_) (fun h1 => ?_)
  · refine r_iload_n (pc := 9) 1 1 rfl rfl hG dX12_less_9 ?_
    exact r_iret (pc := 10) rfl hG dX12_less_10
  · refine r_iload_n (pc := 5) 0 0 rfl rfl hG dX12_less_5 ?_
    refine r_goto (pc := 6) (tgt := 10) (by decide) hG dX12_less_6 ?_
    exact r_iret (pc := 10) rfl hG dX12_less_10
set_option maxRecDepth 4000 in
theorem c_Mo_has (X : Cx) (v0 : Int32) (v1 : Int32) (σ : St) : Ctr X yX12_has cX12_has 2 (some .boolean) 1 [.int v0, .int v1] σ (some (.int (Mo_has v0 v1))) σ := by
  refine Ctr.of (out := (oI σ)) (E := some (Mo_has v0 v1)) rfl (Nat.le_of_ble_eq_true rfl) (fun G hG => ?_) _ rfl
  unfold Mo_has
  refine r_iload_n (pc := 0) 0 0 rfl rfl hG dX12_has_0 ?_
  refine r_iload_n (pc := 1) 1 1 rfl rfl hG dX12_has_1 ?_
  refine r_ishr (pc := 2) hG dX12_has_2 ?_
  refine r_iconst (pc := 3) (v := 1) (by decide) hG dX12_has_3 ?_
  refine r_iand (pc := 4) hG dX12_has_4 ?_
  refine r_iconst (pc := 5) (v := 1) (by decide) hG dX12_has_5 ?_
  refine r_icmp_neS (pc := 6) (tgt := 13) (by decide) hG dX12_has_6 (fun h1 => ?_) (fun h1 => ?_)
  · refine r_iconst (pc := 13) (v := 0) (by decide) hG dX12_has_13 ?_
    exact r_zret (pc := 14) rvN_b0 rfl hG dX12_has_14
  · refine r_iconst (pc := 9) (v := 1) (by decide) hG dX12_has_9 ?_
    refine r_goto (pc := 10) (tgt := 14) (by decide) hG dX12_has_10 ?_
    exact r_zret (pc := 14) rvN_b1 rfl hG dX12_has_14
set_option maxRecDepth 4000 in
theorem w_Mo_copies_L3B {X : Cx} {G : GT St} (N : Nat) (hG : IsG X RX12 cX12_copies 6 1 none oWV G) {K3 : Nat → Int32 → Nat → Int32 → Int32 → Int32 → St → Option St} (hK3 : ∀ (v0 : Nat) (v1 : Int32) (v2 : Nat) (v3 : Int32) (v4 : Int32) (v5 : Int32) (s : St), shp v0 = 14 → shp v2 = 14 → G (K3 v0 v1 v2 v3 v4 v5 s) s 3 [(0, .ref (X.2.1 + v0)), (1, .int v1), (2, .ref (X.2.1 + v2)), (3, .int v3), (4, .int v4), (5, .int v5)] []) (v0 : Nat) (v1 : Int32) (v2 : Nat) (v3 : Int32) (v4 : Int32) (v5 : Int32) (σ : St) (hv0 : shp v0 = 14) (hv2 : shp v2 = 14) : G (Mo_copies_L3B N K3 v0 v1 v2 v3 v4 v5 σ) σ 3 [(0, .ref (X.2.1 + v0)), (1, .int v1), (2, .ref (X.2.1 + v2)), (3, .int v3), (4, .int v4), (5, .int v5)] [] := by
  unfold Mo_copies_L3B
  refine r_iload (pc := 3) 5 rfl hG dX12_copies_3 ?_
  refine r_iload (pc := 5) 4 rfl hG dX12_copies_5 ?_
  refine r_icmp_ge (pc := 7) (tgt := 28) (by decide) hG dX12_copies_7 (fun h1 => ?_) (fun h1 => ?_)
  · exact r_vret (pc := 28) rfl hG dX12_copies_28
  · refine r_aload_n (pc := 10) 2 2 rfl rfl hG dX12_copies_10 ?_
    refine r_iload_n (pc := 11) 3 3 rfl rfl hG dX12_copies_11 ?_
    refine r_iload (pc := 12) 5 rfl hG dX12_copies_12 ?_
    refine r_iadd (pc := 14) hG dX12_copies_14 ?_
    refine r_aload_n (pc := 15) 0 0 rfl rfl hG dX12_copies_15 ?_
    refine r_iload_n (pc := 16) 1 1 rfl rfl hG dX12_copies_16 ?_
    refine r_iload (pc := 17) 5 rfl hG dX12_copies_17 ?_
    refine r_iadd (pc := 19) hG dX12_copies_19 ?_
    refine r_ck hG (fun h2 => ?_)
    refine r_iald (pc := 20) (i := v0) hv0 rfl h2 hG dX12_copies_20 ?_
    refine r_ck hG (fun h3 => ?_)
    refine r_iast (pc := 21) (i := v2) hv2 rfl h3 hG dX12_copies_21 ?_
    refine r_bS hG (fun s4 => ?_)
    refine r_bIinc (pc := 22) (lv' := fun x5 => [(5, .int x5), (0, .ref (X.2.1 + v0)), (1, .int v1), (2, .ref (X.2.1 + v2)), (3, .int v3), (4, .int v4)]) 5 rfl rfl (by decide) (fun _ => rfl) hG dX12_copies_22 (fun x5 => ?_)
    refine r_goto (pc := 25) (tgt := 3) (by decide) hG dX12_copies_25 ?_
    exact r_sub [1, 2, 3, 4, 5, 0] rfl hG (hK3 v0 v1 v2 v3 v4 x5 s4 hv0 hv2)
set_option maxRecDepth 4000 in
theorem w_Mo_copies_L3 {X : Cx} {G : GT St} (N : Nat) (hG : IsG X RX12 cX12_copies 6 1 none oWV G) : ∀ (n : Nat), ∀ (v0 : Nat) (v1 : Int32) (v2 : Nat) (v3 : Int32) (v4 : Int32) (v5 : Int32) (σ : St), shp v0 = 14 → shp v2 = 14 → G (Mo_copies_L3 N n v0 v1 v2 v3 v4 v5 σ) σ 3 [(0, .ref (X.2.1 + v0)), (1, .int v1), (2, .ref (X.2.1 + v2)), (3, .int v3), (4, .int v4), (5, .int v5)] [] := by
  intro n
  induction n with
  | zero => intro v0 v1 v2 v3 v4 v5 σ hv0 hv2; exact r_none hG
  | succ n ih => intro v0 v1 v2 v3 v4 v5 σ hv0 hv2; exact w_Mo_copies_L3B N hG ih v0 v1 v2 v3 v4 v5 σ hv0 hv2
set_option maxRecDepth 4000 in
theorem c_Mo_copies (X : Cx) (N : Nat) (v0 : Nat) (v1 : Int32) (v2 : Nat) (v3 : Int32) (v4 : Int32) (σ : St) (hv0 : shp v0 = 14) (hv2 : shp v2 = 14) (σ1 : St) (hE : Mo_copies N v0 v1 v2 v3 v4 σ = some σ1) : Ctr X yX12_copies cX12_copies 6 none 1 [.ref (X.2.1 + v0), .int v1, .ref (X.2.1 + v2), .int v3, .int v4] σ none σ1 := by
  refine Ctr.of (out := oWV) (E := Mo_copies N v0 v1 v2 v3 v4 σ) rfl (Nat.le_of_ble_eq_true rfl) (fun G hG => ?_) σ1 hE
  unfold Mo_copies
  refine r_iconst (pc := 0) (v := 0) (by decide) hG dX12_copies_0 ?_
  refine r_istore (pc := 1) (lv' := [(5, .int 0), (0, .ref (X.2.1 + v0)), (1, .int v1), (2, .ref (X.2.1 + v2)), (3, .int v3), (4, .int v4)]) (by decide) rfl hG dX12_copies_1 ?_
  exact r_sub [1, 2, 3, 4, 5, 0] rfl hG (w_Mo_copies_L3 N hG N v0 v1 v2 v3 v4 0 σ hv0 hv2)
set_option maxRecDepth 4000 in
theorem c_Mo_bad (X : Cx) (N : Nat) (v1 : Int32) (σ : St) (r : Int32) (σ1 : St) (hE : Mo_bad N v1 σ = some (r, σ1)) : Ctr X yX12_bad cX12_bad 2 (some .int) 1 [.ref (X.2.1 + 114), .int v1] σ (some (.int r)) σ1 := by
  refine Ctr.of (out := oWI) (E := Mo_bad N v1 σ) rfl (Nat.le_of_ble_eq_true rfl) (fun G hG => ?_) (r, σ1) hE
  unfold Mo_bad
  refine r_aload_n (pc := 0) 0 0 rfl rfl hG dX12_bad_0 ?_
  refine gf12_8 (pc := 1) lk1139 hG dX12_bad_1 ?_
  refine r_iconst (pc := 4) (v := 0) (by decide) hG dX12_bad_4 ?_
  refine r_dup2 (pc := 5) rfl rfl hG dX12_bad_5 ?_
  refine r_iald (pc := 6) (i := 120) (rfl : shp 120 = 14) rfl (by decide) hG dX12_bad_6 ?_
  refine r_iconst (pc := 7) (v := 1) (by decide) hG dX12_bad_7 ?_
  refine r_iadd (pc := 8) hG dX12_bad_8 ?_
  refine r_iast (pc := 9) (i := 120) (rfl : shp 120 = 14) rfl (by decide) hG dX12_bad_9 ?_
  refine r_bS hG (fun s1 => ?_)
  refine r_iload_n (pc := 10) 1 1 rfl rfl hG dX12_bad_10 ?_
  exact r_iret (pc := 11) rfl hG dX12_bad_11
set_option maxRecDepth 4000 in
theorem c_Mo_no (X : Cx) (N : Nat) (σ : St) (r : Int32) (σ1 : St) (hE : Mo_no N σ = some (r, σ1)) : Ctr X yX12_no cX12_no 1 (some .int) 1 [.ref (X.2.1 + 114)] σ (some (.int r)) σ1 := by
  refine Ctr.of (out := oWI) (E := Mo_no N σ) rfl (Nat.le_of_ble_eq_true rfl) (fun G hG => ?_) (r, σ1) hE
  unfold Mo_no
  refine r_aload_n (pc := 0) 0 0 rfl rfl hG dX12_no_0 ?_
  refine gf12_8 (pc := 1) lk1139 hG dX12_no_1 ?_
  refine r_iconst (pc := 4) (v := 1) (by decide) hG dX12_no_4 ?_
  refine r_dup2 (pc := 5) rfl rfl hG dX12_no_5 ?_
  refine r_iald (pc := 6) (i := 120) (rfl : shp 120 = 14) rfl (by decide) hG dX12_no_6 ?_
  refine r_iconst (pc := 7) (v := 1) (by decide) hG dX12_no_7 ?_
  refine r_iadd (pc := 8) hG dX12_no_8 ?_
  refine r_iast (pc := 9) (i := 120) (rfl : shp 120 = 14) rfl (by decide) hG dX12_no_9 ?_
  refine r_bS hG (fun s1 => ?_)
  refine r_bipush (pc := 10) (v := (-3)) (by decide) hG dX12_no_10 ?_
  exact r_iret (pc := 12) rfl hG dX12_no_12
set_option maxRecDepth 4000 in
theorem c_Mo_full (X : Cx) (N : Nat) (σ : St) (r : Int32) (σ1 : St) (hE : Mo_full N σ = some (r, σ1)) : Ctr X yX12_full cX12_full 1 (some .int) 1 [.ref (X.2.1 + 114)] σ (some (.int r)) σ1 := by
  refine Ctr.of (out := oWI) (E := Mo_full N σ) rfl (Nat.le_of_ble_eq_true rfl) (fun G hG => ?_) (r, σ1) hE
  unfold Mo_full
  refine r_aload_n (pc := 0) 0 0 rfl rfl hG dX12_full_0 ?_
  refine gf12_8 (pc := 1) lk1139 hG dX12_full_1 ?_
  refine r_iconst (pc := 4) (v := 2) (by decide) hG dX12_full_4 ?_
  refine r_dup2 (pc := 5) rfl rfl hG dX12_full_5 ?_
  refine r_iald (pc := 6) (i := 120) (rfl : shp 120 = 14) rfl (by decide) hG dX12_full_6 ?_
  refine r_iconst (pc := 7) (v := 1) (by decide) hG dX12_full_7 ?_
  refine r_iadd (pc := 8) hG dX12_full_8 ?_
  refine r_iast (pc := 9) (i := 120) (rfl : shp 120 = 14) rfl (by decide) hG dX12_full_9 ?_
  refine r_bS hG (fun s1 => ?_)
  refine r_bipush (pc := 10) (v := (-4)) (by decide) hG dX12_full_10 ?_
  exact r_iret (pc := 12) rfl hG dX12_full_12
set_option maxRecDepth 4000 in
theorem c_Mo_isRower (X : Cx) (N : Nat) (v1 : Int32) (σ : St) (r : Int32) (hE : Mo_isRower N v1 σ = some r) : Ctr X yX12_isRower cX12_isRower 2 (some .boolean) 2 [.ref (X.2.1 + 114), .int v1] σ (some (.int r)) σ := by
  refine Ctr.of (out := (oI σ)) (E := Mo_isRower N v1 σ) rfl (Nat.le_of_ble_eq_true rfl) (fun G hG => ?_) r hE
  unfold Mo_isRower
  refine r_iload_n (pc := 0) 1 1 rfl rfl hG dX12_isRower_0 ?_
  refine r_i2l (pc := 1) hG dX12_isRower_1 ?_
  refine r_lconst (pc := 2) (v := 0) (by decide) hG dX12_isRower_2 ?_
  refine r_aload_n (pc := 3) 0 0 rfl rfl hG dX12_isRower_3 ?_
  refine gf12_0 (pc := 4) lk1131 hG dX12_isRower_4 ?_
  refine r_bipush (pc := 7) (v := 36) (by decide) hG dX12_isRower_7 ?_
  refine r_iald (pc := 9) (i := 115) (rfl : shp 115 = 14) rfl (by decide) hG dX12_isRower_9 ?_
  refine r_iconst (pc := 10) (v := 1) (by decide) hG dX12_isRower_10 ?_
  refine r_isub (pc := 11) hG dX12_isRower_11 ?_
  refine r_i2l (pc := 12) hG dX12_isRower_12 ?_
  refine r_callSi (pc := 13) (As := [.long ((v1).toInt64), .long 0, .long ((((σ.1 115 (36 : Int32).toNatClampNeg) - 1)).toInt64)]) (c_Mo_in X ((v1).toInt64) 0 ((((σ.1 115 (36 : Int32).toNatClampNeg) - 1)).toInt64) σ) mfX12_69_X12_in hySX12_in (by decide) (by decide) rfl (Nat.le_of_ble_eq_true rfl) hG dX12_isRower_13 rfl (fun n2 => ?_)
  exact r_zret (pc := 16) n2 rfl hG dX12_isRower_16
set_option maxRecDepth 4000 in
theorem c_Mo_isGuest (X : Cx) (N : Nat) (v1 : Int32) (σ : St) (r : Int32) (hE : Mo_isGuest N v1 σ = some r) : Ctr X yX12_isGuest cX12_isGuest 2 (some .boolean) 2 [.ref (X.2.1 + 114), .int v1] σ (some (.int r)) σ := by
  refine Ctr.of (out := (oI σ)) (E := Mo_isGuest N v1 σ) rfl (Nat.le_of_ble_eq_true rfl) (fun G hG => ?_) r hE
  unfold Mo_isGuest
  refine r_iload_n (pc := 0) 1 1 rfl rfl hG dX12_isGuest_0 ?_
  refine r_i2l (pc := 1) hG dX12_isGuest_1 ?_
  refine r_lconst (pc := 2) (v := 0) (by decide) hG dX12_isGuest_2 ?_
  refine r_aload_n (pc := 3) 0 0 rfl rfl hG dX12_isGuest_3 ?_
  refine gf12_0 (pc := 4) lk1131 hG dX12_isGuest_4 ?_
  refine r_bipush (pc := 7) (v := 37) (by decide) hG dX12_isGuest_7 ?_
  refine r_iald (pc := 9) (i := 115) (rfl : shp 115 = 14) rfl (by decide) hG dX12_isGuest_9 ?_
  refine r_iconst (pc := 10) (v := 1) (by decide) hG dX12_isGuest_10 ?_
  refine r_isub (pc := 11) hG dX12_isGuest_11 ?_
  refine r_i2l (pc := 12) hG dX12_isGuest_12 ?_
  refine r_callSi (pc := 13) (As := [.long ((v1).toInt64), .long 0, .long ((((σ.1 115 (37 : Int32).toNatClampNeg) - 1)).toInt64)]) (c_Mo_in X ((v1).toInt64) 0 ((((σ.1 115 (37 : Int32).toNatClampNeg) - 1)).toInt64) σ) mfX12_69_X12_in hySX12_in (by decide) (by decide) rfl (Nat.le_of_ble_eq_true rfl) hG dX12_isGuest_13 rfl (fun n2 => ?_)
  exact r_zret (pc := 16) n2 rfl hG dX12_isGuest_16
set_option maxRecDepth 4000 in
theorem c_Mo_isPlace (X : Cx) (v0 : Int32) (σ : St) : Ctr X yX12_isPlace cX12_isPlace 1 (some .boolean) 2 [.int v0] σ (some (.int (Mo_isPlace v0))) σ := by
  refine Ctr.of (out := (oI σ)) (E := some (Mo_isPlace v0)) rfl (Nat.le_of_ble_eq_true rfl) (fun G hG => ?_) _ rfl
  unfold Mo_isPlace
  refine r_iload_n (pc := 0) 0 0 rfl rfl hG dX12_isPlace_0 ?_
  refine r_i2l (pc := 1) hG dX12_isPlace_1 ?_
  refine r_lconst (pc := 2) (v := 0) (by decide) hG dX12_isPlace_2 ?_
  refine r_ldc2 (pc := 3) (v := 7) lk1257 hG dX12_isPlace_3 ?_
  refine r_callSi (pc := 6) (As := [.long ((v0).toInt64), .long 0, .long 7]) (c_Mo_in X ((v0).toInt64) 0 7 σ) mfX12_69_X12_in hySX12_in (by decide) (by decide) rfl (Nat.le_of_ble_eq_true rfl) hG dX12_isPlace_6 rfl (fun n2 => ?_)
  exact r_zret (pc := 9) n2 rfl hG dX12_isPlace_9
set_option maxRecDepth 4000 in
theorem w_Mo_tells_J10 {σ : St} {X : Cx} {G : GT Int32} (hG : IsG X RX12 cX12_tells 5 1 (some .int) (oI σ) G) (v0 : Int32) (v1 : Int32) (v3 : Int32) (w0 : Int32) : G (some (Mo_tells_J10 v0 v1 v3 w0)) σ 10 [(0, .int v0), (1, .int v1), (3, .int v3)] [.int w0] := by
  unfold Mo_tells_J10
  refine r_istore (pc := 10) (lv' := [(4, .int w0), (0, .int v0), (1, .int v1), (3, .int v3)]) (by decide) rfl hG dX12_tells_10 ?_
  refine r_iload_n (pc := 12) 1 0 rfl rfl hG dX12_tells_12 ?_
  refine r_iteS hG (fun h2 => ?_) (fun h2 => ?_)
  · refine r_tableIn (pc := 13) (tgt := 48) (off := 35) (by rw [h2]; decide) (by rw [h2]; decide) (by rw [h2]; decide) (by decide) hG dX12_tells_13 ?_
    refine r_iload_n (pc := 48) 2 1 rfl rfl hG dX12_tells_48 ?_
    refine r_iconst (pc := 49) (v := 3) (by decide) hG dX12_tells_49 ?_
    refine r_iadd (pc := 50) hG dX12_tells_50 ?_
    exact r_iret (pc := 51) rfl hG dX12_tells_51
  · refine r_iteS hG (fun h3 => ?_) (fun h3 => ?_)
    · refine r_tableIn (pc := 13) (tgt := 52) (off := 39) (by rw [h3]; decide) (by rw [h3]; decide) (by rw [h3]; decide) (by decide) hG dX12_tells_13 ?_
      refine r_iload (pc := 52) 0 rfl hG dX12_tells_52 ?_
      exact r_iret (pc := 54) rfl hG dX12_tells_54
    · refine r_iteS hG (fun h4 => ?_) (fun h4 => ?_)
      · refine r_tableIn (pc := 13) (tgt := 55) (off := 42) (by rw [h4]; decide) (by rw [h4]; decide) (by rw [h4]; decide) (by decide) hG dX12_tells_13 ?_
        refine r_iload (pc := 55) 0 rfl hG dX12_tells_55 ?_
        refine r_iload_n (pc := 57) 3 3 rfl rfl hG dX12_tells_57 ?_
        refine r_bipush (pc := 58) (v := 6) (by decide) hG dX12_tells_58 ?_
        refine r_idiv (pc := 60) (by decide) hG dX12_tells_60 ?_
        refine r_iadd (pc := 61) hG dX12_tells_61 ?_
        exact r_iret (pc := 62) rfl hG dX12_tells_62
      · refine r_iteS hG (fun h5 => ?_) (fun h5 => ?_)
        · refine r_tableIn (pc := 13) (tgt := 63) (off := 50) (by rw [h5]; decide) (by rw [h5]; decide) (by rw [h5]; decide) (by decide) hG dX12_tells_13 ?_
          refine r_iload_n (pc := 63) 3 3 rfl rfl hG dX12_tells_63 ?_
          refine r_bipush (pc := 64) (v := 10) (by decide) hG dX12_tells_64 ?_
          refine r_icmp_geS (pc := 66) (tgt := 73) (by decide) hG dX12_tells_66 (fun h6 => ?_) (fun h6 => ?_)
          · refine r_iload (pc := 73) 0 rfl hG dX12_tells_73 ?_
            refine r_iload_n (pc := 75) 3 3 rfl rfl hG dX12_tells_75 ?_
            refine r_bipush (pc := 76) (v := 6) (by decide) hG dX12_tells_76 ?_
            refine r_idiv (pc := 78) (by decide) hG dX12_tells_78 ?_
            refine r_iadd (pc := 79) hG dX12_tells_79 ?_
            exact r_iret (pc := 80) rfl hG dX12_tells_80
          · refine r_iconst (pc := 69) (v := 0) (by decide) hG dX12_tells_69 ?_
            refine r_goto (pc := 70) (tgt := 80) (by decide) hG dX12_tells_70 ?_
            exact r_iret (pc := 80) rfl hG dX12_tells_80
        · refine r_iteS hG (fun h7 => ?_) (fun h7 => ?_)
          · refine r_tableIn (pc := 13) (tgt := 81) (off := 68) (by rw [h7]; decide) (by rw [h7]; decide) (by rw [h7]; decide) (by decide) hG dX12_tells_13 ?_
            refine r_iload_n (pc := 81) 3 3 rfl rfl hG dX12_tells_81 ?_
            refine r_iconst (pc := 82) (v := 2) (by decide) hG dX12_tells_82 ?_
            refine r_irem (pc := 83) (by decide) hG dX12_tells_83 ?_
            refine r_iconst (pc := 84) (v := 1) (by decide) hG dX12_tells_84 ?_
            refine r_icmp_neS (pc := 85) (tgt := 94) (by decide) hG dX12_tells_85 (fun h8 => ?_) (fun h8 => ?_)
            · refine r_iload_n (pc := 94) 2 1 rfl rfl hG dX12_tells_94 ?_
              refine r_iconst (pc := 95) (v := 3) (by decide) hG dX12_tells_95 ?_
              refine r_iadd (pc := 96) hG dX12_tells_96 ?_
              exact r_iret (pc := 97) rfl hG dX12_tells_97
            · refine r_iload_n (pc := 88) 2 1 rfl rfl hG dX12_tells_88 ?_
              refine r_iconst (pc := 89) (v := 1) (by decide) hG dX12_tells_89 ?_
              refine r_iadd (pc := 90) hG dX12_tells_90 ?_
              refine r_goto (pc := 91) (tgt := 97) (by decide) hG dX12_tells_91 ?_
              exact r_iret (pc := 97) rfl hG dX12_tells_97
          · refine r_tableOut (pc := 13) (tgt := 98) (by have q0 := lv_neT h2 (a := 1) (by decide); have q1 := lv_neT h3 (a := 2) (by decide); have q2 := lv_neT h4 (a := 3) (by decide); have q3 := lv_neT h5 (a := 4) (by decide); have q4 := lv_neT h7 (a := 5) (by decide); omega) (by decide) hG dX12_tells_13 ?_
            refine r_iload_n (pc := 98) 2 1 rfl rfl hG dX12_tells_98 ?_
            exact r_iret (pc := 99) rfl hG dX12_tells_99
set_option maxRecDepth 4000 in
theorem c_Mo_tells (X : Cx) (v0 : Int32) (v1 : Int32) (v2 : Int32) (v3 : Int32) (σ : St) : Ctr X yX12_tells cX12_tells 5 (some .int) 1 [.int v0, .int v1, .int v2, .int v3] σ (some (.int (Mo_tells v0 v1 v2 v3))) σ := by
  refine Ctr.of (out := (oI σ)) (E := some (Mo_tells v0 v1 v2 v3)) rfl (Nat.le_of_ble_eq_true rfl) (fun G hG => ?_) _ rfl
  unfold Mo_tells
  refine r_iload_n (pc := 0) 2 2 rfl rfl hG dX12_tells_0 ?_
  refine r_iconst (pc := 1) (v := 4) (by decide) hG dX12_tells_1 ?_
  refine r_icmp_geS (pc := 2) (tgt := 9) (by decide) hG dX12_tells_2 (fun h1 => ?_) (fun h1 => ?_)
  · refine r_iload_n (pc := 9) 1 1 rfl rfl hG dX12_tells_9 ?_
    exact r_sub [0, 1, 3] rfl hG (w_Mo_tells_J10 hG v0 v1 v3 v1)
  · refine r_iconst (pc := 5) (v := 0) (by decide) hG dX12_tells_5 ?_
    refine r_goto (pc := 6) (tgt := 10) (by decide) hG dX12_tells_6 ?_
    exact r_sub [0, 1, 3] rfl hG (w_Mo_tells_J10 hG v0 v1 v3 0)
set_option maxRecDepth 4000 in
theorem w_Mo_hurts_J45 {σ : St} {X : Cx} {G : GT Int32} (hG : IsG X RX12 cX12_hurts 8 2 (some .int) (oI σ) G) (v0 : Int32) (v3 : Int32) (v5 : Int32) (v6 : Int32) (w0 : Int32) : G (some (Mo_hurts_J45 v0 v3 v5 v6 w0)) σ 45 [(0, .int v0), (3, .int v3), (5, .int v5), (6, .int v6)] [.int w0] := by
  unfold Mo_hurts_J45
  refine r_istore (pc := 45) (lv' := [(7, .int w0), (0, .int v0), (3, .int v3), (5, .int v5), (6, .int v6)]) (by decide) rfl hG dX12_hurts_45 ?_
  refine r_iload_n (pc := 47) 1 0 rfl rfl hG dX12_hurts_47 ?_
  refine r_iteS hG (fun h4 => ?_) (fun h4 => ?_)
  · refine r_tableIn (pc := 48) (tgt := 84) (off := 36) (by rw [h4]; decide) (by rw [h4]; decide) (by rw [h4]; decide) (by decide) hG dX12_hurts_48 ?_
    refine r_iload (pc := 84) 3 rfl hG dX12_hurts_84 ?_
    exact r_iret (pc := 86) rfl hG dX12_hurts_86
  · refine r_iteS hG (fun h5 => ?_) (fun h5 => ?_)
    · refine r_tableIn (pc := 48) (tgt := 87) (off := 39) (by rw [h5]; decide) (by rw [h5]; decide) (by rw [h5]; decide) (by decide) hG dX12_hurts_48 ?_
      refine r_iload (pc := 87) 4 rfl hG dX12_hurts_87 ?_
      exact r_iret (pc := 89) rfl hG dX12_hurts_89
    · refine r_iteS hG (fun h6 => ?_) (fun h6 => ?_)
      · refine r_tableIn (pc := 48) (tgt := 90) (off := 42) (by rw [h6]; decide) (by rw [h6]; decide) (by rw [h6]; decide) (by decide) hG dX12_hurts_48 ?_
        refine r_iload (pc := 90) 0 rfl hG dX12_hurts_90 ?_
        exact r_iret (pc := 92) rfl hG dX12_hurts_92
      · refine r_iteS hG (fun h7 => ?_) (fun h7 => ?_)
        · refine r_tableIn (pc := 48) (tgt := 93) (off := 45) (by rw [h7]; decide) (by rw [h7]; decide) (by rw [h7]; decide) (by decide) hG dX12_hurts_48 ?_
          refine r_iload_n (pc := 93) 2 3 rfl rfl hG dX12_hurts_93 ?_
          refine r_iconst (pc := 94) (v := 3) (by decide) hG dX12_hurts_94 ?_
          refine r_icmp_geS (pc := 95) (tgt := 102) (by decide) hG dX12_hurts_95 (fun h8 => ?_) (fun h8 => ?_)
          · refine r_iload (pc := 102) 0 rfl hG dX12_hurts_102 ?_
            exact r_iret (pc := 104) rfl hG dX12_hurts_104
          · refine r_iconst (pc := 98) (v := 0) (by decide) hG dX12_hurts_98 ?_
            refine r_goto (pc := 99) (tgt := 104) (by decide) hG dX12_hurts_99 ?_
            exact r_iret (pc := 104) rfl hG dX12_hurts_104
        · refine r_iteS hG (fun h9 => ?_) (fun h9 => ?_)
          · refine r_tableIn (pc := 48) (tgt := 105) (off := 57) (by rw [h9]; decide) (by rw [h9]; decide) (by rw [h9]; decide) (by decide) hG dX12_hurts_48 ?_
            refine r_bipush (pc := 105) (v := 9) (by decide) hG dX12_hurts_105 ?_
            refine r_iload (pc := 107) 4 rfl hG dX12_hurts_107 ?_
            refine r_callSi (pc := 109) (As := [.int 9, .int v6]) (c_Mo_less X 9 v6 σ) mfX12_75_X12_less hySX12_less (by decide) (by decide) rfl (Nat.le_of_ble_eq_true rfl) hG dX12_hurts_109 rfl (fun n11 => ?_)
            exact r_iret (pc := 112) rfl hG dX12_hurts_112
          · refine r_tableOut (pc := 48) (tgt := 113) (by have q0 := lv_neT h4 (a := 1) (by decide); have q1 := lv_neT h5 (a := 2) (by decide); have q2 := lv_neT h6 (a := 3) (by decide); have q3 := lv_neT h7 (a := 4) (by decide); have q4 := lv_neT h9 (a := 5) (by decide); omega) (by decide) hG dX12_hurts_48 ?_
            refine r_iload_n (pc := 113) 2 3 rfl rfl hG dX12_hurts_113 ?_
            exact r_iret (pc := 114) rfl hG dX12_hurts_114
set_option maxRecDepth 4000 in
theorem w_Mo_hurts_J30 {σ : St} {X : Cx} {G : GT Int32} (hG : IsG X RX12 cX12_hurts 8 2 (some .int) (oI σ) G) (v0 : Int32) (v3 : Int32) (v5 : Int32) (w0 : Int32) : G (some (Mo_hurts_J30 v0 v3 v5 w0)) σ 30 [(0, .int v0), (3, .int v3), (5, .int v5)] [.int w0] := by
  unfold Mo_hurts_J30
  refine r_istore (pc := 30) (lv' := [(6, .int w0), (0, .int v0), (3, .int v3), (5, .int v5)]) (by decide) rfl hG dX12_hurts_30 ?_
  refine r_iload_n (pc := 32) 2 3 rfl rfl hG dX12_hurts_32 ?_
  refine r_if_neS (pc := 33) (tgt := 41) (by decide) hG dX12_hurts_33 (fun h3 => ?_) (fun h3 => ?_)
  · refine r_iload (pc := 41) 3 rfl hG dX12_hurts_41 ?_
    refine r_iconst (pc := 43) (v := 3) (by decide) hG dX12_hurts_43 ?_
    refine r_iadd (pc := 44) hG dX12_hurts_44 ?_
    exact r_sub [1, 2, 3, 0] rfl hG (w_Mo_hurts_J45 hG v0 v3 v5 w0 (v5 + 3))
  · refine r_iload (pc := 36) 3 rfl hG dX12_hurts_36 ?_
    refine r_goto (pc := 38) (tgt := 45) (by decide) hG dX12_hurts_38 ?_
    exact r_sub [1, 2, 3, 0] rfl hG (w_Mo_hurts_J45 hG v0 v3 v5 w0 v5)
set_option maxRecDepth 4000 in
theorem w_Mo_hurts_J13 {σ : St} {X : Cx} {G : GT Int32} (hG : IsG X RX12 cX12_hurts 8 2 (some .int) (oI σ) G) (v0 : Int32) (v1 : Int32) (v2 : Int32) (v3 : Int32) (w0 : Int32) : G (some (Mo_hurts_J13 v0 v1 v2 v3 w0)) σ 13 [(0, .int v0), (1, .int v1), (2, .int v2), (3, .int v3)] [.int w0] := by
  unfold Mo_hurts_J13
  refine r_istore (pc := 13) (lv' := [(5, .int w0), (0, .int v0), (1, .int v1), (2, .int v2), (3, .int v3)]) (by decide) rfl hG dX12_hurts_13 ?_
  refine r_iload_n (pc := 15) 4 3 rfl rfl hG dX12_hurts_15 ?_
  refine r_if_neS (pc := 16) (tgt := 23) (by decide) hG dX12_hurts_16 (fun h2 => ?_) (fun h2 => ?_)
  · refine r_iload_n (pc := 23) 4 3 rfl rfl hG dX12_hurts_23 ?_
    refine r_iload_n (pc := 24) 2 1 rfl rfl hG dX12_hurts_24 ?_
    refine r_iload_n (pc := 25) 3 2 rfl rfl hG dX12_hurts_25 ?_
    refine r_isub (pc := 26) hG dX12_hurts_26 ?_
    refine r_iconst (pc := 27) (v := 4) (by decide) hG dX12_hurts_27 ?_
    refine r_idiv (pc := 28) (by decide) hG dX12_hurts_28 ?_
    refine r_iadd (pc := 29) hG dX12_hurts_29 ?_
    exact r_sub [1, 4, 0] rfl hG (w_Mo_hurts_J30 hG v0 v3 w0 (v3 + ((v1 - v2) / 4)))
  · refine r_iconst (pc := 19) (v := 0) (by decide) hG dX12_hurts_19 ?_
    refine r_goto (pc := 20) (tgt := 30) (by decide) hG dX12_hurts_20 ?_
    exact r_sub [1, 4, 0] rfl hG (w_Mo_hurts_J30 hG v0 v3 w0 0)
set_option maxRecDepth 4000 in
theorem c_Mo_hurts (X : Cx) (v0 : Int32) (v1 : Int32) (v2 : Int32) (v3 : Int32) (v4 : Int32) (σ : St) : Ctr X yX12_hurts cX12_hurts 8 (some .int) 2 [.int v0, .int v1, .int v2, .int v3, .int v4] σ (some (.int (Mo_hurts v0 v1 v2 v3 v4))) σ := by
  refine Ctr.of (out := (oI σ)) (E := some (Mo_hurts v0 v1 v2 v3 v4)) rfl (Nat.le_of_ble_eq_true rfl) (fun G hG => ?_) _ rfl
  unfold Mo_hurts
  refine r_iload (pc := 0) 4 rfl hG dX12_hurts_0 ?_
  refine r_iconst (pc := 2) (v := 5) (by decide) hG dX12_hurts_2 ?_
  refine r_icmp_geS (pc := 3) (tgt := 12) (by decide) hG dX12_hurts_3 (fun h1 => ?_) (fun h1 => ?_)
  · refine r_iload_n (pc := 12) 3 3 rfl rfl hG dX12_hurts_12 ?_
    exact r_sub [0, 1, 2, 3] rfl hG (w_Mo_hurts_J13 hG v0 v1 v2 v3 v3)
  · refine r_iconst (pc := 6) (v := 2) (by decide) hG dX12_hurts_6 ?_
    refine r_iload_n (pc := 7) 3 3 rfl rfl hG dX12_hurts_7 ?_
    refine r_imul (pc := 8) hG dX12_hurts_8 ?_
    refine r_goto (pc := 9) (tgt := 13) (by decide) hG dX12_hurts_9 ?_
    exact r_sub [0, 1, 2, 3] rfl hG (w_Mo_hurts_J13 hG v0 v1 v2 v3 (2 * v3))
set_option maxRecDepth 4000 in
theorem c_Mo_canalOf (X : Cx) (v0 : Int32) (v1 : Int32) (σ : St) : Ctr X yX12_canalOf cX12_canalOf 4 (some .int) 2 [.int v0, .int v1] σ (some (.int (Mo_canalOf v0 v1))) σ := by
  refine Ctr.of (out := (oI σ)) (E := some (Mo_canalOf v0 v1)) rfl (Nat.le_of_ble_eq_true rfl) (fun G hG => ?_) _ rfl
  unfold Mo_canalOf
  refine r_iload_n (pc := 0) 0 0 rfl rfl hG dX12_canalOf_0 ?_
  refine r_iload_n (pc := 1) 1 1 rfl rfl hG dX12_canalOf_1 ?_
  refine r_callSi (pc := 2) (As := [.int v0, .int v1]) (c_Mo_less X v0 v1 σ) mfX12_75_X12_less hySX12_less (by decide) (by decide) rfl (Nat.le_of_ble_eq_true rfl) hG dX12_canalOf_2 rfl (fun n2 => ?_)
  refine r_istore_n (pc := 5) (lv' := [(2, .int (Mo_less v0 v1)), (0, .int v0), (1, .int v1)]) 2 rfl (by decide) rfl hG dX12_canalOf_5 ?_
  refine r_iload_n (pc := 6) 1 0 rfl rfl hG dX12_canalOf_6 ?_
  refine r_iload_n (pc := 7) 2 1 rfl rfl hG dX12_canalOf_7 ?_
  refine r_iadd (pc := 8) hG dX12_canalOf_8 ?_
  refine r_iload_n (pc := 9) 0 2 rfl rfl hG dX12_canalOf_9 ?_
  refine r_isub (pc := 10) hG dX12_canalOf_10 ?_
  refine r_istore_n (pc := 11) (lv' := [(3, .int ((v0 + v1) - (Mo_less v0 v1))), (2, .int (Mo_less v0 v1)), (0, .int v0), (1, .int v1)]) 3 rfl (by decide) rfl hG dX12_canalOf_11 ?_
  refine r_bipush (pc := 12) (v := 8) (by decide) hG dX12_canalOf_12 ?_
  refine r_iload_n (pc := 14) 1 2 rfl rfl hG dX12_canalOf_14 ?_
  refine r_bipush (pc := 15) (v := 15) (by decide) hG dX12_canalOf_15 ?_
  refine r_iload_n (pc := 17) 1 2 rfl rfl hG dX12_canalOf_17 ?_
  refine r_isub (pc := 18) hG dX12_canalOf_18 ?_
  refine r_imul (pc := 19) hG dX12_canalOf_19 ?_
  refine r_iconst (pc := 20) (v := 2) (by decide) hG dX12_canalOf_20 ?_
  refine r_idiv (pc := 21) (by decide) hG dX12_canalOf_21 ?_
  refine r_iadd (pc := 22) hG dX12_canalOf_22 ?_
  refine r_iload_n (pc := 23) 0 3 rfl rfl hG dX12_canalOf_23 ?_
  refine r_iadd (pc := 24) hG dX12_canalOf_24 ?_
  refine r_iload_n (pc := 25) 1 2 rfl rfl hG dX12_canalOf_25 ?_
  refine r_isub (pc := 26) hG dX12_canalOf_26 ?_
  refine r_iconst (pc := 27) (v := 1) (by decide) hG dX12_canalOf_27 ?_
  refine r_isub (pc := 28) hG dX12_canalOf_28 ?_
  exact r_iret (pc := 29) rfl hG dX12_canalOf_29
set_option maxRecDepth 4000 in
theorem c_Mo_strokesOf (X : Cx) (N : Nat) (v1 : Int32) (v2 : Int32) (σ : St) (r : Int32) (hE : Mo_strokesOf N v1 v2 σ = some r) : Ctr X yX12_strokesOf cX12_strokesOf 3 (some .int) 3 [.ref (X.2.1 + 114), .int v1, .int v2] σ (some (.int r)) σ := by
  refine Ctr.of (out := (oI σ)) (E := Mo_strokesOf N v1 v2 σ) rfl (Nat.le_of_ble_eq_true rfl) (fun G hG => ?_) r hE
  unfold Mo_strokesOf
  refine r_iload_n (pc := 0) 1 1 rfl rfl hG dX12_strokesOf_0 ?_
  refine r_iload_n (pc := 1) 2 2 rfl rfl hG dX12_strokesOf_1 ?_
  refine r_icmp_ne (pc := 2) (tgt := 9) (by decide) hG dX12_strokesOf_2 (fun h1 => ?_) (fun h1 => ?_)
  · refine r_aload_n (pc := 9) 0 0 rfl rfl hG dX12_strokesOf_9 ?_
    refine gf12_0 (pc := 10) lk1131 hG dX12_strokesOf_10 ?_
    refine r_iload_n (pc := 13) 1 1 rfl rfl hG dX12_strokesOf_13 ?_
    refine r_iload_n (pc := 14) 2 2 rfl rfl hG dX12_strokesOf_14 ?_
    refine r_callSi (pc := 15) (As := [.int v1, .int v2]) (c_Mo_canalOf X v1 v2 σ) mfX12_79_X12_canalOf hySX12_canalOf (by decide) (by decide) rfl (Nat.le_of_ble_eq_true rfl) hG dX12_strokesOf_15 rfl (fun n3 => ?_)
    refine r_ck hG (fun h5 => ?_)
    refine r_iald (pc := 18) (i := 115) (rfl : shp 115 = 14) rfl h5 hG dX12_strokesOf_18 ?_
    exact r_iret (pc := 19) rfl hG dX12_strokesOf_19
  · refine r_iconst (pc := 5) (v := 0) (by decide) hG dX12_strokesOf_5 ?_
    refine r_goto (pc := 6) (tgt := 19) (by decide) hG dX12_strokesOf_6 ?_
    exact r_iret (pc := 19) rfl hG dX12_strokesOf_19
