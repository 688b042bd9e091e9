set_option maxRecDepth 4000 in
theorem c_Ta_cell (X : Cx) (N : Nat) (v0 : Nat) (v1 : Int32) (v2 : Int32) (σ : St) (hv0 : shp v0 = 9) (r : Int32) (hE : Ta_cell N v0 v1 v2 σ = some r) : Ctr X yX9_cell cX9_cell 3 (some .int) 1 [.ref (X.2.1 + v0), .int v1, .int v2] σ (some (.int r)) σ := by
  refine Ctr.of (out := (oI σ)) (E := Ta_cell N v0 v1 v2 σ) rfl (Nat.le_of_ble_eq_true rfl) (fun G hG => ?_) r hE
  unfold Ta_cell
  refine r_aload_n (pc := 0) 0 0 rfl rfl hG dX9_cell_0 ?_
  refine gf9_2 (pc := 1) (i := v0) hv0 lk120 hG dX9_cell_1 ?_
  refine r_iload_n (pc := 4) 1 1 rfl rfl hG dX9_cell_4 ?_
  refine r_aload_n (pc := 5) 0 0 rfl rfl hG dX9_cell_5 ?_
  refine gf9_0 (pc := 6) (i := v0) hv0 lk118 hG dX9_cell_6 ?_
  refine r_imul (pc := 9) hG dX9_cell_9 ?_
  refine r_iload_n (pc := 10) 2 2 rfl rfl hG dX9_cell_10 ?_
  refine r_iadd (pc := 11) hG dX9_cell_11 ?_
  refine r_ck hG (fun h1 => ?_)
  refine r_iald (pc := 12) (i := (v0 + 1)) (sh9_1 hv0) rfl h1 hG dX9_cell_12 ?_
  exact r_iret (pc := 13) rfl hG dX9_cell_13
set_option maxRecDepth 4000 in
theorem w_Ro_toldBy_J20 {σ : St} {X : Cx} {G : GT Int32} (hG : IsG X RX7 cX7_toldBy 8 6 (some .int) (oI σ) G) (v0 : Int32) (v3 : Int32) (v4 : Int32) (v5 : Int32) (w0 : Int32) : G (some (Ro_toldBy_J20 v0 v3 v4 v5 w0)) σ 20 [(0, .int v0), (3, .int v3), (4, .int v4), (5, .int v5)] [.int w0] := by
  unfold Ro_toldBy_J20
  refine r_istore (pc := 20) (lv' := [(6, .int w0), (0, .int v0), (3, .int v3), (4, .int v4), (5, .int v5)]) (by decide) rfl hG dX7_toldBy_20 ?_
  refine r_iload (pc := 22) 0 rfl hG dX7_toldBy_22 ?_
  refine r_iload_n (pc := 24) 2 3 rfl rfl hG dX7_toldBy_24 ?_
  refine r_bipush (pc := 25) (v := 6) (by decide) hG dX7_toldBy_25 ?_
  refine r_idiv (pc := 27) (by decide) hG dX7_toldBy_27 ?_
  refine r_iadd (pc := 28) hG dX7_toldBy_28 ?_
  refine r_istore (pc := 29) (lv' := [(7, .int (w0 + (v3 / 6))), (6, .int w0), (0, .int v0), (3, .int v3), (4, .int v4), (5, .int v5)]) (by decide) rfl hG dX7_toldBy_29 ?_
  refine r_iload_n (pc := 31) 2 0 rfl rfl hG dX7_toldBy_31 ?_
  refine r_iteS hG (fun h2 => ?_) (fun h2 => ?_)
  · refine r_tableIn (pc := 32) (tgt := 68) (off := 36) (by rw [h2]; decide) (by rw [h2]; decide) (by rw [h2]; decide) (by decide) hG dX7_toldBy_32 ?_
    refine r_iload (pc := 68) 5 rfl hG dX7_toldBy_68 ?_
    exact r_iret (pc := 70) rfl hG dX7_toldBy_70
  · refine r_iteS hG (fun h3 => ?_) (fun h3 => ?_)
    · refine r_tableIn (pc := 32) (tgt := 71) (off := 39) (by rw [h3]; decide) (by rw [h3]; decide) (by rw [h3]; decide) (by decide) hG dX7_toldBy_32 ?_
      refine r_iload (pc := 71) 1 rfl hG dX7_toldBy_71 ?_
      exact r_iret (pc := 73) rfl hG dX7_toldBy_73
    · refine r_iteS hG (fun h4 => ?_) (fun h4 => ?_)
      · refine r_tableIn (pc := 32) (tgt := 74) (off := 42) (by rw [h4]; decide) (by rw [h4]; decide) (by rw [h4]; decide) (by decide) hG dX7_toldBy_32 ?_
        refine r_iload (pc := 74) 0 rfl hG dX7_toldBy_74 ?_
        exact r_iret (pc := 76) rfl hG dX7_toldBy_76
      · refine r_iteS hG (fun h5 => ?_) (fun h5 => ?_)
        · refine r_tableIn (pc := 32) (tgt := 77) (off := 45) (by rw [h5]; decide) (by rw [h5]; decide) (by rw [h5]; decide) (by decide) hG dX7_toldBy_32 ?_
          refine r_iload_n (pc := 77) 3 3 rfl rfl hG dX7_toldBy_77 ?_
          refine r_bipush (pc := 78) (v := 10) (by decide) hG dX7_toldBy_78 ?_
          refine r_icmp_geS (pc := 80) (tgt := 87) (by decide) hG dX7_toldBy_80 (fun h6 => ?_) (fun h6 => ?_)
          · refine r_iload (pc := 87) 0 rfl hG dX7_toldBy_87 ?_
            exact r_iret (pc := 89) rfl hG dX7_toldBy_89
          · refine r_iconst (pc := 83) (v := 0) (by decide) hG dX7_toldBy_83 ?_
            refine r_goto (pc := 84) (tgt := 89) (by decide) hG dX7_toldBy_84 ?_
            exact r_iret (pc := 89) rfl hG dX7_toldBy_89
        · refine r_iteS hG (fun h7 => ?_) (fun h7 => ?_)
          · refine r_tableIn (pc := 32) (tgt := 90) (off := 58) (by rw [h7]; decide) (by rw [h7]; decide) (by rw [h7]; decide) (by decide) hG dX7_toldBy_32 ?_
            refine r_iload_n (pc := 90) 3 3 rfl rfl hG dX7_toldBy_90 ?_
            refine r_iconst (pc := 91) (v := 2) (by decide) hG dX7_toldBy_91 ?_
            refine r_irem (pc := 92) (by decide) hG dX7_toldBy_92 ?_
            refine r_if_neS (pc := 93) (tgt := 101) (by decide) hG dX7_toldBy_93 (fun h8 => ?_) (fun h8 => ?_)
            · refine r_iconst (pc := 101) (v := 0) (by decide) hG dX7_toldBy_101 ?_
              refine r_iload (pc := 102) 5 rfl hG dX7_toldBy_102 ?_
              refine r_iconst (pc := 104) (v := 2) (by decide) hG dX7_toldBy_104 ?_
              refine r_isub (pc := 105) hG dX7_toldBy_105 ?_
              refine r_mmax (pc := 106) lk690 (by omega) (Nat.le_of_ble_eq_true rfl) hG dX7_toldBy_106 ?_
              exact r_iret (pc := 109) rfl hG dX7_toldBy_109
            · refine r_iload (pc := 96) 5 rfl hG dX7_toldBy_96 ?_
              refine r_goto (pc := 98) (tgt := 109) (by decide) hG dX7_toldBy_98 ?_
              exact r_iret (pc := 109) rfl hG dX7_toldBy_109
          · refine r_tableOut (pc := 32) (tgt := 110) (by have q0 := lv_neT h2 (a := 1) (by decide); have q1 := lv_neT h3 (a := 2) (by decide); have q2 := lv_neT h4 (a := 3) (by decide); have q3 := lv_neT h5 (a := 4) (by decide); have q4 := lv_neT h7 (a := 5) (by decide); omega) (by decide) hG dX7_toldBy_32 ?_
            refine r_iload (pc := 110) 4 rfl hG dX7_toldBy_110 ?_
            exact r_iret (pc := 112) rfl hG dX7_toldBy_112
set_option maxRecDepth 4000 in
theorem c_Ro_toldBy (X : Cx) (v0 : Int32) (v1 : Int32) (v2 : Int32) (v3 : Int32) (σ : St) : Ctr X yX7_toldBy cX7_toldBy 8 (some .int) 6 [.int v0, .int v1, .int v2, .int v3] σ (some (.int (Ro_toldBy v0 v1 v2 v3))) σ := by
  refine Ctr.of (out := (oI σ)) (E := some (Ro_toldBy v0 v1 v2 v3)) rfl (Nat.le_of_ble_eq_true rfl) (fun G hG => ?_) _ rfl
  unfold Ro_toldBy
  refine r_iload_n (pc := 0) 1 1 rfl rfl hG dX7_toldBy_0 ?_
  refine r_istore (pc := 1) (lv' := [(4, .int v1), (0, .int v0), (1, .int v1), (2, .int v2), (3, .int v3)]) (by decide) rfl hG dX7_toldBy_1 ?_
  refine r_iload (pc := 3) 0 rfl hG dX7_toldBy_3 ?_
  refine r_iconst (pc := 5) (v := 3) (by decide) hG dX7_toldBy_5 ?_
  refine r_iadd (pc := 6) hG dX7_toldBy_6 ?_
  refine r_istore (pc := 7) (lv' := [(5, .int (v1 + 3)), (4, .int v1), (0, .int v0), (1, .int v1), (2, .int v2), (3, .int v3)]) (by decide) rfl hG dX7_toldBy_7 ?_
  refine r_iload_n (pc := 9) 4 2 rfl rfl hG dX7_toldBy_9 ?_
  refine r_iconst (pc := 10) (v := 4) (by decide) hG dX7_toldBy_10 ?_
  refine r_icmp_geS (pc := 11) (tgt := 18) (by decide) hG dX7_toldBy_11 (fun h1 => ?_) (fun h1 => ?_)
  · refine r_iload (pc := 18) 1 rfl hG dX7_toldBy_18 ?_
    exact r_sub [2, 5, 1, 0] rfl hG (w_Ro_toldBy_J20 hG v0 v3 v1 (v1 + 3) v1)
  · refine r_iconst (pc := 14) (v := 0) (by decide) hG dX7_toldBy_14 ?_
    refine r_goto (pc := 15) (tgt := 20) (by decide) hG dX7_toldBy_15 ?_
    exact r_sub [2, 5, 1, 0] rfl hG (w_Ro_toldBy_J20 hG v0 v3 v1 (v1 + 3) 0)
set_option maxRecDepth 4000 in
theorem w_Gs_tongueFits_J77 {σ : St} {X : Cx} {G : GT Int32} (N : Nat) (hG : IsG X RX0 cX0_tongueFits 7 7 (some .boolean) (oI σ) G) {K20 : Int32 → Int32 → Nat → Int32 → Int32 → St → Option Int32} (hK20 : ∀ (v2 : Int32) (v3 : Int32) (v4 : Nat) (v5 : Int32) (v6 : Int32), shp v4 = 9 → G (K20 v2 v3 v4 v5 v6 σ) σ 20 [(2, .int v2), (3, .int v3), (4, .ref (X.2.1 + v4)), (5, .int v5), (6, .int v6)] []) (v2 : Int32) (v3 : Int32) (v4 : Nat) (v5 : Int32) (v6 : Int32) (hv4 : shp v4 = 9) : G (Gs_tongueFits_J77 N K20 v2 v3 v4 v5 v6 σ) σ 77 [(2, .int v2), (3, .int v3), (4, .ref (X.2.1 + v4)), (5, .int v5), (6, .int v6)] [] := by
  unfold Gs_tongueFits_J77
  refine r_bIinc (pc := 77) (lv' := fun x8 => [(6, .int x8), (2, .int v2), (3, .int v3), (4, .ref (X.2.1 + v4)), (5, .int v5)]) 4 rfl rfl (by decide) (fun _ => rfl) hG dX0_tongueFits_77 (fun x8 => ?_)
  refine r_goto (pc := 80) (tgt := 20) (by decide) hG dX0_tongueFits_80 ?_
  exact r_sub [1, 2, 3, 4, 0] rfl hG (hK20 v2 v3 v4 v5 x8 hv4)
set_option maxRecDepth 4000 in
theorem w_Gs_tongueFits_L20B {σ : St} {X : Cx} {G : GT Int32} (N : Nat) (hG : IsG X RX0 cX0_tongueFits 7 7 (some .boolean) (oI σ) G) {K20 : Int32 → Int32 → Nat → Int32 → Int32 → St → Option Int32} (hK20 : ∀ (v2 : Int32) (v3 : Int32) (v4 : Nat) (v5 : Int32) (v6 : Int32), shp v4 = 9 → G (K20 v2 v3 v4 v5 v6 σ) σ 20 [(2, .int v2), (3, .int v3), (4, .ref (X.2.1 + v4)), (5, .int v5), (6, .int v6)] []) (v2 : Int32) (v3 : Int32) (v4 : Nat) (v5 : Int32) (v6 : Int32) (hv4 : shp v4 = 9) : G (Gs_tongueFits_L20B N K20 v2 v3 v4 v5 v6 σ) σ 20 [(2, .int v2), (3, .int v3), (4, .ref (X.2.1 + v4)), (5, .int v5), (6, .int v6)] [] := by
  unfold Gs_tongueFits_L20B
  refine r_iload (pc := 20) 4 rfl hG dX0_tongueFits_20 ?_
  refine r_aload (pc := 22) 2 rfl hG dX0_tongueFits_22 ?_
  refine gf9_3 (pc := 24) (i := v4) hv4 lk123 hG dX0_tongueFits_24 ?_
  refine r_icmp_ge (pc := 27) (tgt := 83) (by decide) hG dX0_tongueFits_27 (fun h3 => ?_) (fun h3 => ?_)
  · refine r_iconst (pc := 83) (v := 1) (by decide) hG dX0_tongueFits_83 ?_
    exact r_zret (pc := 84) rvN_b1 rfl hG dX0_tongueFits_84
  · refine r_aload (pc := 30) 2 rfl hG dX0_tongueFits_30 ?_
    refine r_iload (pc := 32) 4 rfl hG dX0_tongueFits_32 ?_
    refine r_iconst (pc := 34) (v := 0) (by decide) hG dX0_tongueFits_34 ?_
    refine r_bR hG (fun r4 e6 => ?_)
    refine r_callVi (pc := 35) (As := [.int v6, .int 0]) (c_Ta_cell X N v4 v6 0 σ hv4 r4 e6) (wsOf_at hv4 (by decide) rfl) rfl mfX0_40_X9_cell hyVX9_cell (by decide) (by decide) rfl (Nat.le_of_ble_eq_true rfl) hG dX0_tongueFits_35 rfl (fun n5 => ?_)
    refine r_iload_n (pc := 38) 0 2 rfl rfl hG dX0_tongueFits_38 ?_
    refine r_icmp_ne (pc := 39) (tgt := 77) (by decide) hG dX0_tongueFits_39 (fun h7 => ?_) (fun h7 => ?_)
    · exact w_Gs_tongueFits_J77 N hG hK20 v2 v3 v4 v5 v6 hv4
    · refine r_iload (pc := 42) 3 rfl hG dX0_tongueFits_42 ?_
      refine r_iload_n (pc := 44) 1 3 rfl rfl hG dX0_tongueFits_44 ?_
      refine r_aload (pc := 45) 2 rfl hG dX0_tongueFits_45 ?_
      refine r_iload (pc := 47) 4 rfl hG dX0_tongueFits_47 ?_
      refine r_iconst (pc := 49) (v := 1) (by decide) hG dX0_tongueFits_49 ?_
      refine r_bR hG (fun r9 e11 => ?_)
      refine r_callVi (pc := 50) (As := [.int v6, .int 1]) (c_Ta_cell X N v4 v6 1 σ hv4 r9 e11) (wsOf_at hv4 (by decide) rfl) rfl mfX0_40_X9_cell hyVX9_cell (by decide) (by decide) rfl (Nat.le_of_ble_eq_true rfl) hG dX0_tongueFits_50 rfl (fun n10 => ?_)
      refine r_aload (pc := 53) 2 rfl hG dX0_tongueFits_53 ?_
      refine r_iload (pc := 55) 4 rfl hG dX0_tongueFits_55 ?_
      refine r_iconst (pc := 57) (v := 2) (by decide) hG dX0_tongueFits_57 ?_
      refine r_bR hG (fun r12 e14 => ?_)
      refine r_callVi (pc := 58) (As := [.int v6, .int 2]) (c_Ta_cell X N v4 v6 2 σ hv4 r12 e14) (wsOf_at hv4 (by decide) rfl) rfl mfX0_40_X9_cell hyVX9_cell (by decide) (by decide) rfl (Nat.le_of_ble_eq_true rfl) hG dX0_tongueFits_58 rfl (fun n13 => ?_)
      refine r_callSi (pc := 61) (As := [.int v5, .int v3, .int r9, .int r12]) (c_Ro_toldBy X v5 v3 r9 r12 σ) mfX0_44_X7_toldBy hySX7_toldBy (by decide) (by decide) rfl (Nat.le_of_ble_eq_true rfl) hG dX0_tongueFits_61 rfl (fun n16 => ?_)
      refine r_aload (pc := 64) 2 rfl hG dX0_tongueFits_64 ?_
      refine r_iload (pc := 66) 4 rfl hG dX0_tongueFits_66 ?_
      refine r_iconst (pc := 68) (v := 3) (by decide) hG dX0_tongueFits_68 ?_
      refine r_bR hG (fun r18 e20 => ?_)
      refine r_callVi (pc := 69) (As := [.int v6, .int 3]) (c_Ta_cell X N v4 v6 3 σ hv4 r18 e20) (wsOf_at hv4 (by decide) rfl) rfl mfX0_40_X9_cell hyVX9_cell (by decide) (by decide) rfl (Nat.le_of_ble_eq_true rfl) hG dX0_tongueFits_69 rfl (fun n19 => ?_)
      refine r_icmp_eq (pc := 72) (tgt := 77) (by decide) hG dX0_tongueFits_72 (fun h21 => ?_) (fun h21 => ?_)
      · exact w_Gs_tongueFits_J77 N hG hK20 v2 v3 v4 v5 v6 hv4
      · refine r_iconst (pc := 75) (v := 0) (by decide) hG dX0_tongueFits_75 ?_
        exact r_zret (pc := 76) rvN_b0 rfl hG dX0_tongueFits_76
set_option maxRecDepth 4000 in
theorem w_Gs_tongueFits_L20 {σ : St} {X : Cx} {G : GT Int32} (N : Nat) (hG : IsG X RX0 cX0_tongueFits 7 7 (some .boolean) (oI σ) G) : ∀ (n : Nat), ∀ (v2 : Int32) (v3 : Int32) (v4 : Nat) (v5 : Int32) (v6 : Int32), shp v4 = 9 → G (Gs_tongueFits_L20 N n v2 v3 v4 v5 v6 σ) σ 20 [(2, .int v2), (3, .int v3), (4, .ref (X.2.1 + v4)), (5, .int v5), (6, .int v6)] [] := by
  intro n
  induction n with
  | zero => intro v2 v3 v4 v5 v6 hv4; exact r_none hG
  | succ n ih => intro v2 v3 v4 v5 v6 hv4; exact w_Gs_tongueFits_L20B N hG ih v2 v3 v4 v5 v6 hv4
set_option maxRecDepth 4000 in
theorem c_Gs_tongueFits (X : Cx) (N : Nat) (v1 : Nat) (v2 : Int32) (v3 : Int32) (σ : St) (hv1 : shp v1 = 4) (r : Int32) (hE : Gs_tongueFits N v1 v2 v3 σ = some r) : Ctr X yX0_tongueFits cX0_tongueFits 7 (some .boolean) 7 [.ref (X.2.1 + 64), .ref (X.2.1 + v1), .int v2, .int v3] σ (some (.int r)) σ := by
  refine Ctr.of (out := (oI σ)) (E := Gs_tongueFits N v1 v2 v3 σ) rfl (Nat.le_of_ble_eq_true rfl) (fun G hG => ?_) r hE
  unfold Gs_tongueFits
  refine r_aload_n (pc := 0) 1 1 rfl rfl hG dX0_tongueFits_0 ?_
  refine gf4_6 (pc := 1) (i := v1) hv1 lk241 hG dX0_tongueFits_1 ?_
  refine r_astore (pc := 4) (lv' := [(4, .ref (X.2.1 + (v1 + 5))), (0, .ref (X.2.1 + 64)), (1, .ref (X.2.1 + v1)), (2, .int v2), (3, .int v3)]) (by decide) rfl hG dX0_tongueFits_4 ?_
  refine r_aload_n (pc := 6) 2 1 rfl rfl hG dX0_tongueFits_6 ?_
  refine gf4_2 (pc := 7) (i := v1) hv1 lk223 hG dX0_tongueFits_7 ?_
  refine r_iload_n (pc := 10) 3 2 rfl rfl hG dX0_tongueFits_10 ?_
  refine r_ck hG (fun h1 => ?_)
  refine r_aRowers (pc := 11) (i := v1) (sh4_3 hv1) (ln4_3 hv1) h1 hG dX0_tongueFits_11 ?_
  refine gf7_0 (pc := 12) (i := (v1 + 13 + (v2).toNatClampNeg)) (shRo hv1 h1) lk156 hG dX0_tongueFits_12 ?_
  refine r_bI hG (fun x2 => ?_)
  refine r_istore (pc := 15) (lv' := [(5, .int x2), (4, .ref (X.2.1 + (v1 + 5))), (0, .ref (X.2.1 + 64)), (1, .ref (X.2.1 + v1)), (2, .int v2), (3, .int v3)]) (by decide) rfl hG dX0_tongueFits_15 ?_
  refine r_iconst (pc := 17) (v := 0) (by decide) hG dX0_tongueFits_17 ?_
  refine r_istore (pc := 18) (lv' := [(6, .int 0), (5, .int x2), (4, .ref (X.2.1 + (v1 + 5))), (0, .ref (X.2.1 + 64)), (1, .ref (X.2.1 + v1)), (2, .int v2), (3, .int v3)]) (by decide) rfl hG dX0_tongueFits_18 ?_
  exact r_sub [5, 6, 2, 1, 0] rfl hG (w_Gs_tongueFits_L20 N hG N v2 v3 (v1 + 5) x2 0 (sh4_5 hv1))
set_option maxRecDepth 4000 in
theorem w_Gs_tonguesLeft_J30 {σ : St} {X : Cx} {G : GT Int32} (N : Nat) (hG : IsG X RX0 cX0_tonguesLeft 5 8 (some .int) (oI σ) G) {K5 : Nat → Int32 → Int32 → Int32 → St → Option Int32} (hK5 : ∀ (v1 : Nat) (v2 : Int32) (v3 : Int32) (v4 : Int32), shp v1 = 4 → G (K5 v1 v2 v3 v4 σ) σ 5 [(0, .ref (X.2.1 + 64)), (1, .ref (X.2.1 + v1)), (2, .int v2), (3, .int v3), (4, .int v4)] []) (v1 : Nat) (v2 : Int32) (v3 : Int32) (v4 : Int32) (hv1 : shp v1 = 4) : G (Gs_tonguesLeft_J30 N K5 v1 v2 v3 v4 σ) σ 30 [(0, .ref (X.2.1 + 64)), (1, .ref (X.2.1 + v1)), (2, .int v2), (3, .int v3), (4, .int v4)] [] := by
  unfold Gs_tonguesLeft_J30
  refine r_bIinc (pc := 30) (lv' := fun x6 => [(4, .int x6), (0, .ref (X.2.1 + 64)), (1, .ref (X.2.1 + v1)), (2, .int v2), (3, .int v3)]) 4 rfl rfl (by decide) (fun _ => rfl) hG dX0_tonguesLeft_30 (fun x6 => ?_)
  refine r_goto (pc := 33) (tgt := 5) (by decide) hG dX0_tonguesLeft_33 ?_
  exact r_sub [1, 2, 3, 4, 0] rfl hG (hK5 v1 v2 v3 x6 hv1)
set_option maxRecDepth 4000 in
theorem w_Gs_tonguesLeft_L5B {σ : St} {X : Cx} {G : GT Int32} (N : Nat) (hG : IsG X RX0 cX0_tonguesLeft 5 8 (some .int) (oI σ) G) {K5 : Nat → Int32 → Int32 → Int32 → St → Option Int32} (hK5 : ∀ (v1 : Nat) (v2 : Int32) (v3 : Int32) (v4 : Int32), shp v1 = 4 → G (K5 v1 v2 v3 v4 σ) σ 5 [(0, .ref (X.2.1 + 64)), (1, .ref (X.2.1 + v1)), (2, .int v2), (3, .int v3), (4, .int v4)] []) (v1 : Nat) (v2 : Int32) (v3 : Int32) (v4 : Int32) (hv1 : shp v1 = 4) : G (Gs_tonguesLeft_L5B N K5 v1 v2 v3 v4 σ) σ 5 [(0, .ref (X.2.1 + 64)), (1, .ref (X.2.1 + v1)), (2, .int v2), (3, .int v3), (4, .int v4)] [] := by
  unfold Gs_tonguesLeft_L5B
  refine r_iload (pc := 5) 4 rfl hG dX0_tonguesLeft_5 ?_
  refine r_bipush (pc := 7) (v := 10) (by decide) hG dX0_tonguesLeft_7 ?_
  refine r_icmp_ge (pc := 9) (tgt := 36) (by decide) hG dX0_tonguesLeft_9 (fun h1 => ?_) (fun h1 => ?_)
  · refine r_iload_n (pc := 36) 3 3 rfl rfl hG dX0_tonguesLeft_36 ?_
    exact r_iret (pc := 37) rfl hG dX0_tonguesLeft_37
  · refine r_aload_n (pc := 12) 0 0 rfl rfl hG dX0_tonguesLeft_12 ?_
    refine r_aload_n (pc := 13) 1 1 rfl rfl hG dX0_tonguesLeft_13 ?_
    refine r_iload_n (pc := 14) 2 2 rfl rfl hG dX0_tonguesLeft_14 ?_
    refine r_iload (pc := 15) 4 rfl hG dX0_tonguesLeft_15 ?_
    refine r_bR hG (fun r2 e4 => ?_)
    refine r_callVi (pc := 17) (As := [.ref (X.2.1 + v1), .int v2, .int v4]) (c_Gs_tongueFits X N v1 v2 v4 σ hv1 r2 e4) (wsOf_at (rfl : shp 64 = 0) (by decide) rfl) rfl mfX0_15_X0_tongueFits hyVX0_tongueFits (by decide) (by decide) rfl (Nat.le_of_ble_eq_true rfl) hG dX0_tonguesLeft_17 rfl (fun n3 => ?_)
    refine r_if_eq (pc := 20) (tgt := 30) (by decide) hG dX0_tonguesLeft_20 (fun h5 => ?_) (fun h5 => ?_)
    · exact w_Gs_tonguesLeft_J30 N hG hK5 v1 v2 v3 v4 hv1
    · refine r_iload_n (pc := 23) 3 3 rfl rfl hG dX0_tonguesLeft_23 ?_
      refine r_iconst (pc := 24) (v := 1) (by decide) hG dX0_tonguesLeft_24 ?_
      refine r_iload (pc := 25) 4 rfl hG dX0_tonguesLeft_25 ?_
      refine r_ishl (pc := 27) hG dX0_tonguesLeft_27 ?_
      refine r_ior (pc := 28) hG dX0_tonguesLeft_28 ?_
      refine r_bI hG (fun x7 => ?_)
      refine r_istore_n (pc := 29) (lv' := [(3, .int x7), (0, .ref (X.2.1 + 64)), (1, .ref (X.2.1 + v1)), (2, .int v2), (4, .int v4)]) 3 rfl (by decide) rfl hG dX0_tonguesLeft_29 ?_
      exact r_sub [1, 2, 3, 0, 4] rfl hG (w_Gs_tonguesLeft_J30 N hG hK5 v1 v2 x7 v4 hv1)
set_option maxRecDepth 4000 in
theorem w_Gs_tonguesLeft_L5 {σ : St} {X : Cx} {G : GT Int32} (N : Nat) (hG : IsG X RX0 cX0_tonguesLeft 5 8 (some .int) (oI σ) G) : ∀ (n : Nat), ∀ (v1 : Nat) (v2 : Int32) (v3 : Int32) (v4 : Int32), shp v1 = 4 → G (Gs_tonguesLeft_L5 N n v1 v2 v3 v4 σ) σ 5 [(0, .ref (X.2.1 + 64)), (1, .ref (X.2.1 + v1)), (2, .int v2), (3, .int v3), (4, .int v4)] [] := by
  intro n
  induction n with
  | zero => intro v1 v2 v3 v4 hv1; exact r_none hG
  | succ n ih => intro v1 v2 v3 v4 hv1; exact w_Gs_tonguesLeft_L5B N hG ih v1 v2 v3 v4 hv1
set_option maxRecDepth 4000 in
theorem c_Gs_tonguesLeft (X : Cx) (N : Nat) (v1 : Nat) (v2 : Int32) (σ : St) (hv1 : shp v1 = 4) (r : Int32) (hE : Gs_tonguesLeft N v1 v2 σ = some r) : Ctr X yX0_tonguesLeft cX0_tonguesLeft 5 (some .int) 8 [.ref (X.2.1 + 64), .ref (X.2.1 + v1), .int v2] σ (some (.int r)) σ := by
  refine Ctr.of (out := (oI σ)) (E := Gs_tonguesLeft N v1 v2 σ) rfl (Nat.le_of_ble_eq_true rfl) (fun G hG => ?_) r hE
  unfold Gs_tonguesLeft
  refine r_iconst (pc := 0) (v := 0) (by decide) hG dX0_tonguesLeft_0 ?_
  refine r_istore_n (pc := 1) (lv' := [(3, .int 0), (0, .ref (X.2.1 + 64)), (1, .ref (X.2.1 + v1)), (2, .int v2)]) 3 rfl (by decide) rfl hG dX0_tonguesLeft_1 ?_
  refine r_iconst (pc := 2) (v := 0) (by decide) hG dX0_tonguesLeft_2 ?_
  refine r_istore (pc := 3) (lv' := [(4, .int 0), (3, .int 0), (0, .ref (X.2.1 + 64)), (1, .ref (X.2.1 + v1)), (2, .int v2)]) (by decide) rfl hG dX0_tonguesLeft_3 ?_
  exact r_sub [2, 3, 4, 1, 0] rfl hG (w_Gs_tonguesLeft_L5 N hG N v1 v2 0 0 hv1)
set_option maxRecDepth 4000 in
theorem w_Gu_hurtOf_J52 {σ : St} {X : Cx} {G : GT Int32} (hG : IsG X RX1 cX1_hurtOf 9 6 (some .int) (oI σ) G) (v0 : Int32) (v3 : Int32) (v5 : Int32) (v6 : Int32) (v7 : Int32) (w0 : Int32) : G (some (Gu_hurtOf_J52 v0 v3 v5 v6 v7 w0)) σ 52 [(0, .int v0), (3, .int v3), (5, .int v5), (6, .int v6), (7, .int v7)] [.int w0] := by
  unfold Gu_hurtOf_J52
  refine r_istore (pc := 52) (lv' := [(8, .int w0), (0, .int v0), (3, .int v3), (5, .int v5), (6, .int v6), (7, .int v7)]) (by decide) rfl hG dX1_hurtOf_52 ?_
  refine r_iload_n (pc := 54) 1 0 rfl rfl hG dX1_hurtOf_54 ?_
  refine r_iteS hG (fun h4 => ?_) (fun h4 => ?_)
  · refine r_tableIn (pc := 55) (tgt := 88) (off := 33) (by rw [h4]; decide) (by rw [h4]; decide) (by rw [h4]; decide) (by decide) hG dX1_hurtOf_55 ?_
    refine r_iload (pc := 88) 4 rfl hG dX1_hurtOf_88 ?_
    exact r_iret (pc := 90) rfl hG dX1_hurtOf_90
  · refine r_iteS hG (fun h5 => ?_) (fun h5 => ?_)
    · refine r_tableIn (pc := 55) (tgt := 91) (off := 36) (by rw [h5]; decide) (by rw [h5]; decide) (by rw [h5]; decide) (by decide) hG dX1_hurtOf_55 ?_
      refine r_iload (pc := 91) 5 rfl hG dX1_hurtOf_91 ?_
      exact r_iret (pc := 93) rfl hG dX1_hurtOf_93
    · refine r_iteS hG (fun h6 => ?_) (fun h6 => ?_)
      · refine r_tableIn (pc := 55) (tgt := 94) (off := 39) (by rw [h6]; decide) (by rw [h6]; decide) (by rw [h6]; decide) (by decide) hG dX1_hurtOf_55 ?_
        refine r_iload (pc := 94) 0 rfl hG dX1_hurtOf_94 ?_
        exact r_iret (pc := 96) rfl hG dX1_hurtOf_96
      · refine r_iteS hG (fun h7 => ?_) (fun h7 => ?_)
        · refine r_tableIn (pc := 55) (tgt := 97) (off := 42) (by rw [h7]; decide) (by rw [h7]; decide) (by rw [h7]; decide) (by decide) hG dX1_hurtOf_55 ?_
          refine r_iload_n (pc := 97) 2 3 rfl rfl hG dX1_hurtOf_97 ?_
          refine r_iconst (pc := 98) (v := 3) (by decide) hG dX1_hurtOf_98 ?_
          refine r_icmp_geS (pc := 99) (tgt := 106) (by decide) hG dX1_hurtOf_99 (fun h8 => ?_) (fun h8 => ?_)
          · refine r_iload (pc := 106) 0 rfl hG dX1_hurtOf_106 ?_
            exact r_iret (pc := 108) rfl hG dX1_hurtOf_108
          · refine r_iconst (pc := 102) (v := 0) (by decide) hG dX1_hurtOf_102 ?_
            refine r_goto (pc := 103) (tgt := 108) (by decide) hG dX1_hurtOf_103 ?_
            exact r_iret (pc := 108) rfl hG dX1_hurtOf_108
        · refine r_iteS hG (fun h9 => ?_) (fun h9 => ?_)
          · refine r_tableIn (pc := 55) (tgt := 109) (off := 54) (by rw [h9]; decide) (by rw [h9]; decide) (by rw [h9]; decide) (by decide) hG dX1_hurtOf_55 ?_
            refine r_bipush (pc := 109) (v := 9) (by decide) hG dX1_hurtOf_109 ?_
            refine r_iload (pc := 111) 5 rfl hG dX1_hurtOf_111 ?_
            refine r_mmin (pc := 113) lk682 (by omega) (Nat.le_of_ble_eq_true rfl) hG dX1_hurtOf_113 ?_
            exact r_iret (pc := 116) rfl hG dX1_hurtOf_116
          · refine r_tableOut (pc := 55) (tgt := 117) (by have q0 := lv_neT h4 (a := 1) (by decide); have q1 := lv_neT h5 (a := 2) (by decide); have q2 := lv_neT h6 (a := 3) (by decide); have q3 := lv_neT h7 (a := 4) (by decide); have q4 := lv_neT h9 (a := 5) (by decide); omega) (by decide) hG dX1_hurtOf_55 ?_
            refine r_iload (pc := 117) 3 rfl hG dX1_hurtOf_117 ?_
            exact r_iret (pc := 119) rfl hG dX1_hurtOf_119
set_option maxRecDepth 4000 in
theorem w_Gu_hurtOf_J37 {σ : St} {X : Cx} {G : GT Int32} (hG : IsG X RX1 cX1_hurtOf 9 6 (some .int) (oI σ) G) (v0 : Int32) (v3 : Int32) (v5 : Int32) (v6 : Int32) (w0 : Int32) : G (some (Gu_hurtOf_J37 v0 v3 v5 v6 w0)) σ 37 [(0, .int v0), (3, .int v3), (5, .int v5), (6, .int v6)] [.int w0] := by
  unfold Gu_hurtOf_J37
  refine r_istore (pc := 37) (lv' := [(7, .int w0), (0, .int v0), (3, .int v3), (5, .int v5), (6, .int v6)]) (by decide) rfl hG dX1_hurtOf_37 ?_
  refine r_iload_n (pc := 39) 2 3 rfl rfl hG dX1_hurtOf_39 ?_
  refine r_if_eqS (pc := 40) (tgt := 50) (by decide) hG dX1_hurtOf_40 (fun h3 => ?_) (fun h3 => ?_)
  · refine r_iload (pc := 50) 4 rfl hG dX1_hurtOf_50 ?_
    exact r_sub [1, 2, 3, 4, 0] rfl hG (w_Gu_hurtOf_J52 hG v0 v3 v5 v6 w0 v6)
  · refine r_iload (pc := 43) 4 rfl hG dX1_hurtOf_43 ?_
    refine r_iconst (pc := 45) (v := 3) (by decide) hG dX1_hurtOf_45 ?_
    refine r_iadd (pc := 46) hG dX1_hurtOf_46 ?_
    refine r_goto (pc := 47) (tgt := 52) (by decide) hG dX1_hurtOf_47 ?_
    exact r_sub [1, 2, 3, 4, 0] rfl hG (w_Gu_hurtOf_J52 hG v0 v3 v5 v6 w0 (v6 + 3))
set_option maxRecDepth 4000 in
theorem w_Gu_hurtOf_J18 {σ : St} {X : Cx} {G : GT Int32} (hG : IsG X RX1 cX1_hurtOf 9 6 (some .int) (oI σ) G) (v0 : Int32) (v1 : Int32) (v2 : Int32) (v3 : Int32) (v5 : Int32) (w0 : Int32) : G (some (Gu_hurtOf_J18 v0 v1 v2 v3 v5 w0)) σ 18 [(0, .int v0), (1, .int v1), (2, .int v2), (3, .int v3), (5, .int v5)] [.int w0] := by
  unfold Gu_hurtOf_J18
  refine r_istore (pc := 18) (lv' := [(6, .int w0), (0, .int v0), (1, .int v1), (2, .int v2), (3, .int v3), (5, .int v5)]) (by decide) rfl hG dX1_hurtOf_18 ?_
  refine r_iload_n (pc := 20) 4 3 rfl rfl hG dX1_hurtOf_20 ?_
  refine r_if_eqS (pc := 21) (tgt := 35) (by decide) hG dX1_hurtOf_21 (fun h2 => ?_) (fun h2 => ?_)
  · refine r_iload (pc := 35) 5 rfl hG dX1_hurtOf_35 ?_
    exact r_sub [1, 4, 5, 0] rfl hG (w_Gu_hurtOf_J37 hG v0 v3 v5 w0 v5)
  · refine r_iload (pc := 24) 5 rfl hG dX1_hurtOf_24 ?_
    refine r_iload_n (pc := 26) 2 1 rfl rfl hG dX1_hurtOf_26 ?_
    refine r_iload_n (pc := 27) 3 2 rfl rfl hG dX1_hurtOf_27 ?_
    refine r_isub (pc := 28) hG dX1_hurtOf_28 ?_
    refine r_iconst (pc := 29) (v := 4) (by decide) hG dX1_hurtOf_29 ?_
    refine r_idiv (pc := 30) (by decide) hG dX1_hurtOf_30 ?_
    refine r_iadd (pc := 31) hG dX1_hurtOf_31 ?_
    refine r_goto (pc := 32) (tgt := 37) (by decide) hG dX1_hurtOf_32 ?_
    exact r_sub [1, 4, 5, 0] rfl hG (w_Gu_hurtOf_J37 hG v0 v3 v5 w0 (v5 + ((v1 - v2) / 4)))
set_option maxRecDepth 4000 in
theorem c_Gu_hurtOf (X : Cx) (v0 : Int32) (v1 : Int32) (v2 : Int32) (v3 : Int32) (v4 : Int32) (σ : St) : Ctr X yX1_hurtOf cX1_hurtOf 9 (some .int) 6 [.int v0, .int v1, .int v2, .int v3, .int v4] σ (some (.int (Gu_hurtOf v0 v1 v2 v3 v4))) σ := by
  refine Ctr.of (out := (oI σ)) (E := some (Gu_hurtOf v0 v1 v2 v3 v4)) rfl (Nat.le_of_ble_eq_true rfl) (fun G hG => ?_) _ rfl
  unfold Gu_hurtOf
  refine r_iload_n (pc := 0) 3 3 rfl rfl hG dX1_hurtOf_0 ?_
  refine r_istore (pc := 1) (lv' := [(5, .int v3), (0, .int v0), (1, .int v1), (2, .int v2), (3, .int v3), (4, .int v4)]) (by decide) rfl hG dX1_hurtOf_1 ?_
  refine r_iload (pc := 3) 5 rfl hG dX1_hurtOf_3 ?_
  refine r_iconst (pc := 5) (v := 5) (by decide) hG dX1_hurtOf_5 ?_
  refine r_icmp_geS (pc := 6) (tgt := 16) (by decide) hG dX1_hurtOf_6 (fun h1 => ?_) (fun h1 => ?_)
  · refine r_iload (pc := 16) 0 rfl hG dX1_hurtOf_16 ?_
    exact r_sub [1, 2, 3, 4, 0] rfl hG (w_Gu_hurtOf_J18 hG v0 v1 v2 v3 v3 v3)
  · refine r_iconst (pc := 9) (v := 2) (by decide) hG dX1_hurtOf_9 ?_
    refine r_iload (pc := 10) 0 rfl hG dX1_hurtOf_10 ?_
    refine r_imul (pc := 12) hG dX1_hurtOf_12 ?_
    refine r_goto (pc := 13) (tgt := 18) (by decide) hG dX1_hurtOf_13 ?_
    exact r_sub [1, 2, 3, 4, 0] rfl hG (w_Gu_hurtOf_J18 hG v0 v1 v2 v3 v3 (2 * v3))
set_option maxRecDepth 4000 in
theorem w_Gs_guestKindFits_J74 {σ : St} {X : Cx} {G : GT Int32} (N : Nat) (hG : IsG X RX0 cX0_guestKindFits 6 7 (some .boolean) (oI σ) G) {K3 : Nat → Int32 → Int32 → Int32 → St → Option Int32} (hK3 : ∀ (v1 : Nat) (v2 : Int32) (v3 : Int32) (v4 : Int32), shp v1 = 9 → G (K3 v1 v2 v3 v4 σ) σ 3 [(1, .ref (X.2.1 + v1)), (2, .int v2), (3, .int v3), (4, .int v4)] []) (v1 : Nat) (v2 : Int32) (v3 : Int32) (v4 : Int32) (hv1 : shp v1 = 9) : G (Gs_guestKindFits_J74 N K3 v1 v2 v3 v4 σ) σ 74 [(1, .ref (X.2.1 + v1)), (2, .int v2), (3, .int v3), (4, .int v4)] [] := by
  unfold Gs_guestKindFits_J74
  refine r_bIinc (pc := 74) (lv' := fun x26 => [(4, .int x26), (1, .ref (X.2.1 + v1)), (2, .int v2), (3, .int v3)]) 3 rfl rfl (by decide) (fun _ => rfl) hG dX0_guestKindFits_74 (fun x26 => ?_)
  refine r_goto (pc := 77) (tgt := 3) (by decide) hG dX0_guestKindFits_77 ?_
  exact r_sub [1, 2, 3, 0] rfl hG (hK3 v1 v2 v3 x26 hv1)
set_option maxRecDepth 4000 in
theorem w_Gs_guestKindFits_L3B {σ : St} {X : Cx} {G : GT Int32} (N : Nat) (hG : IsG X RX0 cX0_guestKindFits 6 7 (some .boolean) (oI σ) G) {K3 : Nat → Int32 → Int32 → Int32 → St → Option Int32} (hK3 : ∀ (v1 : Nat) (v2 : Int32) (v3 : Int32) (v4 : Int32), shp v1 = 9 → G (K3 v1 v2 v3 v4 σ) σ 3 [(1, .ref (X.2.1 + v1)), (2, .int v2), (3, .int v3), (4, .int v4)] []) (v1 : Nat) (v2 : Int32) (v3 : Int32) (v4 : Int32) (hv1 : shp v1 = 9) : G (Gs_guestKindFits_L3B N K3 v1 v2 v3 v4 σ) σ 3 [(1, .ref (X.2.1 + v1)), (2, .int v2), (3, .int v3), (4, .int v4)] [] := by
  unfold Gs_guestKindFits_L3B
  refine r_iload (pc := 3) 3 rfl hG dX0_guestKindFits_3 ?_
  refine r_aload_n (pc := 5) 0 1 rfl rfl hG dX0_guestKindFits_5 ?_
  refine gf9_3 (pc := 6) (i := v1) hv1 lk123 hG dX0_guestKindFits_6 ?_
  refine r_icmp_ge (pc := 9) (tgt := 80) (by decide) hG dX0_guestKindFits_9 (fun h1 => ?_) (fun h1 => ?_)
  · refine r_iconst (pc := 80) (v := 1) (by decide) hG dX0_guestKindFits_80 ?_
    exact r_zret (pc := 81) rvN_b1 rfl hG dX0_guestKindFits_81
  · refine r_aload_n (pc := 12) 0 1 rfl rfl hG dX0_guestKindFits_12 ?_
    refine r_iload (pc := 13) 3 rfl hG dX0_guestKindFits_13 ?_
    refine r_iconst (pc := 15) (v := 0) (by decide) hG dX0_guestKindFits_15 ?_
    refine r_bR hG (fun r2 e4 => ?_)
    refine r_callVi (pc := 16) (As := [.int v4, .int 0]) (c_Ta_cell X N v1 v4 0 σ hv1 r2 e4) (wsOf_at hv1 (by decide) rfl) rfl mfX0_40_X9_cell hyVX9_cell (by decide) (by decide) rfl (Nat.le_of_ble_eq_true rfl) hG dX0_guestKindFits_16 rfl (fun n3 => ?_)
    refine r_iload_n (pc := 19) 1 2 rfl rfl hG dX0_guestKindFits_19 ?_
    refine r_icmp_eq (pc := 20) (tgt := 26) (by decide) hG dX0_guestKindFits_20 (fun h5 => ?_) (fun h5 => ?_)
    · refine r_iload_n (pc := 26) 2 3 rfl rfl hG dX0_guestKindFits_26 ?_
      refine r_aload_n (pc := 27) 0 1 rfl rfl hG dX0_guestKindFits_27 ?_
      refine r_iload (pc := 28) 3 rfl hG dX0_guestKindFits_28 ?_
      refine r_iconst (pc := 30) (v := 1) (by decide) hG dX0_guestKindFits_30 ?_
      refine r_bR hG (fun r6 e8 => ?_)
      refine r_callVi (pc := 31) (As := [.int v4, .int 1]) (c_Ta_cell X N v1 v4 1 σ hv1 r6 e8) (wsOf_at hv1 (by decide) rfl) rfl mfX0_40_X9_cell hyVX9_cell (by decide) (by decide) rfl (Nat.le_of_ble_eq_true rfl) hG dX0_guestKindFits_31 rfl (fun n7 => ?_)
      refine r_aload_n (pc := 34) 0 1 rfl rfl hG dX0_guestKindFits_34 ?_
      refine r_iload (pc := 35) 3 rfl hG dX0_guestKindFits_35 ?_
      refine r_iconst (pc := 37) (v := 2) (by decide) hG dX0_guestKindFits_37 ?_
      refine r_bR hG (fun r9 e11 => ?_)
      refine r_callVi (pc := 38) (As := [.int v4, .int 2]) (c_Ta_cell X N v1 v4 2 σ hv1 r9 e11) (wsOf_at hv1 (by decide) rfl) rfl mfX0_40_X9_cell hyVX9_cell (by decide) (by decide) rfl (Nat.le_of_ble_eq_true rfl) hG dX0_guestKindFits_38 rfl (fun n10 => ?_)
      refine r_aload_n (pc := 41) 0 1 rfl rfl hG dX0_guestKindFits_41 ?_
      refine r_iload (pc := 42) 3 rfl hG dX0_guestKindFits_42 ?_
      refine r_iconst (pc := 44) (v := 3) (by decide) hG dX0_guestKindFits_44 ?_
      refine r_bR hG (fun r12 e14 => ?_)
      refine r_callVi (pc := 45) (As := [.int v4, .int 3]) (c_Ta_cell X N v1 v4 3 σ hv1 r12 e14) (wsOf_at hv1 (by decide) rfl) rfl mfX0_40_X9_cell hyVX9_cell (by decide) (by decide) rfl (Nat.le_of_ble_eq_true rfl) hG dX0_guestKindFits_45 rfl (fun n13 => ?_)
      refine r_aload_n (pc := 48) 0 1 rfl rfl hG dX0_guestKindFits_48 ?_
      refine r_iload (pc := 49) 3 rfl hG dX0_guestKindFits_49 ?_
      refine r_iconst (pc := 51) (v := 4) (by decide) hG dX0_guestKindFits_51 ?_
      refine r_bR hG (fun r15 e17 => ?_)
      refine r_callVi (pc := 52) (As := [.int v4, .int 4]) (c_Ta_cell X N v1 v4 4 σ hv1 r15 e17) (wsOf_at hv1 (by decide) rfl) rfl mfX0_40_X9_cell hyVX9_cell (by decide) (by decide) rfl (Nat.le_of_ble_eq_true rfl) hG dX0_guestKindFits_52 rfl (fun n16 => ?_)
      refine r_callSi (pc := 55) (As := [.int v3, .int r6, .int r9, .int r12, .int r15]) (c_Gu_hurtOf X v3 r6 r9 r12 r15 σ) mfX0_55_X1_hurtOf hySX1_hurtOf (by decide) (by decide) rfl (Nat.le_of_ble_eq_true rfl) hG dX0_guestKindFits_55 rfl (fun n19 => ?_)
      refine r_bI hG (fun x21 => ?_)
      refine r_istore (pc := 58) (lv' := [(5, .int x21), (1, .ref (X.2.1 + v1)), (2, .int v2), (3, .int v3), (4, .int v4)]) (by decide) rfl hG dX0_guestKindFits_58 ?_
      refine r_iload (pc := 60) 0 rfl hG dX0_guestKindFits_60 ?_
      refine r_aload_n (pc := 62) 1 1 rfl rfl hG dX0_guestKindFits_62 ?_
      refine r_iload (pc := 63) 4 rfl hG dX0_guestKindFits_63 ?_
      refine r_iconst (pc := 65) (v := 5) (by decide) hG dX0_guestKindFits_65 ?_
      refine r_bR hG (fun r22 e24 => ?_)
      refine r_callVi (pc := 66) (As := [.int v4, .int 5]) (c_Ta_cell X N v1 v4 5 σ hv1 r22 e24) (wsOf_at hv1 (by decide) rfl) rfl mfX0_40_X9_cell hyVX9_cell (by decide) (by decide) rfl (Nat.le_of_ble_eq_true rfl) hG dX0_guestKindFits_66 rfl (fun n23 => ?_)
      refine r_icmp_eq (pc := 69) (tgt := 74) (by decide) hG dX0_guestKindFits_69 (fun h25 => ?_) (fun h25 => ?_)
      · exact r_sub [1, 2, 3, 4] rfl hG (w_Gs_guestKindFits_J74 N hG hK3 v1 v2 v3 v4 hv1)
      · refine r_iconst (pc := 72) (v := 0) (by decide) hG dX0_guestKindFits_72 ?_
        exact r_zret (pc := 73) rvN_b0 rfl hG dX0_guestKindFits_73
    · refine r_goto (pc := 23) (tgt := 74) (by decide) hG dX0_guestKindFits_23 ?_
      exact w_Gs_guestKindFits_J74 N hG hK3 v1 v2 v3 v4 hv1
set_option maxRecDepth 4000 in
theorem w_Gs_guestKindFits_L3 {σ : St} {X : Cx} {G : GT Int32} (N : Nat) (hG : IsG X RX0 cX0_guestKindFits 6 7 (some .boolean) (oI σ) G) : ∀ (n : Nat), ∀ (v1 : Nat) (v2 : Int32) (v3 : Int32) (v4 : Int32), shp v1 = 9 → G (Gs_guestKindFits_L3 N n v1 v2 v3 v4 σ) σ 3 [(1, .ref (X.2.1 + v1)), (2, .int v2), (3, .int v3), (4, .int v4)] [] := by
  intro n
  induction n with
  | zero => intro v1 v2 v3 v4 hv1; exact r_none hG
  | succ n ih => intro v1 v2 v3 v4 hv1; exact w_Gs_guestKindFits_L3B N hG ih v1 v2 v3 v4 hv1
set_option maxRecDepth 4000 in
theorem c_Gs_guestKindFits (X : Cx) (N : Nat) (v1 : Nat) (v2 : Int32) (v3 : Int32) (σ : St) (hv1 : shp v1 = 9) (r : Int32) (hE : Gs_guestKindFits N v1 v2 v3 σ = some r) : Ctr X yX0_guestKindFits cX0_guestKindFits 6 (some .boolean) 7 [.ref (X.2.1 + 64), .ref (X.2.1 + v1), .int v2, .int v3] σ (some (.int r)) σ := by
  refine Ctr.of (out := (oI σ)) (E := Gs_guestKindFits N v1 v2 v3 σ) rfl (Nat.le_of_ble_eq_true rfl) (fun G hG => ?_) r hE
  unfold Gs_guestKindFits
  refine r_iconst (pc := 0) (v := 0) (by decide) hG dX0_guestKindFits_0 ?_
  refine r_istore (pc := 1) (lv' := [(4, .int 0), (0, .ref (X.2.1 + 64)), (1, .ref (X.2.1 + v1)), (2, .int v2), (3, .int v3)]) (by decide) rfl hG dX0_guestKindFits_1 ?_
  exact r_sub [2, 3, 4, 0] rfl hG (w_Gs_guestKindFits_L3 N hG N v1 v2 v3 0 hv1)
set_option maxRecDepth 4000 in
theorem w_Gs_guestKindsLeft_J33 {σ : St} {X : Cx} {G : GT Int32} (N : Nat) (hG : IsG X RX0 cX0_guestKindsLeft 5 8 (some .int) (oI σ) G) {K5 : Nat → Int32 → Int32 → Int32 → St → Option Int32} (hK5 : ∀ (v1 : Nat) (v2 : Int32) (v3 : Int32) (v4 : Int32), shp v1 = 4 → G (K5 v1 v2 v3 v4 σ) σ 5 [(0, .ref (X.2.1 + 64)), (1, .ref (X.2.1 + v1)), (2, .int v2), (3, .int v3), (4, .int v4)] []) (v1 : Nat) (v2 : Int32) (v3 : Int32) (v4 : Int32) (hv1 : shp v1 = 4) : G (Gs_guestKindsLeft_J33 N K5 v1 v2 v3 v4 σ) σ 33 [(0, .ref (X.2.1 + 64)), (1, .ref (X.2.1 + v1)), (2, .int v2), (3, .int v3), (4, .int v4)] [] := by
  unfold Gs_guestKindsLeft_J33
  refine r_bIinc (pc := 33) (lv' := fun x6 => [(4, .int x6), (0, .ref (X.2.1 + 64)), (1, .ref (X.2.1 + v1)), (2, .int v2), (3, .int v3)]) 4 rfl rfl (by decide) (fun _ => rfl) hG dX0_guestKindsLeft_33 (fun x6 => ?_)
  refine r_goto (pc := 36) (tgt := 5) (by decide) hG dX0_guestKindsLeft_36 ?_
  exact r_sub [1, 2, 3, 4, 0] rfl hG (hK5 v1 v2 v3 x6 hv1)
set_option maxRecDepth 4000 in
theorem w_Gs_guestKindsLeft_L5B {σ : St} {X : Cx} {G : GT Int32} (N : Nat) (hG : IsG X RX0 cX0_guestKindsLeft 5 8 (some .int) (oI σ) G) {K5 : Nat → Int32 → Int32 → Int32 → St → Option Int32} (hK5 : ∀ (v1 : Nat) (v2 : Int32) (v3 : Int32) (v4 : Int32), shp v1 = 4 → G (K5 v1 v2 v3 v4 σ) σ 5 [(0, .ref (X.2.1 + 64)), (1, .ref (X.2.1 + v1)), (2, .int v2), (3, .int v3), (4, .int v4)] []) (v1 : Nat) (v2 : Int32) (v3 : Int32) (v4 : Int32) (hv1 : shp v1 = 4) : G (Gs_guestKindsLeft_L5B N K5 v1 v2 v3 v4 σ) σ 5 [(0, .ref (X.2.1 + 64)), (1, .ref (X.2.1 + v1)), (2, .int v2), (3, .int v3), (4, .int v4)] [] := by
  unfold Gs_guestKindsLeft_L5B
  refine r_iload (pc := 5) 4 rfl hG dX0_guestKindsLeft_5 ?_
  refine r_bipush (pc := 7) (v := 6) (by decide) hG dX0_guestKindsLeft_7 ?_
  refine r_icmp_ge (pc := 9) (tgt := 39) (by decide) hG dX0_guestKindsLeft_9 (fun h1 => ?_) (fun h1 => ?_)
  · refine r_iload_n (pc := 39) 3 3 rfl rfl hG dX0_guestKindsLeft_39 ?_
    exact r_iret (pc := 40) rfl hG dX0_guestKindsLeft_40
  · refine r_aload_n (pc := 12) 0 0 rfl rfl hG dX0_guestKindsLeft_12 ?_
    refine r_aload_n (pc := 13) 1 1 rfl rfl hG dX0_guestKindsLeft_13 ?_
    refine gf4_7 (pc := 14) (i := v1) hv1 lk244 hG dX0_guestKindsLeft_14 ?_
    refine r_iload_n (pc := 17) 2 2 rfl rfl hG dX0_guestKindsLeft_17 ?_
    refine r_iload (pc := 18) 4 rfl hG dX0_guestKindsLeft_18 ?_
    refine r_bR hG (fun r2 e4 => ?_)
    refine r_callVi (pc := 20) (As := [.ref (X.2.1 + (v1 + 7)), .int v2, .int v4]) (c_Gs_guestKindFits X N (v1 + 7) v2 v4 σ (sh4_7 hv1) r2 e4) (wsOf_at (rfl : shp 64 = 0) (by decide) rfl) rfl mfX0_51_X0_guestKindFits hyVX0_guestKindFits (by decide) (by decide) rfl (Nat.le_of_ble_eq_true rfl) hG dX0_guestKindsLeft_20 rfl (fun n3 => ?_)
    refine r_if_eq (pc := 23) (tgt := 33) (by decide) hG dX0_guestKindsLeft_23 (fun h5 => ?_) (fun h5 => ?_)
    · exact w_Gs_guestKindsLeft_J33 N hG hK5 v1 v2 v3 v4 hv1
    · refine r_iload_n (pc := 26) 3 3 rfl rfl hG dX0_guestKindsLeft_26 ?_
      refine r_iconst (pc := 27) (v := 1) (by decide) hG dX0_guestKindsLeft_27 ?_
      refine r_iload (pc := 28) 4 rfl hG dX0_guestKindsLeft_28 ?_
      refine r_ishl (pc := 30) hG dX0_guestKindsLeft_30 ?_
      refine r_ior (pc := 31) hG dX0_guestKindsLeft_31 ?_
      refine r_bI hG (fun x7 => ?_)
      refine r_istore_n (pc := 32) (lv' := [(3, .int x7), (0, .ref (X.2.1 + 64)), (1, .ref (X.2.1 + v1)), (2, .int v2), (4, .int v4)]) 3 rfl (by decide) rfl hG dX0_guestKindsLeft_32 ?_
      exact r_sub [1, 2, 3, 0, 4] rfl hG (w_Gs_guestKindsLeft_J33 N hG hK5 v1 v2 x7 v4 hv1)
set_option maxRecDepth 4000 in
theorem w_Gs_guestKindsLeft_L5 {σ : St} {X : Cx} {G : GT Int32} (N : Nat) (hG : IsG X RX0 cX0_guestKindsLeft 5 8 (some .int) (oI σ) G) : ∀ (n : Nat), ∀ (v1 : Nat) (v2 : Int32) (v3 : Int32) (v4 : Int32), shp v1 = 4 → G (Gs_guestKindsLeft_L5 N n v1 v2 v3 v4 σ) σ 5 [(0, .ref (X.2.1 + 64)), (1, .ref (X.2.1 + v1)), (2, .int v2), (3, .int v3), (4, .int v4)] [] := by
  intro n
  induction n with
  | zero => intro v1 v2 v3 v4 hv1; exact r_none hG
  | succ n ih => intro v1 v2 v3 v4 hv1; exact w_Gs_guestKindsLeft_L5B N hG ih v1 v2 v3 v4 hv1
set_option maxRecDepth 4000 in
theorem c_Gs_guestKindsLeft (X : Cx) (N : Nat) (v1 : Nat) (v2 : Int32) (σ : St) (hv1 : shp v1 = 4) (r : Int32) (hE : Gs_guestKindsLeft N v1 v2 σ = some r) : Ctr X yX0_guestKindsLeft cX0_guestKindsLeft 5 (some .int) 8 [.ref (X.2.1 + 64), .ref (X.2.1 + v1), .int v2] σ (some (.int r)) σ := by
  refine Ctr.of (out := (oI σ)) (E := Gs_guestKindsLeft N v1 v2 σ) rfl (Nat.le_of_ble_eq_true rfl) (fun G hG => ?_) r hE
  unfold Gs_guestKindsLeft
  refine r_iconst (pc := 0) (v := 0) (by decide) hG dX0_guestKindsLeft_0 ?_
  refine r_istore_n (pc := 1) (lv' := [(3, .int 0), (0, .ref (X.2.1 + 64)), (1, .ref (X.2.1 + v1)), (2, .int v2)]) 3 rfl (by decide) rfl hG dX0_guestKindsLeft_1 ?_
  refine r_iconst (pc := 2) (v := 0) (by decide) hG dX0_guestKindsLeft_2 ?_
  refine r_istore (pc := 3) (lv' := [(4, .int 0), (3, .int 0), (0, .ref (X.2.1 + 64)), (1, .ref (X.2.1 + v1)), (2, .int v2)]) (by decide) rfl hG dX0_guestKindsLeft_3 ?_
  exact r_sub [2, 3, 4, 1, 0] rfl hG (w_Gs_guestKindsLeft_L5 N hG N v1 v2 0 0 hv1)
set_option maxRecDepth 4000 in
theorem w_Gs_rowerKindFits_J67 {σ : St} {X : Cx} {G : GT Int32} (N : Nat) (hG : IsG X RX0 cX0_rowerKindFits 6 7 (some .boolean) (oI σ) G) {K3 : Nat → Int32 → Int32 → Int32 → St → Option Int32} (hK3 : ∀ (v1 : Nat) (v2 : Int32) (v3 : Int32) (v4 : Int32), shp v1 = 9 → G (K3 v1 v2 v3 v4 σ) σ 3 [(1, .ref (X.2.1 + v1)), (2, .int v2), (3, .int v3), (4, .int v4)] []) (v1 : Nat) (v2 : Int32) (v3 : Int32) (v4 : Int32) (hv1 : shp v1 = 9) : G (Gs_rowerKindFits_J67 N K3 v1 v2 v3 v4 σ) σ 67 [(1, .ref (X.2.1 + v1)), (2, .int v2), (3, .int v3), (4, .int v4)] [] := by
  unfold Gs_rowerKindFits_J67
  refine r_bIinc (pc := 67) (lv' := fun x23 => [(4, .int x23), (1, .ref (X.2.1 + v1)), (2, .int v2), (3, .int v3)]) 3 rfl rfl (by decide) (fun _ => rfl) hG dX0_rowerKindFits_67 (fun x23 => ?_)
  refine r_goto (pc := 70) (tgt := 3) (by decide) hG dX0_rowerKindFits_70 ?_
  exact r_sub [1, 2, 3, 0] rfl hG (hK3 v1 v2 v3 x23 hv1)
set_option maxRecDepth 4000 in
theorem w_Gs_rowerKindFits_L3B {σ : St} {X : Cx} {G : GT Int32} (N : Nat) (hG : IsG X RX0 cX0_rowerKindFits 6 7 (some .boolean) (oI σ) G) {K3 : Nat → Int32 → Int32 → Int32 → St → Option Int32} (hK3 : ∀ (v1 : Nat) (v2 : Int32) (v3 : Int32) (v4 : Int32), shp v1 = 9 → G (K3 v1 v2 v3 v4 σ) σ 3 [(1, .ref (X.2.1 + v1)), (2, .int v2), (3, .int v3), (4, .int v4)] []) (v1 : Nat) (v2 : Int32) (v3 : Int32) (v4 : Int32) (hv1 : shp v1 = 9) : G (Gs_rowerKindFits_L3B N K3 v1 v2 v3 v4 σ) σ 3 [(1, .ref (X.2.1 + v1)), (2, .int v2), (3, .int v3), (4, .int v4)] [] := by
  unfold Gs_rowerKindFits_L3B
  refine r_iload (pc := 3) 3 rfl hG dX0_rowerKindFits_3 ?_
  refine r_aload_n (pc := 5) 0 1 rfl rfl hG dX0_rowerKindFits_5 ?_
  refine gf9_3 (pc := 6) (i := v1) hv1 lk123 hG dX0_rowerKindFits_6 ?_
  refine r_icmp_ge (pc := 9) (tgt := 73) (by decide) hG dX0_rowerKindFits_9 (fun h1 => ?_) (fun h1 => ?_)
  · refine r_iconst (pc := 73) (v := 1) (by decide) hG dX0_rowerKindFits_73 ?_
    exact r_zret (pc := 74) rvN_b1 rfl hG dX0_rowerKindFits_74
  · refine r_aload_n (pc := 12) 0 1 rfl rfl hG dX0_rowerKindFits_12 ?_
    refine r_iload (pc := 13) 3 rfl hG dX0_rowerKindFits_13 ?_
    refine r_iconst (pc := 15) (v := 0) (by decide) hG dX0_rowerKindFits_15 ?_
    refine r_bR hG (fun r2 e4 => ?_)
    refine r_callVi (pc := 16) (As := [.int v4, .int 0]) (c_Ta_cell X N v1 v4 0 σ hv1 r2 e4) (wsOf_at hv1 (by decide) rfl) rfl mfX0_40_X9_cell hyVX9_cell (by decide) (by decide) rfl (Nat.le_of_ble_eq_true rfl) hG dX0_rowerKindFits_16 rfl (fun n3 => ?_)
    refine r_iload_n (pc := 19) 1 2 rfl rfl hG dX0_rowerKindFits_19 ?_
    refine r_icmp_eq (pc := 20) (tgt := 26) (by decide) hG dX0_rowerKindFits_20 (fun h5 => ?_) (fun h5 => ?_)
    · refine r_iload_n (pc := 26) 2 3 rfl rfl hG dX0_rowerKindFits_26 ?_
      refine r_aload_n (pc := 27) 0 1 rfl rfl hG dX0_rowerKindFits_27 ?_
      refine r_iload (pc := 28) 3 rfl hG dX0_rowerKindFits_28 ?_
      refine r_iconst (pc := 30) (v := 1) (by decide) hG dX0_rowerKindFits_30 ?_
      refine r_bR hG (fun r6 e8 => ?_)
      refine r_callVi (pc := 31) (As := [.int v4, .int 1]) (c_Ta_cell X N v1 v4 1 σ hv1 r6 e8) (wsOf_at hv1 (by decide) rfl) rfl mfX0_40_X9_cell hyVX9_cell (by decide) (by decide) rfl (Nat.le_of_ble_eq_true rfl) hG dX0_rowerKindFits_31 rfl (fun n7 => ?_)
      refine r_aload_n (pc := 34) 0 1 rfl rfl hG dX0_rowerKindFits_34 ?_
      refine r_iload (pc := 35) 3 rfl hG dX0_rowerKindFits_35 ?_
      refine r_iconst (pc := 37) (v := 2) (by decide) hG dX0_rowerKindFits_37 ?_
      refine r_bR hG (fun r9 e11 => ?_)
      refine r_callVi (pc := 38) (As := [.int v4, .int 2]) (c_Ta_cell X N v1 v4 2 σ hv1 r9 e11) (wsOf_at hv1 (by decide) rfl) rfl mfX0_40_X9_cell hyVX9_cell (by decide) (by decide) rfl (Nat.le_of_ble_eq_true rfl) hG dX0_rowerKindFits_38 rfl (fun n10 => ?_)
      refine r_aload_n (pc := 41) 0 1 rfl rfl hG dX0_rowerKindFits_41 ?_
      refine r_iload (pc := 42) 3 rfl hG dX0_rowerKindFits_42 ?_
      refine r_iconst (pc := 44) (v := 3) (by decide) hG dX0_rowerKindFits_44 ?_
      refine r_bR hG (fun r12 e14 => ?_)
      refine r_callVi (pc := 45) (As := [.int v4, .int 3]) (c_Ta_cell X N v1 v4 3 σ hv1 r12 e14) (wsOf_at hv1 (by decide) rfl) rfl mfX0_40_X9_cell hyVX9_cell (by decide) (by decide) rfl (Nat.le_of_ble_eq_true rfl) hG dX0_rowerKindFits_45 rfl (fun n13 => ?_)
      refine r_callSi (pc := 48) (As := [.int v3, .int r6, .int r9, .int r12]) (c_Ro_toldBy X v3 r6 r9 r12 σ) mfX0_44_X7_toldBy hySX7_toldBy (by decide) (by decide) rfl (Nat.le_of_ble_eq_true rfl) hG dX0_rowerKindFits_48 rfl (fun n16 => ?_)
      refine r_bI hG (fun x18 => ?_)
      refine r_istore (pc := 51) (lv' := [(5, .int x18), (1, .ref (X.2.1 + v1)), (2, .int v2), (3, .int v3), (4, .int v4)]) (by decide) rfl hG dX0_rowerKindFits_51 ?_
      refine r_iload (pc := 53) 0 rfl hG dX0_rowerKindFits_53 ?_
      refine r_aload_n (pc := 55) 1 1 rfl rfl hG dX0_rowerKindFits_55 ?_
      refine r_iload (pc := 56) 4 rfl hG dX0_rowerKindFits_56 ?_
      refine r_iconst (pc := 58) (v := 4) (by decide) hG dX0_rowerKindFits_58 ?_
      refine r_bR hG (fun r19 e21 => ?_)
      refine r_callVi (pc := 59) (As := [.int v4, .int 4]) (c_Ta_cell X N v1 v4 4 σ hv1 r19 e21) (wsOf_at hv1 (by decide) rfl) rfl mfX0_40_X9_cell hyVX9_cell (by decide) (by decide) rfl (Nat.le_of_ble_eq_true rfl) hG dX0_rowerKindFits_59 rfl (fun n20 => ?_)
      refine r_icmp_eq (pc := 62) (tgt := 67) (by decide) hG dX0_rowerKindFits_62 (fun h22 => ?_) (fun h22 => ?_)
      · exact r_sub [1, 2, 3, 4] rfl hG (w_Gs_rowerKindFits_J67 N hG hK3 v1 v2 v3 v4 hv1)
      · refine r_iconst (pc := 65) (v := 0) (by decide) hG dX0_rowerKindFits_65 ?_
        exact r_zret (pc := 66) rvN_b0 rfl hG dX0_rowerKindFits_66
    · refine r_goto (pc := 23) (tgt := 67) (by decide) hG dX0_rowerKindFits_23 ?_
      exact w_Gs_rowerKindFits_J67 N hG hK3 v1 v2 v3 v4 hv1
set_option maxRecDepth 4000 in
theorem w_Gs_rowerKindFits_L3 {σ : St} {X : Cx} {G : GT Int32} (N : Nat) (hG : IsG X RX0 cX0_rowerKindFits 6 7 (some .boolean) (oI σ) G) : ∀ (n : Nat), ∀ (v1 : Nat) (v2 : Int32) (v3 : Int32) (v4 : Int32), shp v1 = 9 → G (Gs_rowerKindFits_L3 N n v1 v2 v3 v4 σ) σ 3 [(1, .ref (X.2.1 + v1)), (2, .int v2), (3, .int v3), (4, .int v4)] [] := by
  intro n
  induction n with
  | zero => intro v1 v2 v3 v4 hv1; exact r_none hG
  | succ n ih => intro v1 v2 v3 v4 hv1; exact w_Gs_rowerKindFits_L3B N hG ih v1 v2 v3 v4 hv1
set_option maxRecDepth 4000 in
theorem c_Gs_rowerKindFits (X : Cx) (N : Nat) (v1 : Nat) (v2 : Int32) (v3 : Int32) (σ : St) (hv1 : shp v1 = 9) (r : Int32) (hE : Gs_rowerKindFits N v1 v2 v3 σ = some r) : Ctr X yX0_rowerKindFits cX0_rowerKindFits 6 (some .boolean) 7 [.ref (X.2.1 + 64), .ref (X.2.1 + v1), .int v2, .int v3] σ (some (.int r)) σ := by
  refine Ctr.of (out := (oI σ)) (E := Gs_rowerKindFits N v1 v2 v3 σ) rfl (Nat.le_of_ble_eq_true rfl) (fun G hG => ?_) r hE
  unfold Gs_rowerKindFits
  refine r_iconst (pc := 0) (v := 0) (by decide) hG dX0_rowerKindFits_0 ?_
  refine r_istore (pc := 1) (lv' := [(4, .int 0), (0, .ref (X.2.1 + 64)), (1, .ref (X.2.1 + v1)), (2, .int v2), (3, .int v3)]) (by decide) rfl hG dX0_rowerKindFits_1 ?_
  exact r_sub [2, 3, 4, 0] rfl hG (w_Gs_rowerKindFits_L3 N hG N v1 v2 v3 0 hv1)
set_option maxRecDepth 4000 in
theorem w_Gs_rowerKindsLeft_J33 {σ : St} {X : Cx} {G : GT Int32} (N : Nat) (hG : IsG X RX0 cX0_rowerKindsLeft 5 8 (some .int) (oI σ) G) {K5 : Nat → Int32 → Int32 → Int32 → St → Option Int32} (hK5 : ∀ (v1 : Nat) (v2 : Int32) (v3 : Int32) (v4 : Int32), shp v1 = 4 → G (K5 v1 v2 v3 v4 σ) σ 5 [(0, .ref (X.2.1 + 64)), (1, .ref (X.2.1 + v1)), (2, .int v2), (3, .int v3), (4, .int v4)] []) (v1 : Nat) (v2 : Int32) (v3 : Int32) (v4 : Int32) (hv1 : shp v1 = 4) : G (Gs_rowerKindsLeft_J33 N K5 v1 v2 v3 v4 σ) σ 33 [(0, .ref (X.2.1 + 64)), (1, .ref (X.2.1 + v1)), (2, .int v2), (3, .int v3), (4, .int v4)] [] := by
  unfold Gs_rowerKindsLeft_J33
  refine r_bIinc (pc := 33) (lv' := fun x6 => [(4, .int x6), (0, .ref (X.2.1 + 64)), (1, .ref (X.2.1 + v1)), (2, .int v2), (3, .int v3)]) 4 rfl rfl (by decide) (fun _ => rfl) hG dX0_rowerKindsLeft_33 (fun x6 => ?_)
  refine r_goto (pc := 36) (tgt := 5) (by decide) hG dX0_rowerKindsLeft_36 ?_
  exact r_sub [1, 2, 3, 4, 0] rfl hG (hK5 v1 v2 v3 x6 hv1)
set_option maxRecDepth 4000 in
theorem w_Gs_rowerKindsLeft_L5B {σ : St} {X : Cx} {G : GT Int32} (N : Nat) (hG : IsG X RX0 cX0_rowerKindsLeft 5 8 (some .int) (oI σ) G) {K5 : Nat → Int32 → Int32 → Int32 → St → Option Int32} (hK5 : ∀ (v1 : Nat) (v2 : Int32) (v3 : Int32) (v4 : Int32), shp v1 = 4 → G (K5 v1 v2 v3 v4 σ) σ 5 [(0, .ref (X.2.1 + 64)), (1, .ref (X.2.1 + v1)), (2, .int v2), (3, .int v3), (4, .int v4)] []) (v1 : Nat) (v2 : Int32) (v3 : Int32) (v4 : Int32) (hv1 : shp v1 = 4) : G (Gs_rowerKindsLeft_L5B N K5 v1 v2 v3 v4 σ) σ 5 [(0, .ref (X.2.1 + 64)), (1, .ref (X.2.1 + v1)), (2, .int v2), (3, .int v3), (4, .int v4)] [] := by
  unfold Gs_rowerKindsLeft_L5B
  refine r_iload (pc := 5) 4 rfl hG dX0_rowerKindsLeft_5 ?_
  refine r_bipush (pc := 7) (v := 6) (by decide) hG dX0_rowerKindsLeft_7 ?_
  refine r_icmp_ge (pc := 9) (tgt := 39) (by decide) hG dX0_rowerKindsLeft_9 (fun h1 => ?_) (fun h1 => ?_)
  · refine r_iload_n (pc := 39) 3 3 rfl rfl hG dX0_rowerKindsLeft_39 ?_
    exact r_iret (pc := 40) rfl hG dX0_rowerKindsLeft_40
  · refine r_aload_n (pc := 12) 0 0 rfl rfl hG dX0_rowerKindsLeft_12 ?_
    refine r_aload_n (pc := 13) 1 1 rfl rfl hG dX0_rowerKindsLeft_13 ?_
    refine gf4_8 (pc := 14) (i := v1) hv1 lk247 hG dX0_rowerKindsLeft_14 ?_
    refine r_iload_n (pc := 17) 2 2 rfl rfl hG dX0_rowerKindsLeft_17 ?_
    refine r_iload (pc := 18) 4 rfl hG dX0_rowerKindsLeft_18 ?_
    refine r_bR hG (fun r2 e4 => ?_)
    refine r_callVi (pc := 20) (As := [.ref (X.2.1 + (v1 + 9)), .int v2, .int v4]) (c_Gs_rowerKindFits X N (v1 + 9) v2 v4 σ (sh4_9 hv1) r2 e4) (wsOf_at (rfl : shp 64 = 0) (by decide) rfl) rfl mfX0_64_X0_rowerKindFits hyVX0_rowerKindFits (by decide) (by decide) rfl (Nat.le_of_ble_eq_true rfl) hG dX0_rowerKindsLeft_20 rfl (fun n3 => ?_)
    refine r_if_eq (pc := 23) (tgt := 33) (by decide) hG dX0_rowerKindsLeft_23 (fun h5 => ?_) (fun h5 => ?_)
    · exact w_Gs_rowerKindsLeft_J33 N hG hK5 v1 v2 v3 v4 hv1
    · refine r_iload_n (pc := 26) 3 3 rfl rfl hG dX0_rowerKindsLeft_26 ?_
      refine r_iconst (pc := 27) (v := 1) (by decide) hG dX0_rowerKindsLeft_27 ?_
      refine r_iload (pc := 28) 4 rfl hG dX0_rowerKindsLeft_28 ?_
      refine r_ishl (pc := 30) hG dX0_rowerKindsLeft_30 ?_
      refine r_ior (pc := 31) hG dX0_rowerKindsLeft_31 ?_
      refine r_bI hG (fun x7 => ?_)
      refine r_istore_n (pc := 32) (lv' := [(3, .int x7), (0, .ref (X.2.1 + 64)), (1, .ref (X.2.1 + v1)), (2, .int v2), (4, .int v4)]) 3 rfl (by decide) rfl hG dX0_rowerKindsLeft_32 ?_
      exact r_sub [1, 2, 3, 0, 4] rfl hG (w_Gs_rowerKindsLeft_J33 N hG hK5 v1 v2 x7 v4 hv1)
set_option maxRecDepth 4000 in
theorem w_Gs_rowerKindsLeft_L5 {σ : St} {X : Cx} {G : GT Int32} (N : Nat) (hG : IsG X RX0 cX0_rowerKindsLeft 5 8 (some .int) (oI σ) G) : ∀ (n : Nat), ∀ (v1 : Nat) (v2 : Int32) (v3 : Int32) (v4 : Int32), shp v1 = 4 → G (Gs_rowerKindsLeft_L5 N n v1 v2 v3 v4 σ) σ 5 [(0, .ref (X.2.1 + 64)), (1, .ref (X.2.1 + v1)), (2, .int v2), (3, .int v3), (4, .int v4)] [] := by
  intro n
  induction n with
  | zero => intro v1 v2 v3 v4 hv1; exact r_none hG
  | succ n ih => intro v1 v2 v3 v4 hv1; exact w_Gs_rowerKindsLeft_L5B N hG ih v1 v2 v3 v4 hv1
set_option maxRecDepth 4000 in
theorem c_Gs_rowerKindsLeft (X : Cx) (N : Nat) (v1 : Nat) (v2 : Int32) (σ : St) (hv1 : shp v1 = 4) (r : Int32) (hE : Gs_rowerKindsLeft N v1 v2 σ = some r) : Ctr X yX0_rowerKindsLeft cX0_rowerKindsLeft 5 (some .int) 8 [.ref (X.2.1 + 64), .ref (X.2.1 + v1), .int v2] σ (some (.int r)) σ := by
  refine Ctr.of (out := (oI σ)) (E := Gs_rowerKindsLeft N v1 v2 σ) rfl (Nat.le_of_ble_eq_true rfl) (fun G hG => ?_) r hE
  unfold Gs_rowerKindsLeft
  refine r_iconst (pc := 0) (v := 0) (by decide) hG dX0_rowerKindsLeft_0 ?_
  refine r_istore_n (pc := 1) (lv' := [(3, .int 0), (0, .ref (X.2.1 + 64)), (1, .ref (X.2.1 + v1)), (2, .int v2)]) 3 rfl (by decide) rfl hG dX0_rowerKindsLeft_1 ?_
  refine r_iconst (pc := 2) (v := 0) (by decide) hG dX0_rowerKindsLeft_2 ?_
  refine r_istore (pc := 3) (lv' := [(4, .int 0), (3, .int 0), (0, .ref (X.2.1 + 64)), (1, .ref (X.2.1 + v1)), (2, .int v2)]) (by decide) rfl hG dX0_rowerKindsLeft_3 ?_
  exact r_sub [2, 3, 4, 1, 0] rfl hG (w_Gs_rowerKindsLeft_L5 N hG N v1 v2 0 0 hv1)
set_option maxRecDepth 4000 in
theorem c_Gs_startOver (X : Cx) (N : Nat) (σ : St) (σ1 : St) (hE : Gs_startOver N σ = some σ1) : Ctr X yX0_startOver cX0_startOver 1 none 1 [.ref (X.2.1 + 64)] σ none σ1 := by
  refine Ctr.of (out := oWV) (E := Gs_startOver N σ) rfl (Nat.le_of_ble_eq_true rfl) (fun G hG => ?_) σ1 hE
  unfold Gs_startOver
  refine r_aload_n (pc := 0) 0 0 rfl rfl hG dX0_startOver_0 ?_
  refine r_iconst (pc := 1) (v := (-1)) (by decide) hG dX0_startOver_1 ?_
  refine pf0_1 (pc := 2) lk360 hG dX0_startOver_2 ?_
  refine r_bS hG (fun s1 => ?_)
  refine r_aload_n (pc := 5) 0 0 rfl rfl hG dX0_startOver_5 ?_
  refine r_bipush (pc := 6) (v := 11) (by decide) hG dX0_startOver_6 ?_
  refine pf0_2 (pc := 8) lk361 hG dX0_startOver_8 ?_
  refine r_bS hG (fun s2 => ?_)
  exact r_vret (pc := 11) rfl hG dX0_startOver_11
set_option maxRecDepth 4000 in
theorem c_Gs_isOpen (X : Cx) (N : Nat) (σ : St) (r : Int32) (hE : Gs_isOpen N σ = some r) : Ctr X yX0_isOpen cX0_isOpen 1 (some .boolean) 1 [.ref (X.2.1 + 64)] σ (some (.int r)) σ := by
  refine Ctr.of (out := (oI σ)) (E := Gs_isOpen N σ) rfl (Nat.le_of_ble_eq_true rfl) (fun G hG => ?_) r hE
  unfold Gs_isOpen
  refine r_aload_n (pc := 0) 0 0 rfl rfl hG dX0_isOpen_0 ?_
  refine gf0_2 (pc := 1) lk361 hG dX0_isOpen_1 ?_
  refine r_iconst (pc := 4) (v := 1) (by decide) hG dX0_isOpen_4 ?_
  refine r_icmp_le (pc := 5) (tgt := 12) (by decide) hG dX0_isOpen_5 (fun h1 => ?_) (fun h1 => ?_)
  · refine r_iconst (pc := 12) (v := 0) (by decide) hG dX0_isOpen_12 ?_
    exact r_zret (pc := 13) rvN_b0 rfl hG dX0_isOpen_13
  · refine r_iconst (pc := 8) (v := 1) (by decide) hG dX0_isOpen_8 ?_
    refine r_goto (pc := 9) (tgt := 13) (by decide) hG dX0_isOpen_9 ?_
    exact r_zret (pc := 13) rvN_b1 rfl hG dX0_isOpen_13
set_option maxRecDepth 4000 in
theorem c_Gs_isIn (X : Cx) (v0 : Int32) (v1 : Int32) (σ : St) : Ctr X yX0_isIn cX0_isIn 2 (some .boolean) 1 [.int v0, .int v1] σ (some (.int (Gs_isIn v0 v1))) σ := by
  refine Ctr.of (out := (oI σ)) (E := some (Gs_isIn v0 v1)) rfl (Nat.le_of_ble_eq_true rfl) (fun G hG => ?_) _ rfl
  unfold Gs_isIn
  refine r_iload_n (pc := 0) 0 0 rfl rfl hG dX0_isIn_0 ?_
  refine r_iconst (pc := 1) (v := 1) (by decide) hG dX0_isIn_1 ?_
  refine r_iload_n (pc := 2) 1 1 rfl rfl hG dX0_isIn_2 ?_
  refine r_ishl (pc := 3) hG dX0_isIn_3 ?_
  refine r_iand (pc := 4) hG dX0_isIn_4 ?_
  refine r_if_eqS (pc := 5) (tgt := 12) (by decide) hG dX0_isIn_5 (fun h1 => ?_) (fun h1 => ?_)
  · refine r_iconst (pc := 12) (v := 0) (by decide) hG dX0_isIn_12 ?_
    exact r_zret (pc := 13) rvN_b0 rfl hG dX0_isIn_13
  · refine r_iconst (pc := 8) (v := 1) (by decide) hG dX0_isIn_8 ?_
    refine r_goto (pc := 9) (tgt := 13) (by decide) hG dX0_isIn_9 ?_
    exact r_zret (pc := 13) rvN_b1 rfl hG dX0_isIn_13
set_option maxRecDepth 4000 in
theorem w_Gs_largestCrowd_J66 {σ : St} {X : Cx} {G : GT Int32} (N : Nat) (hG : IsG X RX0 cX0_largestCrowd 6 6 (some .int) (oI σ) G) {K4 : Int32 → Int32 → Int32 → St → Option Int32} (hK4 : ∀ (v1 : Int32) (v2 : Int32) (v3 : Int32), G (K4 v1 v2 v3 σ) σ 4 [(0, .ref (X.2.1 + 64)), (1, .int v1), (2, .int v2), (3, .int v3)] []) (v1 : Int32) (v2 : Int32) (v3 : Int32) : G (Gs_largestCrowd_J66 N K4 v1 v2 v3 σ) σ 66 [(0, .ref (X.2.1 + 64)), (1, .int v1), (2, .int v2), (3, .int v3)] [] := by
  unfold Gs_largestCrowd_J66
  refine r_bIinc (pc := 66) (lv' := fun x6 => [(3, .int x6), (0, .ref (X.2.1 + 64)), (1, .int v1), (2, .int v2)]) 3 rfl rfl (by decide) (fun _ => rfl) hG dX0_largestCrowd_66 (fun x6 => ?_)
  refine r_goto (pc := 69) (tgt := 4) (by decide) hG dX0_largestCrowd_69 ?_
  exact r_sub [1, 2, 3, 0] rfl hG (hK4 v1 v2 x6)
set_option maxRecDepth 4000 in
theorem w_Gs_largestCrowd_J59 {σ : St} {X : Cx} {G : GT Int32} (N : Nat) (hG : IsG X RX0 cX0_largestCrowd 6 6 (some .int) (oI σ) G) {K4 : Int32 → Int32 → Int32 → St → Option Int32} (hK4 : ∀ (v1 : Int32) (v2 : Int32) (v3 : Int32), G (K4 v1 v2 v3 σ) σ 4 [(0, .ref (X.2.1 + 64)), (1, .int v1), (2, .int v2), (3, .int v3)] []) (v1 : Int32) (v2 : Int32) (v3 : Int32) (v4 : Int32) : G (Gs_largestCrowd_J59 N K4 v1 v2 v3 v4 σ) σ 59 [(0, .ref (X.2.1 + 64)), (1, .int v1), (2, .int v2), (3, .int v3), (4, .int v4)] [] := by
  unfold Gs_largestCrowd_J59
  refine r_iload_n (pc := 59) 2 2 rfl rfl hG dX0_largestCrowd_59 ?_
  refine r_iload (pc := 60) 4 rfl hG dX0_largestCrowd_60 ?_
  refine r_mmax (pc := 62) lk928 (by omega) (Nat.le_of_ble_eq_true rfl) hG dX0_largestCrowd_62 ?_
  refine r_bI hG (fun x5 => ?_)
  refine r_istore_n (pc := 65) (lv' := [(2, .int x5), (0, .ref (X.2.1 + 64)), (1, .int v1), (3, .int v3), (4, .int v4)]) 2 rfl (by decide) rfl hG dX0_largestCrowd_65 ?_
  exact r_sub [1, 2, 0, 3] rfl hG (w_Gs_largestCrowd_J66 N hG hK4 v1 x5 v3)
set_option maxRecDepth 4000 in
theorem w_Gs_largestCrowd_J53 {σ : St} {X : Cx} {G : GT Int32} (N : Nat) (hG : IsG X RX0 cX0_largestCrowd 6 6 (some .int) (oI σ) G) {K4 : Int32 → Int32 → Int32 → St → Option Int32} {K28 : Int32 → Int32 → Int32 → Int32 → Int32 → St → Option Int32} (hK4 : ∀ (v1 : Int32) (v2 : Int32) (v3 : Int32), G (K4 v1 v2 v3 σ) σ 4 [(0, .ref (X.2.1 + 64)), (1, .int v1), (2, .int v2), (3, .int v3)] []) (hK28 : ∀ (v1 : Int32) (v2 : Int32) (v3 : Int32) (v4 : Int32) (v5 : Int32), G (K28 v1 v2 v3 v4 v5 σ) σ 28 [(0, .ref (X.2.1 + 64)), (1, .int v1), (2, .int v2), (3, .int v3), (4, .int v4), (5, .int v5)] []) (v1 : Int32) (v2 : Int32) (v3 : Int32) (v4 : Int32) (v5 : Int32) : G (Gs_largestCrowd_J53 N K4 K28 v1 v2 v3 v4 v5 σ) σ 53 [(0, .ref (X.2.1 + 64)), (1, .int v1), (2, .int v2), (3, .int v3), (4, .int v4), (5, .int v5)] [] := by
  unfold Gs_largestCrowd_J53
  refine r_bIinc (pc := 53) (lv' := fun x10 => [(5, .int x10), (0, .ref (X.2.1 + 64)), (1, .int v1), (2, .int v2), (3, .int v3), (4, .int v4)]) 5 rfl rfl (by decide) (fun _ => rfl) hG dX0_largestCrowd_53 (fun x10 => ?_)
  refine r_goto (pc := 56) (tgt := 28) (by decide) hG dX0_largestCrowd_56 ?_
  exact r_sub [1, 2, 3, 4, 5, 0] rfl hG (hK28 v1 v2 v3 v4 x10)
set_option maxRecDepth 4000 in
theorem w_Gs_largestCrowd_L28B {σ : St} {X : Cx} {G : GT Int32} (N : Nat) (hG : IsG X RX0 cX0_largestCrowd 6 6 (some .int) (oI σ) G) {K4 : Int32 → Int32 → Int32 → St → Option Int32} {K28 : Int32 → Int32 → Int32 → Int32 → Int32 → St → Option Int32} (hK4 : ∀ (v1 : Int32) (v2 : Int32) (v3 : Int32), G (K4 v1 v2 v3 σ) σ 4 [(0, .ref (X.2.1 + 64)), (1, .int v1), (2, .int v2), (3, .int v3)] []) (hK28 : ∀ (v1 : Int32) (v2 : Int32) (v3 : Int32) (v4 : Int32) (v5 : Int32), G (K28 v1 v2 v3 v4 v5 σ) σ 28 [(0, .ref (X.2.1 + 64)), (1, .int v1), (2, .int v2), (3, .int v3), (4, .int v4), (5, .int v5)] []) (v1 : Int32) (v2 : Int32) (v3 : Int32) (v4 : Int32) (v5 : Int32) : G (Gs_largestCrowd_L28B N K4 K28 v1 v2 v3 v4 v5 σ) σ 28 [(0, .ref (X.2.1 + 64)), (1, .int v1), (2, .int v2), (3, .int v3), (4, .int v4), (5, .int v5)] [] := by
  unfold Gs_largestCrowd_L28B
  refine r_iload (pc := 28) 5 rfl hG dX0_largestCrowd_28 ?_
  refine r_iload_n (pc := 30) 1 1 rfl rfl hG dX0_largestCrowd_30 ?_
  refine r_icmp_ge (pc := 31) (tgt := 59) (by decide) hG dX0_largestCrowd_31 (fun h4 => ?_) (fun h4 => ?_)
  · exact r_sub [0, 1, 2, 3, 4] rfl hG (w_Gs_largestCrowd_J59 N hG hK4 v1 v2 v3 v4)
  · refine r_aload_n (pc := 34) 0 0 rfl rfl hG dX0_largestCrowd_34 ?_
    refine gf0_0 (pc := 35) lk359 hG dX0_largestCrowd_35 ?_
    refine r_iload (pc := 38) 5 rfl hG dX0_largestCrowd_38 ?_
    refine r_ck hG (fun h7 => ?_)
    refine r_iald (pc := 40) (i := 65) (rfl : shp 65 = 14) rfl h7 hG dX0_largestCrowd_40 ?_
    refine r_aload_n (pc := 41) 0 0 rfl rfl hG dX0_largestCrowd_41 ?_
    refine gf0_0 (pc := 42) lk359 hG dX0_largestCrowd_42 ?_
    refine r_iload_n (pc := 45) 3 3 rfl rfl hG dX0_largestCrowd_45 ?_
    refine r_ck hG (fun h8 => ?_)
    refine r_iald (pc := 46) (i := 65) (rfl : shp 65 = 14) rfl h8 hG dX0_largestCrowd_46 ?_
    refine r_icmp_ne (pc := 47) (tgt := 53) (by decide) hG dX0_largestCrowd_47 (fun h9 => ?_) (fun h9 => ?_)
    · exact w_Gs_largestCrowd_J53 N hG hK4 hK28 v1 v2 v3 v4 v5
    · refine r_bIinc (pc := 50) (lv' := fun x11 => [(4, .int x11), (0, .ref (X.2.1 + 64)), (1, .int v1), (2, .int v2), (3, .int v3), (5, .int v5)]) 4 rfl rfl (by decide) (fun _ => rfl) hG dX0_largestCrowd_50 (fun x11 => ?_)
      exact r_sub [1, 2, 3, 4, 0, 5] rfl hG (w_Gs_largestCrowd_J53 N hG hK4 hK28 v1 v2 v3 x11 v5)
set_option maxRecDepth 4000 in
theorem w_Gs_largestCrowd_L28 {σ : St} {X : Cx} {G : GT Int32} (N : Nat) (hG : IsG X RX0 cX0_largestCrowd 6 6 (some .int) (oI σ) G) {K4 : Int32 → Int32 → Int32 → St → Option Int32} (hK4 : ∀ (v1 : Int32) (v2 : Int32) (v3 : Int32), G (K4 v1 v2 v3 σ) σ 4 [(0, .ref (X.2.1 + 64)), (1, .int v1), (2, .int v2), (3, .int v3)] []) : ∀ (n : Nat), ∀ (v1 : Int32) (v2 : Int32) (v3 : Int32) (v4 : Int32) (v5 : Int32), G (Gs_largestCrowd_L28 N K4 n v1 v2 v3 v4 v5 σ) σ 28 [(0, .ref (X.2.1 + 64)), (1, .int v1), (2, .int v2), (3, .int v3), (4, .int v4), (5, .int v5)] [] := by
  intro n
  induction n with
  | zero => intro v1 v2 v3 v4 v5; exact r_none hG
  | succ n ih => intro v1 v2 v3 v4 v5; exact w_Gs_largestCrowd_L28B N hG hK4 ih v1 v2 v3 v4 v5
set_option maxRecDepth 4000 in
theorem w_Gs_largestCrowd_L4B {σ : St} {X : Cx} {G : GT Int32} (N : Nat) (hG : IsG X RX0 cX0_largestCrowd 6 6 (some .int) (oI σ) G) {K4 : Int32 → Int32 → Int32 → St → Option Int32} (hK4 : ∀ (v1 : Int32) (v2 : Int32) (v3 : Int32), G (K4 v1 v2 v3 σ) σ 4 [(0, .ref (X.2.1 + 64)), (1, .int v1), (2, .int v2), (3, .int v3)] []) (v1 : Int32) (v2 : Int32) (v3 : Int32) : G (Gs_largestCrowd_L4B N K4 v1 v2 v3 σ) σ 4 [(0, .ref (X.2.1 + 64)), (1, .int v1), (2, .int v2), (3, .int v3)] [] := by
  unfold Gs_largestCrowd_L4B
  refine r_iload_n (pc := 4) 3 3 rfl rfl hG dX0_largestCrowd_4 ?_
  refine r_iload_n (pc := 5) 1 1 rfl rfl hG dX0_largestCrowd_5 ?_
  refine r_icmp_ge (pc := 6) (tgt := 72) (by decide) hG dX0_largestCrowd_6 (fun h1 => ?_) (fun h1 => ?_)
  · refine r_iload_n (pc := 72) 2 2 rfl rfl hG dX0_largestCrowd_72 ?_
    exact r_iret (pc := 73) rfl hG dX0_largestCrowd_73
  · refine r_aload_n (pc := 9) 0 0 rfl rfl hG dX0_largestCrowd_9 ?_
    refine gf0_0 (pc := 10) lk359 hG dX0_largestCrowd_10 ?_
    refine r_iload_n (pc := 13) 3 3 rfl rfl hG dX0_largestCrowd_13 ?_
    refine r_ck hG (fun h2 => ?_)
    refine r_iald (pc := 14) (i := 65) (rfl : shp 65 = 14) rfl h2 hG dX0_largestCrowd_14 ?_
    refine r_iconst (pc := 15) (v := (-1)) (by decide) hG dX0_largestCrowd_15 ?_
    refine r_icmp_ne (pc := 16) (tgt := 22) (by decide) hG dX0_largestCrowd_16 (fun h3 => ?_) (fun h3 => ?_)
    · refine r_iconst (pc := 22) (v := 0) (by decide) hG dX0_largestCrowd_22 ?_
      refine r_istore (pc := 23) (lv' := [(4, .int 0), (0, .ref (X.2.1 + 64)), (1, .int v1), (2, .int v2), (3, .int v3)]) (by decide) rfl hG dX0_largestCrowd_23 ?_
      refine r_iload_n (pc := 25) 4 3 rfl rfl hG dX0_largestCrowd_25 ?_
      refine r_istore (pc := 26) (lv' := [(5, .int v3), (4, .int 0), (0, .ref (X.2.1 + 64)), (1, .int v1), (2, .int v2), (3, .int v3)]) (by decide) rfl hG dX0_largestCrowd_26 ?_
      exact r_sub [2, 3, 4, 5, 1, 0] rfl hG (w_Gs_largestCrowd_L28 N hG hK4 N v1 v2 v3 0 v3)
    · refine r_goto (pc := 19) (tgt := 66) (by decide) hG dX0_largestCrowd_19 ?_
      exact w_Gs_largestCrowd_J66 N hG hK4 v1 v2 v3
set_option maxRecDepth 4000 in
theorem w_Gs_largestCrowd_L4 {σ : St} {X : Cx} {G : GT Int32} (N : Nat) (hG : IsG X RX0 cX0_largestCrowd 6 6 (some .int) (oI σ) G) : ∀ (n : Nat), ∀ (v1 : Int32) (v2 : Int32) (v3 : Int32), G (Gs_largestCrowd_L4 N n v1 v2 v3 σ) σ 4 [(0, .ref (X.2.1 + 64)), (1, .int v1), (2, .int v2), (3, .int v3)] [] := by
  intro n
  induction n with
  | zero => intro v1 v2 v3; exact r_none hG
  | succ n ih => intro v1 v2 v3; exact w_Gs_largestCrowd_L4B N hG ih v1 v2 v3
set_option maxRecDepth 4000 in
theorem c_Gs_largestCrowd (X : Cx) (N : Nat) (v1 : Int32) (σ : St) (r : Int32) (hE : Gs_largestCrowd N v1 σ = some r) : Ctr X yX0_largestCrowd cX0_largestCrowd 6 (some .int) 6 [.ref (X.2.1 + 64), .int v1] σ (some (.int r)) σ := by
  refine Ctr.of (out := (oI σ)) (E := Gs_largestCrowd N v1 σ) rfl (Nat.le_of_ble_eq_true rfl) (fun G hG => ?_) r hE
  unfold Gs_largestCrowd
  refine r_iconst (pc := 0) (v := 0) (by decide) hG dX0_largestCrowd_0 ?_
  refine r_istore_n (pc := 1) (lv' := [(2, .int 0), (0, .ref (X.2.1 + 64)), (1, .int v1)]) 2 rfl (by decide) rfl hG dX0_largestCrowd_1 ?_
  refine r_iconst (pc := 2) (v := 0) (by decide) hG dX0_largestCrowd_2 ?_
  refine r_istore_n (pc := 3) (lv' := [(3, .int 0), (2, .int 0), (0, .ref (X.2.1 + 64)), (1, .int v1)]) 3 rfl (by decide) rfl hG dX0_largestCrowd_3 ?_
  exact r_sub [2, 3, 1, 0] rfl hG (w_Gs_largestCrowd_L4 N hG N v1 0 0)
set_option maxRecDepth 4000 in
theorem c_Gs_weigh (X : Cx) (N : Nat) (v1 : Int32) (v2 : Int32) (σ : St) (σ1 : St) (hE : Gs_weigh N v1 v2 σ = some σ1) : Ctr X yX0_weigh cX0_weigh 4 none 7 [.ref (X.2.1 + 64), .int v1, .int v2] σ none σ1 := by
  refine Ctr.of (out := oWV) (E := Gs_weigh N v1 v2 σ) rfl (Nat.le_of_ble_eq_true rfl) (fun G hG => ?_) σ1 hE
  unfold Gs_weigh
  refine r_aload_n (pc := 0) 0 0 rfl rfl hG dX0_weigh_0 ?_
  refine r_iload_n (pc := 1) 2 2 rfl rfl hG dX0_weigh_1 ?_
  refine r_bR hG (fun r1 e3 => ?_)
  refine r_callVi (pc := 2) (As := [.int v2]) (c_Gs_largestCrowd X N v2 σ r1 e3) (wsOf_at (rfl : shp 64 = 0) (by decide) rfl) rfl mfX0_111_X0_largestCrowd hyVX0_largestCrowd (by decide) (by decide) rfl (Nat.le_of_ble_eq_true rfl) hG dX0_weigh_2 rfl (fun n2 => ?_)
  refine r_istore_n (pc := 5) (lv' := [(3, .int r1), (0, .ref (X.2.1 + 64)), (1, .int v1), (2, .int v2)]) 3 rfl (by decide) rfl hG dX0_weigh_5 ?_
  refine r_iload_n (pc := 6) 0 3 rfl rfl hG dX0_weigh_6 ?_
  refine r_if_le (pc := 7) (tgt := 28) (by decide) hG dX0_weigh_7 (fun h4 => ?_) (fun h4 => ?_)
  · exact r_vret (pc := 28) rfl hG dX0_weigh_28
  · refine r_iload_n (pc := 10) 0 3 rfl rfl hG dX0_weigh_10 ?_
    refine r_aload_n (pc := 11) 1 0 rfl rfl hG dX0_weigh_11 ?_
    refine gf0_2 (pc := 12) lk361 hG dX0_weigh_12 ?_
    refine r_icmp_ge (pc := 15) (tgt := 28) (by decide) hG dX0_weigh_15 (fun h5 => ?_) (fun h5 => ?_)
    · exact r_vret (pc := 28) rfl hG dX0_weigh_28
    · refine r_aload_n (pc := 18) 1 0 rfl rfl hG dX0_weigh_18 ?_
      refine r_iload_n (pc := 19) 2 1 rfl rfl hG dX0_weigh_19 ?_
      refine pf0_1 (pc := 20) lk360 hG dX0_weigh_20 ?_
      refine r_bS hG (fun s6 => ?_)
      refine r_aload_n (pc := 23) 1 0 rfl rfl hG dX0_weigh_23 ?_
      refine r_iload_n (pc := 24) 0 3 rfl rfl hG dX0_weigh_24 ?_
      refine pf0_2 (pc := 25) lk361 hG dX0_weigh_25 ?_
      refine r_bS hG (fun s7 => ?_)
      exact r_vret (pc := 28) rfl hG dX0_weigh_28
set_option maxRecDepth 4000 in
theorem w_Gs_bestTelling_J129 {X : Cx} {G : GT (Int32 × St)} (N : Nat) (hG : IsG X RX0 cX0_bestTelling 8 9 (some .int) oWI G) (σ : St) : G (Gs_bestTelling_J129 N σ) σ 129 [(0, .ref (X.2.1 + 64))] [] := by
  unfold Gs_bestTelling_J129
  refine r_aload_n (pc := 129) 0 0 rfl rfl hG dX0_bestTelling_129 ?_
  refine gf0_1 (pc := 130) lk360 hG dX0_bestTelling_130 ?_
  exact r_iret (pc := 133) rfl hG dX0_bestTelling_133
set_option maxRecDepth 4000 in
theorem w_Gs_bestTelling_J123 {X : Cx} {G : GT (Int32 × St)} (N : Nat) (hG : IsG X RX0 cX0_bestTelling 8 9 (some .int) oWI G) {K25 : Int32 → Int32 → Int32 → St → Option (Int32 × St)} (hK25 : ∀ (v3 : Int32) (v4 : Int32) (v5 : Int32) (s : St), G (K25 v3 v4 v5 s) s 25 [(0, .ref (X.2.1 + 64)), (3, .int v3), (4, .int v4), (5, .int v5)] []) (v3 : Int32) (v4 : Int32) (v5 : Int32) (σ : St) : G (Gs_bestTelling_J123 N K25 v3 v4 v5 σ) σ 123 [(0, .ref (X.2.1 + 64)), (3, .int v3), (4, .int v4), (5, .int v5)] [] := by
  unfold Gs_bestTelling_J123
  refine r_bIinc (pc := 123) (lv' := fun x16 => [(5, .int x16), (0, .ref (X.2.1 + 64)), (3, .int v3), (4, .int v4)]) 3 rfl rfl (by decide) (fun _ => rfl) hG dX0_bestTelling_123 (fun x16 => ?_)
  refine r_goto (pc := 126) (tgt := 25) (by decide) hG dX0_bestTelling_126 ?_
  exact r_sub [1, 2, 3, 0] rfl hG (hK25 v3 v4 x16 σ)
set_option maxRecDepth 4000 in
theorem w_Gs_bestTelling_J103 {X : Cx} {G : GT (Int32 × St)} (N : Nat) (hG : IsG X RX0 cX0_bestTelling 8 9 (some .int) oWI G) {K25 : Int32 → Int32 → Int32 → St → Option (Int32 × St)} {K42 : Int32 → Int32 → Int32 → Int32 → St → Option (Int32 × St)} (hK25 : ∀ (v3 : Int32) (v4 : Int32) (v5 : Int32) (s : St), G (K25 v3 v4 v5 s) s 25 [(0, .ref (X.2.1 + 64)), (3, .int v3), (4, .int v4), (5, .int v5)] []) (hK42 : ∀ (v3 : Int32) (v4 : Int32) (v5 : Int32) (v6 : Int32) (s : St), G (K42 v3 v4 v5 v6 s) s 42 [(0, .ref (X.2.1 + 64)), (3, .int v3), (4, .int v4), (5, .int v5), (6, .int v6)] []) (v3 : Int32) (v4 : Int32) (v5 : Int32) (v6 : Int32) (σ : St) : G (Gs_bestTelling_J103 N K25 K42 v3 v4 v5 v6 σ) σ 103 [(0, .ref (X.2.1 + 64)), (3, .int v3), (4, .int v4), (5, .int v5), (6, .int v6)] [] := by
  unfold Gs_bestTelling_J103
  refine r_aload_n (pc := 103) 0 0 rfl rfl hG dX0_bestTelling_103 ?_
  refine r_bipush (pc := 104) (v := 100) (by decide) hG dX0_bestTelling_104 ?_
  refine r_iload (pc := 106) 3 rfl hG dX0_bestTelling_106 ?_
  refine r_imul (pc := 108) hG dX0_bestTelling_108 ?_
  refine r_iload (pc := 109) 4 rfl hG dX0_bestTelling_109 ?_
  refine r_iadd (pc := 111) hG dX0_bestTelling_111 ?_
  refine r_bipush (pc := 112) (v := 10) (by decide) hG dX0_bestTelling_112 ?_
  refine r_bR hG (fun s23 e25 => ?_)
  refine r_callVv (pc := 114) (As := [.int ((100 * v5) + v6), .int 10]) (c_Gs_weigh X N ((100 * v5) + v6) 10 σ s23 e25) (wsOf_at (rfl : shp 64 = 0) (by decide) rfl) rfl mfX0_82_X0_weigh hyVX0_weigh (by decide) (by decide) rfl (Nat.le_of_ble_eq_true rfl) hG dX0_bestTelling_114 rfl (fun n24 => ?_)
  refine r_bIinc (pc := 117) (lv' := fun x26 => [(6, .int x26), (0, .ref (X.2.1 + 64)), (3, .int v3), (4, .int v4), (5, .int v5)]) 4 rfl rfl (by decide) (fun _ => rfl) hG dX0_bestTelling_117 (fun x26 => ?_)
  refine r_goto (pc := 120) (tgt := 42) (by decide) hG dX0_bestTelling_120 ?_
  exact r_sub [1, 2, 3, 4, 0] rfl hG (hK42 v3 v4 v5 x26 s23)
set_option maxRecDepth 4000 in
theorem w_Gs_bestTelling_J96 {X : Cx} {G : GT (Int32 × St)} (N : Nat) (hG : IsG X RX0 cX0_bestTelling 8 9 (some .int) oWI G) {K25 : Int32 → Int32 → Int32 → St → Option (Int32 × St)} {K42 : Int32 → Int32 → Int32 → Int32 → St → Option (Int32 × St)} {K59 : Int32 → Int32 → Int32 → Int32 → Int32 → St → Option (Int32 × St)} (hK25 : ∀ (v3 : Int32) (v4 : Int32) (v5 : Int32) (s : St), G (K25 v3 v4 v5 s) s 25 [(0, .ref (X.2.1 + 64)), (3, .int v3), (4, .int v4), (5, .int v5)] []) (hK42 : ∀ (v3 : Int32) (v4 : Int32) (v5 : Int32) (v6 : Int32) (s : St), G (K42 v3 v4 v5 v6 s) s 42 [(0, .ref (X.2.1 + 64)), (3, .int v3), (4, .int v4), (5, .int v5), (6, .int v6)] []) (hK59 : ∀ (v3 : Int32) (v4 : Int32) (v5 : Int32) (v6 : Int32) (v7 : Int32) (s : St), G (K59 v3 v4 v5 v6 v7 s) s 59 [(0, .ref (X.2.1 + 64)), (3, .int v3), (4, .int v4), (5, .int v5), (6, .int v6), (7, .int v7)] []) (v3 : Int32) (v4 : Int32) (v5 : Int32) (v6 : Int32) (v7 : Int32) (w1 : Int32) (w2 : Int32) (σ : St) : G (Gs_bestTelling_J96 N K25 K42 K59 v3 v4 v5 v6 v7 w1 w2 σ) σ 96 [(0, .ref (X.2.1 + 64)), (3, .int v3), (4, .int v4), (5, .int v5), (6, .int v6), (7, .int v7)] [.int w2, .int w1, .ref (X.2.1 + 65)] := by
  unfold Gs_bestTelling_J96
  refine r_ck hG (fun h31 => ?_)
  refine r_iast (pc := 96) (i := 65) (rfl : shp 65 = 14) rfl h31 hG dX0_bestTelling_96 ?_
  refine r_bS hG (fun s32 => ?_)
  refine r_bIinc (pc := 97) (lv' := fun x33 => [(7, .int x33), (0, .ref (X.2.1 + 64)), (3, .int v3), (4, .int v4), (5, .int v5), (6, .int v6)]) 5 rfl rfl (by decide) (fun _ => rfl) hG dX0_bestTelling_97 (fun x33 => ?_)
  refine r_goto (pc := 100) (tgt := 59) (by decide) hG dX0_bestTelling_100 ?_
  exact r_sub [1, 2, 3, 4, 5, 0] rfl hG (hK59 v3 v4 v5 v6 x33 s32)
set_option maxRecDepth 4000 in
theorem w_Gs_bestTelling_L59B {X : Cx} {G : GT (Int32 × St)} (N : Nat) (hG : IsG X RX0 cX0_bestTelling 8 9 (some .int) oWI G) {K25 : Int32 → Int32 → Int32 → St → Option (Int32 × St)} {K42 : Int32 → Int32 → Int32 → Int32 → St → Option (Int32 × St)} {K59 : Int32 → Int32 → Int32 → Int32 → Int32 → St → Option (Int32 × St)} (hK25 : ∀ (v3 : Int32) (v4 : Int32) (v5 : Int32) (s : St), G (K25 v3 v4 v5 s) s 25 [(0, .ref (X.2.1 + 64)), (3, .int v3), (4, .int v4), (5, .int v5)] []) (hK42 : ∀ (v3 : Int32) (v4 : Int32) (v5 : Int32) (v6 : Int32) (s : St), G (K42 v3 v4 v5 v6 s) s 42 [(0, .ref (X.2.1 + 64)), (3, .int v3), (4, .int v4), (5, .int v5), (6, .int v6)] []) (hK59 : ∀ (v3 : Int32) (v4 : Int32) (v5 : Int32) (v6 : Int32) (v7 : Int32) (s : St), G (K59 v3 v4 v5 v6 v7 s) s 59 [(0, .ref (X.2.1 + 64)), (3, .int v3), (4, .int v4), (5, .int v5), (6, .int v6), (7, .int v7)] []) (v3 : Int32) (v4 : Int32) (v5 : Int32) (v6 : Int32) (v7 : Int32) (σ : St) : G (Gs_bestTelling_L59B N K25 K42 K59 v3 v4 v5 v6 v7 σ) σ 59 [(0, .ref (X.2.1 + 64)), (3, .int v3), (4, .int v4), (5, .int v5), (6, .int v6), (7, .int v7)] [] := by
  unfold Gs_bestTelling_L59B
  refine r_iload (pc := 59) 5 rfl hG dX0_bestTelling_59 ?_
  refine r_bipush (pc := 61) (v := 10) (by decide) hG dX0_bestTelling_61 ?_
  refine r_icmp_ge (pc := 63) (tgt := 103) (by decide) hG dX0_bestTelling_63 (fun h21 => ?_) (fun h21 => ?_)
  · exact r_sub [0, 1, 2, 3, 4] rfl hG (w_Gs_bestTelling_J103 N hG hK25 hK42 v3 v4 v5 v6 σ)
  · refine r_aload_n (pc := 66) 0 0 rfl rfl hG dX0_bestTelling_66 ?_
    refine gf0_0 (pc := 67) lk359 hG dX0_bestTelling_67 ?_
    refine r_iload (pc := 70) 5 rfl hG dX0_bestTelling_70 ?_
    refine r_iload_n (pc := 72) 1 3 rfl rfl hG dX0_bestTelling_72 ?_
    refine r_iload (pc := 73) 5 rfl hG dX0_bestTelling_73 ?_
    refine r_callSi (pc := 75) (As := [.int v3, .int v7]) (c_Gs_isIn X v3 v7 σ) mfX0_78_X0_isIn hySX0_isIn (by decide) (by decide) rfl (Nat.le_of_ble_eq_true rfl) hG dX0_bestTelling_75 rfl (fun n28 => ?_)
    refine r_if_eq (pc := 78) (tgt := 95) (by decide) hG dX0_bestTelling_78 (fun h30 => ?_) (fun h30 => ?_)
    · refine r_iconst (pc := 95) (v := (-1)) (by decide) hG dX0_bestTelling_95 ?_
      exact w_Gs_bestTelling_J96 N hG hK25 hK42 hK59 v3 v4 v5 v6 v7 v7 (-1) σ
    · refine r_iload (pc := 81) 2 rfl hG dX0_bestTelling_81 ?_
      refine r_iload (pc := 83) 5 rfl hG dX0_bestTelling_83 ?_
      refine r_iload (pc := 85) 3 rfl hG dX0_bestTelling_85 ?_
      refine r_iload (pc := 87) 4 rfl hG dX0_bestTelling_87 ?_
      refine r_callSi (pc := 89) (As := [.int v4, .int v7, .int v5, .int v6]) (c_Ro_toldBy X v4 v7 v5 v6 σ) mfX0_44_X7_toldBy hySX7_toldBy (by decide) (by decide) rfl (Nat.le_of_ble_eq_true rfl) hG dX0_bestTelling_89 rfl (fun n35 => ?_)
      refine r_goto (pc := 92) (tgt := 96) (by decide) hG dX0_bestTelling_92 ?_
      exact w_Gs_bestTelling_J96 N hG hK25 hK42 hK59 v3 v4 v5 v6 v7 v7 (Ro_toldBy v4 v7 v5 v6) σ
set_option maxRecDepth 4000 in
theorem w_Gs_bestTelling_L59 {X : Cx} {G : GT (Int32 × St)} (N : Nat) (hG : IsG X RX0 cX0_bestTelling 8 9 (some .int) oWI G) {K25 : Int32 → Int32 → Int32 → St → Option (Int32 × St)} {K42 : Int32 → Int32 → Int32 → Int32 → St → Option (Int32 × St)} (hK25 : ∀ (v3 : Int32) (v4 : Int32) (v5 : Int32) (s : St), G (K25 v3 v4 v5 s) s 25 [(0, .ref (X.2.1 + 64)), (3, .int v3), (4, .int v4), (5, .int v5)] []) (hK42 : ∀ (v3 : Int32) (v4 : Int32) (v5 : Int32) (v6 : Int32) (s : St), G (K42 v3 v4 v5 v6 s) s 42 [(0, .ref (X.2.1 + 64)), (3, .int v3), (4, .int v4), (5, .int v5), (6, .int v6)] []) : ∀ (n : Nat), ∀ (v3 : Int32) (v4 : Int32) (v5 : Int32) (v6 : Int32) (v7 : Int32) (σ : St), G (Gs_bestTelling_L59 N K25 K42 n v3 v4 v5 v6 v7 σ) σ 59 [(0, .ref (X.2.1 + 64)), (3, .int v3), (4, .int v4), (5, .int v5), (6, .int v6), (7, .int v7)] [] := by
  intro n
  induction n with
  | zero => intro v3 v4 v5 v6 v7 σ; exact r_none hG
  | succ n ih => intro v3 v4 v5 v6 v7 σ; exact w_Gs_bestTelling_L59B N hG hK25 hK42 ih v3 v4 v5 v6 v7 σ
set_option maxRecDepth 4000 in
theorem w_Gs_bestTelling_L42B {X : Cx} {G : GT (Int32 × St)} (N : Nat) (hG : IsG X RX0 cX0_bestTelling 8 9 (some .int) oWI G) {K25 : Int32 → Int32 → Int32 → St → Option (Int32 × St)} {K42 : Int32 → Int32 → Int32 → Int32 → St → Option (Int32 × St)} (hK25 : ∀ (v3 : Int32) (v4 : Int32) (v5 : Int32) (s : St), G (K25 v3 v4 v5 s) s 25 [(0, .ref (X.2.1 + 64)), (3, .int v3), (4, .int v4), (5, .int v5)] []) (hK42 : ∀ (v3 : Int32) (v4 : Int32) (v5 : Int32) (v6 : Int32) (s : St), G (K42 v3 v4 v5 v6 s) s 42 [(0, .ref (X.2.1 + 64)), (3, .int v3), (4, .int v4), (5, .int v5), (6, .int v6)] []) (v3 : Int32) (v4 : Int32) (v5 : Int32) (v6 : Int32) (σ : St) : G (Gs_bestTelling_L42B N K25 K42 v3 v4 v5 v6 σ) σ 42 [(0, .ref (X.2.1 + 64)), (3, .int v3), (4, .int v4), (5, .int v5), (6, .int v6)] [] := by
  unfold Gs_bestTelling_L42B
  refine r_iload (pc := 42) 4 rfl hG dX0_bestTelling_42 ?_
  refine r_bipush (pc := 44) (v := 30) (by decide) hG dX0_bestTelling_44 ?_
  refine r_icmp_gt (pc := 46) (tgt := 123) (by decide) hG dX0_bestTelling_46 (fun h15 => ?_) (fun h15 => ?_)
  · exact r_sub [0, 1, 2, 3] rfl hG (w_Gs_bestTelling_J123 N hG hK25 v3 v4 v5 σ)
  · refine r_aload_n (pc := 49) 0 0 rfl rfl hG dX0_bestTelling_49 ?_
    refine r_bR hG (fun r17 e19 => ?_)
    refine r_callVi (pc := 50) (As := []) (c_Gs_isOpen X N σ r17 e19) (wsOf_at (rfl : shp 64 = 0) (by decide) rfl) rfl mfX0_74_X0_isOpen hyVX0_isOpen (by decide) (by decide) rfl (Nat.le_of_ble_eq_true rfl) hG dX0_bestTelling_50 rfl (fun n18 => ?_)
    refine r_if_eq (pc := 53) (tgt := 123) (by decide) hG dX0_bestTelling_53 (fun h20 => ?_) (fun h20 => ?_)
    · exact r_sub [0, 1, 2, 3] rfl hG (w_Gs_bestTelling_J123 N hG hK25 v3 v4 v5 σ)
    · refine r_iconst (pc := 56) (v := 0) (by decide) hG dX0_bestTelling_56 ?_
      refine r_istore (pc := 57) (lv' := [(7, .int 0), (0, .ref (X.2.1 + 64)), (3, .int v3), (4, .int v4), (5, .int v5), (6, .int v6)]) (by decide) rfl hG dX0_bestTelling_57 ?_
      exact r_sub [1, 2, 3, 4, 5, 0] rfl hG (w_Gs_bestTelling_L59 N hG hK25 hK42 N v3 v4 v5 v6 0 σ)
set_option maxRecDepth 4000 in
theorem w_Gs_bestTelling_L42 {X : Cx} {G : GT (Int32 × St)} (N : Nat) (hG : IsG X RX0 cX0_bestTelling 8 9 (some .int) oWI G) {K25 : Int32 → Int32 → Int32 → St → Option (Int32 × St)} (hK25 : ∀ (v3 : Int32) (v4 : Int32) (v5 : Int32) (s : St), G (K25 v3 v4 v5 s) s 25 [(0, .ref (X.2.1 + 64)), (3, .int v3), (4, .int v4), (5, .int v5)] []) : ∀ (n : Nat), ∀ (v3 : Int32) (v4 : Int32) (v5 : Int32) (v6 : Int32) (σ : St), G (Gs_bestTelling_L42 N K25 n v3 v4 v5 v6 σ) σ 42 [(0, .ref (X.2.1 + 64)), (3, .int v3), (4, .int v4), (5, .int v5), (6, .int v6)] [] := by
  intro n
  induction n with
  | zero => intro v3 v4 v5 v6 σ; exact r_none hG
  | succ n ih => intro v3 v4 v5 v6 σ; exact w_Gs_bestTelling_L42B N hG hK25 ih v3 v4 v5 v6 σ
set_option maxRecDepth 4000 in
theorem w_Gs_bestTelling_L25B {X : Cx} {G : GT (Int32 × St)} (N : Nat) (hG : IsG X RX0 cX0_bestTelling 8 9 (some .int) oWI G) {K25 : Int32 → Int32 → Int32 → St → Option (Int32 × St)} (hK25 : ∀ (v3 : Int32) (v4 : Int32) (v5 : Int32) (s : St), G (K25 v3 v4 v5 s) s 25 [(0, .ref (X.2.1 + 64)), (3, .int v3), (4, .int v4), (5, .int v5)] []) (v3 : Int32) (v4 : Int32) (v5 : Int32) (σ : St) : G (Gs_bestTelling_L25B N K25 v3 v4 v5 σ) σ 25 [(0, .ref (X.2.1 + 64)), (3, .int v3), (4, .int v4), (5, .int v5)] [] := by
  unfold Gs_bestTelling_L25B
  refine r_iload (pc := 25) 3 rfl hG dX0_bestTelling_25 ?_
  refine r_bipush (pc := 27) (v := 9) (by decide) hG dX0_bestTelling_27 ?_
  refine r_icmp_gt (pc := 29) (tgt := 129) (by decide) hG dX0_bestTelling_29 (fun h10 => ?_) (fun h10 => ?_)
  · exact r_sub [0] rfl hG (w_Gs_bestTelling_J129 N hG σ)
  · refine r_aload_n (pc := 32) 0 0 rfl rfl hG dX0_bestTelling_32 ?_
    refine r_bR hG (fun r11 e13 => ?_)
    refine r_callVi (pc := 33) (As := []) (c_Gs_isOpen X N σ r11 e13) (wsOf_at (rfl : shp 64 = 0) (by decide) rfl) rfl mfX0_74_X0_isOpen hyVX0_isOpen (by decide) (by decide) rfl (Nat.le_of_ble_eq_true rfl) hG dX0_bestTelling_33 rfl (fun n12 => ?_)
    refine r_if_eq (pc := 36) (tgt := 129) (by decide) hG dX0_bestTelling_36 (fun h14 => ?_) (fun h14 => ?_)
    · exact r_sub [0] rfl hG (w_Gs_bestTelling_J129 N hG σ)
    · refine r_iconst (pc := 39) (v := 0) (by decide) hG dX0_bestTelling_39 ?_
      refine r_istore (pc := 40) (lv' := [(6, .int 0), (0, .ref (X.2.1 + 64)), (3, .int v3), (4, .int v4), (5, .int v5)]) (by decide) rfl hG dX0_bestTelling_40 ?_
      exact r_sub [1, 2, 3, 4, 0] rfl hG (w_Gs_bestTelling_L42 N hG hK25 N v3 v4 v5 0 σ)
set_option maxRecDepth 4000 in
theorem w_Gs_bestTelling_L25 {X : Cx} {G : GT (Int32 × St)} (N : Nat) (hG : IsG X RX0 cX0_bestTelling 8 9 (some .int) oWI G) : ∀ (n : Nat), ∀ (v3 : Int32) (v4 : Int32) (v5 : Int32) (σ : St), G (Gs_bestTelling_L25 N n v3 v4 v5 σ) σ 25 [(0, .ref (X.2.1 + 64)), (3, .int v3), (4, .int v4), (5, .int v5)] [] := by
  intro n
  induction n with
  | zero => intro v3 v4 v5 σ; exact r_none hG
  | succ n ih => intro v3 v4 v5 σ; exact w_Gs_bestTelling_L25B N hG ih v3 v4 v5 σ
set_option maxRecDepth 4000 in
theorem c_Gs_bestTelling (X : Cx) (N : Nat) (v1 : Nat) (v2 : Int32) (σ : St) (hv1 : shp v1 = 4) (r : Int32) (σ1 : St) (hE : Gs_bestTelling N v1 v2 σ = some (r, σ1)) : Ctr X yX0_bestTelling cX0_bestTelling 8 (some .int) 9 [.ref (X.2.1 + 64), .ref (X.2.1 + v1), .int v2] σ (some (.int r)) σ1 := by
  refine Ctr.of (out := oWI) (E := Gs_bestTelling N v1 v2 σ) rfl (Nat.le_of_ble_eq_true rfl) (fun G hG => ?_) (r, σ1) hE
  unfold Gs_bestTelling
  refine r_aload_n (pc := 0) 0 0 rfl rfl hG dX0_bestTelling_0 ?_
  refine r_aload_n (pc := 1) 1 1 rfl rfl hG dX0_bestTelling_1 ?_
  refine r_iload_n (pc := 2) 2 2 rfl rfl hG dX0_bestTelling_2 ?_
  refine r_bR hG (fun r1 e3 => ?_)
  refine r_callVi (pc := 3) (As := [.ref (X.2.1 + v1), .int v2]) (c_Gs_tonguesLeft X N v1 v2 σ hv1 r1 e3) (wsOf_at (rfl : shp 64 = 0) (by decide) rfl) rfl mfX0_67_X0_tonguesLeft hyVX0_tonguesLeft (by decide) (by decide) rfl (Nat.le_of_ble_eq_true rfl) hG dX0_bestTelling_3 rfl (fun n2 => ?_)
  refine r_istore_n (pc := 6) (lv' := [(3, .int r1), (0, .ref (X.2.1 + 64)), (1, .ref (X.2.1 + v1)), (2, .int v2)]) 3 rfl (by decide) rfl hG dX0_bestTelling_6 ?_
  refine r_aload_n (pc := 7) 2 1 rfl rfl hG dX0_bestTelling_7 ?_
  refine gf4_2 (pc := 8) (i := v1) hv1 lk223 hG dX0_bestTelling_8 ?_
  refine r_iload_n (pc := 11) 3 2 rfl rfl hG dX0_bestTelling_11 ?_
  refine r_ck hG (fun h4 => ?_)
  refine r_aRowers (pc := 12) (i := v1) (sh4_3 hv1) (ln4_3 hv1) h4 hG dX0_bestTelling_12 ?_
  refine gf7_0 (pc := 13) (i := (v1 + 13 + (v2).toNatClampNeg)) (shRo hv1 h4) lk156 hG dX0_bestTelling_13 ?_
  refine r_bI hG (fun x5 => ?_)
  refine r_istore (pc := 16) (lv' := [(4, .int x5), (3, .int r1), (0, .ref (X.2.1 + 64)), (1, .ref (X.2.1 + v1)), (2, .int v2)]) (by decide) rfl hG dX0_bestTelling_16 ?_
  refine r_aload_n (pc := 18) 2 0 rfl rfl hG dX0_bestTelling_18 ?_
  refine r_bR hG (fun s7 e9 => ?_)
  refine r_callVv (pc := 19) (As := []) (c_Gs_startOver X N σ s7 e9) (wsOf_at (rfl : shp 64 = 0) (by decide) rfl) rfl mfX0_71_X0_startOver hyVX0_startOver (by decide) (by decide) rfl (Nat.le_of_ble_eq_true rfl) hG dX0_bestTelling_19 rfl (fun n8 => ?_)
  refine r_iconst (pc := 22) (v := 0) (by decide) hG dX0_bestTelling_22 ?_
  refine r_istore (pc := 23) (lv' := [(5, .int 0), (4, .int x5), (3, .int r1), (0, .ref (X.2.1 + 64)), (1, .ref (X.2.1 + v1)), (2, .int v2)]) (by decide) rfl hG dX0_bestTelling_23 ?_
  exact r_sub [3, 2, 1, 0] rfl hG (w_Gs_bestTelling_L25 N hG N r1 x5 0 s7)
set_option maxRecDepth 4000 in
theorem w_Gs_bestAsking_J129 {X : Cx} {G : GT (Int32 × St)} (N : Nat) (hG : IsG X RX0 cX0_bestAsking 8 9 (some .int) oWI G) (σ : St) : G (Gs_bestAsking_J129 N σ) σ 129 [(0, .ref (X.2.1 + 64))] [] := by
  unfold Gs_bestAsking_J129
  refine r_aload_n (pc := 129) 0 0 rfl rfl hG dX0_bestAsking_129 ?_
  refine gf0_1 (pc := 130) lk360 hG dX0_bestAsking_130 ?_
  exact r_iret (pc := 133) rfl hG dX0_bestAsking_133
set_option maxRecDepth 4000 in
theorem w_Gs_bestAsking_J123 {X : Cx} {G : GT (Int32 × St)} (N : Nat) (hG : IsG X RX0 cX0_bestAsking 8 9 (some .int) oWI G) {K25 : Int32 → Int32 → Int32 → St → Option (Int32 × St)} (hK25 : ∀ (v3 : Int32) (v4 : Int32) (v5 : Int32) (s : St), G (K25 v3 v4 v5 s) s 25 [(0, .ref (X.2.1 + 64)), (3, .int v3), (4, .int v4), (5, .int v5)] []) (v3 : Int32) (v4 : Int32) (v5 : Int32) (σ : St) : G (Gs_bestAsking_J123 N K25 v3 v4 v5 σ) σ 123 [(0, .ref (X.2.1 + 64)), (3, .int v3), (4, .int v4), (5, .int v5)] [] := by
  unfold Gs_bestAsking_J123
  refine r_bIinc (pc := 123) (lv' := fun x16 => [(5, .int x16), (0, .ref (X.2.1 + 64)), (3, .int v3), (4, .int v4)]) 3 rfl rfl (by decide) (fun _ => rfl) hG dX0_bestAsking_123 (fun x16 => ?_)
  refine r_goto (pc := 126) (tgt := 25) (by decide) hG dX0_bestAsking_126 ?_
  exact r_sub [1, 2, 3, 0] rfl hG (hK25 v3 v4 x16 σ)
set_option maxRecDepth 4000 in
theorem w_Gs_bestAsking_J103 {X : Cx} {G : GT (Int32 × St)} (N : Nat) (hG : IsG X RX0 cX0_bestAsking 8 9 (some .int) oWI G) {K25 : Int32 → Int32 → Int32 → St → Option (Int32 × St)} {K42 : Int32 → Int32 → Int32 → Int32 → St → Option (Int32 × St)} (hK25 : ∀ (v3 : Int32) (v4 : Int32) (v5 : Int32) (s : St), G (K25 v3 v4 v5 s) s 25 [(0, .ref (X.2.1 + 64)), (3, .int v3), (4, .int v4), (5, .int v5)] []) (hK42 : ∀ (v3 : Int32) (v4 : Int32) (v5 : Int32) (v6 : Int32) (s : St), G (K42 v3 v4 v5 v6 s) s 42 [(0, .ref (X.2.1 + 64)), (3, .int v3), (4, .int v4), (5, .int v5), (6, .int v6)] []) (v3 : Int32) (v4 : Int32) (v5 : Int32) (v6 : Int32) (σ : St) : G (Gs_bestAsking_J103 N K25 K42 v3 v4 v5 v6 σ) σ 103 [(0, .ref (X.2.1 + 64)), (3, .int v3), (4, .int v4), (5, .int v5), (6, .int v6)] [] := by
  unfold Gs_bestAsking_J103
  refine r_aload_n (pc := 103) 0 0 rfl rfl hG dX0_bestAsking_103 ?_
  refine r_bipush (pc := 104) (v := 100) (by decide) hG dX0_bestAsking_104 ?_
  refine r_iload (pc := 106) 3 rfl hG dX0_bestAsking_106 ?_
  refine r_imul (pc := 108) hG dX0_bestAsking_108 ?_
  refine r_iload (pc := 109) 4 rfl hG dX0_bestAsking_109 ?_
  refine r_iadd (pc := 111) hG dX0_bestAsking_111 ?_
  refine r_bipush (pc := 112) (v := 6) (by decide) hG dX0_bestAsking_112 ?_
  refine r_bR hG (fun s23 e25 => ?_)
  refine r_callVv (pc := 114) (As := [.int ((100 * v5) + v6), .int 6]) (c_Gs_weigh X N ((100 * v5) + v6) 6 σ s23 e25) (wsOf_at (rfl : shp 64 = 0) (by decide) rfl) rfl mfX0_82_X0_weigh hyVX0_weigh (by decide) (by decide) rfl (Nat.le_of_ble_eq_true rfl) hG dX0_bestAsking_114 rfl (fun n24 => ?_)
  refine r_bIinc (pc := 117) (lv' := fun x26 => [(6, .int x26), (0, .ref (X.2.1 + 64)), (3, .int v3), (4, .int v4), (5, .int v5)]) 4 rfl rfl (by decide) (fun _ => rfl) hG dX0_bestAsking_117 (fun x26 => ?_)
  refine r_goto (pc := 120) (tgt := 42) (by decide) hG dX0_bestAsking_120 ?_
  exact r_sub [1, 2, 3, 4, 0] rfl hG (hK42 v3 v4 v5 x26 s23)
set_option maxRecDepth 4000 in
theorem w_Gs_bestAsking_J96 {X : Cx} {G : GT (Int32 × St)} (N : Nat) (hG : IsG X RX0 cX0_bestAsking 8 9 (some .int) oWI G) {K25 : Int32 → Int32 → Int32 → St → Option (Int32 × St)} {K42 : Int32 → Int32 → Int32 → Int32 → St → Option (Int32 × St)} {K59 : Int32 → Int32 → Int32 → Int32 → Int32 → St → Option (Int32 × St)} (hK25 : ∀ (v3 : Int32) (v4 : Int32) (v5 : Int32) (s : St), G (K25 v3 v4 v5 s) s 25 [(0, .ref (X.2.1 + 64)), (3, .int v3), (4, .int v4), (5, .int v5)] []) (hK42 : ∀ (v3 : Int32) (v4 : Int32) (v5 : Int32) (v6 : Int32) (s : St), G (K42 v3 v4 v5 v6 s) s 42 [(0, .ref (X.2.1 + 64)), (3, .int v3), (4, .int v4), (5, .int v5), (6, .int v6)] []) (hK59 : ∀ (v3 : Int32) (v4 : Int32) (v5 : Int32) (v6 : Int32) (v7 : Int32) (s : St), G (K59 v3 v4 v5 v6 v7 s) s 59 [(0, .ref (X.2.1 + 64)), (3, .int v3), (4, .int v4), (5, .int v5), (6, .int v6), (7, .int v7)] []) (v3 : Int32) (v4 : Int32) (v5 : Int32) (v6 : Int32) (v7 : Int32) (w1 : Int32) (w2 : Int32) (σ : St) : G (Gs_bestAsking_J96 N K25 K42 K59 v3 v4 v5 v6 v7 w1 w2 σ) σ 96 [(0, .ref (X.2.1 + 64)), (3, .int v3), (4, .int v4), (5, .int v5), (6, .int v6), (7, .int v7)] [.int w2, .int w1, .ref (X.2.1 + 65)] := by
  unfold Gs_bestAsking_J96
  refine r_ck hG (fun h31 => ?_)
  refine r_iast (pc := 96) (i := 65) (rfl : shp 65 = 14) rfl h31 hG dX0_bestAsking_96 ?_
  refine r_bS hG (fun s32 => ?_)
  refine r_bIinc (pc := 97) (lv' := fun x33 => [(7, .int x33), (0, .ref (X.2.1 + 64)), (3, .int v3), (4, .int v4), (5, .int v5), (6, .int v6)]) 5 rfl rfl (by decide) (fun _ => rfl) hG dX0_bestAsking_97 (fun x33 => ?_)
  refine r_goto (pc := 100) (tgt := 59) (by decide) hG dX0_bestAsking_100 ?_
  exact r_sub [1, 2, 3, 4, 5, 0] rfl hG (hK59 v3 v4 v5 v6 x33 s32)
set_option maxRecDepth 4000 in
theorem w_Gs_bestAsking_L59B {X : Cx} {G : GT (Int32 × St)} (N : Nat) (hG : IsG X RX0 cX0_bestAsking 8 9 (some .int) oWI G) {K25 : Int32 → Int32 → Int32 → St → Option (Int32 × St)} {K42 : Int32 → Int32 → Int32 → Int32 → St → Option (Int32 × St)} {K59 : Int32 → Int32 → Int32 → Int32 → Int32 → St → Option (Int32 × St)} (hK25 : ∀ (v3 : Int32) (v4 : Int32) (v5 : Int32) (s : St), G (K25 v3 v4 v5 s) s 25 [(0, .ref (X.2.1 + 64)), (3, .int v3), (4, .int v4), (5, .int v5)] []) (hK42 : ∀ (v3 : Int32) (v4 : Int32) (v5 : Int32) (v6 : Int32) (s : St), G (K42 v3 v4 v5 v6 s) s 42 [(0, .ref (X.2.1 + 64)), (3, .int v3), (4, .int v4), (5, .int v5), (6, .int v6)] []) (hK59 : ∀ (v3 : Int32) (v4 : Int32) (v5 : Int32) (v6 : Int32) (v7 : Int32) (s : St), G (K59 v3 v4 v5 v6 v7 s) s 59 [(0, .ref (X.2.1 + 64)), (3, .int v3), (4, .int v4), (5, .int v5), (6, .int v6), (7, .int v7)] []) (v3 : Int32) (v4 : Int32) (v5 : Int32) (v6 : Int32) (v7 : Int32) (σ : St) : G (Gs_bestAsking_L59B N K25 K42 K59 v3 v4 v5 v6 v7 σ) σ 59 [(0, .ref (X.2.1 + 64)), (3, .int v3), (4, .int v4), (5, .int v5), (6, .int v6), (7, .int v7)] [] := by
  unfold Gs_bestAsking_L59B
  refine r_iload (pc := 59) 5 rfl hG dX0_bestAsking_59 ?_
  refine r_bipush (pc := 61) (v := 6) (by decide) hG dX0_bestAsking_61 ?_
  refine r_icmp_ge (pc := 63) (tgt := 103) (by decide) hG dX0_bestAsking_63 (fun h21 => ?_) (fun h21 => ?_)
  · exact r_sub [0, 1, 2, 3, 4] rfl hG (w_Gs_bestAsking_J103 N hG hK25 hK42 v3 v4 v5 v6 σ)
  · refine r_aload_n (pc := 66) 0 0 rfl rfl hG dX0_bestAsking_66 ?_
    refine gf0_0 (pc := 67) lk359 hG dX0_bestAsking_67 ?_
    refine r_iload (pc := 70) 5 rfl hG dX0_bestAsking_70 ?_
    refine r_iload_n (pc := 72) 1 3 rfl rfl hG dX0_bestAsking_72 ?_
    refine r_iload (pc := 73) 5 rfl hG dX0_bestAsking_73 ?_
    refine r_callSi (pc := 75) (As := [.int v3, .int v7]) (c_Gs_isIn X v3 v7 σ) mfX0_78_X0_isIn hySX0_isIn (by decide) (by decide) rfl (Nat.le_of_ble_eq_true rfl) hG dX0_bestAsking_75 rfl (fun n28 => ?_)
    refine r_if_eq (pc := 78) (tgt := 95) (by decide) hG dX0_bestAsking_78 (fun h30 => ?_) (fun h30 => ?_)
    · refine r_iconst (pc := 95) (v := (-1)) (by decide) hG dX0_bestAsking_95 ?_
      exact w_Gs_bestAsking_J96 N hG hK25 hK42 hK59 v3 v4 v5 v6 v7 v7 (-1) σ
    · refine r_iload (pc := 81) 5 rfl hG dX0_bestAsking_81 ?_
      refine r_iload (pc := 83) 2 rfl hG dX0_bestAsking_83 ?_
      refine r_iload (pc := 85) 3 rfl hG dX0_bestAsking_85 ?_
      refine r_iload (pc := 87) 4 rfl hG dX0_bestAsking_87 ?_
      refine r_callSi (pc := 89) (As := [.int v7, .int v4, .int v5, .int v6]) (c_Ro_toldBy X v7 v4 v5 v6 σ) mfX0_44_X7_toldBy hySX7_toldBy (by decide) (by decide) rfl (Nat.le_of_ble_eq_true rfl) hG dX0_bestAsking_89 rfl (fun n35 => ?_)
      refine r_goto (pc := 92) (tgt := 96) (by decide) hG dX0_bestAsking_92 ?_
      exact w_Gs_bestAsking_J96 N hG hK25 hK42 hK59 v3 v4 v5 v6 v7 v7 (Ro_toldBy v7 v4 v5 v6) σ
set_option maxRecDepth 4000 in
theorem w_Gs_bestAsking_L59 {X : Cx} {G : GT (Int32 × St)} (N : Nat) (hG : IsG X RX0 cX0_bestAsking 8 9 (some .int) oWI G) {K25 : Int32 → Int32 → Int32 → St → Option (Int32 × St)} {K42 : Int32 → Int32 → Int32 → Int32 → St → Option (Int32 × St)} (hK25 : ∀ (v3 : Int32) (v4 : Int32) (v5 : Int32) (s : St), G (K25 v3 v4 v5 s) s 25 [(0, .ref (X.2.1 + 64)), (3, .int v3), (4, .int v4), (5, .int v5)] []) (hK42 : ∀ (v3 : Int32) (v4 : Int32) (v5 : Int32) (v6 : Int32) (s : St), G (K42 v3 v4 v5 v6 s) s 42 [(0, .ref (X.2.1 + 64)), (3, .int v3), (4, .int v4), (5, .int v5), (6, .int v6)] []) : ∀ (n : Nat), ∀ (v3 : Int32) (v4 : Int32) (v5 : Int32) (v6 : Int32) (v7 : Int32) (σ : St), G (Gs_bestAsking_L59 N K25 K42 n v3 v4 v5 v6 v7 σ) σ 59 [(0, .ref (X.2.1 + 64)), (3, .int v3), (4, .int v4), (5, .int v5), (6, .int v6), (7, .int v7)] [] := by
  intro n
  induction n with
  | zero => intro v3 v4 v5 v6 v7 σ; exact r_none hG
  | succ n ih => intro v3 v4 v5 v6 v7 σ; exact w_Gs_bestAsking_L59B N hG hK25 hK42 ih v3 v4 v5 v6 v7 σ
set_option maxRecDepth 4000 in
theorem w_Gs_bestAsking_L42B {X : Cx} {G : GT (Int32 × St)} (N : Nat) (hG : IsG X RX0 cX0_bestAsking 8 9 (some .int) oWI G) {K25 : Int32 → Int32 → Int32 → St → Option (Int32 × St)} {K42 : Int32 → Int32 → Int32 → Int32 → St → Option (Int32 × St)} (hK25 : ∀ (v3 : Int32) (v4 : Int32) (v5 : Int32) (s : St), G (K25 v3 v4 v5 s) s 25 [(0, .ref (X.2.1 + 64)), (3, .int v3), (4, .int v4), (5, .int v5)] []) (hK42 : ∀ (v3 : Int32) (v4 : Int32) (v5 : Int32) (v6 : Int32) (s : St), G (K42 v3 v4 v5 v6 s) s 42 [(0, .ref (X.2.1 + 64)), (3, .int v3), (4, .int v4), (5, .int v5), (6, .int v6)] []) (v3 : Int32) (v4 : Int32) (v5 : Int32) (v6 : Int32) (σ : St) : G (Gs_bestAsking_L42B N K25 K42 v3 v4 v5 v6 σ) σ 42 [(0, .ref (X.2.1 + 64)), (3, .int v3), (4, .int v4), (5, .int v5), (6, .int v6)] [] := by
  unfold Gs_bestAsking_L42B
  refine r_iload (pc := 42) 4 rfl hG dX0_bestAsking_42 ?_
  refine r_bipush (pc := 44) (v := 30) (by decide) hG dX0_bestAsking_44 ?_
  refine r_icmp_gt (pc := 46) (tgt := 123) (by decide) hG dX0_bestAsking_46 (fun h15 => ?_) (fun h15 => ?_)
  · exact r_sub [0, 1, 2, 3] rfl hG (w_Gs_bestAsking_J123 N hG hK25 v3 v4 v5 σ)
  · refine r_aload_n (pc := 49) 0 0 rfl rfl hG dX0_bestAsking_49 ?_
    refine r_bR hG (fun r17 e19 => ?_)
    refine r_callVi (pc := 50) (As := []) (c_Gs_isOpen X N σ r17 e19) (wsOf_at (rfl : shp 64 = 0) (by decide) rfl) rfl mfX0_74_X0_isOpen hyVX0_isOpen (by decide) (by decide) rfl (Nat.le_of_ble_eq_true rfl) hG dX0_bestAsking_50 rfl (fun n18 => ?_)
    refine r_if_eq (pc := 53) (tgt := 123) (by decide) hG dX0_bestAsking_53 (fun h20 => ?_) (fun h20 => ?_)
    · exact r_sub [0, 1, 2, 3] rfl hG (w_Gs_bestAsking_J123 N hG hK25 v3 v4 v5 σ)
    · refine r_iconst (pc := 56) (v := 0) (by decide) hG dX0_bestAsking_56 ?_
      refine r_istore (pc := 57) (lv' := [(7, .int 0), (0, .ref (X.2.1 + 64)), (3, .int v3), (4, .int v4), (5, .int v5), (6, .int v6)]) (by decide) rfl hG dX0_bestAsking_57 ?_
      exact r_sub [1, 2, 3, 4, 5, 0] rfl hG (w_Gs_bestAsking_L59 N hG hK25 hK42 N v3 v4 v5 v6 0 σ)
set_option maxRecDepth 4000 in
theorem w_Gs_bestAsking_L42 {X : Cx} {G : GT (Int32 × St)} (N : Nat) (hG : IsG X RX0 cX0_bestAsking 8 9 (some .int) oWI G) {K25 : Int32 → Int32 → Int32 → St → Option (Int32 × St)} (hK25 : ∀ (v3 : Int32) (v4 : Int32) (v5 : Int32) (s : St), G (K25 v3 v4 v5 s) s 25 [(0, .ref (X.2.1 + 64)), (3, .int v3), (4, .int v4), (5, .int v5)] []) : ∀ (n : Nat), ∀ (v3 : Int32) (v4 : Int32) (v5 : Int32) (v6 : Int32) (σ : St), G (Gs_bestAsking_L42 N K25 n v3 v4 v5 v6 σ) σ 42 [(0, .ref (X.2.1 + 64)), (3, .int v3), (4, .int v4), (5, .int v5), (6, .int v6)] [] := by
  intro n
  induction n with
  | zero => intro v3 v4 v5 v6 σ; exact r_none hG
  | succ n ih => intro v3 v4 v5 v6 σ; exact w_Gs_bestAsking_L42B N hG hK25 ih v3 v4 v5 v6 σ
set_option maxRecDepth 4000 in
theorem w_Gs_bestAsking_L25B {X : Cx} {G : GT (Int32 × St)} (N : Nat) (hG : IsG X RX0 cX0_bestAsking 8 9 (some .int) oWI G) {K25 : Int32 → Int32 → Int32 → St → Option (Int32 × St)} (hK25 : ∀ (v3 : Int32) (v4 : Int32) (v5 : Int32) (s : St), G (K25 v3 v4 v5 s) s 25 [(0, .ref (X.2.1 + 64)), (3, .int v3), (4, .int v4), (5, .int v5)] []) (v3 : Int32) (v4 : Int32) (v5 : Int32) (σ : St) : G (Gs_bestAsking_L25B N K25 v3 v4 v5 σ) σ 25 [(0, .ref (X.2.1 + 64)), (3, .int v3), (4, .int v4), (5, .int v5)] [] := by
  unfold Gs_bestAsking_L25B
  refine r_iload (pc := 25) 3 rfl hG dX0_bestAsking_25 ?_
  refine r_bipush (pc := 27) (v := 9) (by decide) hG dX0_bestAsking_27 ?_
  refine r_icmp_gt (pc := 29) (tgt := 129) (by decide) hG dX0_bestAsking_29 (fun h10 => ?_) (fun h10 => ?_)
  · exact r_sub [0] rfl hG (w_Gs_bestAsking_J129 N hG σ)
  · refine r_aload_n (pc := 32) 0 0 rfl rfl hG dX0_bestAsking_32 ?_
    refine r_bR hG (fun r11 e13 => ?_)
    refine r_callVi (pc := 33) (As := []) (c_Gs_isOpen X N σ r11 e13) (wsOf_at (rfl : shp 64 = 0) (by decide) rfl) rfl mfX0_74_X0_isOpen hyVX0_isOpen (by decide) (by decide) rfl (Nat.le_of_ble_eq_true rfl) hG dX0_bestAsking_33 rfl (fun n12 => ?_)
    refine r_if_eq (pc := 36) (tgt := 129) (by decide) hG dX0_bestAsking_36 (fun h14 => ?_) (fun h14 => ?_)
    · exact r_sub [0] rfl hG (w_Gs_bestAsking_J129 N hG σ)
    · refine r_iconst (pc := 39) (v := 0) (by decide) hG dX0_bestAsking_39 ?_
      refine r_istore (pc := 40) (lv' := [(6, .int 0), (0, .ref (X.2.1 + 64)), (3, .int v3), (4, .int v4), (5, .int v5)]) (by decide) rfl hG dX0_bestAsking_40 ?_
      exact r_sub [1, 2, 3, 4, 0] rfl hG (w_Gs_bestAsking_L42 N hG hK25 N v3 v4 v5 0 σ)
set_option maxRecDepth 4000 in
theorem w_Gs_bestAsking_L25 {X : Cx} {G : GT (Int32 × St)} (N : Nat) (hG : IsG X RX0 cX0_bestAsking 8 9 (some .int) oWI G) : ∀ (n : Nat), ∀ (v3 : Int32) (v4 : Int32) (v5 : Int32) (σ : St), G (Gs_bestAsking_L25 N n v3 v4 v5 σ) σ 25 [(0, .ref (X.2.1 + 64)), (3, .int v3), (4, .int v4), (5, .int v5)] [] := by
  intro n
  induction n with
  | zero => intro v3 v4 v5 σ; exact r_none hG
  | succ n ih => intro v3 v4 v5 σ; exact w_Gs_bestAsking_L25B N hG ih v3 v4 v5 σ
set_option maxRecDepth 4000 in
theorem c_Gs_bestAsking (X : Cx) (N : Nat) (v1 : Nat) (v2 : Int32) (σ : St) (hv1 : shp v1 = 4) (r : Int32) (σ1 : St) (hE : Gs_bestAsking N v1 v2 σ = some (r, σ1)) : Ctr X yX0_bestAsking cX0_bestAsking 8 (some .int) 9 [.ref (X.2.1 + 64), .ref (X.2.1 + v1), .int v2] σ (some (.int r)) σ1 := by
  refine Ctr.of (out := oWI) (E := Gs_bestAsking N v1 v2 σ) rfl (Nat.le_of_ble_eq_true rfl) (fun G hG => ?_) (r, σ1) hE
  unfold Gs_bestAsking
  refine r_aload_n (pc := 0) 0 0 rfl rfl hG dX0_bestAsking_0 ?_
  refine r_aload_n (pc := 1) 1 1 rfl rfl hG dX0_bestAsking_1 ?_
  refine r_iload_n (pc := 2) 2 2 rfl rfl hG dX0_bestAsking_2 ?_
  refine r_bR hG (fun r1 e3 => ?_)
  refine r_callVi (pc := 3) (As := [.ref (X.2.1 + v1), .int v2]) (c_Gs_rowerKindsLeft X N v1 v2 σ hv1 r1 e3) (wsOf_at (rfl : shp 64 = 0) (by decide) rfl) rfl mfX0_89_X0_rowerKindsLeft hyVX0_rowerKindsLeft (by decide) (by decide) rfl (Nat.le_of_ble_eq_true rfl) hG dX0_bestAsking_3 rfl (fun n2 => ?_)
  refine r_istore_n (pc := 6) (lv' := [(3, .int r1), (0, .ref (X.2.1 + 64)), (1, .ref (X.2.1 + v1)), (2, .int v2)]) 3 rfl (by decide) rfl hG dX0_bestAsking_6 ?_
  refine r_aload_n (pc := 7) 2 1 rfl rfl hG dX0_bestAsking_7 ?_
  refine gf4_2 (pc := 8) (i := v1) hv1 lk223 hG dX0_bestAsking_8 ?_
  refine r_iload_n (pc := 11) 3 2 rfl rfl hG dX0_bestAsking_11 ?_
  refine r_ck hG (fun h4 => ?_)
  refine r_aRowers (pc := 12) (i := v1) (sh4_3 hv1) (ln4_3 hv1) h4 hG dX0_bestAsking_12 ?_
  refine gf7_1 (pc := 13) (i := (v1 + 13 + (v2).toNatClampNeg)) (shRo hv1 h4) lk161 hG dX0_bestAsking_13 ?_
  refine r_bI hG (fun x5 => ?_)
  refine r_istore (pc := 16) (lv' := [(4, .int x5), (3, .int r1), (0, .ref (X.2.1 + 64)), (1, .ref (X.2.1 + v1)), (2, .int v2)]) (by decide) rfl hG dX0_bestAsking_16 ?_
  refine r_aload_n (pc := 18) 2 0 rfl rfl hG dX0_bestAsking_18 ?_
  refine r_bR hG (fun s7 e9 => ?_)
  refine r_callVv (pc := 19) (As := []) (c_Gs_startOver X N σ s7 e9) (wsOf_at (rfl : shp 64 = 0) (by decide) rfl) rfl mfX0_71_X0_startOver hyVX0_startOver (by decide) (by decide) rfl (Nat.le_of_ble_eq_true rfl) hG dX0_bestAsking_19 rfl (fun n8 => ?_)
  refine r_iconst (pc := 22) (v := 0) (by decide) hG dX0_bestAsking_22 ?_
  refine r_istore (pc := 23) (lv' := [(5, .int 0), (4, .int x5), (3, .int r1), (0, .ref (X.2.1 + 64)), (1, .ref (X.2.1 + v1)), (2, .int v2)]) (by decide) rfl hG dX0_bestAsking_23 ?_
  exact r_sub [3, 2, 1, 0] rfl hG (w_Gs_bestAsking_L25 N hG N r1 x5 0 s7)
set_option maxRecDepth 4000 in
theorem w_Gs_bestLook_J134 {X : Cx} {G : GT (Int32 × St)} (N : Nat) (hG : IsG X RX0 cX0_bestLook 8 9 (some .int) oWI G) (σ : St) : G (Gs_bestLook_J134 N σ) σ 134 [(0, .ref (X.2.1 + 64))] [] := by
  unfold Gs_bestLook_J134
  refine r_aload_n (pc := 134) 0 0 rfl rfl hG dX0_bestLook_134 ?_
  refine gf0_1 (pc := 135) lk360 hG dX0_bestLook_135 ?_
  exact r_iret (pc := 138) rfl hG dX0_bestLook_138
set_option maxRecDepth 4000 in
theorem w_Gs_bestLook_J128 {X : Cx} {G : GT (Int32 × St)} (N : Nat) (hG : IsG X RX0 cX0_bestLook 8 9 (some .int) oWI G) {K22 : Int32 → Nat → Int32 → St → Option (Int32 × St)} (hK22 : ∀ (v3 : Int32) (v4 : Nat) (v5 : Int32) (s : St), shp v4 = 1 → G (K22 v3 v4 v5 s) s 22 [(0, .ref (X.2.1 + 64)), (3, .int v3), (4, .ref (X.2.1 + v4)), (5, .int v5)] []) (v3 : Int32) (v4 : Nat) (v5 : Int32) (σ : St) (hv4 : shp v4 = 1) : G (Gs_bestLook_J128 N K22 v3 v4 v5 σ) σ 128 [(0, .ref (X.2.1 + 64)), (3, .int v3), (4, .ref (X.2.1 + v4)), (5, .int v5)] [] := by
  unfold Gs_bestLook_J128
  refine r_bIinc (pc := 128) (lv' := fun x15 => [(5, .int x15), (0, .ref (X.2.1 + 64)), (3, .int v3), (4, .ref (X.2.1 + v4))]) 3 rfl rfl (by decide) (fun _ => rfl) hG dX0_bestLook_128 (fun x15 => ?_)
  refine r_goto (pc := 131) (tgt := 22) (by decide) hG dX0_bestLook_131 ?_
  exact r_sub [1, 2, 3, 0] rfl hG (hK22 v3 v4 x15 σ hv4)
set_option maxRecDepth 4000 in
theorem w_Gs_bestLook_J108 {X : Cx} {G : GT (Int32 × St)} (N : Nat) (hG : IsG X RX0 cX0_bestLook 8 9 (some .int) oWI G) {K22 : Int32 → Nat → Int32 → St → Option (Int32 × St)} {K39 : Int32 → Nat → Int32 → Int32 → St → Option (Int32 × St)} (hK22 : ∀ (v3 : Int32) (v4 : Nat) (v5 : Int32) (s : St), shp v4 = 1 → G (K22 v3 v4 v5 s) s 22 [(0, .ref (X.2.1 + 64)), (3, .int v3), (4, .ref (X.2.1 + v4)), (5, .int v5)] []) (hK39 : ∀ (v3 : Int32) (v4 : Nat) (v5 : Int32) (v6 : Int32) (s : St), shp v4 = 1 → G (K39 v3 v4 v5 v6 s) s 39 [(0, .ref (X.2.1 + 64)), (3, .int v3), (4, .ref (X.2.1 + v4)), (5, .int v5), (6, .int v6)] []) (v3 : Int32) (v4 : Nat) (v5 : Int32) (v6 : Int32) (σ : St) (hv4 : shp v4 = 1) : G (Gs_bestLook_J108 N K22 K39 v3 v4 v5 v6 σ) σ 108 [(0, .ref (X.2.1 + 64)), (3, .int v3), (4, .ref (X.2.1 + v4)), (5, .int v5), (6, .int v6)] [] := by
  unfold Gs_bestLook_J108
  refine r_aload_n (pc := 108) 0 0 rfl rfl hG dX0_bestLook_108 ?_
  refine r_bipush (pc := 109) (v := 100) (by decide) hG dX0_bestLook_109 ?_
  refine r_iload (pc := 111) 3 rfl hG dX0_bestLook_111 ?_
  refine r_imul (pc := 113) hG dX0_bestLook_113 ?_
  refine r_iload (pc := 114) 4 rfl hG dX0_bestLook_114 ?_
  refine r_iadd (pc := 116) hG dX0_bestLook_116 ?_
  refine r_bipush (pc := 117) (v := 6) (by decide) hG dX0_bestLook_117 ?_
  refine r_bR hG (fun s22 e24 => ?_)
  refine r_callVv (pc := 119) (As := [.int ((100 * v5) + v6), .int 6]) (c_Gs_weigh X N ((100 * v5) + v6) 6 σ s22 e24) (wsOf_at (rfl : shp 64 = 0) (by decide) rfl) rfl mfX0_82_X0_weigh hyVX0_weigh (by decide) (by decide) rfl (Nat.le_of_ble_eq_true rfl) hG dX0_bestLook_119 rfl (fun n23 => ?_)
  refine r_bIinc (pc := 122) (lv' := fun x25 => [(6, .int x25), (0, .ref (X.2.1 + 64)), (3, .int v3), (4, .ref (X.2.1 + v4)), (5, .int v5)]) 4 rfl rfl (by decide) (fun _ => rfl) hG dX0_bestLook_122 (fun x25 => ?_)
  refine r_goto (pc := 125) (tgt := 39) (by decide) hG dX0_bestLook_125 ?_
  exact r_sub [1, 2, 3, 4, 0] rfl hG (hK39 v3 v4 v5 x25 s22 hv4)
set_option maxRecDepth 4000 in
theorem w_Gs_bestLook_J101 {X : Cx} {G : GT (Int32 × St)} (N : Nat) (hG : IsG X RX0 cX0_bestLook 8 9 (some .int) oWI G) {K22 : Int32 → Nat → Int32 → St → Option (Int32 × St)} {K39 : Int32 → Nat → Int32 → Int32 → St → Option (Int32 × St)} {K56 : Int32 → Nat → Int32 → Int32 → Int32 → St → Option (Int32 × St)} (hK22 : ∀ (v3 : Int32) (v4 : Nat) (v5 : Int32) (s : St), shp v4 = 1 → G (K22 v3 v4 v5 s) s 22 [(0, .ref (X.2.1 + 64)), (3, .int v3), (4, .ref (X.2.1 + v4)), (5, .int v5)] []) (hK39 : ∀ (v3 : Int32) (v4 : Nat) (v5 : Int32) (v6 : Int32) (s : St), shp v4 = 1 → G (K39 v3 v4 v5 v6 s) s 39 [(0, .ref (X.2.1 + 64)), (3, .int v3), (4, .ref (X.2.1 + v4)), (5, .int v5), (6, .int v6)] []) (hK56 : ∀ (v3 : Int32) (v4 : Nat) (v5 : Int32) (v6 : Int32) (v7 : Int32) (s : St), shp v4 = 1 → G (K56 v3 v4 v5 v6 v7 s) s 56 [(0, .ref (X.2.1 + 64)), (3, .int v3), (4, .ref (X.2.1 + v4)), (5, .int v5), (6, .int v6), (7, .int v7)] []) (v3 : Int32) (v4 : Nat) (v5 : Int32) (v6 : Int32) (v7 : Int32) (w1 : Int32) (w2 : Int32) (σ : St) (hv4 : shp v4 = 1) : G (Gs_bestLook_J101 N K22 K39 K56 v3 v4 v5 v6 v7 w1 w2 σ) σ 101 [(0, .ref (X.2.1 + 64)), (3, .int v3), (4, .ref (X.2.1 + v4)), (5, .int v5), (6, .int v6), (7, .int v7)] [.int w2, .int w1, .ref (X.2.1 + 65)] := by
  unfold Gs_bestLook_J101
  refine r_ck hG (fun h30 => ?_)
  refine r_iast (pc := 101) (i := 65) (rfl : shp 65 = 14) rfl h30 hG dX0_bestLook_101 ?_
  refine r_bS hG (fun s31 => ?_)
  refine r_bIinc (pc := 102) (lv' := fun x32 => [(7, .int x32), (0, .ref (X.2.1 + 64)), (3, .int v3), (4, .ref (X.2.1 + v4)), (5, .int v5), (6, .int v6)]) 5 rfl rfl (by decide) (fun _ => rfl) hG dX0_bestLook_102 (fun x32 => ?_)
  refine r_goto (pc := 105) (tgt := 56) (by decide) hG dX0_bestLook_105 ?_
  exact r_sub [1, 2, 3, 4, 5, 0] rfl hG (hK56 v3 v4 v5 v6 x32 s31 hv4)
set_option maxRecDepth 4000 in
theorem w_Gs_bestLook_L56B {X : Cx} {G : GT (Int32 × St)} (N : Nat) (hG : IsG X RX0 cX0_bestLook 8 9 (some .int) oWI G) {K22 : Int32 → Nat → Int32 → St → Option (Int32 × St)} {K39 : Int32 → Nat → Int32 → Int32 → St → Option (Int32 × St)} {K56 : Int32 → Nat → Int32 → Int32 → Int32 → St → Option (Int32 × St)} (hK22 : ∀ (v3 : Int32) (v4 : Nat) (v5 : Int32) (s : St), shp v4 = 1 → G (K22 v3 v4 v5 s) s 22 [(0, .ref (X.2.1 + 64)), (3, .int v3), (4, .ref (X.2.1 + v4)), (5, .int v5)] []) (hK39 : ∀ (v3 : Int32) (v4 : Nat) (v5 : Int32) (v6 : Int32) (s : St), shp v4 = 1 → G (K39 v3 v4 v5 v6 s) s 39 [(0, .ref (X.2.1 + 64)), (3, .int v3), (4, .ref (X.2.1 + v4)), (5, .int v5), (6, .int v6)] []) (hK56 : ∀ (v3 : Int32) (v4 : Nat) (v5 : Int32) (v6 : Int32) (v7 : Int32) (s : St), shp v4 = 1 → G (K56 v3 v4 v5 v6 v7 s) s 56 [(0, .ref (X.2.1 + 64)), (3, .int v3), (4, .ref (X.2.1 + v4)), (5, .int v5), (6, .int v6), (7, .int v7)] []) (v3 : Int32) (v4 : Nat) (v5 : Int32) (v6 : Int32) (v7 : Int32) (σ : St) (hv4 : shp v4 = 1) : G (Gs_bestLook_L56B N K22 K39 K56 v3 v4 v5 v6 v7 σ) σ 56 [(0, .ref (X.2.1 + 64)), (3, .int v3), (4, .ref (X.2.1 + v4)), (5, .int v5), (6, .int v6), (7, .int v7)] [] := by
  unfold Gs_bestLook_L56B
  refine r_iload (pc := 56) 5 rfl hG dX0_bestLook_56 ?_
  refine r_bipush (pc := 58) (v := 6) (by decide) hG dX0_bestLook_58 ?_
  refine r_icmp_ge (pc := 60) (tgt := 108) (by decide) hG dX0_bestLook_60 (fun h20 => ?_) (fun h20 => ?_)
  · exact r_sub [0, 1, 2, 3, 4] rfl hG (w_Gs_bestLook_J108 N hG hK22 hK39 v3 v4 v5 v6 σ hv4)
  · refine r_aload_n (pc := 63) 0 0 rfl rfl hG dX0_bestLook_63 ?_
    refine gf0_0 (pc := 64) lk359 hG dX0_bestLook_64 ?_
    refine r_iload (pc := 67) 5 rfl hG dX0_bestLook_67 ?_
    refine r_iload_n (pc := 69) 1 3 rfl rfl hG dX0_bestLook_69 ?_
    refine r_iload (pc := 70) 5 rfl hG dX0_bestLook_70 ?_
    refine r_callSi (pc := 72) (As := [.int v3, .int v7]) (c_Gs_isIn X v3 v7 σ) mfX0_78_X0_isIn hySX0_isIn (by decide) (by decide) rfl (Nat.le_of_ble_eq_true rfl) hG dX0_bestLook_72 rfl (fun n27 => ?_)
    refine r_if_eq (pc := 75) (tgt := 100) (by decide) hG dX0_bestLook_75 (fun h29 => ?_) (fun h29 => ?_)
    · refine r_iconst (pc := 100) (v := (-1)) (by decide) hG dX0_bestLook_100 ?_
      exact w_Gs_bestLook_J101 N hG hK22 hK39 hK56 v3 v4 v5 v6 v7 v7 (-1) σ hv4
    · refine r_iload (pc := 78) 5 rfl hG dX0_bestLook_78 ?_
      refine r_aload (pc := 80) 2 rfl hG dX0_bestLook_80 ?_
      refine gf1_1 (pc := 82) (i := v4) hv4 lk177 hG dX0_bestLook_82 ?_
      refine r_aload (pc := 85) 2 rfl hG dX0_bestLook_85 ?_
      refine gf1_2 (pc := 87) (i := v4) hv4 lk184 hG dX0_bestLook_87 ?_
      refine r_iload (pc := 90) 4 rfl hG dX0_bestLook_90 ?_
      refine r_iload (pc := 92) 3 rfl hG dX0_bestLook_92 ?_
      refine r_callSi (pc := 94) (As := [.int v7, .int (σ.1 v4 1), .int (σ.1 v4 2), .int v6, .int v5]) (c_Gu_hurtOf X v7 (σ.1 v4 1) (σ.1 v4 2) v6 v5 σ) mfX0_55_X1_hurtOf hySX1_hurtOf (by decide) (by decide) rfl (Nat.le_of_ble_eq_true rfl) hG dX0_bestLook_94 rfl (fun n34 => ?_)
      refine r_goto (pc := 97) (tgt := 101) (by decide) hG dX0_bestLook_97 ?_
      exact w_Gs_bestLook_J101 N hG hK22 hK39 hK56 v3 v4 v5 v6 v7 v7 (Gu_hurtOf v7 (σ.1 v4 1) (σ.1 v4 2) v6 v5) σ hv4
set_option maxRecDepth 4000 in
theorem w_Gs_bestLook_L56 {X : Cx} {G : GT (Int32 × St)} (N : Nat) (hG : IsG X RX0 cX0_bestLook 8 9 (some .int) oWI G) {K22 : Int32 → Nat → Int32 → St → Option (Int32 × St)} {K39 : Int32 → Nat → Int32 → Int32 → St → Option (Int32 × St)} (hK22 : ∀ (v3 : Int32) (v4 : Nat) (v5 : Int32) (s : St), shp v4 = 1 → G (K22 v3 v4 v5 s) s 22 [(0, .ref (X.2.1 + 64)), (3, .int v3), (4, .ref (X.2.1 + v4)), (5, .int v5)] []) (hK39 : ∀ (v3 : Int32) (v4 : Nat) (v5 : Int32) (v6 : Int32) (s : St), shp v4 = 1 → G (K39 v3 v4 v5 v6 s) s 39 [(0, .ref (X.2.1 + 64)), (3, .int v3), (4, .ref (X.2.1 + v4)), (5, .int v5), (6, .int v6)] []) : ∀ (n : Nat), ∀ (v3 : Int32) (v4 : Nat) (v5 : Int32) (v6 : Int32) (v7 : Int32) (σ : St), shp v4 = 1 → G (Gs_bestLook_L56 N K22 K39 n v3 v4 v5 v6 v7 σ) σ 56 [(0, .ref (X.2.1 + 64)), (3, .int v3), (4, .ref (X.2.1 + v4)), (5, .int v5), (6, .int v6), (7, .int v7)] [] := by
  intro n
  induction n with
  | zero => intro v3 v4 v5 v6 v7 σ hv4; exact r_none hG
  | succ n ih => intro v3 v4 v5 v6 v7 σ hv4; exact w_Gs_bestLook_L56B N hG hK22 hK39 ih v3 v4 v5 v6 v7 σ hv4
set_option maxRecDepth 4000 in
theorem w_Gs_bestLook_L39B {X : Cx} {G : GT (Int32 × St)} (N : Nat) (hG : IsG X RX0 cX0_bestLook 8 9 (some .int) oWI G) {K22 : Int32 → Nat → Int32 → St → Option (Int32 × St)} {K39 : Int32 → Nat → Int32 → Int32 → St → Option (Int32 × St)} (hK22 : ∀ (v3 : Int32) (v4 : Nat) (v5 : Int32) (s : St), shp v4 = 1 → G (K22 v3 v4 v5 s) s 22 [(0, .ref (X.2.1 + 64)), (3, .int v3), (4, .ref (X.2.1 + v4)), (5, .int v5)] []) (hK39 : ∀ (v3 : Int32) (v4 : Nat) (v5 : Int32) (v6 : Int32) (s : St), shp v4 = 1 → G (K39 v3 v4 v5 v6 s) s 39 [(0, .ref (X.2.1 + 64)), (3, .int v3), (4, .ref (X.2.1 + v4)), (5, .int v5), (6, .int v6)] []) (v3 : Int32) (v4 : Nat) (v5 : Int32) (v6 : Int32) (σ : St) (hv4 : shp v4 = 1) : G (Gs_bestLook_L39B N K22 K39 v3 v4 v5 v6 σ) σ 39 [(0, .ref (X.2.1 + 64)), (3, .int v3), (4, .ref (X.2.1 + v4)), (5, .int v5), (6, .int v6)] [] := by
  unfold Gs_bestLook_L39B
  refine r_iload (pc := 39) 4 rfl hG dX0_bestLook_39 ?_
  refine r_bipush (pc := 41) (v := 20) (by decide) hG dX0_bestLook_41 ?_
  refine r_icmp_gt (pc := 43) (tgt := 128) (by decide) hG dX0_bestLook_43 (fun h14 => ?_) (fun h14 => ?_)
  · exact r_sub [0, 1, 2, 3] rfl hG (w_Gs_bestLook_J128 N hG hK22 v3 v4 v5 σ hv4)
  · refine r_aload_n (pc := 46) 0 0 rfl rfl hG dX0_bestLook_46 ?_
    refine r_bR hG (fun r16 e18 => ?_)
    refine r_callVi (pc := 47) (As := []) (c_Gs_isOpen X N σ r16 e18) (wsOf_at (rfl : shp 64 = 0) (by decide) rfl) rfl mfX0_74_X0_isOpen hyVX0_isOpen (by decide) (by decide) rfl (Nat.le_of_ble_eq_true rfl) hG dX0_bestLook_47 rfl (fun n17 => ?_)
    refine r_if_eq (pc := 50) (tgt := 128) (by decide) hG dX0_bestLook_50 (fun h19 => ?_) (fun h19 => ?_)
    · exact r_sub [0, 1, 2, 3] rfl hG (w_Gs_bestLook_J128 N hG hK22 v3 v4 v5 σ hv4)
    · refine r_iconst (pc := 53) (v := 0) (by decide) hG dX0_bestLook_53 ?_
      refine r_istore (pc := 54) (lv' := [(7, .int 0), (0, .ref (X.2.1 + 64)), (3, .int v3), (4, .ref (X.2.1 + v4)), (5, .int v5), (6, .int v6)]) (by decide) rfl hG dX0_bestLook_54 ?_
      exact r_sub [1, 2, 3, 4, 5, 0] rfl hG (w_Gs_bestLook_L56 N hG hK22 hK39 N v3 v4 v5 v6 0 σ hv4)
set_option maxRecDepth 4000 in
theorem w_Gs_bestLook_L39 {X : Cx} {G : GT (Int32 × St)} (N : Nat) (hG : IsG X RX0 cX0_bestLook 8 9 (some .int) oWI G) {K22 : Int32 → Nat → Int32 → St → Option (Int32 × St)} (hK22 : ∀ (v3 : Int32) (v4 : Nat) (v5 : Int32) (s : St), shp v4 = 1 → G (K22 v3 v4 v5 s) s 22 [(0, .ref (X.2.1 + 64)), (3, .int v3), (4, .ref (X.2.1 + v4)), (5, .int v5)] []) : ∀ (n : Nat), ∀ (v3 : Int32) (v4 : Nat) (v5 : Int32) (v6 : Int32) (σ : St), shp v4 = 1 → G (Gs_bestLook_L39 N K22 n v3 v4 v5 v6 σ) σ 39 [(0, .ref (X.2.1 + 64)), (3, .int v3), (4, .ref (X.2.1 + v4)), (5, .int v5), (6, .int v6)] [] := by
  intro n
  induction n with
  | zero => intro v3 v4 v5 v6 σ hv4; exact r_none hG
  | succ n ih => intro v3 v4 v5 v6 σ hv4; exact w_Gs_bestLook_L39B N hG hK22 ih v3 v4 v5 v6 σ hv4
set_option maxRecDepth 4000 in
theorem w_Gs_bestLook_L22B {X : Cx} {G : GT (Int32 × St)} (N : Nat) (hG : IsG X RX0 cX0_bestLook 8 9 (some .int) oWI G) {K22 : Int32 → Nat → Int32 → St → Option (Int32 × St)} (hK22 : ∀ (v3 : Int32) (v4 : Nat) (v5 : Int32) (s : St), shp v4 = 1 → G (K22 v3 v4 v5 s) s 22 [(0, .ref (X.2.1 + 64)), (3, .int v3), (4, .ref (X.2.1 + v4)), (5, .int v5)] []) (v3 : Int32) (v4 : Nat) (v5 : Int32) (σ : St) (hv4 : shp v4 = 1) : G (Gs_bestLook_L22B N K22 v3 v4 v5 σ) σ 22 [(0, .ref (X.2.1 + 64)), (3, .int v3), (4, .ref (X.2.1 + v4)), (5, .int v5)] [] := by
  unfold Gs_bestLook_L22B
  refine r_iload (pc := 22) 3 rfl hG dX0_bestLook_22 ?_
  refine r_bipush (pc := 24) (v := 9) (by decide) hG dX0_bestLook_24 ?_
  refine r_icmp_gt (pc := 26) (tgt := 134) (by decide) hG dX0_bestLook_26 (fun h9 => ?_) (fun h9 => ?_)
  · exact r_sub [0] rfl hG (w_Gs_bestLook_J134 N hG σ)
  · refine r_aload_n (pc := 29) 0 0 rfl rfl hG dX0_bestLook_29 ?_
    refine r_bR hG (fun r10 e12 => ?_)
    refine r_callVi (pc := 30) (As := []) (c_Gs_isOpen X N σ r10 e12) (wsOf_at (rfl : shp 64 = 0) (by decide) rfl) rfl mfX0_74_X0_isOpen hyVX0_isOpen (by decide) (by decide) rfl (Nat.le_of_ble_eq_true rfl) hG dX0_bestLook_30 rfl (fun n11 => ?_)
    refine r_if_eq (pc := 33) (tgt := 134) (by decide) hG dX0_bestLook_33 (fun h13 => ?_) (fun h13 => ?_)
    · exact r_sub [0] rfl hG (w_Gs_bestLook_J134 N hG σ)
    · refine r_iconst (pc := 36) (v := 0) (by decide) hG dX0_bestLook_36 ?_
      refine r_istore (pc := 37) (lv' := [(6, .int 0), (0, .ref (X.2.1 + 64)), (3, .int v3), (4, .ref (X.2.1 + v4)), (5, .int v5)]) (by decide) rfl hG dX0_bestLook_37 ?_
      exact r_sub [1, 2, 3, 4, 0] rfl hG (w_Gs_bestLook_L39 N hG hK22 N v3 v4 v5 0 σ hv4)
set_option maxRecDepth 4000 in
theorem w_Gs_bestLook_L22 {X : Cx} {G : GT (Int32 × St)} (N : Nat) (hG : IsG X RX0 cX0_bestLook 8 9 (some .int) oWI G) : ∀ (n : Nat), ∀ (v3 : Int32) (v4 : Nat) (v5 : Int32) (σ : St), shp v4 = 1 → G (Gs_bestLook_L22 N n v3 v4 v5 σ) σ 22 [(0, .ref (X.2.1 + 64)), (3, .int v3), (4, .ref (X.2.1 + v4)), (5, .int v5)] [] := by
  intro n
  induction n with
  | zero => intro v3 v4 v5 σ hv4; exact r_none hG
  | succ n ih => intro v3 v4 v5 σ hv4; exact w_Gs_bestLook_L22B N hG ih v3 v4 v5 σ hv4
set_option maxRecDepth 4000 in
theorem c_Gs_bestLook (X : Cx) (N : Nat) (v1 : Nat) (v2 : Int32) (σ : St) (hv1 : shp v1 = 4) (r : Int32) (σ1 : St) (hE : Gs_bestLook N v1 v2 σ = some (r, σ1)) : Ctr X yX0_bestLook cX0_bestLook 8 (some .int) 9 [.ref (X.2.1 + 64), .ref (X.2.1 + v1), .int v2] σ (some (.int r)) σ1 := by
  refine Ctr.of (out := oWI) (E := Gs_bestLook N v1 v2 σ) rfl (Nat.le_of_ble_eq_true rfl) (fun G hG => ?_) (r, σ1) hE
  unfold Gs_bestLook
  refine r_aload_n (pc := 0) 0 0 rfl rfl hG dX0_bestLook_0 ?_
  refine r_aload_n (pc := 1) 1 1 rfl rfl hG dX0_bestLook_1 ?_
  refine r_iload_n (pc := 2) 2 2 rfl rfl hG dX0_bestLook_2 ?_
  refine r_bR hG (fun r1 e3 => ?_)
  refine r_callVi (pc := 3) (As := [.ref (X.2.1 + v1), .int v2]) (c_Gs_guestKindsLeft X N v1 v2 σ hv1 r1 e3) (wsOf_at (rfl : shp 64 = 0) (by decide) rfl) rfl mfX0_95_X0_guestKindsLeft hyVX0_guestKindsLeft (by decide) (by decide) rfl (Nat.le_of_ble_eq_true rfl) hG dX0_bestLook_3 rfl (fun n2 => ?_)
  refine r_istore_n (pc := 6) (lv' := [(3, .int r1), (0, .ref (X.2.1 + 64)), (1, .ref (X.2.1 + v1)), (2, .int v2)]) 3 rfl (by decide) rfl hG dX0_bestLook_6 ?_
  refine r_aload_n (pc := 7) 2 1 rfl rfl hG dX0_bestLook_7 ?_
  refine gf4_3 (pc := 8) (i := v1) hv1 lk230 hG dX0_bestLook_8 ?_
  refine r_iload_n (pc := 11) 3 2 rfl rfl hG dX0_bestLook_11 ?_
  refine r_ck hG (fun h4 => ?_)
  refine r_aGuests (pc := 12) (i := v1) (sh4_4 hv1) (ln4_4 hv1) h4 hG dX0_bestLook_12 ?_
  refine r_astore (pc := 13) (lv' := [(4, .ref (X.2.1 + (v1 + 16 + (v2).toNatClampNeg))), (3, .int r1), (0, .ref (X.2.1 + 64)), (1, .ref (X.2.1 + v1)), (2, .int v2)]) (by decide) rfl hG dX0_bestLook_13 ?_
  refine r_aload_n (pc := 15) 2 0 rfl rfl hG dX0_bestLook_15 ?_
  refine r_bR hG (fun s6 e8 => ?_)
  refine r_callVv (pc := 16) (As := []) (c_Gs_startOver X N σ s6 e8) (wsOf_at (rfl : shp 64 = 0) (by decide) rfl) rfl mfX0_71_X0_startOver hyVX0_startOver (by decide) (by decide) rfl (Nat.le_of_ble_eq_true rfl) hG dX0_bestLook_16 rfl (fun n7 => ?_)
  refine r_iconst (pc := 19) (v := 0) (by decide) hG dX0_bestLook_19 ?_
  refine r_istore (pc := 20) (lv' := [(5, .int 0), (4, .ref (X.2.1 + (v1 + 16 + (v2).toNatClampNeg))), (3, .int r1), (0, .ref (X.2.1 + 64)), (1, .ref (X.2.1 + v1)), (2, .int v2)]) (by decide) rfl hG dX0_bestLook_20 ?_
  exact r_sub [3, 2, 1, 0] rfl hG (w_Gs_bestLook_L22 N hG N r1 (v1 + 16 + (v2).toNatClampNeg) 0 s6 (shGu hv1 h4))
set_option maxRecDepth 4000 in
theorem c_Gu_take (X : Cx) (N : Nat) (v0 : Nat) (v1 : Nat) (σ : St) (hv0 : shp v0 = 1) (hv1 : shp v1 = 1) (σ1 : St) (hE : Gu_take N v0 v1 σ = some σ1) : Ctr X yX1_take cX1_take 2 none 1 [.ref (X.2.1 + v0), .ref (X.2.1 + v1)] σ none σ1 := by
  refine Ctr.of (out := oWV) (E := Gu_take N v0 v1 σ) rfl (Nat.le_of_ble_eq_true rfl) (fun G hG => ?_) σ1 hE
  unfold Gu_take
  refine r_aload_n (pc := 0) 0 0 rfl rfl hG dX1_take_0 ?_
  refine r_aload_n (pc := 1) 1 1 rfl rfl hG dX1_take_1 ?_
  refine gf1_0 (pc := 2) (i := v1) hv1 lk173 hG dX1_take_2 ?_
  refine pf1_0 (pc := 5) (i := v0) hv0 lk173 hG dX1_take_5 ?_
  refine r_bS hG (fun s1 => ?_)
  refine r_aload_n (pc := 8) 0 0 rfl rfl hG dX1_take_8 ?_
  refine r_aload_n (pc := 9) 1 1 rfl rfl hG dX1_take_9 ?_
  refine gf1_1 (pc := 10) (i := v1) hv1 lk175 hG dX1_take_10 ?_
  refine pf1_1 (pc := 13) (i := v0) hv0 lk175 hG dX1_take_13 ?_
  refine r_bS hG (fun s2 => ?_)
  refine r_aload_n (pc := 16) 0 0 rfl rfl hG dX1_take_16 ?_
  refine r_aload_n (pc := 17) 1 1 rfl rfl hG dX1_take_17 ?_
  refine gf1_2 (pc := 18) (i := v1) hv1 lk178 hG dX1_take_18 ?_
  refine pf1_2 (pc := 21) (i := v0) hv0 lk178 hG dX1_take_21 ?_
  refine r_bS hG (fun s3 => ?_)
  refine r_aload_n (pc := 24) 0 0 rfl rfl hG dX1_take_24 ?_
  refine r_aload_n (pc := 25) 1 1 rfl rfl hG dX1_take_25 ?_
  refine gf1_3 (pc := 26) (i := v1) hv1 lk186 hG dX1_take_26 ?_
  refine pf1_3 (pc := 29) (i := v0) hv0 lk186 hG dX1_take_29 ?_
  refine r_bS hG (fun s4 => ?_)
  refine r_aload_n (pc := 32) 0 0 rfl rfl hG dX1_take_32 ?_
  refine r_aload_n (pc := 33) 1 1 rfl rfl hG dX1_take_33 ?_
  refine gf1_4 (pc := 34) (i := v1) hv1 lk193 hG dX1_take_34 ?_
  refine pf1_4 (pc := 37) (i := v0) hv0 lk193 hG dX1_take_37 ?_
  refine r_bS hG (fun s5 => ?_)
  refine r_aload_n (pc := 40) 0 0 rfl rfl hG dX1_take_40 ?_
  refine r_aload_n (pc := 41) 1 1 rfl rfl hG dX1_take_41 ?_
  refine gf1_5 (pc := 42) (i := v1) hv1 lk200 hG dX1_take_42 ?_
  refine pf1_5 (pc := 45) (i := v0) hv0 lk200 hG dX1_take_45 ?_
  refine r_bS hG (fun s6 => ?_)
  exact r_vret (pc := 48) rfl hG dX1_take_48
set_option maxRecDepth 4000 in
theorem c_Gu_getIn (X : Cx) (N : Nat) (v0 : Nat) (σ : St) (hv0 : shp v0 = 1) (σ1 : St) (hE : Gu_getIn N v0 σ = some σ1) : Ctr X yX1_getIn cX1_getIn 1 none 1 [.ref (X.2.1 + v0)] σ none σ1 := by
  refine Ctr.of (out := oWV) (E := Gu_getIn N v0 σ) rfl (Nat.le_of_ble_eq_true rfl) (fun G hG => ?_) σ1 hE
  unfold Gu_getIn
  refine r_aload_n (pc := 0) 0 0 rfl rfl hG dX1_getIn_0 ?_
  refine r_iconst (pc := 1) (v := 0) (by decide) hG dX1_getIn_1 ?_
  refine pf1_4 (pc := 2) (i := v0) hv0 lk193 hG dX1_getIn_2 ?_
  refine r_bS hG (fun s1 => ?_)
  refine r_aload_n (pc := 5) 0 0 rfl rfl hG dX1_getIn_5 ?_
  refine r_iconst (pc := 6) (v := 0) (by decide) hG dX1_getIn_6 ?_
  refine pf1_5 (pc := 7) (i := v0) hv0 lk200 hG dX1_getIn_7 ?_
  refine r_bS hG (fun s2 => ?_)
  exact r_vret (pc := 10) rfl hG dX1_getIn_10
set_option maxRecDepth 4000 in
theorem c_Gu_come (X : Cx) (N : Nat) (v0 : Nat) (v1 : Int32) (v2 : Int32) (σ : St) (hv0 : shp v0 = 1) (σ1 : St) (hE : Gu_come N v0 v1 v2 σ = some σ1) : Ctr X yX1_come cX1_come 3 none 2 [.ref (X.2.1 + v0), .int v1, .int v2] σ none σ1 := by
  refine Ctr.of (out := oWV) (E := Gu_come N v0 v1 v2 σ) rfl (Nat.le_of_ble_eq_true rfl) (fun G hG => ?_) σ1 hE
  unfold Gu_come
  refine r_aload_n (pc := 0) 0 0 rfl rfl hG dX1_come_0 ?_
  refine r_iload_n (pc := 1) 1 1 rfl rfl hG dX1_come_1 ?_
  refine pf1_0 (pc := 2) (i := v0) hv0 lk173 hG dX1_come_2 ?_
  refine r_bS hG (fun s1 => ?_)
  refine r_aload_n (pc := 5) 0 0 rfl rfl hG dX1_come_5 ?_
  refine r_iload_n (pc := 6) 2 2 rfl rfl hG dX1_come_6 ?_
  refine pf1_1 (pc := 7) (i := v0) hv0 lk175 hG dX1_come_7 ?_
  refine r_bS hG (fun s2 => ?_)
  refine r_aload_n (pc := 10) 0 0 rfl rfl hG dX1_come_10 ?_
  refine r_iconst (pc := 11) (v := 0) (by decide) hG dX1_come_11 ?_
  refine pf1_2 (pc := 12) (i := v0) hv0 lk178 hG dX1_come_12 ?_
  refine r_bS hG (fun s3 => ?_)
  refine r_aload_n (pc := 15) 0 0 rfl rfl hG dX1_come_15 ?_
  refine r_iconst (pc := 16) (v := 0) (by decide) hG dX1_come_16 ?_
  refine pf1_3 (pc := 17) (i := v0) hv0 lk186 hG dX1_come_17 ?_
  refine r_bS hG (fun s4 => ?_)
  refine r_aload_n (pc := 20) 0 0 rfl rfl hG dX1_come_20 ?_
  refine r_bR hG (fun s6 e8 => ?_)
  refine r_callVv (pc := 21) (As := []) (c_Gu_getIn X N v0 s4 hv0 s6 e8) (wsOf_at hv0 (by decide) rfl) rfl mfX1_30_X1_getIn hyVX1_getIn (by decide) (by decide) rfl (Nat.le_of_ble_eq_true rfl) hG dX1_come_21 rfl (fun n7 => ?_)
  exact r_vret (pc := 24) rfl hG dX1_come_24
set_option maxRecDepth 4000 in
theorem c_Gu_isTold (X : Cx) (N : Nat) (v0 : Nat) (σ : St) (hv0 : shp v0 = 1) (r : Int32) (hE : Gu_isTold N v0 σ = some r) : Ctr X yX1_isTold cX1_isTold 1 (some .boolean) 1 [.ref (X.2.1 + v0)] σ (some (.int r)) σ := by
  refine Ctr.of (out := (oI σ)) (E := Gu_isTold N v0 σ) rfl (Nat.le_of_ble_eq_true rfl) (fun G hG => ?_) r hE
  unfold Gu_isTold
  refine r_aload_n (pc := 0) 0 0 rfl rfl hG dX1_isTold_0 ?_
  refine gf1_2 (pc := 1) (i := v0) hv0 lk178 hG dX1_isTold_1 ?_
  refine r_aload_n (pc := 4) 0 0 rfl rfl hG dX1_isTold_4 ?_
  refine gf1_1 (pc := 5) (i := v0) hv0 lk175 hG dX1_isTold_5 ?_
  refine r_icmp_lt (pc := 8) (tgt := 15) (by decide) hG dX1_isTold_8 (fun h1 => ?_) (fun h1 => ?_)
  · refine r_iconst (pc := 15) (v := 0) (by decide) hG dX1_isTold_15 ?_
    exact r_zret (pc := 16) rvN_b0 rfl hG dX1_isTold_16
  · refine r_iconst (pc := 11) (v := 1) (by decide) hG dX1_isTold_11 ?_
    refine r_goto (pc := 12) (tgt := 16) (by decide) hG dX1_isTold_12 ?_
    exact r_zret (pc := 16) rvN_b1 rfl hG dX1_isTold_16
set_option maxRecDepth 4000 in
theorem c_Gu_goTo (X : Cx) (N : Nat) (v0 : Nat) (v1 : Int32) (v2 : Int32) (σ : St) (hv0 : shp v0 = 1) (σ1 : St) (hE : Gu_goTo N v0 v1 v2 σ = some σ1) : Ctr X yX1_goTo cX1_goTo 3 none 6 [.ref (X.2.1 + v0), .int v1, .int v2] σ none σ1 := by
  refine Ctr.of (out := oWV) (E := Gu_goTo N v0 v1 v2 σ) rfl (Nat.le_of_ble_eq_true rfl) (fun G hG => ?_) σ1 hE
  unfold Gu_goTo
  refine r_aload_n (pc := 0) 0 0 rfl rfl hG dX1_goTo_0 ?_
  refine r_sipush (pc := 1) (v := 999) (by decide) hG dX1_goTo_1 ?_
  refine r_aload_n (pc := 4) 0 0 rfl rfl hG dX1_goTo_4 ?_
  refine gf1_5 (pc := 5) (i := v0) hv0 lk200 hG dX1_goTo_5 ?_
  refine r_iload_n (pc := 8) 2 2 rfl rfl hG dX1_goTo_8 ?_
  refine r_iadd (pc := 9) hG dX1_goTo_9 ?_
  refine r_mmin (pc := 10) lk682 (by omega) (Nat.le_of_ble_eq_true rfl) hG dX1_goTo_10 ?_
  refine pf1_5 (pc := 13) (i := v0) hv0 lk200 hG dX1_goTo_13 ?_
  refine r_bS hG (fun s1 => ?_)
  refine r_aload_n (pc := 16) 0 0 rfl rfl hG dX1_goTo_16 ?_
  refine r_iload_n (pc := 17) 1 1 rfl rfl hG dX1_goTo_17 ?_
  refine pf1_4 (pc := 18) (i := v0) hv0 lk193 hG dX1_goTo_18 ?_
  refine r_bS hG (fun s2 => ?_)
  exact r_vret (pc := 21) rfl hG dX1_goTo_21
set_option maxRecDepth 4000 in
theorem c_Gu_takenIn (X : Cx) (N : Nat) (v0 : Nat) (v1 : Int32) (σ : St) (hv0 : shp v0 = 1) (r : Int32) (hE : Gu_takenIn N v0 v1 σ = some r) : Ctr X yX1_takenIn cX1_takenIn 2 (some .int) 6 [.ref (X.2.1 + v0), .int v1] σ (some (.int r)) σ := by
  refine Ctr.of (out := (oI σ)) (E := Gu_takenIn N v0 v1 σ) rfl (Nat.le_of_ble_eq_true rfl) (fun G hG => ?_) r hE
  unfold Gu_takenIn
  refine r_iload_n (pc := 0) 1 1 rfl rfl hG dX1_takenIn_0 ?_
  refine r_aload_n (pc := 1) 0 0 rfl rfl hG dX1_takenIn_1 ?_
  refine gf1_1 (pc := 2) (i := v0) hv0 lk175 hG dX1_takenIn_2 ?_
  refine r_aload_n (pc := 5) 0 0 rfl rfl hG dX1_takenIn_5 ?_
  refine gf1_2 (pc := 6) (i := v0) hv0 lk178 hG dX1_takenIn_6 ?_
  refine r_isub (pc := 9) hG dX1_takenIn_9 ?_
  refine r_mmin (pc := 10) lk682 (by omega) (Nat.le_of_ble_eq_true rfl) hG dX1_takenIn_10 ?_
  exact r_iret (pc := 13) rfl hG dX1_takenIn_13
set_option maxRecDepth 4000 in
theorem c_Gu_hear (X : Cx) (N : Nat) (v0 : Nat) (v1 : Int32) (v2 : Int32) (σ : St) (hv0 : shp v0 = 1) (σ1 : St) (hE : Gu_hear N v0 v1 v2 σ = some σ1) : Ctr X yX1_hear cX1_hear 4 none 7 [.ref (X.2.1 + v0), .int v1, .int v2] σ none σ1 := by
  refine Ctr.of (out := oWV) (E := Gu_hear N v0 v1 v2 σ) rfl (Nat.le_of_ble_eq_true rfl) (fun G hG => ?_) σ1 hE
  unfold Gu_hear
  refine r_aload_n (pc := 0) 0 0 rfl rfl hG dX1_hear_0 ?_
  refine r_iload_n (pc := 1) 1 1 rfl rfl hG dX1_hear_1 ?_
  refine r_bR hG (fun r1 e3 => ?_)
  refine r_callVi (pc := 2) (As := [.int v1]) (c_Gu_takenIn X N v0 v1 σ hv0 r1 e3) (wsOf_at hv0 (by decide) rfl) rfl mfX1_39_X1_takenIn hyVX1_takenIn (by decide) (by decide) rfl (Nat.le_of_ble_eq_true rfl) hG dX1_hear_2 rfl (fun n2 => ?_)
  refine r_istore_n (pc := 5) (lv' := [(3, .int r1), (0, .ref (X.2.1 + v0)), (1, .int v1), (2, .int v2)]) 3 rfl (by decide) rfl hG dX1_hear_5 ?_
  refine r_aload_n (pc := 6) 1 0 rfl rfl hG dX1_hear_6 ?_
  refine r_sipush (pc := 7) (v := 999) (by decide) hG dX1_hear_7 ?_
  refine r_aload_n (pc := 10) 1 0 rfl rfl hG dX1_hear_10 ?_
  refine gf1_3 (pc := 11) (i := v0) hv0 lk186 hG dX1_hear_11 ?_
  refine r_aload_n (pc := 14) 1 0 rfl rfl hG dX1_hear_14 ?_
  refine gf1_0 (pc := 15) (i := v0) hv0 lk173 hG dX1_hear_15 ?_
  refine r_aload_n (pc := 18) 1 0 rfl rfl hG dX1_hear_18 ?_
  refine gf1_1 (pc := 19) (i := v0) hv0 lk175 hG dX1_hear_19 ?_
  refine r_aload_n (pc := 22) 1 0 rfl rfl hG dX1_hear_22 ?_
  refine gf1_2 (pc := 23) (i := v0) hv0 lk178 hG dX1_hear_23 ?_
  refine r_iload_n (pc := 26) 0 3 rfl rfl hG dX1_hear_26 ?_
  refine r_iload_n (pc := 27) 3 2 rfl rfl hG dX1_hear_27 ?_
  refine r_callSi (pc := 28) (As := [.int (σ.1 v0 0), .int (σ.1 v0 1), .int (σ.1 v0 2), .int r1, .int v2]) (c_Gu_hurtOf X (σ.1 v0 0) (σ.1 v0 1) (σ.1 v0 2) r1 v2 σ) mfX1_43_X1_hurtOf hySX1_hurtOf (by decide) (by decide) rfl (Nat.le_of_ble_eq_true rfl) hG dX1_hear_28 rfl (fun n5 => ?_)
  refine r_iadd (pc := 31) hG dX1_hear_31 ?_
  refine r_mmin (pc := 32) lk682 (by omega) (Nat.le_of_ble_eq_true rfl) hG dX1_hear_32 ?_
  refine pf1_3 (pc := 35) (i := v0) hv0 lk186 hG dX1_hear_35 ?_
  refine r_bS hG (fun s7 => ?_)
  refine r_aload_n (pc := 38) 1 0 rfl rfl hG dX1_hear_38 ?_
  refine r_dup (pc := 39) rfl hG dX1_hear_39 ?_
  refine gf1_2 (pc := 40) (i := v0) hv0 lk178 hG dX1_hear_40 ?_
  refine r_iload_n (pc := 43) 0 3 rfl rfl hG dX1_hear_43 ?_
  refine r_iadd (pc := 44) hG dX1_hear_44 ?_
  refine pf1_2 (pc := 45) (i := v0) hv0 lk178 hG dX1_hear_45 ?_
  refine r_bS hG (fun s8 => ?_)
  exact r_vret (pc := 48) rfl hG dX1_hear_48
set_option maxRecDepth 4000 in
theorem c_Gu_fact (X : Cx) (N : Nat) (v0 : Nat) (v1 : Int32) (σ : St) (hv0 : shp v0 = 1) (r : Int32) (hE : Gu_fact N v0 v1 σ = some r) : Ctr X yX1_fact cX1_fact 2 (some .int) 1 [.ref (X.2.1 + v0), .int v1] σ (some (.int r)) σ := by
  refine Ctr.of (out := (oI σ)) (E := Gu_fact N v0 v1 σ) rfl (Nat.le_of_ble_eq_true rfl) (fun G hG => ?_) r hE
  unfold Gu_fact
  refine r_iload_n (pc := 0) 1 1 rfl rfl hG dX1_fact_0 ?_
  refine r_ite hG (fun h1 => ?_) (fun h1 => ?_)
  · refine r_tableIn (pc := 1) (tgt := 36) (off := 35) (by rw [h1]; decide) (by rw [h1]; decide) (by rw [h1]; decide) (by decide) hG dX1_fact_1 ?_
    refine r_aload_n (pc := 36) 0 0 rfl rfl hG dX1_fact_36 ?_
    refine gf1_0 (pc := 37) (i := v0) hv0 lk173 hG dX1_fact_37 ?_
    exact r_iret (pc := 40) rfl hG dX1_fact_40
  · refine r_ite hG (fun h2 => ?_) (fun h2 => ?_)
    · refine r_tableIn (pc := 1) (tgt := 41) (off := 40) (by rw [h2]; decide) (by rw [h2]; decide) (by rw [h2]; decide) (by decide) hG dX1_fact_1 ?_
      refine r_aload_n (pc := 41) 0 0 rfl rfl hG dX1_fact_41 ?_
      refine gf1_1 (pc := 42) (i := v0) hv0 lk175 hG dX1_fact_42 ?_
      exact r_iret (pc := 45) rfl hG dX1_fact_45
    · refine r_ite hG (fun h3 => ?_) (fun h3 => ?_)
      · refine r_tableIn (pc := 1) (tgt := 46) (off := 45) (by rw [h3]; decide) (by rw [h3]; decide) (by rw [h3]; decide) (by decide) hG dX1_fact_1 ?_
        refine r_aload_n (pc := 46) 0 0 rfl rfl hG dX1_fact_46 ?_
        refine gf1_2 (pc := 47) (i := v0) hv0 lk178 hG dX1_fact_47 ?_
        exact r_iret (pc := 50) rfl hG dX1_fact_50
      · refine r_ite hG (fun h4 => ?_) (fun h4 => ?_)
        · refine r_tableIn (pc := 1) (tgt := 51) (off := 50) (by rw [h4]; decide) (by rw [h4]; decide) (by rw [h4]; decide) (by decide) hG dX1_fact_1 ?_
          refine r_aload_n (pc := 51) 0 0 rfl rfl hG dX1_fact_51 ?_
          refine gf1_3 (pc := 52) (i := v0) hv0 lk186 hG dX1_fact_52 ?_
          exact r_iret (pc := 55) rfl hG dX1_fact_55
        · refine r_ite hG (fun h5 => ?_) (fun h5 => ?_)
          · refine r_tableIn (pc := 1) (tgt := 56) (off := 55) (by rw [h5]; decide) (by rw [h5]; decide) (by rw [h5]; decide) (by decide) hG dX1_fact_1 ?_
            refine r_aload_n (pc := 56) 0 0 rfl rfl hG dX1_fact_56 ?_
            refine gf1_4 (pc := 57) (i := v0) hv0 lk193 hG dX1_fact_57 ?_
            exact r_iret (pc := 60) rfl hG dX1_fact_60
          · refine r_tableOut (pc := 1) (tgt := 61) (by have q0 := lv_neT h1 (a := 0) (by decide); have q1 := lv_neT h2 (a := 1) (by decide); have q2 := lv_neT h3 (a := 2) (by decide); have q3 := lv_neT h4 (a := 3) (by decide); have q4 := lv_neT h5 (a := 4) (by decide); omega) (by decide) hG dX1_fact_1 ?_
            refine r_aload_n (pc := 61) 0 0 rfl rfl hG dX1_fact_61 ?_
            refine gf1_5 (pc := 62) (i := v0) hv0 lk200 hG dX1_fact_62 ?_
            exact r_iret (pc := 65) rfl hG dX1_fact_65
set_option maxRecDepth 4000 in
theorem c_Ni_strokesBetween (X : Cx) (N : Nat) (v0 : Nat) (v1 : Int32) (v2 : Int32) (σ : St) (hv0 : shp v0 = 4) (r : Int32) (hE : Ni_strokesBetween N v0 v1 v2 σ = some r) : Ctr X yX4_strokesBetween cX4_strokesBetween 3 (some .int) 1 [.ref (X.2.1 + v0), .int v1, .int v2] σ (some (.int r)) σ := by
  refine Ctr.of (out := (oI σ)) (E := Ni_strokesBetween N v0 v1 v2 σ) rfl (Nat.le_of_ble_eq_true rfl) (fun G hG => ?_) r hE
  unfold Ni_strokesBetween
  refine r_aload_n (pc := 0) 0 0 rfl rfl hG dX4_strokesBetween_0 ?_
  refine gf4_1 (pc := 1) (i := v0) hv0 lk220 hG dX4_strokesBetween_1 ?_
  refine r_iload_n (pc := 4) 1 1 rfl rfl hG dX4_strokesBetween_4 ?_
  refine r_bipush (pc := 5) (v := 8) (by decide) hG dX4_strokesBetween_5 ?_
  refine r_imul (pc := 7) hG dX4_strokesBetween_7 ?_
  refine r_iload_n (pc := 8) 2 2 rfl rfl hG dX4_strokesBetween_8 ?_
  refine r_iadd (pc := 9) hG dX4_strokesBetween_9 ?_
  refine r_ck hG (fun h1 => ?_)
  refine r_iald (pc := 10) (i := (v0 + 2)) (sh4_2 hv0) (ln4_2 hv0) h1 hG dX4_strokesBetween_10 ?_
  exact r_iret (pc := 11) rfl hG dX4_strokesBetween_11
set_option maxRecDepth 4000 in
theorem c_Ro_tells (X : Cx) (N : Nat) (v0 : Nat) (v1 : Int32) (v2 : Int32) (σ : St) (hv0 : shp v0 = 7) (r : Int32) (hE : Ro_tells N v0 v1 v2 σ = some r) : Ctr X yX7_tells cX7_tells 3 (some .int) 7 [.ref (X.2.1 + v0), .int v1, .int v2] σ (some (.int r)) σ := by
  refine Ctr.of (out := (oI σ)) (E := Ro_tells N v0 v1 v2 σ) rfl (Nat.le_of_ble_eq_true rfl) (fun G hG => ?_) r hE
  unfold Ro_tells
  refine r_aload_n (pc := 0) 0 0 rfl rfl hG dX7_tells_0 ?_
  refine gf7_0 (pc := 1) (i := v0) hv0 lk155 hG dX7_tells_1 ?_
  refine r_aload_n (pc := 4) 0 0 rfl rfl hG dX7_tells_4 ?_
  refine gf7_1 (pc := 5) (i := v0) hv0 lk159 hG dX7_tells_5 ?_
  refine r_iload_n (pc := 8) 1 1 rfl rfl hG dX7_tells_8 ?_
  refine r_iload_n (pc := 9) 2 2 rfl rfl hG dX7_tells_9 ?_
  refine r_callSi (pc := 10) (As := [.int (σ.1 v0 0), .int (σ.1 v0 1), .int v1, .int v2]) (c_Ro_toldBy X (σ.1 v0 0) (σ.1 v0 1) v1 v2 σ) mfX7_16_X7_toldBy hySX7_toldBy (by decide) (by decide) rfl (Nat.le_of_ble_eq_true rfl) hG dX7_tells_10 rfl (fun n2 => ?_)
  exact r_iret (pc := 13) rfl hG dX7_tells_13
set_option maxRecDepth 4000 in
theorem c_Ni_carry (X : Cx) (N : Nat) (v0 : Nat) (v1 : Nat) (v2 : Nat) (v3 : Int32) (σ : St) (hv0 : shp v0 = 4) (hv1 : shp v1 = 1) (hv2 : shp v2 = 7) (σ1 : St) (hE : Ni_carry N v0 v1 v2 v3 σ = some σ1) : Ctr X yX4_carry cX4_carry 4 none 8 [.ref (X.2.1 + v0), .ref (X.2.1 + v1), .ref (X.2.1 + v2), .int v3] σ none σ1 := by
  refine Ctr.of (out := oWV) (E := Ni_carry N v0 v1 v2 v3 σ) rfl (Nat.le_of_ble_eq_true rfl) (fun G hG => ?_) σ1 hE
  unfold Ni_carry
  refine r_aload_n (pc := 0) 1 1 rfl rfl hG dX4_carry_0 ?_
  refine r_iload_n (pc := 1) 3 3 rfl rfl hG dX4_carry_1 ?_
  refine r_aload_n (pc := 2) 0 0 rfl rfl hG dX4_carry_2 ?_
  refine r_aload_n (pc := 3) 1 1 rfl rfl hG dX4_carry_3 ?_
  refine gf1_4 (pc := 4) (i := v1) hv1 lk197 hG dX4_carry_4 ?_
  refine r_iload_n (pc := 7) 3 3 rfl rfl hG dX4_carry_7 ?_
  refine r_bR hG (fun r1 e3 => ?_)
  refine r_callVi (pc := 8) (As := [.int (σ.1 v1 4), .int v3]) (c_Ni_strokesBetween X N v0 (σ.1 v1 4) v3 σ hv0 r1 e3) (wsOf_at hv0 (by decide) rfl) rfl mfX4_96_X4_strokesBetween hyVX4_strokesBetween (by decide) (by decide) rfl (Nat.le_of_ble_eq_true rfl) hG dX4_carry_8 rfl (fun n2 => ?_)
  refine r_bR hG (fun s5 e7 => ?_)
  refine r_callVv (pc := 11) (As := [.int v3, .int r1]) (c_Gu_goTo X N v1 v3 r1 σ hv1 s5 e7) (wsOf_at hv1 (by decide) rfl) rfl mfX4_100_X1_goTo hyVX1_goTo (by decide) (by decide) rfl (Nat.le_of_ble_eq_true rfl) hG dX4_carry_11 rfl (fun n6 => ?_)
  refine r_aload_n (pc := 14) 1 1 rfl rfl hG dX4_carry_14 ?_
  refine r_aload_n (pc := 15) 2 2 rfl rfl hG dX4_carry_15 ?_
  refine r_aload_n (pc := 16) 0 0 rfl rfl hG dX4_carry_16 ?_
  refine gf4_0 (pc := 17) (i := v0) hv0 lk217 hG dX4_carry_17 ?_
  refine r_iload_n (pc := 20) 3 3 rfl rfl hG dX4_carry_20 ?_
  refine r_ck hG (fun h8 => ?_)
  refine r_iald (pc := 21) (i := (v0 + 1)) (sh4_1 hv0) (ln4_1 hv0) h8 hG dX4_carry_21 ?_
  refine r_aload_n (pc := 22) 1 1 rfl rfl hG dX4_carry_22 ?_
  refine gf1_5 (pc := 23) (i := v1) hv1 lk203 hG dX4_carry_23 ?_
  refine r_bR hG (fun r9 e11 => ?_)
  refine r_callVi (pc := 26) (As := [.int (s5.1 (v0 + 1) (v3).toNatClampNeg), .int (s5.1 v1 5)]) (c_Ro_tells X N v2 (s5.1 (v0 + 1) (v3).toNatClampNeg) (s5.1 v1 5) s5 hv2 r9 e11) (wsOf_at hv2 (by decide) rfl) rfl mfX4_106_X7_tells hyVX7_tells (by decide) (by decide) rfl (Nat.le_of_ble_eq_true rfl) hG dX4_carry_26 rfl (fun n10 => ?_)
  refine r_aload_n (pc := 29) 0 0 rfl rfl hG dX4_carry_29 ?_
  refine gf4_0 (pc := 30) (i := v0) hv0 lk217 hG dX4_carry_30 ?_
  refine r_iload_n (pc := 33) 3 3 rfl rfl hG dX4_carry_33 ?_
  refine r_ck hG (fun h12 => ?_)
  refine r_iald (pc := 34) (i := (v0 + 1)) (sh4_1 hv0) (ln4_1 hv0) h12 hG dX4_carry_34 ?_
  refine r_bR hG (fun s14 e16 => ?_)
  refine r_callVv (pc := 35) (As := [.int r9, .int (s5.1 (v0 + 1) (v3).toNatClampNeg)]) (c_Gu_hear X N v1 r9 (s5.1 (v0 + 1) (v3).toNatClampNeg) s5 hv1 s14 e16) (wsOf_at hv1 (by decide) rfl) rfl mfX4_109_X1_hear hyVX1_hear (by decide) (by decide) rfl (Nat.le_of_ble_eq_true rfl) hG dX4_carry_35 rfl (fun n15 => ?_)
  exact r_vret (pc := 38) rfl hG dX4_carry_38
