section GS
variable {X : Cx} {own : String} {cw : ByteArray} {nL d : Nat} {rt : Option FieldType} {ρ : Type} {out : ρ → Option Value × St} {G : GT ρ} {E E1 E2 : Option ρ} {σ σ1 : St} {pc tgt : Nat} {lv : List (Nat × Value)} {st : List Value} {i index : Nat}
theorem r_gsdu (hl0 : Cond.fieldLink own index "GondolaTold$Lamps" "DARK_UNDER" "[I" ∈ gT) (hG : IsG X own cw nL d rt out G) (hd : decode cw pc = .ok (.getstatic index, 3)) (k : G E σ (pc + 3) lv (.ref X.2.2.2.2.1 :: st)) : G E σ pc lv st := by
  obtain ⟨p, e, s, m, args, below, meth, c, hx, hb, hml, hr, hlk, hown, hts, hK, hKs, rfl⟩ := hG
  intro r hE H locs ls hP hS hl
  exact va_gets hx hb hKs.1 hS hown (hts _ hl0) (fun _ h9 => h9) hd (k r hE H locs ls hP hS hl)
theorem r_duald {j : Int32} (hj : inB j 4 = true) (hG : IsG X own cw nL d rt out G) (hd : decode cw pc = .ok (.iaload, 1)) (k : G E σ (pc + 1) lv (.int (duL.getD j.toNatClampNeg 0) :: st)) : G E σ pc lv (.int j :: .ref X.2.2.2.2.1 :: st) := by
  obtain ⟨p, e, s, m, args, below, meth, c, hx, hb, hml, hr, hlk, hown, hts, hK, hKs, rfl⟩ := hG
  intro r hE H locs ls hP hS hl
  exact va_ti hx hb hKs.2.1 hS (inB_vp hj) rfl hd (k r hE H locs ls hP hS hl)
theorem r_gsnu (hl0 : Cond.fieldLink own index "GondolaTold$Reader" "NUMBERS" "[I" ∈ gT) (hG : IsG X own cw nL d rt out G) (hd : decode cw pc = .ok (.getstatic index, 3)) (k : G E σ (pc + 3) lv (.ref X.2.2.2.2.2.1 :: st)) : G E σ pc lv st := by
  obtain ⟨p, e, s, m, args, below, meth, c, hx, hb, hml, hr, hlk, hown, hts, hK, hKs, rfl⟩ := hG
  intro r hE H locs ls hP hS hl
  exact va_gets hx hb hKs.2.2.1 hS hown (hts _ hl0) (fun _ h9 => h9) hd (k r hE H locs ls hP hS hl)
theorem r_nuald {j : Int32} (hj : inB j 6 = true) (hG : IsG X own cw nL d rt out G) (hd : decode cw pc = .ok (.iaload, 1)) (k : G E σ (pc + 1) lv (.int (nuL.getD j.toNatClampNeg 0) :: st)) : G E σ pc lv (.int j :: .ref X.2.2.2.2.2.1 :: st) := by
  obtain ⟨p, e, s, m, args, below, meth, c, hx, hb, hml, hr, hlk, hown, hts, hK, hKs, rfl⟩ := hG
  intro r hE H locs ls hP hS hl
  exact va_ti hx hb hKs.2.2.2.1 hS (inB_vp hj) rfl hd (k r hE H locs ls hP hS hl)
theorem r_ldcS (q : Nat) (hq : q < 6) (hi : sIdx.getD q 0 = index) (hG : IsG X RX6 cw nL d rt out G) (hd : decode cw pc = .ok (.ldc index, 2)) (k : G E σ (pc + 2) lv (.ref (X.2.2.2.2.2.2.1 q) :: st)) : G E σ pc lv st := by
  obtain ⟨p, e, s, m, args, below, meth, c, hx, hb, hml, hr, hlk, hown, hts, hK, hKs, rfl⟩ := hG
  intro r hE H locs ls hP hS hl
  subst hi
  exact va_ldcS hx hb hown (hKs.2.2.2.2.2.2.1 q hq) hd (k r hE H locs ls hP hS hl)
theorem r_gsC (hl0 : Cond.fieldLink own index "java/lang/String" "COMPACT_STRINGS" "Z" ∈ gT) (hG : IsG X own cw nL d rt out G) (hd : decode cw pc = .ok (.getstatic index, 3)) (k : G E σ (pc + 3) lv (.int 1 :: st)) : G E σ pc lv st := by
  obtain ⟨p, e, s, m, args, below, meth, c, hx, hb, hml, hr, hlk, hown, hts, hK, hKs, rfl⟩ := hG
  intro r hE H locs ls hP hS hl
  exact va_gets hx hb hKs.2.2.2.2.1 hS hown (hts _ hl0) (fun _ h9 => h9) hd (k r hE H locs ls hP hS hl)
theorem r_gsF (hl0 : Cond.fieldLink own index "jdk/internal/util/Preconditions" "SIOOBE_FORMATTER" "Ljava/util/function/BiFunction;" ∈ gT) (hG : IsG X own cw nL d rt out G) (hd : decode cw pc = .ok (.getstatic index, 3)) (k : ∀ v : Value, v.category = 1 → G E σ (pc + 3) lv (v :: st)) : G E σ pc lv st := by
  obtain ⟨p, e, s, m, args, below, meth, c, hx, hb, hml, hr, hlk, hown, hts, hK, hKs, rfl⟩ := hG
  intro r hE H locs ls hP hS hl
  rcases hKs.2.2.2.2.2.2.2.2 with h | ⟨t, h⟩
  · exact va_gets hx hb h hS hown (hts _ hl0) (fun _ h9 => h9) hd (k _ rfl r hE H locs ls hP hS hl)
  · exact va_gets hx hb h hS hown (hts _ hl0) (fun _ h9 => h9) hd (k _ rfl r hE H locs ls hP hS hl)
theorem r_sval {q : Nat} (hq : q < 6) (hl0 : Cond.fieldLink own index "java/lang/String" "value" "[B" ∈ gT) (hG : IsG X own cw nL d rt out G) (hd : decode cw pc = .ok (.getfield index, 3)) (k : G E σ (pc + 3) lv (.ref (X.2.2.2.2.2.2.2 q) :: st)) : G E σ pc lv (.ref (X.2.2.2.2.2.2.1 q) :: st) := by
  obtain ⟨p, e, s, m, args, below, meth, c, hx, hb, hml, hr, hlk, hown, hts, hK, hKs, rfl⟩ := hG
  intro r hE H locs ls hP hS hl
  exact vk_getf hx hb (hKs.2.2.2.2.2.1.1 q hq).2.2.1 hS hown (hts _ hl0) (fun _ h9 => h9) hd (k r hE H locs ls hP hS hl)
theorem r_scod {q : Nat} (hq : q < 6) (hl0 : Cond.fieldLink own index "java/lang/String" "coder" "B" ∈ gT) (hG : IsG X own cw nL d rt out G) (hd : decode cw pc = .ok (.getfield index, 3)) (k : G E σ (pc + 3) lv (.int 0 :: st)) : G E σ pc lv (.ref (X.2.2.2.2.2.2.1 q) :: st) := by
  obtain ⟨p, e, s, m, args, below, meth, c, hx, hb, hml, hr, hlk, hown, hts, hK, hKs, rfl⟩ := hG
  intro r hE H locs ls hP hS hl
  exact vk_getf hx hb (hKs.2.2.2.2.2.1.1 q hq).2.1 hS hown (hts _ hl0) (fun _ h9 => h9) hd (k r hE H locs ls hP hS hl)
theorem r_tlen {q : Nat} (hq : q < 6) (hG : IsG X own cw nL d rt out G) (hd : decode cw pc = .ok (.arraylength, 1)) (k : G E σ (pc + 1) lv (.int (Int32.ofNat (slen.getD q 0)) :: st)) : G E σ pc lv (.ref (X.2.2.2.2.2.2.2 q) :: st) := by
  obtain ⟨p, e, s, m, args, below, meth, c, hx, hb, hml, hr, hlk, hown, hts, hK, hKs, rfl⟩ := hG
  intro r hE H locs ls hP hS hl
  obtain ⟨cell, h1, h2, h3, h4, h5, h6, h7⟩ := ((hKs.2.2.2.2.2.1.1 q hq).2.2.2).kept hS.2.1
  exact W.alen hx hb h1 h2 h5 rfl rfl hd (k r hE H locs ls hP hS hl)
theorem r_tbald {q : Nat} {j : Int32} (hq : q < 6) (hj : inB j (slen.getD q 0) = true) (hG : IsG X own cw nL d rt out G) (hd : decode cw pc = .ok (.baload, 1)) (k : G E σ (pc + 1) lv (.int ((sbyt.getD q []).getD j.toNatClampNeg 0) :: st)) : G E σ pc lv (.int j :: .ref (X.2.2.2.2.2.2.2 q) :: st) := by
  obtain ⟨p, e, s, m, args, below, meth, c, hx, hb, hml, hr, hlk, hown, hts, hK, hKs, rfl⟩ := hG
  intro r hE H locs ls hP hS hl
  exact va_tb hx hb (hKs.2.2.2.2.2.1.1 q hq).2.2.2 hS (inB_vp hj) rfl hd (k r hE H locs ls hP hS hl)
theorem r_i2c {x : Int32} (hG : IsG X own cw nL d rt out G) (hd : decode cw pc = .ok (.i2c, 1)) (k : G E σ (pc + 1) lv (.int ((x.toUInt32 % 65536).toInt32) :: st)) : G E σ pc lv (.int x :: st) := by
  obtain ⟨p, e, s, m, args, below, meth, c, hx, hb, hml, hr, hlk, hown, hts, hK, hKs, rfl⟩ := hG
  intro r hE H locs ls hP hS hl
  exact lv_i2c hx hb hd rfl (k r hE H locs ls hP hS hl)
theorem r_callT {y : MethodName} {cw1 : ByteArray} {nL1 d1 n q : Nat} {rt1 : Option FieldType} {As : List Value} {rv : Option Value} (hq : q < 6) (hcl : y.cls = "java/lang/String")
    (hC : Ctr X y cw1 nL1 rt1 d1 (.ref (X.2.2.2.2.2.2.1 q) :: As) σ rv σ1)
    (hm : Cond.methodLink own index y ∈ gT ∧ Cond.instanceMethod y ∈ gT ∧ Cond.selects y.cls y y ∈ gT ∧ Cond.initialized y.cls ∈ gT ∧ Cond.code y cw1 nL1 rt1 ∈ gT)
    (hy : y.cls = y.cls ∧ y.cls ≠ "java/lang/invoke/MethodHandle" ∧ y.cls ≠ "java/lang/invoke/VarHandle" ∧ (parseMethodDescriptor y.desc).map (fun d => d.parameters.length) = some n) (hdl : d1 < d) (hnl : nL1 ≤ 40) (hn : As.length = n) (hst : (st.map fun v => v.category).sum ≤ 8)
    (hG : IsG X own cw nL d rt out G) (hd : decode cw pc = .ok (.invokevirtual index, 3)) {st0 : List Value} (hs0 : st0 = As.reverse ++ .ref (X.2.2.2.2.2.2.1 q) :: st) (k : rvN rt1 rv → G E σ1 (pc + 3) lv (rv.toList ++ st)) : G E σ pc lv st0 := by
  obtain ⟨p, e, s, m, args, below, meth, c, hx, hb, hml, hr, hlk, hown, hts, hK, hKs, rfl⟩ := hG
  intro r hE H locs ls hP hS hl
  subst hs0
  have hG1 : GoodIn gT (wsV own index y.cls y (.code y cw1 nL1 rt1 :: gT)) := fun w hw => by
    rcases List.mem_append.mp hw with hw | hw
    · have hw2 : w ∈ gT := by
        simp only [List.mem_cons, List.not_mem_nil, or_false] at hw
        rcases hw with rfl | rfl | rfl | rfl
        · exact hm.1
        · exact hm.2.1
        · exact hm.2.2.1
        · exact hm.2.2.2.1
      exact ⟨hw2, good_of_word (List.all_eq_true.mp goodAll _ hw2)⟩
    · exact goodTbl hm.2.2.2.2 goodAll w hw
  refine callGo (va_runV (As := As) (rest := st) ⟨hx, hb, hml, hown, hts⟩ hC (cwV n hts hG1 rfl rfl rfl hy (callR hdl hnl)) ⟨Ent.blind, by rw [hcl]; exact vk_recv hKs.2.2.2.2.2.1 hq hS, fun U hU hW => ⟨rfl, Ent.go hP hK hKs hS hU hW⟩⟩ rfl hn hl.1 rfl (lv_room hst) hd ⟨Nat.le_refl _, Nat.le_refl _⟩) hS (fun hn H1 locs1 hP1 hS1 => k hn r hE H1 locs1 ls hP1 hS1 hl)
end GS
theorem rvN_y0 : rvN (some .byte) (some (.int 0)) := fun ty w h1 h2 => by cases h1; cases h2; decide
theorem c_coder (X : Cx) (q : Nat) (hq : q < 6) (σ : St) : Ctr X yJ0_coder_7d493 cJ0_coder_7d493 1 (some .byte) 1 [.ref (X.2.2.2.2.2.2.1 q)] σ (some (.int 0)) σ := by
  refine Ctr.of (out := oI σ) (E := some 0) rfl (Nat.le_of_ble_eq_true rfl) (fun G hG => ?_) _ rfl
  refine r_gsC (pc := 0) lk599 hG dJ0_coder_7d493_0 ?_
  refine r_if_eqF (pc := 3) (tgt := 13) (by decide) (by decide) hG dJ0_coder_7d493_3 ?_
  refine r_aload_n (pc := 6) 0 0 rfl rfl hG dJ0_coder_7d493_6 ?_
  refine r_scod (pc := 7) hq lk1609 hG dJ0_coder_7d493_7 ?_
  refine r_goto (pc := 10) (tgt := 14) (by decide) hG dJ0_coder_7d493_10 ?_
  exact r_tret (pc := 14) rvN_y0 rfl hG dJ0_coder_7d493_14
theorem c_isLatin1 (X : Cx) (q : Nat) (hq : q < 6) (σ : St) : Ctr X yJ0_isLatin1_aae02 cJ0_isLatin1_aae02 1 (some .boolean) 1 [.ref (X.2.2.2.2.2.2.1 q)] σ (some (.int 1)) σ := by
  refine Ctr.of (out := oI σ) (E := some 1) rfl (Nat.le_of_ble_eq_true rfl) (fun G hG => ?_) _ rfl
  refine r_gsC (pc := 0) lk599 hG dJ0_isLatin1_aae02_0 ?_
  refine r_if_eqF (pc := 3) (tgt := 17) (by decide) (by decide) hG dJ0_isLatin1_aae02_3 ?_
  refine r_aload_n (pc := 6) 0 0 rfl rfl hG dJ0_isLatin1_aae02_6 ?_
  refine r_scod (pc := 7) hq lk1609 hG dJ0_isLatin1_aae02_7 ?_
  refine r_if_neF (pc := 10) (tgt := 17) rfl (by decide) hG dJ0_isLatin1_aae02_10 ?_
  refine r_iconst (pc := 13) (v := 1) (by decide) hG dJ0_isLatin1_aae02_13 ?_
  refine r_goto (pc := 14) (tgt := 18) (by decide) hG dJ0_isLatin1_aae02_14 ?_
  exact r_tret (pc := 18) rvN_b1 rfl hG dJ0_isLatin1_aae02_18
theorem len_ok : ∀ q, q < 6 → Int32.ofNat (slen.getD q 0) >>> ((0 : Int32) &&& 31) = Int32.ofNat (slen.getD q 0) := by decide +kernel
theorem c_slength (X : Cx) (q : Nat) (hq : q < 6) (σ : St) : Ctr X yJ0_length_8abf5 cJ0_length_8abf5 1 (some .int) 2 [.ref (X.2.2.2.2.2.2.1 q)] σ (some (.int (Int32.ofNat (slen.getD q 0)))) σ := by
  refine Ctr.of (out := oI σ) (E := some (Int32.ofNat (slen.getD q 0))) rfl (Nat.le_of_ble_eq_true rfl) (fun G hG => ?_) _ rfl
  refine r_aload_n (pc := 0) 0 0 rfl rfl hG dJ0_length_8abf5_0 ?_
  refine r_sval (pc := 1) hq lk1608 hG dJ0_length_8abf5_1 ?_
  refine r_tlen (pc := 4) hq hG dJ0_length_8abf5_4 ?_
  refine r_aload_n (pc := 5) 0 0 rfl rfl hG dJ0_length_8abf5_5 ?_
  refine r_callT (pc := 6) (As := []) hq rfl (c_coder X q hq σ) mfJ0_335_J0_coder_7d493 hyVJ0_coder_7d493 (by decide) (by decide) rfl (Nat.le_of_ble_eq_true rfl) hG dJ0_length_8abf5_6 rfl (fun _ => ?_)
  refine r_ishr (pc := 9) hG dJ0_length_8abf5_9 ?_
  rw [len_ok q hq]
  exact r_iret (pc := 10) rfl hG dJ0_length_8abf5_10
theorem sl3 (i n : Int32) (v : Value) (hv : v.category = 1) : (lg_sl [Value.int i, Value.int n, v]).length ≤ 3 := by
  show ([Slot.val (.int i)] ++ ([Slot.val (.int n)] ++ ((if v.category = 2 then [Slot.val v, Slot.second] else [Slot.val v]) ++ []))).length ≤ 3
  rw [if_neg (by rw [hv]; decide)]
  exact Nat.le_refl 3
theorem c_pcheck (X : Cx) (i n : Int32) (v : Value) (hv : v.category = 1) (σ : St) (h1 : ¬ i < 0) (h2 : i < n) : Ctr X yJ3_checkIndex_8e157 cJ3_checkIndex_8e157 3 (some .int) 1 [.int i, .int n, v] σ (some (.int i)) σ := by
  refine Ctr.of (out := oI σ) (E := some i) rfl (sl3 i n v hv) (fun G hG => ?_) _ rfl
  have hlv : lv_args 0 [.int i, .int n, v] = [(0, .int i), (1, .int n), (2, v)] := rfl
  rw [hlv]
  refine r_iload_n (pc := 0) 0 0 rfl rfl hG dJ3_checkIndex_8e157_0 ?_
  refine r_if_ltF (pc := 1) (tgt := 9) h1 (by decide) hG dJ3_checkIndex_8e157_1 ?_
  refine r_iload_n (pc := 4) 0 0 rfl rfl hG dJ3_checkIndex_8e157_4 ?_
  refine r_iload_n (pc := 5) 1 1 rfl rfl hG dJ3_checkIndex_8e157_5 ?_
  refine r_icmp_ltT (pc := 6) (tgt := 16) h2 (by decide) hG dJ3_checkIndex_8e157_6 ?_
  refine r_iload_n (pc := 16) 0 0 rfl rfl hG dJ3_checkIndex_8e157_16 ?_
  exact r_iret (pc := 17) rfl hG dJ3_checkIndex_8e157_17
theorem c_scheck (X : Cx) (i n : Int32) (σ : St) (h1 : ¬ i < 0) (h2 : i < n) : Ctr X yJ0_checkIndex_df160 cJ0_checkIndex_df160 2 none 2 [.int i, .int n] σ none σ := by
  refine Ctr.of (out := oWV) (E := some σ) rfl (Nat.le_of_ble_eq_true rfl) (fun G hG => ?_) _ rfl
  refine r_iload_n (pc := 0) 0 0 rfl rfl hG dJ0_checkIndex_df160_0 ?_
  refine r_iload_n (pc := 1) 1 1 rfl rfl hG dJ0_checkIndex_df160_1 ?_
  refine r_gsF (pc := 2) lk615 hG dJ0_checkIndex_df160_2 (fun v hv => ?_)
  refine r_callSi (pc := 5) (As := [.int i, .int n, v]) (c_pcheck X i n v hv σ h1 h2) mfJ0_1059_J3_checkIndex_8e157 hySJ3_checkIndex_8e157 (by decide) (by decide) rfl (Nat.le_of_ble_eq_true rfl) hG dJ0_checkIndex_df160_5 rfl (fun _ => ?_)
  refine r_pop (pc := 8) rfl hG dJ0_checkIndex_df160_8 ?_
  exact r_vret (pc := 9) rfl hG dJ0_checkIndex_df160_9
theorem chr_ok : ∀ q, q < 6 → ∀ j, j < slen.getD q 0 → (((sbyt.getD q []).getD j 0 &&& 255).toUInt32 % 65536).toInt32 = (sbyt.getD q []).getD j 0 ∧ narrow .char (.int ((sbyt.getD q []).getD j 0)) = .int ((sbyt.getD q []).getD j 0) := by decide +kernel
theorem len_lt : ∀ q, q < 6 → slen.getD q 0 < 6 := by decide +kernel
theorem inB_cmp {j : Int32} {n : Nat} (hn : n < 2 ^ 31) (h : inB j n = true) : ¬ j < 0 ∧ j < Int32.ofNat n := by
  obtain ⟨k, hk, rfl⟩ := vp_in_of (inB_vp h) hn
  exact ⟨nI_pos (by omega), nI_lt hk hn⟩
theorem c_lcharAt (X : Cx) (q : Nat) (hq : q < 6) (j : Int32) (hj : inB j (slen.getD q 0) = true) (σ : St) : Ctr X yJ1_charAt_3b067 cJ1_charAt_3b067 2 (some .char) 3 [.ref (X.2.2.2.2.2.2.2 q), .int j] σ (some (.int ((sbyt.getD q []).getD j.toNatClampNeg 0))) σ := by
  refine Ctr.of (out := oI σ) (E := some ((sbyt.getD q []).getD j.toNatClampNeg 0)) rfl (Nat.le_of_ble_eq_true rfl) (fun G hG => ?_) _ rfl
  obtain ⟨h1, h2⟩ := inB_cmp (by have := len_lt q hq; omega) hj
  refine r_iload_n (pc := 0) 1 1 rfl rfl hG dJ1_charAt_3b067_0 ?_
  refine r_aload_n (pc := 1) 0 0 rfl rfl hG dJ1_charAt_3b067_1 ?_
  refine r_tlen (pc := 2) hq hG dJ1_charAt_3b067_2 ?_
  refine r_callSv (pc := 3) (As := [.int j, .int (Int32.ofNat (slen.getD q 0))]) (c_scheck X j _ σ h1 h2) mfJ1_9_J0_checkIndex_df160 hySJ0_checkIndex_df160 (by decide) (by decide) rfl (Nat.le_of_ble_eq_true rfl) hG dJ1_charAt_3b067_3 rfl (fun _ => ?_)
  refine r_aload_n (pc := 6) 0 0 rfl rfl hG dJ1_charAt_3b067_6 ?_
  refine r_iload_n (pc := 7) 1 1 rfl rfl hG dJ1_charAt_3b067_7 ?_
  refine r_tbald (pc := 8) hq hj hG dJ1_charAt_3b067_8 ?_
  refine r_sipush (pc := 9) (v := 255) (by decide) hG dJ1_charAt_3b067_9 ?_
  refine r_iand (pc := 12) hG dJ1_charAt_3b067_12 ?_
  refine r_i2c (pc := 13) hG dJ1_charAt_3b067_13 ?_
  obtain ⟨e1, e2⟩ := chr_ok q hq _ (inB_lt hj)
  rw [e1]
  exact r_tret (pc := 14) (fun ty w a1 a2 => by cases a1; cases a2; exact e2) rfl hG dJ1_charAt_3b067_14
theorem c_scharAt (X : Cx) (q : Nat) (hq : q < 6) (j : Int32) (hj : inB j (slen.getD q 0) = true) (σ : St) : Ctr X yJ0_charAt_5068e cJ0_charAt_5068e 2 (some .char) 4 [.ref (X.2.2.2.2.2.2.1 q), .int j] σ (some (.int ((sbyt.getD q []).getD j.toNatClampNeg 0))) σ := by
  refine Ctr.of (out := oI σ) (E := some ((sbyt.getD q []).getD j.toNatClampNeg 0)) rfl (Nat.le_of_ble_eq_true rfl) (fun G hG => ?_) _ rfl
  refine r_aload_n (pc := 0) 0 0 rfl rfl hG dJ0_charAt_5068e_0 ?_
  refine r_callT (pc := 1) (As := []) hq rfl (c_isLatin1 X q hq σ) mfJ0_492_J0_isLatin1_aae02 hyVJ0_isLatin1_aae02 (by decide) (by decide) rfl (Nat.le_of_ble_eq_true rfl) hG dJ0_charAt_5068e_1 rfl (fun _ => ?_)
  refine r_if_eqF (pc := 4) (tgt := 16) (by decide) (by decide) hG dJ0_charAt_5068e_4 ?_
  refine r_aload_n (pc := 7) 0 0 rfl rfl hG dJ0_charAt_5068e_7 ?_
  refine r_sval (pc := 8) hq lk1608 hG dJ0_charAt_5068e_8 ?_
  refine r_iload_n (pc := 11) 1 1 rfl rfl hG dJ0_charAt_5068e_11 ?_
  refine r_callSi (pc := 12) (As := [.ref (X.2.2.2.2.2.2.2 q), .int j]) (c_lcharAt X q hq j hj σ) mfJ0_495_J1_charAt_3b067 hySJ1_charAt_3b067 (by decide) (by decide) rfl (Nat.le_of_ble_eq_true rfl) hG dJ0_charAt_5068e_12 rfl (fun hn => ?_)
  exact r_tret (pc := 15) hn rfl hG dJ0_charAt_5068e_15
section GS2
variable {X : Cx} {cw : ByteArray} {nL d : Nat} {rt : Option FieldType} {ρ : Type} {out : ρ → Option Value × St} {G : GT ρ} {E : Option ρ} {σ : St} {pc : Nat} {lv : List (Nat × Value)} {st : List Value}
theorem r_slen {q : Nat} (hq : q < 6) (hm : Cond.methodLink RX6 135 yJ0_length_8abf5 ∈ gT) (hdl : 2 < d) (hst : (st.map fun v => v.category).sum ≤ 8) (hG : IsG X RX6 cw nL d rt out G) (hd : decode cw pc = .ok (.invokevirtual 135, 3)) (k : G E σ (pc + 3) lv (.int (Int32.ofNat (slen.getD q 0)) :: st)) : G E σ pc lv (.ref (X.2.2.2.2.2.2.1 q) :: st) :=
  r_callT (As := []) hq rfl (c_slength X q hq σ) mfX6_135_J0_length_8abf5 hyVJ0_length_8abf5 hdl (by decide) rfl hst hG hd rfl (fun _ => k)
theorem r_scharAt {q : Nat} {j : Int32} (hq : q < 6) (hj : inB j (slen.getD q 0) = true) (hm : Cond.methodLink RX6 139 yJ0_charAt_5068e ∈ gT) (hdl : 4 < d) (hst : (st.map fun v => v.category).sum ≤ 8) (hG : IsG X RX6 cw nL d rt out G) (hd : decode cw pc = .ok (.invokevirtual 139, 3)) (k : G E σ (pc + 3) lv (.int ((sbyt.getD q []).getD j.toNatClampNeg 0) :: st)) : G E σ pc lv (.int j :: .ref (X.2.2.2.2.2.2.1 q) :: st) :=
  r_callT (As := [.int j]) hq rfl (c_scharAt X q hq j hj σ) mfX6_139_J0_charAt_5068e hyVJ0_charAt_5068e hdl (by decide) rfl hst hG hd rfl (fun _ => k)
end GS2
