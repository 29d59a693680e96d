/-! walks, by program -/
theorem iX3_startPlan_X3 : ∀ w ∈ wsX30, w ∈ wsX3_startPlan := fun w h => List.mem_cons_of_mem _ (List.mem_append_right _ h)
set_option maxHeartbeats 4000000 in
set_option maxRecDepth 100000 in
theorem kX3_startPlan (l : Launch) (D : va_G) (ad : Nat → Nat) (cI cZ : ClassId) (hDD : ∀ S, va_D (bA ad) (bW ad cI cZ S)) (S : St) : ∀ So, f3_startPlan S  = some So → Met l yX3_startPlan wsX3_startPlan { frames := 0, cells := 0, slots := 0, locals := 0 } (va_Pc [.ref (ad 1)] (kPre D cI cZ (bW ad cI cZ S))) (kQv D cI cZ (bA ad) (bW ad cI cZ So)) 0 0 (bA ad) := by
  intro So hE
  refine kMet_of (by decide) rfl (Nat.le_of_ble_eq_true rfl) ?_
  intro p e s m args below meth c ls hx hb hr hml hown hlk hts hK hP hS hl
  have hl : lv_has ls 2 [(0, .ref (ad 1))] := hl
  have hown : s.vm.findClass RX3 = some m.cls := hown
  have H2 : ∀ (n2 : Nat) (v1 : Int32) (S : St), f3_startPlan_L2  n2 v1 S = some So → ∀ (H : Heap) (locs : List Loc) (ls : Array Slot), va_P D vwCl (bW ad cI cZ S) H → va_S (bA ad) s.heap H locs → lv_has ls 2 [(0, .ref (ad 1)), (1, .int v1)] → W p l e (headSpec wsX3_startPlan { frames := 0, cells := 0, slots := 0, locals := 0 }).room s m args below meth c H locs 0 0 (MQ below (kQv D cI cZ (bA ad) (bW ad cI cZ So)) args s 0 0 (bA ad)) (F0 m 2 ls []) := by
    intro n2
    induction n2 with
    | zero => intro v1 S hE; exact absurd (show (none : Option (St)) = some So from hE) (fun h => nomatch h)
    | succ n2 ih2 =>
      intro v1 S hE H locs ls hP hS hl
      have hE : f3_startPlan_L2b  (f3_startPlan_L2 n2) v1 S = some So := hE
      unfold f3_startPlan_L2b at hE
      refine lv_iload_n hx hb dX3_startPlan_2 rfl (lv_at hl 1 rfl) ?_
      refine lv_aload_n hx hb dX3_startPlan_3 rfl (lv_at hl 0 rfl) ?_
      refine va_get (D := D) (ci := 2) (v := .int (S.1 1)) (C := RX3) (T := TX3) (N := 8) hx hb hts iX3_startPlan_X3 hown hK.1 hP 1 rfl rfl 6 (by decide) (hts (.fieldLink RX3 30 "Bumpherald$Packages" "count" "I") (List.mem_of_getElem? (i := 1) rfl)) (fun _ h9 => h9) rfl dX3_startPlan_4 ?_
      refine r_icmp_ge (tgt := 28) hx hb dX3_startPlan_7 (by decide) hE (fun c1 hE => ?_) (fun c1 hE => ?_)
      · exact k_vret (Wd := bW ad cI cZ) hx hb hr hlk hK hP hS hE dX3_startPlan_28
      · refine lv_aload_n hx hb dX3_startPlan_10 rfl (lv_at hl 0 rfl) ?_
        refine va_get (D := D) (ci := 2) (v := .ref (ad 7)) (C := RX3) (T := TX3) (N := 8) hx hb hts iX3_startPlan_X3 hown hK.1 hP 1 rfl rfl 1 (by decide) (hts (.fieldLink RX3 15 "Bumpherald$Packages" "planned" "[I") (List.mem_of_getElem? (i := 2) rfl)) (fun _ h9 => h9) rfl dX3_startPlan_11 ?_
        refine lv_iload_n hx hb dX3_startPlan_14 rfl (lv_at hl 1 rfl) ?_
        refine lv_aload_n hx hb dX3_startPlan_15 rfl (lv_at hl 0 rfl) ?_
        refine va_get (D := D) (ci := 2) (v := .ref (ad 6)) (C := RX3) (T := TX3) (N := 8) hx hb hts iX3_startPlan_X3 hown hK.1 hP 1 rfl rfl 0 (by decide) (hts (.fieldLink RX3 9 "Bumpherald$Packages" "versions" "[I") (List.mem_of_getElem? (i := 3) rfl)) (fun _ h9 => h9) rfl dX3_startPlan_16 ?_
        refine lv_iload_n hx hb dX3_startPlan_19 rfl (lv_at hl 1 rfl) ?_
        refine r_iald (Wd := bW ad cI cZ) (k := 0) (n := 12) hx hb hK hP 6 rfl hE dX3_startPlan_20 (fun x2 hE => ?_)
        refine r_iast (Wd := bW ad cI cZ) (k := 1) (n := 12) hx hb hDD hK hP hS 7 rfl (bU1 ..) hE dX3_startPlan_21 (fun S3 H locs hE hP hS => ?_)
        refine lv_iinc (v := v1 + 1) (lv' := [(1, .int (v1 + 1)), (0, .ref (ad 1))]) hx hb dX3_startPlan_22 hl (k := 1) rfl rfl (by decide) rfl (fun ls hl => ?_)
        refine lv_goto (tgt := 2) hx hb dX3_startPlan_25 (by decide) ?_
        exact ih2 (v1 + 1) S3 hE _ _ _ hP hS (lv_sub hl [1, 0] rfl)
  unfold f3_startPlan at hE
  refine lv_iconst (v := 0) hx hb dX3_startPlan_0 (by decide) ?_
  refine lv_istore_n (lv' := [(1, .int 0), (0, .ref (ad 1))]) hx hb dX3_startPlan_1 rfl hl (by decide) rfl (fun ls hl => ?_)
  exact H2 2000 0 S hE _ _ _ hP hS (lv_sub hl [1, 0] rfl)
set_option maxHeartbeats 4000000 in
set_option maxRecDepth 100000 in
theorem kX4_isIn (l : Launch) (D : va_G) (ad : Nat → Nat) (cI cZ : ClassId) (hDD : ∀ S, va_D (bA ad) (bW ad cI cZ S)) (S : St) (v1 : Int32) (v2 : Int32) : ∀ So ro, f4_isIn S v1 v2 = some (So, ro) → Met l yX4_isIn wsX4_isIn { frames := 0, cells := 0, slots := 0, locals := 0 } (va_Pc [.ref (ad 3), .int v1, .int v2] (kPre D cI cZ (bW ad cI cZ S))) (kQi D cI cZ (bA ad) (bW ad cI cZ So) ro) 0 0 (bA ad) := by
  intro So ro hE
  refine kMet_of (by decide) rfl (Nat.le_of_ble_eq_true rfl) ?_
  intro p e s m args below meth c ls hx hb hr hml hown hlk hts hK hP hS hl
  have hl : lv_has ls 3 [(0, .ref (ad 3)), (1, .int v1), (2, .int v2)] := hl
  have hown : s.vm.findClass RX4 = some m.cls := hown
  unfold f4_isIn at hE
  refine lv_iload_n hx hb dX4_isIn_0 rfl (lv_at hl 2 rfl) ?_
  refine lv_iload_n hx hb dX4_isIn_1 rfl (lv_at hl 1 rfl) ?_
  refine lv_ishr hx hb dX4_isIn_2 ?_
  refine lv_iconst (v := 1) hx hb dX4_isIn_3 (by decide) ?_
  refine lv_iand hx hb dX4_isIn_4 ?_
  refine r_if_eq (tgt := 12) hx hb dX4_isIn_5 (by decide) hE (fun c1 hE => ?_) (fun c1 hE => ?_)
  · refine lv_iconst (v := 0) hx hb dX4_isIn_12 (by decide) ?_
    exact k_zret (Wd := bW ad cI cZ) hx hb hr hlk (by decide +kernel) hK hP hS hE dX4_isIn_13
  · refine lv_iconst (v := 1) hx hb dX4_isIn_8 (by decide) ?_
    refine lv_goto (tgt := 13) hx hb dX4_isIn_9 (by decide) ?_
    exact k_zret (Wd := bW ad cI cZ) hx hb hr hlk (by decide +kernel) hK hP hS hE dX4_isIn_13
theorem iX4_plan_X3 : ∀ w ∈ wsX30, w ∈ wsX4_plan := fun w h => List.mem_cons_of_mem _ (List.mem_append_right _ h)
theorem iX4_plan_X4 : ∀ w ∈ wsX40, w ∈ wsX4_plan := fun w h => List.mem_cons_of_mem _ (List.mem_append_left _ (List.mem_append_right _ h))
set_option maxHeartbeats 4000000 in
set_option maxRecDepth 100000 in
theorem kX4_plan (l : Launch) (D : va_G) (ad : Nat → Nat) (cI cZ : ClassId) (hDD : ∀ S, va_D (bA ad) (bW ad cI cZ S)) (S : St) (v1 : Int32) : ∀ So, f4_plan S v1 = some So → Met l yX4_plan wsX4_plan { frames := 1, cells := 0, slots := 0, locals := 22 } (va_Pc [.ref (ad 3), .int v1] (kPre D cI cZ (bW ad cI cZ S))) (kQv D cI cZ (bA ad) (bW ad cI cZ So)) 0 0 (bA ad) := by
  intro So hE
  refine kMet_of (by decide) rfl (Nat.le_of_ble_eq_true rfl) ?_
  intro p e s m args below meth c ls hx hb hr hml hown hlk hts hK hP hS hl
  have hl : lv_has ls 3 [(0, .ref (ad 3)), (1, .int v1)] := hl
  have hown : s.vm.findClass RX4 = some m.cls := hown
  have H9 : ∀ (n9 : Nat) (v1 : Int32) (v2 : Int32) (S : St), f4_plan_L9  n9 v1 v2 S = some So → ∀ (H : Heap) (locs : List Loc) (ls : Array Slot), va_P D vwCl (bW ad cI cZ S) H → va_S (bA ad) s.heap H locs → lv_has ls 3 [(0, .ref (ad 3)), (1, .int v1), (2, .int v2)] → W p l e (headSpec wsX4_plan { frames := 1, cells := 0, slots := 0, locals := 22 }).room s m args below meth c H locs 0 0 (MQ below (kQv D cI cZ (bA ad) (bW ad cI cZ So)) args s 0 0 (bA ad)) (F0 m 9 ls []) := by
    intro n9
    induction n9 with
    | zero => intro v1 v2 S hE; exact absurd (show (none : Option (St)) = some So from hE) (fun h => nomatch h)
    | succ n9 ih9 =>
      intro v1 v2 S hE H locs ls hP hS hl
      have hE : f4_plan_L9b  (f4_plan_L9 n9) v1 v2 S = some So := hE
      unfold f4_plan_L9b at hE
      refine lv_iload_n hx hb dX4_plan_9 rfl (lv_at hl 2 rfl) ?_
      refine lv_aload_n hx hb dX4_plan_10 rfl (lv_at hl 0 rfl) ?_
      refine va_get (D := D) (ci := 3) (v := .int (S.1 5)) (C := RX4) (T := TX4) (N := 12) hx hb hts iX4_plan_X4 hown hK.1 hP 3 rfl rfl 11 (by decide) (hts (.fieldLink RX4 44 "Bumpherald$Raises" "openCount" "I") (List.mem_of_getElem? (i := 2) rfl)) (fun _ h9 => h9) rfl dX4_plan_11 ?_
      refine r_icmp_ge (tgt := 62) hx hb dX4_plan_14 (by decide) hE (fun c1 hE => ?_) (fun c1 hE => ?_)
      · exact k_vret (Wd := bW ad cI cZ) hx hb hr hlk hK hP hS hE dX4_plan_62
      · refine lv_aload_n hx hb dX4_plan_17 rfl (lv_at hl 0 rfl) ?_
        refine lv_iload_n hx hb dX4_plan_18 rfl (lv_at hl 2 rfl) ?_
        refine lv_iload_n hx hb dX4_plan_19 rfl (lv_at hl 1 rfl) ?_
        refine r_callVi (Wd := bW ad cI cZ) (C := RX4) [.int v2, .int v1] [] ⟨hx, hb, hml, hown, hts⟩ (kX4_isIn l D ad cI cZ hDD S v2 v1) (cwV 2 hts gX4_plan_X4_isIn rfl rfl rfl (by decide +kernel) ⟨Nat.le_of_ble_eq_true rfl, Nat.le_of_ble_eq_true rfl⟩) (va_recv hK.1 hP (ci := 3) (q0 := 3) rfl rfl) hK hP hS (fun _ h9 => h9) rfl hl.1 rfl (Nat.le_of_ble_eq_true rfl) ⟨Nat.zero_le _, Nat.zero_le _⟩ hE dX4_plan_20 (fun S3 x2 H locs hE hP hS => ?_)
        refine r_if_eq (tgt := 56) hx hb dX4_plan_23 (by decide) hE (fun c4 hE => ?_) (fun c4 hE => ?_)
        · refine lv_iinc (v := v2 + 1) (lv' := [(2, .int (v2 + 1)), (0, .ref (ad 3)), (1, .int v1)]) hx hb dX4_plan_56 hl (k := 2) rfl rfl (by decide) rfl (fun ls hl => ?_)
          refine lv_goto (tgt := 9) hx hb dX4_plan_59 (by decide) ?_
          exact ih9 v1 (v2 + 1) S3 hE _ _ _ hP hS (lv_sub hl [1, 2, 0] rfl)
        · refine lv_aload_n hx hb dX4_plan_26 rfl (lv_at hl 0 rfl) ?_
          refine va_get (D := D) (ci := 3) (v := .ref (ad 1)) (C := RX4) (T := TX4) (N := 12) hx hb hts iX4_plan_X4 hown hK.1 hP 3 rfl rfl 0 (by decide) (hts (.fieldLink RX4 47 "Bumpherald$Raises" "packages" "LBumpherald$Packages;") (List.mem_of_getElem? (i := 1) rfl)) (fun _ h9 => h9) rfl dX4_plan_27 ?_
          refine va_get (D := D) (ci := 2) (v := .ref (ad 7)) (C := RX3) (T := TX3) (N := 8) hx hb hts iX4_plan_X3 hown hK.1 hP 1 rfl rfl 1 (by decide) (hts (.fieldLink RX4 79 "Bumpherald$Packages" "planned" "[I") (List.mem_of_getElem? (i := 3) rfl)) (fun _ h9 => h9) rfl dX4_plan_30 ?_
          refine lv_aload_n hx hb dX4_plan_33 rfl (lv_at hl 0 rfl) ?_
          refine va_get (D := D) (ci := 3) (v := .ref (ad 15)) (C := RX4) (T := TX4) (N := 12) hx hb hts iX4_plan_X4 hown hK.1 hP 3 rfl rfl 1 (by decide) (hts (.fieldLink RX4 9 "Bumpherald$Raises" "packs" "[I") (List.mem_of_getElem? (i := 4) rfl)) (fun _ h9 => h9) rfl dX4_plan_34 ?_
          refine lv_aload_n hx hb dX4_plan_37 rfl (lv_at hl 0 rfl) ?_
          refine va_get (D := D) (ci := 3) (v := .ref (ad 23)) (C := RX4) (T := TX4) (N := 12) hx hb hts iX4_plan_X4 hown hK.1 hP 3 rfl rfl 9 (by decide) (hts (.fieldLink RX4 37 "Bumpherald$Raises" "open" "[I") (List.mem_of_getElem? (i := 5) rfl)) (fun _ h9 => h9) rfl dX4_plan_38 ?_
          refine lv_iload_n hx hb dX4_plan_41 rfl (lv_at hl 2 rfl) ?_
          refine r_iald (Wd := bW ad cI cZ) (k := 17) (n := 10) hx hb hK hP 23 rfl hE dX4_plan_42 (fun x5 hE => ?_)
          refine r_iald (Wd := bW ad cI cZ) (k := 9) (n := 40) hx hb hK hP 15 rfl hE dX4_plan_43 (fun x6 hE => ?_)
          refine lv_aload_n hx hb dX4_plan_44 rfl (lv_at hl 0 rfl) ?_
          refine va_get (D := D) (ci := 3) (v := .ref (ad 16)) (C := RX4) (T := TX4) (N := 12) hx hb hts iX4_plan_X4 hown hK.1 hP 3 rfl rfl 2 (by decide) (hts (.fieldLink RX4 15 "Bumpherald$Raises" "versions" "[I") (List.mem_of_getElem? (i := 6) rfl)) (fun _ h9 => h9) rfl dX4_plan_45 ?_
          refine lv_aload_n hx hb dX4_plan_48 rfl (lv_at hl 0 rfl) ?_
          refine va_get (D := D) (ci := 3) (v := .ref (ad 23)) (C := RX4) (T := TX4) (N := 12) hx hb hts iX4_plan_X4 hown hK.1 hP 3 rfl rfl 9 (by decide) (hts (.fieldLink RX4 37 "Bumpherald$Raises" "open" "[I") (List.mem_of_getElem? (i := 5) rfl)) (fun _ h9 => h9) rfl dX4_plan_49 ?_
          refine lv_iload_n hx hb dX4_plan_52 rfl (lv_at hl 2 rfl) ?_
          refine r_iald (Wd := bW ad cI cZ) (k := 17) (n := 10) hx hb hK hP 23 rfl hE dX4_plan_53 (fun x7 hE => ?_)
          refine r_iald (Wd := bW ad cI cZ) (k := 10) (n := 40) hx hb hK hP 16 rfl hE dX4_plan_54 (fun x8 hE => ?_)
          refine r_iast (Wd := bW ad cI cZ) (k := 1) (n := 12) hx hb hDD hK hP hS 7 rfl (bU1 ..) hE dX4_plan_55 (fun S9 H locs hE hP hS => ?_)
          refine lv_iinc (v := v2 + 1) (lv' := [(2, .int (v2 + 1)), (0, .ref (ad 3)), (1, .int v1)]) hx hb dX4_plan_56 hl (k := 2) rfl rfl (by decide) rfl (fun ls hl => ?_)
          refine lv_goto (tgt := 9) hx hb dX4_plan_59 (by decide) ?_
          exact ih9 v1 (v2 + 1) S9 hE _ _ _ hP hS (lv_sub hl [1, 2, 0] rfl)
  unfold f4_plan at hE
  refine lv_aload_n hx hb dX4_plan_0 rfl (lv_at hl 0 rfl) ?_
  refine va_get (D := D) (ci := 3) (v := .ref (ad 1)) (C := RX4) (T := TX4) (N := 12) hx hb hts iX4_plan_X4 hown hK.1 hP 3 rfl rfl 0 (by decide) (hts (.fieldLink RX4 47 "Bumpherald$Raises" "packages" "LBumpherald$Packages;") (List.mem_of_getElem? (i := 1) rfl)) (fun _ h9 => h9) rfl dX4_plan_1 ?_
  refine r_callVv (Wd := bW ad cI cZ) (C := RX3) [] [] ⟨hx, hb, hml, hown, hts⟩ (kX3_startPlan l D ad cI cZ hDD S) (cwV 0 hts gX4_plan_X3_startPlan rfl rfl rfl (by decide +kernel) ⟨Nat.le_of_ble_eq_true rfl, Nat.le_of_ble_eq_true rfl⟩) (va_recv hK.1 hP (ci := 2) (q0 := 1) rfl rfl) hK hP hS (fun _ h9 => h9) rfl hl.1 rfl (Nat.le_of_ble_eq_true rfl) ⟨Nat.zero_le _, Nat.zero_le _⟩ hE dX4_plan_4 (fun S12 H locs hE hP hS => ?_)
  refine lv_iconst (v := 0) hx hb dX4_plan_7 (by decide) ?_
  refine lv_istore_n (lv' := [(2, .int 0), (0, .ref (ad 3)), (1, .int v1)]) hx hb dX4_plan_8 rfl hl (by decide) rfl (fun ls hl => ?_)
  exact H9 2000 v1 0 S12 hE _ _ _ hP hS (lv_sub hl [1, 2, 0] rfl)
set_option maxHeartbeats 4000000 in
set_option maxRecDepth 100000 in
theorem kX6_isWithin (l : Launch) (D : va_G) (ad : Nat → Nat) (cI cZ : ClassId) (hDD : ∀ S, va_D (bA ad) (bW ad cI cZ S)) (S : St) (v0 : Int32) (v1 : Int32) (v2 : Int32) : ∀ So ro, f6_isWithin S v0 v1 v2 = some (So, ro) → Met l yX6_isWithin wsX6_isWithin { frames := 0, cells := 0, slots := 0, locals := 0 } (va_Pc [.int v0, .int v1, .int v2] (kPre D cI cZ (bW ad cI cZ S))) (kQi D cI cZ (bA ad) (bW ad cI cZ So) ro) 0 0 (bA ad) := by
  intro So ro hE
  refine kMet_of (by decide) rfl (Nat.le_of_ble_eq_true rfl) ?_
  intro p e s m args below meth c ls hx hb hr hml hown hlk hts hK hP hS hl
  have hl : lv_has ls 3 [(0, .int v0), (1, .int v1), (2, .int v2)] := hl
  have hown : s.vm.findClass RX6 = some m.cls := hown
  unfold f6_isWithin at hE
  refine lv_iload_n hx hb dX6_isWithin_0 rfl (lv_at hl 0 rfl) ?_
  refine lv_iload_n hx hb dX6_isWithin_1 rfl (lv_at hl 1 rfl) ?_
  refine r_icmp_lt (tgt := 14) hx hb dX6_isWithin_2 (by decide) hE (fun c1 hE => ?_) (fun c1 hE => ?_)
  · refine lv_iconst (v := 0) hx hb dX6_isWithin_14 (by decide) ?_
    exact k_zret (Wd := bW ad cI cZ) hx hb hr hlk (by decide +kernel) hK hP hS hE dX6_isWithin_15
  · refine lv_iload_n hx hb dX6_isWithin_5 rfl (lv_at hl 0 rfl) ?_
    refine lv_iload_n hx hb dX6_isWithin_6 rfl (lv_at hl 2 rfl) ?_
    refine r_icmp_gt (tgt := 14) hx hb dX6_isWithin_7 (by decide) hE (fun c2 hE => ?_) (fun c2 hE => ?_)
    · refine lv_iconst (v := 0) hx hb dX6_isWithin_14 (by decide) ?_
      exact k_zret (Wd := bW ad cI cZ) hx hb hr hlk (by decide +kernel) hK hP hS hE dX6_isWithin_15
    · refine lv_iconst (v := 1) hx hb dX6_isWithin_10 (by decide) ?_
      refine lv_goto (tgt := 15) hx hb dX6_isWithin_11 (by decide) ?_
      exact k_zret (Wd := bW ad cI cZ) hx hb hr hlk (by decide +kernel) hK hP hS hE dX6_isWithin_15
theorem iX3_holdsInPlan_X3 : ∀ w ∈ wsX30, w ∈ wsX3_holdsInPlan := fun w h => List.mem_cons_of_mem _ (List.mem_append_right _ h)
set_option maxHeartbeats 4000000 in
set_option maxRecDepth 100000 in
theorem kX3_holdsInPlan (l : Launch) (D : va_G) (ad : Nat → Nat) (cI cZ : ClassId) (hDD : ∀ S, va_D (bA ad) (bW ad cI cZ S)) (S : St) (v1 : Int32) : ∀ So ro, f3_holdsInPlan S v1 = some (So, ro) → Met l yX3_holdsInPlan wsX3_holdsInPlan { frames := 1, cells := 0, slots := 0, locals := 22 } (va_Pc [.ref (ad 1), .int v1] (kPre D cI cZ (bW ad cI cZ S))) (kQi D cI cZ (bA ad) (bW ad cI cZ So) ro) 0 0 (bA ad) := by
  intro So ro hE
  refine kMet_of (by decide) rfl (Nat.le_of_ble_eq_true rfl) ?_
  intro p e s m args below meth c ls hx hb hr hml hown hlk hts hK hP hS hl
  have hl : lv_has ls 3 [(0, .ref (ad 1)), (1, .int v1)] := hl
  have hown : s.vm.findClass RX3 = some m.cls := hown
  unfold f3_holdsInPlan at hE
  refine lv_aload_n hx hb dX3_holdsInPlan_0 rfl (lv_at hl 0 rfl) ?_
  refine va_get (D := D) (ci := 2) (v := .ref (ad 7)) (C := RX3) (T := TX3) (N := 8) hx hb hts iX3_holdsInPlan_X3 hown hK.1 hP 1 rfl rfl 1 (by decide) (hts (.fieldLink RX3 15 "Bumpherald$Packages" "planned" "[I") (List.mem_of_getElem? (i := 1) rfl)) (fun _ h9 => h9) rfl dX3_holdsInPlan_1 ?_
  refine lv_aload_n hx hb dX3_holdsInPlan_4 rfl (lv_at hl 0 rfl) ?_
  refine va_get (D := D) (ci := 2) (v := .ref (ad 9)) (C := RX3) (T := TX3) (N := 8) hx hb hts iX3_holdsInPlan_X3 hown hK.1 hP 1 rfl rfl 3 (by decide) (hts (.fieldLink RX3 21 "Bumpherald$Packages" "needOthers" "[I") (List.mem_of_getElem? (i := 2) rfl)) (fun _ h9 => h9) rfl dX3_holdsInPlan_5 ?_
  refine lv_iload_n hx hb dX3_holdsInPlan_8 rfl (lv_at hl 1 rfl) ?_
  refine r_iald (Wd := bW ad cI cZ) (k := 3) (n := 20) hx hb hK hP 9 rfl hE dX3_holdsInPlan_9 (fun x1 hE => ?_)
  refine r_iald (Wd := bW ad cI cZ) (k := 1) (n := 12) hx hb hK hP 7 rfl hE dX3_holdsInPlan_10 (fun x2 hE => ?_)
  refine lv_aload_n hx hb dX3_holdsInPlan_11 rfl (lv_at hl 0 rfl) ?_
  refine va_get (D := D) (ci := 2) (v := .ref (ad 7)) (C := RX3) (T := TX3) (N := 8) hx hb hts iX3_holdsInPlan_X3 hown hK.1 hP 1 rfl rfl 1 (by decide) (hts (.fieldLink RX3 15 "Bumpherald$Packages" "planned" "[I") (List.mem_of_getElem? (i := 1) rfl)) (fun _ h9 => h9) rfl dX3_holdsInPlan_12 ?_
  refine lv_aload_n hx hb dX3_holdsInPlan_15 rfl (lv_at hl 0 rfl) ?_
  refine va_get (D := D) (ci := 2) (v := .ref (ad 8)) (C := RX3) (T := TX3) (N := 8) hx hb hts iX3_holdsInPlan_X3 hown hK.1 hP 1 rfl rfl 2 (by decide) (hts (.fieldLink RX3 18 "Bumpherald$Packages" "needOnes" "[I") (List.mem_of_getElem? (i := 3) rfl)) (fun _ h9 => h9) rfl dX3_holdsInPlan_16 ?_
  refine lv_iload_n hx hb dX3_holdsInPlan_19 rfl (lv_at hl 1 rfl) ?_
  refine r_iald (Wd := bW ad cI cZ) (k := 2) (n := 20) hx hb hK hP 8 rfl hE dX3_holdsInPlan_20 (fun x3 hE => ?_)
  refine r_iald (Wd := bW ad cI cZ) (k := 1) (n := 12) hx hb hK hP 7 rfl hE dX3_holdsInPlan_21 (fun x4 hE => ?_)
  refine lv_isub hx hb dX3_holdsInPlan_22 ?_
  refine lv_istore_n (lv' := [(2, .int (x2 - x4)), (0, .ref (ad 1)), (1, .int v1)]) hx hb dX3_holdsInPlan_23 rfl hl (by decide) rfl (fun ls hl => ?_)
  refine lv_iload_n hx hb dX3_holdsInPlan_24 rfl (lv_at hl 0 rfl) ?_
  refine lv_aload_n hx hb dX3_holdsInPlan_25 rfl (lv_at hl 1 rfl) ?_
  refine va_get (D := D) (ci := 2) (v := .ref (ad 10)) (C := RX3) (T := TX3) (N := 8) hx hb hts iX3_holdsInPlan_X3 hown hK.1 hP 1 rfl rfl 4 (by decide) (hts (.fieldLink RX3 24 "Bumpherald$Packages" "needLeasts" "[I") (List.mem_of_getElem? (i := 4) rfl)) (fun _ h9 => h9) rfl dX3_holdsInPlan_26 ?_
  refine lv_iload_n hx hb dX3_holdsInPlan_29 rfl (lv_at hl 2 rfl) ?_
  refine r_iald (Wd := bW ad cI cZ) (k := 4) (n := 20) hx hb hK hP 10 rfl hE dX3_holdsInPlan_30 (fun x5 hE => ?_)
  refine lv_aload_n hx hb dX3_holdsInPlan_31 rfl (lv_at hl 1 rfl) ?_
  refine va_get (D := D) (ci := 2) (v := .ref (ad 11)) (C := RX3) (T := TX3) (N := 8) hx hb hts iX3_holdsInPlan_X3 hown hK.1 hP 1 rfl rfl 5 (by decide) (hts (.fieldLink RX3 27 "Bumpherald$Packages" "needMosts" "[I") (List.mem_of_getElem? (i := 5) rfl)) (fun _ h9 => h9) rfl dX3_holdsInPlan_32 ?_
  refine lv_iload_n hx hb dX3_holdsInPlan_35 rfl (lv_at hl 2 rfl) ?_
  refine r_iald (Wd := bW ad cI cZ) (k := 5) (n := 20) hx hb hK hP 11 rfl hE dX3_holdsInPlan_36 (fun x6 hE => ?_)
  refine r_callSN (Wd := bW ad cI cZ) [.int (x2 - x4), .int x5, .int x6] [] ⟨hx, hb, hml, hown, hts⟩ (kX6_isWithin l D ad cI cZ hDD S (x2 - x4) x5 x6) ⟨va_cnB 3 hts gX3_holdsInPlan_X6_isWithin_n41 rfl rfl rfl hK.2.1 (hts (.initialized RX6) (List.mem_of_getElem? (i := 7) rfl)) (by decide +kernel) ⟨Nat.le_of_ble_eq_true rfl, Nat.le_of_ble_eq_true rfl⟩, hts (.static yX6_isWithin) (List.mem_of_getElem? (i := 6) rfl), trivial⟩ hK hP hS (fun _ h9 => h9) rfl hl.1 rfl (Nat.le_of_ble_eq_true rfl) ⟨Nat.zero_le _, Nat.zero_le _⟩ hE dX3_holdsInPlan_37 (fun S8 x7 H locs hE hP hS => ?_)
  exact k_bret (Wd := bW ad cI cZ) hx hb hr hlk hK hP hS hE dX3_holdsInPlan_40
theorem iX3_firstFailingInPlan_X3 : ∀ w ∈ wsX30, w ∈ wsX3_firstFailingInPlan := fun w h => List.mem_cons_of_mem _ (List.mem_append_right _ h)
set_option maxHeartbeats 4000000 in
set_option maxRecDepth 100000 in
theorem kX3_firstFailingInPlan (l : Launch) (D : va_G) (ad : Nat → Nat) (cI cZ : ClassId) (hDD : ∀ S, va_D (bA ad) (bW ad cI cZ S)) (S : St) : ∀ So ro, f3_firstFailingInPlan S  = some (So, ro) → Met l yX3_firstFailingInPlan wsX3_firstFailingInPlan { frames := 2, cells := 0, slots := 0, locals := 44 } (va_Pc [.ref (ad 1)] (kPre D cI cZ (bW ad cI cZ S))) (kQi D cI cZ (bA ad) (bW ad cI cZ So) ro) 0 0 (bA ad) := by
  intro So ro hE
  refine kMet_of (by decide) rfl (Nat.le_of_ble_eq_true rfl) ?_
  intro p e s m args below meth c ls hx hb hr hml hown hlk hts hK hP hS hl
  have hl : lv_has ls 2 [(0, .ref (ad 1))] := hl
  have hown : s.vm.findClass RX3 = some m.cls := hown
  have H2 : ∀ (n2 : Nat) (v1 : Int32) (S : St), f3_firstFailingInPlan_L2  n2 v1 S = some (So, ro) → ∀ (H : Heap) (locs : List Loc) (ls : Array Slot), va_P D vwCl (bW ad cI cZ S) H → va_S (bA ad) s.heap H locs → lv_has ls 2 [(0, .ref (ad 1)), (1, .int v1)] → W p l e (headSpec wsX3_firstFailingInPlan { frames := 2, cells := 0, slots := 0, locals := 44 }).room s m args below meth c H locs 0 0 (MQ below (kQi D cI cZ (bA ad) (bW ad cI cZ So) ro) args s 0 0 (bA ad)) (F0 m 2 ls []) := by
    intro n2
    induction n2 with
    | zero => intro v1 S hE; exact absurd (show (none : Option (St × Int32)) = some (So, ro) from hE) (fun h => nomatch h)
    | succ n2 ih2 =>
      intro v1 S hE H locs ls hP hS hl
      have hE : f3_firstFailingInPlan_L2b  (f3_firstFailingInPlan_L2 n2) v1 S = some (So, ro) := hE
      unfold f3_firstFailingInPlan_L2b at hE
      refine lv_iload_n hx hb dX3_firstFailingInPlan_2 rfl (lv_at hl 1 rfl) ?_
      refine lv_aload_n hx hb dX3_firstFailingInPlan_3 rfl (lv_at hl 0 rfl) ?_
      refine va_get (D := D) (ci := 2) (v := .int (S.1 2)) (C := RX3) (T := TX3) (N := 8) hx hb hts iX3_firstFailingInPlan_X3 hown hK.1 hP 1 rfl rfl 7 (by decide) (hts (.fieldLink RX3 34 "Bumpherald$Packages" "needCount" "I") (List.mem_of_getElem? (i := 1) rfl)) (fun _ h9 => h9) rfl dX3_firstFailingInPlan_4 ?_
      refine r_icmp_ge (tgt := 26) hx hb dX3_firstFailingInPlan_7 (by decide) hE (fun c1 hE => ?_) (fun c1 hE => ?_)
      · refine lv_iconst (v := -1) hx hb dX3_firstFailingInPlan_26 (by decide) ?_
        exact k_iret (Wd := bW ad cI cZ) hx hb hr hlk hK hP hS hE dX3_firstFailingInPlan_27
      · refine lv_aload_n hx hb dX3_firstFailingInPlan_10 rfl (lv_at hl 0 rfl) ?_
        refine lv_iload_n hx hb dX3_firstFailingInPlan_11 rfl (lv_at hl 1 rfl) ?_
        refine r_callVi (Wd := bW ad cI cZ) (C := RX3) [.int v1] [] ⟨hx, hb, hml, hown, hts⟩ (kX3_holdsInPlan l D ad cI cZ hDD S v1) (cwV 1 hts gX3_firstFailingInPlan_X3_holdsInPlan rfl rfl rfl (by decide +kernel) ⟨Nat.le_of_ble_eq_true rfl, Nat.le_of_ble_eq_true rfl⟩) (va_recv hK.1 hP (ci := 2) (q0 := 1) rfl rfl) hK hP hS (fun _ h9 => h9) rfl hl.1 rfl (Nat.le_of_ble_eq_true rfl) ⟨Nat.zero_le _, Nat.zero_le _⟩ hE dX3_firstFailingInPlan_12 (fun S3 x2 H locs hE hP hS => ?_)
        refine r_if_ne (tgt := 20) hx hb dX3_firstFailingInPlan_15 (by decide) hE (fun c4 hE => ?_) (fun c4 hE => ?_)
        · refine lv_iload_n hx hb dX3_firstFailingInPlan_18 rfl (lv_at hl 1 rfl) ?_
          exact k_iret (Wd := bW ad cI cZ) hx hb hr hlk hK hP hS hE dX3_firstFailingInPlan_19
        · refine lv_iinc (v := v1 + 1) (lv' := [(1, .int (v1 + 1)), (0, .ref (ad 1))]) hx hb dX3_firstFailingInPlan_20 hl (k := 1) rfl rfl (by decide) rfl (fun ls hl => ?_)
          refine lv_goto (tgt := 2) hx hb dX3_firstFailingInPlan_23 (by decide) ?_
          exact ih2 (v1 + 1) S3 hE _ _ _ hP hS (lv_sub hl [1, 0] rfl)
  unfold f3_firstFailingInPlan at hE
  refine lv_iconst (v := 0) hx hb dX3_firstFailingInPlan_0 (by decide) ?_
  refine lv_istore_n (lv' := [(1, .int 0), (0, .ref (ad 1))]) hx hb dX3_firstFailingInPlan_1 rfl hl (by decide) rfl (fun ls hl => ?_)
  exact H2 2000 0 S hE _ _ _ hP hS (lv_sub hl [1, 0] rfl)
theorem iX4_firstFailing_X4 : ∀ w ∈ wsX40, w ∈ wsX4_firstFailing := fun w h => List.mem_cons_of_mem _ (List.mem_append_left _ (List.mem_append_right _ h))
set_option maxHeartbeats 4000000 in
set_option maxRecDepth 100000 in
theorem kX4_firstFailing (l : Launch) (D : va_G) (ad : Nat → Nat) (cI cZ : ClassId) (hDD : ∀ S, va_D (bA ad) (bW ad cI cZ S)) (S : St) (v1 : Int32) : ∀ So ro, f4_firstFailing S v1 = some (So, ro) → Met l yX4_firstFailing wsX4_firstFailing { frames := 3, cells := 0, slots := 0, locals := 65 } (va_Pc [.ref (ad 3), .int v1] (kPre D cI cZ (bW ad cI cZ S))) (kQi D cI cZ (bA ad) (bW ad cI cZ So) ro) 0 0 (bA ad) := by
  intro So ro hE
  refine kMet_of (by decide) rfl (Nat.le_of_ble_eq_true rfl) ?_
  intro p e s m args below meth c ls hx hb hr hml hown hlk hts hK hP hS hl
  have hl : lv_has ls 2 [(0, .ref (ad 3)), (1, .int v1)] := hl
  have hown : s.vm.findClass RX4 = some m.cls := hown
  unfold f4_firstFailing at hE
  refine lv_aload_n hx hb dX4_firstFailing_0 rfl (lv_at hl 0 rfl) ?_
  refine lv_iload_n hx hb dX4_firstFailing_1 rfl (lv_at hl 1 rfl) ?_
  refine r_callVv (Wd := bW ad cI cZ) (C := RX4) [.int v1] [] ⟨hx, hb, hml, hown, hts⟩ (kX4_plan l D ad cI cZ hDD S v1) (cwV 1 hts gX4_firstFailing_X4_plan rfl rfl rfl (by decide +kernel) ⟨Nat.le_of_ble_eq_true rfl, Nat.le_of_ble_eq_true rfl⟩) (va_recv hK.1 hP (ci := 3) (q0 := 3) rfl rfl) hK hP hS (fun _ h9 => h9) rfl hl.1 rfl (Nat.le_of_ble_eq_true rfl) ⟨Nat.zero_le _, Nat.zero_le _⟩ hE dX4_firstFailing_2 (fun S2 H locs hE hP hS => ?_)
  refine lv_aload_n hx hb dX4_firstFailing_5 rfl (lv_at hl 0 rfl) ?_
  refine va_get (D := D) (ci := 3) (v := .ref (ad 1)) (C := RX4) (T := TX4) (N := 12) hx hb hts iX4_firstFailing_X4 hown hK.1 hP 3 rfl rfl 0 (by decide) (hts (.fieldLink RX4 47 "Bumpherald$Raises" "packages" "LBumpherald$Packages;") (List.mem_of_getElem? (i := 1) rfl)) (fun _ h9 => h9) rfl dX4_firstFailing_6 ?_
  refine r_callVi (Wd := bW ad cI cZ) (C := RX3) [] [] ⟨hx, hb, hml, hown, hts⟩ (kX3_firstFailingInPlan l D ad cI cZ hDD S2) (cwV 0 hts gX4_firstFailing_X3_firstFailingInPlan rfl rfl rfl (by decide +kernel) ⟨Nat.le_of_ble_eq_true rfl, Nat.le_of_ble_eq_true rfl⟩) (va_recv hK.1 hP (ci := 2) (q0 := 1) rfl rfl) hK hP hS (fun _ h9 => h9) rfl hl.1 rfl (Nat.le_of_ble_eq_true rfl) ⟨Nat.zero_le _, Nat.zero_le _⟩ hE dX4_firstFailing_9 (fun S4 x3 H locs hE hP hS => ?_)
  exact k_iret (Wd := bW ad cI cZ) hx hb hr hlk hK hP hS hE dX4_firstFailing_12
theorem iX4_bitOfPackage_X4 : ∀ w ∈ wsX40, w ∈ wsX4_bitOfPackage := fun w h => List.mem_cons_of_mem _ (List.mem_append_right _ h)
set_option maxHeartbeats 4000000 in
set_option maxRecDepth 100000 in
theorem kX4_bitOfPackage (l : Launch) (D : va_G) (ad : Nat → Nat) (cI cZ : ClassId) (hDD : ∀ S, va_D (bA ad) (bW ad cI cZ S)) (S : St) (v1 : Int32) : ∀ So ro, f4_bitOfPackage S v1 = some (So, ro) → Met l yX4_bitOfPackage wsX4_bitOfPackage { frames := 0, cells := 0, slots := 0, locals := 0 } (va_Pc [.ref (ad 3), .int v1] (kPre D cI cZ (bW ad cI cZ S))) (kQi D cI cZ (bA ad) (bW ad cI cZ So) ro) 0 0 (bA ad) := by
  intro So ro hE
  refine kMet_of (by decide) rfl (Nat.le_of_ble_eq_true rfl) ?_
  intro p e s m args below meth c ls hx hb hr hml hown hlk hts hK hP hS hl
  have hl : lv_has ls 3 [(0, .ref (ad 3)), (1, .int v1)] := hl
  have hown : s.vm.findClass RX4 = some m.cls := hown
  have H2 : ∀ (n2 : Nat) (v1 : Int32) (v2 : Int32) (S : St), f4_bitOfPackage_L2  n2 v1 v2 S = some (So, ro) → ∀ (H : Heap) (locs : List Loc) (ls : Array Slot), va_P D vwCl (bW ad cI cZ S) H → va_S (bA ad) s.heap H locs → lv_has ls 3 [(0, .ref (ad 3)), (1, .int v1), (2, .int v2)] → W p l e (headSpec wsX4_bitOfPackage { frames := 0, cells := 0, slots := 0, locals := 0 }).room s m args below meth c H locs 0 0 (MQ below (kQi D cI cZ (bA ad) (bW ad cI cZ So) ro) args s 0 0 (bA ad)) (F0 m 2 ls []) := by
    intro n2
    induction n2 with
    | zero => intro v1 v2 S hE; exact absurd (show (none : Option (St × Int32)) = some (So, ro) from hE) (fun h => nomatch h)
    | succ n2 ih2 =>
      intro v1 v2 S hE H locs ls hP hS hl
      have hE : f4_bitOfPackage_L2b  (f4_bitOfPackage_L2 n2) v1 v2 S = some (So, ro) := hE
      unfold f4_bitOfPackage_L2b at hE
      refine lv_iload_n hx hb dX4_bitOfPackage_2 rfl (lv_at hl 2 rfl) ?_
      refine lv_aload_n hx hb dX4_bitOfPackage_3 rfl (lv_at hl 0 rfl) ?_
      refine va_get (D := D) (ci := 3) (v := .int (S.1 5)) (C := RX4) (T := TX4) (N := 12) hx hb hts iX4_bitOfPackage_X4 hown hK.1 hP 3 rfl rfl 11 (by decide) (hts (.fieldLink RX4 44 "Bumpherald$Raises" "openCount" "I") (List.mem_of_getElem? (i := 1) rfl)) (fun _ h9 => h9) rfl dX4_bitOfPackage_4 ?_
      refine r_icmp_ge (tgt := 35) hx hb dX4_bitOfPackage_7 (by decide) hE (fun c1 hE => ?_) (fun c1 hE => ?_)
      · refine lv_iconst (v := 0) hx hb dX4_bitOfPackage_35 (by decide) ?_
        exact k_iret (Wd := bW ad cI cZ) hx hb hr hlk hK hP hS hE dX4_bitOfPackage_36
      · refine lv_aload_n hx hb dX4_bitOfPackage_10 rfl (lv_at hl 0 rfl) ?_
        refine va_get (D := D) (ci := 3) (v := .ref (ad 15)) (C := RX4) (T := TX4) (N := 12) hx hb hts iX4_bitOfPackage_X4 hown hK.1 hP 3 rfl rfl 1 (by decide) (hts (.fieldLink RX4 9 "Bumpherald$Raises" "packs" "[I") (List.mem_of_getElem? (i := 2) rfl)) (fun _ h9 => h9) rfl dX4_bitOfPackage_11 ?_
        refine lv_aload_n hx hb dX4_bitOfPackage_14 rfl (lv_at hl 0 rfl) ?_
        refine va_get (D := D) (ci := 3) (v := .ref (ad 23)) (C := RX4) (T := TX4) (N := 12) hx hb hts iX4_bitOfPackage_X4 hown hK.1 hP 3 rfl rfl 9 (by decide) (hts (.fieldLink RX4 37 "Bumpherald$Raises" "open" "[I") (List.mem_of_getElem? (i := 3) rfl)) (fun _ h9 => h9) rfl dX4_bitOfPackage_15 ?_
        refine lv_iload_n hx hb dX4_bitOfPackage_18 rfl (lv_at hl 2 rfl) ?_
        refine r_iald (Wd := bW ad cI cZ) (k := 17) (n := 10) hx hb hK hP 23 rfl hE dX4_bitOfPackage_19 (fun x2 hE => ?_)
        refine r_iald (Wd := bW ad cI cZ) (k := 9) (n := 40) hx hb hK hP 15 rfl hE dX4_bitOfPackage_20 (fun x3 hE => ?_)
        refine lv_iload_n hx hb dX4_bitOfPackage_21 rfl (lv_at hl 1 rfl) ?_
        refine r_icmp_ne (tgt := 29) hx hb dX4_bitOfPackage_22 (by decide) hE (fun c4 hE => ?_) (fun c4 hE => ?_)
        · refine lv_iconst (v := 1) hx hb dX4_bitOfPackage_25 (by decide) ?_
          refine lv_iload_n hx hb dX4_bitOfPackage_26 rfl (lv_at hl 2 rfl) ?_
          refine lv_ishl hx hb dX4_bitOfPackage_27 ?_
          exact k_iret (Wd := bW ad cI cZ) hx hb hr hlk hK hP hS hE dX4_bitOfPackage_28
        · refine lv_iinc (v := v2 + 1) (lv' := [(2, .int (v2 + 1)), (0, .ref (ad 3)), (1, .int v1)]) hx hb dX4_bitOfPackage_29 hl (k := 2) rfl rfl (by decide) rfl (fun ls hl => ?_)
          refine lv_goto (tgt := 2) hx hb dX4_bitOfPackage_32 (by decide) ?_
          exact ih2 v1 (v2 + 1) S hE _ _ _ hP hS (lv_sub hl [1, 2, 0] rfl)
  unfold f4_bitOfPackage at hE
  refine lv_iconst (v := 0) hx hb dX4_bitOfPackage_0 (by decide) ?_
  refine lv_istore_n (lv' := [(2, .int 0), (0, .ref (ad 3)), (1, .int v1)]) hx hb dX4_bitOfPackage_1 rfl hl (by decide) rfl (fun ls hl => ?_)
  exact H2 2000 v1 0 S hE _ _ _ hP hS (lv_sub hl [1, 2, 0] rfl)
theorem iX0_byNeeds_X3 : ∀ w ∈ wsX30, w ∈ wsX0_byNeeds := fun w h => List.mem_cons_of_mem _ (List.mem_append_right _ h)
theorem iX0_byNeeds_X4 : ∀ w ∈ wsX40, w ∈ wsX0_byNeeds := fun w h => List.mem_cons_of_mem _ (List.mem_append_left _ (List.mem_append_right _ h))
set_option maxHeartbeats 4000000 in
set_option maxRecDepth 100000 in
theorem kX0_byNeeds (l : Launch) (D : va_G) (ad : Nat → Nat) (cI cZ : ClassId) (hDD : ∀ S, va_D (bA ad) (bW ad cI cZ S)) (S : St) (v1 : Int32) : ∀ So ro, f0_byNeeds S v1 = some (So, ro) → Met l yX0_byNeeds wsX0_byNeeds { frames := 4, cells := 0, slots := 0, locals := 86 } (va_Pc [.ref (ad 3), .int v1] (kPre D cI cZ (bW ad cI cZ S))) (kQi D cI cZ (bA ad) (bW ad cI cZ So) ro) 0 0 (bA ad) := by
  intro So ro hE
  refine kMet_of (by decide) rfl (Nat.le_of_ble_eq_true rfl) ?_
  intro p e s m args below meth c ls hx hb hr hml hown hlk hts hK hP hS hl
  have hl : lv_has ls 6 [(0, .ref (ad 3)), (1, .int v1)] := hl
  have hown : s.vm.findClass RX0 = some m.cls := hown
  have H4 : ∀ (n4 : Nat) (v2 : Int32) (v3 : Int32) (S : St), f0_byNeeds_L4  n4 v2 v3 S = some (So, ro) → ∀ (H : Heap) (locs : List Loc) (ls : Array Slot), va_P D vwCl (bW ad cI cZ S) H → va_S (bA ad) s.heap H locs → lv_has ls 6 [(0, .ref (ad 3)), (2, .int v2), (3, .int v3)] → W p l e (headSpec wsX0_byNeeds { frames := 4, cells := 0, slots := 0, locals := 86 }).room s m args below meth c H locs 0 0 (MQ below (kQi D cI cZ (bA ad) (bW ad cI cZ So) ro) args s 0 0 (bA ad)) (F0 m 4 ls []) := by
    intro n4
    induction n4 with
    | zero => intro v2 v3 S hE; exact absurd (show (none : Option (St × Int32)) = some (So, ro) from hE) (fun h => nomatch h)
    | succ n4 ih4 =>
      intro v2 v3 S hE H locs ls hP hS hl
      have hE : f0_byNeeds_L4b  (f0_byNeeds_L4 n4) v2 v3 S = some (So, ro) := hE
      unfold f0_byNeeds_L4b at hE
      refine lv_iload_n hx hb dX0_byNeeds_4 rfl (lv_at hl 2 rfl) ?_
      refine lv_bipush (v := 10) hx hb dX0_byNeeds_5 (by decide) ?_
      refine r_icmp_ge (tgt := 77) hx hb dX0_byNeeds_7 (by decide) hE (fun c1 hE => ?_) (fun c1 hE => ?_)
      · refine lv_iconst (v := -1) hx hb dX0_byNeeds_77 (by decide) ?_
        exact k_iret (Wd := bW ad cI cZ) hx hb hr hlk hK hP hS hE dX0_byNeeds_78
      · refine lv_aload_n hx hb dX0_byNeeds_10 rfl (lv_at hl 0 rfl) ?_
        refine lv_iload_n hx hb dX0_byNeeds_11 rfl (lv_at hl 1 rfl) ?_
        refine r_callVi (Wd := bW ad cI cZ) (C := RX4) [.int v2] [] ⟨hx, hb, hml, hown, hts⟩ (kX4_firstFailing l D ad cI cZ hDD S v2) (cwV 1 hts gX0_byNeeds_X4_firstFailing rfl rfl rfl (by decide +kernel) ⟨Nat.le_of_ble_eq_true rfl, Nat.le_of_ble_eq_true rfl⟩) (va_recv hK.1 hP (ci := 3) (q0 := 3) rfl rfl) hK hP hS (fun _ h9 => h9) rfl hl.1 rfl (Nat.le_of_ble_eq_true rfl) ⟨Nat.zero_le _, Nat.zero_le _⟩ hE dX0_byNeeds_12 (fun S3 x2 H locs hE hP hS => ?_)
        refine lv_istore (lv' := [(4, .int x2), (0, .ref (ad 3)), (2, .int v2), (3, .int v3)]) hx hb dX0_byNeeds_15 hl (by decide) rfl (fun ls hl => ?_)
        refine lv_iload hx hb dX0_byNeeds_17 (lv_at hl 0 rfl) ?_
        refine lv_iconst (v := -1) hx hb dX0_byNeeds_19 (by decide) ?_
        refine r_icmp_ne (tgt := 25) hx hb dX0_byNeeds_20 (by decide) hE (fun c4 hE => ?_) (fun c4 hE => ?_)
        · refine lv_iload_n hx hb dX0_byNeeds_23 rfl (lv_at hl 2 rfl) ?_
          exact k_iret (Wd := bW ad cI cZ) hx hb hr hlk hK hP hS hE dX0_byNeeds_24
        · refine lv_aload_n hx hb dX0_byNeeds_25 rfl (lv_at hl 1 rfl) ?_
          refine lv_aload_n hx hb dX0_byNeeds_26 rfl (lv_at hl 1 rfl) ?_
          refine va_get (D := D) (ci := 3) (v := .ref (ad 1)) (C := RX4) (T := TX4) (N := 12) hx hb hts iX0_byNeeds_X4 hown hK.1 hP 3 rfl rfl 0 (by decide) (hts (.fieldLink RX0 15 "Bumpherald$Raises" "packages" "LBumpherald$Packages;") (List.mem_of_getElem? (i := 1) rfl)) (fun _ h9 => h9) rfl dX0_byNeeds_27 ?_
          refine va_get (D := D) (ci := 2) (v := .ref (ad 8)) (C := RX3) (T := TX3) (N := 8) hx hb hts iX0_byNeeds_X3 hown hK.1 hP 1 rfl rfl 2 (by decide) (hts (.fieldLink RX0 19 "Bumpherald$Packages" "needOnes" "[I") (List.mem_of_getElem? (i := 2) rfl)) (fun _ h9 => h9) rfl dX0_byNeeds_30 ?_
          refine lv_iload hx hb dX0_byNeeds_33 (lv_at hl 0 rfl) ?_
          refine r_iald (Wd := bW ad cI cZ) (k := 2) (n := 20) hx hb hK hP 8 rfl hE dX0_byNeeds_35 (fun x5 hE => ?_)
          refine r_callVi (Wd := bW ad cI cZ) (C := RX4) [.int x5] [] ⟨hx, hb, hml, hown, hts⟩ (kX4_bitOfPackage l D ad cI cZ hDD S3 x5) (cwV 1 hts gX0_byNeeds_X4_bitOfPackage rfl rfl rfl (by decide +kernel) ⟨Nat.le_of_ble_eq_true rfl, Nat.le_of_ble_eq_true rfl⟩) (va_recv hK.1 hP (ci := 3) (q0 := 3) rfl rfl) hK hP hS (fun _ h9 => h9) rfl hl.1 rfl (Nat.le_of_ble_eq_true rfl) ⟨Nat.zero_le _, Nat.zero_le _⟩ hE dX0_byNeeds_36 (fun S7 x6 H locs hE hP hS => ?_)
          refine lv_aload_n hx hb dX0_byNeeds_39 rfl (lv_at hl 1 rfl) ?_
          refine lv_aload_n hx hb dX0_byNeeds_40 rfl (lv_at hl 1 rfl) ?_
          refine va_get (D := D) (ci := 3) (v := .ref (ad 1)) (C := RX4) (T := TX4) (N := 12) hx hb hts iX0_byNeeds_X4 hown hK.1 hP 3 rfl rfl 0 (by decide) (hts (.fieldLink RX0 15 "Bumpherald$Raises" "packages" "LBumpherald$Packages;") (List.mem_of_getElem? (i := 1) rfl)) (fun _ h9 => h9) rfl dX0_byNeeds_41 ?_
          refine va_get (D := D) (ci := 2) (v := .ref (ad 9)) (C := RX3) (T := TX3) (N := 8) hx hb hts iX0_byNeeds_X3 hown hK.1 hP 1 rfl rfl 3 (by decide) (hts (.fieldLink RX0 28 "Bumpherald$Packages" "needOthers" "[I") (List.mem_of_getElem? (i := 3) rfl)) (fun _ h9 => h9) rfl dX0_byNeeds_44 ?_
          refine lv_iload hx hb dX0_byNeeds_47 (lv_at hl 0 rfl) ?_
          refine r_iald (Wd := bW ad cI cZ) (k := 3) (n := 20) hx hb hK hP 9 rfl hE dX0_byNeeds_49 (fun x8 hE => ?_)
          refine r_callVi (Wd := bW ad cI cZ) (C := RX4) [.int x8] [.int x6] ⟨hx, hb, hml, hown, hts⟩ (kX4_bitOfPackage l D ad cI cZ hDD S7 x8) (cwV 1 hts gX0_byNeeds_X4_bitOfPackage rfl rfl rfl (by decide +kernel) ⟨Nat.le_of_ble_eq_true rfl, Nat.le_of_ble_eq_true rfl⟩) (va_recv hK.1 hP (ci := 3) (q0 := 3) rfl rfl) hK hP hS (fun _ h9 => h9) rfl hl.1 rfl (Nat.le_of_ble_eq_true rfl) ⟨Nat.zero_le _, Nat.zero_le _⟩ hE dX0_byNeeds_50 (fun S10 x9 H locs hE hP hS => ?_)
          refine lv_ior hx hb dX0_byNeeds_53 ?_
          refine lv_istore (lv' := [(5, .int (x6 ||| x9)), (4, .int x2), (0, .ref (ad 3)), (2, .int v2), (3, .int v3)]) hx hb dX0_byNeeds_54 hl (by decide) rfl (fun ls hl => ?_)
          refine lv_iload hx hb dX0_byNeeds_56 (lv_at hl 0 rfl) ?_
          refine lv_iload_n hx hb dX0_byNeeds_58 rfl (lv_at hl 3 rfl) ?_
          refine lv_ior hx hb dX0_byNeeds_59 ?_
          refine lv_iload_n hx hb dX0_byNeeds_60 rfl (lv_at hl 3 rfl) ?_
          refine r_icmp_ne (tgt := 66) hx hb dX0_byNeeds_61 (by decide) hE (fun c11 hE => ?_) (fun c11 hE => ?_)
          · refine lv_iconst (v := -1) hx hb dX0_byNeeds_64 (by decide) ?_
            exact k_iret (Wd := bW ad cI cZ) hx hb hr hlk hK hP hS hE dX0_byNeeds_65
          · refine lv_iload_n hx hb dX0_byNeeds_66 rfl (lv_at hl 3 rfl) ?_
            refine lv_iload hx hb dX0_byNeeds_67 (lv_at hl 0 rfl) ?_
            refine lv_ior hx hb dX0_byNeeds_69 ?_
            refine lv_istore_n (lv' := [(2, .int (v2 ||| (x6 ||| x9))), (5, .int (x6 ||| x9)), (4, .int x2), (0, .ref (ad 3)), (3, .int v3)]) hx hb dX0_byNeeds_70 rfl hl (by decide) rfl (fun ls hl => ?_)
            refine lv_iinc (v := v3 + 1) (lv' := [(3, .int (v3 + 1)), (2, .int (v2 ||| (x6 ||| x9))), (5, .int (x6 ||| x9)), (4, .int x2), (0, .ref (ad 3))]) hx hb dX0_byNeeds_71 hl (k := 4) rfl rfl (by decide) rfl (fun ls hl => ?_)
            refine lv_goto (tgt := 4) hx hb dX0_byNeeds_74 (by decide) ?_
            exact ih4 (v2 ||| (x6 ||| x9)) (v3 + 1) S10 hE _ _ _ hP hS (lv_sub hl [4, 1, 0] rfl)
  unfold f0_byNeeds at hE
  refine lv_iload_n hx hb dX0_byNeeds_0 rfl (lv_at hl 1 rfl) ?_
  refine lv_istore_n (lv' := [(2, .int v1), (0, .ref (ad 3)), (1, .int v1)]) hx hb dX0_byNeeds_1 rfl hl (by decide) rfl (fun ls hl => ?_)
  refine lv_iconst (v := 0) hx hb dX0_byNeeds_2 (by decide) ?_
  refine lv_istore_n (lv' := [(3, .int 0), (2, .int v1), (0, .ref (ad 3)), (1, .int v1)]) hx hb dX0_byNeeds_3 rfl hl (by decide) rfl (fun ls hl => ?_)
  exact H4 2000 v1 0 S hE _ _ _ hP hS (lv_sub hl [2, 1, 0] rfl)
set_option maxHeartbeats 4000000 in
set_option maxRecDepth 100000 in
theorem kJ6_bitCount_0f7a4 (l : Launch) (D : va_G) (ad : Nat → Nat) (cI cZ : ClassId) (hDD : ∀ S, va_D (bA ad) (bW ad cI cZ S)) (S : St) (v0 : Int32) : ∀ So ro, fJ_bitCount_0f7a4 S v0 = some (So, ro) → Met l yJ6_bitCount_0f7a4 wsJ6_bitCount_0f7a4 { frames := 0, cells := 0, slots := 0, locals := 0 } (va_Pc [.int v0] (kPre D cI cZ (bW ad cI cZ S))) (kQi D cI cZ (bA ad) (bW ad cI cZ So) ro) 0 0 (bA ad) := by
  intro So ro hE
  refine kMet_of (by decide) rfl (Nat.le_of_ble_eq_true rfl) ?_
  intro p e s m args below meth c ls hx hb hr hml hown hlk hts hK hP hS hl
  have hl : lv_has ls 1 [(0, .int v0)] := hl
  have hown : s.vm.findClass RJ6 = some m.cls := hown
  unfold fJ_bitCount_0f7a4 at hE
  refine lv_iload_n hx hb dJ6_bitCount_0f7a4_0 rfl (lv_at hl 0 rfl) ?_
  refine lv_iload_n hx hb dJ6_bitCount_0f7a4_1 rfl (lv_at hl 0 rfl) ?_
  refine lv_iconst (v := 1) hx hb dJ6_bitCount_0f7a4_2 (by decide) ?_
  refine lv_iushr (v := (v0.toUInt32 >>> ((1 : Int32).toUInt32 &&& Int32.toUInt32 31)).toInt32) hx hb dJ6_bitCount_0f7a4_3 rfl ?_
  refine lv_ldcw (v := 1431655765) hx hb hown (hts _ (List.mem_of_getElem? (i := 1) rfl)) dJ6_bitCount_0f7a4_4 ?_
  refine lv_iand hx hb dJ6_bitCount_0f7a4_7 ?_
  refine lv_isub hx hb dJ6_bitCount_0f7a4_8 ?_
  refine lv_istore_n (lv' := [(0, .int (v0 - (((v0.toUInt32 >>> ((1 : Int32).toUInt32 &&& Int32.toUInt32 31)).toInt32) &&& 1431655765)))]) hx hb dJ6_bitCount_0f7a4_9 rfl hl (by decide) rfl (fun ls hl => ?_)
  refine lv_iload_n hx hb dJ6_bitCount_0f7a4_10 rfl (lv_at hl 0 rfl) ?_
  refine lv_ldcw (v := 858993459) hx hb hown (hts _ (List.mem_of_getElem? (i := 2) rfl)) dJ6_bitCount_0f7a4_11 ?_
  refine lv_iand hx hb dJ6_bitCount_0f7a4_14 ?_
  refine lv_iload_n hx hb dJ6_bitCount_0f7a4_15 rfl (lv_at hl 0 rfl) ?_
  refine lv_iconst (v := 2) hx hb dJ6_bitCount_0f7a4_16 (by decide) ?_
  refine lv_iushr (v := ((v0 - (((v0.toUInt32 >>> ((1 : Int32).toUInt32 &&& Int32.toUInt32 31)).toInt32) &&& 1431655765)).toUInt32 >>> ((2 : Int32).toUInt32 &&& Int32.toUInt32 31)).toInt32) hx hb dJ6_bitCount_0f7a4_17 rfl ?_
  refine lv_ldcw (v := 858993459) hx hb hown (hts _ (List.mem_of_getElem? (i := 2) rfl)) dJ6_bitCount_0f7a4_18 ?_
  refine lv_iand hx hb dJ6_bitCount_0f7a4_21 ?_
  refine lv_iadd hx hb dJ6_bitCount_0f7a4_22 ?_
  refine lv_istore_n (lv' := [(0, .int (((v0 - (((v0.toUInt32 >>> ((1 : Int32).toUInt32 &&& Int32.toUInt32 31)).toInt32) &&& 1431655765)) &&& 858993459) + ((((v0 - (((v0.toUInt32 >>> ((1 : Int32).toUInt32 &&& Int32.toUInt32 31)).toInt32) &&& 1431655765)).toUInt32 >>> ((2 : Int32).toUInt32 &&& Int32.toUInt32 31)).toInt32) &&& 858993459)))]) hx hb dJ6_bitCount_0f7a4_23 rfl hl (by decide) rfl (fun ls hl => ?_)
  refine lv_iload_n hx hb dJ6_bitCount_0f7a4_24 rfl (lv_at hl 0 rfl) ?_
  refine lv_iload_n hx hb dJ6_bitCount_0f7a4_25 rfl (lv_at hl 0 rfl) ?_
  refine lv_iconst (v := 4) hx hb dJ6_bitCount_0f7a4_26 (by decide) ?_
  refine lv_iushr (v := ((((v0 - (((v0.toUInt32 >>> ((1 : Int32).toUInt32 &&& Int32.toUInt32 31)).toInt32) &&& 1431655765)) &&& 858993459) + ((((v0 - (((v0.toUInt32 >>> ((1 : Int32).toUInt32 &&& Int32.toUInt32 31)).toInt32) &&& 1431655765)).toUInt32 >>> ((2 : Int32).toUInt32 &&& Int32.toUInt32 31)).toInt32) &&& 858993459)).toUInt32 >>> ((4 : Int32).toUInt32 &&& Int32.toUInt32 31)).toInt32) hx hb dJ6_bitCount_0f7a4_27 rfl ?_
  refine lv_iadd hx hb dJ6_bitCount_0f7a4_28 ?_
  refine lv_ldcw (v := 252645135) hx hb hown (hts _ (List.mem_of_getElem? (i := 3) rfl)) dJ6_bitCount_0f7a4_29 ?_
  refine lv_iand hx hb dJ6_bitCount_0f7a4_32 ?_
  refine lv_istore_n (lv' := [(0, .int (((((v0 - (((v0.toUInt32 >>> ((1 : Int32).toUInt32 &&& Int32.toUInt32 31)).toInt32) &&& 1431655765)) &&& 858993459) + ((((v0 - (((v0.toUInt32 >>> ((1 : Int32).toUInt32 &&& Int32.toUInt32 31)).toInt32) &&& 1431655765)).toUInt32 >>> ((2 : Int32).toUInt32 &&& Int32.toUInt32 31)).toInt32) &&& 858993459)) + (((((v0 - (((v0.toUInt32 >>> ((1 : Int32).toUInt32 &&& Int32.toUInt32 31)).toInt32) &&& 1431655765)) &&& 858993459) + ((((v0 - (((v0.toUInt32 >>> ((1 : Int32).toUInt32 &&& Int32.toUInt32 31)).toInt32) &&& 1431655765)).toUInt32 >>> ((2 : Int32).toUInt32 &&& Int32.toUInt32 31)).toInt32) &&& 858993459)).toUInt32 >>> ((4 : Int32).toUInt32 &&& Int32.toUInt32 31)).toInt32)) &&& 252645135))]) hx hb dJ6_bitCount_0f7a4_33 rfl hl (by decide) rfl (fun ls hl => ?_)
  refine lv_iload_n hx hb dJ6_bitCount_0f7a4_34 rfl (lv_at hl 0 rfl) ?_
  refine lv_iload_n hx hb dJ6_bitCount_0f7a4_35 rfl (lv_at hl 0 rfl) ?_
  refine lv_bipush (v := 8) hx hb dJ6_bitCount_0f7a4_36 (by decide) ?_
  refine lv_iushr (v := ((((((v0 - (((v0.toUInt32 >>> ((1 : Int32).toUInt32 &&& Int32.toUInt32 31)).toInt32) &&& 1431655765)) &&& 858993459) + ((((v0 - (((v0.toUInt32 >>> ((1 : Int32).toUInt32 &&& Int32.toUInt32 31)).toInt32) &&& 1431655765)).toUInt32 >>> ((2 : Int32).toUInt32 &&& Int32.toUInt32 31)).toInt32) &&& 858993459)) + (((((v0 - (((v0.toUInt32 >>> ((1 : Int32).toUInt32 &&& Int32.toUInt32 31)).toInt32) &&& 1431655765)) &&& 858993459) + ((((v0 - (((v0.toUInt32 >>> ((1 : Int32).toUInt32 &&& Int32.toUInt32 31)).toInt32) &&& 1431655765)).toUInt32 >>> ((2 : Int32).toUInt32 &&& Int32.toUInt32 31)).toInt32) &&& 858993459)).toUInt32 >>> ((4 : Int32).toUInt32 &&& Int32.toUInt32 31)).toInt32)) &&& 252645135).toUInt32 >>> ((8 : Int32).toUInt32 &&& Int32.toUInt32 31)).toInt32) hx hb dJ6_bitCount_0f7a4_38 rfl ?_
  refine lv_iadd hx hb dJ6_bitCount_0f7a4_39 ?_
  refine lv_istore_n (lv' := [(0, .int ((((((v0 - (((v0.toUInt32 >>> ((1 : Int32).toUInt32 &&& Int32.toUInt32 31)).toInt32) &&& 1431655765)) &&& 858993459) + ((((v0 - (((v0.toUInt32 >>> ((1 : Int32).toUInt32 &&& Int32.toUInt32 31)).toInt32) &&& 1431655765)).toUInt32 >>> ((2 : Int32).toUInt32 &&& Int32.toUInt32 31)).toInt32) &&& 858993459)) + (((((v0 - (((v0.toUInt32 >>> ((1 : Int32).toUInt32 &&& Int32.toUInt32 31)).toInt32) &&& 1431655765)) &&& 858993459) + ((((v0 - (((v0.toUInt32 >>> ((1 : Int32).toUInt32 &&& Int32.toUInt32 31)).toInt32) &&& 1431655765)).toUInt32 >>> ((2 : Int32).toUInt32 &&& Int32.toUInt32 31)).toInt32) &&& 858993459)).toUInt32 >>> ((4 : Int32).toUInt32 &&& Int32.toUInt32 31)).toInt32)) &&& 252645135) + (((((((v0 - (((v0.toUInt32 >>> ((1 : Int32).toUInt32 &&& Int32.toUInt32 31)).toInt32) &&& 1431655765)) &&& 858993459) + ((((v0 - (((v0.toUInt32 >>> ((1 : Int32).toUInt32 &&& Int32.toUInt32 31)).toInt32) &&& 1431655765)).toUInt32 >>> ((2 : Int32).toUInt32 &&& Int32.toUInt32 31)).toInt32) &&& 858993459)) + (((((v0 - (((v0.toUInt32 >>> ((1 : Int32).toUInt32 &&& Int32.toUInt32 31)).toInt32) &&& 1431655765)) &&& 858993459) + ((((v0 - (((v0.toUInt32 >>> ((1 : Int32).toUInt32 &&& Int32.toUInt32 31)).toInt32) &&& 1431655765)).toUInt32 >>> ((2 : Int32).toUInt32 &&& Int32.toUInt32 31)).toInt32) &&& 858993459)).toUInt32 >>> ((4 : Int32).toUInt32 &&& Int32.toUInt32 31)).toInt32)) &&& 252645135).toUInt32 >>> ((8 : Int32).toUInt32 &&& Int32.toUInt32 31)).toInt32)))]) hx hb dJ6_bitCount_0f7a4_40 rfl hl (by decide) rfl (fun ls hl => ?_)
  refine lv_iload_n hx hb dJ6_bitCount_0f7a4_41 rfl (lv_at hl 0 rfl) ?_
  refine lv_iload_n hx hb dJ6_bitCount_0f7a4_42 rfl (lv_at hl 0 rfl) ?_
  refine lv_bipush (v := 16) hx hb dJ6_bitCount_0f7a4_43 (by decide) ?_
  refine lv_iushr (v := (((((((v0 - (((v0.toUInt32 >>> ((1 : Int32).toUInt32 &&& Int32.toUInt32 31)).toInt32) &&& 1431655765)) &&& 858993459) + ((((v0 - (((v0.toUInt32 >>> ((1 : Int32).toUInt32 &&& Int32.toUInt32 31)).toInt32) &&& 1431655765)).toUInt32 >>> ((2 : Int32).toUInt32 &&& Int32.toUInt32 31)).toInt32) &&& 858993459)) + (((((v0 - (((v0.toUInt32 >>> ((1 : Int32).toUInt32 &&& Int32.toUInt32 31)).toInt32) &&& 1431655765)) &&& 858993459) + ((((v0 - (((v0.toUInt32 >>> ((1 : Int32).toUInt32 &&& Int32.toUInt32 31)).toInt32) &&& 1431655765)).toUInt32 >>> ((2 : Int32).toUInt32 &&& Int32.toUInt32 31)).toInt32) &&& 858993459)).toUInt32 >>> ((4 : Int32).toUInt32 &&& Int32.toUInt32 31)).toInt32)) &&& 252645135) + (((((((v0 - (((v0.toUInt32 >>> ((1 : Int32).toUInt32 &&& Int32.toUInt32 31)).toInt32) &&& 1431655765)) &&& 858993459) + ((((v0 - (((v0.toUInt32 >>> ((1 : Int32).toUInt32 &&& Int32.toUInt32 31)).toInt32) &&& 1431655765)).toUInt32 >>> ((2 : Int32).toUInt32 &&& Int32.toUInt32 31)).toInt32) &&& 858993459)) + (((((v0 - (((v0.toUInt32 >>> ((1 : Int32).toUInt32 &&& Int32.toUInt32 31)).toInt32) &&& 1431655765)) &&& 858993459) + ((((v0 - (((v0.toUInt32 >>> ((1 : Int32).toUInt32 &&& Int32.toUInt32 31)).toInt32) &&& 1431655765)).toUInt32 >>> ((2 : Int32).toUInt32 &&& Int32.toUInt32 31)).toInt32) &&& 858993459)).toUInt32 >>> ((4 : Int32).toUInt32 &&& Int32.toUInt32 31)).toInt32)) &&& 252645135).toUInt32 >>> ((8 : Int32).toUInt32 &&& Int32.toUInt32 31)).toInt32)).toUInt32 >>> ((16 : Int32).toUInt32 &&& Int32.toUInt32 31)).toInt32) hx hb dJ6_bitCount_0f7a4_45 rfl ?_
  refine lv_iadd hx hb dJ6_bitCount_0f7a4_46 ?_
  refine lv_istore_n (lv' := [(0, .int (((((((v0 - (((v0.toUInt32 >>> ((1 : Int32).toUInt32 &&& Int32.toUInt32 31)).toInt32) &&& 1431655765)) &&& 858993459) + ((((v0 - (((v0.toUInt32 >>> ((1 : Int32).toUInt32 &&& Int32.toUInt32 31)).toInt32) &&& 1431655765)).toUInt32 >>> ((2 : Int32).toUInt32 &&& Int32.toUInt32 31)).toInt32) &&& 858993459)) + (((((v0 - (((v0.toUInt32 >>> ((1 : Int32).toUInt32 &&& Int32.toUInt32 31)).toInt32) &&& 1431655765)) &&& 858993459) + ((((v0 - (((v0.toUInt32 >>> ((1 : Int32).toUInt32 &&& Int32.toUInt32 31)).toInt32) &&& 1431655765)).toUInt32 >>> ((2 : Int32).toUInt32 &&& Int32.toUInt32 31)).toInt32) &&& 858993459)).toUInt32 >>> ((4 : Int32).toUInt32 &&& Int32.toUInt32 31)).toInt32)) &&& 252645135) + (((((((v0 - (((v0.toUInt32 >>> ((1 : Int32).toUInt32 &&& Int32.toUInt32 31)).toInt32) &&& 1431655765)) &&& 858993459) + ((((v0 - (((v0.toUInt32 >>> ((1 : Int32).toUInt32 &&& Int32.toUInt32 31)).toInt32) &&& 1431655765)).toUInt32 >>> ((2 : Int32).toUInt32 &&& Int32.toUInt32 31)).toInt32) &&& 858993459)) + (((((v0 - (((v0.toUInt32 >>> ((1 : Int32).toUInt32 &&& Int32.toUInt32 31)).toInt32) &&& 1431655765)) &&& 858993459) + ((((v0 - (((v0.toUInt32 >>> ((1 : Int32).toUInt32 &&& Int32.toUInt32 31)).toInt32) &&& 1431655765)).toUInt32 >>> ((2 : Int32).toUInt32 &&& Int32.toUInt32 31)).toInt32) &&& 858993459)).toUInt32 >>> ((4 : Int32).toUInt32 &&& Int32.toUInt32 31)).toInt32)) &&& 252645135).toUInt32 >>> ((8 : Int32).toUInt32 &&& Int32.toUInt32 31)).toInt32)) + ((((((((v0 - (((v0.toUInt32 >>> ((1 : Int32).toUInt32 &&& Int32.toUInt32 31)).toInt32) &&& 1431655765)) &&& 858993459) + ((((v0 - (((v0.toUInt32 >>> ((1 : Int32).toUInt32 &&& Int32.toUInt32 31)).toInt32) &&& 1431655765)).toUInt32 >>> ((2 : Int32).toUInt32 &&& Int32.toUInt32 31)).toInt32) &&& 858993459)) + (((((v0 - (((v0.toUInt32 >>> ((1 : Int32).toUInt32 &&& Int32.toUInt32 31)).toInt32) &&& 1431655765)) &&& 858993459) + ((((v0 - (((v0.toUInt32 >>> ((1 : Int32).toUInt32 &&& Int32.toUInt32 31)).toInt32) &&& 1431655765)).toUInt32 >>> ((2 : Int32).toUInt32 &&& Int32.toUInt32 31)).toInt32) &&& 858993459)).toUInt32 >>> ((4 : Int32).toUInt32 &&& Int32.toUInt32 31)).toInt32)) &&& 252645135) + (((((((v0 - (((v0.toUInt32 >>> ((1 : Int32).toUInt32 &&& Int32.toUInt32 31)).toInt32) &&& 1431655765)) &&& 858993459) + ((((v0 - (((v0.toUInt32 >>> ((1 : Int32).toUInt32 &&& Int32.toUInt32 31)).toInt32) &&& 1431655765)).toUInt32 >>> ((2 : Int32).toUInt32 &&& Int32.toUInt32 31)).toInt32) &&& 858993459)) + (((((v0 - (((v0.toUInt32 >>> ((1 : Int32).toUInt32 &&& Int32.toUInt32 31)).toInt32) &&& 1431655765)) &&& 858993459) + ((((v0 - (((v0.toUInt32 >>> ((1 : Int32).toUInt32 &&& Int32.toUInt32 31)).toInt32) &&& 1431655765)).toUInt32 >>> ((2 : Int32).toUInt32 &&& Int32.toUInt32 31)).toInt32) &&& 858993459)).toUInt32 >>> ((4 : Int32).toUInt32 &&& Int32.toUInt32 31)).toInt32)) &&& 252645135).toUInt32 >>> ((8 : Int32).toUInt32 &&& Int32.toUInt32 31)).toInt32)).toUInt32 >>> ((16 : Int32).toUInt32 &&& Int32.toUInt32 31)).toInt32)))]) hx hb dJ6_bitCount_0f7a4_47 rfl hl (by decide) rfl (fun ls hl => ?_)
  refine lv_iload_n hx hb dJ6_bitCount_0f7a4_48 rfl (lv_at hl 0 rfl) ?_
  refine lv_bipush (v := 63) hx hb dJ6_bitCount_0f7a4_49 (by decide) ?_
  refine lv_iand hx hb dJ6_bitCount_0f7a4_51 ?_
  exact k_iret (Wd := bW ad cI cZ) hx hb hr hlk hK hP hS hE dJ6_bitCount_0f7a4_52
theorem iX3_failingInPlan_X3 : ∀ w ∈ wsX30, w ∈ wsX3_failingInPlan := fun w h => List.mem_cons_of_mem _ (List.mem_append_right _ h)
set_option maxHeartbeats 4000000 in
set_option maxRecDepth 100000 in
theorem kX3_failingInPlan (l : Launch) (D : va_G) (ad : Nat → Nat) (cI cZ : ClassId) (hDD : ∀ S, va_D (bA ad) (bW ad cI cZ S)) (S : St) : ∀ So ro, f3_failingInPlan S  = some (So, ro) → Met l yX3_failingInPlan wsX3_failingInPlan { frames := 2, cells := 0, slots := 0, locals := 44 } (va_Pc [.ref (ad 1)] (kPre D cI cZ (bW ad cI cZ S))) (kQi D cI cZ (bA ad) (bW ad cI cZ So) ro) 0 0 (bA ad) := by
  intro So ro hE
  refine kMet_of (by decide) rfl (Nat.le_of_ble_eq_true rfl) ?_
  intro p e s m args below meth c ls hx hb hr hml hown hlk hts hK hP hS hl
  have hl : lv_has ls 3 [(0, .ref (ad 1))] := hl
  have hown : s.vm.findClass RX3 = some m.cls := hown
  have H4 : ∀ (n4 : Nat) (v1 : Int32) (v2 : Int32) (S : St), f3_failingInPlan_L4  n4 v1 v2 S = some (So, ro) → ∀ (H : Heap) (locs : List Loc) (ls : Array Slot), va_P D vwCl (bW ad cI cZ S) H → va_S (bA ad) s.heap H locs → lv_has ls 3 [(0, .ref (ad 1)), (1, .int v1), (2, .int v2)] → W p l e (headSpec wsX3_failingInPlan { frames := 2, cells := 0, slots := 0, locals := 44 }).room s m args below meth c H locs 0 0 (MQ below (kQi D cI cZ (bA ad) (bW ad cI cZ So) ro) args s 0 0 (bA ad)) (F0 m 4 ls []) := by
    intro n4
    induction n4 with
    | zero => intro v1 v2 S hE; exact absurd (show (none : Option (St × Int32)) = some (So, ro) from hE) (fun h => nomatch h)
    | succ n4 ih4 =>
      intro v1 v2 S hE H locs ls hP hS hl
      have hE : f3_failingInPlan_L4b  (f3_failingInPlan_L4 n4) v1 v2 S = some (So, ro) := hE
      unfold f3_failingInPlan_L4b at hE
      refine lv_iload_n hx hb dX3_failingInPlan_4 rfl (lv_at hl 2 rfl) ?_
      refine lv_aload_n hx hb dX3_failingInPlan_5 rfl (lv_at hl 0 rfl) ?_
      refine va_get (D := D) (ci := 2) (v := .int (S.1 2)) (C := RX3) (T := TX3) (N := 8) hx hb hts iX3_failingInPlan_X3 hown hK.1 hP 1 rfl rfl 7 (by decide) (hts (.fieldLink RX3 34 "Bumpherald$Packages" "needCount" "I") (List.mem_of_getElem? (i := 1) rfl)) (fun _ h9 => h9) rfl dX3_failingInPlan_6 ?_
      refine r_icmp_ge (tgt := 29) hx hb dX3_failingInPlan_9 (by decide) hE (fun c1 hE => ?_) (fun c1 hE => ?_)
      · refine lv_iload_n hx hb dX3_failingInPlan_29 rfl (lv_at hl 1 rfl) ?_
        exact k_iret (Wd := bW ad cI cZ) hx hb hr hlk hK hP hS hE dX3_failingInPlan_30
      · refine lv_aload_n hx hb dX3_failingInPlan_12 rfl (lv_at hl 0 rfl) ?_
        refine lv_iload_n hx hb dX3_failingInPlan_13 rfl (lv_at hl 2 rfl) ?_
        refine r_callVi (Wd := bW ad cI cZ) (C := RX3) [.int v2] [] ⟨hx, hb, hml, hown, hts⟩ (kX3_holdsInPlan l D ad cI cZ hDD S v2) (cwV 1 hts gX3_failingInPlan_X3_holdsInPlan rfl rfl rfl (by decide +kernel) ⟨Nat.le_of_ble_eq_true rfl, Nat.le_of_ble_eq_true rfl⟩) (va_recv hK.1 hP (ci := 2) (q0 := 1) rfl rfl) hK hP hS (fun _ h9 => h9) rfl hl.1 rfl (Nat.le_of_ble_eq_true rfl) ⟨Nat.zero_le _, Nat.zero_le _⟩ hE dX3_failingInPlan_14 (fun S3 x2 H locs hE hP hS => ?_)
        refine r_if_ne (tgt := 23) hx hb dX3_failingInPlan_17 (by decide) hE (fun c4 hE => ?_) (fun c4 hE => ?_)
        · refine lv_iinc (v := v1 + 1) (lv' := [(1, .int (v1 + 1)), (0, .ref (ad 1)), (2, .int v2)]) hx hb dX3_failingInPlan_20 hl (k := 1) rfl rfl (by decide) rfl (fun ls hl => ?_)
          refine lv_iinc (v := v2 + 1) (lv' := [(2, .int (v2 + 1)), (1, .int (v1 + 1)), (0, .ref (ad 1))]) hx hb dX3_failingInPlan_23 hl (k := 2) rfl rfl (by decide) rfl (fun ls hl => ?_)
          refine lv_goto (tgt := 4) hx hb dX3_failingInPlan_26 (by decide) ?_
          exact ih4 (v1 + 1) (v2 + 1) S3 hE _ _ _ hP hS (lv_sub hl [2, 1, 0] rfl)
        · refine lv_iinc (v := v2 + 1) (lv' := [(2, .int (v2 + 1)), (0, .ref (ad 1)), (1, .int v1)]) hx hb dX3_failingInPlan_23 hl (k := 2) rfl rfl (by decide) rfl (fun ls hl => ?_)
          refine lv_goto (tgt := 4) hx hb dX3_failingInPlan_26 (by decide) ?_
          exact ih4 v1 (v2 + 1) S3 hE _ _ _ hP hS (lv_sub hl [1, 2, 0] rfl)
  unfold f3_failingInPlan at hE
  refine lv_iconst (v := 0) hx hb dX3_failingInPlan_0 (by decide) ?_
  refine lv_istore_n (lv' := [(1, .int 0), (0, .ref (ad 1))]) hx hb dX3_failingInPlan_1 rfl hl (by decide) rfl (fun ls hl => ?_)
  refine lv_iconst (v := 0) hx hb dX3_failingInPlan_2 (by decide) ?_
  refine lv_istore_n (lv' := [(2, .int 0), (1, .int 0), (0, .ref (ad 1))]) hx hb dX3_failingInPlan_3 rfl hl (by decide) rfl (fun ls hl => ?_)
  exact H4 2000 0 0 S hE _ _ _ hP hS (lv_sub hl [2, 1, 0] rfl)
theorem iX4_failing_X4 : ∀ w ∈ wsX40, w ∈ wsX4_failing := fun w h => List.mem_cons_of_mem _ (List.mem_append_left _ (List.mem_append_right _ h))
set_option maxHeartbeats 4000000 in
set_option maxRecDepth 100000 in
theorem kX4_failing (l : Launch) (D : va_G) (ad : Nat → Nat) (cI cZ : ClassId) (hDD : ∀ S, va_D (bA ad) (bW ad cI cZ S)) (S : St) (v1 : Int32) : ∀ So ro, f4_failing S v1 = some (So, ro) → Met l yX4_failing wsX4_failing { frames := 3, cells := 0, slots := 0, locals := 66 } (va_Pc [.ref (ad 3), .int v1] (kPre D cI cZ (bW ad cI cZ S))) (kQi D cI cZ (bA ad) (bW ad cI cZ So) ro) 0 0 (bA ad) := by
  intro So ro hE
  refine kMet_of (by decide) rfl (Nat.le_of_ble_eq_true rfl) ?_
  intro p e s m args below meth c ls hx hb hr hml hown hlk hts hK hP hS hl
  have hl : lv_has ls 2 [(0, .ref (ad 3)), (1, .int v1)] := hl
  have hown : s.vm.findClass RX4 = some m.cls := hown
  unfold f4_failing at hE
  refine lv_aload_n hx hb dX4_failing_0 rfl (lv_at hl 0 rfl) ?_
  refine lv_iload_n hx hb dX4_failing_1 rfl (lv_at hl 1 rfl) ?_
  refine r_callVv (Wd := bW ad cI cZ) (C := RX4) [.int v1] [] ⟨hx, hb, hml, hown, hts⟩ (kX4_plan l D ad cI cZ hDD S v1) (cwV 1 hts gX4_failing_X4_plan rfl rfl rfl (by decide +kernel) ⟨Nat.le_of_ble_eq_true rfl, Nat.le_of_ble_eq_true rfl⟩) (va_recv hK.1 hP (ci := 3) (q0 := 3) rfl rfl) hK hP hS (fun _ h9 => h9) rfl hl.1 rfl (Nat.le_of_ble_eq_true rfl) ⟨Nat.zero_le _, Nat.zero_le _⟩ hE dX4_failing_2 (fun S2 H locs hE hP hS => ?_)
  refine lv_aload_n hx hb dX4_failing_5 rfl (lv_at hl 0 rfl) ?_
  refine va_get (D := D) (ci := 3) (v := .ref (ad 1)) (C := RX4) (T := TX4) (N := 12) hx hb hts iX4_failing_X4 hown hK.1 hP 3 rfl rfl 0 (by decide) (hts (.fieldLink RX4 47 "Bumpherald$Raises" "packages" "LBumpherald$Packages;") (List.mem_of_getElem? (i := 1) rfl)) (fun _ h9 => h9) rfl dX4_failing_6 ?_
  refine r_callVi (Wd := bW ad cI cZ) (C := RX3) [] [] ⟨hx, hb, hml, hown, hts⟩ (kX3_failingInPlan l D ad cI cZ hDD S2) (cwV 0 hts gX4_failing_X3_failingInPlan rfl rfl rfl (by decide +kernel) ⟨Nat.le_of_ble_eq_true rfl, Nat.le_of_ble_eq_true rfl⟩) (va_recv hK.1 hP (ci := 2) (q0 := 1) rfl rfl) hK hP hS (fun _ h9 => h9) rfl hl.1 rfl (Nat.le_of_ble_eq_true rfl) ⟨Nat.zero_le _, Nat.zero_le _⟩ hE dX4_failing_9 (fun S4 x3 H locs hE hP hS => ?_)
  exact k_iret (Wd := bW ad cI cZ) hx hb hr hlk hK hP hS hE dX4_failing_12
theorem iX0_byAllSets_X4 : ∀ w ∈ wsX40, w ∈ wsX0_byAllSets := fun w h => List.mem_cons_of_mem _ (List.mem_append_left _ (List.mem_append_right _ h))
set_option maxHeartbeats 4000000 in
set_option maxRecDepth 100000 in
theorem kX0_byAllSets (l : Launch) (D : va_G) (ad : Nat → Nat) (cI cZ : ClassId) (hDD : ∀ S, va_D (bA ad) (bW ad cI cZ S)) (S : St) (v1 : Int32) : ∀ So ro, f0_byAllSets S v1 = some (So, ro) → Met l yX0_byAllSets wsX0_byAllSets { frames := 4, cells := 0, slots := 0, locals := 87 } (va_Pc [.ref (ad 3), .int v1] (kPre D cI cZ (bW ad cI cZ S))) (kQi D cI cZ (bA ad) (bW ad cI cZ So) ro) 0 0 (bA ad) := by
  intro So ro hE
  refine kMet_of (by decide) rfl (Nat.le_of_ble_eq_true rfl) ?_
  intro p e s m args below meth c ls hx hb hr hml hown hlk hts hK hP hS hl
  have hl : lv_has ls 5 [(0, .ref (ad 3)), (1, .int v1)] := hl
  have hown : s.vm.findClass RX0 = some m.cls := hown
  have H8 : ∀ (n8 : Nat) (v1 : Int32) (v2 : Int32) (v3 : Int32) (v4 : Int32) (S : St), f0_byAllSets_L8  n8 v1 v2 v3 v4 S = some (So, ro) → ∀ (H : Heap) (locs : List Loc) (ls : Array Slot), va_P D vwCl (bW ad cI cZ S) H → va_S (bA ad) s.heap H locs → lv_has ls 5 [(0, .ref (ad 3)), (1, .int v1), (2, .int v2), (3, .int v3), (4, .int v4)] → W p l e (headSpec wsX0_byAllSets { frames := 4, cells := 0, slots := 0, locals := 87 }).room s m args below meth c H locs 0 0 (MQ below (kQi D cI cZ (bA ad) (bW ad cI cZ So) ro) args s 0 0 (bA ad)) (F0 m 8 ls []) := by
    intro n8
    induction n8 with
    | zero => intro v1 v2 v3 v4 S hE; exact absurd (show (none : Option (St × Int32)) = some (So, ro) from hE) (fun h => nomatch h)
    | succ n8 ih8 =>
      intro v1 v2 v3 v4 S hE H locs ls hP hS hl
      have hE : f0_byAllSets_L8b  (f0_byAllSets_L8 n8) v1 v2 v3 v4 S = some (So, ro) := hE
      unfold f0_byAllSets_L8b at hE
      refine lv_iload hx hb dX0_byAllSets_8 (lv_at hl 4 rfl) ?_
      refine lv_iconst (v := 1) hx hb dX0_byAllSets_10 (by decide) ?_
      refine lv_aload_n hx hb dX0_byAllSets_11 rfl (lv_at hl 0 rfl) ?_
      refine va_get (D := D) (ci := 3) (v := .int (S.1 5)) (C := RX4) (T := TX4) (N := 12) hx hb hts iX0_byAllSets_X4 hown hK.1 hP 3 rfl rfl 11 (by decide) (hts (.fieldLink RX0 31 "Bumpherald$Raises" "openCount" "I") (List.mem_of_getElem? (i := 1) rfl)) (fun _ h9 => h9) rfl dX0_byAllSets_12 ?_
      refine lv_ishl hx hb dX0_byAllSets_15 ?_
      refine r_icmp_ge (tgt := 59) hx hb dX0_byAllSets_16 (by decide) hE (fun c1 hE => ?_) (fun c1 hE => ?_)
      · refine lv_iload_n hx hb dX0_byAllSets_59 rfl (lv_at hl 2 rfl) ?_
        exact k_iret (Wd := bW ad cI cZ) hx hb hr hlk hK hP hS hE dX0_byAllSets_60
      · refine lv_iload hx hb dX0_byAllSets_19 (lv_at hl 4 rfl) ?_
        refine lv_iload_n hx hb dX0_byAllSets_21 rfl (lv_at hl 1 rfl) ?_
        refine lv_iand hx hb dX0_byAllSets_22 ?_
        refine r_if_eq (tgt := 53) hx hb dX0_byAllSets_23 (by decide) hE (fun c2 hE => ?_) (fun c2 hE => ?_)
        · refine lv_iinc (v := v4 + 1) (lv' := [(4, .int (v4 + 1)), (0, .ref (ad 3)), (1, .int v1), (2, .int v2), (3, .int v3)]) hx hb dX0_byAllSets_53 hl (k := 4) rfl rfl (by decide) rfl (fun ls hl => ?_)
          refine lv_goto (tgt := 8) hx hb dX0_byAllSets_56 (by decide) ?_
          exact ih8 v1 v2 v3 (v4 + 1) S hE _ _ _ hP hS (lv_sub hl [1, 2, 3, 4, 0] rfl)
        · refine lv_iload hx hb dX0_byAllSets_26 (lv_at hl 4 rfl) ?_
          refine r_callSi (Wd := bW ad cI cZ) [.int v4] [] ⟨hx, hb, hml, hown, hts⟩ (kJ6_bitCount_0f7a4 l D ad cI cZ hDD S v4) (va_cwS 1 hts gX0_byAllSets_J6_bitCount_0f7a4 rfl rfl rfl (by decide +kernel) ⟨Nat.le_of_ble_eq_true rfl, Nat.le_of_ble_eq_true rfl⟩) hK hP hS (fun _ h9 => h9) rfl hl.1 rfl (Nat.le_of_ble_eq_true rfl) ⟨Nat.zero_le _, Nat.zero_le _⟩ hE dX0_byAllSets_28 (fun S4 x3 H locs hE hP hS => ?_)
          refine lv_iload_n hx hb dX0_byAllSets_31 rfl (lv_at hl 3 rfl) ?_
          refine r_icmp_ge (tgt := 53) hx hb dX0_byAllSets_32 (by decide) hE (fun c5 hE => ?_) (fun c5 hE => ?_)
          · refine lv_iinc (v := v4 + 1) (lv' := [(4, .int (v4 + 1)), (0, .ref (ad 3)), (1, .int v1), (2, .int v2), (3, .int v3)]) hx hb dX0_byAllSets_53 hl (k := 4) rfl rfl (by decide) rfl (fun ls hl => ?_)
            refine lv_goto (tgt := 8) hx hb dX0_byAllSets_56 (by decide) ?_
            exact ih8 v1 v2 v3 (v4 + 1) S4 hE _ _ _ hP hS (lv_sub hl [1, 2, 3, 4, 0] rfl)
          · refine lv_aload_n hx hb dX0_byAllSets_35 rfl (lv_at hl 0 rfl) ?_
            refine lv_iload hx hb dX0_byAllSets_36 (lv_at hl 4 rfl) ?_
            refine r_callVi (Wd := bW ad cI cZ) (C := RX4) [.int v4] [] ⟨hx, hb, hml, hown, hts⟩ (kX4_failing l D ad cI cZ hDD S4 v4) (cwV 1 hts gX0_byAllSets_X4_failing rfl rfl rfl (by decide +kernel) ⟨Nat.le_of_ble_eq_true rfl, Nat.le_of_ble_eq_true rfl⟩) (va_recv hK.1 hP (ci := 3) (q0 := 3) rfl rfl) hK hP hS (fun _ h9 => h9) rfl hl.1 rfl (Nat.le_of_ble_eq_true rfl) ⟨Nat.zero_le _, Nat.zero_le _⟩ hE dX0_byAllSets_38 (fun S7 x6 H locs hE hP hS => ?_)
            refine r_if_ne (tgt := 53) hx hb dX0_byAllSets_41 (by decide) hE (fun c8 hE => ?_) (fun c8 hE => ?_)
            · refine lv_iload hx hb dX0_byAllSets_44 (lv_at hl 4 rfl) ?_
              refine lv_istore_n (lv' := [(2, .int v4), (0, .ref (ad 3)), (1, .int v1), (3, .int v3), (4, .int v4)]) hx hb dX0_byAllSets_46 rfl hl (by decide) rfl (fun ls hl => ?_)
              refine lv_iload hx hb dX0_byAllSets_47 (lv_at hl 4 rfl) ?_
              refine r_callSi (Wd := bW ad cI cZ) [.int v4] [] ⟨hx, hb, hml, hown, hts⟩ (kJ6_bitCount_0f7a4 l D ad cI cZ hDD S7 v4) (va_cwS 1 hts gX0_byAllSets_J6_bitCount_0f7a4 rfl rfl rfl (by decide +kernel) ⟨Nat.le_of_ble_eq_true rfl, Nat.le_of_ble_eq_true rfl⟩) hK hP hS (fun _ h9 => h9) rfl hl.1 rfl (Nat.le_of_ble_eq_true rfl) ⟨Nat.zero_le _, Nat.zero_le _⟩ hE dX0_byAllSets_49 (fun S10 x9 H locs hE hP hS => ?_)
              refine lv_istore_n (lv' := [(3, .int x9), (2, .int v4), (0, .ref (ad 3)), (1, .int v1), (4, .int v4)]) hx hb dX0_byAllSets_52 rfl hl (by decide) rfl (fun ls hl => ?_)
              refine lv_iinc (v := v4 + 1) (lv' := [(4, .int (v4 + 1)), (3, .int x9), (2, .int v4), (0, .ref (ad 3)), (1, .int v1)]) hx hb dX0_byAllSets_53 hl (k := 4) rfl rfl (by decide) rfl (fun ls hl => ?_)
              refine lv_goto (tgt := 8) hx hb dX0_byAllSets_56 (by decide) ?_
              exact ih8 v1 v4 x9 (v4 + 1) S10 hE _ _ _ hP hS (lv_sub hl [3, 4, 2, 1, 0] rfl)
            · refine lv_iinc (v := v4 + 1) (lv' := [(4, .int (v4 + 1)), (0, .ref (ad 3)), (1, .int v1), (2, .int v2), (3, .int v3)]) hx hb dX0_byAllSets_53 hl (k := 4) rfl rfl (by decide) rfl (fun ls hl => ?_)
              refine lv_goto (tgt := 8) hx hb dX0_byAllSets_56 (by decide) ?_
              exact ih8 v1 v2 v3 (v4 + 1) S7 hE _ _ _ hP hS (lv_sub hl [1, 2, 3, 4, 0] rfl)
  unfold f0_byAllSets at hE
  refine lv_iconst (v := -1) hx hb dX0_byAllSets_0 (by decide) ?_
  refine lv_istore_n (lv' := [(2, .int ((-1))), (0, .ref (ad 3)), (1, .int v1)]) hx hb dX0_byAllSets_1 rfl hl (by decide) rfl (fun ls hl => ?_)
  refine lv_bipush (v := 11) hx hb dX0_byAllSets_2 (by decide) ?_
  refine lv_istore_n (lv' := [(3, .int 11), (2, .int ((-1))), (0, .ref (ad 3)), (1, .int v1)]) hx hb dX0_byAllSets_4 rfl hl (by decide) rfl (fun ls hl => ?_)
  refine lv_iconst (v := 0) hx hb dX0_byAllSets_5 (by decide) ?_
  refine lv_istore (lv' := [(4, .int 0), (3, .int 11), (2, .int ((-1))), (0, .ref (ad 3)), (1, .int v1)]) hx hb dX0_byAllSets_6 hl (by decide) rfl (fun ls hl => ?_)
  exact H8 2000 v1 ((-1)) 11 0 S hE _ _ _ hP hS (lv_sub hl [3, 4, 2, 1, 0] rfl)
theorem iX1_add_X1 : ∀ w ∈ wsX10, w ∈ wsX1_add := fun w h => List.mem_cons_of_mem _ (List.mem_append_right _ h)
set_option maxHeartbeats 4000000 in
set_option maxRecDepth 100000 in
theorem kX1_add (l : Launch) (D : va_G) (ad : Nat → Nat) (cI cZ : ClassId) (hDD : ∀ S, va_D (bA ad) (bW ad cI cZ S)) (S : St) (v1 : Int32) (v2 : Int32) (v3 : Int32) : ∀ So ro, f1_add S v1 v2 v3 = some (So, ro) → Met l yX1_add wsX1_add { frames := 0, cells := 0, slots := 0, locals := 0 } (va_Pc [.ref (ad 2), .int v1, .int v2, .int v3] (kPre D cI cZ (bW ad cI cZ S))) (kQi D cI cZ (bA ad) (bW ad cI cZ So) ro) 0 0 (bA ad) := by
  intro So ro hE
  refine kMet_of (by decide) rfl (Nat.le_of_ble_eq_true rfl) ?_
  intro p e s m args below meth c ls hx hb hr hml hown hlk hts hK hP hS hl
  have hl : lv_has ls 4 [(0, .ref (ad 2)), (1, .int v1), (2, .int v2), (3, .int v3)] := hl
  have hown : s.vm.findClass RX1 = some m.cls := hown
  unfold f1_add at hE
  refine lv_aload_n hx hb dX1_add_0 rfl (lv_at hl 0 rfl) ?_
  refine va_get (D := D) (ci := 0) (v := .ref (ad 12)) (C := RX1) (T := TX1) (N := 4) hx hb hts iX1_add_X1 hown hK.1 hP 2 rfl rfl 0 (by decide) (hts (.fieldLink RX1 9 "Bumpherald$Freezes" "sets" "[I") (List.mem_of_getElem? (i := 1) rfl)) (fun _ h9 => h9) rfl dX1_add_1 ?_
  refine lv_aload_n hx hb dX1_add_4 rfl (lv_at hl 0 rfl) ?_
  refine va_get (D := D) (ci := 0) (v := .int (S.1 3)) (C := RX1) (T := TX1) (N := 4) hx hb hts iX1_add_X1 hown hK.1 hP 2 rfl rfl 3 (by decide) (hts (.fieldLink RX1 21 "Bumpherald$Freezes" "count" "I") (List.mem_of_getElem? (i := 2) rfl)) (fun _ h9 => h9) rfl dX1_add_5 ?_
  refine lv_iload_n hx hb dX1_add_8 rfl (lv_at hl 1 rfl) ?_
  refine r_iast (Wd := bW ad cI cZ) (k := 6) (n := 10) hx hb hDD hK hP hS 12 rfl (bU6 ..) hE dX1_add_9 (fun S1 H locs hE hP hS => ?_)
  refine lv_aload_n hx hb dX1_add_10 rfl (lv_at hl 0 rfl) ?_
  refine va_get (D := D) (ci := 0) (v := .ref (ad 13)) (C := RX1) (T := TX1) (N := 4) hx hb hts iX1_add_X1 hown hK.1 hP 2 rfl rfl 1 (by decide) (hts (.fieldLink RX1 15 "Bumpherald$Freezes" "firstDays" "[I") (List.mem_of_getElem? (i := 3) rfl)) (fun _ h9 => h9) rfl dX1_add_11 ?_
  refine lv_aload_n hx hb dX1_add_14 rfl (lv_at hl 0 rfl) ?_
  refine va_get (D := D) (ci := 0) (v := .int (S1.1 3)) (C := RX1) (T := TX1) (N := 4) hx hb hts iX1_add_X1 hown hK.1 hP 2 rfl rfl 3 (by decide) (hts (.fieldLink RX1 21 "Bumpherald$Freezes" "count" "I") (List.mem_of_getElem? (i := 2) rfl)) (fun _ h9 => h9) rfl dX1_add_15 ?_
  refine lv_iload_n hx hb dX1_add_18 rfl (lv_at hl 2 rfl) ?_
  refine r_iast (Wd := bW ad cI cZ) (k := 7) (n := 10) hx hb hDD hK hP hS 13 rfl (bU7 ..) hE dX1_add_19 (fun S2 H locs hE hP hS => ?_)
  refine lv_aload_n hx hb dX1_add_20 rfl (lv_at hl 0 rfl) ?_
  refine va_get (D := D) (ci := 0) (v := .ref (ad 14)) (C := RX1) (T := TX1) (N := 4) hx hb hts iX1_add_X1 hown hK.1 hP 2 rfl rfl 2 (by decide) (hts (.fieldLink RX1 18 "Bumpherald$Freezes" "lastDays" "[I") (List.mem_of_getElem? (i := 4) rfl)) (fun _ h9 => h9) rfl dX1_add_21 ?_
  refine lv_aload_n hx hb dX1_add_24 rfl (lv_at hl 0 rfl) ?_
  refine va_get (D := D) (ci := 0) (v := .int (S2.1 3)) (C := RX1) (T := TX1) (N := 4) hx hb hts iX1_add_X1 hown hK.1 hP 2 rfl rfl 3 (by decide) (hts (.fieldLink RX1 21 "Bumpherald$Freezes" "count" "I") (List.mem_of_getElem? (i := 2) rfl)) (fun _ h9 => h9) rfl dX1_add_25 ?_
  refine lv_iload_n hx hb dX1_add_28 rfl (lv_at hl 3 rfl) ?_
  refine r_iast (Wd := bW ad cI cZ) (k := 8) (n := 10) hx hb hDD hK hP hS 14 rfl (bU8 ..) hE dX1_add_29 (fun S3 H locs hE hP hS => ?_)
  refine lv_aload_n hx hb dX1_add_30 rfl (lv_at hl 0 rfl) ?_
  refine lv_dup hx hb dX1_add_31 rfl ?_
  refine va_get (D := D) (ci := 0) (v := .int (S3.1 3)) (C := RX1) (T := TX1) (N := 4) hx hb hts iX1_add_X1 hown hK.1 hP 2 rfl rfl 3 (by decide) (hts (.fieldLink RX1 21 "Bumpherald$Freezes" "count" "I") (List.mem_of_getElem? (i := 2) rfl)) (fun _ h9 => h9) rfl dX1_add_32 ?_
  refine lv_iconst (v := 1) hx hb dX1_add_35 (by decide) ?_
  refine lv_iadd hx hb dX1_add_36 ?_
  refine r_puti (Wd := bW ad cI cZ) (ci := 0) (C := RX1) (T := TX1) (N := 4) (kf := 3) hx hb hts iX1_add_X1 tyX1 tyX1_ok nmX1 hown hDD hK hP hS 2 rfl rfl 3 (by decide) (hts (.fieldLink RX1 21 "Bumpherald$Freezes" "count" "I") (List.mem_of_getElem? (i := 2) rfl)) rfl rfl (by decide +kernel) (Nat.le_of_ble_eq_true rfl) rfl hE dX1_add_37 (fun S4 H locs hE hP hS => ?_)
  refine lv_aload_n hx hb dX1_add_40 rfl (lv_at hl 0 rfl) ?_
  refine va_get (D := D) (ci := 0) (v := .int (S4.1 3)) (C := RX1) (T := TX1) (N := 4) hx hb hts iX1_add_X1 hown hK.1 hP 2 rfl rfl 3 (by decide) (hts (.fieldLink RX1 21 "Bumpherald$Freezes" "count" "I") (List.mem_of_getElem? (i := 2) rfl)) (fun _ h9 => h9) rfl dX1_add_41 ?_
  exact k_iret (Wd := bW ad cI cZ) hx hb hr hlk hK hP hS hE dX1_add_44
theorem iX1_isFrozen_X1 : ∀ w ∈ wsX10, w ∈ wsX1_isFrozen := fun w h => List.mem_cons_of_mem _ (List.mem_append_right _ h)
set_option maxHeartbeats 4000000 in
set_option maxRecDepth 100000 in
theorem kX1_isFrozen (l : Launch) (D : va_G) (ad : Nat → Nat) (cI cZ : ClassId) (hDD : ∀ S, va_D (bA ad) (bW ad cI cZ S)) (S : St) (v1 : Int32) (v2 : Int32) : ∀ So ro, f1_isFrozen S v1 v2 = some (So, ro) → Met l yX1_isFrozen wsX1_isFrozen { frames := 1, cells := 0, slots := 0, locals := 22 } (va_Pc [.ref (ad 2), .int v1, .int v2] (kPre D cI cZ (bW ad cI cZ S))) (kQi D cI cZ (bA ad) (bW ad cI cZ So) ro) 0 0 (bA ad) := by
  intro So ro hE
  refine kMet_of (by decide) rfl (Nat.le_of_ble_eq_true rfl) ?_
  intro p e s m args below meth c ls hx hb hr hml hown hlk hts hK hP hS hl
  have hl : lv_has ls 4 [(0, .ref (ad 2)), (1, .int v1), (2, .int v2)] := hl
  have hown : s.vm.findClass RX1 = some m.cls := hown
  have H2 : ∀ (n2 : Nat) (v1 : Int32) (v2 : Int32) (v3 : Int32) (S : St), f1_isFrozen_L2  n2 v1 v2 v3 S = some (So, ro) → ∀ (H : Heap) (locs : List Loc) (ls : Array Slot), va_P D vwCl (bW ad cI cZ S) H → va_S (bA ad) s.heap H locs → lv_has ls 4 [(0, .ref (ad 2)), (1, .int v1), (2, .int v2), (3, .int v3)] → W p l e (headSpec wsX1_isFrozen { frames := 1, cells := 0, slots := 0, locals := 22 }).room s m args below meth c H locs 0 0 (MQ below (kQi D cI cZ (bA ad) (bW ad cI cZ So) ro) args s 0 0 (bA ad)) (F0 m 2 ls []) := by
    intro n2
    induction n2 with
    | zero => intro v1 v2 v3 S hE; exact absurd (show (none : Option (St × Int32)) = some (So, ro) from hE) (fun h => nomatch h)
    | succ n2 ih2 =>
      intro v1 v2 v3 S hE H locs ls hP hS hl
      have hE : f1_isFrozen_L2b  (f1_isFrozen_L2 n2) v1 v2 v3 S = some (So, ro) := hE
      unfold f1_isFrozen_L2b at hE
      refine lv_iload_n hx hb dX1_isFrozen_2 rfl (lv_at hl 3 rfl) ?_
      refine lv_aload_n hx hb dX1_isFrozen_3 rfl (lv_at hl 0 rfl) ?_
      refine va_get (D := D) (ci := 0) (v := .int (S.1 3)) (C := RX1) (T := TX1) (N := 4) hx hb hts iX1_isFrozen_X1 hown hK.1 hP 2 rfl rfl 3 (by decide) (hts (.fieldLink RX1 21 "Bumpherald$Freezes" "count" "I") (List.mem_of_getElem? (i := 1) rfl)) (fun _ h9 => h9) rfl dX1_isFrozen_4 ?_
      refine r_icmp_ge (tgt := 48) hx hb dX1_isFrozen_7 (by decide) hE (fun c1 hE => ?_) (fun c1 hE => ?_)
      · refine lv_iconst (v := 0) hx hb dX1_isFrozen_48 (by decide) ?_
        exact k_zret (Wd := bW ad cI cZ) hx hb hr hlk (by decide +kernel) hK hP hS hE dX1_isFrozen_49
      · refine lv_aload_n hx hb dX1_isFrozen_10 rfl (lv_at hl 0 rfl) ?_
        refine va_get (D := D) (ci := 0) (v := .ref (ad 12)) (C := RX1) (T := TX1) (N := 4) hx hb hts iX1_isFrozen_X1 hown hK.1 hP 2 rfl rfl 0 (by decide) (hts (.fieldLink RX1 9 "Bumpherald$Freezes" "sets" "[I") (List.mem_of_getElem? (i := 2) rfl)) (fun _ h9 => h9) rfl dX1_isFrozen_11 ?_
        refine lv_iload_n hx hb dX1_isFrozen_14 rfl (lv_at hl 3 rfl) ?_
        refine r_iald (Wd := bW ad cI cZ) (k := 6) (n := 10) hx hb hK hP 12 rfl hE dX1_isFrozen_15 (fun x2 hE => ?_)
        refine lv_iload_n hx hb dX1_isFrozen_16 rfl (lv_at hl 1 rfl) ?_
        refine lv_iand hx hb dX1_isFrozen_17 ?_
        refine r_if_eq (tgt := 42) hx hb dX1_isFrozen_18 (by decide) hE (fun c3 hE => ?_) (fun c3 hE => ?_)
        · refine lv_iinc (v := v3 + 1) (lv' := [(3, .int (v3 + 1)), (0, .ref (ad 2)), (1, .int v1), (2, .int v2)]) hx hb dX1_isFrozen_42 hl (k := 3) rfl rfl (by decide) rfl (fun ls hl => ?_)
          refine lv_goto (tgt := 2) hx hb dX1_isFrozen_45 (by decide) ?_
          exact ih2 v1 v2 (v3 + 1) S hE _ _ _ hP hS (lv_sub hl [1, 2, 3, 0] rfl)
        · refine lv_iload_n hx hb dX1_isFrozen_21 rfl (lv_at hl 2 rfl) ?_
          refine lv_aload_n hx hb dX1_isFrozen_22 rfl (lv_at hl 0 rfl) ?_
          refine va_get (D := D) (ci := 0) (v := .ref (ad 13)) (C := RX1) (T := TX1) (N := 4) hx hb hts iX1_isFrozen_X1 hown hK.1 hP 2 rfl rfl 1 (by decide) (hts (.fieldLink RX1 15 "Bumpherald$Freezes" "firstDays" "[I") (List.mem_of_getElem? (i := 3) rfl)) (fun _ h9 => h9) rfl dX1_isFrozen_23 ?_
          refine lv_iload_n hx hb dX1_isFrozen_26 rfl (lv_at hl 3 rfl) ?_
          refine r_iald (Wd := bW ad cI cZ) (k := 7) (n := 10) hx hb hK hP 13 rfl hE dX1_isFrozen_27 (fun x4 hE => ?_)
          refine lv_aload_n hx hb dX1_isFrozen_28 rfl (lv_at hl 0 rfl) ?_
          refine va_get (D := D) (ci := 0) (v := .ref (ad 14)) (C := RX1) (T := TX1) (N := 4) hx hb hts iX1_isFrozen_X1 hown hK.1 hP 2 rfl rfl 2 (by decide) (hts (.fieldLink RX1 18 "Bumpherald$Freezes" "lastDays" "[I") (List.mem_of_getElem? (i := 4) rfl)) (fun _ h9 => h9) rfl dX1_isFrozen_29 ?_
          refine lv_iload_n hx hb dX1_isFrozen_32 rfl (lv_at hl 3 rfl) ?_
          refine r_iald (Wd := bW ad cI cZ) (k := 8) (n := 10) hx hb hK hP 14 rfl hE dX1_isFrozen_33 (fun x5 hE => ?_)
          refine r_callSN (Wd := bW ad cI cZ) [.int v2, .int x4, .int x5] [] ⟨hx, hb, hml, hown, hts⟩ (kX6_isWithin l D ad cI cZ hDD S v2 x4 x5) ⟨va_cnB 3 hts gX1_isFrozen_X6_isWithin_n25 rfl rfl rfl hK.2.2 (hts (.initialized RX6) (List.mem_of_getElem? (i := 6) rfl)) (by decide +kernel) ⟨Nat.le_of_ble_eq_true rfl, Nat.le_of_ble_eq_true rfl⟩, hts (.static yX6_isWithin) (List.mem_of_getElem? (i := 5) rfl), trivial⟩ hK hP hS (fun _ h9 => h9) rfl hl.1 rfl (Nat.le_of_ble_eq_true rfl) ⟨Nat.zero_le _, Nat.zero_le _⟩ hE dX1_isFrozen_34 (fun S7 x6 H locs hE hP hS => ?_)
          refine r_if_eq (tgt := 42) hx hb dX1_isFrozen_37 (by decide) hE (fun c8 hE => ?_) (fun c8 hE => ?_)
          · refine lv_iinc (v := v3 + 1) (lv' := [(3, .int (v3 + 1)), (0, .ref (ad 2)), (1, .int v1), (2, .int v2)]) hx hb dX1_isFrozen_42 hl (k := 3) rfl rfl (by decide) rfl (fun ls hl => ?_)
            refine lv_goto (tgt := 2) hx hb dX1_isFrozen_45 (by decide) ?_
            exact ih2 v1 v2 (v3 + 1) S7 hE _ _ _ hP hS (lv_sub hl [1, 2, 3, 0] rfl)
          · refine lv_iconst (v := 1) hx hb dX1_isFrozen_40 (by decide) ?_
            exact k_zret (Wd := bW ad cI cZ) hx hb hr hlk (by decide +kernel) hK hP hS hE dX1_isFrozen_41
  unfold f1_isFrozen at hE
  refine lv_iconst (v := 0) hx hb dX1_isFrozen_0 (by decide) ?_
  refine lv_istore_n (lv' := [(3, .int 0), (0, .ref (ad 2)), (1, .int v1), (2, .int v2)]) hx hb dX1_isFrozen_1 rfl hl (by decide) rfl (fun ls hl => ?_)
  exact H2 2000 v1 v2 0 S hE _ _ _ hP hS (lv_sub hl [1, 2, 3, 0] rfl)
theorem iX4_groupOf_X4 : ∀ w ∈ wsX40, w ∈ wsX4_groupOf := fun w h => List.mem_cons_of_mem _ (List.mem_append_right _ h)
set_option maxHeartbeats 4000000 in
set_option maxRecDepth 100000 in
theorem kX4_groupOf (l : Launch) (D : va_G) (ad : Nat → Nat) (cI cZ : ClassId) (hDD : ∀ S, va_D (bA ad) (bW ad cI cZ S)) (S : St) (v1 : Int32) : ∀ So ro, f4_groupOf S v1 = some (So, ro) → Met l yX4_groupOf wsX4_groupOf { frames := 0, cells := 0, slots := 0, locals := 0 } (va_Pc [.ref (ad 3), .int v1] (kPre D cI cZ (bW ad cI cZ S))) (kQi D cI cZ (bA ad) (bW ad cI cZ So) ro) 0 0 (bA ad) := by
  intro So ro hE
  refine kMet_of (by decide) rfl (Nat.le_of_ble_eq_true rfl) ?_
  intro p e s m args below meth c ls hx hb hr hml hown hlk hts hK hP hS hl
  have hl : lv_has ls 4 [(0, .ref (ad 3)), (1, .int v1)] := hl
  have hown : s.vm.findClass RX4 = some m.cls := hown
  have H4 : ∀ (n4 : Nat) (v1 : Int32) (v2 : Int32) (v3 : Int32) (S : St), f4_groupOf_L4  n4 v1 v2 v3 S = some (So, ro) → ∀ (H : Heap) (locs : List Loc) (ls : Array Slot), va_P D vwCl (bW ad cI cZ S) H → va_S (bA ad) s.heap H locs → lv_has ls 4 [(0, .ref (ad 3)), (1, .int v1), (2, .int v2), (3, .int v3)] → W p l e (headSpec wsX4_groupOf { frames := 0, cells := 0, slots := 0, locals := 0 }).room s m args below meth c H locs 0 0 (MQ below (kQi D cI cZ (bA ad) (bW ad cI cZ So) ro) args s 0 0 (bA ad)) (F0 m 4 ls []) := by
    intro n4
    induction n4 with
    | zero => intro v1 v2 v3 S hE; exact absurd (show (none : Option (St × Int32)) = some (So, ro) from hE) (fun h => nomatch h)
    | succ n4 ih4 =>
      intro v1 v2 v3 S hE H locs ls hP hS hl
      have hE : f4_groupOf_L4b  (f4_groupOf_L4 n4) v1 v2 v3 S = some (So, ro) := hE
      unfold f4_groupOf_L4b at hE
      refine lv_iload_n hx hb dX4_groupOf_4 rfl (lv_at hl 3 rfl) ?_
      refine lv_aload_n hx hb dX4_groupOf_5 rfl (lv_at hl 0 rfl) ?_
      refine va_get (D := D) (ci := 3) (v := .int (S.1 5)) (C := RX4) (T := TX4) (N := 12) hx hb hts iX4_groupOf_X4 hown hK.1 hP 3 rfl rfl 11 (by decide) (hts (.fieldLink RX4 44 "Bumpherald$Raises" "openCount" "I") (List.mem_of_getElem? (i := 1) rfl)) (fun _ h9 => h9) rfl dX4_groupOf_6 ?_
      refine r_icmp_ge (tgt := 44) hx hb dX4_groupOf_9 (by decide) hE (fun c1 hE => ?_) (fun c1 hE => ?_)
      · refine lv_iload_n hx hb dX4_groupOf_44 rfl (lv_at hl 2 rfl) ?_
        exact k_iret (Wd := bW ad cI cZ) hx hb hr hlk hK hP hS hE dX4_groupOf_45
      · refine lv_aload_n hx hb dX4_groupOf_12 rfl (lv_at hl 0 rfl) ?_
        refine va_get (D := D) (ci := 3) (v := .ref (ad 22)) (C := RX4) (T := TX4) (N := 12) hx hb hts iX4_groupOf_X4 hown hK.1 hP 3 rfl rfl 8 (by decide) (hts (.fieldLink RX4 34 "Bumpherald$Raises" "groups" "[I") (List.mem_of_getElem? (i := 2) rfl)) (fun _ h9 => h9) rfl dX4_groupOf_13 ?_
        refine lv_aload_n hx hb dX4_groupOf_16 rfl (lv_at hl 0 rfl) ?_
        refine va_get (D := D) (ci := 3) (v := .ref (ad 23)) (C := RX4) (T := TX4) (N := 12) hx hb hts iX4_groupOf_X4 hown hK.1 hP 3 rfl rfl 9 (by decide) (hts (.fieldLink RX4 37 "Bumpherald$Raises" "open" "[I") (List.mem_of_getElem? (i := 3) rfl)) (fun _ h9 => h9) rfl dX4_groupOf_17 ?_
        refine lv_iload_n hx hb dX4_groupOf_20 rfl (lv_at hl 3 rfl) ?_
        refine r_iald (Wd := bW ad cI cZ) (k := 17) (n := 10) hx hb hK hP 23 rfl hE dX4_groupOf_21 (fun x2 hE => ?_)
        refine r_iald (Wd := bW ad cI cZ) (k := 16) (n := 40) hx hb hK hP 22 rfl hE dX4_groupOf_22 (fun x3 hE => ?_)
        refine lv_aload_n hx hb dX4_groupOf_23 rfl (lv_at hl 0 rfl) ?_
        refine va_get (D := D) (ci := 3) (v := .ref (ad 22)) (C := RX4) (T := TX4) (N := 12) hx hb hts iX4_groupOf_X4 hown hK.1 hP 3 rfl rfl 8 (by decide) (hts (.fieldLink RX4 34 "Bumpherald$Raises" "groups" "[I") (List.mem_of_getElem? (i := 2) rfl)) (fun _ h9 => h9) rfl dX4_groupOf_24 ?_
        refine lv_iload_n hx hb dX4_groupOf_27 rfl (lv_at hl 1 rfl) ?_
        refine r_iald (Wd := bW ad cI cZ) (k := 16) (n := 40) hx hb hK hP 22 rfl hE dX4_groupOf_28 (fun x4 hE => ?_)
        refine r_icmp_ne (tgt := 38) hx hb dX4_groupOf_29 (by decide) hE (fun c5 hE => ?_) (fun c5 hE => ?_)
        · refine lv_iload_n hx hb dX4_groupOf_32 rfl (lv_at hl 2 rfl) ?_
          refine lv_iconst (v := 1) hx hb dX4_groupOf_33 (by decide) ?_
          refine lv_iload_n hx hb dX4_groupOf_34 rfl (lv_at hl 3 rfl) ?_
          refine lv_ishl hx hb dX4_groupOf_35 ?_
          refine lv_ior hx hb dX4_groupOf_36 ?_
          refine lv_istore_n (lv' := [(2, .int (v2 ||| (1 <<< (v3 &&& 31)))), (0, .ref (ad 3)), (1, .int v1), (3, .int v3)]) hx hb dX4_groupOf_37 rfl hl (by decide) rfl (fun ls hl => ?_)
          refine lv_iinc (v := v3 + 1) (lv' := [(3, .int (v3 + 1)), (2, .int (v2 ||| (1 <<< (v3 &&& 31)))), (0, .ref (ad 3)), (1, .int v1)]) hx hb dX4_groupOf_38 hl (k := 3) rfl rfl (by decide) rfl (fun ls hl => ?_)
          refine lv_goto (tgt := 4) hx hb dX4_groupOf_41 (by decide) ?_
          exact ih4 v1 (v2 ||| (1 <<< (v3 &&& 31))) (v3 + 1) S hE _ _ _ hP hS (lv_sub hl [2, 3, 1, 0] rfl)
        · refine lv_iinc (v := v3 + 1) (lv' := [(3, .int (v3 + 1)), (0, .ref (ad 3)), (1, .int v1), (2, .int v2)]) hx hb dX4_groupOf_38 hl (k := 3) rfl rfl (by decide) rfl (fun ls hl => ?_)
          refine lv_goto (tgt := 4) hx hb dX4_groupOf_41 (by decide) ?_
          exact ih4 v1 v2 (v3 + 1) S hE _ _ _ hP hS (lv_sub hl [1, 2, 3, 0] rfl)
  unfold f4_groupOf at hE
  refine lv_iconst (v := 0) hx hb dX4_groupOf_0 (by decide) ?_
  refine lv_istore_n (lv' := [(2, .int 0), (0, .ref (ad 3)), (1, .int v1)]) hx hb dX4_groupOf_1 rfl hl (by decide) rfl (fun ls hl => ?_)
  refine lv_iconst (v := 0) hx hb dX4_groupOf_2 (by decide) ?_
  refine lv_istore_n (lv' := [(3, .int 0), (2, .int 0), (0, .ref (ad 3)), (1, .int v1)]) hx hb dX4_groupOf_3 rfl hl (by decide) rfl (fun ls hl => ?_)
  exact H4 2000 v1 0 0 S hE _ _ _ hP hS (lv_sub hl [2, 3, 1, 0] rfl)
theorem iX2_sleepsTooLong_X2 : ∀ w ∈ wsX20, w ∈ wsX2_sleepsTooLong := fun w h => List.mem_cons_of_mem _ (List.mem_append_left _ (List.mem_append_left _ (List.mem_append_right _ h)))
theorem iX2_sleepsTooLong_X4 : ∀ w ∈ wsX40, w ∈ wsX2_sleepsTooLong := fun w h => List.mem_cons_of_mem _ (List.mem_append_left _ (List.mem_append_right _ h))
set_option maxHeartbeats 4000000 in
set_option maxRecDepth 100000 in
theorem kX2_sleepsTooLong (l : Launch) (D : va_G) (ad : Nat → Nat) (cI cZ : ClassId) (hDD : ∀ S, va_D (bA ad) (bW ad cI cZ S)) (S : St) (v1 : Int32) (v2 : Int32) : ∀ So ro, f2_sleepsTooLong S v1 v2 = some (So, ro) → Met l yX2_sleepsTooLong wsX2_sleepsTooLong { frames := 4, cells := 0, slots := 0, locals := 87 } (va_Pc [.ref (ad 5), .int v1, .int v2] (kPre D cI cZ (bW ad cI cZ S))) (kQi D cI cZ (bA ad) (bW ad cI cZ So) ro) 0 0 (bA ad) := by
  intro So ro hE
  refine kMet_of (by decide) rfl (Nat.le_of_ble_eq_true rfl) ?_
  intro p e s m args below meth c ls hx hb hr hml hown hlk hts hK hP hS hl
  have hl : lv_has ls 3 [(0, .ref (ad 5)), (1, .int v1), (2, .int v2)] := hl
  have hown : s.vm.findClass RX2 = some m.cls := hown
  unfold f2_sleepsTooLong at hE
  refine lv_iload_n hx hb dX2_sleepsTooLong_0 rfl (lv_at hl 2 rfl) ?_
  refine lv_aload_n hx hb dX2_sleepsTooLong_1 rfl (lv_at hl 0 rfl) ?_
  refine va_get (D := D) (ci := 1) (v := .ref (ad 3)) (C := RX2) (T := TX2) (N := 4) hx hb hts iX2_sleepsTooLong_X2 hown hK.1 hP 5 rfl rfl 0 (by decide) (hts (.fieldLink RX2 19 "Bumpherald$Herding" "raises" "LBumpherald$Raises;") (List.mem_of_getElem? (i := 1) rfl)) (fun _ h9 => h9) rfl dX2_sleepsTooLong_2 ?_
  refine va_get (D := D) (ci := 3) (v := .ref (ad 18)) (C := RX4) (T := TX4) (N := 12) hx hb hts iX2_sleepsTooLong_X4 hown hK.1 hP 3 rfl rfl 4 (by decide) (hts (.fieldLink RX2 48 "Bumpherald$Raises" "days" "[I") (List.mem_of_getElem? (i := 2) rfl)) (fun _ h9 => h9) rfl dX2_sleepsTooLong_5 ?_
  refine lv_iload_n hx hb dX2_sleepsTooLong_8 rfl (lv_at hl 1 rfl) ?_
  refine r_iald (Wd := bW ad cI cZ) (k := 12) (n := 40) hx hb hK hP 18 rfl hE dX2_sleepsTooLong_9 (fun x1 hE => ?_)
  refine lv_isub hx hb dX2_sleepsTooLong_10 ?_
  refine lv_aload_n hx hb dX2_sleepsTooLong_11 rfl (lv_at hl 0 rfl) ?_
  refine va_get (D := D) (ci := 1) (v := .int (S.1 6)) (C := RX2) (T := TX2) (N := 4) hx hb hts iX2_sleepsTooLong_X2 hown hK.1 hP 5 rfl rfl 3 (by decide) (hts (.fieldLink RX2 15 "Bumpherald$Herding" "patience" "I") (List.mem_of_getElem? (i := 3) rfl)) (fun _ h9 => h9) rfl dX2_sleepsTooLong_12 ?_
  refine r_icmp_lt (tgt := 40) hx hb dX2_sleepsTooLong_15 (by decide) hE (fun c2 hE => ?_) (fun c2 hE => ?_)
  · refine lv_iconst (v := 0) hx hb dX2_sleepsTooLong_40 (by decide) ?_
    exact k_zret (Wd := bW ad cI cZ) hx hb hr hlk (by decide +kernel) hK hP hS hE dX2_sleepsTooLong_41
  · refine lv_aload_n hx hb dX2_sleepsTooLong_18 rfl (lv_at hl 0 rfl) ?_
    refine va_get (D := D) (ci := 1) (v := .ref (ad 3)) (C := RX2) (T := TX2) (N := 4) hx hb hts iX2_sleepsTooLong_X2 hown hK.1 hP 5 rfl rfl 0 (by decide) (hts (.fieldLink RX2 19 "Bumpherald$Herding" "raises" "LBumpherald$Raises;") (List.mem_of_getElem? (i := 1) rfl)) (fun _ h9 => h9) rfl dX2_sleepsTooLong_19 ?_
    refine lv_aload_n hx hb dX2_sleepsTooLong_22 rfl (lv_at hl 0 rfl) ?_
    refine va_get (D := D) (ci := 1) (v := .ref (ad 3)) (C := RX2) (T := TX2) (N := 4) hx hb hts iX2_sleepsTooLong_X2 hown hK.1 hP 5 rfl rfl 0 (by decide) (hts (.fieldLink RX2 19 "Bumpherald$Herding" "raises" "LBumpherald$Raises;") (List.mem_of_getElem? (i := 1) rfl)) (fun _ h9 => h9) rfl dX2_sleepsTooLong_23 ?_
    refine lv_iload_n hx hb dX2_sleepsTooLong_26 rfl (lv_at hl 1 rfl) ?_
    refine r_callVi (Wd := bW ad cI cZ) (C := RX4) [.int v1] [.ref (ad 3)] ⟨hx, hb, hml, hown, hts⟩ (kX4_groupOf l D ad cI cZ hDD S v1) (cwV 1 hts gX2_sleepsTooLong_X4_groupOf rfl rfl rfl (by decide +kernel) ⟨Nat.le_of_ble_eq_true rfl, Nat.le_of_ble_eq_true rfl⟩) (va_recv hK.1 hP (ci := 3) (q0 := 3) rfl rfl) hK hP hS (fun _ h9 => h9) rfl hl.1 rfl (Nat.le_of_ble_eq_true rfl) ⟨Nat.zero_le _, Nat.zero_le _⟩ hE dX2_sleepsTooLong_27 (fun S4 x3 H locs hE hP hS => ?_)
    refine r_callVi (Wd := bW ad cI cZ) (C := RX4) [.int x3] [] ⟨hx, hb, hml, hown, hts⟩ (kX4_failing l D ad cI cZ hDD S4 x3) (cwV 1 hts gX2_sleepsTooLong_X4_failing rfl rfl rfl (by decide +kernel) ⟨Nat.le_of_ble_eq_true rfl, Nat.le_of_ble_eq_true rfl⟩) (va_recv hK.1 hP (ci := 3) (q0 := 3) rfl rfl) hK hP hS (fun _ h9 => h9) rfl hl.1 rfl (Nat.le_of_ble_eq_true rfl) ⟨Nat.zero_le _, Nat.zero_le _⟩ hE dX2_sleepsTooLong_30 (fun S6 x5 H locs hE hP hS => ?_)
    refine r_if_eq (tgt := 40) hx hb dX2_sleepsTooLong_33 (by decide) hE (fun c7 hE => ?_) (fun c7 hE => ?_)
    · refine lv_iconst (v := 0) hx hb dX2_sleepsTooLong_40 (by decide) ?_
      exact k_zret (Wd := bW ad cI cZ) hx hb hr hlk (by decide +kernel) hK hP hS hE dX2_sleepsTooLong_41
    · refine lv_iconst (v := 1) hx hb dX2_sleepsTooLong_36 (by decide) ?_
      refine lv_goto (tgt := 41) hx hb dX2_sleepsTooLong_37 (by decide) ?_
      exact k_zret (Wd := bW ad cI cZ) hx hb hr hlk (by decide +kernel) hK hP hS hE dX2_sleepsTooLong_41
theorem iX2_bestPartner_X2 : ∀ w ∈ wsX20, w ∈ wsX2_bestPartner := fun w h => List.mem_cons_of_mem _ (List.mem_append_left _ (List.mem_append_left _ (List.mem_append_right _ h)))
theorem iX2_bestPartner_X4 : ∀ w ∈ wsX40, w ∈ wsX2_bestPartner := fun w h => List.mem_cons_of_mem _ (List.mem_append_left _ (List.mem_append_right _ h))
set_option maxHeartbeats 4000000 in
set_option maxRecDepth 100000 in
theorem kX2_bestPartner (l : Launch) (D : va_G) (ad : Nat → Nat) (cI cZ : ClassId) (hDD : ∀ S, va_D (bA ad) (bW ad cI cZ S)) (S : St) (v1 : Int32) : ∀ So ro, f2_bestPartner S v1 = some (So, ro) → Met l yX2_bestPartner wsX2_bestPartner { frames := 4, cells := 0, slots := 0, locals := 87 } (va_Pc [.ref (ad 5), .int v1] (kPre D cI cZ (bW ad cI cZ S))) (kQi D cI cZ (bA ad) (bW ad cI cZ So) ro) 0 0 (bA ad) := by
  intro So ro hE
  refine kMet_of (by decide) rfl (Nat.le_of_ble_eq_true rfl) ?_
  intro p e s m args below meth c ls hx hb hr hml hown hlk hts hK hP hS hl
  have hl : lv_has ls 7 [(0, .ref (ad 5)), (1, .int v1)] := hl
  have hown : s.vm.findClass RX2 = some m.cls := hown
  have H24 : ∀ (n24 : Nat) (v1 : Int32) (v2 : Int32) (v3 : Int32) (v4 : Int32) (v5 : Int32) (S : St), f2_bestPartner_L24  n24 v1 v2 v3 v4 v5 S = some (So, ro) → ∀ (H : Heap) (locs : List Loc) (ls : Array Slot), va_P D vwCl (bW ad cI cZ S) H → va_S (bA ad) s.heap H locs → lv_has ls 7 [(0, .ref (ad 5)), (1, .int v1), (2, .int v2), (3, .int v3), (4, .int v4), (5, .int v5)] → W p l e (headSpec wsX2_bestPartner { frames := 4, cells := 0, slots := 0, locals := 87 }).room s m args below meth c H locs 0 0 (MQ below (kQi D cI cZ (bA ad) (bW ad cI cZ So) ro) args s 0 0 (bA ad)) (F0 m 24 ls []) := by
    intro n24
    induction n24 with
    | zero => intro v1 v2 v3 v4 v5 S hE; exact absurd (show (none : Option (St × Int32)) = some (So, ro) from hE) (fun h => nomatch h)
    | succ n24 ih24 =>
      intro v1 v2 v3 v4 v5 S hE H locs ls hP hS hl
      have hE : f2_bestPartner_L24b  (f2_bestPartner_L24 n24) v1 v2 v3 v4 v5 S = some (So, ro) := hE
      unfold f2_bestPartner_L24b at hE
      refine lv_iload hx hb dX2_bestPartner_24 (lv_at hl 5 rfl) ?_
      refine lv_aload_n hx hb dX2_bestPartner_26 rfl (lv_at hl 0 rfl) ?_
      refine va_get (D := D) (ci := 1) (v := .ref (ad 3)) (C := RX2) (T := TX2) (N := 4) hx hb hts iX2_bestPartner_X2 hown hK.1 hP 5 rfl rfl 0 (by decide) (hts (.fieldLink RX2 19 "Bumpherald$Herding" "raises" "LBumpherald$Raises;") (List.mem_of_getElem? (i := 1) rfl)) (fun _ h9 => h9) rfl dX2_bestPartner_27 ?_
      refine va_get (D := D) (ci := 3) (v := .int (S.1 4)) (C := RX4) (T := TX4) (N := 12) hx hb hts iX2_bestPartner_X4 hown hK.1 hP 3 rfl rfl 10 (by decide) (hts (.fieldLink RX2 27 "Bumpherald$Raises" "count" "I") (List.mem_of_getElem? (i := 2) rfl)) (fun _ h9 => h9) rfl dX2_bestPartner_30 ?_
      refine r_icmp_ge (tgt := 97) hx hb dX2_bestPartner_33 (by decide) hE (fun c1 hE => ?_) (fun c1 hE => ?_)
      · refine lv_iload_n hx hb dX2_bestPartner_97 rfl (lv_at hl 3 rfl) ?_
        exact k_iret (Wd := bW ad cI cZ) hx hb hr hlk hK hP hS hE dX2_bestPartner_98
      · refine lv_iload hx hb dX2_bestPartner_36 (lv_at hl 5 rfl) ?_
        refine lv_iload_n hx hb dX2_bestPartner_38 rfl (lv_at hl 1 rfl) ?_
        refine r_icmp_eq (tgt := 91) hx hb dX2_bestPartner_39 (by decide) hE (fun c2 hE => ?_) (fun c2 hE => ?_)
        · refine lv_iinc (v := v5 + 1) (lv' := [(5, .int (v5 + 1)), (0, .ref (ad 5)), (1, .int v1), (2, .int v2), (3, .int v3), (4, .int v4)]) hx hb dX2_bestPartner_91 hl (k := 5) rfl rfl (by decide) rfl (fun ls hl => ?_)
          refine lv_goto (tgt := 24) hx hb dX2_bestPartner_94 (by decide) ?_
          exact ih24 v1 v2 v3 v4 (v5 + 1) S hE _ _ _ hP hS (lv_sub hl [1, 2, 3, 4, 5, 0] rfl)
        · refine lv_aload_n hx hb dX2_bestPartner_42 rfl (lv_at hl 0 rfl) ?_
          refine va_get (D := D) (ci := 1) (v := .ref (ad 3)) (C := RX2) (T := TX2) (N := 4) hx hb hts iX2_bestPartner_X2 hown hK.1 hP 5 rfl rfl 0 (by decide) (hts (.fieldLink RX2 19 "Bumpherald$Herding" "raises" "LBumpherald$Raises;") (List.mem_of_getElem? (i := 1) rfl)) (fun _ h9 => h9) rfl dX2_bestPartner_43 ?_
          refine va_get (D := D) (ci := 3) (v := .ref (ad 22)) (C := RX4) (T := TX4) (N := 12) hx hb hts iX2_bestPartner_X4 hown hK.1 hP 3 rfl rfl 8 (by decide) (hts (.fieldLink RX2 32 "Bumpherald$Raises" "groups" "[I") (List.mem_of_getElem? (i := 3) rfl)) (fun _ h9 => h9) rfl dX2_bestPartner_46 ?_
          refine lv_iload hx hb dX2_bestPartner_49 (lv_at hl 5 rfl) ?_
          refine r_iald (Wd := bW ad cI cZ) (k := 16) (n := 40) hx hb hK hP 22 rfl hE dX2_bestPartner_51 (fun x3 hE => ?_)
          refine lv_iload hx hb dX2_bestPartner_52 (lv_at hl 5 rfl) ?_
          refine r_icmp_ne (tgt := 91) hx hb dX2_bestPartner_54 (by decide) hE (fun c4 hE => ?_) (fun c4 hE => ?_)
          · refine lv_aload_n hx hb dX2_bestPartner_57 rfl (lv_at hl 0 rfl) ?_
            refine va_get (D := D) (ci := 1) (v := .ref (ad 3)) (C := RX2) (T := TX2) (N := 4) hx hb hts iX2_bestPartner_X2 hown hK.1 hP 5 rfl rfl 0 (by decide) (hts (.fieldLink RX2 19 "Bumpherald$Herding" "raises" "LBumpherald$Raises;") (List.mem_of_getElem? (i := 1) rfl)) (fun _ h9 => h9) rfl dX2_bestPartner_58 ?_
            refine lv_iload_n hx hb dX2_bestPartner_61 rfl (lv_at hl 2 rfl) ?_
            refine lv_aload_n hx hb dX2_bestPartner_62 rfl (lv_at hl 0 rfl) ?_
            refine va_get (D := D) (ci := 1) (v := .ref (ad 3)) (C := RX2) (T := TX2) (N := 4) hx hb hts iX2_bestPartner_X2 hown hK.1 hP 5 rfl rfl 0 (by decide) (hts (.fieldLink RX2 19 "Bumpherald$Herding" "raises" "LBumpherald$Raises;") (List.mem_of_getElem? (i := 1) rfl)) (fun _ h9 => h9) rfl dX2_bestPartner_63 ?_
            refine lv_iload hx hb dX2_bestPartner_66 (lv_at hl 5 rfl) ?_
            refine r_callVi (Wd := bW ad cI cZ) (C := RX4) [.int v5] [.int v2, .ref (ad 3)] ⟨hx, hb, hml, hown, hts⟩ (kX4_groupOf l D ad cI cZ hDD S v5) (cwV 1 hts gX2_bestPartner_X4_groupOf rfl rfl rfl (by decide +kernel) ⟨Nat.le_of_ble_eq_true rfl, Nat.le_of_ble_eq_true rfl⟩) (va_recv hK.1 hP (ci := 3) (q0 := 3) rfl rfl) hK hP hS (fun _ h9 => h9) rfl hl.1 rfl (Nat.le_of_ble_eq_true rfl) ⟨Nat.zero_le _, Nat.zero_le _⟩ hE dX2_bestPartner_68 (fun S6 x5 H locs hE hP hS => ?_)
            refine lv_ior hx hb dX2_bestPartner_71 ?_
            refine r_callVi (Wd := bW ad cI cZ) (C := RX4) [.int (v2 ||| x5)] [] ⟨hx, hb, hml, hown, hts⟩ (kX4_failing l D ad cI cZ hDD S6 (v2 ||| x5)) (cwV 1 hts gX2_bestPartner_X4_failing rfl rfl rfl (by decide +kernel) ⟨Nat.le_of_ble_eq_true rfl, Nat.le_of_ble_eq_true rfl⟩) (va_recv hK.1 hP (ci := 3) (q0 := 3) rfl rfl) hK hP hS (fun _ h9 => h9) rfl hl.1 rfl (Nat.le_of_ble_eq_true rfl) ⟨Nat.zero_le _, Nat.zero_le _⟩ hE dX2_bestPartner_72 (fun S8 x7 H locs hE hP hS => ?_)
            refine lv_istore (lv' := [(6, .int x7), (0, .ref (ad 5)), (1, .int v1), (2, .int v2), (3, .int v3), (4, .int v4), (5, .int v5)]) hx hb dX2_bestPartner_75 hl (by decide) rfl (fun ls hl => ?_)
            refine lv_iload hx hb dX2_bestPartner_77 (lv_at hl 0 rfl) ?_
            refine lv_iload hx hb dX2_bestPartner_79 (lv_at hl 5 rfl) ?_
            refine r_icmp_ge (tgt := 91) hx hb dX2_bestPartner_81 (by decide) hE (fun c9 hE => ?_) (fun c9 hE => ?_)
            · refine lv_iinc (v := v5 + 1) (lv' := [(5, .int (v5 + 1)), (6, .int x7), (0, .ref (ad 5)), (1, .int v1), (2, .int v2), (3, .int v3), (4, .int v4)]) hx hb dX2_bestPartner_91 hl (k := 6) rfl rfl (by decide) rfl (fun ls hl => ?_)
              refine lv_goto (tgt := 24) hx hb dX2_bestPartner_94 (by decide) ?_
              exact ih24 v1 v2 v3 v4 (v5 + 1) S8 hE _ _ _ hP hS (lv_sub hl [2, 3, 4, 5, 6, 0] rfl)
            · refine lv_iload hx hb dX2_bestPartner_84 (lv_at hl 6 rfl) ?_
              refine lv_istore_n (lv' := [(3, .int v5), (6, .int x7), (0, .ref (ad 5)), (1, .int v1), (2, .int v2), (4, .int v4), (5, .int v5)]) hx hb dX2_bestPartner_86 rfl hl (by decide) rfl (fun ls hl => ?_)
              refine lv_iload hx hb dX2_bestPartner_87 (lv_at hl 1 rfl) ?_
              refine lv_istore (lv' := [(4, .int x7), (3, .int v5), (6, .int x7), (0, .ref (ad 5)), (1, .int v1), (2, .int v2), (5, .int v5)]) hx hb dX2_bestPartner_89 hl (by decide) rfl (fun ls hl => ?_)
              refine lv_iinc (v := v5 + 1) (lv' := [(5, .int (v5 + 1)), (4, .int x7), (3, .int v5), (6, .int x7), (0, .ref (ad 5)), (1, .int v1), (2, .int v2)]) hx hb dX2_bestPartner_91 hl (k := 6) rfl rfl (by decide) rfl (fun ls hl => ?_)
              refine lv_goto (tgt := 24) hx hb dX2_bestPartner_94 (by decide) ?_
              exact ih24 v1 v2 v5 x7 (v5 + 1) S8 hE _ _ _ hP hS (lv_sub hl [4, 5, 6, 2, 1, 0] rfl)
          · refine lv_iinc (v := v5 + 1) (lv' := [(5, .int (v5 + 1)), (0, .ref (ad 5)), (1, .int v1), (2, .int v2), (3, .int v3), (4, .int v4)]) hx hb dX2_bestPartner_91 hl (k := 5) rfl rfl (by decide) rfl (fun ls hl => ?_)
            refine lv_goto (tgt := 24) hx hb dX2_bestPartner_94 (by decide) ?_
            exact ih24 v1 v2 v3 v4 (v5 + 1) S hE _ _ _ hP hS (lv_sub hl [1, 2, 3, 4, 5, 0] rfl)
  unfold f2_bestPartner at hE
  refine lv_aload_n hx hb dX2_bestPartner_0 rfl (lv_at hl 0 rfl) ?_
  refine va_get (D := D) (ci := 1) (v := .ref (ad 3)) (C := RX2) (T := TX2) (N := 4) hx hb hts iX2_bestPartner_X2 hown hK.1 hP 5 rfl rfl 0 (by decide) (hts (.fieldLink RX2 19 "Bumpherald$Herding" "raises" "LBumpherald$Raises;") (List.mem_of_getElem? (i := 1) rfl)) (fun _ h9 => h9) rfl dX2_bestPartner_1 ?_
  refine lv_iload_n hx hb dX2_bestPartner_4 rfl (lv_at hl 1 rfl) ?_
  refine r_callVi (Wd := bW ad cI cZ) (C := RX4) [.int v1] [] ⟨hx, hb, hml, hown, hts⟩ (kX4_groupOf l D ad cI cZ hDD S v1) (cwV 1 hts gX2_bestPartner_X4_groupOf rfl rfl rfl (by decide +kernel) ⟨Nat.le_of_ble_eq_true rfl, Nat.le_of_ble_eq_true rfl⟩) (va_recv hK.1 hP (ci := 3) (q0 := 3) rfl rfl) hK hP hS (fun _ h9 => h9) rfl hl.1 rfl (Nat.le_of_ble_eq_true rfl) ⟨Nat.zero_le _, Nat.zero_le _⟩ hE dX2_bestPartner_5 (fun S13 x12 H locs hE hP hS => ?_)
  refine lv_istore_n (lv' := [(2, .int x12), (0, .ref (ad 5)), (1, .int v1)]) hx hb dX2_bestPartner_8 rfl hl (by decide) rfl (fun ls hl => ?_)
  refine lv_iconst (v := -1) hx hb dX2_bestPartner_9 (by decide) ?_
  refine lv_istore_n (lv' := [(3, .int ((-1))), (2, .int x12), (0, .ref (ad 5)), (1, .int v1)]) hx hb dX2_bestPartner_10 rfl hl (by decide) rfl (fun ls hl => ?_)
  refine lv_aload_n hx hb dX2_bestPartner_11 rfl (lv_at hl 2 rfl) ?_
  refine va_get (D := D) (ci := 1) (v := .ref (ad 3)) (C := RX2) (T := TX2) (N := 4) hx hb hts iX2_bestPartner_X2 hown hK.1 hP 5 rfl rfl 0 (by decide) (hts (.fieldLink RX2 19 "Bumpherald$Herding" "raises" "LBumpherald$Raises;") (List.mem_of_getElem? (i := 1) rfl)) (fun _ h9 => h9) rfl dX2_bestPartner_12 ?_
  refine lv_iload_n hx hb dX2_bestPartner_15 rfl (lv_at hl 1 rfl) ?_
  refine r_callVi (Wd := bW ad cI cZ) (C := RX4) [.int x12] [] ⟨hx, hb, hml, hown, hts⟩ (kX4_failing l D ad cI cZ hDD S13 x12) (cwV 1 hts gX2_bestPartner_X4_failing rfl rfl rfl (by decide +kernel) ⟨Nat.le_of_ble_eq_true rfl, Nat.le_of_ble_eq_true rfl⟩) (va_recv hK.1 hP (ci := 3) (q0 := 3) rfl rfl) hK hP hS (fun _ h9 => h9) rfl hl.1 rfl (Nat.le_of_ble_eq_true rfl) ⟨Nat.zero_le _, Nat.zero_le _⟩ hE dX2_bestPartner_16 (fun S15 x14 H locs hE hP hS => ?_)
  refine lv_istore (lv' := [(4, .int x14), (3, .int ((-1))), (2, .int x12), (0, .ref (ad 5)), (1, .int v1)]) hx hb dX2_bestPartner_19 hl (by decide) rfl (fun ls hl => ?_)
  refine lv_iconst (v := 0) hx hb dX2_bestPartner_21 (by decide) ?_
  refine lv_istore (lv' := [(5, .int 0), (4, .int x14), (3, .int ((-1))), (2, .int x12), (0, .ref (ad 5)), (1, .int v1)]) hx hb dX2_bestPartner_22 hl (by decide) rfl (fun ls hl => ?_)
  exact H24 2000 v1 x12 ((-1)) x14 0 S15 hE _ _ _ hP hS (lv_sub hl [4, 5, 3, 2, 1, 0] rfl)
theorem iX4_group_X4 : ∀ w ∈ wsX40, w ∈ wsX4_group := fun w h => List.mem_cons_of_mem _ (List.mem_append_right _ h)
set_option maxHeartbeats 4000000 in
set_option maxRecDepth 100000 in
theorem kX4_group (l : Launch) (D : va_G) (ad : Nat → Nat) (cI cZ : ClassId) (hDD : ∀ S, va_D (bA ad) (bW ad cI cZ S)) (S : St) (v1 : Int32) : ∀ So, f4_group S v1 = some So → Met l yX4_group wsX4_group { frames := 1, cells := 0, slots := 0, locals := 22 } (va_Pc [.ref (ad 3), .int v1] (kPre D cI cZ (bW ad cI cZ S))) (kQv D cI cZ (bA ad) (bW ad cI cZ So)) 0 0 (bA ad) := by
  intro So hE
  refine kMet_of (by decide) rfl (Nat.le_of_ble_eq_true rfl) ?_
  intro p e s m args below meth c ls hx hb hr hml hown hlk hts hK hP hS hl
  have hl : lv_has ls 4 [(0, .ref (ad 3)), (1, .int v1)] := hl
  have hown : s.vm.findClass RX4 = some m.cls := hown
  have H4 : ∀ (n4 : Nat) (v1 : Int32) (v2 : Int32) (v3 : Int32) (S : St), f4_group_L4  n4 v1 v2 v3 S = some So → ∀ (H : Heap) (locs : List Loc) (ls : Array Slot), va_P D vwCl (bW ad cI cZ S) H → va_S (bA ad) s.heap H locs → lv_has ls 4 [(0, .ref (ad 3)), (1, .int v1), (2, .int v2), (3, .int v3)] → W p l e (headSpec wsX4_group { frames := 1, cells := 0, slots := 0, locals := 22 }).room s m args below meth c H locs 0 0 (MQ below (kQv D cI cZ (bA ad) (bW ad cI cZ So)) args s 0 0 (bA ad)) (F0 m 4 ls []) := by
    intro n4
    induction n4 with
    | zero => intro v1 v2 v3 S hE; exact absurd (show (none : Option (St)) = some So from hE) (fun h => nomatch h)
    | succ n4 ih4 =>
      have H36 : ∀ (v1 : Int32) (v3 : Int32) (t0 : Int32) (S : St), f4_group_J36 (f4_group_L4 n4) v1 v3 t0 S = some So → ∀ (H : Heap) (locs : List Loc) (ls : Array Slot), va_P D vwCl (bW ad cI cZ S) H → va_S (bA ad) s.heap H locs → lv_has ls 4 [(0, .ref (ad 3)), (1, .int v1), (3, .int v3)] → W p l e (headSpec wsX4_group { frames := 1, cells := 0, slots := 0, locals := 22 }).room s m args below meth c H locs 0 0 (MQ below (kQv D cI cZ (bA ad) (bW ad cI cZ So)) args s 0 0 (bA ad)) (F0 m 36 ls [.int t0]) := by
        intro v1 v3 t0 S hE H locs ls hP hS hl
        unfold f4_group_J36 at hE
        refine lv_istore_n (lv' := [(2, .int t0), (0, .ref (ad 3)), (1, .int v1), (3, .int v3)]) hx hb dX4_group_36 rfl hl (by decide) rfl (fun ls hl => ?_)
        refine lv_aload_n hx hb dX4_group_37 rfl (lv_at hl 1 rfl) ?_
        refine va_get (D := D) (ci := 3) (v := .ref (ad 22)) (C := RX4) (T := TX4) (N := 12) hx hb hts iX4_group_X4 hown hK.1 hP 3 rfl rfl 8 (by decide) (hts (.fieldLink RX4 34 "Bumpherald$Raises" "groups" "[I") (List.mem_of_getElem? (i := 3) rfl)) (fun _ h9 => h9) rfl dX4_group_38 ?_
        refine lv_aload_n hx hb dX4_group_41 rfl (lv_at hl 1 rfl) ?_
        refine va_get (D := D) (ci := 3) (v := .ref (ad 23)) (C := RX4) (T := TX4) (N := 12) hx hb hts iX4_group_X4 hown hK.1 hP 3 rfl rfl 9 (by decide) (hts (.fieldLink RX4 37 "Bumpherald$Raises" "open" "[I") (List.mem_of_getElem? (i := 2) rfl)) (fun _ h9 => h9) rfl dX4_group_42 ?_
        refine lv_iload_n hx hb dX4_group_45 rfl (lv_at hl 3 rfl) ?_
        refine r_iald (Wd := bW ad cI cZ) (k := 17) (n := 10) hx hb hK hP 23 rfl hE dX4_group_46 (fun x1 hE => ?_)
        refine lv_iload_n hx hb dX4_group_47 rfl (lv_at hl 0 rfl) ?_
        refine r_iast (Wd := bW ad cI cZ) (k := 16) (n := 40) hx hb hDD hK hP hS 22 rfl (bU16 ..) hE dX4_group_48 (fun S2 H locs hE hP hS => ?_)
        refine lv_iinc (v := v3 + 1) (lv' := [(3, .int (v3 + 1)), (2, .int t0), (0, .ref (ad 3)), (1, .int v1)]) hx hb dX4_group_49 hl (k := 3) rfl rfl (by decide) rfl (fun ls hl => ?_)
        refine lv_goto (tgt := 4) hx hb dX4_group_52 (by decide) ?_
        exact ih4 v1 t0 (v3 + 1) S2 hE _ _ _ hP hS (lv_sub hl [2, 3, 1, 0] rfl)
      intro v1 v2 v3 S hE H locs ls hP hS hl
      have hE : f4_group_L4b  (f4_group_L4 n4) v1 v2 v3 S = some So := hE
      unfold f4_group_L4b at hE
      refine lv_iload_n hx hb dX4_group_4 rfl (lv_at hl 3 rfl) ?_
      refine lv_aload_n hx hb dX4_group_5 rfl (lv_at hl 0 rfl) ?_
      refine va_get (D := D) (ci := 3) (v := .int (S.1 5)) (C := RX4) (T := TX4) (N := 12) hx hb hts iX4_group_X4 hown hK.1 hP 3 rfl rfl 11 (by decide) (hts (.fieldLink RX4 44 "Bumpherald$Raises" "openCount" "I") (List.mem_of_getElem? (i := 1) rfl)) (fun _ h9 => h9) rfl dX4_group_6 ?_
      refine r_icmp_ge (tgt := 55) hx hb dX4_group_9 (by decide) hE (fun c3 hE => ?_) (fun c3 hE => ?_)
      · exact k_vret (Wd := bW ad cI cZ) hx hb hr hlk hK hP hS hE dX4_group_55
      · refine lv_aload_n hx hb dX4_group_12 rfl (lv_at hl 0 rfl) ?_
        refine lv_iload_n hx hb dX4_group_13 rfl (lv_at hl 3 rfl) ?_
        refine lv_iload_n hx hb dX4_group_14 rfl (lv_at hl 1 rfl) ?_
        refine r_callVi (Wd := bW ad cI cZ) (C := RX4) [.int v3, .int v1] [] ⟨hx, hb, hml, hown, hts⟩ (kX4_isIn l D ad cI cZ hDD S v3 v1) (cwV 2 hts gX4_group_X4_isIn rfl rfl rfl (by decide +kernel) ⟨Nat.le_of_ble_eq_true rfl, Nat.le_of_ble_eq_true rfl⟩) (va_recv hK.1 hP (ci := 3) (q0 := 3) rfl rfl) hK hP hS (fun _ h9 => h9) rfl hl.1 rfl (Nat.le_of_ble_eq_true rfl) ⟨Nat.zero_le _, Nat.zero_le _⟩ hE dX4_group_15 (fun S5 x4 H locs hE hP hS => ?_)
        refine r_if_eq (tgt := 49) hx hb dX4_group_18 (by decide) hE (fun c6 hE => ?_) (fun c6 hE => ?_)
        · refine lv_iinc (v := v3 + 1) (lv' := [(3, .int (v3 + 1)), (0, .ref (ad 3)), (1, .int v1), (2, .int v2)]) hx hb dX4_group_49 hl (k := 3) rfl rfl (by decide) rfl (fun ls hl => ?_)
          refine lv_goto (tgt := 4) hx hb dX4_group_52 (by decide) ?_
          exact ih4 v1 v2 (v3 + 1) S5 hE _ _ _ hP hS (lv_sub hl [1, 2, 3, 0] rfl)
        · refine lv_iload_n hx hb dX4_group_21 rfl (lv_at hl 2 rfl) ?_
          refine lv_iconst (v := -1) hx hb dX4_group_22 (by decide) ?_
          refine r_icmp_ne (tgt := 35) hx hb dX4_group_23 (by decide) hE (fun c7 hE => ?_) (fun c7 hE => ?_)
          · refine lv_aload_n hx hb dX4_group_26 rfl (lv_at hl 0 rfl) ?_
            refine va_get (D := D) (ci := 3) (v := .ref (ad 23)) (C := RX4) (T := TX4) (N := 12) hx hb hts iX4_group_X4 hown hK.1 hP 3 rfl rfl 9 (by decide) (hts (.fieldLink RX4 37 "Bumpherald$Raises" "open" "[I") (List.mem_of_getElem? (i := 2) rfl)) (fun _ h9 => h9) rfl dX4_group_27 ?_
            refine lv_iload_n hx hb dX4_group_30 rfl (lv_at hl 3 rfl) ?_
            refine r_iald (Wd := bW ad cI cZ) (k := 17) (n := 10) hx hb hK hP 23 rfl hE dX4_group_31 (fun x8 hE => ?_)
            refine lv_goto (tgt := 36) hx hb dX4_group_32 (by decide) ?_
            exact H36 v1 v3 x8 S5 hE _ _ _ hP hS (lv_sub hl [0, 1, 3] rfl)
          · refine lv_iload_n hx hb dX4_group_35 rfl (lv_at hl 2 rfl) ?_
            exact H36 v1 v3 v2 S5 hE _ _ _ hP hS (lv_sub hl [0, 1, 3] rfl)
  unfold f4_group at hE
  refine lv_iconst (v := -1) hx hb dX4_group_0 (by decide) ?_
  refine lv_istore_n (lv' := [(2, .int ((-1))), (0, .ref (ad 3)), (1, .int v1)]) hx hb dX4_group_1 rfl hl (by decide) rfl (fun ls hl => ?_)
  refine lv_iconst (v := 0) hx hb dX4_group_2 (by decide) ?_
  refine lv_istore_n (lv' := [(3, .int 0), (2, .int ((-1))), (0, .ref (ad 3)), (1, .int v1)]) hx hb dX4_group_3 rfl hl (by decide) rfl (fun ls hl => ?_)
  exact H4 2000 v1 ((-1)) 0 S hE _ _ _ hP hS (lv_sub hl [2, 3, 1, 0] rfl)
theorem iX5_reviewsAnother_X4 : ∀ w ∈ wsX40, w ∈ wsX5_reviewsAnother := fun w h => List.mem_cons_of_mem _ (List.mem_append_right _ h)
theorem iX5_reviewsAnother_X5 : ∀ w ∈ wsX50, w ∈ wsX5_reviewsAnother := fun w h => List.mem_cons_of_mem _ (List.mem_append_left _ (List.mem_append_right _ h))
set_option maxHeartbeats 4000000 in
set_option maxRecDepth 100000 in
theorem kX5_reviewsAnother (l : Launch) (D : va_G) (ad : Nat → Nat) (cI cZ : ClassId) (hDD : ∀ S, va_D (bA ad) (bW ad cI cZ S)) (S : St) (v1 : Int32) (v2 : Int32) (v3 : Int32) : ∀ So ro, f5_reviewsAnother S v1 v2 v3 = some (So, ro) → Met l yX5_reviewsAnother wsX5_reviewsAnother { frames := 0, cells := 0, slots := 0, locals := 0 } (va_Pc [.ref (ad 4), .int v1, .int v2, .int v3] (kPre D cI cZ (bW ad cI cZ S))) (kQi D cI cZ (bA ad) (bW ad cI cZ So) ro) 0 0 (bA ad) := by
  intro So ro hE
  refine kMet_of (by decide) rfl (Nat.le_of_ble_eq_true rfl) ?_
  intro p e s m args below meth c ls hx hb hr hml hown hlk hts hK hP hS hl
  have hl : lv_has ls 6 [(0, .ref (ad 4)), (1, .int v1), (2, .int v2), (3, .int v3)] := hl
  have hown : s.vm.findClass RX5 = some m.cls := hown
  have H3 : ∀ (n3 : Nat) (v1 : Int32) (v2 : Int32) (v3 : Int32) (v4 : Int32) (S : St), f5_reviewsAnother_L3  n3 v1 v2 v3 v4 S = some (So, ro) → ∀ (H : Heap) (locs : List Loc) (ls : Array Slot), va_P D vwCl (bW ad cI cZ S) H → va_S (bA ad) s.heap H locs → lv_has ls 6 [(0, .ref (ad 4)), (1, .int v1), (2, .int v2), (3, .int v3), (4, .int v4)] → W p l e (headSpec wsX5_reviewsAnother { frames := 0, cells := 0, slots := 0, locals := 0 }).room s m args below meth c H locs 0 0 (MQ below (kQi D cI cZ (bA ad) (bW ad cI cZ So) ro) args s 0 0 (bA ad)) (F0 m 3 ls []) := by
    intro n3
    induction n3 with
    | zero => intro v1 v2 v3 v4 S hE; exact absurd (show (none : Option (St × Int32)) = some (So, ro) from hE) (fun h => nomatch h)
    | succ n3 ih3 =>
      intro v1 v2 v3 v4 S hE H locs ls hP hS hl
      have hE : f5_reviewsAnother_L3b  (f5_reviewsAnother_L3 n3) v1 v2 v3 v4 S = some (So, ro) := hE
      unfold f5_reviewsAnother_L3b at hE
      refine lv_iload hx hb dX5_reviewsAnother_3 (lv_at hl 4 rfl) ?_
      refine lv_aload_n hx hb dX5_reviewsAnother_5 rfl (lv_at hl 0 rfl) ?_
      refine va_get (D := D) (ci := 4) (v := .ref (ad 3)) (C := RX5) (T := TX5) (N := 2) hx hb hts iX5_reviewsAnother_X5 hown hK.1 hP 4 rfl rfl 0 (by decide) (hts (.fieldLink RX5 15 "Bumpherald$Reviewers" "raises" "LBumpherald$Raises;") (List.mem_of_getElem? (i := 1) rfl)) (fun _ h9 => h9) rfl dX5_reviewsAnother_6 ?_
      refine va_get (D := D) (ci := 3) (v := .int (S.1 5)) (C := RX4) (T := TX4) (N := 12) hx hb hts iX5_reviewsAnother_X4 hown hK.1 hP 3 rfl rfl 11 (by decide) (hts (.fieldLink RX5 19 "Bumpherald$Raises" "openCount" "I") (List.mem_of_getElem? (i := 2) rfl)) (fun _ h9 => h9) rfl dX5_reviewsAnother_9 ?_
      refine r_icmp_ge (tgt := 83) hx hb dX5_reviewsAnother_12 (by decide) hE (fun c1 hE => ?_) (fun c1 hE => ?_)
      · refine lv_iconst (v := 0) hx hb dX5_reviewsAnother_83 (by decide) ?_
        exact k_zret (Wd := bW ad cI cZ) hx hb hr hlk (by decide +kernel) hK hP hS hE dX5_reviewsAnother_84
      · refine lv_aload_n hx hb dX5_reviewsAnother_15 rfl (lv_at hl 0 rfl) ?_
        refine va_get (D := D) (ci := 4) (v := .ref (ad 3)) (C := RX5) (T := TX5) (N := 2) hx hb hts iX5_reviewsAnother_X5 hown hK.1 hP 4 rfl rfl 0 (by decide) (hts (.fieldLink RX5 15 "Bumpherald$Reviewers" "raises" "LBumpherald$Raises;") (List.mem_of_getElem? (i := 1) rfl)) (fun _ h9 => h9) rfl dX5_reviewsAnother_16 ?_
        refine va_get (D := D) (ci := 3) (v := .ref (ad 23)) (C := RX4) (T := TX4) (N := 12) hx hb hts iX5_reviewsAnother_X4 hown hK.1 hP 3 rfl rfl 9 (by decide) (hts (.fieldLink RX5 25 "Bumpherald$Raises" "open" "[I") (List.mem_of_getElem? (i := 3) rfl)) (fun _ h9 => h9) rfl dX5_reviewsAnother_19 ?_
        refine lv_iload hx hb dX5_reviewsAnother_22 (lv_at hl 4 rfl) ?_
        refine r_iald (Wd := bW ad cI cZ) (k := 17) (n := 10) hx hb hK hP 23 rfl hE dX5_reviewsAnother_24 (fun x2 hE => ?_)
        refine lv_istore (lv' := [(5, .int x2), (0, .ref (ad 4)), (1, .int v1), (2, .int v2), (3, .int v3), (4, .int v4)]) hx hb dX5_reviewsAnother_25 hl (by decide) rfl (fun ls hl => ?_)
        refine lv_iload hx hb dX5_reviewsAnother_27 (lv_at hl 0 rfl) ?_
        refine lv_iload_n hx hb dX5_reviewsAnother_29 rfl (lv_at hl 3 rfl) ?_
        refine r_icmp_eq (tgt := 77) hx hb dX5_reviewsAnother_30 (by decide) hE (fun c3 hE => ?_) (fun c3 hE => ?_)
        · refine lv_iinc (v := v4 + 1) (lv' := [(4, .int (v4 + 1)), (5, .int x2), (0, .ref (ad 4)), (1, .int v1), (2, .int v2), (3, .int v3)]) hx hb dX5_reviewsAnother_77 hl (k := 5) rfl rfl (by decide) rfl (fun ls hl => ?_)
          refine lv_goto (tgt := 3) hx hb dX5_reviewsAnother_80 (by decide) ?_
          exact ih3 v1 v2 v3 (v4 + 1) S hE _ _ _ hP hS (lv_sub hl [2, 3, 4, 5, 0] rfl)
        · refine lv_iload hx hb dX5_reviewsAnother_33 (lv_at hl 0 rfl) ?_
          refine lv_iload_n hx hb dX5_reviewsAnother_35 rfl (lv_at hl 4 rfl) ?_
          refine r_icmp_ge (tgt := 77) hx hb dX5_reviewsAnother_36 (by decide) hE (fun c4 hE => ?_) (fun c4 hE => ?_)
          · refine lv_iinc (v := v4 + 1) (lv' := [(4, .int (v4 + 1)), (5, .int x2), (0, .ref (ad 4)), (1, .int v1), (2, .int v2), (3, .int v3)]) hx hb dX5_reviewsAnother_77 hl (k := 5) rfl rfl (by decide) rfl (fun ls hl => ?_)
            refine lv_goto (tgt := 3) hx hb dX5_reviewsAnother_80 (by decide) ?_
            exact ih3 v1 v2 v3 (v4 + 1) S hE _ _ _ hP hS (lv_sub hl [2, 3, 4, 5, 0] rfl)
          · refine lv_aload_n hx hb dX5_reviewsAnother_39 rfl (lv_at hl 1 rfl) ?_
            refine va_get (D := D) (ci := 4) (v := .ref (ad 3)) (C := RX5) (T := TX5) (N := 2) hx hb hts iX5_reviewsAnother_X5 hown hK.1 hP 4 rfl rfl 0 (by decide) (hts (.fieldLink RX5 15 "Bumpherald$Reviewers" "raises" "LBumpherald$Raises;") (List.mem_of_getElem? (i := 1) rfl)) (fun _ h9 => h9) rfl dX5_reviewsAnother_40 ?_
            refine va_get (D := D) (ci := 3) (v := .ref (ad 22)) (C := RX4) (T := TX4) (N := 12) hx hb hts iX5_reviewsAnother_X4 hown hK.1 hP 3 rfl rfl 8 (by decide) (hts (.fieldLink RX5 51 "Bumpherald$Raises" "groups" "[I") (List.mem_of_getElem? (i := 4) rfl)) (fun _ h9 => h9) rfl dX5_reviewsAnother_43 ?_
            refine lv_iload hx hb dX5_reviewsAnother_46 (lv_at hl 0 rfl) ?_
            refine r_iald (Wd := bW ad cI cZ) (k := 16) (n := 40) hx hb hK hP 22 rfl hE dX5_reviewsAnother_48 (fun x5 hE => ?_)
            refine lv_aload_n hx hb dX5_reviewsAnother_49 rfl (lv_at hl 1 rfl) ?_
            refine va_get (D := D) (ci := 4) (v := .ref (ad 3)) (C := RX5) (T := TX5) (N := 2) hx hb hts iX5_reviewsAnother_X5 hown hK.1 hP 4 rfl rfl 0 (by decide) (hts (.fieldLink RX5 15 "Bumpherald$Reviewers" "raises" "LBumpherald$Raises;") (List.mem_of_getElem? (i := 1) rfl)) (fun _ h9 => h9) rfl dX5_reviewsAnother_50 ?_
            refine va_get (D := D) (ci := 3) (v := .ref (ad 22)) (C := RX4) (T := TX4) (N := 12) hx hb hts iX5_reviewsAnother_X4 hown hK.1 hP 3 rfl rfl 8 (by decide) (hts (.fieldLink RX5 51 "Bumpherald$Raises" "groups" "[I") (List.mem_of_getElem? (i := 4) rfl)) (fun _ h9 => h9) rfl dX5_reviewsAnother_53 ?_
            refine lv_iload_n hx hb dX5_reviewsAnother_56 rfl (lv_at hl 3 rfl) ?_
            refine r_iald (Wd := bW ad cI cZ) (k := 16) (n := 40) hx hb hK hP 22 rfl hE dX5_reviewsAnother_57 (fun x6 hE => ?_)
            refine r_icmp_ne (tgt := 77) hx hb dX5_reviewsAnother_58 (by decide) hE (fun c7 hE => ?_) (fun c7 hE => ?_)
            · refine lv_aload_n hx hb dX5_reviewsAnother_61 rfl (lv_at hl 1 rfl) ?_
              refine va_get (D := D) (ci := 4) (v := .ref (ad 3)) (C := RX5) (T := TX5) (N := 2) hx hb hts iX5_reviewsAnother_X5 hown hK.1 hP 4 rfl rfl 0 (by decide) (hts (.fieldLink RX5 15 "Bumpherald$Reviewers" "raises" "LBumpherald$Raises;") (List.mem_of_getElem? (i := 1) rfl)) (fun _ h9 => h9) rfl dX5_reviewsAnother_62 ?_
              refine va_get (D := D) (ci := 3) (v := .ref (ad 20)) (C := RX4) (T := TX4) (N := 12) hx hb hts iX5_reviewsAnother_X4 hown hK.1 hP 3 rfl rfl 6 (by decide) (hts (.fieldLink RX5 28 "Bumpherald$Raises" "reviewers" "[I") (List.mem_of_getElem? (i := 5) rfl)) (fun _ h9 => h9) rfl dX5_reviewsAnother_65 ?_
              refine lv_iload hx hb dX5_reviewsAnother_68 (lv_at hl 0 rfl) ?_
              refine r_iald (Wd := bW ad cI cZ) (k := 14) (n := 40) hx hb hK hP 20 rfl hE dX5_reviewsAnother_70 (fun x8 hE => ?_)
              refine lv_iload_n hx hb dX5_reviewsAnother_71 rfl (lv_at hl 2 rfl) ?_
              refine r_icmp_ne (tgt := 77) hx hb dX5_reviewsAnother_72 (by decide) hE (fun c9 hE => ?_) (fun c9 hE => ?_)
              · refine lv_iconst (v := 1) hx hb dX5_reviewsAnother_75 (by decide) ?_
                exact k_zret (Wd := bW ad cI cZ) hx hb hr hlk (by decide +kernel) hK hP hS hE dX5_reviewsAnother_76
              · refine lv_iinc (v := v4 + 1) (lv' := [(4, .int (v4 + 1)), (5, .int x2), (0, .ref (ad 4)), (1, .int v1), (2, .int v2), (3, .int v3)]) hx hb dX5_reviewsAnother_77 hl (k := 5) rfl rfl (by decide) rfl (fun ls hl => ?_)
                refine lv_goto (tgt := 3) hx hb dX5_reviewsAnother_80 (by decide) ?_
                exact ih3 v1 v2 v3 (v4 + 1) S hE _ _ _ hP hS (lv_sub hl [2, 3, 4, 5, 0] rfl)
            · refine lv_iinc (v := v4 + 1) (lv' := [(4, .int (v4 + 1)), (5, .int x2), (0, .ref (ad 4)), (1, .int v1), (2, .int v2), (3, .int v3)]) hx hb dX5_reviewsAnother_77 hl (k := 5) rfl rfl (by decide) rfl (fun ls hl => ?_)
              refine lv_goto (tgt := 3) hx hb dX5_reviewsAnother_80 (by decide) ?_
              exact ih3 v1 v2 v3 (v4 + 1) S hE _ _ _ hP hS (lv_sub hl [2, 3, 4, 5, 0] rfl)
  unfold f5_reviewsAnother at hE
  refine lv_iconst (v := 0) hx hb dX5_reviewsAnother_0 (by decide) ?_
  refine lv_istore (lv' := [(4, .int 0), (0, .ref (ad 4)), (1, .int v1), (2, .int v2), (3, .int v3)]) hx hb dX5_reviewsAnother_1 hl (by decide) rfl (fun ls hl => ?_)
  exact H3 2000 v1 v2 v3 0 S hE _ _ _ hP hS (lv_sub hl [1, 2, 3, 4, 0] rfl)
theorem iX5_hasOwnReviewer_X4 : ∀ w ∈ wsX40, w ∈ wsX5_hasOwnReviewer := fun w h => List.mem_cons_of_mem _ (List.mem_append_right _ h)
theorem iX5_hasOwnReviewer_X5 : ∀ w ∈ wsX50, w ∈ wsX5_hasOwnReviewer := fun w h => List.mem_cons_of_mem _ (List.mem_append_left _ (List.mem_append_right _ h))
set_option maxHeartbeats 4000000 in
set_option maxRecDepth 100000 in
theorem kX5_hasOwnReviewer (l : Launch) (D : va_G) (ad : Nat → Nat) (cI cZ : ClassId) (hDD : ∀ S, va_D (bA ad) (bW ad cI cZ S)) (S : St) (v1 : Int32) : ∀ So ro, f5_hasOwnReviewer S v1 = some (So, ro) → Met l yX5_hasOwnReviewer wsX5_hasOwnReviewer { frames := 1, cells := 0, slots := 0, locals := 25 } (va_Pc [.ref (ad 4), .int v1] (kPre D cI cZ (bW ad cI cZ S))) (kQi D cI cZ (bA ad) (bW ad cI cZ So) ro) 0 0 (bA ad) := by
  intro So ro hE
  refine kMet_of (by decide) rfl (Nat.le_of_ble_eq_true rfl) ?_
  intro p e s m args below meth c ls hx hb hr hml hown hlk hts hK hP hS hl
  have hl : lv_has ls 3 [(0, .ref (ad 4)), (1, .int v1)] := hl
  have hown : s.vm.findClass RX5 = some m.cls := hown
  unfold f5_hasOwnReviewer at hE
  refine lv_aload_n hx hb dX5_hasOwnReviewer_0 rfl (lv_at hl 0 rfl) ?_
  refine va_get (D := D) (ci := 4) (v := .ref (ad 3)) (C := RX5) (T := TX5) (N := 2) hx hb hts iX5_hasOwnReviewer_X5 hown hK.1 hP 4 rfl rfl 0 (by decide) (hts (.fieldLink RX5 15 "Bumpherald$Reviewers" "raises" "LBumpherald$Raises;") (List.mem_of_getElem? (i := 1) rfl)) (fun _ h9 => h9) rfl dX5_hasOwnReviewer_1 ?_
  refine va_get (D := D) (ci := 3) (v := .ref (ad 20)) (C := RX4) (T := TX4) (N := 12) hx hb hts iX5_hasOwnReviewer_X4 hown hK.1 hP 3 rfl rfl 6 (by decide) (hts (.fieldLink RX5 28 "Bumpherald$Raises" "reviewers" "[I") (List.mem_of_getElem? (i := 2) rfl)) (fun _ h9 => h9) rfl dX5_hasOwnReviewer_4 ?_
  refine lv_iload_n hx hb dX5_hasOwnReviewer_7 rfl (lv_at hl 1 rfl) ?_
  refine r_iald (Wd := bW ad cI cZ) (k := 14) (n := 40) hx hb hK hP 20 rfl hE dX5_hasOwnReviewer_8 (fun x1 hE => ?_)
  refine lv_istore_n (lv' := [(2, .int x1), (0, .ref (ad 4)), (1, .int v1)]) hx hb dX5_hasOwnReviewer_9 rfl hl (by decide) rfl (fun ls hl => ?_)
  refine lv_iload_n hx hb dX5_hasOwnReviewer_10 rfl (lv_at hl 0 rfl) ?_
  refine lv_iconst (v := -1) hx hb dX5_hasOwnReviewer_11 (by decide) ?_
  refine r_icmp_eq (tgt := 29) hx hb dX5_hasOwnReviewer_12 (by decide) hE (fun c2 hE => ?_) (fun c2 hE => ?_)
  · refine lv_iconst (v := 0) hx hb dX5_hasOwnReviewer_29 (by decide) ?_
    exact k_zret (Wd := bW ad cI cZ) hx hb hr hlk (by decide +kernel) hK hP hS hE dX5_hasOwnReviewer_30
  · refine lv_aload_n hx hb dX5_hasOwnReviewer_15 rfl (lv_at hl 1 rfl) ?_
    refine lv_iload_n hx hb dX5_hasOwnReviewer_16 rfl (lv_at hl 0 rfl) ?_
    refine lv_iload_n hx hb dX5_hasOwnReviewer_17 rfl (lv_at hl 2 rfl) ?_
    refine lv_iload_n hx hb dX5_hasOwnReviewer_18 rfl (lv_at hl 2 rfl) ?_
    refine r_callVi (Wd := bW ad cI cZ) (C := RX5) [.int x1, .int v1, .int v1] [] ⟨hx, hb, hml, hown, hts⟩ (kX5_reviewsAnother l D ad cI cZ hDD S x1 v1 v1) (cwV 3 hts gX5_hasOwnReviewer_X5_reviewsAnother rfl rfl rfl (by decide +kernel) ⟨Nat.le_of_ble_eq_true rfl, Nat.le_of_ble_eq_true rfl⟩) (va_recv hK.1 hP (ci := 4) (q0 := 4) rfl rfl) hK hP hS (fun _ h9 => h9) rfl hl.1 rfl (Nat.le_of_ble_eq_true rfl) ⟨Nat.zero_le _, Nat.zero_le _⟩ hE dX5_hasOwnReviewer_19 (fun S4 x3 H locs hE hP hS => ?_)
    refine r_if_ne (tgt := 29) hx hb dX5_hasOwnReviewer_22 (by decide) hE (fun c5 hE => ?_) (fun c5 hE => ?_)
    · refine lv_iconst (v := 1) hx hb dX5_hasOwnReviewer_25 (by decide) ?_
      refine lv_goto (tgt := 30) hx hb dX5_hasOwnReviewer_26 (by decide) ?_
      exact k_zret (Wd := bW ad cI cZ) hx hb hr hlk (by decide +kernel) hK hP hS hE dX5_hasOwnReviewer_30
    · refine lv_iconst (v := 0) hx hb dX5_hasOwnReviewer_29 (by decide) ?_
      exact k_zret (Wd := bW ad cI cZ) hx hb hr hlk (by decide +kernel) hK hP hS hE dX5_hasOwnReviewer_30
theorem iX5_loadWithout_X4 : ∀ w ∈ wsX40, w ∈ wsX5_loadWithout := fun w h => List.mem_cons_of_mem _ (List.mem_append_right _ h)
theorem iX5_loadWithout_X5 : ∀ w ∈ wsX50, w ∈ wsX5_loadWithout := fun w h => List.mem_cons_of_mem _ (List.mem_append_left _ (List.mem_append_right _ h))
set_option maxHeartbeats 4000000 in
set_option maxRecDepth 100000 in
theorem kX5_loadWithout (l : Launch) (D : va_G) (ad : Nat → Nat) (cI cZ : ClassId) (hDD : ∀ S, va_D (bA ad) (bW ad cI cZ S)) (S : St) (v1 : Int32) (v2 : Int32) : ∀ So ro, f5_loadWithout S v1 v2 = some (So, ro) → Met l yX5_loadWithout wsX5_loadWithout { frames := 0, cells := 0, slots := 0, locals := 0 } (va_Pc [.ref (ad 4), .int v1, .int v2] (kPre D cI cZ (bW ad cI cZ S))) (kQi D cI cZ (bA ad) (bW ad cI cZ So) ro) 0 0 (bA ad) := by
  intro So ro hE
  refine kMet_of (by decide) rfl (Nat.le_of_ble_eq_true rfl) ?_
  intro p e s m args below meth c ls hx hb hr hml hown hlk hts hK hP hS hl
  have hl : lv_has ls 6 [(0, .ref (ad 4)), (1, .int v1), (2, .int v2)] := hl
  have hown : s.vm.findClass RX5 = some m.cls := hown
  have H5 : ∀ (n5 : Nat) (v1 : Int32) (v2 : Int32) (v3 : Int32) (v4 : Int32) (S : St), f5_loadWithout_L5  n5 v1 v2 v3 v4 S = some (So, ro) → ∀ (H : Heap) (locs : List Loc) (ls : Array Slot), va_P D vwCl (bW ad cI cZ S) H → va_S (bA ad) s.heap H locs → lv_has ls 6 [(0, .ref (ad 4)), (1, .int v1), (2, .int v2), (3, .int v3), (4, .int v4)] → W p l e (headSpec wsX5_loadWithout { frames := 0, cells := 0, slots := 0, locals := 0 }).room s m args below meth c H locs 0 0 (MQ below (kQi D cI cZ (bA ad) (bW ad cI cZ So) ro) args s 0 0 (bA ad)) (F0 m 5 ls []) := by
    intro n5
    induction n5 with
    | zero => intro v1 v2 v3 v4 S hE; exact absurd (show (none : Option (St × Int32)) = some (So, ro) from hE) (fun h => nomatch h)
    | succ n5 ih5 =>
      intro v1 v2 v3 v4 S hE H locs ls hP hS hl
      have hE : f5_loadWithout_L5b  (f5_loadWithout_L5 n5) v1 v2 v3 v4 S = some (So, ro) := hE
      unfold f5_loadWithout_L5b at hE
      refine lv_iload hx hb dX5_loadWithout_5 (lv_at hl 4 rfl) ?_
      refine lv_aload_n hx hb dX5_loadWithout_7 rfl (lv_at hl 0 rfl) ?_
      refine va_get (D := D) (ci := 4) (v := .ref (ad 3)) (C := RX5) (T := TX5) (N := 2) hx hb hts iX5_loadWithout_X5 hown hK.1 hP 4 rfl rfl 0 (by decide) (hts (.fieldLink RX5 15 "Bumpherald$Reviewers" "raises" "LBumpherald$Raises;") (List.mem_of_getElem? (i := 1) rfl)) (fun _ h9 => h9) rfl dX5_loadWithout_8 ?_
      refine va_get (D := D) (ci := 3) (v := .int (S.1 5)) (C := RX4) (T := TX4) (N := 12) hx hb hts iX5_loadWithout_X4 hown hK.1 hP 3 rfl rfl 11 (by decide) (hts (.fieldLink RX5 19 "Bumpherald$Raises" "openCount" "I") (List.mem_of_getElem? (i := 2) rfl)) (fun _ h9 => h9) rfl dX5_loadWithout_11 ?_
      refine r_icmp_ge (tgt := 58) hx hb dX5_loadWithout_14 (by decide) hE (fun c1 hE => ?_) (fun c1 hE => ?_)
      · refine lv_iload_n hx hb dX5_loadWithout_58 rfl (lv_at hl 3 rfl) ?_
        exact k_iret (Wd := bW ad cI cZ) hx hb hr hlk hK hP hS hE dX5_loadWithout_59
      · refine lv_aload_n hx hb dX5_loadWithout_17 rfl (lv_at hl 0 rfl) ?_
        refine va_get (D := D) (ci := 4) (v := .ref (ad 3)) (C := RX5) (T := TX5) (N := 2) hx hb hts iX5_loadWithout_X5 hown hK.1 hP 4 rfl rfl 0 (by decide) (hts (.fieldLink RX5 15 "Bumpherald$Reviewers" "raises" "LBumpherald$Raises;") (List.mem_of_getElem? (i := 1) rfl)) (fun _ h9 => h9) rfl dX5_loadWithout_18 ?_
        refine va_get (D := D) (ci := 3) (v := .ref (ad 23)) (C := RX4) (T := TX4) (N := 12) hx hb hts iX5_loadWithout_X4 hown hK.1 hP 3 rfl rfl 9 (by decide) (hts (.fieldLink RX5 25 "Bumpherald$Raises" "open" "[I") (List.mem_of_getElem? (i := 3) rfl)) (fun _ h9 => h9) rfl dX5_loadWithout_21 ?_
        refine lv_iload hx hb dX5_loadWithout_24 (lv_at hl 4 rfl) ?_
        refine r_iald (Wd := bW ad cI cZ) (k := 17) (n := 10) hx hb hK hP 23 rfl hE dX5_loadWithout_26 (fun x2 hE => ?_)
        refine lv_istore (lv' := [(5, .int x2), (0, .ref (ad 4)), (1, .int v1), (2, .int v2), (3, .int v3), (4, .int v4)]) hx hb dX5_loadWithout_27 hl (by decide) rfl (fun ls hl => ?_)
        refine lv_iload hx hb dX5_loadWithout_29 (lv_at hl 0 rfl) ?_
        refine lv_iload_n hx hb dX5_loadWithout_31 rfl (lv_at hl 3 rfl) ?_
        refine r_icmp_eq (tgt := 52) hx hb dX5_loadWithout_32 (by decide) hE (fun c3 hE => ?_) (fun c3 hE => ?_)
        · refine lv_iinc (v := v4 + 1) (lv' := [(4, .int (v4 + 1)), (5, .int x2), (0, .ref (ad 4)), (1, .int v1), (2, .int v2), (3, .int v3)]) hx hb dX5_loadWithout_52 hl (k := 5) rfl rfl (by decide) rfl (fun ls hl => ?_)
          refine lv_goto (tgt := 5) hx hb dX5_loadWithout_55 (by decide) ?_
          exact ih5 v1 v2 v3 (v4 + 1) S hE _ _ _ hP hS (lv_sub hl [2, 3, 4, 5, 0] rfl)
        · refine lv_aload_n hx hb dX5_loadWithout_35 rfl (lv_at hl 1 rfl) ?_
          refine va_get (D := D) (ci := 4) (v := .ref (ad 3)) (C := RX5) (T := TX5) (N := 2) hx hb hts iX5_loadWithout_X5 hown hK.1 hP 4 rfl rfl 0 (by decide) (hts (.fieldLink RX5 15 "Bumpherald$Reviewers" "raises" "LBumpherald$Raises;") (List.mem_of_getElem? (i := 1) rfl)) (fun _ h9 => h9) rfl dX5_loadWithout_36 ?_
          refine va_get (D := D) (ci := 3) (v := .ref (ad 20)) (C := RX4) (T := TX4) (N := 12) hx hb hts iX5_loadWithout_X4 hown hK.1 hP 3 rfl rfl 6 (by decide) (hts (.fieldLink RX5 28 "Bumpherald$Raises" "reviewers" "[I") (List.mem_of_getElem? (i := 4) rfl)) (fun _ h9 => h9) rfl dX5_loadWithout_39 ?_
          refine lv_iload hx hb dX5_loadWithout_42 (lv_at hl 0 rfl) ?_
          refine r_iald (Wd := bW ad cI cZ) (k := 14) (n := 40) hx hb hK hP 20 rfl hE dX5_loadWithout_44 (fun x4 hE => ?_)
          refine lv_iload_n hx hb dX5_loadWithout_45 rfl (lv_at hl 2 rfl) ?_
          refine r_icmp_ne (tgt := 52) hx hb dX5_loadWithout_46 (by decide) hE (fun c5 hE => ?_) (fun c5 hE => ?_)
          · refine lv_iinc (v := v3 + 1) (lv' := [(3, .int (v3 + 1)), (5, .int x2), (0, .ref (ad 4)), (1, .int v1), (2, .int v2), (4, .int v4)]) hx hb dX5_loadWithout_49 hl (k := 4) rfl rfl (by decide) rfl (fun ls hl => ?_)
            refine lv_iinc (v := v4 + 1) (lv' := [(4, .int (v4 + 1)), (3, .int (v3 + 1)), (5, .int x2), (0, .ref (ad 4)), (1, .int v1), (2, .int v2)]) hx hb dX5_loadWithout_52 hl (k := 5) rfl rfl (by decide) rfl (fun ls hl => ?_)
            refine lv_goto (tgt := 5) hx hb dX5_loadWithout_55 (by decide) ?_
            exact ih5 v1 v2 (v3 + 1) (v4 + 1) S hE _ _ _ hP hS (lv_sub hl [3, 4, 5, 1, 0] rfl)
          · refine lv_iinc (v := v4 + 1) (lv' := [(4, .int (v4 + 1)), (5, .int x2), (0, .ref (ad 4)), (1, .int v1), (2, .int v2), (3, .int v3)]) hx hb dX5_loadWithout_52 hl (k := 5) rfl rfl (by decide) rfl (fun ls hl => ?_)
            refine lv_goto (tgt := 5) hx hb dX5_loadWithout_55 (by decide) ?_
            exact ih5 v1 v2 v3 (v4 + 1) S hE _ _ _ hP hS (lv_sub hl [2, 3, 4, 5, 0] rfl)
  unfold f5_loadWithout at hE
  refine lv_iconst (v := 0) hx hb dX5_loadWithout_0 (by decide) ?_
  refine lv_istore_n (lv' := [(3, .int 0), (0, .ref (ad 4)), (1, .int v1), (2, .int v2)]) hx hb dX5_loadWithout_1 rfl hl (by decide) rfl (fun ls hl => ?_)
  refine lv_iconst (v := 0) hx hb dX5_loadWithout_2 (by decide) ?_
  refine lv_istore (lv' := [(4, .int 0), (3, .int 0), (0, .ref (ad 4)), (1, .int v1), (2, .int v2)]) hx hb dX5_loadWithout_3 hl (by decide) rfl (fun ls hl => ?_)
  exact H5 2000 v1 v2 0 0 S hE _ _ _ hP hS (lv_sub hl [2, 3, 4, 1, 0] rfl)
theorem iX5_bestFor_X4 : ∀ w ∈ wsX40, w ∈ wsX5_bestFor := fun w h => List.mem_cons_of_mem _ (List.mem_append_right _ h)
theorem iX5_bestFor_X5 : ∀ w ∈ wsX50, w ∈ wsX5_bestFor := fun w h => List.mem_cons_of_mem _ (List.mem_append_left _ (List.mem_append_right _ h))
set_option maxHeartbeats 4000000 in
set_option maxRecDepth 100000 in
theorem kX5_bestFor (l : Launch) (D : va_G) (ad : Nat → Nat) (cI cZ : ClassId) (hDD : ∀ S, va_D (bA ad) (bW ad cI cZ S)) (S : St) (v1 : Int32) : ∀ So ro, f5_bestFor S v1 = some (So, ro) → Met l yX5_bestFor wsX5_bestFor { frames := 1, cells := 0, slots := 0, locals := 25 } (va_Pc [.ref (ad 4), .int v1] (kPre D cI cZ (bW ad cI cZ S))) (kQi D cI cZ (bA ad) (bW ad cI cZ So) ro) 0 0 (bA ad) := by
  intro So ro hE
  refine kMet_of (by decide) rfl (Nat.le_of_ble_eq_true rfl) ?_
  intro p e s m args below meth c ls hx hb hr hml hown hlk hts hK hP hS hl
  have hl : lv_has ls 6 [(0, .ref (ad 4)), (1, .int v1)] := hl
  have hown : s.vm.findClass RX5 = some m.cls := hown
  have H8 : ∀ (n8 : Nat) (v1 : Int32) (v2 : Int32) (v3 : Int32) (v4 : Int32) (S : St), f5_bestFor_L8  n8 v1 v2 v3 v4 S = some (So, ro) → ∀ (H : Heap) (locs : List Loc) (ls : Array Slot), va_P D vwCl (bW ad cI cZ S) H → va_S (bA ad) s.heap H locs → lv_has ls 6 [(0, .ref (ad 4)), (1, .int v1), (2, .int v2), (3, .int v3), (4, .int v4)] → W p l e (headSpec wsX5_bestFor { frames := 1, cells := 0, slots := 0, locals := 25 }).room s m args below meth c H locs 0 0 (MQ below (kQi D cI cZ (bA ad) (bW ad cI cZ So) ro) args s 0 0 (bA ad)) (F0 m 8 ls []) := by
    intro n8
    induction n8 with
    | zero => intro v1 v2 v3 v4 S hE; exact absurd (show (none : Option (St × Int32)) = some (So, ro) from hE) (fun h => nomatch h)
    | succ n8 ih8 =>
      intro v1 v2 v3 v4 S hE H locs ls hP hS hl
      have hE : f5_bestFor_L8b  (f5_bestFor_L8 n8) v1 v2 v3 v4 S = some (So, ro) := hE
      unfold f5_bestFor_L8b at hE
      refine lv_iload hx hb dX5_bestFor_8 (lv_at hl 4 rfl) ?_
      refine lv_bipush (v := 6) hx hb dX5_bestFor_10 (by decide) ?_
      refine r_icmp_ge (tgt := 73) hx hb dX5_bestFor_12 (by decide) hE (fun c1 hE => ?_) (fun c1 hE => ?_)
      · refine lv_iload_n hx hb dX5_bestFor_73 rfl (lv_at hl 2 rfl) ?_
        exact k_iret (Wd := bW ad cI cZ) hx hb hr hlk hK hP hS hE dX5_bestFor_74
      · refine lv_aload_n hx hb dX5_bestFor_15 rfl (lv_at hl 0 rfl) ?_
        refine lv_iload hx hb dX5_bestFor_16 (lv_at hl 4 rfl) ?_
        refine lv_iload_n hx hb dX5_bestFor_18 rfl (lv_at hl 1 rfl) ?_
        refine r_callVi (Wd := bW ad cI cZ) (C := RX5) [.int v4, .int v1] [] ⟨hx, hb, hml, hown, hts⟩ (kX5_loadWithout l D ad cI cZ hDD S v4 v1) (cwV 2 hts gX5_bestFor_X5_loadWithout rfl rfl rfl (by decide +kernel) ⟨Nat.le_of_ble_eq_true rfl, Nat.le_of_ble_eq_true rfl⟩) (va_recv hK.1 hP (ci := 4) (q0 := 4) rfl rfl) hK hP hS (fun _ h9 => h9) rfl hl.1 rfl (Nat.le_of_ble_eq_true rfl) ⟨Nat.zero_le _, Nat.zero_le _⟩ hE dX5_bestFor_19 (fun S3 x2 H locs hE hP hS => ?_)
        refine lv_istore (lv' := [(5, .int x2), (0, .ref (ad 4)), (1, .int v1), (2, .int v2), (3, .int v3), (4, .int v4)]) hx hb dX5_bestFor_22 hl (by decide) rfl (fun ls hl => ?_)
        refine lv_iload hx hb dX5_bestFor_24 (lv_at hl 0 rfl) ?_
        refine lv_iload_n hx hb dX5_bestFor_26 rfl (lv_at hl 4 rfl) ?_
        refine r_icmp_ge (tgt := 67) hx hb dX5_bestFor_27 (by decide) hE (fun c4 hE => ?_) (fun c4 hE => ?_)
        · refine lv_iinc (v := v4 + 1) (lv' := [(4, .int (v4 + 1)), (5, .int x2), (0, .ref (ad 4)), (1, .int v1), (2, .int v2), (3, .int v3)]) hx hb dX5_bestFor_67 hl (k := 5) rfl rfl (by decide) rfl (fun ls hl => ?_)
          refine lv_goto (tgt := 8) hx hb dX5_bestFor_70 (by decide) ?_
          exact ih8 v1 v2 v3 (v4 + 1) S3 hE _ _ _ hP hS (lv_sub hl [2, 3, 4, 5, 0] rfl)
        · refine lv_aload_n hx hb dX5_bestFor_30 rfl (lv_at hl 1 rfl) ?_
          refine va_get (D := D) (ci := 4) (v := .ref (ad 24)) (C := RX5) (T := TX5) (N := 2) hx hb hts iX5_bestFor_X5 hown hK.1 hP 4 rfl rfl 1 (by decide) (hts (.fieldLink RX5 9 "Bumpherald$Reviewers" "trusts" "[I") (List.mem_of_getElem? (i := 1) rfl)) (fun _ h9 => h9) rfl dX5_bestFor_31 ?_
          refine lv_iload hx hb dX5_bestFor_34 (lv_at hl 5 rfl) ?_
          refine r_iald (Wd := bW ad cI cZ) (k := 18) (n := 6) hx hb hK hP 24 rfl hE dX5_bestFor_36 (fun x5 hE => ?_)
          refine lv_aload_n hx hb dX5_bestFor_37 rfl (lv_at hl 1 rfl) ?_
          refine va_get (D := D) (ci := 4) (v := .ref (ad 3)) (C := RX5) (T := TX5) (N := 2) hx hb hts iX5_bestFor_X5 hown hK.1 hP 4 rfl rfl 0 (by decide) (hts (.fieldLink RX5 15 "Bumpherald$Reviewers" "raises" "LBumpherald$Raises;") (List.mem_of_getElem? (i := 2) rfl)) (fun _ h9 => h9) rfl dX5_bestFor_38 ?_
          refine va_get (D := D) (ci := 3) (v := .ref (ad 17)) (C := RX4) (T := TX4) (N := 12) hx hb hts iX5_bestFor_X4 hown hK.1 hP 3 rfl rfl 3 (by decide) (hts (.fieldLink RX5 58 "Bumpherald$Raises" "risks" "[I") (List.mem_of_getElem? (i := 3) rfl)) (fun _ h9 => h9) rfl dX5_bestFor_41 ?_
          refine lv_iload_n hx hb dX5_bestFor_44 rfl (lv_at hl 2 rfl) ?_
          refine r_iald (Wd := bW ad cI cZ) (k := 11) (n := 40) hx hb hK hP 17 rfl hE dX5_bestFor_45 (fun x6 hE => ?_)
          refine r_icmp_lt (tgt := 67) hx hb dX5_bestFor_46 (by decide) hE (fun c7 hE => ?_) (fun c7 hE => ?_)
          · refine lv_iinc (v := v4 + 1) (lv' := [(4, .int (v4 + 1)), (5, .int x2), (0, .ref (ad 4)), (1, .int v1), (2, .int v2), (3, .int v3)]) hx hb dX5_bestFor_67 hl (k := 5) rfl rfl (by decide) rfl (fun ls hl => ?_)
            refine lv_goto (tgt := 8) hx hb dX5_bestFor_70 (by decide) ?_
            exact ih8 v1 v2 v3 (v4 + 1) S3 hE _ _ _ hP hS (lv_sub hl [2, 3, 4, 5, 0] rfl)
          · refine lv_aload_n hx hb dX5_bestFor_49 rfl (lv_at hl 1 rfl) ?_
            refine lv_iload hx hb dX5_bestFor_50 (lv_at hl 5 rfl) ?_
            refine lv_iload_n hx hb dX5_bestFor_52 rfl (lv_at hl 2 rfl) ?_
            refine lv_bipush (v := 40) hx hb dX5_bestFor_53 (by decide) ?_
            refine r_callVi (Wd := bW ad cI cZ) (C := RX5) [.int v4, .int v1, .int 40] [] ⟨hx, hb, hml, hown, hts⟩ (kX5_reviewsAnother l D ad cI cZ hDD S3 v4 v1 40) (cwV 3 hts gX5_bestFor_X5_reviewsAnother rfl rfl rfl (by decide +kernel) ⟨Nat.le_of_ble_eq_true rfl, Nat.le_of_ble_eq_true rfl⟩) (va_recv hK.1 hP (ci := 4) (q0 := 4) rfl rfl) hK hP hS (fun _ h9 => h9) rfl hl.1 rfl (Nat.le_of_ble_eq_true rfl) ⟨Nat.zero_le _, Nat.zero_le _⟩ hE dX5_bestFor_55 (fun S9 x8 H locs hE hP hS => ?_)
            refine r_if_ne (tgt := 67) hx hb dX5_bestFor_58 (by decide) hE (fun c10 hE => ?_) (fun c10 hE => ?_)
            · refine lv_iload hx hb dX5_bestFor_61 (lv_at hl 5 rfl) ?_
              refine lv_istore_n (lv' := [(2, .int v4), (5, .int x2), (0, .ref (ad 4)), (1, .int v1), (3, .int v3), (4, .int v4)]) hx hb dX5_bestFor_63 rfl hl (by decide) rfl (fun ls hl => ?_)
              refine lv_iload hx hb dX5_bestFor_64 (lv_at hl 1 rfl) ?_
              refine lv_istore_n (lv' := [(3, .int x2), (2, .int v4), (5, .int x2), (0, .ref (ad 4)), (1, .int v1), (4, .int v4)]) hx hb dX5_bestFor_66 rfl hl (by decide) rfl (fun ls hl => ?_)
              refine lv_iinc (v := v4 + 1) (lv' := [(4, .int (v4 + 1)), (3, .int x2), (2, .int v4), (5, .int x2), (0, .ref (ad 4)), (1, .int v1)]) hx hb dX5_bestFor_67 hl (k := 5) rfl rfl (by decide) rfl (fun ls hl => ?_)
              refine lv_goto (tgt := 8) hx hb dX5_bestFor_70 (by decide) ?_
              exact ih8 v1 v4 x2 (v4 + 1) S9 hE _ _ _ hP hS (lv_sub hl [4, 5, 2, 1, 0] rfl)
            · refine lv_iinc (v := v4 + 1) (lv' := [(4, .int (v4 + 1)), (5, .int x2), (0, .ref (ad 4)), (1, .int v1), (2, .int v2), (3, .int v3)]) hx hb dX5_bestFor_67 hl (k := 5) rfl rfl (by decide) rfl (fun ls hl => ?_)
              refine lv_goto (tgt := 8) hx hb dX5_bestFor_70 (by decide) ?_
              exact ih8 v1 v2 v3 (v4 + 1) S9 hE _ _ _ hP hS (lv_sub hl [2, 3, 4, 5, 0] rfl)
  unfold f5_bestFor at hE
  refine lv_iconst (v := -1) hx hb dX5_bestFor_0 (by decide) ?_
  refine lv_istore_n (lv' := [(2, .int ((-1))), (0, .ref (ad 4)), (1, .int v1)]) hx hb dX5_bestFor_1 rfl hl (by decide) rfl (fun ls hl => ?_)
  refine lv_bipush (v := 11) hx hb dX5_bestFor_2 (by decide) ?_
  refine lv_istore_n (lv' := [(3, .int 11), (2, .int ((-1))), (0, .ref (ad 4)), (1, .int v1)]) hx hb dX5_bestFor_4 rfl hl (by decide) rfl (fun ls hl => ?_)
  refine lv_iconst (v := 0) hx hb dX5_bestFor_5 (by decide) ?_
  refine lv_istore (lv' := [(4, .int 0), (3, .int 11), (2, .int ((-1))), (0, .ref (ad 4)), (1, .int v1)]) hx hb dX5_bestFor_6 hl (by decide) rfl (fun ls hl => ?_)
  exact H8 2000 v1 ((-1)) 11 0 S hE _ _ _ hP hS (lv_sub hl [3, 4, 2, 1, 0] rfl)
theorem iX5_give_X4 : ∀ w ∈ wsX40, w ∈ wsX5_give := fun w h => List.mem_cons_of_mem _ (List.mem_append_right _ h)
theorem iX5_give_X5 : ∀ w ∈ wsX50, w ∈ wsX5_give := fun w h => List.mem_cons_of_mem _ (List.mem_append_left _ (List.mem_append_right _ h))
set_option maxHeartbeats 4000000 in
set_option maxRecDepth 100000 in
theorem kX5_give (l : Launch) (D : va_G) (ad : Nat → Nat) (cI cZ : ClassId) (hDD : ∀ S, va_D (bA ad) (bW ad cI cZ S)) (S : St) (v1 : Int32) (v2 : Int32) : ∀ So, f5_give S v1 v2 = some So → Met l yX5_give wsX5_give { frames := 0, cells := 0, slots := 0, locals := 0 } (va_Pc [.ref (ad 4), .int v1, .int v2] (kPre D cI cZ (bW ad cI cZ S))) (kQv D cI cZ (bA ad) (bW ad cI cZ So)) 0 0 (bA ad) := by
  intro So hE
  refine kMet_of (by decide) rfl (Nat.le_of_ble_eq_true rfl) ?_
  intro p e s m args below meth c ls hx hb hr hml hown hlk hts hK hP hS hl
  have hl : lv_has ls 3 [(0, .ref (ad 4)), (1, .int v1), (2, .int v2)] := hl
  have hown : s.vm.findClass RX5 = some m.cls := hown
  unfold f5_give at hE
  refine lv_aload_n hx hb dX5_give_0 rfl (lv_at hl 0 rfl) ?_
  refine va_get (D := D) (ci := 4) (v := .ref (ad 3)) (C := RX5) (T := TX5) (N := 2) hx hb hts iX5_give_X5 hown hK.1 hP 4 rfl rfl 0 (by decide) (hts (.fieldLink RX5 15 "Bumpherald$Reviewers" "raises" "LBumpherald$Raises;") (List.mem_of_getElem? (i := 1) rfl)) (fun _ h9 => h9) rfl dX5_give_1 ?_
  refine va_get (D := D) (ci := 3) (v := .ref (ad 20)) (C := RX4) (T := TX4) (N := 12) hx hb hts iX5_give_X4 hown hK.1 hP 3 rfl rfl 6 (by decide) (hts (.fieldLink RX5 28 "Bumpherald$Raises" "reviewers" "[I") (List.mem_of_getElem? (i := 2) rfl)) (fun _ h9 => h9) rfl dX5_give_4 ?_
  refine lv_iload_n hx hb dX5_give_7 rfl (lv_at hl 1 rfl) ?_
  refine r_iald (Wd := bW ad cI cZ) (k := 14) (n := 40) hx hb hK hP 20 rfl hE dX5_give_8 (fun x1 hE => ?_)
  refine lv_iload_n hx hb dX5_give_9 rfl (lv_at hl 2 rfl) ?_
  refine r_icmp_eq (tgt := 33) hx hb dX5_give_10 (by decide) hE (fun c2 hE => ?_) (fun c2 hE => ?_)
  · exact k_vret (Wd := bW ad cI cZ) hx hb hr hlk hK hP hS hE dX5_give_33
  · refine lv_aload_n hx hb dX5_give_13 rfl (lv_at hl 0 rfl) ?_
    refine va_get (D := D) (ci := 4) (v := .ref (ad 3)) (C := RX5) (T := TX5) (N := 2) hx hb hts iX5_give_X5 hown hK.1 hP 4 rfl rfl 0 (by decide) (hts (.fieldLink RX5 15 "Bumpherald$Reviewers" "raises" "LBumpherald$Raises;") (List.mem_of_getElem? (i := 1) rfl)) (fun _ h9 => h9) rfl dX5_give_14 ?_
    refine va_get (D := D) (ci := 3) (v := .ref (ad 20)) (C := RX4) (T := TX4) (N := 12) hx hb hts iX5_give_X4 hown hK.1 hP 3 rfl rfl 6 (by decide) (hts (.fieldLink RX5 28 "Bumpherald$Raises" "reviewers" "[I") (List.mem_of_getElem? (i := 2) rfl)) (fun _ h9 => h9) rfl dX5_give_17 ?_
    refine lv_iload_n hx hb dX5_give_20 rfl (lv_at hl 1 rfl) ?_
    refine lv_iload_n hx hb dX5_give_21 rfl (lv_at hl 2 rfl) ?_
    refine r_iast (Wd := bW ad cI cZ) (k := 14) (n := 40) hx hb hDD hK hP hS 20 rfl (bU14 ..) hE dX5_give_22 (fun S3 H locs hE hP hS => ?_)
    refine lv_aload_n hx hb dX5_give_23 rfl (lv_at hl 0 rfl) ?_
    refine va_get (D := D) (ci := 4) (v := .ref (ad 3)) (C := RX5) (T := TX5) (N := 2) hx hb hts iX5_give_X5 hown hK.1 hP 4 rfl rfl 0 (by decide) (hts (.fieldLink RX5 15 "Bumpherald$Reviewers" "raises" "LBumpherald$Raises;") (List.mem_of_getElem? (i := 1) rfl)) (fun _ h9 => h9) rfl dX5_give_24 ?_
    refine va_get (D := D) (ci := 3) (v := .ref (ad 21)) (C := RX4) (T := TX4) (N := 12) hx hb hts iX5_give_X4 hown hK.1 hP 3 rfl rfl 7 (by decide) (hts (.fieldLink RX5 61 "Bumpherald$Raises" "approved" "[Z") (List.mem_of_getElem? (i := 3) rfl)) (fun _ h9 => h9) rfl dX5_give_27 ?_
    refine lv_iload_n hx hb dX5_give_30 rfl (lv_at hl 1 rfl) ?_
    refine lv_iconst (v := 0) hx hb dX5_give_31 (by decide) ?_
    refine r_zast (Wd := bW ad cI cZ) (k := 15) (n := 40) hx hb hDD hK hP hS 21 rfl (bU15 ..) hE dX5_give_32 (fun S4 H locs hE hP hS => ?_)
    exact k_vret (Wd := bW ad cI cZ) hx hb hr hlk hK hP hS hE dX5_give_33
theorem iX5_giveAnew_X4 : ∀ w ∈ wsX40, w ∈ wsX5_giveAnew := fun w h => List.mem_cons_of_mem _ (List.mem_append_right _ h)
theorem iX5_giveAnew_X5 : ∀ w ∈ wsX50, w ∈ wsX5_giveAnew := fun w h => List.mem_cons_of_mem _ (List.mem_append_left _ (List.mem_append_right _ h))
set_option maxHeartbeats 4000000 in
set_option maxRecDepth 100000 in
theorem kX5_giveAnew (l : Launch) (D : va_G) (ad : Nat → Nat) (cI cZ : ClassId) (hDD : ∀ S, va_D (bA ad) (bW ad cI cZ S)) (S : St) (v1 : Int32) : ∀ So, f5_giveAnew S v1 = some So → Met l yX5_giveAnew wsX5_giveAnew { frames := 2, cells := 0, slots := 0, locals := 50 } (va_Pc [.ref (ad 4), .int v1] (kPre D cI cZ (bW ad cI cZ S))) (kQv D cI cZ (bA ad) (bW ad cI cZ So)) 0 0 (bA ad) := by
  intro So hE
  refine kMet_of (by decide) rfl (Nat.le_of_ble_eq_true rfl) ?_
  intro p e s m args below meth c ls hx hb hr hml hown hlk hts hK hP hS hl
  have hl : lv_has ls 4 [(0, .ref (ad 4)), (1, .int v1)] := hl
  have hown : s.vm.findClass RX5 = some m.cls := hown
  have H2 : ∀ (n2 : Nat) (v1 : Int32) (v2 : Int32) (S : St), f5_giveAnew_L2  n2 v1 v2 S = some So → ∀ (H : Heap) (locs : List Loc) (ls : Array Slot), va_P D vwCl (bW ad cI cZ S) H → va_S (bA ad) s.heap H locs → lv_has ls 4 [(0, .ref (ad 4)), (1, .int v1), (2, .int v2)] → W p l e (headSpec wsX5_giveAnew { frames := 2, cells := 0, slots := 0, locals := 50 }).room s m args below meth c H locs 0 0 (MQ below (kQv D cI cZ (bA ad) (bW ad cI cZ So)) args s 0 0 (bA ad)) (F0 m 2 ls []) := by
    intro n2
    induction n2 with
    | zero => intro v1 v2 S hE; exact absurd (show (none : Option (St)) = some So from hE) (fun h => nomatch h)
    | succ n2 ih2 =>
      intro v1 v2 S hE H locs ls hP hS hl
      have hE : f5_giveAnew_L2b  (f5_giveAnew_L2 n2) v1 v2 S = some So := hE
      unfold f5_giveAnew_L2b at hE
      refine lv_iload_n hx hb dX5_giveAnew_2 rfl (lv_at hl 2 rfl) ?_
      refine lv_aload_n hx hb dX5_giveAnew_3 rfl (lv_at hl 0 rfl) ?_
      refine va_get (D := D) (ci := 4) (v := .ref (ad 3)) (C := RX5) (T := TX5) (N := 2) hx hb hts iX5_giveAnew_X5 hown hK.1 hP 4 rfl rfl 0 (by decide) (hts (.fieldLink RX5 15 "Bumpherald$Reviewers" "raises" "LBumpherald$Raises;") (List.mem_of_getElem? (i := 1) rfl)) (fun _ h9 => h9) rfl dX5_giveAnew_4 ?_
      refine va_get (D := D) (ci := 3) (v := .int (S.1 5)) (C := RX4) (T := TX4) (N := 12) hx hb hts iX5_giveAnew_X4 hown hK.1 hP 3 rfl rfl 11 (by decide) (hts (.fieldLink RX5 19 "Bumpherald$Raises" "openCount" "I") (List.mem_of_getElem? (i := 2) rfl)) (fun _ h9 => h9) rfl dX5_giveAnew_7 ?_
      refine r_icmp_ge (tgt := 59) hx hb dX5_giveAnew_10 (by decide) hE (fun c1 hE => ?_) (fun c1 hE => ?_)
      · exact k_vret (Wd := bW ad cI cZ) hx hb hr hlk hK hP hS hE dX5_giveAnew_59
      · refine lv_aload_n hx hb dX5_giveAnew_13 rfl (lv_at hl 0 rfl) ?_
        refine va_get (D := D) (ci := 4) (v := .ref (ad 3)) (C := RX5) (T := TX5) (N := 2) hx hb hts iX5_giveAnew_X5 hown hK.1 hP 4 rfl rfl 0 (by decide) (hts (.fieldLink RX5 15 "Bumpherald$Reviewers" "raises" "LBumpherald$Raises;") (List.mem_of_getElem? (i := 1) rfl)) (fun _ h9 => h9) rfl dX5_giveAnew_14 ?_
        refine va_get (D := D) (ci := 3) (v := .ref (ad 23)) (C := RX4) (T := TX4) (N := 12) hx hb hts iX5_giveAnew_X4 hown hK.1 hP 3 rfl rfl 9 (by decide) (hts (.fieldLink RX5 25 "Bumpherald$Raises" "open" "[I") (List.mem_of_getElem? (i := 3) rfl)) (fun _ h9 => h9) rfl dX5_giveAnew_17 ?_
        refine lv_iload_n hx hb dX5_giveAnew_20 rfl (lv_at hl 2 rfl) ?_
        refine r_iald (Wd := bW ad cI cZ) (k := 17) (n := 10) hx hb hK hP 23 rfl hE dX5_giveAnew_21 (fun x2 hE => ?_)
        refine lv_istore_n (lv' := [(3, .int x2), (0, .ref (ad 4)), (1, .int v1), (2, .int v2)]) hx hb dX5_giveAnew_22 rfl hl (by decide) rfl (fun ls hl => ?_)
        refine lv_aload_n hx hb dX5_giveAnew_23 rfl (lv_at hl 1 rfl) ?_
        refine va_get (D := D) (ci := 4) (v := .ref (ad 3)) (C := RX5) (T := TX5) (N := 2) hx hb hts iX5_giveAnew_X5 hown hK.1 hP 4 rfl rfl 0 (by decide) (hts (.fieldLink RX5 15 "Bumpherald$Reviewers" "raises" "LBumpherald$Raises;") (List.mem_of_getElem? (i := 1) rfl)) (fun _ h9 => h9) rfl dX5_giveAnew_24 ?_
        refine lv_iload_n hx hb dX5_giveAnew_27 rfl (lv_at hl 3 rfl) ?_
        refine lv_iload_n hx hb dX5_giveAnew_28 rfl (lv_at hl 2 rfl) ?_
        refine r_callVi (Wd := bW ad cI cZ) (C := RX4) [.int v2, .int v1] [] ⟨hx, hb, hml, hown, hts⟩ (kX4_isIn l D ad cI cZ hDD S v2 v1) (cwV 2 hts gX5_giveAnew_X4_isIn rfl rfl rfl (by decide +kernel) ⟨Nat.le_of_ble_eq_true rfl, Nat.le_of_ble_eq_true rfl⟩) (va_recv hK.1 hP (ci := 3) (q0 := 3) rfl rfl) hK hP hS (fun _ h9 => h9) rfl hl.1 rfl (Nat.le_of_ble_eq_true rfl) ⟨Nat.zero_le _, Nat.zero_le _⟩ hE dX5_giveAnew_29 (fun S4 x3 H locs hE hP hS => ?_)
        refine r_if_eq (tgt := 53) hx hb dX5_giveAnew_32 (by decide) hE (fun c5 hE => ?_) (fun c5 hE => ?_)
        · refine lv_iinc (v := v2 + 1) (lv' := [(2, .int (v2 + 1)), (3, .int x2), (0, .ref (ad 4)), (1, .int v1)]) hx hb dX5_giveAnew_53 hl (k := 3) rfl rfl (by decide) rfl (fun ls hl => ?_)
          refine lv_goto (tgt := 2) hx hb dX5_giveAnew_56 (by decide) ?_
          exact ih2 v1 (v2 + 1) S4 hE _ _ _ hP hS (lv_sub hl [2, 3, 0] rfl)
        · refine lv_aload_n hx hb dX5_giveAnew_35 rfl (lv_at hl 1 rfl) ?_
          refine lv_iload_n hx hb dX5_giveAnew_36 rfl (lv_at hl 0 rfl) ?_
          refine r_callVi (Wd := bW ad cI cZ) (C := RX5) [.int x2] [] ⟨hx, hb, hml, hown, hts⟩ (kX5_hasOwnReviewer l D ad cI cZ hDD S4 x2) (cwV 1 hts gX5_giveAnew_X5_hasOwnReviewer rfl rfl rfl (by decide +kernel) ⟨Nat.le_of_ble_eq_true rfl, Nat.le_of_ble_eq_true rfl⟩) (va_recv hK.1 hP (ci := 4) (q0 := 4) rfl rfl) hK hP hS (fun _ h9 => h9) rfl hl.1 rfl (Nat.le_of_ble_eq_true rfl) ⟨Nat.zero_le _, Nat.zero_le _⟩ hE dX5_giveAnew_37 (fun S7 x6 H locs hE hP hS => ?_)
          refine r_if_ne (tgt := 53) hx hb dX5_giveAnew_40 (by decide) hE (fun c8 hE => ?_) (fun c8 hE => ?_)
          · refine lv_aload_n hx hb dX5_giveAnew_43 rfl (lv_at hl 1 rfl) ?_
            refine lv_iload_n hx hb dX5_giveAnew_44 rfl (lv_at hl 0 rfl) ?_
            refine lv_aload_n hx hb dX5_giveAnew_45 rfl (lv_at hl 1 rfl) ?_
            refine lv_iload_n hx hb dX5_giveAnew_46 rfl (lv_at hl 0 rfl) ?_
            refine r_callVi (Wd := bW ad cI cZ) (C := RX5) [.int x2] [.int x2, .ref (ad 4)] ⟨hx, hb, hml, hown, hts⟩ (kX5_bestFor l D ad cI cZ hDD S7 x2) (cwV 1 hts gX5_giveAnew_X5_bestFor rfl rfl rfl (by decide +kernel) ⟨Nat.le_of_ble_eq_true rfl, Nat.le_of_ble_eq_true rfl⟩) (va_recv hK.1 hP (ci := 4) (q0 := 4) rfl rfl) hK hP hS (fun _ h9 => h9) rfl hl.1 rfl (Nat.le_of_ble_eq_true rfl) ⟨Nat.zero_le _, Nat.zero_le _⟩ hE dX5_giveAnew_47 (fun S10 x9 H locs hE hP hS => ?_)
            refine r_callVv (Wd := bW ad cI cZ) (C := RX5) [.int x2, .int x9] [] ⟨hx, hb, hml, hown, hts⟩ (kX5_give l D ad cI cZ hDD S10 x2 x9) (cwV 2 hts gX5_giveAnew_X5_give rfl rfl rfl (by decide +kernel) ⟨Nat.le_of_ble_eq_true rfl, Nat.le_of_ble_eq_true rfl⟩) (va_recv hK.1 hP (ci := 4) (q0 := 4) rfl rfl) hK hP hS (fun _ h9 => h9) rfl hl.1 rfl (Nat.le_of_ble_eq_true rfl) ⟨Nat.zero_le _, Nat.zero_le _⟩ hE dX5_giveAnew_50 (fun S12 H locs hE hP hS => ?_)
            refine lv_iinc (v := v2 + 1) (lv' := [(2, .int (v2 + 1)), (3, .int x2), (0, .ref (ad 4)), (1, .int v1)]) hx hb dX5_giveAnew_53 hl (k := 3) rfl rfl (by decide) rfl (fun ls hl => ?_)
            refine lv_goto (tgt := 2) hx hb dX5_giveAnew_56 (by decide) ?_
            exact ih2 v1 (v2 + 1) S12 hE _ _ _ hP hS (lv_sub hl [2, 3, 0] rfl)
          · refine lv_iinc (v := v2 + 1) (lv' := [(2, .int (v2 + 1)), (3, .int x2), (0, .ref (ad 4)), (1, .int v1)]) hx hb dX5_giveAnew_53 hl (k := 3) rfl rfl (by decide) rfl (fun ls hl => ?_)
            refine lv_goto (tgt := 2) hx hb dX5_giveAnew_56 (by decide) ?_
            exact ih2 v1 (v2 + 1) S7 hE _ _ _ hP hS (lv_sub hl [2, 3, 0] rfl)
  unfold f5_giveAnew at hE
  refine lv_iconst (v := 0) hx hb dX5_giveAnew_0 (by decide) ?_
  refine lv_istore_n (lv' := [(2, .int 0), (0, .ref (ad 4)), (1, .int v1)]) hx hb dX5_giveAnew_1 rfl hl (by decide) rfl (fun ls hl => ?_)
  exact H2 2000 v1 0 S hE _ _ _ hP hS (lv_sub hl [1, 2, 0] rfl)
theorem iX2_join_X2 : ∀ w ∈ wsX20, w ∈ wsX2_join := fun w h => List.mem_cons_of_mem _ (List.mem_append_left _ (List.mem_append_left _ (List.mem_append_right _ h)))
set_option maxHeartbeats 4000000 in
set_option maxRecDepth 100000 in
theorem kX2_join (l : Launch) (D : va_G) (ad : Nat → Nat) (cI cZ : ClassId) (hDD : ∀ S, va_D (bA ad) (bW ad cI cZ S)) (S : St) (v1 : Int32) (v2 : Int32) : ∀ So, f2_join S v1 v2 = some So → Met l yX2_join wsX2_join { frames := 3, cells := 0, slots := 0, locals := 73 } (va_Pc [.ref (ad 5), .int v1, .int v2] (kPre D cI cZ (bW ad cI cZ S))) (kQv D cI cZ (bA ad) (bW ad cI cZ So)) 0 0 (bA ad) := by
  intro So hE
  refine kMet_of (by decide) rfl (Nat.le_of_ble_eq_true rfl) ?_
  intro p e s m args below meth c ls hx hb hr hml hown hlk hts hK hP hS hl
  have hl : lv_has ls 4 [(0, .ref (ad 5)), (1, .int v1), (2, .int v2)] := hl
  have hown : s.vm.findClass RX2 = some m.cls := hown
  unfold f2_join at hE
  refine lv_iload_n hx hb dX2_join_0 rfl (lv_at hl 2 rfl) ?_
  refine lv_iconst (v := -1) hx hb dX2_join_1 (by decide) ?_
  refine r_icmp_ne (tgt := 6) hx hb dX2_join_2 (by decide) hE (fun c1 hE => ?_) (fun c1 hE => ?_)
  · exact k_vret (Wd := bW ad cI cZ) hx hb hr hlk hK hP hS hE dX2_join_5
  · refine lv_aload_n hx hb dX2_join_6 rfl (lv_at hl 0 rfl) ?_
    refine va_get (D := D) (ci := 1) (v := .ref (ad 25)) (C := RX2) (T := TX2) (N := 4) hx hb hts iX2_join_X2 hown hK.1 hP 5 rfl rfl 2 (by decide) (hts (.fieldLink RX2 9 "Bumpherald$Herding" "waiting" "[Z") (List.mem_of_getElem? (i := 1) rfl)) (fun _ h9 => h9) rfl dX2_join_7 ?_
    refine lv_iload_n hx hb dX2_join_10 rfl (lv_at hl 2 rfl) ?_
    refine lv_iconst (v := 0) hx hb dX2_join_11 (by decide) ?_
    refine r_zast (Wd := bW ad cI cZ) (k := 19) (n := 40) hx hb hDD hK hP hS 25 rfl (bU19 ..) hE dX2_join_12 (fun S2 H locs hE hP hS => ?_)
    refine lv_aload_n hx hb dX2_join_13 rfl (lv_at hl 0 rfl) ?_
    refine va_get (D := D) (ci := 1) (v := .ref (ad 3)) (C := RX2) (T := TX2) (N := 4) hx hb hts iX2_join_X2 hown hK.1 hP 5 rfl rfl 0 (by decide) (hts (.fieldLink RX2 19 "Bumpherald$Herding" "raises" "LBumpherald$Raises;") (List.mem_of_getElem? (i := 2) rfl)) (fun _ h9 => h9) rfl dX2_join_14 ?_
    refine lv_iload_n hx hb dX2_join_17 rfl (lv_at hl 1 rfl) ?_
    refine r_callVi (Wd := bW ad cI cZ) (C := RX4) [.int v1] [] ⟨hx, hb, hml, hown, hts⟩ (kX4_groupOf l D ad cI cZ hDD S2 v1) (cwV 1 hts gX2_join_X4_groupOf rfl rfl rfl (by decide +kernel) ⟨Nat.le_of_ble_eq_true rfl, Nat.le_of_ble_eq_true rfl⟩) (va_recv hK.1 hP (ci := 3) (q0 := 3) rfl rfl) hK hP hS (fun _ h9 => h9) rfl hl.1 rfl (Nat.le_of_ble_eq_true rfl) ⟨Nat.zero_le _, Nat.zero_le _⟩ hE dX2_join_18 (fun S4 x3 H locs hE hP hS => ?_)
    refine lv_aload_n hx hb dX2_join_21 rfl (lv_at hl 0 rfl) ?_
    refine va_get (D := D) (ci := 1) (v := .ref (ad 3)) (C := RX2) (T := TX2) (N := 4) hx hb hts iX2_join_X2 hown hK.1 hP 5 rfl rfl 0 (by decide) (hts (.fieldLink RX2 19 "Bumpherald$Herding" "raises" "LBumpherald$Raises;") (List.mem_of_getElem? (i := 2) rfl)) (fun _ h9 => h9) rfl dX2_join_22 ?_
    refine lv_iload_n hx hb dX2_join_25 rfl (lv_at hl 2 rfl) ?_
    refine r_callVi (Wd := bW ad cI cZ) (C := RX4) [.int v2] [.int x3] ⟨hx, hb, hml, hown, hts⟩ (kX4_groupOf l D ad cI cZ hDD S4 v2) (cwV 1 hts gX2_join_X4_groupOf rfl rfl rfl (by decide +kernel) ⟨Nat.le_of_ble_eq_true rfl, Nat.le_of_ble_eq_true rfl⟩) (va_recv hK.1 hP (ci := 3) (q0 := 3) rfl rfl) hK hP hS (fun _ h9 => h9) rfl hl.1 rfl (Nat.le_of_ble_eq_true rfl) ⟨Nat.zero_le _, Nat.zero_le _⟩ hE dX2_join_26 (fun S6 x5 H locs hE hP hS => ?_)
    refine lv_ior hx hb dX2_join_29 ?_
    refine lv_istore_n (lv' := [(3, .int (x3 ||| x5)), (0, .ref (ad 5)), (1, .int v1), (2, .int v2)]) hx hb dX2_join_30 rfl hl (by decide) rfl (fun ls hl => ?_)
    refine lv_aload_n hx hb dX2_join_31 rfl (lv_at hl 1 rfl) ?_
    refine va_get (D := D) (ci := 1) (v := .ref (ad 3)) (C := RX2) (T := TX2) (N := 4) hx hb hts iX2_join_X2 hown hK.1 hP 5 rfl rfl 0 (by decide) (hts (.fieldLink RX2 19 "Bumpherald$Herding" "raises" "LBumpherald$Raises;") (List.mem_of_getElem? (i := 2) rfl)) (fun _ h9 => h9) rfl dX2_join_32 ?_
    refine lv_iload_n hx hb dX2_join_35 rfl (lv_at hl 0 rfl) ?_
    refine r_callVv (Wd := bW ad cI cZ) (C := RX4) [.int (x3 ||| x5)] [] ⟨hx, hb, hml, hown, hts⟩ (kX4_group l D ad cI cZ hDD S6 (x3 ||| x5)) (cwV 1 hts gX2_join_X4_group rfl rfl rfl (by decide +kernel) ⟨Nat.le_of_ble_eq_true rfl, Nat.le_of_ble_eq_true rfl⟩) (va_recv hK.1 hP (ci := 3) (q0 := 3) rfl rfl) hK hP hS (fun _ h9 => h9) rfl hl.1 rfl (Nat.le_of_ble_eq_true rfl) ⟨Nat.zero_le _, Nat.zero_le _⟩ hE dX2_join_36 (fun S8 H locs hE hP hS => ?_)
    refine lv_aload_n hx hb dX2_join_39 rfl (lv_at hl 1 rfl) ?_
    refine va_get (D := D) (ci := 1) (v := .ref (ad 4)) (C := RX2) (T := TX2) (N := 4) hx hb hts iX2_join_X2 hown hK.1 hP 5 rfl rfl 1 (by decide) (hts (.fieldLink RX2 23 "Bumpherald$Herding" "reviewers" "LBumpherald$Reviewers;") (List.mem_of_getElem? (i := 3) rfl)) (fun _ h9 => h9) rfl dX2_join_40 ?_
    refine lv_iload_n hx hb dX2_join_43 rfl (lv_at hl 0 rfl) ?_
    refine r_callVv (Wd := bW ad cI cZ) (C := RX5) [.int (x3 ||| x5)] [] ⟨hx, hb, hml, hown, hts⟩ (kX5_giveAnew l D ad cI cZ hDD S8 (x3 ||| x5)) (cwV 1 hts gX2_join_X5_giveAnew rfl rfl rfl (by decide +kernel) ⟨Nat.le_of_ble_eq_true rfl, Nat.le_of_ble_eq_true rfl⟩) (va_recv hK.1 hP (ci := 4) (q0 := 4) rfl rfl) hK hP hS (fun _ h9 => h9) rfl hl.1 rfl (Nat.le_of_ble_eq_true rfl) ⟨Nat.zero_le _, Nat.zero_le _⟩ hE dX2_join_44 (fun S10 H locs hE hP hS => ?_)
    exact k_vret (Wd := bW ad cI cZ) hx hb hr hlk hK hP hS hE dX2_join_47
theorem iX2_joinSleepers_X2 : ∀ w ∈ wsX20, w ∈ wsX2_joinSleepers := fun w h => List.mem_cons_of_mem _ (List.mem_append_left _ (List.mem_append_left _ (List.mem_append_left _ (List.mem_append_right _ h))))
theorem iX2_joinSleepers_X4 : ∀ w ∈ wsX40, w ∈ wsX2_joinSleepers := fun w h => List.mem_cons_of_mem _ (List.mem_append_left _ (List.mem_append_left _ (List.mem_append_right _ h)))
set_option maxHeartbeats 4000000 in
set_option maxRecDepth 100000 in
theorem kX2_joinSleepers (l : Launch) (D : va_G) (ad : Nat → Nat) (cI cZ : ClassId) (hDD : ∀ S, va_D (bA ad) (bW ad cI cZ S)) (S : St) (v1 : Int32) : ∀ So, f2_joinSleepers S v1 = some So → Met l yX2_joinSleepers wsX2_joinSleepers { frames := 5, cells := 0, slots := 0, locals := 113 } (va_Pc [.ref (ad 5), .int v1] (kPre D cI cZ (bW ad cI cZ S))) (kQv D cI cZ (bA ad) (bW ad cI cZ So)) 0 0 (bA ad) := by
  intro So hE
  refine kMet_of (by decide) rfl (Nat.le_of_ble_eq_true rfl) ?_
  intro p e s m args below meth c ls hx hb hr hml hown hlk hts hK hP hS hl
  have hl : lv_has ls 3 [(0, .ref (ad 5)), (1, .int v1)] := hl
  have hown : s.vm.findClass RX2 = some m.cls := hown
  have H45 : ∀ (n45 : Nat) (v1 : Int32) (v2 : Int32) (S : St), f2_joinSleepers_L45  n45 v1 v2 S = some So → ∀ (H : Heap) (locs : List Loc) (ls : Array Slot), va_P D vwCl (bW ad cI cZ S) H → va_S (bA ad) s.heap H locs → lv_has ls 3 [(0, .ref (ad 5)), (1, .int v1), (2, .int v2)] → W p l e (headSpec wsX2_joinSleepers { frames := 5, cells := 0, slots := 0, locals := 113 }).room s m args below meth c H locs 0 0 (MQ below (kQv D cI cZ (bA ad) (bW ad cI cZ So)) args s 0 0 (bA ad)) (F0 m 45 ls []) := by
    intro n45
    induction n45 with
    | zero => intro v1 v2 S hE; exact absurd (show (none : Option (St)) = some So from hE) (fun h => nomatch h)
    | succ n45 ih45 =>
      intro v1 v2 S hE H locs ls hP hS hl
      have hE : f2_joinSleepers_L45b  (f2_joinSleepers_L45 n45) v1 v2 S = some So := hE
      unfold f2_joinSleepers_L45b at hE
      refine lv_iload_n hx hb dX2_joinSleepers_45 rfl (lv_at hl 2 rfl) ?_
      refine lv_aload_n hx hb dX2_joinSleepers_46 rfl (lv_at hl 0 rfl) ?_
      refine va_get (D := D) (ci := 1) (v := .ref (ad 3)) (C := RX2) (T := TX2) (N := 4) hx hb hts iX2_joinSleepers_X2 hown hK.1 hP 5 rfl rfl 0 (by decide) (hts (.fieldLink RX2 19 "Bumpherald$Herding" "raises" "LBumpherald$Raises;") (List.mem_of_getElem? (i := 1) rfl)) (fun _ h9 => h9) rfl dX2_joinSleepers_47 ?_
      refine va_get (D := D) (ci := 3) (v := .int (S.1 4)) (C := RX4) (T := TX4) (N := 12) hx hb hts iX2_joinSleepers_X4 hown hK.1 hP 3 rfl rfl 10 (by decide) (hts (.fieldLink RX2 27 "Bumpherald$Raises" "count" "I") (List.mem_of_getElem? (i := 2) rfl)) (fun _ h9 => h9) rfl dX2_joinSleepers_50 ?_
      refine r_icmp_ge (tgt := 90) hx hb dX2_joinSleepers_53 (by decide) hE (fun c1 hE => ?_) (fun c1 hE => ?_)
      · exact k_vret (Wd := bW ad cI cZ) hx hb hr hlk hK hP hS hE dX2_joinSleepers_90
      · refine lv_aload_n hx hb dX2_joinSleepers_56 rfl (lv_at hl 0 rfl) ?_
        refine va_get (D := D) (ci := 1) (v := .ref (ad 25)) (C := RX2) (T := TX2) (N := 4) hx hb hts iX2_joinSleepers_X2 hown hK.1 hP 5 rfl rfl 2 (by decide) (hts (.fieldLink RX2 9 "Bumpherald$Herding" "waiting" "[Z") (List.mem_of_getElem? (i := 3) rfl)) (fun _ h9 => h9) rfl dX2_joinSleepers_57 ?_
        refine lv_iload_n hx hb dX2_joinSleepers_60 rfl (lv_at hl 2 rfl) ?_
        refine r_zald (Wd := bW ad cI cZ) (k := 19) (n := 40) hx hb hK hP 25 rfl hE dX2_joinSleepers_61 (fun x2 hE => ?_)
        refine r_if_eq (tgt := 84) hx hb dX2_joinSleepers_62 (by decide) hE (fun c3 hE => ?_) (fun c3 hE => ?_)
        · refine lv_iinc (v := v2 + 1) (lv' := [(2, .int (v2 + 1)), (0, .ref (ad 5)), (1, .int v1)]) hx hb dX2_joinSleepers_84 hl (k := 2) rfl rfl (by decide) rfl (fun ls hl => ?_)
          refine lv_goto (tgt := 45) hx hb dX2_joinSleepers_87 (by decide) ?_
          exact ih45 v1 (v2 + 1) S hE _ _ _ hP hS (lv_sub hl [1, 2, 0] rfl)
        · refine lv_aload_n hx hb dX2_joinSleepers_65 rfl (lv_at hl 0 rfl) ?_
          refine lv_iload_n hx hb dX2_joinSleepers_66 rfl (lv_at hl 2 rfl) ?_
          refine lv_iload_n hx hb dX2_joinSleepers_67 rfl (lv_at hl 1 rfl) ?_
          refine r_callVi (Wd := bW ad cI cZ) (C := RX2) [.int v2, .int v1] [] ⟨hx, hb, hml, hown, hts⟩ (kX2_sleepsTooLong l D ad cI cZ hDD S v2 v1) (cwV 2 hts gX2_joinSleepers_X2_sleepsTooLong rfl rfl rfl (by decide +kernel) ⟨Nat.le_of_ble_eq_true rfl, Nat.le_of_ble_eq_true rfl⟩) (va_recv hK.1 hP (ci := 1) (q0 := 5) rfl rfl) hK hP hS (fun _ h9 => h9) rfl hl.1 rfl (Nat.le_of_ble_eq_true rfl) ⟨Nat.zero_le _, Nat.zero_le _⟩ hE dX2_joinSleepers_68 (fun S5 x4 H locs hE hP hS => ?_)
          refine r_if_eq (tgt := 84) hx hb dX2_joinSleepers_71 (by decide) hE (fun c6 hE => ?_) (fun c6 hE => ?_)
          · refine lv_iinc (v := v2 + 1) (lv' := [(2, .int (v2 + 1)), (0, .ref (ad 5)), (1, .int v1)]) hx hb dX2_joinSleepers_84 hl (k := 2) rfl rfl (by decide) rfl (fun ls hl => ?_)
            refine lv_goto (tgt := 45) hx hb dX2_joinSleepers_87 (by decide) ?_
            exact ih45 v1 (v2 + 1) S5 hE _ _ _ hP hS (lv_sub hl [1, 2, 0] rfl)
          · refine lv_aload_n hx hb dX2_joinSleepers_74 rfl (lv_at hl 0 rfl) ?_
            refine lv_iload_n hx hb dX2_joinSleepers_75 rfl (lv_at hl 2 rfl) ?_
            refine lv_aload_n hx hb dX2_joinSleepers_76 rfl (lv_at hl 0 rfl) ?_
            refine lv_iload_n hx hb dX2_joinSleepers_77 rfl (lv_at hl 2 rfl) ?_
            refine r_callVi (Wd := bW ad cI cZ) (C := RX2) [.int v2] [.int v2, .ref (ad 5)] ⟨hx, hb, hml, hown, hts⟩ (kX2_bestPartner l D ad cI cZ hDD S5 v2) (cwV 1 hts gX2_joinSleepers_X2_bestPartner rfl rfl rfl (by decide +kernel) ⟨Nat.le_of_ble_eq_true rfl, Nat.le_of_ble_eq_true rfl⟩) (va_recv hK.1 hP (ci := 1) (q0 := 5) rfl rfl) hK hP hS (fun _ h9 => h9) rfl hl.1 rfl (Nat.le_of_ble_eq_true rfl) ⟨Nat.zero_le _, Nat.zero_le _⟩ hE dX2_joinSleepers_78 (fun S8 x7 H locs hE hP hS => ?_)
            refine r_callVv (Wd := bW ad cI cZ) (C := RX2) [.int v2, .int x7] [] ⟨hx, hb, hml, hown, hts⟩ (kX2_join l D ad cI cZ hDD S8 v2 x7) (cwV 2 hts gX2_joinSleepers_X2_join rfl rfl rfl (by decide +kernel) ⟨Nat.le_of_ble_eq_true rfl, Nat.le_of_ble_eq_true rfl⟩) (va_recv hK.1 hP (ci := 1) (q0 := 5) rfl rfl) hK hP hS (fun _ h9 => h9) rfl hl.1 rfl (Nat.le_of_ble_eq_true rfl) ⟨Nat.zero_le _, Nat.zero_le _⟩ hE dX2_joinSleepers_81 (fun S10 H locs hE hP hS => ?_)
            refine lv_iinc (v := v2 + 1) (lv' := [(2, .int (v2 + 1)), (0, .ref (ad 5)), (1, .int v1)]) hx hb dX2_joinSleepers_84 hl (k := 2) rfl rfl (by decide) rfl (fun ls hl => ?_)
            refine lv_goto (tgt := 45) hx hb dX2_joinSleepers_87 (by decide) ?_
            exact ih45 v1 (v2 + 1) S10 hE _ _ _ hP hS (lv_sub hl [1, 2, 0] rfl)
  have H2 : ∀ (n2 : Nat) (v1 : Int32) (v2 : Int32) (S : St), f2_joinSleepers_L2  n2 v1 v2 S = some So → ∀ (H : Heap) (locs : List Loc) (ls : Array Slot), va_P D vwCl (bW ad cI cZ S) H → va_S (bA ad) s.heap H locs → lv_has ls 3 [(0, .ref (ad 5)), (1, .int v1), (2, .int v2)] → W p l e (headSpec wsX2_joinSleepers { frames := 5, cells := 0, slots := 0, locals := 113 }).room s m args below meth c H locs 0 0 (MQ below (kQv D cI cZ (bA ad) (bW ad cI cZ So)) args s 0 0 (bA ad)) (F0 m 2 ls []) := by
    intro n2
    induction n2 with
    | zero => intro v1 v2 S hE; exact absurd (show (none : Option (St)) = some So from hE) (fun h => nomatch h)
    | succ n2 ih2 =>
      intro v1 v2 S hE H locs ls hP hS hl
      have hE : f2_joinSleepers_L2b  (f2_joinSleepers_L2 n2) v1 v2 S = some So := hE
      unfold f2_joinSleepers_L2b at hE
      refine lv_iload_n hx hb dX2_joinSleepers_2 rfl (lv_at hl 2 rfl) ?_
      refine lv_aload_n hx hb dX2_joinSleepers_3 rfl (lv_at hl 0 rfl) ?_
      refine va_get (D := D) (ci := 1) (v := .ref (ad 3)) (C := RX2) (T := TX2) (N := 4) hx hb hts iX2_joinSleepers_X2 hown hK.1 hP 5 rfl rfl 0 (by decide) (hts (.fieldLink RX2 19 "Bumpherald$Herding" "raises" "LBumpherald$Raises;") (List.mem_of_getElem? (i := 1) rfl)) (fun _ h9 => h9) rfl dX2_joinSleepers_4 ?_
      refine va_get (D := D) (ci := 3) (v := .int (S.1 4)) (C := RX4) (T := TX4) (N := 12) hx hb hts iX2_joinSleepers_X4 hown hK.1 hP 3 rfl rfl 10 (by decide) (hts (.fieldLink RX2 27 "Bumpherald$Raises" "count" "I") (List.mem_of_getElem? (i := 2) rfl)) (fun _ h9 => h9) rfl dX2_joinSleepers_7 ?_
      refine r_icmp_ge (tgt := 43) hx hb dX2_joinSleepers_10 (by decide) hE (fun c13 hE => ?_) (fun c13 hE => ?_)
      · refine lv_iconst (v := 0) hx hb dX2_joinSleepers_43 (by decide) ?_
        refine lv_istore_n (lv' := [(2, .int 0), (0, .ref (ad 5)), (1, .int v1)]) hx hb dX2_joinSleepers_44 rfl hl (by decide) rfl (fun ls hl => ?_)
        exact H45 2000 v1 0 S hE _ _ _ hP hS (lv_sub hl [1, 2, 0] rfl)
      · refine lv_aload_n hx hb dX2_joinSleepers_13 rfl (lv_at hl 0 rfl) ?_
        refine va_get (D := D) (ci := 1) (v := .ref (ad 25)) (C := RX2) (T := TX2) (N := 4) hx hb hts iX2_joinSleepers_X2 hown hK.1 hP 5 rfl rfl 2 (by decide) (hts (.fieldLink RX2 9 "Bumpherald$Herding" "waiting" "[Z") (List.mem_of_getElem? (i := 3) rfl)) (fun _ h9 => h9) rfl dX2_joinSleepers_14 ?_
        refine lv_iload_n hx hb dX2_joinSleepers_17 rfl (lv_at hl 2 rfl) ?_
        refine lv_aload_n hx hb dX2_joinSleepers_18 rfl (lv_at hl 0 rfl) ?_
        refine va_get (D := D) (ci := 1) (v := .ref (ad 3)) (C := RX2) (T := TX2) (N := 4) hx hb hts iX2_joinSleepers_X2 hown hK.1 hP 5 rfl rfl 0 (by decide) (hts (.fieldLink RX2 19 "Bumpherald$Herding" "raises" "LBumpherald$Raises;") (List.mem_of_getElem? (i := 1) rfl)) (fun _ h9 => h9) rfl dX2_joinSleepers_19 ?_
        refine va_get (D := D) (ci := 3) (v := .ref (ad 22)) (C := RX4) (T := TX4) (N := 12) hx hb hts iX2_joinSleepers_X4 hown hK.1 hP 3 rfl rfl 8 (by decide) (hts (.fieldLink RX2 32 "Bumpherald$Raises" "groups" "[I") (List.mem_of_getElem? (i := 4) rfl)) (fun _ h9 => h9) rfl dX2_joinSleepers_22 ?_
        refine lv_iload_n hx hb dX2_joinSleepers_25 rfl (lv_at hl 2 rfl) ?_
        refine r_iald (Wd := bW ad cI cZ) (k := 16) (n := 40) hx hb hK hP 22 rfl hE dX2_joinSleepers_26 (fun x14 hE => ?_)
        refine lv_iload_n hx hb dX2_joinSleepers_27 rfl (lv_at hl 2 rfl) ?_
        refine r_icmp_ne (tgt := 35) hx hb dX2_joinSleepers_28 (by decide) hE (fun c15 hE => ?_) (fun c15 hE => ?_)
        · refine lv_iconst (v := 1) hx hb dX2_joinSleepers_31 (by decide) ?_
          refine lv_goto (tgt := 36) hx hb dX2_joinSleepers_32 (by decide) ?_
          refine r_zast (Wd := bW ad cI cZ) (k := 19) (n := 40) hx hb hDD hK hP hS 25 rfl (bU19 ..) hE dX2_joinSleepers_36 (fun S16 H locs hE hP hS => ?_)
          refine lv_iinc (v := v2 + 1) (lv' := [(2, .int (v2 + 1)), (0, .ref (ad 5)), (1, .int v1)]) hx hb dX2_joinSleepers_37 hl (k := 2) rfl rfl (by decide) rfl (fun ls hl => ?_)
          refine lv_goto (tgt := 2) hx hb dX2_joinSleepers_40 (by decide) ?_
          exact ih2 v1 (v2 + 1) S16 hE _ _ _ hP hS (lv_sub hl [1, 2, 0] rfl)
        · refine lv_iconst (v := 0) hx hb dX2_joinSleepers_35 (by decide) ?_
          refine r_zast (Wd := bW ad cI cZ) (k := 19) (n := 40) hx hb hDD hK hP hS 25 rfl (bU19 ..) hE dX2_joinSleepers_36 (fun S17 H locs hE hP hS => ?_)
          refine lv_iinc (v := v2 + 1) (lv' := [(2, .int (v2 + 1)), (0, .ref (ad 5)), (1, .int v1)]) hx hb dX2_joinSleepers_37 hl (k := 2) rfl rfl (by decide) rfl (fun ls hl => ?_)
          refine lv_goto (tgt := 2) hx hb dX2_joinSleepers_40 (by decide) ?_
          exact ih2 v1 (v2 + 1) S17 hE _ _ _ hP hS (lv_sub hl [1, 2, 0] rfl)
  unfold f2_joinSleepers at hE
  refine lv_iconst (v := 0) hx hb dX2_joinSleepers_0 (by decide) ?_
  refine lv_istore_n (lv' := [(2, .int 0), (0, .ref (ad 5)), (1, .int v1)]) hx hb dX2_joinSleepers_1 rfl hl (by decide) rfl (fun ls hl => ?_)
  exact H2 2000 v1 0 S hE _ _ _ hP hS (lv_sub hl [1, 2, 0] rfl)
theorem iX2_part_X2 : ∀ w ∈ wsX20, w ∈ wsX2_part := fun w h => List.mem_cons_of_mem _ (List.mem_append_left _ (List.mem_append_left _ (List.mem_append_right _ h)))
theorem iX2_part_X4 : ∀ w ∈ wsX40, w ∈ wsX2_part := fun w h => List.mem_cons_of_mem _ (List.mem_append_left _ (List.mem_append_right _ h))
set_option maxHeartbeats 4000000 in
set_option maxRecDepth 100000 in
theorem kX2_part (l : Launch) (D : va_G) (ad : Nat → Nat) (cI cZ : ClassId) (hDD : ∀ S, va_D (bA ad) (bW ad cI cZ S)) (S : St) (v1 : Int32) : ∀ So, f2_part S v1 = some So → Met l yX2_part wsX2_part { frames := 3, cells := 0, slots := 0, locals := 73 } (va_Pc [.ref (ad 5), .int v1] (kPre D cI cZ (bW ad cI cZ S))) (kQv D cI cZ (bA ad) (bW ad cI cZ So)) 0 0 (bA ad) := by
  intro So hE
  refine kMet_of (by decide) rfl (Nat.le_of_ble_eq_true rfl) ?_
  intro p e s m args below meth c ls hx hb hr hml hown hlk hts hK hP hS hl
  have hl : lv_has ls 3 [(0, .ref (ad 5)), (1, .int v1)] := hl
  have hown : s.vm.findClass RX2 = some m.cls := hown
  have H2 : ∀ (n2 : Nat) (v1 : Int32) (v2 : Int32) (S : St), f2_part_L2  n2 v1 v2 S = some So → ∀ (H : Heap) (locs : List Loc) (ls : Array Slot), va_P D vwCl (bW ad cI cZ S) H → va_S (bA ad) s.heap H locs → lv_has ls 3 [(0, .ref (ad 5)), (1, .int v1), (2, .int v2)] → W p l e (headSpec wsX2_part { frames := 3, cells := 0, slots := 0, locals := 73 }).room s m args below meth c H locs 0 0 (MQ below (kQv D cI cZ (bA ad) (bW ad cI cZ So)) args s 0 0 (bA ad)) (F0 m 2 ls []) := by
    intro n2
    induction n2 with
    | zero => intro v1 v2 S hE; exact absurd (show (none : Option (St)) = some So from hE) (fun h => nomatch h)
    | succ n2 ih2 =>
      intro v1 v2 S hE H locs ls hP hS hl
      have hE : f2_part_L2b  (f2_part_L2 n2) v1 v2 S = some So := hE
      unfold f2_part_L2b at hE
      refine lv_iload_n hx hb dX2_part_2 rfl (lv_at hl 2 rfl) ?_
      refine lv_aload_n hx hb dX2_part_3 rfl (lv_at hl 0 rfl) ?_
      refine va_get (D := D) (ci := 1) (v := .ref (ad 3)) (C := RX2) (T := TX2) (N := 4) hx hb hts iX2_part_X2 hown hK.1 hP 5 rfl rfl 0 (by decide) (hts (.fieldLink RX2 19 "Bumpherald$Herding" "raises" "LBumpherald$Raises;") (List.mem_of_getElem? (i := 1) rfl)) (fun _ h9 => h9) rfl dX2_part_4 ?_
      refine va_get (D := D) (ci := 3) (v := .int (S.1 5)) (C := RX4) (T := TX4) (N := 12) hx hb hts iX2_part_X4 hown hK.1 hP 3 rfl rfl 11 (by decide) (hts (.fieldLink RX2 66 "Bumpherald$Raises" "openCount" "I") (List.mem_of_getElem? (i := 2) rfl)) (fun _ h9 => h9) rfl dX2_part_7 ?_
      refine r_icmp_ge (tgt := 59) hx hb dX2_part_10 (by decide) hE (fun c1 hE => ?_) (fun c1 hE => ?_)
      · refine lv_aload_n hx hb dX2_part_59 rfl (lv_at hl 0 rfl) ?_
        refine va_get (D := D) (ci := 1) (v := .ref (ad 4)) (C := RX2) (T := TX2) (N := 4) hx hb hts iX2_part_X2 hown hK.1 hP 5 rfl rfl 1 (by decide) (hts (.fieldLink RX2 23 "Bumpherald$Herding" "reviewers" "LBumpherald$Reviewers;") (List.mem_of_getElem? (i := 5) rfl)) (fun _ h9 => h9) rfl dX2_part_60 ?_
        refine lv_iload_n hx hb dX2_part_63 rfl (lv_at hl 1 rfl) ?_
        refine r_callVv (Wd := bW ad cI cZ) (C := RX5) [.int v1] [] ⟨hx, hb, hml, hown, hts⟩ (kX5_giveAnew l D ad cI cZ hDD S v1) (cwV 1 hts gX2_part_X5_giveAnew rfl rfl rfl (by decide +kernel) ⟨Nat.le_of_ble_eq_true rfl, Nat.le_of_ble_eq_true rfl⟩) (va_recv hK.1 hP (ci := 4) (q0 := 4) rfl rfl) hK hP hS (fun _ h9 => h9) rfl hl.1 rfl (Nat.le_of_ble_eq_true rfl) ⟨Nat.zero_le _, Nat.zero_le _⟩ hE dX2_part_64 (fun S3 H locs hE hP hS => ?_)
        exact k_vret (Wd := bW ad cI cZ) hx hb hr hlk hK hP hS hE dX2_part_67
      · refine lv_aload_n hx hb dX2_part_13 rfl (lv_at hl 0 rfl) ?_
        refine va_get (D := D) (ci := 1) (v := .ref (ad 3)) (C := RX2) (T := TX2) (N := 4) hx hb hts iX2_part_X2 hown hK.1 hP 5 rfl rfl 0 (by decide) (hts (.fieldLink RX2 19 "Bumpherald$Herding" "raises" "LBumpherald$Raises;") (List.mem_of_getElem? (i := 1) rfl)) (fun _ h9 => h9) rfl dX2_part_14 ?_
        refine lv_iload_n hx hb dX2_part_17 rfl (lv_at hl 2 rfl) ?_
        refine lv_iload_n hx hb dX2_part_18 rfl (lv_at hl 1 rfl) ?_
        refine r_callVi (Wd := bW ad cI cZ) (C := RX4) [.int v2, .int v1] [] ⟨hx, hb, hml, hown, hts⟩ (kX4_isIn l D ad cI cZ hDD S v2 v1) (cwV 2 hts gX2_part_X4_isIn rfl rfl rfl (by decide +kernel) ⟨Nat.le_of_ble_eq_true rfl, Nat.le_of_ble_eq_true rfl⟩) (va_recv hK.1 hP (ci := 3) (q0 := 3) rfl rfl) hK hP hS (fun _ h9 => h9) rfl hl.1 rfl (Nat.le_of_ble_eq_true rfl) ⟨Nat.zero_le _, Nat.zero_le _⟩ hE dX2_part_19 (fun S5 x4 H locs hE hP hS => ?_)
        refine r_if_eq (tgt := 53) hx hb dX2_part_22 (by decide) hE (fun c6 hE => ?_) (fun c6 hE => ?_)
        · refine lv_iinc (v := v2 + 1) (lv' := [(2, .int (v2 + 1)), (0, .ref (ad 5)), (1, .int v1)]) hx hb dX2_part_53 hl (k := 2) rfl rfl (by decide) rfl (fun ls hl => ?_)
          refine lv_goto (tgt := 2) hx hb dX2_part_56 (by decide) ?_
          exact ih2 v1 (v2 + 1) S5 hE _ _ _ hP hS (lv_sub hl [1, 2, 0] rfl)
        · refine lv_aload_n hx hb dX2_part_25 rfl (lv_at hl 0 rfl) ?_
          refine va_get (D := D) (ci := 1) (v := .ref (ad 3)) (C := RX2) (T := TX2) (N := 4) hx hb hts iX2_part_X2 hown hK.1 hP 5 rfl rfl 0 (by decide) (hts (.fieldLink RX2 19 "Bumpherald$Herding" "raises" "LBumpherald$Raises;") (List.mem_of_getElem? (i := 1) rfl)) (fun _ h9 => h9) rfl dX2_part_26 ?_
          refine lv_iconst (v := 1) hx hb dX2_part_29 (by decide) ?_
          refine lv_iload_n hx hb dX2_part_30 rfl (lv_at hl 2 rfl) ?_
          refine lv_ishl hx hb dX2_part_31 ?_
          refine r_callVv (Wd := bW ad cI cZ) (C := RX4) [.int (1 <<< (v2 &&& 31))] [] ⟨hx, hb, hml, hown, hts⟩ (kX4_group l D ad cI cZ hDD S5 (1 <<< (v2 &&& 31))) (cwV 1 hts gX2_part_X4_group rfl rfl rfl (by decide +kernel) ⟨Nat.le_of_ble_eq_true rfl, Nat.le_of_ble_eq_true rfl⟩) (va_recv hK.1 hP (ci := 3) (q0 := 3) rfl rfl) hK hP hS (fun _ h9 => h9) rfl hl.1 rfl (Nat.le_of_ble_eq_true rfl) ⟨Nat.zero_le _, Nat.zero_le _⟩ hE dX2_part_32 (fun S8 H locs hE hP hS => ?_)
          refine lv_aload_n hx hb dX2_part_35 rfl (lv_at hl 0 rfl) ?_
          refine va_get (D := D) (ci := 1) (v := .ref (ad 3)) (C := RX2) (T := TX2) (N := 4) hx hb hts iX2_part_X2 hown hK.1 hP 5 rfl rfl 0 (by decide) (hts (.fieldLink RX2 19 "Bumpherald$Herding" "raises" "LBumpherald$Raises;") (List.mem_of_getElem? (i := 1) rfl)) (fun _ h9 => h9) rfl dX2_part_36 ?_
          refine va_get (D := D) (ci := 3) (v := .ref (ad 21)) (C := RX4) (T := TX4) (N := 12) hx hb hts iX2_part_X4 hown hK.1 hP 3 rfl rfl 7 (by decide) (hts (.fieldLink RX2 72 "Bumpherald$Raises" "approved" "[Z") (List.mem_of_getElem? (i := 3) rfl)) (fun _ h9 => h9) rfl dX2_part_39 ?_
          refine lv_aload_n hx hb dX2_part_42 rfl (lv_at hl 0 rfl) ?_
          refine va_get (D := D) (ci := 1) (v := .ref (ad 3)) (C := RX2) (T := TX2) (N := 4) hx hb hts iX2_part_X2 hown hK.1 hP 5 rfl rfl 0 (by decide) (hts (.fieldLink RX2 19 "Bumpherald$Herding" "raises" "LBumpherald$Raises;") (List.mem_of_getElem? (i := 1) rfl)) (fun _ h9 => h9) rfl dX2_part_43 ?_
          refine va_get (D := D) (ci := 3) (v := .ref (ad 23)) (C := RX4) (T := TX4) (N := 12) hx hb hts iX2_part_X4 hown hK.1 hP 3 rfl rfl 9 (by decide) (hts (.fieldLink RX2 75 "Bumpherald$Raises" "open" "[I") (List.mem_of_getElem? (i := 4) rfl)) (fun _ h9 => h9) rfl dX2_part_46 ?_
          refine lv_iload_n hx hb dX2_part_49 rfl (lv_at hl 2 rfl) ?_
          refine r_iald (Wd := bW ad cI cZ) (k := 17) (n := 10) hx hb hK hP 23 rfl hE dX2_part_50 (fun x9 hE => ?_)
          refine lv_iconst (v := 0) hx hb dX2_part_51 (by decide) ?_
          refine r_zast (Wd := bW ad cI cZ) (k := 15) (n := 40) hx hb hDD hK hP hS 21 rfl (bU15 ..) hE dX2_part_52 (fun S10 H locs hE hP hS => ?_)
          refine lv_iinc (v := v2 + 1) (lv' := [(2, .int (v2 + 1)), (0, .ref (ad 5)), (1, .int v1)]) hx hb dX2_part_53 hl (k := 2) rfl rfl (by decide) rfl (fun ls hl => ?_)
          refine lv_goto (tgt := 2) hx hb dX2_part_56 (by decide) ?_
          exact ih2 v1 (v2 + 1) S10 hE _ _ _ hP hS (lv_sub hl [1, 2, 0] rfl)
  unfold f2_part at hE
  refine lv_iconst (v := 0) hx hb dX2_part_0 (by decide) ?_
  refine lv_istore_n (lv' := [(2, .int 0), (0, .ref (ad 5)), (1, .int v1)]) hx hb dX2_part_1 rfl hl (by decide) rfl (fun ls hl => ?_)
  exact H2 2000 v1 0 S hE _ _ _ hP hS (lv_sub hl [1, 2, 0] rfl)
theorem iX2_mateOf_X2 : ∀ w ∈ wsX20, w ∈ wsX2_mateOf := fun w h => List.mem_cons_of_mem _ (List.mem_append_left _ (List.mem_append_right _ h))
theorem iX2_mateOf_X4 : ∀ w ∈ wsX40, w ∈ wsX2_mateOf := fun w h => List.mem_cons_of_mem _ (List.mem_append_right _ h)
set_option maxHeartbeats 4000000 in
set_option maxRecDepth 100000 in
theorem kX2_mateOf (l : Launch) (D : va_G) (ad : Nat → Nat) (cI cZ : ClassId) (hDD : ∀ S, va_D (bA ad) (bW ad cI cZ S)) (S : St) (v1 : Int32) : ∀ So ro, f2_mateOf S v1 = some (So, ro) → Met l yX2_mateOf wsX2_mateOf { frames := 0, cells := 0, slots := 0, locals := 0 } (va_Pc [.ref (ad 5), .int v1] (kPre D cI cZ (bW ad cI cZ S))) (kQi D cI cZ (bA ad) (bW ad cI cZ So) ro) 0 0 (bA ad) := by
  intro So ro hE
  refine kMet_of (by decide) rfl (Nat.le_of_ble_eq_true rfl) ?_
  intro p e s m args below meth c ls hx hb hr hml hown hlk hts hK hP hS hl
  have hl : lv_has ls 4 [(0, .ref (ad 5)), (1, .int v1)] := hl
  have hown : s.vm.findClass RX2 = some m.cls := hown
  have H2 : ∀ (n2 : Nat) (v1 : Int32) (v2 : Int32) (S : St), f2_mateOf_L2  n2 v1 v2 S = some (So, ro) → ∀ (H : Heap) (locs : List Loc) (ls : Array Slot), va_P D vwCl (bW ad cI cZ S) H → va_S (bA ad) s.heap H locs → lv_has ls 4 [(0, .ref (ad 5)), (1, .int v1), (2, .int v2)] → W p l e (headSpec wsX2_mateOf { frames := 0, cells := 0, slots := 0, locals := 0 }).room s m args below meth c H locs 0 0 (MQ below (kQi D cI cZ (bA ad) (bW ad cI cZ So) ro) args s 0 0 (bA ad)) (F0 m 2 ls []) := by
    intro n2
    induction n2 with
    | zero => intro v1 v2 S hE; exact absurd (show (none : Option (St × Int32)) = some (So, ro) from hE) (fun h => nomatch h)
    | succ n2 ih2 =>
      intro v1 v2 S hE H locs ls hP hS hl
      have hE : f2_mateOf_L2b  (f2_mateOf_L2 n2) v1 v2 S = some (So, ro) := hE
      unfold f2_mateOf_L2b at hE
      refine lv_iload_n hx hb dX2_mateOf_2 rfl (lv_at hl 2 rfl) ?_
      refine lv_aload_n hx hb dX2_mateOf_3 rfl (lv_at hl 0 rfl) ?_
      refine va_get (D := D) (ci := 1) (v := .ref (ad 3)) (C := RX2) (T := TX2) (N := 4) hx hb hts iX2_mateOf_X2 hown hK.1 hP 5 rfl rfl 0 (by decide) (hts (.fieldLink RX2 19 "Bumpherald$Herding" "raises" "LBumpherald$Raises;") (List.mem_of_getElem? (i := 1) rfl)) (fun _ h9 => h9) rfl dX2_mateOf_4 ?_
      refine va_get (D := D) (ci := 3) (v := .int (S.1 5)) (C := RX4) (T := TX4) (N := 12) hx hb hts iX2_mateOf_X4 hown hK.1 hP 3 rfl rfl 11 (by decide) (hts (.fieldLink RX2 66 "Bumpherald$Raises" "openCount" "I") (List.mem_of_getElem? (i := 2) rfl)) (fun _ h9 => h9) rfl dX2_mateOf_7 ?_
      refine r_icmp_ge (tgt := 57) hx hb dX2_mateOf_10 (by decide) hE (fun c1 hE => ?_) (fun c1 hE => ?_)
      · refine lv_iconst (v := -1) hx hb dX2_mateOf_57 (by decide) ?_
        exact k_iret (Wd := bW ad cI cZ) hx hb hr hlk hK hP hS hE dX2_mateOf_58
      · refine lv_aload_n hx hb dX2_mateOf_13 rfl (lv_at hl 0 rfl) ?_
        refine va_get (D := D) (ci := 1) (v := .ref (ad 3)) (C := RX2) (T := TX2) (N := 4) hx hb hts iX2_mateOf_X2 hown hK.1 hP 5 rfl rfl 0 (by decide) (hts (.fieldLink RX2 19 "Bumpherald$Herding" "raises" "LBumpherald$Raises;") (List.mem_of_getElem? (i := 1) rfl)) (fun _ h9 => h9) rfl dX2_mateOf_14 ?_
        refine va_get (D := D) (ci := 3) (v := .ref (ad 23)) (C := RX4) (T := TX4) (N := 12) hx hb hts iX2_mateOf_X4 hown hK.1 hP 3 rfl rfl 9 (by decide) (hts (.fieldLink RX2 75 "Bumpherald$Raises" "open" "[I") (List.mem_of_getElem? (i := 3) rfl)) (fun _ h9 => h9) rfl dX2_mateOf_17 ?_
        refine lv_iload_n hx hb dX2_mateOf_20 rfl (lv_at hl 2 rfl) ?_
        refine r_iald (Wd := bW ad cI cZ) (k := 17) (n := 10) hx hb hK hP 23 rfl hE dX2_mateOf_21 (fun x2 hE => ?_)
        refine lv_istore_n (lv' := [(3, .int x2), (0, .ref (ad 5)), (1, .int v1), (2, .int v2)]) hx hb dX2_mateOf_22 rfl hl (by decide) rfl (fun ls hl => ?_)
        refine lv_iload_n hx hb dX2_mateOf_23 rfl (lv_at hl 0 rfl) ?_
        refine lv_iload_n hx hb dX2_mateOf_24 rfl (lv_at hl 2 rfl) ?_
        refine r_icmp_eq (tgt := 51) hx hb dX2_mateOf_25 (by decide) hE (fun c3 hE => ?_) (fun c3 hE => ?_)
        · refine lv_iinc (v := v2 + 1) (lv' := [(2, .int (v2 + 1)), (3, .int x2), (0, .ref (ad 5)), (1, .int v1)]) hx hb dX2_mateOf_51 hl (k := 3) rfl rfl (by decide) rfl (fun ls hl => ?_)
          refine lv_goto (tgt := 2) hx hb dX2_mateOf_54 (by decide) ?_
          exact ih2 v1 (v2 + 1) S hE _ _ _ hP hS (lv_sub hl [2, 3, 0] rfl)
        · refine lv_aload_n hx hb dX2_mateOf_28 rfl (lv_at hl 1 rfl) ?_
          refine va_get (D := D) (ci := 1) (v := .ref (ad 3)) (C := RX2) (T := TX2) (N := 4) hx hb hts iX2_mateOf_X2 hown hK.1 hP 5 rfl rfl 0 (by decide) (hts (.fieldLink RX2 19 "Bumpherald$Herding" "raises" "LBumpherald$Raises;") (List.mem_of_getElem? (i := 1) rfl)) (fun _ h9 => h9) rfl dX2_mateOf_29 ?_
          refine va_get (D := D) (ci := 3) (v := .ref (ad 22)) (C := RX4) (T := TX4) (N := 12) hx hb hts iX2_mateOf_X4 hown hK.1 hP 3 rfl rfl 8 (by decide) (hts (.fieldLink RX2 32 "Bumpherald$Raises" "groups" "[I") (List.mem_of_getElem? (i := 4) rfl)) (fun _ h9 => h9) rfl dX2_mateOf_32 ?_
          refine lv_iload_n hx hb dX2_mateOf_35 rfl (lv_at hl 0 rfl) ?_
          refine r_iald (Wd := bW ad cI cZ) (k := 16) (n := 40) hx hb hK hP 22 rfl hE dX2_mateOf_36 (fun x4 hE => ?_)
          refine lv_aload_n hx hb dX2_mateOf_37 rfl (lv_at hl 1 rfl) ?_
          refine va_get (D := D) (ci := 1) (v := .ref (ad 3)) (C := RX2) (T := TX2) (N := 4) hx hb hts iX2_mateOf_X2 hown hK.1 hP 5 rfl rfl 0 (by decide) (hts (.fieldLink RX2 19 "Bumpherald$Herding" "raises" "LBumpherald$Raises;") (List.mem_of_getElem? (i := 1) rfl)) (fun _ h9 => h9) rfl dX2_mateOf_38 ?_
          refine va_get (D := D) (ci := 3) (v := .ref (ad 22)) (C := RX4) (T := TX4) (N := 12) hx hb hts iX2_mateOf_X4 hown hK.1 hP 3 rfl rfl 8 (by decide) (hts (.fieldLink RX2 32 "Bumpherald$Raises" "groups" "[I") (List.mem_of_getElem? (i := 4) rfl)) (fun _ h9 => h9) rfl dX2_mateOf_41 ?_
          refine lv_iload_n hx hb dX2_mateOf_44 rfl (lv_at hl 2 rfl) ?_
          refine r_iald (Wd := bW ad cI cZ) (k := 16) (n := 40) hx hb hK hP 22 rfl hE dX2_mateOf_45 (fun x5 hE => ?_)
          refine r_icmp_ne (tgt := 51) hx hb dX2_mateOf_46 (by decide) hE (fun c6 hE => ?_) (fun c6 hE => ?_)
          · refine lv_iload_n hx hb dX2_mateOf_49 rfl (lv_at hl 0 rfl) ?_
            exact k_iret (Wd := bW ad cI cZ) hx hb hr hlk hK hP hS hE dX2_mateOf_50
          · refine lv_iinc (v := v2 + 1) (lv' := [(2, .int (v2 + 1)), (3, .int x2), (0, .ref (ad 5)), (1, .int v1)]) hx hb dX2_mateOf_51 hl (k := 3) rfl rfl (by decide) rfl (fun ls hl => ?_)
            refine lv_goto (tgt := 2) hx hb dX2_mateOf_54 (by decide) ?_
            exact ih2 v1 (v2 + 1) S hE _ _ _ hP hS (lv_sub hl [2, 3, 0] rfl)
  unfold f2_mateOf at hE
  refine lv_iconst (v := 0) hx hb dX2_mateOf_0 (by decide) ?_
  refine lv_istore_n (lv' := [(2, .int 0), (0, .ref (ad 5)), (1, .int v1)]) hx hb dX2_mateOf_1 rfl hl (by decide) rfl (fun ls hl => ?_)
  exact H2 2000 v1 0 S hE _ _ _ hP hS (lv_sub hl [1, 2, 0] rfl)
theorem iX4_bitOf_X4 : ∀ w ∈ wsX40, w ∈ wsX4_bitOf := fun w h => List.mem_cons_of_mem _ (List.mem_append_right _ h)
set_option maxHeartbeats 4000000 in
set_option maxRecDepth 100000 in
theorem kX4_bitOf (l : Launch) (D : va_G) (ad : Nat → Nat) (cI cZ : ClassId) (hDD : ∀ S, va_D (bA ad) (bW ad cI cZ S)) (S : St) (v1 : Int32) : ∀ So ro, f4_bitOf S v1 = some (So, ro) → Met l yX4_bitOf wsX4_bitOf { frames := 0, cells := 0, slots := 0, locals := 0 } (va_Pc [.ref (ad 3), .int v1] (kPre D cI cZ (bW ad cI cZ S))) (kQi D cI cZ (bA ad) (bW ad cI cZ So) ro) 0 0 (bA ad) := by
  intro So ro hE
  refine kMet_of (by decide) rfl (Nat.le_of_ble_eq_true rfl) ?_
  intro p e s m args below meth c ls hx hb hr hml hown hlk hts hK hP hS hl
  have hl : lv_has ls 3 [(0, .ref (ad 3)), (1, .int v1)] := hl
  have hown : s.vm.findClass RX4 = some m.cls := hown
  have H2 : ∀ (n2 : Nat) (v1 : Int32) (v2 : Int32) (S : St), f4_bitOf_L2  n2 v1 v2 S = some (So, ro) → ∀ (H : Heap) (locs : List Loc) (ls : Array Slot), va_P D vwCl (bW ad cI cZ S) H → va_S (bA ad) s.heap H locs → lv_has ls 3 [(0, .ref (ad 3)), (1, .int v1), (2, .int v2)] → W p l e (headSpec wsX4_bitOf { frames := 0, cells := 0, slots := 0, locals := 0 }).room s m args below meth c H locs 0 0 (MQ below (kQi D cI cZ (bA ad) (bW ad cI cZ So) ro) args s 0 0 (bA ad)) (F0 m 2 ls []) := by
    intro n2
    induction n2 with
    | zero => intro v1 v2 S hE; exact absurd (show (none : Option (St × Int32)) = some (So, ro) from hE) (fun h => nomatch h)
    | succ n2 ih2 =>
      intro v1 v2 S hE H locs ls hP hS hl
      have hE : f4_bitOf_L2b  (f4_bitOf_L2 n2) v1 v2 S = some (So, ro) := hE
      unfold f4_bitOf_L2b at hE
      refine lv_iload_n hx hb dX4_bitOf_2 rfl (lv_at hl 2 rfl) ?_
      refine lv_aload_n hx hb dX4_bitOf_3 rfl (lv_at hl 0 rfl) ?_
      refine va_get (D := D) (ci := 3) (v := .int (S.1 5)) (C := RX4) (T := TX4) (N := 12) hx hb hts iX4_bitOf_X4 hown hK.1 hP 3 rfl rfl 11 (by decide) (hts (.fieldLink RX4 44 "Bumpherald$Raises" "openCount" "I") (List.mem_of_getElem? (i := 1) rfl)) (fun _ h9 => h9) rfl dX4_bitOf_4 ?_
      refine r_icmp_ge (tgt := 30) hx hb dX4_bitOf_7 (by decide) hE (fun c1 hE => ?_) (fun c1 hE => ?_)
      · refine lv_iconst (v := 0) hx hb dX4_bitOf_30 (by decide) ?_
        exact k_iret (Wd := bW ad cI cZ) hx hb hr hlk hK hP hS hE dX4_bitOf_31
      · refine lv_aload_n hx hb dX4_bitOf_10 rfl (lv_at hl 0 rfl) ?_
        refine va_get (D := D) (ci := 3) (v := .ref (ad 23)) (C := RX4) (T := TX4) (N := 12) hx hb hts iX4_bitOf_X4 hown hK.1 hP 3 rfl rfl 9 (by decide) (hts (.fieldLink RX4 37 "Bumpherald$Raises" "open" "[I") (List.mem_of_getElem? (i := 2) rfl)) (fun _ h9 => h9) rfl dX4_bitOf_11 ?_
        refine lv_iload_n hx hb dX4_bitOf_14 rfl (lv_at hl 2 rfl) ?_
        refine r_iald (Wd := bW ad cI cZ) (k := 17) (n := 10) hx hb hK hP 23 rfl hE dX4_bitOf_15 (fun x2 hE => ?_)
        refine lv_iload_n hx hb dX4_bitOf_16 rfl (lv_at hl 1 rfl) ?_
        refine r_icmp_ne (tgt := 24) hx hb dX4_bitOf_17 (by decide) hE (fun c3 hE => ?_) (fun c3 hE => ?_)
        · refine lv_iconst (v := 1) hx hb dX4_bitOf_20 (by decide) ?_
          refine lv_iload_n hx hb dX4_bitOf_21 rfl (lv_at hl 2 rfl) ?_
          refine lv_ishl hx hb dX4_bitOf_22 ?_
          exact k_iret (Wd := bW ad cI cZ) hx hb hr hlk hK hP hS hE dX4_bitOf_23
        · refine lv_iinc (v := v2 + 1) (lv' := [(2, .int (v2 + 1)), (0, .ref (ad 3)), (1, .int v1)]) hx hb dX4_bitOf_24 hl (k := 2) rfl rfl (by decide) rfl (fun ls hl => ?_)
          refine lv_goto (tgt := 2) hx hb dX4_bitOf_27 (by decide) ?_
          exact ih2 v1 (v2 + 1) S hE _ _ _ hP hS (lv_sub hl [1, 2, 0] rfl)
  unfold f4_bitOf at hE
  refine lv_iconst (v := 0) hx hb dX4_bitOf_0 (by decide) ?_
  refine lv_istore_n (lv' := [(2, .int 0), (0, .ref (ad 3)), (1, .int v1)]) hx hb dX4_bitOf_1 rfl hl (by decide) rfl (fun ls hl => ?_)
  exact H2 2000 v1 0 S hE _ _ _ hP hS (lv_sub hl [1, 2, 0] rfl)
theorem iX4_listOpen_X4 : ∀ w ∈ wsX40, w ∈ wsX4_listOpen := fun w h => List.mem_cons_of_mem _ (List.mem_append_right _ h)
set_option maxHeartbeats 4000000 in
set_option maxRecDepth 100000 in
theorem kX4_listOpen (l : Launch) (D : va_G) (ad : Nat → Nat) (cI cZ : ClassId) (hDD : ∀ S, va_D (bA ad) (bW ad cI cZ S)) (S : St) : ∀ So, f4_listOpen S  = some So → Met l yX4_listOpen wsX4_listOpen { frames := 0, cells := 0, slots := 0, locals := 0 } (va_Pc [.ref (ad 3)] (kPre D cI cZ (bW ad cI cZ S))) (kQv D cI cZ (bA ad) (bW ad cI cZ So)) 0 0 (bA ad) := by
  intro So hE
  refine kMet_of (by decide) rfl (Nat.le_of_ble_eq_true rfl) ?_
  intro p e s m args below meth c ls hx hb hr hml hown hlk hts hK hP hS hl
  have hl : lv_has ls 2 [(0, .ref (ad 3))] := hl
  have hown : s.vm.findClass RX4 = some m.cls := hown
  have H7 : ∀ (n7 : Nat) (v1 : Int32) (S : St), f4_listOpen_L7  n7 v1 S = some So → ∀ (H : Heap) (locs : List Loc) (ls : Array Slot), va_P D vwCl (bW ad cI cZ S) H → va_S (bA ad) s.heap H locs → lv_has ls 2 [(0, .ref (ad 3)), (1, .int v1)] → W p l e (headSpec wsX4_listOpen { frames := 0, cells := 0, slots := 0, locals := 0 }).room s m args below meth c H locs 0 0 (MQ below (kQv D cI cZ (bA ad) (bW ad cI cZ So)) args s 0 0 (bA ad)) (F0 m 7 ls []) := by
    intro n7
    induction n7 with
    | zero => intro v1 S hE; exact absurd (show (none : Option (St)) = some So from hE) (fun h => nomatch h)
    | succ n7 ih7 =>
      intro v1 S hE H locs ls hP hS hl
      have hE : f4_listOpen_L7b  (f4_listOpen_L7 n7) v1 S = some So := hE
      unfold f4_listOpen_L7b at hE
      refine lv_iload_n hx hb dX4_listOpen_7 rfl (lv_at hl 1 rfl) ?_
      refine lv_aload_n hx hb dX4_listOpen_8 rfl (lv_at hl 0 rfl) ?_
      refine va_get (D := D) (ci := 3) (v := .int (S.1 4)) (C := RX4) (T := TX4) (N := 12) hx hb hts iX4_listOpen_X4 hown hK.1 hP 3 rfl rfl 10 (by decide) (hts (.fieldLink RX4 40 "Bumpherald$Raises" "count" "I") (List.mem_of_getElem? (i := 2) rfl)) (fun _ h9 => h9) rfl dX4_listOpen_9 ?_
      refine r_icmp_ge (tgt := 59) hx hb dX4_listOpen_12 (by decide) hE (fun c1 hE => ?_) (fun c1 hE => ?_)
      · exact k_vret (Wd := bW ad cI cZ) hx hb hr hlk hK hP hS hE dX4_listOpen_59
      · refine lv_aload_n hx hb dX4_listOpen_15 rfl (lv_at hl 0 rfl) ?_
        refine va_get (D := D) (ci := 3) (v := .ref (ad 19)) (C := RX4) (T := TX4) (N := 12) hx hb hts iX4_listOpen_X4 hown hK.1 hP 3 rfl rfl 5 (by decide) (hts (.fieldLink RX4 24 "Bumpherald$Raises" "states" "[I") (List.mem_of_getElem? (i := 3) rfl)) (fun _ h9 => h9) rfl dX4_listOpen_16 ?_
        refine lv_iload_n hx hb dX4_listOpen_19 rfl (lv_at hl 1 rfl) ?_
        refine r_iald (Wd := bW ad cI cZ) (k := 13) (n := 40) hx hb hK hP 19 rfl hE dX4_listOpen_20 (fun x2 hE => ?_)
        refine r_if_ne (tgt := 53) hx hb dX4_listOpen_21 (by decide) hE (fun c3 hE => ?_) (fun c3 hE => ?_)
        · refine lv_aload_n hx hb dX4_listOpen_24 rfl (lv_at hl 0 rfl) ?_
          refine va_get (D := D) (ci := 3) (v := .int (S.1 5)) (C := RX4) (T := TX4) (N := 12) hx hb hts iX4_listOpen_X4 hown hK.1 hP 3 rfl rfl 11 (by decide) (hts (.fieldLink RX4 44 "Bumpherald$Raises" "openCount" "I") (List.mem_of_getElem? (i := 1) rfl)) (fun _ h9 => h9) rfl dX4_listOpen_25 ?_
          refine lv_bipush (v := 10) hx hb dX4_listOpen_28 (by decide) ?_
          refine r_icmp_ge (tgt := 53) hx hb dX4_listOpen_30 (by decide) hE (fun c4 hE => ?_) (fun c4 hE => ?_)
          · refine lv_iinc (v := v1 + 1) (lv' := [(1, .int (v1 + 1)), (0, .ref (ad 3))]) hx hb dX4_listOpen_53 hl (k := 1) rfl rfl (by decide) rfl (fun ls hl => ?_)
            refine lv_goto (tgt := 7) hx hb dX4_listOpen_56 (by decide) ?_
            exact ih7 (v1 + 1) S hE _ _ _ hP hS (lv_sub hl [1, 0] rfl)
          · refine lv_aload_n hx hb dX4_listOpen_33 rfl (lv_at hl 0 rfl) ?_
            refine va_get (D := D) (ci := 3) (v := .ref (ad 23)) (C := RX4) (T := TX4) (N := 12) hx hb hts iX4_listOpen_X4 hown hK.1 hP 3 rfl rfl 9 (by decide) (hts (.fieldLink RX4 37 "Bumpherald$Raises" "open" "[I") (List.mem_of_getElem? (i := 4) rfl)) (fun _ h9 => h9) rfl dX4_listOpen_34 ?_
            refine lv_aload_n hx hb dX4_listOpen_37 rfl (lv_at hl 0 rfl) ?_
            refine va_get (D := D) (ci := 3) (v := .int (S.1 5)) (C := RX4) (T := TX4) (N := 12) hx hb hts iX4_listOpen_X4 hown hK.1 hP 3 rfl rfl 11 (by decide) (hts (.fieldLink RX4 44 "Bumpherald$Raises" "openCount" "I") (List.mem_of_getElem? (i := 1) rfl)) (fun _ h9 => h9) rfl dX4_listOpen_38 ?_
            refine lv_iload_n hx hb dX4_listOpen_41 rfl (lv_at hl 1 rfl) ?_
            refine r_iast (Wd := bW ad cI cZ) (k := 17) (n := 10) hx hb hDD hK hP hS 23 rfl (bU17 ..) hE dX4_listOpen_42 (fun S5 H locs hE hP hS => ?_)
            refine lv_aload_n hx hb dX4_listOpen_43 rfl (lv_at hl 0 rfl) ?_
            refine lv_dup hx hb dX4_listOpen_44 rfl ?_
            refine va_get (D := D) (ci := 3) (v := .int (S5.1 5)) (C := RX4) (T := TX4) (N := 12) hx hb hts iX4_listOpen_X4 hown hK.1 hP 3 rfl rfl 11 (by decide) (hts (.fieldLink RX4 44 "Bumpherald$Raises" "openCount" "I") (List.mem_of_getElem? (i := 1) rfl)) (fun _ h9 => h9) rfl dX4_listOpen_45 ?_
            refine lv_iconst (v := 1) hx hb dX4_listOpen_48 (by decide) ?_
            refine lv_iadd hx hb dX4_listOpen_49 ?_
            refine r_puti (Wd := bW ad cI cZ) (ci := 3) (C := RX4) (T := TX4) (N := 12) (kf := 5) hx hb hts iX4_listOpen_X4 tyX4 tyX4_ok nmX4 hown hDD hK hP hS 3 rfl rfl 11 (by decide) (hts (.fieldLink RX4 44 "Bumpherald$Raises" "openCount" "I") (List.mem_of_getElem? (i := 1) rfl)) rfl rfl (by decide +kernel) (Nat.le_of_ble_eq_true rfl) rfl hE dX4_listOpen_50 (fun S6 H locs hE hP hS => ?_)
            refine lv_iinc (v := v1 + 1) (lv' := [(1, .int (v1 + 1)), (0, .ref (ad 3))]) hx hb dX4_listOpen_53 hl (k := 1) rfl rfl (by decide) rfl (fun ls hl => ?_)
            refine lv_goto (tgt := 7) hx hb dX4_listOpen_56 (by decide) ?_
            exact ih7 (v1 + 1) S6 hE _ _ _ hP hS (lv_sub hl [1, 0] rfl)
        · refine lv_iinc (v := v1 + 1) (lv' := [(1, .int (v1 + 1)), (0, .ref (ad 3))]) hx hb dX4_listOpen_53 hl (k := 1) rfl rfl (by decide) rfl (fun ls hl => ?_)
          refine lv_goto (tgt := 7) hx hb dX4_listOpen_56 (by decide) ?_
          exact ih7 (v1 + 1) S hE _ _ _ hP hS (lv_sub hl [1, 0] rfl)
  unfold f4_listOpen at hE
  refine lv_aload_n hx hb dX4_listOpen_0 rfl (lv_at hl 0 rfl) ?_
  refine lv_iconst (v := 0) hx hb dX4_listOpen_1 (by decide) ?_
  refine r_puti (Wd := bW ad cI cZ) (ci := 3) (C := RX4) (T := TX4) (N := 12) (kf := 5) hx hb hts iX4_listOpen_X4 tyX4 tyX4_ok nmX4 hown hDD hK hP hS 3 rfl rfl 11 (by decide) (hts (.fieldLink RX4 44 "Bumpherald$Raises" "openCount" "I") (List.mem_of_getElem? (i := 1) rfl)) rfl rfl (by decide +kernel) (Nat.le_of_ble_eq_true rfl) rfl hE dX4_listOpen_2 (fun S7 H locs hE hP hS => ?_)
  refine lv_iconst (v := 0) hx hb dX4_listOpen_5 (by decide) ?_
  refine lv_istore_n (lv' := [(1, .int 0), (0, .ref (ad 3))]) hx hb dX4_listOpen_6 rfl hl (by decide) rfl (fun ls hl => ?_)
  exact H7 2000 0 S7 hE _ _ _ hP hS (lv_sub hl [1, 0] rfl)
theorem iX4_end_X4 : ∀ w ∈ wsX40, w ∈ wsX4_end := fun w h => List.mem_cons_of_mem _ (List.mem_append_right _ h)
set_option maxHeartbeats 4000000 in
set_option maxRecDepth 100000 in
theorem kX4_end (l : Launch) (D : va_G) (ad : Nat → Nat) (cI cZ : ClassId) (hDD : ∀ S, va_D (bA ad) (bW ad cI cZ S)) (S : St) (v1 : Int32) (v2 : Int32) : ∀ So, f4_end S v1 v2 = some So → Met l yX4_end wsX4_end { frames := 1, cells := 0, slots := 0, locals := 21 } (va_Pc [.ref (ad 3), .int v1, .int v2] (kPre D cI cZ (bW ad cI cZ S))) (kQv D cI cZ (bA ad) (bW ad cI cZ So)) 0 0 (bA ad) := by
  intro So hE
  refine kMet_of (by decide) rfl (Nat.le_of_ble_eq_true rfl) ?_
  intro p e s m args below meth c ls hx hb hr hml hown hlk hts hK hP hS hl
  have hl : lv_has ls 3 [(0, .ref (ad 3)), (1, .int v1), (2, .int v2)] := hl
  have hown : s.vm.findClass RX4 = some m.cls := hown
  unfold f4_end at hE
  refine lv_aload_n hx hb dX4_end_0 rfl (lv_at hl 0 rfl) ?_
  refine va_get (D := D) (ci := 3) (v := .ref (ad 19)) (C := RX4) (T := TX4) (N := 12) hx hb hts iX4_end_X4 hown hK.1 hP 3 rfl rfl 5 (by decide) (hts (.fieldLink RX4 24 "Bumpherald$Raises" "states" "[I") (List.mem_of_getElem? (i := 1) rfl)) (fun _ h9 => h9) rfl dX4_end_1 ?_
  refine lv_iload_n hx hb dX4_end_4 rfl (lv_at hl 1 rfl) ?_
  refine lv_iload_n hx hb dX4_end_5 rfl (lv_at hl 2 rfl) ?_
  refine r_iast (Wd := bW ad cI cZ) (k := 13) (n := 40) hx hb hDD hK hP hS 19 rfl (bU13 ..) hE dX4_end_6 (fun S1 H locs hE hP hS => ?_)
  refine lv_aload_n hx hb dX4_end_7 rfl (lv_at hl 0 rfl) ?_
  refine va_get (D := D) (ci := 3) (v := .ref (ad 22)) (C := RX4) (T := TX4) (N := 12) hx hb hts iX4_end_X4 hown hK.1 hP 3 rfl rfl 8 (by decide) (hts (.fieldLink RX4 34 "Bumpherald$Raises" "groups" "[I") (List.mem_of_getElem? (i := 2) rfl)) (fun _ h9 => h9) rfl dX4_end_8 ?_
  refine lv_iload_n hx hb dX4_end_11 rfl (lv_at hl 1 rfl) ?_
  refine lv_iconst (v := -1) hx hb dX4_end_12 (by decide) ?_
  refine r_iast (Wd := bW ad cI cZ) (k := 16) (n := 40) hx hb hDD hK hP hS 22 rfl (bU16 ..) hE dX4_end_13 (fun S2 H locs hE hP hS => ?_)
  refine lv_aload_n hx hb dX4_end_14 rfl (lv_at hl 0 rfl) ?_
  refine r_callVv (Wd := bW ad cI cZ) (C := RX4) [] [] ⟨hx, hb, hml, hown, hts⟩ (kX4_listOpen l D ad cI cZ hDD S2) (cwV 0 hts gX4_end_X4_listOpen rfl rfl rfl (by decide +kernel) ⟨Nat.le_of_ble_eq_true rfl, Nat.le_of_ble_eq_true rfl⟩) (va_recv hK.1 hP (ci := 3) (q0 := 3) rfl rfl) hK hP hS (fun _ h9 => h9) rfl hl.1 rfl (Nat.le_of_ble_eq_true rfl) ⟨Nat.zero_le _, Nat.zero_le _⟩ hE dX4_end_15 (fun S4 H locs hE hP hS => ?_)
  exact k_vret (Wd := bW ad cI cZ) hx hb hr hlk hK hP hS hE dX4_end_18
theorem iX2_leave_X2 : ∀ w ∈ wsX20, w ∈ wsX2_leave := fun w h => List.mem_cons_of_mem _ (List.mem_append_left _ (List.mem_append_left _ (List.mem_append_right _ h)))
set_option maxHeartbeats 4000000 in
set_option maxRecDepth 100000 in
theorem kX2_leave (l : Launch) (D : va_G) (ad : Nat → Nat) (cI cZ : ClassId) (hDD : ∀ S, va_D (bA ad) (bW ad cI cZ S)) (S : St) (v1 : Int32) : ∀ So, f2_leave S v1 = some So → Met l yX2_leave wsX2_leave { frames := 3, cells := 0, slots := 0, locals := 73 } (va_Pc [.ref (ad 5), .int v1] (kPre D cI cZ (bW ad cI cZ S))) (kQv D cI cZ (bA ad) (bW ad cI cZ So)) 0 0 (bA ad) := by
  intro So hE
  refine kMet_of (by decide) rfl (Nat.le_of_ble_eq_true rfl) ?_
  intro p e s m args below meth c ls hx hb hr hml hown hlk hts hK hP hS hl
  have hl : lv_has ls 3 [(0, .ref (ad 5)), (1, .int v1)] := hl
  have hown : s.vm.findClass RX2 = some m.cls := hown
  unfold f2_leave at hE
  refine lv_aload_n hx hb dX2_leave_0 rfl (lv_at hl 0 rfl) ?_
  refine lv_iload_n hx hb dX2_leave_1 rfl (lv_at hl 1 rfl) ?_
  refine r_callVi (Wd := bW ad cI cZ) (C := RX2) [.int v1] [] ⟨hx, hb, hml, hown, hts⟩ (kX2_mateOf l D ad cI cZ hDD S v1) (cwV 1 hts gX2_leave_X2_mateOf rfl rfl rfl (by decide +kernel) ⟨Nat.le_of_ble_eq_true rfl, Nat.le_of_ble_eq_true rfl⟩) (va_recv hK.1 hP (ci := 1) (q0 := 5) rfl rfl) hK hP hS (fun _ h9 => h9) rfl hl.1 rfl (Nat.le_of_ble_eq_true rfl) ⟨Nat.zero_le _, Nat.zero_le _⟩ hE dX2_leave_2 (fun S2 x1 H locs hE hP hS => ?_)
  refine lv_istore_n (lv' := [(2, .int x1), (0, .ref (ad 5)), (1, .int v1)]) hx hb dX2_leave_5 rfl hl (by decide) rfl (fun ls hl => ?_)
  refine lv_aload_n hx hb dX2_leave_6 rfl (lv_at hl 1 rfl) ?_
  refine va_get (D := D) (ci := 1) (v := .ref (ad 3)) (C := RX2) (T := TX2) (N := 4) hx hb hts iX2_leave_X2 hown hK.1 hP 5 rfl rfl 0 (by decide) (hts (.fieldLink RX2 19 "Bumpherald$Herding" "raises" "LBumpherald$Raises;") (List.mem_of_getElem? (i := 1) rfl)) (fun _ h9 => h9) rfl dX2_leave_7 ?_
  refine lv_aload_n hx hb dX2_leave_10 rfl (lv_at hl 1 rfl) ?_
  refine va_get (D := D) (ci := 1) (v := .ref (ad 3)) (C := RX2) (T := TX2) (N := 4) hx hb hts iX2_leave_X2 hown hK.1 hP 5 rfl rfl 0 (by decide) (hts (.fieldLink RX2 19 "Bumpherald$Herding" "raises" "LBumpherald$Raises;") (List.mem_of_getElem? (i := 1) rfl)) (fun _ h9 => h9) rfl dX2_leave_11 ?_
  refine lv_iload_n hx hb dX2_leave_14 rfl (lv_at hl 2 rfl) ?_
  refine r_callVi (Wd := bW ad cI cZ) (C := RX4) [.int v1] [.ref (ad 3)] ⟨hx, hb, hml, hown, hts⟩ (kX4_groupOf l D ad cI cZ hDD S2 v1) (cwV 1 hts gX2_leave_X4_groupOf rfl rfl rfl (by decide +kernel) ⟨Nat.le_of_ble_eq_true rfl, Nat.le_of_ble_eq_true rfl⟩) (va_recv hK.1 hP (ci := 3) (q0 := 3) rfl rfl) hK hP hS (fun _ h9 => h9) rfl hl.1 rfl (Nat.le_of_ble_eq_true rfl) ⟨Nat.zero_le _, Nat.zero_le _⟩ hE dX2_leave_15 (fun S4 x3 H locs hE hP hS => ?_)
  refine lv_aload_n hx hb dX2_leave_18 rfl (lv_at hl 1 rfl) ?_
  refine va_get (D := D) (ci := 1) (v := .ref (ad 3)) (C := RX2) (T := TX2) (N := 4) hx hb hts iX2_leave_X2 hown hK.1 hP 5 rfl rfl 0 (by decide) (hts (.fieldLink RX2 19 "Bumpherald$Herding" "raises" "LBumpherald$Raises;") (List.mem_of_getElem? (i := 1) rfl)) (fun _ h9 => h9) rfl dX2_leave_19 ?_
  refine lv_iload_n hx hb dX2_leave_22 rfl (lv_at hl 2 rfl) ?_
  refine r_callVi (Wd := bW ad cI cZ) (C := RX4) [.int v1] [.int x3, .ref (ad 3)] ⟨hx, hb, hml, hown, hts⟩ (kX4_bitOf l D ad cI cZ hDD S4 v1) (cwV 1 hts gX2_leave_X4_bitOf rfl rfl rfl (by decide +kernel) ⟨Nat.le_of_ble_eq_true rfl, Nat.le_of_ble_eq_true rfl⟩) (va_recv hK.1 hP (ci := 3) (q0 := 3) rfl rfl) hK hP hS (fun _ h9 => h9) rfl hl.1 rfl (Nat.le_of_ble_eq_true rfl) ⟨Nat.zero_le _, Nat.zero_le _⟩ hE dX2_leave_23 (fun S6 x5 H locs hE hP hS => ?_)
  refine lv_iconst (v := -1) hx hb dX2_leave_26 (by decide) ?_
  refine lv_ixor hx hb dX2_leave_27 ?_
  refine lv_iand hx hb dX2_leave_28 ?_
  refine r_callVv (Wd := bW ad cI cZ) (C := RX4) [.int (x3 &&& (x5 ^^^ ((-1))))] [] ⟨hx, hb, hml, hown, hts⟩ (kX4_group l D ad cI cZ hDD S6 (x3 &&& (x5 ^^^ ((-1))))) (cwV 1 hts gX2_leave_X4_group rfl rfl rfl (by decide +kernel) ⟨Nat.le_of_ble_eq_true rfl, Nat.le_of_ble_eq_true rfl⟩) (va_recv hK.1 hP (ci := 3) (q0 := 3) rfl rfl) hK hP hS (fun _ h9 => h9) rfl hl.1 rfl (Nat.le_of_ble_eq_true rfl) ⟨Nat.zero_le _, Nat.zero_le _⟩ hE dX2_leave_29 (fun S8 H locs hE hP hS => ?_)
  refine lv_aload_n hx hb dX2_leave_32 rfl (lv_at hl 1 rfl) ?_
  refine va_get (D := D) (ci := 1) (v := .ref (ad 3)) (C := RX2) (T := TX2) (N := 4) hx hb hts iX2_leave_X2 hown hK.1 hP 5 rfl rfl 0 (by decide) (hts (.fieldLink RX2 19 "Bumpherald$Herding" "raises" "LBumpherald$Raises;") (List.mem_of_getElem? (i := 1) rfl)) (fun _ h9 => h9) rfl dX2_leave_33 ?_
  refine lv_iload_n hx hb dX2_leave_36 rfl (lv_at hl 2 rfl) ?_
  refine lv_iconst (v := 3) hx hb dX2_leave_37 (by decide) ?_
  refine r_callVv (Wd := bW ad cI cZ) (C := RX4) [.int v1, .int 3] [] ⟨hx, hb, hml, hown, hts⟩ (kX4_end l D ad cI cZ hDD S8 v1 3) (cwV 2 hts gX2_leave_X4_end rfl rfl rfl (by decide +kernel) ⟨Nat.le_of_ble_eq_true rfl, Nat.le_of_ble_eq_true rfl⟩) (va_recv hK.1 hP (ci := 3) (q0 := 3) rfl rfl) hK hP hS (fun _ h9 => h9) rfl hl.1 rfl (Nat.le_of_ble_eq_true rfl) ⟨Nat.zero_le _, Nat.zero_le _⟩ hE dX2_leave_38 (fun S10 H locs hE hP hS => ?_)
  refine lv_iload_n hx hb dX2_leave_41 rfl (lv_at hl 0 rfl) ?_
  refine lv_iconst (v := -1) hx hb dX2_leave_42 (by decide) ?_
  refine r_icmp_eq (tgt := 61) hx hb dX2_leave_43 (by decide) hE (fun c11 hE => ?_) (fun c11 hE => ?_)
  · exact k_vret (Wd := bW ad cI cZ) hx hb hr hlk hK hP hS hE dX2_leave_61
  · refine lv_aload_n hx hb dX2_leave_46 rfl (lv_at hl 1 rfl) ?_
    refine va_get (D := D) (ci := 1) (v := .ref (ad 4)) (C := RX2) (T := TX2) (N := 4) hx hb hts iX2_leave_X2 hown hK.1 hP 5 rfl rfl 1 (by decide) (hts (.fieldLink RX2 23 "Bumpherald$Herding" "reviewers" "LBumpherald$Reviewers;") (List.mem_of_getElem? (i := 2) rfl)) (fun _ h9 => h9) rfl dX2_leave_47 ?_
    refine lv_aload_n hx hb dX2_leave_50 rfl (lv_at hl 1 rfl) ?_
    refine va_get (D := D) (ci := 1) (v := .ref (ad 3)) (C := RX2) (T := TX2) (N := 4) hx hb hts iX2_leave_X2 hown hK.1 hP 5 rfl rfl 0 (by decide) (hts (.fieldLink RX2 19 "Bumpherald$Herding" "raises" "LBumpherald$Raises;") (List.mem_of_getElem? (i := 1) rfl)) (fun _ h9 => h9) rfl dX2_leave_51 ?_
    refine lv_iload_n hx hb dX2_leave_54 rfl (lv_at hl 0 rfl) ?_
    refine r_callVi (Wd := bW ad cI cZ) (C := RX4) [.int x1] [.ref (ad 4)] ⟨hx, hb, hml, hown, hts⟩ (kX4_groupOf l D ad cI cZ hDD S10 x1) (cwV 1 hts gX2_leave_X4_groupOf rfl rfl rfl (by decide +kernel) ⟨Nat.le_of_ble_eq_true rfl, Nat.le_of_ble_eq_true rfl⟩) (va_recv hK.1 hP (ci := 3) (q0 := 3) rfl rfl) hK hP hS (fun _ h9 => h9) rfl hl.1 rfl (Nat.le_of_ble_eq_true rfl) ⟨Nat.zero_le _, Nat.zero_le _⟩ hE dX2_leave_55 (fun S13 x12 H locs hE hP hS => ?_)
    refine r_callVv (Wd := bW ad cI cZ) (C := RX5) [.int x12] [] ⟨hx, hb, hml, hown, hts⟩ (kX5_giveAnew l D ad cI cZ hDD S13 x12) (cwV 1 hts gX2_leave_X5_giveAnew rfl rfl rfl (by decide +kernel) ⟨Nat.le_of_ble_eq_true rfl, Nat.le_of_ble_eq_true rfl⟩) (va_recv hK.1 hP (ci := 4) (q0 := 4) rfl rfl) hK hP hS (fun _ h9 => h9) rfl hl.1 rfl (Nat.le_of_ble_eq_true rfl) ⟨Nat.zero_le _, Nat.zero_le _⟩ hE dX2_leave_58 (fun S15 H locs hE hP hS => ?_)
    exact k_vret (Wd := bW ad cI cZ) hx hb hr hlk hK hP hS hE dX2_leave_61
theorem iX3_add_X3 : ∀ w ∈ wsX30, w ∈ wsX3_add := fun w h => List.mem_cons_of_mem _ (List.mem_append_right _ h)
set_option maxHeartbeats 4000000 in
set_option maxRecDepth 100000 in
theorem kX3_add (l : Launch) (D : va_G) (ad : Nat → Nat) (cI cZ : ClassId) (hDD : ∀ S, va_D (bA ad) (bW ad cI cZ S)) (S : St) (v1 : Int32) : ∀ So ro, f3_add S v1 = some (So, ro) → Met l yX3_add wsX3_add { frames := 0, cells := 0, slots := 0, locals := 0 } (va_Pc [.ref (ad 1), .int v1] (kPre D cI cZ (bW ad cI cZ S))) (kQi D cI cZ (bA ad) (bW ad cI cZ So) ro) 0 0 (bA ad) := by
  intro So ro hE
  refine kMet_of (by decide) rfl (Nat.le_of_ble_eq_true rfl) ?_
  intro p e s m args below meth c ls hx hb hr hml hown hlk hts hK hP hS hl
  have hl : lv_has ls 2 [(0, .ref (ad 1)), (1, .int v1)] := hl
  have hown : s.vm.findClass RX3 = some m.cls := hown
  unfold f3_add at hE
  refine lv_aload_n hx hb dX3_add_0 rfl (lv_at hl 0 rfl) ?_
  refine va_get (D := D) (ci := 2) (v := .ref (ad 6)) (C := RX3) (T := TX3) (N := 8) hx hb hts iX3_add_X3 hown hK.1 hP 1 rfl rfl 0 (by decide) (hts (.fieldLink RX3 9 "Bumpherald$Packages" "versions" "[I") (List.mem_of_getElem? (i := 1) rfl)) (fun _ h9 => h9) rfl dX3_add_1 ?_
  refine lv_aload_n hx hb dX3_add_4 rfl (lv_at hl 0 rfl) ?_
  refine va_get (D := D) (ci := 2) (v := .int (S.1 1)) (C := RX3) (T := TX3) (N := 8) hx hb hts iX3_add_X3 hown hK.1 hP 1 rfl rfl 6 (by decide) (hts (.fieldLink RX3 30 "Bumpherald$Packages" "count" "I") (List.mem_of_getElem? (i := 2) rfl)) (fun _ h9 => h9) rfl dX3_add_5 ?_
  refine lv_iload_n hx hb dX3_add_8 rfl (lv_at hl 1 rfl) ?_
  refine r_iast (Wd := bW ad cI cZ) (k := 0) (n := 12) hx hb hDD hK hP hS 6 rfl (bU0 ..) hE dX3_add_9 (fun S1 H locs hE hP hS => ?_)
  refine lv_aload_n hx hb dX3_add_10 rfl (lv_at hl 0 rfl) ?_
  refine lv_dup hx hb dX3_add_11 rfl ?_
  refine va_get (D := D) (ci := 2) (v := .int (S1.1 1)) (C := RX3) (T := TX3) (N := 8) hx hb hts iX3_add_X3 hown hK.1 hP 1 rfl rfl 6 (by decide) (hts (.fieldLink RX3 30 "Bumpherald$Packages" "count" "I") (List.mem_of_getElem? (i := 2) rfl)) (fun _ h9 => h9) rfl dX3_add_12 ?_
  refine lv_iconst (v := 1) hx hb dX3_add_15 (by decide) ?_
  refine lv_iadd hx hb dX3_add_16 ?_
  refine r_puti (Wd := bW ad cI cZ) (ci := 2) (C := RX3) (T := TX3) (N := 8) (kf := 1) hx hb hts iX3_add_X3 tyX3 tyX3_ok nmX3 hown hDD hK hP hS 1 rfl rfl 6 (by decide) (hts (.fieldLink RX3 30 "Bumpherald$Packages" "count" "I") (List.mem_of_getElem? (i := 2) rfl)) rfl rfl (by decide +kernel) (Nat.le_of_ble_eq_true rfl) rfl hE dX3_add_17 (fun S2 H locs hE hP hS => ?_)
  refine lv_aload_n hx hb dX3_add_20 rfl (lv_at hl 0 rfl) ?_
  refine va_get (D := D) (ci := 2) (v := .int (S2.1 1)) (C := RX3) (T := TX3) (N := 8) hx hb hts iX3_add_X3 hown hK.1 hP 1 rfl rfl 6 (by decide) (hts (.fieldLink RX3 30 "Bumpherald$Packages" "count" "I") (List.mem_of_getElem? (i := 2) rfl)) (fun _ h9 => h9) rfl dX3_add_21 ?_
  refine lv_iconst (v := 1) hx hb dX3_add_24 (by decide) ?_
  refine lv_isub hx hb dX3_add_25 ?_
  exact k_iret (Wd := bW ad cI cZ) hx hb hr hlk hK hP hS hE dX3_add_26
theorem iX3_addNeed_X3 : ∀ w ∈ wsX30, w ∈ wsX3_addNeed := fun w h => List.mem_cons_of_mem _ (List.mem_append_right _ h)
set_option maxHeartbeats 4000000 in
set_option maxRecDepth 100000 in
theorem kX3_addNeed (l : Launch) (D : va_G) (ad : Nat → Nat) (cI cZ : ClassId) (hDD : ∀ S, va_D (bA ad) (bW ad cI cZ S)) (S : St) (v1 : Int32) (v2 : Int32) (v3 : Int32) (v4 : Int32) : ∀ So ro, f3_addNeed S v1 v2 v3 v4 = some (So, ro) → Met l yX3_addNeed wsX3_addNeed { frames := 0, cells := 0, slots := 0, locals := 0 } (va_Pc [.ref (ad 1), .int v1, .int v2, .int v3, .int v4] (kPre D cI cZ (bW ad cI cZ S))) (kQi D cI cZ (bA ad) (bW ad cI cZ So) ro) 0 0 (bA ad) := by
  intro So ro hE
  refine kMet_of (by decide) rfl (Nat.le_of_ble_eq_true rfl) ?_
  intro p e s m args below meth c ls hx hb hr hml hown hlk hts hK hP hS hl
  have hl : lv_has ls 5 [(0, .ref (ad 1)), (1, .int v1), (2, .int v2), (3, .int v3), (4, .int v4)] := hl
  have hown : s.vm.findClass RX3 = some m.cls := hown
  unfold f3_addNeed at hE
  refine lv_aload_n hx hb dX3_addNeed_0 rfl (lv_at hl 0 rfl) ?_
  refine va_get (D := D) (ci := 2) (v := .ref (ad 8)) (C := RX3) (T := TX3) (N := 8) hx hb hts iX3_addNeed_X3 hown hK.1 hP 1 rfl rfl 2 (by decide) (hts (.fieldLink RX3 18 "Bumpherald$Packages" "needOnes" "[I") (List.mem_of_getElem? (i := 1) rfl)) (fun _ h9 => h9) rfl dX3_addNeed_1 ?_
  refine lv_aload_n hx hb dX3_addNeed_4 rfl (lv_at hl 0 rfl) ?_
  refine va_get (D := D) (ci := 2) (v := .int (S.1 2)) (C := RX3) (T := TX3) (N := 8) hx hb hts iX3_addNeed_X3 hown hK.1 hP 1 rfl rfl 7 (by decide) (hts (.fieldLink RX3 34 "Bumpherald$Packages" "needCount" "I") (List.mem_of_getElem? (i := 2) rfl)) (fun _ h9 => h9) rfl dX3_addNeed_5 ?_
  refine lv_iload_n hx hb dX3_addNeed_8 rfl (lv_at hl 1 rfl) ?_
  refine r_iast (Wd := bW ad cI cZ) (k := 2) (n := 20) hx hb hDD hK hP hS 8 rfl (bU2 ..) hE dX3_addNeed_9 (fun S1 H locs hE hP hS => ?_)
  refine lv_aload_n hx hb dX3_addNeed_10 rfl (lv_at hl 0 rfl) ?_
  refine va_get (D := D) (ci := 2) (v := .ref (ad 9)) (C := RX3) (T := TX3) (N := 8) hx hb hts iX3_addNeed_X3 hown hK.1 hP 1 rfl rfl 3 (by decide) (hts (.fieldLink RX3 21 "Bumpherald$Packages" "needOthers" "[I") (List.mem_of_getElem? (i := 3) rfl)) (fun _ h9 => h9) rfl dX3_addNeed_11 ?_
  refine lv_aload_n hx hb dX3_addNeed_14 rfl (lv_at hl 0 rfl) ?_
  refine va_get (D := D) (ci := 2) (v := .int (S1.1 2)) (C := RX3) (T := TX3) (N := 8) hx hb hts iX3_addNeed_X3 hown hK.1 hP 1 rfl rfl 7 (by decide) (hts (.fieldLink RX3 34 "Bumpherald$Packages" "needCount" "I") (List.mem_of_getElem? (i := 2) rfl)) (fun _ h9 => h9) rfl dX3_addNeed_15 ?_
  refine lv_iload_n hx hb dX3_addNeed_18 rfl (lv_at hl 2 rfl) ?_
  refine r_iast (Wd := bW ad cI cZ) (k := 3) (n := 20) hx hb hDD hK hP hS 9 rfl (bU3 ..) hE dX3_addNeed_19 (fun S2 H locs hE hP hS => ?_)
  refine lv_aload_n hx hb dX3_addNeed_20 rfl (lv_at hl 0 rfl) ?_
  refine va_get (D := D) (ci := 2) (v := .ref (ad 10)) (C := RX3) (T := TX3) (N := 8) hx hb hts iX3_addNeed_X3 hown hK.1 hP 1 rfl rfl 4 (by decide) (hts (.fieldLink RX3 24 "Bumpherald$Packages" "needLeasts" "[I") (List.mem_of_getElem? (i := 4) rfl)) (fun _ h9 => h9) rfl dX3_addNeed_21 ?_
  refine lv_aload_n hx hb dX3_addNeed_24 rfl (lv_at hl 0 rfl) ?_
  refine va_get (D := D) (ci := 2) (v := .int (S2.1 2)) (C := RX3) (T := TX3) (N := 8) hx hb hts iX3_addNeed_X3 hown hK.1 hP 1 rfl rfl 7 (by decide) (hts (.fieldLink RX3 34 "Bumpherald$Packages" "needCount" "I") (List.mem_of_getElem? (i := 2) rfl)) (fun _ h9 => h9) rfl dX3_addNeed_25 ?_
  refine lv_iload_n hx hb dX3_addNeed_28 rfl (lv_at hl 3 rfl) ?_
  refine r_iast (Wd := bW ad cI cZ) (k := 4) (n := 20) hx hb hDD hK hP hS 10 rfl (bU4 ..) hE dX3_addNeed_29 (fun S3 H locs hE hP hS => ?_)
  refine lv_aload_n hx hb dX3_addNeed_30 rfl (lv_at hl 0 rfl) ?_
  refine va_get (D := D) (ci := 2) (v := .ref (ad 11)) (C := RX3) (T := TX3) (N := 8) hx hb hts iX3_addNeed_X3 hown hK.1 hP 1 rfl rfl 5 (by decide) (hts (.fieldLink RX3 27 "Bumpherald$Packages" "needMosts" "[I") (List.mem_of_getElem? (i := 5) rfl)) (fun _ h9 => h9) rfl dX3_addNeed_31 ?_
  refine lv_aload_n hx hb dX3_addNeed_34 rfl (lv_at hl 0 rfl) ?_
  refine va_get (D := D) (ci := 2) (v := .int (S3.1 2)) (C := RX3) (T := TX3) (N := 8) hx hb hts iX3_addNeed_X3 hown hK.1 hP 1 rfl rfl 7 (by decide) (hts (.fieldLink RX3 34 "Bumpherald$Packages" "needCount" "I") (List.mem_of_getElem? (i := 2) rfl)) (fun _ h9 => h9) rfl dX3_addNeed_35 ?_
  refine lv_iload hx hb dX3_addNeed_38 (lv_at hl 4 rfl) ?_
  refine r_iast (Wd := bW ad cI cZ) (k := 5) (n := 20) hx hb hDD hK hP hS 11 rfl (bU5 ..) hE dX3_addNeed_40 (fun S4 H locs hE hP hS => ?_)
  refine lv_aload_n hx hb dX3_addNeed_41 rfl (lv_at hl 0 rfl) ?_
  refine lv_dup hx hb dX3_addNeed_42 rfl ?_
  refine va_get (D := D) (ci := 2) (v := .int (S4.1 2)) (C := RX3) (T := TX3) (N := 8) hx hb hts iX3_addNeed_X3 hown hK.1 hP 1 rfl rfl 7 (by decide) (hts (.fieldLink RX3 34 "Bumpherald$Packages" "needCount" "I") (List.mem_of_getElem? (i := 2) rfl)) (fun _ h9 => h9) rfl dX3_addNeed_43 ?_
  refine lv_iconst (v := 1) hx hb dX3_addNeed_46 (by decide) ?_
  refine lv_iadd hx hb dX3_addNeed_47 ?_
  refine r_puti (Wd := bW ad cI cZ) (ci := 2) (C := RX3) (T := TX3) (N := 8) (kf := 2) hx hb hts iX3_addNeed_X3 tyX3 tyX3_ok nmX3 hown hDD hK hP hS 1 rfl rfl 7 (by decide) (hts (.fieldLink RX3 34 "Bumpherald$Packages" "needCount" "I") (List.mem_of_getElem? (i := 2) rfl)) rfl rfl (by decide +kernel) (Nat.le_of_ble_eq_true rfl) rfl hE dX3_addNeed_48 (fun S5 H locs hE hP hS => ?_)
  refine lv_aload_n hx hb dX3_addNeed_51 rfl (lv_at hl 0 rfl) ?_
  refine va_get (D := D) (ci := 2) (v := .int (S5.1 2)) (C := RX3) (T := TX3) (N := 8) hx hb hts iX3_addNeed_X3 hown hK.1 hP 1 rfl rfl 7 (by decide) (hts (.fieldLink RX3 34 "Bumpherald$Packages" "needCount" "I") (List.mem_of_getElem? (i := 2) rfl)) (fun _ h9 => h9) rfl dX3_addNeed_52 ?_
  exact k_iret (Wd := bW ad cI cZ) hx hb hr hlk hK hP hS hE dX3_addNeed_55
theorem iX4_add_X4 : ∀ w ∈ wsX40, w ∈ wsX4_add := fun w h => List.mem_cons_of_mem _ (List.mem_append_right _ h)
set_option maxHeartbeats 4000000 in
set_option maxRecDepth 100000 in
theorem kX4_add (l : Launch) (D : va_G) (ad : Nat → Nat) (cI cZ : ClassId) (hDD : ∀ S, va_D (bA ad) (bW ad cI cZ S)) (S : St) (v1 : Int32) (v2 : Int32) (v3 : Int32) (v4 : Int32) : ∀ So ro, f4_add S v1 v2 v3 v4 = some (So, ro) → Met l yX4_add wsX4_add { frames := 1, cells := 0, slots := 0, locals := 21 } (va_Pc [.ref (ad 3), .int v1, .int v2, .int v3, .int v4] (kPre D cI cZ (bW ad cI cZ S))) (kQi D cI cZ (bA ad) (bW ad cI cZ So) ro) 0 0 (bA ad) := by
  intro So ro hE
  refine kMet_of (by decide) rfl (Nat.le_of_ble_eq_true rfl) ?_
  intro p e s m args below meth c ls hx hb hr hml hown hlk hts hK hP hS hl
  have hl : lv_has ls 6 [(0, .ref (ad 3)), (1, .int v1), (2, .int v2), (3, .int v3), (4, .int v4)] := hl
  have hown : s.vm.findClass RX4 = some m.cls := hown
  unfold f4_add at hE
  refine lv_aload_n hx hb dX4_add_0 rfl (lv_at hl 0 rfl) ?_
  refine va_get (D := D) (ci := 3) (v := .int (S.1 4)) (C := RX4) (T := TX4) (N := 12) hx hb hts iX4_add_X4 hown hK.1 hP 3 rfl rfl 10 (by decide) (hts (.fieldLink RX4 40 "Bumpherald$Raises" "count" "I") (List.mem_of_getElem? (i := 1) rfl)) (fun _ h9 => h9) rfl dX4_add_1 ?_
  refine lv_istore (lv' := [(5, .int (S.1 4)), (0, .ref (ad 3)), (1, .int v1), (2, .int v2), (3, .int v3), (4, .int v4)]) hx hb dX4_add_4 hl (by decide) rfl (fun ls hl => ?_)
  refine lv_aload_n hx hb dX4_add_6 rfl (lv_at hl 1 rfl) ?_
  refine va_get (D := D) (ci := 3) (v := .ref (ad 15)) (C := RX4) (T := TX4) (N := 12) hx hb hts iX4_add_X4 hown hK.1 hP 3 rfl rfl 1 (by decide) (hts (.fieldLink RX4 9 "Bumpherald$Raises" "packs" "[I") (List.mem_of_getElem? (i := 2) rfl)) (fun _ h9 => h9) rfl dX4_add_7 ?_
  refine lv_iload hx hb dX4_add_10 (lv_at hl 0 rfl) ?_
  refine lv_iload_n hx hb dX4_add_12 rfl (lv_at hl 2 rfl) ?_
  refine r_iast (Wd := bW ad cI cZ) (k := 9) (n := 40) hx hb hDD hK hP hS 15 rfl (bU9 ..) hE dX4_add_13 (fun S1 H locs hE hP hS => ?_)
  refine lv_aload_n hx hb dX4_add_14 rfl (lv_at hl 1 rfl) ?_
  refine va_get (D := D) (ci := 3) (v := .ref (ad 16)) (C := RX4) (T := TX4) (N := 12) hx hb hts iX4_add_X4 hown hK.1 hP 3 rfl rfl 2 (by decide) (hts (.fieldLink RX4 15 "Bumpherald$Raises" "versions" "[I") (List.mem_of_getElem? (i := 3) rfl)) (fun _ h9 => h9) rfl dX4_add_15 ?_
  refine lv_iload hx hb dX4_add_18 (lv_at hl 0 rfl) ?_
  refine lv_iload_n hx hb dX4_add_20 rfl (lv_at hl 3 rfl) ?_
  refine r_iast (Wd := bW ad cI cZ) (k := 10) (n := 40) hx hb hDD hK hP hS 16 rfl (bU10 ..) hE dX4_add_21 (fun S2 H locs hE hP hS => ?_)
  refine lv_aload_n hx hb dX4_add_22 rfl (lv_at hl 1 rfl) ?_
  refine va_get (D := D) (ci := 3) (v := .ref (ad 17)) (C := RX4) (T := TX4) (N := 12) hx hb hts iX4_add_X4 hown hK.1 hP 3 rfl rfl 3 (by decide) (hts (.fieldLink RX4 18 "Bumpherald$Raises" "risks" "[I") (List.mem_of_getElem? (i := 4) rfl)) (fun _ h9 => h9) rfl dX4_add_23 ?_
  refine lv_iload hx hb dX4_add_26 (lv_at hl 0 rfl) ?_
  refine lv_iload_n hx hb dX4_add_28 rfl (lv_at hl 4 rfl) ?_
  refine r_iast (Wd := bW ad cI cZ) (k := 11) (n := 40) hx hb hDD hK hP hS 17 rfl (bU11 ..) hE dX4_add_29 (fun S3 H locs hE hP hS => ?_)
  refine lv_aload_n hx hb dX4_add_30 rfl (lv_at hl 1 rfl) ?_
  refine va_get (D := D) (ci := 3) (v := .ref (ad 18)) (C := RX4) (T := TX4) (N := 12) hx hb hts iX4_add_X4 hown hK.1 hP 3 rfl rfl 4 (by decide) (hts (.fieldLink RX4 21 "Bumpherald$Raises" "days" "[I") (List.mem_of_getElem? (i := 5) rfl)) (fun _ h9 => h9) rfl dX4_add_31 ?_
  refine lv_iload hx hb dX4_add_34 (lv_at hl 0 rfl) ?_
  refine lv_iload hx hb dX4_add_36 (lv_at hl 5 rfl) ?_
  refine r_iast (Wd := bW ad cI cZ) (k := 12) (n := 40) hx hb hDD hK hP hS 18 rfl (bU12 ..) hE dX4_add_38 (fun S4 H locs hE hP hS => ?_)
  refine lv_aload_n hx hb dX4_add_39 rfl (lv_at hl 1 rfl) ?_
  refine va_get (D := D) (ci := 3) (v := .ref (ad 19)) (C := RX4) (T := TX4) (N := 12) hx hb hts iX4_add_X4 hown hK.1 hP 3 rfl rfl 5 (by decide) (hts (.fieldLink RX4 24 "Bumpherald$Raises" "states" "[I") (List.mem_of_getElem? (i := 6) rfl)) (fun _ h9 => h9) rfl dX4_add_40 ?_
  refine lv_iload hx hb dX4_add_43 (lv_at hl 0 rfl) ?_
  refine lv_iconst (v := 0) hx hb dX4_add_45 (by decide) ?_
  refine r_iast (Wd := bW ad cI cZ) (k := 13) (n := 40) hx hb hDD hK hP hS 19 rfl (bU13 ..) hE dX4_add_46 (fun S5 H locs hE hP hS => ?_)
  refine lv_aload_n hx hb dX4_add_47 rfl (lv_at hl 1 rfl) ?_
  refine va_get (D := D) (ci := 3) (v := .ref (ad 20)) (C := RX4) (T := TX4) (N := 12) hx hb hts iX4_add_X4 hown hK.1 hP 3 rfl rfl 6 (by decide) (hts (.fieldLink RX4 27 "Bumpherald$Raises" "reviewers" "[I") (List.mem_of_getElem? (i := 7) rfl)) (fun _ h9 => h9) rfl dX4_add_48 ?_
  refine lv_iload hx hb dX4_add_51 (lv_at hl 0 rfl) ?_
  refine lv_iconst (v := -1) hx hb dX4_add_53 (by decide) ?_
  refine r_iast (Wd := bW ad cI cZ) (k := 14) (n := 40) hx hb hDD hK hP hS 20 rfl (bU14 ..) hE dX4_add_54 (fun S6 H locs hE hP hS => ?_)
  refine lv_aload_n hx hb dX4_add_55 rfl (lv_at hl 1 rfl) ?_
  refine va_get (D := D) (ci := 3) (v := .ref (ad 21)) (C := RX4) (T := TX4) (N := 12) hx hb hts iX4_add_X4 hown hK.1 hP 3 rfl rfl 7 (by decide) (hts (.fieldLink RX4 30 "Bumpherald$Raises" "approved" "[Z") (List.mem_of_getElem? (i := 8) rfl)) (fun _ h9 => h9) rfl dX4_add_56 ?_
  refine lv_iload hx hb dX4_add_59 (lv_at hl 0 rfl) ?_
  refine lv_iconst (v := 0) hx hb dX4_add_61 (by decide) ?_
  refine r_zast (Wd := bW ad cI cZ) (k := 15) (n := 40) hx hb hDD hK hP hS 21 rfl (bU15 ..) hE dX4_add_62 (fun S7 H locs hE hP hS => ?_)
  refine lv_aload_n hx hb dX4_add_63 rfl (lv_at hl 1 rfl) ?_
  refine va_get (D := D) (ci := 3) (v := .ref (ad 22)) (C := RX4) (T := TX4) (N := 12) hx hb hts iX4_add_X4 hown hK.1 hP 3 rfl rfl 8 (by decide) (hts (.fieldLink RX4 34 "Bumpherald$Raises" "groups" "[I") (List.mem_of_getElem? (i := 9) rfl)) (fun _ h9 => h9) rfl dX4_add_64 ?_
  refine lv_iload hx hb dX4_add_67 (lv_at hl 0 rfl) ?_
  refine lv_iload hx hb dX4_add_69 (lv_at hl 0 rfl) ?_
  refine r_iast (Wd := bW ad cI cZ) (k := 16) (n := 40) hx hb hDD hK hP hS 22 rfl (bU16 ..) hE dX4_add_71 (fun S8 H locs hE hP hS => ?_)
  refine lv_aload_n hx hb dX4_add_72 rfl (lv_at hl 1 rfl) ?_
  refine lv_dup hx hb dX4_add_73 rfl ?_
  refine va_get (D := D) (ci := 3) (v := .int (S8.1 4)) (C := RX4) (T := TX4) (N := 12) hx hb hts iX4_add_X4 hown hK.1 hP 3 rfl rfl 10 (by decide) (hts (.fieldLink RX4 40 "Bumpherald$Raises" "count" "I") (List.mem_of_getElem? (i := 1) rfl)) (fun _ h9 => h9) rfl dX4_add_74 ?_
  refine lv_iconst (v := 1) hx hb dX4_add_77 (by decide) ?_
  refine lv_iadd hx hb dX4_add_78 ?_
  refine r_puti (Wd := bW ad cI cZ) (ci := 3) (C := RX4) (T := TX4) (N := 12) (kf := 4) hx hb hts iX4_add_X4 tyX4 tyX4_ok nmX4 hown hDD hK hP hS 3 rfl rfl 10 (by decide) (hts (.fieldLink RX4 40 "Bumpherald$Raises" "count" "I") (List.mem_of_getElem? (i := 1) rfl)) rfl rfl (by decide +kernel) (Nat.le_of_ble_eq_true rfl) rfl hE dX4_add_79 (fun S9 H locs hE hP hS => ?_)
  refine lv_aload_n hx hb dX4_add_82 rfl (lv_at hl 1 rfl) ?_
  refine r_callVv (Wd := bW ad cI cZ) (C := RX4) [] [] ⟨hx, hb, hml, hown, hts⟩ (kX4_listOpen l D ad cI cZ hDD S9) (cwV 0 hts gX4_add_X4_listOpen rfl rfl rfl (by decide +kernel) ⟨Nat.le_of_ble_eq_true rfl, Nat.le_of_ble_eq_true rfl⟩) (va_recv hK.1 hP (ci := 3) (q0 := 3) rfl rfl) hK hP hS (fun _ h9 => h9) rfl hl.1 rfl (Nat.le_of_ble_eq_true rfl) ⟨Nat.zero_le _, Nat.zero_le _⟩ hE dX4_add_83 (fun S11 H locs hE hP hS => ?_)
  refine lv_iload hx hb dX4_add_86 (lv_at hl 0 rfl) ?_
  exact k_iret (Wd := bW ad cI cZ) hx hb hr hlk hK hP hS hE dX4_add_88
theorem iX4_areApproved_X4 : ∀ w ∈ wsX40, w ∈ wsX4_areApproved := fun w h => List.mem_cons_of_mem _ (List.mem_append_right _ h)
set_option maxHeartbeats 4000000 in
set_option maxRecDepth 100000 in
theorem kX4_areApproved (l : Launch) (D : va_G) (ad : Nat → Nat) (cI cZ : ClassId) (hDD : ∀ S, va_D (bA ad) (bW ad cI cZ S)) (S : St) (v1 : Int32) : ∀ So ro, f4_areApproved S v1 = some (So, ro) → Met l yX4_areApproved wsX4_areApproved { frames := 1, cells := 0, slots := 0, locals := 22 } (va_Pc [.ref (ad 3), .int v1] (kPre D cI cZ (bW ad cI cZ S))) (kQi D cI cZ (bA ad) (bW ad cI cZ So) ro) 0 0 (bA ad) := by
  intro So ro hE
  refine kMet_of (by decide) rfl (Nat.le_of_ble_eq_true rfl) ?_
  intro p e s m args below meth c ls hx hb hr hml hown hlk hts hK hP hS hl
  have hl : lv_has ls 3 [(0, .ref (ad 3)), (1, .int v1)] := hl
  have hown : s.vm.findClass RX4 = some m.cls := hown
  have H2 : ∀ (n2 : Nat) (v1 : Int32) (v2 : Int32) (S : St), f4_areApproved_L2  n2 v1 v2 S = some (So, ro) → ∀ (H : Heap) (locs : List Loc) (ls : Array Slot), va_P D vwCl (bW ad cI cZ S) H → va_S (bA ad) s.heap H locs → lv_has ls 3 [(0, .ref (ad 3)), (1, .int v1), (2, .int v2)] → W p l e (headSpec wsX4_areApproved { frames := 1, cells := 0, slots := 0, locals := 22 }).room s m args below meth c H locs 0 0 (MQ below (kQi D cI cZ (bA ad) (bW ad cI cZ So) ro) args s 0 0 (bA ad)) (F0 m 2 ls []) := by
    intro n2
    induction n2 with
    | zero => intro v1 v2 S hE; exact absurd (show (none : Option (St × Int32)) = some (So, ro) from hE) (fun h => nomatch h)
    | succ n2 ih2 =>
      intro v1 v2 S hE H locs ls hP hS hl
      have hE : f4_areApproved_L2b  (f4_areApproved_L2 n2) v1 v2 S = some (So, ro) := hE
      unfold f4_areApproved_L2b at hE
      refine lv_iload_n hx hb dX4_areApproved_2 rfl (lv_at hl 2 rfl) ?_
      refine lv_aload_n hx hb dX4_areApproved_3 rfl (lv_at hl 0 rfl) ?_
      refine va_get (D := D) (ci := 3) (v := .int (S.1 5)) (C := RX4) (T := TX4) (N := 12) hx hb hts iX4_areApproved_X4 hown hK.1 hP 3 rfl rfl 11 (by decide) (hts (.fieldLink RX4 44 "Bumpherald$Raises" "openCount" "I") (List.mem_of_getElem? (i := 1) rfl)) (fun _ h9 => h9) rfl dX4_areApproved_4 ?_
      refine r_icmp_ge (tgt := 41) hx hb dX4_areApproved_7 (by decide) hE (fun c1 hE => ?_) (fun c1 hE => ?_)
      · refine lv_iconst (v := 1) hx hb dX4_areApproved_41 (by decide) ?_
        exact k_zret (Wd := bW ad cI cZ) hx hb hr hlk (by decide +kernel) hK hP hS hE dX4_areApproved_42
      · refine lv_aload_n hx hb dX4_areApproved_10 rfl (lv_at hl 0 rfl) ?_
        refine lv_iload_n hx hb dX4_areApproved_11 rfl (lv_at hl 2 rfl) ?_
        refine lv_iload_n hx hb dX4_areApproved_12 rfl (lv_at hl 1 rfl) ?_
        refine r_callVi (Wd := bW ad cI cZ) (C := RX4) [.int v2, .int v1] [] ⟨hx, hb, hml, hown, hts⟩ (kX4_isIn l D ad cI cZ hDD S v2 v1) (cwV 2 hts gX4_areApproved_X4_isIn rfl rfl rfl (by decide +kernel) ⟨Nat.le_of_ble_eq_true rfl, Nat.le_of_ble_eq_true rfl⟩) (va_recv hK.1 hP (ci := 3) (q0 := 3) rfl rfl) hK hP hS (fun _ h9 => h9) rfl hl.1 rfl (Nat.le_of_ble_eq_true rfl) ⟨Nat.zero_le _, Nat.zero_le _⟩ hE dX4_areApproved_13 (fun S3 x2 H locs hE hP hS => ?_)
        refine r_if_eq (tgt := 35) hx hb dX4_areApproved_16 (by decide) hE (fun c4 hE => ?_) (fun c4 hE => ?_)
        · refine lv_iinc (v := v2 + 1) (lv' := [(2, .int (v2 + 1)), (0, .ref (ad 3)), (1, .int v1)]) hx hb dX4_areApproved_35 hl (k := 2) rfl rfl (by decide) rfl (fun ls hl => ?_)
          refine lv_goto (tgt := 2) hx hb dX4_areApproved_38 (by decide) ?_
          exact ih2 v1 (v2 + 1) S3 hE _ _ _ hP hS (lv_sub hl [1, 2, 0] rfl)
        · refine lv_aload_n hx hb dX4_areApproved_19 rfl (lv_at hl 0 rfl) ?_
          refine va_get (D := D) (ci := 3) (v := .ref (ad 21)) (C := RX4) (T := TX4) (N := 12) hx hb hts iX4_areApproved_X4 hown hK.1 hP 3 rfl rfl 7 (by decide) (hts (.fieldLink RX4 30 "Bumpherald$Raises" "approved" "[Z") (List.mem_of_getElem? (i := 2) rfl)) (fun _ h9 => h9) rfl dX4_areApproved_20 ?_
          refine lv_aload_n hx hb dX4_areApproved_23 rfl (lv_at hl 0 rfl) ?_
          refine va_get (D := D) (ci := 3) (v := .ref (ad 23)) (C := RX4) (T := TX4) (N := 12) hx hb hts iX4_areApproved_X4 hown hK.1 hP 3 rfl rfl 9 (by decide) (hts (.fieldLink RX4 37 "Bumpherald$Raises" "open" "[I") (List.mem_of_getElem? (i := 3) rfl)) (fun _ h9 => h9) rfl dX4_areApproved_24 ?_
          refine lv_iload_n hx hb dX4_areApproved_27 rfl (lv_at hl 2 rfl) ?_
          refine r_iald (Wd := bW ad cI cZ) (k := 17) (n := 10) hx hb hK hP 23 rfl hE dX4_areApproved_28 (fun x5 hE => ?_)
          refine r_zald (Wd := bW ad cI cZ) (k := 15) (n := 40) hx hb hK hP 21 rfl hE dX4_areApproved_29 (fun x6 hE => ?_)
          refine r_if_ne (tgt := 35) hx hb dX4_areApproved_30 (by decide) hE (fun c7 hE => ?_) (fun c7 hE => ?_)
          · refine lv_iconst (v := 0) hx hb dX4_areApproved_33 (by decide) ?_
            exact k_zret (Wd := bW ad cI cZ) hx hb hr hlk (by decide +kernel) hK hP hS hE dX4_areApproved_34
          · refine lv_iinc (v := v2 + 1) (lv' := [(2, .int (v2 + 1)), (0, .ref (ad 3)), (1, .int v1)]) hx hb dX4_areApproved_35 hl (k := 2) rfl rfl (by decide) rfl (fun ls hl => ?_)
            refine lv_goto (tgt := 2) hx hb dX4_areApproved_38 (by decide) ?_
            exact ih2 v1 (v2 + 1) S3 hE _ _ _ hP hS (lv_sub hl [1, 2, 0] rfl)
  unfold f4_areApproved at hE
  refine lv_iconst (v := 0) hx hb dX4_areApproved_0 (by decide) ?_
  refine lv_istore_n (lv' := [(2, .int 0), (0, .ref (ad 3)), (1, .int v1)]) hx hb dX4_areApproved_1 rfl hl (by decide) rfl (fun ls hl => ?_)
  exact H2 2000 v1 0 S hE _ _ _ hP hS (lv_sub hl [1, 2, 0] rfl)
theorem iX4_packagesOf_X4 : ∀ w ∈ wsX40, w ∈ wsX4_packagesOf := fun w h => List.mem_cons_of_mem _ (List.mem_append_right _ h)
set_option maxHeartbeats 4000000 in
set_option maxRecDepth 100000 in
theorem kX4_packagesOf (l : Launch) (D : va_G) (ad : Nat → Nat) (cI cZ : ClassId) (hDD : ∀ S, va_D (bA ad) (bW ad cI cZ S)) (S : St) (v1 : Int32) : ∀ So ro, f4_packagesOf S v1 = some (So, ro) → Met l yX4_packagesOf wsX4_packagesOf { frames := 1, cells := 0, slots := 0, locals := 22 } (va_Pc [.ref (ad 3), .int v1] (kPre D cI cZ (bW ad cI cZ S))) (kQi D cI cZ (bA ad) (bW ad cI cZ So) ro) 0 0 (bA ad) := by
  intro So ro hE
  refine kMet_of (by decide) rfl (Nat.le_of_ble_eq_true rfl) ?_
  intro p e s m args below meth c ls hx hb hr hml hown hlk hts hK hP hS hl
  have hl : lv_has ls 4 [(0, .ref (ad 3)), (1, .int v1)] := hl
  have hown : s.vm.findClass RX4 = some m.cls := hown
  have H4 : ∀ (n4 : Nat) (v1 : Int32) (v2 : Int32) (v3 : Int32) (S : St), f4_packagesOf_L4  n4 v1 v2 v3 S = some (So, ro) → ∀ (H : Heap) (locs : List Loc) (ls : Array Slot), va_P D vwCl (bW ad cI cZ S) H → va_S (bA ad) s.heap H locs → lv_has ls 4 [(0, .ref (ad 3)), (1, .int v1), (2, .int v2), (3, .int v3)] → W p l e (headSpec wsX4_packagesOf { frames := 1, cells := 0, slots := 0, locals := 22 }).room s m args below meth c H locs 0 0 (MQ below (kQi D cI cZ (bA ad) (bW ad cI cZ So) ro) args s 0 0 (bA ad)) (F0 m 4 ls []) := by
    intro n4
    induction n4 with
    | zero => intro v1 v2 v3 S hE; exact absurd (show (none : Option (St × Int32)) = some (So, ro) from hE) (fun h => nomatch h)
    | succ n4 ih4 =>
      intro v1 v2 v3 S hE H locs ls hP hS hl
      have hE : f4_packagesOf_L4b  (f4_packagesOf_L4 n4) v1 v2 v3 S = some (So, ro) := hE
      unfold f4_packagesOf_L4b at hE
      refine lv_iload_n hx hb dX4_packagesOf_4 rfl (lv_at hl 3 rfl) ?_
      refine lv_aload_n hx hb dX4_packagesOf_5 rfl (lv_at hl 0 rfl) ?_
      refine va_get (D := D) (ci := 3) (v := .int (S.1 5)) (C := RX4) (T := TX4) (N := 12) hx hb hts iX4_packagesOf_X4 hown hK.1 hP 3 rfl rfl 11 (by decide) (hts (.fieldLink RX4 44 "Bumpherald$Raises" "openCount" "I") (List.mem_of_getElem? (i := 1) rfl)) (fun _ h9 => h9) rfl dX4_packagesOf_6 ?_
      refine r_icmp_ge (tgt := 43) hx hb dX4_packagesOf_9 (by decide) hE (fun c1 hE => ?_) (fun c1 hE => ?_)
      · refine lv_iload_n hx hb dX4_packagesOf_43 rfl (lv_at hl 2 rfl) ?_
        exact k_iret (Wd := bW ad cI cZ) hx hb hr hlk hK hP hS hE dX4_packagesOf_44
      · refine lv_aload_n hx hb dX4_packagesOf_12 rfl (lv_at hl 0 rfl) ?_
        refine lv_iload_n hx hb dX4_packagesOf_13 rfl (lv_at hl 3 rfl) ?_
        refine lv_iload_n hx hb dX4_packagesOf_14 rfl (lv_at hl 1 rfl) ?_
        refine r_callVi (Wd := bW ad cI cZ) (C := RX4) [.int v3, .int v1] [] ⟨hx, hb, hml, hown, hts⟩ (kX4_isIn l D ad cI cZ hDD S v3 v1) (cwV 2 hts gX4_packagesOf_X4_isIn rfl rfl rfl (by decide +kernel) ⟨Nat.le_of_ble_eq_true rfl, Nat.le_of_ble_eq_true rfl⟩) (va_recv hK.1 hP (ci := 3) (q0 := 3) rfl rfl) hK hP hS (fun _ h9 => h9) rfl hl.1 rfl (Nat.le_of_ble_eq_true rfl) ⟨Nat.zero_le _, Nat.zero_le _⟩ hE dX4_packagesOf_15 (fun S3 x2 H locs hE hP hS => ?_)
        refine r_if_eq (tgt := 37) hx hb dX4_packagesOf_18 (by decide) hE (fun c4 hE => ?_) (fun c4 hE => ?_)
        · refine lv_iinc (v := v3 + 1) (lv' := [(3, .int (v3 + 1)), (0, .ref (ad 3)), (1, .int v1), (2, .int v2)]) hx hb dX4_packagesOf_37 hl (k := 3) rfl rfl (by decide) rfl (fun ls hl => ?_)
          refine lv_goto (tgt := 4) hx hb dX4_packagesOf_40 (by decide) ?_
          exact ih4 v1 v2 (v3 + 1) S3 hE _ _ _ hP hS (lv_sub hl [1, 2, 3, 0] rfl)
        · refine lv_iload_n hx hb dX4_packagesOf_21 rfl (lv_at hl 2 rfl) ?_
          refine lv_iconst (v := 1) hx hb dX4_packagesOf_22 (by decide) ?_
          refine lv_aload_n hx hb dX4_packagesOf_23 rfl (lv_at hl 0 rfl) ?_
          refine va_get (D := D) (ci := 3) (v := .ref (ad 15)) (C := RX4) (T := TX4) (N := 12) hx hb hts iX4_packagesOf_X4 hown hK.1 hP 3 rfl rfl 1 (by decide) (hts (.fieldLink RX4 9 "Bumpherald$Raises" "packs" "[I") (List.mem_of_getElem? (i := 2) rfl)) (fun _ h9 => h9) rfl dX4_packagesOf_24 ?_
          refine lv_aload_n hx hb dX4_packagesOf_27 rfl (lv_at hl 0 rfl) ?_
          refine va_get (D := D) (ci := 3) (v := .ref (ad 23)) (C := RX4) (T := TX4) (N := 12) hx hb hts iX4_packagesOf_X4 hown hK.1 hP 3 rfl rfl 9 (by decide) (hts (.fieldLink RX4 37 "Bumpherald$Raises" "open" "[I") (List.mem_of_getElem? (i := 3) rfl)) (fun _ h9 => h9) rfl dX4_packagesOf_28 ?_
          refine lv_iload_n hx hb dX4_packagesOf_31 rfl (lv_at hl 3 rfl) ?_
          refine r_iald (Wd := bW ad cI cZ) (k := 17) (n := 10) hx hb hK hP 23 rfl hE dX4_packagesOf_32 (fun x5 hE => ?_)
          refine r_iald (Wd := bW ad cI cZ) (k := 9) (n := 40) hx hb hK hP 15 rfl hE dX4_packagesOf_33 (fun x6 hE => ?_)
          refine lv_ishl hx hb dX4_packagesOf_34 ?_
          refine lv_ior hx hb dX4_packagesOf_35 ?_
          refine lv_istore_n (lv' := [(2, .int (v2 ||| (1 <<< (x6 &&& 31)))), (0, .ref (ad 3)), (1, .int v1), (3, .int v3)]) hx hb dX4_packagesOf_36 rfl hl (by decide) rfl (fun ls hl => ?_)
          refine lv_iinc (v := v3 + 1) (lv' := [(3, .int (v3 + 1)), (2, .int (v2 ||| (1 <<< (x6 &&& 31)))), (0, .ref (ad 3)), (1, .int v1)]) hx hb dX4_packagesOf_37 hl (k := 3) rfl rfl (by decide) rfl (fun ls hl => ?_)
          refine lv_goto (tgt := 4) hx hb dX4_packagesOf_40 (by decide) ?_
          exact ih4 v1 (v2 ||| (1 <<< (x6 &&& 31))) (v3 + 1) S3 hE _ _ _ hP hS (lv_sub hl [2, 3, 1, 0] rfl)
  unfold f4_packagesOf at hE
  refine lv_iconst (v := 0) hx hb dX4_packagesOf_0 (by decide) ?_
  refine lv_istore_n (lv' := [(2, .int 0), (0, .ref (ad 3)), (1, .int v1)]) hx hb dX4_packagesOf_1 rfl hl (by decide) rfl (fun ls hl => ?_)
  refine lv_iconst (v := 0) hx hb dX4_packagesOf_2 (by decide) ?_
  refine lv_istore_n (lv' := [(3, .int 0), (2, .int 0), (0, .ref (ad 3)), (1, .int v1)]) hx hb dX4_packagesOf_3 rfl hl (by decide) rfl (fun ls hl => ?_)
  exact H4 2000 v1 0 0 S hE _ _ _ hP hS (lv_sub hl [2, 3, 1, 0] rfl)
theorem iX4_release_X3 : ∀ w ∈ wsX30, w ∈ wsX4_release := fun w h => List.mem_cons_of_mem _ (List.mem_append_right _ h)
theorem iX4_release_X4 : ∀ w ∈ wsX40, w ∈ wsX4_release := fun w h => List.mem_cons_of_mem _ (List.mem_append_left _ (List.mem_append_right _ h))
set_option maxHeartbeats 4000000 in
set_option maxRecDepth 100000 in
theorem kX4_release (l : Launch) (D : va_G) (ad : Nat → Nat) (cI cZ : ClassId) (hDD : ∀ S, va_D (bA ad) (bW ad cI cZ S)) (S : St) (v1 : Int32) : ∀ So, f4_release S v1 = some So → Met l yX4_release wsX4_release { frames := 2, cells := 0, slots := 0, locals := 43 } (va_Pc [.ref (ad 3), .int v1] (kPre D cI cZ (bW ad cI cZ S))) (kQv D cI cZ (bA ad) (bW ad cI cZ So)) 0 0 (bA ad) := by
  intro So hE
  refine kMet_of (by decide) rfl (Nat.le_of_ble_eq_true rfl) ?_
  intro p e s m args below meth c ls hx hb hr hml hown hlk hts hK hP hS hl
  have hl : lv_has ls 5 [(0, .ref (ad 3)), (1, .int v1)] := hl
  have hown : s.vm.findClass RX4 = some m.cls := hown
  have H9 : ∀ (n9 : Nat) (v2 : Int32) (v3 : Int32) (S : St), f4_release_L9  n9 v2 v3 S = some So → ∀ (H : Heap) (locs : List Loc) (ls : Array Slot), va_P D vwCl (bW ad cI cZ S) H → va_S (bA ad) s.heap H locs → lv_has ls 5 [(0, .ref (ad 3)), (2, .int v2), (3, .int v3)] → W p l e (headSpec wsX4_release { frames := 2, cells := 0, slots := 0, locals := 43 }).room s m args below meth c H locs 0 0 (MQ below (kQv D cI cZ (bA ad) (bW ad cI cZ So)) args s 0 0 (bA ad)) (F0 m 9 ls []) := by
    intro n9
    induction n9 with
    | zero => intro v2 v3 S hE; exact absurd (show (none : Option (St)) = some So from hE) (fun h => nomatch h)
    | succ n9 ih9 =>
      intro v2 v3 S hE H locs ls hP hS hl
      have hE : f4_release_L9b  (f4_release_L9 n9) v2 v3 S = some So := hE
      unfold f4_release_L9b at hE
      refine lv_iload_n hx hb dX4_release_9 rfl (lv_at hl 2 rfl) ?_
      refine r_if_lt (tgt := 65) hx hb dX4_release_10 (by decide) hE (fun c1 hE => ?_) (fun c1 hE => ?_)
      · exact k_vret (Wd := bW ad cI cZ) hx hb hr hlk hK hP hS hE dX4_release_65
      · refine lv_aload_n hx hb dX4_release_13 rfl (lv_at hl 0 rfl) ?_
        refine lv_iload_n hx hb dX4_release_14 rfl (lv_at hl 2 rfl) ?_
        refine lv_iload_n hx hb dX4_release_15 rfl (lv_at hl 1 rfl) ?_
        refine r_callVi (Wd := bW ad cI cZ) (C := RX4) [.int v3, .int v2] [] ⟨hx, hb, hml, hown, hts⟩ (kX4_isIn l D ad cI cZ hDD S v3 v2) (cwV 2 hts gX4_release_X4_isIn rfl rfl rfl (by decide +kernel) ⟨Nat.le_of_ble_eq_true rfl, Nat.le_of_ble_eq_true rfl⟩) (va_recv hK.1 hP (ci := 3) (q0 := 3) rfl rfl) hK hP hS (fun _ h9 => h9) rfl hl.1 rfl (Nat.le_of_ble_eq_true rfl) ⟨Nat.zero_le _, Nat.zero_le _⟩ hE dX4_release_16 (fun S3 x2 H locs hE hP hS => ?_)
        refine r_if_eq (tgt := 59) hx hb dX4_release_19 (by decide) hE (fun c4 hE => ?_) (fun c4 hE => ?_)
        · refine lv_iinc (v := v3 + (-1)) (lv' := [(3, .int (v3 + (-1))), (0, .ref (ad 3)), (2, .int v2)]) hx hb dX4_release_59 hl (k := 2) rfl rfl (by decide) rfl (fun ls hl => ?_)
          refine lv_goto (tgt := 9) hx hb dX4_release_62 (by decide) ?_
          exact ih9 v2 (v3 + (-1)) S3 hE _ _ _ hP hS (lv_sub hl [1, 2, 0] rfl)
        · refine lv_aload_n hx hb dX4_release_22 rfl (lv_at hl 0 rfl) ?_
          refine va_get (D := D) (ci := 3) (v := .ref (ad 23)) (C := RX4) (T := TX4) (N := 12) hx hb hts iX4_release_X4 hown hK.1 hP 3 rfl rfl 9 (by decide) (hts (.fieldLink RX4 37 "Bumpherald$Raises" "open" "[I") (List.mem_of_getElem? (i := 2) rfl)) (fun _ h9 => h9) rfl dX4_release_23 ?_
          refine lv_iload_n hx hb dX4_release_26 rfl (lv_at hl 2 rfl) ?_
          refine r_iald (Wd := bW ad cI cZ) (k := 17) (n := 10) hx hb hK hP 23 rfl hE dX4_release_27 (fun x5 hE => ?_)
          refine lv_istore (lv' := [(4, .int x5), (0, .ref (ad 3)), (2, .int v2), (3, .int v3)]) hx hb dX4_release_28 hl (by decide) rfl (fun ls hl => ?_)
          refine lv_aload_n hx hb dX4_release_30 rfl (lv_at hl 1 rfl) ?_
          refine va_get (D := D) (ci := 3) (v := .ref (ad 1)) (C := RX4) (T := TX4) (N := 12) hx hb hts iX4_release_X4 hown hK.1 hP 3 rfl rfl 0 (by decide) (hts (.fieldLink RX4 47 "Bumpherald$Raises" "packages" "LBumpherald$Packages;") (List.mem_of_getElem? (i := 3) rfl)) (fun _ h9 => h9) rfl dX4_release_31 ?_
          refine va_get (D := D) (ci := 2) (v := .ref (ad 6)) (C := RX3) (T := TX3) (N := 8) hx hb hts iX4_release_X3 hown hK.1 hP 1 rfl rfl 0 (by decide) (hts (.fieldLink RX4 58 "Bumpherald$Packages" "versions" "[I") (List.mem_of_getElem? (i := 4) rfl)) (fun _ h9 => h9) rfl dX4_release_34 ?_
          refine lv_aload_n hx hb dX4_release_37 rfl (lv_at hl 1 rfl) ?_
          refine va_get (D := D) (ci := 3) (v := .ref (ad 15)) (C := RX4) (T := TX4) (N := 12) hx hb hts iX4_release_X4 hown hK.1 hP 3 rfl rfl 1 (by decide) (hts (.fieldLink RX4 9 "Bumpherald$Raises" "packs" "[I") (List.mem_of_getElem? (i := 5) rfl)) (fun _ h9 => h9) rfl dX4_release_38 ?_
          refine lv_iload hx hb dX4_release_41 (lv_at hl 0 rfl) ?_
          refine r_iald (Wd := bW ad cI cZ) (k := 9) (n := 40) hx hb hK hP 15 rfl hE dX4_release_43 (fun x6 hE => ?_)
          refine lv_aload_n hx hb dX4_release_44 rfl (lv_at hl 1 rfl) ?_
          refine va_get (D := D) (ci := 3) (v := .ref (ad 16)) (C := RX4) (T := TX4) (N := 12) hx hb hts iX4_release_X4 hown hK.1 hP 3 rfl rfl 2 (by decide) (hts (.fieldLink RX4 15 "Bumpherald$Raises" "versions" "[I") (List.mem_of_getElem? (i := 6) rfl)) (fun _ h9 => h9) rfl dX4_release_45 ?_
          refine lv_iload hx hb dX4_release_48 (lv_at hl 0 rfl) ?_
          refine r_iald (Wd := bW ad cI cZ) (k := 10) (n := 40) hx hb hK hP 16 rfl hE dX4_release_50 (fun x7 hE => ?_)
          refine r_iast (Wd := bW ad cI cZ) (k := 0) (n := 12) hx hb hDD hK hP hS 6 rfl (bU0 ..) hE dX4_release_51 (fun S8 H locs hE hP hS => ?_)
          refine lv_aload_n hx hb dX4_release_52 rfl (lv_at hl 1 rfl) ?_
          refine lv_iload hx hb dX4_release_53 (lv_at hl 0 rfl) ?_
          refine lv_iconst (v := 1) hx hb dX4_release_55 (by decide) ?_
          refine r_callVv (Wd := bW ad cI cZ) (C := RX4) [.int x5, .int 1] [] ⟨hx, hb, hml, hown, hts⟩ (kX4_end l D ad cI cZ hDD S8 x5 1) (cwV 2 hts gX4_release_X4_end rfl rfl rfl (by decide +kernel) ⟨Nat.le_of_ble_eq_true rfl, Nat.le_of_ble_eq_true rfl⟩) (va_recv hK.1 hP (ci := 3) (q0 := 3) rfl rfl) hK hP hS (fun _ h9 => h9) rfl hl.1 rfl (Nat.le_of_ble_eq_true rfl) ⟨Nat.zero_le _, Nat.zero_le _⟩ hE dX4_release_56 (fun S10 H locs hE hP hS => ?_)
          refine lv_iinc (v := v3 + (-1)) (lv' := [(3, .int (v3 + (-1))), (4, .int x5), (0, .ref (ad 3)), (2, .int v2)]) hx hb dX4_release_59 hl (k := 3) rfl rfl (by decide) rfl (fun ls hl => ?_)
          refine lv_goto (tgt := 9) hx hb dX4_release_62 (by decide) ?_
          exact ih9 v2 (v3 + (-1)) S10 hE _ _ _ hP hS (lv_sub hl [2, 3, 0] rfl)
  unfold f4_release at hE
  refine lv_iload_n hx hb dX4_release_0 rfl (lv_at hl 1 rfl) ?_
  refine lv_istore_n (lv' := [(2, .int v1), (0, .ref (ad 3)), (1, .int v1)]) hx hb dX4_release_1 rfl hl (by decide) rfl (fun ls hl => ?_)
  refine lv_aload_n hx hb dX4_release_2 rfl (lv_at hl 1 rfl) ?_
  refine va_get (D := D) (ci := 3) (v := .int (S.1 5)) (C := RX4) (T := TX4) (N := 12) hx hb hts iX4_release_X4 hown hK.1 hP 3 rfl rfl 11 (by decide) (hts (.fieldLink RX4 44 "Bumpherald$Raises" "openCount" "I") (List.mem_of_getElem? (i := 1) rfl)) (fun _ h9 => h9) rfl dX4_release_3 ?_
  refine lv_iconst (v := 1) hx hb dX4_release_6 (by decide) ?_
  refine lv_isub hx hb dX4_release_7 ?_
  refine lv_istore_n (lv' := [(3, .int ((S.1 5) - 1)), (2, .int v1), (0, .ref (ad 3)), (1, .int v1)]) hx hb dX4_release_8 rfl hl (by decide) rfl (fun ls hl => ?_)
  exact H9 2000 v1 ((S.1 5) - 1) S hE _ _ _ hP hS (lv_sub hl [2, 1, 0] rfl)
theorem iX6_day_X6 : ∀ w ∈ wsX60, w ∈ wsX6_day := fun w h => List.mem_cons_of_mem _ (List.mem_append_right _ h)
set_option maxHeartbeats 4000000 in
set_option maxRecDepth 100000 in
theorem kX6_day (l : Launch) (D : va_G) (ad : Nat → Nat) (cI cZ : ClassId) (hDD : ∀ S, va_D (bA ad) (bW ad cI cZ S)) (S : St) : ∀ So ro, f6_day S  = some (So, ro) → Met l yX6_day wsX6_day { frames := 0, cells := 0, slots := 0, locals := 0 } (va_Pc [.ref (ad 0)] (kPre D cI cZ (bW ad cI cZ S))) (kQi D cI cZ (bA ad) (bW ad cI cZ So) ro) 0 0 (bA ad) := by
  intro So ro hE
  refine kMet_of (by decide) rfl (Nat.le_of_ble_eq_true rfl) ?_
  intro p e s m args below meth c ls hx hb hr hml hown hlk hts hK hP hS hl
  have hl : lv_has ls 1 [(0, .ref (ad 0))] := hl
  have hown : s.vm.findClass RX6 = some m.cls := hown
  unfold f6_day at hE
  refine lv_aload_n hx hb dX6_day_0 rfl (lv_at hl 0 rfl) ?_
  refine va_get (D := D) (ci := 5) (v := .int (S.1 0)) (C := RX6) (T := TX6) (N := 6) hx hb hts iX6_day_X6 hown hK.1 hP 0 rfl rfl 5 (by decide) (hts (.fieldLink RX6 50 "Bumpherald" "today" "I") (List.mem_of_getElem? (i := 1) rfl)) (fun _ h9 => h9) rfl dX6_day_1 ?_
  exact k_iret (Wd := bW ad cI cZ) hx hb hr hlk hK hP hS hE dX6_day_4
theorem iX6_isLandable_X6 : ∀ w ∈ wsX60, w ∈ wsX6_isLandable := fun w h => List.mem_cons_of_mem _ (List.mem_append_left _ (List.mem_append_left _ (List.mem_append_left _ (List.mem_append_right _ h))))
set_option maxHeartbeats 4000000 in
set_option maxRecDepth 100000 in
theorem kX6_isLandable (l : Launch) (D : va_G) (ad : Nat → Nat) (cI cZ : ClassId) (hDD : ∀ S, va_D (bA ad) (bW ad cI cZ S)) (S : St) (v1 : Int32) : ∀ So ro, f6_isLandable S v1 = some (So, ro) → Met l yX6_isLandable wsX6_isLandable { frames := 4, cells := 0, slots := 0, locals := 87 } (va_Pc [.ref (ad 0), .int v1] (kPre D cI cZ (bW ad cI cZ S))) (kQi D cI cZ (bA ad) (bW ad cI cZ So) ro) 0 0 (bA ad) := by
  intro So ro hE
  refine kMet_of (by decide) rfl (Nat.le_of_ble_eq_true rfl) ?_
  intro p e s m args below meth c ls hx hb hr hml hown hlk hts hK hP hS hl
  have hl : lv_has ls 2 [(0, .ref (ad 0)), (1, .int v1)] := hl
  have hown : s.vm.findClass RX6 = some m.cls := hown
  unfold f6_isLandable at hE
  refine lv_aload_n hx hb dX6_isLandable_0 rfl (lv_at hl 0 rfl) ?_
  refine va_get (D := D) (ci := 5) (v := .ref (ad 3)) (C := RX6) (T := TX6) (N := 6) hx hb hts iX6_isLandable_X6 hown hK.1 hP 0 rfl rfl 2 (by decide) (hts (.fieldLink RX6 28 "Bumpherald" "raises" "LBumpherald$Raises;") (List.mem_of_getElem? (i := 1) rfl)) (fun _ h9 => h9) rfl dX6_isLandable_1 ?_
  refine lv_iload_n hx hb dX6_isLandable_4 rfl (lv_at hl 1 rfl) ?_
  refine r_callVi (Wd := bW ad cI cZ) (C := RX4) [.int v1] [] ⟨hx, hb, hml, hown, hts⟩ (kX4_failing l D ad cI cZ hDD S v1) (cwV 1 hts gX6_isLandable_X4_failing rfl rfl rfl (by decide +kernel) ⟨Nat.le_of_ble_eq_true rfl, Nat.le_of_ble_eq_true rfl⟩) (va_recv hK.1 hP (ci := 3) (q0 := 3) rfl rfl) hK hP hS (fun _ h9 => h9) rfl hl.1 rfl (Nat.le_of_ble_eq_true rfl) ⟨Nat.zero_le _, Nat.zero_le _⟩ hE dX6_isLandable_5 (fun S2 x1 H locs hE hP hS => ?_)
  refine r_if_ne (tgt := 48) hx hb dX6_isLandable_8 (by decide) hE (fun c3 hE => ?_) (fun c3 hE => ?_)
  · refine lv_aload_n hx hb dX6_isLandable_11 rfl (lv_at hl 0 rfl) ?_
    refine va_get (D := D) (ci := 5) (v := .ref (ad 3)) (C := RX6) (T := TX6) (N := 6) hx hb hts iX6_isLandable_X6 hown hK.1 hP 0 rfl rfl 2 (by decide) (hts (.fieldLink RX6 28 "Bumpherald" "raises" "LBumpherald$Raises;") (List.mem_of_getElem? (i := 1) rfl)) (fun _ h9 => h9) rfl dX6_isLandable_12 ?_
    refine lv_iload_n hx hb dX6_isLandable_15 rfl (lv_at hl 1 rfl) ?_
    refine r_callVi (Wd := bW ad cI cZ) (C := RX4) [.int v1] [] ⟨hx, hb, hml, hown, hts⟩ (kX4_areApproved l D ad cI cZ hDD S2 v1) (cwV 1 hts gX6_isLandable_X4_areApproved rfl rfl rfl (by decide +kernel) ⟨Nat.le_of_ble_eq_true rfl, Nat.le_of_ble_eq_true rfl⟩) (va_recv hK.1 hP (ci := 3) (q0 := 3) rfl rfl) hK hP hS (fun _ h9 => h9) rfl hl.1 rfl (Nat.le_of_ble_eq_true rfl) ⟨Nat.zero_le _, Nat.zero_le _⟩ hE dX6_isLandable_16 (fun S5 x4 H locs hE hP hS => ?_)
    refine r_if_eq (tgt := 48) hx hb dX6_isLandable_19 (by decide) hE (fun c6 hE => ?_) (fun c6 hE => ?_)
    · refine lv_iconst (v := 0) hx hb dX6_isLandable_48 (by decide) ?_
      exact k_zret (Wd := bW ad cI cZ) hx hb hr hlk (by decide +kernel) hK hP hS hE dX6_isLandable_49
    · refine lv_aload_n hx hb dX6_isLandable_22 rfl (lv_at hl 0 rfl) ?_
      refine va_get (D := D) (ci := 5) (v := .ref (ad 2)) (C := RX6) (T := TX6) (N := 6) hx hb hts iX6_isLandable_X6 hown hK.1 hP 0 rfl rfl 1 (by decide) (hts (.fieldLink RX6 19 "Bumpherald" "freezes" "LBumpherald$Freezes;") (List.mem_of_getElem? (i := 2) rfl)) (fun _ h9 => h9) rfl dX6_isLandable_23 ?_
      refine lv_aload_n hx hb dX6_isLandable_26 rfl (lv_at hl 0 rfl) ?_
      refine va_get (D := D) (ci := 5) (v := .ref (ad 3)) (C := RX6) (T := TX6) (N := 6) hx hb hts iX6_isLandable_X6 hown hK.1 hP 0 rfl rfl 2 (by decide) (hts (.fieldLink RX6 28 "Bumpherald" "raises" "LBumpherald$Raises;") (List.mem_of_getElem? (i := 1) rfl)) (fun _ h9 => h9) rfl dX6_isLandable_27 ?_
      refine lv_iload_n hx hb dX6_isLandable_30 rfl (lv_at hl 1 rfl) ?_
      refine r_callVi (Wd := bW ad cI cZ) (C := RX4) [.int v1] [.ref (ad 2)] ⟨hx, hb, hml, hown, hts⟩ (kX4_packagesOf l D ad cI cZ hDD S5 v1) (cwV 1 hts gX6_isLandable_X4_packagesOf rfl rfl rfl (by decide +kernel) ⟨Nat.le_of_ble_eq_true rfl, Nat.le_of_ble_eq_true rfl⟩) (va_recv hK.1 hP (ci := 3) (q0 := 3) rfl rfl) hK hP hS (fun _ h9 => h9) rfl hl.1 rfl (Nat.le_of_ble_eq_true rfl) ⟨Nat.zero_le _, Nat.zero_le _⟩ hE dX6_isLandable_31 (fun S8 x7 H locs hE hP hS => ?_)
      refine lv_aload_n hx hb dX6_isLandable_34 rfl (lv_at hl 0 rfl) ?_
      refine va_get (D := D) (ci := 5) (v := .int (S8.1 0)) (C := RX6) (T := TX6) (N := 6) hx hb hts iX6_isLandable_X6 hown hK.1 hP 0 rfl rfl 5 (by decide) (hts (.fieldLink RX6 50 "Bumpherald" "today" "I") (List.mem_of_getElem? (i := 3) rfl)) (fun _ h9 => h9) rfl dX6_isLandable_35 ?_
      refine r_callVi (Wd := bW ad cI cZ) (C := RX1) [.int x7, .int (S8.1 0)] [] ⟨hx, hb, hml, hown, hts⟩ (kX1_isFrozen l D ad cI cZ hDD S8 x7 (S8.1 0)) (cwV 2 hts gX6_isLandable_X1_isFrozen rfl rfl rfl (by decide +kernel) ⟨Nat.le_of_ble_eq_true rfl, Nat.le_of_ble_eq_true rfl⟩) (va_recv hK.1 hP (ci := 0) (q0 := 2) rfl rfl) hK hP hS (fun _ h9 => h9) rfl hl.1 rfl (Nat.le_of_ble_eq_true rfl) ⟨Nat.zero_le _, Nat.zero_le _⟩ hE dX6_isLandable_38 (fun S10 x9 H locs hE hP hS => ?_)
      refine r_if_ne (tgt := 48) hx hb dX6_isLandable_41 (by decide) hE (fun c11 hE => ?_) (fun c11 hE => ?_)
      · refine lv_iconst (v := 1) hx hb dX6_isLandable_44 (by decide) ?_
        refine lv_goto (tgt := 49) hx hb dX6_isLandable_45 (by decide) ?_
        exact k_zret (Wd := bW ad cI cZ) hx hb hr hlk (by decide +kernel) hK hP hS hE dX6_isLandable_49
      · refine lv_iconst (v := 0) hx hb dX6_isLandable_48 (by decide) ?_
        exact k_zret (Wd := bW ad cI cZ) hx hb hr hlk (by decide +kernel) hK hP hS hE dX6_isLandable_49
  · refine lv_iconst (v := 0) hx hb dX6_isLandable_48 (by decide) ?_
    exact k_zret (Wd := bW ad cI cZ) hx hb hr hlk (by decide +kernel) hK hP hS hE dX6_isLandable_49
