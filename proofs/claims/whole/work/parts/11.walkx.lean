/-! walks, by program -/
theorem iX6_pack_X3 : ∀ w ∈ wsX30, w ∈ wsX6_pack := fun w h => List.mem_cons_of_mem _ (List.mem_append_left _ (List.mem_append_left _ (List.mem_append_right _ h)))
theorem iX6_pack_X6 : ∀ w ∈ wsX60, w ∈ wsX6_pack := fun w h => List.mem_cons_of_mem _ (List.mem_append_left _ (List.mem_append_left _ (List.mem_append_left _ (List.mem_append_right _ h))))
theorem xX6_pack_2 : ∀ w ∈ (vx_atS RX6 62 "java/lang/IllegalArgumentException" ["java/lang/RuntimeException", "java/lang/Exception"]).filter goodWord, w ∈ wsX6_pack := fun w h => List.mem_cons_of_mem _ (List.mem_append_left _ (List.mem_append_right _ h))
theorem xX6_pack_3 : ∀ w ∈ (vx_atS RX6 72 "java/lang/IllegalStateException" ["java/lang/RuntimeException", "java/lang/Exception"]).filter goodWord, w ∈ wsX6_pack := fun w h => List.mem_cons_of_mem _ (List.mem_append_right _ h)
set_option maxHeartbeats 4000000 in
set_option maxRecDepth 100000 in
theorem kX6_pack (l : Launch) (hst : l.stackTraces = false) (D : va_G) (ad : Nat → Nat) (cI cZ : ClassId) (hDD : ∀ S, va_D (bA ad) (bW ad cI cZ S)) (S : St) (v1 : Int32) : ∀ So ro co, y6_pack S v1 = some (So, ro, co) → vx_Met l yX6_pack wsX6_pack (xRm 6 90 co) (va_Pc [.ref (ad 0), .int v1] (xPre D cI cZ (bA ad) (bW ad cI cZ S))) (xQi D cI cZ (bA ad) (bW ad cI cZ So) ro co) (xXC D cI cZ (bA ad) (bW ad cI cZ So) co) (xC co) (xS co) (bA ad) := by
  intro So ro co hE
  refine xMet_of (by decide) rfl (Nat.le_of_ble_eq_true rfl) ?_
  intro p e s m args below meth c ls hx hb hr hml hown hlk hts ht hK hP hX hS hl
  have hl : lv_has ls 2 [(0, .ref (ad 0)), (1, .int v1)] := hl
  have hown : s.vm.findClass RX6 = some m.cls := hown
  unfold y6_pack at hE
  refine lv_iload_n hx hb dX6_pack_0 rfl (lv_at hl 1 rfl) ?_
  refine lv_iconst (v := 1) hx hb dX6_pack_1 (by decide) ?_
  refine lv_bipush (v := 99) hx hb dX6_pack_2 (by decide) ?_
  refine r_callSi (Wd := bW ad cI cZ) [.int v1, .int 1, .int 99] [] ⟨hx, hb, hml, hown, hts⟩ (kX6_isWithin l D ad cI cZ hDD S v1 1 99) (va_cwS 3 hts gX6_pack_X6_isWithin rfl rfl rfl (by decide +kernel) ⟨Nat.le_of_ble_eq_true rfl, Nat.le_of_ble_eq_true rfl⟩) hK hP hS (fun _ h9 => h9) rfl hl.1 rfl (Nat.le_of_ble_eq_true rfl) ⟨Nat.zero_le _, Nat.zero_le _⟩ hE dX6_pack_4 (fun S2 x1 H locs hE hP hS => ?_)
  refine r_if_ne (tgt := 20) hx hb dX6_pack_7 (by decide) hE (fun c3 hE => ?_) (fun c3 hE => ?_)
  · exact kx_throw (Wd := bW ad cI cZ) (own := RX6) (text := "no such version") (names := ["java/lang/RuntimeException", "java/lang/Exception"]) (code := 1) hx hb hst hown rfl (by decide +kernel) (by decide +kernel) (hts (.classLink RX6 58 "java/lang/IllegalArgumentException") (List.mem_of_getElem? (i := 1) rfl)) (hts (.initialized "java/lang/IllegalArgumentException") (List.mem_of_getElem? (i := 2) rfl)) (by decide +kernel) (vx_hat (B := xNg) (fun w h => hts w (xX6_pack_2 w h)) xng2 (fun w h => va_Nw.use (xNg_ok w h).2 (hX.2.2.2 w h))) xgood2 hK hP hX hS (by rw [hml]; exact hl.1) ht hlk (Nat.le_of_ble_eq_true rfl) (Nat.le_of_ble_eq_true rfl) ⟨rfl, rfl⟩ hE dX6_pack_10 dX6_pack_13 dX6_pack_14 dX6_pack_16 dX6_pack_19
  · refine lv_aload_n hx hb dX6_pack_20 rfl (lv_at hl 0 rfl) ?_
    refine va_get (D := D) (ci := 5) (v := .ref (ad 1)) (C := RX6) (T := TX6) (N := 6) hx hb hts iX6_pack_X6 hown hK.1 hP 0 rfl rfl 0 (by decide) (hts (.fieldLink RX6 10 "Bumpherald" "packages" "LBumpherald$Packages;") (List.mem_of_getElem? (i := 5) rfl)) (fun _ h9 => h9) rfl dX6_pack_21 ?_
    refine va_get (D := D) (ci := 2) (v := .int (S2.1 1)) (C := RX3) (T := TX3) (N := 8) hx hb hts iX6_pack_X3 hown hK.1 hP 1 rfl rfl 6 (by decide) (hts (.fieldLink RX6 65 "Bumpherald$Packages" "count" "I") (List.mem_of_getElem? (i := 6) rfl)) (fun _ h9 => h9) rfl dX6_pack_24 ?_
    refine lv_bipush (v := 12) hx hb dX6_pack_27 (by decide) ?_
    refine r_icmp_lt (tgt := 42) hx hb dX6_pack_29 (by decide) hE (fun c4 hE => ?_) (fun c4 hE => ?_)
    · refine lv_aload_n hx hb dX6_pack_42 rfl (lv_at hl 0 rfl) ?_
      refine va_get (D := D) (ci := 5) (v := .ref (ad 1)) (C := RX6) (T := TX6) (N := 6) hx hb hts iX6_pack_X6 hown hK.1 hP 0 rfl rfl 0 (by decide) (hts (.fieldLink RX6 10 "Bumpherald" "packages" "LBumpherald$Packages;") (List.mem_of_getElem? (i := 5) rfl)) (fun _ h9 => h9) rfl dX6_pack_43 ?_
      refine lv_iload_n hx hb dX6_pack_46 rfl (lv_at hl 1 rfl) ?_
      refine r_callVi (Wd := bW ad cI cZ) (C := RX3) [.int v1] [] ⟨hx, hb, hml, hown, hts⟩ (kX3_add l D ad cI cZ hDD S2 v1) (cwV 1 hts gX6_pack_X3_add rfl rfl rfl (by decide +kernel) ⟨Nat.le_of_ble_eq_true rfl, Nat.le_of_ble_eq_true rfl⟩) (va_recv hK.1 hP (ci := 2) (q0 := 1) rfl rfl) hK hP hS (fun _ h9 => h9) rfl hl.1 rfl (Nat.le_of_ble_eq_true rfl) ⟨Nat.zero_le _, Nat.zero_le _⟩ hE dX6_pack_47 (fun S6 x5 H locs hE hP hS => ?_)
      exact kx_iret (Wd := bW ad cI cZ) hx hb hr hlk hK hP hS hE dX6_pack_50
    · exact kx_throw (Wd := bW ad cI cZ) (own := RX6) (text := "no more packages") (names := ["java/lang/RuntimeException", "java/lang/Exception"]) (code := 2) hx hb hst hown rfl (by decide +kernel) (by decide +kernel) (hts (.classLink RX6 68 "java/lang/IllegalStateException") (List.mem_of_getElem? (i := 3) rfl)) (hts (.initialized "java/lang/IllegalStateException") (List.mem_of_getElem? (i := 4) rfl)) (by decide +kernel) (vx_hat (B := xNg) (fun w h => hts w (xX6_pack_3 w h)) xng3 (fun w h => va_Nw.use (xNg_ok w h).2 (hX.2.2.2 w h))) xgood3 hK hP hX hS (by rw [hml]; exact hl.1) ht hlk (Nat.le_of_ble_eq_true rfl) (Nat.le_of_ble_eq_true rfl) ⟨rfl, rfl⟩ hE dX6_pack_32 dX6_pack_35 dX6_pack_36 dX6_pack_38 dX6_pack_41
theorem iX6_checkPackage_X3 : ∀ w ∈ wsX30, w ∈ wsX6_checkPackage := fun w h => List.mem_cons_of_mem _ (List.mem_append_left _ (List.mem_append_right _ h))
theorem iX6_checkPackage_X6 : ∀ w ∈ wsX60, w ∈ wsX6_checkPackage := fun w h => List.mem_cons_of_mem _ (List.mem_append_left _ (List.mem_append_left _ (List.mem_append_right _ h)))
theorem xX6_checkPackage_1 : ∀ w ∈ (vx_atS RX6 220 "java/lang/IndexOutOfBoundsException" ["java/lang/RuntimeException", "java/lang/Exception"]).filter goodWord, w ∈ wsX6_checkPackage := fun w h => List.mem_cons_of_mem _ (List.mem_append_right _ h)
set_option maxHeartbeats 4000000 in
set_option maxRecDepth 100000 in
theorem kX6_checkPackage (l : Launch) (hst : l.stackTraces = false) (D : va_G) (ad : Nat → Nat) (cI cZ : ClassId) (hDD : ∀ S, va_D (bA ad) (bW ad cI cZ S)) (S : St) (v1 : Int32) : ∀ So ro co, y6_checkPackage S v1 = some (So, ro, co) → vx_Met l yX6_checkPackage wsX6_checkPackage (xRm 6 90 co) (va_Pc [.ref (ad 0), .int v1] (xPre D cI cZ (bA ad) (bW ad cI cZ S))) (xQv D cI cZ (bA ad) (bW ad cI cZ So) co) (xXC D cI cZ (bA ad) (bW ad cI cZ So) co) (xC co) (xS co) (bA ad) := by
  intro So ro co hE
  refine xMet_of (by decide) rfl (Nat.le_of_ble_eq_true rfl) ?_
  intro p e s m args below meth c ls hx hb hr hml hown hlk hts ht hK hP hX hS hl
  have hl : lv_has ls 2 [(0, .ref (ad 0)), (1, .int v1)] := hl
  have hown : s.vm.findClass RX6 = some m.cls := hown
  unfold y6_checkPackage at hE
  refine lv_iload_n hx hb dX6_checkPackage_0 rfl (lv_at hl 1 rfl) ?_
  refine lv_iconst (v := 0) hx hb dX6_checkPackage_1 (by decide) ?_
  refine lv_aload_n hx hb dX6_checkPackage_2 rfl (lv_at hl 0 rfl) ?_
  refine va_get (D := D) (ci := 5) (v := .ref (ad 1)) (C := RX6) (T := TX6) (N := 6) hx hb hts iX6_checkPackage_X6 hown hK.1 hP 0 rfl rfl 0 (by decide) (hts (.fieldLink RX6 10 "Bumpherald" "packages" "LBumpherald$Packages;") (List.mem_of_getElem? (i := 3) rfl)) (fun _ h9 => h9) rfl dX6_checkPackage_3 ?_
  refine va_get (D := D) (ci := 2) (v := .int (S.1 1)) (C := RX3) (T := TX3) (N := 8) hx hb hts iX6_checkPackage_X3 hown hK.1 hP 1 rfl rfl 6 (by decide) (hts (.fieldLink RX6 65 "Bumpherald$Packages" "count" "I") (List.mem_of_getElem? (i := 4) rfl)) (fun _ h9 => h9) rfl dX6_checkPackage_6 ?_
  refine lv_iconst (v := 1) hx hb dX6_checkPackage_9 (by decide) ?_
  refine lv_isub hx hb dX6_checkPackage_10 ?_
  refine r_callSi (Wd := bW ad cI cZ) [.int v1, .int 0, .int ((S.1 1) - 1)] [] ⟨hx, hb, hml, hown, hts⟩ (kX6_isWithin l D ad cI cZ hDD S v1 0 ((S.1 1) - 1)) (va_cwS 3 hts gX6_checkPackage_X6_isWithin rfl rfl rfl (by decide +kernel) ⟨Nat.le_of_ble_eq_true rfl, Nat.le_of_ble_eq_true rfl⟩) hK hP hS (fun _ h9 => h9) rfl hl.1 rfl (Nat.le_of_ble_eq_true rfl) ⟨Nat.zero_le _, Nat.zero_le _⟩ hE dX6_checkPackage_11 (fun S2 x1 H locs hE hP hS => ?_)
  refine r_if_ne (tgt := 27) hx hb dX6_checkPackage_14 (by decide) hE (fun c3 hE => ?_) (fun c3 hE => ?_)
  · exact kx_throw (Wd := bW ad cI cZ) (own := RX6) (text := "no such package") (names := ["java/lang/RuntimeException", "java/lang/Exception"]) (code := 0) hx hb hst hown rfl (by decide +kernel) (by decide +kernel) (hts (.classLink RX6 216 "java/lang/IndexOutOfBoundsException") (List.mem_of_getElem? (i := 1) rfl)) (hts (.initialized "java/lang/IndexOutOfBoundsException") (List.mem_of_getElem? (i := 2) rfl)) (by decide +kernel) (vx_hat (B := xNg) (fun w h => hts w (xX6_checkPackage_1 w h)) xng1 (fun w h => va_Nw.use (xNg_ok w h).2 (hX.2.2.2 w h))) xgood1 hK hP hX hS (by rw [hml]; exact hl.1) ht hlk (Nat.le_of_ble_eq_true rfl) (Nat.le_of_ble_eq_true rfl) ⟨rfl, rfl⟩ hE dX6_checkPackage_17 dX6_checkPackage_20 dX6_checkPackage_21 dX6_checkPackage_23 dX6_checkPackage_26
  · exact kx_vret (Wd := bW ad cI cZ) hx hb hr hlk hK hP hS hE dX6_checkPackage_27
theorem iX6_need_X3 : ∀ w ∈ wsX30, w ∈ wsX6_need := fun w h => List.mem_cons_of_mem _ (List.mem_append_left _ (List.mem_append_left _ (List.mem_append_left _ (List.mem_append_right _ h))))
theorem iX6_need_X6 : ∀ w ∈ wsX60, w ∈ wsX6_need := fun w h => List.mem_cons_of_mem _ (List.mem_append_left _ (List.mem_append_left _ (List.mem_append_left _ (List.mem_append_left _ (List.mem_append_right _ h)))))
theorem xX6_need_2 : ∀ w ∈ (vx_atS RX6 62 "java/lang/IllegalArgumentException" ["java/lang/RuntimeException", "java/lang/Exception"]).filter goodWord, w ∈ wsX6_need := fun w h => List.mem_cons_of_mem _ (List.mem_append_left _ (List.mem_append_left _ (List.mem_append_right _ h)))
theorem xX6_need_3 : ∀ w ∈ (vx_atS RX6 72 "java/lang/IllegalStateException" ["java/lang/RuntimeException", "java/lang/Exception"]).filter goodWord, w ∈ wsX6_need := fun w h => List.mem_cons_of_mem _ (List.mem_append_left _ (List.mem_append_right _ h))
set_option maxHeartbeats 4000000 in
set_option maxRecDepth 100000 in
theorem kX6_need (l : Launch) (hst : l.stackTraces = false) (D : va_G) (ad : Nat → Nat) (cI cZ : ClassId) (hDD : ∀ S, va_D (bA ad) (bW ad cI cZ S)) (S : St) (v1 : Int32) (v2 : Int32) (v3 : Int32) (v4 : Int32) : ∀ So ro co, y6_need S v1 v2 v3 v4 = some (So, ro, co) → vx_Met l yX6_need wsX6_need (xRm 7 111 co) (va_Pc [.ref (ad 0), .int v1, .int v2, .int v3, .int v4] (xPre D cI cZ (bA ad) (bW ad cI cZ S))) (xQi D cI cZ (bA ad) (bW ad cI cZ So) ro co) (xXC D cI cZ (bA ad) (bW ad cI cZ So) co) (xC co) (xS co) (bA ad) := by
  intro So ro co hE
  refine xMet_of (by decide) rfl (Nat.le_of_ble_eq_true rfl) ?_
  intro p e s m args below meth c ls hx hb hr hml hown hlk hts ht hK hP hX hS hl
  have hl : lv_has ls 5 [(0, .ref (ad 0)), (1, .int v1), (2, .int v2), (3, .int v3), (4, .int v4)] := hl
  have hown : s.vm.findClass RX6 = some m.cls := hown
  have H37 : ∀ (S : St), y6_need_J37   S = some (So, ro, co) → ∀ (H : Heap) (locs : List Loc) (ls : Array Slot), va_P D vwCl (bW ad cI cZ S) H → va_S (bA ad) s.heap H locs → lv_has ls 5 [] → W p l e (headSpec wsX6_need (xRm 7 111 co)).room s m args below meth c H locs 0 0 (vx_MQ below (xQi D cI cZ (bA ad) (bW ad cI cZ So) ro co) (xXC D cI cZ (bA ad) (bW ad cI cZ So) co) args s (xC co) (xS co) (bA ad)) (F0 m 37 ls []) := by
    intro  S hE H locs ls hP hS hl
    unfold y6_need_J37 at hE
    exact kx_throw (Wd := bW ad cI cZ) (own := RX6) (text := "no such need") (names := ["java/lang/RuntimeException", "java/lang/Exception"]) (code := 1) hx hb hst hown rfl (by decide +kernel) (by decide +kernel) (hts (.classLink RX6 58 "java/lang/IllegalArgumentException") (List.mem_of_getElem? (i := 1) rfl)) (hts (.initialized "java/lang/IllegalArgumentException") (List.mem_of_getElem? (i := 2) rfl)) (by decide +kernel) (vx_hat (B := xNg) (fun w h => hts w (xX6_need_2 w h)) xng2 (fun w h => va_Nw.use (xNg_ok w h).2 (hX.2.2.2 w h))) xgood2 hK hP hX hS (by rw [hml]; exact hl.1) ht hlk (Nat.le_of_ble_eq_true rfl) (Nat.le_of_ble_eq_true rfl) ⟨rfl, rfl⟩ hE dX6_need_37 dX6_need_40 dX6_need_41 dX6_need_43 dX6_need_46
  unfold y6_need at hE
  refine lv_aload_n hx hb dX6_need_0 rfl (lv_at hl 0 rfl) ?_
  refine lv_iload_n hx hb dX6_need_1 rfl (lv_at hl 1 rfl) ?_
  refine r_callYv (Wd := bW ad cI cZ) (C := RX6) [.int v1] [] ⟨hx, hb, hml, hown, hts⟩ (kX6_checkPackage l hst D ad cI cZ hDD S v1) (fun k => cwV 1 hts gX6_need_X6_checkPackage rfl rfl rfl (by decide +kernel) ⟨Nat.le_of_ble_eq_true rfl, Nat.le_of_ble_eq_true rfl⟩) (va_recv hK.1 hP (ci := 5) (q0 := 0) rfl rfl) hK hP hX hS ⟨rfl, rfl⟩ ht hlk rfl hl.1 rfl (Nat.le_of_ble_eq_true rfl) hE dX6_need_2 (fun S2 x1 H locs hE hP hS => ?_)
  refine lv_aload_n hx hb dX6_need_5 rfl (lv_at hl 0 rfl) ?_
  refine lv_iload_n hx hb dX6_need_6 rfl (lv_at hl 2 rfl) ?_
  refine r_callYv (Wd := bW ad cI cZ) (C := RX6) [.int v2] [] ⟨hx, hb, hml, hown, hts⟩ (kX6_checkPackage l hst D ad cI cZ hDD S2 v2) (fun k => cwV 1 hts gX6_need_X6_checkPackage rfl rfl rfl (by decide +kernel) ⟨Nat.le_of_ble_eq_true rfl, Nat.le_of_ble_eq_true rfl⟩) (va_recv hK.1 hP (ci := 5) (q0 := 0) rfl rfl) hK hP hX hS ⟨rfl, rfl⟩ ht hlk rfl hl.1 rfl (Nat.le_of_ble_eq_true rfl) hE dX6_need_7 (fun S4 x3 H locs hE hP hS => ?_)
  refine lv_iload_n hx hb dX6_need_10 rfl (lv_at hl 1 rfl) ?_
  refine lv_iload_n hx hb dX6_need_11 rfl (lv_at hl 2 rfl) ?_
  refine r_icmp_eq (tgt := 37) hx hb dX6_need_12 (by decide) hE (fun c5 hE => ?_) (fun c5 hE => ?_)
  · exact H37 S4 hE _ _ _ hP hS (lv_sub hl [] rfl)
  · refine lv_iload_n hx hb dX6_need_15 rfl (lv_at hl 3 rfl) ?_
    refine lv_bipush (v := -98) hx hb dX6_need_16 (by decide) ?_
    refine lv_bipush (v := 98) hx hb dX6_need_18 (by decide) ?_
    refine r_callSi (Wd := bW ad cI cZ) [.int v3, .int ((-98)), .int 98] [] ⟨hx, hb, hml, hown, hts⟩ (kX6_isWithin l D ad cI cZ hDD S4 v3 ((-98)) 98) (va_cwS 3 hts gX6_need_X6_isWithin rfl rfl rfl (by decide +kernel) ⟨Nat.le_of_ble_eq_true rfl, Nat.le_of_ble_eq_true rfl⟩) hK hP hS (fun _ h9 => h9) rfl hl.1 rfl (Nat.le_of_ble_eq_true rfl) ⟨Nat.zero_le _, Nat.zero_le _⟩ hE dX6_need_20 (fun S7 x6 H locs hE hP hS => ?_)
    refine r_if_eq (tgt := 37) hx hb dX6_need_23 (by decide) hE (fun c8 hE => ?_) (fun c8 hE => ?_)
    · exact H37 S7 hE _ _ _ hP hS (lv_sub hl [] rfl)
    · refine lv_iload hx hb dX6_need_26 (lv_at hl 4 rfl) ?_
      refine lv_iload_n hx hb dX6_need_28 rfl (lv_at hl 3 rfl) ?_
      refine lv_bipush (v := 98) hx hb dX6_need_29 (by decide) ?_
      refine r_callSi (Wd := bW ad cI cZ) [.int v4, .int v3, .int 98] [] ⟨hx, hb, hml, hown, hts⟩ (kX6_isWithin l D ad cI cZ hDD S7 v4 v3 98) (va_cwS 3 hts gX6_need_X6_isWithin rfl rfl rfl (by decide +kernel) ⟨Nat.le_of_ble_eq_true rfl, Nat.le_of_ble_eq_true rfl⟩) hK hP hS (fun _ h9 => h9) rfl hl.1 rfl (Nat.le_of_ble_eq_true rfl) ⟨Nat.zero_le _, Nat.zero_le _⟩ hE dX6_need_31 (fun S10 x9 H locs hE hP hS => ?_)
      refine r_if_ne (tgt := 47) hx hb dX6_need_34 (by decide) hE (fun c11 hE => ?_) (fun c11 hE => ?_)
      · exact H37 S10 hE _ _ _ hP hS (lv_sub hl [] rfl)
      · refine lv_aload_n hx hb dX6_need_47 rfl (lv_at hl 0 rfl) ?_
        refine va_get (D := D) (ci := 5) (v := .ref (ad 1)) (C := RX6) (T := TX6) (N := 6) hx hb hts iX6_need_X6 hown hK.1 hP 0 rfl rfl 0 (by decide) (hts (.fieldLink RX6 10 "Bumpherald" "packages" "LBumpherald$Packages;") (List.mem_of_getElem? (i := 5) rfl)) (fun _ h9 => h9) rfl dX6_need_48 ?_
        refine va_get (D := D) (ci := 2) (v := .ref (ad 6)) (C := RX3) (T := TX3) (N := 8) hx hb hts iX6_need_X3 hown hK.1 hP 1 rfl rfl 0 (by decide) (hts (.fieldLink RX6 83 "Bumpherald$Packages" "versions" "[I") (List.mem_of_getElem? (i := 6) rfl)) (fun _ h9 => h9) rfl dX6_need_51 ?_
        refine lv_iload_n hx hb dX6_need_54 rfl (lv_at hl 2 rfl) ?_
        refine r_iald (Wd := bW ad cI cZ) (k := 0) (n := 12) hx hb hK hP 6 rfl hE dX6_need_55 (fun x12 hE => ?_)
        refine lv_aload_n hx hb dX6_need_56 rfl (lv_at hl 0 rfl) ?_
        refine va_get (D := D) (ci := 5) (v := .ref (ad 1)) (C := RX6) (T := TX6) (N := 6) hx hb hts iX6_need_X6 hown hK.1 hP 0 rfl rfl 0 (by decide) (hts (.fieldLink RX6 10 "Bumpherald" "packages" "LBumpherald$Packages;") (List.mem_of_getElem? (i := 5) rfl)) (fun _ h9 => h9) rfl dX6_need_57 ?_
        refine va_get (D := D) (ci := 2) (v := .ref (ad 6)) (C := RX3) (T := TX3) (N := 8) hx hb hts iX6_need_X3 hown hK.1 hP 1 rfl rfl 0 (by decide) (hts (.fieldLink RX6 83 "Bumpherald$Packages" "versions" "[I") (List.mem_of_getElem? (i := 6) rfl)) (fun _ h9 => h9) rfl dX6_need_60 ?_
        refine lv_iload_n hx hb dX6_need_63 rfl (lv_at hl 1 rfl) ?_
        refine r_iald (Wd := bW ad cI cZ) (k := 0) (n := 12) hx hb hK hP 6 rfl hE dX6_need_64 (fun x13 hE => ?_)
        refine lv_isub hx hb dX6_need_65 ?_
        refine lv_iload_n hx hb dX6_need_66 rfl (lv_at hl 3 rfl) ?_
        refine lv_iload hx hb dX6_need_67 (lv_at hl 4 rfl) ?_
        refine r_callSi (Wd := bW ad cI cZ) [.int (x12 - x13), .int v3, .int v4] [] ⟨hx, hb, hml, hown, hts⟩ (kX6_isWithin l D ad cI cZ hDD S10 (x12 - x13) v3 v4) (va_cwS 3 hts gX6_need_X6_isWithin rfl rfl rfl (by decide +kernel) ⟨Nat.le_of_ble_eq_true rfl, Nat.le_of_ble_eq_true rfl⟩) hK hP hS (fun _ h9 => h9) rfl hl.1 rfl (Nat.le_of_ble_eq_true rfl) ⟨Nat.zero_le _, Nat.zero_le _⟩ hE dX6_need_69 (fun S15 x14 H locs hE hP hS => ?_)
        refine r_if_ne (tgt := 85) hx hb dX6_need_72 (by decide) hE (fun c16 hE => ?_) (fun c16 hE => ?_)
        · exact kx_throw (Wd := bW ad cI cZ) (own := RX6) (text := "the need does not hold now") (names := ["java/lang/RuntimeException", "java/lang/Exception"]) (code := 2) hx hb hst hown rfl (by decide +kernel) (by decide +kernel) (hts (.classLink RX6 68 "java/lang/IllegalStateException") (List.mem_of_getElem? (i := 3) rfl)) (hts (.initialized "java/lang/IllegalStateException") (List.mem_of_getElem? (i := 4) rfl)) (by decide +kernel) (vx_hat (B := xNg) (fun w h => hts w (xX6_need_3 w h)) xng3 (fun w h => va_Nw.use (xNg_ok w h).2 (hX.2.2.2 w h))) xgood3 hK hP hX hS (by rw [hml]; exact hl.1) ht hlk (Nat.le_of_ble_eq_true rfl) (Nat.le_of_ble_eq_true rfl) ⟨rfl, rfl⟩ hE dX6_need_75 dX6_need_78 dX6_need_79 dX6_need_81 dX6_need_84
        · refine lv_aload_n hx hb dX6_need_85 rfl (lv_at hl 0 rfl) ?_
          refine va_get (D := D) (ci := 5) (v := .ref (ad 1)) (C := RX6) (T := TX6) (N := 6) hx hb hts iX6_need_X6 hown hK.1 hP 0 rfl rfl 0 (by decide) (hts (.fieldLink RX6 10 "Bumpherald" "packages" "LBumpherald$Packages;") (List.mem_of_getElem? (i := 5) rfl)) (fun _ h9 => h9) rfl dX6_need_86 ?_
          refine va_get (D := D) (ci := 2) (v := .int (S15.1 2)) (C := RX3) (T := TX3) (N := 8) hx hb hts iX6_need_X3 hown hK.1 hP 1 rfl rfl 7 (by decide) (hts (.fieldLink RX6 89 "Bumpherald$Packages" "needCount" "I") (List.mem_of_getElem? (i := 7) rfl)) (fun _ h9 => h9) rfl dX6_need_89 ?_
          refine lv_bipush (v := 20) hx hb dX6_need_92 (by decide) ?_
          refine r_icmp_lt (tgt := 107) hx hb dX6_need_94 (by decide) hE (fun c17 hE => ?_) (fun c17 hE => ?_)
          · refine lv_aload_n hx hb dX6_need_107 rfl (lv_at hl 0 rfl) ?_
            refine va_get (D := D) (ci := 5) (v := .ref (ad 1)) (C := RX6) (T := TX6) (N := 6) hx hb hts iX6_need_X6 hown hK.1 hP 0 rfl rfl 0 (by decide) (hts (.fieldLink RX6 10 "Bumpherald" "packages" "LBumpherald$Packages;") (List.mem_of_getElem? (i := 5) rfl)) (fun _ h9 => h9) rfl dX6_need_108 ?_
            refine lv_iload_n hx hb dX6_need_111 rfl (lv_at hl 1 rfl) ?_
            refine lv_iload_n hx hb dX6_need_112 rfl (lv_at hl 2 rfl) ?_
            refine lv_iload_n hx hb dX6_need_113 rfl (lv_at hl 3 rfl) ?_
            refine lv_iload hx hb dX6_need_114 (lv_at hl 4 rfl) ?_
            refine r_callVi (Wd := bW ad cI cZ) (C := RX3) [.int v1, .int v2, .int v3, .int v4] [] ⟨hx, hb, hml, hown, hts⟩ (kX3_addNeed l D ad cI cZ hDD S15 v1 v2 v3 v4) (cwV 4 hts gX6_need_X3_addNeed rfl rfl rfl (by decide +kernel) ⟨Nat.le_of_ble_eq_true rfl, Nat.le_of_ble_eq_true rfl⟩) (va_recv hK.1 hP (ci := 2) (q0 := 1) rfl rfl) hK hP hS (fun _ h9 => h9) rfl hl.1 rfl (Nat.le_of_ble_eq_true rfl) ⟨Nat.zero_le _, Nat.zero_le _⟩ hE dX6_need_116 (fun S19 x18 H locs hE hP hS => ?_)
            exact kx_iret (Wd := bW ad cI cZ) hx hb hr hlk hK hP hS hE dX6_need_119
          · exact kx_throw (Wd := bW ad cI cZ) (own := RX6) (text := "no more needs") (names := ["java/lang/RuntimeException", "java/lang/Exception"]) (code := 2) hx hb hst hown rfl (by decide +kernel) (by decide +kernel) (hts (.classLink RX6 68 "java/lang/IllegalStateException") (List.mem_of_getElem? (i := 3) rfl)) (hts (.initialized "java/lang/IllegalStateException") (List.mem_of_getElem? (i := 4) rfl)) (by decide +kernel) (vx_hat (B := xNg) (fun w h => hts w (xX6_need_3 w h)) xng3 (fun w h => va_Nw.use (xNg_ok w h).2 (hX.2.2.2 w h))) xgood3 hK hP hX hS (by rw [hml]; exact hl.1) ht hlk (Nat.le_of_ble_eq_true rfl) (Nat.le_of_ble_eq_true rfl) ⟨rfl, rfl⟩ hE dX6_need_97 dX6_need_100 dX6_need_101 dX6_need_103 dX6_need_106
theorem xX6_checkReviewer_1 : ∀ w ∈ (vx_atS RX6 220 "java/lang/IndexOutOfBoundsException" ["java/lang/RuntimeException", "java/lang/Exception"]).filter goodWord, w ∈ wsX6_checkReviewer := fun w h => List.mem_cons_of_mem _ (List.mem_append_right _ h)
set_option maxHeartbeats 4000000 in
set_option maxRecDepth 100000 in
theorem kX6_checkReviewer (l : Launch) (hst : l.stackTraces = false) (D : va_G) (ad : Nat → Nat) (cI cZ : ClassId) (hDD : ∀ S, va_D (bA ad) (bW ad cI cZ S)) (S : St) (v1 : Int32) : ∀ So ro co, y6_checkReviewer S v1 = some (So, ro, co) → vx_Met l yX6_checkReviewer wsX6_checkReviewer (xRm 6 90 co) (va_Pc [.ref (ad 0), .int v1] (xPre D cI cZ (bA ad) (bW ad cI cZ S))) (xQv D cI cZ (bA ad) (bW ad cI cZ So) co) (xXC D cI cZ (bA ad) (bW ad cI cZ So) co) (xC co) (xS co) (bA ad) := by
  intro So ro co hE
  refine xMet_of (by decide) rfl (Nat.le_of_ble_eq_true rfl) ?_
  intro p e s m args below meth c ls hx hb hr hml hown hlk hts ht hK hP hX hS hl
  have hl : lv_has ls 2 [(0, .ref (ad 0)), (1, .int v1)] := hl
  have hown : s.vm.findClass RX6 = some m.cls := hown
  unfold y6_checkReviewer at hE
  refine lv_iload_n hx hb dX6_checkReviewer_0 rfl (lv_at hl 1 rfl) ?_
  refine lv_iconst (v := 0) hx hb dX6_checkReviewer_1 (by decide) ?_
  refine lv_iconst (v := 5) hx hb dX6_checkReviewer_2 (by decide) ?_
  refine r_callSi (Wd := bW ad cI cZ) [.int v1, .int 0, .int 5] [] ⟨hx, hb, hml, hown, hts⟩ (kX6_isWithin l D ad cI cZ hDD S v1 0 5) (va_cwS 3 hts gX6_checkReviewer_X6_isWithin rfl rfl rfl (by decide +kernel) ⟨Nat.le_of_ble_eq_true rfl, Nat.le_of_ble_eq_true rfl⟩) hK hP hS (fun _ h9 => h9) rfl hl.1 rfl (Nat.le_of_ble_eq_true rfl) ⟨Nat.zero_le _, Nat.zero_le _⟩ hE dX6_checkReviewer_3 (fun S2 x1 H locs hE hP hS => ?_)
  refine r_if_ne (tgt := 19) hx hb dX6_checkReviewer_6 (by decide) hE (fun c3 hE => ?_) (fun c3 hE => ?_)
  · exact kx_throw (Wd := bW ad cI cZ) (own := RX6) (text := "no such reviewer") (names := ["java/lang/RuntimeException", "java/lang/Exception"]) (code := 0) hx hb hst hown rfl (by decide +kernel) (by decide +kernel) (hts (.classLink RX6 216 "java/lang/IndexOutOfBoundsException") (List.mem_of_getElem? (i := 1) rfl)) (hts (.initialized "java/lang/IndexOutOfBoundsException") (List.mem_of_getElem? (i := 2) rfl)) (by decide +kernel) (vx_hat (B := xNg) (fun w h => hts w (xX6_checkReviewer_1 w h)) xng1 (fun w h => va_Nw.use (xNg_ok w h).2 (hX.2.2.2 w h))) xgood1 hK hP hX hS (by rw [hml]; exact hl.1) ht hlk (Nat.le_of_ble_eq_true rfl) (Nat.le_of_ble_eq_true rfl) ⟨rfl, rfl⟩ hE dX6_checkReviewer_9 dX6_checkReviewer_12 dX6_checkReviewer_13 dX6_checkReviewer_15 dX6_checkReviewer_18
  · exact kx_vret (Wd := bW ad cI cZ) hx hb hr hlk hK hP hS hE dX6_checkReviewer_19
theorem iX6_trust_X5 : ∀ w ∈ wsX50, w ∈ wsX6_trust := fun w h => List.mem_cons_of_mem _ (List.mem_append_left _ (List.mem_append_left _ (List.mem_append_right _ h)))
theorem iX6_trust_X6 : ∀ w ∈ wsX60, w ∈ wsX6_trust := fun w h => List.mem_cons_of_mem _ (List.mem_append_left _ (List.mem_append_left _ (List.mem_append_left _ (List.mem_append_right _ h))))
theorem xX6_trust_2 : ∀ w ∈ (vx_atS RX6 62 "java/lang/IllegalArgumentException" ["java/lang/RuntimeException", "java/lang/Exception"]).filter goodWord, w ∈ wsX6_trust := fun w h => List.mem_cons_of_mem _ (List.mem_append_left _ (List.mem_append_right _ h))
set_option maxHeartbeats 4000000 in
set_option maxRecDepth 100000 in
theorem kX6_trust (l : Launch) (hst : l.stackTraces = false) (D : va_G) (ad : Nat → Nat) (cI cZ : ClassId) (hDD : ∀ S, va_D (bA ad) (bW ad cI cZ S)) (S : St) (v1 : Int32) (v2 : Int32) : ∀ So ro co, y6_trust S v1 v2 = some (So, ro, co) → vx_Met l yX6_trust wsX6_trust (xRm 7 111 co) (va_Pc [.ref (ad 0), .int v1, .int v2] (xPre D cI cZ (bA ad) (bW ad cI cZ S))) (xQi D cI cZ (bA ad) (bW ad cI cZ So) ro co) (xXC D cI cZ (bA ad) (bW ad cI cZ So) co) (xC co) (xS co) (bA ad) := by
  intro So ro co hE
  refine xMet_of (by decide) rfl (Nat.le_of_ble_eq_true rfl) ?_
  intro p e s m args below meth c ls hx hb hr hml hown hlk hts ht hK hP hX hS hl
  have hl : lv_has ls 4 [(0, .ref (ad 0)), (1, .int v1), (2, .int v2)] := hl
  have hown : s.vm.findClass RX6 = some m.cls := hown
  unfold y6_trust at hE
  refine lv_aload_n hx hb dX6_trust_0 rfl (lv_at hl 0 rfl) ?_
  refine lv_iload_n hx hb dX6_trust_1 rfl (lv_at hl 1 rfl) ?_
  refine r_callYv (Wd := bW ad cI cZ) (C := RX6) [.int v1] [] ⟨hx, hb, hml, hown, hts⟩ (kX6_checkReviewer l hst D ad cI cZ hDD S v1) (fun k => cwV 1 hts gX6_trust_X6_checkReviewer rfl rfl rfl (by decide +kernel) ⟨Nat.le_of_ble_eq_true rfl, Nat.le_of_ble_eq_true rfl⟩) (va_recv hK.1 hP (ci := 5) (q0 := 0) rfl rfl) hK hP hX hS ⟨rfl, rfl⟩ ht hlk rfl hl.1 rfl (Nat.le_of_ble_eq_true rfl) hE dX6_trust_2 (fun S2 x1 H locs hE hP hS => ?_)
  refine lv_iload_n hx hb dX6_trust_5 rfl (lv_at hl 2 rfl) ?_
  refine lv_iconst (v := 0) hx hb dX6_trust_6 (by decide) ?_
  refine lv_bipush (v := 9) hx hb dX6_trust_7 (by decide) ?_
  refine r_callSi (Wd := bW ad cI cZ) [.int v2, .int 0, .int 9] [] ⟨hx, hb, hml, hown, hts⟩ (kX6_isWithin l D ad cI cZ hDD S2 v2 0 9) (va_cwS 3 hts gX6_trust_X6_isWithin rfl rfl rfl (by decide +kernel) ⟨Nat.le_of_ble_eq_true rfl, Nat.le_of_ble_eq_true rfl⟩) hK hP hS (fun _ h9 => h9) rfl hl.1 rfl (Nat.le_of_ble_eq_true rfl) ⟨Nat.zero_le _, Nat.zero_le _⟩ hE dX6_trust_9 (fun S4 x3 H locs hE hP hS => ?_)
  refine r_if_ne (tgt := 25) hx hb dX6_trust_12 (by decide) hE (fun c5 hE => ?_) (fun c5 hE => ?_)
  · exact kx_throw (Wd := bW ad cI cZ) (own := RX6) (text := "no such trust") (names := ["java/lang/RuntimeException", "java/lang/Exception"]) (code := 1) hx hb hst hown rfl (by decide +kernel) (by decide +kernel) (hts (.classLink RX6 58 "java/lang/IllegalArgumentException") (List.mem_of_getElem? (i := 1) rfl)) (hts (.initialized "java/lang/IllegalArgumentException") (List.mem_of_getElem? (i := 2) rfl)) (by decide +kernel) (vx_hat (B := xNg) (fun w h => hts w (xX6_trust_2 w h)) xng2 (fun w h => va_Nw.use (xNg_ok w h).2 (hX.2.2.2 w h))) xgood2 hK hP hX hS (by rw [hml]; exact hl.1) ht hlk (Nat.le_of_ble_eq_true rfl) (Nat.le_of_ble_eq_true rfl) ⟨rfl, rfl⟩ hE dX6_trust_15 dX6_trust_18 dX6_trust_19 dX6_trust_21 dX6_trust_24
  · refine lv_aload_n hx hb dX6_trust_25 rfl (lv_at hl 0 rfl) ?_
    refine va_get (D := D) (ci := 5) (v := .ref (ad 4)) (C := RX6) (T := TX6) (N := 6) hx hb hts iX6_trust_X6 hown hK.1 hP 0 rfl rfl 3 (by decide) (hts (.fieldLink RX6 37 "Bumpherald" "reviewers" "LBumpherald$Reviewers;") (List.mem_of_getElem? (i := 3) rfl)) (fun _ h9 => h9) rfl dX6_trust_26 ?_
    refine va_get (D := D) (ci := 4) (v := .ref (ad 24)) (C := RX5) (T := TX5) (N := 2) hx hb hts iX6_trust_X5 hown hK.1 hP 4 rfl rfl 1 (by decide) (hts (.fieldLink RX6 103 "Bumpherald$Reviewers" "trusts" "[I") (List.mem_of_getElem? (i := 4) rfl)) (fun _ h9 => h9) rfl dX6_trust_29 ?_
    refine lv_iload_n hx hb dX6_trust_32 rfl (lv_at hl 1 rfl) ?_
    refine r_iald (Wd := bW ad cI cZ) (k := 18) (n := 6) hx hb hK hP 24 rfl hE dX6_trust_33 (fun x6 hE => ?_)
    refine lv_istore_n (lv' := [(3, .int x6), (0, .ref (ad 0)), (1, .int v1), (2, .int v2)]) hx hb dX6_trust_34 rfl hl (by decide) rfl (fun ls hl => ?_)
    refine lv_aload_n hx hb dX6_trust_35 rfl (lv_at hl 1 rfl) ?_
    refine va_get (D := D) (ci := 5) (v := .ref (ad 4)) (C := RX6) (T := TX6) (N := 6) hx hb hts iX6_trust_X6 hown hK.1 hP 0 rfl rfl 3 (by decide) (hts (.fieldLink RX6 37 "Bumpherald" "reviewers" "LBumpherald$Reviewers;") (List.mem_of_getElem? (i := 3) rfl)) (fun _ h9 => h9) rfl dX6_trust_36 ?_
    refine va_get (D := D) (ci := 4) (v := .ref (ad 24)) (C := RX5) (T := TX5) (N := 2) hx hb hts iX6_trust_X5 hown hK.1 hP 4 rfl rfl 1 (by decide) (hts (.fieldLink RX6 103 "Bumpherald$Reviewers" "trusts" "[I") (List.mem_of_getElem? (i := 4) rfl)) (fun _ h9 => h9) rfl dX6_trust_39 ?_
    refine lv_iload_n hx hb dX6_trust_42 rfl (lv_at hl 2 rfl) ?_
    refine lv_iload_n hx hb dX6_trust_43 rfl (lv_at hl 3 rfl) ?_
    refine r_iast (Wd := bW ad cI cZ) (k := 18) (n := 6) hx hb hDD hK hP hS 24 rfl (bU18 ..) hE dX6_trust_44 (fun S7 H locs hE hP hS => ?_)
    refine lv_iload_n hx hb dX6_trust_45 rfl (lv_at hl 0 rfl) ?_
    exact kx_iret (Wd := bW ad cI cZ) hx hb hr hlk hK hP hS hE dX6_trust_46
theorem iX6_patience_X2 : ∀ w ∈ wsX20, w ∈ wsX6_patience := fun w h => List.mem_cons_of_mem _ (List.mem_append_left _ (List.mem_append_right _ h))
theorem iX6_patience_X6 : ∀ w ∈ wsX60, w ∈ wsX6_patience := fun w h => List.mem_cons_of_mem _ (List.mem_append_left _ (List.mem_append_left _ (List.mem_append_right _ h)))
theorem xX6_patience_2 : ∀ w ∈ (vx_atS RX6 62 "java/lang/IllegalArgumentException" ["java/lang/RuntimeException", "java/lang/Exception"]).filter goodWord, w ∈ wsX6_patience := fun w h => List.mem_cons_of_mem _ (List.mem_append_right _ h)
set_option maxHeartbeats 4000000 in
set_option maxRecDepth 100000 in
theorem kX6_patience (l : Launch) (hst : l.stackTraces = false) (D : va_G) (ad : Nat → Nat) (cI cZ : ClassId) (hDD : ∀ S, va_D (bA ad) (bW ad cI cZ S)) (S : St) (v1 : Int32) : ∀ So ro co, y6_patience S v1 = some (So, ro, co) → vx_Met l yX6_patience wsX6_patience (xRm 6 90 co) (va_Pc [.ref (ad 0), .int v1] (xPre D cI cZ (bA ad) (bW ad cI cZ S))) (xQi D cI cZ (bA ad) (bW ad cI cZ So) ro co) (xXC D cI cZ (bA ad) (bW ad cI cZ So) co) (xC co) (xS co) (bA ad) := by
  intro So ro co hE
  refine xMet_of (by decide) rfl (Nat.le_of_ble_eq_true rfl) ?_
  intro p e s m args below meth c ls hx hb hr hml hown hlk hts ht hK hP hX hS hl
  have hl : lv_has ls 3 [(0, .ref (ad 0)), (1, .int v1)] := hl
  have hown : s.vm.findClass RX6 = some m.cls := hown
  unfold y6_patience at hE
  refine lv_iload_n hx hb dX6_patience_0 rfl (lv_at hl 1 rfl) ?_
  refine lv_iconst (v := 1) hx hb dX6_patience_1 (by decide) ?_
  refine lv_bipush (v := 100) hx hb dX6_patience_2 (by decide) ?_
  refine r_callSi (Wd := bW ad cI cZ) [.int v1, .int 1, .int 100] [] ⟨hx, hb, hml, hown, hts⟩ (kX6_isWithin l D ad cI cZ hDD S v1 1 100) (va_cwS 3 hts gX6_patience_X6_isWithin rfl rfl rfl (by decide +kernel) ⟨Nat.le_of_ble_eq_true rfl, Nat.le_of_ble_eq_true rfl⟩) hK hP hS (fun _ h9 => h9) rfl hl.1 rfl (Nat.le_of_ble_eq_true rfl) ⟨Nat.zero_le _, Nat.zero_le _⟩ hE dX6_patience_4 (fun S2 x1 H locs hE hP hS => ?_)
  refine r_if_ne (tgt := 20) hx hb dX6_patience_7 (by decide) hE (fun c3 hE => ?_) (fun c3 hE => ?_)
  · exact kx_throw (Wd := bW ad cI cZ) (own := RX6) (text := "no such patience") (names := ["java/lang/RuntimeException", "java/lang/Exception"]) (code := 1) hx hb hst hown rfl (by decide +kernel) (by decide +kernel) (hts (.classLink RX6 58 "java/lang/IllegalArgumentException") (List.mem_of_getElem? (i := 1) rfl)) (hts (.initialized "java/lang/IllegalArgumentException") (List.mem_of_getElem? (i := 2) rfl)) (by decide +kernel) (vx_hat (B := xNg) (fun w h => hts w (xX6_patience_2 w h)) xng2 (fun w h => va_Nw.use (xNg_ok w h).2 (hX.2.2.2 w h))) xgood2 hK hP hX hS (by rw [hml]; exact hl.1) ht hlk (Nat.le_of_ble_eq_true rfl) (Nat.le_of_ble_eq_true rfl) ⟨rfl, rfl⟩ hE dX6_patience_10 dX6_patience_13 dX6_patience_14 dX6_patience_16 dX6_patience_19
  · refine lv_aload_n hx hb dX6_patience_20 rfl (lv_at hl 0 rfl) ?_
    refine va_get (D := D) (ci := 5) (v := .ref (ad 5)) (C := RX6) (T := TX6) (N := 6) hx hb hts iX6_patience_X6 hown hK.1 hP 0 rfl rfl 4 (by decide) (hts (.fieldLink RX6 46 "Bumpherald" "herding" "LBumpherald$Herding;") (List.mem_of_getElem? (i := 3) rfl)) (fun _ h9 => h9) rfl dX6_patience_21 ?_
    refine va_get (D := D) (ci := 1) (v := .int (S2.1 6)) (C := RX2) (T := TX2) (N := 4) hx hb hts iX6_patience_X2 hown hK.1 hP 5 rfl rfl 3 (by decide) (hts (.fieldLink RX6 108 "Bumpherald$Herding" "patience" "I") (List.mem_of_getElem? (i := 4) rfl)) (fun _ h9 => h9) rfl dX6_patience_24 ?_
    refine lv_istore_n (lv' := [(2, .int (S2.1 6)), (0, .ref (ad 0)), (1, .int v1)]) hx hb dX6_patience_27 rfl hl (by decide) rfl (fun ls hl => ?_)
    refine lv_aload_n hx hb dX6_patience_28 rfl (lv_at hl 1 rfl) ?_
    refine va_get (D := D) (ci := 5) (v := .ref (ad 5)) (C := RX6) (T := TX6) (N := 6) hx hb hts iX6_patience_X6 hown hK.1 hP 0 rfl rfl 4 (by decide) (hts (.fieldLink RX6 46 "Bumpherald" "herding" "LBumpherald$Herding;") (List.mem_of_getElem? (i := 3) rfl)) (fun _ h9 => h9) rfl dX6_patience_29 ?_
    refine lv_iload_n hx hb dX6_patience_32 rfl (lv_at hl 2 rfl) ?_
    refine r_puti (Wd := bW ad cI cZ) (ci := 1) (C := RX2) (T := TX2) (N := 4) (kf := 6) hx hb hts iX6_patience_X2 tyX2 tyX2_ok nmX2 hown hDD hK hP hS 5 rfl rfl 3 (by decide) (hts (.fieldLink RX6 108 "Bumpherald$Herding" "patience" "I") (List.mem_of_getElem? (i := 4) rfl)) rfl rfl (by decide +kernel) (Nat.le_of_ble_eq_true rfl) rfl hE dX6_patience_33 (fun S4 H locs hE hP hS => ?_)
    refine lv_iload_n hx hb dX6_patience_36 rfl (lv_at hl 0 rfl) ?_
    exact kx_iret (Wd := bW ad cI cZ) hx hb hr hlk hK hP hS hE dX6_patience_37
theorem iX6_freeze_X1 : ∀ w ∈ wsX10, w ∈ wsX6_freeze := fun w h => List.mem_cons_of_mem _ (List.mem_append_left _ (List.mem_append_left _ (List.mem_append_right _ h)))
theorem iX6_freeze_X6 : ∀ w ∈ wsX60, w ∈ wsX6_freeze := fun w h => List.mem_cons_of_mem _ (List.mem_append_left _ (List.mem_append_left _ (List.mem_append_left _ (List.mem_append_right _ h))))
theorem xX6_freeze_2 : ∀ w ∈ (vx_atS RX6 62 "java/lang/IllegalArgumentException" ["java/lang/RuntimeException", "java/lang/Exception"]).filter goodWord, w ∈ wsX6_freeze := fun w h => List.mem_cons_of_mem _ (List.mem_append_left _ (List.mem_append_right _ h))
theorem xX6_freeze_3 : ∀ w ∈ (vx_atS RX6 72 "java/lang/IllegalStateException" ["java/lang/RuntimeException", "java/lang/Exception"]).filter goodWord, w ∈ wsX6_freeze := fun w h => List.mem_cons_of_mem _ (List.mem_append_right _ h)
set_option maxHeartbeats 4000000 in
set_option maxRecDepth 100000 in
theorem kX6_freeze (l : Launch) (hst : l.stackTraces = false) (D : va_G) (ad : Nat → Nat) (cI cZ : ClassId) (hDD : ∀ S, va_D (bA ad) (bW ad cI cZ S)) (S : St) (v1 : Int32) (v2 : Int32) (v3 : Int32) : ∀ So ro co, y6_freeze S v1 v2 v3 = some (So, ro, co) → vx_Met l yX6_freeze wsX6_freeze (xRm 6 90 co) (va_Pc [.ref (ad 0), .int v1, .int v2, .int v3] (xPre D cI cZ (bA ad) (bW ad cI cZ S))) (xQi D cI cZ (bA ad) (bW ad cI cZ So) ro co) (xXC D cI cZ (bA ad) (bW ad cI cZ So) co) (xC co) (xS co) (bA ad) := by
  intro So ro co hE
  refine xMet_of (by decide) rfl (Nat.le_of_ble_eq_true rfl) ?_
  intro p e s m args below meth c ls hx hb hr hml hown hlk hts ht hK hP hX hS hl
  have hl : lv_has ls 4 [(0, .ref (ad 0)), (1, .int v1), (2, .int v2), (3, .int v3)] := hl
  have hown : s.vm.findClass RX6 = some m.cls := hown
  have H33 : ∀ (S : St), y6_freeze_J33   S = some (So, ro, co) → ∀ (H : Heap) (locs : List Loc) (ls : Array Slot), va_P D vwCl (bW ad cI cZ S) H → va_S (bA ad) s.heap H locs → lv_has ls 4 [] → W p l e (headSpec wsX6_freeze (xRm 6 90 co)).room s m args below meth c H locs 0 0 (vx_MQ below (xQi D cI cZ (bA ad) (bW ad cI cZ So) ro co) (xXC D cI cZ (bA ad) (bW ad cI cZ So) co) args s (xC co) (xS co) (bA ad)) (F0 m 33 ls []) := by
    intro  S hE H locs ls hP hS hl
    unfold y6_freeze_J33 at hE
    exact kx_throw (Wd := bW ad cI cZ) (own := RX6) (text := "no such freeze") (names := ["java/lang/RuntimeException", "java/lang/Exception"]) (code := 1) hx hb hst hown rfl (by decide +kernel) (by decide +kernel) (hts (.classLink RX6 58 "java/lang/IllegalArgumentException") (List.mem_of_getElem? (i := 1) rfl)) (hts (.initialized "java/lang/IllegalArgumentException") (List.mem_of_getElem? (i := 2) rfl)) (by decide +kernel) (vx_hat (B := xNg) (fun w h => hts w (xX6_freeze_2 w h)) xng2 (fun w h => va_Nw.use (xNg_ok w h).2 (hX.2.2.2 w h))) xgood2 hK hP hX hS (by rw [hml]; exact hl.1) ht hlk (Nat.le_of_ble_eq_true rfl) (Nat.le_of_ble_eq_true rfl) ⟨rfl, rfl⟩ hE dX6_freeze_33 dX6_freeze_36 dX6_freeze_37 dX6_freeze_39 dX6_freeze_42
  unfold y6_freeze at hE
  refine lv_iload_n hx hb dX6_freeze_0 rfl (lv_at hl 1 rfl) ?_
  refine lv_iconst (v := 1) hx hb dX6_freeze_1 (by decide) ?_
  refine lv_sipush (v := 4095) hx hb dX6_freeze_2 (by decide) ?_
  refine r_callSi (Wd := bW ad cI cZ) [.int v1, .int 1, .int 4095] [] ⟨hx, hb, hml, hown, hts⟩ (kX6_isWithin l D ad cI cZ hDD S v1 1 4095) (va_cwS 3 hts gX6_freeze_X6_isWithin rfl rfl rfl (by decide +kernel) ⟨Nat.le_of_ble_eq_true rfl, Nat.le_of_ble_eq_true rfl⟩) hK hP hS (fun _ h9 => h9) rfl hl.1 rfl (Nat.le_of_ble_eq_true rfl) ⟨Nat.zero_le _, Nat.zero_le _⟩ hE dX6_freeze_5 (fun S2 x1 H locs hE hP hS => ?_)
  refine r_if_eq (tgt := 33) hx hb dX6_freeze_8 (by decide) hE (fun c3 hE => ?_) (fun c3 hE => ?_)
  · exact H33 S2 hE _ _ _ hP hS (lv_sub hl [] rfl)
  · refine lv_iload_n hx hb dX6_freeze_11 rfl (lv_at hl 2 rfl) ?_
    refine lv_iconst (v := 0) hx hb dX6_freeze_12 (by decide) ?_
    refine lv_sipush (v := 1000) hx hb dX6_freeze_13 (by decide) ?_
    refine r_callSi (Wd := bW ad cI cZ) [.int v2, .int 0, .int 1000] [] ⟨hx, hb, hml, hown, hts⟩ (kX6_isWithin l D ad cI cZ hDD S2 v2 0 1000) (va_cwS 3 hts gX6_freeze_X6_isWithin rfl rfl rfl (by decide +kernel) ⟨Nat.le_of_ble_eq_true rfl, Nat.le_of_ble_eq_true rfl⟩) hK hP hS (fun _ h9 => h9) rfl hl.1 rfl (Nat.le_of_ble_eq_true rfl) ⟨Nat.zero_le _, Nat.zero_le _⟩ hE dX6_freeze_16 (fun S5 x4 H locs hE hP hS => ?_)
    refine r_if_eq (tgt := 33) hx hb dX6_freeze_19 (by decide) hE (fun c6 hE => ?_) (fun c6 hE => ?_)
    · exact H33 S5 hE _ _ _ hP hS (lv_sub hl [] rfl)
    · refine lv_iload_n hx hb dX6_freeze_22 rfl (lv_at hl 3 rfl) ?_
      refine lv_iload_n hx hb dX6_freeze_23 rfl (lv_at hl 2 rfl) ?_
      refine lv_sipush (v := 1000) hx hb dX6_freeze_24 (by decide) ?_
      refine r_callSi (Wd := bW ad cI cZ) [.int v3, .int v2, .int 1000] [] ⟨hx, hb, hml, hown, hts⟩ (kX6_isWithin l D ad cI cZ hDD S5 v3 v2 1000) (va_cwS 3 hts gX6_freeze_X6_isWithin rfl rfl rfl (by decide +kernel) ⟨Nat.le_of_ble_eq_true rfl, Nat.le_of_ble_eq_true rfl⟩) hK hP hS (fun _ h9 => h9) rfl hl.1 rfl (Nat.le_of_ble_eq_true rfl) ⟨Nat.zero_le _, Nat.zero_le _⟩ hE dX6_freeze_27 (fun S8 x7 H locs hE hP hS => ?_)
      refine r_if_ne (tgt := 43) hx hb dX6_freeze_30 (by decide) hE (fun c9 hE => ?_) (fun c9 hE => ?_)
      · exact H33 S8 hE _ _ _ hP hS (lv_sub hl [] rfl)
      · refine lv_aload_n hx hb dX6_freeze_43 rfl (lv_at hl 0 rfl) ?_
        refine va_get (D := D) (ci := 5) (v := .ref (ad 2)) (C := RX6) (T := TX6) (N := 6) hx hb hts iX6_freeze_X6 hown hK.1 hP 0 rfl rfl 1 (by decide) (hts (.fieldLink RX6 19 "Bumpherald" "freezes" "LBumpherald$Freezes;") (List.mem_of_getElem? (i := 5) rfl)) (fun _ h9 => h9) rfl dX6_freeze_44 ?_
        refine va_get (D := D) (ci := 0) (v := .int (S8.1 3)) (C := RX1) (T := TX1) (N := 4) hx hb hts iX6_freeze_X1 hown hK.1 hP 2 rfl rfl 3 (by decide) (hts (.fieldLink RX6 113 "Bumpherald$Freezes" "count" "I") (List.mem_of_getElem? (i := 6) rfl)) (fun _ h9 => h9) rfl dX6_freeze_47 ?_
        refine lv_bipush (v := 10) hx hb dX6_freeze_50 (by decide) ?_
        refine r_icmp_lt (tgt := 65) hx hb dX6_freeze_52 (by decide) hE (fun c10 hE => ?_) (fun c10 hE => ?_)
        · refine lv_aload_n hx hb dX6_freeze_65 rfl (lv_at hl 0 rfl) ?_
          refine va_get (D := D) (ci := 5) (v := .ref (ad 2)) (C := RX6) (T := TX6) (N := 6) hx hb hts iX6_freeze_X6 hown hK.1 hP 0 rfl rfl 1 (by decide) (hts (.fieldLink RX6 19 "Bumpherald" "freezes" "LBumpherald$Freezes;") (List.mem_of_getElem? (i := 5) rfl)) (fun _ h9 => h9) rfl dX6_freeze_66 ?_
          refine lv_iload_n hx hb dX6_freeze_69 rfl (lv_at hl 1 rfl) ?_
          refine lv_iload_n hx hb dX6_freeze_70 rfl (lv_at hl 2 rfl) ?_
          refine lv_iload_n hx hb dX6_freeze_71 rfl (lv_at hl 3 rfl) ?_
          refine r_callVi (Wd := bW ad cI cZ) (C := RX1) [.int v1, .int v2, .int v3] [] ⟨hx, hb, hml, hown, hts⟩ (kX1_add l D ad cI cZ hDD S8 v1 v2 v3) (cwV 3 hts gX6_freeze_X1_add rfl rfl rfl (by decide +kernel) ⟨Nat.le_of_ble_eq_true rfl, Nat.le_of_ble_eq_true rfl⟩) (va_recv hK.1 hP (ci := 0) (q0 := 2) rfl rfl) hK hP hS (fun _ h9 => h9) rfl hl.1 rfl (Nat.le_of_ble_eq_true rfl) ⟨Nat.zero_le _, Nat.zero_le _⟩ hE dX6_freeze_72 (fun S12 x11 H locs hE hP hS => ?_)
          exact kx_iret (Wd := bW ad cI cZ) hx hb hr hlk hK hP hS hE dX6_freeze_75
        · exact kx_throw (Wd := bW ad cI cZ) (own := RX6) (text := "no more freezes") (names := ["java/lang/RuntimeException", "java/lang/Exception"]) (code := 2) hx hb hst hown rfl (by decide +kernel) (by decide +kernel) (hts (.classLink RX6 68 "java/lang/IllegalStateException") (List.mem_of_getElem? (i := 3) rfl)) (hts (.initialized "java/lang/IllegalStateException") (List.mem_of_getElem? (i := 4) rfl)) (by decide +kernel) (vx_hat (B := xNg) (fun w h => hts w (xX6_freeze_3 w h)) xng3 (fun w h => va_Nw.use (xNg_ok w h).2 (hX.2.2.2 w h))) xgood3 hK hP hX hS (by rw [hml]; exact hl.1) ht hlk (Nat.le_of_ble_eq_true rfl) (Nat.le_of_ble_eq_true rfl) ⟨rfl, rfl⟩ hE dX6_freeze_55 dX6_freeze_58 dX6_freeze_59 dX6_freeze_61 dX6_freeze_64
theorem iX6_raise_X3 : ∀ w ∈ wsX30, w ∈ wsX6_raise := fun w h => List.mem_cons_of_mem _ (List.mem_append_left _ (List.mem_append_left _ (List.mem_append_left _ (List.mem_append_left _ (List.mem_append_left _ (List.mem_append_right _ h))))))
theorem iX6_raise_X4 : ∀ w ∈ wsX40, w ∈ wsX6_raise := fun w h => List.mem_cons_of_mem _ (List.mem_append_left _ (List.mem_append_left _ (List.mem_append_left _ (List.mem_append_left _ (List.mem_append_right _ h)))))
theorem iX6_raise_X6 : ∀ w ∈ wsX60, w ∈ wsX6_raise := fun w h => List.mem_cons_of_mem _ (List.mem_append_left _ (List.mem_append_left _ (List.mem_append_left _ (List.mem_append_left _ (List.mem_append_left _ (List.mem_append_left _ (List.mem_append_right _ h)))))))
theorem xX6_raise_2 : ∀ w ∈ (vx_atS RX6 62 "java/lang/IllegalArgumentException" ["java/lang/RuntimeException", "java/lang/Exception"]).filter goodWord, w ∈ wsX6_raise := fun w h => List.mem_cons_of_mem _ (List.mem_append_left _ (List.mem_append_left _ (List.mem_append_right _ h)))
theorem xX6_raise_3 : ∀ w ∈ (vx_atS RX6 72 "java/lang/IllegalStateException" ["java/lang/RuntimeException", "java/lang/Exception"]).filter goodWord, w ∈ wsX6_raise := fun w h => List.mem_cons_of_mem _ (List.mem_append_left _ (List.mem_append_right _ h))
set_option maxHeartbeats 4000000 in
set_option maxRecDepth 100000 in
theorem kX6_raise (l : Launch) (hst : l.stackTraces = false) (D : va_G) (ad : Nat → Nat) (cI cZ : ClassId) (hDD : ∀ S, va_D (bA ad) (bW ad cI cZ S)) (S : St) (v1 : Int32) (v2 : Int32) (v3 : Int32) : ∀ So ro co, y6_raise S v1 v2 v3 = some (So, ro, co) → vx_Met l yX6_raise wsX6_raise (xRm 7 111 co) (va_Pc [.ref (ad 0), .int v1, .int v2, .int v3] (xPre D cI cZ (bA ad) (bW ad cI cZ S))) (xQi D cI cZ (bA ad) (bW ad cI cZ So) ro co) (xXC D cI cZ (bA ad) (bW ad cI cZ So) co) (xC co) (xS co) (bA ad) := by
  intro So ro co hE
  refine xMet_of (by decide) rfl (Nat.le_of_ble_eq_true rfl) ?_
  intro p e s m args below meth c ls hx hb hr hml hown hlk hts ht hK hP hX hS hl
  have hl : lv_has ls 5 [(0, .ref (ad 0)), (1, .int v1), (2, .int v2), (3, .int v3)] := hl
  have hown : s.vm.findClass RX6 = some m.cls := hown
  have H93 : ∀ (S : St), y6_raise_J93   S = some (So, ro, co) → ∀ (H : Heap) (locs : List Loc) (ls : Array Slot), va_P D vwCl (bW ad cI cZ S) H → va_S (bA ad) s.heap H locs → lv_has ls 5 [] → W p l e (headSpec wsX6_raise (xRm 7 111 co)).room s m args below meth c H locs 0 0 (vx_MQ below (xQi D cI cZ (bA ad) (bW ad cI cZ So) ro co) (xXC D cI cZ (bA ad) (bW ad cI cZ So) co) args s (xC co) (xS co) (bA ad)) (F0 m 93 ls []) := by
    intro  S hE H locs ls hP hS hl
    unfold y6_raise_J93 at hE
    exact kx_throw (Wd := bW ad cI cZ) (own := RX6) (text := "no more raises") (names := ["java/lang/RuntimeException", "java/lang/Exception"]) (code := 2) hx hb hst hown rfl (by decide +kernel) (by decide +kernel) (hts (.classLink RX6 68 "java/lang/IllegalStateException") (List.mem_of_getElem? (i := 3) rfl)) (hts (.initialized "java/lang/IllegalStateException") (List.mem_of_getElem? (i := 4) rfl)) (by decide +kernel) (vx_hat (B := xNg) (fun w h => hts w (xX6_raise_3 w h)) xng3 (fun w h => va_Nw.use (xNg_ok w h).2 (hX.2.2.2 w h))) xgood3 hK hP hX hS (by rw [hml]; exact hl.1) ht hlk (Nat.le_of_ble_eq_true rfl) (Nat.le_of_ble_eq_true rfl) ⟨rfl, rfl⟩ hE dX6_raise_93 dX6_raise_96 dX6_raise_97 dX6_raise_99 dX6_raise_102
  have H25 : ∀ (S : St), y6_raise_J25   S = some (So, ro, co) → ∀ (H : Heap) (locs : List Loc) (ls : Array Slot), va_P D vwCl (bW ad cI cZ S) H → va_S (bA ad) s.heap H locs → lv_has ls 5 [] → W p l e (headSpec wsX6_raise (xRm 7 111 co)).room s m args below meth c H locs 0 0 (vx_MQ below (xQi D cI cZ (bA ad) (bW ad cI cZ So) ro co) (xXC D cI cZ (bA ad) (bW ad cI cZ So) co) args s (xC co) (xS co) (bA ad)) (F0 m 25 ls []) := by
    intro  S hE H locs ls hP hS hl
    unfold y6_raise_J25 at hE
    exact kx_throw (Wd := bW ad cI cZ) (own := RX6) (text := "no such version or risk") (names := ["java/lang/RuntimeException", "java/lang/Exception"]) (code := 1) hx hb hst hown rfl (by decide +kernel) (by decide +kernel) (hts (.classLink RX6 58 "java/lang/IllegalArgumentException") (List.mem_of_getElem? (i := 1) rfl)) (hts (.initialized "java/lang/IllegalArgumentException") (List.mem_of_getElem? (i := 2) rfl)) (by decide +kernel) (vx_hat (B := xNg) (fun w h => hts w (xX6_raise_2 w h)) xng2 (fun w h => va_Nw.use (xNg_ok w h).2 (hX.2.2.2 w h))) xgood2 hK hP hX hS (by rw [hml]; exact hl.1) ht hlk (Nat.le_of_ble_eq_true rfl) (Nat.le_of_ble_eq_true rfl) ⟨rfl, rfl⟩ hE dX6_raise_25 dX6_raise_28 dX6_raise_29 dX6_raise_31 dX6_raise_34
  unfold y6_raise at hE
  refine lv_aload_n hx hb dX6_raise_0 rfl (lv_at hl 0 rfl) ?_
  refine lv_iload_n hx hb dX6_raise_1 rfl (lv_at hl 1 rfl) ?_
  refine r_callYv (Wd := bW ad cI cZ) (C := RX6) [.int v1] [] ⟨hx, hb, hml, hown, hts⟩ (kX6_checkPackage l hst D ad cI cZ hDD S v1) (fun k => cwV 1 hts gX6_raise_X6_checkPackage rfl rfl rfl (by decide +kernel) ⟨Nat.le_of_ble_eq_true rfl, Nat.le_of_ble_eq_true rfl⟩) (va_recv hK.1 hP (ci := 5) (q0 := 0) rfl rfl) hK hP hX hS ⟨rfl, rfl⟩ ht hlk rfl hl.1 rfl (Nat.le_of_ble_eq_true rfl) hE dX6_raise_2 (fun S2 x1 H locs hE hP hS => ?_)
  refine lv_iload_n hx hb dX6_raise_5 rfl (lv_at hl 2 rfl) ?_
  refine lv_iconst (v := 1) hx hb dX6_raise_6 (by decide) ?_
  refine lv_bipush (v := 99) hx hb dX6_raise_7 (by decide) ?_
  refine r_callSi (Wd := bW ad cI cZ) [.int v2, .int 1, .int 99] [] ⟨hx, hb, hml, hown, hts⟩ (kX6_isWithin l D ad cI cZ hDD S2 v2 1 99) (va_cwS 3 hts gX6_raise_X6_isWithin rfl rfl rfl (by decide +kernel) ⟨Nat.le_of_ble_eq_true rfl, Nat.le_of_ble_eq_true rfl⟩) hK hP hS (fun _ h9 => h9) rfl hl.1 rfl (Nat.le_of_ble_eq_true rfl) ⟨Nat.zero_le _, Nat.zero_le _⟩ hE dX6_raise_9 (fun S4 x3 H locs hE hP hS => ?_)
  refine r_if_eq (tgt := 25) hx hb dX6_raise_12 (by decide) hE (fun c5 hE => ?_) (fun c5 hE => ?_)
  · exact H25 S4 hE _ _ _ hP hS (lv_sub hl [] rfl)
  · refine lv_iload_n hx hb dX6_raise_15 rfl (lv_at hl 3 rfl) ?_
    refine lv_iconst (v := 0) hx hb dX6_raise_16 (by decide) ?_
    refine lv_bipush (v := 9) hx hb dX6_raise_17 (by decide) ?_
    refine r_callSi (Wd := bW ad cI cZ) [.int v3, .int 0, .int 9] [] ⟨hx, hb, hml, hown, hts⟩ (kX6_isWithin l D ad cI cZ hDD S4 v3 0 9) (va_cwS 3 hts gX6_raise_X6_isWithin rfl rfl rfl (by decide +kernel) ⟨Nat.le_of_ble_eq_true rfl, Nat.le_of_ble_eq_true rfl⟩) hK hP hS (fun _ h9 => h9) rfl hl.1 rfl (Nat.le_of_ble_eq_true rfl) ⟨Nat.zero_le _, Nat.zero_le _⟩ hE dX6_raise_19 (fun S7 x6 H locs hE hP hS => ?_)
    refine r_if_ne (tgt := 35) hx hb dX6_raise_22 (by decide) hE (fun c8 hE => ?_) (fun c8 hE => ?_)
    · exact H25 S7 hE _ _ _ hP hS (lv_sub hl [] rfl)
    · refine lv_iload_n hx hb dX6_raise_35 rfl (lv_at hl 2 rfl) ?_
      refine lv_aload_n hx hb dX6_raise_36 rfl (lv_at hl 0 rfl) ?_
      refine va_get (D := D) (ci := 5) (v := .ref (ad 1)) (C := RX6) (T := TX6) (N := 6) hx hb hts iX6_raise_X6 hown hK.1 hP 0 rfl rfl 0 (by decide) (hts (.fieldLink RX6 10 "Bumpherald" "packages" "LBumpherald$Packages;") (List.mem_of_getElem? (i := 5) rfl)) (fun _ h9 => h9) rfl dX6_raise_37 ?_
      refine va_get (D := D) (ci := 2) (v := .ref (ad 6)) (C := RX3) (T := TX3) (N := 8) hx hb hts iX6_raise_X3 hown hK.1 hP 1 rfl rfl 0 (by decide) (hts (.fieldLink RX6 83 "Bumpherald$Packages" "versions" "[I") (List.mem_of_getElem? (i := 6) rfl)) (fun _ h9 => h9) rfl dX6_raise_40 ?_
      refine lv_iload_n hx hb dX6_raise_43 rfl (lv_at hl 1 rfl) ?_
      refine r_iald (Wd := bW ad cI cZ) (k := 0) (n := 12) hx hb hK hP 6 rfl hE dX6_raise_44 (fun x9 hE => ?_)
      refine r_icmp_gt (tgt := 58) hx hb dX6_raise_45 (by decide) hE (fun c10 hE => ?_) (fun c10 hE => ?_)
      · refine lv_aload_n hx hb dX6_raise_58 rfl (lv_at hl 0 rfl) ?_
        refine va_get (D := D) (ci := 5) (v := .ref (ad 3)) (C := RX6) (T := TX6) (N := 6) hx hb hts iX6_raise_X6 hown hK.1 hP 0 rfl rfl 2 (by decide) (hts (.fieldLink RX6 28 "Bumpherald" "raises" "LBumpherald$Raises;") (List.mem_of_getElem? (i := 7) rfl)) (fun _ h9 => h9) rfl dX6_raise_59 ?_
        refine lv_iload_n hx hb dX6_raise_62 rfl (lv_at hl 1 rfl) ?_
        refine r_callVi (Wd := bW ad cI cZ) (C := RX4) [.int v1] [] ⟨hx, hb, hml, hown, hts⟩ (kX4_bitOfPackage l D ad cI cZ hDD S7 v1) (cwV 1 hts gX6_raise_X4_bitOfPackage rfl rfl rfl (by decide +kernel) ⟨Nat.le_of_ble_eq_true rfl, Nat.le_of_ble_eq_true rfl⟩) (va_recv hK.1 hP (ci := 3) (q0 := 3) rfl rfl) hK hP hS (fun _ h9 => h9) rfl hl.1 rfl (Nat.le_of_ble_eq_true rfl) ⟨Nat.zero_le _, Nat.zero_le _⟩ hE dX6_raise_63 (fun S12 x11 H locs hE hP hS => ?_)
        refine r_if_ne (tgt := 93) hx hb dX6_raise_66 (by decide) hE (fun c13 hE => ?_) (fun c13 hE => ?_)
        · refine lv_aload_n hx hb dX6_raise_69 rfl (lv_at hl 0 rfl) ?_
          refine va_get (D := D) (ci := 5) (v := .ref (ad 3)) (C := RX6) (T := TX6) (N := 6) hx hb hts iX6_raise_X6 hown hK.1 hP 0 rfl rfl 2 (by decide) (hts (.fieldLink RX6 28 "Bumpherald" "raises" "LBumpherald$Raises;") (List.mem_of_getElem? (i := 7) rfl)) (fun _ h9 => h9) rfl dX6_raise_70 ?_
          refine va_get (D := D) (ci := 3) (v := .int (S12.1 5)) (C := RX4) (T := TX4) (N := 12) hx hb hts iX6_raise_X4 hown hK.1 hP 3 rfl rfl 11 (by decide) (hts (.fieldLink RX6 126 "Bumpherald$Raises" "openCount" "I") (List.mem_of_getElem? (i := 8) rfl)) (fun _ h9 => h9) rfl dX6_raise_73 ?_
          refine lv_bipush (v := 10) hx hb dX6_raise_76 (by decide) ?_
          refine r_icmp_ge (tgt := 93) hx hb dX6_raise_78 (by decide) hE (fun c14 hE => ?_) (fun c14 hE => ?_)
          · exact H93 S12 hE _ _ _ hP hS (lv_sub hl [] rfl)
          · refine lv_aload_n hx hb dX6_raise_81 rfl (lv_at hl 0 rfl) ?_
            refine va_get (D := D) (ci := 5) (v := .ref (ad 3)) (C := RX6) (T := TX6) (N := 6) hx hb hts iX6_raise_X6 hown hK.1 hP 0 rfl rfl 2 (by decide) (hts (.fieldLink RX6 28 "Bumpherald" "raises" "LBumpherald$Raises;") (List.mem_of_getElem? (i := 7) rfl)) (fun _ h9 => h9) rfl dX6_raise_82 ?_
            refine va_get (D := D) (ci := 3) (v := .int (S12.1 4)) (C := RX4) (T := TX4) (N := 12) hx hb hts iX6_raise_X4 hown hK.1 hP 3 rfl rfl 10 (by decide) (hts (.fieldLink RX6 129 "Bumpherald$Raises" "count" "I") (List.mem_of_getElem? (i := 9) rfl)) (fun _ h9 => h9) rfl dX6_raise_85 ?_
            refine lv_bipush (v := 40) hx hb dX6_raise_88 (by decide) ?_
            refine r_icmp_lt (tgt := 103) hx hb dX6_raise_90 (by decide) hE (fun c15 hE => ?_) (fun c15 hE => ?_)
            · refine lv_aload_n hx hb dX6_raise_103 rfl (lv_at hl 0 rfl) ?_
              refine va_get (D := D) (ci := 5) (v := .ref (ad 3)) (C := RX6) (T := TX6) (N := 6) hx hb hts iX6_raise_X6 hown hK.1 hP 0 rfl rfl 2 (by decide) (hts (.fieldLink RX6 28 "Bumpherald" "raises" "LBumpherald$Raises;") (List.mem_of_getElem? (i := 7) rfl)) (fun _ h9 => h9) rfl dX6_raise_104 ?_
              refine lv_iload_n hx hb dX6_raise_107 rfl (lv_at hl 1 rfl) ?_
              refine lv_iload_n hx hb dX6_raise_108 rfl (lv_at hl 2 rfl) ?_
              refine lv_iload_n hx hb dX6_raise_109 rfl (lv_at hl 3 rfl) ?_
              refine lv_aload_n hx hb dX6_raise_110 rfl (lv_at hl 0 rfl) ?_
              refine va_get (D := D) (ci := 5) (v := .int (S12.1 0)) (C := RX6) (T := TX6) (N := 6) hx hb hts iX6_raise_X6 hown hK.1 hP 0 rfl rfl 5 (by decide) (hts (.fieldLink RX6 50 "Bumpherald" "today" "I") (List.mem_of_getElem? (i := 10) rfl)) (fun _ h9 => h9) rfl dX6_raise_111 ?_
              refine r_callVi (Wd := bW ad cI cZ) (C := RX4) [.int v1, .int v2, .int v3, .int (S12.1 0)] [] ⟨hx, hb, hml, hown, hts⟩ (kX4_add l D ad cI cZ hDD S12 v1 v2 v3 (S12.1 0)) (cwV 4 hts gX6_raise_X4_add rfl rfl rfl (by decide +kernel) ⟨Nat.le_of_ble_eq_true rfl, Nat.le_of_ble_eq_true rfl⟩) (va_recv hK.1 hP (ci := 3) (q0 := 3) rfl rfl) hK hP hS (fun _ h9 => h9) rfl hl.1 rfl (Nat.le_of_ble_eq_true rfl) ⟨Nat.zero_le _, Nat.zero_le _⟩ hE dX6_raise_114 (fun S17 x16 H locs hE hP hS => ?_)
              refine lv_istore (lv' := [(4, .int x16), (0, .ref (ad 0)), (1, .int v1), (2, .int v2), (3, .int v3)]) hx hb dX6_raise_117 hl (by decide) rfl (fun ls hl => ?_)
              refine lv_aload_n hx hb dX6_raise_119 rfl (lv_at hl 1 rfl) ?_
              refine va_get (D := D) (ci := 5) (v := .ref (ad 4)) (C := RX6) (T := TX6) (N := 6) hx hb hts iX6_raise_X6 hown hK.1 hP 0 rfl rfl 3 (by decide) (hts (.fieldLink RX6 37 "Bumpherald" "reviewers" "LBumpherald$Reviewers;") (List.mem_of_getElem? (i := 11) rfl)) (fun _ h9 => h9) rfl dX6_raise_120 ?_
              refine lv_aload_n hx hb dX6_raise_123 rfl (lv_at hl 1 rfl) ?_
              refine va_get (D := D) (ci := 5) (v := .ref (ad 3)) (C := RX6) (T := TX6) (N := 6) hx hb hts iX6_raise_X6 hown hK.1 hP 0 rfl rfl 2 (by decide) (hts (.fieldLink RX6 28 "Bumpherald" "raises" "LBumpherald$Raises;") (List.mem_of_getElem? (i := 7) rfl)) (fun _ h9 => h9) rfl dX6_raise_124 ?_
              refine lv_iload hx hb dX6_raise_127 (lv_at hl 0 rfl) ?_
              refine r_callVi (Wd := bW ad cI cZ) (C := RX4) [.int x16] [.ref (ad 4)] ⟨hx, hb, hml, hown, hts⟩ (kX4_bitOf l D ad cI cZ hDD S17 x16) (cwV 1 hts gX6_raise_X4_bitOf rfl rfl rfl (by decide +kernel) ⟨Nat.le_of_ble_eq_true rfl, Nat.le_of_ble_eq_true rfl⟩) (va_recv hK.1 hP (ci := 3) (q0 := 3) rfl rfl) hK hP hS (fun _ h9 => h9) rfl hl.1 rfl (Nat.le_of_ble_eq_true rfl) ⟨Nat.zero_le _, Nat.zero_le _⟩ hE dX6_raise_129 (fun S19 x18 H locs hE hP hS => ?_)
              refine r_callVv (Wd := bW ad cI cZ) (C := RX5) [.int x18] [] ⟨hx, hb, hml, hown, hts⟩ (kX5_giveAnew l D ad cI cZ hDD S19 x18) (cwV 1 hts gX6_raise_X5_giveAnew rfl rfl rfl (by decide +kernel) ⟨Nat.le_of_ble_eq_true rfl, Nat.le_of_ble_eq_true rfl⟩) (va_recv hK.1 hP (ci := 4) (q0 := 4) rfl rfl) hK hP hS (fun _ h9 => h9) rfl hl.1 rfl (Nat.le_of_ble_eq_true rfl) ⟨Nat.zero_le _, Nat.zero_le _⟩ hE dX6_raise_132 (fun S21 H locs hE hP hS => ?_)
              refine lv_iload hx hb dX6_raise_135 (lv_at hl 0 rfl) ?_
              exact kx_iret (Wd := bW ad cI cZ) hx hb hr hlk hK hP hS hE dX6_raise_137
            · exact H93 S12 hE _ _ _ hP hS (lv_sub hl [] rfl)
        · exact H93 S12 hE _ _ _ hP hS (lv_sub hl [] rfl)
      · exact kx_throw (Wd := bW ad cI cZ) (own := RX6) (text := "the version is not greater") (names := ["java/lang/RuntimeException", "java/lang/Exception"]) (code := 1) hx hb hst hown rfl (by decide +kernel) (by decide +kernel) (hts (.classLink RX6 58 "java/lang/IllegalArgumentException") (List.mem_of_getElem? (i := 1) rfl)) (hts (.initialized "java/lang/IllegalArgumentException") (List.mem_of_getElem? (i := 2) rfl)) (by decide +kernel) (vx_hat (B := xNg) (fun w h => hts w (xX6_raise_2 w h)) xng2 (fun w h => va_Nw.use (xNg_ok w h).2 (hX.2.2.2 w h))) xgood2 hK hP hX hS (by rw [hml]; exact hl.1) ht hlk (Nat.le_of_ble_eq_true rfl) (Nat.le_of_ble_eq_true rfl) ⟨rfl, rfl⟩ hE dX6_raise_48 dX6_raise_51 dX6_raise_52 dX6_raise_54 dX6_raise_57
theorem iX6_checkRaise_X4 : ∀ w ∈ wsX40, w ∈ wsX6_checkRaise := fun w h => List.mem_cons_of_mem _ (List.mem_append_left _ (List.mem_append_right _ h))
theorem iX6_checkRaise_X6 : ∀ w ∈ wsX60, w ∈ wsX6_checkRaise := fun w h => List.mem_cons_of_mem _ (List.mem_append_left _ (List.mem_append_left _ (List.mem_append_right _ h)))
theorem xX6_checkRaise_1 : ∀ w ∈ (vx_atS RX6 220 "java/lang/IndexOutOfBoundsException" ["java/lang/RuntimeException", "java/lang/Exception"]).filter goodWord, w ∈ wsX6_checkRaise := fun w h => List.mem_cons_of_mem _ (List.mem_append_right _ h)
set_option maxHeartbeats 4000000 in
set_option maxRecDepth 100000 in
theorem kX6_checkRaise (l : Launch) (hst : l.stackTraces = false) (D : va_G) (ad : Nat → Nat) (cI cZ : ClassId) (hDD : ∀ S, va_D (bA ad) (bW ad cI cZ S)) (S : St) (v1 : Int32) : ∀ So ro co, y6_checkRaise S v1 = some (So, ro, co) → vx_Met l yX6_checkRaise wsX6_checkRaise (xRm 6 90 co) (va_Pc [.ref (ad 0), .int v1] (xPre D cI cZ (bA ad) (bW ad cI cZ S))) (xQv D cI cZ (bA ad) (bW ad cI cZ So) co) (xXC D cI cZ (bA ad) (bW ad cI cZ So) co) (xC co) (xS co) (bA ad) := by
  intro So ro co hE
  refine xMet_of (by decide) rfl (Nat.le_of_ble_eq_true rfl) ?_
  intro p e s m args below meth c ls hx hb hr hml hown hlk hts ht hK hP hX hS hl
  have hl : lv_has ls 2 [(0, .ref (ad 0)), (1, .int v1)] := hl
  have hown : s.vm.findClass RX6 = some m.cls := hown
  unfold y6_checkRaise at hE
  refine lv_iload_n hx hb dX6_checkRaise_0 rfl (lv_at hl 1 rfl) ?_
  refine lv_iconst (v := 0) hx hb dX6_checkRaise_1 (by decide) ?_
  refine lv_aload_n hx hb dX6_checkRaise_2 rfl (lv_at hl 0 rfl) ?_
  refine va_get (D := D) (ci := 5) (v := .ref (ad 3)) (C := RX6) (T := TX6) (N := 6) hx hb hts iX6_checkRaise_X6 hown hK.1 hP 0 rfl rfl 2 (by decide) (hts (.fieldLink RX6 28 "Bumpherald" "raises" "LBumpherald$Raises;") (List.mem_of_getElem? (i := 3) rfl)) (fun _ h9 => h9) rfl dX6_checkRaise_3 ?_
  refine va_get (D := D) (ci := 3) (v := .int (S.1 4)) (C := RX4) (T := TX4) (N := 12) hx hb hts iX6_checkRaise_X4 hown hK.1 hP 3 rfl rfl 10 (by decide) (hts (.fieldLink RX6 129 "Bumpherald$Raises" "count" "I") (List.mem_of_getElem? (i := 4) rfl)) (fun _ h9 => h9) rfl dX6_checkRaise_6 ?_
  refine lv_iconst (v := 1) hx hb dX6_checkRaise_9 (by decide) ?_
  refine lv_isub hx hb dX6_checkRaise_10 ?_
  refine r_callSi (Wd := bW ad cI cZ) [.int v1, .int 0, .int ((S.1 4) - 1)] [] ⟨hx, hb, hml, hown, hts⟩ (kX6_isWithin l D ad cI cZ hDD S v1 0 ((S.1 4) - 1)) (va_cwS 3 hts gX6_checkRaise_X6_isWithin rfl rfl rfl (by decide +kernel) ⟨Nat.le_of_ble_eq_true rfl, Nat.le_of_ble_eq_true rfl⟩) hK hP hS (fun _ h9 => h9) rfl hl.1 rfl (Nat.le_of_ble_eq_true rfl) ⟨Nat.zero_le _, Nat.zero_le _⟩ hE dX6_checkRaise_11 (fun S2 x1 H locs hE hP hS => ?_)
  refine r_if_ne (tgt := 27) hx hb dX6_checkRaise_14 (by decide) hE (fun c3 hE => ?_) (fun c3 hE => ?_)
  · exact kx_throw (Wd := bW ad cI cZ) (own := RX6) (text := "no such raise") (names := ["java/lang/RuntimeException", "java/lang/Exception"]) (code := 0) hx hb hst hown rfl (by decide +kernel) (by decide +kernel) (hts (.classLink RX6 216 "java/lang/IndexOutOfBoundsException") (List.mem_of_getElem? (i := 1) rfl)) (hts (.initialized "java/lang/IndexOutOfBoundsException") (List.mem_of_getElem? (i := 2) rfl)) (by decide +kernel) (vx_hat (B := xNg) (fun w h => hts w (xX6_checkRaise_1 w h)) xng1 (fun w h => va_Nw.use (xNg_ok w h).2 (hX.2.2.2 w h))) xgood1 hK hP hX hS (by rw [hml]; exact hl.1) ht hlk (Nat.le_of_ble_eq_true rfl) (Nat.le_of_ble_eq_true rfl) ⟨rfl, rfl⟩ hE dX6_checkRaise_17 dX6_checkRaise_20 dX6_checkRaise_21 dX6_checkRaise_23 dX6_checkRaise_26
  · exact kx_vret (Wd := bW ad cI cZ) hx hb hr hlk hK hP hS hE dX6_checkRaise_27
theorem iX6_checkOpen_X4 : ∀ w ∈ wsX40, w ∈ wsX6_checkOpen := fun w h => List.mem_cons_of_mem _ (List.mem_append_left _ (List.mem_append_left _ (List.mem_append_right _ h)))
theorem iX6_checkOpen_X6 : ∀ w ∈ wsX60, w ∈ wsX6_checkOpen := fun w h => List.mem_cons_of_mem _ (List.mem_append_left _ (List.mem_append_left _ (List.mem_append_left _ (List.mem_append_right _ h))))
theorem xX6_checkOpen_3 : ∀ w ∈ (vx_atS RX6 72 "java/lang/IllegalStateException" ["java/lang/RuntimeException", "java/lang/Exception"]).filter goodWord, w ∈ wsX6_checkOpen := fun w h => List.mem_cons_of_mem _ (List.mem_append_left _ (List.mem_append_right _ h))
set_option maxHeartbeats 4000000 in
set_option maxRecDepth 100000 in
theorem kX6_checkOpen (l : Launch) (hst : l.stackTraces = false) (D : va_G) (ad : Nat → Nat) (cI cZ : ClassId) (hDD : ∀ S, va_D (bA ad) (bW ad cI cZ S)) (S : St) (v1 : Int32) : ∀ So ro co, y6_checkOpen S v1 = some (So, ro, co) → vx_Met l yX6_checkOpen wsX6_checkOpen (xRm 7 111 co) (va_Pc [.ref (ad 0), .int v1] (xPre D cI cZ (bA ad) (bW ad cI cZ S))) (xQv D cI cZ (bA ad) (bW ad cI cZ So) co) (xXC D cI cZ (bA ad) (bW ad cI cZ So) co) (xC co) (xS co) (bA ad) := by
  intro So ro co hE
  refine xMet_of (by decide) rfl (Nat.le_of_ble_eq_true rfl) ?_
  intro p e s m args below meth c ls hx hb hr hml hown hlk hts ht hK hP hX hS hl
  have hl : lv_has ls 2 [(0, .ref (ad 0)), (1, .int v1)] := hl
  have hown : s.vm.findClass RX6 = some m.cls := hown
  unfold y6_checkOpen at hE
  refine lv_aload_n hx hb dX6_checkOpen_0 rfl (lv_at hl 0 rfl) ?_
  refine lv_iload_n hx hb dX6_checkOpen_1 rfl (lv_at hl 1 rfl) ?_
  refine r_callYv (Wd := bW ad cI cZ) (C := RX6) [.int v1] [] ⟨hx, hb, hml, hown, hts⟩ (kX6_checkRaise l hst D ad cI cZ hDD S v1) (fun k => cwV 1 hts gX6_checkOpen_X6_checkRaise rfl rfl rfl (by decide +kernel) ⟨Nat.le_of_ble_eq_true rfl, Nat.le_of_ble_eq_true rfl⟩) (va_recv hK.1 hP (ci := 5) (q0 := 0) rfl rfl) hK hP hX hS ⟨rfl, rfl⟩ ht hlk rfl hl.1 rfl (Nat.le_of_ble_eq_true rfl) hE dX6_checkOpen_2 (fun S2 x1 H locs hE hP hS => ?_)
  refine lv_aload_n hx hb dX6_checkOpen_5 rfl (lv_at hl 0 rfl) ?_
  refine va_get (D := D) (ci := 5) (v := .ref (ad 3)) (C := RX6) (T := TX6) (N := 6) hx hb hts iX6_checkOpen_X6 hown hK.1 hP 0 rfl rfl 2 (by decide) (hts (.fieldLink RX6 28 "Bumpherald" "raises" "LBumpherald$Raises;") (List.mem_of_getElem? (i := 3) rfl)) (fun _ h9 => h9) rfl dX6_checkOpen_6 ?_
  refine va_get (D := D) (ci := 3) (v := .ref (ad 19)) (C := RX4) (T := TX4) (N := 12) hx hb hts iX6_checkOpen_X4 hown hK.1 hP 3 rfl rfl 5 (by decide) (hts (.fieldLink RX6 188 "Bumpherald$Raises" "states" "[I") (List.mem_of_getElem? (i := 4) rfl)) (fun _ h9 => h9) rfl dX6_checkOpen_9 ?_
  refine lv_iload_n hx hb dX6_checkOpen_12 rfl (lv_at hl 1 rfl) ?_
  refine r_iald (Wd := bW ad cI cZ) (k := 13) (n := 40) hx hb hK hP 19 rfl hE dX6_checkOpen_13 (fun x3 hE => ?_)
  refine r_if_eq (tgt := 27) hx hb dX6_checkOpen_14 (by decide) hE (fun c4 hE => ?_) (fun c4 hE => ?_)
  · exact kx_vret (Wd := bW ad cI cZ) hx hb hr hlk hK hP hS hE dX6_checkOpen_27
  · exact kx_throw (Wd := bW ad cI cZ) (own := RX6) (text := "the raise is not open") (names := ["java/lang/RuntimeException", "java/lang/Exception"]) (code := 2) hx hb hst hown rfl (by decide +kernel) (by decide +kernel) (hts (.classLink RX6 68 "java/lang/IllegalStateException") (List.mem_of_getElem? (i := 1) rfl)) (hts (.initialized "java/lang/IllegalStateException") (List.mem_of_getElem? (i := 2) rfl)) (by decide +kernel) (vx_hat (B := xNg) (fun w h => hts w (xX6_checkOpen_3 w h)) xng3 (fun w h => va_Nw.use (xNg_ok w h).2 (hX.2.2.2 w h))) xgood3 hK hP hX hS (by rw [hml]; exact hl.1) ht hlk (Nat.le_of_ble_eq_true rfl) (Nat.le_of_ble_eq_true rfl) ⟨rfl, rfl⟩ hE dX6_checkOpen_17 dX6_checkOpen_20 dX6_checkOpen_21 dX6_checkOpen_23 dX6_checkOpen_26
theorem iX6_approve_X4 : ∀ w ∈ wsX40, w ∈ wsX6_approve := fun w h => List.mem_cons_of_mem _ (List.mem_append_left _ (List.mem_append_left _ (List.mem_append_right _ h)))
theorem iX6_approve_X6 : ∀ w ∈ wsX60, w ∈ wsX6_approve := fun w h => List.mem_cons_of_mem _ (List.mem_append_left _ (List.mem_append_left _ (List.mem_append_left _ (List.mem_append_right _ h))))
theorem xX6_approve_3 : ∀ w ∈ (vx_atS RX6 72 "java/lang/IllegalStateException" ["java/lang/RuntimeException", "java/lang/Exception"]).filter goodWord, w ∈ wsX6_approve := fun w h => List.mem_cons_of_mem _ (List.mem_append_left _ (List.mem_append_right _ h))
set_option maxHeartbeats 4000000 in
set_option maxRecDepth 100000 in
theorem kX6_approve (l : Launch) (hst : l.stackTraces = false) (D : va_G) (ad : Nat → Nat) (cI cZ : ClassId) (hDD : ∀ S, va_D (bA ad) (bW ad cI cZ S)) (S : St) (v1 : Int32) : ∀ So ro co, y6_approve S v1 = some (So, ro, co) → vx_Met l yX6_approve wsX6_approve (xRm 8 132 co) (va_Pc [.ref (ad 0), .int v1] (xPre D cI cZ (bA ad) (bW ad cI cZ S))) (xQi D cI cZ (bA ad) (bW ad cI cZ So) ro co) (xXC D cI cZ (bA ad) (bW ad cI cZ So) co) (xC co) (xS co) (bA ad) := by
  intro So ro co hE
  refine xMet_of (by decide) rfl (Nat.le_of_ble_eq_true rfl) ?_
  intro p e s m args below meth c ls hx hb hr hml hown hlk hts ht hK hP hX hS hl
  have hl : lv_has ls 3 [(0, .ref (ad 0)), (1, .int v1)] := hl
  have hown : s.vm.findClass RX6 = some m.cls := hown
  unfold y6_approve at hE
  refine lv_aload_n hx hb dX6_approve_0 rfl (lv_at hl 0 rfl) ?_
  refine lv_iload_n hx hb dX6_approve_1 rfl (lv_at hl 1 rfl) ?_
  refine r_callYv (Wd := bW ad cI cZ) (C := RX6) [.int v1] [] ⟨hx, hb, hml, hown, hts⟩ (kX6_checkOpen l hst D ad cI cZ hDD S v1) (fun k => cwV 1 hts gX6_approve_X6_checkOpen rfl rfl rfl (by decide +kernel) ⟨Nat.le_of_ble_eq_true rfl, Nat.le_of_ble_eq_true rfl⟩) (va_recv hK.1 hP (ci := 5) (q0 := 0) rfl rfl) hK hP hX hS ⟨rfl, rfl⟩ ht hlk rfl hl.1 rfl (Nat.le_of_ble_eq_true rfl) hE dX6_approve_2 (fun S2 x1 H locs hE hP hS => ?_)
  refine lv_aload_n hx hb dX6_approve_5 rfl (lv_at hl 0 rfl) ?_
  refine va_get (D := D) (ci := 5) (v := .ref (ad 3)) (C := RX6) (T := TX6) (N := 6) hx hb hts iX6_approve_X6 hown hK.1 hP 0 rfl rfl 2 (by decide) (hts (.fieldLink RX6 28 "Bumpherald" "raises" "LBumpherald$Raises;") (List.mem_of_getElem? (i := 3) rfl)) (fun _ h9 => h9) rfl dX6_approve_6 ?_
  refine va_get (D := D) (ci := 3) (v := .ref (ad 20)) (C := RX4) (T := TX4) (N := 12) hx hb hts iX6_approve_X4 hown hK.1 hP 3 rfl rfl 6 (by decide) (hts (.fieldLink RX6 143 "Bumpherald$Raises" "reviewers" "[I") (List.mem_of_getElem? (i := 4) rfl)) (fun _ h9 => h9) rfl dX6_approve_9 ?_
  refine lv_iload_n hx hb dX6_approve_12 rfl (lv_at hl 1 rfl) ?_
  refine r_iald (Wd := bW ad cI cZ) (k := 14) (n := 40) hx hb hK hP 20 rfl hE dX6_approve_13 (fun x3 hE => ?_)
  refine lv_iconst (v := -1) hx hb dX6_approve_14 (by decide) ?_
  refine r_icmp_ne (tgt := 28) hx hb dX6_approve_15 (by decide) hE (fun c4 hE => ?_) (fun c4 hE => ?_)
  · exact kx_throw (Wd := bW ad cI cZ) (own := RX6) (text := "the raise has no reviewer") (names := ["java/lang/RuntimeException", "java/lang/Exception"]) (code := 2) hx hb hst hown rfl (by decide +kernel) (by decide +kernel) (hts (.classLink RX6 68 "java/lang/IllegalStateException") (List.mem_of_getElem? (i := 1) rfl)) (hts (.initialized "java/lang/IllegalStateException") (List.mem_of_getElem? (i := 2) rfl)) (by decide +kernel) (vx_hat (B := xNg) (fun w h => hts w (xX6_approve_3 w h)) xng3 (fun w h => va_Nw.use (xNg_ok w h).2 (hX.2.2.2 w h))) xgood3 hK hP hX hS (by rw [hml]; exact hl.1) ht hlk (Nat.le_of_ble_eq_true rfl) (Nat.le_of_ble_eq_true rfl) ⟨rfl, rfl⟩ hE dX6_approve_18 dX6_approve_21 dX6_approve_22 dX6_approve_24 dX6_approve_27
  · refine lv_aload_n hx hb dX6_approve_28 rfl (lv_at hl 0 rfl) ?_
    refine va_get (D := D) (ci := 5) (v := .ref (ad 3)) (C := RX6) (T := TX6) (N := 6) hx hb hts iX6_approve_X6 hown hK.1 hP 0 rfl rfl 2 (by decide) (hts (.fieldLink RX6 28 "Bumpherald" "raises" "LBumpherald$Raises;") (List.mem_of_getElem? (i := 3) rfl)) (fun _ h9 => h9) rfl dX6_approve_29 ?_
    refine va_get (D := D) (ci := 3) (v := .ref (ad 21)) (C := RX4) (T := TX4) (N := 12) hx hb hts iX6_approve_X4 hown hK.1 hP 3 rfl rfl 7 (by decide) (hts (.fieldLink RX6 147 "Bumpherald$Raises" "approved" "[Z") (List.mem_of_getElem? (i := 5) rfl)) (fun _ h9 => h9) rfl dX6_approve_32 ?_
    refine lv_iload_n hx hb dX6_approve_35 rfl (lv_at hl 1 rfl) ?_
    refine r_zald (Wd := bW ad cI cZ) (k := 15) (n := 40) hx hb hK hP 21 rfl hE dX6_approve_36 (fun x5 hE => ?_)
    refine lv_istore_n (lv' := [(2, .int x5), (0, .ref (ad 0)), (1, .int v1)]) hx hb dX6_approve_37 rfl hl (by decide) rfl (fun ls hl => ?_)
    refine lv_aload_n hx hb dX6_approve_38 rfl (lv_at hl 1 rfl) ?_
    refine va_get (D := D) (ci := 5) (v := .ref (ad 3)) (C := RX6) (T := TX6) (N := 6) hx hb hts iX6_approve_X6 hown hK.1 hP 0 rfl rfl 2 (by decide) (hts (.fieldLink RX6 28 "Bumpherald" "raises" "LBumpherald$Raises;") (List.mem_of_getElem? (i := 3) rfl)) (fun _ h9 => h9) rfl dX6_approve_39 ?_
    refine va_get (D := D) (ci := 3) (v := .ref (ad 21)) (C := RX4) (T := TX4) (N := 12) hx hb hts iX6_approve_X4 hown hK.1 hP 3 rfl rfl 7 (by decide) (hts (.fieldLink RX6 147 "Bumpherald$Raises" "approved" "[Z") (List.mem_of_getElem? (i := 5) rfl)) (fun _ h9 => h9) rfl dX6_approve_42 ?_
    refine lv_iload_n hx hb dX6_approve_45 rfl (lv_at hl 2 rfl) ?_
    refine lv_iconst (v := 1) hx hb dX6_approve_46 (by decide) ?_
    refine r_zast (Wd := bW ad cI cZ) (k := 15) (n := 40) hx hb hDD hK hP hS 21 rfl (bU15 ..) hE dX6_approve_47 (fun S6 H locs hE hP hS => ?_)
    refine lv_iload_n hx hb dX6_approve_48 rfl (lv_at hl 0 rfl) ?_
    exact kx_bret (Wd := bW ad cI cZ) hx hb hr hlk hK hP hS hE dX6_approve_49
theorem iX6_land_X6 : ∀ w ∈ wsX60, w ∈ wsX6_land := fun w h => List.mem_cons_of_mem _ (List.mem_append_left _ (List.mem_append_left _ (List.mem_append_left _ (List.mem_append_left _ (List.mem_append_left _ (List.mem_append_left _ (List.mem_append_left _ (List.mem_append_right _ h))))))))
theorem xX6_land_3 : ∀ w ∈ (vx_atS RX6 72 "java/lang/IllegalStateException" ["java/lang/RuntimeException", "java/lang/Exception"]).filter goodWord, w ∈ wsX6_land := fun w h => List.mem_cons_of_mem _ (List.mem_append_left _ (List.mem_append_right _ h))
set_option maxHeartbeats 4000000 in
set_option maxRecDepth 100000 in
theorem kX6_land (l : Launch) (hst : l.stackTraces = false) (D : va_G) (ad : Nat → Nat) (cI cZ : ClassId) (hDD : ∀ S, va_D (bA ad) (bW ad cI cZ S)) (S : St) (v1 : Int32) (v2 : Int32) : ∀ So ro co, y6_land S v1 v2 = some (So, ro, co) → vx_Met l yX6_land wsX6_land (xRm 8 132 co) (va_Pc [.ref (ad 0), .int v1, .int v2] (xPre D cI cZ (bA ad) (bW ad cI cZ S))) (xQi D cI cZ (bA ad) (bW ad cI cZ So) ro co) (xXC D cI cZ (bA ad) (bW ad cI cZ So) co) (xC co) (xS co) (bA ad) := by
  intro So ro co hE
  refine xMet_of (by decide) rfl (Nat.le_of_ble_eq_true rfl) ?_
  intro p e s m args below meth c ls hx hb hr hml hown hlk hts ht hK hP hX hS hl
  have hl : lv_has ls 5 [(0, .ref (ad 0)), (1, .int v1), (2, .int v2)] := hl
  have hown : s.vm.findClass RX6 = some m.cls := hown
  unfold y6_land at hE
  refine lv_aload_n hx hb dX6_land_0 rfl (lv_at hl 0 rfl) ?_
  refine lv_iload_n hx hb dX6_land_1 rfl (lv_at hl 1 rfl) ?_
  refine r_callYv (Wd := bW ad cI cZ) (C := RX6) [.int v1] [] ⟨hx, hb, hml, hown, hts⟩ (kX6_checkOpen l hst D ad cI cZ hDD S v1) (fun k => cwV 1 hts gX6_land_X6_checkOpen rfl rfl rfl (by decide +kernel) ⟨Nat.le_of_ble_eq_true rfl, Nat.le_of_ble_eq_true rfl⟩) (va_recv hK.1 hP (ci := 5) (q0 := 0) rfl rfl) hK hP hX hS ⟨rfl, rfl⟩ ht hlk rfl hl.1 rfl (Nat.le_of_ble_eq_true rfl) hE dX6_land_2 (fun S2 x1 H locs hE hP hS => ?_)
  refine lv_aload_n hx hb dX6_land_5 rfl (lv_at hl 0 rfl) ?_
  refine va_get (D := D) (ci := 5) (v := .ref (ad 3)) (C := RX6) (T := TX6) (N := 6) hx hb hts iX6_land_X6 hown hK.1 hP 0 rfl rfl 2 (by decide) (hts (.fieldLink RX6 28 "Bumpherald" "raises" "LBumpherald$Raises;") (List.mem_of_getElem? (i := 3) rfl)) (fun _ h9 => h9) rfl dX6_land_6 ?_
  refine lv_iload_n hx hb dX6_land_9 rfl (lv_at hl 1 rfl) ?_
  refine r_callVi (Wd := bW ad cI cZ) (C := RX4) [.int v1] [] ⟨hx, hb, hml, hown, hts⟩ (kX4_groupOf l D ad cI cZ hDD S2 v1) (cwV 1 hts gX6_land_X4_groupOf rfl rfl rfl (by decide +kernel) ⟨Nat.le_of_ble_eq_true rfl, Nat.le_of_ble_eq_true rfl⟩) (va_recv hK.1 hP (ci := 3) (q0 := 3) rfl rfl) hK hP hS (fun _ h9 => h9) rfl hl.1 rfl (Nat.le_of_ble_eq_true rfl) ⟨Nat.zero_le _, Nat.zero_le _⟩ hE dX6_land_10 (fun S4 x3 H locs hE hP hS => ?_)
  refine lv_istore_n (lv' := [(3, .int x3), (0, .ref (ad 0)), (1, .int v1), (2, .int v2)]) hx hb dX6_land_13 rfl hl (by decide) rfl (fun ls hl => ?_)
  refine lv_aload_n hx hb dX6_land_14 rfl (lv_at hl 1 rfl) ?_
  refine lv_iload_n hx hb dX6_land_15 rfl (lv_at hl 0 rfl) ?_
  refine r_callVi (Wd := bW ad cI cZ) (C := RX6) [.int x3] [] ⟨hx, hb, hml, hown, hts⟩ (kX6_isLandable l D ad cI cZ hDD S4 x3) (cwV 1 hts gX6_land_X6_isLandable rfl rfl rfl (by decide +kernel) ⟨Nat.le_of_ble_eq_true rfl, Nat.le_of_ble_eq_true rfl⟩) (va_recv hK.1 hP (ci := 5) (q0 := 0) rfl rfl) hK hP hS (fun _ h9 => h9) rfl hl.1 rfl (Nat.le_of_ble_eq_true rfl) ⟨Nat.zero_le _, Nat.zero_le _⟩ hE dX6_land_16 (fun S6 x5 H locs hE hP hS => ?_)
  refine r_if_ne (tgt := 32) hx hb dX6_land_19 (by decide) hE (fun c7 hE => ?_) (fun c7 hE => ?_)
  · exact kx_throw (Wd := bW ad cI cZ) (own := RX6) (text := "the group cannot land") (names := ["java/lang/RuntimeException", "java/lang/Exception"]) (code := 2) hx hb hst hown rfl (by decide +kernel) (by decide +kernel) (hts (.classLink RX6 68 "java/lang/IllegalStateException") (List.mem_of_getElem? (i := 1) rfl)) (hts (.initialized "java/lang/IllegalStateException") (List.mem_of_getElem? (i := 2) rfl)) (by decide +kernel) (vx_hat (B := xNg) (fun w h => hts w (xX6_land_3 w h)) xng3 (fun w h => va_Nw.use (xNg_ok w h).2 (hX.2.2.2 w h))) xgood3 hK hP hX hS (by rw [hml]; exact hl.1) ht hlk (Nat.le_of_ble_eq_true rfl) (Nat.le_of_ble_eq_true rfl) ⟨rfl, rfl⟩ hE dX6_land_22 dX6_land_25 dX6_land_26 dX6_land_28 dX6_land_31
  · refine lv_iload_n hx hb dX6_land_32 rfl (lv_at hl 0 rfl) ?_
    refine r_callSi (Wd := bW ad cI cZ) [.int x3] [] ⟨hx, hb, hml, hown, hts⟩ (kJ6_bitCount_0f7a4 l D ad cI cZ hDD S6 x3) (va_cwS 1 hts gX6_land_J6_bitCount_0f7a4 rfl rfl rfl (by decide +kernel) ⟨Nat.le_of_ble_eq_true rfl, Nat.le_of_ble_eq_true rfl⟩) hK hP hS (fun _ h9 => h9) rfl hl.1 rfl (Nat.le_of_ble_eq_true rfl) ⟨Nat.zero_le _, Nat.zero_le _⟩ hE dX6_land_33 (fun S9 x8 H locs hE hP hS => ?_)
    refine lv_istore (lv' := [(4, .int x8), (3, .int x3), (0, .ref (ad 0)), (1, .int v1), (2, .int v2)]) hx hb dX6_land_36 hl (by decide) rfl (fun ls hl => ?_)
    refine lv_iload_n hx hb dX6_land_38 rfl (lv_at hl 4 rfl) ?_
    refine r_if_eq (tgt := 53) hx hb dX6_land_39 (by decide) hE (fun c10 hE => ?_) (fun c10 hE => ?_)
    · refine lv_iload hx hb dX6_land_53 (lv_at hl 0 rfl) ?_
      refine lv_iconst (v := 1) hx hb dX6_land_55 (by decide) ?_
      refine r_icmp_ne (tgt := 71) hx hb dX6_land_56 (by decide) hE (fun c11 hE => ?_) (fun c11 hE => ?_)
      · refine lv_aload_n hx hb dX6_land_59 rfl (lv_at hl 2 rfl) ?_
        refine va_get (D := D) (ci := 5) (v := .ref (ad 3)) (C := RX6) (T := TX6) (N := 6) hx hb hts iX6_land_X6 hown hK.1 hP 0 rfl rfl 2 (by decide) (hts (.fieldLink RX6 28 "Bumpherald" "raises" "LBumpherald$Raises;") (List.mem_of_getElem? (i := 3) rfl)) (fun _ h9 => h9) rfl dX6_land_60 ?_
        refine lv_iload_n hx hb dX6_land_63 rfl (lv_at hl 3 rfl) ?_
        refine lv_iconst (v := 2) hx hb dX6_land_64 (by decide) ?_
        refine r_callVv (Wd := bW ad cI cZ) (C := RX4) [.int v1, .int 2] [] ⟨hx, hb, hml, hown, hts⟩ (kX4_end l D ad cI cZ hDD S9 v1 2) (cwV 2 hts gX6_land_X4_end rfl rfl rfl (by decide +kernel) ⟨Nat.le_of_ble_eq_true rfl, Nat.le_of_ble_eq_true rfl⟩) (va_recv hK.1 hP (ci := 3) (q0 := 3) rfl rfl) hK hP hS (fun _ h9 => h9) rfl hl.1 rfl (Nat.le_of_ble_eq_true rfl) ⟨Nat.zero_le _, Nat.zero_le _⟩ hE dX6_land_65 (fun S13 H locs hE hP hS => ?_)
        refine lv_goto (tgt := 79) hx hb dX6_land_68 (by decide) ?_
        refine lv_iload hx hb dX6_land_79 (lv_at hl 0 rfl) ?_
        exact kx_iret (Wd := bW ad cI cZ) hx hb hr hlk hK hP hS hE dX6_land_81
      · refine lv_aload_n hx hb dX6_land_71 rfl (lv_at hl 2 rfl) ?_
        refine va_get (D := D) (ci := 5) (v := .ref (ad 5)) (C := RX6) (T := TX6) (N := 6) hx hb hts iX6_land_X6 hown hK.1 hP 0 rfl rfl 4 (by decide) (hts (.fieldLink RX6 46 "Bumpherald" "herding" "LBumpherald$Herding;") (List.mem_of_getElem? (i := 4) rfl)) (fun _ h9 => h9) rfl dX6_land_72 ?_
        refine lv_iload_n hx hb dX6_land_75 rfl (lv_at hl 1 rfl) ?_
        refine r_callVv (Wd := bW ad cI cZ) (C := RX2) [.int x3] [] ⟨hx, hb, hml, hown, hts⟩ (kX2_part l D ad cI cZ hDD S9 x3) (cwV 1 hts gX6_land_X2_part rfl rfl rfl (by decide +kernel) ⟨Nat.le_of_ble_eq_true rfl, Nat.le_of_ble_eq_true rfl⟩) (va_recv hK.1 hP (ci := 1) (q0 := 5) rfl rfl) hK hP hS (fun _ h9 => h9) rfl hl.1 rfl (Nat.le_of_ble_eq_true rfl) ⟨Nat.zero_le _, Nat.zero_le _⟩ hE dX6_land_76 (fun S15 H locs hE hP hS => ?_)
        refine lv_iload hx hb dX6_land_79 (lv_at hl 0 rfl) ?_
        exact kx_iret (Wd := bW ad cI cZ) hx hb hr hlk hK hP hS hE dX6_land_81
    · refine lv_aload_n hx hb dX6_land_42 rfl (lv_at hl 2 rfl) ?_
      refine va_get (D := D) (ci := 5) (v := .ref (ad 3)) (C := RX6) (T := TX6) (N := 6) hx hb hts iX6_land_X6 hown hK.1 hP 0 rfl rfl 2 (by decide) (hts (.fieldLink RX6 28 "Bumpherald" "raises" "LBumpherald$Raises;") (List.mem_of_getElem? (i := 3) rfl)) (fun _ h9 => h9) rfl dX6_land_43 ?_
      refine lv_iload_n hx hb dX6_land_46 rfl (lv_at hl 1 rfl) ?_
      refine r_callVv (Wd := bW ad cI cZ) (C := RX4) [.int x3] [] ⟨hx, hb, hml, hown, hts⟩ (kX4_release l D ad cI cZ hDD S9 x3) (cwV 1 hts gX6_land_X4_release rfl rfl rfl (by decide +kernel) ⟨Nat.le_of_ble_eq_true rfl, Nat.le_of_ble_eq_true rfl⟩) (va_recv hK.1 hP (ci := 3) (q0 := 3) rfl rfl) hK hP hS (fun _ h9 => h9) rfl hl.1 rfl (Nat.le_of_ble_eq_true rfl) ⟨Nat.zero_le _, Nat.zero_le _⟩ hE dX6_land_47 (fun S17 H locs hE hP hS => ?_)
      refine lv_goto (tgt := 79) hx hb dX6_land_50 (by decide) ?_
      refine lv_iload hx hb dX6_land_79 (lv_at hl 0 rfl) ?_
      exact kx_iret (Wd := bW ad cI cZ) hx hb hr hlk hK hP hS hE dX6_land_81
theorem iX6_close_X6 : ∀ w ∈ wsX60, w ∈ wsX6_close := fun w h => List.mem_cons_of_mem _ (List.mem_append_left _ (List.mem_append_left _ (List.mem_append_left _ (List.mem_append_left _ (List.mem_append_left _ (List.mem_append_right _ h))))))
set_option maxHeartbeats 4000000 in
set_option maxRecDepth 100000 in
theorem kX6_close (l : Launch) (hst : l.stackTraces = false) (D : va_G) (ad : Nat → Nat) (cI cZ : ClassId) (hDD : ∀ S, va_D (bA ad) (bW ad cI cZ S)) (S : St) (v1 : Int32) : ∀ So ro co, y6_close S v1 = some (So, ro, co) → vx_Met l yX6_close wsX6_close (xRm 8 132 co) (va_Pc [.ref (ad 0), .int v1] (xPre D cI cZ (bA ad) (bW ad cI cZ S))) (xQv D cI cZ (bA ad) (bW ad cI cZ So) co) (xXC D cI cZ (bA ad) (bW ad cI cZ So) co) (xC co) (xS co) (bA ad) := by
  intro So ro co hE
  refine xMet_of (by decide) rfl (Nat.le_of_ble_eq_true rfl) ?_
  intro p e s m args below meth c ls hx hb hr hml hown hlk hts ht hK hP hX hS hl
  have hl : lv_has ls 2 [(0, .ref (ad 0)), (1, .int v1)] := hl
  have hown : s.vm.findClass RX6 = some m.cls := hown
  unfold y6_close at hE
  refine lv_aload_n hx hb dX6_close_0 rfl (lv_at hl 0 rfl) ?_
  refine lv_iload_n hx hb dX6_close_1 rfl (lv_at hl 1 rfl) ?_
  refine r_callYv (Wd := bW ad cI cZ) (C := RX6) [.int v1] [] ⟨hx, hb, hml, hown, hts⟩ (kX6_checkOpen l hst D ad cI cZ hDD S v1) (fun k => cwV 1 hts gX6_close_X6_checkOpen rfl rfl rfl (by decide +kernel) ⟨Nat.le_of_ble_eq_true rfl, Nat.le_of_ble_eq_true rfl⟩) (va_recv hK.1 hP (ci := 5) (q0 := 0) rfl rfl) hK hP hX hS ⟨rfl, rfl⟩ ht hlk rfl hl.1 rfl (Nat.le_of_ble_eq_true rfl) hE dX6_close_2 (fun S2 x1 H locs hE hP hS => ?_)
  refine lv_aload_n hx hb dX6_close_5 rfl (lv_at hl 0 rfl) ?_
  refine va_get (D := D) (ci := 5) (v := .ref (ad 5)) (C := RX6) (T := TX6) (N := 6) hx hb hts iX6_close_X6 hown hK.1 hP 0 rfl rfl 4 (by decide) (hts (.fieldLink RX6 46 "Bumpherald" "herding" "LBumpherald$Herding;") (List.mem_of_getElem? (i := 1) rfl)) (fun _ h9 => h9) rfl dX6_close_6 ?_
  refine lv_iload_n hx hb dX6_close_9 rfl (lv_at hl 1 rfl) ?_
  refine r_callVv (Wd := bW ad cI cZ) (C := RX2) [.int v1] [] ⟨hx, hb, hml, hown, hts⟩ (kX2_leave l D ad cI cZ hDD S2 v1) (cwV 1 hts gX6_close_X2_leave rfl rfl rfl (by decide +kernel) ⟨Nat.le_of_ble_eq_true rfl, Nat.le_of_ble_eq_true rfl⟩) (va_recv hK.1 hP (ci := 1) (q0 := 5) rfl rfl) hK hP hS (fun _ h9 => h9) rfl hl.1 rfl (Nat.le_of_ble_eq_true rfl) ⟨Nat.zero_le _, Nat.zero_le _⟩ hE dX6_close_10 (fun S4 H locs hE hP hS => ?_)
  exact kx_vret (Wd := bW ad cI cZ) hx hb hr hlk hK hP hS hE dX6_close_13
theorem iX6_pass_X6 : ∀ w ∈ wsX60, w ∈ wsX6_pass := fun w h => List.mem_cons_of_mem _ (List.mem_append_left _ (List.mem_append_left _ (List.mem_append_left _ (List.mem_append_left _ (List.mem_append_left _ (List.mem_append_left _ (List.mem_append_right _ h)))))))
theorem xX6_pass_2 : ∀ w ∈ (vx_atS RX6 62 "java/lang/IllegalArgumentException" ["java/lang/RuntimeException", "java/lang/Exception"]).filter goodWord, w ∈ wsX6_pass := fun w h => List.mem_cons_of_mem _ (List.mem_append_left _ (List.mem_append_right _ h))
theorem xX6_pass_3 : ∀ w ∈ (vx_atS RX6 72 "java/lang/IllegalStateException" ["java/lang/RuntimeException", "java/lang/Exception"]).filter goodWord, w ∈ wsX6_pass := fun w h => List.mem_cons_of_mem _ (List.mem_append_right _ h)
set_option maxHeartbeats 4000000 in
set_option maxRecDepth 100000 in
theorem kX6_pass (l : Launch) (hst : l.stackTraces = false) (D : va_G) (ad : Nat → Nat) (cI cZ : ClassId) (hDD : ∀ S, va_D (bA ad) (bW ad cI cZ S)) (S : St) (v1 : Int32) : ∀ So ro co, y6_pass S v1 = some (So, ro, co) → vx_Met l yX6_pass wsX6_pass (xRm 6 135 co) (va_Pc [.ref (ad 0), .int v1] (xPre D cI cZ (bA ad) (bW ad cI cZ S))) (xQi D cI cZ (bA ad) (bW ad cI cZ So) ro co) (xXC D cI cZ (bA ad) (bW ad cI cZ So) co) (xC co) (xS co) (bA ad) := by
  intro So ro co hE
  refine xMet_of (by decide) rfl (Nat.le_of_ble_eq_true rfl) ?_
  intro p e s m args below meth c ls hx hb hr hml hown hlk hts ht hK hP hX hS hl
  have hl : lv_has ls 3 [(0, .ref (ad 0)), (1, .int v1)] := hl
  have hown : s.vm.findClass RX6 = some m.cls := hown
  have H44 : ∀ (n44 : Nat) (v1 : Int32) (v2 : Int32) (S : St), y6_pass_L44  n44 v1 v2 S = some (So, ro, co) → ∀ (H : Heap) (locs : List Loc) (ls : Array Slot), va_P D vwCl (bW ad cI cZ S) H → va_S (bA ad) s.heap H locs → lv_has ls 3 [(0, .ref (ad 0)), (1, .int v1), (2, .int v2)] → W p l e (headSpec wsX6_pass (xRm 6 135 co)).room s m args below meth c H locs 0 0 (vx_MQ below (xQi D cI cZ (bA ad) (bW ad cI cZ So) ro co) (xXC D cI cZ (bA ad) (bW ad cI cZ So) co) args s (xC co) (xS co) (bA ad)) (F0 m 44 ls []) := by
    intro n44
    induction n44 with
    | zero => intro v1 v2 S hE; exact absurd (show (none : Option (St × Int32 × Nat)) = some (So, ro, co) from hE) (fun h => nomatch h)
    | succ n44 ih44 =>
      intro v1 v2 S hE H locs ls hP hS hl
      have hE : y6_pass_L44b  (y6_pass_L44 n44) v1 v2 S = some (So, ro, co) := hE
      unfold y6_pass_L44b at hE
      refine lv_iload_n hx hb dX6_pass_44 rfl (lv_at hl 2 rfl) ?_
      refine lv_iload_n hx hb dX6_pass_45 rfl (lv_at hl 1 rfl) ?_
      refine r_icmp_ge (tgt := 76) hx hb dX6_pass_46 (by decide) hE (fun c1 hE => ?_) (fun c1 hE => ?_)
      · refine lv_aload_n hx hb dX6_pass_76 rfl (lv_at hl 0 rfl) ?_
        refine va_get (D := D) (ci := 5) (v := .int (S.1 0)) (C := RX6) (T := TX6) (N := 6) hx hb hts iX6_pass_X6 hown hK.1 hP 0 rfl rfl 5 (by decide) (hts (.fieldLink RX6 50 "Bumpherald" "today" "I") (List.mem_of_getElem? (i := 5) rfl)) (fun _ h9 => h9) rfl dX6_pass_77 ?_
        exact kx_iret (Wd := bW ad cI cZ) hx hb hr hlk hK hP hS hE dX6_pass_80
      · refine lv_aload_n hx hb dX6_pass_49 rfl (lv_at hl 0 rfl) ?_
        refine lv_dup hx hb dX6_pass_50 rfl ?_
        refine va_get (D := D) (ci := 5) (v := .int (S.1 0)) (C := RX6) (T := TX6) (N := 6) hx hb hts iX6_pass_X6 hown hK.1 hP 0 rfl rfl 5 (by decide) (hts (.fieldLink RX6 50 "Bumpherald" "today" "I") (List.mem_of_getElem? (i := 5) rfl)) (fun _ h9 => h9) rfl dX6_pass_51 ?_
        refine lv_iconst (v := 1) hx hb dX6_pass_54 (by decide) ?_
        refine lv_iadd hx hb dX6_pass_55 ?_
        refine r_puti (Wd := bW ad cI cZ) (ci := 5) (C := RX6) (T := TX6) (N := 6) (kf := 0) hx hb hts iX6_pass_X6 tyX6 tyX6_ok nmX6 hown hDD hK hP hS 0 rfl rfl 5 (by decide) (hts (.fieldLink RX6 50 "Bumpherald" "today" "I") (List.mem_of_getElem? (i := 5) rfl)) rfl rfl (by decide +kernel) (Nat.le_of_ble_eq_true rfl) rfl hE dX6_pass_56 (fun S2 H locs hE hP hS => ?_)
        refine lv_aload_n hx hb dX6_pass_59 rfl (lv_at hl 0 rfl) ?_
        refine va_get (D := D) (ci := 5) (v := .ref (ad 5)) (C := RX6) (T := TX6) (N := 6) hx hb hts iX6_pass_X6 hown hK.1 hP 0 rfl rfl 4 (by decide) (hts (.fieldLink RX6 46 "Bumpherald" "herding" "LBumpherald$Herding;") (List.mem_of_getElem? (i := 6) rfl)) (fun _ h9 => h9) rfl dX6_pass_60 ?_
        refine lv_aload_n hx hb dX6_pass_63 rfl (lv_at hl 0 rfl) ?_
        refine va_get (D := D) (ci := 5) (v := .int (S2.1 0)) (C := RX6) (T := TX6) (N := 6) hx hb hts iX6_pass_X6 hown hK.1 hP 0 rfl rfl 5 (by decide) (hts (.fieldLink RX6 50 "Bumpherald" "today" "I") (List.mem_of_getElem? (i := 5) rfl)) (fun _ h9 => h9) rfl dX6_pass_64 ?_
        refine r_callVv (Wd := bW ad cI cZ) (C := RX2) [.int (S2.1 0)] [] ⟨hx, hb, hml, hown, hts⟩ (kX2_joinSleepers l D ad cI cZ hDD S2 (S2.1 0)) (cwV 1 hts gX6_pass_X2_joinSleepers rfl rfl rfl (by decide +kernel) ⟨Nat.le_of_ble_eq_true rfl, Nat.le_of_ble_eq_true rfl⟩) (va_recv hK.1 hP (ci := 1) (q0 := 5) rfl rfl) hK hP hS (fun _ h9 => h9) rfl hl.1 rfl (Nat.le_of_ble_eq_true rfl) ⟨Nat.zero_le _, Nat.zero_le _⟩ hE dX6_pass_67 (fun S4 H locs hE hP hS => ?_)
        refine lv_iinc (v := v2 + 1) (lv' := [(2, .int (v2 + 1)), (0, .ref (ad 0)), (1, .int v1)]) hx hb dX6_pass_70 hl (k := 2) rfl rfl (by decide) rfl (fun ls hl => ?_)
        refine lv_goto (tgt := 44) hx hb dX6_pass_73 (by decide) ?_
        exact ih44 v1 (v2 + 1) S4 hE _ _ _ hP hS (lv_sub hl [1, 2, 0] rfl)
  unfold y6_pass at hE
  refine lv_iload_n hx hb dX6_pass_0 rfl (lv_at hl 1 rfl) ?_
  refine lv_iconst (v := 1) hx hb dX6_pass_1 (by decide) ?_
  refine lv_bipush (v := 100) hx hb dX6_pass_2 (by decide) ?_
  refine r_callSi (Wd := bW ad cI cZ) [.int v1, .int 1, .int 100] [] ⟨hx, hb, hml, hown, hts⟩ (kX6_isWithin l D ad cI cZ hDD S v1 1 100) (va_cwS 3 hts gX6_pass_X6_isWithin rfl rfl rfl (by decide +kernel) ⟨Nat.le_of_ble_eq_true rfl, Nat.le_of_ble_eq_true rfl⟩) hK hP hS (fun _ h9 => h9) rfl hl.1 rfl (Nat.le_of_ble_eq_true rfl) ⟨Nat.zero_le _, Nat.zero_le _⟩ hE dX6_pass_4 (fun S6 x5 H locs hE hP hS => ?_)
  refine r_if_ne (tgt := 20) hx hb dX6_pass_7 (by decide) hE (fun c7 hE => ?_) (fun c7 hE => ?_)
  · exact kx_throw (Wd := bW ad cI cZ) (own := RX6) (text := "no such number of days") (names := ["java/lang/RuntimeException", "java/lang/Exception"]) (code := 1) hx hb hst hown rfl (by decide +kernel) (by decide +kernel) (hts (.classLink RX6 58 "java/lang/IllegalArgumentException") (List.mem_of_getElem? (i := 1) rfl)) (hts (.initialized "java/lang/IllegalArgumentException") (List.mem_of_getElem? (i := 2) rfl)) (by decide +kernel) (vx_hat (B := xNg) (fun w h => hts w (xX6_pass_2 w h)) xng2 (fun w h => va_Nw.use (xNg_ok w h).2 (hX.2.2.2 w h))) xgood2 hK hP hX hS (by rw [hml]; exact hl.1) ht hlk (Nat.le_of_ble_eq_true rfl) (Nat.le_of_ble_eq_true rfl) ⟨rfl, rfl⟩ hE dX6_pass_10 dX6_pass_13 dX6_pass_14 dX6_pass_16 dX6_pass_19
  · refine lv_aload_n hx hb dX6_pass_20 rfl (lv_at hl 0 rfl) ?_
    refine va_get (D := D) (ci := 5) (v := .int (S6.1 0)) (C := RX6) (T := TX6) (N := 6) hx hb hts iX6_pass_X6 hown hK.1 hP 0 rfl rfl 5 (by decide) (hts (.fieldLink RX6 50 "Bumpherald" "today" "I") (List.mem_of_getElem? (i := 5) rfl)) (fun _ h9 => h9) rfl dX6_pass_21 ?_
    refine lv_iload_n hx hb dX6_pass_24 rfl (lv_at hl 1 rfl) ?_
    refine lv_iadd hx hb dX6_pass_25 ?_
    refine lv_sipush (v := 1000) hx hb dX6_pass_26 (by decide) ?_
    refine r_icmp_le (tgt := 42) hx hb dX6_pass_29 (by decide) hE (fun c8 hE => ?_) (fun c8 hE => ?_)
    · refine lv_iconst (v := 0) hx hb dX6_pass_42 (by decide) ?_
      refine lv_istore_n (lv' := [(2, .int 0), (0, .ref (ad 0)), (1, .int v1)]) hx hb dX6_pass_43 rfl hl (by decide) rfl (fun ls hl => ?_)
      exact H44 2000 v1 0 S6 hE _ _ _ hP hS (lv_sub hl [1, 2, 0] rfl)
    · exact kx_throw (Wd := bW ad cI cZ) (own := RX6) (text := "no more days") (names := ["java/lang/RuntimeException", "java/lang/Exception"]) (code := 2) hx hb hst hown rfl (by decide +kernel) (by decide +kernel) (hts (.classLink RX6 68 "java/lang/IllegalStateException") (List.mem_of_getElem? (i := 3) rfl)) (hts (.initialized "java/lang/IllegalStateException") (List.mem_of_getElem? (i := 4) rfl)) (by decide +kernel) (vx_hat (B := xNg) (fun w h => hts w (xX6_pass_3 w h)) xng3 (fun w h => va_Nw.use (xNg_ok w h).2 (hX.2.2.2 w h))) xgood3 hK hP hX hS (by rw [hml]; exact hl.1) ht hlk (Nat.le_of_ble_eq_true rfl) (Nat.le_of_ble_eq_true rfl) ⟨rfl, rfl⟩ hE dX6_pass_32 dX6_pass_35 dX6_pass_36 dX6_pass_38 dX6_pass_41
theorem iX6_version_X3 : ∀ w ∈ wsX30, w ∈ wsX6_version := fun w h => List.mem_cons_of_mem _ (List.mem_append_left _ (List.mem_append_right _ h))
theorem iX6_version_X6 : ∀ w ∈ wsX60, w ∈ wsX6_version := fun w h => List.mem_cons_of_mem _ (List.mem_append_left _ (List.mem_append_left _ (List.mem_append_right _ h)))
set_option maxHeartbeats 4000000 in
set_option maxRecDepth 100000 in
theorem kX6_version (l : Launch) (hst : l.stackTraces = false) (D : va_G) (ad : Nat → Nat) (cI cZ : ClassId) (hDD : ∀ S, va_D (bA ad) (bW ad cI cZ S)) (S : St) (v1 : Int32) : ∀ So ro co, y6_version S v1 = some (So, ro, co) → vx_Met l yX6_version wsX6_version (xRm 7 111 co) (va_Pc [.ref (ad 0), .int v1] (xPre D cI cZ (bA ad) (bW ad cI cZ S))) (xQi D cI cZ (bA ad) (bW ad cI cZ So) ro co) (xXC D cI cZ (bA ad) (bW ad cI cZ So) co) (xC co) (xS co) (bA ad) := by
  intro So ro co hE
  refine xMet_of (by decide) rfl (Nat.le_of_ble_eq_true rfl) ?_
  intro p e s m args below meth c ls hx hb hr hml hown hlk hts ht hK hP hX hS hl
  have hl : lv_has ls 2 [(0, .ref (ad 0)), (1, .int v1)] := hl
  have hown : s.vm.findClass RX6 = some m.cls := hown
  unfold y6_version at hE
  refine lv_aload_n hx hb dX6_version_0 rfl (lv_at hl 0 rfl) ?_
  refine lv_iload_n hx hb dX6_version_1 rfl (lv_at hl 1 rfl) ?_
  refine r_callYv (Wd := bW ad cI cZ) (C := RX6) [.int v1] [] ⟨hx, hb, hml, hown, hts⟩ (kX6_checkPackage l hst D ad cI cZ hDD S v1) (fun k => cwV 1 hts gX6_version_X6_checkPackage rfl rfl rfl (by decide +kernel) ⟨Nat.le_of_ble_eq_true rfl, Nat.le_of_ble_eq_true rfl⟩) (va_recv hK.1 hP (ci := 5) (q0 := 0) rfl rfl) hK hP hX hS ⟨rfl, rfl⟩ ht hlk rfl hl.1 rfl (Nat.le_of_ble_eq_true rfl) hE dX6_version_2 (fun S2 x1 H locs hE hP hS => ?_)
  refine lv_aload_n hx hb dX6_version_5 rfl (lv_at hl 0 rfl) ?_
  refine va_get (D := D) (ci := 5) (v := .ref (ad 1)) (C := RX6) (T := TX6) (N := 6) hx hb hts iX6_version_X6 hown hK.1 hP 0 rfl rfl 0 (by decide) (hts (.fieldLink RX6 10 "Bumpherald" "packages" "LBumpherald$Packages;") (List.mem_of_getElem? (i := 1) rfl)) (fun _ h9 => h9) rfl dX6_version_6 ?_
  refine va_get (D := D) (ci := 2) (v := .ref (ad 6)) (C := RX3) (T := TX3) (N := 8) hx hb hts iX6_version_X3 hown hK.1 hP 1 rfl rfl 0 (by decide) (hts (.fieldLink RX6 83 "Bumpherald$Packages" "versions" "[I") (List.mem_of_getElem? (i := 2) rfl)) (fun _ h9 => h9) rfl dX6_version_9 ?_
  refine lv_iload_n hx hb dX6_version_12 rfl (lv_at hl 1 rfl) ?_
  refine r_iald (Wd := bW ad cI cZ) (k := 0) (n := 12) hx hb hK hP 6 rfl hE dX6_version_13 (fun x3 hE => ?_)
  exact kx_iret (Wd := bW ad cI cZ) hx hb hr hlk hK hP hS hE dX6_version_14
theorem iX6_raiseOf_X4 : ∀ w ∈ wsX40, w ∈ wsX6_raiseOf := fun w h => List.mem_cons_of_mem _ (List.mem_append_left _ (List.mem_append_left _ (List.mem_append_right _ h)))
theorem iX6_raiseOf_X6 : ∀ w ∈ wsX60, w ∈ wsX6_raiseOf := fun w h => List.mem_cons_of_mem _ (List.mem_append_left _ (List.mem_append_left _ (List.mem_append_left _ (List.mem_append_right _ h))))
theorem xX6_raiseOf_2 : ∀ w ∈ (vx_atS RX6 62 "java/lang/IllegalArgumentException" ["java/lang/RuntimeException", "java/lang/Exception"]).filter goodWord, w ∈ wsX6_raiseOf := fun w h => List.mem_cons_of_mem _ (List.mem_append_left _ (List.mem_append_right _ h))
set_option maxHeartbeats 4000000 in
set_option maxRecDepth 100000 in
theorem kX6_raiseOf (l : Launch) (hst : l.stackTraces = false) (D : va_G) (ad : Nat → Nat) (cI cZ : ClassId) (hDD : ∀ S, va_D (bA ad) (bW ad cI cZ S)) (S : St) (v1 : Int32) (v2 : Int32) : ∀ So ro co, y6_raiseOf S v1 v2 = some (So, ro, co) → vx_Met l yX6_raiseOf wsX6_raiseOf (xRm 7 111 co) (va_Pc [.ref (ad 0), .int v1, .int v2] (xPre D cI cZ (bA ad) (bW ad cI cZ S))) (xQi D cI cZ (bA ad) (bW ad cI cZ So) ro co) (xXC D cI cZ (bA ad) (bW ad cI cZ So) co) (xC co) (xS co) (bA ad) := by
  intro So ro co hE
  refine xMet_of (by decide) rfl (Nat.le_of_ble_eq_true rfl) ?_
  intro p e s m args below meth c ls hx hb hr hml hown hlk hts ht hK hP hX hS hl
  have hl : lv_has ls 3 [(0, .ref (ad 0)), (1, .int v1), (2, .int v2)] := hl
  have hown : s.vm.findClass RX6 = some m.cls := hown
  unfold y6_raiseOf at hE
  refine lv_aload_n hx hb dX6_raiseOf_0 rfl (lv_at hl 0 rfl) ?_
  refine lv_iload_n hx hb dX6_raiseOf_1 rfl (lv_at hl 1 rfl) ?_
  refine r_callYv (Wd := bW ad cI cZ) (C := RX6) [.int v1] [] ⟨hx, hb, hml, hown, hts⟩ (kX6_checkRaise l hst D ad cI cZ hDD S v1) (fun k => cwV 1 hts gX6_raiseOf_X6_checkRaise rfl rfl rfl (by decide +kernel) ⟨Nat.le_of_ble_eq_true rfl, Nat.le_of_ble_eq_true rfl⟩) (va_recv hK.1 hP (ci := 5) (q0 := 0) rfl rfl) hK hP hX hS ⟨rfl, rfl⟩ ht hlk rfl hl.1 rfl (Nat.le_of_ble_eq_true rfl) hE dX6_raiseOf_2 (fun S2 x1 H locs hE hP hS => ?_)
  refine lv_iload_n hx hb dX6_raiseOf_5 rfl (lv_at hl 2 rfl) ?_
  try dsimp only at hE
  by_cases c6_0 : v2 = 0
  · rw [if_pos c6_0] at hE
    refine lv_tableIn (x := v2) (tgt := 48) hx hb dX6_raiseOf_6 (by rw [c6_0]; decide) (by rw [c6_0]; decide) (by rw [c6_0]; rfl) (by decide) ?_
    refine lv_aload_n hx hb dX6_raiseOf_48 rfl (lv_at hl 0 rfl) ?_
    refine va_get (D := D) (ci := 5) (v := .ref (ad 3)) (C := RX6) (T := TX6) (N := 6) hx hb hts iX6_raiseOf_X6 hown hK.1 hP 0 rfl rfl 2 (by decide) (hts (.fieldLink RX6 28 "Bumpherald" "raises" "LBumpherald$Raises;") (List.mem_of_getElem? (i := 3) rfl)) (fun _ h9 => h9) rfl dX6_raiseOf_49 ?_
    refine va_get (D := D) (ci := 3) (v := .ref (ad 19)) (C := RX4) (T := TX4) (N := 12) hx hb hts iX6_raiseOf_X4 hown hK.1 hP 3 rfl rfl 5 (by decide) (hts (.fieldLink RX6 188 "Bumpherald$Raises" "states" "[I") (List.mem_of_getElem? (i := 4) rfl)) (fun _ h9 => h9) rfl dX6_raiseOf_52 ?_
    refine lv_iload_n hx hb dX6_raiseOf_55 rfl (lv_at hl 1 rfl) ?_
    refine r_iald (Wd := bW ad cI cZ) (k := 13) (n := 40) hx hb hK hP 19 rfl hE dX6_raiseOf_56 (fun x3 hE => ?_)
    exact kx_iret (Wd := bW ad cI cZ) hx hb hr hlk hK hP hS hE dX6_raiseOf_57
  · rw [if_neg c6_0] at hE
    by_cases c6_1 : v2 = 1
    · rw [if_pos c6_1] at hE
      refine lv_tableIn (x := v2) (tgt := 58) hx hb dX6_raiseOf_6 (by rw [c6_1]; decide) (by rw [c6_1]; decide) (by rw [c6_1]; rfl) (by decide) ?_
      refine lv_aload_n hx hb dX6_raiseOf_58 rfl (lv_at hl 0 rfl) ?_
      refine va_get (D := D) (ci := 5) (v := .ref (ad 3)) (C := RX6) (T := TX6) (N := 6) hx hb hts iX6_raiseOf_X6 hown hK.1 hP 0 rfl rfl 2 (by decide) (hts (.fieldLink RX6 28 "Bumpherald" "raises" "LBumpherald$Raises;") (List.mem_of_getElem? (i := 3) rfl)) (fun _ h9 => h9) rfl dX6_raiseOf_59 ?_
      refine va_get (D := D) (ci := 3) (v := .ref (ad 15)) (C := RX4) (T := TX4) (N := 12) hx hb hts iX6_raiseOf_X4 hown hK.1 hP 3 rfl rfl 1 (by decide) (hts (.fieldLink RX6 191 "Bumpherald$Raises" "packs" "[I") (List.mem_of_getElem? (i := 5) rfl)) (fun _ h9 => h9) rfl dX6_raiseOf_62 ?_
      refine lv_iload_n hx hb dX6_raiseOf_65 rfl (lv_at hl 1 rfl) ?_
      refine r_iald (Wd := bW ad cI cZ) (k := 9) (n := 40) hx hb hK hP 15 rfl hE dX6_raiseOf_66 (fun x4 hE => ?_)
      exact kx_iret (Wd := bW ad cI cZ) hx hb hr hlk hK hP hS hE dX6_raiseOf_67
    · rw [if_neg c6_1] at hE
      by_cases c6_2 : v2 = 2
      · rw [if_pos c6_2] at hE
        refine lv_tableIn (x := v2) (tgt := 68) hx hb dX6_raiseOf_6 (by rw [c6_2]; decide) (by rw [c6_2]; decide) (by rw [c6_2]; rfl) (by decide) ?_
        refine lv_aload_n hx hb dX6_raiseOf_68 rfl (lv_at hl 0 rfl) ?_
        refine va_get (D := D) (ci := 5) (v := .ref (ad 3)) (C := RX6) (T := TX6) (N := 6) hx hb hts iX6_raiseOf_X6 hown hK.1 hP 0 rfl rfl 2 (by decide) (hts (.fieldLink RX6 28 "Bumpherald" "raises" "LBumpherald$Raises;") (List.mem_of_getElem? (i := 3) rfl)) (fun _ h9 => h9) rfl dX6_raiseOf_69 ?_
        refine va_get (D := D) (ci := 3) (v := .ref (ad 16)) (C := RX4) (T := TX4) (N := 12) hx hb hts iX6_raiseOf_X4 hown hK.1 hP 3 rfl rfl 2 (by decide) (hts (.fieldLink RX6 194 "Bumpherald$Raises" "versions" "[I") (List.mem_of_getElem? (i := 6) rfl)) (fun _ h9 => h9) rfl dX6_raiseOf_72 ?_
        refine lv_iload_n hx hb dX6_raiseOf_75 rfl (lv_at hl 1 rfl) ?_
        refine r_iald (Wd := bW ad cI cZ) (k := 10) (n := 40) hx hb hK hP 16 rfl hE dX6_raiseOf_76 (fun x5 hE => ?_)
        exact kx_iret (Wd := bW ad cI cZ) hx hb hr hlk hK hP hS hE dX6_raiseOf_77
      · rw [if_neg c6_2] at hE
        by_cases c6_3 : v2 = 3
        · rw [if_pos c6_3] at hE
          refine lv_tableIn (x := v2) (tgt := 78) hx hb dX6_raiseOf_6 (by rw [c6_3]; decide) (by rw [c6_3]; decide) (by rw [c6_3]; rfl) (by decide) ?_
          refine lv_aload_n hx hb dX6_raiseOf_78 rfl (lv_at hl 0 rfl) ?_
          refine va_get (D := D) (ci := 5) (v := .ref (ad 3)) (C := RX6) (T := TX6) (N := 6) hx hb hts iX6_raiseOf_X6 hown hK.1 hP 0 rfl rfl 2 (by decide) (hts (.fieldLink RX6 28 "Bumpherald" "raises" "LBumpherald$Raises;") (List.mem_of_getElem? (i := 3) rfl)) (fun _ h9 => h9) rfl dX6_raiseOf_79 ?_
          refine va_get (D := D) (ci := 3) (v := .ref (ad 20)) (C := RX4) (T := TX4) (N := 12) hx hb hts iX6_raiseOf_X4 hown hK.1 hP 3 rfl rfl 6 (by decide) (hts (.fieldLink RX6 143 "Bumpherald$Raises" "reviewers" "[I") (List.mem_of_getElem? (i := 7) rfl)) (fun _ h9 => h9) rfl dX6_raiseOf_82 ?_
          refine lv_iload_n hx hb dX6_raiseOf_85 rfl (lv_at hl 1 rfl) ?_
          refine r_iald (Wd := bW ad cI cZ) (k := 14) (n := 40) hx hb hK hP 20 rfl hE dX6_raiseOf_86 (fun x6 hE => ?_)
          exact kx_iret (Wd := bW ad cI cZ) hx hb hr hlk hK hP hS hE dX6_raiseOf_87
        · rw [if_neg c6_3] at hE
          by_cases c6_4 : v2 = 4
          · rw [if_pos c6_4] at hE
            refine lv_tableIn (x := v2) (tgt := 88) hx hb dX6_raiseOf_6 (by rw [c6_4]; decide) (by rw [c6_4]; decide) (by rw [c6_4]; rfl) (by decide) ?_
            refine lv_aload_n hx hb dX6_raiseOf_88 rfl (lv_at hl 0 rfl) ?_
            refine va_get (D := D) (ci := 5) (v := .ref (ad 3)) (C := RX6) (T := TX6) (N := 6) hx hb hts iX6_raiseOf_X6 hown hK.1 hP 0 rfl rfl 2 (by decide) (hts (.fieldLink RX6 28 "Bumpherald" "raises" "LBumpherald$Raises;") (List.mem_of_getElem? (i := 3) rfl)) (fun _ h9 => h9) rfl dX6_raiseOf_89 ?_
            refine va_get (D := D) (ci := 3) (v := .ref (ad 21)) (C := RX4) (T := TX4) (N := 12) hx hb hts iX6_raiseOf_X4 hown hK.1 hP 3 rfl rfl 7 (by decide) (hts (.fieldLink RX6 147 "Bumpherald$Raises" "approved" "[Z") (List.mem_of_getElem? (i := 8) rfl)) (fun _ h9 => h9) rfl dX6_raiseOf_92 ?_
            refine lv_iload_n hx hb dX6_raiseOf_95 rfl (lv_at hl 1 rfl) ?_
            refine r_zald (Wd := bW ad cI cZ) (k := 15) (n := 40) hx hb hK hP 21 rfl hE dX6_raiseOf_96 (fun x7 hE => ?_)
            refine r_if_eq (tgt := 104) hx hb dX6_raiseOf_97 (by decide) hE (fun c8 hE => ?_) (fun c8 hE => ?_)
            · refine lv_iconst (v := 0) hx hb dX6_raiseOf_104 (by decide) ?_
              exact kx_iret (Wd := bW ad cI cZ) hx hb hr hlk hK hP hS hE dX6_raiseOf_105
            · refine lv_iconst (v := 1) hx hb dX6_raiseOf_100 (by decide) ?_
              refine lv_goto (tgt := 105) hx hb dX6_raiseOf_101 (by decide) ?_
              exact kx_iret (Wd := bW ad cI cZ) hx hb hr hlk hK hP hS hE dX6_raiseOf_105
          · rw [if_neg c6_4] at hE
            by_cases c6_5 : v2 = 5
            · rw [if_pos c6_5] at hE
              refine lv_tableIn (x := v2) (tgt := 106) hx hb dX6_raiseOf_6 (by rw [c6_5]; decide) (by rw [c6_5]; decide) (by rw [c6_5]; rfl) (by decide) ?_
              refine lv_aload_n hx hb dX6_raiseOf_106 rfl (lv_at hl 0 rfl) ?_
              refine va_get (D := D) (ci := 5) (v := .ref (ad 3)) (C := RX6) (T := TX6) (N := 6) hx hb hts iX6_raiseOf_X6 hown hK.1 hP 0 rfl rfl 2 (by decide) (hts (.fieldLink RX6 28 "Bumpherald" "raises" "LBumpherald$Raises;") (List.mem_of_getElem? (i := 3) rfl)) (fun _ h9 => h9) rfl dX6_raiseOf_107 ?_
              refine va_get (D := D) (ci := 3) (v := .ref (ad 22)) (C := RX4) (T := TX4) (N := 12) hx hb hts iX6_raiseOf_X4 hown hK.1 hP 3 rfl rfl 8 (by decide) (hts (.fieldLink RX6 195 "Bumpherald$Raises" "groups" "[I") (List.mem_of_getElem? (i := 9) rfl)) (fun _ h9 => h9) rfl dX6_raiseOf_110 ?_
              refine lv_iload_n hx hb dX6_raiseOf_113 rfl (lv_at hl 1 rfl) ?_
              refine r_iald (Wd := bW ad cI cZ) (k := 16) (n := 40) hx hb hK hP 22 rfl hE dX6_raiseOf_114 (fun x9 hE => ?_)
              exact kx_iret (Wd := bW ad cI cZ) hx hb hr hlk hK hP hS hE dX6_raiseOf_115
            · rw [if_neg c6_5] at hE
              by_cases c6_6 : v2 = 6
              · rw [if_pos c6_6] at hE
                refine lv_tableIn (x := v2) (tgt := 116) hx hb dX6_raiseOf_6 (by rw [c6_6]; decide) (by rw [c6_6]; decide) (by rw [c6_6]; rfl) (by decide) ?_
                refine lv_aload_n hx hb dX6_raiseOf_116 rfl (lv_at hl 0 rfl) ?_
                refine va_get (D := D) (ci := 5) (v := .ref (ad 3)) (C := RX6) (T := TX6) (N := 6) hx hb hts iX6_raiseOf_X6 hown hK.1 hP 0 rfl rfl 2 (by decide) (hts (.fieldLink RX6 28 "Bumpherald" "raises" "LBumpherald$Raises;") (List.mem_of_getElem? (i := 3) rfl)) (fun _ h9 => h9) rfl dX6_raiseOf_117 ?_
                refine lv_iload_n hx hb dX6_raiseOf_120 rfl (lv_at hl 1 rfl) ?_
                refine r_callVi (Wd := bW ad cI cZ) (C := RX4) [.int v1] [] ⟨hx, hb, hml, hown, hts⟩ (kX4_groupOf l D ad cI cZ hDD S2 v1) (cwV 1 hts gX6_raiseOf_X4_groupOf rfl rfl rfl (by decide +kernel) ⟨Nat.le_of_ble_eq_true rfl, Nat.le_of_ble_eq_true rfl⟩) (va_recv hK.1 hP (ci := 3) (q0 := 3) rfl rfl) hK hP hS (fun _ h9 => h9) rfl hl.1 rfl (Nat.le_of_ble_eq_true rfl) ⟨Nat.zero_le _, Nat.zero_le _⟩ hE dX6_raiseOf_121 (fun S11 x10 H locs hE hP hS => ?_)
                refine r_callSi (Wd := bW ad cI cZ) [.int x10] [] ⟨hx, hb, hml, hown, hts⟩ (kJ6_bitCount_0f7a4 l D ad cI cZ hDD S11 x10) (va_cwS 1 hts gX6_raiseOf_J6_bitCount_0f7a4 rfl rfl rfl (by decide +kernel) ⟨Nat.le_of_ble_eq_true rfl, Nat.le_of_ble_eq_true rfl⟩) hK hP hS (fun _ h9 => h9) rfl hl.1 rfl (Nat.le_of_ble_eq_true rfl) ⟨Nat.zero_le _, Nat.zero_le _⟩ hE dX6_raiseOf_124 (fun S13 x12 H locs hE hP hS => ?_)
                exact kx_iret (Wd := bW ad cI cZ) hx hb hr hlk hK hP hS hE dX6_raiseOf_127
              · rw [if_neg c6_6] at hE
                refine lv_tableOut (x := v2) (tgt := 128) hx hb dX6_raiseOf_6 (sw_out7 c6_0 c6_1 c6_2 c6_3 c6_4 c6_5 c6_6) (by decide) ?_
                exact kx_throw (Wd := bW ad cI cZ) (own := RX6) (text := "nothing to tell") (names := ["java/lang/RuntimeException", "java/lang/Exception"]) (code := 1) hx hb hst hown rfl (by decide +kernel) (by decide +kernel) (hts (.classLink RX6 58 "java/lang/IllegalArgumentException") (List.mem_of_getElem? (i := 1) rfl)) (hts (.initialized "java/lang/IllegalArgumentException") (List.mem_of_getElem? (i := 2) rfl)) (by decide +kernel) (vx_hat (B := xNg) (fun w h => hts w (xX6_raiseOf_2 w h)) xng2 (fun w h => va_Nw.use (xNg_ok w h).2 (hX.2.2.2 w h))) xgood2 hK hP hX hS (by rw [hml]; exact hl.1) ht hlk (Nat.le_of_ble_eq_true rfl) (Nat.le_of_ble_eq_true rfl) ⟨rfl, rfl⟩ hE dX6_raiseOf_128 dX6_raiseOf_131 dX6_raiseOf_132 dX6_raiseOf_134 dX6_raiseOf_137
theorem iX6_fails_X6 : ∀ w ∈ wsX60, w ∈ wsX6_fails := fun w h => List.mem_cons_of_mem _ (List.mem_append_left _ (List.mem_append_left _ (List.mem_append_left _ (List.mem_append_left _ (List.mem_append_right _ h)))))
set_option maxHeartbeats 4000000 in
set_option maxRecDepth 100000 in
theorem kX6_fails (l : Launch) (hst : l.stackTraces = false) (D : va_G) (ad : Nat → Nat) (cI cZ : ClassId) (hDD : ∀ S, va_D (bA ad) (bW ad cI cZ S)) (S : St) (v1 : Int32) : ∀ So ro co, y6_fails S v1 = some (So, ro, co) → vx_Met l yX6_fails wsX6_fails (xRm 8 132 co) (va_Pc [.ref (ad 0), .int v1] (xPre D cI cZ (bA ad) (bW ad cI cZ S))) (xQi D cI cZ (bA ad) (bW ad cI cZ So) ro co) (xXC D cI cZ (bA ad) (bW ad cI cZ So) co) (xC co) (xS co) (bA ad) := by
  intro So ro co hE
  refine xMet_of (by decide) rfl (Nat.le_of_ble_eq_true rfl) ?_
  intro p e s m args below meth c ls hx hb hr hml hown hlk hts ht hK hP hX hS hl
  have hl : lv_has ls 2 [(0, .ref (ad 0)), (1, .int v1)] := hl
  have hown : s.vm.findClass RX6 = some m.cls := hown
  unfold y6_fails at hE
  refine lv_aload_n hx hb dX6_fails_0 rfl (lv_at hl 0 rfl) ?_
  refine lv_iload_n hx hb dX6_fails_1 rfl (lv_at hl 1 rfl) ?_
  refine r_callYv (Wd := bW ad cI cZ) (C := RX6) [.int v1] [] ⟨hx, hb, hml, hown, hts⟩ (kX6_checkOpen l hst D ad cI cZ hDD S v1) (fun k => cwV 1 hts gX6_fails_X6_checkOpen rfl rfl rfl (by decide +kernel) ⟨Nat.le_of_ble_eq_true rfl, Nat.le_of_ble_eq_true rfl⟩) (va_recv hK.1 hP (ci := 5) (q0 := 0) rfl rfl) hK hP hX hS ⟨rfl, rfl⟩ ht hlk rfl hl.1 rfl (Nat.le_of_ble_eq_true rfl) hE dX6_fails_2 (fun S2 x1 H locs hE hP hS => ?_)
  refine lv_aload_n hx hb dX6_fails_5 rfl (lv_at hl 0 rfl) ?_
  refine va_get (D := D) (ci := 5) (v := .ref (ad 3)) (C := RX6) (T := TX6) (N := 6) hx hb hts iX6_fails_X6 hown hK.1 hP 0 rfl rfl 2 (by decide) (hts (.fieldLink RX6 28 "Bumpherald" "raises" "LBumpherald$Raises;") (List.mem_of_getElem? (i := 1) rfl)) (fun _ h9 => h9) rfl dX6_fails_6 ?_
  refine lv_aload_n hx hb dX6_fails_9 rfl (lv_at hl 0 rfl) ?_
  refine va_get (D := D) (ci := 5) (v := .ref (ad 3)) (C := RX6) (T := TX6) (N := 6) hx hb hts iX6_fails_X6 hown hK.1 hP 0 rfl rfl 2 (by decide) (hts (.fieldLink RX6 28 "Bumpherald" "raises" "LBumpherald$Raises;") (List.mem_of_getElem? (i := 1) rfl)) (fun _ h9 => h9) rfl dX6_fails_10 ?_
  refine lv_iload_n hx hb dX6_fails_13 rfl (lv_at hl 1 rfl) ?_
  refine r_callVi (Wd := bW ad cI cZ) (C := RX4) [.int v1] [.ref (ad 3)] ⟨hx, hb, hml, hown, hts⟩ (kX4_groupOf l D ad cI cZ hDD S2 v1) (cwV 1 hts gX6_fails_X4_groupOf rfl rfl rfl (by decide +kernel) ⟨Nat.le_of_ble_eq_true rfl, Nat.le_of_ble_eq_true rfl⟩) (va_recv hK.1 hP (ci := 3) (q0 := 3) rfl rfl) hK hP hS (fun _ h9 => h9) rfl hl.1 rfl (Nat.le_of_ble_eq_true rfl) ⟨Nat.zero_le _, Nat.zero_le _⟩ hE dX6_fails_14 (fun S4 x3 H locs hE hP hS => ?_)
  refine r_callVi (Wd := bW ad cI cZ) (C := RX4) [.int x3] [] ⟨hx, hb, hml, hown, hts⟩ (kX4_failing l D ad cI cZ hDD S4 x3) (cwV 1 hts gX6_fails_X4_failing rfl rfl rfl (by decide +kernel) ⟨Nat.le_of_ble_eq_true rfl, Nat.le_of_ble_eq_true rfl⟩) (va_recv hK.1 hP (ci := 3) (q0 := 3) rfl rfl) hK hP hS (fun _ h9 => h9) rfl hl.1 rfl (Nat.le_of_ble_eq_true rfl) ⟨Nat.zero_le _, Nat.zero_le _⟩ hE dX6_fails_17 (fun S6 x5 H locs hE hP hS => ?_)
  exact kx_iret (Wd := bW ad cI cZ) hx hb hr hlk hK hP hS hE dX6_fails_20
theorem iX6_canLand_X6 : ∀ w ∈ wsX60, w ∈ wsX6_canLand := fun w h => List.mem_cons_of_mem _ (List.mem_append_left _ (List.mem_append_left _ (List.mem_append_left _ (List.mem_append_left _ (List.mem_append_left _ (List.mem_append_right _ h))))))
set_option maxHeartbeats 4000000 in
set_option maxRecDepth 100000 in
theorem kX6_canLand (l : Launch) (hst : l.stackTraces = false) (D : va_G) (ad : Nat → Nat) (cI cZ : ClassId) (hDD : ∀ S, va_D (bA ad) (bW ad cI cZ S)) (S : St) (v1 : Int32) : ∀ So ro co, y6_canLand S v1 = some (So, ro, co) → vx_Met l yX6_canLand wsX6_canLand (xRm 8 132 co) (va_Pc [.ref (ad 0), .int v1] (xPre D cI cZ (bA ad) (bW ad cI cZ S))) (xQi D cI cZ (bA ad) (bW ad cI cZ So) ro co) (xXC D cI cZ (bA ad) (bW ad cI cZ So) co) (xC co) (xS co) (bA ad) := by
  intro So ro co hE
  refine xMet_of (by decide) rfl (Nat.le_of_ble_eq_true rfl) ?_
  intro p e s m args below meth c ls hx hb hr hml hown hlk hts ht hK hP hX hS hl
  have hl : lv_has ls 2 [(0, .ref (ad 0)), (1, .int v1)] := hl
  have hown : s.vm.findClass RX6 = some m.cls := hown
  unfold y6_canLand at hE
  refine lv_aload_n hx hb dX6_canLand_0 rfl (lv_at hl 0 rfl) ?_
  refine lv_iload_n hx hb dX6_canLand_1 rfl (lv_at hl 1 rfl) ?_
  refine r_callYv (Wd := bW ad cI cZ) (C := RX6) [.int v1] [] ⟨hx, hb, hml, hown, hts⟩ (kX6_checkOpen l hst D ad cI cZ hDD S v1) (fun k => cwV 1 hts gX6_canLand_X6_checkOpen rfl rfl rfl (by decide +kernel) ⟨Nat.le_of_ble_eq_true rfl, Nat.le_of_ble_eq_true rfl⟩) (va_recv hK.1 hP (ci := 5) (q0 := 0) rfl rfl) hK hP hX hS ⟨rfl, rfl⟩ ht hlk rfl hl.1 rfl (Nat.le_of_ble_eq_true rfl) hE dX6_canLand_2 (fun S2 x1 H locs hE hP hS => ?_)
  refine lv_aload_n hx hb dX6_canLand_5 rfl (lv_at hl 0 rfl) ?_
  refine lv_aload_n hx hb dX6_canLand_6 rfl (lv_at hl 0 rfl) ?_
  refine va_get (D := D) (ci := 5) (v := .ref (ad 3)) (C := RX6) (T := TX6) (N := 6) hx hb hts iX6_canLand_X6 hown hK.1 hP 0 rfl rfl 2 (by decide) (hts (.fieldLink RX6 28 "Bumpherald" "raises" "LBumpherald$Raises;") (List.mem_of_getElem? (i := 1) rfl)) (fun _ h9 => h9) rfl dX6_canLand_7 ?_
  refine lv_iload_n hx hb dX6_canLand_10 rfl (lv_at hl 1 rfl) ?_
  refine r_callVi (Wd := bW ad cI cZ) (C := RX4) [.int v1] [.ref (ad 0)] ⟨hx, hb, hml, hown, hts⟩ (kX4_groupOf l D ad cI cZ hDD S2 v1) (cwV 1 hts gX6_canLand_X4_groupOf rfl rfl rfl (by decide +kernel) ⟨Nat.le_of_ble_eq_true rfl, Nat.le_of_ble_eq_true rfl⟩) (va_recv hK.1 hP (ci := 3) (q0 := 3) rfl rfl) hK hP hS (fun _ h9 => h9) rfl hl.1 rfl (Nat.le_of_ble_eq_true rfl) ⟨Nat.zero_le _, Nat.zero_le _⟩ hE dX6_canLand_11 (fun S4 x3 H locs hE hP hS => ?_)
  refine r_callVi (Wd := bW ad cI cZ) (C := RX6) [.int x3] [] ⟨hx, hb, hml, hown, hts⟩ (kX6_isLandable l D ad cI cZ hDD S4 x3) (cwV 1 hts gX6_canLand_X6_isLandable rfl rfl rfl (by decide +kernel) ⟨Nat.le_of_ble_eq_true rfl, Nat.le_of_ble_eq_true rfl⟩) (va_recv hK.1 hP (ci := 5) (q0 := 0) rfl rfl) hK hP hS (fun _ h9 => h9) rfl hl.1 rfl (Nat.le_of_ble_eq_true rfl) ⟨Nat.zero_le _, Nat.zero_le _⟩ hE dX6_canLand_14 (fun S6 x5 H locs hE hP hS => ?_)
  exact kx_bret (Wd := bW ad cI cZ) hx hb hr hlk hK hP hS hE dX6_canLand_17
theorem iX6_load_X6 : ∀ w ∈ wsX60, w ∈ wsX6_load := fun w h => List.mem_cons_of_mem _ (List.mem_append_left _ (List.mem_append_left _ (List.mem_append_left _ (List.mem_append_right _ h))))
set_option maxHeartbeats 4000000 in
set_option maxRecDepth 100000 in
theorem kX6_load (l : Launch) (hst : l.stackTraces = false) (D : va_G) (ad : Nat → Nat) (cI cZ : ClassId) (hDD : ∀ S, va_D (bA ad) (bW ad cI cZ S)) (S : St) (v1 : Int32) : ∀ So ro co, y6_load S v1 = some (So, ro, co) → vx_Met l yX6_load wsX6_load (xRm 7 111 co) (va_Pc [.ref (ad 0), .int v1] (xPre D cI cZ (bA ad) (bW ad cI cZ S))) (xQi D cI cZ (bA ad) (bW ad cI cZ So) ro co) (xXC D cI cZ (bA ad) (bW ad cI cZ So) co) (xC co) (xS co) (bA ad) := by
  intro So ro co hE
  refine xMet_of (by decide) rfl (Nat.le_of_ble_eq_true rfl) ?_
  intro p e s m args below meth c ls hx hb hr hml hown hlk hts ht hK hP hX hS hl
  have hl : lv_has ls 2 [(0, .ref (ad 0)), (1, .int v1)] := hl
  have hown : s.vm.findClass RX6 = some m.cls := hown
  unfold y6_load at hE
  refine lv_aload_n hx hb dX6_load_0 rfl (lv_at hl 0 rfl) ?_
  refine lv_iload_n hx hb dX6_load_1 rfl (lv_at hl 1 rfl) ?_
  refine r_callYv (Wd := bW ad cI cZ) (C := RX6) [.int v1] [] ⟨hx, hb, hml, hown, hts⟩ (kX6_checkReviewer l hst D ad cI cZ hDD S v1) (fun k => cwV 1 hts gX6_load_X6_checkReviewer rfl rfl rfl (by decide +kernel) ⟨Nat.le_of_ble_eq_true rfl, Nat.le_of_ble_eq_true rfl⟩) (va_recv hK.1 hP (ci := 5) (q0 := 0) rfl rfl) hK hP hX hS ⟨rfl, rfl⟩ ht hlk rfl hl.1 rfl (Nat.le_of_ble_eq_true rfl) hE dX6_load_2 (fun S2 x1 H locs hE hP hS => ?_)
  refine lv_aload_n hx hb dX6_load_5 rfl (lv_at hl 0 rfl) ?_
  refine va_get (D := D) (ci := 5) (v := .ref (ad 4)) (C := RX6) (T := TX6) (N := 6) hx hb hts iX6_load_X6 hown hK.1 hP 0 rfl rfl 3 (by decide) (hts (.fieldLink RX6 37 "Bumpherald" "reviewers" "LBumpherald$Reviewers;") (List.mem_of_getElem? (i := 1) rfl)) (fun _ h9 => h9) rfl dX6_load_6 ?_
  refine lv_iload_n hx hb dX6_load_9 rfl (lv_at hl 1 rfl) ?_
  refine lv_iconst (v := -1) hx hb dX6_load_10 (by decide) ?_
  refine r_callVi (Wd := bW ad cI cZ) (C := RX5) [.int v1, .int ((-1))] [] ⟨hx, hb, hml, hown, hts⟩ (kX5_loadWithout l D ad cI cZ hDD S2 v1 ((-1))) (cwV 2 hts gX6_load_X5_loadWithout rfl rfl rfl (by decide +kernel) ⟨Nat.le_of_ble_eq_true rfl, Nat.le_of_ble_eq_true rfl⟩) (va_recv hK.1 hP (ci := 4) (q0 := 4) rfl rfl) hK hP hS (fun _ h9 => h9) rfl hl.1 rfl (Nat.le_of_ble_eq_true rfl) ⟨Nat.zero_le _, Nat.zero_le _⟩ hE dX6_load_11 (fun S4 x3 H locs hE hP hS => ?_)
  exact kx_iret (Wd := bW ad cI cZ) hx hb hr hlk hK hP hS hE dX6_load_14
theorem iX6_fewest_X6 : ∀ w ∈ wsX60, w ∈ wsX6_fewest := fun w h => List.mem_cons_of_mem _ (List.mem_append_left _ (List.mem_append_left _ (List.mem_append_left _ (List.mem_append_left _ (List.mem_append_right _ h)))))
set_option maxHeartbeats 4000000 in
set_option maxRecDepth 100000 in
theorem kX6_fewest (l : Launch) (hst : l.stackTraces = false) (D : va_G) (ad : Nat → Nat) (cI cZ : ClassId) (hDD : ∀ S, va_D (bA ad) (bW ad cI cZ S)) (S : St) (v1 : Int32) : ∀ So ro co, y6_fewest S v1 = some (So, ro, co) → vx_Met l yX6_fewest wsX6_fewest (xRm 8 132 co) (va_Pc [.ref (ad 0), .int v1] (xPre D cI cZ (bA ad) (bW ad cI cZ S))) (xQi D cI cZ (bA ad) (bW ad cI cZ So) ro co) (xXC D cI cZ (bA ad) (bW ad cI cZ So) co) (xC co) (xS co) (bA ad) := by
  intro So ro co hE
  refine xMet_of (by decide) rfl (Nat.le_of_ble_eq_true rfl) ?_
  intro p e s m args below meth c ls hx hb hr hml hown hlk hts ht hK hP hX hS hl
  have hl : lv_has ls 2 [(0, .ref (ad 0)), (1, .int v1)] := hl
  have hown : s.vm.findClass RX6 = some m.cls := hown
  unfold y6_fewest at hE
  refine lv_aload_n hx hb dX6_fewest_0 rfl (lv_at hl 0 rfl) ?_
  refine lv_iload_n hx hb dX6_fewest_1 rfl (lv_at hl 1 rfl) ?_
  refine r_callYv (Wd := bW ad cI cZ) (C := RX6) [.int v1] [] ⟨hx, hb, hml, hown, hts⟩ (kX6_checkOpen l hst D ad cI cZ hDD S v1) (fun k => cwV 1 hts gX6_fewest_X6_checkOpen rfl rfl rfl (by decide +kernel) ⟨Nat.le_of_ble_eq_true rfl, Nat.le_of_ble_eq_true rfl⟩) (va_recv hK.1 hP (ci := 5) (q0 := 0) rfl rfl) hK hP hX hS ⟨rfl, rfl⟩ ht hlk rfl hl.1 rfl (Nat.le_of_ble_eq_true rfl) hE dX6_fewest_2 (fun S2 x1 H locs hE hP hS => ?_)
  refine lv_aload_n hx hb dX6_fewest_5 rfl (lv_at hl 0 rfl) ?_
  refine va_get (D := D) (ci := 5) (v := .ref (ad 3)) (C := RX6) (T := TX6) (N := 6) hx hb hts iX6_fewest_X6 hown hK.1 hP 0 rfl rfl 2 (by decide) (hts (.fieldLink RX6 28 "Bumpherald" "raises" "LBumpherald$Raises;") (List.mem_of_getElem? (i := 1) rfl)) (fun _ h9 => h9) rfl dX6_fewest_6 ?_
  refine lv_aload_n hx hb dX6_fewest_9 rfl (lv_at hl 0 rfl) ?_
  refine va_get (D := D) (ci := 5) (v := .ref (ad 3)) (C := RX6) (T := TX6) (N := 6) hx hb hts iX6_fewest_X6 hown hK.1 hP 0 rfl rfl 2 (by decide) (hts (.fieldLink RX6 28 "Bumpherald" "raises" "LBumpherald$Raises;") (List.mem_of_getElem? (i := 1) rfl)) (fun _ h9 => h9) rfl dX6_fewest_10 ?_
  refine lv_iload_n hx hb dX6_fewest_13 rfl (lv_at hl 1 rfl) ?_
  refine r_callVi (Wd := bW ad cI cZ) (C := RX4) [.int v1] [.ref (ad 3)] ⟨hx, hb, hml, hown, hts⟩ (kX4_bitOf l D ad cI cZ hDD S2 v1) (cwV 1 hts gX6_fewest_X4_bitOf rfl rfl rfl (by decide +kernel) ⟨Nat.le_of_ble_eq_true rfl, Nat.le_of_ble_eq_true rfl⟩) (va_recv hK.1 hP (ci := 3) (q0 := 3) rfl rfl) hK hP hS (fun _ h9 => h9) rfl hl.1 rfl (Nat.le_of_ble_eq_true rfl) ⟨Nat.zero_le _, Nat.zero_le _⟩ hE dX6_fewest_14 (fun S4 x3 H locs hE hP hS => ?_)
  refine r_callSi (Wd := bW ad cI cZ) [.ref (ad 3), .int x3] [] ⟨hx, hb, hml, hown, hts⟩ (kX0_byNeeds l D ad cI cZ hDD S4 x3) (va_cwS 2 hts gX6_fewest_X0_byNeeds rfl rfl rfl (by decide +kernel) ⟨Nat.le_of_ble_eq_true rfl, Nat.le_of_ble_eq_true rfl⟩) hK hP hS (fun _ h9 => h9) rfl hl.1 rfl (Nat.le_of_ble_eq_true rfl) ⟨Nat.zero_le _, Nat.zero_le _⟩ hE dX6_fewest_17 (fun S6 x5 H locs hE hP hS => ?_)
  exact kx_iret (Wd := bW ad cI cZ) hx hb hr hlk hK hP hS hE dX6_fewest_20
theorem iX6_fewestAnew_X6 : ∀ w ∈ wsX60, w ∈ wsX6_fewestAnew := fun w h => List.mem_cons_of_mem _ (List.mem_append_left _ (List.mem_append_left _ (List.mem_append_left _ (List.mem_append_left _ (List.mem_append_right _ h)))))
set_option maxHeartbeats 4000000 in
set_option maxRecDepth 100000 in
theorem kX6_fewestAnew (l : Launch) (hst : l.stackTraces = false) (D : va_G) (ad : Nat → Nat) (cI cZ : ClassId) (hDD : ∀ S, va_D (bA ad) (bW ad cI cZ S)) (S : St) (v1 : Int32) : ∀ So ro co, y6_fewestAnew S v1 = some (So, ro, co) → vx_Met l yX6_fewestAnew wsX6_fewestAnew (xRm 8 132 co) (va_Pc [.ref (ad 0), .int v1] (xPre D cI cZ (bA ad) (bW ad cI cZ S))) (xQi D cI cZ (bA ad) (bW ad cI cZ So) ro co) (xXC D cI cZ (bA ad) (bW ad cI cZ So) co) (xC co) (xS co) (bA ad) := by
  intro So ro co hE
  refine xMet_of (by decide) rfl (Nat.le_of_ble_eq_true rfl) ?_
  intro p e s m args below meth c ls hx hb hr hml hown hlk hts ht hK hP hX hS hl
  have hl : lv_has ls 2 [(0, .ref (ad 0)), (1, .int v1)] := hl
  have hown : s.vm.findClass RX6 = some m.cls := hown
  unfold y6_fewestAnew at hE
  refine lv_aload_n hx hb dX6_fewestAnew_0 rfl (lv_at hl 0 rfl) ?_
  refine lv_iload_n hx hb dX6_fewestAnew_1 rfl (lv_at hl 1 rfl) ?_
  refine r_callYv (Wd := bW ad cI cZ) (C := RX6) [.int v1] [] ⟨hx, hb, hml, hown, hts⟩ (kX6_checkOpen l hst D ad cI cZ hDD S v1) (fun k => cwV 1 hts gX6_fewestAnew_X6_checkOpen rfl rfl rfl (by decide +kernel) ⟨Nat.le_of_ble_eq_true rfl, Nat.le_of_ble_eq_true rfl⟩) (va_recv hK.1 hP (ci := 5) (q0 := 0) rfl rfl) hK hP hX hS ⟨rfl, rfl⟩ ht hlk rfl hl.1 rfl (Nat.le_of_ble_eq_true rfl) hE dX6_fewestAnew_2 (fun S2 x1 H locs hE hP hS => ?_)
  refine lv_aload_n hx hb dX6_fewestAnew_5 rfl (lv_at hl 0 rfl) ?_
  refine va_get (D := D) (ci := 5) (v := .ref (ad 3)) (C := RX6) (T := TX6) (N := 6) hx hb hts iX6_fewestAnew_X6 hown hK.1 hP 0 rfl rfl 2 (by decide) (hts (.fieldLink RX6 28 "Bumpherald" "raises" "LBumpherald$Raises;") (List.mem_of_getElem? (i := 1) rfl)) (fun _ h9 => h9) rfl dX6_fewestAnew_6 ?_
  refine lv_aload_n hx hb dX6_fewestAnew_9 rfl (lv_at hl 0 rfl) ?_
  refine va_get (D := D) (ci := 5) (v := .ref (ad 3)) (C := RX6) (T := TX6) (N := 6) hx hb hts iX6_fewestAnew_X6 hown hK.1 hP 0 rfl rfl 2 (by decide) (hts (.fieldLink RX6 28 "Bumpherald" "raises" "LBumpherald$Raises;") (List.mem_of_getElem? (i := 1) rfl)) (fun _ h9 => h9) rfl dX6_fewestAnew_10 ?_
  refine lv_iload_n hx hb dX6_fewestAnew_13 rfl (lv_at hl 1 rfl) ?_
  refine r_callVi (Wd := bW ad cI cZ) (C := RX4) [.int v1] [.ref (ad 3)] ⟨hx, hb, hml, hown, hts⟩ (kX4_bitOf l D ad cI cZ hDD S2 v1) (cwV 1 hts gX6_fewestAnew_X4_bitOf rfl rfl rfl (by decide +kernel) ⟨Nat.le_of_ble_eq_true rfl, Nat.le_of_ble_eq_true rfl⟩) (va_recv hK.1 hP (ci := 3) (q0 := 3) rfl rfl) hK hP hS (fun _ h9 => h9) rfl hl.1 rfl (Nat.le_of_ble_eq_true rfl) ⟨Nat.zero_le _, Nat.zero_le _⟩ hE dX6_fewestAnew_14 (fun S4 x3 H locs hE hP hS => ?_)
  refine r_callSi (Wd := bW ad cI cZ) [.ref (ad 3), .int x3] [] ⟨hx, hb, hml, hown, hts⟩ (kX0_byAllSets l D ad cI cZ hDD S4 x3) (va_cwS 2 hts gX6_fewestAnew_X0_byAllSets rfl rfl rfl (by decide +kernel) ⟨Nat.le_of_ble_eq_true rfl, Nat.le_of_ble_eq_true rfl⟩) hK hP hS (fun _ h9 => h9) rfl hl.1 rfl (Nat.le_of_ble_eq_true rfl) ⟨Nat.zero_le _, Nat.zero_le _⟩ hE dX6_fewestAnew_17 (fun S6 x5 H locs hE hP hS => ?_)
  exact kx_iret (Wd := bW ad cI cZ) hx hb hr hlk hK hP hS hE dX6_fewestAnew_20
theorem iX6_told_X4 : ∀ w ∈ wsX40, w ∈ wsX6_told := fun w h => List.mem_cons_of_mem _ (List.mem_append_left _ (List.mem_append_left _ (List.mem_append_right _ h)))
theorem iX6_told_X6 : ∀ w ∈ wsX60, w ∈ wsX6_told := fun w h => List.mem_cons_of_mem _ (List.mem_append_left _ (List.mem_append_left _ (List.mem_append_left _ (List.mem_append_right _ h))))
theorem xX6_told_1 : ∀ w ∈ (vx_atS RX6 220 "java/lang/IndexOutOfBoundsException" ["java/lang/RuntimeException", "java/lang/Exception"]).filter goodWord, w ∈ wsX6_told := fun w h => List.mem_cons_of_mem _ (List.mem_append_left _ (List.mem_append_right _ h))
set_option maxHeartbeats 4000000 in
set_option maxRecDepth 100000 in
theorem kX6_told (l : Launch) (hst : l.stackTraces = false) (D : va_G) (ad : Nat → Nat) (cI cZ : ClassId) (hDD : ∀ S, va_D (bA ad) (bW ad cI cZ S)) (S : St) (v1 : Int32) (v2 : Int32) : ∀ So ro co, y6_told S v1 v2 = some (So, ro, co) → vx_Met l yX6_told wsX6_told (xRm 8 132 co) (va_Pc [.ref (ad 0), .int v1, .int v2] (xPre D cI cZ (bA ad) (bW ad cI cZ S))) (xQi D cI cZ (bA ad) (bW ad cI cZ So) ro co) (xXC D cI cZ (bA ad) (bW ad cI cZ So) co) (xC co) (xS co) (bA ad) := by
  intro So ro co hE
  refine xMet_of (by decide) rfl (Nat.le_of_ble_eq_true rfl) ?_
  intro p e s m args below meth c ls hx hb hr hml hown hlk hts ht hK hP hX hS hl
  have hl : lv_has ls 4 [(0, .ref (ad 0)), (1, .int v1), (2, .int v2)] := hl
  have hown : s.vm.findClass RX6 = some m.cls := hown
  unfold y6_told at hE
  refine lv_iload_n hx hb dX6_told_0 rfl (lv_at hl 2 rfl) ?_
  refine r_if_ge (tgt := 14) hx hb dX6_told_1 (by decide) hE (fun c1 hE => ?_) (fun c1 hE => ?_)
  · refine lv_aload_n hx hb dX6_told_14 rfl (lv_at hl 0 rfl) ?_
    refine lv_iload_n hx hb dX6_told_15 rfl (lv_at hl 1 rfl) ?_
    refine r_callYv (Wd := bW ad cI cZ) (C := RX6) [.int v1] [] ⟨hx, hb, hml, hown, hts⟩ (kX6_checkOpen l hst D ad cI cZ hDD S v1) (fun k => cwV 1 hts gX6_told_X6_checkOpen rfl rfl rfl (by decide +kernel) ⟨Nat.le_of_ble_eq_true rfl, Nat.le_of_ble_eq_true rfl⟩) (va_recv hK.1 hP (ci := 5) (q0 := 0) rfl rfl) hK hP hX hS ⟨rfl, rfl⟩ ht hlk rfl hl.1 rfl (Nat.le_of_ble_eq_true rfl) hE dX6_told_16 (fun S3 x2 H locs hE hP hS => ?_)
    refine lv_iload_n hx hb dX6_told_19 rfl (lv_at hl 2 rfl) ?_
    refine r_if_ne (tgt := 37) hx hb dX6_told_20 (by decide) hE (fun c4 hE => ?_) (fun c4 hE => ?_)
    · refine lv_bipush (v := 65) hx hb dX6_told_23 (by decide) ?_
      refine lv_aload_n hx hb dX6_told_25 rfl (lv_at hl 0 rfl) ?_
      refine va_get (D := D) (ci := 5) (v := .ref (ad 3)) (C := RX6) (T := TX6) (N := 6) hx hb hts iX6_told_X6 hown hK.1 hP 0 rfl rfl 2 (by decide) (hts (.fieldLink RX6 28 "Bumpherald" "raises" "LBumpherald$Raises;") (List.mem_of_getElem? (i := 3) rfl)) (fun _ h9 => h9) rfl dX6_told_26 ?_
      refine va_get (D := D) (ci := 3) (v := .ref (ad 15)) (C := RX4) (T := TX4) (N := 12) hx hb hts iX6_told_X4 hown hK.1 hP 3 rfl rfl 1 (by decide) (hts (.fieldLink RX6 191 "Bumpherald$Raises" "packs" "[I") (List.mem_of_getElem? (i := 4) rfl)) (fun _ h9 => h9) rfl dX6_told_29 ?_
      refine lv_iload_n hx hb dX6_told_32 rfl (lv_at hl 1 rfl) ?_
      refine r_iald (Wd := bW ad cI cZ) (k := 9) (n := 40) hx hb hK hP 15 rfl hE dX6_told_33 (fun x5 hE => ?_)
      refine lv_iadd hx hb dX6_told_34 ?_
      refine lv_i2c (v := ((65 + x5).toUInt32 % 65536).toInt32) hx hb dX6_told_35 rfl ?_
      exact kx_zret (Wd := bW ad cI cZ) hx hb hr hlk (pk_nc _) hK hP hS hE dX6_told_36
    · refine lv_iload_n hx hb dX6_told_37 rfl (lv_at hl 2 rfl) ?_
      refine lv_iconst (v := 1) hx hb dX6_told_38 (by decide) ?_
      refine r_icmp_ne (tgt := 59) hx hb dX6_told_39 (by decide) hE (fun c6 hE => ?_) (fun c6 hE => ?_)
      · refine lv_bipush (v := 48) hx hb dX6_told_42 (by decide) ?_
        refine lv_aload_n hx hb dX6_told_44 rfl (lv_at hl 0 rfl) ?_
        refine va_get (D := D) (ci := 5) (v := .ref (ad 3)) (C := RX6) (T := TX6) (N := 6) hx hb hts iX6_told_X6 hown hK.1 hP 0 rfl rfl 2 (by decide) (hts (.fieldLink RX6 28 "Bumpherald" "raises" "LBumpherald$Raises;") (List.mem_of_getElem? (i := 3) rfl)) (fun _ h9 => h9) rfl dX6_told_45 ?_
        refine va_get (D := D) (ci := 3) (v := .ref (ad 16)) (C := RX4) (T := TX4) (N := 12) hx hb hts iX6_told_X4 hown hK.1 hP 3 rfl rfl 2 (by decide) (hts (.fieldLink RX6 194 "Bumpherald$Raises" "versions" "[I") (List.mem_of_getElem? (i := 5) rfl)) (fun _ h9 => h9) rfl dX6_told_48 ?_
        refine lv_iload_n hx hb dX6_told_51 rfl (lv_at hl 1 rfl) ?_
        refine r_iald (Wd := bW ad cI cZ) (k := 10) (n := 40) hx hb hK hP 16 rfl hE dX6_told_52 (fun x7 hE => ?_)
        refine lv_bipush (v := 10) hx hb dX6_told_53 (by decide) ?_
        refine r_idiv hx hb hE dX6_told_55 (fun x8 hE => ?_)
        refine lv_iadd hx hb dX6_told_56 ?_
        refine lv_i2c (v := ((48 + x8).toUInt32 % 65536).toInt32) hx hb dX6_told_57 rfl ?_
        exact kx_zret (Wd := bW ad cI cZ) hx hb hr hlk (pk_nc _) hK hP hS hE dX6_told_58
      · refine lv_iload_n hx hb dX6_told_59 rfl (lv_at hl 2 rfl) ?_
        refine lv_iconst (v := 2) hx hb dX6_told_60 (by decide) ?_
        refine r_icmp_ne (tgt := 81) hx hb dX6_told_61 (by decide) hE (fun c9 hE => ?_) (fun c9 hE => ?_)
        · refine lv_bipush (v := 48) hx hb dX6_told_64 (by decide) ?_
          refine lv_aload_n hx hb dX6_told_66 rfl (lv_at hl 0 rfl) ?_
          refine va_get (D := D) (ci := 5) (v := .ref (ad 3)) (C := RX6) (T := TX6) (N := 6) hx hb hts iX6_told_X6 hown hK.1 hP 0 rfl rfl 2 (by decide) (hts (.fieldLink RX6 28 "Bumpherald" "raises" "LBumpherald$Raises;") (List.mem_of_getElem? (i := 3) rfl)) (fun _ h9 => h9) rfl dX6_told_67 ?_
          refine va_get (D := D) (ci := 3) (v := .ref (ad 16)) (C := RX4) (T := TX4) (N := 12) hx hb hts iX6_told_X4 hown hK.1 hP 3 rfl rfl 2 (by decide) (hts (.fieldLink RX6 194 "Bumpherald$Raises" "versions" "[I") (List.mem_of_getElem? (i := 5) rfl)) (fun _ h9 => h9) rfl dX6_told_70 ?_
          refine lv_iload_n hx hb dX6_told_73 rfl (lv_at hl 1 rfl) ?_
          refine r_iald (Wd := bW ad cI cZ) (k := 10) (n := 40) hx hb hK hP 16 rfl hE dX6_told_74 (fun x10 hE => ?_)
          refine lv_bipush (v := 10) hx hb dX6_told_75 (by decide) ?_
          refine r_irem hx hb hE dX6_told_77 (fun x11 hE => ?_)
          refine lv_iadd hx hb dX6_told_78 ?_
          refine lv_i2c (v := ((48 + x11).toUInt32 % 65536).toInt32) hx hb dX6_told_79 rfl ?_
          exact kx_zret (Wd := bW ad cI cZ) hx hb hr hlk (pk_nc _) hK hP hS hE dX6_told_80
        · refine lv_aload_n hx hb dX6_told_81 rfl (lv_at hl 0 rfl) ?_
          refine va_get (D := D) (ci := 5) (v := .ref (ad 3)) (C := RX6) (T := TX6) (N := 6) hx hb hts iX6_told_X6 hown hK.1 hP 0 rfl rfl 2 (by decide) (hts (.fieldLink RX6 28 "Bumpherald" "raises" "LBumpherald$Raises;") (List.mem_of_getElem? (i := 3) rfl)) (fun _ h9 => h9) rfl dX6_told_82 ?_
          refine lv_iload_n hx hb dX6_told_85 rfl (lv_at hl 1 rfl) ?_
          refine r_callVi (Wd := bW ad cI cZ) (C := RX4) [.int v1] [] ⟨hx, hb, hml, hown, hts⟩ (kX4_groupOf l D ad cI cZ hDD S3 v1) (cwV 1 hts gX6_told_X4_groupOf rfl rfl rfl (by decide +kernel) ⟨Nat.le_of_ble_eq_true rfl, Nat.le_of_ble_eq_true rfl⟩) (va_recv hK.1 hP (ci := 3) (q0 := 3) rfl rfl) hK hP hS (fun _ h9 => h9) rfl hl.1 rfl (Nat.le_of_ble_eq_true rfl) ⟨Nat.zero_le _, Nat.zero_le _⟩ hE dX6_told_86 (fun S13 x12 H locs hE hP hS => ?_)
          refine r_callSi (Wd := bW ad cI cZ) [.int x12] [] ⟨hx, hb, hml, hown, hts⟩ (kJ6_bitCount_0f7a4 l D ad cI cZ hDD S13 x12) (va_cwS 1 hts gX6_told_J6_bitCount_0f7a4 rfl rfl rfl (by decide +kernel) ⟨Nat.le_of_ble_eq_true rfl, Nat.le_of_ble_eq_true rfl⟩) hK hP hS (fun _ h9 => h9) rfl hl.1 rfl (Nat.le_of_ble_eq_true rfl) ⟨Nat.zero_le _, Nat.zero_le _⟩ hE dX6_told_89 (fun S15 x14 H locs hE hP hS => ?_)
          refine lv_iconst (v := 1) hx hb dX6_told_92 (by decide) ?_
          refine lv_isub hx hb dX6_told_93 ?_
          refine lv_istore_n (lv' := [(3, .int (x14 - 1)), (0, .ref (ad 0)), (1, .int v1), (2, .int v2)]) hx hb dX6_told_94 rfl hl (by decide) rfl (fun ls hl => ?_)
          refine lv_iload_n hx hb dX6_told_95 rfl (lv_at hl 3 rfl) ?_
          refine lv_iconst (v := 3) hx hb dX6_told_96 (by decide) ?_
          refine lv_iload_n hx hb dX6_told_97 rfl (lv_at hl 0 rfl) ?_
          refine lv_iadd hx hb dX6_told_98 ?_
          refine r_icmp_ge (tgt := 107) hx hb dX6_told_99 (by decide) hE (fun c16 hE => ?_) (fun c16 hE => ?_)
          · refine lv_iconst (v := 0) hx hb dX6_told_107 (by decide) ?_
            exact kx_zret (Wd := bW ad cI cZ) hx hb hr hlk (by decide +kernel) hK hP hS hE dX6_told_108
          · refine lv_bipush (v := 43) hx hb dX6_told_102 (by decide) ?_
            refine lv_goto (tgt := 108) hx hb dX6_told_104 (by decide) ?_
            exact kx_zret (Wd := bW ad cI cZ) hx hb hr hlk (by decide +kernel) hK hP hS hE dX6_told_108
  · exact kx_throw (Wd := bW ad cI cZ) (own := RX6) (text := "no such sign") (names := ["java/lang/RuntimeException", "java/lang/Exception"]) (code := 0) hx hb hst hown rfl (by decide +kernel) (by decide +kernel) (hts (.classLink RX6 216 "java/lang/IndexOutOfBoundsException") (List.mem_of_getElem? (i := 1) rfl)) (hts (.initialized "java/lang/IndexOutOfBoundsException") (List.mem_of_getElem? (i := 2) rfl)) (by decide +kernel) (vx_hat (B := xNg) (fun w h => hts w (xX6_told_1 w h)) xng1 (fun w h => va_Nw.use (xNg_ok w h).2 (hX.2.2.2 w h))) xgood1 hK hP hX hS (by rw [hml]; exact hl.1) ht hlk (Nat.le_of_ble_eq_true rfl) (Nat.le_of_ble_eq_true rfl) ⟨rfl, rfl⟩ hE dX6_told_4 dX6_told_7 dX6_told_8 dX6_told_10 dX6_told_13
