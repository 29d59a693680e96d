/-! walks, by program -/
theorem iX7_thrown_X7 : ∀ w ∈ wsX70, w ∈ wsX7_thrown := fun w h => List.mem_cons_of_mem _ (List.mem_append_right _ h)
set_option maxHeartbeats 4000000 in
set_option maxRecDepth 100000 in
theorem kX7_thrown (l : Launch) (D : va_G) (ad : Nat → Nat) (cI cZ : ClassId) (hDD : ∀ S, va_D (mA ad) (mW ad cI cZ S)) (S : St) : ∀ So ro, f7_thrown S  = some (So, ro) → Met l yX7_thrown wsX7_thrown { frames := 0, cells := 0, slots := 0, locals := 0 } (va_Pc [.ref (ad 0)] (kPre D cI cZ (mW ad cI cZ S))) (kQi D cI cZ (mA ad) (mW ad cI cZ So) ro) 0 0 (mA ad) := by
  intro So ro hE
  refine kMet_of (by decide) rfl (Nat.le_of_ble_eq_true rfl) ?_
  intro p e s m args below meth c ls hx hb hr hml hown hlk hts hK hP hS hl
  have hl : lv_has ls 1 [(0, .ref (ad 0))] := hl
  have hown : s.vm.findClass RX7 = some m.cls := hown
  unfold f7_thrown at hE
  refine lv_aload_n hx hb dX7_thrown_0 rfl (lv_at hl 0 rfl) ?_
  refine va_get (D := D) (ci := 6) (v := .int (S.1 0)) (C := RX7) (T := TX7) (N := 25) hx hb hts iX7_thrown_X7 hown hK.1 hP 0 rfl rfl 0 (by decide) (hts (.fieldLink RX7 69 "BumpheraldModel" "thrown" "I") (List.mem_of_getElem? (i := 1) rfl)) (fun _ h9 => h9) rfl dX7_thrown_1 ?_
  exact k_iret (Wd := mW ad cI cZ) hx hb hr hlk hK hP hS hE dX7_thrown_4
set_option maxHeartbeats 4000000 in
set_option maxRecDepth 100000 in
theorem kX7_in (l : Launch) (D : va_G) (ad : Nat → Nat) (cI cZ : ClassId) (hDD : ∀ S, va_D (mA ad) (mW ad cI cZ S)) (S : St) (v0 : Int32) (v1 : Int32) (v2 : Int32) : ∀ So ro, f7_in S v0 v1 v2 = some (So, ro) → Met l yX7_in wsX7_in { frames := 0, cells := 0, slots := 0, locals := 0 } (va_Pc [.int v0, .int v1, .int v2] (kPre D cI cZ (mW ad cI cZ S))) (kQi D cI cZ (mA ad) (mW ad cI cZ So) ro) 0 0 (mA ad) := by
  intro So ro hE
  refine kMet_of (by decide) rfl (Nat.le_of_ble_eq_true rfl) ?_
  intro p e s m args below meth c ls hx hb hr hml hown hlk hts hK hP hS hl
  have hl : lv_has ls 3 [(0, .int v0), (1, .int v1), (2, .int v2)] := hl
  have hown : s.vm.findClass RX7 = some m.cls := hown
  unfold f7_in at hE
  refine lv_iload_n hx hb dX7_in_0 rfl (lv_at hl 0 rfl) ?_
  refine lv_iload_n hx hb dX7_in_1 rfl (lv_at hl 1 rfl) ?_
  refine r_icmp_lt (tgt := 14) hx hb dX7_in_2 (by decide) hE (fun c1 hE => ?_) (fun c1 hE => ?_)
  · refine lv_iconst (v := 0) hx hb dX7_in_14 (by decide) ?_
    exact k_zret (Wd := mW ad cI cZ) hx hb hr hlk (by decide +kernel) hK hP hS hE dX7_in_15
  · refine lv_iload_n hx hb dX7_in_5 rfl (lv_at hl 0 rfl) ?_
    refine lv_iload_n hx hb dX7_in_6 rfl (lv_at hl 2 rfl) ?_
    refine r_icmp_gt (tgt := 14) hx hb dX7_in_7 (by decide) hE (fun c2 hE => ?_) (fun c2 hE => ?_)
    · refine lv_iconst (v := 0) hx hb dX7_in_14 (by decide) ?_
      exact k_zret (Wd := mW ad cI cZ) hx hb hr hlk (by decide +kernel) hK hP hS hE dX7_in_15
    · refine lv_iconst (v := 1) hx hb dX7_in_10 (by decide) ?_
      refine lv_goto (tgt := 15) hx hb dX7_in_11 (by decide) ?_
      exact k_zret (Wd := mW ad cI cZ) hx hb hr hlk (by decide +kernel) hK hP hS hE dX7_in_15
theorem iX7_refused_X7 : ∀ w ∈ wsX70, w ∈ wsX7_refused := fun w h => List.mem_cons_of_mem _ (List.mem_append_right _ h)
set_option maxHeartbeats 4000000 in
set_option maxRecDepth 100000 in
theorem kX7_refused (l : Launch) (D : va_G) (ad : Nat → Nat) (cI cZ : ClassId) (hDD : ∀ S, va_D (mA ad) (mW ad cI cZ S)) (S : St) (v1 : Int32) : ∀ So ro, f7_refused S v1 = some (So, ro) → Met l yX7_refused wsX7_refused { frames := 0, cells := 0, slots := 0, locals := 0 } (va_Pc [.ref (ad 0), .int v1] (kPre D cI cZ (mW ad cI cZ S))) (kQi D cI cZ (mA ad) (mW ad cI cZ So) ro) 0 0 (mA ad) := by
  intro So ro hE
  refine kMet_of (by decide) rfl (Nat.le_of_ble_eq_true rfl) ?_
  intro p e s m args below meth c ls hx hb hr hml hown hlk hts hK hP hS hl
  have hl : lv_has ls 2 [(0, .ref (ad 0)), (1, .int v1)] := hl
  have hown : s.vm.findClass RX7 = some m.cls := hown
  unfold f7_refused at hE
  refine lv_aload_n hx hb dX7_refused_0 rfl (lv_at hl 0 rfl) ?_
  refine lv_iload_n hx hb dX7_refused_1 rfl (lv_at hl 1 rfl) ?_
  refine r_puti (Wd := mW ad cI cZ) (ci := 6) (C := RX7) (T := TX7) (N := 25) (kf := 0) hx hb hts iX7_refused_X7 tyX7 tyX7_ok nmX7 hown hDD hK hP hS 0 rfl rfl 0 (by decide) (hts (.fieldLink RX7 69 "BumpheraldModel" "thrown" "I") (List.mem_of_getElem? (i := 1) rfl)) rfl rfl (by decide +kernel) (Nat.le_of_ble_eq_true rfl) rfl hE dX7_refused_2 (fun S1 H locs hE hP hS => ?_)
  refine lv_iload_n hx hb dX7_refused_5 rfl (lv_at hl 1 rfl) ?_
  refine r_if_eq (tgt := 13) hx hb dX7_refused_6 (by decide) hE (fun c2 hE => ?_) (fun c2 hE => ?_)
  · refine lv_iconst (v := 0) hx hb dX7_refused_13 (by decide) ?_
    exact k_zret (Wd := mW ad cI cZ) hx hb hr hlk (by decide +kernel) hK hP hS hE dX7_refused_14
  · refine lv_iconst (v := 1) hx hb dX7_refused_9 (by decide) ?_
    refine lv_goto (tgt := 14) hx hb dX7_refused_10 (by decide) ?_
    exact k_zret (Wd := mW ad cI cZ) hx hb hr hlk (by decide +kernel) hK hP hS hE dX7_refused_14
theorem iX7_isPack_X7 : ∀ w ∈ wsX70, w ∈ wsX7_isPack := fun w h => List.mem_cons_of_mem _ (List.mem_append_right _ h)
set_option maxHeartbeats 4000000 in
set_option maxRecDepth 100000 in
theorem kX7_isPack (l : Launch) (D : va_G) (ad : Nat → Nat) (cI cZ : ClassId) (hDD : ∀ S, va_D (mA ad) (mW ad cI cZ S)) (S : St) (v1 : Int32) : ∀ So ro, f7_isPack S v1 = some (So, ro) → Met l yX7_isPack wsX7_isPack { frames := 1, cells := 0, slots := 0, locals := 22 } (va_Pc [.ref (ad 0), .int v1] (kPre D cI cZ (mW ad cI cZ S))) (kQi D cI cZ (mA ad) (mW ad cI cZ So) ro) 0 0 (mA ad) := by
  intro So ro hE
  refine kMet_of (by decide) rfl (Nat.le_of_ble_eq_true rfl) ?_
  intro p e s m args below meth c ls hx hb hr hml hown hlk hts hK hP hS hl
  have hl : lv_has ls 2 [(0, .ref (ad 0)), (1, .int v1)] := hl
  have hown : s.vm.findClass RX7 = some m.cls := hown
  unfold f7_isPack at hE
  refine lv_iload_n hx hb dX7_isPack_0 rfl (lv_at hl 1 rfl) ?_
  refine lv_iconst (v := 0) hx hb dX7_isPack_1 (by decide) ?_
  refine lv_aload_n hx hb dX7_isPack_2 rfl (lv_at hl 0 rfl) ?_
  refine va_get (D := D) (ci := 6) (v := .int (S.1 2)) (C := RX7) (T := TX7) (N := 25) hx hb hts iX7_isPack_X7 hown hK.1 hP 0 rfl rfl 2 (by decide) (hts (.fieldLink RX7 72 "BumpheraldModel" "packs" "I") (List.mem_of_getElem? (i := 1) rfl)) (fun _ h9 => h9) rfl dX7_isPack_3 ?_
  refine lv_iconst (v := 1) hx hb dX7_isPack_6 (by decide) ?_
  refine lv_isub hx hb dX7_isPack_7 ?_
  refine r_callSi (Wd := mW ad cI cZ) [.int v1, .int 0, .int ((S.1 2) - 1)] [] ⟨hx, hb, hml, hown, hts⟩ (kX7_in l D ad cI cZ hDD S v1 0 ((S.1 2) - 1)) (va_cwS 3 hts gX7_isPack_X7_in rfl rfl rfl (by decide +kernel) ⟨Nat.le_of_ble_eq_true rfl, Nat.le_of_ble_eq_true rfl⟩) hK hP hS (fun _ h9 => h9) rfl hl.1 rfl (Nat.le_of_ble_eq_true rfl) ⟨Nat.zero_le _, Nat.zero_le _⟩ hE dX7_isPack_8 (fun S2 x1 H locs hE hP hS => ?_)
  exact k_bret (Wd := mW ad cI cZ) hx hb hr hlk hK hP hS hE dX7_isPack_11
theorem iX7_isRaise_X7 : ∀ w ∈ wsX70, w ∈ wsX7_isRaise := fun w h => List.mem_cons_of_mem _ (List.mem_append_right _ h)
set_option maxHeartbeats 4000000 in
set_option maxRecDepth 100000 in
theorem kX7_isRaise (l : Launch) (D : va_G) (ad : Nat → Nat) (cI cZ : ClassId) (hDD : ∀ S, va_D (mA ad) (mW ad cI cZ S)) (S : St) (v1 : Int32) : ∀ So ro, f7_isRaise S v1 = some (So, ro) → Met l yX7_isRaise wsX7_isRaise { frames := 1, cells := 0, slots := 0, locals := 22 } (va_Pc [.ref (ad 0), .int v1] (kPre D cI cZ (mW ad cI cZ S))) (kQi D cI cZ (mA ad) (mW ad cI cZ So) ro) 0 0 (mA ad) := by
  intro So ro hE
  refine kMet_of (by decide) rfl (Nat.le_of_ble_eq_true rfl) ?_
  intro p e s m args below meth c ls hx hb hr hml hown hlk hts hK hP hS hl
  have hl : lv_has ls 2 [(0, .ref (ad 0)), (1, .int v1)] := hl
  have hown : s.vm.findClass RX7 = some m.cls := hown
  unfold f7_isRaise at hE
  refine lv_iload_n hx hb dX7_isRaise_0 rfl (lv_at hl 1 rfl) ?_
  refine lv_iconst (v := 0) hx hb dX7_isRaise_1 (by decide) ?_
  refine lv_aload_n hx hb dX7_isRaise_2 rfl (lv_at hl 0 rfl) ?_
  refine va_get (D := D) (ci := 6) (v := .int (S.1 6)) (C := RX7) (T := TX7) (N := 25) hx hb hts iX7_isRaise_X7 hown hK.1 hP 0 rfl rfl 15 (by decide) (hts (.fieldLink RX7 79 "BumpheraldModel" "raises" "I") (List.mem_of_getElem? (i := 1) rfl)) (fun _ h9 => h9) rfl dX7_isRaise_3 ?_
  refine lv_iconst (v := 1) hx hb dX7_isRaise_6 (by decide) ?_
  refine lv_isub hx hb dX7_isRaise_7 ?_
  refine r_callSi (Wd := mW ad cI cZ) [.int v1, .int 0, .int ((S.1 6) - 1)] [] ⟨hx, hb, hml, hown, hts⟩ (kX7_in l D ad cI cZ hDD S v1 0 ((S.1 6) - 1)) (va_cwS 3 hts gX7_isRaise_X7_in rfl rfl rfl (by decide +kernel) ⟨Nat.le_of_ble_eq_true rfl, Nat.le_of_ble_eq_true rfl⟩) hK hP hS (fun _ h9 => h9) rfl hl.1 rfl (Nat.le_of_ble_eq_true rfl) ⟨Nat.zero_le _, Nat.zero_le _⟩ hE dX7_isRaise_8 (fun S2 x1 H locs hE hP hS => ?_)
  exact k_bret (Wd := mW ad cI cZ) hx hb hr hlk hK hP hS hE dX7_isRaise_11
set_option maxHeartbeats 4000000 in
set_option maxRecDepth 100000 in
theorem kX7_isReviewer (l : Launch) (D : va_G) (ad : Nat → Nat) (cI cZ : ClassId) (hDD : ∀ S, va_D (mA ad) (mW ad cI cZ S)) (S : St) (v0 : Int32) : ∀ So ro, f7_isReviewer S v0 = some (So, ro) → Met l yX7_isReviewer wsX7_isReviewer { frames := 1, cells := 0, slots := 0, locals := 22 } (va_Pc [.int v0] (kPre D cI cZ (mW ad cI cZ S))) (kQi D cI cZ (mA ad) (mW ad cI cZ So) ro) 0 0 (mA ad) := by
  intro So ro hE
  refine kMet_of (by decide) rfl (Nat.le_of_ble_eq_true rfl) ?_
  intro p e s m args below meth c ls hx hb hr hml hown hlk hts hK hP hS hl
  have hl : lv_has ls 1 [(0, .int v0)] := hl
  have hown : s.vm.findClass RX7 = some m.cls := hown
  unfold f7_isReviewer at hE
  refine lv_iload_n hx hb dX7_isReviewer_0 rfl (lv_at hl 0 rfl) ?_
  refine lv_iconst (v := 0) hx hb dX7_isReviewer_1 (by decide) ?_
  refine lv_iconst (v := 5) hx hb dX7_isReviewer_2 (by decide) ?_
  refine r_callSi (Wd := mW ad cI cZ) [.int v0, .int 0, .int 5] [] ⟨hx, hb, hml, hown, hts⟩ (kX7_in l D ad cI cZ hDD S v0 0 5) (va_cwS 3 hts gX7_isReviewer_X7_in rfl rfl rfl (by decide +kernel) ⟨Nat.le_of_ble_eq_true rfl, Nat.le_of_ble_eq_true rfl⟩) hK hP hS (fun _ h9 => h9) rfl hl.1 rfl (Nat.le_of_ble_eq_true rfl) ⟨Nat.zero_le _, Nat.zero_le _⟩ hE dX7_isReviewer_3 (fun S2 x1 H locs hE hP hS => ?_)
  exact k_bret (Wd := mW ad cI cZ) hx hb hr hlk hK hP hS hE dX7_isReviewer_6
theorem iX7_pack_X7 : ∀ w ∈ wsX70, w ∈ wsX7_pack := fun w h => List.mem_cons_of_mem _ (List.mem_append_right _ h)
set_option maxHeartbeats 4000000 in
set_option maxRecDepth 100000 in
theorem kX7_pack (l : Launch) (D : va_G) (ad : Nat → Nat) (cI cZ : ClassId) (hDD : ∀ S, va_D (mA ad) (mW ad cI cZ S)) (S : St) (v1 : Int32) : ∀ So ro, f7_pack S v1 = some (So, ro) → Met l yX7_pack wsX7_pack { frames := 1, cells := 0, slots := 0, locals := 22 } (va_Pc [.ref (ad 0), .int v1] (kPre D cI cZ (mW ad cI cZ S))) (kQi D cI cZ (mA ad) (mW ad cI cZ So) ro) 0 0 (mA ad) := by
  intro So ro hE
  refine kMet_of (by decide) rfl (Nat.le_of_ble_eq_true rfl) ?_
  intro p e s m args below meth c ls hx hb hr hml hown hlk hts hK hP hS hl
  have hl : lv_has ls 2 [(0, .ref (ad 0)), (1, .int v1)] := hl
  have hown : s.vm.findClass RX7 = some m.cls := hown
  have H29 : ∀ (v1 : Int32) (t1 : Int32) (S : St), f7_pack_J29  v1 t1 S = some (So, ro) → ∀ (H : Heap) (locs : List Loc) (ls : Array Slot), va_P D vwCl (mW ad cI cZ S) H → va_S (mA ad) s.heap H locs → lv_has ls 2 [(0, .ref (ad 0)), (1, .int v1)] → W p l e (headSpec wsX7_pack { frames := 1, cells := 0, slots := 0, locals := 22 }).room s m args below meth c H locs 0 0 (MQ below (kQi D cI cZ (mA ad) (mW ad cI cZ So) ro) args s 0 0 (mA ad)) (F0 m 29 ls [.int t1, .ref (ad 0)]) := by
    intro v1 t1 S hE H locs ls hP hS hl
    unfold f7_pack_J29 at hE
    refine r_callVi (Wd := mW ad cI cZ) (C := RX7) [.int t1] [] ⟨hx, hb, hml, hown, hts⟩ (kX7_refused l D ad cI cZ hDD S t1) (cwV 1 hts gX7_pack_X7_refused rfl rfl rfl (by decide +kernel) ⟨Nat.le_of_ble_eq_true rfl, Nat.le_of_ble_eq_true rfl⟩) (va_recv hK.1 hP (ci := 6) (q0 := 0) rfl rfl) hK hP hS (fun _ h9 => h9) rfl hl.1 rfl (Nat.le_of_ble_eq_true rfl) ⟨Nat.zero_le _, Nat.zero_le _⟩ hE dX7_pack_29 (fun S2 x1 H locs hE hP hS => ?_)
    refine r_if_eq (tgt := 37) hx hb dX7_pack_32 (by decide) hE (fun c3 hE => ?_) (fun c3 hE => ?_)
    · refine lv_aload_n hx hb dX7_pack_37 rfl (lv_at hl 0 rfl) ?_
      refine va_get (D := D) (ci := 6) (v := .ref (ad 1)) (C := RX7) (T := TX7) (N := 25) hx hb hts iX7_pack_X7 hown hK.1 hP 0 rfl rfl 3 (by decide) (hts (.fieldLink RX7 7 "BumpheraldModel" "version" "[I") (List.mem_of_getElem? (i := 2) rfl)) (fun _ h9 => h9) rfl dX7_pack_38 ?_
      refine lv_aload_n hx hb dX7_pack_41 rfl (lv_at hl 0 rfl) ?_
      refine va_get (D := D) (ci := 6) (v := .int (S2.1 2)) (C := RX7) (T := TX7) (N := 25) hx hb hts iX7_pack_X7 hown hK.1 hP 0 rfl rfl 2 (by decide) (hts (.fieldLink RX7 72 "BumpheraldModel" "packs" "I") (List.mem_of_getElem? (i := 1) rfl)) (fun _ h9 => h9) rfl dX7_pack_42 ?_
      refine lv_iload_n hx hb dX7_pack_45 rfl (lv_at hl 1 rfl) ?_
      refine r_iast (Wd := mW ad cI cZ) (k := 0) (n := 12) hx hb hDD hK hP hS 1 rfl (mU0 ..) hE dX7_pack_46 (fun S4 H locs hE hP hS => ?_)
      refine lv_aload_n hx hb dX7_pack_47 rfl (lv_at hl 0 rfl) ?_
      refine lv_dup hx hb dX7_pack_48 rfl ?_
      refine va_get (D := D) (ci := 6) (v := .int (S4.1 2)) (C := RX7) (T := TX7) (N := 25) hx hb hts iX7_pack_X7 hown hK.1 hP 0 rfl rfl 2 (by decide) (hts (.fieldLink RX7 72 "BumpheraldModel" "packs" "I") (List.mem_of_getElem? (i := 1) rfl)) (fun _ h9 => h9) rfl dX7_pack_49 ?_
      refine lv_iconst (v := 1) hx hb dX7_pack_52 (by decide) ?_
      refine lv_iadd hx hb dX7_pack_53 ?_
      refine r_puti (Wd := mW ad cI cZ) (ci := 6) (C := RX7) (T := TX7) (N := 25) (kf := 2) hx hb hts iX7_pack_X7 tyX7 tyX7_ok nmX7 hown hDD hK hP hS 0 rfl rfl 2 (by decide) (hts (.fieldLink RX7 72 "BumpheraldModel" "packs" "I") (List.mem_of_getElem? (i := 1) rfl)) rfl rfl (by decide +kernel) (Nat.le_of_ble_eq_true rfl) rfl hE dX7_pack_54 (fun S5 H locs hE hP hS => ?_)
      refine lv_aload_n hx hb dX7_pack_57 rfl (lv_at hl 0 rfl) ?_
      refine va_get (D := D) (ci := 6) (v := .int (S5.1 2)) (C := RX7) (T := TX7) (N := 25) hx hb hts iX7_pack_X7 hown hK.1 hP 0 rfl rfl 2 (by decide) (hts (.fieldLink RX7 72 "BumpheraldModel" "packs" "I") (List.mem_of_getElem? (i := 1) rfl)) (fun _ h9 => h9) rfl dX7_pack_58 ?_
      refine lv_iconst (v := 1) hx hb dX7_pack_61 (by decide) ?_
      refine lv_isub hx hb dX7_pack_62 ?_
      exact k_iret (Wd := mW ad cI cZ) hx hb hr hlk hK hP hS hE dX7_pack_63
    · refine lv_iconst (v := 0) hx hb dX7_pack_35 (by decide) ?_
      exact k_iret (Wd := mW ad cI cZ) hx hb hr hlk hK hP hS hE dX7_pack_36
  unfold f7_pack at hE
  refine lv_aload_n hx hb dX7_pack_0 rfl (lv_at hl 0 rfl) ?_
  refine lv_iload_n hx hb dX7_pack_1 rfl (lv_at hl 1 rfl) ?_
  refine lv_iconst (v := 1) hx hb dX7_pack_2 (by decide) ?_
  refine lv_bipush (v := 99) hx hb dX7_pack_3 (by decide) ?_
  refine r_callSi (Wd := mW ad cI cZ) [.int v1, .int 1, .int 99] [.ref (ad 0)] ⟨hx, hb, hml, hown, hts⟩ (kX7_in l D ad cI cZ hDD S v1 1 99) (va_cwS 3 hts gX7_pack_X7_in rfl rfl rfl (by decide +kernel) ⟨Nat.le_of_ble_eq_true rfl, Nat.le_of_ble_eq_true rfl⟩) hK hP hS (fun _ h9 => h9) rfl hl.1 rfl (Nat.le_of_ble_eq_true rfl) ⟨Nat.zero_le _, Nat.zero_le _⟩ hE dX7_pack_5 (fun S8 x7 H locs hE hP hS => ?_)
  refine r_if_ne (tgt := 15) hx hb dX7_pack_8 (by decide) hE (fun c9 hE => ?_) (fun c9 hE => ?_)
  · refine lv_iconst (v := 1) hx hb dX7_pack_11 (by decide) ?_
    refine lv_goto (tgt := 29) hx hb dX7_pack_12 (by decide) ?_
    exact H29 v1 1 S8 hE _ _ _ hP hS (lv_sub hl [0, 1] rfl)
  · refine lv_aload_n hx hb dX7_pack_15 rfl (lv_at hl 0 rfl) ?_
    refine va_get (D := D) (ci := 6) (v := .int (S8.1 2)) (C := RX7) (T := TX7) (N := 25) hx hb hts iX7_pack_X7 hown hK.1 hP 0 rfl rfl 2 (by decide) (hts (.fieldLink RX7 72 "BumpheraldModel" "packs" "I") (List.mem_of_getElem? (i := 1) rfl)) (fun _ h9 => h9) rfl dX7_pack_16 ?_
    refine lv_bipush (v := 12) hx hb dX7_pack_19 (by decide) ?_
    refine r_icmp_ne (tgt := 28) hx hb dX7_pack_21 (by decide) hE (fun c10 hE => ?_) (fun c10 hE => ?_)
    · refine lv_iconst (v := 2) hx hb dX7_pack_24 (by decide) ?_
      refine lv_goto (tgt := 29) hx hb dX7_pack_25 (by decide) ?_
      exact H29 v1 2 S8 hE _ _ _ hP hS (lv_sub hl [0, 1] rfl)
    · refine lv_iconst (v := 0) hx hb dX7_pack_28 (by decide) ?_
      exact H29 v1 0 S8 hE _ _ _ hP hS (lv_sub hl [0, 1] rfl)
theorem iX7_need_X7 : ∀ w ∈ wsX70, w ∈ wsX7_need := fun w h => List.mem_cons_of_mem _ (List.mem_append_right _ h)
set_option maxHeartbeats 4000000 in
set_option maxRecDepth 100000 in
theorem kX7_need (l : Launch) (D : va_G) (ad : Nat → Nat) (cI cZ : ClassId) (hDD : ∀ S, va_D (mA ad) (mW ad cI cZ S)) (S : St) (v1 : Int32) (v2 : Int32) (v3 : Int32) (v4 : Int32) : ∀ So ro, f7_need S v1 v2 v3 v4 = some (So, ro) → Met l yX7_need wsX7_need { frames := 2, cells := 0, slots := 0, locals := 43 } (va_Pc [.ref (ad 0), .int v1, .int v2, .int v3, .int v4] (kPre D cI cZ (mW ad cI cZ S))) (kQi D cI cZ (mA ad) (mW ad cI cZ So) ro) 0 0 (mA ad) := by
  intro So ro hE
  refine kMet_of (by decide) rfl (Nat.le_of_ble_eq_true rfl) ?_
  intro p e s m args below meth c ls hx hb hr hml hown hlk hts hK hP hS hl
  have hl : lv_has ls 7 [(0, .ref (ad 0)), (1, .int v1), (2, .int v2), (3, .int v3), (4, .int v4)] := hl
  have hown : s.vm.findClass RX7 = some m.cls := hown
  have H112 : ∀ (v1 : Int32) (v2 : Int32) (v3 : Int32) (v4 : Int32) (t1 : Int32) (S : St), f7_need_J112  v1 v2 v3 v4 t1 S = some (So, ro) → ∀ (H : Heap) (locs : List Loc) (ls : Array Slot), va_P D vwCl (mW ad cI cZ S) H → va_S (mA ad) s.heap H locs → lv_has ls 7 [(0, .ref (ad 0)), (1, .int v1), (2, .int v2), (3, .int v3), (4, .int v4)] → W p l e (headSpec wsX7_need { frames := 2, cells := 0, slots := 0, locals := 43 }).room s m args below meth c H locs 0 0 (MQ below (kQi D cI cZ (mA ad) (mW ad cI cZ So) ro) args s 0 0 (mA ad)) (F0 m 112 ls [.int t1, .ref (ad 0)]) := by
    intro v1 v2 v3 v4 t1 S hE H locs ls hP hS hl
    unfold f7_need_J112 at hE
    refine r_callVi (Wd := mW ad cI cZ) (C := RX7) [.int t1] [] ⟨hx, hb, hml, hown, hts⟩ (kX7_refused l D ad cI cZ hDD S t1) (cwV 1 hts gX7_need_X7_refused rfl rfl rfl (by decide +kernel) ⟨Nat.le_of_ble_eq_true rfl, Nat.le_of_ble_eq_true rfl⟩) (va_recv hK.1 hP (ci := 6) (q0 := 0) rfl rfl) hK hP hS (fun _ h9 => h9) rfl hl.1 rfl (Nat.le_of_ble_eq_true rfl) ⟨Nat.zero_le _, Nat.zero_le _⟩ hE dX7_need_112 (fun S2 x1 H locs hE hP hS => ?_)
    refine r_if_eq (tgt := 120) hx hb dX7_need_115 (by decide) hE (fun c3 hE => ?_) (fun c3 hE => ?_)
    · refine lv_aload_n hx hb dX7_need_120 rfl (lv_at hl 0 rfl) ?_
      refine va_get (D := D) (ci := 6) (v := .ref (ad 2)) (C := RX7) (T := TX7) (N := 25) hx hb hts iX7_need_X7 hown hK.1 hP 0 rfl rfl 5 (by decide) (hts (.fieldLink RX7 13 "BumpheraldModel" "needing" "[I") (List.mem_of_getElem? (i := 3) rfl)) (fun _ h9 => h9) rfl dX7_need_121 ?_
      refine lv_aload_n hx hb dX7_need_124 rfl (lv_at hl 0 rfl) ?_
      refine va_get (D := D) (ci := 6) (v := .int (S2.1 3)) (C := RX7) (T := TX7) (N := 25) hx hb hts iX7_need_X7 hown hK.1 hP 0 rfl rfl 4 (by decide) (hts (.fieldLink RX7 92 "BumpheraldModel" "needs" "I") (List.mem_of_getElem? (i := 2) rfl)) (fun _ h9 => h9) rfl dX7_need_125 ?_
      refine lv_iload_n hx hb dX7_need_128 rfl (lv_at hl 1 rfl) ?_
      refine r_iast (Wd := mW ad cI cZ) (k := 1) (n := 20) hx hb hDD hK hP hS 2 rfl (mU1 ..) hE dX7_need_129 (fun S4 H locs hE hP hS => ?_)
      refine lv_aload_n hx hb dX7_need_130 rfl (lv_at hl 0 rfl) ?_
      refine va_get (D := D) (ci := 6) (v := .ref (ad 3)) (C := RX7) (T := TX7) (N := 25) hx hb hts iX7_need_X7 hown hK.1 hP 0 rfl rfl 6 (by decide) (hts (.fieldLink RX7 16 "BumpheraldModel" "needed" "[I") (List.mem_of_getElem? (i := 4) rfl)) (fun _ h9 => h9) rfl dX7_need_131 ?_
      refine lv_aload_n hx hb dX7_need_134 rfl (lv_at hl 0 rfl) ?_
      refine va_get (D := D) (ci := 6) (v := .int (S4.1 3)) (C := RX7) (T := TX7) (N := 25) hx hb hts iX7_need_X7 hown hK.1 hP 0 rfl rfl 4 (by decide) (hts (.fieldLink RX7 92 "BumpheraldModel" "needs" "I") (List.mem_of_getElem? (i := 2) rfl)) (fun _ h9 => h9) rfl dX7_need_135 ?_
      refine lv_iload_n hx hb dX7_need_138 rfl (lv_at hl 2 rfl) ?_
      refine r_iast (Wd := mW ad cI cZ) (k := 2) (n := 20) hx hb hDD hK hP hS 3 rfl (mU2 ..) hE dX7_need_139 (fun S5 H locs hE hP hS => ?_)
      refine lv_aload_n hx hb dX7_need_140 rfl (lv_at hl 0 rfl) ?_
      refine va_get (D := D) (ci := 6) (v := .ref (ad 4)) (C := RX7) (T := TX7) (N := 25) hx hb hts iX7_need_X7 hown hK.1 hP 0 rfl rfl 7 (by decide) (hts (.fieldLink RX7 19 "BumpheraldModel" "least" "[I") (List.mem_of_getElem? (i := 5) rfl)) (fun _ h9 => h9) rfl dX7_need_141 ?_
      refine lv_aload_n hx hb dX7_need_144 rfl (lv_at hl 0 rfl) ?_
      refine va_get (D := D) (ci := 6) (v := .int (S5.1 3)) (C := RX7) (T := TX7) (N := 25) hx hb hts iX7_need_X7 hown hK.1 hP 0 rfl rfl 4 (by decide) (hts (.fieldLink RX7 92 "BumpheraldModel" "needs" "I") (List.mem_of_getElem? (i := 2) rfl)) (fun _ h9 => h9) rfl dX7_need_145 ?_
      refine lv_iload_n hx hb dX7_need_148 rfl (lv_at hl 3 rfl) ?_
      refine r_iast (Wd := mW ad cI cZ) (k := 3) (n := 20) hx hb hDD hK hP hS 4 rfl (mU3 ..) hE dX7_need_149 (fun S6 H locs hE hP hS => ?_)
      refine lv_aload_n hx hb dX7_need_150 rfl (lv_at hl 0 rfl) ?_
      refine va_get (D := D) (ci := 6) (v := .ref (ad 5)) (C := RX7) (T := TX7) (N := 25) hx hb hts iX7_need_X7 hown hK.1 hP 0 rfl rfl 8 (by decide) (hts (.fieldLink RX7 22 "BumpheraldModel" "most" "[I") (List.mem_of_getElem? (i := 6) rfl)) (fun _ h9 => h9) rfl dX7_need_151 ?_
      refine lv_aload_n hx hb dX7_need_154 rfl (lv_at hl 0 rfl) ?_
      refine va_get (D := D) (ci := 6) (v := .int (S6.1 3)) (C := RX7) (T := TX7) (N := 25) hx hb hts iX7_need_X7 hown hK.1 hP 0 rfl rfl 4 (by decide) (hts (.fieldLink RX7 92 "BumpheraldModel" "needs" "I") (List.mem_of_getElem? (i := 2) rfl)) (fun _ h9 => h9) rfl dX7_need_155 ?_
      refine lv_iload hx hb dX7_need_158 (lv_at hl 4 rfl) ?_
      refine r_iast (Wd := mW ad cI cZ) (k := 4) (n := 20) hx hb hDD hK hP hS 5 rfl (mU4 ..) hE dX7_need_160 (fun S7 H locs hE hP hS => ?_)
      refine lv_aload_n hx hb dX7_need_161 rfl (lv_at hl 0 rfl) ?_
      refine lv_dup hx hb dX7_need_162 rfl ?_
      refine va_get (D := D) (ci := 6) (v := .int (S7.1 3)) (C := RX7) (T := TX7) (N := 25) hx hb hts iX7_need_X7 hown hK.1 hP 0 rfl rfl 4 (by decide) (hts (.fieldLink RX7 92 "BumpheraldModel" "needs" "I") (List.mem_of_getElem? (i := 2) rfl)) (fun _ h9 => h9) rfl dX7_need_163 ?_
      refine lv_iconst (v := 1) hx hb dX7_need_166 (by decide) ?_
      refine lv_iadd hx hb dX7_need_167 ?_
      refine r_puti (Wd := mW ad cI cZ) (ci := 6) (C := RX7) (T := TX7) (N := 25) (kf := 3) hx hb hts iX7_need_X7 tyX7 tyX7_ok nmX7 hown hDD hK hP hS 0 rfl rfl 4 (by decide) (hts (.fieldLink RX7 92 "BumpheraldModel" "needs" "I") (List.mem_of_getElem? (i := 2) rfl)) rfl rfl (by decide +kernel) (Nat.le_of_ble_eq_true rfl) rfl hE dX7_need_168 (fun S8 H locs hE hP hS => ?_)
      refine lv_aload_n hx hb dX7_need_171 rfl (lv_at hl 0 rfl) ?_
      refine va_get (D := D) (ci := 6) (v := .int (S8.1 3)) (C := RX7) (T := TX7) (N := 25) hx hb hts iX7_need_X7 hown hK.1 hP 0 rfl rfl 4 (by decide) (hts (.fieldLink RX7 92 "BumpheraldModel" "needs" "I") (List.mem_of_getElem? (i := 2) rfl)) (fun _ h9 => h9) rfl dX7_need_172 ?_
      exact k_iret (Wd := mW ad cI cZ) hx hb hr hlk hK hP hS hE dX7_need_175
    · refine lv_iconst (v := 0) hx hb dX7_need_118 (by decide) ?_
      exact k_iret (Wd := mW ad cI cZ) hx hb hr hlk hK hP hS hE dX7_need_119
  have H107 : ∀ (v1 : Int32) (v2 : Int32) (v3 : Int32) (v4 : Int32) (S : St), f7_need_J107  v1 v2 v3 v4 S = some (So, ro) → ∀ (H : Heap) (locs : List Loc) (ls : Array Slot), va_P D vwCl (mW ad cI cZ S) H → va_S (mA ad) s.heap H locs → lv_has ls 7 [(0, .ref (ad 0)), (1, .int v1), (2, .int v2), (3, .int v3), (4, .int v4)] → W p l e (headSpec wsX7_need { frames := 2, cells := 0, slots := 0, locals := 43 }).room s m args below meth c H locs 0 0 (MQ below (kQi D cI cZ (mA ad) (mW ad cI cZ So) ro) args s 0 0 (mA ad)) (F0 m 107 ls [.ref (ad 0)]) := by
    intro v1 v2 v3 v4 S hE H locs ls hP hS hl
    unfold f7_need_J107 at hE
    refine lv_iconst (v := 3) hx hb dX7_need_107 (by decide) ?_
    refine lv_goto (tgt := 112) hx hb dX7_need_108 (by decide) ?_
    exact H112 v1 v2 v3 v4 3 S hE _ _ _ hP hS (lv_sub hl [0, 1, 2, 3, 4] rfl)
  have H55 : ∀ (v1 : Int32) (v2 : Int32) (v3 : Int32) (v4 : Int32) (v5 : Int32) (t0 : Int32) (S : St), f7_need_J55  v1 v2 v3 v4 v5 t0 S = some (So, ro) → ∀ (H : Heap) (locs : List Loc) (ls : Array Slot), va_P D vwCl (mW ad cI cZ S) H → va_S (mA ad) s.heap H locs → lv_has ls 7 [(0, .ref (ad 0)), (1, .int v1), (2, .int v2), (3, .int v3), (4, .int v4), (5, .int v5)] → W p l e (headSpec wsX7_need { frames := 2, cells := 0, slots := 0, locals := 43 }).room s m args below meth c H locs 0 0 (MQ below (kQi D cI cZ (mA ad) (mW ad cI cZ So) ro) args s 0 0 (mA ad)) (F0 m 55 ls [.int t0]) := by
    intro v1 v2 v3 v4 v5 t0 S hE H locs ls hP hS hl
    unfold f7_need_J55 at hE
    refine lv_istore (lv' := [(6, .int t0), (0, .ref (ad 0)), (1, .int v1), (2, .int v2), (3, .int v3), (4, .int v4), (5, .int v5)]) hx hb dX7_need_55 hl (by decide) rfl (fun ls hl => ?_)
    refine lv_aload_n hx hb dX7_need_57 rfl (lv_at hl 1 rfl) ?_
    refine lv_iload hx hb dX7_need_58 (lv_at hl 6 rfl) ?_
    refine r_if_ne (tgt := 67) hx hb dX7_need_60 (by decide) hE (fun c10 hE => ?_) (fun c10 hE => ?_)
    · refine lv_iconst (v := 1) hx hb dX7_need_63 (by decide) ?_
      refine lv_goto (tgt := 112) hx hb dX7_need_64 (by decide) ?_
      exact H112 v1 v2 v3 v4 1 S hE _ _ _ hP hS (lv_sub hl [1, 2, 3, 4, 5] rfl)
    · refine lv_iload hx hb dX7_need_67 (lv_at hl 0 rfl) ?_
      refine r_if_ne (tgt := 76) hx hb dX7_need_69 (by decide) hE (fun c11 hE => ?_) (fun c11 hE => ?_)
      · refine lv_iconst (v := 2) hx hb dX7_need_72 (by decide) ?_
        refine lv_goto (tgt := 112) hx hb dX7_need_73 (by decide) ?_
        exact H112 v1 v2 v3 v4 2 S hE _ _ _ hP hS (lv_sub hl [1, 2, 3, 4, 5] rfl)
      · refine lv_aload_n hx hb dX7_need_76 rfl (lv_at hl 1 rfl) ?_
        refine va_get (D := D) (ci := 6) (v := .ref (ad 1)) (C := RX7) (T := TX7) (N := 25) hx hb hts iX7_need_X7 hown hK.1 hP 0 rfl rfl 3 (by decide) (hts (.fieldLink RX7 7 "BumpheraldModel" "version" "[I") (List.mem_of_getElem? (i := 1) rfl)) (fun _ h9 => h9) rfl dX7_need_77 ?_
        refine lv_iload_n hx hb dX7_need_80 rfl (lv_at hl 3 rfl) ?_
        refine r_iald (Wd := mW ad cI cZ) (k := 0) (n := 12) hx hb hK hP 1 rfl hE dX7_need_81 (fun x12 hE => ?_)
        refine lv_aload_n hx hb dX7_need_82 rfl (lv_at hl 1 rfl) ?_
        refine va_get (D := D) (ci := 6) (v := .ref (ad 1)) (C := RX7) (T := TX7) (N := 25) hx hb hts iX7_need_X7 hown hK.1 hP 0 rfl rfl 3 (by decide) (hts (.fieldLink RX7 7 "BumpheraldModel" "version" "[I") (List.mem_of_getElem? (i := 1) rfl)) (fun _ h9 => h9) rfl dX7_need_83 ?_
        refine lv_iload_n hx hb dX7_need_86 rfl (lv_at hl 2 rfl) ?_
        refine r_iald (Wd := mW ad cI cZ) (k := 0) (n := 12) hx hb hK hP 1 rfl hE dX7_need_87 (fun x13 hE => ?_)
        refine lv_isub hx hb dX7_need_88 ?_
        refine lv_iload_n hx hb dX7_need_89 rfl (lv_at hl 4 rfl) ?_
        refine lv_iload hx hb dX7_need_90 (lv_at hl 5 rfl) ?_
        refine r_callSi (Wd := mW ad cI cZ) [.int (x12 - x13), .int v3, .int v4] [.ref (ad 0)] ⟨hx, hb, hml, hown, hts⟩ (kX7_in l D ad cI cZ hDD S (x12 - x13) v3 v4) (va_cwS 3 hts gX7_need_X7_in rfl rfl rfl (by decide +kernel) ⟨Nat.le_of_ble_eq_true rfl, Nat.le_of_ble_eq_true rfl⟩) hK hP hS (fun _ h9 => h9) rfl hl.1 rfl (Nat.le_of_ble_eq_true rfl) ⟨Nat.zero_le _, Nat.zero_le _⟩ hE dX7_need_92 (fun S15 x14 H locs hE hP hS => ?_)
        refine r_if_eq (tgt := 107) hx hb dX7_need_95 (by decide) hE (fun c16 hE => ?_) (fun c16 hE => ?_)
        · exact H107 v1 v2 v3 v4 S15 hE _ _ _ hP hS (lv_sub hl [1, 2, 3, 4, 5] rfl)
        · refine lv_aload_n hx hb dX7_need_98 rfl (lv_at hl 1 rfl) ?_
          refine va_get (D := D) (ci := 6) (v := .int (S15.1 3)) (C := RX7) (T := TX7) (N := 25) hx hb hts iX7_need_X7 hown hK.1 hP 0 rfl rfl 4 (by decide) (hts (.fieldLink RX7 92 "BumpheraldModel" "needs" "I") (List.mem_of_getElem? (i := 2) rfl)) (fun _ h9 => h9) rfl dX7_need_99 ?_
          refine lv_bipush (v := 20) hx hb dX7_need_102 (by decide) ?_
          refine r_icmp_ne (tgt := 111) hx hb dX7_need_104 (by decide) hE (fun c17 hE => ?_) (fun c17 hE => ?_)
          · exact H107 v1 v2 v3 v4 S15 hE _ _ _ hP hS (lv_sub hl [1, 2, 3, 4, 5] rfl)
          · refine lv_iconst (v := 0) hx hb dX7_need_111 (by decide) ?_
            exact H112 v1 v2 v3 v4 0 S15 hE _ _ _ hP hS (lv_sub hl [1, 2, 3, 4, 5] rfl)
  have H54 : ∀ (v1 : Int32) (v2 : Int32) (v3 : Int32) (v4 : Int32) (v5 : Int32) (S : St), f7_need_J54  v1 v2 v3 v4 v5 S = some (So, ro) → ∀ (H : Heap) (locs : List Loc) (ls : Array Slot), va_P D vwCl (mW ad cI cZ S) H → va_S (mA ad) s.heap H locs → lv_has ls 7 [(0, .ref (ad 0)), (1, .int v1), (2, .int v2), (3, .int v3), (4, .int v4), (5, .int v5)] → W p l e (headSpec wsX7_need { frames := 2, cells := 0, slots := 0, locals := 43 }).room s m args below meth c H locs 0 0 (MQ below (kQi D cI cZ (mA ad) (mW ad cI cZ So) ro) args s 0 0 (mA ad)) (F0 m 54 ls []) := by
    intro v1 v2 v3 v4 v5 S hE H locs ls hP hS hl
    unfold f7_need_J54 at hE
    refine lv_iconst (v := 0) hx hb dX7_need_54 (by decide) ?_
    exact H55 v1 v2 v3 v4 v5 0 S hE _ _ _ hP hS (lv_sub hl [0, 1, 2, 3, 4, 5] rfl)
  have H21 : ∀ (v1 : Int32) (v2 : Int32) (v3 : Int32) (v4 : Int32) (t0 : Int32) (S : St), f7_need_J21  v1 v2 v3 v4 t0 S = some (So, ro) → ∀ (H : Heap) (locs : List Loc) (ls : Array Slot), va_P D vwCl (mW ad cI cZ S) H → va_S (mA ad) s.heap H locs → lv_has ls 7 [(0, .ref (ad 0)), (1, .int v1), (2, .int v2), (3, .int v3), (4, .int v4)] → W p l e (headSpec wsX7_need { frames := 2, cells := 0, slots := 0, locals := 43 }).room s m args below meth c H locs 0 0 (MQ below (kQi D cI cZ (mA ad) (mW ad cI cZ So) ro) args s 0 0 (mA ad)) (F0 m 21 ls [.int t0]) := by
    intro v1 v2 v3 v4 t0 S hE H locs ls hP hS hl
    unfold f7_need_J21 at hE
    refine lv_istore (lv' := [(5, .int t0), (0, .ref (ad 0)), (1, .int v1), (2, .int v2), (3, .int v3), (4, .int v4)]) hx hb dX7_need_21 hl (by decide) rfl (fun ls hl => ?_)
    refine lv_iload_n hx hb dX7_need_23 rfl (lv_at hl 2 rfl) ?_
    refine lv_iload_n hx hb dX7_need_24 rfl (lv_at hl 3 rfl) ?_
    refine r_icmp_eq (tgt := 54) hx hb dX7_need_25 (by decide) hE (fun c19 hE => ?_) (fun c19 hE => ?_)
    · exact H54 v1 v2 v3 v4 t0 S hE _ _ _ hP hS (lv_sub hl [1, 2, 3, 4, 5, 0] rfl)
    · refine lv_iload_n hx hb dX7_need_28 rfl (lv_at hl 4 rfl) ?_
      refine lv_bipush (v := -98) hx hb dX7_need_29 (by decide) ?_
      refine lv_bipush (v := 98) hx hb dX7_need_31 (by decide) ?_
      refine r_callSi (Wd := mW ad cI cZ) [.int v3, .int ((-98)), .int 98] [] ⟨hx, hb, hml, hown, hts⟩ (kX7_in l D ad cI cZ hDD S v3 ((-98)) 98) (va_cwS 3 hts gX7_need_X7_in rfl rfl rfl (by decide +kernel) ⟨Nat.le_of_ble_eq_true rfl, Nat.le_of_ble_eq_true rfl⟩) hK hP hS (fun _ h9 => h9) rfl hl.1 rfl (Nat.le_of_ble_eq_true rfl) ⟨Nat.zero_le _, Nat.zero_le _⟩ hE dX7_need_33 (fun S21 x20 H locs hE hP hS => ?_)
      refine r_if_eq (tgt := 54) hx hb dX7_need_36 (by decide) hE (fun c22 hE => ?_) (fun c22 hE => ?_)
      · exact H54 v1 v2 v3 v4 t0 S21 hE _ _ _ hP hS (lv_sub hl [1, 2, 3, 4, 5, 0] rfl)
      · refine lv_iload hx hb dX7_need_39 (lv_at hl 5 rfl) ?_
        refine lv_iload_n hx hb dX7_need_41 rfl (lv_at hl 4 rfl) ?_
        refine lv_bipush (v := 98) hx hb dX7_need_42 (by decide) ?_
        refine r_callSi (Wd := mW ad cI cZ) [.int v4, .int v3, .int 98] [] ⟨hx, hb, hml, hown, hts⟩ (kX7_in l D ad cI cZ hDD S21 v4 v3 98) (va_cwS 3 hts gX7_need_X7_in rfl rfl rfl (by decide +kernel) ⟨Nat.le_of_ble_eq_true rfl, Nat.le_of_ble_eq_true rfl⟩) hK hP hS (fun _ h9 => h9) rfl hl.1 rfl (Nat.le_of_ble_eq_true rfl) ⟨Nat.zero_le _, Nat.zero_le _⟩ hE dX7_need_44 (fun S24 x23 H locs hE hP hS => ?_)
        refine r_if_eq (tgt := 54) hx hb dX7_need_47 (by decide) hE (fun c25 hE => ?_) (fun c25 hE => ?_)
        · exact H54 v1 v2 v3 v4 t0 S24 hE _ _ _ hP hS (lv_sub hl [1, 2, 3, 4, 5, 0] rfl)
        · refine lv_iconst (v := 1) hx hb dX7_need_50 (by decide) ?_
          refine lv_goto (tgt := 55) hx hb dX7_need_51 (by decide) ?_
          exact H55 v1 v2 v3 v4 t0 1 S24 hE _ _ _ hP hS (lv_sub hl [1, 2, 3, 4, 5, 0] rfl)
  have H20 : ∀ (v1 : Int32) (v2 : Int32) (v3 : Int32) (v4 : Int32) (S : St), f7_need_J20  v1 v2 v3 v4 S = some (So, ro) → ∀ (H : Heap) (locs : List Loc) (ls : Array Slot), va_P D vwCl (mW ad cI cZ S) H → va_S (mA ad) s.heap H locs → lv_has ls 7 [(0, .ref (ad 0)), (1, .int v1), (2, .int v2), (3, .int v3), (4, .int v4)] → W p l e (headSpec wsX7_need { frames := 2, cells := 0, slots := 0, locals := 43 }).room s m args below meth c H locs 0 0 (MQ below (kQi D cI cZ (mA ad) (mW ad cI cZ So) ro) args s 0 0 (mA ad)) (F0 m 20 ls []) := by
    intro v1 v2 v3 v4 S hE H locs ls hP hS hl
    unfold f7_need_J20 at hE
    refine lv_iconst (v := 0) hx hb dX7_need_20 (by decide) ?_
    exact H21 v1 v2 v3 v4 0 S hE _ _ _ hP hS (lv_sub hl [0, 1, 2, 3, 4] rfl)
  unfold f7_need at hE
  refine lv_aload_n hx hb dX7_need_0 rfl (lv_at hl 0 rfl) ?_
  refine lv_iload_n hx hb dX7_need_1 rfl (lv_at hl 1 rfl) ?_
  refine r_callVi (Wd := mW ad cI cZ) (C := RX7) [.int v1] [] ⟨hx, hb, hml, hown, hts⟩ (kX7_isPack l D ad cI cZ hDD S v1) (cwV 1 hts gX7_need_X7_isPack rfl rfl rfl (by decide +kernel) ⟨Nat.le_of_ble_eq_true rfl, Nat.le_of_ble_eq_true rfl⟩) (va_recv hK.1 hP (ci := 6) (q0 := 0) rfl rfl) hK hP hS (fun _ h9 => h9) rfl hl.1 rfl (Nat.le_of_ble_eq_true rfl) ⟨Nat.zero_le _, Nat.zero_le _⟩ hE dX7_need_2 (fun S29 x28 H locs hE hP hS => ?_)
  refine r_if_eq (tgt := 20) hx hb dX7_need_5 (by decide) hE (fun c30 hE => ?_) (fun c30 hE => ?_)
  · exact H20 v1 v2 v3 v4 S29 hE _ _ _ hP hS (lv_sub hl [0, 1, 2, 3, 4] rfl)
  · refine lv_aload_n hx hb dX7_need_8 rfl (lv_at hl 0 rfl) ?_
    refine lv_iload_n hx hb dX7_need_9 rfl (lv_at hl 2 rfl) ?_
    refine r_callVi (Wd := mW ad cI cZ) (C := RX7) [.int v2] [] ⟨hx, hb, hml, hown, hts⟩ (kX7_isPack l D ad cI cZ hDD S29 v2) (cwV 1 hts gX7_need_X7_isPack rfl rfl rfl (by decide +kernel) ⟨Nat.le_of_ble_eq_true rfl, Nat.le_of_ble_eq_true rfl⟩) (va_recv hK.1 hP (ci := 6) (q0 := 0) rfl rfl) hK hP hS (fun _ h9 => h9) rfl hl.1 rfl (Nat.le_of_ble_eq_true rfl) ⟨Nat.zero_le _, Nat.zero_le _⟩ hE dX7_need_10 (fun S32 x31 H locs hE hP hS => ?_)
    refine r_if_eq (tgt := 20) hx hb dX7_need_13 (by decide) hE (fun c33 hE => ?_) (fun c33 hE => ?_)
    · exact H20 v1 v2 v3 v4 S32 hE _ _ _ hP hS (lv_sub hl [0, 1, 2, 3, 4] rfl)
    · refine lv_iconst (v := 1) hx hb dX7_need_16 (by decide) ?_
      refine lv_goto (tgt := 21) hx hb dX7_need_17 (by decide) ?_
      exact H21 v1 v2 v3 v4 1 S32 hE _ _ _ hP hS (lv_sub hl [0, 1, 2, 3, 4] rfl)
theorem iX7_trust_X7 : ∀ w ∈ wsX70, w ∈ wsX7_trust := fun w h => List.mem_cons_of_mem _ (List.mem_append_right _ h)
set_option maxHeartbeats 4000000 in
set_option maxRecDepth 100000 in
theorem kX7_trust (l : Launch) (D : va_G) (ad : Nat → Nat) (cI cZ : ClassId) (hDD : ∀ S, va_D (mA ad) (mW ad cI cZ S)) (S : St) (v1 : Int32) (v2 : Int32) : ∀ So ro, f7_trust S v1 v2 = some (So, ro) → Met l yX7_trust wsX7_trust { frames := 2, cells := 0, slots := 0, locals := 42 } (va_Pc [.ref (ad 0), .int v1, .int v2] (kPre D cI cZ (mW ad cI cZ S))) (kQi D cI cZ (mA ad) (mW ad cI cZ So) ro) 0 0 (mA ad) := by
  intro So ro hE
  refine kMet_of (by decide) rfl (Nat.le_of_ble_eq_true rfl) ?_
  intro p e s m args below meth c ls hx hb hr hml hown hlk hts hK hP hS hl
  have hl : lv_has ls 4 [(0, .ref (ad 0)), (1, .int v1), (2, .int v2)] := hl
  have hown : s.vm.findClass RX7 = some m.cls := hown
  have H27 : ∀ (v1 : Int32) (v2 : Int32) (t1 : Int32) (S : St), f7_trust_J27  v1 v2 t1 S = some (So, ro) → ∀ (H : Heap) (locs : List Loc) (ls : Array Slot), va_P D vwCl (mW ad cI cZ S) H → va_S (mA ad) s.heap H locs → lv_has ls 4 [(0, .ref (ad 0)), (1, .int v1), (2, .int v2)] → W p l e (headSpec wsX7_trust { frames := 2, cells := 0, slots := 0, locals := 42 }).room s m args below meth c H locs 0 0 (MQ below (kQi D cI cZ (mA ad) (mW ad cI cZ So) ro) args s 0 0 (mA ad)) (F0 m 27 ls [.int t1, .ref (ad 0)]) := by
    intro v1 v2 t1 S hE H locs ls hP hS hl
    unfold f7_trust_J27 at hE
    refine r_callVi (Wd := mW ad cI cZ) (C := RX7) [.int t1] [] ⟨hx, hb, hml, hown, hts⟩ (kX7_refused l D ad cI cZ hDD S t1) (cwV 1 hts gX7_trust_X7_refused rfl rfl rfl (by decide +kernel) ⟨Nat.le_of_ble_eq_true rfl, Nat.le_of_ble_eq_true rfl⟩) (va_recv hK.1 hP (ci := 6) (q0 := 0) rfl rfl) hK hP hS (fun _ h9 => h9) rfl hl.1 rfl (Nat.le_of_ble_eq_true rfl) ⟨Nat.zero_le _, Nat.zero_le _⟩ hE dX7_trust_27 (fun S2 x1 H locs hE hP hS => ?_)
    refine r_if_eq (tgt := 35) hx hb dX7_trust_30 (by decide) hE (fun c3 hE => ?_) (fun c3 hE => ?_)
    · refine lv_aload_n hx hb dX7_trust_35 rfl (lv_at hl 0 rfl) ?_
      refine va_get (D := D) (ci := 6) (v := .ref (ad 6)) (C := RX7) (T := TX7) (N := 25) hx hb hts iX7_trust_X7 hown hK.1 hP 0 rfl rfl 9 (by decide) (hts (.fieldLink RX7 25 "BumpheraldModel" "trusts" "[I") (List.mem_of_getElem? (i := 1) rfl)) (fun _ h9 => h9) rfl dX7_trust_36 ?_
      refine lv_iload_n hx hb dX7_trust_39 rfl (lv_at hl 1 rfl) ?_
      refine r_iald (Wd := mW ad cI cZ) (k := 5) (n := 6) hx hb hK hP 6 rfl hE dX7_trust_40 (fun x4 hE => ?_)
      refine lv_istore_n (lv' := [(3, .int x4), (0, .ref (ad 0)), (1, .int v1), (2, .int v2)]) hx hb dX7_trust_41 rfl hl (by decide) rfl (fun ls hl => ?_)
      refine lv_aload_n hx hb dX7_trust_42 rfl (lv_at hl 1 rfl) ?_
      refine va_get (D := D) (ci := 6) (v := .ref (ad 6)) (C := RX7) (T := TX7) (N := 25) hx hb hts iX7_trust_X7 hown hK.1 hP 0 rfl rfl 9 (by decide) (hts (.fieldLink RX7 25 "BumpheraldModel" "trusts" "[I") (List.mem_of_getElem? (i := 1) rfl)) (fun _ h9 => h9) rfl dX7_trust_43 ?_
      refine lv_iload_n hx hb dX7_trust_46 rfl (lv_at hl 2 rfl) ?_
      refine lv_iload_n hx hb dX7_trust_47 rfl (lv_at hl 3 rfl) ?_
      refine r_iast (Wd := mW ad cI cZ) (k := 5) (n := 6) hx hb hDD hK hP hS 6 rfl (mU5 ..) hE dX7_trust_48 (fun S5 H locs hE hP hS => ?_)
      refine lv_iload_n hx hb dX7_trust_49 rfl (lv_at hl 0 rfl) ?_
      exact k_iret (Wd := mW ad cI cZ) hx hb hr hlk hK hP hS hE dX7_trust_50
    · refine lv_iconst (v := 0) hx hb dX7_trust_33 (by decide) ?_
      exact k_iret (Wd := mW ad cI cZ) hx hb hr hlk hK hP hS hE dX7_trust_34
  unfold f7_trust at hE
  refine lv_aload_n hx hb dX7_trust_0 rfl (lv_at hl 0 rfl) ?_
  refine lv_iload_n hx hb dX7_trust_1 rfl (lv_at hl 1 rfl) ?_
  refine r_callSi (Wd := mW ad cI cZ) [.int v1] [.ref (ad 0)] ⟨hx, hb, hml, hown, hts⟩ (kX7_isReviewer l D ad cI cZ hDD S v1) (va_cwS 1 hts gX7_trust_X7_isReviewer rfl rfl rfl (by decide +kernel) ⟨Nat.le_of_ble_eq_true rfl, Nat.le_of_ble_eq_true rfl⟩) hK hP hS (fun _ h9 => h9) rfl hl.1 rfl (Nat.le_of_ble_eq_true rfl) ⟨Nat.zero_le _, Nat.zero_le _⟩ hE dX7_trust_2 (fun S8 x7 H locs hE hP hS => ?_)
  refine r_if_ne (tgt := 12) hx hb dX7_trust_5 (by decide) hE (fun c9 hE => ?_) (fun c9 hE => ?_)
  · refine lv_iconst (v := 1) hx hb dX7_trust_8 (by decide) ?_
    refine lv_goto (tgt := 27) hx hb dX7_trust_9 (by decide) ?_
    exact H27 v1 v2 1 S8 hE _ _ _ hP hS (lv_sub hl [0, 1, 2] rfl)
  · refine lv_iload_n hx hb dX7_trust_12 rfl (lv_at hl 2 rfl) ?_
    refine lv_iconst (v := 0) hx hb dX7_trust_13 (by decide) ?_
    refine lv_bipush (v := 9) hx hb dX7_trust_14 (by decide) ?_
    refine r_callSi (Wd := mW ad cI cZ) [.int v2, .int 0, .int 9] [.ref (ad 0)] ⟨hx, hb, hml, hown, hts⟩ (kX7_in l D ad cI cZ hDD S8 v2 0 9) (va_cwS 3 hts gX7_trust_X7_in rfl rfl rfl (by decide +kernel) ⟨Nat.le_of_ble_eq_true rfl, Nat.le_of_ble_eq_true rfl⟩) hK hP hS (fun _ h9 => h9) rfl hl.1 rfl (Nat.le_of_ble_eq_true rfl) ⟨Nat.zero_le _, Nat.zero_le _⟩ hE dX7_trust_16 (fun S11 x10 H locs hE hP hS => ?_)
    refine r_if_ne (tgt := 26) hx hb dX7_trust_19 (by decide) hE (fun c12 hE => ?_) (fun c12 hE => ?_)
    · refine lv_iconst (v := 2) hx hb dX7_trust_22 (by decide) ?_
      refine lv_goto (tgt := 27) hx hb dX7_trust_23 (by decide) ?_
      exact H27 v1 v2 2 S11 hE _ _ _ hP hS (lv_sub hl [0, 1, 2] rfl)
    · refine lv_iconst (v := 0) hx hb dX7_trust_26 (by decide) ?_
      exact H27 v1 v2 0 S11 hE _ _ _ hP hS (lv_sub hl [0, 1, 2] rfl)
theorem iX7_patience_X7 : ∀ w ∈ wsX70, w ∈ wsX7_patience := fun w h => List.mem_cons_of_mem _ (List.mem_append_right _ h)
set_option maxHeartbeats 4000000 in
set_option maxRecDepth 100000 in
theorem kX7_patience (l : Launch) (D : va_G) (ad : Nat → Nat) (cI cZ : ClassId) (hDD : ∀ S, va_D (mA ad) (mW ad cI cZ S)) (S : St) (v1 : Int32) : ∀ So ro, f7_patience S v1 = some (So, ro) → Met l yX7_patience wsX7_patience { frames := 1, cells := 0, slots := 0, locals := 22 } (va_Pc [.ref (ad 0), .int v1] (kPre D cI cZ (mW ad cI cZ S))) (kQi D cI cZ (mA ad) (mW ad cI cZ So) ro) 0 0 (mA ad) := by
  intro So ro hE
  refine kMet_of (by decide) rfl (Nat.le_of_ble_eq_true rfl) ?_
  intro p e s m args below meth c ls hx hb hr hml hown hlk hts hK hP hS hl
  have hl : lv_has ls 3 [(0, .ref (ad 0)), (1, .int v1)] := hl
  have hown : s.vm.findClass RX7 = some m.cls := hown
  have H16 : ∀ (v1 : Int32) (t1 : Int32) (S : St), f7_patience_J16  v1 t1 S = some (So, ro) → ∀ (H : Heap) (locs : List Loc) (ls : Array Slot), va_P D vwCl (mW ad cI cZ S) H → va_S (mA ad) s.heap H locs → lv_has ls 3 [(0, .ref (ad 0)), (1, .int v1)] → W p l e (headSpec wsX7_patience { frames := 1, cells := 0, slots := 0, locals := 22 }).room s m args below meth c H locs 0 0 (MQ below (kQi D cI cZ (mA ad) (mW ad cI cZ So) ro) args s 0 0 (mA ad)) (F0 m 16 ls [.int t1, .ref (ad 0)]) := by
    intro v1 t1 S hE H locs ls hP hS hl
    unfold f7_patience_J16 at hE
    refine r_callVi (Wd := mW ad cI cZ) (C := RX7) [.int t1] [] ⟨hx, hb, hml, hown, hts⟩ (kX7_refused l D ad cI cZ hDD S t1) (cwV 1 hts gX7_patience_X7_refused rfl rfl rfl (by decide +kernel) ⟨Nat.le_of_ble_eq_true rfl, Nat.le_of_ble_eq_true rfl⟩) (va_recv hK.1 hP (ci := 6) (q0 := 0) rfl rfl) hK hP hS (fun _ h9 => h9) rfl hl.1 rfl (Nat.le_of_ble_eq_true rfl) ⟨Nat.zero_le _, Nat.zero_le _⟩ hE dX7_patience_16 (fun S2 x1 H locs hE hP hS => ?_)
    refine r_if_eq (tgt := 24) hx hb dX7_patience_19 (by decide) hE (fun c3 hE => ?_) (fun c3 hE => ?_)
    · refine lv_aload_n hx hb dX7_patience_24 rfl (lv_at hl 0 rfl) ?_
      refine va_get (D := D) (ci := 6) (v := .int (S2.1 4)) (C := RX7) (T := TX7) (N := 25) hx hb hts iX7_patience_X7 hown hK.1 hP 0 rfl rfl 10 (by decide) (hts (.fieldLink RX7 28 "BumpheraldModel" "patience" "I") (List.mem_of_getElem? (i := 1) rfl)) (fun _ h9 => h9) rfl dX7_patience_25 ?_
      refine lv_istore_n (lv' := [(2, .int (S2.1 4)), (0, .ref (ad 0)), (1, .int v1)]) hx hb dX7_patience_28 rfl hl (by decide) rfl (fun ls hl => ?_)
      refine lv_aload_n hx hb dX7_patience_29 rfl (lv_at hl 1 rfl) ?_
      refine lv_iload_n hx hb dX7_patience_30 rfl (lv_at hl 2 rfl) ?_
      refine r_puti (Wd := mW ad cI cZ) (ci := 6) (C := RX7) (T := TX7) (N := 25) (kf := 4) hx hb hts iX7_patience_X7 tyX7 tyX7_ok nmX7 hown hDD hK hP hS 0 rfl rfl 10 (by decide) (hts (.fieldLink RX7 28 "BumpheraldModel" "patience" "I") (List.mem_of_getElem? (i := 1) rfl)) rfl rfl (by decide +kernel) (Nat.le_of_ble_eq_true rfl) rfl hE dX7_patience_31 (fun S4 H locs hE hP hS => ?_)
      refine lv_iload_n hx hb dX7_patience_34 rfl (lv_at hl 0 rfl) ?_
      exact k_iret (Wd := mW ad cI cZ) hx hb hr hlk hK hP hS hE dX7_patience_35
    · refine lv_iconst (v := 0) hx hb dX7_patience_22 (by decide) ?_
      exact k_iret (Wd := mW ad cI cZ) hx hb hr hlk hK hP hS hE dX7_patience_23
  unfold f7_patience at hE
  refine lv_aload_n hx hb dX7_patience_0 rfl (lv_at hl 0 rfl) ?_
  refine lv_iload_n hx hb dX7_patience_1 rfl (lv_at hl 1 rfl) ?_
  refine lv_iconst (v := 1) hx hb dX7_patience_2 (by decide) ?_
  refine lv_bipush (v := 100) hx hb dX7_patience_3 (by decide) ?_
  refine r_callSi (Wd := mW ad cI cZ) [.int v1, .int 1, .int 100] [.ref (ad 0)] ⟨hx, hb, hml, hown, hts⟩ (kX7_in l D ad cI cZ hDD S v1 1 100) (va_cwS 3 hts gX7_patience_X7_in rfl rfl rfl (by decide +kernel) ⟨Nat.le_of_ble_eq_true rfl, Nat.le_of_ble_eq_true rfl⟩) hK hP hS (fun _ h9 => h9) rfl hl.1 rfl (Nat.le_of_ble_eq_true rfl) ⟨Nat.zero_le _, Nat.zero_le _⟩ hE dX7_patience_5 (fun S7 x6 H locs hE hP hS => ?_)
  refine r_if_eq (tgt := 15) hx hb dX7_patience_8 (by decide) hE (fun c8 hE => ?_) (fun c8 hE => ?_)
  · refine lv_iconst (v := 1) hx hb dX7_patience_15 (by decide) ?_
    exact H16 v1 1 S7 hE _ _ _ hP hS (lv_sub hl [0, 1] rfl)
  · refine lv_iconst (v := 0) hx hb dX7_patience_11 (by decide) ?_
    refine lv_goto (tgt := 16) hx hb dX7_patience_12 (by decide) ?_
    exact H16 v1 0 S7 hE _ _ _ hP hS (lv_sub hl [0, 1] rfl)
theorem iX7_freeze_X7 : ∀ w ∈ wsX70, w ∈ wsX7_freeze := fun w h => List.mem_cons_of_mem _ (List.mem_append_right _ h)
set_option maxHeartbeats 4000000 in
set_option maxRecDepth 100000 in
theorem kX7_freeze (l : Launch) (D : va_G) (ad : Nat → Nat) (cI cZ : ClassId) (hDD : ∀ S, va_D (mA ad) (mW ad cI cZ S)) (S : St) (v1 : Int32) (v2 : Int32) (v3 : Int32) : ∀ So ro, f7_freeze S v1 v2 v3 = some (So, ro) → Met l yX7_freeze wsX7_freeze { frames := 1, cells := 0, slots := 0, locals := 22 } (va_Pc [.ref (ad 0), .int v1, .int v2, .int v3] (kPre D cI cZ (mW ad cI cZ S))) (kQi D cI cZ (mA ad) (mW ad cI cZ So) ro) 0 0 (mA ad) := by
  intro So ro hE
  refine kMet_of (by decide) rfl (Nat.le_of_ble_eq_true rfl) ?_
  intro p e s m args below meth c ls hx hb hr hml hown hlk hts hK hP hS hl
  have hl : lv_has ls 5 [(0, .ref (ad 0)), (1, .int v1), (2, .int v2), (3, .int v3)] := hl
  have hown : s.vm.findClass RX7 = some m.cls := hown
  have H64 : ∀ (v1 : Int32) (v2 : Int32) (v3 : Int32) (t1 : Int32) (S : St), f7_freeze_J64  v1 v2 v3 t1 S = some (So, ro) → ∀ (H : Heap) (locs : List Loc) (ls : Array Slot), va_P D vwCl (mW ad cI cZ S) H → va_S (mA ad) s.heap H locs → lv_has ls 5 [(0, .ref (ad 0)), (1, .int v1), (2, .int v2), (3, .int v3)] → W p l e (headSpec wsX7_freeze { frames := 1, cells := 0, slots := 0, locals := 22 }).room s m args below meth c H locs 0 0 (MQ below (kQi D cI cZ (mA ad) (mW ad cI cZ So) ro) args s 0 0 (mA ad)) (F0 m 64 ls [.int t1, .ref (ad 0)]) := by
    intro v1 v2 v3 t1 S hE H locs ls hP hS hl
    unfold f7_freeze_J64 at hE
    refine r_callVi (Wd := mW ad cI cZ) (C := RX7) [.int t1] [] ⟨hx, hb, hml, hown, hts⟩ (kX7_refused l D ad cI cZ hDD S t1) (cwV 1 hts gX7_freeze_X7_refused rfl rfl rfl (by decide +kernel) ⟨Nat.le_of_ble_eq_true rfl, Nat.le_of_ble_eq_true rfl⟩) (va_recv hK.1 hP (ci := 6) (q0 := 0) rfl rfl) hK hP hS (fun _ h9 => h9) rfl hl.1 rfl (Nat.le_of_ble_eq_true rfl) ⟨Nat.zero_le _, Nat.zero_le _⟩ hE dX7_freeze_64 (fun S2 x1 H locs hE hP hS => ?_)
    refine r_if_eq (tgt := 72) hx hb dX7_freeze_67 (by decide) hE (fun c3 hE => ?_) (fun c3 hE => ?_)
    · refine lv_aload_n hx hb dX7_freeze_72 rfl (lv_at hl 0 rfl) ?_
      refine va_get (D := D) (ci := 6) (v := .ref (ad 7)) (C := RX7) (T := TX7) (N := 25) hx hb hts iX7_freeze_X7 hown hK.1 hP 0 rfl rfl 12 (by decide) (hts (.fieldLink RX7 32 "BumpheraldModel" "frozen" "[I") (List.mem_of_getElem? (i := 2) rfl)) (fun _ h9 => h9) rfl dX7_freeze_73 ?_
      refine lv_aload_n hx hb dX7_freeze_76 rfl (lv_at hl 0 rfl) ?_
      refine va_get (D := D) (ci := 6) (v := .int (S2.1 5)) (C := RX7) (T := TX7) (N := 25) hx hb hts iX7_freeze_X7 hown hK.1 hP 0 rfl rfl 11 (by decide) (hts (.fieldLink RX7 98 "BumpheraldModel" "freezes" "I") (List.mem_of_getElem? (i := 1) rfl)) (fun _ h9 => h9) rfl dX7_freeze_77 ?_
      refine lv_iload_n hx hb dX7_freeze_80 rfl (lv_at hl 1 rfl) ?_
      refine r_iast (Wd := mW ad cI cZ) (k := 6) (n := 10) hx hb hDD hK hP hS 7 rfl (mU6 ..) hE dX7_freeze_81 (fun S4 H locs hE hP hS => ?_)
      refine lv_aload_n hx hb dX7_freeze_82 rfl (lv_at hl 0 rfl) ?_
      refine va_get (D := D) (ci := 6) (v := .ref (ad 8)) (C := RX7) (T := TX7) (N := 25) hx hb hts iX7_freeze_X7 hown hK.1 hP 0 rfl rfl 13 (by decide) (hts (.fieldLink RX7 35 "BumpheraldModel" "from" "[I") (List.mem_of_getElem? (i := 3) rfl)) (fun _ h9 => h9) rfl dX7_freeze_83 ?_
      refine lv_aload_n hx hb dX7_freeze_86 rfl (lv_at hl 0 rfl) ?_
      refine va_get (D := D) (ci := 6) (v := .int (S4.1 5)) (C := RX7) (T := TX7) (N := 25) hx hb hts iX7_freeze_X7 hown hK.1 hP 0 rfl rfl 11 (by decide) (hts (.fieldLink RX7 98 "BumpheraldModel" "freezes" "I") (List.mem_of_getElem? (i := 1) rfl)) (fun _ h9 => h9) rfl dX7_freeze_87 ?_
      refine lv_iload_n hx hb dX7_freeze_90 rfl (lv_at hl 2 rfl) ?_
      refine r_iast (Wd := mW ad cI cZ) (k := 7) (n := 10) hx hb hDD hK hP hS 8 rfl (mU7 ..) hE dX7_freeze_91 (fun S5 H locs hE hP hS => ?_)
      refine lv_aload_n hx hb dX7_freeze_92 rfl (lv_at hl 0 rfl) ?_
      refine va_get (D := D) (ci := 6) (v := .ref (ad 9)) (C := RX7) (T := TX7) (N := 25) hx hb hts iX7_freeze_X7 hown hK.1 hP 0 rfl rfl 14 (by decide) (hts (.fieldLink RX7 38 "BumpheraldModel" "to" "[I") (List.mem_of_getElem? (i := 4) rfl)) (fun _ h9 => h9) rfl dX7_freeze_93 ?_
      refine lv_aload_n hx hb dX7_freeze_96 rfl (lv_at hl 0 rfl) ?_
      refine va_get (D := D) (ci := 6) (v := .int (S5.1 5)) (C := RX7) (T := TX7) (N := 25) hx hb hts iX7_freeze_X7 hown hK.1 hP 0 rfl rfl 11 (by decide) (hts (.fieldLink RX7 98 "BumpheraldModel" "freezes" "I") (List.mem_of_getElem? (i := 1) rfl)) (fun _ h9 => h9) rfl dX7_freeze_97 ?_
      refine lv_iload_n hx hb dX7_freeze_100 rfl (lv_at hl 3 rfl) ?_
      refine r_iast (Wd := mW ad cI cZ) (k := 8) (n := 10) hx hb hDD hK hP hS 9 rfl (mU8 ..) hE dX7_freeze_101 (fun S6 H locs hE hP hS => ?_)
      refine lv_aload_n hx hb dX7_freeze_102 rfl (lv_at hl 0 rfl) ?_
      refine lv_dup hx hb dX7_freeze_103 rfl ?_
      refine va_get (D := D) (ci := 6) (v := .int (S6.1 5)) (C := RX7) (T := TX7) (N := 25) hx hb hts iX7_freeze_X7 hown hK.1 hP 0 rfl rfl 11 (by decide) (hts (.fieldLink RX7 98 "BumpheraldModel" "freezes" "I") (List.mem_of_getElem? (i := 1) rfl)) (fun _ h9 => h9) rfl dX7_freeze_104 ?_
      refine lv_iconst (v := 1) hx hb dX7_freeze_107 (by decide) ?_
      refine lv_iadd hx hb dX7_freeze_108 ?_
      refine r_puti (Wd := mW ad cI cZ) (ci := 6) (C := RX7) (T := TX7) (N := 25) (kf := 5) hx hb hts iX7_freeze_X7 tyX7 tyX7_ok nmX7 hown hDD hK hP hS 0 rfl rfl 11 (by decide) (hts (.fieldLink RX7 98 "BumpheraldModel" "freezes" "I") (List.mem_of_getElem? (i := 1) rfl)) rfl rfl (by decide +kernel) (Nat.le_of_ble_eq_true rfl) rfl hE dX7_freeze_109 (fun S7 H locs hE hP hS => ?_)
      refine lv_aload_n hx hb dX7_freeze_112 rfl (lv_at hl 0 rfl) ?_
      refine va_get (D := D) (ci := 6) (v := .int (S7.1 5)) (C := RX7) (T := TX7) (N := 25) hx hb hts iX7_freeze_X7 hown hK.1 hP 0 rfl rfl 11 (by decide) (hts (.fieldLink RX7 98 "BumpheraldModel" "freezes" "I") (List.mem_of_getElem? (i := 1) rfl)) (fun _ h9 => h9) rfl dX7_freeze_113 ?_
      exact k_iret (Wd := mW ad cI cZ) hx hb hr hlk hK hP hS hE dX7_freeze_116
    · refine lv_iconst (v := 0) hx hb dX7_freeze_70 (by decide) ?_
      exact k_iret (Wd := mW ad cI cZ) hx hb hr hlk hK hP hS hE dX7_freeze_71
  have H38 : ∀ (v1 : Int32) (v2 : Int32) (v3 : Int32) (t0 : Int32) (S : St), f7_freeze_J38  v1 v2 v3 t0 S = some (So, ro) → ∀ (H : Heap) (locs : List Loc) (ls : Array Slot), va_P D vwCl (mW ad cI cZ S) H → va_S (mA ad) s.heap H locs → lv_has ls 5 [(0, .ref (ad 0)), (1, .int v1), (2, .int v2), (3, .int v3)] → W p l e (headSpec wsX7_freeze { frames := 1, cells := 0, slots := 0, locals := 22 }).room s m args below meth c H locs 0 0 (MQ below (kQi D cI cZ (mA ad) (mW ad cI cZ So) ro) args s 0 0 (mA ad)) (F0 m 38 ls [.int t0]) := by
    intro v1 v2 v3 t0 S hE H locs ls hP hS hl
    unfold f7_freeze_J38 at hE
    refine lv_istore (lv' := [(4, .int t0), (0, .ref (ad 0)), (1, .int v1), (2, .int v2), (3, .int v3)]) hx hb dX7_freeze_38 hl (by decide) rfl (fun ls hl => ?_)
    refine lv_aload_n hx hb dX7_freeze_40 rfl (lv_at hl 1 rfl) ?_
    refine lv_iload hx hb dX7_freeze_41 (lv_at hl 0 rfl) ?_
    refine r_if_ne (tgt := 50) hx hb dX7_freeze_43 (by decide) hE (fun c9 hE => ?_) (fun c9 hE => ?_)
    · refine lv_iconst (v := 1) hx hb dX7_freeze_46 (by decide) ?_
      refine lv_goto (tgt := 64) hx hb dX7_freeze_47 (by decide) ?_
      exact H64 v1 v2 v3 1 S hE _ _ _ hP hS (lv_sub hl [1, 2, 3, 4] rfl)
    · refine lv_aload_n hx hb dX7_freeze_50 rfl (lv_at hl 1 rfl) ?_
      refine va_get (D := D) (ci := 6) (v := .int (S.1 5)) (C := RX7) (T := TX7) (N := 25) hx hb hts iX7_freeze_X7 hown hK.1 hP 0 rfl rfl 11 (by decide) (hts (.fieldLink RX7 98 "BumpheraldModel" "freezes" "I") (List.mem_of_getElem? (i := 1) rfl)) (fun _ h9 => h9) rfl dX7_freeze_51 ?_
      refine lv_bipush (v := 10) hx hb dX7_freeze_54 (by decide) ?_
      refine r_icmp_ne (tgt := 63) hx hb dX7_freeze_56 (by decide) hE (fun c10 hE => ?_) (fun c10 hE => ?_)
      · refine lv_iconst (v := 2) hx hb dX7_freeze_59 (by decide) ?_
        refine lv_goto (tgt := 64) hx hb dX7_freeze_60 (by decide) ?_
        exact H64 v1 v2 v3 2 S hE _ _ _ hP hS (lv_sub hl [1, 2, 3, 4] rfl)
      · refine lv_iconst (v := 0) hx hb dX7_freeze_63 (by decide) ?_
        exact H64 v1 v2 v3 0 S hE _ _ _ hP hS (lv_sub hl [1, 2, 3, 4] rfl)
  have H37 : ∀ (v1 : Int32) (v2 : Int32) (v3 : Int32) (S : St), f7_freeze_J37  v1 v2 v3 S = some (So, ro) → ∀ (H : Heap) (locs : List Loc) (ls : Array Slot), va_P D vwCl (mW ad cI cZ S) H → va_S (mA ad) s.heap H locs → lv_has ls 5 [(0, .ref (ad 0)), (1, .int v1), (2, .int v2), (3, .int v3)] → W p l e (headSpec wsX7_freeze { frames := 1, cells := 0, slots := 0, locals := 22 }).room s m args below meth c H locs 0 0 (MQ below (kQi D cI cZ (mA ad) (mW ad cI cZ So) ro) args s 0 0 (mA ad)) (F0 m 37 ls []) := by
    intro v1 v2 v3 S hE H locs ls hP hS hl
    unfold f7_freeze_J37 at hE
    refine lv_iconst (v := 0) hx hb dX7_freeze_37 (by decide) ?_
    exact H38 v1 v2 v3 0 S hE _ _ _ hP hS (lv_sub hl [0, 1, 2, 3] rfl)
  unfold f7_freeze at hE
  refine lv_iload_n hx hb dX7_freeze_0 rfl (lv_at hl 1 rfl) ?_
  refine lv_iconst (v := 1) hx hb dX7_freeze_1 (by decide) ?_
  refine lv_sipush (v := 4095) hx hb dX7_freeze_2 (by decide) ?_
  refine r_callSi (Wd := mW ad cI cZ) [.int v1, .int 1, .int 4095] [] ⟨hx, hb, hml, hown, hts⟩ (kX7_in l D ad cI cZ hDD S v1 1 4095) (va_cwS 3 hts gX7_freeze_X7_in rfl rfl rfl (by decide +kernel) ⟨Nat.le_of_ble_eq_true rfl, Nat.le_of_ble_eq_true rfl⟩) hK hP hS (fun _ h9 => h9) rfl hl.1 rfl (Nat.le_of_ble_eq_true rfl) ⟨Nat.zero_le _, Nat.zero_le _⟩ hE dX7_freeze_5 (fun S12 x11 H locs hE hP hS => ?_)
  refine r_if_eq (tgt := 37) hx hb dX7_freeze_8 (by decide) hE (fun c13 hE => ?_) (fun c13 hE => ?_)
  · exact H37 v1 v2 v3 S12 hE _ _ _ hP hS (lv_sub hl [0, 1, 2, 3] rfl)
  · refine lv_iload_n hx hb dX7_freeze_11 rfl (lv_at hl 2 rfl) ?_
    refine lv_iconst (v := 0) hx hb dX7_freeze_12 (by decide) ?_
    refine lv_sipush (v := 1000) hx hb dX7_freeze_13 (by decide) ?_
    refine r_callSi (Wd := mW ad cI cZ) [.int v2, .int 0, .int 1000] [] ⟨hx, hb, hml, hown, hts⟩ (kX7_in l D ad cI cZ hDD S12 v2 0 1000) (va_cwS 3 hts gX7_freeze_X7_in rfl rfl rfl (by decide +kernel) ⟨Nat.le_of_ble_eq_true rfl, Nat.le_of_ble_eq_true rfl⟩) hK hP hS (fun _ h9 => h9) rfl hl.1 rfl (Nat.le_of_ble_eq_true rfl) ⟨Nat.zero_le _, Nat.zero_le _⟩ hE dX7_freeze_16 (fun S15 x14 H locs hE hP hS => ?_)
    refine r_if_eq (tgt := 37) hx hb dX7_freeze_19 (by decide) hE (fun c16 hE => ?_) (fun c16 hE => ?_)
    · exact H37 v1 v2 v3 S15 hE _ _ _ hP hS (lv_sub hl [0, 1, 2, 3] rfl)
    · refine lv_iload_n hx hb dX7_freeze_22 rfl (lv_at hl 3 rfl) ?_
      refine lv_iload_n hx hb dX7_freeze_23 rfl (lv_at hl 2 rfl) ?_
      refine lv_sipush (v := 1000) hx hb dX7_freeze_24 (by decide) ?_
      refine r_callSi (Wd := mW ad cI cZ) [.int v3, .int v2, .int 1000] [] ⟨hx, hb, hml, hown, hts⟩ (kX7_in l D ad cI cZ hDD S15 v3 v2 1000) (va_cwS 3 hts gX7_freeze_X7_in rfl rfl rfl (by decide +kernel) ⟨Nat.le_of_ble_eq_true rfl, Nat.le_of_ble_eq_true rfl⟩) hK hP hS (fun _ h9 => h9) rfl hl.1 rfl (Nat.le_of_ble_eq_true rfl) ⟨Nat.zero_le _, Nat.zero_le _⟩ hE dX7_freeze_27 (fun S18 x17 H locs hE hP hS => ?_)
      refine r_if_eq (tgt := 37) hx hb dX7_freeze_30 (by decide) hE (fun c19 hE => ?_) (fun c19 hE => ?_)
      · exact H37 v1 v2 v3 S18 hE _ _ _ hP hS (lv_sub hl [0, 1, 2, 3] rfl)
      · refine lv_iconst (v := 1) hx hb dX7_freeze_33 (by decide) ?_
        refine lv_goto (tgt := 38) hx hb dX7_freeze_34 (by decide) ?_
        exact H38 v1 v2 v3 1 S18 hE _ _ _ hP hS (lv_sub hl [0, 1, 2, 3] rfl)
theorem iX7_failing_X7 : ∀ w ∈ wsX70, w ∈ wsX7_failing := fun w h => List.mem_cons_of_mem _ (List.mem_append_right _ h)
set_option maxHeartbeats 4000000 in
set_option maxRecDepth 100000 in
theorem kX7_failing (l : Launch) (D : va_G) (ad : Nat → Nat) (cI cZ : ClassId) (hDD : ∀ S, va_D (mA ad) (mW ad cI cZ S)) (S : St) : ∀ So ro, f7_failing S  = some (So, ro) → Met l yX7_failing wsX7_failing { frames := 1, cells := 0, slots := 0, locals := 22 } (va_Pc [.ref (ad 0)] (kPre D cI cZ (mW ad cI cZ S))) (kQi D cI cZ (mA ad) (mW ad cI cZ So) ro) 0 0 (mA ad) := by
  intro So ro hE
  refine kMet_of (by decide) rfl (Nat.le_of_ble_eq_true rfl) ?_
  intro p e s m args below meth c ls hx hb hr hml hown hlk hts hK hP hS hl
  have hl : lv_has ls 3 [(0, .ref (ad 0))] := hl
  have hown : s.vm.findClass RX7 = some m.cls := hown
  have H4 : ∀ (n4 : Nat) (v1 : Int32) (v2 : Int32) (S : St), f7_failing_L4  n4 v1 v2 S = some (So, ro) → ∀ (H : Heap) (locs : List Loc) (ls : Array Slot), va_P D vwCl (mW ad cI cZ S) H → va_S (mA ad) s.heap H locs → lv_has ls 3 [(0, .ref (ad 0)), (1, .int v1), (2, .int v2)] → W p l e (headSpec wsX7_failing { frames := 1, cells := 0, slots := 0, locals := 22 }).room s m args below meth c H locs 0 0 (MQ below (kQi D cI cZ (mA ad) (mW ad cI cZ So) ro) args s 0 0 (mA ad)) (F0 m 4 ls []) := by
    intro n4
    induction n4 with
    | zero => intro v1 v2 S hE; exact absurd (show (none : Option (St × Int32)) = some (So, ro) from hE) (fun h => nomatch h)
    | succ n4 ih4 =>
      intro v1 v2 S hE H locs ls hP hS hl
      have hE : f7_failing_L4b  (f7_failing_L4 n4) v1 v2 S = some (So, ro) := hE
      unfold f7_failing_L4b at hE
      refine lv_iload_n hx hb dX7_failing_4 rfl (lv_at hl 2 rfl) ?_
      refine lv_aload_n hx hb dX7_failing_5 rfl (lv_at hl 0 rfl) ?_
      refine va_get (D := D) (ci := 6) (v := .int (S.1 3)) (C := RX7) (T := TX7) (N := 25) hx hb hts iX7_failing_X7 hown hK.1 hP 0 rfl rfl 4 (by decide) (hts (.fieldLink RX7 92 "BumpheraldModel" "needs" "I") (List.mem_of_getElem? (i := 1) rfl)) (fun _ h9 => h9) rfl dX7_failing_6 ?_
      refine r_icmp_ge (tgt := 67) hx hb dX7_failing_9 (by decide) hE (fun c1 hE => ?_) (fun c1 hE => ?_)
      · refine lv_iload_n hx hb dX7_failing_67 rfl (lv_at hl 1 rfl) ?_
        exact k_iret (Wd := mW ad cI cZ) hx hb hr hlk hK hP hS hE dX7_failing_68
      · refine lv_iload_n hx hb dX7_failing_12 rfl (lv_at hl 1 rfl) ?_
        refine lv_aload_n hx hb dX7_failing_13 rfl (lv_at hl 0 rfl) ?_
        refine va_get (D := D) (ci := 6) (v := .ref (ad 18)) (C := RX7) (T := TX7) (N := 25) hx hb hts iX7_failing_X7 hown hK.1 hP 0 rfl rfl 24 (by decide) (hts (.fieldLink RX7 66 "BumpheraldModel" "would" "[I") (List.mem_of_getElem? (i := 2) rfl)) (fun _ h9 => h9) rfl dX7_failing_14 ?_
        refine lv_aload_n hx hb dX7_failing_17 rfl (lv_at hl 0 rfl) ?_
        refine va_get (D := D) (ci := 6) (v := .ref (ad 3)) (C := RX7) (T := TX7) (N := 25) hx hb hts iX7_failing_X7 hown hK.1 hP 0 rfl rfl 6 (by decide) (hts (.fieldLink RX7 16 "BumpheraldModel" "needed" "[I") (List.mem_of_getElem? (i := 3) rfl)) (fun _ h9 => h9) rfl dX7_failing_18 ?_
        refine lv_iload_n hx hb dX7_failing_21 rfl (lv_at hl 2 rfl) ?_
        refine r_iald (Wd := mW ad cI cZ) (k := 2) (n := 20) hx hb hK hP 3 rfl hE dX7_failing_22 (fun x2 hE => ?_)
        refine r_iald (Wd := mW ad cI cZ) (k := 17) (n := 12) hx hb hK hP 18 rfl hE dX7_failing_23 (fun x3 hE => ?_)
        refine lv_aload_n hx hb dX7_failing_24 rfl (lv_at hl 0 rfl) ?_
        refine va_get (D := D) (ci := 6) (v := .ref (ad 18)) (C := RX7) (T := TX7) (N := 25) hx hb hts iX7_failing_X7 hown hK.1 hP 0 rfl rfl 24 (by decide) (hts (.fieldLink RX7 66 "BumpheraldModel" "would" "[I") (List.mem_of_getElem? (i := 2) rfl)) (fun _ h9 => h9) rfl dX7_failing_25 ?_
        refine lv_aload_n hx hb dX7_failing_28 rfl (lv_at hl 0 rfl) ?_
        refine va_get (D := D) (ci := 6) (v := .ref (ad 2)) (C := RX7) (T := TX7) (N := 25) hx hb hts iX7_failing_X7 hown hK.1 hP 0 rfl rfl 5 (by decide) (hts (.fieldLink RX7 13 "BumpheraldModel" "needing" "[I") (List.mem_of_getElem? (i := 4) rfl)) (fun _ h9 => h9) rfl dX7_failing_29 ?_
        refine lv_iload_n hx hb dX7_failing_32 rfl (lv_at hl 2 rfl) ?_
        refine r_iald (Wd := mW ad cI cZ) (k := 1) (n := 20) hx hb hK hP 2 rfl hE dX7_failing_33 (fun x4 hE => ?_)
        refine r_iald (Wd := mW ad cI cZ) (k := 17) (n := 12) hx hb hK hP 18 rfl hE dX7_failing_34 (fun x5 hE => ?_)
        refine lv_isub hx hb dX7_failing_35 ?_
        refine lv_aload_n hx hb dX7_failing_36 rfl (lv_at hl 0 rfl) ?_
        refine va_get (D := D) (ci := 6) (v := .ref (ad 4)) (C := RX7) (T := TX7) (N := 25) hx hb hts iX7_failing_X7 hown hK.1 hP 0 rfl rfl 7 (by decide) (hts (.fieldLink RX7 19 "BumpheraldModel" "least" "[I") (List.mem_of_getElem? (i := 5) rfl)) (fun _ h9 => h9) rfl dX7_failing_37 ?_
        refine lv_iload_n hx hb dX7_failing_40 rfl (lv_at hl 2 rfl) ?_
        refine r_iald (Wd := mW ad cI cZ) (k := 3) (n := 20) hx hb hK hP 4 rfl hE dX7_failing_41 (fun x6 hE => ?_)
        refine lv_aload_n hx hb dX7_failing_42 rfl (lv_at hl 0 rfl) ?_
        refine va_get (D := D) (ci := 6) (v := .ref (ad 5)) (C := RX7) (T := TX7) (N := 25) hx hb hts iX7_failing_X7 hown hK.1 hP 0 rfl rfl 8 (by decide) (hts (.fieldLink RX7 22 "BumpheraldModel" "most" "[I") (List.mem_of_getElem? (i := 6) rfl)) (fun _ h9 => h9) rfl dX7_failing_43 ?_
        refine lv_iload_n hx hb dX7_failing_46 rfl (lv_at hl 2 rfl) ?_
        refine r_iald (Wd := mW ad cI cZ) (k := 4) (n := 20) hx hb hK hP 5 rfl hE dX7_failing_47 (fun x7 hE => ?_)
        refine r_callSi (Wd := mW ad cI cZ) [.int (x3 - x5), .int x6, .int x7] [.int v1] ⟨hx, hb, hml, hown, hts⟩ (kX7_in l D ad cI cZ hDD S (x3 - x5) x6 x7) (va_cwS 3 hts gX7_failing_X7_in rfl rfl rfl (by decide +kernel) ⟨Nat.le_of_ble_eq_true rfl, Nat.le_of_ble_eq_true rfl⟩) hK hP hS (fun _ h9 => h9) rfl hl.1 rfl (Nat.le_of_ble_eq_true rfl) ⟨Nat.zero_le _, Nat.zero_le _⟩ hE dX7_failing_48 (fun S9 x8 H locs hE hP hS => ?_)
        refine r_if_eq (tgt := 58) hx hb dX7_failing_51 (by decide) hE (fun c10 hE => ?_) (fun c10 hE => ?_)
        · refine lv_iconst (v := 1) hx hb dX7_failing_58 (by decide) ?_
          refine lv_iadd hx hb dX7_failing_59 ?_
          refine lv_istore_n (lv' := [(1, .int (v1 + 1)), (0, .ref (ad 0)), (2, .int v2)]) hx hb dX7_failing_60 rfl hl (by decide) rfl (fun ls hl => ?_)
          refine lv_iinc (v := v2 + 1) (lv' := [(2, .int (v2 + 1)), (1, .int (v1 + 1)), (0, .ref (ad 0))]) hx hb dX7_failing_61 hl (k := 2) rfl rfl (by decide) rfl (fun ls hl => ?_)
          refine lv_goto (tgt := 4) hx hb dX7_failing_64 (by decide) ?_
          exact ih4 (v1 + 1) (v2 + 1) S9 hE _ _ _ hP hS (lv_sub hl [2, 1, 0] rfl)
        · refine lv_iconst (v := 0) hx hb dX7_failing_54 (by decide) ?_
          refine lv_goto (tgt := 59) hx hb dX7_failing_55 (by decide) ?_
          refine lv_iadd hx hb dX7_failing_59 ?_
          refine lv_istore_n (lv' := [(1, .int (v1 + 0)), (0, .ref (ad 0)), (2, .int v2)]) hx hb dX7_failing_60 rfl hl (by decide) rfl (fun ls hl => ?_)
          refine lv_iinc (v := v2 + 1) (lv' := [(2, .int (v2 + 1)), (1, .int (v1 + 0)), (0, .ref (ad 0))]) hx hb dX7_failing_61 hl (k := 2) rfl rfl (by decide) rfl (fun ls hl => ?_)
          refine lv_goto (tgt := 4) hx hb dX7_failing_64 (by decide) ?_
          exact ih4 (v1 + 0) (v2 + 1) S9 hE _ _ _ hP hS (lv_sub hl [2, 1, 0] rfl)
  unfold f7_failing at hE
  refine lv_iconst (v := 0) hx hb dX7_failing_0 (by decide) ?_
  refine lv_istore_n (lv' := [(1, .int 0), (0, .ref (ad 0))]) hx hb dX7_failing_1 rfl hl (by decide) rfl (fun ls hl => ?_)
  refine lv_iconst (v := 0) hx hb dX7_failing_2 (by decide) ?_
  refine lv_istore_n (lv' := [(2, .int 0), (1, .int 0), (0, .ref (ad 0))]) hx hb dX7_failing_3 rfl hl (by decide) rfl (fun ls hl => ?_)
  exact H4 2000 0 0 S hE _ _ _ hP hS (lv_sub hl [2, 1, 0] rfl)
theorem iX7_asNow_X7 : ∀ w ∈ wsX70, w ∈ wsX7_asNow := fun w h => List.mem_cons_of_mem _ (List.mem_append_right _ h)
set_option maxHeartbeats 4000000 in
set_option maxRecDepth 100000 in
theorem kX7_asNow (l : Launch) (D : va_G) (ad : Nat → Nat) (cI cZ : ClassId) (hDD : ∀ S, va_D (mA ad) (mW ad cI cZ S)) (S : St) : ∀ So, f7_asNow S  = some So → Met l yX7_asNow wsX7_asNow { frames := 0, cells := 0, slots := 0, locals := 0 } (va_Pc [.ref (ad 0)] (kPre D cI cZ (mW ad cI cZ S))) (kQv D cI cZ (mA ad) (mW ad cI cZ So)) 0 0 (mA ad) := by
  intro So hE
  refine kMet_of (by decide) rfl (Nat.le_of_ble_eq_true rfl) ?_
  intro p e s m args below meth c ls hx hb hr hml hown hlk hts hK hP hS hl
  have hl : lv_has ls 2 [(0, .ref (ad 0))] := hl
  have hown : s.vm.findClass RX7 = some m.cls := hown
  have H2 : ∀ (n2 : Nat) (v1 : Int32) (S : St), f7_asNow_L2  n2 v1 S = some So → ∀ (H : Heap) (locs : List Loc) (ls : Array Slot), va_P D vwCl (mW ad cI cZ S) H → va_S (mA ad) s.heap H locs → lv_has ls 2 [(0, .ref (ad 0)), (1, .int v1)] → W p l e (headSpec wsX7_asNow { frames := 0, cells := 0, slots := 0, locals := 0 }).room s m args below meth c H locs 0 0 (MQ below (kQv D cI cZ (mA ad) (mW ad cI cZ So)) args s 0 0 (mA ad)) (F0 m 2 ls []) := by
    intro n2
    induction n2 with
    | zero => intro v1 S hE; exact absurd (show (none : Option (St)) = some So from hE) (fun h => nomatch h)
    | succ n2 ih2 =>
      intro v1 S hE H locs ls hP hS hl
      have hE : f7_asNow_L2b  (f7_asNow_L2 n2) v1 S = some So := hE
      unfold f7_asNow_L2b at hE
      refine lv_iload_n hx hb dX7_asNow_2 rfl (lv_at hl 1 rfl) ?_
      refine lv_aload_n hx hb dX7_asNow_3 rfl (lv_at hl 0 rfl) ?_
      refine va_get (D := D) (ci := 6) (v := .int (S.1 2)) (C := RX7) (T := TX7) (N := 25) hx hb hts iX7_asNow_X7 hown hK.1 hP 0 rfl rfl 2 (by decide) (hts (.fieldLink RX7 72 "BumpheraldModel" "packs" "I") (List.mem_of_getElem? (i := 1) rfl)) (fun _ h9 => h9) rfl dX7_asNow_4 ?_
      refine r_icmp_ge (tgt := 28) hx hb dX7_asNow_7 (by decide) hE (fun c1 hE => ?_) (fun c1 hE => ?_)
      · exact k_vret (Wd := mW ad cI cZ) hx hb hr hlk hK hP hS hE dX7_asNow_28
      · refine lv_aload_n hx hb dX7_asNow_10 rfl (lv_at hl 0 rfl) ?_
        refine va_get (D := D) (ci := 6) (v := .ref (ad 18)) (C := RX7) (T := TX7) (N := 25) hx hb hts iX7_asNow_X7 hown hK.1 hP 0 rfl rfl 24 (by decide) (hts (.fieldLink RX7 66 "BumpheraldModel" "would" "[I") (List.mem_of_getElem? (i := 2) rfl)) (fun _ h9 => h9) rfl dX7_asNow_11 ?_
        refine lv_iload_n hx hb dX7_asNow_14 rfl (lv_at hl 1 rfl) ?_
        refine lv_aload_n hx hb dX7_asNow_15 rfl (lv_at hl 0 rfl) ?_
        refine va_get (D := D) (ci := 6) (v := .ref (ad 1)) (C := RX7) (T := TX7) (N := 25) hx hb hts iX7_asNow_X7 hown hK.1 hP 0 rfl rfl 3 (by decide) (hts (.fieldLink RX7 7 "BumpheraldModel" "version" "[I") (List.mem_of_getElem? (i := 3) rfl)) (fun _ h9 => h9) rfl dX7_asNow_16 ?_
        refine lv_iload_n hx hb dX7_asNow_19 rfl (lv_at hl 1 rfl) ?_
        refine r_iald (Wd := mW ad cI cZ) (k := 0) (n := 12) hx hb hK hP 1 rfl hE dX7_asNow_20 (fun x2 hE => ?_)
        refine r_iast (Wd := mW ad cI cZ) (k := 17) (n := 12) hx hb hDD hK hP hS 18 rfl (mU17 ..) hE dX7_asNow_21 (fun S3 H locs hE hP hS => ?_)
        refine lv_iinc (v := v1 + 1) (lv' := [(1, .int (v1 + 1)), (0, .ref (ad 0))]) hx hb dX7_asNow_22 hl (k := 1) rfl rfl (by decide) rfl (fun ls hl => ?_)
        refine lv_goto (tgt := 2) hx hb dX7_asNow_25 (by decide) ?_
        exact ih2 (v1 + 1) S3 hE _ _ _ hP hS (lv_sub hl [1, 0] rfl)
  unfold f7_asNow at hE
  refine lv_iconst (v := 0) hx hb dX7_asNow_0 (by decide) ?_
  refine lv_istore_n (lv' := [(1, .int 0), (0, .ref (ad 0))]) hx hb dX7_asNow_1 rfl hl (by decide) rfl (fun ls hl => ?_)
  exact H2 2000 0 S hE _ _ _ hP hS (lv_sub hl [1, 0] rfl)
theorem iX7_failsWith_X7 : ∀ w ∈ wsX70, w ∈ wsX7_failsWith := fun w h => List.mem_cons_of_mem _ (List.mem_append_right _ h)
set_option maxHeartbeats 4000000 in
set_option maxRecDepth 100000 in
theorem kX7_failsWith (l : Launch) (D : va_G) (ad : Nat → Nat) (cI cZ : ClassId) (hDD : ∀ S, va_D (mA ad) (mW ad cI cZ S)) (S : St) (v1 : Int32) (v2 : Int32) : ∀ So ro, f7_failsWith S v1 v2 = some (So, ro) → Met l yX7_failsWith wsX7_failsWith { frames := 2, cells := 0, slots := 0, locals := 44 } (va_Pc [.ref (ad 0), .int v1, .int v2] (kPre D cI cZ (mW ad cI cZ S))) (kQi D cI cZ (mA ad) (mW ad cI cZ So) ro) 0 0 (mA ad) := by
  intro So ro hE
  refine kMet_of (by decide) rfl (Nat.le_of_ble_eq_true rfl) ?_
  intro p e s m args below meth c ls hx hb hr hml hown hlk hts hK hP hS hl
  have hl : lv_has ls 4 [(0, .ref (ad 0)), (1, .int v1), (2, .int v2)] := hl
  have hown : s.vm.findClass RX7 = some m.cls := hown
  have H6 : ∀ (n6 : Nat) (v1 : Int32) (v2 : Int32) (v3 : Int32) (S : St), f7_failsWith_L6  n6 v1 v2 v3 S = some (So, ro) → ∀ (H : Heap) (locs : List Loc) (ls : Array Slot), va_P D vwCl (mW ad cI cZ S) H → va_S (mA ad) s.heap H locs → lv_has ls 4 [(0, .ref (ad 0)), (1, .int v1), (2, .int v2), (3, .int v3)] → W p l e (headSpec wsX7_failsWith { frames := 2, cells := 0, slots := 0, locals := 44 }).room s m args below meth c H locs 0 0 (MQ below (kQi D cI cZ (mA ad) (mW ad cI cZ So) ro) args s 0 0 (mA ad)) (F0 m 6 ls []) := by
    intro n6
    induction n6 with
    | zero => intro v1 v2 v3 S hE; exact absurd (show (none : Option (St × Int32)) = some (So, ro) from hE) (fun h => nomatch h)
    | succ n6 ih6 =>
      have H43 : ∀ (v1 : Int32) (v2 : Int32) (v3 : Int32) (S : St), f7_failsWith_J43 (f7_failsWith_L6 n6) v1 v2 v3 S = some (So, ro) → ∀ (H : Heap) (locs : List Loc) (ls : Array Slot), va_P D vwCl (mW ad cI cZ S) H → va_S (mA ad) s.heap H locs → lv_has ls 4 [(0, .ref (ad 0)), (1, .int v1), (2, .int v2), (3, .int v3)] → W p l e (headSpec wsX7_failsWith { frames := 2, cells := 0, slots := 0, locals := 44 }).room s m args below meth c H locs 0 0 (MQ below (kQi D cI cZ (mA ad) (mW ad cI cZ So) ro) args s 0 0 (mA ad)) (F0 m 43 ls []) := by
        intro v1 v2 v3 S hE H locs ls hP hS hl
        unfold f7_failsWith_J43 at hE
        refine lv_aload_n hx hb dX7_failsWith_43 rfl (lv_at hl 0 rfl) ?_
        refine va_get (D := D) (ci := 6) (v := .ref (ad 18)) (C := RX7) (T := TX7) (N := 25) hx hb hts iX7_failsWith_X7 hown hK.1 hP 0 rfl rfl 24 (by decide) (hts (.fieldLink RX7 66 "BumpheraldModel" "would" "[I") (List.mem_of_getElem? (i := 4) rfl)) (fun _ h9 => h9) rfl dX7_failsWith_44 ?_
        refine lv_aload_n hx hb dX7_failsWith_47 rfl (lv_at hl 0 rfl) ?_
        refine va_get (D := D) (ci := 6) (v := .ref (ad 11)) (C := RX7) (T := TX7) (N := 25) hx hb hts iX7_failsWith_X7 hown hK.1 hP 0 rfl rfl 17 (by decide) (hts (.fieldLink RX7 44 "BumpheraldModel" "pack" "[I") (List.mem_of_getElem? (i := 5) rfl)) (fun _ h9 => h9) rfl dX7_failsWith_48 ?_
        refine lv_iload_n hx hb dX7_failsWith_51 rfl (lv_at hl 3 rfl) ?_
        refine r_iald (Wd := mW ad cI cZ) (k := 10) (n := 40) hx hb hK hP 11 rfl hE dX7_failsWith_52 (fun x1 hE => ?_)
        refine lv_aload_n hx hb dX7_failsWith_53 rfl (lv_at hl 0 rfl) ?_
        refine va_get (D := D) (ci := 6) (v := .ref (ad 12)) (C := RX7) (T := TX7) (N := 25) hx hb hts iX7_failsWith_X7 hown hK.1 hP 0 rfl rfl 18 (by decide) (hts (.fieldLink RX7 47 "BumpheraldModel" "target" "[I") (List.mem_of_getElem? (i := 6) rfl)) (fun _ h9 => h9) rfl dX7_failsWith_54 ?_
        refine lv_iload_n hx hb dX7_failsWith_57 rfl (lv_at hl 3 rfl) ?_
        refine r_iald (Wd := mW ad cI cZ) (k := 11) (n := 40) hx hb hK hP 12 rfl hE dX7_failsWith_58 (fun x2 hE => ?_)
        refine r_iast (Wd := mW ad cI cZ) (k := 17) (n := 12) hx hb hDD hK hP hS 18 rfl (mU17 ..) hE dX7_failsWith_59 (fun S3 H locs hE hP hS => ?_)
        refine lv_iinc (v := v3 + 1) (lv' := [(3, .int (v3 + 1)), (0, .ref (ad 0)), (1, .int v1), (2, .int v2)]) hx hb dX7_failsWith_60 hl (k := 3) rfl rfl (by decide) rfl (fun ls hl => ?_)
        refine lv_goto (tgt := 6) hx hb dX7_failsWith_63 (by decide) ?_
        exact ih6 v1 v2 (v3 + 1) S3 hE _ _ _ hP hS (lv_sub hl [1, 2, 3, 0] rfl)
      intro v1 v2 v3 S hE H locs ls hP hS hl
      have hE : f7_failsWith_L6b  (f7_failsWith_L6 n6) v1 v2 v3 S = some (So, ro) := hE
      unfold f7_failsWith_L6b at hE
      refine lv_iload_n hx hb dX7_failsWith_6 rfl (lv_at hl 3 rfl) ?_
      refine lv_aload_n hx hb dX7_failsWith_7 rfl (lv_at hl 0 rfl) ?_
      refine va_get (D := D) (ci := 6) (v := .int (S.1 6)) (C := RX7) (T := TX7) (N := 25) hx hb hts iX7_failsWith_X7 hown hK.1 hP 0 rfl rfl 15 (by decide) (hts (.fieldLink RX7 79 "BumpheraldModel" "raises" "I") (List.mem_of_getElem? (i := 1) rfl)) (fun _ h9 => h9) rfl dX7_failsWith_8 ?_
      refine r_icmp_ge (tgt := 66) hx hb dX7_failsWith_11 (by decide) hE (fun c4 hE => ?_) (fun c4 hE => ?_)
      · refine lv_aload_n hx hb dX7_failsWith_66 rfl (lv_at hl 0 rfl) ?_
        refine r_callVi (Wd := mW ad cI cZ) (C := RX7) [] [] ⟨hx, hb, hml, hown, hts⟩ (kX7_failing l D ad cI cZ hDD S) (cwV 0 hts gX7_failsWith_X7_failing rfl rfl rfl (by decide +kernel) ⟨Nat.le_of_ble_eq_true rfl, Nat.le_of_ble_eq_true rfl⟩) (va_recv hK.1 hP (ci := 6) (q0 := 0) rfl rfl) hK hP hS (fun _ h9 => h9) rfl hl.1 rfl (Nat.le_of_ble_eq_true rfl) ⟨Nat.zero_le _, Nat.zero_le _⟩ hE dX7_failsWith_67 (fun S6 x5 H locs hE hP hS => ?_)
        exact k_iret (Wd := mW ad cI cZ) hx hb hr hlk hK hP hS hE dX7_failsWith_70
      · refine lv_aload_n hx hb dX7_failsWith_14 rfl (lv_at hl 0 rfl) ?_
        refine va_get (D := D) (ci := 6) (v := .ref (ad 10)) (C := RX7) (T := TX7) (N := 25) hx hb hts iX7_failsWith_X7 hown hK.1 hP 0 rfl rfl 16 (by decide) (hts (.fieldLink RX7 41 "BumpheraldModel" "state" "[I") (List.mem_of_getElem? (i := 2) rfl)) (fun _ h9 => h9) rfl dX7_failsWith_15 ?_
        refine lv_iload_n hx hb dX7_failsWith_18 rfl (lv_at hl 3 rfl) ?_
        refine r_iald (Wd := mW ad cI cZ) (k := 9) (n := 40) hx hb hK hP 10 rfl hE dX7_failsWith_19 (fun x8 hE => ?_)
        refine r_if_ne (tgt := 60) hx hb dX7_failsWith_20 (by decide) hE (fun c9 hE => ?_) (fun c9 hE => ?_)
        · refine lv_aload_n hx hb dX7_failsWith_23 rfl (lv_at hl 0 rfl) ?_
          refine va_get (D := D) (ci := 6) (v := .ref (ad 15)) (C := RX7) (T := TX7) (N := 25) hx hb hts iX7_failsWith_X7 hown hK.1 hP 0 rfl rfl 21 (by decide) (hts (.fieldLink RX7 56 "BumpheraldModel" "group" "[I") (List.mem_of_getElem? (i := 3) rfl)) (fun _ h9 => h9) rfl dX7_failsWith_24 ?_
          refine lv_iload_n hx hb dX7_failsWith_27 rfl (lv_at hl 3 rfl) ?_
          refine r_iald (Wd := mW ad cI cZ) (k := 14) (n := 40) hx hb hK hP 15 rfl hE dX7_failsWith_28 (fun x10 hE => ?_)
          refine lv_iload_n hx hb dX7_failsWith_29 rfl (lv_at hl 1 rfl) ?_
          refine r_icmp_eq (tgt := 43) hx hb dX7_failsWith_30 (by decide) hE (fun c11 hE => ?_) (fun c11 hE => ?_)
          · exact H43 v1 v2 v3 S hE _ _ _ hP hS (lv_sub hl [0, 1, 2, 3] rfl)
          · refine lv_aload_n hx hb dX7_failsWith_33 rfl (lv_at hl 0 rfl) ?_
            refine va_get (D := D) (ci := 6) (v := .ref (ad 15)) (C := RX7) (T := TX7) (N := 25) hx hb hts iX7_failsWith_X7 hown hK.1 hP 0 rfl rfl 21 (by decide) (hts (.fieldLink RX7 56 "BumpheraldModel" "group" "[I") (List.mem_of_getElem? (i := 3) rfl)) (fun _ h9 => h9) rfl dX7_failsWith_34 ?_
            refine lv_iload_n hx hb dX7_failsWith_37 rfl (lv_at hl 3 rfl) ?_
            refine r_iald (Wd := mW ad cI cZ) (k := 14) (n := 40) hx hb hK hP 15 rfl hE dX7_failsWith_38 (fun x12 hE => ?_)
            refine lv_iload_n hx hb dX7_failsWith_39 rfl (lv_at hl 2 rfl) ?_
            refine r_icmp_ne (tgt := 60) hx hb dX7_failsWith_40 (by decide) hE (fun c13 hE => ?_) (fun c13 hE => ?_)
            · exact H43 v1 v2 v3 S hE _ _ _ hP hS (lv_sub hl [0, 1, 2, 3] rfl)
            · refine lv_iinc (v := v3 + 1) (lv' := [(3, .int (v3 + 1)), (0, .ref (ad 0)), (1, .int v1), (2, .int v2)]) hx hb dX7_failsWith_60 hl (k := 3) rfl rfl (by decide) rfl (fun ls hl => ?_)
              refine lv_goto (tgt := 6) hx hb dX7_failsWith_63 (by decide) ?_
              exact ih6 v1 v2 (v3 + 1) S hE _ _ _ hP hS (lv_sub hl [1, 2, 3, 0] rfl)
        · refine lv_iinc (v := v3 + 1) (lv' := [(3, .int (v3 + 1)), (0, .ref (ad 0)), (1, .int v1), (2, .int v2)]) hx hb dX7_failsWith_60 hl (k := 3) rfl rfl (by decide) rfl (fun ls hl => ?_)
          refine lv_goto (tgt := 6) hx hb dX7_failsWith_63 (by decide) ?_
          exact ih6 v1 v2 (v3 + 1) S hE _ _ _ hP hS (lv_sub hl [1, 2, 3, 0] rfl)
  unfold f7_failsWith at hE
  refine lv_aload_n hx hb dX7_failsWith_0 rfl (lv_at hl 0 rfl) ?_
  refine r_callVv (Wd := mW ad cI cZ) (C := RX7) [] [] ⟨hx, hb, hml, hown, hts⟩ (kX7_asNow l D ad cI cZ hDD S) (cwV 0 hts gX7_failsWith_X7_asNow rfl rfl rfl (by decide +kernel) ⟨Nat.le_of_ble_eq_true rfl, Nat.le_of_ble_eq_true rfl⟩) (va_recv hK.1 hP (ci := 6) (q0 := 0) rfl rfl) hK hP hS (fun _ h9 => h9) rfl hl.1 rfl (Nat.le_of_ble_eq_true rfl) ⟨Nat.zero_le _, Nat.zero_le _⟩ hE dX7_failsWith_1 (fun S15 H locs hE hP hS => ?_)
  refine lv_iconst (v := 0) hx hb dX7_failsWith_4 (by decide) ?_
  refine lv_istore_n (lv' := [(3, .int 0), (0, .ref (ad 0)), (1, .int v1), (2, .int v2)]) hx hb dX7_failsWith_5 rfl hl (by decide) rfl (fun ls hl => ?_)
  exact H6 2000 v1 v2 0 S15 hE _ _ _ hP hS (lv_sub hl [1, 2, 3, 0] rfl)
theorem iX7_sizeOf_X7 : ∀ w ∈ wsX70, w ∈ wsX7_sizeOf := fun w h => List.mem_cons_of_mem _ (List.mem_append_right _ h)
set_option maxHeartbeats 4000000 in
set_option maxRecDepth 100000 in
theorem kX7_sizeOf (l : Launch) (D : va_G) (ad : Nat → Nat) (cI cZ : ClassId) (hDD : ∀ S, va_D (mA ad) (mW ad cI cZ S)) (S : St) (v1 : Int32) : ∀ So ro, f7_sizeOf S v1 = some (So, ro) → Met l yX7_sizeOf wsX7_sizeOf { frames := 0, cells := 0, slots := 0, locals := 0 } (va_Pc [.ref (ad 0), .int v1] (kPre D cI cZ (mW ad cI cZ S))) (kQi D cI cZ (mA ad) (mW ad cI cZ So) ro) 0 0 (mA ad) := by
  intro So ro hE
  refine kMet_of (by decide) rfl (Nat.le_of_ble_eq_true rfl) ?_
  intro p e s m args below meth c ls hx hb hr hml hown hlk hts hK hP hS hl
  have hl : lv_has ls 4 [(0, .ref (ad 0)), (1, .int v1)] := hl
  have hown : s.vm.findClass RX7 = some m.cls := hown
  have H4 : ∀ (n4 : Nat) (v1 : Int32) (v2 : Int32) (v3 : Int32) (S : St), f7_sizeOf_L4  n4 v1 v2 v3 S = some (So, ro) → ∀ (H : Heap) (locs : List Loc) (ls : Array Slot), va_P D vwCl (mW ad cI cZ S) H → va_S (mA ad) s.heap H locs → lv_has ls 4 [(0, .ref (ad 0)), (1, .int v1), (2, .int v2), (3, .int v3)] → W p l e (headSpec wsX7_sizeOf { frames := 0, cells := 0, slots := 0, locals := 0 }).room s m args below meth c H locs 0 0 (MQ below (kQi D cI cZ (mA ad) (mW ad cI cZ So) ro) args s 0 0 (mA ad)) (F0 m 4 ls []) := by
    intro n4
    induction n4 with
    | zero => intro v1 v2 v3 S hE; exact absurd (show (none : Option (St × Int32)) = some (So, ro) from hE) (fun h => nomatch h)
    | succ n4 ih4 =>
      intro v1 v2 v3 S hE H locs ls hP hS hl
      have hE : f7_sizeOf_L4b  (f7_sizeOf_L4 n4) v1 v2 v3 S = some (So, ro) := hE
      unfold f7_sizeOf_L4b at hE
      refine lv_iload_n hx hb dX7_sizeOf_4 rfl (lv_at hl 3 rfl) ?_
      refine lv_aload_n hx hb dX7_sizeOf_5 rfl (lv_at hl 0 rfl) ?_
      refine va_get (D := D) (ci := 6) (v := .int (S.1 6)) (C := RX7) (T := TX7) (N := 25) hx hb hts iX7_sizeOf_X7 hown hK.1 hP 0 rfl rfl 15 (by decide) (hts (.fieldLink RX7 79 "BumpheraldModel" "raises" "I") (List.mem_of_getElem? (i := 1) rfl)) (fun _ h9 => h9) rfl dX7_sizeOf_6 ?_
      refine r_icmp_ge (tgt := 45) hx hb dX7_sizeOf_9 (by decide) hE (fun c1 hE => ?_) (fun c1 hE => ?_)
      · refine lv_iload_n hx hb dX7_sizeOf_45 rfl (lv_at hl 2 rfl) ?_
        exact k_iret (Wd := mW ad cI cZ) hx hb hr hlk hK hP hS hE dX7_sizeOf_46
      · refine lv_iload_n hx hb dX7_sizeOf_12 rfl (lv_at hl 2 rfl) ?_
        refine lv_aload_n hx hb dX7_sizeOf_13 rfl (lv_at hl 0 rfl) ?_
        refine va_get (D := D) (ci := 6) (v := .ref (ad 10)) (C := RX7) (T := TX7) (N := 25) hx hb hts iX7_sizeOf_X7 hown hK.1 hP 0 rfl rfl 16 (by decide) (hts (.fieldLink RX7 41 "BumpheraldModel" "state" "[I") (List.mem_of_getElem? (i := 2) rfl)) (fun _ h9 => h9) rfl dX7_sizeOf_14 ?_
        refine lv_iload_n hx hb dX7_sizeOf_17 rfl (lv_at hl 3 rfl) ?_
        refine r_iald (Wd := mW ad cI cZ) (k := 9) (n := 40) hx hb hK hP 10 rfl hE dX7_sizeOf_18 (fun x2 hE => ?_)
        refine r_if_ne (tgt := 36) hx hb dX7_sizeOf_19 (by decide) hE (fun c3 hE => ?_) (fun c3 hE => ?_)
        · refine lv_aload_n hx hb dX7_sizeOf_22 rfl (lv_at hl 0 rfl) ?_
          refine va_get (D := D) (ci := 6) (v := .ref (ad 15)) (C := RX7) (T := TX7) (N := 25) hx hb hts iX7_sizeOf_X7 hown hK.1 hP 0 rfl rfl 21 (by decide) (hts (.fieldLink RX7 56 "BumpheraldModel" "group" "[I") (List.mem_of_getElem? (i := 3) rfl)) (fun _ h9 => h9) rfl dX7_sizeOf_23 ?_
          refine lv_iload_n hx hb dX7_sizeOf_26 rfl (lv_at hl 3 rfl) ?_
          refine r_iald (Wd := mW ad cI cZ) (k := 14) (n := 40) hx hb hK hP 15 rfl hE dX7_sizeOf_27 (fun x4 hE => ?_)
          refine lv_iload_n hx hb dX7_sizeOf_28 rfl (lv_at hl 1 rfl) ?_
          refine r_icmp_ne (tgt := 36) hx hb dX7_sizeOf_29 (by decide) hE (fun c5 hE => ?_) (fun c5 hE => ?_)
          · refine lv_iconst (v := 1) hx hb dX7_sizeOf_32 (by decide) ?_
            refine lv_goto (tgt := 37) hx hb dX7_sizeOf_33 (by decide) ?_
            refine lv_iadd hx hb dX7_sizeOf_37 ?_
            refine lv_istore_n (lv' := [(2, .int (v2 + 1)), (0, .ref (ad 0)), (1, .int v1), (3, .int v3)]) hx hb dX7_sizeOf_38 rfl hl (by decide) rfl (fun ls hl => ?_)
            refine lv_iinc (v := v3 + 1) (lv' := [(3, .int (v3 + 1)), (2, .int (v2 + 1)), (0, .ref (ad 0)), (1, .int v1)]) hx hb dX7_sizeOf_39 hl (k := 3) rfl rfl (by decide) rfl (fun ls hl => ?_)
            refine lv_goto (tgt := 4) hx hb dX7_sizeOf_42 (by decide) ?_
            exact ih4 v1 (v2 + 1) (v3 + 1) S hE _ _ _ hP hS (lv_sub hl [2, 3, 1, 0] rfl)
          · refine lv_iconst (v := 0) hx hb dX7_sizeOf_36 (by decide) ?_
            refine lv_iadd hx hb dX7_sizeOf_37 ?_
            refine lv_istore_n (lv' := [(2, .int (v2 + 0)), (0, .ref (ad 0)), (1, .int v1), (3, .int v3)]) hx hb dX7_sizeOf_38 rfl hl (by decide) rfl (fun ls hl => ?_)
            refine lv_iinc (v := v3 + 1) (lv' := [(3, .int (v3 + 1)), (2, .int (v2 + 0)), (0, .ref (ad 0)), (1, .int v1)]) hx hb dX7_sizeOf_39 hl (k := 3) rfl rfl (by decide) rfl (fun ls hl => ?_)
            refine lv_goto (tgt := 4) hx hb dX7_sizeOf_42 (by decide) ?_
            exact ih4 v1 (v2 + 0) (v3 + 1) S hE _ _ _ hP hS (lv_sub hl [2, 3, 1, 0] rfl)
        · refine lv_iconst (v := 0) hx hb dX7_sizeOf_36 (by decide) ?_
          refine lv_iadd hx hb dX7_sizeOf_37 ?_
          refine lv_istore_n (lv' := [(2, .int (v2 + 0)), (0, .ref (ad 0)), (1, .int v1), (3, .int v3)]) hx hb dX7_sizeOf_38 rfl hl (by decide) rfl (fun ls hl => ?_)
          refine lv_iinc (v := v3 + 1) (lv' := [(3, .int (v3 + 1)), (2, .int (v2 + 0)), (0, .ref (ad 0)), (1, .int v1)]) hx hb dX7_sizeOf_39 hl (k := 3) rfl rfl (by decide) rfl (fun ls hl => ?_)
          refine lv_goto (tgt := 4) hx hb dX7_sizeOf_42 (by decide) ?_
          exact ih4 v1 (v2 + 0) (v3 + 1) S hE _ _ _ hP hS (lv_sub hl [2, 3, 1, 0] rfl)
  unfold f7_sizeOf at hE
  refine lv_iconst (v := 0) hx hb dX7_sizeOf_0 (by decide) ?_
  refine lv_istore_n (lv' := [(2, .int 0), (0, .ref (ad 0)), (1, .int v1)]) hx hb dX7_sizeOf_1 rfl hl (by decide) rfl (fun ls hl => ?_)
  refine lv_iconst (v := 0) hx hb dX7_sizeOf_2 (by decide) ?_
  refine lv_istore_n (lv' := [(3, .int 0), (2, .int 0), (0, .ref (ad 0)), (1, .int v1)]) hx hb dX7_sizeOf_3 rfl hl (by decide) rfl (fun ls hl => ?_)
  exact H4 2000 v1 0 0 S hE _ _ _ hP hS (lv_sub hl [2, 3, 1, 0] rfl)
theorem iX7_loadOf_X7 : ∀ w ∈ wsX70, w ∈ wsX7_loadOf := fun w h => List.mem_cons_of_mem _ (List.mem_append_right _ h)
set_option maxHeartbeats 4000000 in
set_option maxRecDepth 100000 in
theorem kX7_loadOf (l : Launch) (D : va_G) (ad : Nat → Nat) (cI cZ : ClassId) (hDD : ∀ S, va_D (mA ad) (mW ad cI cZ S)) (S : St) (v1 : Int32) (v2 : Int32) : ∀ So ro, f7_loadOf S v1 v2 = some (So, ro) → Met l yX7_loadOf wsX7_loadOf { frames := 0, cells := 0, slots := 0, locals := 0 } (va_Pc [.ref (ad 0), .int v1, .int v2] (kPre D cI cZ (mW ad cI cZ S))) (kQi D cI cZ (mA ad) (mW ad cI cZ So) ro) 0 0 (mA ad) := by
  intro So ro hE
  refine kMet_of (by decide) rfl (Nat.le_of_ble_eq_true rfl) ?_
  intro p e s m args below meth c ls hx hb hr hml hown hlk hts hK hP hS hl
  have hl : lv_has ls 5 [(0, .ref (ad 0)), (1, .int v1), (2, .int v2)] := hl
  have hown : s.vm.findClass RX7 = some m.cls := hown
  have H5 : ∀ (n5 : Nat) (v1 : Int32) (v2 : Int32) (v3 : Int32) (v4 : Int32) (S : St), f7_loadOf_L5  n5 v1 v2 v3 v4 S = some (So, ro) → ∀ (H : Heap) (locs : List Loc) (ls : Array Slot), va_P D vwCl (mW ad cI cZ S) H → va_S (mA ad) s.heap H locs → lv_has ls 5 [(0, .ref (ad 0)), (1, .int v1), (2, .int v2), (3, .int v3), (4, .int v4)] → W p l e (headSpec wsX7_loadOf { frames := 0, cells := 0, slots := 0, locals := 0 }).room s m args below meth c H locs 0 0 (MQ below (kQi D cI cZ (mA ad) (mW ad cI cZ So) ro) args s 0 0 (mA ad)) (F0 m 5 ls []) := by
    intro n5
    induction n5 with
    | zero => intro v1 v2 v3 v4 S hE; exact absurd (show (none : Option (St × Int32)) = some (So, ro) from hE) (fun h => nomatch h)
    | succ n5 ih5 =>
      intro v1 v2 v3 v4 S hE H locs ls hP hS hl
      have hE : f7_loadOf_L5b  (f7_loadOf_L5 n5) v1 v2 v3 v4 S = some (So, ro) := hE
      unfold f7_loadOf_L5b at hE
      refine lv_iload hx hb dX7_loadOf_5 (lv_at hl 4 rfl) ?_
      refine lv_aload_n hx hb dX7_loadOf_7 rfl (lv_at hl 0 rfl) ?_
      refine va_get (D := D) (ci := 6) (v := .int (S.1 6)) (C := RX7) (T := TX7) (N := 25) hx hb hts iX7_loadOf_X7 hown hK.1 hP 0 rfl rfl 15 (by decide) (hts (.fieldLink RX7 79 "BumpheraldModel" "raises" "I") (List.mem_of_getElem? (i := 1) rfl)) (fun _ h9 => h9) rfl dX7_loadOf_8 ?_
      refine r_icmp_ge (tgt := 55) hx hb dX7_loadOf_11 (by decide) hE (fun c1 hE => ?_) (fun c1 hE => ?_)
      · refine lv_iload_n hx hb dX7_loadOf_55 rfl (lv_at hl 3 rfl) ?_
        exact k_iret (Wd := mW ad cI cZ) hx hb hr hlk hK hP hS hE dX7_loadOf_56
      · refine lv_iload_n hx hb dX7_loadOf_14 rfl (lv_at hl 3 rfl) ?_
        refine lv_iload hx hb dX7_loadOf_15 (lv_at hl 4 rfl) ?_
        refine lv_iload_n hx hb dX7_loadOf_17 rfl (lv_at hl 2 rfl) ?_
        refine r_icmp_eq (tgt := 46) hx hb dX7_loadOf_18 (by decide) hE (fun c2 hE => ?_) (fun c2 hE => ?_)
        · refine lv_iconst (v := 0) hx hb dX7_loadOf_46 (by decide) ?_
          refine lv_iadd hx hb dX7_loadOf_47 ?_
          refine lv_istore_n (lv' := [(3, .int (v3 + 0)), (0, .ref (ad 0)), (1, .int v1), (2, .int v2), (4, .int v4)]) hx hb dX7_loadOf_48 rfl hl (by decide) rfl (fun ls hl => ?_)
          refine lv_iinc (v := v4 + 1) (lv' := [(4, .int (v4 + 1)), (3, .int (v3 + 0)), (0, .ref (ad 0)), (1, .int v1), (2, .int v2)]) hx hb dX7_loadOf_49 hl (k := 4) rfl rfl (by decide) rfl (fun ls hl => ?_)
          refine lv_goto (tgt := 5) hx hb dX7_loadOf_52 (by decide) ?_
          exact ih5 v1 v2 (v3 + 0) (v4 + 1) S hE _ _ _ hP hS (lv_sub hl [2, 3, 4, 1, 0] rfl)
        · refine lv_aload_n hx hb dX7_loadOf_21 rfl (lv_at hl 0 rfl) ?_
          refine va_get (D := D) (ci := 6) (v := .ref (ad 10)) (C := RX7) (T := TX7) (N := 25) hx hb hts iX7_loadOf_X7 hown hK.1 hP 0 rfl rfl 16 (by decide) (hts (.fieldLink RX7 41 "BumpheraldModel" "state" "[I") (List.mem_of_getElem? (i := 2) rfl)) (fun _ h9 => h9) rfl dX7_loadOf_22 ?_
          refine lv_iload hx hb dX7_loadOf_25 (lv_at hl 4 rfl) ?_
          refine r_iald (Wd := mW ad cI cZ) (k := 9) (n := 40) hx hb hK hP 10 rfl hE dX7_loadOf_27 (fun x3 hE => ?_)
          refine r_if_ne (tgt := 46) hx hb dX7_loadOf_28 (by decide) hE (fun c4 hE => ?_) (fun c4 hE => ?_)
          · refine lv_aload_n hx hb dX7_loadOf_31 rfl (lv_at hl 0 rfl) ?_
            refine va_get (D := D) (ci := 6) (v := .ref (ad 16)) (C := RX7) (T := TX7) (N := 25) hx hb hts iX7_loadOf_X7 hown hK.1 hP 0 rfl rfl 22 (by decide) (hts (.fieldLink RX7 59 "BumpheraldModel" "reviewer" "[I") (List.mem_of_getElem? (i := 3) rfl)) (fun _ h9 => h9) rfl dX7_loadOf_32 ?_
            refine lv_iload hx hb dX7_loadOf_35 (lv_at hl 4 rfl) ?_
            refine r_iald (Wd := mW ad cI cZ) (k := 15) (n := 40) hx hb hK hP 16 rfl hE dX7_loadOf_37 (fun x5 hE => ?_)
            refine lv_iload_n hx hb dX7_loadOf_38 rfl (lv_at hl 1 rfl) ?_
            refine r_icmp_ne (tgt := 46) hx hb dX7_loadOf_39 (by decide) hE (fun c6 hE => ?_) (fun c6 hE => ?_)
            · refine lv_iconst (v := 1) hx hb dX7_loadOf_42 (by decide) ?_
              refine lv_goto (tgt := 47) hx hb dX7_loadOf_43 (by decide) ?_
              refine lv_iadd hx hb dX7_loadOf_47 ?_
              refine lv_istore_n (lv' := [(3, .int (v3 + 1)), (0, .ref (ad 0)), (1, .int v1), (2, .int v2), (4, .int v4)]) hx hb dX7_loadOf_48 rfl hl (by decide) rfl (fun ls hl => ?_)
              refine lv_iinc (v := v4 + 1) (lv' := [(4, .int (v4 + 1)), (3, .int (v3 + 1)), (0, .ref (ad 0)), (1, .int v1), (2, .int v2)]) hx hb dX7_loadOf_49 hl (k := 4) rfl rfl (by decide) rfl (fun ls hl => ?_)
              refine lv_goto (tgt := 5) hx hb dX7_loadOf_52 (by decide) ?_
              exact ih5 v1 v2 (v3 + 1) (v4 + 1) S hE _ _ _ hP hS (lv_sub hl [2, 3, 4, 1, 0] rfl)
            · refine lv_iconst (v := 0) hx hb dX7_loadOf_46 (by decide) ?_
              refine lv_iadd hx hb dX7_loadOf_47 ?_
              refine lv_istore_n (lv' := [(3, .int (v3 + 0)), (0, .ref (ad 0)), (1, .int v1), (2, .int v2), (4, .int v4)]) hx hb dX7_loadOf_48 rfl hl (by decide) rfl (fun ls hl => ?_)
              refine lv_iinc (v := v4 + 1) (lv' := [(4, .int (v4 + 1)), (3, .int (v3 + 0)), (0, .ref (ad 0)), (1, .int v1), (2, .int v2)]) hx hb dX7_loadOf_49 hl (k := 4) rfl rfl (by decide) rfl (fun ls hl => ?_)
              refine lv_goto (tgt := 5) hx hb dX7_loadOf_52 (by decide) ?_
              exact ih5 v1 v2 (v3 + 0) (v4 + 1) S hE _ _ _ hP hS (lv_sub hl [2, 3, 4, 1, 0] rfl)
          · refine lv_iconst (v := 0) hx hb dX7_loadOf_46 (by decide) ?_
            refine lv_iadd hx hb dX7_loadOf_47 ?_
            refine lv_istore_n (lv' := [(3, .int (v3 + 0)), (0, .ref (ad 0)), (1, .int v1), (2, .int v2), (4, .int v4)]) hx hb dX7_loadOf_48 rfl hl (by decide) rfl (fun ls hl => ?_)
            refine lv_iinc (v := v4 + 1) (lv' := [(4, .int (v4 + 1)), (3, .int (v3 + 0)), (0, .ref (ad 0)), (1, .int v1), (2, .int v2)]) hx hb dX7_loadOf_49 hl (k := 4) rfl rfl (by decide) rfl (fun ls hl => ?_)
            refine lv_goto (tgt := 5) hx hb dX7_loadOf_52 (by decide) ?_
            exact ih5 v1 v2 (v3 + 0) (v4 + 1) S hE _ _ _ hP hS (lv_sub hl [2, 3, 4, 1, 0] rfl)
  unfold f7_loadOf at hE
  refine lv_iconst (v := 0) hx hb dX7_loadOf_0 (by decide) ?_
  refine lv_istore_n (lv' := [(3, .int 0), (0, .ref (ad 0)), (1, .int v1), (2, .int v2)]) hx hb dX7_loadOf_1 rfl hl (by decide) rfl (fun ls hl => ?_)
  refine lv_iconst (v := 0) hx hb dX7_loadOf_2 (by decide) ?_
  refine lv_istore (lv' := [(4, .int 0), (3, .int 0), (0, .ref (ad 0)), (1, .int v1), (2, .int v2)]) hx hb dX7_loadOf_3 hl (by decide) rfl (fun ls hl => ?_)
  exact H5 2000 v1 v2 0 0 S hE _ _ _ hP hS (lv_sub hl [2, 3, 4, 1, 0] rfl)
theorem iX7_has_X7 : ∀ w ∈ wsX70, w ∈ wsX7_has := fun w h => List.mem_cons_of_mem _ (List.mem_append_right _ h)
set_option maxHeartbeats 4000000 in
set_option maxRecDepth 100000 in
theorem kX7_has (l : Launch) (D : va_G) (ad : Nat → Nat) (cI cZ : ClassId) (hDD : ∀ S, va_D (mA ad) (mW ad cI cZ S)) (S : St) (v1 : Int32) (v2 : Int32) (v3 : Int32) (v4 : Int32) : ∀ So ro, f7_has S v1 v2 v3 v4 = some (So, ro) → Met l yX7_has wsX7_has { frames := 0, cells := 0, slots := 0, locals := 0 } (va_Pc [.ref (ad 0), .int v1, .int v2, .int v3, .int v4] (kPre D cI cZ (mW ad cI cZ S))) (kQi D cI cZ (mA ad) (mW ad cI cZ So) ro) 0 0 (mA ad) := by
  intro So ro hE
  refine kMet_of (by decide) rfl (Nat.le_of_ble_eq_true rfl) ?_
  intro p e s m args below meth c ls hx hb hr hml hown hlk hts hK hP hS hl
  have hl : lv_has ls 7 [(0, .ref (ad 0)), (1, .int v1), (2, .int v2), (3, .int v3), (4, .int v4)] := hl
  have hown : s.vm.findClass RX7 = some m.cls := hown
  have H6 : ∀ (n6 : Nat) (v1 : Int32) (v2 : Int32) (v3 : Int32) (v4 : Int32) (v5 : Int32) (v6 : Int32) (S : St), f7_has_L6  n6 v1 v2 v3 v4 v5 v6 S = some (So, ro) → ∀ (H : Heap) (locs : List Loc) (ls : Array Slot), va_P D vwCl (mW ad cI cZ S) H → va_S (mA ad) s.heap H locs → lv_has ls 7 [(0, .ref (ad 0)), (1, .int v1), (2, .int v2), (3, .int v3), (4, .int v4), (5, .int v5), (6, .int v6)] → W p l e (headSpec wsX7_has { frames := 0, cells := 0, slots := 0, locals := 0 }).room s m args below meth c H locs 0 0 (MQ below (kQi D cI cZ (mA ad) (mW ad cI cZ So) ro) args s 0 0 (mA ad)) (F0 m 6 ls []) := by
    intro n6
    induction n6 with
    | zero => intro v1 v2 v3 v4 v5 v6 S hE; exact absurd (show (none : Option (St × Int32)) = some (So, ro) from hE) (fun h => nomatch h)
    | succ n6 ih6 =>
      intro v1 v2 v3 v4 v5 v6 S hE H locs ls hP hS hl
      have hE : f7_has_L6b  (f7_has_L6 n6) v1 v2 v3 v4 v5 v6 S = some (So, ro) := hE
      unfold f7_has_L6b at hE
      refine lv_iload hx hb dX7_has_6 (lv_at hl 6 rfl) ?_
      refine lv_iload hx hb dX7_has_8 (lv_at hl 4 rfl) ?_
      refine r_icmp_ge (tgt := 69) hx hb dX7_has_10 (by decide) hE (fun c1 hE => ?_) (fun c1 hE => ?_)
      · refine lv_iload hx hb dX7_has_69 (lv_at hl 5 rfl) ?_
        exact k_bret (Wd := mW ad cI cZ) hx hb hr hlk hK hP hS hE dX7_has_71
      · refine lv_iload hx hb dX7_has_13 (lv_at hl 5 rfl) ?_
        refine r_if_ne (tgt := 56) hx hb dX7_has_15 (by decide) hE (fun c2 hE => ?_) (fun c2 hE => ?_)
        · refine lv_iload hx hb dX7_has_18 (lv_at hl 6 rfl) ?_
          refine lv_iload_n hx hb dX7_has_20 rfl (lv_at hl 3 rfl) ?_
          refine r_icmp_eq (tgt := 60) hx hb dX7_has_21 (by decide) hE (fun c3 hE => ?_) (fun c3 hE => ?_)
          · refine lv_iconst (v := 0) hx hb dX7_has_60 (by decide) ?_
            refine lv_istore (lv' := [(5, .int 0), (0, .ref (ad 0)), (1, .int v1), (2, .int v2), (3, .int v3), (4, .int v4), (6, .int v6)]) hx hb dX7_has_61 hl (by decide) rfl (fun ls hl => ?_)
            refine lv_iinc (v := v6 + 1) (lv' := [(6, .int (v6 + 1)), (5, .int 0), (0, .ref (ad 0)), (1, .int v1), (2, .int v2), (3, .int v3), (4, .int v4)]) hx hb dX7_has_63 hl (k := 6) rfl rfl (by decide) rfl (fun ls hl => ?_)
            refine lv_goto (tgt := 6) hx hb dX7_has_66 (by decide) ?_
            exact ih6 v1 v2 v3 v4 0 (v6 + 1) S hE _ _ _ hP hS (lv_sub hl [2, 3, 4, 5, 6, 1, 0] rfl)
          · refine lv_aload_n hx hb dX7_has_24 rfl (lv_at hl 0 rfl) ?_
            refine va_get (D := D) (ci := 6) (v := .ref (ad 10)) (C := RX7) (T := TX7) (N := 25) hx hb hts iX7_has_X7 hown hK.1 hP 0 rfl rfl 16 (by decide) (hts (.fieldLink RX7 41 "BumpheraldModel" "state" "[I") (List.mem_of_getElem? (i := 1) rfl)) (fun _ h9 => h9) rfl dX7_has_25 ?_
            refine lv_iload hx hb dX7_has_28 (lv_at hl 6 rfl) ?_
            refine r_iald (Wd := mW ad cI cZ) (k := 9) (n := 40) hx hb hK hP 10 rfl hE dX7_has_30 (fun x4 hE => ?_)
            refine r_if_ne (tgt := 60) hx hb dX7_has_31 (by decide) hE (fun c5 hE => ?_) (fun c5 hE => ?_)
            · refine lv_aload_n hx hb dX7_has_34 rfl (lv_at hl 0 rfl) ?_
              refine va_get (D := D) (ci := 6) (v := .ref (ad 15)) (C := RX7) (T := TX7) (N := 25) hx hb hts iX7_has_X7 hown hK.1 hP 0 rfl rfl 21 (by decide) (hts (.fieldLink RX7 56 "BumpheraldModel" "group" "[I") (List.mem_of_getElem? (i := 2) rfl)) (fun _ h9 => h9) rfl dX7_has_35 ?_
              refine lv_iload hx hb dX7_has_38 (lv_at hl 6 rfl) ?_
              refine r_iald (Wd := mW ad cI cZ) (k := 14) (n := 40) hx hb hK hP 15 rfl hE dX7_has_40 (fun x6 hE => ?_)
              refine lv_iload_n hx hb dX7_has_41 rfl (lv_at hl 2 rfl) ?_
              refine r_icmp_ne (tgt := 60) hx hb dX7_has_42 (by decide) hE (fun c7 hE => ?_) (fun c7 hE => ?_)
              · refine lv_aload_n hx hb dX7_has_45 rfl (lv_at hl 0 rfl) ?_
                refine va_get (D := D) (ci := 6) (v := .ref (ad 16)) (C := RX7) (T := TX7) (N := 25) hx hb hts iX7_has_X7 hown hK.1 hP 0 rfl rfl 22 (by decide) (hts (.fieldLink RX7 59 "BumpheraldModel" "reviewer" "[I") (List.mem_of_getElem? (i := 3) rfl)) (fun _ h9 => h9) rfl dX7_has_46 ?_
                refine lv_iload hx hb dX7_has_49 (lv_at hl 6 rfl) ?_
                refine r_iald (Wd := mW ad cI cZ) (k := 15) (n := 40) hx hb hK hP 16 rfl hE dX7_has_51 (fun x8 hE => ?_)
                refine lv_iload_n hx hb dX7_has_52 rfl (lv_at hl 1 rfl) ?_
                refine r_icmp_ne (tgt := 60) hx hb dX7_has_53 (by decide) hE (fun c9 hE => ?_) (fun c9 hE => ?_)
                · refine lv_iconst (v := 1) hx hb dX7_has_56 (by decide) ?_
                  refine lv_goto (tgt := 61) hx hb dX7_has_57 (by decide) ?_
                  refine lv_istore (lv' := [(5, .int 1), (0, .ref (ad 0)), (1, .int v1), (2, .int v2), (3, .int v3), (4, .int v4), (6, .int v6)]) hx hb dX7_has_61 hl (by decide) rfl (fun ls hl => ?_)
                  refine lv_iinc (v := v6 + 1) (lv' := [(6, .int (v6 + 1)), (5, .int 1), (0, .ref (ad 0)), (1, .int v1), (2, .int v2), (3, .int v3), (4, .int v4)]) hx hb dX7_has_63 hl (k := 6) rfl rfl (by decide) rfl (fun ls hl => ?_)
                  refine lv_goto (tgt := 6) hx hb dX7_has_66 (by decide) ?_
                  exact ih6 v1 v2 v3 v4 1 (v6 + 1) S hE _ _ _ hP hS (lv_sub hl [2, 3, 4, 5, 6, 1, 0] rfl)
                · refine lv_iconst (v := 0) hx hb dX7_has_60 (by decide) ?_
                  refine lv_istore (lv' := [(5, .int 0), (0, .ref (ad 0)), (1, .int v1), (2, .int v2), (3, .int v3), (4, .int v4), (6, .int v6)]) hx hb dX7_has_61 hl (by decide) rfl (fun ls hl => ?_)
                  refine lv_iinc (v := v6 + 1) (lv' := [(6, .int (v6 + 1)), (5, .int 0), (0, .ref (ad 0)), (1, .int v1), (2, .int v2), (3, .int v3), (4, .int v4)]) hx hb dX7_has_63 hl (k := 6) rfl rfl (by decide) rfl (fun ls hl => ?_)
                  refine lv_goto (tgt := 6) hx hb dX7_has_66 (by decide) ?_
                  exact ih6 v1 v2 v3 v4 0 (v6 + 1) S hE _ _ _ hP hS (lv_sub hl [2, 3, 4, 5, 6, 1, 0] rfl)
              · refine lv_iconst (v := 0) hx hb dX7_has_60 (by decide) ?_
                refine lv_istore (lv' := [(5, .int 0), (0, .ref (ad 0)), (1, .int v1), (2, .int v2), (3, .int v3), (4, .int v4), (6, .int v6)]) hx hb dX7_has_61 hl (by decide) rfl (fun ls hl => ?_)
                refine lv_iinc (v := v6 + 1) (lv' := [(6, .int (v6 + 1)), (5, .int 0), (0, .ref (ad 0)), (1, .int v1), (2, .int v2), (3, .int v3), (4, .int v4)]) hx hb dX7_has_63 hl (k := 6) rfl rfl (by decide) rfl (fun ls hl => ?_)
                refine lv_goto (tgt := 6) hx hb dX7_has_66 (by decide) ?_
                exact ih6 v1 v2 v3 v4 0 (v6 + 1) S hE _ _ _ hP hS (lv_sub hl [2, 3, 4, 5, 6, 1, 0] rfl)
            · refine lv_iconst (v := 0) hx hb dX7_has_60 (by decide) ?_
              refine lv_istore (lv' := [(5, .int 0), (0, .ref (ad 0)), (1, .int v1), (2, .int v2), (3, .int v3), (4, .int v4), (6, .int v6)]) hx hb dX7_has_61 hl (by decide) rfl (fun ls hl => ?_)
              refine lv_iinc (v := v6 + 1) (lv' := [(6, .int (v6 + 1)), (5, .int 0), (0, .ref (ad 0)), (1, .int v1), (2, .int v2), (3, .int v3), (4, .int v4)]) hx hb dX7_has_63 hl (k := 6) rfl rfl (by decide) rfl (fun ls hl => ?_)
              refine lv_goto (tgt := 6) hx hb dX7_has_66 (by decide) ?_
              exact ih6 v1 v2 v3 v4 0 (v6 + 1) S hE _ _ _ hP hS (lv_sub hl [2, 3, 4, 5, 6, 1, 0] rfl)
        · refine lv_iconst (v := 1) hx hb dX7_has_56 (by decide) ?_
          refine lv_goto (tgt := 61) hx hb dX7_has_57 (by decide) ?_
          refine lv_istore (lv' := [(5, .int 1), (0, .ref (ad 0)), (1, .int v1), (2, .int v2), (3, .int v3), (4, .int v4), (6, .int v6)]) hx hb dX7_has_61 hl (by decide) rfl (fun ls hl => ?_)
          refine lv_iinc (v := v6 + 1) (lv' := [(6, .int (v6 + 1)), (5, .int 1), (0, .ref (ad 0)), (1, .int v1), (2, .int v2), (3, .int v3), (4, .int v4)]) hx hb dX7_has_63 hl (k := 6) rfl rfl (by decide) rfl (fun ls hl => ?_)
          refine lv_goto (tgt := 6) hx hb dX7_has_66 (by decide) ?_
          exact ih6 v1 v2 v3 v4 1 (v6 + 1) S hE _ _ _ hP hS (lv_sub hl [2, 3, 4, 5, 6, 1, 0] rfl)
  unfold f7_has at hE
  refine lv_iconst (v := 0) hx hb dX7_has_0 (by decide) ?_
  refine lv_istore (lv' := [(5, .int 0), (0, .ref (ad 0)), (1, .int v1), (2, .int v2), (3, .int v3), (4, .int v4)]) hx hb dX7_has_1 hl (by decide) rfl (fun ls hl => ?_)
  refine lv_iconst (v := 0) hx hb dX7_has_3 (by decide) ?_
  refine lv_istore (lv' := [(6, .int 0), (5, .int 0), (0, .ref (ad 0)), (1, .int v1), (2, .int v2), (3, .int v3), (4, .int v4)]) hx hb dX7_has_4 hl (by decide) rfl (fun ls hl => ?_)
  exact H6 2000 v1 v2 v3 v4 0 0 S hE _ _ _ hP hS (lv_sub hl [2, 3, 4, 5, 6, 1, 0] rfl)
theorem iX7_give_X7 : ∀ w ∈ wsX70, w ∈ wsX7_give := fun w h => List.mem_cons_of_mem _ (List.mem_append_right _ h)
set_option maxHeartbeats 4000000 in
set_option maxRecDepth 100000 in
theorem kX7_give (l : Launch) (D : va_G) (ad : Nat → Nat) (cI cZ : ClassId) (hDD : ∀ S, va_D (mA ad) (mW ad cI cZ S)) (S : St) (v1 : Int32) : ∀ So, f7_give S v1 = some So → Met l yX7_give wsX7_give { frames := 1, cells := 0, slots := 0, locals := 26 } (va_Pc [.ref (ad 0), .int v1] (kPre D cI cZ (mW ad cI cZ S))) (kQv D cI cZ (mA ad) (mW ad cI cZ So)) 0 0 (mA ad) := by
  intro So hE
  refine kMet_of (by decide) rfl (Nat.le_of_ble_eq_true rfl) ?_
  intro p e s m args below meth c ls hx hb hr hml hown hlk hts hK hP hS hl
  have hl : lv_has ls 6 [(0, .ref (ad 0)), (1, .int v1)] := hl
  have hown : s.vm.findClass RX7 = some m.cls := hown
  have H2 : ∀ (n2 : Nat) (v1 : Int32) (v2 : Int32) (S : St), f7_give_L2  n2 v1 v2 S = some So → ∀ (H : Heap) (locs : List Loc) (ls : Array Slot), va_P D vwCl (mW ad cI cZ S) H → va_S (mA ad) s.heap H locs → lv_has ls 6 [(0, .ref (ad 0)), (1, .int v1), (2, .int v2)] → W p l e (headSpec wsX7_give { frames := 1, cells := 0, slots := 0, locals := 26 }).room s m args below meth c H locs 0 0 (MQ below (kQv D cI cZ (mA ad) (mW ad cI cZ So)) args s 0 0 (mA ad)) (F0 m 2 ls []) := by
    intro n2
    induction n2 with
    | zero => intro v1 v2 S hE; exact absurd (show (none : Option (St)) = some So from hE) (fun h => nomatch h)
    | succ n2 ih2 =>
      have H60 : ∀ (n60 : Nat) (v1 : Int32) (v2 : Int32) (v3 : Int32) (v4 : Int32) (S : St), f7_give_L60 (f7_give_L2 n2) n60 v1 v2 v3 v4 S = some So → ∀ (H : Heap) (locs : List Loc) (ls : Array Slot), va_P D vwCl (mW ad cI cZ S) H → va_S (mA ad) s.heap H locs → lv_has ls 6 [(0, .ref (ad 0)), (1, .int v1), (2, .int v2), (3, .int v3), (4, .int v4)] → W p l e (headSpec wsX7_give { frames := 1, cells := 0, slots := 0, locals := 26 }).room s m args below meth c H locs 0 0 (MQ below (kQv D cI cZ (mA ad) (mW ad cI cZ So)) args s 0 0 (mA ad)) (F0 m 60 ls []) := by
        intro n60
        induction n60 with
        | zero => intro v1 v2 v3 v4 S hE; exact absurd (show (none : Option (St)) = some So from hE) (fun h => nomatch h)
        | succ n60 ih60 =>
          have H103 : ∀ (v1 : Int32) (v2 : Int32) (v3 : Int32) (v4 : Int32) (t0 : Int32) (S : St), f7_give_J103 (f7_give_L2 n2) (f7_give_L60 (f7_give_L2 n2) n60) v1 v2 v3 v4 t0 S = some So → ∀ (H : Heap) (locs : List Loc) (ls : Array Slot), va_P D vwCl (mW ad cI cZ S) H → va_S (mA ad) s.heap H locs → lv_has ls 6 [(0, .ref (ad 0)), (1, .int v1), (2, .int v2), (3, .int v3), (4, .int v4)] → W p l e (headSpec wsX7_give { frames := 1, cells := 0, slots := 0, locals := 26 }).room s m args below meth c H locs 0 0 (MQ below (kQv D cI cZ (mA ad) (mW ad cI cZ So)) args s 0 0 (mA ad)) (F0 m 103 ls [.int t0]) := by
            intro v1 v2 v3 v4 t0 S hE H locs ls hP hS hl
            unfold f7_give_J103 at hE
            refine lv_istore (lv' := [(5, .int t0), (0, .ref (ad 0)), (1, .int v1), (2, .int v2), (3, .int v3), (4, .int v4)]) hx hb dX7_give_103 hl (by decide) rfl (fun ls hl => ?_)
            refine lv_iload hx hb dX7_give_105 (lv_at hl 0 rfl) ?_
            refine r_if_eq (tgt := 136) hx hb dX7_give_107 (by decide) hE (fun c1 hE => ?_) (fun c1 hE => ?_)
            · refine lv_iload_n hx hb dX7_give_136 rfl (lv_at hl 4 rfl) ?_
              refine lv_istore_n (lv' := [(3, .int v3), (5, .int t0), (0, .ref (ad 0)), (1, .int v1), (2, .int v2), (4, .int v4)]) hx hb dX7_give_137 rfl hl (by decide) rfl (fun ls hl => ?_)
              refine lv_iinc (v := v4 + 1) (lv' := [(4, .int (v4 + 1)), (3, .int v3), (5, .int t0), (0, .ref (ad 0)), (1, .int v1), (2, .int v2)]) hx hb dX7_give_138 hl (k := 5) rfl rfl (by decide) rfl (fun ls hl => ?_)
              refine lv_goto (tgt := 60) hx hb dX7_give_141 (by decide) ?_
              exact ih60 v1 v2 v3 (v4 + 1) S hE _ _ _ hP hS (lv_sub hl [3, 4, 5, 1, 0] rfl)
            · refine lv_iload_n hx hb dX7_give_110 rfl (lv_at hl 4 rfl) ?_
              refine lv_iconst (v := -1) hx hb dX7_give_111 (by decide) ?_
              refine r_icmp_eq (tgt := 131) hx hb dX7_give_112 (by decide) hE (fun c2 hE => ?_) (fun c2 hE => ?_)
              · refine lv_iload hx hb dX7_give_131 (lv_at hl 5 rfl) ?_
                refine lv_goto (tgt := 137) hx hb dX7_give_133 (by decide) ?_
                refine lv_istore_n (lv' := [(3, .int v4), (5, .int t0), (0, .ref (ad 0)), (1, .int v1), (2, .int v2), (4, .int v4)]) hx hb dX7_give_137 rfl hl (by decide) rfl (fun ls hl => ?_)
                refine lv_iinc (v := v4 + 1) (lv' := [(4, .int (v4 + 1)), (3, .int v4), (5, .int t0), (0, .ref (ad 0)), (1, .int v1), (2, .int v2)]) hx hb dX7_give_138 hl (k := 5) rfl rfl (by decide) rfl (fun ls hl => ?_)
                refine lv_goto (tgt := 60) hx hb dX7_give_141 (by decide) ?_
                exact ih60 v1 v2 v4 (v4 + 1) S hE _ _ _ hP hS (lv_sub hl [3, 4, 5, 1, 0] rfl)
              · refine lv_aload_n hx hb dX7_give_115 rfl (lv_at hl 1 rfl) ?_
                refine lv_iload hx hb dX7_give_116 (lv_at hl 5 rfl) ?_
                refine lv_iload_n hx hb dX7_give_118 rfl (lv_at hl 3 rfl) ?_
                refine r_callVi (Wd := mW ad cI cZ) (C := RX7) [.int v4, .int v2] [] ⟨hx, hb, hml, hown, hts⟩ (kX7_loadOf l D ad cI cZ hDD S v4 v2) (cwV 2 hts gX7_give_X7_loadOf rfl rfl rfl (by decide +kernel) ⟨Nat.le_of_ble_eq_true rfl, Nat.le_of_ble_eq_true rfl⟩) (va_recv hK.1 hP (ci := 6) (q0 := 0) rfl rfl) hK hP hS (fun _ h9 => h9) rfl hl.1 rfl (Nat.le_of_ble_eq_true rfl) ⟨Nat.zero_le _, Nat.zero_le _⟩ hE dX7_give_119 (fun S4 x3 H locs hE hP hS => ?_)
                refine lv_aload_n hx hb dX7_give_122 rfl (lv_at hl 1 rfl) ?_
                refine lv_iload_n hx hb dX7_give_123 rfl (lv_at hl 4 rfl) ?_
                refine lv_iload_n hx hb dX7_give_124 rfl (lv_at hl 3 rfl) ?_
                refine r_callVi (Wd := mW ad cI cZ) (C := RX7) [.int v3, .int v2] [.int x3] ⟨hx, hb, hml, hown, hts⟩ (kX7_loadOf l D ad cI cZ hDD S4 v3 v2) (cwV 2 hts gX7_give_X7_loadOf rfl rfl rfl (by decide +kernel) ⟨Nat.le_of_ble_eq_true rfl, Nat.le_of_ble_eq_true rfl⟩) (va_recv hK.1 hP (ci := 6) (q0 := 0) rfl rfl) hK hP hS (fun _ h9 => h9) rfl hl.1 rfl (Nat.le_of_ble_eq_true rfl) ⟨Nat.zero_le _, Nat.zero_le _⟩ hE dX7_give_125 (fun S6 x5 H locs hE hP hS => ?_)
                refine r_icmp_ge (tgt := 136) hx hb dX7_give_128 (by decide) hE (fun c7 hE => ?_) (fun c7 hE => ?_)
                · refine lv_iload_n hx hb dX7_give_136 rfl (lv_at hl 4 rfl) ?_
                  refine lv_istore_n (lv' := [(3, .int v3), (5, .int t0), (0, .ref (ad 0)), (1, .int v1), (2, .int v2), (4, .int v4)]) hx hb dX7_give_137 rfl hl (by decide) rfl (fun ls hl => ?_)
                  refine lv_iinc (v := v4 + 1) (lv' := [(4, .int (v4 + 1)), (3, .int v3), (5, .int t0), (0, .ref (ad 0)), (1, .int v1), (2, .int v2)]) hx hb dX7_give_138 hl (k := 5) rfl rfl (by decide) rfl (fun ls hl => ?_)
                  refine lv_goto (tgt := 60) hx hb dX7_give_141 (by decide) ?_
                  exact ih60 v1 v2 v3 (v4 + 1) S6 hE _ _ _ hP hS (lv_sub hl [3, 4, 5, 1, 0] rfl)
                · refine lv_iload hx hb dX7_give_131 (lv_at hl 5 rfl) ?_
                  refine lv_goto (tgt := 137) hx hb dX7_give_133 (by decide) ?_
                  refine lv_istore_n (lv' := [(3, .int v4), (5, .int t0), (0, .ref (ad 0)), (1, .int v1), (2, .int v2), (4, .int v4)]) hx hb dX7_give_137 rfl hl (by decide) rfl (fun ls hl => ?_)
                  refine lv_iinc (v := v4 + 1) (lv' := [(4, .int (v4 + 1)), (3, .int v4), (5, .int t0), (0, .ref (ad 0)), (1, .int v1), (2, .int v2)]) hx hb dX7_give_138 hl (k := 5) rfl rfl (by decide) rfl (fun ls hl => ?_)
                  refine lv_goto (tgt := 60) hx hb dX7_give_141 (by decide) ?_
                  exact ih60 v1 v2 v4 (v4 + 1) S6 hE _ _ _ hP hS (lv_sub hl [3, 4, 5, 1, 0] rfl)
          have H102 : ∀ (v1 : Int32) (v2 : Int32) (v3 : Int32) (v4 : Int32) (S : St), f7_give_J102 (f7_give_L2 n2) (f7_give_L60 (f7_give_L2 n2) n60) v1 v2 v3 v4 S = some So → ∀ (H : Heap) (locs : List Loc) (ls : Array Slot), va_P D vwCl (mW ad cI cZ S) H → va_S (mA ad) s.heap H locs → lv_has ls 6 [(0, .ref (ad 0)), (1, .int v1), (2, .int v2), (3, .int v3), (4, .int v4)] → W p l e (headSpec wsX7_give { frames := 1, cells := 0, slots := 0, locals := 26 }).room s m args below meth c H locs 0 0 (MQ below (kQv D cI cZ (mA ad) (mW ad cI cZ So)) args s 0 0 (mA ad)) (F0 m 102 ls []) := by
            intro v1 v2 v3 v4 S hE H locs ls hP hS hl
            unfold f7_give_J102 at hE
            refine lv_iconst (v := 0) hx hb dX7_give_102 (by decide) ?_
            exact H103 v1 v2 v3 v4 0 S hE _ _ _ hP hS (lv_sub hl [0, 1, 2, 3, 4] rfl)
          intro v1 v2 v3 v4 S hE H locs ls hP hS hl
          have hE : f7_give_L60b (f7_give_L2 n2) (f7_give_L60 (f7_give_L2 n2) n60) v1 v2 v3 v4 S = some So := hE
          unfold f7_give_L60b at hE
          refine lv_iload hx hb dX7_give_60 (lv_at hl 4 rfl) ?_
          refine lv_bipush (v := 6) hx hb dX7_give_62 (by decide) ?_
          refine r_icmp_ge (tgt := 144) hx hb dX7_give_64 (by decide) hE (fun c10 hE => ?_) (fun c10 hE => ?_)
          · refine lv_aload_n hx hb dX7_give_144 rfl (lv_at hl 0 rfl) ?_
            refine va_get (D := D) (ci := 6) (v := .ref (ad 17)) (C := RX7) (T := TX7) (N := 25) hx hb hts iX7_give_X7 hown hK.1 hP 0 rfl rfl 23 (by decide) (hts (.fieldLink RX7 62 "BumpheraldModel" "isApproved" "[Z") (List.mem_of_getElem? (i := 7) rfl)) (fun _ h9 => h9) rfl dX7_give_145 ?_
            refine lv_iload_n hx hb dX7_give_148 rfl (lv_at hl 2 rfl) ?_
            refine lv_aload_n hx hb dX7_give_149 rfl (lv_at hl 0 rfl) ?_
            refine va_get (D := D) (ci := 6) (v := .ref (ad 17)) (C := RX7) (T := TX7) (N := 25) hx hb hts iX7_give_X7 hown hK.1 hP 0 rfl rfl 23 (by decide) (hts (.fieldLink RX7 62 "BumpheraldModel" "isApproved" "[Z") (List.mem_of_getElem? (i := 7) rfl)) (fun _ h9 => h9) rfl dX7_give_150 ?_
            refine lv_iload_n hx hb dX7_give_153 rfl (lv_at hl 2 rfl) ?_
            refine r_zald (Wd := mW ad cI cZ) (k := 16) (n := 40) hx hb hK hP 17 rfl hE dX7_give_154 (fun x11 hE => ?_)
            refine r_if_eq (tgt := 172) hx hb dX7_give_155 (by decide) hE (fun c12 hE => ?_) (fun c12 hE => ?_)
            · refine lv_iconst (v := 0) hx hb dX7_give_172 (by decide) ?_
              refine r_zast (Wd := mW ad cI cZ) (k := 16) (n := 40) hx hb hDD hK hP hS 17 rfl (mU16 ..) hE dX7_give_173 (fun S13 H locs hE hP hS => ?_)
              refine lv_aload_n hx hb dX7_give_174 rfl (lv_at hl 0 rfl) ?_
              refine va_get (D := D) (ci := 6) (v := .ref (ad 16)) (C := RX7) (T := TX7) (N := 25) hx hb hts iX7_give_X7 hown hK.1 hP 0 rfl rfl 22 (by decide) (hts (.fieldLink RX7 59 "BumpheraldModel" "reviewer" "[I") (List.mem_of_getElem? (i := 4) rfl)) (fun _ h9 => h9) rfl dX7_give_175 ?_
              refine lv_iload_n hx hb dX7_give_178 rfl (lv_at hl 2 rfl) ?_
              refine lv_iload_n hx hb dX7_give_179 rfl (lv_at hl 3 rfl) ?_
              refine r_iast (Wd := mW ad cI cZ) (k := 15) (n := 40) hx hb hDD hK hP hS 16 rfl (mU15 ..) hE dX7_give_180 (fun S14 H locs hE hP hS => ?_)
              refine lv_iinc (v := v2 + 1) (lv' := [(2, .int (v2 + 1)), (0, .ref (ad 0)), (1, .int v1), (3, .int v3), (4, .int v4)]) hx hb dX7_give_181 hl (k := 2) rfl rfl (by decide) rfl (fun ls hl => ?_)
              refine lv_goto (tgt := 2) hx hb dX7_give_184 (by decide) ?_
              exact ih2 v1 (v2 + 1) S14 hE _ _ _ hP hS (lv_sub hl [1, 2, 0] rfl)
            · refine lv_aload_n hx hb dX7_give_158 rfl (lv_at hl 0 rfl) ?_
              refine va_get (D := D) (ci := 6) (v := .ref (ad 16)) (C := RX7) (T := TX7) (N := 25) hx hb hts iX7_give_X7 hown hK.1 hP 0 rfl rfl 22 (by decide) (hts (.fieldLink RX7 59 "BumpheraldModel" "reviewer" "[I") (List.mem_of_getElem? (i := 4) rfl)) (fun _ h9 => h9) rfl dX7_give_159 ?_
              refine lv_iload_n hx hb dX7_give_162 rfl (lv_at hl 2 rfl) ?_
              refine r_iald (Wd := mW ad cI cZ) (k := 15) (n := 40) hx hb hK hP 16 rfl hE dX7_give_163 (fun x15 hE => ?_)
              refine lv_iload_n hx hb dX7_give_164 rfl (lv_at hl 3 rfl) ?_
              refine r_icmp_ne (tgt := 172) hx hb dX7_give_165 (by decide) hE (fun c16 hE => ?_) (fun c16 hE => ?_)
              · refine lv_iconst (v := 1) hx hb dX7_give_168 (by decide) ?_
                refine lv_goto (tgt := 173) hx hb dX7_give_169 (by decide) ?_
                refine r_zast (Wd := mW ad cI cZ) (k := 16) (n := 40) hx hb hDD hK hP hS 17 rfl (mU16 ..) hE dX7_give_173 (fun S17 H locs hE hP hS => ?_)
                refine lv_aload_n hx hb dX7_give_174 rfl (lv_at hl 0 rfl) ?_
                refine va_get (D := D) (ci := 6) (v := .ref (ad 16)) (C := RX7) (T := TX7) (N := 25) hx hb hts iX7_give_X7 hown hK.1 hP 0 rfl rfl 22 (by decide) (hts (.fieldLink RX7 59 "BumpheraldModel" "reviewer" "[I") (List.mem_of_getElem? (i := 4) rfl)) (fun _ h9 => h9) rfl dX7_give_175 ?_
                refine lv_iload_n hx hb dX7_give_178 rfl (lv_at hl 2 rfl) ?_
                refine lv_iload_n hx hb dX7_give_179 rfl (lv_at hl 3 rfl) ?_
                refine r_iast (Wd := mW ad cI cZ) (k := 15) (n := 40) hx hb hDD hK hP hS 16 rfl (mU15 ..) hE dX7_give_180 (fun S18 H locs hE hP hS => ?_)
                refine lv_iinc (v := v2 + 1) (lv' := [(2, .int (v2 + 1)), (0, .ref (ad 0)), (1, .int v1), (3, .int v3), (4, .int v4)]) hx hb dX7_give_181 hl (k := 2) rfl rfl (by decide) rfl (fun ls hl => ?_)
                refine lv_goto (tgt := 2) hx hb dX7_give_184 (by decide) ?_
                exact ih2 v1 (v2 + 1) S18 hE _ _ _ hP hS (lv_sub hl [1, 2, 0] rfl)
              · refine lv_iconst (v := 0) hx hb dX7_give_172 (by decide) ?_
                refine r_zast (Wd := mW ad cI cZ) (k := 16) (n := 40) hx hb hDD hK hP hS 17 rfl (mU16 ..) hE dX7_give_173 (fun S19 H locs hE hP hS => ?_)
                refine lv_aload_n hx hb dX7_give_174 rfl (lv_at hl 0 rfl) ?_
                refine va_get (D := D) (ci := 6) (v := .ref (ad 16)) (C := RX7) (T := TX7) (N := 25) hx hb hts iX7_give_X7 hown hK.1 hP 0 rfl rfl 22 (by decide) (hts (.fieldLink RX7 59 "BumpheraldModel" "reviewer" "[I") (List.mem_of_getElem? (i := 4) rfl)) (fun _ h9 => h9) rfl dX7_give_175 ?_
                refine lv_iload_n hx hb dX7_give_178 rfl (lv_at hl 2 rfl) ?_
                refine lv_iload_n hx hb dX7_give_179 rfl (lv_at hl 3 rfl) ?_
                refine r_iast (Wd := mW ad cI cZ) (k := 15) (n := 40) hx hb hDD hK hP hS 16 rfl (mU15 ..) hE dX7_give_180 (fun S20 H locs hE hP hS => ?_)
                refine lv_iinc (v := v2 + 1) (lv' := [(2, .int (v2 + 1)), (0, .ref (ad 0)), (1, .int v1), (3, .int v3), (4, .int v4)]) hx hb dX7_give_181 hl (k := 2) rfl rfl (by decide) rfl (fun ls hl => ?_)
                refine lv_goto (tgt := 2) hx hb dX7_give_184 (by decide) ?_
                exact ih2 v1 (v2 + 1) S20 hE _ _ _ hP hS (lv_sub hl [1, 2, 0] rfl)
          · refine lv_aload_n hx hb dX7_give_67 rfl (lv_at hl 0 rfl) ?_
            refine va_get (D := D) (ci := 6) (v := .ref (ad 6)) (C := RX7) (T := TX7) (N := 25) hx hb hts iX7_give_X7 hown hK.1 hP 0 rfl rfl 9 (by decide) (hts (.fieldLink RX7 25 "BumpheraldModel" "trusts" "[I") (List.mem_of_getElem? (i := 5) rfl)) (fun _ h9 => h9) rfl dX7_give_68 ?_
            refine lv_iload hx hb dX7_give_71 (lv_at hl 4 rfl) ?_
            refine r_iald (Wd := mW ad cI cZ) (k := 5) (n := 6) hx hb hK hP 6 rfl hE dX7_give_73 (fun x21 hE => ?_)
            refine lv_aload_n hx hb dX7_give_74 rfl (lv_at hl 0 rfl) ?_
            refine va_get (D := D) (ci := 6) (v := .ref (ad 13)) (C := RX7) (T := TX7) (N := 25) hx hb hts iX7_give_X7 hown hK.1 hP 0 rfl rfl 19 (by decide) (hts (.fieldLink RX7 50 "BumpheraldModel" "risk" "[I") (List.mem_of_getElem? (i := 6) rfl)) (fun _ h9 => h9) rfl dX7_give_75 ?_
            refine lv_iload_n hx hb dX7_give_78 rfl (lv_at hl 2 rfl) ?_
            refine r_iald (Wd := mW ad cI cZ) (k := 12) (n := 40) hx hb hK hP 13 rfl hE dX7_give_79 (fun x22 hE => ?_)
            refine r_icmp_lt (tgt := 102) hx hb dX7_give_80 (by decide) hE (fun c23 hE => ?_) (fun c23 hE => ?_)
            · exact H102 v1 v2 v3 v4 S hE _ _ _ hP hS (lv_sub hl [0, 1, 2, 3, 4] rfl)
            · refine lv_aload_n hx hb dX7_give_83 rfl (lv_at hl 0 rfl) ?_
              refine lv_iload hx hb dX7_give_84 (lv_at hl 4 rfl) ?_
              refine lv_iload_n hx hb dX7_give_86 rfl (lv_at hl 1 rfl) ?_
              refine lv_iload_n hx hb dX7_give_87 rfl (lv_at hl 2 rfl) ?_
              refine lv_aload_n hx hb dX7_give_88 rfl (lv_at hl 0 rfl) ?_
              refine va_get (D := D) (ci := 6) (v := .int (S.1 6)) (C := RX7) (T := TX7) (N := 25) hx hb hts iX7_give_X7 hown hK.1 hP 0 rfl rfl 15 (by decide) (hts (.fieldLink RX7 79 "BumpheraldModel" "raises" "I") (List.mem_of_getElem? (i := 1) rfl)) (fun _ h9 => h9) rfl dX7_give_89 ?_
              refine r_callVi (Wd := mW ad cI cZ) (C := RX7) [.int v4, .int v1, .int v2, .int (S.1 6)] [] ⟨hx, hb, hml, hown, hts⟩ (kX7_has l D ad cI cZ hDD S v4 v1 v2 (S.1 6)) (cwV 4 hts gX7_give_X7_has rfl rfl rfl (by decide +kernel) ⟨Nat.le_of_ble_eq_true rfl, Nat.le_of_ble_eq_true rfl⟩) (va_recv hK.1 hP (ci := 6) (q0 := 0) rfl rfl) hK hP hS (fun _ h9 => h9) rfl hl.1 rfl (Nat.le_of_ble_eq_true rfl) ⟨Nat.zero_le _, Nat.zero_le _⟩ hE dX7_give_92 (fun S25 x24 H locs hE hP hS => ?_)
              refine r_if_ne (tgt := 102) hx hb dX7_give_95 (by decide) hE (fun c26 hE => ?_) (fun c26 hE => ?_)
              · refine lv_iconst (v := 1) hx hb dX7_give_98 (by decide) ?_
                refine lv_goto (tgt := 103) hx hb dX7_give_99 (by decide) ?_
                exact H103 v1 v2 v3 v4 1 S25 hE _ _ _ hP hS (lv_sub hl [0, 1, 2, 3, 4] rfl)
              · exact H102 v1 v2 v3 v4 S25 hE _ _ _ hP hS (lv_sub hl [0, 1, 2, 3, 4] rfl)
      intro v1 v2 S hE H locs ls hP hS hl
      have hE : f7_give_L2b  (f7_give_L2 n2) v1 v2 S = some So := hE
      unfold f7_give_L2b at hE
      refine lv_iload_n hx hb dX7_give_2 rfl (lv_at hl 2 rfl) ?_
      refine lv_aload_n hx hb dX7_give_3 rfl (lv_at hl 0 rfl) ?_
      refine va_get (D := D) (ci := 6) (v := .int (S.1 6)) (C := RX7) (T := TX7) (N := 25) hx hb hts iX7_give_X7 hown hK.1 hP 0 rfl rfl 15 (by decide) (hts (.fieldLink RX7 79 "BumpheraldModel" "raises" "I") (List.mem_of_getElem? (i := 1) rfl)) (fun _ h9 => h9) rfl dX7_give_4 ?_
      refine r_icmp_ge (tgt := 187) hx hb dX7_give_7 (by decide) hE (fun c28 hE => ?_) (fun c28 hE => ?_)
      · exact k_vret (Wd := mW ad cI cZ) hx hb hr hlk hK hP hS hE dX7_give_187
      · refine lv_aload_n hx hb dX7_give_10 rfl (lv_at hl 0 rfl) ?_
        refine va_get (D := D) (ci := 6) (v := .ref (ad 10)) (C := RX7) (T := TX7) (N := 25) hx hb hts iX7_give_X7 hown hK.1 hP 0 rfl rfl 16 (by decide) (hts (.fieldLink RX7 41 "BumpheraldModel" "state" "[I") (List.mem_of_getElem? (i := 2) rfl)) (fun _ h9 => h9) rfl dX7_give_11 ?_
        refine lv_iload_n hx hb dX7_give_14 rfl (lv_at hl 2 rfl) ?_
        refine r_iald (Wd := mW ad cI cZ) (k := 9) (n := 40) hx hb hK hP 10 rfl hE dX7_give_15 (fun x29 hE => ?_)
        refine r_if_ne (tgt := 181) hx hb dX7_give_16 (by decide) hE (fun c30 hE => ?_) (fun c30 hE => ?_)
        · refine lv_aload_n hx hb dX7_give_19 rfl (lv_at hl 0 rfl) ?_
          refine va_get (D := D) (ci := 6) (v := .ref (ad 15)) (C := RX7) (T := TX7) (N := 25) hx hb hts iX7_give_X7 hown hK.1 hP 0 rfl rfl 21 (by decide) (hts (.fieldLink RX7 56 "BumpheraldModel" "group" "[I") (List.mem_of_getElem? (i := 3) rfl)) (fun _ h9 => h9) rfl dX7_give_20 ?_
          refine lv_iload_n hx hb dX7_give_23 rfl (lv_at hl 2 rfl) ?_
          refine r_iald (Wd := mW ad cI cZ) (k := 14) (n := 40) hx hb hK hP 15 rfl hE dX7_give_24 (fun x31 hE => ?_)
          refine lv_iload_n hx hb dX7_give_25 rfl (lv_at hl 1 rfl) ?_
          refine r_icmp_ne (tgt := 181) hx hb dX7_give_26 (by decide) hE (fun c32 hE => ?_) (fun c32 hE => ?_)
          · refine lv_aload_n hx hb dX7_give_29 rfl (lv_at hl 0 rfl) ?_
            refine va_get (D := D) (ci := 6) (v := .ref (ad 16)) (C := RX7) (T := TX7) (N := 25) hx hb hts iX7_give_X7 hown hK.1 hP 0 rfl rfl 22 (by decide) (hts (.fieldLink RX7 59 "BumpheraldModel" "reviewer" "[I") (List.mem_of_getElem? (i := 4) rfl)) (fun _ h9 => h9) rfl dX7_give_30 ?_
            refine lv_iload_n hx hb dX7_give_33 rfl (lv_at hl 2 rfl) ?_
            refine r_iald (Wd := mW ad cI cZ) (k := 15) (n := 40) hx hb hK hP 16 rfl hE dX7_give_34 (fun x33 hE => ?_)
            refine lv_iconst (v := -1) hx hb dX7_give_35 (by decide) ?_
            refine r_icmp_eq (tgt := 55) hx hb dX7_give_36 (by decide) hE (fun c34 hE => ?_) (fun c34 hE => ?_)
            · refine lv_iconst (v := -1) hx hb dX7_give_55 (by decide) ?_
              refine lv_istore_n (lv' := [(3, .int ((-1))), (0, .ref (ad 0)), (1, .int v1), (2, .int v2)]) hx hb dX7_give_56 rfl hl (by decide) rfl (fun ls hl => ?_)
              refine lv_iconst (v := 0) hx hb dX7_give_57 (by decide) ?_
              refine lv_istore (lv' := [(4, .int 0), (3, .int ((-1))), (0, .ref (ad 0)), (1, .int v1), (2, .int v2)]) hx hb dX7_give_58 hl (by decide) rfl (fun ls hl => ?_)
              exact H60 2000 v1 v2 ((-1)) 0 S hE _ _ _ hP hS (lv_sub hl [2, 3, 4, 1, 0] rfl)
            · refine lv_aload_n hx hb dX7_give_39 rfl (lv_at hl 0 rfl) ?_
              refine lv_aload_n hx hb dX7_give_40 rfl (lv_at hl 0 rfl) ?_
              refine va_get (D := D) (ci := 6) (v := .ref (ad 16)) (C := RX7) (T := TX7) (N := 25) hx hb hts iX7_give_X7 hown hK.1 hP 0 rfl rfl 22 (by decide) (hts (.fieldLink RX7 59 "BumpheraldModel" "reviewer" "[I") (List.mem_of_getElem? (i := 4) rfl)) (fun _ h9 => h9) rfl dX7_give_41 ?_
              refine lv_iload_n hx hb dX7_give_44 rfl (lv_at hl 2 rfl) ?_
              refine r_iald (Wd := mW ad cI cZ) (k := 15) (n := 40) hx hb hK hP 16 rfl hE dX7_give_45 (fun x35 hE => ?_)
              refine lv_iload_n hx hb dX7_give_46 rfl (lv_at hl 1 rfl) ?_
              refine lv_iload_n hx hb dX7_give_47 rfl (lv_at hl 2 rfl) ?_
              refine lv_iload_n hx hb dX7_give_48 rfl (lv_at hl 2 rfl) ?_
              refine r_callVi (Wd := mW ad cI cZ) (C := RX7) [.int x35, .int v1, .int v2, .int v2] [] ⟨hx, hb, hml, hown, hts⟩ (kX7_has l D ad cI cZ hDD S x35 v1 v2 v2) (cwV 4 hts gX7_give_X7_has rfl rfl rfl (by decide +kernel) ⟨Nat.le_of_ble_eq_true rfl, Nat.le_of_ble_eq_true rfl⟩) (va_recv hK.1 hP (ci := 6) (q0 := 0) rfl rfl) hK hP hS (fun _ h9 => h9) rfl hl.1 rfl (Nat.le_of_ble_eq_true rfl) ⟨Nat.zero_le _, Nat.zero_le _⟩ hE dX7_give_49 (fun S37 x36 H locs hE hP hS => ?_)
              refine r_if_eq (tgt := 181) hx hb dX7_give_52 (by decide) hE (fun c38 hE => ?_) (fun c38 hE => ?_)
              · refine lv_iinc (v := v2 + 1) (lv' := [(2, .int (v2 + 1)), (0, .ref (ad 0)), (1, .int v1)]) hx hb dX7_give_181 hl (k := 2) rfl rfl (by decide) rfl (fun ls hl => ?_)
                refine lv_goto (tgt := 2) hx hb dX7_give_184 (by decide) ?_
                exact ih2 v1 (v2 + 1) S37 hE _ _ _ hP hS (lv_sub hl [1, 2, 0] rfl)
              · refine lv_iconst (v := -1) hx hb dX7_give_55 (by decide) ?_
                refine lv_istore_n (lv' := [(3, .int ((-1))), (0, .ref (ad 0)), (1, .int v1), (2, .int v2)]) hx hb dX7_give_56 rfl hl (by decide) rfl (fun ls hl => ?_)
                refine lv_iconst (v := 0) hx hb dX7_give_57 (by decide) ?_
                refine lv_istore (lv' := [(4, .int 0), (3, .int ((-1))), (0, .ref (ad 0)), (1, .int v1), (2, .int v2)]) hx hb dX7_give_58 hl (by decide) rfl (fun ls hl => ?_)
                exact H60 2000 v1 v2 ((-1)) 0 S37 hE _ _ _ hP hS (lv_sub hl [2, 3, 4, 1, 0] rfl)
          · refine lv_iinc (v := v2 + 1) (lv' := [(2, .int (v2 + 1)), (0, .ref (ad 0)), (1, .int v1)]) hx hb dX7_give_181 hl (k := 2) rfl rfl (by decide) rfl (fun ls hl => ?_)
            refine lv_goto (tgt := 2) hx hb dX7_give_184 (by decide) ?_
            exact ih2 v1 (v2 + 1) S hE _ _ _ hP hS (lv_sub hl [1, 2, 0] rfl)
        · refine lv_iinc (v := v2 + 1) (lv' := [(2, .int (v2 + 1)), (0, .ref (ad 0)), (1, .int v1)]) hx hb dX7_give_181 hl (k := 2) rfl rfl (by decide) rfl (fun ls hl => ?_)
          refine lv_goto (tgt := 2) hx hb dX7_give_184 (by decide) ?_
          exact ih2 v1 (v2 + 1) S hE _ _ _ hP hS (lv_sub hl [1, 2, 0] rfl)
  unfold f7_give at hE
  refine lv_iconst (v := 0) hx hb dX7_give_0 (by decide) ?_
  refine lv_istore_n (lv' := [(2, .int 0), (0, .ref (ad 0)), (1, .int v1)]) hx hb dX7_give_1 rfl hl (by decide) rfl (fun ls hl => ?_)
  exact H2 2000 v1 0 S hE _ _ _ hP hS (lv_sub hl [1, 2, 0] rfl)
theorem iX7_settle_X7 : ∀ w ∈ wsX70, w ∈ wsX7_settle := fun w h => List.mem_cons_of_mem _ (List.mem_append_right _ h)
set_option maxHeartbeats 4000000 in
set_option maxRecDepth 100000 in
theorem kX7_settle (l : Launch) (D : va_G) (ad : Nat → Nat) (cI cZ : ClassId) (hDD : ∀ S, va_D (mA ad) (mW ad cI cZ S)) (S : St) (v1 : Int32) : ∀ So, f7_settle S v1 = some So → Met l yX7_settle wsX7_settle { frames := 2, cells := 0, slots := 0, locals := 51 } (va_Pc [.ref (ad 0), .int v1] (kPre D cI cZ (mW ad cI cZ S))) (kQv D cI cZ (mA ad) (mW ad cI cZ So)) 0 0 (mA ad) := by
  intro So hE
  refine kMet_of (by decide) rfl (Nat.le_of_ble_eq_true rfl) ?_
  intro p e s m args below meth c ls hx hb hr hml hown hlk hts hK hP hS hl
  have hl : lv_has ls 4 [(0, .ref (ad 0)), (1, .int v1)] := hl
  have hown : s.vm.findClass RX7 = some m.cls := hown
  have H46 : ∀ (n46 : Nat) (v1 : Int32) (v2 : Int32) (v3 : Int32) (S : St), f7_settle_L46  n46 v1 v2 v3 S = some So → ∀ (H : Heap) (locs : List Loc) (ls : Array Slot), va_P D vwCl (mW ad cI cZ S) H → va_S (mA ad) s.heap H locs → lv_has ls 4 [(0, .ref (ad 0)), (1, .int v1), (2, .int v2), (3, .int v3)] → W p l e (headSpec wsX7_settle { frames := 2, cells := 0, slots := 0, locals := 51 }).room s m args below meth c H locs 0 0 (MQ below (kQv D cI cZ (mA ad) (mW ad cI cZ So)) args s 0 0 (mA ad)) (F0 m 46 ls []) := by
    intro n46
    induction n46 with
    | zero => intro v1 v2 v3 S hE; exact absurd (show (none : Option (St)) = some So from hE) (fun h => nomatch h)
    | succ n46 ih46 =>
      intro v1 v2 v3 S hE H locs ls hP hS hl
      have hE : f7_settle_L46b  (f7_settle_L46 n46) v1 v2 v3 S = some So := hE
      unfold f7_settle_L46b at hE
      refine lv_iload_n hx hb dX7_settle_46 rfl (lv_at hl 3 rfl) ?_
      refine lv_aload_n hx hb dX7_settle_47 rfl (lv_at hl 0 rfl) ?_
      refine va_get (D := D) (ci := 6) (v := .int (S.1 6)) (C := RX7) (T := TX7) (N := 25) hx hb hts iX7_settle_X7 hown hK.1 hP 0 rfl rfl 15 (by decide) (hts (.fieldLink RX7 79 "BumpheraldModel" "raises" "I") (List.mem_of_getElem? (i := 1) rfl)) (fun _ h9 => h9) rfl dX7_settle_48 ?_
      refine r_icmp_ge (tgt := 95) hx hb dX7_settle_51 (by decide) hE (fun c1 hE => ?_) (fun c1 hE => ?_)
      · refine lv_iload_n hx hb dX7_settle_95 rfl (lv_at hl 2 rfl) ?_
        refine lv_iconst (v := -1) hx hb dX7_settle_96 (by decide) ?_
        refine r_icmp_eq (tgt := 105) hx hb dX7_settle_97 (by decide) hE (fun c2 hE => ?_) (fun c2 hE => ?_)
        · exact k_vret (Wd := mW ad cI cZ) hx hb hr hlk hK hP hS hE dX7_settle_105
        · refine lv_aload_n hx hb dX7_settle_100 rfl (lv_at hl 0 rfl) ?_
          refine lv_iload_n hx hb dX7_settle_101 rfl (lv_at hl 2 rfl) ?_
          refine r_callVv (Wd := mW ad cI cZ) (C := RX7) [.int v2] [] ⟨hx, hb, hml, hown, hts⟩ (kX7_give l D ad cI cZ hDD S v2) (cwV 1 hts gX7_settle_X7_give rfl rfl rfl (by decide +kernel) ⟨Nat.le_of_ble_eq_true rfl, Nat.le_of_ble_eq_true rfl⟩) (va_recv hK.1 hP (ci := 6) (q0 := 0) rfl rfl) hK hP hS (fun _ h9 => h9) rfl hl.1 rfl (Nat.le_of_ble_eq_true rfl) ⟨Nat.zero_le _, Nat.zero_le _⟩ hE dX7_settle_102 (fun S4 H locs hE hP hS => ?_)
          exact k_vret (Wd := mW ad cI cZ) hx hb hr hlk hK hP hS hE dX7_settle_105
      · refine lv_aload_n hx hb dX7_settle_54 rfl (lv_at hl 0 rfl) ?_
        refine va_get (D := D) (ci := 6) (v := .ref (ad 15)) (C := RX7) (T := TX7) (N := 25) hx hb hts iX7_settle_X7 hown hK.1 hP 0 rfl rfl 21 (by decide) (hts (.fieldLink RX7 56 "BumpheraldModel" "group" "[I") (List.mem_of_getElem? (i := 3) rfl)) (fun _ h9 => h9) rfl dX7_settle_55 ?_
        refine lv_iload_n hx hb dX7_settle_58 rfl (lv_at hl 3 rfl) ?_
        refine lv_aload_n hx hb dX7_settle_59 rfl (lv_at hl 0 rfl) ?_
        refine va_get (D := D) (ci := 6) (v := .ref (ad 10)) (C := RX7) (T := TX7) (N := 25) hx hb hts iX7_settle_X7 hown hK.1 hP 0 rfl rfl 16 (by decide) (hts (.fieldLink RX7 41 "BumpheraldModel" "state" "[I") (List.mem_of_getElem? (i := 2) rfl)) (fun _ h9 => h9) rfl dX7_settle_60 ?_
        refine lv_iload_n hx hb dX7_settle_63 rfl (lv_at hl 3 rfl) ?_
        refine r_iald (Wd := mW ad cI cZ) (k := 9) (n := 40) hx hb hK hP 10 rfl hE dX7_settle_64 (fun x5 hE => ?_)
        refine r_if_ne (tgt := 82) hx hb dX7_settle_65 (by decide) hE (fun c6 hE => ?_) (fun c6 hE => ?_)
        · refine lv_aload_n hx hb dX7_settle_68 rfl (lv_at hl 0 rfl) ?_
          refine va_get (D := D) (ci := 6) (v := .ref (ad 15)) (C := RX7) (T := TX7) (N := 25) hx hb hts iX7_settle_X7 hown hK.1 hP 0 rfl rfl 21 (by decide) (hts (.fieldLink RX7 56 "BumpheraldModel" "group" "[I") (List.mem_of_getElem? (i := 3) rfl)) (fun _ h9 => h9) rfl dX7_settle_69 ?_
          refine lv_iload_n hx hb dX7_settle_72 rfl (lv_at hl 3 rfl) ?_
          refine r_iald (Wd := mW ad cI cZ) (k := 14) (n := 40) hx hb hK hP 15 rfl hE dX7_settle_73 (fun x7 hE => ?_)
          refine lv_iload_n hx hb dX7_settle_74 rfl (lv_at hl 1 rfl) ?_
          refine r_icmp_ne (tgt := 82) hx hb dX7_settle_75 (by decide) hE (fun c8 hE => ?_) (fun c8 hE => ?_)
          · refine lv_iload_n hx hb dX7_settle_78 rfl (lv_at hl 2 rfl) ?_
            refine lv_goto (tgt := 88) hx hb dX7_settle_79 (by decide) ?_
            refine r_iast (Wd := mW ad cI cZ) (k := 14) (n := 40) hx hb hDD hK hP hS 15 rfl (mU14 ..) hE dX7_settle_88 (fun S9 H locs hE hP hS => ?_)
            refine lv_iinc (v := v3 + 1) (lv' := [(3, .int (v3 + 1)), (0, .ref (ad 0)), (1, .int v1), (2, .int v2)]) hx hb dX7_settle_89 hl (k := 3) rfl rfl (by decide) rfl (fun ls hl => ?_)
            refine lv_goto (tgt := 46) hx hb dX7_settle_92 (by decide) ?_
            exact ih46 v1 v2 (v3 + 1) S9 hE _ _ _ hP hS (lv_sub hl [1, 2, 3, 0] rfl)
          · refine lv_aload_n hx hb dX7_settle_82 rfl (lv_at hl 0 rfl) ?_
            refine va_get (D := D) (ci := 6) (v := .ref (ad 15)) (C := RX7) (T := TX7) (N := 25) hx hb hts iX7_settle_X7 hown hK.1 hP 0 rfl rfl 21 (by decide) (hts (.fieldLink RX7 56 "BumpheraldModel" "group" "[I") (List.mem_of_getElem? (i := 3) rfl)) (fun _ h9 => h9) rfl dX7_settle_83 ?_
            refine lv_iload_n hx hb dX7_settle_86 rfl (lv_at hl 3 rfl) ?_
            refine r_iald (Wd := mW ad cI cZ) (k := 14) (n := 40) hx hb hK hP 15 rfl hE dX7_settle_87 (fun x10 hE => ?_)
            refine r_iast (Wd := mW ad cI cZ) (k := 14) (n := 40) hx hb hDD hK hP hS 15 rfl (mU14 ..) hE dX7_settle_88 (fun S11 H locs hE hP hS => ?_)
            refine lv_iinc (v := v3 + 1) (lv' := [(3, .int (v3 + 1)), (0, .ref (ad 0)), (1, .int v1), (2, .int v2)]) hx hb dX7_settle_89 hl (k := 3) rfl rfl (by decide) rfl (fun ls hl => ?_)
            refine lv_goto (tgt := 46) hx hb dX7_settle_92 (by decide) ?_
            exact ih46 v1 v2 (v3 + 1) S11 hE _ _ _ hP hS (lv_sub hl [1, 2, 3, 0] rfl)
        · refine lv_aload_n hx hb dX7_settle_82 rfl (lv_at hl 0 rfl) ?_
          refine va_get (D := D) (ci := 6) (v := .ref (ad 15)) (C := RX7) (T := TX7) (N := 25) hx hb hts iX7_settle_X7 hown hK.1 hP 0 rfl rfl 21 (by decide) (hts (.fieldLink RX7 56 "BumpheraldModel" "group" "[I") (List.mem_of_getElem? (i := 3) rfl)) (fun _ h9 => h9) rfl dX7_settle_83 ?_
          refine lv_iload_n hx hb dX7_settle_86 rfl (lv_at hl 3 rfl) ?_
          refine r_iald (Wd := mW ad cI cZ) (k := 14) (n := 40) hx hb hK hP 15 rfl hE dX7_settle_87 (fun x12 hE => ?_)
          refine r_iast (Wd := mW ad cI cZ) (k := 14) (n := 40) hx hb hDD hK hP hS 15 rfl (mU14 ..) hE dX7_settle_88 (fun S13 H locs hE hP hS => ?_)
          refine lv_iinc (v := v3 + 1) (lv' := [(3, .int (v3 + 1)), (0, .ref (ad 0)), (1, .int v1), (2, .int v2)]) hx hb dX7_settle_89 hl (k := 3) rfl rfl (by decide) rfl (fun ls hl => ?_)
          refine lv_goto (tgt := 46) hx hb dX7_settle_92 (by decide) ?_
          exact ih46 v1 v2 (v3 + 1) S13 hE _ _ _ hP hS (lv_sub hl [1, 2, 3, 0] rfl)
  have H9 : ∀ (n9 : Nat) (v1 : Int32) (v2 : Int32) (v3 : Int32) (S : St), f7_settle_L9  n9 v1 v2 v3 S = some So → ∀ (H : Heap) (locs : List Loc) (ls : Array Slot), va_P D vwCl (mW ad cI cZ S) H → va_S (mA ad) s.heap H locs → lv_has ls 4 [(0, .ref (ad 0)), (1, .int v1), (2, .int v2), (3, .int v3)] → W p l e (headSpec wsX7_settle { frames := 2, cells := 0, slots := 0, locals := 51 }).room s m args below meth c H locs 0 0 (MQ below (kQv D cI cZ (mA ad) (mW ad cI cZ So)) args s 0 0 (mA ad)) (F0 m 9 ls []) := by
    intro n9
    induction n9 with
    | zero => intro v1 v2 v3 S hE; exact absurd (show (none : Option (St)) = some So from hE) (fun h => nomatch h)
    | succ n9 ih9 =>
      intro v1 v2 v3 S hE H locs ls hP hS hl
      have hE : f7_settle_L9b  (f7_settle_L9 n9) v1 v2 v3 S = some So := hE
      unfold f7_settle_L9b at hE
      refine lv_iload_n hx hb dX7_settle_9 rfl (lv_at hl 3 rfl) ?_
      refine r_if_lt (tgt := 44) hx hb dX7_settle_10 (by decide) hE (fun c14 hE => ?_) (fun c14 hE => ?_)
      · refine lv_iconst (v := 0) hx hb dX7_settle_44 (by decide) ?_
        refine lv_istore_n (lv' := [(3, .int 0), (0, .ref (ad 0)), (1, .int v1), (2, .int v2)]) hx hb dX7_settle_45 rfl hl (by decide) rfl (fun ls hl => ?_)
        exact H46 2000 v1 v2 0 S hE _ _ _ hP hS (lv_sub hl [1, 2, 3, 0] rfl)
      · refine lv_aload_n hx hb dX7_settle_13 rfl (lv_at hl 0 rfl) ?_
        refine va_get (D := D) (ci := 6) (v := .ref (ad 10)) (C := RX7) (T := TX7) (N := 25) hx hb hts iX7_settle_X7 hown hK.1 hP 0 rfl rfl 16 (by decide) (hts (.fieldLink RX7 41 "BumpheraldModel" "state" "[I") (List.mem_of_getElem? (i := 2) rfl)) (fun _ h9 => h9) rfl dX7_settle_14 ?_
        refine lv_iload_n hx hb dX7_settle_17 rfl (lv_at hl 3 rfl) ?_
        refine r_iald (Wd := mW ad cI cZ) (k := 9) (n := 40) hx hb hK hP 10 rfl hE dX7_settle_18 (fun x15 hE => ?_)
        refine r_if_ne (tgt := 36) hx hb dX7_settle_19 (by decide) hE (fun c16 hE => ?_) (fun c16 hE => ?_)
        · refine lv_aload_n hx hb dX7_settle_22 rfl (lv_at hl 0 rfl) ?_
          refine va_get (D := D) (ci := 6) (v := .ref (ad 15)) (C := RX7) (T := TX7) (N := 25) hx hb hts iX7_settle_X7 hown hK.1 hP 0 rfl rfl 21 (by decide) (hts (.fieldLink RX7 56 "BumpheraldModel" "group" "[I") (List.mem_of_getElem? (i := 3) rfl)) (fun _ h9 => h9) rfl dX7_settle_23 ?_
          refine lv_iload_n hx hb dX7_settle_26 rfl (lv_at hl 3 rfl) ?_
          refine r_iald (Wd := mW ad cI cZ) (k := 14) (n := 40) hx hb hK hP 15 rfl hE dX7_settle_27 (fun x17 hE => ?_)
          refine lv_iload_n hx hb dX7_settle_28 rfl (lv_at hl 1 rfl) ?_
          refine r_icmp_ne (tgt := 36) hx hb dX7_settle_29 (by decide) hE (fun c18 hE => ?_) (fun c18 hE => ?_)
          · refine lv_iload_n hx hb dX7_settle_32 rfl (lv_at hl 3 rfl) ?_
            refine lv_goto (tgt := 37) hx hb dX7_settle_33 (by decide) ?_
            refine lv_istore_n (lv' := [(2, .int v3), (0, .ref (ad 0)), (1, .int v1), (3, .int v3)]) hx hb dX7_settle_37 rfl hl (by decide) rfl (fun ls hl => ?_)
            refine lv_iinc (v := v3 + (-1)) (lv' := [(3, .int (v3 + (-1))), (2, .int v3), (0, .ref (ad 0)), (1, .int v1)]) hx hb dX7_settle_38 hl (k := 3) rfl rfl (by decide) rfl (fun ls hl => ?_)
            refine lv_goto (tgt := 9) hx hb dX7_settle_41 (by decide) ?_
            exact ih9 v1 v3 (v3 + (-1)) S hE _ _ _ hP hS (lv_sub hl [2, 3, 1, 0] rfl)
          · refine lv_iload_n hx hb dX7_settle_36 rfl (lv_at hl 2 rfl) ?_
            refine lv_istore_n (lv' := [(2, .int v2), (0, .ref (ad 0)), (1, .int v1), (3, .int v3)]) hx hb dX7_settle_37 rfl hl (by decide) rfl (fun ls hl => ?_)
            refine lv_iinc (v := v3 + (-1)) (lv' := [(3, .int (v3 + (-1))), (2, .int v2), (0, .ref (ad 0)), (1, .int v1)]) hx hb dX7_settle_38 hl (k := 3) rfl rfl (by decide) rfl (fun ls hl => ?_)
            refine lv_goto (tgt := 9) hx hb dX7_settle_41 (by decide) ?_
            exact ih9 v1 v2 (v3 + (-1)) S hE _ _ _ hP hS (lv_sub hl [2, 3, 1, 0] rfl)
        · refine lv_iload_n hx hb dX7_settle_36 rfl (lv_at hl 2 rfl) ?_
          refine lv_istore_n (lv' := [(2, .int v2), (0, .ref (ad 0)), (1, .int v1), (3, .int v3)]) hx hb dX7_settle_37 rfl hl (by decide) rfl (fun ls hl => ?_)
          refine lv_iinc (v := v3 + (-1)) (lv' := [(3, .int (v3 + (-1))), (2, .int v2), (0, .ref (ad 0)), (1, .int v1)]) hx hb dX7_settle_38 hl (k := 3) rfl rfl (by decide) rfl (fun ls hl => ?_)
          refine lv_goto (tgt := 9) hx hb dX7_settle_41 (by decide) ?_
          exact ih9 v1 v2 (v3 + (-1)) S hE _ _ _ hP hS (lv_sub hl [2, 3, 1, 0] rfl)
  unfold f7_settle at hE
  refine lv_iconst (v := -1) hx hb dX7_settle_0 (by decide) ?_
  refine lv_istore_n (lv' := [(2, .int ((-1))), (0, .ref (ad 0)), (1, .int v1)]) hx hb dX7_settle_1 rfl hl (by decide) rfl (fun ls hl => ?_)
  refine lv_aload_n hx hb dX7_settle_2 rfl (lv_at hl 1 rfl) ?_
  refine va_get (D := D) (ci := 6) (v := .int (S.1 6)) (C := RX7) (T := TX7) (N := 25) hx hb hts iX7_settle_X7 hown hK.1 hP 0 rfl rfl 15 (by decide) (hts (.fieldLink RX7 79 "BumpheraldModel" "raises" "I") (List.mem_of_getElem? (i := 1) rfl)) (fun _ h9 => h9) rfl dX7_settle_3 ?_
  refine lv_iconst (v := 1) hx hb dX7_settle_6 (by decide) ?_
  refine lv_isub hx hb dX7_settle_7 ?_
  refine lv_istore_n (lv' := [(3, .int ((S.1 6) - 1)), (2, .int ((-1))), (0, .ref (ad 0)), (1, .int v1)]) hx hb dX7_settle_8 rfl hl (by decide) rfl (fun ls hl => ?_)
  exact H9 2000 v1 ((-1)) ((S.1 6) - 1) S hE _ _ _ hP hS (lv_sub hl [2, 3, 1, 0] rfl)
theorem iX7_open_X7 : ∀ w ∈ wsX70, w ∈ wsX7_open := fun w h => List.mem_cons_of_mem _ (List.mem_append_right _ h)
set_option maxHeartbeats 4000000 in
set_option maxRecDepth 100000 in
theorem kX7_open (l : Launch) (D : va_G) (ad : Nat → Nat) (cI cZ : ClassId) (hDD : ∀ S, va_D (mA ad) (mW ad cI cZ S)) (S : St) : ∀ So ro, f7_open S  = some (So, ro) → Met l yX7_open wsX7_open { frames := 0, cells := 0, slots := 0, locals := 0 } (va_Pc [.ref (ad 0)] (kPre D cI cZ (mW ad cI cZ S))) (kQi D cI cZ (mA ad) (mW ad cI cZ So) ro) 0 0 (mA ad) := by
  intro So ro hE
  refine kMet_of (by decide) rfl (Nat.le_of_ble_eq_true rfl) ?_
  intro p e s m args below meth c ls hx hb hr hml hown hlk hts hK hP hS hl
  have hl : lv_has ls 3 [(0, .ref (ad 0))] := hl
  have hown : s.vm.findClass RX7 = some m.cls := hown
  have H4 : ∀ (n4 : Nat) (v1 : Int32) (v2 : Int32) (S : St), f7_open_L4  n4 v1 v2 S = some (So, ro) → ∀ (H : Heap) (locs : List Loc) (ls : Array Slot), va_P D vwCl (mW ad cI cZ S) H → va_S (mA ad) s.heap H locs → lv_has ls 3 [(0, .ref (ad 0)), (1, .int v1), (2, .int v2)] → W p l e (headSpec wsX7_open { frames := 0, cells := 0, slots := 0, locals := 0 }).room s m args below meth c H locs 0 0 (MQ below (kQi D cI cZ (mA ad) (mW ad cI cZ So) ro) args s 0 0 (mA ad)) (F0 m 4 ls []) := by
    intro n4
    induction n4 with
    | zero => intro v1 v2 S hE; exact absurd (show (none : Option (St × Int32)) = some (So, ro) from hE) (fun h => nomatch h)
    | succ n4 ih4 =>
      intro v1 v2 S hE H locs ls hP hS hl
      have hE : f7_open_L4b  (f7_open_L4 n4) v1 v2 S = some (So, ro) := hE
      unfold f7_open_L4b at hE
      refine lv_iload_n hx hb dX7_open_4 rfl (lv_at hl 2 rfl) ?_
      refine lv_aload_n hx hb dX7_open_5 rfl (lv_at hl 0 rfl) ?_
      refine va_get (D := D) (ci := 6) (v := .int (S.1 6)) (C := RX7) (T := TX7) (N := 25) hx hb hts iX7_open_X7 hown hK.1 hP 0 rfl rfl 15 (by decide) (hts (.fieldLink RX7 79 "BumpheraldModel" "raises" "I") (List.mem_of_getElem? (i := 1) rfl)) (fun _ h9 => h9) rfl dX7_open_6 ?_
      refine r_icmp_ge (tgt := 35) hx hb dX7_open_9 (by decide) hE (fun c1 hE => ?_) (fun c1 hE => ?_)
      · refine lv_iload_n hx hb dX7_open_35 rfl (lv_at hl 1 rfl) ?_
        exact k_iret (Wd := mW ad cI cZ) hx hb hr hlk hK hP hS hE dX7_open_36
      · refine lv_iload_n hx hb dX7_open_12 rfl (lv_at hl 1 rfl) ?_
        refine lv_aload_n hx hb dX7_open_13 rfl (lv_at hl 0 rfl) ?_
        refine va_get (D := D) (ci := 6) (v := .ref (ad 10)) (C := RX7) (T := TX7) (N := 25) hx hb hts iX7_open_X7 hown hK.1 hP 0 rfl rfl 16 (by decide) (hts (.fieldLink RX7 41 "BumpheraldModel" "state" "[I") (List.mem_of_getElem? (i := 2) rfl)) (fun _ h9 => h9) rfl dX7_open_14 ?_
        refine lv_iload_n hx hb dX7_open_17 rfl (lv_at hl 2 rfl) ?_
        refine r_iald (Wd := mW ad cI cZ) (k := 9) (n := 40) hx hb hK hP 10 rfl hE dX7_open_18 (fun x2 hE => ?_)
        refine r_if_ne (tgt := 26) hx hb dX7_open_19 (by decide) hE (fun c3 hE => ?_) (fun c3 hE => ?_)
        · refine lv_iconst (v := 1) hx hb dX7_open_22 (by decide) ?_
          refine lv_goto (tgt := 27) hx hb dX7_open_23 (by decide) ?_
          refine lv_iadd hx hb dX7_open_27 ?_
          refine lv_istore_n (lv' := [(1, .int (v1 + 1)), (0, .ref (ad 0)), (2, .int v2)]) hx hb dX7_open_28 rfl hl (by decide) rfl (fun ls hl => ?_)
          refine lv_iinc (v := v2 + 1) (lv' := [(2, .int (v2 + 1)), (1, .int (v1 + 1)), (0, .ref (ad 0))]) hx hb dX7_open_29 hl (k := 2) rfl rfl (by decide) rfl (fun ls hl => ?_)
          refine lv_goto (tgt := 4) hx hb dX7_open_32 (by decide) ?_
          exact ih4 (v1 + 1) (v2 + 1) S hE _ _ _ hP hS (lv_sub hl [2, 1, 0] rfl)
        · refine lv_iconst (v := 0) hx hb dX7_open_26 (by decide) ?_
          refine lv_iadd hx hb dX7_open_27 ?_
          refine lv_istore_n (lv' := [(1, .int (v1 + 0)), (0, .ref (ad 0)), (2, .int v2)]) hx hb dX7_open_28 rfl hl (by decide) rfl (fun ls hl => ?_)
          refine lv_iinc (v := v2 + 1) (lv' := [(2, .int (v2 + 1)), (1, .int (v1 + 0)), (0, .ref (ad 0))]) hx hb dX7_open_29 hl (k := 2) rfl rfl (by decide) rfl (fun ls hl => ?_)
          refine lv_goto (tgt := 4) hx hb dX7_open_32 (by decide) ?_
          exact ih4 (v1 + 0) (v2 + 1) S hE _ _ _ hP hS (lv_sub hl [2, 1, 0] rfl)
  unfold f7_open at hE
  refine lv_iconst (v := 0) hx hb dX7_open_0 (by decide) ?_
  refine lv_istore_n (lv' := [(1, .int 0), (0, .ref (ad 0))]) hx hb dX7_open_1 rfl hl (by decide) rfl (fun ls hl => ?_)
  refine lv_iconst (v := 0) hx hb dX7_open_2 (by decide) ?_
  refine lv_istore_n (lv' := [(2, .int 0), (1, .int 0), (0, .ref (ad 0))]) hx hb dX7_open_3 rfl hl (by decide) rfl (fun ls hl => ?_)
  exact H4 2000 0 0 S hE _ _ _ hP hS (lv_sub hl [2, 1, 0] rfl)
theorem iX7_raise_X7 : ∀ w ∈ wsX70, w ∈ wsX7_raise := fun w h => List.mem_cons_of_mem _ (List.mem_append_right _ h)
set_option maxHeartbeats 4000000 in
set_option maxRecDepth 100000 in
theorem kX7_raise (l : Launch) (D : va_G) (ad : Nat → Nat) (cI cZ : ClassId) (hDD : ∀ S, va_D (mA ad) (mW ad cI cZ S)) (S : St) (v1 : Int32) (v2 : Int32) (v3 : Int32) : ∀ So ro, f7_raise S v1 v2 v3 = some (So, ro) → Met l yX7_raise wsX7_raise { frames := 2, cells := 0, slots := 0, locals := 51 } (va_Pc [.ref (ad 0), .int v1, .int v2, .int v3] (kPre D cI cZ (mW ad cI cZ S))) (kQi D cI cZ (mA ad) (mW ad cI cZ So) ro) 0 0 (mA ad) := by
  intro So ro hE
  refine kMet_of (by decide) rfl (Nat.le_of_ble_eq_true rfl) ?_
  intro p e s m args below meth c ls hx hb hr hml hown hlk hts hK hP hS hl
  have hl : lv_has ls 8 [(0, .ref (ad 0)), (1, .int v1), (2, .int v2), (3, .int v3)] := hl
  have hown : s.vm.findClass RX7 = some m.cls := hown
  have H147 : ∀ (v1 : Int32) (v2 : Int32) (v3 : Int32) (t1 : Int32) (S : St), f7_raise_J147  v1 v2 v3 t1 S = some (So, ro) → ∀ (H : Heap) (locs : List Loc) (ls : Array Slot), va_P D vwCl (mW ad cI cZ S) H → va_S (mA ad) s.heap H locs → lv_has ls 8 [(0, .ref (ad 0)), (1, .int v1), (2, .int v2), (3, .int v3)] → W p l e (headSpec wsX7_raise { frames := 2, cells := 0, slots := 0, locals := 51 }).room s m args below meth c H locs 0 0 (MQ below (kQi D cI cZ (mA ad) (mW ad cI cZ So) ro) args s 0 0 (mA ad)) (F0 m 147 ls [.int t1, .ref (ad 0)]) := by
    intro v1 v2 v3 t1 S hE H locs ls hP hS hl
    unfold f7_raise_J147 at hE
    refine r_callVi (Wd := mW ad cI cZ) (C := RX7) [.int t1] [] ⟨hx, hb, hml, hown, hts⟩ (kX7_refused l D ad cI cZ hDD S t1) (cwV 1 hts gX7_raise_X7_refused rfl rfl rfl (by decide +kernel) ⟨Nat.le_of_ble_eq_true rfl, Nat.le_of_ble_eq_true rfl⟩) (va_recv hK.1 hP (ci := 6) (q0 := 0) rfl rfl) hK hP hS (fun _ h9 => h9) rfl hl.1 rfl (Nat.le_of_ble_eq_true rfl) ⟨Nat.zero_le _, Nat.zero_le _⟩ hE dX7_raise_147 (fun S2 x1 H locs hE hP hS => ?_)
    refine r_if_eq (tgt := 155) hx hb dX7_raise_150 (by decide) hE (fun c3 hE => ?_) (fun c3 hE => ?_)
    · refine lv_aload_n hx hb dX7_raise_155 rfl (lv_at hl 0 rfl) ?_
      refine va_get (D := D) (ci := 6) (v := .ref (ad 11)) (C := RX7) (T := TX7) (N := 25) hx hb hts iX7_raise_X7 hown hK.1 hP 0 rfl rfl 17 (by decide) (hts (.fieldLink RX7 44 "BumpheraldModel" "pack" "[I") (List.mem_of_getElem? (i := 4) rfl)) (fun _ h9 => h9) rfl dX7_raise_156 ?_
      refine lv_aload_n hx hb dX7_raise_159 rfl (lv_at hl 0 rfl) ?_
      refine va_get (D := D) (ci := 6) (v := .int (S2.1 6)) (C := RX7) (T := TX7) (N := 25) hx hb hts iX7_raise_X7 hown hK.1 hP 0 rfl rfl 15 (by decide) (hts (.fieldLink RX7 79 "BumpheraldModel" "raises" "I") (List.mem_of_getElem? (i := 2) rfl)) (fun _ h9 => h9) rfl dX7_raise_160 ?_
      refine lv_iload_n hx hb dX7_raise_163 rfl (lv_at hl 1 rfl) ?_
      refine r_iast (Wd := mW ad cI cZ) (k := 10) (n := 40) hx hb hDD hK hP hS 11 rfl (mU10 ..) hE dX7_raise_164 (fun S4 H locs hE hP hS => ?_)
      refine lv_aload_n hx hb dX7_raise_165 rfl (lv_at hl 0 rfl) ?_
      refine va_get (D := D) (ci := 6) (v := .ref (ad 12)) (C := RX7) (T := TX7) (N := 25) hx hb hts iX7_raise_X7 hown hK.1 hP 0 rfl rfl 18 (by decide) (hts (.fieldLink RX7 47 "BumpheraldModel" "target" "[I") (List.mem_of_getElem? (i := 5) rfl)) (fun _ h9 => h9) rfl dX7_raise_166 ?_
      refine lv_aload_n hx hb dX7_raise_169 rfl (lv_at hl 0 rfl) ?_
      refine va_get (D := D) (ci := 6) (v := .int (S4.1 6)) (C := RX7) (T := TX7) (N := 25) hx hb hts iX7_raise_X7 hown hK.1 hP 0 rfl rfl 15 (by decide) (hts (.fieldLink RX7 79 "BumpheraldModel" "raises" "I") (List.mem_of_getElem? (i := 2) rfl)) (fun _ h9 => h9) rfl dX7_raise_170 ?_
      refine lv_iload_n hx hb dX7_raise_173 rfl (lv_at hl 2 rfl) ?_
      refine r_iast (Wd := mW ad cI cZ) (k := 11) (n := 40) hx hb hDD hK hP hS 12 rfl (mU11 ..) hE dX7_raise_174 (fun S5 H locs hE hP hS => ?_)
      refine lv_aload_n hx hb dX7_raise_175 rfl (lv_at hl 0 rfl) ?_
      refine va_get (D := D) (ci := 6) (v := .ref (ad 13)) (C := RX7) (T := TX7) (N := 25) hx hb hts iX7_raise_X7 hown hK.1 hP 0 rfl rfl 19 (by decide) (hts (.fieldLink RX7 50 "BumpheraldModel" "risk" "[I") (List.mem_of_getElem? (i := 6) rfl)) (fun _ h9 => h9) rfl dX7_raise_176 ?_
      refine lv_aload_n hx hb dX7_raise_179 rfl (lv_at hl 0 rfl) ?_
      refine va_get (D := D) (ci := 6) (v := .int (S5.1 6)) (C := RX7) (T := TX7) (N := 25) hx hb hts iX7_raise_X7 hown hK.1 hP 0 rfl rfl 15 (by decide) (hts (.fieldLink RX7 79 "BumpheraldModel" "raises" "I") (List.mem_of_getElem? (i := 2) rfl)) (fun _ h9 => h9) rfl dX7_raise_180 ?_
      refine lv_iload_n hx hb dX7_raise_183 rfl (lv_at hl 3 rfl) ?_
      refine r_iast (Wd := mW ad cI cZ) (k := 12) (n := 40) hx hb hDD hK hP hS 13 rfl (mU12 ..) hE dX7_raise_184 (fun S6 H locs hE hP hS => ?_)
      refine lv_aload_n hx hb dX7_raise_185 rfl (lv_at hl 0 rfl) ?_
      refine va_get (D := D) (ci := 6) (v := .ref (ad 14)) (C := RX7) (T := TX7) (N := 25) hx hb hts iX7_raise_X7 hown hK.1 hP 0 rfl rfl 20 (by decide) (hts (.fieldLink RX7 53 "BumpheraldModel" "made" "[I") (List.mem_of_getElem? (i := 7) rfl)) (fun _ h9 => h9) rfl dX7_raise_186 ?_
      refine lv_aload_n hx hb dX7_raise_189 rfl (lv_at hl 0 rfl) ?_
      refine va_get (D := D) (ci := 6) (v := .int (S6.1 6)) (C := RX7) (T := TX7) (N := 25) hx hb hts iX7_raise_X7 hown hK.1 hP 0 rfl rfl 15 (by decide) (hts (.fieldLink RX7 79 "BumpheraldModel" "raises" "I") (List.mem_of_getElem? (i := 2) rfl)) (fun _ h9 => h9) rfl dX7_raise_190 ?_
      refine lv_aload_n hx hb dX7_raise_193 rfl (lv_at hl 0 rfl) ?_
      refine va_get (D := D) (ci := 6) (v := .int (S6.1 1)) (C := RX7) (T := TX7) (N := 25) hx hb hts iX7_raise_X7 hown hK.1 hP 0 rfl rfl 1 (by decide) (hts (.fieldLink RX7 123 "BumpheraldModel" "day" "I") (List.mem_of_getElem? (i := 8) rfl)) (fun _ h9 => h9) rfl dX7_raise_194 ?_
      refine r_iast (Wd := mW ad cI cZ) (k := 13) (n := 40) hx hb hDD hK hP hS 14 rfl (mU13 ..) hE dX7_raise_197 (fun S7 H locs hE hP hS => ?_)
      refine lv_aload_n hx hb dX7_raise_198 rfl (lv_at hl 0 rfl) ?_
      refine va_get (D := D) (ci := 6) (v := .ref (ad 15)) (C := RX7) (T := TX7) (N := 25) hx hb hts iX7_raise_X7 hown hK.1 hP 0 rfl rfl 21 (by decide) (hts (.fieldLink RX7 56 "BumpheraldModel" "group" "[I") (List.mem_of_getElem? (i := 9) rfl)) (fun _ h9 => h9) rfl dX7_raise_199 ?_
      refine lv_aload_n hx hb dX7_raise_202 rfl (lv_at hl 0 rfl) ?_
      refine va_get (D := D) (ci := 6) (v := .int (S7.1 6)) (C := RX7) (T := TX7) (N := 25) hx hb hts iX7_raise_X7 hown hK.1 hP 0 rfl rfl 15 (by decide) (hts (.fieldLink RX7 79 "BumpheraldModel" "raises" "I") (List.mem_of_getElem? (i := 2) rfl)) (fun _ h9 => h9) rfl dX7_raise_203 ?_
      refine lv_aload_n hx hb dX7_raise_206 rfl (lv_at hl 0 rfl) ?_
      refine va_get (D := D) (ci := 6) (v := .int (S7.1 6)) (C := RX7) (T := TX7) (N := 25) hx hb hts iX7_raise_X7 hown hK.1 hP 0 rfl rfl 15 (by decide) (hts (.fieldLink RX7 79 "BumpheraldModel" "raises" "I") (List.mem_of_getElem? (i := 2) rfl)) (fun _ h9 => h9) rfl dX7_raise_207 ?_
      refine r_iast (Wd := mW ad cI cZ) (k := 14) (n := 40) hx hb hDD hK hP hS 15 rfl (mU14 ..) hE dX7_raise_210 (fun S8 H locs hE hP hS => ?_)
      refine lv_aload_n hx hb dX7_raise_211 rfl (lv_at hl 0 rfl) ?_
      refine va_get (D := D) (ci := 6) (v := .ref (ad 16)) (C := RX7) (T := TX7) (N := 25) hx hb hts iX7_raise_X7 hown hK.1 hP 0 rfl rfl 22 (by decide) (hts (.fieldLink RX7 59 "BumpheraldModel" "reviewer" "[I") (List.mem_of_getElem? (i := 10) rfl)) (fun _ h9 => h9) rfl dX7_raise_212 ?_
      refine lv_aload_n hx hb dX7_raise_215 rfl (lv_at hl 0 rfl) ?_
      refine va_get (D := D) (ci := 6) (v := .int (S8.1 6)) (C := RX7) (T := TX7) (N := 25) hx hb hts iX7_raise_X7 hown hK.1 hP 0 rfl rfl 15 (by decide) (hts (.fieldLink RX7 79 "BumpheraldModel" "raises" "I") (List.mem_of_getElem? (i := 2) rfl)) (fun _ h9 => h9) rfl dX7_raise_216 ?_
      refine lv_iconst (v := -1) hx hb dX7_raise_219 (by decide) ?_
      refine r_iast (Wd := mW ad cI cZ) (k := 15) (n := 40) hx hb hDD hK hP hS 16 rfl (mU15 ..) hE dX7_raise_220 (fun S9 H locs hE hP hS => ?_)
      refine lv_aload_n hx hb dX7_raise_221 rfl (lv_at hl 0 rfl) ?_
      refine lv_dup hx hb dX7_raise_222 rfl ?_
      refine va_get (D := D) (ci := 6) (v := .int (S9.1 6)) (C := RX7) (T := TX7) (N := 25) hx hb hts iX7_raise_X7 hown hK.1 hP 0 rfl rfl 15 (by decide) (hts (.fieldLink RX7 79 "BumpheraldModel" "raises" "I") (List.mem_of_getElem? (i := 2) rfl)) (fun _ h9 => h9) rfl dX7_raise_223 ?_
      refine lv_iconst (v := 1) hx hb dX7_raise_226 (by decide) ?_
      refine lv_iadd hx hb dX7_raise_227 ?_
      refine r_puti (Wd := mW ad cI cZ) (ci := 6) (C := RX7) (T := TX7) (N := 25) (kf := 6) hx hb hts iX7_raise_X7 tyX7 tyX7_ok nmX7 hown hDD hK hP hS 0 rfl rfl 15 (by decide) (hts (.fieldLink RX7 79 "BumpheraldModel" "raises" "I") (List.mem_of_getElem? (i := 2) rfl)) rfl rfl (by decide +kernel) (Nat.le_of_ble_eq_true rfl) rfl hE dX7_raise_228 (fun S10 H locs hE hP hS => ?_)
      refine lv_aload_n hx hb dX7_raise_231 rfl (lv_at hl 0 rfl) ?_
      refine lv_aload_n hx hb dX7_raise_232 rfl (lv_at hl 0 rfl) ?_
      refine va_get (D := D) (ci := 6) (v := .int (S10.1 6)) (C := RX7) (T := TX7) (N := 25) hx hb hts iX7_raise_X7 hown hK.1 hP 0 rfl rfl 15 (by decide) (hts (.fieldLink RX7 79 "BumpheraldModel" "raises" "I") (List.mem_of_getElem? (i := 2) rfl)) (fun _ h9 => h9) rfl dX7_raise_233 ?_
      refine lv_iconst (v := 1) hx hb dX7_raise_236 (by decide) ?_
      refine lv_isub hx hb dX7_raise_237 ?_
      refine r_callVv (Wd := mW ad cI cZ) (C := RX7) [.int ((S10.1 6) - 1)] [] ⟨hx, hb, hml, hown, hts⟩ (kX7_give l D ad cI cZ hDD S10 ((S10.1 6) - 1)) (cwV 1 hts gX7_raise_X7_give rfl rfl rfl (by decide +kernel) ⟨Nat.le_of_ble_eq_true rfl, Nat.le_of_ble_eq_true rfl⟩) (va_recv hK.1 hP (ci := 6) (q0 := 0) rfl rfl) hK hP hS (fun _ h9 => h9) rfl hl.1 rfl (Nat.le_of_ble_eq_true rfl) ⟨Nat.zero_le _, Nat.zero_le _⟩ hE dX7_raise_238 (fun S12 H locs hE hP hS => ?_)
      refine lv_aload_n hx hb dX7_raise_241 rfl (lv_at hl 0 rfl) ?_
      refine va_get (D := D) (ci := 6) (v := .int (S12.1 6)) (C := RX7) (T := TX7) (N := 25) hx hb hts iX7_raise_X7 hown hK.1 hP 0 rfl rfl 15 (by decide) (hts (.fieldLink RX7 79 "BumpheraldModel" "raises" "I") (List.mem_of_getElem? (i := 2) rfl)) (fun _ h9 => h9) rfl dX7_raise_242 ?_
      refine lv_iconst (v := 1) hx hb dX7_raise_245 (by decide) ?_
      refine lv_isub hx hb dX7_raise_246 ?_
      exact k_iret (Wd := mW ad cI cZ) hx hb hr hlk hK hP hS hE dX7_raise_247
    · refine lv_iconst (v := 0) hx hb dX7_raise_153 (by decide) ?_
      exact k_iret (Wd := mW ad cI cZ) hx hb hr hlk hK hP hS hE dX7_raise_154
  have H142 : ∀ (v1 : Int32) (v2 : Int32) (v3 : Int32) (S : St), f7_raise_J142  v1 v2 v3 S = some (So, ro) → ∀ (H : Heap) (locs : List Loc) (ls : Array Slot), va_P D vwCl (mW ad cI cZ S) H → va_S (mA ad) s.heap H locs → lv_has ls 8 [(0, .ref (ad 0)), (1, .int v1), (2, .int v2), (3, .int v3)] → W p l e (headSpec wsX7_raise { frames := 2, cells := 0, slots := 0, locals := 51 }).room s m args below meth c H locs 0 0 (MQ below (kQi D cI cZ (mA ad) (mW ad cI cZ So) ro) args s 0 0 (mA ad)) (F0 m 142 ls [.ref (ad 0)]) := by
    intro v1 v2 v3 S hE H locs ls hP hS hl
    unfold f7_raise_J142 at hE
    refine lv_iconst (v := 3) hx hb dX7_raise_142 (by decide) ?_
    refine lv_goto (tgt := 147) hx hb dX7_raise_143 (by decide) ?_
    exact H147 v1 v2 v3 3 S hE _ _ _ hP hS (lv_sub hl [0, 1, 2, 3] rfl)
  have H52 : ∀ (n52 : Nat) (v1 : Int32) (v2 : Int32) (v3 : Int32) (v4 : Int32) (v5 : Int32) (v6 : Int32) (v7 : Int32) (S : St), f7_raise_L52  n52 v1 v2 v3 v4 v5 v6 v7 S = some (So, ro) → ∀ (H : Heap) (locs : List Loc) (ls : Array Slot), va_P D vwCl (mW ad cI cZ S) H → va_S (mA ad) s.heap H locs → lv_has ls 8 [(0, .ref (ad 0)), (1, .int v1), (2, .int v2), (3, .int v3), (4, .int v4), (5, .int v5), (6, .int v6), (7, .int v7)] → W p l e (headSpec wsX7_raise { frames := 2, cells := 0, slots := 0, locals := 51 }).room s m args below meth c H locs 0 0 (MQ below (kQi D cI cZ (mA ad) (mW ad cI cZ So) ro) args s 0 0 (mA ad)) (F0 m 52 ls []) := by
    intro n52
    induction n52 with
    | zero => intro v1 v2 v3 v4 v5 v6 v7 S hE; exact absurd (show (none : Option (St × Int32)) = some (So, ro) from hE) (fun h => nomatch h)
    | succ n52 ih52 =>
      intro v1 v2 v3 v4 v5 v6 v7 S hE H locs ls hP hS hl
      have hE : f7_raise_L52b  (f7_raise_L52 n52) v1 v2 v3 v4 v5 v6 v7 S = some (So, ro) := hE
      unfold f7_raise_L52b at hE
      refine lv_iload hx hb dX7_raise_52 (lv_at hl 7 rfl) ?_
      refine lv_aload_n hx hb dX7_raise_54 rfl (lv_at hl 0 rfl) ?_
      refine va_get (D := D) (ci := 6) (v := .int (S.1 6)) (C := RX7) (T := TX7) (N := 25) hx hb hts iX7_raise_X7 hown hK.1 hP 0 rfl rfl 15 (by decide) (hts (.fieldLink RX7 79 "BumpheraldModel" "raises" "I") (List.mem_of_getElem? (i := 2) rfl)) (fun _ h9 => h9) rfl dX7_raise_55 ?_
      refine r_icmp_ge (tgt := 100) hx hb dX7_raise_58 (by decide) hE (fun c14 hE => ?_) (fun c14 hE => ?_)
      · refine lv_aload_n hx hb dX7_raise_100 rfl (lv_at hl 0 rfl) ?_
        refine lv_iload hx hb dX7_raise_101 (lv_at hl 4 rfl) ?_
        refine r_if_ne (tgt := 110) hx hb dX7_raise_103 (by decide) hE (fun c15 hE => ?_) (fun c15 hE => ?_)
        · refine lv_iconst (v := 1) hx hb dX7_raise_106 (by decide) ?_
          refine lv_goto (tgt := 147) hx hb dX7_raise_107 (by decide) ?_
          exact H147 v1 v2 v3 1 S hE _ _ _ hP hS (lv_sub hl [0, 1, 2, 3] rfl)
        · refine lv_iload hx hb dX7_raise_110 (lv_at hl 5 rfl) ?_
          refine r_if_ne (tgt := 119) hx hb dX7_raise_112 (by decide) hE (fun c16 hE => ?_) (fun c16 hE => ?_)
          · refine lv_iconst (v := 2) hx hb dX7_raise_115 (by decide) ?_
            refine lv_goto (tgt := 147) hx hb dX7_raise_116 (by decide) ?_
            exact H147 v1 v2 v3 2 S hE _ _ _ hP hS (lv_sub hl [0, 1, 2, 3] rfl)
          · refine lv_iload hx hb dX7_raise_119 (lv_at hl 6 rfl) ?_
            refine r_if_ne (tgt := 142) hx hb dX7_raise_121 (by decide) hE (fun c17 hE => ?_) (fun c17 hE => ?_)
            · refine lv_aload_n hx hb dX7_raise_124 rfl (lv_at hl 0 rfl) ?_
              refine r_callVi (Wd := mW ad cI cZ) (C := RX7) [] [.ref (ad 0)] ⟨hx, hb, hml, hown, hts⟩ (kX7_open l D ad cI cZ hDD S) (cwV 0 hts gX7_raise_X7_open rfl rfl rfl (by decide +kernel) ⟨Nat.le_of_ble_eq_true rfl, Nat.le_of_ble_eq_true rfl⟩) (va_recv hK.1 hP (ci := 6) (q0 := 0) rfl rfl) hK hP hS (fun _ h9 => h9) rfl hl.1 rfl (Nat.le_of_ble_eq_true rfl) ⟨Nat.zero_le _, Nat.zero_le _⟩ hE dX7_raise_125 (fun S19 x18 H locs hE hP hS => ?_)
              refine lv_bipush (v := 10) hx hb dX7_raise_128 (by decide) ?_
              refine r_icmp_eq (tgt := 142) hx hb dX7_raise_130 (by decide) hE (fun c20 hE => ?_) (fun c20 hE => ?_)
              · exact H142 v1 v2 v3 S19 hE _ _ _ hP hS (lv_sub hl [0, 1, 2, 3] rfl)
              · refine lv_aload_n hx hb dX7_raise_133 rfl (lv_at hl 0 rfl) ?_
                refine va_get (D := D) (ci := 6) (v := .int (S19.1 6)) (C := RX7) (T := TX7) (N := 25) hx hb hts iX7_raise_X7 hown hK.1 hP 0 rfl rfl 15 (by decide) (hts (.fieldLink RX7 79 "BumpheraldModel" "raises" "I") (List.mem_of_getElem? (i := 2) rfl)) (fun _ h9 => h9) rfl dX7_raise_134 ?_
                refine lv_bipush (v := 40) hx hb dX7_raise_137 (by decide) ?_
                refine r_icmp_ne (tgt := 146) hx hb dX7_raise_139 (by decide) hE (fun c21 hE => ?_) (fun c21 hE => ?_)
                · exact H142 v1 v2 v3 S19 hE _ _ _ hP hS (lv_sub hl [0, 1, 2, 3] rfl)
                · refine lv_iconst (v := 0) hx hb dX7_raise_146 (by decide) ?_
                  exact H147 v1 v2 v3 0 S19 hE _ _ _ hP hS (lv_sub hl [0, 1, 2, 3] rfl)
            · exact H142 v1 v2 v3 S hE _ _ _ hP hS (lv_sub hl [0, 1, 2, 3] rfl)
      · refine lv_iload hx hb dX7_raise_61 (lv_at hl 6 rfl) ?_
        refine r_if_ne (tgt := 87) hx hb dX7_raise_63 (by decide) hE (fun c23 hE => ?_) (fun c23 hE => ?_)
        · refine lv_aload_n hx hb dX7_raise_66 rfl (lv_at hl 0 rfl) ?_
          refine va_get (D := D) (ci := 6) (v := .ref (ad 10)) (C := RX7) (T := TX7) (N := 25) hx hb hts iX7_raise_X7 hown hK.1 hP 0 rfl rfl 16 (by decide) (hts (.fieldLink RX7 41 "BumpheraldModel" "state" "[I") (List.mem_of_getElem? (i := 3) rfl)) (fun _ h9 => h9) rfl dX7_raise_67 ?_
          refine lv_iload hx hb dX7_raise_70 (lv_at hl 7 rfl) ?_
          refine r_iald (Wd := mW ad cI cZ) (k := 9) (n := 40) hx hb hK hP 10 rfl hE dX7_raise_72 (fun x24 hE => ?_)
          refine r_if_ne (tgt := 91) hx hb dX7_raise_73 (by decide) hE (fun c25 hE => ?_) (fun c25 hE => ?_)
          · refine lv_aload_n hx hb dX7_raise_76 rfl (lv_at hl 0 rfl) ?_
            refine va_get (D := D) (ci := 6) (v := .ref (ad 11)) (C := RX7) (T := TX7) (N := 25) hx hb hts iX7_raise_X7 hown hK.1 hP 0 rfl rfl 17 (by decide) (hts (.fieldLink RX7 44 "BumpheraldModel" "pack" "[I") (List.mem_of_getElem? (i := 4) rfl)) (fun _ h9 => h9) rfl dX7_raise_77 ?_
            refine lv_iload hx hb dX7_raise_80 (lv_at hl 7 rfl) ?_
            refine r_iald (Wd := mW ad cI cZ) (k := 10) (n := 40) hx hb hK hP 11 rfl hE dX7_raise_82 (fun x26 hE => ?_)
            refine lv_iload_n hx hb dX7_raise_83 rfl (lv_at hl 1 rfl) ?_
            refine r_icmp_ne (tgt := 91) hx hb dX7_raise_84 (by decide) hE (fun c27 hE => ?_) (fun c27 hE => ?_)
            · refine lv_iconst (v := 1) hx hb dX7_raise_87 (by decide) ?_
              refine lv_goto (tgt := 92) hx hb dX7_raise_88 (by decide) ?_
              refine lv_istore (lv' := [(6, .int 1), (0, .ref (ad 0)), (1, .int v1), (2, .int v2), (3, .int v3), (4, .int v4), (5, .int v5), (7, .int v7)]) hx hb dX7_raise_92 hl (by decide) rfl (fun ls hl => ?_)
              refine lv_iinc (v := v7 + 1) (lv' := [(7, .int (v7 + 1)), (6, .int 1), (0, .ref (ad 0)), (1, .int v1), (2, .int v2), (3, .int v3), (4, .int v4), (5, .int v5)]) hx hb dX7_raise_94 hl (k := 7) rfl rfl (by decide) rfl (fun ls hl => ?_)
              refine lv_goto (tgt := 52) hx hb dX7_raise_97 (by decide) ?_
              exact ih52 v1 v2 v3 v4 v5 1 (v7 + 1) S hE _ _ _ hP hS (lv_sub hl [2, 3, 4, 5, 6, 7, 1, 0] rfl)
            · refine lv_iconst (v := 0) hx hb dX7_raise_91 (by decide) ?_
              refine lv_istore (lv' := [(6, .int 0), (0, .ref (ad 0)), (1, .int v1), (2, .int v2), (3, .int v3), (4, .int v4), (5, .int v5), (7, .int v7)]) hx hb dX7_raise_92 hl (by decide) rfl (fun ls hl => ?_)
              refine lv_iinc (v := v7 + 1) (lv' := [(7, .int (v7 + 1)), (6, .int 0), (0, .ref (ad 0)), (1, .int v1), (2, .int v2), (3, .int v3), (4, .int v4), (5, .int v5)]) hx hb dX7_raise_94 hl (k := 7) rfl rfl (by decide) rfl (fun ls hl => ?_)
              refine lv_goto (tgt := 52) hx hb dX7_raise_97 (by decide) ?_
              exact ih52 v1 v2 v3 v4 v5 0 (v7 + 1) S hE _ _ _ hP hS (lv_sub hl [2, 3, 4, 5, 6, 7, 1, 0] rfl)
          · refine lv_iconst (v := 0) hx hb dX7_raise_91 (by decide) ?_
            refine lv_istore (lv' := [(6, .int 0), (0, .ref (ad 0)), (1, .int v1), (2, .int v2), (3, .int v3), (4, .int v4), (5, .int v5), (7, .int v7)]) hx hb dX7_raise_92 hl (by decide) rfl (fun ls hl => ?_)
            refine lv_iinc (v := v7 + 1) (lv' := [(7, .int (v7 + 1)), (6, .int 0), (0, .ref (ad 0)), (1, .int v1), (2, .int v2), (3, .int v3), (4, .int v4), (5, .int v5)]) hx hb dX7_raise_94 hl (k := 7) rfl rfl (by decide) rfl (fun ls hl => ?_)
            refine lv_goto (tgt := 52) hx hb dX7_raise_97 (by decide) ?_
            exact ih52 v1 v2 v3 v4 v5 0 (v7 + 1) S hE _ _ _ hP hS (lv_sub hl [2, 3, 4, 5, 6, 7, 1, 0] rfl)
        · refine lv_iconst (v := 1) hx hb dX7_raise_87 (by decide) ?_
          refine lv_goto (tgt := 92) hx hb dX7_raise_88 (by decide) ?_
          refine lv_istore (lv' := [(6, .int 1), (0, .ref (ad 0)), (1, .int v1), (2, .int v2), (3, .int v3), (4, .int v4), (5, .int v5), (7, .int v7)]) hx hb dX7_raise_92 hl (by decide) rfl (fun ls hl => ?_)
          refine lv_iinc (v := v7 + 1) (lv' := [(7, .int (v7 + 1)), (6, .int 1), (0, .ref (ad 0)), (1, .int v1), (2, .int v2), (3, .int v3), (4, .int v4), (5, .int v5)]) hx hb dX7_raise_94 hl (k := 7) rfl rfl (by decide) rfl (fun ls hl => ?_)
          refine lv_goto (tgt := 52) hx hb dX7_raise_97 (by decide) ?_
          exact ih52 v1 v2 v3 v4 v5 1 (v7 + 1) S hE _ _ _ hP hS (lv_sub hl [2, 3, 4, 5, 6, 7, 1, 0] rfl)
  unfold f7_raise at hE
  refine lv_aload_n hx hb dX7_raise_0 rfl (lv_at hl 0 rfl) ?_
  refine lv_iload_n hx hb dX7_raise_1 rfl (lv_at hl 1 rfl) ?_
  refine r_callVi (Wd := mW ad cI cZ) (C := RX7) [.int v1] [] ⟨hx, hb, hml, hown, hts⟩ (kX7_isPack l D ad cI cZ hDD S v1) (cwV 1 hts gX7_raise_X7_isPack rfl rfl rfl (by decide +kernel) ⟨Nat.le_of_ble_eq_true rfl, Nat.le_of_ble_eq_true rfl⟩) (va_recv hK.1 hP (ci := 6) (q0 := 0) rfl rfl) hK hP hS (fun _ h9 => h9) rfl hl.1 rfl (Nat.le_of_ble_eq_true rfl) ⟨Nat.zero_le _, Nat.zero_le _⟩ hE dX7_raise_2 (fun S29 x28 H locs hE hP hS => ?_)
  refine lv_istore (lv' := [(4, .int x28), (0, .ref (ad 0)), (1, .int v1), (2, .int v2), (3, .int v3)]) hx hb dX7_raise_5 hl (by decide) rfl (fun ls hl => ?_)
  refine lv_iload hx hb dX7_raise_7 (lv_at hl 0 rfl) ?_
  refine r_if_eq (tgt := 43) hx hb dX7_raise_9 (by decide) hE (fun c30 hE => ?_) (fun c30 hE => ?_)
  · refine lv_iconst (v := 0) hx hb dX7_raise_43 (by decide) ?_
    refine lv_istore (lv' := [(5, .int 0), (4, .int x28), (0, .ref (ad 0)), (1, .int v1), (2, .int v2), (3, .int v3)]) hx hb dX7_raise_44 hl (by decide) rfl (fun ls hl => ?_)
    refine lv_iconst (v := 0) hx hb dX7_raise_46 (by decide) ?_
    refine lv_istore (lv' := [(6, .int 0), (5, .int 0), (4, .int x28), (0, .ref (ad 0)), (1, .int v1), (2, .int v2), (3, .int v3)]) hx hb dX7_raise_47 hl (by decide) rfl (fun ls hl => ?_)
    refine lv_iconst (v := 0) hx hb dX7_raise_49 (by decide) ?_
    refine lv_istore (lv' := [(7, .int 0), (6, .int 0), (5, .int 0), (4, .int x28), (0, .ref (ad 0)), (1, .int v1), (2, .int v2), (3, .int v3)]) hx hb dX7_raise_50 hl (by decide) rfl (fun ls hl => ?_)
    exact H52 2000 v1 v2 v3 x28 0 0 0 S29 hE _ _ _ hP hS (lv_sub hl [4, 5, 6, 7, 3, 2, 1, 0] rfl)
  · refine lv_iload_n hx hb dX7_raise_12 rfl (lv_at hl 3 rfl) ?_
    refine lv_aload_n hx hb dX7_raise_13 rfl (lv_at hl 1 rfl) ?_
    refine va_get (D := D) (ci := 6) (v := .ref (ad 1)) (C := RX7) (T := TX7) (N := 25) hx hb hts iX7_raise_X7 hown hK.1 hP 0 rfl rfl 3 (by decide) (hts (.fieldLink RX7 7 "BumpheraldModel" "version" "[I") (List.mem_of_getElem? (i := 1) rfl)) (fun _ h9 => h9) rfl dX7_raise_14 ?_
    refine lv_iload_n hx hb dX7_raise_17 rfl (lv_at hl 2 rfl) ?_
    refine r_iald (Wd := mW ad cI cZ) (k := 0) (n := 12) hx hb hK hP 1 rfl hE dX7_raise_18 (fun x31 hE => ?_)
    refine lv_iconst (v := 1) hx hb dX7_raise_19 (by decide) ?_
    refine lv_iadd hx hb dX7_raise_20 ?_
    refine lv_bipush (v := 99) hx hb dX7_raise_21 (by decide) ?_
    refine r_callSi (Wd := mW ad cI cZ) [.int v2, .int (x31 + 1), .int 99] [] ⟨hx, hb, hml, hown, hts⟩ (kX7_in l D ad cI cZ hDD S29 v2 (x31 + 1) 99) (va_cwS 3 hts gX7_raise_X7_in rfl rfl rfl (by decide +kernel) ⟨Nat.le_of_ble_eq_true rfl, Nat.le_of_ble_eq_true rfl⟩) hK hP hS (fun _ h9 => h9) rfl hl.1 rfl (Nat.le_of_ble_eq_true rfl) ⟨Nat.zero_le _, Nat.zero_le _⟩ hE dX7_raise_23 (fun S33 x32 H locs hE hP hS => ?_)
    refine r_if_eq (tgt := 43) hx hb dX7_raise_26 (by decide) hE (fun c34 hE => ?_) (fun c34 hE => ?_)
    · refine lv_iconst (v := 0) hx hb dX7_raise_43 (by decide) ?_
      refine lv_istore (lv' := [(5, .int 0), (4, .int x28), (0, .ref (ad 0)), (1, .int v1), (2, .int v2), (3, .int v3)]) hx hb dX7_raise_44 hl (by decide) rfl (fun ls hl => ?_)
      refine lv_iconst (v := 0) hx hb dX7_raise_46 (by decide) ?_
      refine lv_istore (lv' := [(6, .int 0), (5, .int 0), (4, .int x28), (0, .ref (ad 0)), (1, .int v1), (2, .int v2), (3, .int v3)]) hx hb dX7_raise_47 hl (by decide) rfl (fun ls hl => ?_)
      refine lv_iconst (v := 0) hx hb dX7_raise_49 (by decide) ?_
      refine lv_istore (lv' := [(7, .int 0), (6, .int 0), (5, .int 0), (4, .int x28), (0, .ref (ad 0)), (1, .int v1), (2, .int v2), (3, .int v3)]) hx hb dX7_raise_50 hl (by decide) rfl (fun ls hl => ?_)
      exact H52 2000 v1 v2 v3 x28 0 0 0 S33 hE _ _ _ hP hS (lv_sub hl [4, 5, 6, 7, 3, 2, 1, 0] rfl)
    · refine lv_iload_n hx hb dX7_raise_29 rfl (lv_at hl 4 rfl) ?_
      refine lv_iconst (v := 0) hx hb dX7_raise_30 (by decide) ?_
      refine lv_bipush (v := 9) hx hb dX7_raise_31 (by decide) ?_
      refine r_callSi (Wd := mW ad cI cZ) [.int v3, .int 0, .int 9] [] ⟨hx, hb, hml, hown, hts⟩ (kX7_in l D ad cI cZ hDD S33 v3 0 9) (va_cwS 3 hts gX7_raise_X7_in rfl rfl rfl (by decide +kernel) ⟨Nat.le_of_ble_eq_true rfl, Nat.le_of_ble_eq_true rfl⟩) hK hP hS (fun _ h9 => h9) rfl hl.1 rfl (Nat.le_of_ble_eq_true rfl) ⟨Nat.zero_le _, Nat.zero_le _⟩ hE dX7_raise_33 (fun S36 x35 H locs hE hP hS => ?_)
      refine r_if_eq (tgt := 43) hx hb dX7_raise_36 (by decide) hE (fun c37 hE => ?_) (fun c37 hE => ?_)
      · refine lv_iconst (v := 0) hx hb dX7_raise_43 (by decide) ?_
        refine lv_istore (lv' := [(5, .int 0), (4, .int x28), (0, .ref (ad 0)), (1, .int v1), (2, .int v2), (3, .int v3)]) hx hb dX7_raise_44 hl (by decide) rfl (fun ls hl => ?_)
        refine lv_iconst (v := 0) hx hb dX7_raise_46 (by decide) ?_
        refine lv_istore (lv' := [(6, .int 0), (5, .int 0), (4, .int x28), (0, .ref (ad 0)), (1, .int v1), (2, .int v2), (3, .int v3)]) hx hb dX7_raise_47 hl (by decide) rfl (fun ls hl => ?_)
        refine lv_iconst (v := 0) hx hb dX7_raise_49 (by decide) ?_
        refine lv_istore (lv' := [(7, .int 0), (6, .int 0), (5, .int 0), (4, .int x28), (0, .ref (ad 0)), (1, .int v1), (2, .int v2), (3, .int v3)]) hx hb dX7_raise_50 hl (by decide) rfl (fun ls hl => ?_)
        exact H52 2000 v1 v2 v3 x28 0 0 0 S36 hE _ _ _ hP hS (lv_sub hl [4, 5, 6, 7, 3, 2, 1, 0] rfl)
      · refine lv_iconst (v := 1) hx hb dX7_raise_39 (by decide) ?_
        refine lv_goto (tgt := 44) hx hb dX7_raise_40 (by decide) ?_
        refine lv_istore (lv' := [(5, .int 1), (4, .int x28), (0, .ref (ad 0)), (1, .int v1), (2, .int v2), (3, .int v3)]) hx hb dX7_raise_44 hl (by decide) rfl (fun ls hl => ?_)
        refine lv_iconst (v := 0) hx hb dX7_raise_46 (by decide) ?_
        refine lv_istore (lv' := [(6, .int 0), (5, .int 1), (4, .int x28), (0, .ref (ad 0)), (1, .int v1), (2, .int v2), (3, .int v3)]) hx hb dX7_raise_47 hl (by decide) rfl (fun ls hl => ?_)
        refine lv_iconst (v := 0) hx hb dX7_raise_49 (by decide) ?_
        refine lv_istore (lv' := [(7, .int 0), (6, .int 0), (5, .int 1), (4, .int x28), (0, .ref (ad 0)), (1, .int v1), (2, .int v2), (3, .int v3)]) hx hb dX7_raise_50 hl (by decide) rfl (fun ls hl => ?_)
        exact H52 2000 v1 v2 v3 x28 1 0 0 S36 hE _ _ _ hP hS (lv_sub hl [4, 5, 6, 7, 3, 2, 1, 0] rfl)
theorem iX7_approve_X7 : ∀ w ∈ wsX70, w ∈ wsX7_approve := fun w h => List.mem_cons_of_mem _ (List.mem_append_right _ h)
set_option maxHeartbeats 4000000 in
set_option maxRecDepth 100000 in
theorem kX7_approve (l : Launch) (D : va_G) (ad : Nat → Nat) (cI cZ : ClassId) (hDD : ∀ S, va_D (mA ad) (mW ad cI cZ S)) (S : St) (v1 : Int32) : ∀ So ro, f7_approve S v1 = some (So, ro) → Met l yX7_approve wsX7_approve { frames := 2, cells := 0, slots := 0, locals := 43 } (va_Pc [.ref (ad 0), .int v1] (kPre D cI cZ (mW ad cI cZ S))) (kQi D cI cZ (mA ad) (mW ad cI cZ So) ro) 0 0 (mA ad) := by
  intro So ro hE
  refine kMet_of (by decide) rfl (Nat.le_of_ble_eq_true rfl) ?_
  intro p e s m args below meth c ls hx hb hr hml hown hlk hts hK hP hS hl
  have hl : lv_has ls 4 [(0, .ref (ad 0)), (1, .int v1)] := hl
  have hown : s.vm.findClass RX7 = some m.cls := hown
  have H39 : ∀ (v1 : Int32) (t1 : Int32) (S : St), f7_approve_J39  v1 t1 S = some (So, ro) → ∀ (H : Heap) (locs : List Loc) (ls : Array Slot), va_P D vwCl (mW ad cI cZ S) H → va_S (mA ad) s.heap H locs → lv_has ls 4 [(0, .ref (ad 0)), (1, .int v1)] → W p l e (headSpec wsX7_approve { frames := 2, cells := 0, slots := 0, locals := 43 }).room s m args below meth c H locs 0 0 (MQ below (kQi D cI cZ (mA ad) (mW ad cI cZ So) ro) args s 0 0 (mA ad)) (F0 m 39 ls [.int t1, .ref (ad 0)]) := by
    intro v1 t1 S hE H locs ls hP hS hl
    unfold f7_approve_J39 at hE
    refine r_callVi (Wd := mW ad cI cZ) (C := RX7) [.int t1] [] ⟨hx, hb, hml, hown, hts⟩ (kX7_refused l D ad cI cZ hDD S t1) (cwV 1 hts gX7_approve_X7_refused rfl rfl rfl (by decide +kernel) ⟨Nat.le_of_ble_eq_true rfl, Nat.le_of_ble_eq_true rfl⟩) (va_recv hK.1 hP (ci := 6) (q0 := 0) rfl rfl) hK hP hS (fun _ h9 => h9) rfl hl.1 rfl (Nat.le_of_ble_eq_true rfl) ⟨Nat.zero_le _, Nat.zero_le _⟩ hE dX7_approve_39 (fun S2 x1 H locs hE hP hS => ?_)
    refine r_if_eq (tgt := 47) hx hb dX7_approve_42 (by decide) hE (fun c3 hE => ?_) (fun c3 hE => ?_)
    · refine lv_aload_n hx hb dX7_approve_47 rfl (lv_at hl 0 rfl) ?_
      refine va_get (D := D) (ci := 6) (v := .ref (ad 17)) (C := RX7) (T := TX7) (N := 25) hx hb hts iX7_approve_X7 hown hK.1 hP 0 rfl rfl 23 (by decide) (hts (.fieldLink RX7 62 "BumpheraldModel" "isApproved" "[Z") (List.mem_of_getElem? (i := 3) rfl)) (fun _ h9 => h9) rfl dX7_approve_48 ?_
      refine lv_iload_n hx hb dX7_approve_51 rfl (lv_at hl 1 rfl) ?_
      refine r_zald (Wd := mW ad cI cZ) (k := 16) (n := 40) hx hb hK hP 17 rfl hE dX7_approve_52 (fun x4 hE => ?_)
      refine lv_istore_n (lv' := [(3, .int x4), (0, .ref (ad 0)), (1, .int v1)]) hx hb dX7_approve_53 rfl hl (by decide) rfl (fun ls hl => ?_)
      refine lv_aload_n hx hb dX7_approve_54 rfl (lv_at hl 1 rfl) ?_
      refine va_get (D := D) (ci := 6) (v := .ref (ad 17)) (C := RX7) (T := TX7) (N := 25) hx hb hts iX7_approve_X7 hown hK.1 hP 0 rfl rfl 23 (by decide) (hts (.fieldLink RX7 62 "BumpheraldModel" "isApproved" "[Z") (List.mem_of_getElem? (i := 3) rfl)) (fun _ h9 => h9) rfl dX7_approve_55 ?_
      refine lv_iload_n hx hb dX7_approve_58 rfl (lv_at hl 2 rfl) ?_
      refine lv_iconst (v := 1) hx hb dX7_approve_59 (by decide) ?_
      refine r_zast (Wd := mW ad cI cZ) (k := 16) (n := 40) hx hb hDD hK hP hS 17 rfl (mU16 ..) hE dX7_approve_60 (fun S5 H locs hE hP hS => ?_)
      refine lv_iload_n hx hb dX7_approve_61 rfl (lv_at hl 0 rfl) ?_
      exact k_bret (Wd := mW ad cI cZ) hx hb hr hlk hK hP hS hE dX7_approve_62
    · refine lv_iconst (v := 0) hx hb dX7_approve_45 (by decide) ?_
      exact k_zret (Wd := mW ad cI cZ) hx hb hr hlk (by decide +kernel) hK hP hS hE dX7_approve_46
  have H34 : ∀ (v1 : Int32) (S : St), f7_approve_J34  v1 S = some (So, ro) → ∀ (H : Heap) (locs : List Loc) (ls : Array Slot), va_P D vwCl (mW ad cI cZ S) H → va_S (mA ad) s.heap H locs → lv_has ls 4 [(0, .ref (ad 0)), (1, .int v1)] → W p l e (headSpec wsX7_approve { frames := 2, cells := 0, slots := 0, locals := 43 }).room s m args below meth c H locs 0 0 (MQ below (kQi D cI cZ (mA ad) (mW ad cI cZ So) ro) args s 0 0 (mA ad)) (F0 m 34 ls [.ref (ad 0)]) := by
    intro v1 S hE H locs ls hP hS hl
    unfold f7_approve_J34 at hE
    refine lv_iconst (v := 2) hx hb dX7_approve_34 (by decide) ?_
    refine lv_goto (tgt := 39) hx hb dX7_approve_35 (by decide) ?_
    exact H39 v1 2 S hE _ _ _ hP hS (lv_sub hl [0, 1] rfl)
  unfold f7_approve at hE
  refine lv_aload_n hx hb dX7_approve_0 rfl (lv_at hl 0 rfl) ?_
  refine lv_iload_n hx hb dX7_approve_1 rfl (lv_at hl 1 rfl) ?_
  refine r_callVi (Wd := mW ad cI cZ) (C := RX7) [.int v1] [] ⟨hx, hb, hml, hown, hts⟩ (kX7_isRaise l D ad cI cZ hDD S v1) (cwV 1 hts gX7_approve_X7_isRaise rfl rfl rfl (by decide +kernel) ⟨Nat.le_of_ble_eq_true rfl, Nat.le_of_ble_eq_true rfl⟩) (va_recv hK.1 hP (ci := 6) (q0 := 0) rfl rfl) hK hP hS (fun _ h9 => h9) rfl hl.1 rfl (Nat.le_of_ble_eq_true rfl) ⟨Nat.zero_le _, Nat.zero_le _⟩ hE dX7_approve_2 (fun S8 x7 H locs hE hP hS => ?_)
  refine lv_istore_n (lv' := [(2, .int x7), (0, .ref (ad 0)), (1, .int v1)]) hx hb dX7_approve_5 rfl hl (by decide) rfl (fun ls hl => ?_)
  refine lv_aload_n hx hb dX7_approve_6 rfl (lv_at hl 1 rfl) ?_
  refine lv_iload_n hx hb dX7_approve_7 rfl (lv_at hl 0 rfl) ?_
  refine r_if_ne (tgt := 15) hx hb dX7_approve_8 (by decide) hE (fun c9 hE => ?_) (fun c9 hE => ?_)
  · refine lv_iconst (v := 1) hx hb dX7_approve_11 (by decide) ?_
    refine lv_goto (tgt := 39) hx hb dX7_approve_12 (by decide) ?_
    exact H39 v1 1 S8 hE _ _ _ hP hS (lv_sub hl [1, 2] rfl)
  · refine lv_aload_n hx hb dX7_approve_15 rfl (lv_at hl 1 rfl) ?_
    refine va_get (D := D) (ci := 6) (v := .ref (ad 10)) (C := RX7) (T := TX7) (N := 25) hx hb hts iX7_approve_X7 hown hK.1 hP 0 rfl rfl 16 (by decide) (hts (.fieldLink RX7 41 "BumpheraldModel" "state" "[I") (List.mem_of_getElem? (i := 1) rfl)) (fun _ h9 => h9) rfl dX7_approve_16 ?_
    refine lv_iload_n hx hb dX7_approve_19 rfl (lv_at hl 2 rfl) ?_
    refine r_iald (Wd := mW ad cI cZ) (k := 9) (n := 40) hx hb hK hP 10 rfl hE dX7_approve_20 (fun x10 hE => ?_)
    refine r_if_ne (tgt := 34) hx hb dX7_approve_21 (by decide) hE (fun c11 hE => ?_) (fun c11 hE => ?_)
    · refine lv_aload_n hx hb dX7_approve_24 rfl (lv_at hl 1 rfl) ?_
      refine va_get (D := D) (ci := 6) (v := .ref (ad 16)) (C := RX7) (T := TX7) (N := 25) hx hb hts iX7_approve_X7 hown hK.1 hP 0 rfl rfl 22 (by decide) (hts (.fieldLink RX7 59 "BumpheraldModel" "reviewer" "[I") (List.mem_of_getElem? (i := 2) rfl)) (fun _ h9 => h9) rfl dX7_approve_25 ?_
      refine lv_iload_n hx hb dX7_approve_28 rfl (lv_at hl 2 rfl) ?_
      refine r_iald (Wd := mW ad cI cZ) (k := 15) (n := 40) hx hb hK hP 16 rfl hE dX7_approve_29 (fun x12 hE => ?_)
      refine lv_iconst (v := -1) hx hb dX7_approve_30 (by decide) ?_
      refine r_icmp_ne (tgt := 38) hx hb dX7_approve_31 (by decide) hE (fun c13 hE => ?_) (fun c13 hE => ?_)
      · exact H34 v1 S8 hE _ _ _ hP hS (lv_sub hl [1, 2] rfl)
      · refine lv_iconst (v := 0) hx hb dX7_approve_38 (by decide) ?_
        exact H39 v1 0 S8 hE _ _ _ hP hS (lv_sub hl [1, 2] rfl)
    · exact H34 v1 S8 hE _ _ _ hP hS (lv_sub hl [1, 2] rfl)
theorem iX7_landable_X7 : ∀ w ∈ wsX70, w ∈ wsX7_landable := fun w h => List.mem_cons_of_mem _ (List.mem_append_right _ h)
set_option maxHeartbeats 4000000 in
set_option maxRecDepth 100000 in
theorem kX7_landable (l : Launch) (D : va_G) (ad : Nat → Nat) (cI cZ : ClassId) (hDD : ∀ S, va_D (mA ad) (mW ad cI cZ S)) (S : St) (v1 : Int32) : ∀ So ro, f7_landable S v1 = some (So, ro) → Met l yX7_landable wsX7_landable { frames := 3, cells := 0, slots := 0, locals := 67 } (va_Pc [.ref (ad 0), .int v1] (kPre D cI cZ (mW ad cI cZ S))) (kQi D cI cZ (mA ad) (mW ad cI cZ So) ro) 0 0 (mA ad) := by
  intro So ro hE
  refine kMet_of (by decide) rfl (Nat.le_of_ble_eq_true rfl) ?_
  intro p e s m args below meth c ls hx hb hr hml hown hlk hts hK hP hS hl
  have hl : lv_has ls 5 [(0, .ref (ad 0)), (1, .int v1)] := hl
  have hown : s.vm.findClass RX7 = some m.cls := hown
  have H17 : ∀ (n17 : Nat) (v1 : Int32) (v2 : Int32) (v3 : Int32) (S : St), f7_landable_L17  n17 v1 v2 v3 S = some (So, ro) → ∀ (H : Heap) (locs : List Loc) (ls : Array Slot), va_P D vwCl (mW ad cI cZ S) H → va_S (mA ad) s.heap H locs → lv_has ls 5 [(0, .ref (ad 0)), (1, .int v1), (2, .int v2), (3, .int v3)] → W p l e (headSpec wsX7_landable { frames := 3, cells := 0, slots := 0, locals := 67 }).room s m args below meth c H locs 0 0 (MQ below (kQi D cI cZ (mA ad) (mW ad cI cZ So) ro) args s 0 0 (mA ad)) (F0 m 17 ls []) := by
    intro n17
    induction n17 with
    | zero => intro v1 v2 v3 S hE; exact absurd (show (none : Option (St × Int32)) = some (So, ro) from hE) (fun h => nomatch h)
    | succ n17 ih17 =>
      have H66 : ∀ (n66 : Nat) (v1 : Int32) (v2 : Int32) (v3 : Int32) (v4 : Int32) (S : St), f7_landable_L66 (f7_landable_L17 n17) n66 v1 v2 v3 v4 S = some (So, ro) → ∀ (H : Heap) (locs : List Loc) (ls : Array Slot), va_P D vwCl (mW ad cI cZ S) H → va_S (mA ad) s.heap H locs → lv_has ls 5 [(0, .ref (ad 0)), (1, .int v1), (2, .int v2), (3, .int v3), (4, .int v4)] → W p l e (headSpec wsX7_landable { frames := 3, cells := 0, slots := 0, locals := 67 }).room s m args below meth c H locs 0 0 (MQ below (kQi D cI cZ (mA ad) (mW ad cI cZ So) ro) args s 0 0 (mA ad)) (F0 m 66 ls []) := by
        intro n66
        induction n66 with
        | zero => intro v1 v2 v3 v4 S hE; exact absurd (show (none : Option (St × Int32)) = some (So, ro) from hE) (fun h => nomatch h)
        | succ n66 ih66 =>
          intro v1 v2 v3 v4 S hE H locs ls hP hS hl
          have hE : f7_landable_L66b (f7_landable_L17 n17) (f7_landable_L66 (f7_landable_L17 n17) n66) v1 v2 v3 v4 S = some (So, ro) := hE
          unfold f7_landable_L66b at hE
          refine lv_iload hx hb dX7_landable_66 (lv_at hl 4 rfl) ?_
          refine lv_aload_n hx hb dX7_landable_68 rfl (lv_at hl 0 rfl) ?_
          refine va_get (D := D) (ci := 6) (v := .int (S.1 5)) (C := RX7) (T := TX7) (N := 25) hx hb hts iX7_landable_X7 hown hK.1 hP 0 rfl rfl 11 (by decide) (hts (.fieldLink RX7 98 "BumpheraldModel" "freezes" "I") (List.mem_of_getElem? (i := 5) rfl)) (fun _ h9 => h9) rfl dX7_landable_69 ?_
          refine r_icmp_ge (tgt := 135) hx hb dX7_landable_72 (by decide) hE (fun c1 hE => ?_) (fun c1 hE => ?_)
          · refine lv_iinc (v := v3 + 1) (lv' := [(3, .int (v3 + 1)), (0, .ref (ad 0)), (1, .int v1), (2, .int v2), (4, .int v4)]) hx hb dX7_landable_135 hl (k := 3) rfl rfl (by decide) rfl (fun ls hl => ?_)
            refine lv_goto (tgt := 17) hx hb dX7_landable_138 (by decide) ?_
            exact ih17 v1 v2 (v3 + 1) S hE _ _ _ hP hS (lv_sub hl [1, 2, 3, 0] rfl)
          · refine lv_iload_n hx hb dX7_landable_75 rfl (lv_at hl 2 rfl) ?_
            refine r_if_eq (tgt := 127) hx hb dX7_landable_76 (by decide) hE (fun c2 hE => ?_) (fun c2 hE => ?_)
            · refine lv_iconst (v := 0) hx hb dX7_landable_127 (by decide) ?_
              refine lv_istore_n (lv' := [(2, .int 0), (0, .ref (ad 0)), (1, .int v1), (3, .int v3), (4, .int v4)]) hx hb dX7_landable_128 rfl hl (by decide) rfl (fun ls hl => ?_)
              refine lv_iinc (v := v4 + 1) (lv' := [(4, .int (v4 + 1)), (2, .int 0), (0, .ref (ad 0)), (1, .int v1), (3, .int v3)]) hx hb dX7_landable_129 hl (k := 4) rfl rfl (by decide) rfl (fun ls hl => ?_)
              refine lv_goto (tgt := 66) hx hb dX7_landable_132 (by decide) ?_
              exact ih66 v1 0 v3 (v4 + 1) S hE _ _ _ hP hS (lv_sub hl [2, 3, 1, 4, 0] rfl)
            · refine lv_aload_n hx hb dX7_landable_79 rfl (lv_at hl 0 rfl) ?_
              refine va_get (D := D) (ci := 6) (v := .int (S.1 1)) (C := RX7) (T := TX7) (N := 25) hx hb hts iX7_landable_X7 hown hK.1 hP 0 rfl rfl 1 (by decide) (hts (.fieldLink RX7 123 "BumpheraldModel" "day" "I") (List.mem_of_getElem? (i := 6) rfl)) (fun _ h9 => h9) rfl dX7_landable_80 ?_
              refine lv_aload_n hx hb dX7_landable_83 rfl (lv_at hl 0 rfl) ?_
              refine va_get (D := D) (ci := 6) (v := .ref (ad 8)) (C := RX7) (T := TX7) (N := 25) hx hb hts iX7_landable_X7 hown hK.1 hP 0 rfl rfl 13 (by decide) (hts (.fieldLink RX7 35 "BumpheraldModel" "from" "[I") (List.mem_of_getElem? (i := 7) rfl)) (fun _ h9 => h9) rfl dX7_landable_84 ?_
              refine lv_iload hx hb dX7_landable_87 (lv_at hl 4 rfl) ?_
              refine r_iald (Wd := mW ad cI cZ) (k := 7) (n := 10) hx hb hK hP 8 rfl hE dX7_landable_89 (fun x3 hE => ?_)
              refine lv_aload_n hx hb dX7_landable_90 rfl (lv_at hl 0 rfl) ?_
              refine va_get (D := D) (ci := 6) (v := .ref (ad 9)) (C := RX7) (T := TX7) (N := 25) hx hb hts iX7_landable_X7 hown hK.1 hP 0 rfl rfl 14 (by decide) (hts (.fieldLink RX7 38 "BumpheraldModel" "to" "[I") (List.mem_of_getElem? (i := 8) rfl)) (fun _ h9 => h9) rfl dX7_landable_91 ?_
              refine lv_iload hx hb dX7_landable_94 (lv_at hl 4 rfl) ?_
              refine r_iald (Wd := mW ad cI cZ) (k := 8) (n := 10) hx hb hK hP 9 rfl hE dX7_landable_96 (fun x4 hE => ?_)
              refine r_callSi (Wd := mW ad cI cZ) [.int (S.1 1), .int x3, .int x4] [] ⟨hx, hb, hml, hown, hts⟩ (kX7_in l D ad cI cZ hDD S (S.1 1) x3 x4) (va_cwS 3 hts gX7_landable_X7_in rfl rfl rfl (by decide +kernel) ⟨Nat.le_of_ble_eq_true rfl, Nat.le_of_ble_eq_true rfl⟩) hK hP hS (fun _ h9 => h9) rfl hl.1 rfl (Nat.le_of_ble_eq_true rfl) ⟨Nat.zero_le _, Nat.zero_le _⟩ hE dX7_landable_97 (fun S6 x5 H locs hE hP hS => ?_)
              refine r_if_eq (tgt := 123) hx hb dX7_landable_100 (by decide) hE (fun c7 hE => ?_) (fun c7 hE => ?_)
              · refine lv_iconst (v := 1) hx hb dX7_landable_123 (by decide) ?_
                refine lv_goto (tgt := 128) hx hb dX7_landable_124 (by decide) ?_
                refine lv_istore_n (lv' := [(2, .int 1), (0, .ref (ad 0)), (1, .int v1), (3, .int v3), (4, .int v4)]) hx hb dX7_landable_128 rfl hl (by decide) rfl (fun ls hl => ?_)
                refine lv_iinc (v := v4 + 1) (lv' := [(4, .int (v4 + 1)), (2, .int 1), (0, .ref (ad 0)), (1, .int v1), (3, .int v3)]) hx hb dX7_landable_129 hl (k := 4) rfl rfl (by decide) rfl (fun ls hl => ?_)
                refine lv_goto (tgt := 66) hx hb dX7_landable_132 (by decide) ?_
                exact ih66 v1 1 v3 (v4 + 1) S6 hE _ _ _ hP hS (lv_sub hl [2, 3, 1, 4, 0] rfl)
              · refine lv_aload_n hx hb dX7_landable_103 rfl (lv_at hl 0 rfl) ?_
                refine va_get (D := D) (ci := 6) (v := .ref (ad 7)) (C := RX7) (T := TX7) (N := 25) hx hb hts iX7_landable_X7 hown hK.1 hP 0 rfl rfl 12 (by decide) (hts (.fieldLink RX7 32 "BumpheraldModel" "frozen" "[I") (List.mem_of_getElem? (i := 9) rfl)) (fun _ h9 => h9) rfl dX7_landable_104 ?_
                refine lv_iload hx hb dX7_landable_107 (lv_at hl 4 rfl) ?_
                refine r_iald (Wd := mW ad cI cZ) (k := 6) (n := 10) hx hb hK hP 7 rfl hE dX7_landable_109 (fun x8 hE => ?_)
                refine lv_aload_n hx hb dX7_landable_110 rfl (lv_at hl 0 rfl) ?_
                refine va_get (D := D) (ci := 6) (v := .ref (ad 11)) (C := RX7) (T := TX7) (N := 25) hx hb hts iX7_landable_X7 hown hK.1 hP 0 rfl rfl 17 (by decide) (hts (.fieldLink RX7 44 "BumpheraldModel" "pack" "[I") (List.mem_of_getElem? (i := 10) rfl)) (fun _ h9 => h9) rfl dX7_landable_111 ?_
                refine lv_iload_n hx hb dX7_landable_114 rfl (lv_at hl 3 rfl) ?_
                refine r_iald (Wd := mW ad cI cZ) (k := 10) (n := 40) hx hb hK hP 11 rfl hE dX7_landable_115 (fun x9 hE => ?_)
                refine lv_ishr hx hb dX7_landable_116 ?_
                refine lv_iconst (v := 1) hx hb dX7_landable_117 (by decide) ?_
                refine lv_iand hx hb dX7_landable_118 ?_
                refine lv_iconst (v := 1) hx hb dX7_landable_119 (by decide) ?_
                refine r_icmp_eq (tgt := 127) hx hb dX7_landable_120 (by decide) hE (fun c10 hE => ?_) (fun c10 hE => ?_)
                · refine lv_iconst (v := 0) hx hb dX7_landable_127 (by decide) ?_
                  refine lv_istore_n (lv' := [(2, .int 0), (0, .ref (ad 0)), (1, .int v1), (3, .int v3), (4, .int v4)]) hx hb dX7_landable_128 rfl hl (by decide) rfl (fun ls hl => ?_)
                  refine lv_iinc (v := v4 + 1) (lv' := [(4, .int (v4 + 1)), (2, .int 0), (0, .ref (ad 0)), (1, .int v1), (3, .int v3)]) hx hb dX7_landable_129 hl (k := 4) rfl rfl (by decide) rfl (fun ls hl => ?_)
                  refine lv_goto (tgt := 66) hx hb dX7_landable_132 (by decide) ?_
                  exact ih66 v1 0 v3 (v4 + 1) S6 hE _ _ _ hP hS (lv_sub hl [2, 3, 1, 4, 0] rfl)
                · refine lv_iconst (v := 1) hx hb dX7_landable_123 (by decide) ?_
                  refine lv_goto (tgt := 128) hx hb dX7_landable_124 (by decide) ?_
                  refine lv_istore_n (lv' := [(2, .int 1), (0, .ref (ad 0)), (1, .int v1), (3, .int v3), (4, .int v4)]) hx hb dX7_landable_128 rfl hl (by decide) rfl (fun ls hl => ?_)
                  refine lv_iinc (v := v4 + 1) (lv' := [(4, .int (v4 + 1)), (2, .int 1), (0, .ref (ad 0)), (1, .int v1), (3, .int v3)]) hx hb dX7_landable_129 hl (k := 4) rfl rfl (by decide) rfl (fun ls hl => ?_)
                  refine lv_goto (tgt := 66) hx hb dX7_landable_132 (by decide) ?_
                  exact ih66 v1 1 v3 (v4 + 1) S6 hE _ _ _ hP hS (lv_sub hl [2, 3, 1, 4, 0] rfl)
      intro v1 v2 v3 S hE H locs ls hP hS hl
      have hE : f7_landable_L17b  (f7_landable_L17 n17) v1 v2 v3 S = some (So, ro) := hE
      unfold f7_landable_L17b at hE
      refine lv_iload_n hx hb dX7_landable_17 rfl (lv_at hl 3 rfl) ?_
      refine lv_aload_n hx hb dX7_landable_18 rfl (lv_at hl 0 rfl) ?_
      refine va_get (D := D) (ci := 6) (v := .int (S.1 6)) (C := RX7) (T := TX7) (N := 25) hx hb hts iX7_landable_X7 hown hK.1 hP 0 rfl rfl 15 (by decide) (hts (.fieldLink RX7 79 "BumpheraldModel" "raises" "I") (List.mem_of_getElem? (i := 1) rfl)) (fun _ h9 => h9) rfl dX7_landable_19 ?_
      refine r_icmp_ge (tgt := 141) hx hb dX7_landable_22 (by decide) hE (fun c12 hE => ?_) (fun c12 hE => ?_)
      · refine lv_iload_n hx hb dX7_landable_141 rfl (lv_at hl 2 rfl) ?_
        exact k_bret (Wd := mW ad cI cZ) hx hb hr hlk hK hP hS hE dX7_landable_142
      · refine lv_aload_n hx hb dX7_landable_25 rfl (lv_at hl 0 rfl) ?_
        refine va_get (D := D) (ci := 6) (v := .ref (ad 10)) (C := RX7) (T := TX7) (N := 25) hx hb hts iX7_landable_X7 hown hK.1 hP 0 rfl rfl 16 (by decide) (hts (.fieldLink RX7 41 "BumpheraldModel" "state" "[I") (List.mem_of_getElem? (i := 2) rfl)) (fun _ h9 => h9) rfl dX7_landable_26 ?_
        refine lv_iload_n hx hb dX7_landable_29 rfl (lv_at hl 3 rfl) ?_
        refine r_iald (Wd := mW ad cI cZ) (k := 9) (n := 40) hx hb hK hP 10 rfl hE dX7_landable_30 (fun x13 hE => ?_)
        refine r_if_ne (tgt := 135) hx hb dX7_landable_31 (by decide) hE (fun c14 hE => ?_) (fun c14 hE => ?_)
        · refine lv_aload_n hx hb dX7_landable_34 rfl (lv_at hl 0 rfl) ?_
          refine va_get (D := D) (ci := 6) (v := .ref (ad 15)) (C := RX7) (T := TX7) (N := 25) hx hb hts iX7_landable_X7 hown hK.1 hP 0 rfl rfl 21 (by decide) (hts (.fieldLink RX7 56 "BumpheraldModel" "group" "[I") (List.mem_of_getElem? (i := 3) rfl)) (fun _ h9 => h9) rfl dX7_landable_35 ?_
          refine lv_iload_n hx hb dX7_landable_38 rfl (lv_at hl 3 rfl) ?_
          refine r_iald (Wd := mW ad cI cZ) (k := 14) (n := 40) hx hb hK hP 15 rfl hE dX7_landable_39 (fun x15 hE => ?_)
          refine lv_iload_n hx hb dX7_landable_40 rfl (lv_at hl 1 rfl) ?_
          refine r_icmp_ne (tgt := 135) hx hb dX7_landable_41 (by decide) hE (fun c16 hE => ?_) (fun c16 hE => ?_)
          · refine lv_iload_n hx hb dX7_landable_44 rfl (lv_at hl 2 rfl) ?_
            refine r_if_eq (tgt := 61) hx hb dX7_landable_45 (by decide) hE (fun c17 hE => ?_) (fun c17 hE => ?_)
            · refine lv_iconst (v := 0) hx hb dX7_landable_61 (by decide) ?_
              refine lv_istore_n (lv' := [(2, .int 0), (0, .ref (ad 0)), (1, .int v1), (3, .int v3)]) hx hb dX7_landable_62 rfl hl (by decide) rfl (fun ls hl => ?_)
              refine lv_iconst (v := 0) hx hb dX7_landable_63 (by decide) ?_
              refine lv_istore (lv' := [(4, .int 0), (2, .int 0), (0, .ref (ad 0)), (1, .int v1), (3, .int v3)]) hx hb dX7_landable_64 hl (by decide) rfl (fun ls hl => ?_)
              exact H66 2000 v1 0 v3 0 S hE _ _ _ hP hS (lv_sub hl [2, 3, 1, 4, 0] rfl)
            · refine lv_aload_n hx hb dX7_landable_48 rfl (lv_at hl 0 rfl) ?_
              refine va_get (D := D) (ci := 6) (v := .ref (ad 17)) (C := RX7) (T := TX7) (N := 25) hx hb hts iX7_landable_X7 hown hK.1 hP 0 rfl rfl 23 (by decide) (hts (.fieldLink RX7 62 "BumpheraldModel" "isApproved" "[Z") (List.mem_of_getElem? (i := 4) rfl)) (fun _ h9 => h9) rfl dX7_landable_49 ?_
              refine lv_iload_n hx hb dX7_landable_52 rfl (lv_at hl 3 rfl) ?_
              refine r_zald (Wd := mW ad cI cZ) (k := 16) (n := 40) hx hb hK hP 17 rfl hE dX7_landable_53 (fun x18 hE => ?_)
              refine r_if_eq (tgt := 61) hx hb dX7_landable_54 (by decide) hE (fun c19 hE => ?_) (fun c19 hE => ?_)
              · refine lv_iconst (v := 0) hx hb dX7_landable_61 (by decide) ?_
                refine lv_istore_n (lv' := [(2, .int 0), (0, .ref (ad 0)), (1, .int v1), (3, .int v3)]) hx hb dX7_landable_62 rfl hl (by decide) rfl (fun ls hl => ?_)
                refine lv_iconst (v := 0) hx hb dX7_landable_63 (by decide) ?_
                refine lv_istore (lv' := [(4, .int 0), (2, .int 0), (0, .ref (ad 0)), (1, .int v1), (3, .int v3)]) hx hb dX7_landable_64 hl (by decide) rfl (fun ls hl => ?_)
                exact H66 2000 v1 0 v3 0 S hE _ _ _ hP hS (lv_sub hl [2, 3, 1, 4, 0] rfl)
              · refine lv_iconst (v := 1) hx hb dX7_landable_57 (by decide) ?_
                refine lv_goto (tgt := 62) hx hb dX7_landable_58 (by decide) ?_
                refine lv_istore_n (lv' := [(2, .int 1), (0, .ref (ad 0)), (1, .int v1), (3, .int v3)]) hx hb dX7_landable_62 rfl hl (by decide) rfl (fun ls hl => ?_)
                refine lv_iconst (v := 0) hx hb dX7_landable_63 (by decide) ?_
                refine lv_istore (lv' := [(4, .int 0), (2, .int 1), (0, .ref (ad 0)), (1, .int v1), (3, .int v3)]) hx hb dX7_landable_64 hl (by decide) rfl (fun ls hl => ?_)
                exact H66 2000 v1 1 v3 0 S hE _ _ _ hP hS (lv_sub hl [2, 3, 1, 4, 0] rfl)
          · refine lv_iinc (v := v3 + 1) (lv' := [(3, .int (v3 + 1)), (0, .ref (ad 0)), (1, .int v1), (2, .int v2)]) hx hb dX7_landable_135 hl (k := 3) rfl rfl (by decide) rfl (fun ls hl => ?_)
            refine lv_goto (tgt := 17) hx hb dX7_landable_138 (by decide) ?_
            exact ih17 v1 v2 (v3 + 1) S hE _ _ _ hP hS (lv_sub hl [1, 2, 3, 0] rfl)
        · refine lv_iinc (v := v3 + 1) (lv' := [(3, .int (v3 + 1)), (0, .ref (ad 0)), (1, .int v1), (2, .int v2)]) hx hb dX7_landable_135 hl (k := 3) rfl rfl (by decide) rfl (fun ls hl => ?_)
          refine lv_goto (tgt := 17) hx hb dX7_landable_138 (by decide) ?_
          exact ih17 v1 v2 (v3 + 1) S hE _ _ _ hP hS (lv_sub hl [1, 2, 3, 0] rfl)
  unfold f7_landable at hE
  refine lv_aload_n hx hb dX7_landable_0 rfl (lv_at hl 0 rfl) ?_
  refine lv_iload_n hx hb dX7_landable_1 rfl (lv_at hl 1 rfl) ?_
  refine lv_iload_n hx hb dX7_landable_2 rfl (lv_at hl 1 rfl) ?_
  refine r_callVi (Wd := mW ad cI cZ) (C := RX7) [.int v1, .int v1] [] ⟨hx, hb, hml, hown, hts⟩ (kX7_failsWith l D ad cI cZ hDD S v1 v1) (cwV 2 hts gX7_landable_X7_failsWith rfl rfl rfl (by decide +kernel) ⟨Nat.le_of_ble_eq_true rfl, Nat.le_of_ble_eq_true rfl⟩) (va_recv hK.1 hP (ci := 6) (q0 := 0) rfl rfl) hK hP hS (fun _ h9 => h9) rfl hl.1 rfl (Nat.le_of_ble_eq_true rfl) ⟨Nat.zero_le _, Nat.zero_le _⟩ hE dX7_landable_3 (fun S21 x20 H locs hE hP hS => ?_)
  refine r_if_ne (tgt := 13) hx hb dX7_landable_6 (by decide) hE (fun c22 hE => ?_) (fun c22 hE => ?_)
  · refine lv_iconst (v := 1) hx hb dX7_landable_9 (by decide) ?_
    refine lv_goto (tgt := 14) hx hb dX7_landable_10 (by decide) ?_
    refine lv_istore_n (lv' := [(2, .int 1), (0, .ref (ad 0)), (1, .int v1)]) hx hb dX7_landable_14 rfl hl (by decide) rfl (fun ls hl => ?_)
    refine lv_iconst (v := 0) hx hb dX7_landable_15 (by decide) ?_
    refine lv_istore_n (lv' := [(3, .int 0), (2, .int 1), (0, .ref (ad 0)), (1, .int v1)]) hx hb dX7_landable_16 rfl hl (by decide) rfl (fun ls hl => ?_)
    exact H17 2000 v1 1 0 S21 hE _ _ _ hP hS (lv_sub hl [2, 3, 1, 0] rfl)
  · refine lv_iconst (v := 0) hx hb dX7_landable_13 (by decide) ?_
    refine lv_istore_n (lv' := [(2, .int 0), (0, .ref (ad 0)), (1, .int v1)]) hx hb dX7_landable_14 rfl hl (by decide) rfl (fun ls hl => ?_)
    refine lv_iconst (v := 0) hx hb dX7_landable_15 (by decide) ?_
    refine lv_istore_n (lv' := [(3, .int 0), (2, .int 0), (0, .ref (ad 0)), (1, .int v1)]) hx hb dX7_landable_16 rfl hl (by decide) rfl (fun ls hl => ?_)
    exact H17 2000 v1 0 0 S21 hE _ _ _ hP hS (lv_sub hl [2, 3, 1, 0] rfl)
theorem iX7_land_X7 : ∀ w ∈ wsX70, w ∈ wsX7_land := fun w h => List.mem_cons_of_mem _ (List.mem_append_right _ h)
set_option maxHeartbeats 4000000 in
set_option maxRecDepth 100000 in
theorem kX7_land (l : Launch) (D : va_G) (ad : Nat → Nat) (cI cZ : ClassId) (hDD : ∀ S, va_D (mA ad) (mW ad cI cZ S)) (S : St) (v1 : Int32) (v2 : Int32) : ∀ So ro, f7_land S v1 v2 = some (So, ro) → Met l yX7_land wsX7_land { frames := 4, cells := 0, slots := 0, locals := 91 } (va_Pc [.ref (ad 0), .int v1, .int v2] (kPre D cI cZ (mW ad cI cZ S))) (kQi D cI cZ (mA ad) (mW ad cI cZ So) ro) 0 0 (mA ad) := by
  intro So ro hE
  refine kMet_of (by decide) rfl (Nat.le_of_ble_eq_true rfl) ?_
  intro p e s m args below meth c ls hx hb hr hml hown hlk hts hK hP hS hl
  have hl : lv_has ls 9 [(0, .ref (ad 0)), (1, .int v1), (2, .int v2)] := hl
  have hown : s.vm.findClass RX7 = some m.cls := hown
  have H274 : ∀ (n274 : Nat) (v5 : Int32) (v6 : Int64) (v8 : Int32) (S : St), f7_land_L274  n274 v5 v6 v8 S = some (So, ro) → ∀ (H : Heap) (locs : List Loc) (ls : Array Slot), va_P D vwCl (mW ad cI cZ S) H → va_S (mA ad) s.heap H locs → lv_has ls 9 [(0, .ref (ad 0)), (5, .int v5), (6, .long v6), (8, .int v8)] → W p l e (headSpec wsX7_land { frames := 4, cells := 0, slots := 0, locals := 91 }).room s m args below meth c H locs 0 0 (MQ below (kQi D cI cZ (mA ad) (mW ad cI cZ So) ro) args s 0 0 (mA ad)) (F0 m 274 ls []) := by
    intro n274
    induction n274 with
    | zero => intro v5 v6 v8 S hE; exact absurd (show (none : Option (St × Int32)) = some (So, ro) from hE) (fun h => nomatch h)
    | succ n274 ih274 =>
      intro v5 v6 v8 S hE H locs ls hP hS hl
      have hE : f7_land_L274b  (f7_land_L274 n274) v5 v6 v8 S = some (So, ro) := hE
      unfold f7_land_L274b at hE
      refine lv_iload hx hb dX7_land_274 (lv_at hl 3 rfl) ?_
      refine lv_aload_n hx hb dX7_land_276 rfl (lv_at hl 0 rfl) ?_
      refine va_get (D := D) (ci := 6) (v := .int (S.1 6)) (C := RX7) (T := TX7) (N := 25) hx hb hts iX7_land_X7 hown hK.1 hP 0 rfl rfl 15 (by decide) (hts (.fieldLink RX7 79 "BumpheraldModel" "raises" "I") (List.mem_of_getElem? (i := 3) rfl)) (fun _ h9 => h9) rfl dX7_land_277 ?_
      refine r_icmp_ge (tgt := 307) hx hb dX7_land_280 (by decide) hE (fun c1 hE => ?_) (fun c1 hE => ?_)
      · refine lv_iload hx hb dX7_land_307 (lv_at hl 1 rfl) ?_
        exact k_iret (Wd := mW ad cI cZ) hx hb hr hlk hK hP hS hE dX7_land_309
      · refine lv_lload hx hb dX7_land_283 (lv_at hl 2 rfl) ?_
        refine lv_iload hx hb dX7_land_285 (lv_at hl 3 rfl) ?_
        refine lv_lshr (v := v6 >>> (v8.toInt64 &&& 63)) hx hb dX7_land_287 rfl ?_
        refine lv_lconst (v := 1) hx hb dX7_land_288 (by decide) ?_
        refine lv_land hx hb dX7_land_289 ?_
        refine lv_lconst (v := 1) hx hb dX7_land_290 (by decide) ?_
        refine W.lcmp hx hb dX7_land_291 ?_
        refine r_if_ne (tgt := 301) hx hb dX7_land_292 (by decide) hE (fun c2 hE => ?_) (fun c2 hE => ?_)
        · refine lv_aload_n hx hb dX7_land_295 rfl (lv_at hl 0 rfl) ?_
          refine lv_iload hx hb dX7_land_296 (lv_at hl 3 rfl) ?_
          refine r_callVv (Wd := mW ad cI cZ) (C := RX7) [.int v8] [] ⟨hx, hb, hml, hown, hts⟩ (kX7_give l D ad cI cZ hDD S v8) (cwV 1 hts gX7_land_X7_give rfl rfl rfl (by decide +kernel) ⟨Nat.le_of_ble_eq_true rfl, Nat.le_of_ble_eq_true rfl⟩) (va_recv hK.1 hP (ci := 6) (q0 := 0) rfl rfl) hK hP hS (fun _ h9 => h9) rfl hl.1 rfl (Nat.le_of_ble_eq_true rfl) ⟨Nat.zero_le _, Nat.zero_le _⟩ hE dX7_land_298 (fun S4 H locs hE hP hS => ?_)
          refine lv_iinc (v := v8 + 1) (lv' := [(8, .int (v8 + 1)), (0, .ref (ad 0)), (5, .int v5), (6, .long v6)]) hx hb dX7_land_301 hl (k := 3) rfl rfl (by decide) rfl (fun ls hl => ?_)
          refine lv_goto (tgt := 274) hx hb dX7_land_304 (by decide) ?_
          exact ih274 v5 v6 (v8 + 1) S4 hE _ _ _ hP hS (lv_sub hl [1, 2, 3, 0] rfl)
        · refine lv_iinc (v := v8 + 1) (lv' := [(8, .int (v8 + 1)), (0, .ref (ad 0)), (5, .int v5), (6, .long v6)]) hx hb dX7_land_301 hl (k := 3) rfl rfl (by decide) rfl (fun ls hl => ?_)
          refine lv_goto (tgt := 274) hx hb dX7_land_304 (by decide) ?_
          exact ih274 v5 v6 (v8 + 1) S hE _ _ _ hP hS (lv_sub hl [1, 2, 3, 0] rfl)
  have H220 : ∀ (n220 : Nat) (v4 : Int32) (v5 : Int32) (v6 : Int64) (v8 : Int32) (S : St), f7_land_L220  n220 v4 v5 v6 v8 S = some (So, ro) → ∀ (H : Heap) (locs : List Loc) (ls : Array Slot), va_P D vwCl (mW ad cI cZ S) H → va_S (mA ad) s.heap H locs → lv_has ls 9 [(0, .ref (ad 0)), (4, .int v4), (5, .int v5), (6, .long v6), (8, .int v8)] → W p l e (headSpec wsX7_land { frames := 4, cells := 0, slots := 0, locals := 91 }).room s m args below meth c H locs 0 0 (MQ below (kQi D cI cZ (mA ad) (mW ad cI cZ So) ro) args s 0 0 (mA ad)) (F0 m 220 ls []) := by
    intro n220
    induction n220 with
    | zero => intro v4 v5 v6 v8 S hE; exact absurd (show (none : Option (St × Int32)) = some (So, ro) from hE) (fun h => nomatch h)
    | succ n220 ih220 =>
      intro v4 v5 v6 v8 S hE H locs ls hP hS hl
      have hE : f7_land_L220b  (f7_land_L220 n220) v4 v5 v6 v8 S = some (So, ro) := hE
      unfold f7_land_L220b at hE
      refine lv_iload hx hb dX7_land_220 (lv_at hl 4 rfl) ?_
      refine r_if_lt (tgt := 271) hx hb dX7_land_222 (by decide) hE (fun c5 hE => ?_) (fun c5 hE => ?_)
      · refine lv_iconst (v := 0) hx hb dX7_land_271 (by decide) ?_
        refine lv_istore (lv' := [(8, .int 0), (0, .ref (ad 0)), (4, .int v4), (5, .int v5), (6, .long v6)]) hx hb dX7_land_272 hl (by decide) rfl (fun ls hl => ?_)
        exact H274 2000 v5 v6 0 S hE _ _ _ hP hS (lv_sub hl [1, 3, 4, 0] rfl)
      · refine lv_aload_n hx hb dX7_land_225 rfl (lv_at hl 0 rfl) ?_
        refine va_get (D := D) (ci := 6) (v := .ref (ad 10)) (C := RX7) (T := TX7) (N := 25) hx hb hts iX7_land_X7 hown hK.1 hP 0 rfl rfl 16 (by decide) (hts (.fieldLink RX7 41 "BumpheraldModel" "state" "[I") (List.mem_of_getElem? (i := 1) rfl)) (fun _ h9 => h9) rfl dX7_land_226 ?_
        refine lv_iload hx hb dX7_land_229 (lv_at hl 4 rfl) ?_
        refine r_iald (Wd := mW ad cI cZ) (k := 9) (n := 40) hx hb hK hP 10 rfl hE dX7_land_231 (fun x6 hE => ?_)
        refine r_if_ne (tgt := 265) hx hb dX7_land_232 (by decide) hE (fun c7 hE => ?_) (fun c7 hE => ?_)
        · refine lv_aload_n hx hb dX7_land_235 rfl (lv_at hl 0 rfl) ?_
          refine va_get (D := D) (ci := 6) (v := .ref (ad 15)) (C := RX7) (T := TX7) (N := 25) hx hb hts iX7_land_X7 hown hK.1 hP 0 rfl rfl 21 (by decide) (hts (.fieldLink RX7 56 "BumpheraldModel" "group" "[I") (List.mem_of_getElem? (i := 2) rfl)) (fun _ h9 => h9) rfl dX7_land_236 ?_
          refine lv_iload hx hb dX7_land_239 (lv_at hl 4 rfl) ?_
          refine r_iald (Wd := mW ad cI cZ) (k := 14) (n := 40) hx hb hK hP 15 rfl hE dX7_land_241 (fun x8 hE => ?_)
          refine lv_iload hx hb dX7_land_242 (lv_at hl 1 rfl) ?_
          refine r_icmp_ne (tgt := 265) hx hb dX7_land_244 (by decide) hE (fun c9 hE => ?_) (fun c9 hE => ?_)
          · refine lv_aload_n hx hb dX7_land_247 rfl (lv_at hl 0 rfl) ?_
            refine va_get (D := D) (ci := 6) (v := .ref (ad 15)) (C := RX7) (T := TX7) (N := 25) hx hb hts iX7_land_X7 hown hK.1 hP 0 rfl rfl 21 (by decide) (hts (.fieldLink RX7 56 "BumpheraldModel" "group" "[I") (List.mem_of_getElem? (i := 2) rfl)) (fun _ h9 => h9) rfl dX7_land_248 ?_
            refine lv_iload hx hb dX7_land_251 (lv_at hl 4 rfl) ?_
            refine lv_iload hx hb dX7_land_253 (lv_at hl 4 rfl) ?_
            refine r_iast (Wd := mW ad cI cZ) (k := 14) (n := 40) hx hb hDD hK hP hS 15 rfl (mU14 ..) hE dX7_land_255 (fun S10 H locs hE hP hS => ?_)
            refine lv_lload hx hb dX7_land_256 (lv_at hl 3 rfl) ?_
            refine lv_lconst (v := 1) hx hb dX7_land_258 (by decide) ?_
            refine lv_iload hx hb dX7_land_259 (lv_at hl 4 rfl) ?_
            refine lv_lshl (v := (1 : Int64) <<< (v8.toInt64 &&& 63)) hx hb dX7_land_261 rfl ?_
            refine lv_lor hx hb dX7_land_262 ?_
            refine lv_lstore (lv' := [(6, .long (v6 ||| ((1 : Int64) <<< (v8.toInt64 &&& 63)))), (0, .ref (ad 0)), (4, .int v4), (5, .int v5), (8, .int v8)]) hx hb dX7_land_263 hl (by decide) rfl (fun ls hl => ?_)
            refine lv_iinc (v := v8 + (-1)) (lv' := [(8, .int (v8 + (-1))), (6, .long (v6 ||| ((1 : Int64) <<< (v8.toInt64 &&& 63)))), (0, .ref (ad 0)), (4, .int v4), (5, .int v5)]) hx hb dX7_land_265 hl (k := 4) rfl rfl (by decide) rfl (fun ls hl => ?_)
            refine lv_goto (tgt := 220) hx hb dX7_land_268 (by decide) ?_
            exact ih220 v4 v5 (v6 ||| ((1 : Int64) <<< (v8.toInt64 &&& 63))) (v8 + (-1)) S10 hE _ _ _ hP hS (lv_sub hl [2, 3, 4, 1, 0] rfl)
          · refine lv_iinc (v := v8 + (-1)) (lv' := [(8, .int (v8 + (-1))), (0, .ref (ad 0)), (4, .int v4), (5, .int v5), (6, .long v6)]) hx hb dX7_land_265 hl (k := 4) rfl rfl (by decide) rfl (fun ls hl => ?_)
            refine lv_goto (tgt := 220) hx hb dX7_land_268 (by decide) ?_
            exact ih220 v4 v5 v6 (v8 + (-1)) S hE _ _ _ hP hS (lv_sub hl [1, 2, 3, 4, 0] rfl)
        · refine lv_iinc (v := v8 + (-1)) (lv' := [(8, .int (v8 + (-1))), (0, .ref (ad 0)), (4, .int v4), (5, .int v5), (6, .long v6)]) hx hb dX7_land_265 hl (k := 4) rfl rfl (by decide) rfl (fun ls hl => ?_)
          refine lv_goto (tgt := 220) hx hb dX7_land_268 (by decide) ?_
          exact ih220 v4 v5 v6 (v8 + (-1)) S hE _ _ _ hP hS (lv_sub hl [1, 2, 3, 4, 0] rfl)
  have H69 : ∀ (n69 : Nat) (v2 : Int32) (v4 : Int32) (v5 : Int32) (v6 : Int32) (S : St), f7_land_L69  n69 v2 v4 v5 v6 S = some (So, ro) → ∀ (H : Heap) (locs : List Loc) (ls : Array Slot), va_P D vwCl (mW ad cI cZ S) H → va_S (mA ad) s.heap H locs → lv_has ls 9 [(0, .ref (ad 0)), (2, .int v2), (4, .int v4), (5, .int v5), (6, .int v6)] → W p l e (headSpec wsX7_land { frames := 4, cells := 0, slots := 0, locals := 91 }).room s m args below meth c H locs 0 0 (MQ below (kQi D cI cZ (mA ad) (mW ad cI cZ So) ro) args s 0 0 (mA ad)) (F0 m 69 ls []) := by
    intro n69
    induction n69 with
    | zero => intro v2 v4 v5 v6 S hE; exact absurd (show (none : Option (St × Int32)) = some (So, ro) from hE) (fun h => nomatch h)
    | succ n69 ih69 =>
      have H173 : ∀ (v2 : Int32) (v4 : Int32) (v5 : Int32) (v6 : Int32) (S : St), f7_land_J173 (f7_land_L69 n69) v2 v4 v5 v6 S = some (So, ro) → ∀ (H : Heap) (locs : List Loc) (ls : Array Slot), va_P D vwCl (mW ad cI cZ S) H → va_S (mA ad) s.heap H locs → lv_has ls 9 [(0, .ref (ad 0)), (2, .int v2), (4, .int v4), (5, .int v5), (6, .int v6)] → W p l e (headSpec wsX7_land { frames := 4, cells := 0, slots := 0, locals := 91 }).room s m args below meth c H locs 0 0 (MQ below (kQi D cI cZ (mA ad) (mW ad cI cZ So) ro) args s 0 0 (mA ad)) (F0 m 173 ls []) := by
        intro v2 v4 v5 v6 S hE H locs ls hP hS hl
        unfold f7_land_J173 at hE
        refine lv_aload_n hx hb dX7_land_173 rfl (lv_at hl 0 rfl) ?_
        refine va_get (D := D) (ci := 6) (v := .ref (ad 10)) (C := RX7) (T := TX7) (N := 25) hx hb hts iX7_land_X7 hown hK.1 hP 0 rfl rfl 16 (by decide) (hts (.fieldLink RX7 41 "BumpheraldModel" "state" "[I") (List.mem_of_getElem? (i := 1) rfl)) (fun _ h9 => h9) rfl dX7_land_174 ?_
        refine lv_iload hx hb dX7_land_177 (lv_at hl 4 rfl) ?_
        refine r_iald (Wd := mW ad cI cZ) (k := 9) (n := 40) hx hb hK hP 10 rfl hE dX7_land_179 (fun x11 hE => ?_)
        refine r_if_ne (tgt := 203) hx hb dX7_land_180 (by decide) hE (fun c12 hE => ?_) (fun c12 hE => ?_)
        · refine lv_aload_n hx hb dX7_land_183 rfl (lv_at hl 0 rfl) ?_
          refine va_get (D := D) (ci := 6) (v := .ref (ad 15)) (C := RX7) (T := TX7) (N := 25) hx hb hts iX7_land_X7 hown hK.1 hP 0 rfl rfl 21 (by decide) (hts (.fieldLink RX7 56 "BumpheraldModel" "group" "[I") (List.mem_of_getElem? (i := 2) rfl)) (fun _ h9 => h9) rfl dX7_land_184 ?_
          refine lv_iload hx hb dX7_land_187 (lv_at hl 4 rfl) ?_
          refine r_iald (Wd := mW ad cI cZ) (k := 14) (n := 40) hx hb hK hP 15 rfl hE dX7_land_189 (fun x13 hE => ?_)
          refine lv_iload hx hb dX7_land_190 (lv_at hl 2 rfl) ?_
          refine r_icmp_ne (tgt := 203) hx hb dX7_land_192 (by decide) hE (fun c14 hE => ?_) (fun c14 hE => ?_)
          · refine lv_aload_n hx hb dX7_land_195 rfl (lv_at hl 0 rfl) ?_
            refine va_get (D := D) (ci := 6) (v := .ref (ad 17)) (C := RX7) (T := TX7) (N := 25) hx hb hts iX7_land_X7 hown hK.1 hP 0 rfl rfl 23 (by decide) (hts (.fieldLink RX7 62 "BumpheraldModel" "isApproved" "[Z") (List.mem_of_getElem? (i := 7) rfl)) (fun _ h9 => h9) rfl dX7_land_196 ?_
            refine lv_iload hx hb dX7_land_199 (lv_at hl 4 rfl) ?_
            refine lv_iconst (v := 0) hx hb dX7_land_201 (by decide) ?_
            refine r_zast (Wd := mW ad cI cZ) (k := 16) (n := 40) hx hb hDD hK hP hS 17 rfl (mU16 ..) hE dX7_land_202 (fun S15 H locs hE hP hS => ?_)
            refine lv_iinc (v := v6 + 1) (lv' := [(6, .int (v6 + 1)), (0, .ref (ad 0)), (2, .int v2), (4, .int v4), (5, .int v5)]) hx hb dX7_land_203 hl (k := 4) rfl rfl (by decide) rfl (fun ls hl => ?_)
            refine lv_goto (tgt := 69) hx hb dX7_land_206 (by decide) ?_
            exact ih69 v2 v4 v5 (v6 + 1) S15 hE _ _ _ hP hS (lv_sub hl [1, 2, 3, 4, 0] rfl)
          · refine lv_iinc (v := v6 + 1) (lv' := [(6, .int (v6 + 1)), (0, .ref (ad 0)), (2, .int v2), (4, .int v4), (5, .int v5)]) hx hb dX7_land_203 hl (k := 4) rfl rfl (by decide) rfl (fun ls hl => ?_)
            refine lv_goto (tgt := 69) hx hb dX7_land_206 (by decide) ?_
            exact ih69 v2 v4 v5 (v6 + 1) S hE _ _ _ hP hS (lv_sub hl [1, 2, 3, 4, 0] rfl)
        · refine lv_iinc (v := v6 + 1) (lv' := [(6, .int (v6 + 1)), (0, .ref (ad 0)), (2, .int v2), (4, .int v4), (5, .int v5)]) hx hb dX7_land_203 hl (k := 4) rfl rfl (by decide) rfl (fun ls hl => ?_)
          refine lv_goto (tgt := 69) hx hb dX7_land_206 (by decide) ?_
          exact ih69 v2 v4 v5 (v6 + 1) S hE _ _ _ hP hS (lv_sub hl [1, 2, 3, 4, 0] rfl)
      have H134 : ∀ (v2 : Int32) (v4 : Int32) (v5 : Int32) (v6 : Int32) (S : St), f7_land_J134 (f7_land_L69 n69) v2 v4 v5 v6 S = some (So, ro) → ∀ (H : Heap) (locs : List Loc) (ls : Array Slot), va_P D vwCl (mW ad cI cZ S) H → va_S (mA ad) s.heap H locs → lv_has ls 9 [(0, .ref (ad 0)), (2, .int v2), (4, .int v4), (5, .int v5), (6, .int v6)] → W p l e (headSpec wsX7_land { frames := 4, cells := 0, slots := 0, locals := 91 }).room s m args below meth c H locs 0 0 (MQ below (kQi D cI cZ (mA ad) (mW ad cI cZ So) ro) args s 0 0 (mA ad)) (F0 m 134 ls []) := by
        intro v2 v4 v5 v6 S hE H locs ls hP hS hl
        unfold f7_land_J134 at hE
        refine lv_aload_n hx hb dX7_land_134 rfl (lv_at hl 0 rfl) ?_
        refine va_get (D := D) (ci := 6) (v := .ref (ad 10)) (C := RX7) (T := TX7) (N := 25) hx hb hts iX7_land_X7 hown hK.1 hP 0 rfl rfl 16 (by decide) (hts (.fieldLink RX7 41 "BumpheraldModel" "state" "[I") (List.mem_of_getElem? (i := 1) rfl)) (fun _ h9 => h9) rfl dX7_land_135 ?_
        refine lv_iload hx hb dX7_land_138 (lv_at hl 4 rfl) ?_
        refine r_iald (Wd := mW ad cI cZ) (k := 9) (n := 40) hx hb hK hP 10 rfl hE dX7_land_140 (fun x16 hE => ?_)
        refine r_if_ne (tgt := 173) hx hb dX7_land_141 (by decide) hE (fun c17 hE => ?_) (fun c17 hE => ?_)
        · refine lv_aload_n hx hb dX7_land_144 rfl (lv_at hl 0 rfl) ?_
          refine va_get (D := D) (ci := 6) (v := .ref (ad 15)) (C := RX7) (T := TX7) (N := 25) hx hb hts iX7_land_X7 hown hK.1 hP 0 rfl rfl 21 (by decide) (hts (.fieldLink RX7 56 "BumpheraldModel" "group" "[I") (List.mem_of_getElem? (i := 2) rfl)) (fun _ h9 => h9) rfl dX7_land_145 ?_
          refine lv_iload hx hb dX7_land_148 (lv_at hl 4 rfl) ?_
          refine r_iald (Wd := mW ad cI cZ) (k := 14) (n := 40) hx hb hK hP 15 rfl hE dX7_land_150 (fun x18 hE => ?_)
          refine lv_iload hx hb dX7_land_151 (lv_at hl 2 rfl) ?_
          refine r_icmp_ne (tgt := 173) hx hb dX7_land_153 (by decide) hE (fun c19 hE => ?_) (fun c19 hE => ?_)
          · refine lv_iload hx hb dX7_land_156 (lv_at hl 3 rfl) ?_
            refine lv_iconst (v := 1) hx hb dX7_land_158 (by decide) ?_
            refine r_icmp_ne (tgt := 173) hx hb dX7_land_159 (by decide) hE (fun c20 hE => ?_) (fun c20 hE => ?_)
            · refine lv_aload_n hx hb dX7_land_162 rfl (lv_at hl 0 rfl) ?_
              refine va_get (D := D) (ci := 6) (v := .ref (ad 10)) (C := RX7) (T := TX7) (N := 25) hx hb hts iX7_land_X7 hown hK.1 hP 0 rfl rfl 16 (by decide) (hts (.fieldLink RX7 41 "BumpheraldModel" "state" "[I") (List.mem_of_getElem? (i := 1) rfl)) (fun _ h9 => h9) rfl dX7_land_163 ?_
              refine lv_iload hx hb dX7_land_166 (lv_at hl 4 rfl) ?_
              refine lv_iconst (v := 2) hx hb dX7_land_168 (by decide) ?_
              refine r_iast (Wd := mW ad cI cZ) (k := 9) (n := 40) hx hb hDD hK hP hS 10 rfl (mU9 ..) hE dX7_land_169 (fun S21 H locs hE hP hS => ?_)
              refine lv_goto (tgt := 203) hx hb dX7_land_170 (by decide) ?_
              refine lv_iinc (v := v6 + 1) (lv' := [(6, .int (v6 + 1)), (0, .ref (ad 0)), (2, .int v2), (4, .int v4), (5, .int v5)]) hx hb dX7_land_203 hl (k := 4) rfl rfl (by decide) rfl (fun ls hl => ?_)
              refine lv_goto (tgt := 69) hx hb dX7_land_206 (by decide) ?_
              exact ih69 v2 v4 v5 (v6 + 1) S21 hE _ _ _ hP hS (lv_sub hl [1, 2, 3, 4, 0] rfl)
            · exact H173 v2 v4 v5 v6 S hE _ _ _ hP hS (lv_sub hl [0, 1, 2, 3, 4] rfl)
          · exact H173 v2 v4 v5 v6 S hE _ _ _ hP hS (lv_sub hl [0, 1, 2, 3, 4] rfl)
        · exact H173 v2 v4 v5 v6 S hE _ _ _ hP hS (lv_sub hl [0, 1, 2, 3, 4] rfl)
      intro v2 v4 v5 v6 S hE H locs ls hP hS hl
      have hE : f7_land_L69b  (f7_land_L69 n69) v2 v4 v5 v6 S = some (So, ro) := hE
      unfold f7_land_L69b at hE
      refine lv_iload hx hb dX7_land_69 (lv_at hl 4 rfl) ?_
      refine lv_aload_n hx hb dX7_land_71 rfl (lv_at hl 0 rfl) ?_
      refine va_get (D := D) (ci := 6) (v := .int (S.1 6)) (C := RX7) (T := TX7) (N := 25) hx hb hts iX7_land_X7 hown hK.1 hP 0 rfl rfl 15 (by decide) (hts (.fieldLink RX7 79 "BumpheraldModel" "raises" "I") (List.mem_of_getElem? (i := 3) rfl)) (fun _ h9 => h9) rfl dX7_land_72 ?_
      refine r_icmp_ge (tgt := 209) hx hb dX7_land_75 (by decide) hE (fun c22 hE => ?_) (fun c22 hE => ?_)
      · refine lv_lconst (v := 0) hx hb dX7_land_209 (by decide) ?_
        refine lv_lstore (lv' := [(6, .long 0), (0, .ref (ad 0)), (2, .int v2), (4, .int v4), (5, .int v5)]) hx hb dX7_land_210 hl (by decide) rfl (fun ls hl => ?_)
        refine lv_aload_n hx hb dX7_land_212 rfl (lv_at hl 1 rfl) ?_
        refine va_get (D := D) (ci := 6) (v := .int (S.1 6)) (C := RX7) (T := TX7) (N := 25) hx hb hts iX7_land_X7 hown hK.1 hP 0 rfl rfl 15 (by decide) (hts (.fieldLink RX7 79 "BumpheraldModel" "raises" "I") (List.mem_of_getElem? (i := 3) rfl)) (fun _ h9 => h9) rfl dX7_land_213 ?_
        refine lv_iconst (v := 1) hx hb dX7_land_216 (by decide) ?_
        refine lv_isub hx hb dX7_land_217 ?_
        refine lv_istore (lv' := [(8, .int ((S.1 6) - 1)), (6, .long 0), (0, .ref (ad 0)), (2, .int v2), (4, .int v4), (5, .int v5)]) hx hb dX7_land_218 hl (by decide) rfl (fun ls hl => ?_)
        exact H220 2000 v4 v5 0 ((S.1 6) - 1) S hE _ _ _ hP hS (lv_sub hl [2, 4, 5, 1, 0] rfl)
      · refine lv_aload_n hx hb dX7_land_78 rfl (lv_at hl 0 rfl) ?_
        refine va_get (D := D) (ci := 6) (v := .ref (ad 10)) (C := RX7) (T := TX7) (N := 25) hx hb hts iX7_land_X7 hown hK.1 hP 0 rfl rfl 16 (by decide) (hts (.fieldLink RX7 41 "BumpheraldModel" "state" "[I") (List.mem_of_getElem? (i := 1) rfl)) (fun _ h9 => h9) rfl dX7_land_79 ?_
        refine lv_iload hx hb dX7_land_82 (lv_at hl 4 rfl) ?_
        refine r_iald (Wd := mW ad cI cZ) (k := 9) (n := 40) hx hb hK hP 10 rfl hE dX7_land_84 (fun x23 hE => ?_)
        refine r_if_ne (tgt := 134) hx hb dX7_land_85 (by decide) hE (fun c24 hE => ?_) (fun c24 hE => ?_)
        · refine lv_aload_n hx hb dX7_land_88 rfl (lv_at hl 0 rfl) ?_
          refine va_get (D := D) (ci := 6) (v := .ref (ad 15)) (C := RX7) (T := TX7) (N := 25) hx hb hts iX7_land_X7 hown hK.1 hP 0 rfl rfl 21 (by decide) (hts (.fieldLink RX7 56 "BumpheraldModel" "group" "[I") (List.mem_of_getElem? (i := 2) rfl)) (fun _ h9 => h9) rfl dX7_land_89 ?_
          refine lv_iload hx hb dX7_land_92 (lv_at hl 4 rfl) ?_
          refine r_iald (Wd := mW ad cI cZ) (k := 14) (n := 40) hx hb hK hP 15 rfl hE dX7_land_94 (fun x25 hE => ?_)
          refine lv_iload hx hb dX7_land_95 (lv_at hl 2 rfl) ?_
          refine r_icmp_ne (tgt := 134) hx hb dX7_land_97 (by decide) hE (fun c26 hE => ?_) (fun c26 hE => ?_)
          · refine lv_iload_n hx hb dX7_land_100 rfl (lv_at hl 1 rfl) ?_
            refine r_if_eq (tgt := 134) hx hb dX7_land_101 (by decide) hE (fun c27 hE => ?_) (fun c27 hE => ?_)
            · exact H134 v2 v4 v5 v6 S hE _ _ _ hP hS (lv_sub hl [0, 1, 2, 3, 4] rfl)
            · refine lv_aload_n hx hb dX7_land_104 rfl (lv_at hl 0 rfl) ?_
              refine va_get (D := D) (ci := 6) (v := .ref (ad 1)) (C := RX7) (T := TX7) (N := 25) hx hb hts iX7_land_X7 hown hK.1 hP 0 rfl rfl 3 (by decide) (hts (.fieldLink RX7 7 "BumpheraldModel" "version" "[I") (List.mem_of_getElem? (i := 4) rfl)) (fun _ h9 => h9) rfl dX7_land_105 ?_
              refine lv_aload_n hx hb dX7_land_108 rfl (lv_at hl 0 rfl) ?_
              refine va_get (D := D) (ci := 6) (v := .ref (ad 11)) (C := RX7) (T := TX7) (N := 25) hx hb hts iX7_land_X7 hown hK.1 hP 0 rfl rfl 17 (by decide) (hts (.fieldLink RX7 44 "BumpheraldModel" "pack" "[I") (List.mem_of_getElem? (i := 5) rfl)) (fun _ h9 => h9) rfl dX7_land_109 ?_
              refine lv_iload hx hb dX7_land_112 (lv_at hl 4 rfl) ?_
              refine r_iald (Wd := mW ad cI cZ) (k := 10) (n := 40) hx hb hK hP 11 rfl hE dX7_land_114 (fun x28 hE => ?_)
              refine lv_aload_n hx hb dX7_land_115 rfl (lv_at hl 0 rfl) ?_
              refine va_get (D := D) (ci := 6) (v := .ref (ad 12)) (C := RX7) (T := TX7) (N := 25) hx hb hts iX7_land_X7 hown hK.1 hP 0 rfl rfl 18 (by decide) (hts (.fieldLink RX7 47 "BumpheraldModel" "target" "[I") (List.mem_of_getElem? (i := 6) rfl)) (fun _ h9 => h9) rfl dX7_land_116 ?_
              refine lv_iload hx hb dX7_land_119 (lv_at hl 4 rfl) ?_
              refine r_iald (Wd := mW ad cI cZ) (k := 11) (n := 40) hx hb hK hP 12 rfl hE dX7_land_121 (fun x29 hE => ?_)
              refine r_iast (Wd := mW ad cI cZ) (k := 0) (n := 12) hx hb hDD hK hP hS 1 rfl (mU0 ..) hE dX7_land_122 (fun S30 H locs hE hP hS => ?_)
              refine lv_aload_n hx hb dX7_land_123 rfl (lv_at hl 0 rfl) ?_
              refine va_get (D := D) (ci := 6) (v := .ref (ad 10)) (C := RX7) (T := TX7) (N := 25) hx hb hts iX7_land_X7 hown hK.1 hP 0 rfl rfl 16 (by decide) (hts (.fieldLink RX7 41 "BumpheraldModel" "state" "[I") (List.mem_of_getElem? (i := 1) rfl)) (fun _ h9 => h9) rfl dX7_land_124 ?_
              refine lv_iload hx hb dX7_land_127 (lv_at hl 4 rfl) ?_
              refine lv_iconst (v := 1) hx hb dX7_land_129 (by decide) ?_
              refine r_iast (Wd := mW ad cI cZ) (k := 9) (n := 40) hx hb hDD hK hP hS 10 rfl (mU9 ..) hE dX7_land_130 (fun S31 H locs hE hP hS => ?_)
              refine lv_goto (tgt := 203) hx hb dX7_land_131 (by decide) ?_
              refine lv_iinc (v := v6 + 1) (lv' := [(6, .int (v6 + 1)), (0, .ref (ad 0)), (2, .int v2), (4, .int v4), (5, .int v5)]) hx hb dX7_land_203 hl (k := 4) rfl rfl (by decide) rfl (fun ls hl => ?_)
              refine lv_goto (tgt := 69) hx hb dX7_land_206 (by decide) ?_
              exact ih69 v2 v4 v5 (v6 + 1) S31 hE _ _ _ hP hS (lv_sub hl [1, 2, 3, 4, 0] rfl)
          · exact H134 v2 v4 v5 v6 S hE _ _ _ hP hS (lv_sub hl [0, 1, 2, 3, 4] rfl)
        · exact H134 v2 v4 v5 v6 S hE _ _ _ hP hS (lv_sub hl [0, 1, 2, 3, 4] rfl)
  have H42 : ∀ (v1 : Int32) (v2 : Int32) (t1 : Int32) (S : St), f7_land_J42  v1 v2 t1 S = some (So, ro) → ∀ (H : Heap) (locs : List Loc) (ls : Array Slot), va_P D vwCl (mW ad cI cZ S) H → va_S (mA ad) s.heap H locs → lv_has ls 9 [(0, .ref (ad 0)), (1, .int v1), (2, .int v2)] → W p l e (headSpec wsX7_land { frames := 4, cells := 0, slots := 0, locals := 91 }).room s m args below meth c H locs 0 0 (MQ below (kQi D cI cZ (mA ad) (mW ad cI cZ So) ro) args s 0 0 (mA ad)) (F0 m 42 ls [.int t1, .ref (ad 0)]) := by
    intro v1 v2 t1 S hE H locs ls hP hS hl
    unfold f7_land_J42 at hE
    refine r_callVi (Wd := mW ad cI cZ) (C := RX7) [.int t1] [] ⟨hx, hb, hml, hown, hts⟩ (kX7_refused l D ad cI cZ hDD S t1) (cwV 1 hts gX7_land_X7_refused rfl rfl rfl (by decide +kernel) ⟨Nat.le_of_ble_eq_true rfl, Nat.le_of_ble_eq_true rfl⟩) (va_recv hK.1 hP (ci := 6) (q0 := 0) rfl rfl) hK hP hS (fun _ h9 => h9) rfl hl.1 rfl (Nat.le_of_ble_eq_true rfl) ⟨Nat.zero_le _, Nat.zero_le _⟩ hE dX7_land_42 (fun S33 x32 H locs hE hP hS => ?_)
    refine r_if_eq (tgt := 50) hx hb dX7_land_45 (by decide) hE (fun c34 hE => ?_) (fun c34 hE => ?_)
    · refine lv_aload_n hx hb dX7_land_50 rfl (lv_at hl 0 rfl) ?_
      refine va_get (D := D) (ci := 6) (v := .ref (ad 15)) (C := RX7) (T := TX7) (N := 25) hx hb hts iX7_land_X7 hown hK.1 hP 0 rfl rfl 21 (by decide) (hts (.fieldLink RX7 56 "BumpheraldModel" "group" "[I") (List.mem_of_getElem? (i := 2) rfl)) (fun _ h9 => h9) rfl dX7_land_51 ?_
      refine lv_iload_n hx hb dX7_land_54 rfl (lv_at hl 1 rfl) ?_
      refine r_iald (Wd := mW ad cI cZ) (k := 14) (n := 40) hx hb hK hP 15 rfl hE dX7_land_55 (fun x35 hE => ?_)
      refine lv_istore (lv' := [(4, .int x35), (0, .ref (ad 0)), (1, .int v1), (2, .int v2)]) hx hb dX7_land_56 hl (by decide) rfl (fun ls hl => ?_)
      refine lv_aload_n hx hb dX7_land_58 rfl (lv_at hl 1 rfl) ?_
      refine lv_iload hx hb dX7_land_59 (lv_at hl 0 rfl) ?_
      refine r_callVi (Wd := mW ad cI cZ) (C := RX7) [.int x35] [] ⟨hx, hb, hml, hown, hts⟩ (kX7_sizeOf l D ad cI cZ hDD S33 x35) (cwV 1 hts gX7_land_X7_sizeOf rfl rfl rfl (by decide +kernel) ⟨Nat.le_of_ble_eq_true rfl, Nat.le_of_ble_eq_true rfl⟩) (va_recv hK.1 hP (ci := 6) (q0 := 0) rfl rfl) hK hP hS (fun _ h9 => h9) rfl hl.1 rfl (Nat.le_of_ble_eq_true rfl) ⟨Nat.zero_le _, Nat.zero_le _⟩ hE dX7_land_61 (fun S37 x36 H locs hE hP hS => ?_)
      refine lv_istore (lv' := [(5, .int x36), (4, .int x35), (0, .ref (ad 0)), (1, .int v1), (2, .int v2)]) hx hb dX7_land_64 hl (by decide) rfl (fun ls hl => ?_)
      refine lv_iconst (v := 0) hx hb dX7_land_66 (by decide) ?_
      refine lv_istore (lv' := [(6, .int 0), (5, .int x36), (4, .int x35), (0, .ref (ad 0)), (1, .int v1), (2, .int v2)]) hx hb dX7_land_67 hl (by decide) rfl (fun ls hl => ?_)
      exact H69 2000 v2 x35 x36 0 S37 hE _ _ _ hP hS (lv_sub hl [3, 5, 2, 1, 0] rfl)
    · refine lv_iconst (v := 0) hx hb dX7_land_48 (by decide) ?_
      exact k_iret (Wd := mW ad cI cZ) hx hb hr hlk hK hP hS hE dX7_land_49
  have H37 : ∀ (v1 : Int32) (v2 : Int32) (S : St), f7_land_J37  v1 v2 S = some (So, ro) → ∀ (H : Heap) (locs : List Loc) (ls : Array Slot), va_P D vwCl (mW ad cI cZ S) H → va_S (mA ad) s.heap H locs → lv_has ls 9 [(0, .ref (ad 0)), (1, .int v1), (2, .int v2)] → W p l e (headSpec wsX7_land { frames := 4, cells := 0, slots := 0, locals := 91 }).room s m args below meth c H locs 0 0 (MQ below (kQi D cI cZ (mA ad) (mW ad cI cZ So) ro) args s 0 0 (mA ad)) (F0 m 37 ls [.ref (ad 0)]) := by
    intro v1 v2 S hE H locs ls hP hS hl
    unfold f7_land_J37 at hE
    refine lv_iconst (v := 2) hx hb dX7_land_37 (by decide) ?_
    refine lv_goto (tgt := 42) hx hb dX7_land_38 (by decide) ?_
    exact H42 v1 v2 2 S hE _ _ _ hP hS (lv_sub hl [0, 1, 2] rfl)
  unfold f7_land at hE
  refine lv_aload_n hx hb dX7_land_0 rfl (lv_at hl 0 rfl) ?_
  refine lv_iload_n hx hb dX7_land_1 rfl (lv_at hl 1 rfl) ?_
  refine r_callVi (Wd := mW ad cI cZ) (C := RX7) [.int v1] [] ⟨hx, hb, hml, hown, hts⟩ (kX7_isRaise l D ad cI cZ hDD S v1) (cwV 1 hts gX7_land_X7_isRaise rfl rfl rfl (by decide +kernel) ⟨Nat.le_of_ble_eq_true rfl, Nat.le_of_ble_eq_true rfl⟩) (va_recv hK.1 hP (ci := 6) (q0 := 0) rfl rfl) hK hP hS (fun _ h9 => h9) rfl hl.1 rfl (Nat.le_of_ble_eq_true rfl) ⟨Nat.zero_le _, Nat.zero_le _⟩ hE dX7_land_2 (fun S41 x40 H locs hE hP hS => ?_)
  refine lv_istore_n (lv' := [(3, .int x40), (0, .ref (ad 0)), (1, .int v1), (2, .int v2)]) hx hb dX7_land_5 rfl hl (by decide) rfl (fun ls hl => ?_)
  refine lv_aload_n hx hb dX7_land_6 rfl (lv_at hl 1 rfl) ?_
  refine lv_iload_n hx hb dX7_land_7 rfl (lv_at hl 0 rfl) ?_
  refine r_if_ne (tgt := 15) hx hb dX7_land_8 (by decide) hE (fun c42 hE => ?_) (fun c42 hE => ?_)
  · refine lv_iconst (v := 1) hx hb dX7_land_11 (by decide) ?_
    refine lv_goto (tgt := 42) hx hb dX7_land_12 (by decide) ?_
    exact H42 v1 v2 1 S41 hE _ _ _ hP hS (lv_sub hl [1, 2, 3] rfl)
  · refine lv_aload_n hx hb dX7_land_15 rfl (lv_at hl 1 rfl) ?_
    refine va_get (D := D) (ci := 6) (v := .ref (ad 10)) (C := RX7) (T := TX7) (N := 25) hx hb hts iX7_land_X7 hown hK.1 hP 0 rfl rfl 16 (by decide) (hts (.fieldLink RX7 41 "BumpheraldModel" "state" "[I") (List.mem_of_getElem? (i := 1) rfl)) (fun _ h9 => h9) rfl dX7_land_16 ?_
    refine lv_iload_n hx hb dX7_land_19 rfl (lv_at hl 2 rfl) ?_
    refine r_iald (Wd := mW ad cI cZ) (k := 9) (n := 40) hx hb hK hP 10 rfl hE dX7_land_20 (fun x43 hE => ?_)
    refine r_if_ne (tgt := 37) hx hb dX7_land_21 (by decide) hE (fun c44 hE => ?_) (fun c44 hE => ?_)
    · refine lv_aload_n hx hb dX7_land_24 rfl (lv_at hl 1 rfl) ?_
      refine lv_aload_n hx hb dX7_land_25 rfl (lv_at hl 1 rfl) ?_
      refine va_get (D := D) (ci := 6) (v := .ref (ad 15)) (C := RX7) (T := TX7) (N := 25) hx hb hts iX7_land_X7 hown hK.1 hP 0 rfl rfl 21 (by decide) (hts (.fieldLink RX7 56 "BumpheraldModel" "group" "[I") (List.mem_of_getElem? (i := 2) rfl)) (fun _ h9 => h9) rfl dX7_land_26 ?_
      refine lv_iload_n hx hb dX7_land_29 rfl (lv_at hl 2 rfl) ?_
      refine r_iald (Wd := mW ad cI cZ) (k := 14) (n := 40) hx hb hK hP 15 rfl hE dX7_land_30 (fun x45 hE => ?_)
      refine r_callVi (Wd := mW ad cI cZ) (C := RX7) [.int x45] [.ref (ad 0)] ⟨hx, hb, hml, hown, hts⟩ (kX7_landable l D ad cI cZ hDD S41 x45) (cwV 1 hts gX7_land_X7_landable rfl rfl rfl (by decide +kernel) ⟨Nat.le_of_ble_eq_true rfl, Nat.le_of_ble_eq_true rfl⟩) (va_recv hK.1 hP (ci := 6) (q0 := 0) rfl rfl) hK hP hS (fun _ h9 => h9) rfl hl.1 rfl (Nat.le_of_ble_eq_true rfl) ⟨Nat.zero_le _, Nat.zero_le _⟩ hE dX7_land_31 (fun S47 x46 H locs hE hP hS => ?_)
      refine r_if_ne (tgt := 41) hx hb dX7_land_34 (by decide) hE (fun c48 hE => ?_) (fun c48 hE => ?_)
      · exact H37 v1 v2 S47 hE _ _ _ hP hS (lv_sub hl [1, 2, 3] rfl)
      · refine lv_iconst (v := 0) hx hb dX7_land_41 (by decide) ?_
        exact H42 v1 v2 0 S47 hE _ _ _ hP hS (lv_sub hl [1, 2, 3] rfl)
    · exact H37 v1 v2 S41 hE _ _ _ hP hS (lv_sub hl [1, 2, 3] rfl)
theorem iX7_close_X7 : ∀ w ∈ wsX70, w ∈ wsX7_close := fun w h => List.mem_cons_of_mem _ (List.mem_append_right _ h)
set_option maxHeartbeats 4000000 in
set_option maxRecDepth 100000 in
theorem kX7_close (l : Launch) (D : va_G) (ad : Nat → Nat) (cI cZ : ClassId) (hDD : ∀ S, va_D (mA ad) (mW ad cI cZ S)) (S : St) (v1 : Int32) : ∀ So, f7_close S v1 = some So → Met l yX7_close wsX7_close { frames := 3, cells := 0, slots := 0, locals := 74 } (va_Pc [.ref (ad 0), .int v1] (kPre D cI cZ (mW ad cI cZ S))) (kQv D cI cZ (mA ad) (mW ad cI cZ So)) 0 0 (mA ad) := by
  intro So hE
  refine kMet_of (by decide) rfl (Nat.le_of_ble_eq_true rfl) ?_
  intro p e s m args below meth c ls hx hb hr hml hown hlk hts hK hP hS hl
  have hl : lv_has ls 3 [(0, .ref (ad 0)), (1, .int v1)] := hl
  have hown : s.vm.findClass RX7 = some m.cls := hown
  have H29 : ∀ (v1 : Int32) (t1 : Int32) (S : St), f7_close_J29  v1 t1 S = some So → ∀ (H : Heap) (locs : List Loc) (ls : Array Slot), va_P D vwCl (mW ad cI cZ S) H → va_S (mA ad) s.heap H locs → lv_has ls 3 [(0, .ref (ad 0)), (1, .int v1)] → W p l e (headSpec wsX7_close { frames := 3, cells := 0, slots := 0, locals := 74 }).room s m args below meth c H locs 0 0 (MQ below (kQv D cI cZ (mA ad) (mW ad cI cZ So)) args s 0 0 (mA ad)) (F0 m 29 ls [.int t1, .ref (ad 0)]) := by
    intro v1 t1 S hE H locs ls hP hS hl
    unfold f7_close_J29 at hE
    refine r_callVi (Wd := mW ad cI cZ) (C := RX7) [.int t1] [] ⟨hx, hb, hml, hown, hts⟩ (kX7_refused l D ad cI cZ hDD S t1) (cwV 1 hts gX7_close_X7_refused rfl rfl rfl (by decide +kernel) ⟨Nat.le_of_ble_eq_true rfl, Nat.le_of_ble_eq_true rfl⟩) (va_recv hK.1 hP (ci := 6) (q0 := 0) rfl rfl) hK hP hS (fun _ h9 => h9) rfl hl.1 rfl (Nat.le_of_ble_eq_true rfl) ⟨Nat.zero_le _, Nat.zero_le _⟩ hE dX7_close_29 (fun S2 x1 H locs hE hP hS => ?_)
    refine r_if_eq (tgt := 36) hx hb dX7_close_32 (by decide) hE (fun c3 hE => ?_) (fun c3 hE => ?_)
    · refine lv_aload_n hx hb dX7_close_36 rfl (lv_at hl 0 rfl) ?_
      refine va_get (D := D) (ci := 6) (v := .ref (ad 10)) (C := RX7) (T := TX7) (N := 25) hx hb hts iX7_close_X7 hown hK.1 hP 0 rfl rfl 16 (by decide) (hts (.fieldLink RX7 41 "BumpheraldModel" "state" "[I") (List.mem_of_getElem? (i := 1) rfl)) (fun _ h9 => h9) rfl dX7_close_37 ?_
      refine lv_iload_n hx hb dX7_close_40 rfl (lv_at hl 1 rfl) ?_
      refine lv_iconst (v := 3) hx hb dX7_close_41 (by decide) ?_
      refine r_iast (Wd := mW ad cI cZ) (k := 9) (n := 40) hx hb hDD hK hP hS 10 rfl (mU9 ..) hE dX7_close_42 (fun S4 H locs hE hP hS => ?_)
      refine lv_aload_n hx hb dX7_close_43 rfl (lv_at hl 0 rfl) ?_
      refine lv_aload_n hx hb dX7_close_44 rfl (lv_at hl 0 rfl) ?_
      refine va_get (D := D) (ci := 6) (v := .ref (ad 15)) (C := RX7) (T := TX7) (N := 25) hx hb hts iX7_close_X7 hown hK.1 hP 0 rfl rfl 21 (by decide) (hts (.fieldLink RX7 56 "BumpheraldModel" "group" "[I") (List.mem_of_getElem? (i := 2) rfl)) (fun _ h9 => h9) rfl dX7_close_45 ?_
      refine lv_iload_n hx hb dX7_close_48 rfl (lv_at hl 1 rfl) ?_
      refine r_iald (Wd := mW ad cI cZ) (k := 14) (n := 40) hx hb hK hP 15 rfl hE dX7_close_49 (fun x5 hE => ?_)
      refine r_callVv (Wd := mW ad cI cZ) (C := RX7) [.int x5] [] ⟨hx, hb, hml, hown, hts⟩ (kX7_settle l D ad cI cZ hDD S4 x5) (cwV 1 hts gX7_close_X7_settle rfl rfl rfl (by decide +kernel) ⟨Nat.le_of_ble_eq_true rfl, Nat.le_of_ble_eq_true rfl⟩) (va_recv hK.1 hP (ci := 6) (q0 := 0) rfl rfl) hK hP hS (fun _ h9 => h9) rfl hl.1 rfl (Nat.le_of_ble_eq_true rfl) ⟨Nat.zero_le _, Nat.zero_le _⟩ hE dX7_close_50 (fun S7 H locs hE hP hS => ?_)
      exact k_vret (Wd := mW ad cI cZ) hx hb hr hlk hK hP hS hE dX7_close_53
    · exact k_vret (Wd := mW ad cI cZ) hx hb hr hlk hK hP hS hE dX7_close_35
  unfold f7_close at hE
  refine lv_aload_n hx hb dX7_close_0 rfl (lv_at hl 0 rfl) ?_
  refine lv_iload_n hx hb dX7_close_1 rfl (lv_at hl 1 rfl) ?_
  refine r_callVi (Wd := mW ad cI cZ) (C := RX7) [.int v1] [] ⟨hx, hb, hml, hown, hts⟩ (kX7_isRaise l D ad cI cZ hDD S v1) (cwV 1 hts gX7_close_X7_isRaise rfl rfl rfl (by decide +kernel) ⟨Nat.le_of_ble_eq_true rfl, Nat.le_of_ble_eq_true rfl⟩) (va_recv hK.1 hP (ci := 6) (q0 := 0) rfl rfl) hK hP hS (fun _ h9 => h9) rfl hl.1 rfl (Nat.le_of_ble_eq_true rfl) ⟨Nat.zero_le _, Nat.zero_le _⟩ hE dX7_close_2 (fun S10 x9 H locs hE hP hS => ?_)
  refine lv_istore_n (lv' := [(2, .int x9), (0, .ref (ad 0)), (1, .int v1)]) hx hb dX7_close_5 rfl hl (by decide) rfl (fun ls hl => ?_)
  refine lv_aload_n hx hb dX7_close_6 rfl (lv_at hl 1 rfl) ?_
  refine lv_iload_n hx hb dX7_close_7 rfl (lv_at hl 0 rfl) ?_
  refine r_if_ne (tgt := 15) hx hb dX7_close_8 (by decide) hE (fun c11 hE => ?_) (fun c11 hE => ?_)
  · refine lv_iconst (v := 1) hx hb dX7_close_11 (by decide) ?_
    refine lv_goto (tgt := 29) hx hb dX7_close_12 (by decide) ?_
    exact H29 v1 1 S10 hE _ _ _ hP hS (lv_sub hl [1, 2] rfl)
  · refine lv_aload_n hx hb dX7_close_15 rfl (lv_at hl 1 rfl) ?_
    refine va_get (D := D) (ci := 6) (v := .ref (ad 10)) (C := RX7) (T := TX7) (N := 25) hx hb hts iX7_close_X7 hown hK.1 hP 0 rfl rfl 16 (by decide) (hts (.fieldLink RX7 41 "BumpheraldModel" "state" "[I") (List.mem_of_getElem? (i := 1) rfl)) (fun _ h9 => h9) rfl dX7_close_16 ?_
    refine lv_iload_n hx hb dX7_close_19 rfl (lv_at hl 2 rfl) ?_
    refine r_iald (Wd := mW ad cI cZ) (k := 9) (n := 40) hx hb hK hP 10 rfl hE dX7_close_20 (fun x12 hE => ?_)
    refine r_if_eq (tgt := 28) hx hb dX7_close_21 (by decide) hE (fun c13 hE => ?_) (fun c13 hE => ?_)
    · refine lv_iconst (v := 0) hx hb dX7_close_28 (by decide) ?_
      exact H29 v1 0 S10 hE _ _ _ hP hS (lv_sub hl [1, 2] rfl)
    · refine lv_iconst (v := 2) hx hb dX7_close_24 (by decide) ?_
      refine lv_goto (tgt := 29) hx hb dX7_close_25 (by decide) ?_
      exact H29 v1 2 S10 hE _ _ _ hP hS (lv_sub hl [1, 2] rfl)
theorem iX7_oldest_X7 : ∀ w ∈ wsX70, w ∈ wsX7_oldest := fun w h => List.mem_cons_of_mem _ (List.mem_append_right _ h)
set_option maxHeartbeats 4000000 in
set_option maxRecDepth 100000 in
theorem kX7_oldest (l : Launch) (D : va_G) (ad : Nat → Nat) (cI cZ : ClassId) (hDD : ∀ S, va_D (mA ad) (mW ad cI cZ S)) (S : St) (v1 : Int32) : ∀ So ro, f7_oldest S v1 = some (So, ro) → Met l yX7_oldest wsX7_oldest { frames := 0, cells := 0, slots := 0, locals := 0 } (va_Pc [.ref (ad 0), .int v1] (kPre D cI cZ (mW ad cI cZ S))) (kQi D cI cZ (mA ad) (mW ad cI cZ So) ro) 0 0 (mA ad) := by
  intro So ro hE
  refine kMet_of (by decide) rfl (Nat.le_of_ble_eq_true rfl) ?_
  intro p e s m args below meth c ls hx hb hr hml hown hlk hts hK hP hS hl
  have hl : lv_has ls 4 [(0, .ref (ad 0)), (1, .int v1)] := hl
  have hown : s.vm.findClass RX7 = some m.cls := hown
  have H6 : ∀ (n6 : Nat) (v1 : Int32) (v2 : Int32) (v3 : Int32) (S : St), f7_oldest_L6  n6 v1 v2 v3 S = some (So, ro) → ∀ (H : Heap) (locs : List Loc) (ls : Array Slot), va_P D vwCl (mW ad cI cZ S) H → va_S (mA ad) s.heap H locs → lv_has ls 4 [(0, .ref (ad 0)), (1, .int v1), (2, .int v2), (3, .int v3)] → W p l e (headSpec wsX7_oldest { frames := 0, cells := 0, slots := 0, locals := 0 }).room s m args below meth c H locs 0 0 (MQ below (kQi D cI cZ (mA ad) (mW ad cI cZ So) ro) args s 0 0 (mA ad)) (F0 m 6 ls []) := by
    intro n6
    induction n6 with
    | zero => intro v1 v2 v3 S hE; exact absurd (show (none : Option (St × Int32)) = some (So, ro) from hE) (fun h => nomatch h)
    | succ n6 ih6 =>
      intro v1 v2 v3 S hE H locs ls hP hS hl
      have hE : f7_oldest_L6b  (f7_oldest_L6 n6) v1 v2 v3 S = some (So, ro) := hE
      unfold f7_oldest_L6b at hE
      refine lv_iload_n hx hb dX7_oldest_6 rfl (lv_at hl 3 rfl) ?_
      refine lv_aload_n hx hb dX7_oldest_7 rfl (lv_at hl 0 rfl) ?_
      refine va_get (D := D) (ci := 6) (v := .int (S.1 6)) (C := RX7) (T := TX7) (N := 25) hx hb hts iX7_oldest_X7 hown hK.1 hP 0 rfl rfl 15 (by decide) (hts (.fieldLink RX7 79 "BumpheraldModel" "raises" "I") (List.mem_of_getElem? (i := 1) rfl)) (fun _ h9 => h9) rfl dX7_oldest_8 ?_
      refine r_icmp_ge (tgt := 60) hx hb dX7_oldest_11 (by decide) hE (fun c1 hE => ?_) (fun c1 hE => ?_)
      · refine lv_iload_n hx hb dX7_oldest_60 rfl (lv_at hl 2 rfl) ?_
        exact k_iret (Wd := mW ad cI cZ) hx hb hr hlk hK hP hS hE dX7_oldest_61
      · refine lv_aload_n hx hb dX7_oldest_14 rfl (lv_at hl 0 rfl) ?_
        refine va_get (D := D) (ci := 6) (v := .ref (ad 10)) (C := RX7) (T := TX7) (N := 25) hx hb hts iX7_oldest_X7 hown hK.1 hP 0 rfl rfl 16 (by decide) (hts (.fieldLink RX7 41 "BumpheraldModel" "state" "[I") (List.mem_of_getElem? (i := 2) rfl)) (fun _ h9 => h9) rfl dX7_oldest_15 ?_
        refine lv_iload_n hx hb dX7_oldest_18 rfl (lv_at hl 3 rfl) ?_
        refine r_iald (Wd := mW ad cI cZ) (k := 9) (n := 40) hx hb hK hP 10 rfl hE dX7_oldest_19 (fun x2 hE => ?_)
        refine r_if_ne (tgt := 52) hx hb dX7_oldest_20 (by decide) hE (fun c3 hE => ?_) (fun c3 hE => ?_)
        · refine lv_aload_n hx hb dX7_oldest_23 rfl (lv_at hl 0 rfl) ?_
          refine va_get (D := D) (ci := 6) (v := .ref (ad 15)) (C := RX7) (T := TX7) (N := 25) hx hb hts iX7_oldest_X7 hown hK.1 hP 0 rfl rfl 21 (by decide) (hts (.fieldLink RX7 56 "BumpheraldModel" "group" "[I") (List.mem_of_getElem? (i := 3) rfl)) (fun _ h9 => h9) rfl dX7_oldest_24 ?_
          refine lv_iload_n hx hb dX7_oldest_27 rfl (lv_at hl 3 rfl) ?_
          refine r_iald (Wd := mW ad cI cZ) (k := 14) (n := 40) hx hb hK hP 15 rfl hE dX7_oldest_28 (fun x4 hE => ?_)
          refine lv_iload_n hx hb dX7_oldest_29 rfl (lv_at hl 1 rfl) ?_
          refine r_icmp_ne (tgt := 52) hx hb dX7_oldest_30 (by decide) hE (fun c5 hE => ?_) (fun c5 hE => ?_)
          · refine lv_aload_n hx hb dX7_oldest_33 rfl (lv_at hl 0 rfl) ?_
            refine va_get (D := D) (ci := 6) (v := .ref (ad 14)) (C := RX7) (T := TX7) (N := 25) hx hb hts iX7_oldest_X7 hown hK.1 hP 0 rfl rfl 20 (by decide) (hts (.fieldLink RX7 53 "BumpheraldModel" "made" "[I") (List.mem_of_getElem? (i := 4) rfl)) (fun _ h9 => h9) rfl dX7_oldest_34 ?_
            refine lv_iload_n hx hb dX7_oldest_37 rfl (lv_at hl 3 rfl) ?_
            refine r_iald (Wd := mW ad cI cZ) (k := 13) (n := 40) hx hb hK hP 14 rfl hE dX7_oldest_38 (fun x6 hE => ?_)
            refine lv_iload_n hx hb dX7_oldest_39 rfl (lv_at hl 2 rfl) ?_
            refine r_icmp_ge (tgt := 52) hx hb dX7_oldest_40 (by decide) hE (fun c7 hE => ?_) (fun c7 hE => ?_)
            · refine lv_iload_n hx hb dX7_oldest_52 rfl (lv_at hl 2 rfl) ?_
              refine lv_istore_n (lv' := [(2, .int v2), (0, .ref (ad 0)), (1, .int v1), (3, .int v3)]) hx hb dX7_oldest_53 rfl hl (by decide) rfl (fun ls hl => ?_)
              refine lv_iinc (v := v3 + 1) (lv' := [(3, .int (v3 + 1)), (2, .int v2), (0, .ref (ad 0)), (1, .int v1)]) hx hb dX7_oldest_54 hl (k := 3) rfl rfl (by decide) rfl (fun ls hl => ?_)
              refine lv_goto (tgt := 6) hx hb dX7_oldest_57 (by decide) ?_
              exact ih6 v1 v2 (v3 + 1) S hE _ _ _ hP hS (lv_sub hl [2, 3, 1, 0] rfl)
            · refine lv_aload_n hx hb dX7_oldest_43 rfl (lv_at hl 0 rfl) ?_
              refine va_get (D := D) (ci := 6) (v := .ref (ad 14)) (C := RX7) (T := TX7) (N := 25) hx hb hts iX7_oldest_X7 hown hK.1 hP 0 rfl rfl 20 (by decide) (hts (.fieldLink RX7 53 "BumpheraldModel" "made" "[I") (List.mem_of_getElem? (i := 4) rfl)) (fun _ h9 => h9) rfl dX7_oldest_44 ?_
              refine lv_iload_n hx hb dX7_oldest_47 rfl (lv_at hl 3 rfl) ?_
              refine r_iald (Wd := mW ad cI cZ) (k := 13) (n := 40) hx hb hK hP 14 rfl hE dX7_oldest_48 (fun x8 hE => ?_)
              refine lv_goto (tgt := 53) hx hb dX7_oldest_49 (by decide) ?_
              refine lv_istore_n (lv' := [(2, .int x8), (0, .ref (ad 0)), (1, .int v1), (3, .int v3)]) hx hb dX7_oldest_53 rfl hl (by decide) rfl (fun ls hl => ?_)
              refine lv_iinc (v := v3 + 1) (lv' := [(3, .int (v3 + 1)), (2, .int x8), (0, .ref (ad 0)), (1, .int v1)]) hx hb dX7_oldest_54 hl (k := 3) rfl rfl (by decide) rfl (fun ls hl => ?_)
              refine lv_goto (tgt := 6) hx hb dX7_oldest_57 (by decide) ?_
              exact ih6 v1 x8 (v3 + 1) S hE _ _ _ hP hS (lv_sub hl [2, 3, 1, 0] rfl)
          · refine lv_iload_n hx hb dX7_oldest_52 rfl (lv_at hl 2 rfl) ?_
            refine lv_istore_n (lv' := [(2, .int v2), (0, .ref (ad 0)), (1, .int v1), (3, .int v3)]) hx hb dX7_oldest_53 rfl hl (by decide) rfl (fun ls hl => ?_)
            refine lv_iinc (v := v3 + 1) (lv' := [(3, .int (v3 + 1)), (2, .int v2), (0, .ref (ad 0)), (1, .int v1)]) hx hb dX7_oldest_54 hl (k := 3) rfl rfl (by decide) rfl (fun ls hl => ?_)
            refine lv_goto (tgt := 6) hx hb dX7_oldest_57 (by decide) ?_
            exact ih6 v1 v2 (v3 + 1) S hE _ _ _ hP hS (lv_sub hl [2, 3, 1, 0] rfl)
        · refine lv_iload_n hx hb dX7_oldest_52 rfl (lv_at hl 2 rfl) ?_
          refine lv_istore_n (lv' := [(2, .int v2), (0, .ref (ad 0)), (1, .int v1), (3, .int v3)]) hx hb dX7_oldest_53 rfl hl (by decide) rfl (fun ls hl => ?_)
          refine lv_iinc (v := v3 + 1) (lv' := [(3, .int (v3 + 1)), (2, .int v2), (0, .ref (ad 0)), (1, .int v1)]) hx hb dX7_oldest_54 hl (k := 3) rfl rfl (by decide) rfl (fun ls hl => ?_)
          refine lv_goto (tgt := 6) hx hb dX7_oldest_57 (by decide) ?_
          exact ih6 v1 v2 (v3 + 1) S hE _ _ _ hP hS (lv_sub hl [2, 3, 1, 0] rfl)
  unfold f7_oldest at hE
  refine lv_sipush (v := 1000) hx hb dX7_oldest_0 (by decide) ?_
  refine lv_istore_n (lv' := [(2, .int 1000), (0, .ref (ad 0)), (1, .int v1)]) hx hb dX7_oldest_3 rfl hl (by decide) rfl (fun ls hl => ?_)
  refine lv_iconst (v := 0) hx hb dX7_oldest_4 (by decide) ?_
  refine lv_istore_n (lv' := [(3, .int 0), (2, .int 1000), (0, .ref (ad 0)), (1, .int v1)]) hx hb dX7_oldest_5 rfl hl (by decide) rfl (fun ls hl => ?_)
  exact H6 2000 v1 1000 0 S hE _ _ _ hP hS (lv_sub hl [2, 3, 1, 0] rfl)
theorem iX7_wake_X7 : ∀ w ∈ wsX70, w ∈ wsX7_wake := fun w h => List.mem_cons_of_mem _ (List.mem_append_right _ h)
set_option maxHeartbeats 4000000 in
set_option maxRecDepth 100000 in
theorem kX7_wake (l : Launch) (D : va_G) (ad : Nat → Nat) (cI cZ : ClassId) (hDD : ∀ S, va_D (mA ad) (mW ad cI cZ S)) (S : St) (v1 : Int32) : ∀ So, f7_wake S v1 = some So → Met l yX7_wake wsX7_wake { frames := 3, cells := 0, slots := 0, locals := 67 } (va_Pc [.ref (ad 0), .int v1] (kPre D cI cZ (mW ad cI cZ S))) (kQv D cI cZ (mA ad) (mW ad cI cZ So)) 0 0 (mA ad) := by
  intro So hE
  refine kMet_of (by decide) rfl (Nat.le_of_ble_eq_true rfl) ?_
  intro p e s m args below meth c ls hx hb hr hml hown hlk hts hK hP hS hl
  have hl : lv_has ls 7 [(0, .ref (ad 0)), (1, .int v1)] := hl
  have hown : s.vm.findClass RX7 = some m.cls := hown
  have H139 : ∀ (n139 : Nat) (v1 : Int32) (v3 : Int32) (v5 : Int32) (v6 : Int32) (S : St), f7_wake_L139  n139 v1 v3 v5 v6 S = some So → ∀ (H : Heap) (locs : List Loc) (ls : Array Slot), va_P D vwCl (mW ad cI cZ S) H → va_S (mA ad) s.heap H locs → lv_has ls 7 [(0, .ref (ad 0)), (1, .int v1), (3, .int v3), (5, .int v5), (6, .int v6)] → W p l e (headSpec wsX7_wake { frames := 3, cells := 0, slots := 0, locals := 67 }).room s m args below meth c H locs 0 0 (MQ below (kQv D cI cZ (mA ad) (mW ad cI cZ So)) args s 0 0 (mA ad)) (F0 m 139 ls []) := by
    intro n139
    induction n139 with
    | zero => intro v1 v3 v5 v6 S hE; exact absurd (show (none : Option (St)) = some So from hE) (fun h => nomatch h)
    | succ n139 ih139 =>
      intro v1 v3 v5 v6 S hE H locs ls hP hS hl
      have hE : f7_wake_L139b  (f7_wake_L139 n139) v1 v3 v5 v6 S = some So := hE
      unfold f7_wake_L139b at hE
      refine lv_iload hx hb dX7_wake_139 (lv_at hl 4 rfl) ?_
      refine lv_aload_n hx hb dX7_wake_141 rfl (lv_at hl 0 rfl) ?_
      refine va_get (D := D) (ci := 6) (v := .int (S.1 6)) (C := RX7) (T := TX7) (N := 25) hx hb hts iX7_wake_X7 hown hK.1 hP 0 rfl rfl 15 (by decide) (hts (.fieldLink RX7 79 "BumpheraldModel" "raises" "I") (List.mem_of_getElem? (i := 3) rfl)) (fun _ h9 => h9) rfl dX7_wake_142 ?_
      refine r_icmp_ge (tgt := 205) hx hb dX7_wake_145 (by decide) hE (fun c1 hE => ?_) (fun c1 hE => ?_)
      · refine lv_aload_n hx hb dX7_wake_205 rfl (lv_at hl 0 rfl) ?_
        refine lv_iload hx hb dX7_wake_206 (lv_at hl 3 rfl) ?_
        refine r_callVv (Wd := mW ad cI cZ) (C := RX7) [.int v5] [] ⟨hx, hb, hml, hown, hts⟩ (kX7_give l D ad cI cZ hDD S v5) (cwV 1 hts gX7_wake_X7_give rfl rfl rfl (by decide +kernel) ⟨Nat.le_of_ble_eq_true rfl, Nat.le_of_ble_eq_true rfl⟩) (va_recv hK.1 hP (ci := 6) (q0 := 0) rfl rfl) hK hP hS (fun _ h9 => h9) rfl hl.1 rfl (Nat.le_of_ble_eq_true rfl) ⟨Nat.zero_le _, Nat.zero_le _⟩ hE dX7_wake_208 (fun S3 H locs hE hP hS => ?_)
        exact k_vret (Wd := mW ad cI cZ) hx hb hr hlk hK hP hS hE dX7_wake_211
      · refine lv_aload_n hx hb dX7_wake_148 rfl (lv_at hl 0 rfl) ?_
        refine va_get (D := D) (ci := 6) (v := .ref (ad 15)) (C := RX7) (T := TX7) (N := 25) hx hb hts iX7_wake_X7 hown hK.1 hP 0 rfl rfl 21 (by decide) (hts (.fieldLink RX7 56 "BumpheraldModel" "group" "[I") (List.mem_of_getElem? (i := 5) rfl)) (fun _ h9 => h9) rfl dX7_wake_149 ?_
        refine lv_iload hx hb dX7_wake_152 (lv_at hl 4 rfl) ?_
        refine lv_aload_n hx hb dX7_wake_154 rfl (lv_at hl 0 rfl) ?_
        refine va_get (D := D) (ci := 6) (v := .ref (ad 10)) (C := RX7) (T := TX7) (N := 25) hx hb hts iX7_wake_X7 hown hK.1 hP 0 rfl rfl 16 (by decide) (hts (.fieldLink RX7 41 "BumpheraldModel" "state" "[I") (List.mem_of_getElem? (i := 4) rfl)) (fun _ h9 => h9) rfl dX7_wake_155 ?_
        refine lv_iload hx hb dX7_wake_158 (lv_at hl 4 rfl) ?_
        refine r_iald (Wd := mW ad cI cZ) (k := 9) (n := 40) hx hb hK hP 10 rfl hE dX7_wake_160 (fun x4 hE => ?_)
        refine r_if_ne (tgt := 191) hx hb dX7_wake_161 (by decide) hE (fun c5 hE => ?_) (fun c5 hE => ?_)
        · refine lv_aload_n hx hb dX7_wake_164 rfl (lv_at hl 0 rfl) ?_
          refine va_get (D := D) (ci := 6) (v := .ref (ad 15)) (C := RX7) (T := TX7) (N := 25) hx hb hts iX7_wake_X7 hown hK.1 hP 0 rfl rfl 21 (by decide) (hts (.fieldLink RX7 56 "BumpheraldModel" "group" "[I") (List.mem_of_getElem? (i := 5) rfl)) (fun _ h9 => h9) rfl dX7_wake_165 ?_
          refine lv_iload hx hb dX7_wake_168 (lv_at hl 4 rfl) ?_
          refine r_iald (Wd := mW ad cI cZ) (k := 14) (n := 40) hx hb hK hP 15 rfl hE dX7_wake_170 (fun x6 hE => ?_)
          refine lv_iload_n hx hb dX7_wake_171 rfl (lv_at hl 1 rfl) ?_
          refine r_icmp_eq (tgt := 186) hx hb dX7_wake_172 (by decide) hE (fun c7 hE => ?_) (fun c7 hE => ?_)
          · refine lv_iload hx hb dX7_wake_186 (lv_at hl 3 rfl) ?_
            refine lv_goto (tgt := 198) hx hb dX7_wake_188 (by decide) ?_
            refine r_iast (Wd := mW ad cI cZ) (k := 14) (n := 40) hx hb hDD hK hP hS 15 rfl (mU14 ..) hE dX7_wake_198 (fun S8 H locs hE hP hS => ?_)
            refine lv_iinc (v := v6 + 1) (lv' := [(6, .int (v6 + 1)), (0, .ref (ad 0)), (1, .int v1), (3, .int v3), (5, .int v5)]) hx hb dX7_wake_199 hl (k := 4) rfl rfl (by decide) rfl (fun ls hl => ?_)
            refine lv_goto (tgt := 139) hx hb dX7_wake_202 (by decide) ?_
            exact ih139 v1 v3 v5 (v6 + 1) S8 hE _ _ _ hP hS (lv_sub hl [1, 2, 3, 4, 0] rfl)
          · refine lv_aload_n hx hb dX7_wake_175 rfl (lv_at hl 0 rfl) ?_
            refine va_get (D := D) (ci := 6) (v := .ref (ad 15)) (C := RX7) (T := TX7) (N := 25) hx hb hts iX7_wake_X7 hown hK.1 hP 0 rfl rfl 21 (by decide) (hts (.fieldLink RX7 56 "BumpheraldModel" "group" "[I") (List.mem_of_getElem? (i := 5) rfl)) (fun _ h9 => h9) rfl dX7_wake_176 ?_
            refine lv_iload hx hb dX7_wake_179 (lv_at hl 4 rfl) ?_
            refine r_iald (Wd := mW ad cI cZ) (k := 14) (n := 40) hx hb hK hP 15 rfl hE dX7_wake_181 (fun x9 hE => ?_)
            refine lv_iload_n hx hb dX7_wake_182 rfl (lv_at hl 2 rfl) ?_
            refine r_icmp_ne (tgt := 191) hx hb dX7_wake_183 (by decide) hE (fun c10 hE => ?_) (fun c10 hE => ?_)
            · refine lv_iload hx hb dX7_wake_186 (lv_at hl 3 rfl) ?_
              refine lv_goto (tgt := 198) hx hb dX7_wake_188 (by decide) ?_
              refine r_iast (Wd := mW ad cI cZ) (k := 14) (n := 40) hx hb hDD hK hP hS 15 rfl (mU14 ..) hE dX7_wake_198 (fun S11 H locs hE hP hS => ?_)
              refine lv_iinc (v := v6 + 1) (lv' := [(6, .int (v6 + 1)), (0, .ref (ad 0)), (1, .int v1), (3, .int v3), (5, .int v5)]) hx hb dX7_wake_199 hl (k := 4) rfl rfl (by decide) rfl (fun ls hl => ?_)
              refine lv_goto (tgt := 139) hx hb dX7_wake_202 (by decide) ?_
              exact ih139 v1 v3 v5 (v6 + 1) S11 hE _ _ _ hP hS (lv_sub hl [1, 2, 3, 4, 0] rfl)
            · refine lv_aload_n hx hb dX7_wake_191 rfl (lv_at hl 0 rfl) ?_
              refine va_get (D := D) (ci := 6) (v := .ref (ad 15)) (C := RX7) (T := TX7) (N := 25) hx hb hts iX7_wake_X7 hown hK.1 hP 0 rfl rfl 21 (by decide) (hts (.fieldLink RX7 56 "BumpheraldModel" "group" "[I") (List.mem_of_getElem? (i := 5) rfl)) (fun _ h9 => h9) rfl dX7_wake_192 ?_
              refine lv_iload hx hb dX7_wake_195 (lv_at hl 4 rfl) ?_
              refine r_iald (Wd := mW ad cI cZ) (k := 14) (n := 40) hx hb hK hP 15 rfl hE dX7_wake_197 (fun x12 hE => ?_)
              refine r_iast (Wd := mW ad cI cZ) (k := 14) (n := 40) hx hb hDD hK hP hS 15 rfl (mU14 ..) hE dX7_wake_198 (fun S13 H locs hE hP hS => ?_)
              refine lv_iinc (v := v6 + 1) (lv' := [(6, .int (v6 + 1)), (0, .ref (ad 0)), (1, .int v1), (3, .int v3), (5, .int v5)]) hx hb dX7_wake_199 hl (k := 4) rfl rfl (by decide) rfl (fun ls hl => ?_)
              refine lv_goto (tgt := 139) hx hb dX7_wake_202 (by decide) ?_
              exact ih139 v1 v3 v5 (v6 + 1) S13 hE _ _ _ hP hS (lv_sub hl [1, 2, 3, 4, 0] rfl)
        · refine lv_aload_n hx hb dX7_wake_191 rfl (lv_at hl 0 rfl) ?_
          refine va_get (D := D) (ci := 6) (v := .ref (ad 15)) (C := RX7) (T := TX7) (N := 25) hx hb hts iX7_wake_X7 hown hK.1 hP 0 rfl rfl 21 (by decide) (hts (.fieldLink RX7 56 "BumpheraldModel" "group" "[I") (List.mem_of_getElem? (i := 5) rfl)) (fun _ h9 => h9) rfl dX7_wake_192 ?_
          refine lv_iload hx hb dX7_wake_195 (lv_at hl 4 rfl) ?_
          refine r_iald (Wd := mW ad cI cZ) (k := 14) (n := 40) hx hb hK hP 15 rfl hE dX7_wake_197 (fun x14 hE => ?_)
          refine r_iast (Wd := mW ad cI cZ) (k := 14) (n := 40) hx hb hDD hK hP hS 15 rfl (mU14 ..) hE dX7_wake_198 (fun S15 H locs hE hP hS => ?_)
          refine lv_iinc (v := v6 + 1) (lv' := [(6, .int (v6 + 1)), (0, .ref (ad 0)), (1, .int v1), (3, .int v3), (5, .int v5)]) hx hb dX7_wake_199 hl (k := 4) rfl rfl (by decide) rfl (fun ls hl => ?_)
          refine lv_goto (tgt := 139) hx hb dX7_wake_202 (by decide) ?_
          exact ih139 v1 v3 v5 (v6 + 1) S15 hE _ _ _ hP hS (lv_sub hl [1, 2, 3, 4, 0] rfl)
  have H37 : ∀ (n37 : Nat) (v1 : Int32) (v3 : Int32) (v4 : Int32) (v5 : Int32) (S : St), f7_wake_L37  n37 v1 v3 v4 v5 S = some So → ∀ (H : Heap) (locs : List Loc) (ls : Array Slot), va_P D vwCl (mW ad cI cZ S) H → va_S (mA ad) s.heap H locs → lv_has ls 7 [(0, .ref (ad 0)), (1, .int v1), (3, .int v3), (4, .int v4), (5, .int v5)] → W p l e (headSpec wsX7_wake { frames := 3, cells := 0, slots := 0, locals := 67 }).room s m args below meth c H locs 0 0 (MQ below (kQv D cI cZ (mA ad) (mW ad cI cZ So)) args s 0 0 (mA ad)) (F0 m 37 ls []) := by
    intro n37
    induction n37 with
    | zero => intro v1 v3 v4 v5 S hE; exact absurd (show (none : Option (St)) = some So from hE) (fun h => nomatch h)
    | succ n37 ih37 =>
      have H96 : ∀ (v1 : Int32) (v4 : Int32) (v5 : Int32) (v6 : Int32) (t0 : Int32) (S : St), f7_wake_J96 (f7_wake_L37 n37) v1 v4 v5 v6 t0 S = some So → ∀ (H : Heap) (locs : List Loc) (ls : Array Slot), va_P D vwCl (mW ad cI cZ S) H → va_S (mA ad) s.heap H locs → lv_has ls 7 [(0, .ref (ad 0)), (1, .int v1), (4, .int v4), (5, .int v5), (6, .int v6)] → W p l e (headSpec wsX7_wake { frames := 3, cells := 0, slots := 0, locals := 67 }).room s m args below meth c H locs 0 0 (MQ below (kQv D cI cZ (mA ad) (mW ad cI cZ So)) args s 0 0 (mA ad)) (F0 m 96 ls [.int t0]) := by
        intro v1 v4 v5 v6 t0 S hE H locs ls hP hS hl
        unfold f7_wake_J96 at hE
        refine lv_istore_n (lv' := [(3, .int t0), (0, .ref (ad 0)), (1, .int v1), (4, .int v4), (5, .int v5), (6, .int v6)]) hx hb dX7_wake_96 rfl hl (by decide) rfl (fun ls hl => ?_)
        refine lv_iload hx hb dX7_wake_97 (lv_at hl 5 rfl) ?_
        refine lv_iload hx hb dX7_wake_99 (lv_at hl 3 rfl) ?_
        refine r_icmp_ge (tgt := 109) hx hb dX7_wake_101 (by decide) hE (fun c16 hE => ?_) (fun c16 hE => ?_)
        · refine lv_iload hx hb dX7_wake_109 (lv_at hl 3 rfl) ?_
          refine lv_istore (lv' := [(4, .int v4), (3, .int t0), (0, .ref (ad 0)), (1, .int v1), (5, .int v5), (6, .int v6)]) hx hb dX7_wake_111 hl (by decide) rfl (fun ls hl => ?_)
          refine lv_iinc (v := v5 + 1) (lv' := [(5, .int (v5 + 1)), (4, .int v4), (3, .int t0), (0, .ref (ad 0)), (1, .int v1), (6, .int v6)]) hx hb dX7_wake_113 hl (k := 4) rfl rfl (by decide) rfl (fun ls hl => ?_)
          refine lv_goto (tgt := 37) hx hb dX7_wake_116 (by decide) ?_
          exact ih37 v1 t0 v4 (v5 + 1) S hE _ _ _ hP hS (lv_sub hl [3, 4, 2, 1, 0] rfl)
        · refine lv_iload hx hb dX7_wake_104 (lv_at hl 5 rfl) ?_
          refine lv_goto (tgt := 111) hx hb dX7_wake_106 (by decide) ?_
          refine lv_istore (lv' := [(4, .int v6), (3, .int t0), (0, .ref (ad 0)), (1, .int v1), (5, .int v5), (6, .int v6)]) hx hb dX7_wake_111 hl (by decide) rfl (fun ls hl => ?_)
          refine lv_iinc (v := v5 + 1) (lv' := [(5, .int (v5 + 1)), (4, .int v6), (3, .int t0), (0, .ref (ad 0)), (1, .int v1), (6, .int v6)]) hx hb dX7_wake_113 hl (k := 4) rfl rfl (by decide) rfl (fun ls hl => ?_)
          refine lv_goto (tgt := 37) hx hb dX7_wake_116 (by decide) ?_
          exact ih37 v1 t0 v6 (v5 + 1) S hE _ _ _ hP hS (lv_sub hl [3, 4, 2, 1, 0] rfl)
      intro v1 v3 v4 v5 S hE H locs ls hP hS hl
      have hE : f7_wake_L37b  (f7_wake_L37 n37) v1 v3 v4 v5 S = some So := hE
      unfold f7_wake_L37b at hE
      refine lv_iload hx hb dX7_wake_37 (lv_at hl 4 rfl) ?_
      refine lv_aload_n hx hb dX7_wake_39 rfl (lv_at hl 0 rfl) ?_
      refine va_get (D := D) (ci := 6) (v := .int (S.1 6)) (C := RX7) (T := TX7) (N := 25) hx hb hts iX7_wake_X7 hown hK.1 hP 0 rfl rfl 15 (by decide) (hts (.fieldLink RX7 79 "BumpheraldModel" "raises" "I") (List.mem_of_getElem? (i := 3) rfl)) (fun _ h9 => h9) rfl dX7_wake_40 ?_
      refine r_icmp_ge (tgt := 119) hx hb dX7_wake_43 (by decide) hE (fun c17 hE => ?_) (fun c17 hE => ?_)
      · refine lv_iload_n hx hb dX7_wake_119 rfl (lv_at hl 2 rfl) ?_
        refine lv_iconst (v := -1) hx hb dX7_wake_120 (by decide) ?_
        refine r_icmp_eq (tgt := 211) hx hb dX7_wake_121 (by decide) hE (fun c18 hE => ?_) (fun c18 hE => ?_)
        · exact k_vret (Wd := mW ad cI cZ) hx hb hr hlk hK hP hS hE dX7_wake_211
        · refine lv_iload_n hx hb dX7_wake_124 rfl (lv_at hl 2 rfl) ?_
          refine lv_iload_n hx hb dX7_wake_125 rfl (lv_at hl 1 rfl) ?_
          refine r_icmp_ge (tgt := 133) hx hb dX7_wake_126 (by decide) hE (fun c19 hE => ?_) (fun c19 hE => ?_)
          · refine lv_iload_n hx hb dX7_wake_133 rfl (lv_at hl 1 rfl) ?_
            refine lv_istore (lv' := [(5, .int v1), (0, .ref (ad 0)), (1, .int v1), (3, .int v3), (4, .int v4)]) hx hb dX7_wake_134 hl (by decide) rfl (fun ls hl => ?_)
            refine lv_iconst (v := 0) hx hb dX7_wake_136 (by decide) ?_
            refine lv_istore (lv' := [(6, .int 0), (5, .int v1), (0, .ref (ad 0)), (1, .int v1), (3, .int v3), (4, .int v4)]) hx hb dX7_wake_137 hl (by decide) rfl (fun ls hl => ?_)
            exact H139 2000 v1 v3 v1 0 S hE _ _ _ hP hS (lv_sub hl [2, 3, 4, 1, 0] rfl)
          · refine lv_iload_n hx hb dX7_wake_129 rfl (lv_at hl 2 rfl) ?_
            refine lv_goto (tgt := 134) hx hb dX7_wake_130 (by decide) ?_
            refine lv_istore (lv' := [(5, .int v3), (0, .ref (ad 0)), (1, .int v1), (3, .int v3), (4, .int v4)]) hx hb dX7_wake_134 hl (by decide) rfl (fun ls hl => ?_)
            refine lv_iconst (v := 0) hx hb dX7_wake_136 (by decide) ?_
            refine lv_istore (lv' := [(6, .int 0), (5, .int v3), (0, .ref (ad 0)), (1, .int v1), (3, .int v3), (4, .int v4)]) hx hb dX7_wake_137 hl (by decide) rfl (fun ls hl => ?_)
            exact H139 2000 v1 v3 v3 0 S hE _ _ _ hP hS (lv_sub hl [2, 3, 4, 1, 0] rfl)
      · refine lv_aload_n hx hb dX7_wake_46 rfl (lv_at hl 0 rfl) ?_
        refine va_get (D := D) (ci := 6) (v := .ref (ad 10)) (C := RX7) (T := TX7) (N := 25) hx hb hts iX7_wake_X7 hown hK.1 hP 0 rfl rfl 16 (by decide) (hts (.fieldLink RX7 41 "BumpheraldModel" "state" "[I") (List.mem_of_getElem? (i := 4) rfl)) (fun _ h9 => h9) rfl dX7_wake_47 ?_
        refine lv_iload hx hb dX7_wake_50 (lv_at hl 4 rfl) ?_
        refine r_iald (Wd := mW ad cI cZ) (k := 9) (n := 40) hx hb hK hP 10 rfl hE dX7_wake_52 (fun x20 hE => ?_)
        refine r_if_ne (tgt := 113) hx hb dX7_wake_53 (by decide) hE (fun c21 hE => ?_) (fun c21 hE => ?_)
        · refine lv_aload_n hx hb dX7_wake_56 rfl (lv_at hl 0 rfl) ?_
          refine va_get (D := D) (ci := 6) (v := .ref (ad 15)) (C := RX7) (T := TX7) (N := 25) hx hb hts iX7_wake_X7 hown hK.1 hP 0 rfl rfl 21 (by decide) (hts (.fieldLink RX7 56 "BumpheraldModel" "group" "[I") (List.mem_of_getElem? (i := 5) rfl)) (fun _ h9 => h9) rfl dX7_wake_57 ?_
          refine lv_iload hx hb dX7_wake_60 (lv_at hl 4 rfl) ?_
          refine r_iald (Wd := mW ad cI cZ) (k := 14) (n := 40) hx hb hK hP 15 rfl hE dX7_wake_62 (fun x22 hE => ?_)
          refine lv_iload hx hb dX7_wake_63 (lv_at hl 4 rfl) ?_
          refine r_icmp_ne (tgt := 113) hx hb dX7_wake_65 (by decide) hE (fun c23 hE => ?_) (fun c23 hE => ?_)
          · refine lv_iload hx hb dX7_wake_68 (lv_at hl 4 rfl) ?_
            refine lv_iload_n hx hb dX7_wake_70 rfl (lv_at hl 1 rfl) ?_
            refine r_icmp_eq (tgt := 113) hx hb dX7_wake_71 (by decide) hE (fun c24 hE => ?_) (fun c24 hE => ?_)
            · refine lv_iinc (v := v5 + 1) (lv' := [(5, .int (v5 + 1)), (0, .ref (ad 0)), (1, .int v1), (3, .int v3), (4, .int v4)]) hx hb dX7_wake_113 hl (k := 4) rfl rfl (by decide) rfl (fun ls hl => ?_)
              refine lv_goto (tgt := 37) hx hb dX7_wake_116 (by decide) ?_
              exact ih37 v1 v3 v4 (v5 + 1) S hE _ _ _ hP hS (lv_sub hl [1, 2, 3, 4, 0] rfl)
            · refine lv_aload_n hx hb dX7_wake_74 rfl (lv_at hl 0 rfl) ?_
              refine lv_iload_n hx hb dX7_wake_75 rfl (lv_at hl 1 rfl) ?_
              refine lv_iload hx hb dX7_wake_76 (lv_at hl 4 rfl) ?_
              refine r_callVi (Wd := mW ad cI cZ) (C := RX7) [.int v1, .int v5] [] ⟨hx, hb, hml, hown, hts⟩ (kX7_failsWith l D ad cI cZ hDD S v1 v5) (cwV 2 hts gX7_wake_X7_failsWith rfl rfl rfl (by decide +kernel) ⟨Nat.le_of_ble_eq_true rfl, Nat.le_of_ble_eq_true rfl⟩) (va_recv hK.1 hP (ci := 6) (q0 := 0) rfl rfl) hK hP hS (fun _ h9 => h9) rfl hl.1 rfl (Nat.le_of_ble_eq_true rfl) ⟨Nat.zero_le _, Nat.zero_le _⟩ hE dX7_wake_78 (fun S26 x25 H locs hE hP hS => ?_)
              refine lv_istore (lv' := [(6, .int x25), (0, .ref (ad 0)), (1, .int v1), (3, .int v3), (4, .int v4), (5, .int v5)]) hx hb dX7_wake_81 hl (by decide) rfl (fun ls hl => ?_)
              refine lv_iload hx hb dX7_wake_83 (lv_at hl 0 rfl) ?_
              refine lv_iload hx hb dX7_wake_85 (lv_at hl 4 rfl) ?_
              refine r_icmp_ge (tgt := 95) hx hb dX7_wake_87 (by decide) hE (fun c27 hE => ?_) (fun c27 hE => ?_)
              · refine lv_iload_n hx hb dX7_wake_95 rfl (lv_at hl 3 rfl) ?_
                exact H96 v1 v4 v5 x25 v3 S26 hE _ _ _ hP hS (lv_sub hl [1, 2, 4, 5, 0] rfl)
              · refine lv_iload hx hb dX7_wake_90 (lv_at hl 5 rfl) ?_
                refine lv_goto (tgt := 96) hx hb dX7_wake_92 (by decide) ?_
                exact H96 v1 v4 v5 x25 v5 S26 hE _ _ _ hP hS (lv_sub hl [1, 2, 4, 5, 0] rfl)
          · refine lv_iinc (v := v5 + 1) (lv' := [(5, .int (v5 + 1)), (0, .ref (ad 0)), (1, .int v1), (3, .int v3), (4, .int v4)]) hx hb dX7_wake_113 hl (k := 4) rfl rfl (by decide) rfl (fun ls hl => ?_)
            refine lv_goto (tgt := 37) hx hb dX7_wake_116 (by decide) ?_
            exact ih37 v1 v3 v4 (v5 + 1) S hE _ _ _ hP hS (lv_sub hl [1, 2, 3, 4, 0] rfl)
        · refine lv_iinc (v := v5 + 1) (lv' := [(5, .int (v5 + 1)), (0, .ref (ad 0)), (1, .int v1), (3, .int v3), (4, .int v4)]) hx hb dX7_wake_113 hl (k := 4) rfl rfl (by decide) rfl (fun ls hl => ?_)
          refine lv_goto (tgt := 37) hx hb dX7_wake_116 (by decide) ?_
          exact ih37 v1 v3 v4 (v5 + 1) S hE _ _ _ hP hS (lv_sub hl [1, 2, 3, 4, 0] rfl)
  unfold f7_wake at hE
  refine lv_aload_n hx hb dX7_wake_0 rfl (lv_at hl 0 rfl) ?_
  refine lv_iload_n hx hb dX7_wake_1 rfl (lv_at hl 1 rfl) ?_
  refine lv_iload_n hx hb dX7_wake_2 rfl (lv_at hl 1 rfl) ?_
  refine r_callVi (Wd := mW ad cI cZ) (C := RX7) [.int v1, .int v1] [] ⟨hx, hb, hml, hown, hts⟩ (kX7_failsWith l D ad cI cZ hDD S v1 v1) (cwV 2 hts gX7_wake_X7_failsWith rfl rfl rfl (by decide +kernel) ⟨Nat.le_of_ble_eq_true rfl, Nat.le_of_ble_eq_true rfl⟩) (va_recv hK.1 hP (ci := 6) (q0 := 0) rfl rfl) hK hP hS (fun _ h9 => h9) rfl hl.1 rfl (Nat.le_of_ble_eq_true rfl) ⟨Nat.zero_le _, Nat.zero_le _⟩ hE dX7_wake_3 (fun S30 x29 H locs hE hP hS => ?_)
  refine lv_istore_n (lv' := [(2, .int x29), (0, .ref (ad 0)), (1, .int v1)]) hx hb dX7_wake_6 rfl hl (by decide) rfl (fun ls hl => ?_)
  refine lv_iload_n hx hb dX7_wake_7 rfl (lv_at hl 0 rfl) ?_
  refine r_if_eq (tgt := 28) hx hb dX7_wake_8 (by decide) hE (fun c31 hE => ?_) (fun c31 hE => ?_)
  · exact k_vret (Wd := mW ad cI cZ) hx hb hr hlk hK hP hS hE dX7_wake_28
  · refine lv_aload_n hx hb dX7_wake_11 rfl (lv_at hl 1 rfl) ?_
    refine va_get (D := D) (ci := 6) (v := .int (S30.1 1)) (C := RX7) (T := TX7) (N := 25) hx hb hts iX7_wake_X7 hown hK.1 hP 0 rfl rfl 1 (by decide) (hts (.fieldLink RX7 123 "BumpheraldModel" "day" "I") (List.mem_of_getElem? (i := 1) rfl)) (fun _ h9 => h9) rfl dX7_wake_12 ?_
    refine lv_aload_n hx hb dX7_wake_15 rfl (lv_at hl 1 rfl) ?_
    refine lv_iload_n hx hb dX7_wake_16 rfl (lv_at hl 2 rfl) ?_
    refine r_callVi (Wd := mW ad cI cZ) (C := RX7) [.int v1] [.int (S30.1 1)] ⟨hx, hb, hml, hown, hts⟩ (kX7_oldest l D ad cI cZ hDD S30 v1) (cwV 1 hts gX7_wake_X7_oldest rfl rfl rfl (by decide +kernel) ⟨Nat.le_of_ble_eq_true rfl, Nat.le_of_ble_eq_true rfl⟩) (va_recv hK.1 hP (ci := 6) (q0 := 0) rfl rfl) hK hP hS (fun _ h9 => h9) rfl hl.1 rfl (Nat.le_of_ble_eq_true rfl) ⟨Nat.zero_le _, Nat.zero_le _⟩ hE dX7_wake_17 (fun S33 x32 H locs hE hP hS => ?_)
    refine lv_isub hx hb dX7_wake_20 ?_
    refine lv_aload_n hx hb dX7_wake_21 rfl (lv_at hl 1 rfl) ?_
    refine va_get (D := D) (ci := 6) (v := .int (S33.1 4)) (C := RX7) (T := TX7) (N := 25) hx hb hts iX7_wake_X7 hown hK.1 hP 0 rfl rfl 10 (by decide) (hts (.fieldLink RX7 28 "BumpheraldModel" "patience" "I") (List.mem_of_getElem? (i := 2) rfl)) (fun _ h9 => h9) rfl dX7_wake_22 ?_
    refine r_icmp_ge (tgt := 29) hx hb dX7_wake_25 (by decide) hE (fun c34 hE => ?_) (fun c34 hE => ?_)
    · refine lv_iconst (v := -1) hx hb dX7_wake_29 (by decide) ?_
      refine lv_istore_n (lv' := [(3, .int ((-1))), (2, .int x29), (0, .ref (ad 0)), (1, .int v1)]) hx hb dX7_wake_30 rfl hl (by decide) rfl (fun ls hl => ?_)
      refine lv_iload_n hx hb dX7_wake_31 rfl (lv_at hl 1 rfl) ?_
      refine lv_istore (lv' := [(4, .int x29), (3, .int ((-1))), (2, .int x29), (0, .ref (ad 0)), (1, .int v1)]) hx hb dX7_wake_32 hl (by decide) rfl (fun ls hl => ?_)
      refine lv_iconst (v := 0) hx hb dX7_wake_34 (by decide) ?_
      refine lv_istore (lv' := [(5, .int 0), (4, .int x29), (3, .int ((-1))), (2, .int x29), (0, .ref (ad 0)), (1, .int v1)]) hx hb dX7_wake_35 hl (by decide) rfl (fun ls hl => ?_)
      exact H37 2000 v1 ((-1)) x29 0 S33 hE _ _ _ hP hS (lv_sub hl [4, 5, 2, 1, 0] rfl)
    · exact k_vret (Wd := mW ad cI cZ) hx hb hr hlk hK hP hS hE dX7_wake_28
theorem iX7_pass_X7 : ∀ w ∈ wsX70, w ∈ wsX7_pass := fun w h => List.mem_cons_of_mem _ (List.mem_append_right _ h)
set_option maxHeartbeats 4000000 in
set_option maxRecDepth 100000 in
theorem kX7_pass (l : Launch) (D : va_G) (ad : Nat → Nat) (cI cZ : ClassId) (hDD : ∀ S, va_D (mA ad) (mW ad cI cZ S)) (S : St) (v1 : Int32) : ∀ So ro, f7_pass S v1 = some (So, ro) → Met l yX7_pass wsX7_pass { frames := 4, cells := 0, slots := 0, locals := 93 } (va_Pc [.ref (ad 0), .int v1] (kPre D cI cZ (mW ad cI cZ S))) (kQi D cI cZ (mA ad) (mW ad cI cZ So) ro) 0 0 (mA ad) := by
  intro So ro hE
  refine kMet_of (by decide) rfl (Nat.le_of_ble_eq_true rfl) ?_
  intro p e s m args below meth c ls hx hb hr hml hown hlk hts hK hP hS hl
  have hl : lv_has ls 4 [(0, .ref (ad 0)), (1, .int v1)] := hl
  have hown : s.vm.findClass RX7 = some m.cls := hown
  have H42 : ∀ (n42 : Nat) (v1 : Int32) (v2 : Int32) (S : St), f7_pass_L42  n42 v1 v2 S = some (So, ro) → ∀ (H : Heap) (locs : List Loc) (ls : Array Slot), va_P D vwCl (mW ad cI cZ S) H → va_S (mA ad) s.heap H locs → lv_has ls 4 [(0, .ref (ad 0)), (1, .int v1), (2, .int v2)] → W p l e (headSpec wsX7_pass { frames := 4, cells := 0, slots := 0, locals := 93 }).room s m args below meth c H locs 0 0 (MQ below (kQi D cI cZ (mA ad) (mW ad cI cZ So) ro) args s 0 0 (mA ad)) (F0 m 42 ls []) := by
    intro n42
    induction n42 with
    | zero => intro v1 v2 S hE; exact absurd (show (none : Option (St × Int32)) = some (So, ro) from hE) (fun h => nomatch h)
    | succ n42 ih42 =>
      have H59 : ∀ (n59 : Nat) (v1 : Int32) (v2 : Int32) (v3 : Int32) (S : St), f7_pass_L59 (f7_pass_L42 n42) n59 v1 v2 v3 S = some (So, ro) → ∀ (H : Heap) (locs : List Loc) (ls : Array Slot), va_P D vwCl (mW ad cI cZ S) H → va_S (mA ad) s.heap H locs → lv_has ls 4 [(0, .ref (ad 0)), (1, .int v1), (2, .int v2), (3, .int v3)] → W p l e (headSpec wsX7_pass { frames := 4, cells := 0, slots := 0, locals := 93 }).room s m args below meth c H locs 0 0 (MQ below (kQi D cI cZ (mA ad) (mW ad cI cZ So) ro) args s 0 0 (mA ad)) (F0 m 59 ls []) := by
        intro n59
        induction n59 with
        | zero => intro v1 v2 v3 S hE; exact absurd (show (none : Option (St × Int32)) = some (So, ro) from hE) (fun h => nomatch h)
        | succ n59 ih59 =>
          intro v1 v2 v3 S hE H locs ls hP hS hl
          have hE : f7_pass_L59b (f7_pass_L42 n42) (f7_pass_L59 (f7_pass_L42 n42) n59) v1 v2 v3 S = some (So, ro) := hE
          unfold f7_pass_L59b at hE
          refine lv_iload_n hx hb dX7_pass_59 rfl (lv_at hl 3 rfl) ?_
          refine lv_aload_n hx hb dX7_pass_60 rfl (lv_at hl 0 rfl) ?_
          refine va_get (D := D) (ci := 6) (v := .int (S.1 6)) (C := RX7) (T := TX7) (N := 25) hx hb hts iX7_pass_X7 hown hK.1 hP 0 rfl rfl 15 (by decide) (hts (.fieldLink RX7 79 "BumpheraldModel" "raises" "I") (List.mem_of_getElem? (i := 2) rfl)) (fun _ h9 => h9) rfl dX7_pass_61 ?_
          refine r_icmp_ge (tgt := 97) hx hb dX7_pass_64 (by decide) hE (fun c1 hE => ?_) (fun c1 hE => ?_)
          · refine lv_iinc (v := v2 + 1) (lv' := [(2, .int (v2 + 1)), (0, .ref (ad 0)), (1, .int v1), (3, .int v3)]) hx hb dX7_pass_97 hl (k := 2) rfl rfl (by decide) rfl (fun ls hl => ?_)
            refine lv_goto (tgt := 42) hx hb dX7_pass_100 (by decide) ?_
            exact ih42 v1 (v2 + 1) S hE _ _ _ hP hS (lv_sub hl [1, 2, 0] rfl)
          · refine lv_aload_n hx hb dX7_pass_67 rfl (lv_at hl 0 rfl) ?_
            refine va_get (D := D) (ci := 6) (v := .ref (ad 10)) (C := RX7) (T := TX7) (N := 25) hx hb hts iX7_pass_X7 hown hK.1 hP 0 rfl rfl 16 (by decide) (hts (.fieldLink RX7 41 "BumpheraldModel" "state" "[I") (List.mem_of_getElem? (i := 3) rfl)) (fun _ h9 => h9) rfl dX7_pass_68 ?_
            refine lv_iload_n hx hb dX7_pass_71 rfl (lv_at hl 3 rfl) ?_
            refine r_iald (Wd := mW ad cI cZ) (k := 9) (n := 40) hx hb hK hP 10 rfl hE dX7_pass_72 (fun x2 hE => ?_)
            refine r_if_ne (tgt := 91) hx hb dX7_pass_73 (by decide) hE (fun c3 hE => ?_) (fun c3 hE => ?_)
            · refine lv_aload_n hx hb dX7_pass_76 rfl (lv_at hl 0 rfl) ?_
              refine va_get (D := D) (ci := 6) (v := .ref (ad 15)) (C := RX7) (T := TX7) (N := 25) hx hb hts iX7_pass_X7 hown hK.1 hP 0 rfl rfl 21 (by decide) (hts (.fieldLink RX7 56 "BumpheraldModel" "group" "[I") (List.mem_of_getElem? (i := 4) rfl)) (fun _ h9 => h9) rfl dX7_pass_77 ?_
              refine lv_iload_n hx hb dX7_pass_80 rfl (lv_at hl 3 rfl) ?_
              refine r_iald (Wd := mW ad cI cZ) (k := 14) (n := 40) hx hb hK hP 15 rfl hE dX7_pass_81 (fun x4 hE => ?_)
              refine lv_iload_n hx hb dX7_pass_82 rfl (lv_at hl 3 rfl) ?_
              refine r_icmp_ne (tgt := 91) hx hb dX7_pass_83 (by decide) hE (fun c5 hE => ?_) (fun c5 hE => ?_)
              · refine lv_aload_n hx hb dX7_pass_86 rfl (lv_at hl 0 rfl) ?_
                refine lv_iload_n hx hb dX7_pass_87 rfl (lv_at hl 3 rfl) ?_
                refine r_callVv (Wd := mW ad cI cZ) (C := RX7) [.int v3] [] ⟨hx, hb, hml, hown, hts⟩ (kX7_wake l D ad cI cZ hDD S v3) (cwV 1 hts gX7_pass_X7_wake rfl rfl rfl (by decide +kernel) ⟨Nat.le_of_ble_eq_true rfl, Nat.le_of_ble_eq_true rfl⟩) (va_recv hK.1 hP (ci := 6) (q0 := 0) rfl rfl) hK hP hS (fun _ h9 => h9) rfl hl.1 rfl (Nat.le_of_ble_eq_true rfl) ⟨Nat.zero_le _, Nat.zero_le _⟩ hE dX7_pass_88 (fun S7 H locs hE hP hS => ?_)
                refine lv_iinc (v := v3 + 1) (lv' := [(3, .int (v3 + 1)), (0, .ref (ad 0)), (1, .int v1), (2, .int v2)]) hx hb dX7_pass_91 hl (k := 3) rfl rfl (by decide) rfl (fun ls hl => ?_)
                refine lv_goto (tgt := 59) hx hb dX7_pass_94 (by decide) ?_
                exact ih59 v1 v2 (v3 + 1) S7 hE _ _ _ hP hS (lv_sub hl [1, 2, 3, 0] rfl)
              · refine lv_iinc (v := v3 + 1) (lv' := [(3, .int (v3 + 1)), (0, .ref (ad 0)), (1, .int v1), (2, .int v2)]) hx hb dX7_pass_91 hl (k := 3) rfl rfl (by decide) rfl (fun ls hl => ?_)
                refine lv_goto (tgt := 59) hx hb dX7_pass_94 (by decide) ?_
                exact ih59 v1 v2 (v3 + 1) S hE _ _ _ hP hS (lv_sub hl [1, 2, 3, 0] rfl)
            · refine lv_iinc (v := v3 + 1) (lv' := [(3, .int (v3 + 1)), (0, .ref (ad 0)), (1, .int v1), (2, .int v2)]) hx hb dX7_pass_91 hl (k := 3) rfl rfl (by decide) rfl (fun ls hl => ?_)
              refine lv_goto (tgt := 59) hx hb dX7_pass_94 (by decide) ?_
              exact ih59 v1 v2 (v3 + 1) S hE _ _ _ hP hS (lv_sub hl [1, 2, 3, 0] rfl)
      intro v1 v2 S hE H locs ls hP hS hl
      have hE : f7_pass_L42b  (f7_pass_L42 n42) v1 v2 S = some (So, ro) := hE
      unfold f7_pass_L42b at hE
      refine lv_iload_n hx hb dX7_pass_42 rfl (lv_at hl 2 rfl) ?_
      refine lv_iload_n hx hb dX7_pass_43 rfl (lv_at hl 1 rfl) ?_
      refine r_icmp_ge (tgt := 103) hx hb dX7_pass_44 (by decide) hE (fun c8 hE => ?_) (fun c8 hE => ?_)
      · refine lv_aload_n hx hb dX7_pass_103 rfl (lv_at hl 0 rfl) ?_
        refine va_get (D := D) (ci := 6) (v := .int (S.1 1)) (C := RX7) (T := TX7) (N := 25) hx hb hts iX7_pass_X7 hown hK.1 hP 0 rfl rfl 1 (by decide) (hts (.fieldLink RX7 123 "BumpheraldModel" "day" "I") (List.mem_of_getElem? (i := 1) rfl)) (fun _ h9 => h9) rfl dX7_pass_104 ?_
        exact k_iret (Wd := mW ad cI cZ) hx hb hr hlk hK hP hS hE dX7_pass_107
      · refine lv_aload_n hx hb dX7_pass_47 rfl (lv_at hl 0 rfl) ?_
        refine lv_dup hx hb dX7_pass_48 rfl ?_
        refine va_get (D := D) (ci := 6) (v := .int (S.1 1)) (C := RX7) (T := TX7) (N := 25) hx hb hts iX7_pass_X7 hown hK.1 hP 0 rfl rfl 1 (by decide) (hts (.fieldLink RX7 123 "BumpheraldModel" "day" "I") (List.mem_of_getElem? (i := 1) rfl)) (fun _ h9 => h9) rfl dX7_pass_49 ?_
        refine lv_iconst (v := 1) hx hb dX7_pass_52 (by decide) ?_
        refine lv_iadd hx hb dX7_pass_53 ?_
        refine r_puti (Wd := mW ad cI cZ) (ci := 6) (C := RX7) (T := TX7) (N := 25) (kf := 1) hx hb hts iX7_pass_X7 tyX7 tyX7_ok nmX7 hown hDD hK hP hS 0 rfl rfl 1 (by decide) (hts (.fieldLink RX7 123 "BumpheraldModel" "day" "I") (List.mem_of_getElem? (i := 1) rfl)) rfl rfl (by decide +kernel) (Nat.le_of_ble_eq_true rfl) rfl hE dX7_pass_54 (fun S9 H locs hE hP hS => ?_)
        refine lv_iconst (v := 0) hx hb dX7_pass_57 (by decide) ?_
        refine lv_istore_n (lv' := [(3, .int 0), (0, .ref (ad 0)), (1, .int v1), (2, .int v2)]) hx hb dX7_pass_58 rfl hl (by decide) rfl (fun ls hl => ?_)
        exact H59 2000 v1 v2 0 S9 hE _ _ _ hP hS (lv_sub hl [1, 2, 3, 0] rfl)
  have H32 : ∀ (v1 : Int32) (t1 : Int32) (S : St), f7_pass_J32  v1 t1 S = some (So, ro) → ∀ (H : Heap) (locs : List Loc) (ls : Array Slot), va_P D vwCl (mW ad cI cZ S) H → va_S (mA ad) s.heap H locs → lv_has ls 4 [(0, .ref (ad 0)), (1, .int v1)] → W p l e (headSpec wsX7_pass { frames := 4, cells := 0, slots := 0, locals := 93 }).room s m args below meth c H locs 0 0 (MQ below (kQi D cI cZ (mA ad) (mW ad cI cZ So) ro) args s 0 0 (mA ad)) (F0 m 32 ls [.int t1, .ref (ad 0)]) := by
    intro v1 t1 S hE H locs ls hP hS hl
    unfold f7_pass_J32 at hE
    refine r_callVi (Wd := mW ad cI cZ) (C := RX7) [.int t1] [] ⟨hx, hb, hml, hown, hts⟩ (kX7_refused l D ad cI cZ hDD S t1) (cwV 1 hts gX7_pass_X7_refused rfl rfl rfl (by decide +kernel) ⟨Nat.le_of_ble_eq_true rfl, Nat.le_of_ble_eq_true rfl⟩) (va_recv hK.1 hP (ci := 6) (q0 := 0) rfl rfl) hK hP hS (fun _ h9 => h9) rfl hl.1 rfl (Nat.le_of_ble_eq_true rfl) ⟨Nat.zero_le _, Nat.zero_le _⟩ hE dX7_pass_32 (fun S11 x10 H locs hE hP hS => ?_)
    refine r_if_eq (tgt := 40) hx hb dX7_pass_35 (by decide) hE (fun c12 hE => ?_) (fun c12 hE => ?_)
    · refine lv_iconst (v := 0) hx hb dX7_pass_40 (by decide) ?_
      refine lv_istore_n (lv' := [(2, .int 0), (0, .ref (ad 0)), (1, .int v1)]) hx hb dX7_pass_41 rfl hl (by decide) rfl (fun ls hl => ?_)
      exact H42 2000 v1 0 S11 hE _ _ _ hP hS (lv_sub hl [1, 2, 0] rfl)
    · refine lv_iconst (v := 0) hx hb dX7_pass_38 (by decide) ?_
      exact k_iret (Wd := mW ad cI cZ) hx hb hr hlk hK hP hS hE dX7_pass_39
  unfold f7_pass at hE
  refine lv_aload_n hx hb dX7_pass_0 rfl (lv_at hl 0 rfl) ?_
  refine lv_iload_n hx hb dX7_pass_1 rfl (lv_at hl 1 rfl) ?_
  refine lv_iconst (v := 1) hx hb dX7_pass_2 (by decide) ?_
  refine lv_bipush (v := 100) hx hb dX7_pass_3 (by decide) ?_
  refine r_callSi (Wd := mW ad cI cZ) [.int v1, .int 1, .int 100] [.ref (ad 0)] ⟨hx, hb, hml, hown, hts⟩ (kX7_in l D ad cI cZ hDD S v1 1 100) (va_cwS 3 hts gX7_pass_X7_in rfl rfl rfl (by decide +kernel) ⟨Nat.le_of_ble_eq_true rfl, Nat.le_of_ble_eq_true rfl⟩) hK hP hS (fun _ h9 => h9) rfl hl.1 rfl (Nat.le_of_ble_eq_true rfl) ⟨Nat.zero_le _, Nat.zero_le _⟩ hE dX7_pass_5 (fun S15 x14 H locs hE hP hS => ?_)
  refine r_if_ne (tgt := 15) hx hb dX7_pass_8 (by decide) hE (fun c16 hE => ?_) (fun c16 hE => ?_)
  · refine lv_iconst (v := 1) hx hb dX7_pass_11 (by decide) ?_
    refine lv_goto (tgt := 32) hx hb dX7_pass_12 (by decide) ?_
    exact H32 v1 1 S15 hE _ _ _ hP hS (lv_sub hl [0, 1] rfl)
  · refine lv_aload_n hx hb dX7_pass_15 rfl (lv_at hl 0 rfl) ?_
    refine va_get (D := D) (ci := 6) (v := .int (S15.1 1)) (C := RX7) (T := TX7) (N := 25) hx hb hts iX7_pass_X7 hown hK.1 hP 0 rfl rfl 1 (by decide) (hts (.fieldLink RX7 123 "BumpheraldModel" "day" "I") (List.mem_of_getElem? (i := 1) rfl)) (fun _ h9 => h9) rfl dX7_pass_16 ?_
    refine lv_iload_n hx hb dX7_pass_19 rfl (lv_at hl 1 rfl) ?_
    refine lv_iadd hx hb dX7_pass_20 ?_
    refine lv_sipush (v := 1000) hx hb dX7_pass_21 (by decide) ?_
    refine r_icmp_le (tgt := 31) hx hb dX7_pass_24 (by decide) hE (fun c17 hE => ?_) (fun c17 hE => ?_)
    · refine lv_iconst (v := 0) hx hb dX7_pass_31 (by decide) ?_
      exact H32 v1 0 S15 hE _ _ _ hP hS (lv_sub hl [0, 1] rfl)
    · refine lv_iconst (v := 2) hx hb dX7_pass_27 (by decide) ?_
      refine lv_goto (tgt := 32) hx hb dX7_pass_28 (by decide) ?_
      exact H32 v1 2 S15 hE _ _ _ hP hS (lv_sub hl [0, 1] rfl)
theorem iX7_day_X7 : ∀ w ∈ wsX70, w ∈ wsX7_day := fun w h => List.mem_cons_of_mem _ (List.mem_append_right _ h)
set_option maxHeartbeats 4000000 in
set_option maxRecDepth 100000 in
theorem kX7_day (l : Launch) (D : va_G) (ad : Nat → Nat) (cI cZ : ClassId) (hDD : ∀ S, va_D (mA ad) (mW ad cI cZ S)) (S : St) : ∀ So ro, f7_day S  = some (So, ro) → Met l yX7_day wsX7_day { frames := 0, cells := 0, slots := 0, locals := 0 } (va_Pc [.ref (ad 0)] (kPre D cI cZ (mW ad cI cZ S))) (kQi D cI cZ (mA ad) (mW ad cI cZ So) ro) 0 0 (mA ad) := by
  intro So ro hE
  refine kMet_of (by decide) rfl (Nat.le_of_ble_eq_true rfl) ?_
  intro p e s m args below meth c ls hx hb hr hml hown hlk hts hK hP hS hl
  have hl : lv_has ls 1 [(0, .ref (ad 0))] := hl
  have hown : s.vm.findClass RX7 = some m.cls := hown
  unfold f7_day at hE
  refine lv_aload_n hx hb dX7_day_0 rfl (lv_at hl 0 rfl) ?_
  refine lv_iconst (v := 0) hx hb dX7_day_1 (by decide) ?_
  refine r_puti (Wd := mW ad cI cZ) (ci := 6) (C := RX7) (T := TX7) (N := 25) (kf := 0) hx hb hts iX7_day_X7 tyX7 tyX7_ok nmX7 hown hDD hK hP hS 0 rfl rfl 0 (by decide) (hts (.fieldLink RX7 69 "BumpheraldModel" "thrown" "I") (List.mem_of_getElem? (i := 1) rfl)) rfl rfl (by decide +kernel) (Nat.le_of_ble_eq_true rfl) rfl hE dX7_day_2 (fun S1 H locs hE hP hS => ?_)
  refine lv_aload_n hx hb dX7_day_5 rfl (lv_at hl 0 rfl) ?_
  refine va_get (D := D) (ci := 6) (v := .int (S1.1 1)) (C := RX7) (T := TX7) (N := 25) hx hb hts iX7_day_X7 hown hK.1 hP 0 rfl rfl 1 (by decide) (hts (.fieldLink RX7 123 "BumpheraldModel" "day" "I") (List.mem_of_getElem? (i := 2) rfl)) (fun _ h9 => h9) rfl dX7_day_6 ?_
  exact k_iret (Wd := mW ad cI cZ) hx hb hr hlk hK hP hS hE dX7_day_9
theorem iX7_version_X7 : ∀ w ∈ wsX70, w ∈ wsX7_version := fun w h => List.mem_cons_of_mem _ (List.mem_append_right _ h)
set_option maxHeartbeats 4000000 in
set_option maxRecDepth 100000 in
theorem kX7_version (l : Launch) (D : va_G) (ad : Nat → Nat) (cI cZ : ClassId) (hDD : ∀ S, va_D (mA ad) (mW ad cI cZ S)) (S : St) (v1 : Int32) : ∀ So ro, f7_version S v1 = some (So, ro) → Met l yX7_version wsX7_version { frames := 2, cells := 0, slots := 0, locals := 43 } (va_Pc [.ref (ad 0), .int v1] (kPre D cI cZ (mW ad cI cZ S))) (kQi D cI cZ (mA ad) (mW ad cI cZ So) ro) 0 0 (mA ad) := by
  intro So ro hE
  refine kMet_of (by decide) rfl (Nat.le_of_ble_eq_true rfl) ?_
  intro p e s m args below meth c ls hx hb hr hml hown hlk hts hK hP hS hl
  have hl : lv_has ls 2 [(0, .ref (ad 0)), (1, .int v1)] := hl
  have hown : s.vm.findClass RX7 = some m.cls := hown
  have H14 : ∀ (v1 : Int32) (t1 : Int32) (S : St), f7_version_J14  v1 t1 S = some (So, ro) → ∀ (H : Heap) (locs : List Loc) (ls : Array Slot), va_P D vwCl (mW ad cI cZ S) H → va_S (mA ad) s.heap H locs → lv_has ls 2 [(0, .ref (ad 0)), (1, .int v1)] → W p l e (headSpec wsX7_version { frames := 2, cells := 0, slots := 0, locals := 43 }).room s m args below meth c H locs 0 0 (MQ below (kQi D cI cZ (mA ad) (mW ad cI cZ So) ro) args s 0 0 (mA ad)) (F0 m 14 ls [.int t1, .ref (ad 0)]) := by
    intro v1 t1 S hE H locs ls hP hS hl
    unfold f7_version_J14 at hE
    refine r_callVi (Wd := mW ad cI cZ) (C := RX7) [.int t1] [] ⟨hx, hb, hml, hown, hts⟩ (kX7_refused l D ad cI cZ hDD S t1) (cwV 1 hts gX7_version_X7_refused rfl rfl rfl (by decide +kernel) ⟨Nat.le_of_ble_eq_true rfl, Nat.le_of_ble_eq_true rfl⟩) (va_recv hK.1 hP (ci := 6) (q0 := 0) rfl rfl) hK hP hS (fun _ h9 => h9) rfl hl.1 rfl (Nat.le_of_ble_eq_true rfl) ⟨Nat.zero_le _, Nat.zero_le _⟩ hE dX7_version_14 (fun S2 x1 H locs hE hP hS => ?_)
    refine r_if_eq (tgt := 24) hx hb dX7_version_17 (by decide) hE (fun c3 hE => ?_) (fun c3 hE => ?_)
    · refine lv_aload_n hx hb dX7_version_24 rfl (lv_at hl 0 rfl) ?_
      refine va_get (D := D) (ci := 6) (v := .ref (ad 1)) (C := RX7) (T := TX7) (N := 25) hx hb hts iX7_version_X7 hown hK.1 hP 0 rfl rfl 3 (by decide) (hts (.fieldLink RX7 7 "BumpheraldModel" "version" "[I") (List.mem_of_getElem? (i := 1) rfl)) (fun _ h9 => h9) rfl dX7_version_25 ?_
      refine lv_iload_n hx hb dX7_version_28 rfl (lv_at hl 1 rfl) ?_
      refine r_iald (Wd := mW ad cI cZ) (k := 0) (n := 12) hx hb hK hP 1 rfl hE dX7_version_29 (fun x4 hE => ?_)
      exact k_iret (Wd := mW ad cI cZ) hx hb hr hlk hK hP hS hE dX7_version_30
    · refine lv_iconst (v := 0) hx hb dX7_version_20 (by decide) ?_
      refine lv_goto (tgt := 30) hx hb dX7_version_21 (by decide) ?_
      exact k_iret (Wd := mW ad cI cZ) hx hb hr hlk hK hP hS hE dX7_version_30
  unfold f7_version at hE
  refine lv_aload_n hx hb dX7_version_0 rfl (lv_at hl 0 rfl) ?_
  refine lv_aload_n hx hb dX7_version_1 rfl (lv_at hl 0 rfl) ?_
  refine lv_iload_n hx hb dX7_version_2 rfl (lv_at hl 1 rfl) ?_
  refine r_callVi (Wd := mW ad cI cZ) (C := RX7) [.int v1] [.ref (ad 0)] ⟨hx, hb, hml, hown, hts⟩ (kX7_isPack l D ad cI cZ hDD S v1) (cwV 1 hts gX7_version_X7_isPack rfl rfl rfl (by decide +kernel) ⟨Nat.le_of_ble_eq_true rfl, Nat.le_of_ble_eq_true rfl⟩) (va_recv hK.1 hP (ci := 6) (q0 := 0) rfl rfl) hK hP hS (fun _ h9 => h9) rfl hl.1 rfl (Nat.le_of_ble_eq_true rfl) ⟨Nat.zero_le _, Nat.zero_le _⟩ hE dX7_version_3 (fun S7 x6 H locs hE hP hS => ?_)
  refine r_if_eq (tgt := 13) hx hb dX7_version_6 (by decide) hE (fun c8 hE => ?_) (fun c8 hE => ?_)
  · refine lv_iconst (v := 1) hx hb dX7_version_13 (by decide) ?_
    exact H14 v1 1 S7 hE _ _ _ hP hS (lv_sub hl [0, 1] rfl)
  · refine lv_iconst (v := 0) hx hb dX7_version_9 (by decide) ?_
    refine lv_goto (tgt := 14) hx hb dX7_version_10 (by decide) ?_
    exact H14 v1 0 S7 hE _ _ _ hP hS (lv_sub hl [0, 1] rfl)
theorem iX7_raiseOf_X7 : ∀ w ∈ wsX70, w ∈ wsX7_raiseOf := fun w h => List.mem_cons_of_mem _ (List.mem_append_right _ h)
set_option maxHeartbeats 4000000 in
set_option maxRecDepth 100000 in
theorem kX7_raiseOf (l : Launch) (D : va_G) (ad : Nat → Nat) (cI cZ : ClassId) (hDD : ∀ S, va_D (mA ad) (mW ad cI cZ S)) (S : St) (v1 : Int32) (v2 : Int32) : ∀ So ro, f7_raiseOf S v1 v2 = some (So, ro) → Met l yX7_raiseOf wsX7_raiseOf { frames := 2, cells := 0, slots := 0, locals := 43 } (va_Pc [.ref (ad 0), .int v1, .int v2] (kPre D cI cZ (mW ad cI cZ S))) (kQi D cI cZ (mA ad) (mW ad cI cZ So) ro) 0 0 (mA ad) := by
  intro So ro hE
  refine kMet_of (by decide) rfl (Nat.le_of_ble_eq_true rfl) ?_
  intro p e s m args below meth c ls hx hb hr hml hown hlk hts hK hP hS hl
  have hl : lv_has ls 3 [(0, .ref (ad 0)), (1, .int v1), (2, .int v2)] := hl
  have hown : s.vm.findClass RX7 = some m.cls := hown
  have H28 : ∀ (v1 : Int32) (v2 : Int32) (t1 : Int32) (S : St), f7_raiseOf_J28  v1 v2 t1 S = some (So, ro) → ∀ (H : Heap) (locs : List Loc) (ls : Array Slot), va_P D vwCl (mW ad cI cZ S) H → va_S (mA ad) s.heap H locs → lv_has ls 3 [(0, .ref (ad 0)), (1, .int v1), (2, .int v2)] → W p l e (headSpec wsX7_raiseOf { frames := 2, cells := 0, slots := 0, locals := 43 }).room s m args below meth c H locs 0 0 (MQ below (kQi D cI cZ (mA ad) (mW ad cI cZ So) ro) args s 0 0 (mA ad)) (F0 m 28 ls [.int t1, .ref (ad 0)]) := by
    intro v1 v2 t1 S hE H locs ls hP hS hl
    unfold f7_raiseOf_J28 at hE
    refine r_callVi (Wd := mW ad cI cZ) (C := RX7) [.int t1] [] ⟨hx, hb, hml, hown, hts⟩ (kX7_refused l D ad cI cZ hDD S t1) (cwV 1 hts gX7_raiseOf_X7_refused rfl rfl rfl (by decide +kernel) ⟨Nat.le_of_ble_eq_true rfl, Nat.le_of_ble_eq_true rfl⟩) (va_recv hK.1 hP (ci := 6) (q0 := 0) rfl rfl) hK hP hS (fun _ h9 => h9) rfl hl.1 rfl (Nat.le_of_ble_eq_true rfl) ⟨Nat.zero_le _, Nat.zero_le _⟩ hE dX7_raiseOf_28 (fun S2 x1 H locs hE hP hS => ?_)
    refine r_if_eq (tgt := 36) hx hb dX7_raiseOf_31 (by decide) hE (fun c3 hE => ?_) (fun c3 hE => ?_)
    · refine lv_iload_n hx hb dX7_raiseOf_36 rfl (lv_at hl 2 rfl) ?_
      by_cases c37_0 : v2 = 0
      · rw [if_pos c37_0] at hE
        refine lv_tableIn (x := v2) (tgt := 76) hx hb dX7_raiseOf_37 (by rw [c37_0]; decide) (by rw [c37_0]; decide) (by rw [c37_0]; rfl) (by decide) ?_
        refine lv_aload_n hx hb dX7_raiseOf_76 rfl (lv_at hl 0 rfl) ?_
        refine va_get (D := D) (ci := 6) (v := .ref (ad 10)) (C := RX7) (T := TX7) (N := 25) hx hb hts iX7_raiseOf_X7 hown hK.1 hP 0 rfl rfl 16 (by decide) (hts (.fieldLink RX7 41 "BumpheraldModel" "state" "[I") (List.mem_of_getElem? (i := 1) rfl)) (fun _ h9 => h9) rfl dX7_raiseOf_77 ?_
        refine lv_iload_n hx hb dX7_raiseOf_80 rfl (lv_at hl 1 rfl) ?_
        refine r_iald (Wd := mW ad cI cZ) (k := 9) (n := 40) hx hb hK hP 10 rfl hE dX7_raiseOf_81 (fun x4 hE => ?_)
        exact k_iret (Wd := mW ad cI cZ) hx hb hr hlk hK hP hS hE dX7_raiseOf_82
      · rw [if_neg c37_0] at hE
        by_cases c37_1 : v2 = 1
        · rw [if_pos c37_1] at hE
          refine lv_tableIn (x := v2) (tgt := 83) hx hb dX7_raiseOf_37 (by rw [c37_1]; decide) (by rw [c37_1]; decide) (by rw [c37_1]; rfl) (by decide) ?_
          refine lv_aload_n hx hb dX7_raiseOf_83 rfl (lv_at hl 0 rfl) ?_
          refine va_get (D := D) (ci := 6) (v := .ref (ad 11)) (C := RX7) (T := TX7) (N := 25) hx hb hts iX7_raiseOf_X7 hown hK.1 hP 0 rfl rfl 17 (by decide) (hts (.fieldLink RX7 44 "BumpheraldModel" "pack" "[I") (List.mem_of_getElem? (i := 2) rfl)) (fun _ h9 => h9) rfl dX7_raiseOf_84 ?_
          refine lv_iload_n hx hb dX7_raiseOf_87 rfl (lv_at hl 1 rfl) ?_
          refine r_iald (Wd := mW ad cI cZ) (k := 10) (n := 40) hx hb hK hP 11 rfl hE dX7_raiseOf_88 (fun x5 hE => ?_)
          exact k_iret (Wd := mW ad cI cZ) hx hb hr hlk hK hP hS hE dX7_raiseOf_89
        · rw [if_neg c37_1] at hE
          by_cases c37_2 : v2 = 2
          · rw [if_pos c37_2] at hE
            refine lv_tableIn (x := v2) (tgt := 90) hx hb dX7_raiseOf_37 (by rw [c37_2]; decide) (by rw [c37_2]; decide) (by rw [c37_2]; rfl) (by decide) ?_
            refine lv_aload_n hx hb dX7_raiseOf_90 rfl (lv_at hl 0 rfl) ?_
            refine va_get (D := D) (ci := 6) (v := .ref (ad 12)) (C := RX7) (T := TX7) (N := 25) hx hb hts iX7_raiseOf_X7 hown hK.1 hP 0 rfl rfl 18 (by decide) (hts (.fieldLink RX7 47 "BumpheraldModel" "target" "[I") (List.mem_of_getElem? (i := 3) rfl)) (fun _ h9 => h9) rfl dX7_raiseOf_91 ?_
            refine lv_iload_n hx hb dX7_raiseOf_94 rfl (lv_at hl 1 rfl) ?_
            refine r_iald (Wd := mW ad cI cZ) (k := 11) (n := 40) hx hb hK hP 12 rfl hE dX7_raiseOf_95 (fun x6 hE => ?_)
            exact k_iret (Wd := mW ad cI cZ) hx hb hr hlk hK hP hS hE dX7_raiseOf_96
          · rw [if_neg c37_2] at hE
            by_cases c37_3 : v2 = 3
            · rw [if_pos c37_3] at hE
              refine lv_tableIn (x := v2) (tgt := 97) hx hb dX7_raiseOf_37 (by rw [c37_3]; decide) (by rw [c37_3]; decide) (by rw [c37_3]; rfl) (by decide) ?_
              refine lv_aload_n hx hb dX7_raiseOf_97 rfl (lv_at hl 0 rfl) ?_
              refine va_get (D := D) (ci := 6) (v := .ref (ad 16)) (C := RX7) (T := TX7) (N := 25) hx hb hts iX7_raiseOf_X7 hown hK.1 hP 0 rfl rfl 22 (by decide) (hts (.fieldLink RX7 59 "BumpheraldModel" "reviewer" "[I") (List.mem_of_getElem? (i := 4) rfl)) (fun _ h9 => h9) rfl dX7_raiseOf_98 ?_
              refine lv_iload_n hx hb dX7_raiseOf_101 rfl (lv_at hl 1 rfl) ?_
              refine r_iald (Wd := mW ad cI cZ) (k := 15) (n := 40) hx hb hK hP 16 rfl hE dX7_raiseOf_102 (fun x7 hE => ?_)
              exact k_iret (Wd := mW ad cI cZ) hx hb hr hlk hK hP hS hE dX7_raiseOf_103
            · rw [if_neg c37_3] at hE
              by_cases c37_4 : v2 = 4
              · rw [if_pos c37_4] at hE
                refine lv_tableIn (x := v2) (tgt := 104) hx hb dX7_raiseOf_37 (by rw [c37_4]; decide) (by rw [c37_4]; decide) (by rw [c37_4]; rfl) (by decide) ?_
                refine lv_aload_n hx hb dX7_raiseOf_104 rfl (lv_at hl 0 rfl) ?_
                refine va_get (D := D) (ci := 6) (v := .ref (ad 17)) (C := RX7) (T := TX7) (N := 25) hx hb hts iX7_raiseOf_X7 hown hK.1 hP 0 rfl rfl 23 (by decide) (hts (.fieldLink RX7 62 "BumpheraldModel" "isApproved" "[Z") (List.mem_of_getElem? (i := 5) rfl)) (fun _ h9 => h9) rfl dX7_raiseOf_105 ?_
                refine lv_iload_n hx hb dX7_raiseOf_108 rfl (lv_at hl 1 rfl) ?_
                refine r_zald (Wd := mW ad cI cZ) (k := 16) (n := 40) hx hb hK hP 17 rfl hE dX7_raiseOf_109 (fun x8 hE => ?_)
                refine r_if_eq (tgt := 117) hx hb dX7_raiseOf_110 (by decide) hE (fun c9 hE => ?_) (fun c9 hE => ?_)
                · refine lv_iconst (v := 0) hx hb dX7_raiseOf_117 (by decide) ?_
                  exact k_iret (Wd := mW ad cI cZ) hx hb hr hlk hK hP hS hE dX7_raiseOf_118
                · refine lv_iconst (v := 1) hx hb dX7_raiseOf_113 (by decide) ?_
                  refine lv_goto (tgt := 118) hx hb dX7_raiseOf_114 (by decide) ?_
                  exact k_iret (Wd := mW ad cI cZ) hx hb hr hlk hK hP hS hE dX7_raiseOf_118
              · rw [if_neg c37_4] at hE
                by_cases c37_5 : v2 = 5
                · rw [if_pos c37_5] at hE
                  refine lv_tableIn (x := v2) (tgt := 119) hx hb dX7_raiseOf_37 (by rw [c37_5]; decide) (by rw [c37_5]; decide) (by rw [c37_5]; rfl) (by decide) ?_
                  refine lv_aload_n hx hb dX7_raiseOf_119 rfl (lv_at hl 0 rfl) ?_
                  refine va_get (D := D) (ci := 6) (v := .ref (ad 10)) (C := RX7) (T := TX7) (N := 25) hx hb hts iX7_raiseOf_X7 hown hK.1 hP 0 rfl rfl 16 (by decide) (hts (.fieldLink RX7 41 "BumpheraldModel" "state" "[I") (List.mem_of_getElem? (i := 1) rfl)) (fun _ h9 => h9) rfl dX7_raiseOf_120 ?_
                  refine lv_iload_n hx hb dX7_raiseOf_123 rfl (lv_at hl 1 rfl) ?_
                  refine r_iald (Wd := mW ad cI cZ) (k := 9) (n := 40) hx hb hK hP 10 rfl hE dX7_raiseOf_124 (fun x10 hE => ?_)
                  refine r_if_ne (tgt := 137) hx hb dX7_raiseOf_125 (by decide) hE (fun c11 hE => ?_) (fun c11 hE => ?_)
                  · refine lv_aload_n hx hb dX7_raiseOf_128 rfl (lv_at hl 0 rfl) ?_
                    refine va_get (D := D) (ci := 6) (v := .ref (ad 15)) (C := RX7) (T := TX7) (N := 25) hx hb hts iX7_raiseOf_X7 hown hK.1 hP 0 rfl rfl 21 (by decide) (hts (.fieldLink RX7 56 "BumpheraldModel" "group" "[I") (List.mem_of_getElem? (i := 6) rfl)) (fun _ h9 => h9) rfl dX7_raiseOf_129 ?_
                    refine lv_iload_n hx hb dX7_raiseOf_132 rfl (lv_at hl 1 rfl) ?_
                    refine r_iald (Wd := mW ad cI cZ) (k := 14) (n := 40) hx hb hK hP 15 rfl hE dX7_raiseOf_133 (fun x12 hE => ?_)
                    refine lv_goto (tgt := 138) hx hb dX7_raiseOf_134 (by decide) ?_
                    exact k_iret (Wd := mW ad cI cZ) hx hb hr hlk hK hP hS hE dX7_raiseOf_138
                  · refine lv_iconst (v := -1) hx hb dX7_raiseOf_137 (by decide) ?_
                    exact k_iret (Wd := mW ad cI cZ) hx hb hr hlk hK hP hS hE dX7_raiseOf_138
                · rw [if_neg c37_5] at hE
                  refine lv_tableOut (x := v2) (tgt := 139) hx hb dX7_raiseOf_37 (sw_out6 c37_0 c37_1 c37_2 c37_3 c37_4 c37_5) (by decide) ?_
                  refine lv_aload_n hx hb dX7_raiseOf_139 rfl (lv_at hl 0 rfl) ?_
                  refine va_get (D := D) (ci := 6) (v := .ref (ad 10)) (C := RX7) (T := TX7) (N := 25) hx hb hts iX7_raiseOf_X7 hown hK.1 hP 0 rfl rfl 16 (by decide) (hts (.fieldLink RX7 41 "BumpheraldModel" "state" "[I") (List.mem_of_getElem? (i := 1) rfl)) (fun _ h9 => h9) rfl dX7_raiseOf_140 ?_
                  refine lv_iload_n hx hb dX7_raiseOf_143 rfl (lv_at hl 1 rfl) ?_
                  refine r_iald (Wd := mW ad cI cZ) (k := 9) (n := 40) hx hb hK hP 10 rfl hE dX7_raiseOf_144 (fun x13 hE => ?_)
                  refine r_if_ne (tgt := 161) hx hb dX7_raiseOf_145 (by decide) hE (fun c14 hE => ?_) (fun c14 hE => ?_)
                  · refine lv_aload_n hx hb dX7_raiseOf_148 rfl (lv_at hl 0 rfl) ?_
                    refine lv_aload_n hx hb dX7_raiseOf_149 rfl (lv_at hl 0 rfl) ?_
                    refine va_get (D := D) (ci := 6) (v := .ref (ad 15)) (C := RX7) (T := TX7) (N := 25) hx hb hts iX7_raiseOf_X7 hown hK.1 hP 0 rfl rfl 21 (by decide) (hts (.fieldLink RX7 56 "BumpheraldModel" "group" "[I") (List.mem_of_getElem? (i := 6) rfl)) (fun _ h9 => h9) rfl dX7_raiseOf_150 ?_
                    refine lv_iload_n hx hb dX7_raiseOf_153 rfl (lv_at hl 1 rfl) ?_
                    refine r_iald (Wd := mW ad cI cZ) (k := 14) (n := 40) hx hb hK hP 15 rfl hE dX7_raiseOf_154 (fun x15 hE => ?_)
                    refine r_callVi (Wd := mW ad cI cZ) (C := RX7) [.int x15] [] ⟨hx, hb, hml, hown, hts⟩ (kX7_sizeOf l D ad cI cZ hDD S2 x15) (cwV 1 hts gX7_raiseOf_X7_sizeOf rfl rfl rfl (by decide +kernel) ⟨Nat.le_of_ble_eq_true rfl, Nat.le_of_ble_eq_true rfl⟩) (va_recv hK.1 hP (ci := 6) (q0 := 0) rfl rfl) hK hP hS (fun _ h9 => h9) rfl hl.1 rfl (Nat.le_of_ble_eq_true rfl) ⟨Nat.zero_le _, Nat.zero_le _⟩ hE dX7_raiseOf_155 (fun S17 x16 H locs hE hP hS => ?_)
                    refine lv_goto (tgt := 162) hx hb dX7_raiseOf_158 (by decide) ?_
                    exact k_iret (Wd := mW ad cI cZ) hx hb hr hlk hK hP hS hE dX7_raiseOf_162
                  · refine lv_iconst (v := 0) hx hb dX7_raiseOf_161 (by decide) ?_
                    exact k_iret (Wd := mW ad cI cZ) hx hb hr hlk hK hP hS hE dX7_raiseOf_162
    · refine lv_iconst (v := 0) hx hb dX7_raiseOf_34 (by decide) ?_
      exact k_iret (Wd := mW ad cI cZ) hx hb hr hlk hK hP hS hE dX7_raiseOf_35
  unfold f7_raiseOf at hE
  refine lv_aload_n hx hb dX7_raiseOf_0 rfl (lv_at hl 0 rfl) ?_
  refine lv_aload_n hx hb dX7_raiseOf_1 rfl (lv_at hl 0 rfl) ?_
  refine lv_iload_n hx hb dX7_raiseOf_2 rfl (lv_at hl 1 rfl) ?_
  refine r_callVi (Wd := mW ad cI cZ) (C := RX7) [.int v1] [.ref (ad 0)] ⟨hx, hb, hml, hown, hts⟩ (kX7_isRaise l D ad cI cZ hDD S v1) (cwV 1 hts gX7_raiseOf_X7_isRaise rfl rfl rfl (by decide +kernel) ⟨Nat.le_of_ble_eq_true rfl, Nat.le_of_ble_eq_true rfl⟩) (va_recv hK.1 hP (ci := 6) (q0 := 0) rfl rfl) hK hP hS (fun _ h9 => h9) rfl hl.1 rfl (Nat.le_of_ble_eq_true rfl) ⟨Nat.zero_le _, Nat.zero_le _⟩ hE dX7_raiseOf_3 (fun S21 x20 H locs hE hP hS => ?_)
  refine r_if_ne (tgt := 13) hx hb dX7_raiseOf_6 (by decide) hE (fun c22 hE => ?_) (fun c22 hE => ?_)
  · refine lv_iconst (v := 1) hx hb dX7_raiseOf_9 (by decide) ?_
    refine lv_goto (tgt := 28) hx hb dX7_raiseOf_10 (by decide) ?_
    exact H28 v1 v2 1 S21 hE _ _ _ hP hS (lv_sub hl [0, 1, 2] rfl)
  · refine lv_iload_n hx hb dX7_raiseOf_13 rfl (lv_at hl 2 rfl) ?_
    refine lv_iconst (v := 0) hx hb dX7_raiseOf_14 (by decide) ?_
    refine lv_bipush (v := 6) hx hb dX7_raiseOf_15 (by decide) ?_
    refine r_callSi (Wd := mW ad cI cZ) [.int v2, .int 0, .int 6] [.ref (ad 0)] ⟨hx, hb, hml, hown, hts⟩ (kX7_in l D ad cI cZ hDD S21 v2 0 6) (va_cwS 3 hts gX7_raiseOf_X7_in rfl rfl rfl (by decide +kernel) ⟨Nat.le_of_ble_eq_true rfl, Nat.le_of_ble_eq_true rfl⟩) hK hP hS (fun _ h9 => h9) rfl hl.1 rfl (Nat.le_of_ble_eq_true rfl) ⟨Nat.zero_le _, Nat.zero_le _⟩ hE dX7_raiseOf_17 (fun S24 x23 H locs hE hP hS => ?_)
    refine r_if_ne (tgt := 27) hx hb dX7_raiseOf_20 (by decide) hE (fun c25 hE => ?_) (fun c25 hE => ?_)
    · refine lv_iconst (v := 2) hx hb dX7_raiseOf_23 (by decide) ?_
      refine lv_goto (tgt := 28) hx hb dX7_raiseOf_24 (by decide) ?_
      exact H28 v1 v2 2 S24 hE _ _ _ hP hS (lv_sub hl [0, 1, 2] rfl)
    · refine lv_iconst (v := 0) hx hb dX7_raiseOf_27 (by decide) ?_
      exact H28 v1 v2 0 S24 hE _ _ _ hP hS (lv_sub hl [0, 1, 2] rfl)
theorem iX7_fails_X7 : ∀ w ∈ wsX70, w ∈ wsX7_fails := fun w h => List.mem_cons_of_mem _ (List.mem_append_right _ h)
set_option maxHeartbeats 4000000 in
set_option maxRecDepth 100000 in
theorem kX7_fails (l : Launch) (D : va_G) (ad : Nat → Nat) (cI cZ : ClassId) (hDD : ∀ S, va_D (mA ad) (mW ad cI cZ S)) (S : St) (v1 : Int32) : ∀ So ro, f7_fails S v1 = some (So, ro) → Met l yX7_fails wsX7_fails { frames := 3, cells := 0, slots := 0, locals := 67 } (va_Pc [.ref (ad 0), .int v1] (kPre D cI cZ (mW ad cI cZ S))) (kQi D cI cZ (mA ad) (mW ad cI cZ So) ro) 0 0 (mA ad) := by
  intro So ro hE
  refine kMet_of (by decide) rfl (Nat.le_of_ble_eq_true rfl) ?_
  intro p e s m args below meth c ls hx hb hr hml hown hlk hts hK hP hS hl
  have hl : lv_has ls 3 [(0, .ref (ad 0)), (1, .int v1)] := hl
  have hown : s.vm.findClass RX7 = some m.cls := hown
  have H29 : ∀ (v1 : Int32) (t1 : Int32) (S : St), f7_fails_J29  v1 t1 S = some (So, ro) → ∀ (H : Heap) (locs : List Loc) (ls : Array Slot), va_P D vwCl (mW ad cI cZ S) H → va_S (mA ad) s.heap H locs → lv_has ls 3 [(0, .ref (ad 0)), (1, .int v1)] → W p l e (headSpec wsX7_fails { frames := 3, cells := 0, slots := 0, locals := 67 }).room s m args below meth c H locs 0 0 (MQ below (kQi D cI cZ (mA ad) (mW ad cI cZ So) ro) args s 0 0 (mA ad)) (F0 m 29 ls [.int t1, .ref (ad 0)]) := by
    intro v1 t1 S hE H locs ls hP hS hl
    unfold f7_fails_J29 at hE
    refine r_callVi (Wd := mW ad cI cZ) (C := RX7) [.int t1] [] ⟨hx, hb, hml, hown, hts⟩ (kX7_refused l D ad cI cZ hDD S t1) (cwV 1 hts gX7_fails_X7_refused rfl rfl rfl (by decide +kernel) ⟨Nat.le_of_ble_eq_true rfl, Nat.le_of_ble_eq_true rfl⟩) (va_recv hK.1 hP (ci := 6) (q0 := 0) rfl rfl) hK hP hS (fun _ h9 => h9) rfl hl.1 rfl (Nat.le_of_ble_eq_true rfl) ⟨Nat.zero_le _, Nat.zero_le _⟩ hE dX7_fails_29 (fun S2 x1 H locs hE hP hS => ?_)
    refine r_if_eq (tgt := 39) hx hb dX7_fails_32 (by decide) hE (fun c3 hE => ?_) (fun c3 hE => ?_)
    · refine lv_aload_n hx hb dX7_fails_39 rfl (lv_at hl 0 rfl) ?_
      refine lv_aload_n hx hb dX7_fails_40 rfl (lv_at hl 0 rfl) ?_
      refine va_get (D := D) (ci := 6) (v := .ref (ad 15)) (C := RX7) (T := TX7) (N := 25) hx hb hts iX7_fails_X7 hown hK.1 hP 0 rfl rfl 21 (by decide) (hts (.fieldLink RX7 56 "BumpheraldModel" "group" "[I") (List.mem_of_getElem? (i := 2) rfl)) (fun _ h9 => h9) rfl dX7_fails_41 ?_
      refine lv_iload_n hx hb dX7_fails_44 rfl (lv_at hl 1 rfl) ?_
      refine r_iald (Wd := mW ad cI cZ) (k := 14) (n := 40) hx hb hK hP 15 rfl hE dX7_fails_45 (fun x4 hE => ?_)
      refine lv_aload_n hx hb dX7_fails_46 rfl (lv_at hl 0 rfl) ?_
      refine va_get (D := D) (ci := 6) (v := .ref (ad 15)) (C := RX7) (T := TX7) (N := 25) hx hb hts iX7_fails_X7 hown hK.1 hP 0 rfl rfl 21 (by decide) (hts (.fieldLink RX7 56 "BumpheraldModel" "group" "[I") (List.mem_of_getElem? (i := 2) rfl)) (fun _ h9 => h9) rfl dX7_fails_47 ?_
      refine lv_iload_n hx hb dX7_fails_50 rfl (lv_at hl 1 rfl) ?_
      refine r_iald (Wd := mW ad cI cZ) (k := 14) (n := 40) hx hb hK hP 15 rfl hE dX7_fails_51 (fun x5 hE => ?_)
      refine r_callVi (Wd := mW ad cI cZ) (C := RX7) [.int x4, .int x5] [] ⟨hx, hb, hml, hown, hts⟩ (kX7_failsWith l D ad cI cZ hDD S2 x4 x5) (cwV 2 hts gX7_fails_X7_failsWith rfl rfl rfl (by decide +kernel) ⟨Nat.le_of_ble_eq_true rfl, Nat.le_of_ble_eq_true rfl⟩) (va_recv hK.1 hP (ci := 6) (q0 := 0) rfl rfl) hK hP hS (fun _ h9 => h9) rfl hl.1 rfl (Nat.le_of_ble_eq_true rfl) ⟨Nat.zero_le _, Nat.zero_le _⟩ hE dX7_fails_52 (fun S7 x6 H locs hE hP hS => ?_)
      exact k_iret (Wd := mW ad cI cZ) hx hb hr hlk hK hP hS hE dX7_fails_55
    · refine lv_iconst (v := 0) hx hb dX7_fails_35 (by decide) ?_
      refine lv_goto (tgt := 55) hx hb dX7_fails_36 (by decide) ?_
      exact k_iret (Wd := mW ad cI cZ) hx hb hr hlk hK hP hS hE dX7_fails_55
  unfold f7_fails at hE
  refine lv_aload_n hx hb dX7_fails_0 rfl (lv_at hl 0 rfl) ?_
  refine lv_iload_n hx hb dX7_fails_1 rfl (lv_at hl 1 rfl) ?_
  refine r_callVi (Wd := mW ad cI cZ) (C := RX7) [.int v1] [] ⟨hx, hb, hml, hown, hts⟩ (kX7_isRaise l D ad cI cZ hDD S v1) (cwV 1 hts gX7_fails_X7_isRaise rfl rfl rfl (by decide +kernel) ⟨Nat.le_of_ble_eq_true rfl, Nat.le_of_ble_eq_true rfl⟩) (va_recv hK.1 hP (ci := 6) (q0 := 0) rfl rfl) hK hP hS (fun _ h9 => h9) rfl hl.1 rfl (Nat.le_of_ble_eq_true rfl) ⟨Nat.zero_le _, Nat.zero_le _⟩ hE dX7_fails_2 (fun S11 x10 H locs hE hP hS => ?_)
  refine lv_istore_n (lv' := [(2, .int x10), (0, .ref (ad 0)), (1, .int v1)]) hx hb dX7_fails_5 rfl hl (by decide) rfl (fun ls hl => ?_)
  refine lv_aload_n hx hb dX7_fails_6 rfl (lv_at hl 1 rfl) ?_
  refine lv_iload_n hx hb dX7_fails_7 rfl (lv_at hl 0 rfl) ?_
  refine r_if_ne (tgt := 15) hx hb dX7_fails_8 (by decide) hE (fun c12 hE => ?_) (fun c12 hE => ?_)
  · refine lv_iconst (v := 1) hx hb dX7_fails_11 (by decide) ?_
    refine lv_goto (tgt := 29) hx hb dX7_fails_12 (by decide) ?_
    exact H29 v1 1 S11 hE _ _ _ hP hS (lv_sub hl [1, 2] rfl)
  · refine lv_aload_n hx hb dX7_fails_15 rfl (lv_at hl 1 rfl) ?_
    refine va_get (D := D) (ci := 6) (v := .ref (ad 10)) (C := RX7) (T := TX7) (N := 25) hx hb hts iX7_fails_X7 hown hK.1 hP 0 rfl rfl 16 (by decide) (hts (.fieldLink RX7 41 "BumpheraldModel" "state" "[I") (List.mem_of_getElem? (i := 1) rfl)) (fun _ h9 => h9) rfl dX7_fails_16 ?_
    refine lv_iload_n hx hb dX7_fails_19 rfl (lv_at hl 2 rfl) ?_
    refine r_iald (Wd := mW ad cI cZ) (k := 9) (n := 40) hx hb hK hP 10 rfl hE dX7_fails_20 (fun x13 hE => ?_)
    refine r_if_eq (tgt := 28) hx hb dX7_fails_21 (by decide) hE (fun c14 hE => ?_) (fun c14 hE => ?_)
    · refine lv_iconst (v := 0) hx hb dX7_fails_28 (by decide) ?_
      exact H29 v1 0 S11 hE _ _ _ hP hS (lv_sub hl [1, 2] rfl)
    · refine lv_iconst (v := 2) hx hb dX7_fails_24 (by decide) ?_
      refine lv_goto (tgt := 29) hx hb dX7_fails_25 (by decide) ?_
      exact H29 v1 2 S11 hE _ _ _ hP hS (lv_sub hl [1, 2] rfl)
theorem iX7_canLand_X7 : ∀ w ∈ wsX70, w ∈ wsX7_canLand := fun w h => List.mem_cons_of_mem _ (List.mem_append_right _ h)
set_option maxHeartbeats 4000000 in
set_option maxRecDepth 100000 in
theorem kX7_canLand (l : Launch) (D : va_G) (ad : Nat → Nat) (cI cZ : ClassId) (hDD : ∀ S, va_D (mA ad) (mW ad cI cZ S)) (S : St) (v1 : Int32) : ∀ So ro, f7_canLand S v1 = some (So, ro) → Met l yX7_canLand wsX7_canLand { frames := 4, cells := 0, slots := 0, locals := 91 } (va_Pc [.ref (ad 0), .int v1] (kPre D cI cZ (mW ad cI cZ S))) (kQi D cI cZ (mA ad) (mW ad cI cZ So) ro) 0 0 (mA ad) := by
  intro So ro hE
  refine kMet_of (by decide) rfl (Nat.le_of_ble_eq_true rfl) ?_
  intro p e s m args below meth c ls hx hb hr hml hown hlk hts hK hP hS hl
  have hl : lv_has ls 3 [(0, .ref (ad 0)), (1, .int v1)] := hl
  have hown : s.vm.findClass RX7 = some m.cls := hown
  have H29 : ∀ (v1 : Int32) (t1 : Int32) (S : St), f7_canLand_J29  v1 t1 S = some (So, ro) → ∀ (H : Heap) (locs : List Loc) (ls : Array Slot), va_P D vwCl (mW ad cI cZ S) H → va_S (mA ad) s.heap H locs → lv_has ls 3 [(0, .ref (ad 0)), (1, .int v1)] → W p l e (headSpec wsX7_canLand { frames := 4, cells := 0, slots := 0, locals := 91 }).room s m args below meth c H locs 0 0 (MQ below (kQi D cI cZ (mA ad) (mW ad cI cZ So) ro) args s 0 0 (mA ad)) (F0 m 29 ls [.int t1, .ref (ad 0)]) := by
    intro v1 t1 S hE H locs ls hP hS hl
    unfold f7_canLand_J29 at hE
    refine r_callVi (Wd := mW ad cI cZ) (C := RX7) [.int t1] [] ⟨hx, hb, hml, hown, hts⟩ (kX7_refused l D ad cI cZ hDD S t1) (cwV 1 hts gX7_canLand_X7_refused rfl rfl rfl (by decide +kernel) ⟨Nat.le_of_ble_eq_true rfl, Nat.le_of_ble_eq_true rfl⟩) (va_recv hK.1 hP (ci := 6) (q0 := 0) rfl rfl) hK hP hS (fun _ h9 => h9) rfl hl.1 rfl (Nat.le_of_ble_eq_true rfl) ⟨Nat.zero_le _, Nat.zero_le _⟩ hE dX7_canLand_29 (fun S2 x1 H locs hE hP hS => ?_)
    refine r_if_ne (tgt := 52) hx hb dX7_canLand_32 (by decide) hE (fun c3 hE => ?_) (fun c3 hE => ?_)
    · refine lv_aload_n hx hb dX7_canLand_35 rfl (lv_at hl 0 rfl) ?_
      refine lv_aload_n hx hb dX7_canLand_36 rfl (lv_at hl 0 rfl) ?_
      refine va_get (D := D) (ci := 6) (v := .ref (ad 15)) (C := RX7) (T := TX7) (N := 25) hx hb hts iX7_canLand_X7 hown hK.1 hP 0 rfl rfl 21 (by decide) (hts (.fieldLink RX7 56 "BumpheraldModel" "group" "[I") (List.mem_of_getElem? (i := 2) rfl)) (fun _ h9 => h9) rfl dX7_canLand_37 ?_
      refine lv_iload_n hx hb dX7_canLand_40 rfl (lv_at hl 1 rfl) ?_
      refine r_iald (Wd := mW ad cI cZ) (k := 14) (n := 40) hx hb hK hP 15 rfl hE dX7_canLand_41 (fun x4 hE => ?_)
      refine r_callVi (Wd := mW ad cI cZ) (C := RX7) [.int x4] [] ⟨hx, hb, hml, hown, hts⟩ (kX7_landable l D ad cI cZ hDD S2 x4) (cwV 1 hts gX7_canLand_X7_landable rfl rfl rfl (by decide +kernel) ⟨Nat.le_of_ble_eq_true rfl, Nat.le_of_ble_eq_true rfl⟩) (va_recv hK.1 hP (ci := 6) (q0 := 0) rfl rfl) hK hP hS (fun _ h9 => h9) rfl hl.1 rfl (Nat.le_of_ble_eq_true rfl) ⟨Nat.zero_le _, Nat.zero_le _⟩ hE dX7_canLand_42 (fun S6 x5 H locs hE hP hS => ?_)
      refine r_if_eq (tgt := 52) hx hb dX7_canLand_45 (by decide) hE (fun c7 hE => ?_) (fun c7 hE => ?_)
      · refine lv_iconst (v := 0) hx hb dX7_canLand_52 (by decide) ?_
        exact k_zret (Wd := mW ad cI cZ) hx hb hr hlk (by decide +kernel) hK hP hS hE dX7_canLand_53
      · refine lv_iconst (v := 1) hx hb dX7_canLand_48 (by decide) ?_
        refine lv_goto (tgt := 53) hx hb dX7_canLand_49 (by decide) ?_
        exact k_zret (Wd := mW ad cI cZ) hx hb hr hlk (by decide +kernel) hK hP hS hE dX7_canLand_53
    · refine lv_iconst (v := 0) hx hb dX7_canLand_52 (by decide) ?_
      exact k_zret (Wd := mW ad cI cZ) hx hb hr hlk (by decide +kernel) hK hP hS hE dX7_canLand_53
  unfold f7_canLand at hE
  refine lv_aload_n hx hb dX7_canLand_0 rfl (lv_at hl 0 rfl) ?_
  refine lv_iload_n hx hb dX7_canLand_1 rfl (lv_at hl 1 rfl) ?_
  refine r_callVi (Wd := mW ad cI cZ) (C := RX7) [.int v1] [] ⟨hx, hb, hml, hown, hts⟩ (kX7_isRaise l D ad cI cZ hDD S v1) (cwV 1 hts gX7_canLand_X7_isRaise rfl rfl rfl (by decide +kernel) ⟨Nat.le_of_ble_eq_true rfl, Nat.le_of_ble_eq_true rfl⟩) (va_recv hK.1 hP (ci := 6) (q0 := 0) rfl rfl) hK hP hS (fun _ h9 => h9) rfl hl.1 rfl (Nat.le_of_ble_eq_true rfl) ⟨Nat.zero_le _, Nat.zero_le _⟩ hE dX7_canLand_2 (fun S11 x10 H locs hE hP hS => ?_)
  refine lv_istore_n (lv' := [(2, .int x10), (0, .ref (ad 0)), (1, .int v1)]) hx hb dX7_canLand_5 rfl hl (by decide) rfl (fun ls hl => ?_)
  refine lv_aload_n hx hb dX7_canLand_6 rfl (lv_at hl 1 rfl) ?_
  refine lv_iload_n hx hb dX7_canLand_7 rfl (lv_at hl 0 rfl) ?_
  refine r_if_ne (tgt := 15) hx hb dX7_canLand_8 (by decide) hE (fun c12 hE => ?_) (fun c12 hE => ?_)
  · refine lv_iconst (v := 1) hx hb dX7_canLand_11 (by decide) ?_
    refine lv_goto (tgt := 29) hx hb dX7_canLand_12 (by decide) ?_
    exact H29 v1 1 S11 hE _ _ _ hP hS (lv_sub hl [1, 2] rfl)
  · refine lv_aload_n hx hb dX7_canLand_15 rfl (lv_at hl 1 rfl) ?_
    refine va_get (D := D) (ci := 6) (v := .ref (ad 10)) (C := RX7) (T := TX7) (N := 25) hx hb hts iX7_canLand_X7 hown hK.1 hP 0 rfl rfl 16 (by decide) (hts (.fieldLink RX7 41 "BumpheraldModel" "state" "[I") (List.mem_of_getElem? (i := 1) rfl)) (fun _ h9 => h9) rfl dX7_canLand_16 ?_
    refine lv_iload_n hx hb dX7_canLand_19 rfl (lv_at hl 2 rfl) ?_
    refine r_iald (Wd := mW ad cI cZ) (k := 9) (n := 40) hx hb hK hP 10 rfl hE dX7_canLand_20 (fun x13 hE => ?_)
    refine r_if_eq (tgt := 28) hx hb dX7_canLand_21 (by decide) hE (fun c14 hE => ?_) (fun c14 hE => ?_)
    · refine lv_iconst (v := 0) hx hb dX7_canLand_28 (by decide) ?_
      exact H29 v1 0 S11 hE _ _ _ hP hS (lv_sub hl [1, 2] rfl)
    · refine lv_iconst (v := 2) hx hb dX7_canLand_24 (by decide) ?_
      refine lv_goto (tgt := 29) hx hb dX7_canLand_25 (by decide) ?_
      exact H29 v1 2 S11 hE _ _ _ hP hS (lv_sub hl [1, 2] rfl)
set_option maxHeartbeats 4000000 in
set_option maxRecDepth 100000 in
theorem kX7_load (l : Launch) (D : va_G) (ad : Nat → Nat) (cI cZ : ClassId) (hDD : ∀ S, va_D (mA ad) (mW ad cI cZ S)) (S : St) (v1 : Int32) : ∀ So ro, f7_load S v1 = some (So, ro) → Met l yX7_load wsX7_load { frames := 2, cells := 0, slots := 0, locals := 42 } (va_Pc [.ref (ad 0), .int v1] (kPre D cI cZ (mW ad cI cZ S))) (kQi D cI cZ (mA ad) (mW ad cI cZ So) ro) 0 0 (mA ad) := by
  intro So ro hE
  refine kMet_of (by decide) rfl (Nat.le_of_ble_eq_true rfl) ?_
  intro p e s m args below meth c ls hx hb hr hml hown hlk hts hK hP hS hl
  have hl : lv_has ls 2 [(0, .ref (ad 0)), (1, .int v1)] := hl
  have hown : s.vm.findClass RX7 = some m.cls := hown
  have H13 : ∀ (v1 : Int32) (t1 : Int32) (S : St), f7_load_J13  v1 t1 S = some (So, ro) → ∀ (H : Heap) (locs : List Loc) (ls : Array Slot), va_P D vwCl (mW ad cI cZ S) H → va_S (mA ad) s.heap H locs → lv_has ls 2 [(0, .ref (ad 0)), (1, .int v1)] → W p l e (headSpec wsX7_load { frames := 2, cells := 0, slots := 0, locals := 42 }).room s m args below meth c H locs 0 0 (MQ below (kQi D cI cZ (mA ad) (mW ad cI cZ So) ro) args s 0 0 (mA ad)) (F0 m 13 ls [.int t1, .ref (ad 0)]) := by
    intro v1 t1 S hE H locs ls hP hS hl
    unfold f7_load_J13 at hE
    refine r_callVi (Wd := mW ad cI cZ) (C := RX7) [.int t1] [] ⟨hx, hb, hml, hown, hts⟩ (kX7_refused l D ad cI cZ hDD S t1) (cwV 1 hts gX7_load_X7_refused rfl rfl rfl (by decide +kernel) ⟨Nat.le_of_ble_eq_true rfl, Nat.le_of_ble_eq_true rfl⟩) (va_recv hK.1 hP (ci := 6) (q0 := 0) rfl rfl) hK hP hS (fun _ h9 => h9) rfl hl.1 rfl (Nat.le_of_ble_eq_true rfl) ⟨Nat.zero_le _, Nat.zero_le _⟩ hE dX7_load_13 (fun S2 x1 H locs hE hP hS => ?_)
    refine r_if_eq (tgt := 23) hx hb dX7_load_16 (by decide) hE (fun c3 hE => ?_) (fun c3 hE => ?_)
    · refine lv_aload_n hx hb dX7_load_23 rfl (lv_at hl 0 rfl) ?_
      refine lv_iload_n hx hb dX7_load_24 rfl (lv_at hl 1 rfl) ?_
      refine lv_iconst (v := -1) hx hb dX7_load_25 (by decide) ?_
      refine r_callVi (Wd := mW ad cI cZ) (C := RX7) [.int v1, .int ((-1))] [] ⟨hx, hb, hml, hown, hts⟩ (kX7_loadOf l D ad cI cZ hDD S2 v1 ((-1))) (cwV 2 hts gX7_load_X7_loadOf rfl rfl rfl (by decide +kernel) ⟨Nat.le_of_ble_eq_true rfl, Nat.le_of_ble_eq_true rfl⟩) (va_recv hK.1 hP (ci := 6) (q0 := 0) rfl rfl) hK hP hS (fun _ h9 => h9) rfl hl.1 rfl (Nat.le_of_ble_eq_true rfl) ⟨Nat.zero_le _, Nat.zero_le _⟩ hE dX7_load_26 (fun S5 x4 H locs hE hP hS => ?_)
      exact k_iret (Wd := mW ad cI cZ) hx hb hr hlk hK hP hS hE dX7_load_29
    · refine lv_iconst (v := 0) hx hb dX7_load_19 (by decide) ?_
      refine lv_goto (tgt := 29) hx hb dX7_load_20 (by decide) ?_
      exact k_iret (Wd := mW ad cI cZ) hx hb hr hlk hK hP hS hE dX7_load_29
  unfold f7_load at hE
  refine lv_aload_n hx hb dX7_load_0 rfl (lv_at hl 0 rfl) ?_
  refine lv_iload_n hx hb dX7_load_1 rfl (lv_at hl 1 rfl) ?_
  refine r_callSi (Wd := mW ad cI cZ) [.int v1] [.ref (ad 0)] ⟨hx, hb, hml, hown, hts⟩ (kX7_isReviewer l D ad cI cZ hDD S v1) (va_cwS 1 hts gX7_load_X7_isReviewer rfl rfl rfl (by decide +kernel) ⟨Nat.le_of_ble_eq_true rfl, Nat.le_of_ble_eq_true rfl⟩) hK hP hS (fun _ h9 => h9) rfl hl.1 rfl (Nat.le_of_ble_eq_true rfl) ⟨Nat.zero_le _, Nat.zero_le _⟩ hE dX7_load_2 (fun S9 x8 H locs hE hP hS => ?_)
  refine r_if_eq (tgt := 12) hx hb dX7_load_5 (by decide) hE (fun c10 hE => ?_) (fun c10 hE => ?_)
  · refine lv_iconst (v := 1) hx hb dX7_load_12 (by decide) ?_
    exact H13 v1 1 S9 hE _ _ _ hP hS (lv_sub hl [0, 1] rfl)
  · refine lv_iconst (v := 0) hx hb dX7_load_8 (by decide) ?_
    refine lv_goto (tgt := 13) hx hb dX7_load_9 (by decide) ?_
    exact H13 v1 0 S9 hE _ _ _ hP hS (lv_sub hl [0, 1] rfl)
theorem iX7_fewest_X7 : ∀ w ∈ wsX70, w ∈ wsX7_fewest := fun w h => List.mem_cons_of_mem _ (List.mem_append_right _ h)
set_option maxHeartbeats 4000000 in
set_option maxRecDepth 100000 in
theorem kX7_fewest (l : Launch) (D : va_G) (ad : Nat → Nat) (cI cZ : ClassId) (hDD : ∀ S, va_D (mA ad) (mW ad cI cZ S)) (S : St) (v1 : Int32) : ∀ So ro, f7_fewest S v1 = some (So, ro) → Met l yX7_fewest wsX7_fewest { frames := 2, cells := 0, slots := 0, locals := 44 } (va_Pc [.ref (ad 0), .int v1] (kPre D cI cZ (mW ad cI cZ S))) (kQi D cI cZ (mA ad) (mW ad cI cZ So) ro) 0 0 (mA ad) := by
  intro So ro hE
  refine kMet_of (by decide) rfl (Nat.le_of_ble_eq_true rfl) ?_
  intro p e s m args below meth c ls hx hb hr hml hown hlk hts hK hP hS hl
  have hl : lv_has ls 10 [(0, .ref (ad 0)), (1, .int v1)] := hl
  have hown : s.vm.findClass RX7 = some m.cls := hown
  have H46 : ∀ (n46 : Nat) (v1 : Int32) (v3 : Int32) (v4 : Int32) (v5 : Int32) (S : St), f7_fewest_L46  n46 v1 v3 v4 v5 S = some (So, ro) → ∀ (H : Heap) (locs : List Loc) (ls : Array Slot), va_P D vwCl (mW ad cI cZ S) H → va_S (mA ad) s.heap H locs → lv_has ls 10 [(0, .ref (ad 0)), (1, .int v1), (3, .int v3), (4, .int v4), (5, .int v5)] → W p l e (headSpec wsX7_fewest { frames := 2, cells := 0, slots := 0, locals := 44 }).room s m args below meth c H locs 0 0 (MQ below (kQi D cI cZ (mA ad) (mW ad cI cZ So) ro) args s 0 0 (mA ad)) (F0 m 46 ls []) := by
    intro n46
    induction n46 with
    | zero => intro v1 v3 v4 v5 S hE; exact absurd (show (none : Option (St × Int32)) = some (So, ro) from hE) (fun h => nomatch h)
    | succ n46 ih46 =>
      have H73 : ∀ (n73 : Nat) (v1 : Int32) (v3 : Int32) (v4 : Int32) (v5 : Int32) (v6 : Int32) (v7 : Int32) (v8 : Int32) (v9 : Int32) (S : St), f7_fewest_L73 (f7_fewest_L46 n46) n73 v1 v3 v4 v5 v6 v7 v8 v9 S = some (So, ro) → ∀ (H : Heap) (locs : List Loc) (ls : Array Slot), va_P D vwCl (mW ad cI cZ S) H → va_S (mA ad) s.heap H locs → lv_has ls 10 [(0, .ref (ad 0)), (1, .int v1), (3, .int v3), (4, .int v4), (5, .int v5), (6, .int v6), (7, .int v7), (8, .int v8), (9, .int v9)] → W p l e (headSpec wsX7_fewest { frames := 2, cells := 0, slots := 0, locals := 44 }).room s m args below meth c H locs 0 0 (MQ below (kQi D cI cZ (mA ad) (mW ad cI cZ So) ro) args s 0 0 (mA ad)) (F0 m 73 ls []) := by
        intro n73
        induction n73 with
        | zero => intro v1 v3 v4 v5 v6 v7 v8 v9 S hE; exact absurd (show (none : Option (St × Int32)) = some (So, ro) from hE) (fun h => nomatch h)
        | succ n73 ih73 =>
          intro v1 v3 v4 v5 v6 v7 v8 v9 S hE H locs ls hP hS hl
          have hE : f7_fewest_L73b (f7_fewest_L46 n46) (f7_fewest_L73 (f7_fewest_L46 n46) n73) v1 v3 v4 v5 v6 v7 v8 v9 S = some (So, ro) := hE
          unfold f7_fewest_L73b at hE
          refine lv_iload hx hb dX7_fewest_73 (lv_at hl 8 rfl) ?_
          refine lv_aload_n hx hb dX7_fewest_75 rfl (lv_at hl 0 rfl) ?_
          refine va_get (D := D) (ci := 6) (v := .int (S.1 6)) (C := RX7) (T := TX7) (N := 25) hx hb hts iX7_fewest_X7 hown hK.1 hP 0 rfl rfl 15 (by decide) (hts (.fieldLink RX7 79 "BumpheraldModel" "raises" "I") (List.mem_of_getElem? (i := 2) rfl)) (fun _ h9 => h9) rfl dX7_fewest_76 ?_
          refine r_icmp_ge (tgt := 152) hx hb dX7_fewest_79 (by decide) hE (fun c1 hE => ?_) (fun c1 hE => ?_)
          · refine lv_iload hx hb dX7_fewest_152 (lv_at hl 7 rfl) ?_
            refine r_if_eq (tgt := 178) hx hb dX7_fewest_154 (by decide) hE (fun c2 hE => ?_) (fun c2 hE => ?_)
            · refine lv_iinc (v := v5 + 1) (lv' := [(5, .int (v5 + 1)), (0, .ref (ad 0)), (1, .int v1), (3, .int v3), (4, .int v4), (6, .int v6), (7, .int v7), (8, .int v8), (9, .int v9)]) hx hb dX7_fewest_178 hl (k := 4) rfl rfl (by decide) rfl (fun ls hl => ?_)
              refine lv_goto (tgt := 46) hx hb dX7_fewest_181 (by decide) ?_
              exact ih46 v1 v3 v4 (v5 + 1) S hE _ _ _ hP hS (lv_sub hl [1, 2, 3, 4, 0] rfl)
            · refine lv_iload hx hb dX7_fewest_157 (lv_at hl 6 rfl) ?_
              refine lv_iload hx hb dX7_fewest_159 (lv_at hl 3 rfl) ?_
              refine r_icmp_ge (tgt := 178) hx hb dX7_fewest_161 (by decide) hE (fun c3 hE => ?_) (fun c3 hE => ?_)
              · refine lv_iinc (v := v5 + 1) (lv' := [(5, .int (v5 + 1)), (0, .ref (ad 0)), (1, .int v1), (3, .int v3), (4, .int v4), (6, .int v6), (7, .int v7), (8, .int v8), (9, .int v9)]) hx hb dX7_fewest_178 hl (k := 4) rfl rfl (by decide) rfl (fun ls hl => ?_)
                refine lv_goto (tgt := 46) hx hb dX7_fewest_181 (by decide) ?_
                exact ih46 v1 v3 v4 (v5 + 1) S hE _ _ _ hP hS (lv_sub hl [1, 2, 3, 4, 0] rfl)
              · refine lv_aload_n hx hb dX7_fewest_164 rfl (lv_at hl 0 rfl) ?_
                refine r_callVi (Wd := mW ad cI cZ) (C := RX7) [] [] ⟨hx, hb, hml, hown, hts⟩ (kX7_failing l D ad cI cZ hDD S) (cwV 0 hts gX7_fewest_X7_failing rfl rfl rfl (by decide +kernel) ⟨Nat.le_of_ble_eq_true rfl, Nat.le_of_ble_eq_true rfl⟩) (va_recv hK.1 hP (ci := 6) (q0 := 0) rfl rfl) hK hP hS (fun _ h9 => h9) rfl hl.1 rfl (Nat.le_of_ble_eq_true rfl) ⟨Nat.zero_le _, Nat.zero_le _⟩ hE dX7_fewest_165 (fun S5 x4 H locs hE hP hS => ?_)
                refine r_if_ne (tgt := 178) hx hb dX7_fewest_168 (by decide) hE (fun c6 hE => ?_) (fun c6 hE => ?_)
                · refine lv_iload hx hb dX7_fewest_171 (lv_at hl 4 rfl) ?_
                  refine lv_istore_n (lv' := [(3, .int v5), (0, .ref (ad 0)), (1, .int v1), (4, .int v4), (5, .int v5), (6, .int v6), (7, .int v7), (8, .int v8), (9, .int v9)]) hx hb dX7_fewest_173 rfl hl (by decide) rfl (fun ls hl => ?_)
                  refine lv_iload hx hb dX7_fewest_174 (lv_at hl 6 rfl) ?_
                  refine lv_istore (lv' := [(4, .int v7), (3, .int v5), (0, .ref (ad 0)), (1, .int v1), (5, .int v5), (6, .int v6), (7, .int v7), (8, .int v8), (9, .int v9)]) hx hb dX7_fewest_176 hl (by decide) rfl (fun ls hl => ?_)
                  refine lv_iinc (v := v5 + 1) (lv' := [(5, .int (v5 + 1)), (4, .int v7), (3, .int v5), (0, .ref (ad 0)), (1, .int v1), (6, .int v6), (7, .int v7), (8, .int v8), (9, .int v9)]) hx hb dX7_fewest_178 hl (k := 4) rfl rfl (by decide) rfl (fun ls hl => ?_)
                  refine lv_goto (tgt := 46) hx hb dX7_fewest_181 (by decide) ?_
                  exact ih46 v1 v5 v7 (v5 + 1) S5 hE _ _ _ hP hS (lv_sub hl [3, 4, 2, 1, 0] rfl)
                · refine lv_iinc (v := v5 + 1) (lv' := [(5, .int (v5 + 1)), (0, .ref (ad 0)), (1, .int v1), (3, .int v3), (4, .int v4), (6, .int v6), (7, .int v7), (8, .int v8), (9, .int v9)]) hx hb dX7_fewest_178 hl (k := 4) rfl rfl (by decide) rfl (fun ls hl => ?_)
                  refine lv_goto (tgt := 46) hx hb dX7_fewest_181 (by decide) ?_
                  exact ih46 v1 v3 v4 (v5 + 1) S5 hE _ _ _ hP hS (lv_sub hl [1, 2, 3, 4, 0] rfl)
          · refine lv_aload_n hx hb dX7_fewest_82 rfl (lv_at hl 0 rfl) ?_
            refine va_get (D := D) (ci := 6) (v := .ref (ad 10)) (C := RX7) (T := TX7) (N := 25) hx hb hts iX7_fewest_X7 hown hK.1 hP 0 rfl rfl 16 (by decide) (hts (.fieldLink RX7 41 "BumpheraldModel" "state" "[I") (List.mem_of_getElem? (i := 1) rfl)) (fun _ h9 => h9) rfl dX7_fewest_83 ?_
            refine lv_iload hx hb dX7_fewest_86 (lv_at hl 8 rfl) ?_
            refine r_iald (Wd := mW ad cI cZ) (k := 9) (n := 40) hx hb hK hP 10 rfl hE dX7_fewest_88 (fun x8 hE => ?_)
            refine r_if_ne (tgt := 146) hx hb dX7_fewest_89 (by decide) hE (fun c9 hE => ?_) (fun c9 hE => ?_)
            · refine lv_iload hx hb dX7_fewest_92 (lv_at hl 4 rfl) ?_
              refine lv_iload hx hb dX7_fewest_94 (lv_at hl 5 rfl) ?_
              refine lv_ishr hx hb dX7_fewest_96 ?_
              refine lv_iconst (v := 1) hx hb dX7_fewest_97 (by decide) ?_
              refine lv_iand hx hb dX7_fewest_98 ?_
              refine lv_iconst (v := 1) hx hb dX7_fewest_99 (by decide) ?_
              refine r_icmp_ne (tgt := 143) hx hb dX7_fewest_100 (by decide) hE (fun c10 hE => ?_) (fun c10 hE => ?_)
              · refine lv_aload_n hx hb dX7_fewest_103 rfl (lv_at hl 0 rfl) ?_
                refine va_get (D := D) (ci := 6) (v := .ref (ad 18)) (C := RX7) (T := TX7) (N := 25) hx hb hts iX7_fewest_X7 hown hK.1 hP 0 rfl rfl 24 (by decide) (hts (.fieldLink RX7 66 "BumpheraldModel" "would" "[I") (List.mem_of_getElem? (i := 3) rfl)) (fun _ h9 => h9) rfl dX7_fewest_104 ?_
                refine lv_aload_n hx hb dX7_fewest_107 rfl (lv_at hl 0 rfl) ?_
                refine va_get (D := D) (ci := 6) (v := .ref (ad 11)) (C := RX7) (T := TX7) (N := 25) hx hb hts iX7_fewest_X7 hown hK.1 hP 0 rfl rfl 17 (by decide) (hts (.fieldLink RX7 44 "BumpheraldModel" "pack" "[I") (List.mem_of_getElem? (i := 4) rfl)) (fun _ h9 => h9) rfl dX7_fewest_108 ?_
                refine lv_iload hx hb dX7_fewest_111 (lv_at hl 8 rfl) ?_
                refine r_iald (Wd := mW ad cI cZ) (k := 10) (n := 40) hx hb hK hP 11 rfl hE dX7_fewest_113 (fun x11 hE => ?_)
                refine lv_aload_n hx hb dX7_fewest_114 rfl (lv_at hl 0 rfl) ?_
                refine va_get (D := D) (ci := 6) (v := .ref (ad 12)) (C := RX7) (T := TX7) (N := 25) hx hb hts iX7_fewest_X7 hown hK.1 hP 0 rfl rfl 18 (by decide) (hts (.fieldLink RX7 47 "BumpheraldModel" "target" "[I") (List.mem_of_getElem? (i := 5) rfl)) (fun _ h9 => h9) rfl dX7_fewest_115 ?_
                refine lv_iload hx hb dX7_fewest_118 (lv_at hl 8 rfl) ?_
                refine r_iald (Wd := mW ad cI cZ) (k := 11) (n := 40) hx hb hK hP 12 rfl hE dX7_fewest_120 (fun x12 hE => ?_)
                refine r_iast (Wd := mW ad cI cZ) (k := 17) (n := 12) hx hb hDD hK hP hS 18 rfl (mU17 ..) hE dX7_fewest_121 (fun S13 H locs hE hP hS => ?_)
                refine lv_iinc (v := v7 + 1) (lv' := [(7, .int (v7 + 1)), (0, .ref (ad 0)), (1, .int v1), (3, .int v3), (4, .int v4), (5, .int v5), (6, .int v6), (8, .int v8), (9, .int v9)]) hx hb dX7_fewest_122 hl (k := 6) rfl rfl (by decide) rfl (fun ls hl => ?_)
                refine lv_iload hx hb dX7_fewest_125 (lv_at hl 7 rfl) ?_
                refine r_if_ne (tgt := 136) hx hb dX7_fewest_127 (by decide) hE (fun c14 hE => ?_) (fun c14 hE => ?_)
                · refine lv_iload hx hb dX7_fewest_130 (lv_at hl 8 rfl) ?_
                  refine lv_iload_n hx hb dX7_fewest_132 rfl (lv_at hl 2 rfl) ?_
                  refine r_icmp_ne (tgt := 140) hx hb dX7_fewest_133 (by decide) hE (fun c15 hE => ?_) (fun c15 hE => ?_)
                  · refine lv_iconst (v := 1) hx hb dX7_fewest_136 (by decide) ?_
                    refine lv_goto (tgt := 141) hx hb dX7_fewest_137 (by decide) ?_
                    refine lv_istore (lv' := [(8, .int 1), (7, .int (v7 + 1)), (0, .ref (ad 0)), (1, .int v1), (3, .int v3), (4, .int v4), (5, .int v5), (6, .int v6), (9, .int v9)]) hx hb dX7_fewest_141 hl (by decide) rfl (fun ls hl => ?_)
                    refine lv_iinc (v := v6 + 1) (lv' := [(6, .int (v6 + 1)), (8, .int 1), (7, .int (v7 + 1)), (0, .ref (ad 0)), (1, .int v1), (3, .int v3), (4, .int v4), (5, .int v5), (9, .int v9)]) hx hb dX7_fewest_143 hl (k := 7) rfl rfl (by decide) rfl (fun ls hl => ?_)
                    refine lv_iinc (v := v9 + 1) (lv' := [(9, .int (v9 + 1)), (6, .int (v6 + 1)), (8, .int 1), (7, .int (v7 + 1)), (0, .ref (ad 0)), (1, .int v1), (3, .int v3), (4, .int v4), (5, .int v5)]) hx hb dX7_fewest_146 hl (k := 8) rfl rfl (by decide) rfl (fun ls hl => ?_)
                    refine lv_goto (tgt := 73) hx hb dX7_fewest_149 (by decide) ?_
                    exact ih73 v1 v3 v4 v5 (v6 + 1) (v7 + 1) 1 (v9 + 1) S13 hE _ _ _ hP hS (lv_sub hl [4, 5, 6, 7, 8, 1, 3, 2, 0] rfl)
                  · refine lv_iconst (v := 0) hx hb dX7_fewest_140 (by decide) ?_
                    refine lv_istore (lv' := [(8, .int 0), (7, .int (v7 + 1)), (0, .ref (ad 0)), (1, .int v1), (3, .int v3), (4, .int v4), (5, .int v5), (6, .int v6), (9, .int v9)]) hx hb dX7_fewest_141 hl (by decide) rfl (fun ls hl => ?_)
                    refine lv_iinc (v := v6 + 1) (lv' := [(6, .int (v6 + 1)), (8, .int 0), (7, .int (v7 + 1)), (0, .ref (ad 0)), (1, .int v1), (3, .int v3), (4, .int v4), (5, .int v5), (9, .int v9)]) hx hb dX7_fewest_143 hl (k := 7) rfl rfl (by decide) rfl (fun ls hl => ?_)
                    refine lv_iinc (v := v9 + 1) (lv' := [(9, .int (v9 + 1)), (6, .int (v6 + 1)), (8, .int 0), (7, .int (v7 + 1)), (0, .ref (ad 0)), (1, .int v1), (3, .int v3), (4, .int v4), (5, .int v5)]) hx hb dX7_fewest_146 hl (k := 8) rfl rfl (by decide) rfl (fun ls hl => ?_)
                    refine lv_goto (tgt := 73) hx hb dX7_fewest_149 (by decide) ?_
                    exact ih73 v1 v3 v4 v5 (v6 + 1) (v7 + 1) 0 (v9 + 1) S13 hE _ _ _ hP hS (lv_sub hl [4, 5, 6, 7, 8, 1, 3, 2, 0] rfl)
                · refine lv_iconst (v := 1) hx hb dX7_fewest_136 (by decide) ?_
                  refine lv_goto (tgt := 141) hx hb dX7_fewest_137 (by decide) ?_
                  refine lv_istore (lv' := [(8, .int 1), (7, .int (v7 + 1)), (0, .ref (ad 0)), (1, .int v1), (3, .int v3), (4, .int v4), (5, .int v5), (6, .int v6), (9, .int v9)]) hx hb dX7_fewest_141 hl (by decide) rfl (fun ls hl => ?_)
                  refine lv_iinc (v := v6 + 1) (lv' := [(6, .int (v6 + 1)), (8, .int 1), (7, .int (v7 + 1)), (0, .ref (ad 0)), (1, .int v1), (3, .int v3), (4, .int v4), (5, .int v5), (9, .int v9)]) hx hb dX7_fewest_143 hl (k := 7) rfl rfl (by decide) rfl (fun ls hl => ?_)
                  refine lv_iinc (v := v9 + 1) (lv' := [(9, .int (v9 + 1)), (6, .int (v6 + 1)), (8, .int 1), (7, .int (v7 + 1)), (0, .ref (ad 0)), (1, .int v1), (3, .int v3), (4, .int v4), (5, .int v5)]) hx hb dX7_fewest_146 hl (k := 8) rfl rfl (by decide) rfl (fun ls hl => ?_)
                  refine lv_goto (tgt := 73) hx hb dX7_fewest_149 (by decide) ?_
                  exact ih73 v1 v3 v4 v5 (v6 + 1) (v7 + 1) 1 (v9 + 1) S13 hE _ _ _ hP hS (lv_sub hl [4, 5, 6, 7, 8, 1, 3, 2, 0] rfl)
              · refine lv_iinc (v := v6 + 1) (lv' := [(6, .int (v6 + 1)), (0, .ref (ad 0)), (1, .int v1), (3, .int v3), (4, .int v4), (5, .int v5), (7, .int v7), (8, .int v8), (9, .int v9)]) hx hb dX7_fewest_143 hl (k := 5) rfl rfl (by decide) rfl (fun ls hl => ?_)
                refine lv_iinc (v := v9 + 1) (lv' := [(9, .int (v9 + 1)), (6, .int (v6 + 1)), (0, .ref (ad 0)), (1, .int v1), (3, .int v3), (4, .int v4), (5, .int v5), (7, .int v7), (8, .int v8)]) hx hb dX7_fewest_146 hl (k := 8) rfl rfl (by decide) rfl (fun ls hl => ?_)
                refine lv_goto (tgt := 73) hx hb dX7_fewest_149 (by decide) ?_
                exact ih73 v1 v3 v4 v5 (v6 + 1) v7 v8 (v9 + 1) S hE _ _ _ hP hS (lv_sub hl [2, 3, 4, 5, 6, 1, 7, 8, 0] rfl)
            · refine lv_iinc (v := v9 + 1) (lv' := [(9, .int (v9 + 1)), (0, .ref (ad 0)), (1, .int v1), (3, .int v3), (4, .int v4), (5, .int v5), (6, .int v6), (7, .int v7), (8, .int v8)]) hx hb dX7_fewest_146 hl (k := 8) rfl rfl (by decide) rfl (fun ls hl => ?_)
              refine lv_goto (tgt := 73) hx hb dX7_fewest_149 (by decide) ?_
              exact ih73 v1 v3 v4 v5 v6 v7 v8 (v9 + 1) S hE _ _ _ hP hS (lv_sub hl [1, 2, 3, 4, 5, 6, 7, 8, 0] rfl)
      intro v1 v3 v4 v5 S hE H locs ls hP hS hl
      have hE : f7_fewest_L46b  (f7_fewest_L46 n46) v1 v3 v4 v5 S = some (So, ro) := hE
      unfold f7_fewest_L46b at hE
      refine lv_iload hx hb dX7_fewest_46 (lv_at hl 4 rfl) ?_
      refine lv_iconst (v := 1) hx hb dX7_fewest_48 (by decide) ?_
      refine lv_aload_n hx hb dX7_fewest_49 rfl (lv_at hl 0 rfl) ?_
      refine r_callVi (Wd := mW ad cI cZ) (C := RX7) [] [.int 1, .int v5] ⟨hx, hb, hml, hown, hts⟩ (kX7_open l D ad cI cZ hDD S) (cwV 0 hts gX7_fewest_X7_open rfl rfl rfl (by decide +kernel) ⟨Nat.le_of_ble_eq_true rfl, Nat.le_of_ble_eq_true rfl⟩) (va_recv hK.1 hP (ci := 6) (q0 := 0) rfl rfl) hK hP hS (fun _ h9 => h9) rfl hl.1 rfl (Nat.le_of_ble_eq_true rfl) ⟨Nat.zero_le _, Nat.zero_le _⟩ hE dX7_fewest_50 (fun S17 x16 H locs hE hP hS => ?_)
      refine lv_ishl hx hb dX7_fewest_53 ?_
      refine r_icmp_ge (tgt := 184) hx hb dX7_fewest_54 (by decide) hE (fun c18 hE => ?_) (fun c18 hE => ?_)
      · refine lv_iload_n hx hb dX7_fewest_184 rfl (lv_at hl 2 rfl) ?_
        exact k_iret (Wd := mW ad cI cZ) hx hb hr hlk hK hP hS hE dX7_fewest_185
      · refine lv_aload_n hx hb dX7_fewest_57 rfl (lv_at hl 0 rfl) ?_
        refine r_callVv (Wd := mW ad cI cZ) (C := RX7) [] [] ⟨hx, hb, hml, hown, hts⟩ (kX7_asNow l D ad cI cZ hDD S17) (cwV 0 hts gX7_fewest_X7_asNow rfl rfl rfl (by decide +kernel) ⟨Nat.le_of_ble_eq_true rfl, Nat.le_of_ble_eq_true rfl⟩) (va_recv hK.1 hP (ci := 6) (q0 := 0) rfl rfl) hK hP hS (fun _ h9 => h9) rfl hl.1 rfl (Nat.le_of_ble_eq_true rfl) ⟨Nat.zero_le _, Nat.zero_le _⟩ hE dX7_fewest_58 (fun S20 H locs hE hP hS => ?_)
        refine lv_iconst (v := 0) hx hb dX7_fewest_61 (by decide) ?_
        refine lv_istore (lv' := [(6, .int 0), (0, .ref (ad 0)), (1, .int v1), (3, .int v3), (4, .int v4), (5, .int v5)]) hx hb dX7_fewest_62 hl (by decide) rfl (fun ls hl => ?_)
        refine lv_iconst (v := 0) hx hb dX7_fewest_64 (by decide) ?_
        refine lv_istore (lv' := [(7, .int 0), (6, .int 0), (0, .ref (ad 0)), (1, .int v1), (3, .int v3), (4, .int v4), (5, .int v5)]) hx hb dX7_fewest_65 hl (by decide) rfl (fun ls hl => ?_)
        refine lv_iconst (v := 0) hx hb dX7_fewest_67 (by decide) ?_
        refine lv_istore (lv' := [(8, .int 0), (7, .int 0), (6, .int 0), (0, .ref (ad 0)), (1, .int v1), (3, .int v3), (4, .int v4), (5, .int v5)]) hx hb dX7_fewest_68 hl (by decide) rfl (fun ls hl => ?_)
        refine lv_iconst (v := 0) hx hb dX7_fewest_70 (by decide) ?_
        refine lv_istore (lv' := [(9, .int 0), (8, .int 0), (7, .int 0), (6, .int 0), (0, .ref (ad 0)), (1, .int v1), (3, .int v3), (4, .int v4), (5, .int v5)]) hx hb dX7_fewest_71 hl (by decide) rfl (fun ls hl => ?_)
        exact H73 2000 v1 v3 v4 v5 0 0 0 0 S20 hE _ _ _ hP hS (lv_sub hl [4, 5, 6, 7, 8, 3, 2, 1, 0] rfl)
  have H29 : ∀ (v1 : Int32) (t1 : Int32) (S : St), f7_fewest_J29  v1 t1 S = some (So, ro) → ∀ (H : Heap) (locs : List Loc) (ls : Array Slot), va_P D vwCl (mW ad cI cZ S) H → va_S (mA ad) s.heap H locs → lv_has ls 10 [(0, .ref (ad 0)), (1, .int v1)] → W p l e (headSpec wsX7_fewest { frames := 2, cells := 0, slots := 0, locals := 44 }).room s m args below meth c H locs 0 0 (MQ below (kQi D cI cZ (mA ad) (mW ad cI cZ So) ro) args s 0 0 (mA ad)) (F0 m 29 ls [.int t1, .ref (ad 0)]) := by
    intro v1 t1 S hE H locs ls hP hS hl
    unfold f7_fewest_J29 at hE
    refine r_callVi (Wd := mW ad cI cZ) (C := RX7) [.int t1] [] ⟨hx, hb, hml, hown, hts⟩ (kX7_refused l D ad cI cZ hDD S t1) (cwV 1 hts gX7_fewest_X7_refused rfl rfl rfl (by decide +kernel) ⟨Nat.le_of_ble_eq_true rfl, Nat.le_of_ble_eq_true rfl⟩) (va_recv hK.1 hP (ci := 6) (q0 := 0) rfl rfl) hK hP hS (fun _ h9 => h9) rfl hl.1 rfl (Nat.le_of_ble_eq_true rfl) ⟨Nat.zero_le _, Nat.zero_le _⟩ hE dX7_fewest_29 (fun S23 x22 H locs hE hP hS => ?_)
    refine r_if_eq (tgt := 37) hx hb dX7_fewest_32 (by decide) hE (fun c24 hE => ?_) (fun c24 hE => ?_)
    · refine lv_iconst (v := -1) hx hb dX7_fewest_37 (by decide) ?_
      refine lv_istore_n (lv' := [(3, .int ((-1))), (0, .ref (ad 0)), (1, .int v1)]) hx hb dX7_fewest_38 rfl hl (by decide) rfl (fun ls hl => ?_)
      refine lv_bipush (v := 11) hx hb dX7_fewest_39 (by decide) ?_
      refine lv_istore (lv' := [(4, .int 11), (3, .int ((-1))), (0, .ref (ad 0)), (1, .int v1)]) hx hb dX7_fewest_41 hl (by decide) rfl (fun ls hl => ?_)
      refine lv_iconst (v := 1) hx hb dX7_fewest_43 (by decide) ?_
      refine lv_istore (lv' := [(5, .int 1), (4, .int 11), (3, .int ((-1))), (0, .ref (ad 0)), (1, .int v1)]) hx hb dX7_fewest_44 hl (by decide) rfl (fun ls hl => ?_)
      exact H46 2000 v1 ((-1)) 11 1 S23 hE _ _ _ hP hS (lv_sub hl [3, 4, 2, 1, 0] rfl)
    · refine lv_iconst (v := 0) hx hb dX7_fewest_35 (by decide) ?_
      exact k_iret (Wd := mW ad cI cZ) hx hb hr hlk hK hP hS hE dX7_fewest_36
  unfold f7_fewest at hE
  refine lv_aload_n hx hb dX7_fewest_0 rfl (lv_at hl 0 rfl) ?_
  refine lv_iload_n hx hb dX7_fewest_1 rfl (lv_at hl 1 rfl) ?_
  refine r_callVi (Wd := mW ad cI cZ) (C := RX7) [.int v1] [] ⟨hx, hb, hml, hown, hts⟩ (kX7_isRaise l D ad cI cZ hDD S v1) (cwV 1 hts gX7_fewest_X7_isRaise rfl rfl rfl (by decide +kernel) ⟨Nat.le_of_ble_eq_true rfl, Nat.le_of_ble_eq_true rfl⟩) (va_recv hK.1 hP (ci := 6) (q0 := 0) rfl rfl) hK hP hS (fun _ h9 => h9) rfl hl.1 rfl (Nat.le_of_ble_eq_true rfl) ⟨Nat.zero_le _, Nat.zero_le _⟩ hE dX7_fewest_2 (fun S27 x26 H locs hE hP hS => ?_)
  refine lv_istore_n (lv' := [(2, .int x26), (0, .ref (ad 0)), (1, .int v1)]) hx hb dX7_fewest_5 rfl hl (by decide) rfl (fun ls hl => ?_)
  refine lv_aload_n hx hb dX7_fewest_6 rfl (lv_at hl 1 rfl) ?_
  refine lv_iload_n hx hb dX7_fewest_7 rfl (lv_at hl 0 rfl) ?_
  refine r_if_ne (tgt := 15) hx hb dX7_fewest_8 (by decide) hE (fun c28 hE => ?_) (fun c28 hE => ?_)
  · refine lv_iconst (v := 1) hx hb dX7_fewest_11 (by decide) ?_
    refine lv_goto (tgt := 29) hx hb dX7_fewest_12 (by decide) ?_
    exact H29 v1 1 S27 hE _ _ _ hP hS (lv_sub hl [1, 2] rfl)
  · refine lv_aload_n hx hb dX7_fewest_15 rfl (lv_at hl 1 rfl) ?_
    refine va_get (D := D) (ci := 6) (v := .ref (ad 10)) (C := RX7) (T := TX7) (N := 25) hx hb hts iX7_fewest_X7 hown hK.1 hP 0 rfl rfl 16 (by decide) (hts (.fieldLink RX7 41 "BumpheraldModel" "state" "[I") (List.mem_of_getElem? (i := 1) rfl)) (fun _ h9 => h9) rfl dX7_fewest_16 ?_
    refine lv_iload_n hx hb dX7_fewest_19 rfl (lv_at hl 2 rfl) ?_
    refine r_iald (Wd := mW ad cI cZ) (k := 9) (n := 40) hx hb hK hP 10 rfl hE dX7_fewest_20 (fun x29 hE => ?_)
    refine r_if_eq (tgt := 28) hx hb dX7_fewest_21 (by decide) hE (fun c30 hE => ?_) (fun c30 hE => ?_)
    · refine lv_iconst (v := 0) hx hb dX7_fewest_28 (by decide) ?_
      exact H29 v1 0 S27 hE _ _ _ hP hS (lv_sub hl [1, 2] rfl)
    · refine lv_iconst (v := 2) hx hb dX7_fewest_24 (by decide) ?_
      refine lv_goto (tgt := 29) hx hb dX7_fewest_25 (by decide) ?_
      exact H29 v1 2 S27 hE _ _ _ hP hS (lv_sub hl [1, 2] rfl)
set_option maxHeartbeats 4000000 in
set_option maxRecDepth 100000 in
theorem kX7_fewestAnew (l : Launch) (D : va_G) (ad : Nat → Nat) (cI cZ : ClassId) (hDD : ∀ S, va_D (mA ad) (mW ad cI cZ S)) (S : St) (v1 : Int32) : ∀ So ro, f7_fewestAnew S v1 = some (So, ro) → Met l yX7_fewestAnew wsX7_fewestAnew { frames := 3, cells := 0, slots := 0, locals := 73 } (va_Pc [.ref (ad 0), .int v1] (kPre D cI cZ (mW ad cI cZ S))) (kQi D cI cZ (mA ad) (mW ad cI cZ So) ro) 0 0 (mA ad) := by
  intro So ro hE
  refine kMet_of (by decide) rfl (Nat.le_of_ble_eq_true rfl) ?_
  intro p e s m args below meth c ls hx hb hr hml hown hlk hts hK hP hS hl
  have hl : lv_has ls 2 [(0, .ref (ad 0)), (1, .int v1)] := hl
  have hown : s.vm.findClass RX7 = some m.cls := hown
  unfold f7_fewestAnew at hE
  refine lv_aload_n hx hb dX7_fewestAnew_0 rfl (lv_at hl 0 rfl) ?_
  refine lv_iload_n hx hb dX7_fewestAnew_1 rfl (lv_at hl 1 rfl) ?_
  refine r_callVi (Wd := mW ad cI cZ) (C := RX7) [.int v1] [] ⟨hx, hb, hml, hown, hts⟩ (kX7_fewest l D ad cI cZ hDD S v1) (cwV 1 hts gX7_fewestAnew_X7_fewest rfl rfl rfl (by decide +kernel) ⟨Nat.le_of_ble_eq_true rfl, Nat.le_of_ble_eq_true rfl⟩) (va_recv hK.1 hP (ci := 6) (q0 := 0) rfl rfl) hK hP hS (fun _ h9 => h9) rfl hl.1 rfl (Nat.le_of_ble_eq_true rfl) ⟨Nat.zero_le _, Nat.zero_le _⟩ hE dX7_fewestAnew_2 (fun S2 x1 H locs hE hP hS => ?_)
  exact k_iret (Wd := mW ad cI cZ) hx hb hr hlk hK hP hS hE dX7_fewestAnew_5
theorem iX7_told_X7 : ∀ w ∈ wsX70, w ∈ wsX7_told := fun w h => List.mem_cons_of_mem _ (List.mem_append_right _ h)
set_option maxHeartbeats 4000000 in
set_option maxRecDepth 100000 in
theorem kX7_told (l : Launch) (D : va_G) (ad : Nat → Nat) (cI cZ : ClassId) (hDD : ∀ S, va_D (mA ad) (mW ad cI cZ S)) (S : St) (v1 : Int32) (v2 : Int32) : ∀ So ro, f7_told S v1 v2 = some (So, ro) → Met l yX7_told wsX7_told { frames := 2, cells := 0, slots := 0, locals := 43 } (va_Pc [.ref (ad 0), .int v1, .int v2] (kPre D cI cZ (mW ad cI cZ S))) (kQi D cI cZ (mA ad) (mW ad cI cZ So) ro) 0 0 (mA ad) := by
  intro So ro hE
  refine kMet_of (by decide) rfl (Nat.le_of_ble_eq_true rfl) ?_
  intro p e s m args below meth c ls hx hb hr hml hown hlk hts hK hP hS hl
  have hl : lv_has ls 4 [(0, .ref (ad 0)), (1, .int v1), (2, .int v2)] := hl
  have hown : s.vm.findClass RX7 = some m.cls := hown
  have H41 : ∀ (v1 : Int32) (v2 : Int32) (t1 : Int32) (S : St), f7_told_J41  v1 v2 t1 S = some (So, ro) → ∀ (H : Heap) (locs : List Loc) (ls : Array Slot), va_P D vwCl (mW ad cI cZ S) H → va_S (mA ad) s.heap H locs → lv_has ls 4 [(0, .ref (ad 0)), (1, .int v1), (2, .int v2)] → W p l e (headSpec wsX7_told { frames := 2, cells := 0, slots := 0, locals := 43 }).room s m args below meth c H locs 0 0 (MQ below (kQi D cI cZ (mA ad) (mW ad cI cZ So) ro) args s 0 0 (mA ad)) (F0 m 41 ls [.int t1, .ref (ad 0)]) := by
    intro v1 v2 t1 S hE H locs ls hP hS hl
    unfold f7_told_J41 at hE
    refine r_callVi (Wd := mW ad cI cZ) (C := RX7) [.int t1] [] ⟨hx, hb, hml, hown, hts⟩ (kX7_refused l D ad cI cZ hDD S t1) (cwV 1 hts gX7_told_X7_refused rfl rfl rfl (by decide +kernel) ⟨Nat.le_of_ble_eq_true rfl, Nat.le_of_ble_eq_true rfl⟩) (va_recv hK.1 hP (ci := 6) (q0 := 0) rfl rfl) hK hP hS (fun _ h9 => h9) rfl hl.1 rfl (Nat.le_of_ble_eq_true rfl) ⟨Nat.zero_le _, Nat.zero_le _⟩ hE dX7_told_41 (fun S2 x1 H locs hE hP hS => ?_)
    refine r_if_eq (tgt := 49) hx hb dX7_told_44 (by decide) hE (fun c3 hE => ?_) (fun c3 hE => ?_)
    · refine lv_iload_n hx hb dX7_told_49 rfl (lv_at hl 2 rfl) ?_
      refine lv_iconst (v := 3) hx hb dX7_told_50 (by decide) ?_
      refine r_icmp_ge (tgt := 104) hx hb dX7_told_51 (by decide) hE (fun c4 hE => ?_) (fun c4 hE => ?_)
      · refine lv_iload_n hx hb dX7_told_104 rfl (lv_at hl 2 rfl) ?_
        refine lv_iconst (v := 3) hx hb dX7_told_105 (by decide) ?_
        refine lv_isub hx hb dX7_told_106 ?_
        refine lv_aload_n hx hb dX7_told_107 rfl (lv_at hl 0 rfl) ?_
        refine lv_aload_n hx hb dX7_told_108 rfl (lv_at hl 0 rfl) ?_
        refine va_get (D := D) (ci := 6) (v := .ref (ad 15)) (C := RX7) (T := TX7) (N := 25) hx hb hts iX7_told_X7 hown hK.1 hP 0 rfl rfl 21 (by decide) (hts (.fieldLink RX7 56 "BumpheraldModel" "group" "[I") (List.mem_of_getElem? (i := 4) rfl)) (fun _ h9 => h9) rfl dX7_told_109 ?_
        refine lv_iload_n hx hb dX7_told_112 rfl (lv_at hl 1 rfl) ?_
        refine r_iald (Wd := mW ad cI cZ) (k := 14) (n := 40) hx hb hK hP 15 rfl hE dX7_told_113 (fun x5 hE => ?_)
        refine r_callVi (Wd := mW ad cI cZ) (C := RX7) [.int x5] [.int (v2 - 3)] ⟨hx, hb, hml, hown, hts⟩ (kX7_sizeOf l D ad cI cZ hDD S2 x5) (cwV 1 hts gX7_told_X7_sizeOf rfl rfl rfl (by decide +kernel) ⟨Nat.le_of_ble_eq_true rfl, Nat.le_of_ble_eq_true rfl⟩) (va_recv hK.1 hP (ci := 6) (q0 := 0) rfl rfl) hK hP hS (fun _ h9 => h9) rfl hl.1 rfl (Nat.le_of_ble_eq_true rfl) ⟨Nat.zero_le _, Nat.zero_le _⟩ hE dX7_told_114 (fun S7 x6 H locs hE hP hS => ?_)
        refine lv_iconst (v := 1) hx hb dX7_told_117 (by decide) ?_
        refine lv_isub hx hb dX7_told_118 ?_
        refine r_icmp_ge (tgt := 127) hx hb dX7_told_119 (by decide) hE (fun c8 hE => ?_) (fun c8 hE => ?_)
        · refine lv_iconst (v := 0) hx hb dX7_told_127 (by decide) ?_
          exact k_zret (Wd := mW ad cI cZ) hx hb hr hlk (by decide +kernel) hK hP hS hE dX7_told_128
        · refine lv_bipush (v := 43) hx hb dX7_told_122 (by decide) ?_
          refine lv_goto (tgt := 128) hx hb dX7_told_124 (by decide) ?_
          exact k_zret (Wd := mW ad cI cZ) hx hb hr hlk (by decide +kernel) hK hP hS hE dX7_told_128
      · refine lv_iload_n hx hb dX7_told_54 rfl (lv_at hl 2 rfl) ?_
        refine r_if_ne (tgt := 70) hx hb dX7_told_55 (by decide) hE (fun c10 hE => ?_) (fun c10 hE => ?_)
        · refine lv_bipush (v := 65) hx hb dX7_told_58 (by decide) ?_
          refine lv_aload_n hx hb dX7_told_60 rfl (lv_at hl 0 rfl) ?_
          refine va_get (D := D) (ci := 6) (v := .ref (ad 11)) (C := RX7) (T := TX7) (N := 25) hx hb hts iX7_told_X7 hown hK.1 hP 0 rfl rfl 17 (by decide) (hts (.fieldLink RX7 44 "BumpheraldModel" "pack" "[I") (List.mem_of_getElem? (i := 2) rfl)) (fun _ h9 => h9) rfl dX7_told_61 ?_
          refine lv_iload_n hx hb dX7_told_64 rfl (lv_at hl 1 rfl) ?_
          refine r_iald (Wd := mW ad cI cZ) (k := 10) (n := 40) hx hb hK hP 11 rfl hE dX7_told_65 (fun x11 hE => ?_)
          refine lv_iadd hx hb dX7_told_66 ?_
          refine lv_goto (tgt := 102) hx hb dX7_told_67 (by decide) ?_
          refine lv_i2c (v := ((65 + x11).toUInt32 % 65536).toInt32) hx hb dX7_told_102 rfl ?_
          exact k_zret (Wd := mW ad cI cZ) hx hb hr hlk (pk_nc _) hK hP hS hE dX7_told_103
        · refine lv_iload_n hx hb dX7_told_70 rfl (lv_at hl 2 rfl) ?_
          refine lv_iconst (v := 1) hx hb dX7_told_71 (by decide) ?_
          refine r_icmp_ne (tgt := 90) hx hb dX7_told_72 (by decide) hE (fun c12 hE => ?_) (fun c12 hE => ?_)
          · refine lv_bipush (v := 48) hx hb dX7_told_75 (by decide) ?_
            refine lv_aload_n hx hb dX7_told_77 rfl (lv_at hl 0 rfl) ?_
            refine va_get (D := D) (ci := 6) (v := .ref (ad 12)) (C := RX7) (T := TX7) (N := 25) hx hb hts iX7_told_X7 hown hK.1 hP 0 rfl rfl 18 (by decide) (hts (.fieldLink RX7 47 "BumpheraldModel" "target" "[I") (List.mem_of_getElem? (i := 3) rfl)) (fun _ h9 => h9) rfl dX7_told_78 ?_
            refine lv_iload_n hx hb dX7_told_81 rfl (lv_at hl 1 rfl) ?_
            refine r_iald (Wd := mW ad cI cZ) (k := 11) (n := 40) hx hb hK hP 12 rfl hE dX7_told_82 (fun x13 hE => ?_)
            refine lv_bipush (v := 10) hx hb dX7_told_83 (by decide) ?_
            refine r_idiv hx hb hE dX7_told_85 (fun x14 hE => ?_)
            refine lv_iadd hx hb dX7_told_86 ?_
            refine lv_goto (tgt := 102) hx hb dX7_told_87 (by decide) ?_
            refine lv_i2c (v := ((48 + x14).toUInt32 % 65536).toInt32) hx hb dX7_told_102 rfl ?_
            exact k_zret (Wd := mW ad cI cZ) hx hb hr hlk (pk_nc _) hK hP hS hE dX7_told_103
          · refine lv_bipush (v := 48) hx hb dX7_told_90 (by decide) ?_
            refine lv_aload_n hx hb dX7_told_92 rfl (lv_at hl 0 rfl) ?_
            refine va_get (D := D) (ci := 6) (v := .ref (ad 12)) (C := RX7) (T := TX7) (N := 25) hx hb hts iX7_told_X7 hown hK.1 hP 0 rfl rfl 18 (by decide) (hts (.fieldLink RX7 47 "BumpheraldModel" "target" "[I") (List.mem_of_getElem? (i := 3) rfl)) (fun _ h9 => h9) rfl dX7_told_93 ?_
            refine lv_iload_n hx hb dX7_told_96 rfl (lv_at hl 1 rfl) ?_
            refine r_iald (Wd := mW ad cI cZ) (k := 11) (n := 40) hx hb hK hP 12 rfl hE dX7_told_97 (fun x15 hE => ?_)
            refine lv_bipush (v := 10) hx hb dX7_told_98 (by decide) ?_
            refine r_irem hx hb hE dX7_told_100 (fun x16 hE => ?_)
            refine lv_iadd hx hb dX7_told_101 ?_
            refine lv_i2c (v := ((48 + x16).toUInt32 % 65536).toInt32) hx hb dX7_told_102 rfl ?_
            exact k_zret (Wd := mW ad cI cZ) hx hb hr hlk (pk_nc _) hK hP hS hE dX7_told_103
    · refine lv_iconst (v := 0) hx hb dX7_told_47 (by decide) ?_
      exact k_zret (Wd := mW ad cI cZ) hx hb hr hlk (by decide +kernel) hK hP hS hE dX7_told_48
  have H17 : ∀ (v1 : Int32) (v2 : Int32) (t0 : Int32) (S : St), f7_told_J17  v1 v2 t0 S = some (So, ro) → ∀ (H : Heap) (locs : List Loc) (ls : Array Slot), va_P D vwCl (mW ad cI cZ S) H → va_S (mA ad) s.heap H locs → lv_has ls 4 [(0, .ref (ad 0)), (1, .int v1), (2, .int v2)] → W p l e (headSpec wsX7_told { frames := 2, cells := 0, slots := 0, locals := 43 }).room s m args below meth c H locs 0 0 (MQ below (kQi D cI cZ (mA ad) (mW ad cI cZ So) ro) args s 0 0 (mA ad)) (F0 m 17 ls [.int t0]) := by
    intro v1 v2 t0 S hE H locs ls hP hS hl
    unfold f7_told_J17 at hE
    refine lv_istore_n (lv' := [(3, .int t0), (0, .ref (ad 0)), (1, .int v1), (2, .int v2)]) hx hb dX7_told_17 rfl hl (by decide) rfl (fun ls hl => ?_)
    refine lv_aload_n hx hb dX7_told_18 rfl (lv_at hl 1 rfl) ?_
    refine lv_iload_n hx hb dX7_told_19 rfl (lv_at hl 0 rfl) ?_
    refine r_if_ne (tgt := 27) hx hb dX7_told_20 (by decide) hE (fun c18 hE => ?_) (fun c18 hE => ?_)
    · refine lv_iconst (v := 1) hx hb dX7_told_23 (by decide) ?_
      refine lv_goto (tgt := 41) hx hb dX7_told_24 (by decide) ?_
      exact H41 v1 v2 1 S hE _ _ _ hP hS (lv_sub hl [1, 2, 3] rfl)
    · refine lv_aload_n hx hb dX7_told_27 rfl (lv_at hl 1 rfl) ?_
      refine va_get (D := D) (ci := 6) (v := .ref (ad 10)) (C := RX7) (T := TX7) (N := 25) hx hb hts iX7_told_X7 hown hK.1 hP 0 rfl rfl 16 (by decide) (hts (.fieldLink RX7 41 "BumpheraldModel" "state" "[I") (List.mem_of_getElem? (i := 1) rfl)) (fun _ h9 => h9) rfl dX7_told_28 ?_
      refine lv_iload_n hx hb dX7_told_31 rfl (lv_at hl 2 rfl) ?_
      refine r_iald (Wd := mW ad cI cZ) (k := 9) (n := 40) hx hb hK hP 10 rfl hE dX7_told_32 (fun x19 hE => ?_)
      refine r_if_eq (tgt := 40) hx hb dX7_told_33 (by decide) hE (fun c20 hE => ?_) (fun c20 hE => ?_)
      · refine lv_iconst (v := 0) hx hb dX7_told_40 (by decide) ?_
        exact H41 v1 v2 0 S hE _ _ _ hP hS (lv_sub hl [1, 2, 3] rfl)
      · refine lv_iconst (v := 2) hx hb dX7_told_36 (by decide) ?_
        refine lv_goto (tgt := 41) hx hb dX7_told_37 (by decide) ?_
        exact H41 v1 v2 2 S hE _ _ _ hP hS (lv_sub hl [1, 2, 3] rfl)
  have H16 : ∀ (v1 : Int32) (v2 : Int32) (S : St), f7_told_J16  v1 v2 S = some (So, ro) → ∀ (H : Heap) (locs : List Loc) (ls : Array Slot), va_P D vwCl (mW ad cI cZ S) H → va_S (mA ad) s.heap H locs → lv_has ls 4 [(0, .ref (ad 0)), (1, .int v1), (2, .int v2)] → W p l e (headSpec wsX7_told { frames := 2, cells := 0, slots := 0, locals := 43 }).room s m args below meth c H locs 0 0 (MQ below (kQi D cI cZ (mA ad) (mW ad cI cZ So) ro) args s 0 0 (mA ad)) (F0 m 16 ls []) := by
    intro v1 v2 S hE H locs ls hP hS hl
    unfold f7_told_J16 at hE
    refine lv_iconst (v := 0) hx hb dX7_told_16 (by decide) ?_
    exact H17 v1 v2 0 S hE _ _ _ hP hS (lv_sub hl [0, 1, 2] rfl)
  unfold f7_told at hE
  refine lv_aload_n hx hb dX7_told_0 rfl (lv_at hl 0 rfl) ?_
  refine lv_iload_n hx hb dX7_told_1 rfl (lv_at hl 1 rfl) ?_
  refine r_callVi (Wd := mW ad cI cZ) (C := RX7) [.int v1] [] ⟨hx, hb, hml, hown, hts⟩ (kX7_isRaise l D ad cI cZ hDD S v1) (cwV 1 hts gX7_told_X7_isRaise rfl rfl rfl (by decide +kernel) ⟨Nat.le_of_ble_eq_true rfl, Nat.le_of_ble_eq_true rfl⟩) (va_recv hK.1 hP (ci := 6) (q0 := 0) rfl rfl) hK hP hS (fun _ h9 => h9) rfl hl.1 rfl (Nat.le_of_ble_eq_true rfl) ⟨Nat.zero_le _, Nat.zero_le _⟩ hE dX7_told_2 (fun S22 x21 H locs hE hP hS => ?_)
  refine r_if_eq (tgt := 16) hx hb dX7_told_5 (by decide) hE (fun c23 hE => ?_) (fun c23 hE => ?_)
  · exact H16 v1 v2 S22 hE _ _ _ hP hS (lv_sub hl [0, 1, 2] rfl)
  · refine lv_iload_n hx hb dX7_told_8 rfl (lv_at hl 2 rfl) ?_
    refine r_if_lt (tgt := 16) hx hb dX7_told_9 (by decide) hE (fun c24 hE => ?_) (fun c24 hE => ?_)
    · exact H16 v1 v2 S22 hE _ _ _ hP hS (lv_sub hl [0, 1, 2] rfl)
    · refine lv_iconst (v := 1) hx hb dX7_told_12 (by decide) ?_
      refine lv_goto (tgt := 17) hx hb dX7_told_13 (by decide) ?_
      exact H17 v1 v2 1 S22 hE _ _ _ hP hS (lv_sub hl [0, 1, 2] rfl)
