/-! the law's calls of the class, one by one -/
def zb (r : Int32) : Int64 := if r = 0 then 0 else 1
theorem w_pass1 {s : State} {args : Array Value} {pc : Nat} {own E : String} {a : ExceptionTableEntry} (h : a.catchType ≠ 0 ∧ ∃ nm : String, (Cond.classLink own a.catchType nm).before args s = true ∧ va_Nc E nm s) : ∀ z ∈ [a], covers z pc = false ∨ (z.catchType ≠ 0 ∧ ∃ nm : String, (Cond.classLink own z.catchType nm).before args s = true ∧ va_Nc E nm s) := fun z hz => by
  rcases List.mem_cons.mp hz with rfl | hz
  · exact Or.inr h
  · exact absurd hz List.not_mem_nil
theorem w_pass2 {s : State} {args : Array Value} {pc : Nat} {own E : String} {a b : ExceptionTableEntry} (h : a.catchType ≠ 0 ∧ ∃ nm : String, (Cond.classLink own a.catchType nm).before args s = true ∧ va_Nc E nm s) (h2 : b.catchType ≠ 0 ∧ ∃ nm : String, (Cond.classLink own b.catchType nm).before args s = true ∧ va_Nc E nm s) : ∀ z ∈ [a, b], covers z pc = false ∨ (z.catchType ≠ 0 ∧ ∃ nm : String, (Cond.classLink own z.catchType nm).before args s = true ∧ va_Nc E nm s) := fun z hz => by
  rcases List.mem_cons.mp hz with rfl | hz
  · exact Or.inr h
  · exact w_pass1 h2 z hz
set_option maxHeartbeats 4000000 in
set_option maxRecDepth 100000 in
theorem kL_pack (l : Launch) (hst : l.stackTraces = false) (D : va_G) (ad : Nat → Nat) (cI cZ cJ : ClassId) (q : Nat) (hDD : ∀ S, va_D (bA ad) (bW ad cI cZ S)) (hq : ¬ bA ad q) (S : St) (v1 : Int32) (o : Nat → Int64) : ∀ So ro co, y6_pack S v1 = some (So, ro, co) → (co = 0 ∨ ps_23 co ≠ 0) → Met l yL_pack wsL_pack { frames := 7, cells := xC co, slots := xS co, locals := 111 } (va_Pc [.ref (ad 0), .int v1, .ref q] (wPre D cI cZ cJ ad q S o)) (wQ D cI cZ cJ ad q So (if co = 0 then vp_updL o 0 (Int32.toInt64 ro) else o) (ps_23 co)) (xC co) (xS co) (wA ad q) := by
  intro So ro co hE hal
  refine wMet_of (by decide) rfl (Nat.le_of_ble_eq_true rfl) ?_
  intro p e s m args below meth c ls hx hb hr hml hown hlk hts htab hP hK hNx hX hNc hl
  have hl : lv_has ls 4 [(0, .ref (ad 0)), (1, .int v1), (2, .ref q)] := hl
  have hown : s.vm.findClass RL = some m.cls := hown
  refine lv_aload_n hx hb dL_pack_0 rfl (lv_at hl 2 rfl) ?_
  refine lv_iconst (v := 0) hx hb dL_pack_1 (by decide) ?_
  refine lv_aload_n hx hb dL_pack_2 rfl (lv_at hl 0 rfl) ?_
  refine lv_iload_n hx hb dL_pack_3 rfl (lv_at hl 1 rfl) ?_
  refine w_callI (o := o) [.int v1] [.int 0, .ref q] ⟨hx, hb, hml, hown, hts⟩ (kX6_pack l hst D ad cI cZ hDD S v1 So ro co hE) (cwV 1 hts gL_pack_X6_pack rfl rfl rfl (by decide +kernel) ⟨Nat.le_of_ble_eq_true rfl, Nat.le_of_ble_eq_true rfl⟩) ⟨rfl, rfl⟩ hP hK hNx hX hq rfl hl.1 rfl (Nat.le_of_ble_eq_true rfl) dL_pack_4 (fun hco H locs hP hS => ?_) (fun hco H locs x ce hP hS hce hcv hcl => ?_)
  · subst hco
    refine lv_i2l (v := Int32.toInt64 ro) hx hb dL_pack_7 rfl ?_
    refine w_put hx hb hDD hq hK hP hS dL_pack_8 (fun H locs hP hS => ?_)
    refine lv_goto (tgt := 18) hx hb dL_pack_9 (by decide) ?_
    refine lv_iconst (v := 0) hx hb dL_pack_18 (by decide) ?_
    exact w_iret hx hb hr hlk hP hS dL_pack_19
  · rcases co with _ | _ | _ | _ | n
    · exact absurd rfl hco
    · exact absurd (show ps_23 1 = 0 from rfl) (hal.resolve_left hco)
    · refine vx_catch (E := xNm 2) (name := "java/lang/IllegalArgumentException") hown [] ⟨0, 9, 12, 13⟩ [⟨0, 9, 15, 15⟩] htab (fun z hz => absurd hz List.not_mem_nil) (by decide) (by decide) (hts (.classLink RL 13 "java/lang/IllegalArgumentException") (List.mem_of_getElem? (i := 1) rfl)) (va_Nw.use rfl (hX.2.2.2 (.castable "java/lang/IllegalArgumentException" "java/lang/IllegalArgumentException") (by decide +kernel))) hce hcv hcl ?_
      refine lv_astore_n (lv' := [(3, .ref x), (0, .ref (ad 0)), (1, .int v1), (2, .ref q)]) hx hb dL_pack_12 rfl hl (by decide) rfl (fun ls hl => ?_)
      refine lv_iconst (v := 1) hx hb dL_pack_13 (by decide) ?_
      exact w_iret hx hb hr hlk hP hS dL_pack_14
    · refine vx_catch (E := xNm 3) (name := "java/lang/IllegalStateException") hown [⟨0, 9, 12, 13⟩] ⟨0, 9, 15, 15⟩ [] htab (w_pass1 ⟨by decide, _, (hts (.classLink RL 13 "java/lang/IllegalArgumentException") (List.mem_of_getElem? (i := 1) rfl)), hNc (xNm 3, xNm 2) (by decide +kernel)⟩) (by decide) (by decide) (hts (.classLink RL 15 "java/lang/IllegalStateException") (List.mem_of_getElem? (i := 2) rfl)) (va_Nw.use rfl (hX.2.2.2 (.castable "java/lang/IllegalStateException" "java/lang/IllegalStateException") (by decide +kernel))) hce hcv hcl ?_
      refine lv_astore_n (lv' := [(3, .ref x), (0, .ref (ad 0)), (1, .int v1), (2, .ref q)]) hx hb dL_pack_15 rfl hl (by decide) rfl (fun ls hl => ?_)
      refine lv_iconst (v := 2) hx hb dL_pack_16 (by decide) ?_
      exact w_iret hx hb hr hlk hP hS dL_pack_17
    · exact absurd (show ps_23 (n + 4) = 0 from rfl) (hal.resolve_left hco)
set_option maxHeartbeats 4000000 in
set_option maxRecDepth 100000 in
theorem kL_need (l : Launch) (hst : l.stackTraces = false) (D : va_G) (ad : Nat → Nat) (cI cZ cJ : ClassId) (q : Nat) (hDD : ∀ S, va_D (bA ad) (bW ad cI cZ S)) (hq : ¬ bA ad q) (S : St) (v1 : Int32) (v2 : Int32) (v3 : Int32) (v4 : Int32) (o : Nat → Int64) : ∀ So ro co, y6_need S v1 v2 v3 v4 = some (So, ro, co) → (co = 0 ∨ ps123 co ≠ 0) → Met l yL_need wsL_need { frames := 8, cells := xC co, slots := xS co, locals := 135 } (va_Pc [.ref (ad 0), .int v1, .int v2, .int v3, .int v4, .ref q] (wPre D cI cZ cJ ad q S o)) (wQ D cI cZ cJ ad q So (if co = 0 then vp_updL o 0 (Int32.toInt64 ro) else o) (ps123 co)) (xC co) (xS co) (wA ad q) := by
  intro So ro co hE hal
  refine wMet_of (by decide) rfl (Nat.le_of_ble_eq_true rfl) ?_
  intro p e s m args below meth c ls hx hb hr hml hown hlk hts htab hP hK hNx hX hNc hl
  have hl : lv_has ls 7 [(0, .ref (ad 0)), (1, .int v1), (2, .int v2), (3, .int v3), (4, .int v4), (5, .ref q)] := hl
  have hown : s.vm.findClass RL = some m.cls := hown
  refine lv_aload hx hb dL_need_0 (lv_at hl 5 rfl) ?_
  refine lv_iconst (v := 0) hx hb dL_need_2 (by decide) ?_
  refine lv_aload_n hx hb dL_need_3 rfl (lv_at hl 0 rfl) ?_
  refine lv_iload_n hx hb dL_need_4 rfl (lv_at hl 1 rfl) ?_
  refine lv_iload_n hx hb dL_need_5 rfl (lv_at hl 2 rfl) ?_
  refine lv_iload_n hx hb dL_need_6 rfl (lv_at hl 3 rfl) ?_
  refine lv_iload hx hb dL_need_7 (lv_at hl 4 rfl) ?_
  refine w_callI (o := o) [.int v1, .int v2, .int v3, .int v4] [.int 0, .ref q] ⟨hx, hb, hml, hown, hts⟩ (kX6_need l hst D ad cI cZ hDD S v1 v2 v3 v4 So ro co hE) (cwV 4 hts gL_need_X6_need rfl rfl rfl (by decide +kernel) ⟨Nat.le_of_ble_eq_true rfl, Nat.le_of_ble_eq_true rfl⟩) ⟨rfl, rfl⟩ hP hK hNx hX hq rfl hl.1 rfl (Nat.le_of_ble_eq_true rfl) dL_need_9 (fun hco H locs hP hS => ?_) (fun hco H locs x ce hP hS hce hcv hcl => ?_)
  · subst hco
    refine lv_i2l (v := Int32.toInt64 ro) hx hb dL_need_12 rfl ?_
    refine w_put hx hb hDD hq hK hP hS dL_need_13 (fun H locs hP hS => ?_)
    refine lv_goto (tgt := 29) hx hb dL_need_14 (by decide) ?_
    refine lv_iconst (v := 0) hx hb dL_need_29 (by decide) ?_
    exact w_iret hx hb hr hlk hP hS dL_need_30
  · rcases co with _ | _ | _ | _ | n
    · exact absurd rfl hco
    · refine vx_catch (E := xNm 1) (name := "java/lang/IndexOutOfBoundsException") hown [] ⟨0, 14, 17, 21⟩ [⟨0, 14, 21, 13⟩, ⟨0, 14, 25, 15⟩] htab (fun z hz => absurd hz List.not_mem_nil) (by decide) (by decide) (hts (.classLink RL 21 "java/lang/IndexOutOfBoundsException") (List.mem_of_getElem? (i := 1) rfl)) (va_Nw.use rfl (hX.2.2.2 (.castable "java/lang/IndexOutOfBoundsException" "java/lang/IndexOutOfBoundsException") (by decide +kernel))) hce hcv hcl ?_
      refine lv_astore (lv' := [(6, .ref x), (0, .ref (ad 0)), (1, .int v1), (2, .int v2), (3, .int v3), (4, .int v4), (5, .ref q)]) hx hb dL_need_17 hl (by decide) rfl (fun ls hl => ?_)
      refine lv_iconst (v := 1) hx hb dL_need_19 (by decide) ?_
      exact w_iret hx hb hr hlk hP hS dL_need_20
    · refine vx_catch (E := xNm 2) (name := "java/lang/IllegalArgumentException") hown [⟨0, 14, 17, 21⟩] ⟨0, 14, 21, 13⟩ [⟨0, 14, 25, 15⟩] htab (w_pass1 ⟨by decide, _, (hts (.classLink RL 21 "java/lang/IndexOutOfBoundsException") (List.mem_of_getElem? (i := 1) rfl)), hNc (xNm 2, xNm 1) (by decide +kernel)⟩) (by decide) (by decide) (hts (.classLink RL 13 "java/lang/IllegalArgumentException") (List.mem_of_getElem? (i := 2) rfl)) (va_Nw.use rfl (hX.2.2.2 (.castable "java/lang/IllegalArgumentException" "java/lang/IllegalArgumentException") (by decide +kernel))) hce hcv hcl ?_
      refine lv_astore (lv' := [(6, .ref x), (0, .ref (ad 0)), (1, .int v1), (2, .int v2), (3, .int v3), (4, .int v4), (5, .ref q)]) hx hb dL_need_21 hl (by decide) rfl (fun ls hl => ?_)
      refine lv_iconst (v := 2) hx hb dL_need_23 (by decide) ?_
      exact w_iret hx hb hr hlk hP hS dL_need_24
    · refine vx_catch (E := xNm 3) (name := "java/lang/IllegalStateException") hown [⟨0, 14, 17, 21⟩, ⟨0, 14, 21, 13⟩] ⟨0, 14, 25, 15⟩ [] htab (w_pass2 ⟨by decide, _, (hts (.classLink RL 21 "java/lang/IndexOutOfBoundsException") (List.mem_of_getElem? (i := 1) rfl)), hNc (xNm 3, xNm 1) (by decide +kernel)⟩ ⟨by decide, _, (hts (.classLink RL 13 "java/lang/IllegalArgumentException") (List.mem_of_getElem? (i := 2) rfl)), hNc (xNm 3, xNm 2) (by decide +kernel)⟩) (by decide) (by decide) (hts (.classLink RL 15 "java/lang/IllegalStateException") (List.mem_of_getElem? (i := 3) rfl)) (va_Nw.use rfl (hX.2.2.2 (.castable "java/lang/IllegalStateException" "java/lang/IllegalStateException") (by decide +kernel))) hce hcv hcl ?_
      refine lv_astore (lv' := [(6, .ref x), (0, .ref (ad 0)), (1, .int v1), (2, .int v2), (3, .int v3), (4, .int v4), (5, .ref q)]) hx hb dL_need_25 hl (by decide) rfl (fun ls hl => ?_)
      refine lv_iconst (v := 3) hx hb dL_need_27 (by decide) ?_
      exact w_iret hx hb hr hlk hP hS dL_need_28
    · exact absurd (show ps123 (n + 4) = 0 from rfl) (hal.resolve_left hco)
set_option maxHeartbeats 4000000 in
set_option maxRecDepth 100000 in
theorem kL_trust (l : Launch) (hst : l.stackTraces = false) (D : va_G) (ad : Nat → Nat) (cI cZ cJ : ClassId) (q : Nat) (hDD : ∀ S, va_D (bA ad) (bW ad cI cZ S)) (hq : ¬ bA ad q) (S : St) (v1 : Int32) (v2 : Int32) (o : Nat → Int64) : ∀ So ro co, y6_trust S v1 v2 = some (So, ro, co) → (co = 0 ∨ ps12 co ≠ 0) → Met l yL_trust wsL_trust { frames := 8, cells := xC co, slots := xS co, locals := 134 } (va_Pc [.ref (ad 0), .int v1, .int v2, .ref q] (wPre D cI cZ cJ ad q S o)) (wQ D cI cZ cJ ad q So (if co = 0 then vp_updL o 0 (Int32.toInt64 ro) else o) (ps12 co)) (xC co) (xS co) (wA ad q) := by
  intro So ro co hE hal
  refine wMet_of (by decide) rfl (Nat.le_of_ble_eq_true rfl) ?_
  intro p e s m args below meth c ls hx hb hr hml hown hlk hts htab hP hK hNx hX hNc hl
  have hl : lv_has ls 5 [(0, .ref (ad 0)), (1, .int v1), (2, .int v2), (3, .ref q)] := hl
  have hown : s.vm.findClass RL = some m.cls := hown
  refine lv_aload_n hx hb dL_trust_0 rfl (lv_at hl 3 rfl) ?_
  refine lv_iconst (v := 0) hx hb dL_trust_1 (by decide) ?_
  refine lv_aload_n hx hb dL_trust_2 rfl (lv_at hl 0 rfl) ?_
  refine lv_iload_n hx hb dL_trust_3 rfl (lv_at hl 1 rfl) ?_
  refine lv_iload_n hx hb dL_trust_4 rfl (lv_at hl 2 rfl) ?_
  refine w_callI (o := o) [.int v1, .int v2] [.int 0, .ref q] ⟨hx, hb, hml, hown, hts⟩ (kX6_trust l hst D ad cI cZ hDD S v1 v2 So ro co hE) (cwV 2 hts gL_trust_X6_trust rfl rfl rfl (by decide +kernel) ⟨Nat.le_of_ble_eq_true rfl, Nat.le_of_ble_eq_true rfl⟩) ⟨rfl, rfl⟩ hP hK hNx hX hq rfl hl.1 rfl (Nat.le_of_ble_eq_true rfl) dL_trust_5 (fun hco H locs hP hS => ?_) (fun hco H locs x ce hP hS hce hcv hcl => ?_)
  · subst hco
    refine lv_i2l (v := Int32.toInt64 ro) hx hb dL_trust_8 rfl ?_
    refine w_put hx hb hDD hq hK hP hS dL_trust_9 (fun H locs hP hS => ?_)
    refine lv_goto (tgt := 21) hx hb dL_trust_10 (by decide) ?_
    refine lv_iconst (v := 0) hx hb dL_trust_21 (by decide) ?_
    exact w_iret hx hb hr hlk hP hS dL_trust_22
  · rcases co with _ | _ | _ | _ | n
    · exact absurd rfl hco
    · refine vx_catch (E := xNm 1) (name := "java/lang/IndexOutOfBoundsException") hown [] ⟨0, 10, 13, 21⟩ [⟨0, 10, 17, 13⟩] htab (fun z hz => absurd hz List.not_mem_nil) (by decide) (by decide) (hts (.classLink RL 21 "java/lang/IndexOutOfBoundsException") (List.mem_of_getElem? (i := 1) rfl)) (va_Nw.use rfl (hX.2.2.2 (.castable "java/lang/IndexOutOfBoundsException" "java/lang/IndexOutOfBoundsException") (by decide +kernel))) hce hcv hcl ?_
      refine lv_astore (lv' := [(4, .ref x), (0, .ref (ad 0)), (1, .int v1), (2, .int v2), (3, .ref q)]) hx hb dL_trust_13 hl (by decide) rfl (fun ls hl => ?_)
      refine lv_iconst (v := 1) hx hb dL_trust_15 (by decide) ?_
      exact w_iret hx hb hr hlk hP hS dL_trust_16
    · refine vx_catch (E := xNm 2) (name := "java/lang/IllegalArgumentException") hown [⟨0, 10, 13, 21⟩] ⟨0, 10, 17, 13⟩ [] htab (w_pass1 ⟨by decide, _, (hts (.classLink RL 21 "java/lang/IndexOutOfBoundsException") (List.mem_of_getElem? (i := 1) rfl)), hNc (xNm 2, xNm 1) (by decide +kernel)⟩) (by decide) (by decide) (hts (.classLink RL 13 "java/lang/IllegalArgumentException") (List.mem_of_getElem? (i := 2) rfl)) (va_Nw.use rfl (hX.2.2.2 (.castable "java/lang/IllegalArgumentException" "java/lang/IllegalArgumentException") (by decide +kernel))) hce hcv hcl ?_
      refine lv_astore (lv' := [(4, .ref x), (0, .ref (ad 0)), (1, .int v1), (2, .int v2), (3, .ref q)]) hx hb dL_trust_17 hl (by decide) rfl (fun ls hl => ?_)
      refine lv_iconst (v := 2) hx hb dL_trust_19 (by decide) ?_
      exact w_iret hx hb hr hlk hP hS dL_trust_20
    · exact absurd (show ps12 3 = 0 from rfl) (hal.resolve_left hco)
    · exact absurd (show ps12 (n + 4) = 0 from rfl) (hal.resolve_left hco)
set_option maxHeartbeats 4000000 in
set_option maxRecDepth 100000 in
theorem kL_patience (l : Launch) (hst : l.stackTraces = false) (D : va_G) (ad : Nat → Nat) (cI cZ cJ : ClassId) (q : Nat) (hDD : ∀ S, va_D (bA ad) (bW ad cI cZ S)) (hq : ¬ bA ad q) (S : St) (v1 : Int32) (o : Nat → Int64) : ∀ So ro co, y6_patience S v1 = some (So, ro, co) → (co = 0 ∨ ps_2 co ≠ 0) → Met l yL_patience wsL_patience { frames := 7, cells := xC co, slots := xS co, locals := 112 } (va_Pc [.ref (ad 0), .int v1, .ref q] (wPre D cI cZ cJ ad q S o)) (wQ D cI cZ cJ ad q So (if co = 0 then vp_updL o 0 (Int32.toInt64 ro) else o) (ps_2 co)) (xC co) (xS co) (wA ad q) := by
  intro So ro co hE hal
  refine wMet_of (by decide) rfl (Nat.le_of_ble_eq_true rfl) ?_
  intro p e s m args below meth c ls hx hb hr hml hown hlk hts htab hP hK hNx hX hNc hl
  have hl : lv_has ls 4 [(0, .ref (ad 0)), (1, .int v1), (2, .ref q)] := hl
  have hown : s.vm.findClass RL = some m.cls := hown
  refine lv_aload_n hx hb dL_patience_0 rfl (lv_at hl 2 rfl) ?_
  refine lv_iconst (v := 0) hx hb dL_patience_1 (by decide) ?_
  refine lv_aload_n hx hb dL_patience_2 rfl (lv_at hl 0 rfl) ?_
  refine lv_iload_n hx hb dL_patience_3 rfl (lv_at hl 1 rfl) ?_
  refine w_callI (o := o) [.int v1] [.int 0, .ref q] ⟨hx, hb, hml, hown, hts⟩ (kX6_patience l hst D ad cI cZ hDD S v1 So ro co hE) (cwV 1 hts gL_patience_X6_patience rfl rfl rfl (by decide +kernel) ⟨Nat.le_of_ble_eq_true rfl, Nat.le_of_ble_eq_true rfl⟩) ⟨rfl, rfl⟩ hP hK hNx hX hq rfl hl.1 rfl (Nat.le_of_ble_eq_true rfl) dL_patience_4 (fun hco H locs hP hS => ?_) (fun hco H locs x ce hP hS hce hcv hcl => ?_)
  · subst hco
    refine lv_i2l (v := Int32.toInt64 ro) hx hb dL_patience_7 rfl ?_
    refine w_put hx hb hDD hq hK hP hS dL_patience_8 (fun H locs hP hS => ?_)
    refine lv_goto (tgt := 15) hx hb dL_patience_9 (by decide) ?_
    refine lv_iconst (v := 0) hx hb dL_patience_15 (by decide) ?_
    exact w_iret hx hb hr hlk hP hS dL_patience_16
  · rcases co with _ | _ | _ | _ | n
    · exact absurd rfl hco
    · exact absurd (show ps_2 1 = 0 from rfl) (hal.resolve_left hco)
    · refine vx_catch (E := xNm 2) (name := "java/lang/IllegalArgumentException") hown [] ⟨0, 9, 12, 13⟩ [] htab (fun z hz => absurd hz List.not_mem_nil) (by decide) (by decide) (hts (.classLink RL 13 "java/lang/IllegalArgumentException") (List.mem_of_getElem? (i := 1) rfl)) (va_Nw.use rfl (hX.2.2.2 (.castable "java/lang/IllegalArgumentException" "java/lang/IllegalArgumentException") (by decide +kernel))) hce hcv hcl ?_
      refine lv_astore_n (lv' := [(3, .ref x), (0, .ref (ad 0)), (1, .int v1), (2, .ref q)]) hx hb dL_patience_12 rfl hl (by decide) rfl (fun ls hl => ?_)
      refine lv_iconst (v := 1) hx hb dL_patience_13 (by decide) ?_
      exact w_iret hx hb hr hlk hP hS dL_patience_14
    · exact absurd (show ps_2 3 = 0 from rfl) (hal.resolve_left hco)
    · exact absurd (show ps_2 (n + 4) = 0 from rfl) (hal.resolve_left hco)
set_option maxHeartbeats 4000000 in
set_option maxRecDepth 100000 in
theorem kL_freeze (l : Launch) (hst : l.stackTraces = false) (D : va_G) (ad : Nat → Nat) (cI cZ cJ : ClassId) (q : Nat) (hDD : ∀ S, va_D (bA ad) (bW ad cI cZ S)) (hq : ¬ bA ad q) (S : St) (v1 : Int32) (v2 : Int32) (v3 : Int32) (o : Nat → Int64) : ∀ So ro co, y6_freeze S v1 v2 v3 = some (So, ro, co) → (co = 0 ∨ ps_23 co ≠ 0) → Met l yL_freeze wsL_freeze { frames := 7, cells := xC co, slots := xS co, locals := 113 } (va_Pc [.ref (ad 0), .int v1, .int v2, .int v3, .ref q] (wPre D cI cZ cJ ad q S o)) (wQ D cI cZ cJ ad q So (if co = 0 then vp_updL o 0 (Int32.toInt64 ro) else o) (ps_23 co)) (xC co) (xS co) (wA ad q) := by
  intro So ro co hE hal
  refine wMet_of (by decide) rfl (Nat.le_of_ble_eq_true rfl) ?_
  intro p e s m args below meth c ls hx hb hr hml hown hlk hts htab hP hK hNx hX hNc hl
  have hl : lv_has ls 6 [(0, .ref (ad 0)), (1, .int v1), (2, .int v2), (3, .int v3), (4, .ref q)] := hl
  have hown : s.vm.findClass RL = some m.cls := hown
  refine lv_aload hx hb dL_freeze_0 (lv_at hl 4 rfl) ?_
  refine lv_iconst (v := 0) hx hb dL_freeze_2 (by decide) ?_
  refine lv_aload_n hx hb dL_freeze_3 rfl (lv_at hl 0 rfl) ?_
  refine lv_iload_n hx hb dL_freeze_4 rfl (lv_at hl 1 rfl) ?_
  refine lv_iload_n hx hb dL_freeze_5 rfl (lv_at hl 2 rfl) ?_
  refine lv_iload_n hx hb dL_freeze_6 rfl (lv_at hl 3 rfl) ?_
  refine w_callI (o := o) [.int v1, .int v2, .int v3] [.int 0, .ref q] ⟨hx, hb, hml, hown, hts⟩ (kX6_freeze l hst D ad cI cZ hDD S v1 v2 v3 So ro co hE) (cwV 3 hts gL_freeze_X6_freeze rfl rfl rfl (by decide +kernel) ⟨Nat.le_of_ble_eq_true rfl, Nat.le_of_ble_eq_true rfl⟩) ⟨rfl, rfl⟩ hP hK hNx hX hq rfl hl.1 rfl (Nat.le_of_ble_eq_true rfl) dL_freeze_7 (fun hco H locs hP hS => ?_) (fun hco H locs x ce hP hS hce hcv hcl => ?_)
  · subst hco
    refine lv_i2l (v := Int32.toInt64 ro) hx hb dL_freeze_10 rfl ?_
    refine w_put hx hb hDD hq hK hP hS dL_freeze_11 (fun H locs hP hS => ?_)
    refine lv_goto (tgt := 23) hx hb dL_freeze_12 (by decide) ?_
    refine lv_iconst (v := 0) hx hb dL_freeze_23 (by decide) ?_
    exact w_iret hx hb hr hlk hP hS dL_freeze_24
  · rcases co with _ | _ | _ | _ | n
    · exact absurd rfl hco
    · exact absurd (show ps_23 1 = 0 from rfl) (hal.resolve_left hco)
    · refine vx_catch (E := xNm 2) (name := "java/lang/IllegalArgumentException") hown [] ⟨0, 12, 15, 13⟩ [⟨0, 12, 19, 15⟩] htab (fun z hz => absurd hz List.not_mem_nil) (by decide) (by decide) (hts (.classLink RL 13 "java/lang/IllegalArgumentException") (List.mem_of_getElem? (i := 1) rfl)) (va_Nw.use rfl (hX.2.2.2 (.castable "java/lang/IllegalArgumentException" "java/lang/IllegalArgumentException") (by decide +kernel))) hce hcv hcl ?_
      refine lv_astore (lv' := [(5, .ref x), (0, .ref (ad 0)), (1, .int v1), (2, .int v2), (3, .int v3), (4, .ref q)]) hx hb dL_freeze_15 hl (by decide) rfl (fun ls hl => ?_)
      refine lv_iconst (v := 1) hx hb dL_freeze_17 (by decide) ?_
      exact w_iret hx hb hr hlk hP hS dL_freeze_18
    · refine vx_catch (E := xNm 3) (name := "java/lang/IllegalStateException") hown [⟨0, 12, 15, 13⟩] ⟨0, 12, 19, 15⟩ [] htab (w_pass1 ⟨by decide, _, (hts (.classLink RL 13 "java/lang/IllegalArgumentException") (List.mem_of_getElem? (i := 1) rfl)), hNc (xNm 3, xNm 2) (by decide +kernel)⟩) (by decide) (by decide) (hts (.classLink RL 15 "java/lang/IllegalStateException") (List.mem_of_getElem? (i := 2) rfl)) (va_Nw.use rfl (hX.2.2.2 (.castable "java/lang/IllegalStateException" "java/lang/IllegalStateException") (by decide +kernel))) hce hcv hcl ?_
      refine lv_astore (lv' := [(5, .ref x), (0, .ref (ad 0)), (1, .int v1), (2, .int v2), (3, .int v3), (4, .ref q)]) hx hb dL_freeze_19 hl (by decide) rfl (fun ls hl => ?_)
      refine lv_iconst (v := 2) hx hb dL_freeze_21 (by decide) ?_
      exact w_iret hx hb hr hlk hP hS dL_freeze_22
    · exact absurd (show ps_23 (n + 4) = 0 from rfl) (hal.resolve_left hco)
set_option maxHeartbeats 4000000 in
set_option maxRecDepth 100000 in
theorem kL_raise (l : Launch) (hst : l.stackTraces = false) (D : va_G) (ad : Nat → Nat) (cI cZ cJ : ClassId) (q : Nat) (hDD : ∀ S, va_D (bA ad) (bW ad cI cZ S)) (hq : ¬ bA ad q) (S : St) (v1 : Int32) (v2 : Int32) (v3 : Int32) (o : Nat → Int64) : ∀ So ro co, y6_raise S v1 v2 v3 = some (So, ro, co) → (co = 0 ∨ ps123 co ≠ 0) → Met l yL_raise wsL_raise { frames := 8, cells := xC co, slots := xS co, locals := 135 } (va_Pc [.ref (ad 0), .int v1, .int v2, .int v3, .ref q] (wPre D cI cZ cJ ad q S o)) (wQ D cI cZ cJ ad q So (if co = 0 then vp_updL o 0 (Int32.toInt64 ro) else o) (ps123 co)) (xC co) (xS co) (wA ad q) := by
  intro So ro co hE hal
  refine wMet_of (by decide) rfl (Nat.le_of_ble_eq_true rfl) ?_
  intro p e s m args below meth c ls hx hb hr hml hown hlk hts htab hP hK hNx hX hNc hl
  have hl : lv_has ls 6 [(0, .ref (ad 0)), (1, .int v1), (2, .int v2), (3, .int v3), (4, .ref q)] := hl
  have hown : s.vm.findClass RL = some m.cls := hown
  refine lv_aload hx hb dL_raise_0 (lv_at hl 4 rfl) ?_
  refine lv_iconst (v := 0) hx hb dL_raise_2 (by decide) ?_
  refine lv_aload_n hx hb dL_raise_3 rfl (lv_at hl 0 rfl) ?_
  refine lv_iload_n hx hb dL_raise_4 rfl (lv_at hl 1 rfl) ?_
  refine lv_iload_n hx hb dL_raise_5 rfl (lv_at hl 2 rfl) ?_
  refine lv_iload_n hx hb dL_raise_6 rfl (lv_at hl 3 rfl) ?_
  refine w_callI (o := o) [.int v1, .int v2, .int v3] [.int 0, .ref q] ⟨hx, hb, hml, hown, hts⟩ (kX6_raise l hst D ad cI cZ hDD S v1 v2 v3 So ro co hE) (cwV 3 hts gL_raise_X6_raise rfl rfl rfl (by decide +kernel) ⟨Nat.le_of_ble_eq_true rfl, Nat.le_of_ble_eq_true rfl⟩) ⟨rfl, rfl⟩ hP hK hNx hX hq rfl hl.1 rfl (Nat.le_of_ble_eq_true rfl) dL_raise_7 (fun hco H locs hP hS => ?_) (fun hco H locs x ce hP hS hce hcv hcl => ?_)
  · subst hco
    refine lv_i2l (v := Int32.toInt64 ro) hx hb dL_raise_10 rfl ?_
    refine w_put hx hb hDD hq hK hP hS dL_raise_11 (fun H locs hP hS => ?_)
    refine lv_goto (tgt := 27) hx hb dL_raise_12 (by decide) ?_
    refine lv_iconst (v := 0) hx hb dL_raise_27 (by decide) ?_
    exact w_iret hx hb hr hlk hP hS dL_raise_28
  · rcases co with _ | _ | _ | _ | n
    · exact absurd rfl hco
    · refine vx_catch (E := xNm 1) (name := "java/lang/IndexOutOfBoundsException") hown [] ⟨0, 12, 15, 21⟩ [⟨0, 12, 19, 13⟩, ⟨0, 12, 23, 15⟩] htab (fun z hz => absurd hz List.not_mem_nil) (by decide) (by decide) (hts (.classLink RL 21 "java/lang/IndexOutOfBoundsException") (List.mem_of_getElem? (i := 1) rfl)) (va_Nw.use rfl (hX.2.2.2 (.castable "java/lang/IndexOutOfBoundsException" "java/lang/IndexOutOfBoundsException") (by decide +kernel))) hce hcv hcl ?_
      refine lv_astore (lv' := [(5, .ref x), (0, .ref (ad 0)), (1, .int v1), (2, .int v2), (3, .int v3), (4, .ref q)]) hx hb dL_raise_15 hl (by decide) rfl (fun ls hl => ?_)
      refine lv_iconst (v := 1) hx hb dL_raise_17 (by decide) ?_
      exact w_iret hx hb hr hlk hP hS dL_raise_18
    · refine vx_catch (E := xNm 2) (name := "java/lang/IllegalArgumentException") hown [⟨0, 12, 15, 21⟩] ⟨0, 12, 19, 13⟩ [⟨0, 12, 23, 15⟩] htab (w_pass1 ⟨by decide, _, (hts (.classLink RL 21 "java/lang/IndexOutOfBoundsException") (List.mem_of_getElem? (i := 1) rfl)), hNc (xNm 2, xNm 1) (by decide +kernel)⟩) (by decide) (by decide) (hts (.classLink RL 13 "java/lang/IllegalArgumentException") (List.mem_of_getElem? (i := 2) rfl)) (va_Nw.use rfl (hX.2.2.2 (.castable "java/lang/IllegalArgumentException" "java/lang/IllegalArgumentException") (by decide +kernel))) hce hcv hcl ?_
      refine lv_astore (lv' := [(5, .ref x), (0, .ref (ad 0)), (1, .int v1), (2, .int v2), (3, .int v3), (4, .ref q)]) hx hb dL_raise_19 hl (by decide) rfl (fun ls hl => ?_)
      refine lv_iconst (v := 2) hx hb dL_raise_21 (by decide) ?_
      exact w_iret hx hb hr hlk hP hS dL_raise_22
    · refine vx_catch (E := xNm 3) (name := "java/lang/IllegalStateException") hown [⟨0, 12, 15, 21⟩, ⟨0, 12, 19, 13⟩] ⟨0, 12, 23, 15⟩ [] htab (w_pass2 ⟨by decide, _, (hts (.classLink RL 21 "java/lang/IndexOutOfBoundsException") (List.mem_of_getElem? (i := 1) rfl)), hNc (xNm 3, xNm 1) (by decide +kernel)⟩ ⟨by decide, _, (hts (.classLink RL 13 "java/lang/IllegalArgumentException") (List.mem_of_getElem? (i := 2) rfl)), hNc (xNm 3, xNm 2) (by decide +kernel)⟩) (by decide) (by decide) (hts (.classLink RL 15 "java/lang/IllegalStateException") (List.mem_of_getElem? (i := 3) rfl)) (va_Nw.use rfl (hX.2.2.2 (.castable "java/lang/IllegalStateException" "java/lang/IllegalStateException") (by decide +kernel))) hce hcv hcl ?_
      refine lv_astore (lv' := [(5, .ref x), (0, .ref (ad 0)), (1, .int v1), (2, .int v2), (3, .int v3), (4, .ref q)]) hx hb dL_raise_23 hl (by decide) rfl (fun ls hl => ?_)
      refine lv_iconst (v := 3) hx hb dL_raise_25 (by decide) ?_
      exact w_iret hx hb hr hlk hP hS dL_raise_26
    · exact absurd (show ps123 (n + 4) = 0 from rfl) (hal.resolve_left hco)
set_option maxHeartbeats 4000000 in
set_option maxRecDepth 100000 in
theorem kL_approve (l : Launch) (hst : l.stackTraces = false) (D : va_G) (ad : Nat → Nat) (cI cZ cJ : ClassId) (q : Nat) (hDD : ∀ S, va_D (bA ad) (bW ad cI cZ S)) (hq : ¬ bA ad q) (S : St) (v1 : Int32) (o : Nat → Int64) : ∀ So ro co, y6_approve S v1 = some (So, ro, co) → (co = 0 ∨ ps13 co ≠ 0) → Met l yL_approve wsL_approve { frames := 9, cells := xC co, slots := xS co, locals := 154 } (va_Pc [.ref (ad 0), .int v1, .ref q] (wPre D cI cZ cJ ad q S o)) (wQ D cI cZ cJ ad q So (if co = 0 then vp_updL o 0 (zb ro) else o) (ps13 co)) (xC co) (xS co) (wA ad q) := by
  intro So ro co hE hal
  refine wMet_of (by decide) rfl (Nat.le_of_ble_eq_true rfl) ?_
  intro p e s m args below meth c ls hx hb hr hml hown hlk hts htab hP hK hNx hX hNc hl
  have hl : lv_has ls 4 [(0, .ref (ad 0)), (1, .int v1), (2, .ref q)] := hl
  have hown : s.vm.findClass RL = some m.cls := hown
  refine lv_aload_n hx hb dL_approve_0 rfl (lv_at hl 2 rfl) ?_
  refine lv_iconst (v := 0) hx hb dL_approve_1 (by decide) ?_
  refine lv_aload_n hx hb dL_approve_2 rfl (lv_at hl 0 rfl) ?_
  refine lv_iload_n hx hb dL_approve_3 rfl (lv_at hl 1 rfl) ?_
  refine w_callI (o := o) [.int v1] [.int 0, .ref q] ⟨hx, hb, hml, hown, hts⟩ (kX6_approve l hst D ad cI cZ hDD S v1 So ro co hE) (cwV 1 hts gL_approve_X6_approve rfl rfl rfl (by decide +kernel) ⟨Nat.le_of_ble_eq_true rfl, Nat.le_of_ble_eq_true rfl⟩) ⟨rfl, rfl⟩ hP hK hNx hX hq rfl hl.1 rfl (Nat.le_of_ble_eq_true rfl) dL_approve_4 (fun hco H locs hP hS => ?_) (fun hco H locs x ce hP hS hce hcv hcl => ?_)
  · subst hco
    refine lv_if_eq (tgt := 14) hx hb dL_approve_7 (by decide) (fun hz => ?_) (fun hz => ?_)
    · refine lv_lconst (v := 0) hx hb dL_approve_14 rfl ?_
      refine w_put hx hb hDD hq hK hP hS dL_approve_15 (fun H locs hP hS => ?_)
      have hP : va_P D vwCl (wW ad cI cZ cJ q So (vp_updL o 0 (zb ro))) H := by unfold zb; rw [if_pos hz]; exact hP
      refine lv_goto (tgt := 25) hx hb dL_approve_16 (by decide) ?_
      refine lv_iconst (v := 0) hx hb dL_approve_25 (by decide) ?_
      exact w_iret hx hb hr hlk hP hS dL_approve_26
    · refine lv_lconst (v := 1) hx hb dL_approve_10 rfl ?_
      refine lv_goto (tgt := 15) hx hb dL_approve_11 (by decide) ?_
      refine w_put hx hb hDD hq hK hP hS dL_approve_15 (fun H locs hP hS => ?_)
      have hP : va_P D vwCl (wW ad cI cZ cJ q So (vp_updL o 0 (zb ro))) H := by unfold zb; rw [if_neg hz]; exact hP
      refine lv_goto (tgt := 25) hx hb dL_approve_16 (by decide) ?_
      refine lv_iconst (v := 0) hx hb dL_approve_25 (by decide) ?_
      exact w_iret hx hb hr hlk hP hS dL_approve_26
  · rcases co with _ | _ | _ | _ | n
    · exact absurd rfl hco
    · refine vx_catch (E := xNm 1) (name := "java/lang/IndexOutOfBoundsException") hown [] ⟨0, 16, 19, 21⟩ [⟨0, 16, 22, 15⟩] htab (fun z hz => absurd hz List.not_mem_nil) (by decide) (by decide) (hts (.classLink RL 21 "java/lang/IndexOutOfBoundsException") (List.mem_of_getElem? (i := 1) rfl)) (va_Nw.use rfl (hX.2.2.2 (.castable "java/lang/IndexOutOfBoundsException" "java/lang/IndexOutOfBoundsException") (by decide +kernel))) hce hcv hcl ?_
      refine lv_astore_n (lv' := [(3, .ref x), (0, .ref (ad 0)), (1, .int v1), (2, .ref q)]) hx hb dL_approve_19 rfl hl (by decide) rfl (fun ls hl => ?_)
      refine lv_iconst (v := 1) hx hb dL_approve_20 (by decide) ?_
      exact w_iret hx hb hr hlk hP hS dL_approve_21
    · exact absurd (show ps13 2 = 0 from rfl) (hal.resolve_left hco)
    · refine vx_catch (E := xNm 3) (name := "java/lang/IllegalStateException") hown [⟨0, 16, 19, 21⟩] ⟨0, 16, 22, 15⟩ [] htab (w_pass1 ⟨by decide, _, (hts (.classLink RL 21 "java/lang/IndexOutOfBoundsException") (List.mem_of_getElem? (i := 1) rfl)), hNc (xNm 3, xNm 1) (by decide +kernel)⟩) (by decide) (by decide) (hts (.classLink RL 15 "java/lang/IllegalStateException") (List.mem_of_getElem? (i := 2) rfl)) (va_Nw.use rfl (hX.2.2.2 (.castable "java/lang/IllegalStateException" "java/lang/IllegalStateException") (by decide +kernel))) hce hcv hcl ?_
      refine lv_astore_n (lv' := [(3, .ref x), (0, .ref (ad 0)), (1, .int v1), (2, .ref q)]) hx hb dL_approve_22 rfl hl (by decide) rfl (fun ls hl => ?_)
      refine lv_iconst (v := 2) hx hb dL_approve_23 (by decide) ?_
      exact w_iret hx hb hr hlk hP hS dL_approve_24
    · exact absurd (show ps13 (n + 4) = 0 from rfl) (hal.resolve_left hco)
set_option maxHeartbeats 4000000 in
set_option maxRecDepth 100000 in
theorem kL_land (l : Launch) (hst : l.stackTraces = false) (D : va_G) (ad : Nat → Nat) (cI cZ cJ : ClassId) (q : Nat) (hDD : ∀ S, va_D (bA ad) (bW ad cI cZ S)) (hq : ¬ bA ad q) (S : St) (v1 : Int32) (v2 : Int32) (o : Nat → Int64) : ∀ So ro co, y6_land S v1 v2 = some (So, ro, co) → (co = 0 ∨ ps13 co ≠ 0) → Met l yL_land wsL_land { frames := 9, cells := xC co, slots := xS co, locals := 156 } (va_Pc [.ref (ad 0), .int v1, .int v2, .ref q] (wPre D cI cZ cJ ad q S o)) (wQ D cI cZ cJ ad q So (if co = 0 then vp_updL o 0 (Int32.toInt64 ro) else o) (ps13 co)) (xC co) (xS co) (wA ad q) := by
  intro So ro co hE hal
  refine wMet_of (by decide) rfl (Nat.le_of_ble_eq_true rfl) ?_
  intro p e s m args below meth c ls hx hb hr hml hown hlk hts htab hP hK hNx hX hNc hl
  have hl : lv_has ls 5 [(0, .ref (ad 0)), (1, .int v1), (2, .int v2), (3, .ref q)] := hl
  have hown : s.vm.findClass RL = some m.cls := hown
  refine lv_aload_n hx hb dL_land_0 rfl (lv_at hl 3 rfl) ?_
  refine lv_iconst (v := 0) hx hb dL_land_1 (by decide) ?_
  refine lv_aload_n hx hb dL_land_2 rfl (lv_at hl 0 rfl) ?_
  refine lv_iload_n hx hb dL_land_3 rfl (lv_at hl 1 rfl) ?_
  refine lv_iload_n hx hb dL_land_4 rfl (lv_at hl 2 rfl) ?_
  refine w_callI (o := o) [.int v1, .int v2] [.int 0, .ref q] ⟨hx, hb, hml, hown, hts⟩ (kX6_land l hst D ad cI cZ hDD S v1 v2 So ro co hE) (cwV 2 hts gL_land_X6_land rfl rfl rfl (by decide +kernel) ⟨Nat.le_of_ble_eq_true rfl, Nat.le_of_ble_eq_true rfl⟩) ⟨rfl, rfl⟩ hP hK hNx hX hq rfl hl.1 rfl (Nat.le_of_ble_eq_true rfl) dL_land_5 (fun hco H locs hP hS => ?_) (fun hco H locs x ce hP hS hce hcv hcl => ?_)
  · subst hco
    refine lv_i2l (v := Int32.toInt64 ro) hx hb dL_land_8 rfl ?_
    refine w_put hx hb hDD hq hK hP hS dL_land_9 (fun H locs hP hS => ?_)
    refine lv_goto (tgt := 21) hx hb dL_land_10 (by decide) ?_
    refine lv_iconst (v := 0) hx hb dL_land_21 (by decide) ?_
    exact w_iret hx hb hr hlk hP hS dL_land_22
  · rcases co with _ | _ | _ | _ | n
    · exact absurd rfl hco
    · refine vx_catch (E := xNm 1) (name := "java/lang/IndexOutOfBoundsException") hown [] ⟨0, 10, 13, 21⟩ [⟨0, 10, 17, 15⟩] htab (fun z hz => absurd hz List.not_mem_nil) (by decide) (by decide) (hts (.classLink RL 21 "java/lang/IndexOutOfBoundsException") (List.mem_of_getElem? (i := 1) rfl)) (va_Nw.use rfl (hX.2.2.2 (.castable "java/lang/IndexOutOfBoundsException" "java/lang/IndexOutOfBoundsException") (by decide +kernel))) hce hcv hcl ?_
      refine lv_astore (lv' := [(4, .ref x), (0, .ref (ad 0)), (1, .int v1), (2, .int v2), (3, .ref q)]) hx hb dL_land_13 hl (by decide) rfl (fun ls hl => ?_)
      refine lv_iconst (v := 1) hx hb dL_land_15 (by decide) ?_
      exact w_iret hx hb hr hlk hP hS dL_land_16
    · exact absurd (show ps13 2 = 0 from rfl) (hal.resolve_left hco)
    · refine vx_catch (E := xNm 3) (name := "java/lang/IllegalStateException") hown [⟨0, 10, 13, 21⟩] ⟨0, 10, 17, 15⟩ [] htab (w_pass1 ⟨by decide, _, (hts (.classLink RL 21 "java/lang/IndexOutOfBoundsException") (List.mem_of_getElem? (i := 1) rfl)), hNc (xNm 3, xNm 1) (by decide +kernel)⟩) (by decide) (by decide) (hts (.classLink RL 15 "java/lang/IllegalStateException") (List.mem_of_getElem? (i := 2) rfl)) (va_Nw.use rfl (hX.2.2.2 (.castable "java/lang/IllegalStateException" "java/lang/IllegalStateException") (by decide +kernel))) hce hcv hcl ?_
      refine lv_astore (lv' := [(4, .ref x), (0, .ref (ad 0)), (1, .int v1), (2, .int v2), (3, .ref q)]) hx hb dL_land_17 hl (by decide) rfl (fun ls hl => ?_)
      refine lv_iconst (v := 2) hx hb dL_land_19 (by decide) ?_
      exact w_iret hx hb hr hlk hP hS dL_land_20
    · exact absurd (show ps13 (n + 4) = 0 from rfl) (hal.resolve_left hco)
set_option maxHeartbeats 4000000 in
set_option maxRecDepth 100000 in
theorem kL_close (l : Launch) (hst : l.stackTraces = false) (D : va_G) (ad : Nat → Nat) (cI cZ cJ : ClassId) (q : Nat) (hDD : ∀ S, va_D (bA ad) (bW ad cI cZ S)) (hq : ¬ bA ad q) (S : St) (v1 : Int32) (o : Nat → Int64) : ∀ So ro co, y6_close S v1 = some (So, ro, co) → (co = 0 ∨ ps13 co ≠ 0) → Met l yL_close wsL_close { frames := 9, cells := xC co, slots := xS co, locals := 153 } (va_Pc [.ref (ad 0), .int v1] (wPre D cI cZ cJ ad q S o)) (wQ D cI cZ cJ ad q So o (ps13 co)) (xC co) (xS co) (wA ad q) := by
  intro So ro co hE hal
  refine wMet_of (by decide) rfl (Nat.le_of_ble_eq_true rfl) ?_
  intro p e s m args below meth c ls hx hb hr hml hown hlk hts htab hP hK hNx hX hNc hl
  have hl : lv_has ls 3 [(0, .ref (ad 0)), (1, .int v1)] := hl
  have hown : s.vm.findClass RL = some m.cls := hown
  refine lv_aload_n hx hb dL_close_0 rfl (lv_at hl 0 rfl) ?_
  refine lv_iload_n hx hb dL_close_1 rfl (lv_at hl 1 rfl) ?_
  refine w_callV (o := o) [.int v1] [] ⟨hx, hb, hml, hown, hts⟩ (kX6_close l hst D ad cI cZ hDD S v1 So ro co hE) (cwV 1 hts gL_close_X6_close rfl rfl rfl (by decide +kernel) ⟨Nat.le_of_ble_eq_true rfl, Nat.le_of_ble_eq_true rfl⟩) ⟨rfl, rfl⟩ hP hK hNx hX hq rfl hl.1 rfl (Nat.le_of_ble_eq_true rfl) dL_close_2 (fun hco H locs hP hS => ?_) (fun hco H locs x ce hP hS hce hcv hcl => ?_)
  · subst hco
    refine lv_goto (tgt := 14) hx hb dL_close_5 (by decide) ?_
    refine lv_iconst (v := 0) hx hb dL_close_14 (by decide) ?_
    exact w_iret hx hb hr hlk hP hS dL_close_15
  · rcases co with _ | _ | _ | _ | n
    · exact absurd rfl hco
    · refine vx_catch (E := xNm 1) (name := "java/lang/IndexOutOfBoundsException") hown [] ⟨0, 5, 8, 21⟩ [⟨0, 5, 11, 15⟩] htab (fun z hz => absurd hz List.not_mem_nil) (by decide) (by decide) (hts (.classLink RL 21 "java/lang/IndexOutOfBoundsException") (List.mem_of_getElem? (i := 1) rfl)) (va_Nw.use rfl (hX.2.2.2 (.castable "java/lang/IndexOutOfBoundsException" "java/lang/IndexOutOfBoundsException") (by decide +kernel))) hce hcv hcl ?_
      refine lv_astore_n (lv' := [(2, .ref x), (0, .ref (ad 0)), (1, .int v1)]) hx hb dL_close_8 rfl hl (by decide) rfl (fun ls hl => ?_)
      refine lv_iconst (v := 1) hx hb dL_close_9 (by decide) ?_
      exact w_iret hx hb hr hlk hP hS dL_close_10
    · exact absurd (show ps13 2 = 0 from rfl) (hal.resolve_left hco)
    · refine vx_catch (E := xNm 3) (name := "java/lang/IllegalStateException") hown [⟨0, 5, 8, 21⟩] ⟨0, 5, 11, 15⟩ [] htab (w_pass1 ⟨by decide, _, (hts (.classLink RL 21 "java/lang/IndexOutOfBoundsException") (List.mem_of_getElem? (i := 1) rfl)), hNc (xNm 3, xNm 1) (by decide +kernel)⟩) (by decide) (by decide) (hts (.classLink RL 15 "java/lang/IllegalStateException") (List.mem_of_getElem? (i := 2) rfl)) (va_Nw.use rfl (hX.2.2.2 (.castable "java/lang/IllegalStateException" "java/lang/IllegalStateException") (by decide +kernel))) hce hcv hcl ?_
      refine lv_astore_n (lv' := [(2, .ref x), (0, .ref (ad 0)), (1, .int v1)]) hx hb dL_close_11 rfl hl (by decide) rfl (fun ls hl => ?_)
      refine lv_iconst (v := 2) hx hb dL_close_12 (by decide) ?_
      exact w_iret hx hb hr hlk hP hS dL_close_13
    · exact absurd (show ps13 (n + 4) = 0 from rfl) (hal.resolve_left hco)
set_option maxHeartbeats 4000000 in
set_option maxRecDepth 100000 in
theorem kL_pass (l : Launch) (hst : l.stackTraces = false) (D : va_G) (ad : Nat → Nat) (cI cZ cJ : ClassId) (q : Nat) (hDD : ∀ S, va_D (bA ad) (bW ad cI cZ S)) (hq : ¬ bA ad q) (S : St) (v1 : Int32) (o : Nat → Int64) : ∀ So ro co, y6_pass S v1 = some (So, ro, co) → (co = 0 ∨ ps_23 co ≠ 0) → Met l yL_pass wsL_pass { frames := 7, cells := xC co, slots := xS co, locals := 157 } (va_Pc [.ref (ad 0), .int v1, .ref q] (wPre D cI cZ cJ ad q S o)) (wQ D cI cZ cJ ad q So (if co = 0 then vp_updL o 0 (Int32.toInt64 ro) else o) (ps_23 co)) (xC co) (xS co) (wA ad q) := by
  intro So ro co hE hal
  refine wMet_of (by decide) rfl (Nat.le_of_ble_eq_true rfl) ?_
  intro p e s m args below meth c ls hx hb hr hml hown hlk hts htab hP hK hNx hX hNc hl
  have hl : lv_has ls 4 [(0, .ref (ad 0)), (1, .int v1), (2, .ref q)] := hl
  have hown : s.vm.findClass RL = some m.cls := hown
  refine lv_aload_n hx hb dL_pass_0 rfl (lv_at hl 2 rfl) ?_
  refine lv_iconst (v := 0) hx hb dL_pass_1 (by decide) ?_
  refine lv_aload_n hx hb dL_pass_2 rfl (lv_at hl 0 rfl) ?_
  refine lv_iload_n hx hb dL_pass_3 rfl (lv_at hl 1 rfl) ?_
  refine w_callI (o := o) [.int v1] [.int 0, .ref q] ⟨hx, hb, hml, hown, hts⟩ (kX6_pass l hst D ad cI cZ hDD S v1 So ro co hE) (cwV 1 hts gL_pass_X6_pass rfl rfl rfl (by decide +kernel) ⟨Nat.le_of_ble_eq_true rfl, Nat.le_of_ble_eq_true rfl⟩) ⟨rfl, rfl⟩ hP hK hNx hX hq rfl hl.1 rfl (Nat.le_of_ble_eq_true rfl) dL_pass_4 (fun hco H locs hP hS => ?_) (fun hco H locs x ce hP hS hce hcv hcl => ?_)
  · subst hco
    refine lv_i2l (v := Int32.toInt64 ro) hx hb dL_pass_7 rfl ?_
    refine w_put hx hb hDD hq hK hP hS dL_pass_8 (fun H locs hP hS => ?_)
    refine lv_goto (tgt := 18) hx hb dL_pass_9 (by decide) ?_
    refine lv_iconst (v := 0) hx hb dL_pass_18 (by decide) ?_
    exact w_iret hx hb hr hlk hP hS dL_pass_19
  · rcases co with _ | _ | _ | _ | n
    · exact absurd rfl hco
    · exact absurd (show ps_23 1 = 0 from rfl) (hal.resolve_left hco)
    · refine vx_catch (E := xNm 2) (name := "java/lang/IllegalArgumentException") hown [] ⟨0, 9, 12, 13⟩ [⟨0, 9, 15, 15⟩] htab (fun z hz => absurd hz List.not_mem_nil) (by decide) (by decide) (hts (.classLink RL 13 "java/lang/IllegalArgumentException") (List.mem_of_getElem? (i := 1) rfl)) (va_Nw.use rfl (hX.2.2.2 (.castable "java/lang/IllegalArgumentException" "java/lang/IllegalArgumentException") (by decide +kernel))) hce hcv hcl ?_
      refine lv_astore_n (lv' := [(3, .ref x), (0, .ref (ad 0)), (1, .int v1), (2, .ref q)]) hx hb dL_pass_12 rfl hl (by decide) rfl (fun ls hl => ?_)
      refine lv_iconst (v := 1) hx hb dL_pass_13 (by decide) ?_
      exact w_iret hx hb hr hlk hP hS dL_pass_14
    · refine vx_catch (E := xNm 3) (name := "java/lang/IllegalStateException") hown [⟨0, 9, 12, 13⟩] ⟨0, 9, 15, 15⟩ [] htab (w_pass1 ⟨by decide, _, (hts (.classLink RL 13 "java/lang/IllegalArgumentException") (List.mem_of_getElem? (i := 1) rfl)), hNc (xNm 3, xNm 2) (by decide +kernel)⟩) (by decide) (by decide) (hts (.classLink RL 15 "java/lang/IllegalStateException") (List.mem_of_getElem? (i := 2) rfl)) (va_Nw.use rfl (hX.2.2.2 (.castable "java/lang/IllegalStateException" "java/lang/IllegalStateException") (by decide +kernel))) hce hcv hcl ?_
      refine lv_astore_n (lv' := [(3, .ref x), (0, .ref (ad 0)), (1, .int v1), (2, .ref q)]) hx hb dL_pass_15 rfl hl (by decide) rfl (fun ls hl => ?_)
      refine lv_iconst (v := 2) hx hb dL_pass_16 (by decide) ?_
      exact w_iret hx hb hr hlk hP hS dL_pass_17
    · exact absurd (show ps_23 (n + 4) = 0 from rfl) (hal.resolve_left hco)
set_option maxHeartbeats 4000000 in
set_option maxRecDepth 100000 in
theorem kL_version (l : Launch) (hst : l.stackTraces = false) (D : va_G) (ad : Nat → Nat) (cI cZ cJ : ClassId) (q : Nat) (hDD : ∀ S, va_D (bA ad) (bW ad cI cZ S)) (hq : ¬ bA ad q) (S : St) (v1 : Int32) (o : Nat → Int64) : ∀ So ro co, y6_version S v1 = some (So, ro, co) → (co = 0 ∨ ps1 co ≠ 0) → Met l yL_version wsL_version { frames := 8, cells := xC co, slots := xS co, locals := 132 } (va_Pc [.ref (ad 0), .int v1, .ref q] (wPre D cI cZ cJ ad q S o)) (wQ D cI cZ cJ ad q So (if co = 0 then vp_updL o 0 (Int32.toInt64 ro) else o) (ps1 co)) (xC co) (xS co) (wA ad q) := by
  intro So ro co hE hal
  refine wMet_of (by decide) rfl (Nat.le_of_ble_eq_true rfl) ?_
  intro p e s m args below meth c ls hx hb hr hml hown hlk hts htab hP hK hNx hX hNc hl
  have hl : lv_has ls 4 [(0, .ref (ad 0)), (1, .int v1), (2, .ref q)] := hl
  have hown : s.vm.findClass RL = some m.cls := hown
  refine lv_aload_n hx hb dL_version_0 rfl (lv_at hl 2 rfl) ?_
  refine lv_iconst (v := 0) hx hb dL_version_1 (by decide) ?_
  refine lv_aload_n hx hb dL_version_2 rfl (lv_at hl 0 rfl) ?_
  refine lv_iload_n hx hb dL_version_3 rfl (lv_at hl 1 rfl) ?_
  refine w_callI (o := o) [.int v1] [.int 0, .ref q] ⟨hx, hb, hml, hown, hts⟩ (kX6_version l hst D ad cI cZ hDD S v1 So ro co hE) (cwV 1 hts gL_version_X6_version rfl rfl rfl (by decide +kernel) ⟨Nat.le_of_ble_eq_true rfl, Nat.le_of_ble_eq_true rfl⟩) ⟨rfl, rfl⟩ hP hK hNx hX hq rfl hl.1 rfl (Nat.le_of_ble_eq_true rfl) dL_version_4 (fun hco H locs hP hS => ?_) (fun hco H locs x ce hP hS hce hcv hcl => ?_)
  · subst hco
    refine lv_i2l (v := Int32.toInt64 ro) hx hb dL_version_7 rfl ?_
    refine w_put hx hb hDD hq hK hP hS dL_version_8 (fun H locs hP hS => ?_)
    refine lv_goto (tgt := 15) hx hb dL_version_9 (by decide) ?_
    refine lv_iconst (v := 0) hx hb dL_version_15 (by decide) ?_
    exact w_iret hx hb hr hlk hP hS dL_version_16
  · rcases co with _ | _ | _ | _ | n
    · exact absurd rfl hco
    · refine vx_catch (E := xNm 1) (name := "java/lang/IndexOutOfBoundsException") hown [] ⟨0, 9, 12, 21⟩ [] htab (fun z hz => absurd hz List.not_mem_nil) (by decide) (by decide) (hts (.classLink RL 21 "java/lang/IndexOutOfBoundsException") (List.mem_of_getElem? (i := 1) rfl)) (va_Nw.use rfl (hX.2.2.2 (.castable "java/lang/IndexOutOfBoundsException" "java/lang/IndexOutOfBoundsException") (by decide +kernel))) hce hcv hcl ?_
      refine lv_astore_n (lv' := [(3, .ref x), (0, .ref (ad 0)), (1, .int v1), (2, .ref q)]) hx hb dL_version_12 rfl hl (by decide) rfl (fun ls hl => ?_)
      refine lv_iconst (v := 1) hx hb dL_version_13 (by decide) ?_
      exact w_iret hx hb hr hlk hP hS dL_version_14
    · exact absurd (show ps1 2 = 0 from rfl) (hal.resolve_left hco)
    · exact absurd (show ps1 3 = 0 from rfl) (hal.resolve_left hco)
    · exact absurd (show ps1 (n + 4) = 0 from rfl) (hal.resolve_left hco)
set_option maxHeartbeats 4000000 in
set_option maxRecDepth 100000 in
theorem kL_raiseOf (l : Launch) (hst : l.stackTraces = false) (D : va_G) (ad : Nat → Nat) (cI cZ cJ : ClassId) (q : Nat) (hDD : ∀ S, va_D (bA ad) (bW ad cI cZ S)) (hq : ¬ bA ad q) (S : St) (v1 : Int32) (v2 : Int32) (o : Nat → Int64) : ∀ So ro co, y6_raiseOf S v1 v2 = some (So, ro, co) → (co = 0 ∨ ps12 co ≠ 0) → Met l yL_raiseOf wsL_raiseOf { frames := 8, cells := xC co, slots := xS co, locals := 133 } (va_Pc [.ref (ad 0), .int v1, .int v2, .ref q] (wPre D cI cZ cJ ad q S o)) (wQ D cI cZ cJ ad q So (if co = 0 then vp_updL o 0 (Int32.toInt64 ro) else o) (ps12 co)) (xC co) (xS co) (wA ad q) := by
  intro So ro co hE hal
  refine wMet_of (by decide) rfl (Nat.le_of_ble_eq_true rfl) ?_
  intro p e s m args below meth c ls hx hb hr hml hown hlk hts htab hP hK hNx hX hNc hl
  have hl : lv_has ls 5 [(0, .ref (ad 0)), (1, .int v1), (2, .int v2), (3, .ref q)] := hl
  have hown : s.vm.findClass RL = some m.cls := hown
  refine lv_aload_n hx hb dL_raiseOf_0 rfl (lv_at hl 3 rfl) ?_
  refine lv_iconst (v := 0) hx hb dL_raiseOf_1 (by decide) ?_
  refine lv_aload_n hx hb dL_raiseOf_2 rfl (lv_at hl 0 rfl) ?_
  refine lv_iload_n hx hb dL_raiseOf_3 rfl (lv_at hl 1 rfl) ?_
  refine lv_iload_n hx hb dL_raiseOf_4 rfl (lv_at hl 2 rfl) ?_
  refine w_callI (o := o) [.int v1, .int v2] [.int 0, .ref q] ⟨hx, hb, hml, hown, hts⟩ (kX6_raiseOf l hst D ad cI cZ hDD S v1 v2 So ro co hE) (cwV 2 hts gL_raiseOf_X6_raiseOf rfl rfl rfl (by decide +kernel) ⟨Nat.le_of_ble_eq_true rfl, Nat.le_of_ble_eq_true rfl⟩) ⟨rfl, rfl⟩ hP hK hNx hX hq rfl hl.1 rfl (Nat.le_of_ble_eq_true rfl) dL_raiseOf_5 (fun hco H locs hP hS => ?_) (fun hco H locs x ce hP hS hce hcv hcl => ?_)
  · subst hco
    refine lv_i2l (v := Int32.toInt64 ro) hx hb dL_raiseOf_8 rfl ?_
    refine w_put hx hb hDD hq hK hP hS dL_raiseOf_9 (fun H locs hP hS => ?_)
    refine lv_goto (tgt := 21) hx hb dL_raiseOf_10 (by decide) ?_
    refine lv_iconst (v := 0) hx hb dL_raiseOf_21 (by decide) ?_
    exact w_iret hx hb hr hlk hP hS dL_raiseOf_22
  · rcases co with _ | _ | _ | _ | n
    · exact absurd rfl hco
    · refine vx_catch (E := xNm 1) (name := "java/lang/IndexOutOfBoundsException") hown [] ⟨0, 10, 13, 21⟩ [⟨0, 10, 17, 13⟩] htab (fun z hz => absurd hz List.not_mem_nil) (by decide) (by decide) (hts (.classLink RL 21 "java/lang/IndexOutOfBoundsException") (List.mem_of_getElem? (i := 1) rfl)) (va_Nw.use rfl (hX.2.2.2 (.castable "java/lang/IndexOutOfBoundsException" "java/lang/IndexOutOfBoundsException") (by decide +kernel))) hce hcv hcl ?_
      refine lv_astore (lv' := [(4, .ref x), (0, .ref (ad 0)), (1, .int v1), (2, .int v2), (3, .ref q)]) hx hb dL_raiseOf_13 hl (by decide) rfl (fun ls hl => ?_)
      refine lv_iconst (v := 1) hx hb dL_raiseOf_15 (by decide) ?_
      exact w_iret hx hb hr hlk hP hS dL_raiseOf_16
    · refine vx_catch (E := xNm 2) (name := "java/lang/IllegalArgumentException") hown [⟨0, 10, 13, 21⟩] ⟨0, 10, 17, 13⟩ [] htab (w_pass1 ⟨by decide, _, (hts (.classLink RL 21 "java/lang/IndexOutOfBoundsException") (List.mem_of_getElem? (i := 1) rfl)), hNc (xNm 2, xNm 1) (by decide +kernel)⟩) (by decide) (by decide) (hts (.classLink RL 13 "java/lang/IllegalArgumentException") (List.mem_of_getElem? (i := 2) rfl)) (va_Nw.use rfl (hX.2.2.2 (.castable "java/lang/IllegalArgumentException" "java/lang/IllegalArgumentException") (by decide +kernel))) hce hcv hcl ?_
      refine lv_astore (lv' := [(4, .ref x), (0, .ref (ad 0)), (1, .int v1), (2, .int v2), (3, .ref q)]) hx hb dL_raiseOf_17 hl (by decide) rfl (fun ls hl => ?_)
      refine lv_iconst (v := 2) hx hb dL_raiseOf_19 (by decide) ?_
      exact w_iret hx hb hr hlk hP hS dL_raiseOf_20
    · exact absurd (show ps12 3 = 0 from rfl) (hal.resolve_left hco)
    · exact absurd (show ps12 (n + 4) = 0 from rfl) (hal.resolve_left hco)
set_option maxHeartbeats 4000000 in
set_option maxRecDepth 100000 in
theorem kL_fails (l : Launch) (hst : l.stackTraces = false) (D : va_G) (ad : Nat → Nat) (cI cZ cJ : ClassId) (q : Nat) (hDD : ∀ S, va_D (bA ad) (bW ad cI cZ S)) (hq : ¬ bA ad q) (S : St) (v1 : Int32) (o : Nat → Int64) : ∀ So ro co, y6_fails S v1 = some (So, ro, co) → (co = 0 ∨ ps13 co ≠ 0) → Met l yL_fails wsL_fails { frames := 9, cells := xC co, slots := xS co, locals := 153 } (va_Pc [.ref (ad 0), .int v1, .ref q] (wPre D cI cZ cJ ad q S o)) (wQ D cI cZ cJ ad q So (if co = 0 then vp_updL o 0 (Int32.toInt64 ro) else o) (ps13 co)) (xC co) (xS co) (wA ad q) := by
  intro So ro co hE hal
  refine wMet_of (by decide) rfl (Nat.le_of_ble_eq_true rfl) ?_
  intro p e s m args below meth c ls hx hb hr hml hown hlk hts htab hP hK hNx hX hNc hl
  have hl : lv_has ls 4 [(0, .ref (ad 0)), (1, .int v1), (2, .ref q)] := hl
  have hown : s.vm.findClass RL = some m.cls := hown
  refine lv_aload_n hx hb dL_fails_0 rfl (lv_at hl 2 rfl) ?_
  refine lv_iconst (v := 0) hx hb dL_fails_1 (by decide) ?_
  refine lv_aload_n hx hb dL_fails_2 rfl (lv_at hl 0 rfl) ?_
  refine lv_iload_n hx hb dL_fails_3 rfl (lv_at hl 1 rfl) ?_
  refine w_callI (o := o) [.int v1] [.int 0, .ref q] ⟨hx, hb, hml, hown, hts⟩ (kX6_fails l hst D ad cI cZ hDD S v1 So ro co hE) (cwV 1 hts gL_fails_X6_fails rfl rfl rfl (by decide +kernel) ⟨Nat.le_of_ble_eq_true rfl, Nat.le_of_ble_eq_true rfl⟩) ⟨rfl, rfl⟩ hP hK hNx hX hq rfl hl.1 rfl (Nat.le_of_ble_eq_true rfl) dL_fails_4 (fun hco H locs hP hS => ?_) (fun hco H locs x ce hP hS hce hcv hcl => ?_)
  · subst hco
    refine lv_i2l (v := Int32.toInt64 ro) hx hb dL_fails_7 rfl ?_
    refine w_put hx hb hDD hq hK hP hS dL_fails_8 (fun H locs hP hS => ?_)
    refine lv_goto (tgt := 18) hx hb dL_fails_9 (by decide) ?_
    refine lv_iconst (v := 0) hx hb dL_fails_18 (by decide) ?_
    exact w_iret hx hb hr hlk hP hS dL_fails_19
  · rcases co with _ | _ | _ | _ | n
    · exact absurd rfl hco
    · refine vx_catch (E := xNm 1) (name := "java/lang/IndexOutOfBoundsException") hown [] ⟨0, 9, 12, 21⟩ [⟨0, 9, 15, 15⟩] htab (fun z hz => absurd hz List.not_mem_nil) (by decide) (by decide) (hts (.classLink RL 21 "java/lang/IndexOutOfBoundsException") (List.mem_of_getElem? (i := 1) rfl)) (va_Nw.use rfl (hX.2.2.2 (.castable "java/lang/IndexOutOfBoundsException" "java/lang/IndexOutOfBoundsException") (by decide +kernel))) hce hcv hcl ?_
      refine lv_astore_n (lv' := [(3, .ref x), (0, .ref (ad 0)), (1, .int v1), (2, .ref q)]) hx hb dL_fails_12 rfl hl (by decide) rfl (fun ls hl => ?_)
      refine lv_iconst (v := 1) hx hb dL_fails_13 (by decide) ?_
      exact w_iret hx hb hr hlk hP hS dL_fails_14
    · exact absurd (show ps13 2 = 0 from rfl) (hal.resolve_left hco)
    · refine vx_catch (E := xNm 3) (name := "java/lang/IllegalStateException") hown [⟨0, 9, 12, 21⟩] ⟨0, 9, 15, 15⟩ [] htab (w_pass1 ⟨by decide, _, (hts (.classLink RL 21 "java/lang/IndexOutOfBoundsException") (List.mem_of_getElem? (i := 1) rfl)), hNc (xNm 3, xNm 1) (by decide +kernel)⟩) (by decide) (by decide) (hts (.classLink RL 15 "java/lang/IllegalStateException") (List.mem_of_getElem? (i := 2) rfl)) (va_Nw.use rfl (hX.2.2.2 (.castable "java/lang/IllegalStateException" "java/lang/IllegalStateException") (by decide +kernel))) hce hcv hcl ?_
      refine lv_astore_n (lv' := [(3, .ref x), (0, .ref (ad 0)), (1, .int v1), (2, .ref q)]) hx hb dL_fails_15 rfl hl (by decide) rfl (fun ls hl => ?_)
      refine lv_iconst (v := 2) hx hb dL_fails_16 (by decide) ?_
      exact w_iret hx hb hr hlk hP hS dL_fails_17
    · exact absurd (show ps13 (n + 4) = 0 from rfl) (hal.resolve_left hco)
set_option maxHeartbeats 4000000 in
set_option maxRecDepth 100000 in
theorem kL_canLand (l : Launch) (hst : l.stackTraces = false) (D : va_G) (ad : Nat → Nat) (cI cZ cJ : ClassId) (q : Nat) (hDD : ∀ S, va_D (bA ad) (bW ad cI cZ S)) (hq : ¬ bA ad q) (S : St) (v1 : Int32) (o : Nat → Int64) : ∀ So ro co, y6_canLand S v1 = some (So, ro, co) → (co = 0 ∨ ps13 co ≠ 0) → Met l yL_canLand wsL_canLand { frames := 9, cells := xC co, slots := xS co, locals := 153 } (va_Pc [.ref (ad 0), .int v1, .ref q] (wPre D cI cZ cJ ad q S o)) (wQ D cI cZ cJ ad q So (if co = 0 then vp_updL o 0 (zb ro) else o) (ps13 co)) (xC co) (xS co) (wA ad q) := by
  intro So ro co hE hal
  refine wMet_of (by decide) rfl (Nat.le_of_ble_eq_true rfl) ?_
  intro p e s m args below meth c ls hx hb hr hml hown hlk hts htab hP hK hNx hX hNc hl
  have hl : lv_has ls 4 [(0, .ref (ad 0)), (1, .int v1), (2, .ref q)] := hl
  have hown : s.vm.findClass RL = some m.cls := hown
  refine lv_aload_n hx hb dL_canLand_0 rfl (lv_at hl 2 rfl) ?_
  refine lv_iconst (v := 0) hx hb dL_canLand_1 (by decide) ?_
  refine lv_aload_n hx hb dL_canLand_2 rfl (lv_at hl 0 rfl) ?_
  refine lv_iload_n hx hb dL_canLand_3 rfl (lv_at hl 1 rfl) ?_
  refine w_callI (o := o) [.int v1] [.int 0, .ref q] ⟨hx, hb, hml, hown, hts⟩ (kX6_canLand l hst D ad cI cZ hDD S v1 So ro co hE) (cwV 1 hts gL_canLand_X6_canLand rfl rfl rfl (by decide +kernel) ⟨Nat.le_of_ble_eq_true rfl, Nat.le_of_ble_eq_true rfl⟩) ⟨rfl, rfl⟩ hP hK hNx hX hq rfl hl.1 rfl (Nat.le_of_ble_eq_true rfl) dL_canLand_4 (fun hco H locs hP hS => ?_) (fun hco H locs x ce hP hS hce hcv hcl => ?_)
  · subst hco
    refine lv_if_eq (tgt := 14) hx hb dL_canLand_7 (by decide) (fun hz => ?_) (fun hz => ?_)
    · refine lv_lconst (v := 0) hx hb dL_canLand_14 rfl ?_
      refine w_put hx hb hDD hq hK hP hS dL_canLand_15 (fun H locs hP hS => ?_)
      have hP : va_P D vwCl (wW ad cI cZ cJ q So (vp_updL o 0 (zb ro))) H := by unfold zb; rw [if_pos hz]; exact hP
      refine lv_goto (tgt := 25) hx hb dL_canLand_16 (by decide) ?_
      refine lv_iconst (v := 0) hx hb dL_canLand_25 (by decide) ?_
      exact w_iret hx hb hr hlk hP hS dL_canLand_26
    · refine lv_lconst (v := 1) hx hb dL_canLand_10 rfl ?_
      refine lv_goto (tgt := 15) hx hb dL_canLand_11 (by decide) ?_
      refine w_put hx hb hDD hq hK hP hS dL_canLand_15 (fun H locs hP hS => ?_)
      have hP : va_P D vwCl (wW ad cI cZ cJ q So (vp_updL o 0 (zb ro))) H := by unfold zb; rw [if_neg hz]; exact hP
      refine lv_goto (tgt := 25) hx hb dL_canLand_16 (by decide) ?_
      refine lv_iconst (v := 0) hx hb dL_canLand_25 (by decide) ?_
      exact w_iret hx hb hr hlk hP hS dL_canLand_26
  · rcases co with _ | _ | _ | _ | n
    · exact absurd rfl hco
    · refine vx_catch (E := xNm 1) (name := "java/lang/IndexOutOfBoundsException") hown [] ⟨0, 16, 19, 21⟩ [⟨0, 16, 22, 15⟩] htab (fun z hz => absurd hz List.not_mem_nil) (by decide) (by decide) (hts (.classLink RL 21 "java/lang/IndexOutOfBoundsException") (List.mem_of_getElem? (i := 1) rfl)) (va_Nw.use rfl (hX.2.2.2 (.castable "java/lang/IndexOutOfBoundsException" "java/lang/IndexOutOfBoundsException") (by decide +kernel))) hce hcv hcl ?_
      refine lv_astore_n (lv' := [(3, .ref x), (0, .ref (ad 0)), (1, .int v1), (2, .ref q)]) hx hb dL_canLand_19 rfl hl (by decide) rfl (fun ls hl => ?_)
      refine lv_iconst (v := 1) hx hb dL_canLand_20 (by decide) ?_
      exact w_iret hx hb hr hlk hP hS dL_canLand_21
    · exact absurd (show ps13 2 = 0 from rfl) (hal.resolve_left hco)
    · refine vx_catch (E := xNm 3) (name := "java/lang/IllegalStateException") hown [⟨0, 16, 19, 21⟩] ⟨0, 16, 22, 15⟩ [] htab (w_pass1 ⟨by decide, _, (hts (.classLink RL 21 "java/lang/IndexOutOfBoundsException") (List.mem_of_getElem? (i := 1) rfl)), hNc (xNm 3, xNm 1) (by decide +kernel)⟩) (by decide) (by decide) (hts (.classLink RL 15 "java/lang/IllegalStateException") (List.mem_of_getElem? (i := 2) rfl)) (va_Nw.use rfl (hX.2.2.2 (.castable "java/lang/IllegalStateException" "java/lang/IllegalStateException") (by decide +kernel))) hce hcv hcl ?_
      refine lv_astore_n (lv' := [(3, .ref x), (0, .ref (ad 0)), (1, .int v1), (2, .ref q)]) hx hb dL_canLand_22 rfl hl (by decide) rfl (fun ls hl => ?_)
      refine lv_iconst (v := 2) hx hb dL_canLand_23 (by decide) ?_
      exact w_iret hx hb hr hlk hP hS dL_canLand_24
    · exact absurd (show ps13 (n + 4) = 0 from rfl) (hal.resolve_left hco)
set_option maxHeartbeats 4000000 in
set_option maxRecDepth 100000 in
theorem kL_load (l : Launch) (hst : l.stackTraces = false) (D : va_G) (ad : Nat → Nat) (cI cZ cJ : ClassId) (q : Nat) (hDD : ∀ S, va_D (bA ad) (bW ad cI cZ S)) (hq : ¬ bA ad q) (S : St) (v1 : Int32) (o : Nat → Int64) : ∀ So ro co, y6_load S v1 = some (So, ro, co) → (co = 0 ∨ ps1 co ≠ 0) → Met l yL_load wsL_load { frames := 8, cells := xC co, slots := xS co, locals := 132 } (va_Pc [.ref (ad 0), .int v1, .ref q] (wPre D cI cZ cJ ad q S o)) (wQ D cI cZ cJ ad q So (if co = 0 then vp_updL o 0 (Int32.toInt64 ro) else o) (ps1 co)) (xC co) (xS co) (wA ad q) := by
  intro So ro co hE hal
  refine wMet_of (by decide) rfl (Nat.le_of_ble_eq_true rfl) ?_
  intro p e s m args below meth c ls hx hb hr hml hown hlk hts htab hP hK hNx hX hNc hl
  have hl : lv_has ls 4 [(0, .ref (ad 0)), (1, .int v1), (2, .ref q)] := hl
  have hown : s.vm.findClass RL = some m.cls := hown
  refine lv_aload_n hx hb dL_load_0 rfl (lv_at hl 2 rfl) ?_
  refine lv_iconst (v := 0) hx hb dL_load_1 (by decide) ?_
  refine lv_aload_n hx hb dL_load_2 rfl (lv_at hl 0 rfl) ?_
  refine lv_iload_n hx hb dL_load_3 rfl (lv_at hl 1 rfl) ?_
  refine w_callI (o := o) [.int v1] [.int 0, .ref q] ⟨hx, hb, hml, hown, hts⟩ (kX6_load l hst D ad cI cZ hDD S v1 So ro co hE) (cwV 1 hts gL_load_X6_load rfl rfl rfl (by decide +kernel) ⟨Nat.le_of_ble_eq_true rfl, Nat.le_of_ble_eq_true rfl⟩) ⟨rfl, rfl⟩ hP hK hNx hX hq rfl hl.1 rfl (Nat.le_of_ble_eq_true rfl) dL_load_4 (fun hco H locs hP hS => ?_) (fun hco H locs x ce hP hS hce hcv hcl => ?_)
  · subst hco
    refine lv_i2l (v := Int32.toInt64 ro) hx hb dL_load_7 rfl ?_
    refine w_put hx hb hDD hq hK hP hS dL_load_8 (fun H locs hP hS => ?_)
    refine lv_goto (tgt := 15) hx hb dL_load_9 (by decide) ?_
    refine lv_iconst (v := 0) hx hb dL_load_15 (by decide) ?_
    exact w_iret hx hb hr hlk hP hS dL_load_16
  · rcases co with _ | _ | _ | _ | n
    · exact absurd rfl hco
    · refine vx_catch (E := xNm 1) (name := "java/lang/IndexOutOfBoundsException") hown [] ⟨0, 9, 12, 21⟩ [] htab (fun z hz => absurd hz List.not_mem_nil) (by decide) (by decide) (hts (.classLink RL 21 "java/lang/IndexOutOfBoundsException") (List.mem_of_getElem? (i := 1) rfl)) (va_Nw.use rfl (hX.2.2.2 (.castable "java/lang/IndexOutOfBoundsException" "java/lang/IndexOutOfBoundsException") (by decide +kernel))) hce hcv hcl ?_
      refine lv_astore_n (lv' := [(3, .ref x), (0, .ref (ad 0)), (1, .int v1), (2, .ref q)]) hx hb dL_load_12 rfl hl (by decide) rfl (fun ls hl => ?_)
      refine lv_iconst (v := 1) hx hb dL_load_13 (by decide) ?_
      exact w_iret hx hb hr hlk hP hS dL_load_14
    · exact absurd (show ps1 2 = 0 from rfl) (hal.resolve_left hco)
    · exact absurd (show ps1 3 = 0 from rfl) (hal.resolve_left hco)
    · exact absurd (show ps1 (n + 4) = 0 from rfl) (hal.resolve_left hco)
set_option maxHeartbeats 4000000 in
set_option maxRecDepth 100000 in
theorem kL_fewest (l : Launch) (hst : l.stackTraces = false) (D : va_G) (ad : Nat → Nat) (cI cZ cJ : ClassId) (q : Nat) (hDD : ∀ S, va_D (bA ad) (bW ad cI cZ S)) (hq : ¬ bA ad q) (S : St) (v1 : Int32) (o : Nat → Int64) : ∀ So ro co, y6_fewest S v1 = some (So, ro, co) → (co = 0 ∨ ps13 co ≠ 0) → Met l yL_fewest wsL_fewest { frames := 9, cells := xC co, slots := xS co, locals := 153 } (va_Pc [.ref (ad 0), .int v1, .ref q] (wPre D cI cZ cJ ad q S o)) (wQ D cI cZ cJ ad q So (if co = 0 then vp_updL o 0 (Int32.toInt64 ro) else o) (ps13 co)) (xC co) (xS co) (wA ad q) := by
  intro So ro co hE hal
  refine wMet_of (by decide) rfl (Nat.le_of_ble_eq_true rfl) ?_
  intro p e s m args below meth c ls hx hb hr hml hown hlk hts htab hP hK hNx hX hNc hl
  have hl : lv_has ls 4 [(0, .ref (ad 0)), (1, .int v1), (2, .ref q)] := hl
  have hown : s.vm.findClass RL = some m.cls := hown
  refine lv_aload_n hx hb dL_fewest_0 rfl (lv_at hl 2 rfl) ?_
  refine lv_iconst (v := 0) hx hb dL_fewest_1 (by decide) ?_
  refine lv_aload_n hx hb dL_fewest_2 rfl (lv_at hl 0 rfl) ?_
  refine lv_iload_n hx hb dL_fewest_3 rfl (lv_at hl 1 rfl) ?_
  refine w_callI (o := o) [.int v1] [.int 0, .ref q] ⟨hx, hb, hml, hown, hts⟩ (kX6_fewest l hst D ad cI cZ hDD S v1 So ro co hE) (cwV 1 hts gL_fewest_X6_fewest rfl rfl rfl (by decide +kernel) ⟨Nat.le_of_ble_eq_true rfl, Nat.le_of_ble_eq_true rfl⟩) ⟨rfl, rfl⟩ hP hK hNx hX hq rfl hl.1 rfl (Nat.le_of_ble_eq_true rfl) dL_fewest_4 (fun hco H locs hP hS => ?_) (fun hco H locs x ce hP hS hce hcv hcl => ?_)
  · subst hco
    refine lv_i2l (v := Int32.toInt64 ro) hx hb dL_fewest_7 rfl ?_
    refine w_put hx hb hDD hq hK hP hS dL_fewest_8 (fun H locs hP hS => ?_)
    refine lv_goto (tgt := 18) hx hb dL_fewest_9 (by decide) ?_
    refine lv_iconst (v := 0) hx hb dL_fewest_18 (by decide) ?_
    exact w_iret hx hb hr hlk hP hS dL_fewest_19
  · rcases co with _ | _ | _ | _ | n
    · exact absurd rfl hco
    · refine vx_catch (E := xNm 1) (name := "java/lang/IndexOutOfBoundsException") hown [] ⟨0, 9, 12, 21⟩ [⟨0, 9, 15, 15⟩] htab (fun z hz => absurd hz List.not_mem_nil) (by decide) (by decide) (hts (.classLink RL 21 "java/lang/IndexOutOfBoundsException") (List.mem_of_getElem? (i := 1) rfl)) (va_Nw.use rfl (hX.2.2.2 (.castable "java/lang/IndexOutOfBoundsException" "java/lang/IndexOutOfBoundsException") (by decide +kernel))) hce hcv hcl ?_
      refine lv_astore_n (lv' := [(3, .ref x), (0, .ref (ad 0)), (1, .int v1), (2, .ref q)]) hx hb dL_fewest_12 rfl hl (by decide) rfl (fun ls hl => ?_)
      refine lv_iconst (v := 1) hx hb dL_fewest_13 (by decide) ?_
      exact w_iret hx hb hr hlk hP hS dL_fewest_14
    · exact absurd (show ps13 2 = 0 from rfl) (hal.resolve_left hco)
    · refine vx_catch (E := xNm 3) (name := "java/lang/IllegalStateException") hown [⟨0, 9, 12, 21⟩] ⟨0, 9, 15, 15⟩ [] htab (w_pass1 ⟨by decide, _, (hts (.classLink RL 21 "java/lang/IndexOutOfBoundsException") (List.mem_of_getElem? (i := 1) rfl)), hNc (xNm 3, xNm 1) (by decide +kernel)⟩) (by decide) (by decide) (hts (.classLink RL 15 "java/lang/IllegalStateException") (List.mem_of_getElem? (i := 2) rfl)) (va_Nw.use rfl (hX.2.2.2 (.castable "java/lang/IllegalStateException" "java/lang/IllegalStateException") (by decide +kernel))) hce hcv hcl ?_
      refine lv_astore_n (lv' := [(3, .ref x), (0, .ref (ad 0)), (1, .int v1), (2, .ref q)]) hx hb dL_fewest_15 rfl hl (by decide) rfl (fun ls hl => ?_)
      refine lv_iconst (v := 2) hx hb dL_fewest_16 (by decide) ?_
      exact w_iret hx hb hr hlk hP hS dL_fewest_17
    · exact absurd (show ps13 (n + 4) = 0 from rfl) (hal.resolve_left hco)
set_option maxHeartbeats 4000000 in
set_option maxRecDepth 100000 in
theorem kL_fewestAnew (l : Launch) (hst : l.stackTraces = false) (D : va_G) (ad : Nat → Nat) (cI cZ cJ : ClassId) (q : Nat) (hDD : ∀ S, va_D (bA ad) (bW ad cI cZ S)) (hq : ¬ bA ad q) (S : St) (v1 : Int32) (o : Nat → Int64) : ∀ So ro co, y6_fewestAnew S v1 = some (So, ro, co) → (co = 0 ∨ ps13 co ≠ 0) → Met l yL_fewestAnew wsL_fewestAnew { frames := 9, cells := xC co, slots := xS co, locals := 153 } (va_Pc [.ref (ad 0), .int v1, .ref q] (wPre D cI cZ cJ ad q S o)) (wQ D cI cZ cJ ad q So (if co = 0 then vp_updL o 0 (Int32.toInt64 ro) else o) (ps13 co)) (xC co) (xS co) (wA ad q) := by
  intro So ro co hE hal
  refine wMet_of (by decide) rfl (Nat.le_of_ble_eq_true rfl) ?_
  intro p e s m args below meth c ls hx hb hr hml hown hlk hts htab hP hK hNx hX hNc hl
  have hl : lv_has ls 4 [(0, .ref (ad 0)), (1, .int v1), (2, .ref q)] := hl
  have hown : s.vm.findClass RL = some m.cls := hown
  refine lv_aload_n hx hb dL_fewestAnew_0 rfl (lv_at hl 2 rfl) ?_
  refine lv_iconst (v := 0) hx hb dL_fewestAnew_1 (by decide) ?_
  refine lv_aload_n hx hb dL_fewestAnew_2 rfl (lv_at hl 0 rfl) ?_
  refine lv_iload_n hx hb dL_fewestAnew_3 rfl (lv_at hl 1 rfl) ?_
  refine w_callI (o := o) [.int v1] [.int 0, .ref q] ⟨hx, hb, hml, hown, hts⟩ (kX6_fewestAnew l hst D ad cI cZ hDD S v1 So ro co hE) (cwV 1 hts gL_fewestAnew_X6_fewestAnew rfl rfl rfl (by decide +kernel) ⟨Nat.le_of_ble_eq_true rfl, Nat.le_of_ble_eq_true rfl⟩) ⟨rfl, rfl⟩ hP hK hNx hX hq rfl hl.1 rfl (Nat.le_of_ble_eq_true rfl) dL_fewestAnew_4 (fun hco H locs hP hS => ?_) (fun hco H locs x ce hP hS hce hcv hcl => ?_)
  · subst hco
    refine lv_i2l (v := Int32.toInt64 ro) hx hb dL_fewestAnew_7 rfl ?_
    refine w_put hx hb hDD hq hK hP hS dL_fewestAnew_8 (fun H locs hP hS => ?_)
    refine lv_goto (tgt := 18) hx hb dL_fewestAnew_9 (by decide) ?_
    refine lv_iconst (v := 0) hx hb dL_fewestAnew_18 (by decide) ?_
    exact w_iret hx hb hr hlk hP hS dL_fewestAnew_19
  · rcases co with _ | _ | _ | _ | n
    · exact absurd rfl hco
    · refine vx_catch (E := xNm 1) (name := "java/lang/IndexOutOfBoundsException") hown [] ⟨0, 9, 12, 21⟩ [⟨0, 9, 15, 15⟩] htab (fun z hz => absurd hz List.not_mem_nil) (by decide) (by decide) (hts (.classLink RL 21 "java/lang/IndexOutOfBoundsException") (List.mem_of_getElem? (i := 1) rfl)) (va_Nw.use rfl (hX.2.2.2 (.castable "java/lang/IndexOutOfBoundsException" "java/lang/IndexOutOfBoundsException") (by decide +kernel))) hce hcv hcl ?_
      refine lv_astore_n (lv' := [(3, .ref x), (0, .ref (ad 0)), (1, .int v1), (2, .ref q)]) hx hb dL_fewestAnew_12 rfl hl (by decide) rfl (fun ls hl => ?_)
      refine lv_iconst (v := 1) hx hb dL_fewestAnew_13 (by decide) ?_
      exact w_iret hx hb hr hlk hP hS dL_fewestAnew_14
    · exact absurd (show ps13 2 = 0 from rfl) (hal.resolve_left hco)
    · refine vx_catch (E := xNm 3) (name := "java/lang/IllegalStateException") hown [⟨0, 9, 12, 21⟩] ⟨0, 9, 15, 15⟩ [] htab (w_pass1 ⟨by decide, _, (hts (.classLink RL 21 "java/lang/IndexOutOfBoundsException") (List.mem_of_getElem? (i := 1) rfl)), hNc (xNm 3, xNm 1) (by decide +kernel)⟩) (by decide) (by decide) (hts (.classLink RL 15 "java/lang/IllegalStateException") (List.mem_of_getElem? (i := 2) rfl)) (va_Nw.use rfl (hX.2.2.2 (.castable "java/lang/IllegalStateException" "java/lang/IllegalStateException") (by decide +kernel))) hce hcv hcl ?_
      refine lv_astore_n (lv' := [(3, .ref x), (0, .ref (ad 0)), (1, .int v1), (2, .ref q)]) hx hb dL_fewestAnew_15 rfl hl (by decide) rfl (fun ls hl => ?_)
      refine lv_iconst (v := 2) hx hb dL_fewestAnew_16 (by decide) ?_
      exact w_iret hx hb hr hlk hP hS dL_fewestAnew_17
    · exact absurd (show ps13 (n + 4) = 0 from rfl) (hal.resolve_left hco)
set_option maxHeartbeats 4000000 in
set_option maxRecDepth 100000 in
theorem kL_told (l : Launch) (hst : l.stackTraces = false) (D : va_G) (ad : Nat → Nat) (cI cZ cJ : ClassId) (q : Nat) (hDD : ∀ S, va_D (bA ad) (bW ad cI cZ S)) (hq : ¬ bA ad q) (S : St) (v1 : Int32) (v2 : Int32) (o : Nat → Int64) : ∀ So ro co, y6_told S v1 v2 = some (So, ro, co) → (co = 0 ∨ ps13 co ≠ 0) → Met l yL_told wsL_told { frames := 9, cells := xC co, slots := xS co, locals := 155 } (va_Pc [.ref (ad 0), .int v1, .int v2, .ref q] (wPre D cI cZ cJ ad q S o)) (wQ D cI cZ cJ ad q So (if co = 0 then vp_updL o 0 (Int32.toInt64 ro) else o) (ps13 co)) (xC co) (xS co) (wA ad q) := by
  intro So ro co hE hal
  refine wMet_of (by decide) rfl (Nat.le_of_ble_eq_true rfl) ?_
  intro p e s m args below meth c ls hx hb hr hml hown hlk hts htab hP hK hNx hX hNc hl
  have hl : lv_has ls 5 [(0, .ref (ad 0)), (1, .int v1), (2, .int v2), (3, .ref q)] := hl
  have hown : s.vm.findClass RL = some m.cls := hown
  refine lv_aload_n hx hb dL_told_0 rfl (lv_at hl 3 rfl) ?_
  refine lv_iconst (v := 0) hx hb dL_told_1 (by decide) ?_
  refine lv_aload_n hx hb dL_told_2 rfl (lv_at hl 0 rfl) ?_
  refine lv_iload_n hx hb dL_told_3 rfl (lv_at hl 1 rfl) ?_
  refine lv_iload_n hx hb dL_told_4 rfl (lv_at hl 2 rfl) ?_
  refine w_callI (o := o) [.int v1, .int v2] [.int 0, .ref q] ⟨hx, hb, hml, hown, hts⟩ (kX6_told l hst D ad cI cZ hDD S v1 v2 So ro co hE) (cwV 2 hts gL_told_X6_told rfl rfl rfl (by decide +kernel) ⟨Nat.le_of_ble_eq_true rfl, Nat.le_of_ble_eq_true rfl⟩) ⟨rfl, rfl⟩ hP hK hNx hX hq rfl hl.1 rfl (Nat.le_of_ble_eq_true rfl) dL_told_5 (fun hco H locs hP hS => ?_) (fun hco H locs x ce hP hS hce hcv hcl => ?_)
  · subst hco
    refine lv_i2l (v := Int32.toInt64 ro) hx hb dL_told_8 rfl ?_
    refine w_put hx hb hDD hq hK hP hS dL_told_9 (fun H locs hP hS => ?_)
    refine lv_goto (tgt := 21) hx hb dL_told_10 (by decide) ?_
    refine lv_iconst (v := 0) hx hb dL_told_21 (by decide) ?_
    exact w_iret hx hb hr hlk hP hS dL_told_22
  · rcases co with _ | _ | _ | _ | n
    · exact absurd rfl hco
    · refine vx_catch (E := xNm 1) (name := "java/lang/IndexOutOfBoundsException") hown [] ⟨0, 10, 13, 21⟩ [⟨0, 10, 17, 15⟩] htab (fun z hz => absurd hz List.not_mem_nil) (by decide) (by decide) (hts (.classLink RL 21 "java/lang/IndexOutOfBoundsException") (List.mem_of_getElem? (i := 1) rfl)) (va_Nw.use rfl (hX.2.2.2 (.castable "java/lang/IndexOutOfBoundsException" "java/lang/IndexOutOfBoundsException") (by decide +kernel))) hce hcv hcl ?_
      refine lv_astore (lv' := [(4, .ref x), (0, .ref (ad 0)), (1, .int v1), (2, .int v2), (3, .ref q)]) hx hb dL_told_13 hl (by decide) rfl (fun ls hl => ?_)
      refine lv_iconst (v := 1) hx hb dL_told_15 (by decide) ?_
      exact w_iret hx hb hr hlk hP hS dL_told_16
    · exact absurd (show ps13 2 = 0 from rfl) (hal.resolve_left hco)
    · refine vx_catch (E := xNm 3) (name := "java/lang/IllegalStateException") hown [⟨0, 10, 13, 21⟩] ⟨0, 10, 17, 15⟩ [] htab (w_pass1 ⟨by decide, _, (hts (.classLink RL 21 "java/lang/IndexOutOfBoundsException") (List.mem_of_getElem? (i := 1) rfl)), hNc (xNm 3, xNm 1) (by decide +kernel)⟩) (by decide) (by decide) (hts (.classLink RL 15 "java/lang/IllegalStateException") (List.mem_of_getElem? (i := 2) rfl)) (va_Nw.use rfl (hX.2.2.2 (.castable "java/lang/IllegalStateException" "java/lang/IllegalStateException") (by decide +kernel))) hce hcv hcl ?_
      refine lv_astore (lv' := [(4, .ref x), (0, .ref (ad 0)), (1, .int v1), (2, .int v2), (3, .ref q)]) hx hb dL_told_17 hl (by decide) rfl (fun ls hl => ?_)
      refine lv_iconst (v := 2) hx hb dL_told_19 (by decide) ?_
      exact w_iret hx hb hr hlk hP hS dL_told_20
    · exact absurd (show ps13 (n + 4) = 0 from rfl) (hal.resolve_left hco)
