/-! methods that return or throw: the states, the rows -/
def xNm : Nat → String | 1 => "java/lang/IndexOutOfBoundsException" | 2 => "java/lang/IllegalArgumentException" | _ => "java/lang/IllegalStateException"
def xC : Nat → Nat | 0 => 0 | _ + 1 => 1
def xS : Nat → Nat | 0 => 0 | _ + 1 => 6
def xRm (fr lo k : Nat) : Room := { frames := fr, cells := xC k, slots := xS k, locals := lo }
def xStrs : List (Nat × String) := [(60, "no such version"), (70, "no more packages"), (81, "no such need"), (87, "the need does not hold now"), (92, "no more needs"), (101, "no such trust"), (106, "no such patience"), (111, "no such freeze"), (114, "no more freezes"), (119, "no such version or risk"), (121, "the version is not greater"), (130, "no more raises"), (145, "the raise has no reviewer"), (158, "the group cannot land"), (178, "no such number of days"), (180, "no more days"), (198, "nothing to tell"), (218, "no such sign"), (221, "no such package"), (223, "no such reviewer"), (225, "no such raise"), (227, "the raise is not open")]
def xNg : List Cond := [.declares (Bundle.initS "java/lang/RuntimeException"), .declares (Bundle.initS "java/lang/Exception"), .declares (Bundle.initS Bundle.tN), .castable "java/lang/IndexOutOfBoundsException" "java/lang/IndexOutOfBoundsException", .castable "java/lang/IllegalArgumentException" "java/lang/IllegalArgumentException", .castable "java/lang/IllegalStateException" "java/lang/IllegalStateException"]
theorem xNg_ok : ∀ w ∈ xNg, w.keepsFace = true ∧ w.onTables = true := by decide +kernel
theorem xNg_warm {s U : State} (hW : s.WarmedH U.vm) (h : ∀ w ∈ xNg, va_Nw w s) : ∀ w ∈ xNg, va_Nw w U := fun w hw => va_tabs (xNg_ok w hw).2 (rfl : (s.setVm U.vm).vm = U.vm) (Cond.before_shiftedFace (args := #[]) (State.Shifted.of_warmed hW) w (xNg_ok w hw).1 (h w hw))
def xFx (A : Nat → Prop) (U : State) : Prop := vx_Zq Bundle.tN "UNASSIGNED_STACK" Bundle.steD A U U.heap ∧ vx_Zq Bundle.tN "SUPPRESSED_SENTINEL" Bundle.listD A U U.heap ∧ (∀ q ∈ xStrs, ∃ sa, vk_R RX6 q.1 q.2 sa U) ∧ ∀ w ∈ xNg, va_Nw w U
def xPre (D : va_G) (cI cZ : ClassId) (A : Nat → Prop) (ws : va_W) (U : State) : Prop := kPre D cI cZ ws U ∧ xFx A U
def xQi (D : va_G) (cI cZ : ClassId) (A : Nat → Prop) (ws : va_W) (r : Int32) (k : Nat) : Array Value → State → Outcome → State → Prop := fun _ st oc t => k = 0 ∧ oc = .returned (some (.int r)) ∧ va_P D vwCl ws t.heap ∧ va_F A st t
def xQv (D : va_G) (cI cZ : ClassId) (A : Nat → Prop) (ws : va_W) (k : Nat) : Array Value → State → Outcome → State → Prop := fun _ st oc t => k = 0 ∧ oc = .returned none ∧ va_P D vwCl ws t.heap ∧ va_F A st t
def xXC (D : va_G) (cI cZ : ClassId) (A : Nat → Prop) (ws : va_W) (k : Nat) : String → State → State → Prop := fun E st t => k ≠ 0 ∧ E = xNm k ∧ va_P D vwCl ws t.heap ∧ va_F A st t
theorem xPre.blind {D : va_G} {cI cZ : ClassId} {A : Nat → Prop} {ws : va_W} {av : List Value} : FrameBlind (va_Pc av (xPre D cI cZ A ws)) := fun _ U g mk q => ⟨q.1, ⟨q.2.1.1, kK.warm (s := U) (State.WarmedH.refl U) q.2.1.2⟩, vx_Zq.moved (u := U) (Vm.Alike.refl U.vm) q.2.2.1, vx_Zq.moved (u := U) (Vm.Alike.refl U.vm) q.2.2.2.1, fun z hz => by obtain ⟨sa, h⟩ := q.2.2.2.2.1 z hz; exact ⟨sa, vk_R.same (u := U) rfl h⟩, xNg_warm (s := U) (State.WarmedH.refl U) q.2.2.2.2.2⟩
section XROW
variable {p : Program} {l : Launch} {e : Env} {R : Room} {s : State} {m : MethodId} {args : Array Value} {below : List Frame} {meth : Method} {c : Code} {H : Heap} {locs : List Loc} {cells slots : Nat} {Q : State → Prop}
variable {cc : ByteArray} {pc : Nat} {ls : Array Slot} {rest st0 : List Value} {D : va_G} {cI cZ : ClassId} {A : Nat → Prop} {a : Nat} {H0 : Heap} {Wd : St → va_W} {S : St}
theorem xPre.at {av : List Value} (hK : kK D cI cZ s) (hP : va_P D vwCl (Wd S) H) (hX : xFx A s) (hS : va_S A s.heap H locs) : ∀ U : State, U.heap = H → s.WarmedH U.vm → va_Pc av (xPre D cI cZ A (Wd S)) av.toArray U := fun U hU hW => ⟨rfl, ⟨by rw [hU]; exact hP, kK.warm hW hK⟩, by rw [hU]; exact vx_Zq.moved hW.alike (hX.1.kept hS.2.1), by rw [hU]; exact vx_Zq.moved hW.alike (hX.2.1.kept hS.2.1), fun z hz => by obtain ⟨sa, h⟩ := hX.2.2.1 z hz; exact ⟨sa, vk_R.warm hW h⟩, xNg_warm hW hX.2.2.2⟩
variable {y : MethodName} {bytes : ByteArray} {maxL nL n index : Nat} {ret : Option FieldType} {ws : List Cond} {rm : Room} {Ts : List Cond} {own C : String} {b : Addr} {As : List Value}
theorem r_callXi {F : Option (St × Int32 × Nat)} {f : St → Int32 → Option (St × Int32 × Nat)} {fr lo : Nat} {Qc : Array Value → State → Outcome → State → Prop} {So : St} {ro : Int32} {co : Nat} (As rest : List Value) (CF : CallFix p m c cc nL s args Ts own) (hM : ∀ S1 r k, F = some (S1, r, k) → vx_Met l y ws (xRm fr lo k) (va_Pc (.ref b :: As) (xPre D cI cZ A (Wd S))) (xQi D cI cZ A (Wd S1) r k) (xXC D cI cZ A (Wd S1) k) (xC k) (xS k) A) (cw : ∀ k, CallW R s args own C index y bytes maxL ret ws (xRm fr lo k) (xC k) (xS k) n) (hrc : ∃ cellB : Cell, H[b]? = some cellB ∧ cellB.vm.isStatics = false ∧ s.vm.findClass C = some cellB.cls) (hK : kK D cI cZ s) (hP : va_P D vwCl (Wd S) H) (hX : xFx A s) (hS : va_S A s.heap H locs) (hR : R.cells = xC co ∧ R.slots = xS co) (ht : ∀ x ∈ c.exceptionTable.toList, False) (hlk : meth.locks = false)
    (hn : As.length = n) (hsz : ls.size = nL) (hst : st0 = As.reverse ++ .ref b :: rest) (hW : (rest.map fun v => v.category).sum ≤ 8) (hE : F.bind (fun q => if q.2.2 = 0 then f q.1 q.2.1 else some (q.1, 0, q.2.2)) = some (So, ro, co)) (hdg : decode cc pc = .ok (.invokevirtual index, 3))
    (kk : ∀ (S1 : St) (r : Int32) H1 locs1, f S1 r = some (So, ro, co) → va_P D vwCl (Wd S1) H1 → va_S A s.heap H1 locs1 → W p l e R s m args below meth c H1 locs1 0 0 (vx_MQ below Qc (xXC D cI cZ A (Wd So) co) args s (xC co) (xS co) A) (F0 m (pc + 3) ls (.int r :: rest))) : W p l e R s m args below meth c H locs 0 0 (vx_MQ below Qc (xXC D cI cZ A (Wd So) co) args s (xC co) (xS co) A) (F0 m pc ls st0) := by
  obtain ⟨⟨S1, r, k⟩, h1, h2⟩ := obn hE
  by_cases hk : k = 0
  · subst hk
    have h2 : f S1 r = some (So, ro, co) := h2
    intro T hT X
    rcases vx_runV CF (hM S1 r 0 h1) (cw 0) ⟨xPre.blind, hrc, xPre.at hK hP hX hS⟩ rfl hn hsz hst (lv_room hW) hdg ⟨Nat.zero_le _, Nat.zero_le _⟩ T hT X with ⟨v, st₀, t, T', L, h0, X', hL, e1, e2, ⟨_, hv, hb, hz, hkp⟩, st⟩ | ⟨q, st₀, t, T', L, E, ce, h0, X', hL, e1, e2, ⟨hne, _⟩, _⟩
    · cases hv
      rw [h0] at hz hkp
      obtain ⟨t2, a1, b1⟩ := kk S1 r T'.heap (locs ++ L) h2 (by rw [e1]; exact hb)
        ⟨Nat.le_trans hS.1 (by rw [e1]; exact hz), fun q h1 h2 => by rw [e1, hkp q (Nat.lt_of_lt_of_le h1 hS.1) h2]; exact hS.2.1 q h1 h2, fun q hq => by
          rcases List.mem_append.mp hq with h | h
          · exact hS.2.2 q h
          · exact hL q h⟩ T' rfl X'
      exact ⟨t2, st t2 a1, b1⟩
    · exact absurd rfl hne
  · have h3 : some (S1, (0 : Int32), k) = some (So, ro, co) := by
      have h4 : (if k = 0 then f S1 r else some (S1, 0, k)) = some (So, ro, co) := h2
      rw [if_neg hk] at h4
      exact h4
    cases h3
    intro T hT X
    rcases vx_runV CF (hM So r co h1) (cw co) ⟨xPre.blind, hrc, xPre.at hK hP hX hS⟩ rfl hn hsz hst (lv_room hW) hdg ⟨by rw [hR.1, Nat.zero_add]; exact Nat.le_refl _, by rw [hR.2, Nat.zero_add]; exact Nat.le_refl _⟩ T hT X with ⟨v, st₀, t, T', L, h0, X', hL, e1, e2, ⟨he, _⟩, st⟩ | ⟨q, st₀, t, T', L, E, ce, h0, X', hL, e1, e2, ⟨_, hEn, hb, hz, hkp⟩, hce, hcv, hcl, st⟩
    · exact absurd he hk
    · rw [h0] at hz hkp
      have hSS : va_S A s.heap T'.heap (locs ++ L) := ⟨Nat.le_trans hS.1 (by rw [e1]; exact hz), fun q h1 h2 => by rw [e1, hkp q (Nat.lt_of_lt_of_le h1 hS.1) h2]; exact hS.2.1 q h1 h2, fun q hq => by
          rcases List.mem_append.mp hq with h | h
          · exact hS.2.2 q h
          · exact hL q h⟩
      obtain ⟨t2, a1, b1⟩ := vx_out (Qc := Qc) (XC := xXC D cI cZ A (Wd So) co) (pc := pc) (ls := ls) (rest := rest) (mc := xC co) (ms := xS co) (free := A) (fun x hx => (ht x hx).elim) hlk (by rw [e1]; exact hce) hcv hcl
        (fun t9 ht9 _ => ⟨hk, hEn, by rw [ht9, e1]; exact hb, hSS.F ht9⟩) hSS.2.2 (Nat.le_of_eq (Nat.zero_add _)) (Nat.le_of_eq (Nat.zero_add _)) T' rfl X'
      exact ⟨t2, st.trans a1, b1⟩
theorem r_callXv {F : Option (St × Int32 × Nat)} {f : St → Int32 → Option (St × Int32 × Nat)} {fr lo : Nat} {Qc : Array Value → State → Outcome → State → Prop} {So : St} {ro : Int32} {co : Nat} (As rest : List Value) (CF : CallFix p m c cc nL s args Ts own) (hM : ∀ S1 r k, F = some (S1, r, k) → vx_Met l y ws (xRm fr lo k) (va_Pc (.ref b :: As) (xPre D cI cZ A (Wd S))) (xQv D cI cZ A (Wd S1) k) (xXC D cI cZ A (Wd S1) k) (xC k) (xS k) A) (cw : ∀ k, CallW R s args own C index y bytes maxL ret ws (xRm fr lo k) (xC k) (xS k) n) (hrc : ∃ cellB : Cell, H[b]? = some cellB ∧ cellB.vm.isStatics = false ∧ s.vm.findClass C = some cellB.cls) (hK : kK D cI cZ s) (hP : va_P D vwCl (Wd S) H) (hX : xFx A s) (hS : va_S A s.heap H locs) (hR : R.cells = xC co ∧ R.slots = xS co) (ht : ∀ x ∈ c.exceptionTable.toList, False) (hlk : meth.locks = false)
    (hn : As.length = n) (hsz : ls.size = nL) (hst : st0 = As.reverse ++ .ref b :: rest) (hW : (rest.map fun v => v.category).sum ≤ 8) (hE : F.bind (fun q => if q.2.2 = 0 then f q.1 q.2.1 else some (q.1, 0, q.2.2)) = some (So, ro, co)) (hdg : decode cc pc = .ok (.invokevirtual index, 3))
    (kk : ∀ (S1 : St) (r : Int32) H1 locs1, f S1 r = some (So, ro, co) → va_P D vwCl (Wd S1) H1 → va_S A s.heap H1 locs1 → W p l e R s m args below meth c H1 locs1 0 0 (vx_MQ below Qc (xXC D cI cZ A (Wd So) co) args s (xC co) (xS co) A) (F0 m (pc + 3) ls rest)) : W p l e R s m args below meth c H locs 0 0 (vx_MQ below Qc (xXC D cI cZ A (Wd So) co) args s (xC co) (xS co) A) (F0 m pc ls st0) := by
  obtain ⟨⟨S1, r, k⟩, h1, h2⟩ := obn hE
  by_cases hk : k = 0
  · subst hk
    have h2 : f S1 r = some (So, ro, co) := h2
    intro T hT X
    rcases vx_runV CF (hM S1 r 0 h1) (cw 0) ⟨xPre.blind, hrc, xPre.at hK hP hX hS⟩ rfl hn hsz hst (lv_room hW) hdg ⟨Nat.zero_le _, Nat.zero_le _⟩ T hT X with ⟨v, st₀, t, T', L, h0, X', hL, e1, e2, ⟨_, hv, hb, hz, hkp⟩, st⟩ | ⟨q, st₀, t, T', L, E, ce, h0, X', hL, e1, e2, ⟨hne, _⟩, _⟩
    · cases hv
      rw [h0] at hz hkp
      obtain ⟨t2, a1, b1⟩ := kk S1 r T'.heap (locs ++ L) h2 (by rw [e1]; exact hb)
        ⟨Nat.le_trans hS.1 (by rw [e1]; exact hz), fun q h1 h2 => by rw [e1, hkp q (Nat.lt_of_lt_of_le h1 hS.1) h2]; exact hS.2.1 q h1 h2, fun q hq => by
          rcases List.mem_append.mp hq with h | h
          · exact hS.2.2 q h
          · exact hL q h⟩ T' rfl X'
      exact ⟨t2, st t2 a1, b1⟩
    · exact absurd rfl hne
  · have h3 : some (S1, (0 : Int32), k) = some (So, ro, co) := by
      have h4 : (if k = 0 then f S1 r else some (S1, 0, k)) = some (So, ro, co) := h2
      rw [if_neg hk] at h4
      exact h4
    cases h3
    intro T hT X
    rcases vx_runV CF (hM So r co h1) (cw co) ⟨xPre.blind, hrc, xPre.at hK hP hX hS⟩ rfl hn hsz hst (lv_room hW) hdg ⟨by rw [hR.1, Nat.zero_add]; exact Nat.le_refl _, by rw [hR.2, Nat.zero_add]; exact Nat.le_refl _⟩ T hT X with ⟨v, st₀, t, T', L, h0, X', hL, e1, e2, ⟨he, _⟩, st⟩ | ⟨q, st₀, t, T', L, E, ce, h0, X', hL, e1, e2, ⟨_, hEn, hb, hz, hkp⟩, hce, hcv, hcl, st⟩
    · exact absurd he hk
    · rw [h0] at hz hkp
      have hSS : va_S A s.heap T'.heap (locs ++ L) := ⟨Nat.le_trans hS.1 (by rw [e1]; exact hz), fun q h1 h2 => by rw [e1, hkp q (Nat.lt_of_lt_of_le h1 hS.1) h2]; exact hS.2.1 q h1 h2, fun q hq => by
          rcases List.mem_append.mp hq with h | h
          · exact hS.2.2 q h
          · exact hL q h⟩
      obtain ⟨t2, a1, b1⟩ := vx_out (Qc := Qc) (XC := xXC D cI cZ A (Wd So) co) (pc := pc) (ls := ls) (rest := rest) (mc := xC co) (ms := xS co) (free := A) (fun x hx => (ht x hx).elim) hlk (by rw [e1]; exact hce) hcv hcl
        (fun t9 ht9 _ => ⟨hk, hEn, by rw [ht9, e1]; exact hb, hSS.F ht9⟩) hSS.2.2 (Nat.le_of_eq (Nat.zero_add _)) (Nat.le_of_eq (Nat.zero_add _)) T' rfl X'
      exact ⟨t2, st.trans a1, b1⟩
theorem kx_iret {v ro : Int32} {So : St} {co : Nat} {XC : String → State → State → Prop} (hx : p.tables.exec = Jvm.exec) (hb : c.code = cc) (hr : meth.sig.returnType = some .int) (hlk : meth.locks = false) (hK : kK D cI cZ s) (hP : va_P D vwCl (Wd S) H) (hS : va_S A s.heap H locs) (hE : some (S, v, 0) = some (So, ro, co)) (hdg : decode cc pc = .ok (.ireturn, 1)) : W p l e R s m args below meth c H locs 0 0 (vx_MQ below (xQi D cI cZ A (Wd So) ro co) XC args s (xC co) (xS co) A) (F0 m pc ls [.int v]) := by
  cases hE
  exact vx_ret (W.iret hx hb hr (fun t ht hW => ⟨rfl, rfl, by rw [ht]; exact hP, hS.F ht⟩) hS.2.2 hdg hlk)
theorem kx_zret {v ro : Int32} {So : St} {co : Nat} {ty : FieldType} {XC : String → State → State → Prop} (hx : p.tables.exec = Jvm.exec) (hb : c.code = cc) (hr : meth.sig.returnType = some ty) (hlk : meth.locks = false) (hn : narrow ty (.int v) = .int v) (hK : kK D cI cZ s) (hP : va_P D vwCl (Wd S) H) (hS : va_S A s.heap H locs) (hE : some (S, v, 0) = some (So, ro, co)) (hdg : decode cc pc = .ok (.ireturn, 1)) : W p l e R s m args below meth c H locs 0 0 (vx_MQ below (xQi D cI cZ A (Wd So) ro co) XC args s (xC co) (xS co) A) (F0 m pc ls [.int v]) := by
  cases hE
  exact vx_ret (W.zret hx hb hr hn (fun t ht hW => ⟨rfl, rfl, by rw [ht]; exact hP, hS.F ht⟩) hS.2.2 hdg hlk)
theorem kx_bret {v ro : Int32} {So : St} {co : Nat} {XC : String → State → State → Prop} (hx : p.tables.exec = Jvm.exec) (hb : c.code = cc) (hr : meth.sig.returnType = some .boolean) (hlk : meth.locks = false) (hK : kK D cI cZ s) (hP : va_P D vwCl (Wd S) H) (hS : va_S A s.heap H locs) (hE : (bzI v).bind (fun w => some (S, w, 0)) = some (So, ro, co)) (hdg : decode cc pc = .ok (.ireturn, 1)) : W p l e R s m args below meth c H locs 0 0 (vx_MQ below (xQi D cI cZ A (Wd So) ro co) XC args s (xC co) (xS co) A) (F0 m pc ls [.int v]) := by
  obtain ⟨w, h1, h2⟩ := obn hE
  obtain ⟨h3, h4⟩ := bzI_some h1
  subst h3
  exact kx_zret hx hb hr hlk h4 hK hP hS h2 hdg
theorem kx_vret {ro : Int32} {So : St} {co : Nat} {XC : String → State → State → Prop} (hx : p.tables.exec = Jvm.exec) (hb : c.code = cc) (hr : meth.sig.returnType = none) (hlk : meth.locks = false) (hK : kK D cI cZ s) (hP : va_P D vwCl (Wd S) H) (hS : va_S A s.heap H locs) (hE : some (S, (0 : Int32), 0) = some (So, ro, co)) (hdg : decode cc pc = .ok (.return_, 1)) : W p l e R s m args below meth c H locs 0 0 (vx_MQ below (xQv D cI cZ A (Wd So) co) XC args s (xC co) (xS co) A) (F0 m pc ls []) := by
  cases hE
  exact vx_ret (W.vret hx hb hr (fun t ht hW => ⟨rfl, rfl, by rw [ht]; exact hP, hS.F ht⟩) hS.2.2 hdg hlk)
/-- 'throw new E(text)' of the class: the world stays -/
theorem kx_throw {own text : String} {names : List String} {ik is ic : Nat} {code : Nat} {ro : Int32} {So : St} {co : Nat} {Qc : Array Value → State → Outcome → State → Prop} (hx : p.tables.exec = Jvm.exec) (hb : c.code = cc) (hst : l.stackTraces = false) (hown : s.vm.findClass own = some m.cls) (hown6 : own = RX6) (hcls : Bundle.fit (xNm (code + 1)) = true) (hnames : ∀ n ∈ names, Bundle.fit n = true)
    (hk : (Cond.classLink own ik (xNm (code + 1))).before args s = true) (hini : (Cond.initialized (xNm (code + 1))).before args s = true) (hmem : (is, text) ∈ xStrs) (hat : ∀ w ∈ vx_atS own ic (xNm (code + 1)) names, w.before args s = true)
    (hgood : ∀ w ∈ Cond.classLink own ik (xNm (code + 1)) :: Cond.initialized (xNm (code + 1)) :: vx_atS own ic (xNm (code + 1)) names, vx_ot w = true)
    (hK : kK D cI cZ s) (hP : va_P D vwCl (Wd S) H) (hX : xFx A s) (hS : va_S A s.heap H locs) (hsize : ls.size = c.maxLocals) (ht : ∀ x ∈ c.exceptionTable.toList, False) (hlk : meth.locks = false)
    (hRf : names.length + 3 < R.frames) (hRl : (rest.map fun v => v.category).sum + (13 * (names.length + 1) + 43) ≤ R.locals) (hR : R.cells = xC co ∧ R.slots = xS co) (hE : some (S, (0 : Int32), code + 1) = some (So, ro, co))
    (d0 : decode cc pc = .ok (.new ik, 3)) (d3 : decode cc (pc + 3) = .ok (.dup, 1)) (d4 : decode cc (pc + 4) = .ok (.ldc is, 2)) (d6 : decode cc (pc + 6) = .ok (.invokespecial ic, 3)) (d9 : decode cc (pc + 9) = .ok (.athrow, 1)) :
    W p l e R s m args below meth c H locs 0 0 (vx_MQ below Qc (xXC D cI cZ A (Wd So) co) args s (xC co) (xS co) A) (F0 m pc ls rest) := by
  cases hE
  obtain ⟨sa, hstr⟩ := hX.2.2.1 _ hmem
  refine vx_throwS (cls := xNm (code + 1)) (text := text) (sa := sa) hx hb hst hown hcls hnames hk hini (by rw [hown6]; exact hstr) hat hgood hX.1 hX.2.1 hS hsize d0 d3 d4 d6 d9 (fun x hx => (ht x hx).elim) hRf hRl (by rw [hR.1]; exact Nat.le_refl _) (by rw [hR.2]; exact Nat.le_refl _) hlk ?_ hS.2.2 (Nat.le_refl _) (Nat.le_refl _)
  intro t _ hsz hkp
  exact ⟨Nat.succ_ne_zero _, rfl, hP.kept (fun k q hk => hkp q.1 (hP k q hk).lt), Nat.le_trans hS.1 hsz, fun q h1 h2 => (hkp q (Nat.lt_of_lt_of_le h1 hS.1)).trans (hS.2.1 q h1 h2)⟩
end XROW
theorem xMet_of {l : Launch} {D : va_G} {cI cZ : ClassId} {A : Nat → Prop} {y : MethodName} {ws ws' : List Cond} {rm : Room} {cc : ByteArray} {maxL mc ms : Nat} {ret : Option FieldType} {av : List Value} {ww : va_W} {Qc : Array Value → State → Outcome → State → Prop} {XC : String → State → State → Prop} (hy : plainName y.cls = true) (hw : ws = Cond.code y cc maxL ret :: ws') (hav : (lg_sl av).length ≤ maxL)
    (body : ∀ p e (s : State) m args below (meth : Method) (c : Code) (ls : Array Slot), p.tables.exec = Jvm.exec → c.code = cc → meth.sig.returnType = ret → c.maxLocals = maxL → s.vm.findClass y.cls = some m.cls → meth.locks = false → (∀ w ∈ ws, w.before args s = true) → (∀ x ∈ c.exceptionTable.toList, False) → kK D cI cZ s → va_P D vwCl ww s.heap → xFx A s → va_S A s.heap s.heap [] → lv_has ls maxL (lv_args 0 av) →
      W p l e (headSpec ws rm).room s m args below meth c s.heap [] 0 0 (vx_MQ below Qc XC args s mc ms A) (F0 m 0 ls [])) : vx_Met l y ws rm (va_Pc av (xPre D cI cZ A ww)) Qc XC mc ms A := by
  refine vx_ofW hy hw ?_
  intro p e s m args below meth c s₁ B hml htab hv
  obtain ⟨rfl, ⟨hP, hK⟩, hX⟩ := hv
  rw [lg_entry_eq]
  exact body p e s m _ below meth c _ B.exec B.bytes B.returns hml (findClass_of_methodNamed B.named) B.notSynchronized (atoms_spec B.pre) htab hK hP hX va_S.rf (lv_entry av hav)
theorem xgood1 : ∀ w ∈ Cond.classLink RX6 216 "java/lang/IndexOutOfBoundsException" :: Cond.initialized "java/lang/IndexOutOfBoundsException" :: vx_atS RX6 220 "java/lang/IndexOutOfBoundsException" ["java/lang/RuntimeException", "java/lang/Exception"], vx_ot w = true := by decide +kernel
theorem xng1 : ∀ w ∈ (vx_atS RX6 220 "java/lang/IndexOutOfBoundsException" ["java/lang/RuntimeException", "java/lang/Exception"]).filter (fun w => !goodWord w), w ∈ xNg := by decide +kernel
theorem xgood2 : ∀ w ∈ Cond.classLink RX6 58 "java/lang/IllegalArgumentException" :: Cond.initialized "java/lang/IllegalArgumentException" :: vx_atS RX6 62 "java/lang/IllegalArgumentException" ["java/lang/RuntimeException", "java/lang/Exception"], vx_ot w = true := by decide +kernel
theorem xng2 : ∀ w ∈ (vx_atS RX6 62 "java/lang/IllegalArgumentException" ["java/lang/RuntimeException", "java/lang/Exception"]).filter (fun w => !goodWord w), w ∈ xNg := by decide +kernel
theorem xgood3 : ∀ w ∈ Cond.classLink RX6 68 "java/lang/IllegalStateException" :: Cond.initialized "java/lang/IllegalStateException" :: vx_atS RX6 72 "java/lang/IllegalStateException" ["java/lang/RuntimeException", "java/lang/Exception"], vx_ot w = true := by decide +kernel
theorem xng3 : ∀ w ∈ (vx_atS RX6 72 "java/lang/IllegalStateException" ["java/lang/RuntimeException", "java/lang/Exception"]).filter (fun w => !goodWord w), w ∈ xNg := by decide +kernel
