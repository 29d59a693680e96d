/-! the law's own calls of the class: worlds, contracts, catching -/
def wA (ad : Nat → Nat) (q : Nat) : Nat → Prop := fun x => bA ad x ∨ x = q
def wW (ad : Nat → Nat) (cI cZ cJ : ClassId) (q : Nat) (S : St) (o : Nat → Int64) : va_W := bW ad cI cZ S ++ [(q, .inl (cJ, 1, .inr (.inl o)))]
abbrev wTy (cI cZ cJ : ClassId) : List (ClassId × FieldType) := [(cI, .int), (cZ, .boolean), (cJ, .long)]
theorem bW_len (ad : Nat → Nat) (cI cZ : ClassId) (S : St) : (bW ad cI cZ S).length = 26 := rfl
theorem wDD {ad : Nat → Nat} {cI cZ cJ : ClassId} {q : Nat} (hDD : ∀ S, va_D (bA ad) (bW ad cI cZ S)) (hq : ¬ bA ad q) (S : St) (o : Nat → Int64) : va_D (wA ad q) (wW ad cI cZ cJ q S o) := by
  have key : ∀ (k : Nat) (x : Nat × va_E), (wW ad cI cZ cJ q S o)[k]? = some x → ((bW ad cI cZ S)[k]? = some x ∧ x.1 ≠ q) ∨ (k = 26 ∧ x.1 = q) := by
    intro k x hk
    unfold wW at hk
    by_cases h : k < 26
    · rw [List.getElem?_append_left (by rw [bW_len]; exact h)] at hk
      refine Or.inl ⟨hk, fun z => hq ?_⟩
      have := (hDD S).2 k x hk
      rw [z] at this
      exact this
    · rw [List.getElem?_append_right (by rw [bW_len]; omega), bW_len] at hk
      have h1 := (List.getElem?_eq_some_iff.mp hk).1
      have h2 : k - 26 = 0 := by simpa using h1
      rw [h2] at hk
      cases hk
      exact Or.inr ⟨by omega, rfl⟩
  refine ⟨fun i j x y hi hj hxy => ?_, fun k x hk => ?_⟩
  · rcases key i x hi with ⟨i1, i2⟩ | ⟨i1, i2⟩
    · rcases key j y hj with ⟨j1, j2⟩ | ⟨j1, j2⟩
      · exact (hDD S).1 i j x y i1 j1 hxy
      · exact absurd (hxy.trans j2) i2
    · rcases key j y hj with ⟨j1, j2⟩ | ⟨j1, j2⟩
      · exact absurd (hxy.symm.trans i2) j2
      · omega
  · rcases key k x hk with ⟨i1, -⟩ | ⟨-, i2⟩
    · exact Or.inl ((hDD S).2 k x i1)
    · exact Or.inr i2
def wPairs : List (String × String) := [(xNm 1, xNm 2), (xNm 1, xNm 3), (xNm 2, xNm 1), (xNm 2, xNm 3), (xNm 3, xNm 1), (xNm 3, xNm 2)]
def wNc (U : State) : Prop := ∀ p ∈ wPairs, va_Nc p.1 p.2 U
theorem wNc.moved {u U : State} (hvm : u.vm.Alike U.vm) (h : wNc u) : wNc U := fun p hp => (h p hp).moved hvm
theorem xFx.narrow {A B : Nat → Prop} {U : State} (h : xFx A U) (hAB : ∀ q, B q → A q) : xFx B U := ⟨h.1.narrow hAB, h.2.1.narrow hAB, h.2.2⟩
theorem xFx.at {A : Nat → Prop} {s U : State} {H : Heap} {locs : List Loc} (hX : xFx A s) (hS : va_S A s.heap H locs) (hU : U.heap = H) (hW : s.WarmedH U.vm) : xFx A U := ⟨by rw [hU]; exact vx_Zq.moved hW.alike (hX.1.kept hS.2.1), by rw [hU]; exact vx_Zq.moved hW.alike (hX.2.1.kept hS.2.1), fun z hz => by obtain ⟨sa, h⟩ := hX.2.2.1 z hz; exact ⟨sa, vk_R.warm hW h⟩, xNg_warm hW hX.2.2.2⟩
def wPre (D : va_G) (cI cZ cJ : ClassId) (ad : Nat → Nat) (q : Nat) (S : St) (o : Nat → Int64) (U : State) : Prop := va_P D vwCl (wW ad cI cZ cJ q S o) U.heap ∧ va_K D vwCl (wTy cI cZ cJ) U ∧ kNx U ∧ xFx (wA ad q) U ∧ wNc U
def wQ (D : va_G) (cI cZ cJ : ClassId) (ad : Nat → Nat) (q : Nat) (S : St) (o : Nat → Int64) (r : Int32) : Array Value → State → Outcome → State → Prop := fun _ st oc t => oc = .returned (some (.int r)) ∧ va_P D vwCl (wW ad cI cZ cJ q S o) t.heap ∧ va_F (wA ad q) st t
theorem wPre.blind {D : va_G} {cI cZ cJ : ClassId} {ad : Nat → Nat} {q : Nat} {S : St} {o : Nat → Int64} {av : List Value} : FrameBlind (va_Pc av (wPre D cI cZ cJ ad q S o)) := fun _ U _ _ h => ⟨h.1, h.2.1, va_K.moved (u := U) (Vm.Alike.refl U.vm) h.2.2.1, kNx.warm (s := U) (State.WarmedH.refl U) h.2.2.2.1, ⟨vx_Zq.moved (u := U) (Vm.Alike.refl U.vm) h.2.2.2.2.1.1, vx_Zq.moved (u := U) (Vm.Alike.refl U.vm) h.2.2.2.2.1.2.1, fun z hz => by obtain ⟨sa, h⟩ := h.2.2.2.2.1.2.2.1 z hz; exact ⟨sa, vk_R.same (u := U) rfl h⟩, xNg_warm (s := U) (State.WarmedH.refl U) h.2.2.2.2.1.2.2.2⟩, wNc.moved (u := U) (Vm.Alike.refl U.vm) h.2.2.2.2.2⟩
theorem wMet_of {l : Launch} {D : va_G} {cI cZ cJ : ClassId} {ad : Nat → Nat} {q : Nat} {S : St} {o : Nat → Int64} {A : Nat → Prop} {y : MethodName} {ws ws' : List Cond} {rm : Room} {cc : ByteArray} {maxL mc ms : Nat} {ret : Option FieldType} {hh : List (Nat × Nat × Nat × Nat)} {av : List Value} {Qc : Array Value → State → Outcome → State → Prop} (hy : plainName y.cls = true) (hw : ws = Cond.codeWith y cc maxL ret hh :: ws') (hav : (lg_sl av).length ≤ maxL)
    (body : ∀ p e (s : State) m args below (meth : Method) (c : Code) (ls : Array Slot), p.tables.exec = Jvm.exec → c.code = cc → meth.sig.returnType = ret → c.maxLocals = maxL → s.vm.findClass y.cls = some m.cls → meth.locks = false → (∀ w ∈ ws, w.before args s = true) → c.exceptionTable.toList = tableOf hh → va_P D vwCl (wW ad cI cZ cJ q S o) s.heap → va_K D vwCl (wTy cI cZ cJ) s → kNx s → xFx (wA ad q) s → wNc s → lv_has ls maxL (lv_args 0 av) →
      W p l e (headSpec ws rm).room s m args below meth c s.heap [] 0 0 (MQ below Qc args s mc ms A) (F0 m 0 ls [])) : Met l y ws rm (va_Pc av (wPre D cI cZ cJ ad q S o)) Qc mc ms A := by
  refine va_MetW hy hw ?_
  intro p e s m args below meth c s₁ B hml hv
  obtain ⟨rfl, hP, hK, hNx, hX, hNc⟩ := hv
  rw [lg_entry_eq]
  exact body p e s m _ below meth c _ B.exec B.bytes B.returns hml (findClass_of_methodNamed B.named) B.notSynchronized (atoms_spec B.pre) (vx_table (x := y) B (atoms_spec B.pre _ (by rw [hw]; exact List.mem_cons_self))) hP hK hNx hX hNc (lv_entry av hav)
section WROW
variable {p : Program} {l : Launch} {e : Env} {R : Room} {s : State} {m : MethodId} {args : Array Value} {below : List Frame} {meth : Method} {c : Code} {H : Heap} {locs : List Loc} {cells slots : Nat} {Q : State → Prop}
variable {cc : ByteArray} {pc : Nat} {ls : Array Slot} {rest st0 : List Value} {D : va_G} {cI cZ cJ : ClassId} {ad : Nat → Nat} {q : Nat} {S So : St} {o : Nat → Int64}
theorem w_callI {y : MethodName} {bytes : ByteArray} {maxL nL n index : Nat} {ret : Option FieldType} {ws : List Cond} {Ts : List Cond} {own : String} {fr lo co : Nat} {ro : Int32} (As rest : List Value) (CF : CallFix p m c cc nL s args Ts own)
    (hM : vx_Met l y ws (xRm fr lo co) (va_Pc (.ref (ad 0) :: As) (xPre D cI cZ (bA ad) (bW ad cI cZ S))) (xQi D cI cZ (bA ad) (bW ad cI cZ So) ro co) (xXC D cI cZ (bA ad) (bW ad cI cZ So) co) (xC co) (xS co) (bA ad)) (cw : CallW R s args own RX6 index y bytes maxL ret ws (xRm fr lo co) (xC co) (xS co) n) (hR : R.cells = xC co ∧ R.slots = xS co) (hP : va_P D vwCl (wW ad cI cZ cJ q S o) s.heap) (hK : va_K D vwCl (wTy cI cZ cJ) s) (hNx : kNx s) (hX : xFx (wA ad q) s) (hq : ¬ bA ad q)
    (hn : As.length = n) (hsz : ls.size = nL) (hst : st0 = As.reverse ++ .ref (ad 0) :: rest) (hW : (rest.map fun v => v.category).sum ≤ 8) (hdg : decode cc pc = .ok (.invokevirtual index, 3))
    (kr : co = 0 → ∀ H1 locs1, va_P D vwCl (wW ad cI cZ cJ q So o) H1 → va_S (wA ad q) s.heap H1 locs1 → W p l e R s m args below meth c H1 locs1 0 0 Q (F0 m (pc + 3) ls (.int ro :: rest)))
    (kx : co ≠ 0 → ∀ H1 locs1 x ce, va_P D vwCl (wW ad cI cZ cJ q So o) H1 → va_S (wA ad q) s.heap H1 locs1 → H1[x]? = some ce → ce.vm = .none → s.vm.findClass (xNm co) = some ce.cls → vx_W p l e R s m args below meth c H1 locs1 (0 + xC co) (0 + xS co) Q (F0 m pc ls rest) x) : W p l e R s m args below meth c s.heap [] 0 0 Q (F0 m pc ls st0) := by
  have hKK : kK D cI cZ s := ⟨hK.sub (tys' := kTy cI cZ) [0, 1] rfl, hNx⟩
  have hPb : va_P D vwCl (bW ad cI cZ S) s.heap := fun k x hk => hP k x (by unfold wW; rw [List.getElem?_append_left (List.getElem?_eq_some_iff.mp hk).1]; exact hk)
  have hPo : va_P D vwCl [(q, .inl (cJ, 1, .inr (.inl o)))] s.heap := hP.sub [26] rfl
  have hXb : xFx (bA ad) s := hX.narrow (fun _ h => Or.inl h)
  have hrc := va_recv hKK.1 hPb (ci := 5) (q0 := 0) rfl rfl
  have join : ∀ (T' : State) (L : List Loc), s.heap.size ≤ T'.heap.size → (∀ x : Nat, x < s.heap.size → ¬ bA ad x → T'.heap[x]? = s.heap[x]?) → va_P D vwCl (bW ad cI cZ So) T'.heap → (∀ z ∈ L, bA ad z.base) → va_P D vwCl (wW ad cI cZ cJ q So o) T'.heap ∧ va_S (wA ad q) s.heap T'.heap ([] ++ L) := fun T' L h1 h2 h3 h4 => by
    refine ⟨h3.app (hPo.kept (fun k x hk => h2 x.1 (hPo k x hk).lt ?_)), h1, fun x hx hx2 => h2 x hx (fun z => hx2 (Or.inl z)), fun z hz => Or.inl (h4 z (by simpa using hz))⟩
    have h5 := (List.getElem?_eq_some_iff.mp hk).1
    have h6 : k = 0 := by simpa using h5
    subst h6
    cases hk
    exact hq
  intro T hT X
  rcases vx_runV CF hM cw ⟨xPre.blind, hrc, xPre.at (Wd := bW ad cI cZ) hKK hPb hXb va_S.rf⟩ rfl hn hsz hst (lv_room hW) hdg ⟨by rw [hR.1, Nat.zero_add]; exact Nat.le_refl _, by rw [hR.2, Nat.zero_add]; exact Nat.le_refl _⟩ T hT X with ⟨v, st₀, t, T', L, h0, X', hL, e1, e2, ⟨hk, hv, hb, hz, hkp⟩, st⟩ | ⟨x, st₀, t, T', L, E, ce, h0, X', hL, e1, e2, ⟨hk, hEn, hb, hz, hkp⟩, hce, hcv, hcl, st⟩
  · cases hv
    subst hk
    rw [h0] at hz hkp
    obtain ⟨j1, j2⟩ := join T' L (by rw [e1]; exact hz) (fun x h1 h2 => by rw [e1]; exact hkp x h1 h2) (by rw [e1]; exact hb) hL
    obtain ⟨t2, a1, b1⟩ := kr rfl T'.heap ([] ++ L) j1 j2 T' rfl X'
    exact ⟨t2, st t2 a1, b1⟩
  · rw [h0] at hz hkp
    obtain ⟨j1, j2⟩ := join T' L (by rw [e1]; exact hz) (fun x h1 h2 => by rw [e1]; exact hkp x h1 h2) (by rw [e1]; exact hb) hL
    subst hEn
    obtain ⟨t2, a1, b1⟩ := kx hk T'.heap ([] ++ L) x ce j1 j2 (by rw [e1]; exact hce) hcv hcl T' rfl X'
    exact ⟨t2, st.trans a1, b1⟩
theorem w_callV {y : MethodName} {bytes : ByteArray} {maxL nL n index : Nat} {ret : Option FieldType} {ws : List Cond} {Ts : List Cond} {own : String} {fr lo co : Nat} (As rest : List Value) (CF : CallFix p m c cc nL s args Ts own)
    (hM : vx_Met l y ws (xRm fr lo co) (va_Pc (.ref (ad 0) :: As) (xPre D cI cZ (bA ad) (bW ad cI cZ S))) (xQv D cI cZ (bA ad) (bW ad cI cZ So) co) (xXC D cI cZ (bA ad) (bW ad cI cZ So) co) (xC co) (xS co) (bA ad)) (cw : CallW R s args own RX6 index y bytes maxL ret ws (xRm fr lo co) (xC co) (xS co) n) (hR : R.cells = xC co ∧ R.slots = xS co) (hP : va_P D vwCl (wW ad cI cZ cJ q S o) s.heap) (hK : va_K D vwCl (wTy cI cZ cJ) s) (hNx : kNx s) (hX : xFx (wA ad q) s) (hq : ¬ bA ad q)
    (hn : As.length = n) (hsz : ls.size = nL) (hst : st0 = As.reverse ++ .ref (ad 0) :: rest) (hW : (rest.map fun v => v.category).sum ≤ 8) (hdg : decode cc pc = .ok (.invokevirtual index, 3))
    (kr : co = 0 → ∀ H1 locs1, va_P D vwCl (wW ad cI cZ cJ q So o) H1 → va_S (wA ad q) s.heap H1 locs1 → W p l e R s m args below meth c H1 locs1 0 0 Q (F0 m (pc + 3) ls rest))
    (kx : co ≠ 0 → ∀ H1 locs1 x ce, va_P D vwCl (wW ad cI cZ cJ q So o) H1 → va_S (wA ad q) s.heap H1 locs1 → H1[x]? = some ce → ce.vm = .none → s.vm.findClass (xNm co) = some ce.cls → vx_W p l e R s m args below meth c H1 locs1 (0 + xC co) (0 + xS co) Q (F0 m pc ls rest) x) : W p l e R s m args below meth c s.heap [] 0 0 Q (F0 m pc ls st0) := by
  have hKK : kK D cI cZ s := ⟨hK.sub (tys' := kTy cI cZ) [0, 1] rfl, hNx⟩
  have hPb : va_P D vwCl (bW ad cI cZ S) s.heap := fun k x hk => hP k x (by unfold wW; rw [List.getElem?_append_left (List.getElem?_eq_some_iff.mp hk).1]; exact hk)
  have hPo : va_P D vwCl [(q, .inl (cJ, 1, .inr (.inl o)))] s.heap := hP.sub [26] rfl
  have hXb : xFx (bA ad) s := hX.narrow (fun _ h => Or.inl h)
  have hrc := va_recv hKK.1 hPb (ci := 5) (q0 := 0) rfl rfl
  have join : ∀ (T' : State) (L : List Loc), s.heap.size ≤ T'.heap.size → (∀ x : Nat, x < s.heap.size → ¬ bA ad x → T'.heap[x]? = s.heap[x]?) → va_P D vwCl (bW ad cI cZ So) T'.heap → (∀ z ∈ L, bA ad z.base) → va_P D vwCl (wW ad cI cZ cJ q So o) T'.heap ∧ va_S (wA ad q) s.heap T'.heap ([] ++ L) := fun T' L h1 h2 h3 h4 => by
    refine ⟨h3.app (hPo.kept (fun k x hk => h2 x.1 (hPo k x hk).lt ?_)), h1, fun x hx hx2 => h2 x hx (fun z => hx2 (Or.inl z)), fun z hz => Or.inl (h4 z (by simpa using hz))⟩
    have h5 := (List.getElem?_eq_some_iff.mp hk).1
    have h6 : k = 0 := by simpa using h5
    subst h6
    cases hk
    exact hq
  intro T hT X
  rcases vx_runV CF hM cw ⟨xPre.blind, hrc, xPre.at (Wd := bW ad cI cZ) hKK hPb hXb va_S.rf⟩ rfl hn hsz hst (lv_room hW) hdg ⟨by rw [hR.1, Nat.zero_add]; exact Nat.le_refl _, by rw [hR.2, Nat.zero_add]; exact Nat.le_refl _⟩ T hT X with ⟨v, st₀, t, T', L, h0, X', hL, e1, e2, ⟨hk, hv, hb, hz, hkp⟩, st⟩ | ⟨x, st₀, t, T', L, E, ce, h0, X', hL, e1, e2, ⟨hk, hEn, hb, hz, hkp⟩, hce, hcv, hcl, st⟩
  · cases hv
    subst hk
    rw [h0] at hz hkp
    obtain ⟨j1, j2⟩ := join T' L (by rw [e1]; exact hz) (fun x h1 h2 => by rw [e1]; exact hkp x h1 h2) (by rw [e1]; exact hb) hL
    obtain ⟨t2, a1, b1⟩ := kr rfl T'.heap ([] ++ L) j1 j2 T' rfl X'
    exact ⟨t2, st t2 a1, b1⟩
  · rw [h0] at hz hkp
    obtain ⟨j1, j2⟩ := join T' L (by rw [e1]; exact hz) (fun x h1 h2 => by rw [e1]; exact hkp x h1 h2) (by rw [e1]; exact hb) hL
    subst hEn
    obtain ⟨t2, a1, b1⟩ := kx hk T'.heap ([] ++ L) x ce j1 j2 (by rw [e1]; exact hce) hcv hcl T' rfl X'
    exact ⟨t2, st.trans a1, b1⟩
/-- the answer of a call goes into the row -/
theorem w_put {z : Int64} (hx : p.tables.exec = Jvm.exec) (hb : c.code = cc) (hDD : ∀ S, va_D (bA ad) (bW ad cI cZ S)) (hq : ¬ bA ad q) (hK : va_K D vwCl (wTy cI cZ cJ) s) (hP : va_P D vwCl (wW ad cI cZ cJ q S o) H) (hS : va_S (wA ad q) s.heap H locs) (hdg : decode cc pc = .ok (.lastore, 1))
    (kk : ∀ (H1 : Heap) (locs1 : List Loc), va_P D vwCl (wW ad cI cZ cJ q S (vp_updL o 0 z)) H1 → va_S (wA ad q) s.heap H1 locs1 → W p l e R s m args below meth c H1 locs1 cells slots Q (F0 m (pc + 1) ls rest)) : W p l e R s m args below meth c H locs cells slots Q (F0 m pc ls (.long z :: .int 0 :: .ref q :: rest)) :=
  va_last hx hb hK hP (wDD hDD hq S o) hS 26 2 rfl rfl (show vp_in 0 1 from ix_ok (j := 0) (n := 1) (by omega) (by omega)) hdg (fun H1 locs1 h1 _ h3 => kk H1 locs1 h1 h3)
theorem w_iret {r : Int32} (hx : p.tables.exec = Jvm.exec) (hb : c.code = cc) (hr : meth.sig.returnType = some .int) (hlk : meth.locks = false) (hP : va_P D vwCl (wW ad cI cZ cJ q S o) H) (hS : va_S (wA ad q) s.heap H locs) (hdg : decode cc pc = .ok (.ireturn, 1)) : W p l e R s m args below meth c H locs cells slots (MQ below (wQ D cI cZ cJ ad q S o r) args s cells slots (wA ad q)) (F0 m pc ls [.int r]) :=
  W.iret hx hb hr (fun t ht hW => ⟨rfl, by rw [ht]; exact hP, hS.F ht⟩) hS.2.2 hdg hlk
end WROW
