/-! the law's walk: what stays as it is, what each round of its loop finds, and the rows for its calls -/
def fr (s : State) : Nat → Prop := fun q => s.heap.size ≤ q
def LFx (D : va_G) (cI cZ cJ : ClassId) (ad md : Nat → Nat) (q : Nat) (s : State) : Prop :=
  (va_K D vwCl (wTy cI cZ cJ) s ∧ kNx s ∧ xFx (fr s) s ∧ wNc s) ∧ ((∀ S, va_D (bA ad) (bW ad cI cZ S)) ∧ ∀ S, va_D (mA md) (mW md cI cZ S)) ∧ (¬ bA ad q ∧ ¬ mA md q ∧ ∀ x, bA ad x → ¬ mA md x) ∧ (∀ x, bA ad x → fr s x) ∧ (∀ x, mA md x → fr s x) ∧ fr s q
def LSt (D : va_G) (cI cZ cJ : ClassId) (ad md : Nat → Nat) (q : Nat) (s : State) (B M : St) (o : Nat → Int64) (H : Heap) (locs : List Loc) : Prop :=
  va_P D vwCl (wW ad cI cZ cJ q B o) H ∧ va_P D vwCl (mW md cI cZ M) H ∧ va_S (fr s) s.heap H locs
def LCx (p : Program) (l : Launch) (s : State) (m : MethodId) (c : Code) (b L : Nat) (xs : Nat → Int32) : Prop :=
  p.tables.exec = Jvm.exec ∧ c.code = code ∧ c.maxLocals = 7 ∧ s.vm.findClass RL = some m.cls ∧ (∀ w ∈ wsL_law, w.before #[Value.ref b] s = true) ∧ va_X b L xs s s.heap ∧ b < s.heap.size ∧ l.stackTraces = false
abbrev LLo (b a1 a2 q : Nat) (i : Int32) : List (Nat × Value) := [(0, .ref b), (1, .ref a1), (2, .ref a2), (3, .ref q), (4, .int i)]
def b01 (x : Int32) : Int32 := if x = 0 then 0 else 1
theorem l_cmp0 {x y : Int64} (h : x = y) : lg_cmp x y = 0 := by
  subst h
  unfold lg_cmp
  rw [if_neg (fun z => absurd (Int64.lt_iff_toInt_lt.mp z) (Int.lt_irrefl _)), if_pos rfl]
theorem xC1 : ∀ co : Nat, xC co ≤ 1 | 0 => Nat.zero_le _ | _ + 1 => Nat.le_refl _
theorem xS6 : ∀ co : Nat, xS co ≤ 6 | 0 => Nat.zero_le _ | _ + 1 => Nat.le_refl _
theorem mW_A {md : Nat → Nat} {cI cZ : ClassId} {M : St} (h : va_D (mA md) (mW md cI cZ M)) : ∀ (k : Nat) (x : Nat × va_E), (mW md cI cZ M)[k]? = some x → mA md x.1 := h.2
theorem bW_A {ad : Nat → Nat} {cI cZ : ClassId} {B : St} (h : va_D (bA ad) (bW ad cI cZ B)) : ∀ (k : Nat) (x : Nat × va_E), (bW ad cI cZ B)[k]? = some x → bA ad x.1 := h.2
theorem wW_A {ad : Nat → Nat} {cI cZ cJ : ClassId} {q : Nat} {B : St} {o : Nat → Int64} (h : va_D (wA ad q) (wW ad cI cZ cJ q B o)) : ∀ (k : Nat) (x : Nat × va_E), (wW ad cI cZ cJ q B o)[k]? = some x → wA ad q x.1 := h.2
section LROW
variable {p : Program} {l : Launch} {e : Env} {R : Room} {s : State} {m : MethodId} {args : Array Value} {below : List Frame} {meth : Method} {c : Code} {H : Heap} {locs : List Loc} {cells slots : Nat} {Q : State → Prop}
variable {pc : Nat} {ls : Array Slot} {rest st0 : List Value} {D : va_G} {cI cZ cJ : ClassId} {ad md : Nat → Nat} {q : Nat} {B M : St} {o : Nat → Int64} {b L : Nat} {xs : Nat → Int32}
/-- an int of the script -/
theorem l_ld {a1 a2 : Nat} {i : Int32} (hx : p.tables.exec = Jvm.exec) (hb : c.code = code) (hX : va_X b L xs s s.heap) (hbl : b < s.heap.size) (hS : va_S (fr s) s.heap H locs) (hl : lv_has ls 7 (LLo b a1 a2 q i)) (j : Int32) {jj : Int} (hj : Int32.ofInt jj = j) (hin : vp_in (i + j) L)
    (d0 : decode code pc = .ok (.aload_n 0, 1)) (d1 : decode code (pc + 1) = .ok (.iload 4, 2)) (d3 : decode code (pc + 3) = .ok (.iconst jj, 1)) (d4 : decode code (pc + 4) = .ok (.iadd, 1)) (d5 : decode code (pc + 5) = .ok (.iaload, 1))
    (kk : W p l e R s m args below meth c H locs cells slots Q (F0 m (pc + 6) ls (.int (xs (i + j).toNatClampNeg) :: rest))) : W p l e R s m args below meth c H locs cells slots Q (F0 m pc ls rest) := by
  refine lv_aload_n hx hb d0 rfl (lv_at hl 0 rfl) ?_
  refine lv_iload hx hb d1 (lv_at hl 4 rfl) ?_
  refine lv_iconst (v := j) hx hb d3 hj ?_
  refine lv_iadd hx hb d4 ?_
  exact va_sld hx hb hX hbl (Nat.not_le.mpr hbl) hS hin d5 kk
/-- x != 0 -/
theorem l_bool {x : Int32} (hx : p.tables.exec = Jvm.exec) (hb : c.code = code) (d0 : decode code pc = .ok (.ifCond .eq 7, 3)) (d3 : decode code (pc + 3) = .ok (.iconst 1, 1)) (d4 : decode code (pc + 4) = .ok (.goto 4, 3)) (d7 : decode code (pc + 7) = .ok (.iconst 0, 1))
    (kk : W p l e R s m args below meth c H locs cells slots Q (F0 m (pc + 8) ls (.int (b01 x) :: rest))) : W p l e R s m args below meth c H locs cells slots Q (F0 m pc ls (.int x :: rest)) := by
  refine lv_if_eq (tgt := pc + 7) hx hb d0 (by omega) (fun h => ?_) (fun h => ?_)
  · refine lv_iconst (v := 0) hx hb d7 (by decide) ?_
    unfold b01 at kk
    rw [if_pos h] at kk
    exact kk
  · refine lv_iconst (v := 1) hx hb d3 (by decide) ?_
    refine lv_goto (tgt := pc + 8) hx hb d4 (by omega) ?_
    unfold b01 at kk
    rw [if_neg h] at kk
    exact kk
/-- what the row of answers holds -/
theorem l_lald (hx : p.tables.exec = Jvm.exec) (hb : c.code = code) (hF : LFx D cI cZ cJ ad md q s) (hLS : LSt D cI cZ cJ ad md q s B M o H locs) (hdg : decode code pc = .ok (.laload, 1))
    (kk : W p l e R s m args below meth c H locs cells slots Q (F0 m (pc + 1) ls (.long (o 0) :: rest))) : W p l e R s m args below meth c H locs cells slots Q (F0 m pc ls (.int 0 :: .ref q :: rest)) :=
  va_lald hx hb hF.1.1 hLS.1 26 2 rfl rfl (show vp_in 0 1 from ix_ok (j := 0) (n := 1) (by omega) (by omega)) hdg kk
/-- a call of the law's own: the class's world goes on, the model's stays -/
theorem l_callW {y : MethodName} {bytes : ByteArray} {maxL n index fR lo : Nat} {ret : Option FieldType} {hh : List (Nat × Nat × Nat × Nat)} {ws : List Cond} {co : Nat} {B' : St} {o' : Nat → Int64} {r : Int32} (As rest : List Value) (CF : CallFix p m c code 7 s args wsL_law RL)
    (hM : Met l y ws { frames := fR, cells := xC co, slots := xS co, locals := lo } (va_Pc As (wPre D cI cZ cJ ad q B o)) (wQ D cI cZ cJ ad q B' o' r) (xC co) (xS co) (wA ad q)) (cw : vx_CSW R s args RL index y bytes maxL ret hh ws { frames := fR, cells := xC co, slots := xS co, locals := lo } (xC co) (xS co) n) (hF : LFx D cI cZ cJ ad md q s) (hLS : LSt D cI cZ cJ ad md q s B M o H locs)
    (hn : As.length = n) (hsz : ls.size = 7) (hst : st0 = As.reverse ++ rest) (hW : (rest.map fun v => v.category).sum ≤ 8) (hdg : decode code pc = .ok (.invokestatic index, 3)) (hc : cells + 1 ≤ R.cells) (hs : slots + 6 ≤ R.slots)
    (kk : ∀ H1 locs1, LSt D cI cZ cJ ad md q s B' M o' H1 locs1 → W p l e R s m args below meth c H1 locs1 (cells + 1) (slots + 6) Q (F0 m (pc + 3) ls (.int r :: rest))) : W p l e R s m args below meth c H locs cells slots Q (F0 m pc ls st0) := by
  obtain ⟨⟨hK, hNx, hXf, hNc⟩, ⟨hDb, hDm⟩, ⟨n1, n2, n3⟩, f1, f2, f3⟩ := hF
  obtain ⟨hPw, hPm, hS⟩ := hLS
  have hA : ∀ x, wA ad q x → fr s x := fun x h => h.elim (f1 x) (fun h => by rw [h]; exact f3)
  intro T hT X
  obtain ⟨v, st₀, t, T', Lc, h0, X', hL, e1, e2, ⟨hv, hb, hz, hkp⟩, st⟩ := vx_runSW CF hM cw ⟨wPre.blind, fun U hU hW => ⟨rfl, by rw [hU]; exact hPw, va_K.moved hW.alike hK, kNx.warm hW hNx, (xFx.at hXf hS hU hW).narrow hA, wNc.moved hW.alike hNc⟩⟩ rfl hn hsz hst (lv_room hW) hdg ⟨Nat.le_trans (Nat.add_le_add_left (xC1 co) _) hc, Nat.le_trans (Nat.add_le_add_left (xS6 co) _) hs⟩ T hT X
  cases hv
  rw [h0] at hz hkp
  have hPm1 : va_P D vwCl (mW md cI cZ M) T'.heap := hPm.kept (fun k x hk => by
    rw [e1]
    refine hkp x.1 (hPm k x hk).lt (fun z => ?_)
    have hm := mW_A (hDm M) k x hk
    rcases z with z | z
    · exact n3 _ z hm
    · rw [z] at hm; exact n2 hm)
  have hS1 : va_S (fr s) s.heap T'.heap (locs ++ Lc) := ⟨Nat.le_trans hS.1 (by rw [e1]; exact hz), fun x h1 h2 => by rw [e1, hkp x (Nat.lt_of_lt_of_le h1 hS.1) (fun z => h2 (hA x z))]; exact hS.2.1 x h1 h2, fun x hx => by
    rcases List.mem_append.mp hx with h | h
    · exact hS.2.2 x h
    · exact hA _ (hL x h)⟩
  obtain ⟨t2, a1, b1⟩ := (W.widen (cells := cells + xC co) (slots := slots + xS co) (k := cells + 1) (n := slots + 6) (Nat.add_le_add_left (xC1 co) _) (Nat.add_le_add_left (xS6 co) _) (kk T'.heap (locs ++ Lc) ⟨by rw [e1]; exact hb, hPm1, hS1⟩)) T' rfl X'
  exact ⟨t2, st t2 a1, b1⟩
/-- a call of the model: its world goes on, the class's stays -/
theorem l_callM {y : MethodName} {bytes : ByteArray} {maxL n index fR lo : Nat} {ret : Option FieldType} {ws : List Cond} {M' : St} {r : Int32} (As rest : List Value) (CF : CallFix p m c code 7 s args wsL_law RL)
    (hM : Met l y ws { frames := fR, cells := 0, slots := 0, locals := lo } (va_Pc (.ref (md 0) :: As) (kPre D cI cZ (mW md cI cZ M))) (kQi D cI cZ (mA md) (mW md cI cZ M') r) 0 0 (mA md)) (cw : CallW R s args RL RX7 index y bytes maxL ret ws { frames := fR, cells := 0, slots := 0, locals := lo } 0 0 n) (hF : LFx D cI cZ cJ ad md q s) (hLS : LSt D cI cZ cJ ad md q s B M o H locs)
    (hn : As.length = n) (hsz : ls.size = 7) (hst : st0 = As.reverse ++ .ref (md 0) :: rest) (hW : (rest.map fun v => v.category).sum ≤ 8) (hdg : decode code pc = .ok (.invokevirtual index, 3)) (hc : cells ≤ R.cells) (hs : slots ≤ R.slots)
    (kk : ∀ H1 locs1, LSt D cI cZ cJ ad md q s B M' o H1 locs1 → W p l e R s m args below meth c H1 locs1 cells slots Q (F0 m (pc + 3) ls (.int r :: rest))) : W p l e R s m args below meth c H locs cells slots Q (F0 m pc ls st0) := by
  obtain ⟨⟨hK, hNx, hXf, hNc⟩, ⟨hDb, hDm⟩, ⟨n1, n2, n3⟩, f1, f2, f3⟩ := hF
  obtain ⟨hPw, hPm, hS⟩ := hLS
  have hKK : kK D cI cZ s := ⟨hK.sub (tys' := kTy cI cZ) [0, 1] rfl, hNx⟩
  have hrc := va_recv hK hPm (ci := 6) (q0 := 0) rfl rfl
  intro T hT X
  obtain ⟨v, st₀, t, T', Lc, h0, X', hL, e1, e2, ⟨hv, hb, hz, hkp⟩, st⟩ := va_runV CF hM cw ⟨kPre.blind, hrc, fun U hU hW => ⟨rfl, by rw [hU]; exact hPm, kK.warm hW hKK⟩⟩ rfl hn hsz hst (lv_room hW) hdg ⟨hc, hs⟩ T hT X
  cases hv
  rw [h0] at hz hkp
  have hPw1 : va_P D vwCl (wW ad cI cZ cJ q B o) T'.heap := hPw.kept (fun k x hk => by
    rw [e1]
    refine hkp x.1 (hPw k x hk).lt (fun z => ?_)
    rcases wW_A (wDD hDb n1 B o) k x hk with h | h
    · exact n3 _ h z
    · rw [h] at z; exact n2 z)
  have hS1 : va_S (fr s) s.heap T'.heap (locs ++ Lc) := ⟨Nat.le_trans hS.1 (by rw [e1]; exact hz), fun x h1 h2 => by rw [e1, hkp x (Nat.lt_of_lt_of_le h1 hS.1) (fun z => h2 (f2 x z))]; exact hS.2.1 x h1 h2, fun x hx => by
    rcases List.mem_append.mp hx with h | h
    · exact hS.2.2 x h
    · exact f2 _ (hL x h)⟩
  obtain ⟨t2, a1, b1⟩ := kk T'.heap (locs ++ Lc) ⟨hPw1, by rw [e1]; exact hb, hS1⟩ T' rfl X'
  exact ⟨t2, st t2 a1, b1⟩
theorem l_callMv {y : MethodName} {bytes : ByteArray} {maxL n index fR lo : Nat} {ret : Option FieldType} {ws : List Cond} {M' : St} (As rest : List Value) (CF : CallFix p m c code 7 s args wsL_law RL)
    (hM : Met l y ws { frames := fR, cells := 0, slots := 0, locals := lo } (va_Pc (.ref (md 0) :: As) (kPre D cI cZ (mW md cI cZ M))) (kQv D cI cZ (mA md) (mW md cI cZ M')) 0 0 (mA md)) (cw : CallW R s args RL RX7 index y bytes maxL ret ws { frames := fR, cells := 0, slots := 0, locals := lo } 0 0 n) (hF : LFx D cI cZ cJ ad md q s) (hLS : LSt D cI cZ cJ ad md q s B M o H locs)
    (hn : As.length = n) (hsz : ls.size = 7) (hst : st0 = As.reverse ++ .ref (md 0) :: rest) (hW : (rest.map fun v => v.category).sum ≤ 8) (hdg : decode code pc = .ok (.invokevirtual index, 3)) (hc : cells ≤ R.cells) (hs : slots ≤ R.slots)
    (kk : ∀ H1 locs1, LSt D cI cZ cJ ad md q s B M' o H1 locs1 → W p l e R s m args below meth c H1 locs1 cells slots Q (F0 m (pc + 3) ls rest)) : W p l e R s m args below meth c H locs cells slots Q (F0 m pc ls st0) := by
  obtain ⟨⟨hK, hNx, hXf, hNc⟩, ⟨hDb, hDm⟩, ⟨n1, n2, n3⟩, f1, f2, f3⟩ := hF
  obtain ⟨hPw, hPm, hS⟩ := hLS
  have hKK : kK D cI cZ s := ⟨hK.sub (tys' := kTy cI cZ) [0, 1] rfl, hNx⟩
  have hrc := va_recv hK hPm (ci := 6) (q0 := 0) rfl rfl
  intro T hT X
  obtain ⟨v, st₀, t, T', Lc, h0, X', hL, e1, e2, ⟨hv, hb, hz, hkp⟩, st⟩ := va_runV CF hM cw ⟨kPre.blind, hrc, fun U hU hW => ⟨rfl, by rw [hU]; exact hPm, kK.warm hW hKK⟩⟩ rfl hn hsz hst (lv_room hW) hdg ⟨hc, hs⟩ T hT X
  cases hv
  rw [h0] at hz hkp
  have hPw1 : va_P D vwCl (wW ad cI cZ cJ q B o) T'.heap := hPw.kept (fun k x hk => by
    rw [e1]
    refine hkp x.1 (hPw k x hk).lt (fun z => ?_)
    rcases wW_A (wDD hDb n1 B o) k x hk with h | h
    · exact n3 _ h z
    · rw [h] at z; exact n2 z)
  have hS1 : va_S (fr s) s.heap T'.heap (locs ++ Lc) := ⟨Nat.le_trans hS.1 (by rw [e1]; exact hz), fun x h1 h2 => by rw [e1, hkp x (Nat.lt_of_lt_of_le h1 hS.1) (fun z => h2 (f2 x z))]; exact hS.2.1 x h1 h2, fun x hx => by
    rcases List.mem_append.mp hx with h | h
    · exact hS.2.2 x h
    · exact f2 _ (hL x h)⟩
  obtain ⟨t2, a1, b1⟩ := kk T'.heap (locs ++ Lc) ⟨hPw1, by rw [e1]; exact hb, hS1⟩ T' rfl X'
  exact ⟨t2, st t2 a1, b1⟩
/-- a call of the class's that never throws -/
theorem l_callB {y : MethodName} {bytes : ByteArray} {maxL n index fR lo : Nat} {ret : Option FieldType} {ws : List Cond} {B' : St} {r : Int32} (As rest : List Value) (CF : CallFix p m c code 7 s args wsL_law RL)
    (hM : Met l y ws { frames := fR, cells := 0, slots := 0, locals := lo } (va_Pc (.ref (ad 0) :: As) (kPre D cI cZ (bW ad cI cZ B))) (kQi D cI cZ (bA ad) (bW ad cI cZ B') r) 0 0 (bA ad)) (cw : CallW R s args RL RX6 index y bytes maxL ret ws { frames := fR, cells := 0, slots := 0, locals := lo } 0 0 n) (hF : LFx D cI cZ cJ ad md q s) (hLS : LSt D cI cZ cJ ad md q s B M o H locs)
    (hn : As.length = n) (hsz : ls.size = 7) (hst : st0 = As.reverse ++ .ref (ad 0) :: rest) (hW : (rest.map fun v => v.category).sum ≤ 8) (hdg : decode code pc = .ok (.invokevirtual index, 3)) (hc : cells ≤ R.cells) (hs : slots ≤ R.slots)
    (kk : ∀ H1 locs1, LSt D cI cZ cJ ad md q s B' M o H1 locs1 → W p l e R s m args below meth c H1 locs1 cells slots Q (F0 m (pc + 3) ls (.int r :: rest))) : W p l e R s m args below meth c H locs cells slots Q (F0 m pc ls st0) := by
  obtain ⟨⟨hK, hNx, hXf, hNc⟩, ⟨hDb, hDm⟩, ⟨n1, n2, n3⟩, f1, f2, f3⟩ := hF
  obtain ⟨hPw, hPm, hS⟩ := hLS
  have hKK : kK D cI cZ s := ⟨hK.sub (tys' := kTy cI cZ) [0, 1] rfl, hNx⟩
  have hPb : va_P D vwCl (bW ad cI cZ B) H := fun k x hk => hPw k x (by unfold wW; rw [List.getElem?_append_left (List.getElem?_eq_some_iff.mp hk).1]; exact hk)
  have hPo : va_P D vwCl [(q, .inl (cJ, 1, .inr (.inl o)))] H := hPw.sub [26] rfl
  have hrc := va_recv hK hPb (ci := 5) (q0 := 0) rfl rfl
  intro T hT X
  obtain ⟨v, st₀, t, T', Lc, h0, X', hL, e1, e2, ⟨hv, hb, hz, hkp⟩, st⟩ := va_runV CF hM cw ⟨kPre.blind, hrc, fun U hU hW => ⟨rfl, by rw [hU]; exact hPb, kK.warm hW hKK⟩⟩ rfl hn hsz hst (lv_room hW) hdg ⟨hc, hs⟩ T hT X
  cases hv
  rw [h0] at hz hkp
  have hPm1 : va_P D vwCl (mW md cI cZ M) T'.heap := hPm.kept (fun k x hk => by
    rw [e1]
    exact hkp x.1 (hPm k x hk).lt (fun z => n3 _ z (mW_A (hDm M) k x hk)))
  have hPw1 : va_P D vwCl (wW ad cI cZ cJ q B' o) T'.heap := by
    have hb2 : va_P D vwCl (bW ad cI cZ B') T'.heap := by rw [e1]; exact hb
    refine hb2.app (hPo.kept (fun k x hk => ?_))
    rw [e1]
    refine hkp x.1 (hPo k x hk).lt ?_
    have h5 := (List.getElem?_eq_some_iff.mp hk).1
    have h6 : k = 0 := by simpa using h5
    subst h6
    cases hk
    exact n1
  have hS1 : va_S (fr s) s.heap T'.heap (locs ++ Lc) := ⟨Nat.le_trans hS.1 (by rw [e1]; exact hz), fun x h1 h2 => by rw [e1, hkp x (Nat.lt_of_lt_of_le h1 hS.1) (fun z => h2 (f1 x z))]; exact hS.2.1 x h1 h2, fun x hx => by
    rcases List.mem_append.mp hx with h | h
    · exact hS.2.2 x h
    · exact f1 _ (hL x h)⟩
  obtain ⟨t2, a1, b1⟩ := kk T'.heap (locs ++ Lc) ⟨hPw1, hPm1, hS1⟩ T' rfl X'
  exact ⟨t2, st t2 a1, b1⟩
end LROW
theorem lw_swout {x : Int32} (h : ∀ k : Nat, k < 19 → ¬ x = nI k) : x.toInt < 0 ∨ 18 < x.toInt := by
  rcases Int.lt_or_le x.toInt 0 with q | q
  · exact Or.inl q
  · rcases Int.lt_or_le 18 x.toInt with q2 | q2
    · exact Or.inr q2
    · refine absurd ?_ (h x.toInt.toNat (by omega))
      refine Int32.toInt_inj.mp ?_
      rw [nI_toInt (by omega)]
      omega
theorem l_add (a j : Nat) : nI a + nI j = nI (a + j) := (Int32.ofNat_add a j).symm
theorem l_in {k L : Nat} (hk : k + 5 ≤ L) (hL : L ≤ 2560) : ∀ j : Nat, j < 5 → vp_in (nI k + nI j) L := fun j hj => by
  rw [l_add]
  exact vp_in_nI (by omega) (by omega)
theorem l_sub5 {L : Nat} (hL : L ≤ 2560) : (nI L - 5).toInt = (L : Int) - 5 := by
  rw [Int32.toInt_sub, nI_toInt (by omega), show (5 : Int32).toInt = 5 from rfl]
  unfold Int.bmod
  dsimp only
  split <;> omega
theorem l_go {k L : Nat} (hk : k ≤ L) (hL : L ≤ 2560) (h : ¬ nI L - 5 < nI k) : k + 5 ≤ L := by
  rw [Int32.lt_iff_toInt_lt, l_sub5 hL, nI_toInt (by omega)] at h
  omega
