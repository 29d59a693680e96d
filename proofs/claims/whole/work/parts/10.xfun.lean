/-! calls of methods that may throw; the face's methods as functions of their states, by program: the last number says which exception, 0 for none -/
def xB (F : Option (St × Int32 × Nat)) (f : St × Int32 → Option (St × Int32 × Nat)) : Option (St × Int32 × Nat) := F.bind (fun q => if q.2.2 = 0 then f (q.1, q.2.1) else some (q.1, 0, q.2.2))
section XROW
variable {p : Program} {l : Launch} {e : Env} {R : Room} {s : State} {m : MethodId} {args : Array Value} {below : List Frame} {meth : Method} {c : Code} {H : Heap} {locs : List Loc} {cells slots : Nat} {Q : State → Prop}
variable {cc : ByteArray} {pc : Nat} {ls : Array Slot} {rest st0 : List Value} {D : va_G} {cI cZ : ClassId} {A : Nat → Prop} {a : Nat} {H0 : Heap} {Wd : St → va_W} {S : St}
variable {y : MethodName} {bytes : ByteArray} {maxL nL n index : Nat} {ret : Option FieldType} {ws : List Cond} {rm : Room} {Ts : List Cond} {own C : String} {b : Addr} {As : List Value}

theorem r_callYi {F : Option (St × Int32 × Nat)} {f : St × Int32 → Option (St × Int32 × Nat)} {fr lo : Nat} {Qc : Array Value → State → Outcome → State → Prop} {So : St} {ro : Int32} {co : Nat} (As rest : List Value) (CF : CallFix p m c cc nL s args Ts own) (hM : ∀ S1 r k, F = some (S1, r, k) → vx_Met l y ws (xRm fr lo k) (va_Pc (.ref b :: As) (xPre D cI cZ A (Wd S))) (xQi D cI cZ A (Wd S1) r k) (xXC D cI cZ A (Wd S1) k) (xC k) (xS k) A) (cw : ∀ k, CallW R s args own C index y bytes maxL ret ws (xRm fr lo k) (xC k) (xS k) n) (hrc : ∃ cellB : Cell, H[b]? = some cellB ∧ cellB.vm.isStatics = false ∧ s.vm.findClass C = some cellB.cls) (hK : kK D cI cZ s) (hP : va_P D vwCl (Wd S) H) (hX : xFx A s) (hS : va_S A s.heap H locs) (hR : R.cells = xC co ∧ R.slots = xS co) (ht : ∀ x ∈ c.exceptionTable.toList, False) (hlk : meth.locks = false)
    (hn : As.length = n) (hsz : ls.size = nL) (hst : st0 = As.reverse ++ .ref b :: rest) (hW : (rest.map fun v => v.category).sum ≤ 8) (hE : xB F f = some (So, ro, co)) (hdg : decode cc pc = .ok (.invokevirtual index, 3))
    (kk : ∀ (S1 : St) (r : Int32) H1 locs1, f (S1, r) = some (So, ro, co) → va_P D vwCl (Wd S1) H1 → va_S A s.heap H1 locs1 → W p l e R s m args below meth c H1 locs1 0 0 (vx_MQ below Qc (xXC D cI cZ A (Wd So) co) args s (xC co) (xS co) A) (F0 m (pc + 3) ls (.int r :: rest))) : W p l e R s m args below meth c H locs 0 0 (vx_MQ below Qc (xXC D cI cZ A (Wd So) co) args s (xC co) (xS co) A) (F0 m pc ls st0) := by
  obtain ⟨⟨S1, r, k⟩, h1, h2⟩ := obn hE
  by_cases hk : k = 0
  · subst hk
    have h2 : f (S1, r) = some (So, ro, co) := h2
    intro T hT X
    rcases vx_runV CF (hM S1 r 0 h1) (cw 0) ⟨xPre.blind, hrc, xPre.at hK hP hX hS⟩ rfl hn hsz hst (lv_room hW) hdg ⟨Nat.zero_le _, Nat.zero_le _⟩ T hT X with ⟨v, st₀, t, T', L, h0, X', hL, e1, e2, ⟨_, hv, hb, hz, hkp⟩, st⟩ | ⟨q, st₀, t, T', L, E, ce, h0, X', hL, e1, e2, ⟨hne, _⟩, _⟩
    · cases hv
      rw [h0] at hz hkp
      obtain ⟨t2, a1, b1⟩ := kk S1 r T'.heap (locs ++ L) h2 (by rw [e1]; exact hb)
        ⟨Nat.le_trans hS.1 (by rw [e1]; exact hz), fun q h1 h2 => by rw [e1, hkp q (Nat.lt_of_lt_of_le h1 hS.1) h2]; exact hS.2.1 q h1 h2, fun q hq => by
          rcases List.mem_append.mp hq with h | h
          · exact hS.2.2 q h
          · exact hL q h⟩ T' rfl X'
      exact ⟨t2, st t2 a1, b1⟩
    · exact absurd rfl hne
  · have h3 : some (S1, (0 : Int32), k) = some (So, ro, co) := by
      have h4 : (if k = 0 then f (S1, r) else some (S1, 0, k)) = some (So, ro, co) := h2
      rw [if_neg hk] at h4
      exact h4
    cases h3
    intro T hT X
    rcases vx_runV CF (hM So r co h1) (cw co) ⟨xPre.blind, hrc, xPre.at hK hP hX hS⟩ rfl hn hsz hst (lv_room hW) hdg ⟨by rw [hR.1, Nat.zero_add]; exact Nat.le_refl _, by rw [hR.2, Nat.zero_add]; exact Nat.le_refl _⟩ T hT X with ⟨v, st₀, t, T', L, h0, X', hL, e1, e2, ⟨he, _⟩, st⟩ | ⟨q, st₀, t, T', L, E, ce, h0, X', hL, e1, e2, ⟨_, hEn, hb, hz, hkp⟩, hce, hcv, hcl, st⟩
    · exact absurd he hk
    · rw [h0] at hz hkp
      have hSS : va_S A s.heap T'.heap (locs ++ L) := ⟨Nat.le_trans hS.1 (by rw [e1]; exact hz), fun q h1 h2 => by rw [e1, hkp q (Nat.lt_of_lt_of_le h1 hS.1) h2]; exact hS.2.1 q h1 h2, fun q hq => by
          rcases List.mem_append.mp hq with h | h
          · exact hS.2.2 q h
          · exact hL q h⟩
      obtain ⟨t2, a1, b1⟩ := vx_out (Qc := Qc) (XC := xXC D cI cZ A (Wd So) co) (pc := pc) (ls := ls) (rest := rest) (mc := xC co) (ms := xS co) (free := A) (fun x hx => (ht x hx).elim) hlk (by rw [e1]; exact hce) hcv hcl
        (fun t9 ht9 _ => ⟨hk, hEn, by rw [ht9, e1]; exact hb, hSS.F ht9⟩) hSS.2.2 (Nat.le_of_eq (Nat.zero_add _)) (Nat.le_of_eq (Nat.zero_add _)) T' rfl X'
      exact ⟨t2, st.trans a1, b1⟩
theorem r_callYv {F : Option (St × Int32 × Nat)} {f : St × Int32 → Option (St × Int32 × Nat)} {fr lo : Nat} {Qc : Array Value → State → Outcome → State → Prop} {So : St} {ro : Int32} {co : Nat} (As rest : List Value) (CF : CallFix p m c cc nL s args Ts own) (hM : ∀ S1 r k, F = some (S1, r, k) → vx_Met l y ws (xRm fr lo k) (va_Pc (.ref b :: As) (xPre D cI cZ A (Wd S))) (xQv D cI cZ A (Wd S1) k) (xXC D cI cZ A (Wd S1) k) (xC k) (xS k) A) (cw : ∀ k, CallW R s args own C index y bytes maxL ret ws (xRm fr lo k) (xC k) (xS k) n) (hrc : ∃ cellB : Cell, H[b]? = some cellB ∧ cellB.vm.isStatics = false ∧ s.vm.findClass C = some cellB.cls) (hK : kK D cI cZ s) (hP : va_P D vwCl (Wd S) H) (hX : xFx A s) (hS : va_S A s.heap H locs) (hR : R.cells = xC co ∧ R.slots = xS co) (ht : ∀ x ∈ c.exceptionTable.toList, False) (hlk : meth.locks = false)
    (hn : As.length = n) (hsz : ls.size = nL) (hst : st0 = As.reverse ++ .ref b :: rest) (hW : (rest.map fun v => v.category).sum ≤ 8) (hE : xB F f = some (So, ro, co)) (hdg : decode cc pc = .ok (.invokevirtual index, 3))
    (kk : ∀ (S1 : St) (r : Int32) H1 locs1, f (S1, r) = some (So, ro, co) → va_P D vwCl (Wd S1) H1 → va_S A s.heap H1 locs1 → W p l e R s m args below meth c H1 locs1 0 0 (vx_MQ below Qc (xXC D cI cZ A (Wd So) co) args s (xC co) (xS co) A) (F0 m (pc + 3) ls rest)) : W p l e R s m args below meth c H locs 0 0 (vx_MQ below Qc (xXC D cI cZ A (Wd So) co) args s (xC co) (xS co) A) (F0 m pc ls st0) := by
  obtain ⟨⟨S1, r, k⟩, h1, h2⟩ := obn hE
  by_cases hk : k = 0
  · subst hk
    have h2 : f (S1, r) = some (So, ro, co) := h2
    intro T hT X
    rcases vx_runV CF (hM S1 r 0 h1) (cw 0) ⟨xPre.blind, hrc, xPre.at hK hP hX hS⟩ rfl hn hsz hst (lv_room hW) hdg ⟨Nat.zero_le _, Nat.zero_le _⟩ T hT X with ⟨v, st₀, t, T', L, h0, X', hL, e1, e2, ⟨_, hv, hb, hz, hkp⟩, st⟩ | ⟨q, st₀, t, T', L, E, ce, h0, X', hL, e1, e2, ⟨hne, _⟩, _⟩
    · cases hv
      rw [h0] at hz hkp
      obtain ⟨t2, a1, b1⟩ := kk S1 r T'.heap (locs ++ L) h2 (by rw [e1]; exact hb)
        ⟨Nat.le_trans hS.1 (by rw [e1]; exact hz), fun q h1 h2 => by rw [e1, hkp q (Nat.lt_of_lt_of_le h1 hS.1) h2]; exact hS.2.1 q h1 h2, fun q hq => by
          rcases List.mem_append.mp hq with h | h
          · exact hS.2.2 q h
          · exact hL q h⟩ T' rfl X'
      exact ⟨t2, st t2 a1, b1⟩
    · exact absurd rfl hne
  · have h3 : some (S1, (0 : Int32), k) = some (So, ro, co) := by
      have h4 : (if k = 0 then f (S1, r) else some (S1, 0, k)) = some (So, ro, co) := h2
      rw [if_neg hk] at h4
      exact h4
    cases h3
    intro T hT X
    rcases vx_runV CF (hM So r co h1) (cw co) ⟨xPre.blind, hrc, xPre.at hK hP hX hS⟩ rfl hn hsz hst (lv_room hW) hdg ⟨by rw [hR.1, Nat.zero_add]; exact Nat.le_refl _, by rw [hR.2, Nat.zero_add]; exact Nat.le_refl _⟩ T hT X with ⟨v, st₀, t, T', L, h0, X', hL, e1, e2, ⟨he, _⟩, st⟩ | ⟨q, st₀, t, T', L, E, ce, h0, X', hL, e1, e2, ⟨_, hEn, hb, hz, hkp⟩, hce, hcv, hcl, st⟩
    · exact absurd he hk
    · rw [h0] at hz hkp
      have hSS : va_S A s.heap T'.heap (locs ++ L) := ⟨Nat.le_trans hS.1 (by rw [e1]; exact hz), fun q h1 h2 => by rw [e1, hkp q (Nat.lt_of_lt_of_le h1 hS.1) h2]; exact hS.2.1 q h1 h2, fun q hq => by
          rcases List.mem_append.mp hq with h | h
          · exact hS.2.2 q h
          · exact hL q h⟩
      obtain ⟨t2, a1, b1⟩ := vx_out (Qc := Qc) (XC := xXC D cI cZ A (Wd So) co) (pc := pc) (ls := ls) (rest := rest) (mc := xC co) (ms := xS co) (free := A) (fun x hx => (ht x hx).elim) hlk (by rw [e1]; exact hce) hcv hcl
        (fun t9 ht9 _ => ⟨hk, hEn, by rw [ht9, e1]; exact hb, hSS.F ht9⟩) hSS.2.2 (Nat.le_of_eq (Nat.zero_add _)) (Nat.le_of_eq (Nat.zero_add _)) T' rfl X'
      exact ⟨t2, st.trans a1, b1⟩
end XROW
/-! the face's methods as functions of their states, by program out of the listing; the last number: which exception, 0 for none -/
def y6_pack (S : St) (v1 : Int32) : Option (St × Int32 × Nat) :=
(f6_isWithin S v1 1 99).bind fun q8 => (fun (S2 : St) (x1 : Int32) =>
if x1 = 0 then
(some (S2, (0 : Int32), 2))
else
(if (S2.1 1) < 12 then
((f3_add S2 v1).bind fun q7 => (fun (S6 : St) (x5 : Int32) =>
some (S6, x5, 0)) q7.1 q7.2)
else
(some (S2, (0 : Int32), 3)))) q8.1 q8.2
def y6_checkPackage (S : St) (v1 : Int32) : Option (St × Int32 × Nat) :=
(f6_isWithin S v1 0 ((S.1 1) - 1)).bind fun q4 => (fun (S2 : St) (x1 : Int32) =>
if x1 = 0 then
(some (S2, (0 : Int32), 1))
else
(some (S2, (0 : Int32), 0))) q4.1 q4.2
def y6_need_J37 (S : St) : Option (St × Int32 × Nat) :=
some (S, (0 : Int32), 2)
def y6_need (S : St) (v1 : Int32) (v2 : Int32) (v3 : Int32) (v4 : Int32) : Option (St × Int32 × Nat) :=
xB (y6_checkPackage S v1) fun q25 => (fun (S2 : St) (x1 : Int32) =>
xB (y6_checkPackage S2 v2) fun q24 => (fun (S4 : St) (x3 : Int32) =>
if v1 = v2 then
(y6_need_J37 S4)
else
((f6_isWithin S4 v3 ((-98)) 98).bind fun q23 => (fun (S7 : St) (x6 : Int32) =>
if x6 = 0 then
(y6_need_J37 S7)
else
((f6_isWithin S7 v4 v3 98).bind fun q22 => (fun (S10 : St) (x9 : Int32) =>
if x9 = 0 then
(y6_need_J37 S10)
else
((ldA S10 0 12 v2).bind fun x12 =>
(ldA S10 0 12 v1).bind fun x13 =>
(f6_isWithin S10 (x12 - x13) v3 v4).bind fun q21 => (fun (S15 : St) (x14 : Int32) =>
if x14 = 0 then
(some (S15, (0 : Int32), 3))
else
(if (S15.1 2) < 20 then
((f3_addNeed S15 v1 v2 v3 v4).bind fun q20 => (fun (S19 : St) (x18 : Int32) =>
some (S19, x18, 0)) q20.1 q20.2)
else
(some (S15, (0 : Int32), 3)))) q21.1 q21.2)) q22.1 q22.2)) q23.1 q23.2)) q24.1 q24.2) q25.1 q25.2
def y6_checkReviewer (S : St) (v1 : Int32) : Option (St × Int32 × Nat) :=
(f6_isWithin S v1 0 5).bind fun q4 => (fun (S2 : St) (x1 : Int32) =>
if x1 = 0 then
(some (S2, (0 : Int32), 1))
else
(some (S2, (0 : Int32), 0))) q4.1 q4.2
def y6_trust (S : St) (v1 : Int32) (v2 : Int32) : Option (St × Int32 × Nat) :=
xB (y6_checkReviewer S v1) fun q9 => (fun (S2 : St) (x1 : Int32) =>
(f6_isWithin S2 v2 0 9).bind fun q8 => (fun (S4 : St) (x3 : Int32) =>
if x3 = 0 then
(some (S4, (0 : Int32), 2))
else
((ldA S4 18 6 v1).bind fun x6 =>
(stA S4 18 6 v1 v2).bind fun S7 =>
some (S7, x6, 0))) q8.1 q8.2) q9.1 q9.2
def y6_patience (S : St) (v1 : Int32) : Option (St × Int32 × Nat) :=
(f6_isWithin S v1 1 100).bind fun q5 => (fun (S2 : St) (x1 : Int32) =>
if x1 = 0 then
(some (S2, (0 : Int32), 2))
else
((stF S2 6 v1).bind fun S4 =>
some (S4, S2.1 6, 0))) q5.1 q5.2
def y6_freeze_J33 (S : St) : Option (St × Int32 × Nat) :=
some (S, (0 : Int32), 2)
def y6_freeze (S : St) (v1 : Int32) (v2 : Int32) (v3 : Int32) : Option (St × Int32 × Nat) :=
(f6_isWithin S v1 1 4095).bind fun q16 => (fun (S2 : St) (x1 : Int32) =>
if x1 = 0 then
(y6_freeze_J33 S2)
else
((f6_isWithin S2 v2 0 1000).bind fun q15 => (fun (S5 : St) (x4 : Int32) =>
if x4 = 0 then
(y6_freeze_J33 S5)
else
((f6_isWithin S5 v3 v2 1000).bind fun q14 => (fun (S8 : St) (x7 : Int32) =>
if x7 = 0 then
(y6_freeze_J33 S8)
else
(if (S8.1 3) < 10 then
((f1_add S8 v1 v2 v3).bind fun q13 => (fun (S12 : St) (x11 : Int32) =>
some (S12, x11, 0)) q13.1 q13.2)
else
(some (S8, (0 : Int32), 3)))) q14.1 q14.2)) q15.1 q15.2)) q16.1 q16.2
def y6_raise_J93 (S : St) : Option (St × Int32 × Nat) :=
some (S, (0 : Int32), 3)
def y6_raise_J25 (S : St) : Option (St × Int32 × Nat) :=
some (S, (0 : Int32), 2)
def y6_raise (S : St) (v1 : Int32) (v2 : Int32) (v3 : Int32) : Option (St × Int32 × Nat) :=
xB (y6_checkPackage S v1) fun q27 => (fun (S2 : St) (x1 : Int32) =>
(f6_isWithin S2 v2 1 99).bind fun q26 => (fun (S4 : St) (x3 : Int32) =>
if x3 = 0 then
(y6_raise_J25 S4)
else
((f6_isWithin S4 v3 0 9).bind fun q25 => (fun (S7 : St) (x6 : Int32) =>
if x6 = 0 then
(y6_raise_J25 S7)
else
((ldA S7 0 12 v1).bind fun x9 =>
if x9 < v2 then
((f4_bitOfPackage S7 v1).bind fun q24 => (fun (S12 : St) (x11 : Int32) =>
if x11 = 0 then
(if 10 ≤ (S12.1 5) then
(y6_raise_J93 S12)
else
(if (S12.1 4) < 40 then
((f4_add S12 v1 v2 v3 (S12.1 0)).bind fun q23 => (fun (S17 : St) (x16 : Int32) =>
(f4_bitOf S17 x16).bind fun q22 => (fun (S19 : St) (x18 : Int32) =>
(f5_giveAnew S19 x18).bind fun S21 =>
some (S21, x16, 0)) q22.1 q22.2) q23.1 q23.2)
else
(y6_raise_J93 S12)))
else
(y6_raise_J93 S12)) q24.1 q24.2)
else
(some (S7, (0 : Int32), 2)))) q25.1 q25.2)) q26.1 q26.2) q27.1 q27.2
def y6_checkRaise (S : St) (v1 : Int32) : Option (St × Int32 × Nat) :=
(f6_isWithin S v1 0 ((S.1 4) - 1)).bind fun q4 => (fun (S2 : St) (x1 : Int32) =>
if x1 = 0 then
(some (S2, (0 : Int32), 1))
else
(some (S2, (0 : Int32), 0))) q4.1 q4.2
def y6_checkOpen (S : St) (v1 : Int32) : Option (St × Int32 × Nat) :=
xB (y6_checkRaise S v1) fun q5 => (fun (S2 : St) (x1 : Int32) =>
(ldA S2 13 40 v1).bind fun x3 =>
if x3 = 0 then
(some (S2, (0 : Int32), 0))
else
(some (S2, (0 : Int32), 3))) q5.1 q5.2
def y6_approve (S : St) (v1 : Int32) : Option (St × Int32 × Nat) :=
xB (y6_checkOpen S v1) fun q7 => (fun (S2 : St) (x1 : Int32) =>
(ldA S2 14 40 v1).bind fun x3 =>
if x3 = ((-1)) then
(some (S2, (0 : Int32), 3))
else
((ldA S2 15 40 v1).bind fun x5 =>
(stZ S2 15 40 v1 1).bind fun S6 =>
(bzI x5).bind fun w => some (S6, w, 0))) q7.1 q7.2
def y6_land (S : St) (v1 : Int32) (v2 : Int32) : Option (St × Int32 × Nat) :=
xB (y6_checkOpen S v1) fun q21 => (fun (S2 : St) (x1 : Int32) =>
(f4_groupOf S2 v1).bind fun q20 => (fun (S4 : St) (x3 : Int32) =>
(f6_isLandable S4 x3).bind fun q19 => (fun (S6 : St) (x5 : Int32) =>
if x5 = 0 then
(some (S6, (0 : Int32), 3))
else
((fJ_bitCount_0f7a4 S6 x3).bind fun q18 => (fun (S9 : St) (x8 : Int32) =>
if v2 = 0 then
(if x8 = 1 then
((f4_end S9 v1 2).bind fun S13 =>
some (S13, x8, 0))
else
((f2_part S9 x3).bind fun S15 =>
some (S15, x8, 0)))
else
((f4_release S9 x3).bind fun S17 =>
some (S17, x8, 0))) q18.1 q18.2)) q19.1 q19.2) q20.1 q20.2) q21.1 q21.2
def y6_close (S : St) (v1 : Int32) : Option (St × Int32 × Nat) :=
xB (y6_checkOpen S v1) fun q5 => (fun (S2 : St) (x1 : Int32) =>
(f2_leave S2 v1).bind fun S4 =>
some (S4, (0 : Int32), 0)) q5.1 q5.2
def y6_pass_L44b (k44 : Int32 → Int32 → St → Option (St × Int32 × Nat)) (v1 : Int32) (v2 : Int32) (S : St) : Option (St × Int32 × Nat) :=
if v1 ≤ v2 then
(some (S, S.1 0, 0))
else
((stF S 0 ((S.1 0) + 1)).bind fun S2 =>
(f2_joinSleepers S2 (S2.1 0)).bind fun S4 =>
k44 v1 (v2 + 1) S4)
def y6_pass_L44 : Nat → Int32 → Int32 → St → Option (St × Int32 × Nat)
  | 0, _, _, _ => none
  | n + 1, v1, v2, S => y6_pass_L44b  (y6_pass_L44  n) v1 v2 S
def y6_pass (S : St) (v1 : Int32) : Option (St × Int32 × Nat) :=
(f6_isWithin S v1 1 100).bind fun q9 => (fun (S6 : St) (x5 : Int32) =>
if x5 = 0 then
(some (S6, (0 : Int32), 2))
else
(if ((S6.1 0) + v1) ≤ 1000 then
(y6_pass_L44 2000 v1 0 S6)
else
(some (S6, (0 : Int32), 3)))) q9.1 q9.2
def y6_version (S : St) (v1 : Int32) : Option (St × Int32 × Nat) :=
xB (y6_checkPackage S v1) fun q4 => (fun (S2 : St) (x1 : Int32) =>
(ldA S2 0 12 v1).bind fun x3 =>
some (S2, x3, 0)) q4.1 q4.2
def y6_raiseOf (S : St) (v1 : Int32) (v2 : Int32) : Option (St × Int32 × Nat) :=
xB (y6_checkRaise S v1) fun q16 => (fun (S2 : St) (x1 : Int32) =>
if v2 = 0 then
((ldA S2 13 40 v1).bind fun x3 =>
some (S2, x3, 0))
else if v2 = 1 then
((ldA S2 9 40 v1).bind fun x4 =>
some (S2, x4, 0))
else if v2 = 2 then
((ldA S2 10 40 v1).bind fun x5 =>
some (S2, x5, 0))
else if v2 = 3 then
((ldA S2 14 40 v1).bind fun x6 =>
some (S2, x6, 0))
else if v2 = 4 then
((ldA S2 15 40 v1).bind fun x7 =>
if x7 = 0 then
(some (S2, 0, 0))
else
(some (S2, 1, 0)))
else if v2 = 5 then
((ldA S2 16 40 v1).bind fun x9 =>
some (S2, x9, 0))
else if v2 = 6 then
((f4_groupOf S2 v1).bind fun q15 => (fun (S11 : St) (x10 : Int32) =>
(fJ_bitCount_0f7a4 S11 x10).bind fun q14 => (fun (S13 : St) (x12 : Int32) =>
some (S13, x12, 0)) q14.1 q14.2) q15.1 q15.2)
else (some (S2, (0 : Int32), 2))) q16.1 q16.2
def y6_fails (S : St) (v1 : Int32) : Option (St × Int32 × Nat) :=
xB (y6_checkOpen S v1) fun q9 => (fun (S2 : St) (x1 : Int32) =>
(f4_groupOf S2 v1).bind fun q8 => (fun (S4 : St) (x3 : Int32) =>
(f4_failing S4 x3).bind fun q7 => (fun (S6 : St) (x5 : Int32) =>
some (S6, x5, 0)) q7.1 q7.2) q8.1 q8.2) q9.1 q9.2
def y6_canLand (S : St) (v1 : Int32) : Option (St × Int32 × Nat) :=
xB (y6_checkOpen S v1) fun q9 => (fun (S2 : St) (x1 : Int32) =>
(f4_groupOf S2 v1).bind fun q8 => (fun (S4 : St) (x3 : Int32) =>
(f6_isLandable S4 x3).bind fun q7 => (fun (S6 : St) (x5 : Int32) =>
(bzI x5).bind fun w => some (S6, w, 0)) q7.1 q7.2) q8.1 q8.2) q9.1 q9.2
def y6_load (S : St) (v1 : Int32) : Option (St × Int32 × Nat) :=
xB (y6_checkReviewer S v1) fun q6 => (fun (S2 : St) (x1 : Int32) =>
(f5_loadWithout S2 v1 ((-1))).bind fun q5 => (fun (S4 : St) (x3 : Int32) =>
some (S4, x3, 0)) q5.1 q5.2) q6.1 q6.2
def y6_fewest (S : St) (v1 : Int32) : Option (St × Int32 × Nat) :=
xB (y6_checkOpen S v1) fun q9 => (fun (S2 : St) (x1 : Int32) =>
(f4_bitOf S2 v1).bind fun q8 => (fun (S4 : St) (x3 : Int32) =>
(f0_byNeeds S4 x3).bind fun q7 => (fun (S6 : St) (x5 : Int32) =>
some (S6, x5, 0)) q7.1 q7.2) q8.1 q8.2) q9.1 q9.2
def y6_fewestAnew (S : St) (v1 : Int32) : Option (St × Int32 × Nat) :=
xB (y6_checkOpen S v1) fun q9 => (fun (S2 : St) (x1 : Int32) =>
(f4_bitOf S2 v1).bind fun q8 => (fun (S4 : St) (x3 : Int32) =>
(f0_byAllSets S4 x3).bind fun q7 => (fun (S6 : St) (x5 : Int32) =>
some (S6, x5, 0)) q7.1 q7.2) q8.1 q8.2) q9.1 q9.2
def y6_told (S : St) (v1 : Int32) (v2 : Int32) : Option (St × Int32 × Nat) :=
if 0 ≤ v2 then
(xB (y6_checkOpen S v1) fun q19 => (fun (S3 : St) (x2 : Int32) =>
if v2 = 0 then
((ldA S3 9 40 v1).bind fun x5 =>
some (S3, ((65 + x5).toUInt32 % 65536).toInt32, 0))
else
(if v2 = 1 then
((ldA S3 10 40 v1).bind fun x7 =>
(dvI x7 10).bind fun x8 =>
some (S3, ((48 + x8).toUInt32 % 65536).toInt32, 0))
else
(if v2 = 2 then
((ldA S3 10 40 v1).bind fun x10 =>
(rmI x10 10).bind fun x11 =>
some (S3, ((48 + x11).toUInt32 % 65536).toInt32, 0))
else
((f4_groupOf S3 v1).bind fun q18 => (fun (S13 : St) (x12 : Int32) =>
(fJ_bitCount_0f7a4 S13 x12).bind fun q17 => (fun (S15 : St) (x14 : Int32) =>
if (3 + (x14 - 1)) ≤ v2 then
(some (S15, 0, 0))
else
(some (S15, 43, 0))) q17.1 q17.2) q18.1 q18.2)))) q19.1 q19.2)
else
(some (S, (0 : Int32), 1))
