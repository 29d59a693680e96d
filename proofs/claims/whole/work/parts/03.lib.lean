/-! states, operations and rows for the two worlds: the class's and the model's -/
abbrev St : Type := (Nat → Int32) × (Nat → Nat → Int32)
def sF (S : St) (k : Nat) (v : Int32) : St := (fun j => if j = k then v else S.1 j, S.2)
def sA (S : St) (k : Nat) (i v : Int32) : St := (S.1, fun j => if j = k then upd (S.2 k) i.toNatClampNeg v else S.2 j)
def ldA (S : St) (k n : Nat) (i : Int32) : Option Int32 := if i < 0 ∨ n ≤ i.toNatClampNeg then none else some (S.2 k i.toNatClampNeg)
def stA (S : St) (k n : Nat) (i v : Int32) : Option St := if i < 0 ∨ n ≤ i.toNatClampNeg then none else some (sA S k i v)
def stZ (S : St) (k n : Nat) (i v : Int32) : Option St := if i < 0 ∨ n ≤ i.toNatClampNeg then none else some (sA S k i (vp_nar .boolean v))
def stF (S : St) (k : Nat) (v : Int32) : Option St := some (sF S k v)
def dvI (x y : Int32) : Option Int32 := if y = 0 then none else some (x / y)
def rmI (x y : Int32) : Option Int32 := if y = 0 then none else some (x - x / y * y)
def bzI (v : Int32) : Option Int32 := if v = 0 ∨ v = 1 then some v else none
theorem ldA_some {S : St} {k n : Nat} {i x : Int32} (h : ldA S k n i = some x) : vp_in i n ∧ S.2 k i.toNatClampNeg = x := by
  unfold ldA at h
  split at h
  · cases h
  · rename_i h1
    exact ⟨h1, Option.some.inj h⟩
theorem stA_some {S S1 : St} {k n : Nat} {i x : Int32} (h : stA S k n i x = some S1) : vp_in i n ∧ sA S k i x = S1 := by
  unfold stA at h
  split at h
  · cases h
  · rename_i h1
    exact ⟨h1, Option.some.inj h⟩
theorem stZ_some {S S1 : St} {k n : Nat} {i x : Int32} (h : stZ S k n i x = some S1) : vp_in i n ∧ sA S k i (vp_nar .boolean x) = S1 := by
  unfold stZ at h
  split at h
  · cases h
  · rename_i h1
    exact ⟨h1, Option.some.inj h⟩
theorem dvI_some {x y z : Int32} (h : dvI x y = some z) : ¬ y = 0 ∧ x / y = z := by
  unfold dvI at h
  split at h
  · cases h
  · rename_i h1
    exact ⟨h1, Option.some.inj h⟩
theorem rmI_some {x y z : Int32} (h : rmI x y = some z) : ¬ y = 0 ∧ x - x / y * y = z := by
  unfold rmI at h
  split at h
  · cases h
  · rename_i h1
    exact ⟨h1, Option.some.inj h⟩
theorem bzI_some {v w : Int32} (h : bzI v = some w) : v = w ∧ narrow .boolean (.int w) = .int w := by
  unfold bzI at h
  split at h
  · rename_i h1
    have h2 := Option.some.inj h
    subst h2
    rcases h1 with rfl | rfl
    · exact ⟨rfl, by decide +kernel⟩
    · exact ⟨rfl, by decide +kernel⟩
  · cases h
theorem obn {α β : Type} {o : Option α} {f : α → Option β} {b : β} (h : o.bind f = some b) : ∃ a, o = some a ∧ f a = some b := by
  cases o with
  | none => cases h
  | some a => exact ⟨a, rfl, h⟩
/-- the world's words in a method's start and end -/
abbrev kTy (cI cZ : ClassId) : List (ClassId × FieldType) := [(cI, .int), (cZ, .boolean)]
def kNx (U : State) : Prop := va_Nw (.methodLinkNest RX3 41 yX6_isWithin RX6) U ∧ va_Nw (.methodLinkNest RX1 25 yX6_isWithin RX6) U
theorem kNx.warm {s U : State} (hW : s.WarmedH U.vm) (h : kNx s) : kNx U := ⟨va_Nw.warmM hW h.1, va_Nw.warmM hW h.2⟩
def kK (D : va_G) (cI cZ : ClassId) (U : State) : Prop := va_K D vwCl (kTy cI cZ) U ∧ kNx U
theorem kK.warm {D : va_G} {cI cZ : ClassId} {s U : State} (hW : s.WarmedH U.vm) (h : kK D cI cZ s) : kK D cI cZ U := ⟨va_K.moved hW.alike h.1, kNx.warm hW h.2⟩
def kPre (D : va_G) (cI cZ : ClassId) (ws : va_W) (U : State) : Prop := va_P D vwCl ws U.heap ∧ kK D cI cZ U
def kQi (D : va_G) (cI cZ : ClassId) (A : Nat → Prop) (ws : va_W) (r : Int32) : Array Value → State → Outcome → State → Prop := fun _ st oc t => oc = .returned (some (.int r)) ∧ va_P D vwCl ws t.heap ∧ va_F A st t
def kQv (D : va_G) (cI cZ : ClassId) (A : Nat → Prop) (ws : va_W) : Array Value → State → Outcome → State → Prop := fun _ st oc t => oc = .returned none ∧ va_P D vwCl ws t.heap ∧ va_F A st t
theorem kPre.blind {D : va_G} {cI cZ : ClassId} {ws : va_W} {av : List Value} : FrameBlind (va_Pc av (kPre D cI cZ ws)) := fun _ U _ _ q => ⟨q.1, q.2.1, kK.warm (s := U) (State.WarmedH.refl U) q.2.2⟩
section KROW
variable {p : Program} {l : Launch} {e : Env} {R : Room} {s : State} {m : MethodId} {args : Array Value} {below : List Frame} {meth : Method} {c : Code} {H : Heap} {locs : List Loc} {cells slots : Nat} {Q : State → Prop}
variable {cc : ByteArray} {pc : Nat} {ls : Array Slot} {rest st0 : List Value} {D : va_G} {cI cZ : ClassId} {A A1 : Nat → Prop} {a : Nat} {H0 : Heap} {α : Type} {out : α} {Wd : St → va_W} {S : St}
theorem r_iald {k n : Nat} {i : Int32} {f : Int32 → Option α} (hx : p.tables.exec = Jvm.exec) (hb : c.code = cc) (hK : kK D cI cZ s) (hP : va_P D vwCl (Wd S) H) (q0 : Nat) (ha : (Wd S)[q0]? = some (a, .inl (cI, n, .inl (S.2 k)))) (hE : (ldA S k n i).bind f = some out) (hdg : decode cc pc = .ok (.iaload, 1))
    (kk : ∀ x, f x = some out → W p l e R s m args below meth c H locs cells slots Q (F0 m (pc + 1) ls (.int x :: rest))) : W p l e R s m args below meth c H locs cells slots Q (F0 m pc ls (.int i :: .ref a :: rest)) := by
  obtain ⟨x, h1, h2⟩ := obn hE
  obtain ⟨h3, h4⟩ := ldA_some h1
  refine va_iald hx hb hK.1 hP q0 0 ha rfl h3 hdg ?_
  rw [h4]
  exact kk x h2
theorem r_zald {k n : Nat} {i : Int32} {f : Int32 → Option α} (hx : p.tables.exec = Jvm.exec) (hb : c.code = cc) (hK : kK D cI cZ s) (hP : va_P D vwCl (Wd S) H) (q0 : Nat) (ha : (Wd S)[q0]? = some (a, .inl (cZ, n, .inl (S.2 k)))) (hE : (ldA S k n i).bind f = some out) (hdg : decode cc pc = .ok (.baload, 1))
    (kk : ∀ x, f x = some out → W p l e R s m args below meth c H locs cells slots Q (F0 m (pc + 1) ls (.int x :: rest))) : W p l e R s m args below meth c H locs cells slots Q (F0 m pc ls (.int i :: .ref a :: rest)) := by
  obtain ⟨x, h1, h2⟩ := obn hE
  obtain ⟨h3, h4⟩ := ldA_some h1
  refine va_zald hx hb hK.1 hP q0 1 ha rfl h3 hdg ?_
  rw [h4]
  exact kk x h2
theorem r_iast {k n : Nat} {i x : Int32} {f : St → Option α} (hx : p.tables.exec = Jvm.exec) (hb : c.code = cc) (hDD : ∀ S, va_D A (Wd S)) (hK : kK D cI cZ s) (hP : va_P D vwCl (Wd S) H) (hS : va_S A H0 H locs) (q0 : Nat) (ha : (Wd S)[q0]? = some (a, .inl (cI, n, .inl (S.2 k)))) (hu : (Wd S).set q0 (a, .inl (cI, n, .inl (upd (S.2 k) i.toNatClampNeg x))) = Wd (sA S k i x)) (hE : (stA S k n i x).bind f = some out) (hdg : decode cc pc = .ok (.iastore, 1))
    (kk : ∀ S1 H1 locs1, f S1 = some out → va_P D vwCl (Wd S1) H1 → va_S A H0 H1 locs1 → W p l e R s m args below meth c H1 locs1 cells slots Q (F0 m (pc + 1) ls rest)) : W p l e R s m args below meth c H locs cells slots Q (F0 m pc ls (.int x :: .int i :: .ref a :: rest)) := by
  obtain ⟨S1, h1, h2⟩ := obn hE
  obtain ⟨h3, h4⟩ := stA_some h1
  refine va_iast hx hb hK.1 hP (hDD S) hS q0 0 ha rfl h3 hdg (fun H1 locs1 hP1 _ hS1 => ?_)
  rw [hu, h4] at hP1
  exact kk S1 H1 locs1 h2 hP1 hS1
theorem r_zast {k n : Nat} {i x : Int32} {f : St → Option α} (hx : p.tables.exec = Jvm.exec) (hb : c.code = cc) (hDD : ∀ S, va_D A (Wd S)) (hK : kK D cI cZ s) (hP : va_P D vwCl (Wd S) H) (hS : va_S A H0 H locs) (q0 : Nat) (ha : (Wd S)[q0]? = some (a, .inl (cZ, n, .inl (S.2 k)))) (hu : (Wd S).set q0 (a, .inl (cZ, n, .inl (upd (S.2 k) i.toNatClampNeg (vp_nar .boolean x)))) = Wd (sA S k i (vp_nar .boolean x))) (hE : (stZ S k n i x).bind f = some out) (hdg : decode cc pc = .ok (.bastore, 1))
    (kk : ∀ S1 H1 locs1, f S1 = some out → va_P D vwCl (Wd S1) H1 → va_S A H0 H1 locs1 → W p l e R s m args below meth c H1 locs1 cells slots Q (F0 m (pc + 1) ls rest)) : W p l e R s m args below meth c H locs cells slots Q (F0 m pc ls (.int x :: .int i :: .ref a :: rest)) := by
  obtain ⟨S1, h1, h2⟩ := obn hE
  obtain ⟨h3, h4⟩ := stZ_some h1
  refine va_zast hx hb hK.1 hP (hDD S) hS q0 1 ha rfl h3 hdg (fun H1 locs1 hP1 _ hS1 => ?_)
  rw [hu, h4] at hP1
  exact kk S1 H1 locs1 h2 hP1 hS1
theorem r_puti {own C : String} {T : u_T} {N ci index : Nat} {Ts : List Cond} {kf : Nat} {fs : List Value} {x : Int32} {f : St → Option α} (hx : p.tables.exec = Jvm.exec) (hb : c.code = cc) (hts : ∀ w ∈ Ts, w.before args s = true) (hin : ∀ w ∈ u_ws C T N, w ∈ Ts) (ty0 : Nat → FieldType) (hty : ∀ k, k < N → parseFieldDescriptor (T k).2.2.1 = some (ty0 k)) (hnm : ∀ a, a < N → ∀ b, b < N → a ≠ b → (T a).2.1 ≠ (T b).2.1) (hown : s.vm.findClass own = some m.cls)
    (hDD : ∀ S, va_D A (Wd S)) (hK : kK D cI cZ s) (hP : va_P D vwCl (Wd S) H) (hS : va_S A H0 H locs) (q0 : Nat) (he : (Wd S)[q0]? = some (a, .inr (ci, fs))) (hc : vwCl[ci]? = some (C, T, N)) (k : Nat) (hk : k < N) (hlink : (Cond.fieldLink own index C (T k).2.1 (T k).2.2.1).before args s = true) (hC : (T k).1 = C) (hfin : (T k).2.2.2 = false) (hd : parseFieldDescriptor (T k).2.2.1 = some .int) (hl : k < fs.length)
    (hu : (Wd S).set q0 (a, .inr (ci, fs.set k (.int x))) = Wd (sF S kf x)) (hE : (stF S kf x).bind f = some out) (hdg : decode cc pc = .ok (.putfield index, 3))
    (kk : ∀ S1 H1 locs1, f S1 = some out → va_P D vwCl (Wd S1) H1 → va_S A H0 H1 locs1 → W p l e R s m args below meth c H1 locs1 cells slots Q (F0 m (pc + 3) ls rest)) : W p l e R s m args below meth c H locs cells slots Q (F0 m pc ls (.int x :: .ref a :: rest)) := by
  obtain ⟨S1, h1, h2⟩ := obn hE
  have h4 : sF S kf x = S1 := Option.some.inj h1
  refine va_put (ty := .int) hx hb hts hin ty0 hty hnm hown hK.1 hP (hDD S) hS q0 he hc k hk hlink (by rw [hC]; exact fun _ h9 => h9) hfin hd rfl rfl hl hdg (fun H1 locs1 hP1 _ hS1 => ?_)
  rw [hu, h4] at hP1
  exact kk S1 H1 locs1 h2 hP1 hS1
theorem r_idiv {x y : Int32} {f : Int32 → Option α} (hx : p.tables.exec = Jvm.exec) (hb : c.code = cc) (hE : (dvI x y).bind f = some out) (hdg : decode cc pc = .ok (.idiv, 1))
    (kk : ∀ z, f z = some out → W p l e R s m args below meth c H locs cells slots Q (F0 m (pc + 1) ls (.int z :: rest))) : W p l e R s m args below meth c H locs cells slots Q (F0 m pc ls (.int y :: .int x :: rest)) := by
  obtain ⟨z, h1, h2⟩ := obn hE
  obtain ⟨h3, h4⟩ := dvI_some h1
  refine lv_idiv hx hb hdg h3 ?_
  rw [h4]
  exact kk z h2
theorem r_irem {x y : Int32} {f : Int32 → Option α} (hx : p.tables.exec = Jvm.exec) (hb : c.code = cc) (hE : (rmI x y).bind f = some out) (hdg : decode cc pc = .ok (.irem, 1))
    (kk : ∀ z, f z = some out → W p l e R s m args below meth c H locs cells slots Q (F0 m (pc + 1) ls (.int z :: rest))) : W p l e R s m args below meth c H locs cells slots Q (F0 m pc ls (.int y :: .int x :: rest)) := by
  obtain ⟨z, h1, h2⟩ := obn hE
  obtain ⟨h3, h4⟩ := rmI_some h1
  refine lv_irem hx hb hdg h3 ?_
  rw [h4]
  exact kk z h2
theorem ifE {α : Type} {c : Prop} [Decidable c] {a b : Option α} {o : α} {X Y : Prop} (hE : (if c then a else b) = some o) (kt : c → a = some o → X) (kf : ¬ c → b = some o → Y) : (c → X) ∧ (¬ c → Y) := ⟨fun h => kt h (by rw [if_pos h] at hE; exact hE), fun h => kf h (by rw [if_neg h] at hE; exact hE)⟩
theorem r_if_eq {x : Int32} {off : Int} {tgt : Nat} {a1 a2 : Option α} (hx : p.tables.exec = Jvm.exec) (hb : c.code = cc) (hdg : decode cc pc = .ok (.ifCond .eq off, 3)) (ht : (pc : Int) + off = (tgt : Int)) (hE : (if x = 0 then a1 else a2) = some out)
    (kt : x = 0 → a1 = some out → W p l e R s m args below meth c H locs cells slots Q (F0 m (tgt) ls rest)) (kf : ¬ x = 0 → a2 = some out → W p l e R s m args below meth c H locs cells slots Q (F0 m (pc + 3) ls rest)) : W p l e R s m args below meth c H locs cells slots Q (F0 m pc ls (.int x :: rest)) := lv_if_eq hx hb hdg ht (fun h => kt h (by rw [if_pos h] at hE; exact hE)) (fun h => kf h (by rw [if_neg h] at hE; exact hE))
theorem r_if_ne {x : Int32} {off : Int} {tgt : Nat} {a1 a2 : Option α} (hx : p.tables.exec = Jvm.exec) (hb : c.code = cc) (hdg : decode cc pc = .ok (.ifCond .ne off, 3)) (ht : (pc : Int) + off = (tgt : Int)) (hE : (if x = 0 then a1 else a2) = some out)
    (kt : x = 0 → a1 = some out → W p l e R s m args below meth c H locs cells slots Q (F0 m (pc + 3) ls rest)) (kf : ¬ x = 0 → a2 = some out → W p l e R s m args below meth c H locs cells slots Q (F0 m (tgt) ls rest)) : W p l e R s m args below meth c H locs cells slots Q (F0 m pc ls (.int x :: rest)) := lv_if_ne hx hb hdg ht (fun h => kf h (by rw [if_neg h] at hE; exact hE)) (fun h => kt h (by rw [if_pos h] at hE; exact hE))
theorem r_if_lt {x : Int32} {off : Int} {tgt : Nat} {a1 a2 : Option α} (hx : p.tables.exec = Jvm.exec) (hb : c.code = cc) (hdg : decode cc pc = .ok (.ifCond .lt off, 3)) (ht : (pc : Int) + off = (tgt : Int)) (hE : (if x < 0 then a1 else a2) = some out)
    (kt : x < 0 → a1 = some out → W p l e R s m args below meth c H locs cells slots Q (F0 m (tgt) ls rest)) (kf : ¬ x < 0 → a2 = some out → W p l e R s m args below meth c H locs cells slots Q (F0 m (pc + 3) ls rest)) : W p l e R s m args below meth c H locs cells slots Q (F0 m pc ls (.int x :: rest)) := lv_if_lt hx hb hdg ht (fun h => kt h (by rw [if_pos h] at hE; exact hE)) (fun h => kf h (by rw [if_neg h] at hE; exact hE))
theorem r_if_ge {x : Int32} {off : Int} {tgt : Nat} {a1 a2 : Option α} (hx : p.tables.exec = Jvm.exec) (hb : c.code = cc) (hdg : decode cc pc = .ok (.ifCond .ge off, 3)) (ht : (pc : Int) + off = (tgt : Int)) (hE : (if 0 ≤ x then a1 else a2) = some out)
    (kt : 0 ≤ x → a1 = some out → W p l e R s m args below meth c H locs cells slots Q (F0 m (tgt) ls rest)) (kf : ¬ 0 ≤ x → a2 = some out → W p l e R s m args below meth c H locs cells slots Q (F0 m (pc + 3) ls rest)) : W p l e R s m args below meth c H locs cells slots Q (F0 m pc ls (.int x :: rest)) := lv_if_ge hx hb hdg ht (fun h => kt h (by rw [if_pos h] at hE; exact hE)) (fun h => kf h (by rw [if_neg h] at hE; exact hE))
theorem r_if_gt {x : Int32} {off : Int} {tgt : Nat} {a1 a2 : Option α} (hx : p.tables.exec = Jvm.exec) (hb : c.code = cc) (hdg : decode cc pc = .ok (.ifCond .gt off, 3)) (ht : (pc : Int) + off = (tgt : Int)) (hE : (if 0 < x then a1 else a2) = some out)
    (kt : 0 < x → a1 = some out → W p l e R s m args below meth c H locs cells slots Q (F0 m (tgt) ls rest)) (kf : ¬ 0 < x → a2 = some out → W p l e R s m args below meth c H locs cells slots Q (F0 m (pc + 3) ls rest)) : W p l e R s m args below meth c H locs cells slots Q (F0 m pc ls (.int x :: rest)) := lv_if_gt hx hb hdg ht (fun h => kt h (by rw [if_pos h] at hE; exact hE)) (fun h => kf h (by rw [if_neg h] at hE; exact hE))
theorem r_if_le {x : Int32} {off : Int} {tgt : Nat} {a1 a2 : Option α} (hx : p.tables.exec = Jvm.exec) (hb : c.code = cc) (hdg : decode cc pc = .ok (.ifCond .le off, 3)) (ht : (pc : Int) + off = (tgt : Int)) (hE : (if x ≤ 0 then a1 else a2) = some out)
    (kt : x ≤ 0 → a1 = some out → W p l e R s m args below meth c H locs cells slots Q (F0 m (tgt) ls rest)) (kf : ¬ x ≤ 0 → a2 = some out → W p l e R s m args below meth c H locs cells slots Q (F0 m (pc + 3) ls rest)) : W p l e R s m args below meth c H locs cells slots Q (F0 m pc ls (.int x :: rest)) := lv_if_le hx hb hdg ht (fun h => kt h (by rw [if_pos h] at hE; exact hE)) (fun h => kf h (by rw [if_neg h] at hE; exact hE))
theorem r_icmp_eq {x y : Int32} {off : Int} {tgt : Nat} {a1 a2 : Option α} (hx : p.tables.exec = Jvm.exec) (hb : c.code = cc) (hdg : decode cc pc = .ok (.if_icmp .eq off, 3)) (ht : (pc : Int) + off = (tgt : Int)) (hE : (if x = y then a1 else a2) = some out)
    (kt : x = y → a1 = some out → W p l e R s m args below meth c H locs cells slots Q (F0 m (tgt) ls rest)) (kf : ¬ x = y → a2 = some out → W p l e R s m args below meth c H locs cells slots Q (F0 m (pc + 3) ls rest)) : W p l e R s m args below meth c H locs cells slots Q (F0 m pc ls (.int y :: .int x :: rest)) := lv_icmp_eq hx hb hdg ht (fun h => kt h (by rw [if_pos h] at hE; exact hE)) (fun h => kf h (by rw [if_neg h] at hE; exact hE))
theorem r_icmp_ne {x y : Int32} {off : Int} {tgt : Nat} {a1 a2 : Option α} (hx : p.tables.exec = Jvm.exec) (hb : c.code = cc) (hdg : decode cc pc = .ok (.if_icmp .ne off, 3)) (ht : (pc : Int) + off = (tgt : Int)) (hE : (if x = y then a1 else a2) = some out)
    (kt : x = y → a1 = some out → W p l e R s m args below meth c H locs cells slots Q (F0 m (pc + 3) ls rest)) (kf : ¬ x = y → a2 = some out → W p l e R s m args below meth c H locs cells slots Q (F0 m (tgt) ls rest)) : W p l e R s m args below meth c H locs cells slots Q (F0 m pc ls (.int y :: .int x :: rest)) := lv_icmp_ne hx hb hdg ht (fun h => kf h (by rw [if_neg h] at hE; exact hE)) (fun h => kt h (by rw [if_pos h] at hE; exact hE))
theorem r_icmp_lt {x y : Int32} {off : Int} {tgt : Nat} {a1 a2 : Option α} (hx : p.tables.exec = Jvm.exec) (hb : c.code = cc) (hdg : decode cc pc = .ok (.if_icmp .lt off, 3)) (ht : (pc : Int) + off = (tgt : Int)) (hE : (if x < y then a1 else a2) = some out)
    (kt : x < y → a1 = some out → W p l e R s m args below meth c H locs cells slots Q (F0 m (tgt) ls rest)) (kf : ¬ x < y → a2 = some out → W p l e R s m args below meth c H locs cells slots Q (F0 m (pc + 3) ls rest)) : W p l e R s m args below meth c H locs cells slots Q (F0 m pc ls (.int y :: .int x :: rest)) := lv_icmp_lt hx hb hdg ht (fun h => kt h (by rw [if_pos h] at hE; exact hE)) (fun h => kf h (by rw [if_neg h] at hE; exact hE))
theorem r_icmp_ge {x y : Int32} {off : Int} {tgt : Nat} {a1 a2 : Option α} (hx : p.tables.exec = Jvm.exec) (hb : c.code = cc) (hdg : decode cc pc = .ok (.if_icmp .ge off, 3)) (ht : (pc : Int) + off = (tgt : Int)) (hE : (if y ≤ x then a1 else a2) = some out)
    (kt : y ≤ x → a1 = some out → W p l e R s m args below meth c H locs cells slots Q (F0 m (tgt) ls rest)) (kf : ¬ y ≤ x → a2 = some out → W p l e R s m args below meth c H locs cells slots Q (F0 m (pc + 3) ls rest)) : W p l e R s m args below meth c H locs cells slots Q (F0 m pc ls (.int y :: .int x :: rest)) := lv_icmp_ge hx hb hdg ht (fun h => kt h (by rw [if_pos h] at hE; exact hE)) (fun h => kf h (by rw [if_neg h] at hE; exact hE))
theorem r_icmp_gt {x y : Int32} {off : Int} {tgt : Nat} {a1 a2 : Option α} (hx : p.tables.exec = Jvm.exec) (hb : c.code = cc) (hdg : decode cc pc = .ok (.if_icmp .gt off, 3)) (ht : (pc : Int) + off = (tgt : Int)) (hE : (if y < x then a1 else a2) = some out)
    (kt : y < x → a1 = some out → W p l e R s m args below meth c H locs cells slots Q (F0 m (tgt) ls rest)) (kf : ¬ y < x → a2 = some out → W p l e R s m args below meth c H locs cells slots Q (F0 m (pc + 3) ls rest)) : W p l e R s m args below meth c H locs cells slots Q (F0 m pc ls (.int y :: .int x :: rest)) := lv_icmp_gt hx hb hdg ht (fun h => kt h (by rw [if_pos h] at hE; exact hE)) (fun h => kf h (by rw [if_neg h] at hE; exact hE))
theorem r_icmp_le {x y : Int32} {off : Int} {tgt : Nat} {a1 a2 : Option α} (hx : p.tables.exec = Jvm.exec) (hb : c.code = cc) (hdg : decode cc pc = .ok (.if_icmp .le off, 3)) (ht : (pc : Int) + off = (tgt : Int)) (hE : (if x ≤ y then a1 else a2) = some out)
    (kt : x ≤ y → a1 = some out → W p l e R s m args below meth c H locs cells slots Q (F0 m (tgt) ls rest)) (kf : ¬ x ≤ y → a2 = some out → W p l e R s m args below meth c H locs cells slots Q (F0 m (pc + 3) ls rest)) : W p l e R s m args below meth c H locs cells slots Q (F0 m pc ls (.int y :: .int x :: rest)) := lv_icmp_le hx hb hdg ht (fun h => kt h (by rw [if_pos h] at hE; exact hE)) (fun h => kf h (by rw [if_neg h] at hE; exact hE))
variable {y : MethodName} {bytes : ByteArray} {maxL nL n index : Nat} {ret : Option FieldType} {ws : List Cond} {rm : Room} {Ts : List Cond} {own C : String} {b : Addr} {As : List Value}
/-- behind a call that answers an int -/
theorem r_backi {F : Option (St × Int32)} {f : St × Int32 → Option α} {as : Array Value} (hr : ∀ S1 r, F = some (S1, r) → va_Run p l e R s m args below meth c H locs cells slots 0 0 (F0 m pc ls st0) rest (kQi D cI cZ A1 (Wd S1) r as) A1) (hS : va_S A H0 H locs) (hA : ∀ q, A1 q → A q) (hE : F.bind f = some out)
    (kk : ∀ (S1 : St) (r : Int32) H1 locs1, f (S1, r) = some out → va_P D vwCl (Wd S1) H1 → va_S A H0 H1 locs1 → W p l e R s m args below meth c H1 locs1 cells slots Q (F0 m (pc + 3) ls (.int r :: rest))) : W p l e R s m args below meth c H locs cells slots Q (F0 m pc ls st0) := by
  obtain ⟨⟨S1, r⟩, h1, h2⟩ := obn hE
  intro T hT X
  obtain ⟨v, st₀, t, T', L, h0, X', hL, e1, e2, ⟨hv, hb, hz, hk⟩, st⟩ := hr S1 r h1 T hT X
  cases hv
  rw [h0] at hz hk
  obtain ⟨t2, a1, b1⟩ := kk S1 r T'.heap (locs ++ L) h2 (by rw [e1]; exact hb)
    ⟨Nat.le_trans hS.1 (by rw [e1]; exact hz), fun q h1 h2 => by rw [e1, hk q (Nat.lt_of_lt_of_le h1 hS.1) (fun z => h2 (hA q z))]; exact hS.2.1 q h1 h2, fun q hq => by
      rcases List.mem_append.mp hq with h | h
      · exact hS.2.2 q h
      · exact hA _ (hL q h)⟩ T' rfl X'
  exact ⟨t2, st t2 a1, b1⟩
theorem r_backv {F : Option St} {f : St → Option α} {as : Array Value} (hr : ∀ S1, F = some S1 → va_Run p l e R s m args below meth c H locs cells slots 0 0 (F0 m pc ls st0) rest (kQv D cI cZ A1 (Wd S1) as) A1) (hS : va_S A H0 H locs) (hA : ∀ q, A1 q → A q) (hE : F.bind f = some out)
    (kk : ∀ (S1 : St) H1 locs1, f S1 = some out → va_P D vwCl (Wd S1) H1 → va_S A H0 H1 locs1 → W p l e R s m args below meth c H1 locs1 cells slots Q (F0 m (pc + 3) ls rest)) : W p l e R s m args below meth c H locs cells slots Q (F0 m pc ls st0) := by
  obtain ⟨S1, h1, h2⟩ := obn hE
  intro T hT X
  obtain ⟨v, st₀, t, T', L, h0, X', hL, e1, e2, ⟨hv, hb, hz, hk⟩, st⟩ := hr S1 h1 T hT X
  cases hv
  rw [h0] at hz hk
  obtain ⟨t2, a1, b1⟩ := kk S1 T'.heap (locs ++ L) h2 (by rw [e1]; exact hb)
    ⟨Nat.le_trans hS.1 (by rw [e1]; exact hz), fun q h1 h2 => by rw [e1, hk q (Nat.lt_of_lt_of_le h1 hS.1) (fun z => h2 (hA q z))]; exact hS.2.1 q h1 h2, fun q hq => by
      rcases List.mem_append.mp hq with h | h
      · exact hS.2.2 q h
      · exact hA _ (hL q h)⟩ T' rfl X'
  exact ⟨t2, st t2 a1, b1⟩
theorem kPre.at {Wd : St → va_W} {S : St} {av : List Value} (hK : kK D cI cZ s) (hP : va_P D vwCl (Wd S) H) : ∀ U : State, U.heap = H → s.WarmedH U.vm → va_Pc av (kPre D cI cZ (Wd S)) av.toArray U := fun U hU hW => ⟨rfl, by rw [hU]; exact hP, kK.warm hW hK⟩
theorem r_callVi {F : Option (St × Int32)} {f : St × Int32 → Option α} (As rest : List Value) (CF : CallFix p m c cc nL s args Ts own) (hM : ∀ S1 r, F = some (S1, r) → Met l y ws rm (va_Pc (.ref b :: As) (kPre D cI cZ (Wd S))) (kQi D cI cZ A1 (Wd S1) r) 0 0 A1) (cw : CallW R s args own C index y bytes maxL ret ws rm 0 0 n) (hrc : ∃ cellB : Cell, H[b]? = some cellB ∧ cellB.vm.isStatics = false ∧ s.vm.findClass C = some cellB.cls) (hK : kK D cI cZ s) (hP : va_P D vwCl (Wd S) H) (hS : va_S A H0 H locs) (hA : ∀ q, A1 q → A q)
    (hn : As.length = n) (hsz : ls.size = nL) (hst : st0 = As.reverse ++ .ref b :: rest) (hW : (rest.map fun v => v.category).sum ≤ 8) (hf : cells ≤ R.cells ∧ slots ≤ R.slots) (hE : F.bind f = some out) (hdg : decode cc pc = .ok (.invokevirtual index, 3))
    (kk : ∀ (S1 : St) (r : Int32) H1 locs1, f (S1, r) = some out → va_P D vwCl (Wd S1) H1 → va_S A H0 H1 locs1 → W p l e R s m args below meth c H1 locs1 cells slots Q (F0 m (pc + 3) ls (.int r :: rest))) : W p l e R s m args below meth c H locs cells slots Q (F0 m pc ls st0) :=
  r_backi (fun S1 r h => va_runV CF (hM S1 r h) cw ⟨kPre.blind, hrc, kPre.at hK hP⟩ rfl hn hsz hst (lv_room hW) hdg hf) hS hA hE kk
theorem r_callVv {F : Option St} {f : St → Option α} (As rest : List Value) (CF : CallFix p m c cc nL s args Ts own) (hM : ∀ S1, F = some S1 → Met l y ws rm (va_Pc (.ref b :: As) (kPre D cI cZ (Wd S))) (kQv D cI cZ A1 (Wd S1)) 0 0 A1) (cw : CallW R s args own C index y bytes maxL ret ws rm 0 0 n) (hrc : ∃ cellB : Cell, H[b]? = some cellB ∧ cellB.vm.isStatics = false ∧ s.vm.findClass C = some cellB.cls) (hK : kK D cI cZ s) (hP : va_P D vwCl (Wd S) H) (hS : va_S A H0 H locs) (hA : ∀ q, A1 q → A q)
    (hn : As.length = n) (hsz : ls.size = nL) (hst : st0 = As.reverse ++ .ref b :: rest) (hW : (rest.map fun v => v.category).sum ≤ 8) (hf : cells ≤ R.cells ∧ slots ≤ R.slots) (hE : F.bind f = some out) (hdg : decode cc pc = .ok (.invokevirtual index, 3))
    (kk : ∀ (S1 : St) H1 locs1, f S1 = some out → va_P D vwCl (Wd S1) H1 → va_S A H0 H1 locs1 → W p l e R s m args below meth c H1 locs1 cells slots Q (F0 m (pc + 3) ls rest)) : W p l e R s m args below meth c H locs cells slots Q (F0 m pc ls st0) :=
  r_backv (fun S1 h => va_runV CF (hM S1 h) cw ⟨kPre.blind, hrc, kPre.at hK hP⟩ rfl hn hsz hst (lv_room hW) hdg hf) hS hA hE kk
theorem r_callSi {F : Option (St × Int32)} {f : St × Int32 → Option α} (As rest : List Value) (CF : CallFix p m c cc nL s args Ts own) (hM : ∀ S1 r, F = some (S1, r) → Met l y ws rm (va_Pc As (kPre D cI cZ (Wd S))) (kQi D cI cZ A1 (Wd S1) r) 0 0 A1) (cw : CallB R s args own index y bytes maxL ret ws rm 0 0 n ∧ (Cond.static y).before args s = true) (hK : kK D cI cZ s) (hP : va_P D vwCl (Wd S) H) (hS : va_S A H0 H locs) (hA : ∀ q, A1 q → A q)
    (hn : As.length = n) (hsz : ls.size = nL) (hst : st0 = As.reverse ++ rest) (hW : (rest.map fun v => v.category).sum ≤ 8) (hf : cells ≤ R.cells ∧ slots ≤ R.slots) (hE : F.bind f = some out) (hdg : decode cc pc = .ok (.invokestatic index, 3))
    (kk : ∀ (S1 : St) (r : Int32) H1 locs1, f (S1, r) = some out → va_P D vwCl (Wd S1) H1 → va_S A H0 H1 locs1 → W p l e R s m args below meth c H1 locs1 cells slots Q (F0 m (pc + 3) ls (.int r :: rest))) : W p l e R s m args below meth c H locs cells slots Q (F0 m pc ls st0) :=
  r_backi (fun S1 r h => va_runS CF (hM S1 r h) cw ⟨kPre.blind, kPre.at hK hP⟩ rfl hn hsz hst (lv_room hW) hdg hf) hS hA hE kk
theorem r_callSN {F : Option (St × Int32)} {f : St × Int32 → Option α} {host : String} (As rest : List Value) (CF : CallFix p m c cc nL s args Ts own) (hM : ∀ S1 r, F = some (S1, r) → Met l y ws rm (va_Pc As (kPre D cI cZ (Wd S))) (kQi D cI cZ A1 (Wd S1) r) 0 0 A1) (cw : va_CN R s args own index y host bytes maxL ret ws rm 0 0 n ∧ (Cond.static y).before args s = true ∧ True) (hK : kK D cI cZ s) (hP : va_P D vwCl (Wd S) H) (hS : va_S A H0 H locs) (hA : ∀ q, A1 q → A q)
    (hn : As.length = n) (hsz : ls.size = nL) (hst : st0 = As.reverse ++ rest) (hW : (rest.map fun v => v.category).sum ≤ 8) (hf : cells ≤ R.cells ∧ slots ≤ R.slots) (hE : F.bind f = some out) (hdg : decode cc pc = .ok (.invokestatic index, 3))
    (kk : ∀ (S1 : St) (r : Int32) H1 locs1, f (S1, r) = some out → va_P D vwCl (Wd S1) H1 → va_S A H0 H1 locs1 → W p l e R s m args below meth c H1 locs1 cells slots Q (F0 m (pc + 3) ls (.int r :: rest))) : W p l e R s m args below meth c H locs cells slots Q (F0 m pc ls st0) :=
  r_backi (fun S1 r h => va_runSN CF (hM S1 r h) cw ⟨kPre.blind, kPre.at hK hP⟩ rfl hn hsz hst (lv_room hW) hdg hf) hS hA hE kk
/-- a method's ends -/
theorem k_iret {v r : Int32} {S1 : St} (hx : p.tables.exec = Jvm.exec) (hb : c.code = cc) (hr : meth.sig.returnType = some .int) (hlk : meth.locks = false) (hK : kK D cI cZ s) (hP : va_P D vwCl (Wd S) H) (hS : va_S A s.heap H locs) (hE : some (S, v) = some (S1, r)) (hdg : decode cc pc = .ok (.ireturn, 1)) : W p l e R s m args below meth c H locs cells slots (MQ below (kQi D cI cZ A (Wd S1) r) args s cells slots A) (F0 m pc ls [.int v]) := by
  cases hE
  exact W.iret hx hb hr (fun t ht hW => ⟨rfl, by rw [ht]; exact hP, hS.F ht⟩) hS.2.2 hdg hlk
theorem k_zret {v r : Int32} {S1 : St} {ty : FieldType} (hx : p.tables.exec = Jvm.exec) (hb : c.code = cc) (hr : meth.sig.returnType = some ty) (hlk : meth.locks = false) (hn : narrow ty (.int v) = .int v) (hK : kK D cI cZ s) (hP : va_P D vwCl (Wd S) H) (hS : va_S A s.heap H locs) (hE : some (S, v) = some (S1, r)) (hdg : decode cc pc = .ok (.ireturn, 1)) : W p l e R s m args below meth c H locs cells slots (MQ below (kQi D cI cZ A (Wd S1) r) args s cells slots A) (F0 m pc ls [.int v]) := by
  cases hE
  exact W.zret hx hb hr hn (fun t ht hW => ⟨rfl, by rw [ht]; exact hP, hS.F ht⟩) hS.2.2 hdg hlk
theorem k_bret {v r : Int32} {S1 : St} (hx : p.tables.exec = Jvm.exec) (hb : c.code = cc) (hr : meth.sig.returnType = some .boolean) (hlk : meth.locks = false) (hK : kK D cI cZ s) (hP : va_P D vwCl (Wd S) H) (hS : va_S A s.heap H locs) (hE : (bzI v).bind (fun w => some (S, w)) = some (S1, r)) (hdg : decode cc pc = .ok (.ireturn, 1)) : W p l e R s m args below meth c H locs cells slots (MQ below (kQi D cI cZ A (Wd S1) r) args s cells slots A) (F0 m pc ls [.int v]) := by
  obtain ⟨w, h1, h2⟩ := obn hE
  obtain ⟨h3, h4⟩ := bzI_some h1
  subst h3
  exact k_zret hx hb hr hlk h4 hK hP hS h2 hdg
theorem k_vret {S1 : St} (hx : p.tables.exec = Jvm.exec) (hb : c.code = cc) (hr : meth.sig.returnType = none) (hlk : meth.locks = false) (hK : kK D cI cZ s) (hP : va_P D vwCl (Wd S) H) (hS : va_S A s.heap H locs) (hE : some S = some S1) (hdg : decode cc pc = .ok (.return_, 1)) : W p l e R s m args below meth c H locs cells slots (MQ below (kQv D cI cZ A (Wd S1)) args s cells slots A) (F0 m pc ls []) := by
  cases hE
  exact W.vret hx hb hr (fun t ht hW => ⟨rfl, by rw [ht]; exact hP, hS.F ht⟩) hS.2.2 hdg hlk
end KROW
/-- a method's walk from its entry -/
theorem kMet_of {l : Launch} {D : va_G} {cI cZ : ClassId} {A : Nat → Prop} {y : MethodName} {ws ws' : List Cond} {rm : Room} {cc : ByteArray} {maxL : Nat} {ret : Option FieldType} {av : List Value} {ww : va_W} {Qc : Array Value → State → Outcome → State → Prop} (hy : plainName y.cls = true) (hw : ws = Cond.code y cc maxL ret :: ws') (hav : (lg_sl av).length ≤ maxL)
    (body : ∀ p e (s : State) m args below (meth : Method) (c : Code) (ls : Array Slot), p.tables.exec = Jvm.exec → c.code = cc → meth.sig.returnType = ret → c.maxLocals = maxL → s.vm.findClass y.cls = some m.cls → meth.locks = false → (∀ w ∈ ws, w.before args s = true) → kK D cI cZ s → va_P D vwCl ww s.heap → va_S A s.heap s.heap [] → lv_has ls maxL (lv_args 0 av) →
      W p l e (headSpec ws rm).room s m args below meth c s.heap [] 0 0 (MQ below Qc args s 0 0 A) (F0 m 0 ls [])) : Met l y ws rm (va_Pc av (kPre D cI cZ ww)) Qc 0 0 A := by
  refine Met.ofW hy hw ?_
  intro p e s m args below meth c s₁ B hml hv
  obtain ⟨rfl, hP, hK⟩ := hv
  rw [lg_entry_eq]
  exact body p e s m _ below meth c _ B.exec B.bytes B.returns hml (findClass_of_methodNamed B.named) B.notSynchronized (atoms_spec B.pre) hK hP va_S.rf (lv_entry av hav)

theorem sw_out6 {x : Int32} (h0 : ¬ x = 0) (h1 : ¬ x = 1) (h2 : ¬ x = 2) (h3 : ¬ x = 3) (h4 : ¬ x = 4) (h5 : ¬ x = 5) : x.toInt < 0 ∨ 5 < x.toInt := by
  have key : ∀ k : Int32, ¬ x = k → x.toInt ≠ k.toInt := fun k h e => h (Int32.toInt_inj.mp e)
  have a0 : x.toInt ≠ 0 := key 0 h0
  have a1 : x.toInt ≠ 1 := key 1 h1
  have a2 : x.toInt ≠ 2 := key 2 h2
  have a3 : x.toInt ≠ 3 := key 3 h3
  have a4 : x.toInt ≠ 4 := key 4 h4
  have a5 : x.toInt ≠ 5 := key 5 h5
  omega
theorem sw_out7 {x : Int32} (h0 : ¬ x = 0) (h1 : ¬ x = 1) (h2 : ¬ x = 2) (h3 : ¬ x = 3) (h4 : ¬ x = 4) (h5 : ¬ x = 5) (h6 : ¬ x = 6) : x.toInt < 0 ∨ 6 < x.toInt := by
  have key : ∀ k : Int32, ¬ x = k → x.toInt ≠ k.toInt := fun k h e => h (Int32.toInt_inj.mp e)
  have a0 : x.toInt ≠ 0 := key 0 h0
  have a1 : x.toInt ≠ 1 := key 1 h1
  have a2 : x.toInt ≠ 2 := key 2 h2
  have a3 : x.toInt ≠ 3 := key 3 h3
  have a4 : x.toInt ≠ 4 := key 4 h4
  have a5 : x.toInt ≠ 5 := key 5 h5
  have a6 : x.toInt ≠ 6 := key 6 h6
  omega
def mW (ad : Nat → Nat) (cI cZ : ClassId) (S : St) : va_W := [(ad 0, .inr (6, [.int (S.1 0), .int (S.1 1), .int (S.1 2), .ref (ad 1), .int (S.1 3), .ref (ad 2), .ref (ad 3), .ref (ad 4), .ref (ad 5), .ref (ad 6), .int (S.1 4), .int (S.1 5), .ref (ad 7), .ref (ad 8), .ref (ad 9), .int (S.1 6), .ref (ad 10), .ref (ad 11), .ref (ad 12), .ref (ad 13), .ref (ad 14), .ref (ad 15), .ref (ad 16), .ref (ad 17), .ref (ad 18)])), (ad 1, .inl (cI, 12, .inl (S.2 0))), (ad 2, .inl (cI, 20, .inl (S.2 1))), (ad 3, .inl (cI, 20, .inl (S.2 2))), (ad 4, .inl (cI, 20, .inl (S.2 3))), (ad 5, .inl (cI, 20, .inl (S.2 4))), (ad 6, .inl (cI, 6, .inl (S.2 5))), (ad 7, .inl (cI, 10, .inl (S.2 6))), (ad 8, .inl (cI, 10, .inl (S.2 7))), (ad 9, .inl (cI, 10, .inl (S.2 8))), (ad 10, .inl (cI, 40, .inl (S.2 9))), (ad 11, .inl (cI, 40, .inl (S.2 10))), (ad 12, .inl (cI, 40, .inl (S.2 11))), (ad 13, .inl (cI, 40, .inl (S.2 12))), (ad 14, .inl (cI, 40, .inl (S.2 13))), (ad 15, .inl (cI, 40, .inl (S.2 14))), (ad 16, .inl (cI, 40, .inl (S.2 15))), (ad 17, .inl (cZ, 40, .inl (S.2 16))), (ad 18, .inl (cI, 12, .inl (S.2 17)))]
def bW (ad : Nat → Nat) (cI cZ : ClassId) (S : St) : va_W := [(ad 0, .inr (5, [.ref (ad 1), .ref (ad 2), .ref (ad 3), .ref (ad 4), .ref (ad 5), .int (S.1 0)])), (ad 1, .inr (2, [.ref (ad 6), .ref (ad 7), .ref (ad 8), .ref (ad 9), .ref (ad 10), .ref (ad 11), .int (S.1 1), .int (S.1 2)])), (ad 2, .inr (0, [.ref (ad 12), .ref (ad 13), .ref (ad 14), .int (S.1 3)])), (ad 3, .inr (3, [.ref (ad 1), .ref (ad 15), .ref (ad 16), .ref (ad 17), .ref (ad 18), .ref (ad 19), .ref (ad 20), .ref (ad 21), .ref (ad 22), .ref (ad 23), .int (S.1 4), .int (S.1 5)])), (ad 4, .inr (4, [.ref (ad 3), .ref (ad 24)])), (ad 5, .inr (1, [.ref (ad 3), .ref (ad 4), .ref (ad 25), .int (S.1 6)])), (ad 6, .inl (cI, 12, .inl (S.2 0))), (ad 7, .inl (cI, 12, .inl (S.2 1))), (ad 8, .inl (cI, 20, .inl (S.2 2))), (ad 9, .inl (cI, 20, .inl (S.2 3))), (ad 10, .inl (cI, 20, .inl (S.2 4))), (ad 11, .inl (cI, 20, .inl (S.2 5))), (ad 12, .inl (cI, 10, .inl (S.2 6))), (ad 13, .inl (cI, 10, .inl (S.2 7))), (ad 14, .inl (cI, 10, .inl (S.2 8))), (ad 15, .inl (cI, 40, .inl (S.2 9))), (ad 16, .inl (cI, 40, .inl (S.2 10))), (ad 17, .inl (cI, 40, .inl (S.2 11))), (ad 18, .inl (cI, 40, .inl (S.2 12))), (ad 19, .inl (cI, 40, .inl (S.2 13))), (ad 20, .inl (cI, 40, .inl (S.2 14))), (ad 21, .inl (cZ, 40, .inl (S.2 15))), (ad 22, .inl (cI, 40, .inl (S.2 16))), (ad 23, .inl (cI, 10, .inl (S.2 17))), (ad 24, .inl (cI, 6, .inl (S.2 18))), (ad 25, .inl (cZ, 40, .inl (S.2 19)))]
def mA (ad : Nat → Nat) : Nat → Prop := fun q => ∃ k, k < 19 ∧ q = ad k
theorem mW_map (ad : Nat → Nat) (cI cZ : ClassId) (S : St) : (mW ad cI cZ S).map Prod.fst = (List.range 19).map ad := rfl
theorem mDD {ad : Nat → Nat} (h : ∀ i j, i < 19 → j < 19 → ad i = ad j → i = j) (cI cZ : ClassId) (S : St) : va_D (mA ad) (mW ad cI cZ S) := by
  have key : ∀ (k : Nat) (q : Nat × va_E), (mW ad cI cZ S)[k]? = some q → k < 19 ∧ q.1 = ad k := by
    intro k q hk
    have h1 : ((mW ad cI cZ S).map Prod.fst)[k]? = some q.1 := by rw [List.getElem?_map, hk]; rfl
    rw [mW_map, List.getElem?_map] at h1
    have h2 : k < 19 := by
      have h3 := (List.getElem?_eq_some_iff.mp hk).1
      exact h3
    rw [List.getElem?_range h2] at h1
    exact ⟨h2, (Option.some.inj h1).symm⟩
  refine ⟨fun i j x y hi hj hxy => ?_, fun k q hk => ?_⟩
  · obtain ⟨h1, h2⟩ := key i x hi
    obtain ⟨h3, h4⟩ := key j y hj
    exact h i j h1 h3 (by rw [← h2, ← h4, hxy])
  · obtain ⟨h1, h2⟩ := key k q hk
    exact ⟨k, h1, h2⟩
theorem mU0 (ad : Nat → Nat) (cI cZ : ClassId) (S : St) (i x : Int32) : (mW ad cI cZ S).set 1 (ad 1, .inl (cI, 12, .inl (upd (S.2 0) i.toNatClampNeg x))) = mW ad cI cZ (sA S 0 i x) := rfl
theorem mU1 (ad : Nat → Nat) (cI cZ : ClassId) (S : St) (i x : Int32) : (mW ad cI cZ S).set 2 (ad 2, .inl (cI, 20, .inl (upd (S.2 1) i.toNatClampNeg x))) = mW ad cI cZ (sA S 1 i x) := rfl
theorem mU2 (ad : Nat → Nat) (cI cZ : ClassId) (S : St) (i x : Int32) : (mW ad cI cZ S).set 3 (ad 3, .inl (cI, 20, .inl (upd (S.2 2) i.toNatClampNeg x))) = mW ad cI cZ (sA S 2 i x) := rfl
theorem mU3 (ad : Nat → Nat) (cI cZ : ClassId) (S : St) (i x : Int32) : (mW ad cI cZ S).set 4 (ad 4, .inl (cI, 20, .inl (upd (S.2 3) i.toNatClampNeg x))) = mW ad cI cZ (sA S 3 i x) := rfl
theorem mU4 (ad : Nat → Nat) (cI cZ : ClassId) (S : St) (i x : Int32) : (mW ad cI cZ S).set 5 (ad 5, .inl (cI, 20, .inl (upd (S.2 4) i.toNatClampNeg x))) = mW ad cI cZ (sA S 4 i x) := rfl
theorem mU5 (ad : Nat → Nat) (cI cZ : ClassId) (S : St) (i x : Int32) : (mW ad cI cZ S).set 6 (ad 6, .inl (cI, 6, .inl (upd (S.2 5) i.toNatClampNeg x))) = mW ad cI cZ (sA S 5 i x) := rfl
theorem mU6 (ad : Nat → Nat) (cI cZ : ClassId) (S : St) (i x : Int32) : (mW ad cI cZ S).set 7 (ad 7, .inl (cI, 10, .inl (upd (S.2 6) i.toNatClampNeg x))) = mW ad cI cZ (sA S 6 i x) := rfl
theorem mU7 (ad : Nat → Nat) (cI cZ : ClassId) (S : St) (i x : Int32) : (mW ad cI cZ S).set 8 (ad 8, .inl (cI, 10, .inl (upd (S.2 7) i.toNatClampNeg x))) = mW ad cI cZ (sA S 7 i x) := rfl
theorem mU8 (ad : Nat → Nat) (cI cZ : ClassId) (S : St) (i x : Int32) : (mW ad cI cZ S).set 9 (ad 9, .inl (cI, 10, .inl (upd (S.2 8) i.toNatClampNeg x))) = mW ad cI cZ (sA S 8 i x) := rfl
theorem mU9 (ad : Nat → Nat) (cI cZ : ClassId) (S : St) (i x : Int32) : (mW ad cI cZ S).set 10 (ad 10, .inl (cI, 40, .inl (upd (S.2 9) i.toNatClampNeg x))) = mW ad cI cZ (sA S 9 i x) := rfl
theorem mU10 (ad : Nat → Nat) (cI cZ : ClassId) (S : St) (i x : Int32) : (mW ad cI cZ S).set 11 (ad 11, .inl (cI, 40, .inl (upd (S.2 10) i.toNatClampNeg x))) = mW ad cI cZ (sA S 10 i x) := rfl
theorem mU11 (ad : Nat → Nat) (cI cZ : ClassId) (S : St) (i x : Int32) : (mW ad cI cZ S).set 12 (ad 12, .inl (cI, 40, .inl (upd (S.2 11) i.toNatClampNeg x))) = mW ad cI cZ (sA S 11 i x) := rfl
theorem mU12 (ad : Nat → Nat) (cI cZ : ClassId) (S : St) (i x : Int32) : (mW ad cI cZ S).set 13 (ad 13, .inl (cI, 40, .inl (upd (S.2 12) i.toNatClampNeg x))) = mW ad cI cZ (sA S 12 i x) := rfl
theorem mU13 (ad : Nat → Nat) (cI cZ : ClassId) (S : St) (i x : Int32) : (mW ad cI cZ S).set 14 (ad 14, .inl (cI, 40, .inl (upd (S.2 13) i.toNatClampNeg x))) = mW ad cI cZ (sA S 13 i x) := rfl
theorem mU14 (ad : Nat → Nat) (cI cZ : ClassId) (S : St) (i x : Int32) : (mW ad cI cZ S).set 15 (ad 15, .inl (cI, 40, .inl (upd (S.2 14) i.toNatClampNeg x))) = mW ad cI cZ (sA S 14 i x) := rfl
theorem mU15 (ad : Nat → Nat) (cI cZ : ClassId) (S : St) (i x : Int32) : (mW ad cI cZ S).set 16 (ad 16, .inl (cI, 40, .inl (upd (S.2 15) i.toNatClampNeg x))) = mW ad cI cZ (sA S 15 i x) := rfl
theorem mU16 (ad : Nat → Nat) (cI cZ : ClassId) (S : St) (i x : Int32) : (mW ad cI cZ S).set 17 (ad 17, .inl (cZ, 40, .inl (upd (S.2 16) i.toNatClampNeg x))) = mW ad cI cZ (sA S 16 i x) := rfl
theorem mU17 (ad : Nat → Nat) (cI cZ : ClassId) (S : St) (i x : Int32) : (mW ad cI cZ S).set 18 (ad 18, .inl (cI, 12, .inl (upd (S.2 17) i.toNatClampNeg x))) = mW ad cI cZ (sA S 17 i x) := rfl
def bA (ad : Nat → Nat) : Nat → Prop := fun q => ∃ k, k < 26 ∧ q = ad k
theorem bW_map (ad : Nat → Nat) (cI cZ : ClassId) (S : St) : (bW ad cI cZ S).map Prod.fst = (List.range 26).map ad := rfl
theorem bDD {ad : Nat → Nat} (h : ∀ i j, i < 26 → j < 26 → ad i = ad j → i = j) (cI cZ : ClassId) (S : St) : va_D (bA ad) (bW ad cI cZ S) := by
  have key : ∀ (k : Nat) (q : Nat × va_E), (bW ad cI cZ S)[k]? = some q → k < 26 ∧ q.1 = ad k := by
    intro k q hk
    have h1 : ((bW ad cI cZ S).map Prod.fst)[k]? = some q.1 := by rw [List.getElem?_map, hk]; rfl
    rw [bW_map, List.getElem?_map] at h1
    have h2 : k < 26 := by
      have h3 := (List.getElem?_eq_some_iff.mp hk).1
      exact h3
    rw [List.getElem?_range h2] at h1
    exact ⟨h2, (Option.some.inj h1).symm⟩
  refine ⟨fun i j x y hi hj hxy => ?_, fun k q hk => ?_⟩
  · obtain ⟨h1, h2⟩ := key i x hi
    obtain ⟨h3, h4⟩ := key j y hj
    exact h i j h1 h3 (by rw [← h2, ← h4, hxy])
  · obtain ⟨h1, h2⟩ := key k q hk
    exact ⟨k, h1, h2⟩
theorem bU0 (ad : Nat → Nat) (cI cZ : ClassId) (S : St) (i x : Int32) : (bW ad cI cZ S).set 6 (ad 6, .inl (cI, 12, .inl (upd (S.2 0) i.toNatClampNeg x))) = bW ad cI cZ (sA S 0 i x) := rfl
theorem bU1 (ad : Nat → Nat) (cI cZ : ClassId) (S : St) (i x : Int32) : (bW ad cI cZ S).set 7 (ad 7, .inl (cI, 12, .inl (upd (S.2 1) i.toNatClampNeg x))) = bW ad cI cZ (sA S 1 i x) := rfl
theorem bU2 (ad : Nat → Nat) (cI cZ : ClassId) (S : St) (i x : Int32) : (bW ad cI cZ S).set 8 (ad 8, .inl (cI, 20, .inl (upd (S.2 2) i.toNatClampNeg x))) = bW ad cI cZ (sA S 2 i x) := rfl
theorem bU3 (ad : Nat → Nat) (cI cZ : ClassId) (S : St) (i x : Int32) : (bW ad cI cZ S).set 9 (ad 9, .inl (cI, 20, .inl (upd (S.2 3) i.toNatClampNeg x))) = bW ad cI cZ (sA S 3 i x) := rfl
theorem bU4 (ad : Nat → Nat) (cI cZ : ClassId) (S : St) (i x : Int32) : (bW ad cI cZ S).set 10 (ad 10, .inl (cI, 20, .inl (upd (S.2 4) i.toNatClampNeg x))) = bW ad cI cZ (sA S 4 i x) := rfl
theorem bU5 (ad : Nat → Nat) (cI cZ : ClassId) (S : St) (i x : Int32) : (bW ad cI cZ S).set 11 (ad 11, .inl (cI, 20, .inl (upd (S.2 5) i.toNatClampNeg x))) = bW ad cI cZ (sA S 5 i x) := rfl
theorem bU6 (ad : Nat → Nat) (cI cZ : ClassId) (S : St) (i x : Int32) : (bW ad cI cZ S).set 12 (ad 12, .inl (cI, 10, .inl (upd (S.2 6) i.toNatClampNeg x))) = bW ad cI cZ (sA S 6 i x) := rfl
theorem bU7 (ad : Nat → Nat) (cI cZ : ClassId) (S : St) (i x : Int32) : (bW ad cI cZ S).set 13 (ad 13, .inl (cI, 10, .inl (upd (S.2 7) i.toNatClampNeg x))) = bW ad cI cZ (sA S 7 i x) := rfl
theorem bU8 (ad : Nat → Nat) (cI cZ : ClassId) (S : St) (i x : Int32) : (bW ad cI cZ S).set 14 (ad 14, .inl (cI, 10, .inl (upd (S.2 8) i.toNatClampNeg x))) = bW ad cI cZ (sA S 8 i x) := rfl
theorem bU9 (ad : Nat → Nat) (cI cZ : ClassId) (S : St) (i x : Int32) : (bW ad cI cZ S).set 15 (ad 15, .inl (cI, 40, .inl (upd (S.2 9) i.toNatClampNeg x))) = bW ad cI cZ (sA S 9 i x) := rfl
theorem bU10 (ad : Nat → Nat) (cI cZ : ClassId) (S : St) (i x : Int32) : (bW ad cI cZ S).set 16 (ad 16, .inl (cI, 40, .inl (upd (S.2 10) i.toNatClampNeg x))) = bW ad cI cZ (sA S 10 i x) := rfl
theorem bU11 (ad : Nat → Nat) (cI cZ : ClassId) (S : St) (i x : Int32) : (bW ad cI cZ S).set 17 (ad 17, .inl (cI, 40, .inl (upd (S.2 11) i.toNatClampNeg x))) = bW ad cI cZ (sA S 11 i x) := rfl
theorem bU12 (ad : Nat → Nat) (cI cZ : ClassId) (S : St) (i x : Int32) : (bW ad cI cZ S).set 18 (ad 18, .inl (cI, 40, .inl (upd (S.2 12) i.toNatClampNeg x))) = bW ad cI cZ (sA S 12 i x) := rfl
theorem bU13 (ad : Nat → Nat) (cI cZ : ClassId) (S : St) (i x : Int32) : (bW ad cI cZ S).set 19 (ad 19, .inl (cI, 40, .inl (upd (S.2 13) i.toNatClampNeg x))) = bW ad cI cZ (sA S 13 i x) := rfl
theorem bU14 (ad : Nat → Nat) (cI cZ : ClassId) (S : St) (i x : Int32) : (bW ad cI cZ S).set 20 (ad 20, .inl (cI, 40, .inl (upd (S.2 14) i.toNatClampNeg x))) = bW ad cI cZ (sA S 14 i x) := rfl
theorem bU15 (ad : Nat → Nat) (cI cZ : ClassId) (S : St) (i x : Int32) : (bW ad cI cZ S).set 21 (ad 21, .inl (cZ, 40, .inl (upd (S.2 15) i.toNatClampNeg x))) = bW ad cI cZ (sA S 15 i x) := rfl
theorem bU16 (ad : Nat → Nat) (cI cZ : ClassId) (S : St) (i x : Int32) : (bW ad cI cZ S).set 22 (ad 22, .inl (cI, 40, .inl (upd (S.2 16) i.toNatClampNeg x))) = bW ad cI cZ (sA S 16 i x) := rfl
theorem bU17 (ad : Nat → Nat) (cI cZ : ClassId) (S : St) (i x : Int32) : (bW ad cI cZ S).set 23 (ad 23, .inl (cI, 10, .inl (upd (S.2 17) i.toNatClampNeg x))) = bW ad cI cZ (sA S 17 i x) := rfl
theorem bU18 (ad : Nat → Nat) (cI cZ : ClassId) (S : St) (i x : Int32) : (bW ad cI cZ S).set 24 (ad 24, .inl (cI, 6, .inl (upd (S.2 18) i.toNatClampNeg x))) = bW ad cI cZ (sA S 18 i x) := rfl
theorem bU19 (ad : Nat → Nat) (cI cZ : ClassId) (S : St) (i x : Int32) : (bW ad cI cZ S).set 25 (ad 25, .inl (cZ, 40, .inl (upd (S.2 19) i.toNatClampNeg x))) = bW ad cI cZ (sA S 19 i x) := rfl
