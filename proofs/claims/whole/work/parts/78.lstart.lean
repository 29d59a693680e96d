/-! the law's start: the tables' words, both constructors, the row of answers -/
theorem st_t1 : Cond.laysStatic Bundle.tN "UNASSIGNED_STACK" Bundle.steD ∈ lw_tbl := by decide +kernel
theorem st_t2 : Cond.laysStatic Bundle.tN "SUPPRESSED_SENTINEL" Bundle.listD ∈ lw_tbl := by decide +kernel
theorem st_t3 : Cond.initialized Bundle.tN ∈ lw_tbl := by decide +kernel
theorem st_f1 : Cond.isRef (.static Bundle.tN "UNASSIGNED_STACK" Bundle.steD) ∈ flatC (Cond.and given_1 narrow_1) := by decide +kernel
theorem st_f2 : Cond.isRef (.static Bundle.tN "SUPPRESSED_SENTINEL" Bundle.listD) ∈ flatC (Cond.and given_1 narrow_1) := by decide +kernel
theorem st_s1 : ∀ q ∈ xStrs, Cond.stringRef RX6 q.1 q.2 ∈ lw_tbl := by decide +kernel
theorem st_s2 : ∀ q ∈ xStrs, Cond.exactly (.string RX6 q.1) "java/lang/String" ∈ flatC (Cond.and given_1 narrow_1) := by decide +kernel
theorem st_nc : ∀ z ∈ wPairs, Cond.not (.castable z.1 z.2) ∈ flatC (Cond.and given_1 narrow_1) := by decide +kernel
theorem st_ng : ∀ w ∈ xNg, w ∈ lw_tbl := by decide +kernel
theorem st_n1 : Cond.methodLinkNest RX3 41 yX6_isWithin RX6 ∈ lw_tbl := by decide +kernel
theorem st_n2 : Cond.methodLinkNest RX1 25 yX6_isWithin RX6 ∈ lw_tbl := by decide +kernel
theorem st_i1 : Cond.methodLinkNest RX6 9 yX3_init RX6 ∈ lw_tbl := by decide +kernel
theorem st_i2 : Cond.methodLinkNest RX6 18 yX1_init RX6 ∈ lw_tbl := by decide +kernel
theorem kNi.warm {s U : State} (hW : s.WarmedH U.vm) (h : kNi s) : kNi U := ⟨va_Nw.warmM hW h.1, va_Nw.warmM hW h.2⟩
theorem st_arr {args : Array Value} {s : State} {ty : FieldType} (h : (Cond.arrayClass ty).before args s = true) : ∃ cA : ClassId, ArrOfT s cA ty ∧ s.vm.findClass ("[" ++ ty.toString) = some cA := by
  obtain ⟨cA, kA, comp, h1, h2, h3⟩ := Cond.arrayClass_spec (args := args) (first := s) (o := none) (s := s) (idx := []) h
  exact ⟨cA, fun n z => ⟨fun k h => (by cases h), kA, h2, comp, h3⟩, h1⟩
theorem st_adr {A : Nat → Prop} {ad md : Nat → Nat} {q : Nat} {ws : va_W} (h : va_D A ws) (hm : ws.map Prod.fst = ((List.range 26).map ad ++ (List.range 19).map md) ++ [q]) :
    (∀ i j, i < 26 → j < 26 → ad i = ad j → i = j) ∧ (∀ i j, i < 19 → j < 19 → md i = md j → i = j) ∧ (¬ bA ad q ∧ ¬ mA md q ∧ ∀ x, bA ad x → ¬ mA md x) ∧ (∀ x, bA ad x → A x) ∧ (∀ x, mA md x → A x) ∧ A q := by
  have at' : ∀ (i a : Nat), (ws.map Prod.fst)[i]? = some a → ∃ e : va_E, ws[i]? = some (a, e) := fun i a hi => by
    rw [List.getElem?_map] at hi
    cases hw : ws[i]? with
    | none => rw [hw] at hi; cases hi
    | some x =>
      rw [hw] at hi
      cases hi
      exact ⟨x.2, rfl⟩
  have key : ∀ i j a : Nat, (ws.map Prod.fst)[i]? = some a → (ws.map Prod.fst)[j]? = some a → i = j := fun i j a hi hj => by
    obtain ⟨e, h1⟩ := at' i a hi
    obtain ⟨e2, h2⟩ := at' j a hj
    exact h.1 i j _ _ h1 h2 rfl
  have keyA : ∀ i a : Nat, (ws.map Prod.fst)[i]? = some a → A a := fun i a hi => by
    obtain ⟨e, h1⟩ := at' i a hi
    exact h.2 i _ h1
  have pb : ∀ k, k < 26 → (ws.map Prod.fst)[k]? = some (ad k) := fun k hk => by
    rw [hm, List.getElem?_append_left (by simp; omega), List.getElem?_append_left (by simp; omega), List.getElem?_map, List.getElem?_range hk]
    rfl
  have pm : ∀ k, k < 19 → (ws.map Prod.fst)[26 + k]? = some (md k) := fun k hk => by
    rw [hm, List.getElem?_append_left (by simp; omega), List.getElem?_append_right (by simp)]
    rw [show 26 + k - ((List.range 26).map ad).length = k from by simp, List.getElem?_map, List.getElem?_range hk]
    rfl
  have pq : (ws.map Prod.fst)[45]? = some q := by
    rw [hm, List.getElem?_append_right (by simp)]
    simp
  refine ⟨fun i j hi hj e => key i j (ad i) (pb i hi) (by rw [e]; exact pb j hj), fun i j hi hj e => ?_, ⟨?_, ?_, ?_⟩, ?_, ?_, keyA 45 q pq⟩
  · have := key (26 + i) (26 + j) (md i) (pm i hi) (by rw [e]; exact pm j hj)
    omega
  · rintro ⟨k, hk, e⟩
    have := key k 45 (ad k) (pb k hk) (by rw [← e]; exact pq)
    omega
  · rintro ⟨k, hk, e⟩
    have := key (26 + k) 45 (md k) (pm k hk) (by rw [← e]; exact pq)
    omega
  · rintro x ⟨k, hk, e⟩ ⟨j, hj, e2⟩
    have := key k (26 + j) (ad k) (pb k hk) (by rw [← e, e2]; exact pm j hj)
    omega
  · rintro x ⟨k, hk, e⟩
    rw [e]
    exact keyA k _ (pb k hk)
  · rintro x ⟨k, hk, e⟩
    rw [e]
    exact keyA (26 + k) _ (pm k hk)
theorem st_rel : Rel bS0 mS0 0 0 0 0 0 := by
  have no : ∀ {P : Nat → Prop} (k : Nat), k < 0 → P k := fun k hk => absurd hk (Nat.not_lt_zero k)
  refine ⟨⟨⟨⟨rfl, by omega⟩, ⟨rfl, by omega⟩, ⟨rfl, by omega⟩, ⟨rfl, by omega⟩, ⟨rfl, by omega⟩, 7, rfl, by omega⟩, fun k hk => absurd hk (Nat.not_lt_zero k), fun k hk => absurd hk (Nat.not_lt_zero k), fun k hk => absurd hk (Nat.not_lt_zero k), fun k => Or.inl rfl, fun k _ => ⟨rfl, rfl⟩, fun k q hk => absurd hk (Nat.not_lt_zero k), ⟨fun k hk => absurd hk (Nat.not_lt_zero k), fun k q _ hq => absurd hq (Nat.not_lt_zero q)⟩, fun k hk => absurd hk (Nat.not_lt_zero k), ?_, fun k hk => absurd hk (Nat.not_lt_zero k), fun k hk => absurd hk (Nat.not_lt_zero k)⟩, ?_, ?_, ?_⟩
  · unfold opn
    simp
  · exact ⟨⟨rfl, rfl, rfl, rfl, rfl⟩, ⟨rfl, rfl, rfl⟩, ⟨rfl, rfl, rfl, rfl⟩, rfl, rfl, rfl, rfl⟩
  · exact ⟨rfl, rfl, rfl, rfl, rfl, rfl⟩
  · refine ⟨?_, fun i r h => ?_, fun r hr => absurd hr (Nat.not_lt_zero r)⟩
    · unfold opn
      rfl
    · unfold opn at h
      simp at h
set_option maxHeartbeats 4000000 in
set_option maxRecDepth 100000 in
/-- from the entry, for every script of at most 2560 ints, the law comes to its end with true -/
theorem whole_start {p : Program} {e : Env} {s : State} {m : MethodId} {below : List Frame} {meth : Method} {c : Code} (l : Launch) (hflags : l.flags = flags0) {b L : Nat} {xs : Nat → Int32} (hL : L ≤ 2560) (C0 : lw_At p s m meth c b L xs) : W p l e room_1 s m #[Value.ref b] below meth c s.heap [] 0 0 (lw_Z below #[Value.ref b] s) (entryFrame m ([Value.ref b] : List Value).toArray 7) := by
  obtain ⟨hx, hb, hr, hml, hown, hts0, hX, hbl, hlocks, hgv⟩ := id C0
  have hts : ∀ w ∈ wsL_law, w.before #[Value.ref b] s = true := fun w h => hts0 w (wsL_law_in w h)
  have hfl := flat_of_before _ hgv
  have hst : l.stackTraces = false := by
    unfold Launch.stackTraces
    rw [hflags]
    decide
  have hown : s.vm.findClass RL = some m.cls := hown
  have hA : ∀ q : Nat, s.heap.size ≤ q → fr s q := fun _ h => h
  have hnA : ∀ a : Nat, a < s.heap.size → ¬ fr s a := fun a h => Nat.not_le.mpr h
  obtain ⟨c0, i0, hKn0⟩ := u_known (C := RX1) (T := TX1) (N := 4) (n := 4) hts inlX1 (hts (.instantiable RX1 4) (List.mem_of_getElem? (i := 18) rfl))
  obtain ⟨c1, i1, hKn1⟩ := u_known (C := RX2) (T := TX2) (N := 4) (n := 4) hts inlX2 (hts (.instantiable RX2 4) (List.mem_of_getElem? (i := 30) rfl))
  obtain ⟨c2, i2, hKn2⟩ := u_known (C := RX3) (T := TX3) (N := 8) (n := 8) hts inlX3 (hts (.instantiable RX3 8) (List.mem_of_getElem? (i := 14) rfl))
  obtain ⟨c3, i3, hKn3⟩ := u_known (C := RX4) (T := TX4) (N := 12) (n := 12) hts inlX4 (hts (.instantiable RX4 12) (List.mem_of_getElem? (i := 22) rfl))
  obtain ⟨c4, i4, hKn4⟩ := u_known (C := RX5) (T := TX5) (N := 2) (n := 2) hts inlX5 (hts (.instantiable RX5 2) (List.mem_of_getElem? (i := 26) rfl))
  obtain ⟨c5, i5, hKn5⟩ := u_known (C := RX6) (T := TX6) (N := 6) (n := 6) hts inlX6 (hts (.instantiable RX6 6) (List.mem_of_getElem? (i := 1) rfl))
  obtain ⟨c6, i6, hKn6⟩ := u_known (C := RX7) (T := TX7) (N := 25) (n := 25) hts inlX7 (hts (.instantiable RX7 25) (List.mem_of_getElem? (i := 4) rfl))
  obtain ⟨dC, dI, hKc⟩ : ∃ (dC : Nat → ClassId) (dI : Nat → Nat → Nat), ∀ (k : Nat) (q : vw_C), vwCl[k]? = some q → u_Kn s q.1 q.2.1 q.2.2 (dC k) (dI k) := by
    refine ⟨fun k => match k with | 0 => c0 | 1 => c1 | 2 => c2 | 3 => c3 | 4 => c4 | 5 => c5 | _ => c6, fun k => match k with | 0 => i0 | 1 => i1 | 2 => i2 | 3 => i3 | 4 => i4 | 5 => i5 | _ => i6, ?_⟩
    intro k q hq
    match k, hq with
    | 0, hq => cases hq; exact hKn0
    | 1, hq => cases hq; exact hKn1
    | 2, hq => cases hq; exact hKn2
    | 3, hq => cases hq; exact hKn3
    | 4, hq => cases hq; exact hKn4
    | 5, hq => cases hq; exact hKn5
    | 6, hq => cases hq; exact hKn6
    | k + 7, hq => exact absurd hq (by simp [vwCl])
  obtain ⟨cI, hI1, hI2⟩ := st_arr (ty := .int) (hts (.arrayClass .int) (List.mem_of_getElem? (i := 37) rfl))
  obtain ⟨cZ, hZ1, hZ2⟩ := st_arr (ty := .boolean) (hts (.arrayClass .boolean) (List.mem_of_getElem? (i := 63) rfl))
  obtain ⟨cJ, hJ1, hJ2⟩ := st_arr (ty := .long) (hts (.arrayClass .long) (List.mem_of_getElem? (i := 6) rfl))
  have hK : va_K (dC, dI) vwCl (wTy cI cZ cJ) s := ⟨hKc, fun k q h => by
    match k, h with
    | 0, h => cases h; exact ⟨hI1, hI2⟩
    | 1, h => cases h; exact ⟨hZ1, hZ2⟩
    | 2, h => cases h; exact ⟨hJ1, hJ2⟩
    | k + 3, h => exact absurd h (by simp [wTy])⟩
  have hKk : va_K (dC, dI) vwCl (kTy cI cZ) s := hK.sub (tys' := kTy cI cZ) [0, 1] rfl
  have hNx : kNx s := ⟨va_Nw.of rfl (hts0 _ st_n1), va_Nw.of rfl (hts0 _ st_n2)⟩
  have hNi : kNi s := ⟨va_Nw.of rfl (hts0 _ st_i1), va_Nw.of rfl (hts0 _ st_i2)⟩
  have hXf : xFx (fr s) s := ⟨vx_Zqof (hts0 _ st_t1) (hts0 _ st_t3) (hfl _ st_f1) hnA, vx_Zqof (hts0 _ st_t2) (hts0 _ st_t3) (hfl _ st_f2) hnA, fun z hz => by
    obtain ⟨a, _, _, _, h1, -⟩ := Cond.exactly_spec (args := #[Value.ref b]) (first := s) (o := none) (s := s) (idx := []) (hfl _ (st_s2 z hz))
    exact ⟨a, vk_R.of (hts0 _ (st_s1 z hz)) h1⟩, fun w hw => va_Nw.of (xNg_ok w hw).2 (hts0 w (st_ng w hw))⟩
  have hNc : wNc s := fun z hz => va_Nc.of (hfl _ (st_nc z hz))
  have hS : va_S (fr s) s.heap s.heap [] := va_S.rf
  have hP : va_P (dC, dI) vwCl [] s.heap := fun k q h => by simp at h
  have hD : va_D (fr s) [] := ⟨fun i j p q h => by simp at h, fun k q h => by simp at h⟩
  have hl := lv_entry ([.ref b]) (n := 7) (Nat.le_of_ble_eq_true rfl)
  rw [lg_entry_eq]
  generalize (lg_sl ([.ref b]) ++ List.replicate (7 - (lg_sl ([.ref b])).length) Slot.unset).toArray = ls at hl ⊢
  have hl : lv_has ls 7 [(0, .ref b)] := hl
  refine va_new (D := (dC, dI)) (ci := 5) (fs := [.null, .null, .null, .null, .null, .int 0]) (C := RX6) (T := TX6) (N := 6) hx hb hts inlX6 tyX6 tyX6_ok hown (hts (.classLink RL 8 RX6) (List.mem_of_getElem? (i := 0) rfl)) (hts (.instantiable RX6 6) (List.mem_of_getElem? (i := 1) rfl)) (hts (.initialized RX6) (List.mem_of_getElem? (i := 2) rfl)) hK hP hD hS hA rfl (by decide +kernel) (Nat.le_of_ble_eq_true rfl) (Nat.le_of_ble_eq_true rfl) dL_law_0 (fun q0 H hP hD hS => ?_)
  have hP : va_P (dC, dI) vwCl [(q0, .inr (5, [.null, .null, .null, .null, .null, .int 0]))] H := hP
  have hD : va_D (fr s) [(q0, .inr (5, [.null, .null, .null, .null, .null, .int 0]))] := hD
  refine lv_dup hx hb dL_law_3 rfl ?_
  have hFc := va_free (wc := [(q0, .inr (5, [.null, .null, .null, .null, .null, .int 0]))]) hD hS hA [0] rfl
  refine va_callv (va_runI (As := []) (rest := [.ref q0]) ⟨hx, hb, hml, hown, hts⟩ (kIX6_init l (dC, dI) cI cZ q0 H.size) (cwI 0 hts gL_law_X6_init rfl rfl rfl (hts (.initialized RX6) (List.mem_of_getElem? (i := 2) rfl)) (hts (.methodLink RL 77 yX6_init) (List.mem_of_getElem? (i := 7) rfl)) (hts (.instanceMethod yX6_init) (List.mem_of_getElem? (i := 8) rfl)) rfl (by decide +kernel) ⟨Nat.le_of_ble_eq_true rfl, Nat.le_of_ble_eq_true rfl⟩) ⟨fun a U g mk z => by obtain ⟨z0, z1, zP, zK, zN⟩ := z; exact ⟨z0, z1, zP, va_K.moved (u := U) (U := U.calling g mk a) (Vm.Alike.refl U.vm) zK, kNi.warm (s := U) (State.WarmedH.refl U) zN⟩, fun U hU hW => ⟨rfl, by rw [hU], by rw [hU]; exact hP, va_K.moved hW.alike hKk, kNi.warm hW hNi⟩⟩ rfl rfl hl.1 rfl (lv_room (Nat.le_of_ble_eq_true rfl)) dL_law_4 ⟨Nat.le_of_ble_eq_true rfl, Nat.le_of_ble_eq_true rfl⟩) hS (fun q _ h => hFc q h) hFc (fun ad t H1 locs ht hvm hw hB hz1 hk1 hS => ?_)
  obtain ⟨hP1, hD1⟩ := hB
  rw [ht] at hP1
  have hw : ad 0 = q0 := hw
  obtain ⟨hP, hD⟩ := va_join (wr := []) (w1 := bW ad cI cZ bS0) hP hD [0] [] rfl rfl (by decide) (by decide) hk1 hFc hP1 hD1
  generalize H1 = H at hP hS ⊢
  have hP : va_P (dC, dI) vwCl (bW ad cI cZ bS0) H := hP
  have hD : va_D (fr s) (bW ad cI cZ bS0) := hD
  rw [← hw]
  refine lv_astore_n (lv' := [(1, .ref (ad 0)), (0, .ref b)]) hx hb dL_law_7 rfl hl (by decide) rfl (fun ls hl => ?_)
  refine va_new (D := (dC, dI)) (ci := 6) (fs := [.int 0, .int 0, .int 0, .null, .int 0, .null, .null, .null, .null, .null, .int 0, .int 0, .null, .null, .null, .int 0, .null, .null, .null, .null, .null, .null, .null, .null, .null]) (C := RX7) (T := TX7) (N := 25) hx hb hts inlX7 tyX7 tyX7_ok hown (hts (.classLink RL 78 RX7) (List.mem_of_getElem? (i := 3) rfl)) (hts (.instantiable RX7 25) (List.mem_of_getElem? (i := 4) rfl)) (hts (.initialized RX7) (List.mem_of_getElem? (i := 5) rfl)) hK hP hD hS hA rfl (by decide +kernel) (Nat.le_of_ble_eq_true rfl) (Nat.le_of_ble_eq_true rfl) dL_law_8 (fun q1 H hP hD hS => ?_)
  refine lv_dup hx hb dL_law_11 rfl ?_
  have hPc := hP.sub (ws' := [(q1, .inr (6, [.int 0, .int 0, .int 0, .null, .int 0, .null, .null, .null, .null, .null, .int 0, .int 0, .null, .null, .null, .int 0, .null, .null, .null, .null, .null, .null, .null, .null, .null]))]) [26] rfl
  have hFc := va_free (wc := [(q1, .inr (6, [.int 0, .int 0, .int 0, .null, .int 0, .null, .null, .null, .null, .null, .int 0, .int 0, .null, .null, .null, .int 0, .null, .null, .null, .null, .null, .null, .null, .null, .null]))]) hD hS hA [26] rfl
  refine va_callv (va_runI (As := []) (rest := [.ref q1]) ⟨hx, hb, hml, hown, hts⟩ (kIX7_init l (dC, dI) cI cZ q1 H.size) (cwI 0 hts gL_law_X7_init rfl rfl rfl (hts (.initialized RX7) (List.mem_of_getElem? (i := 5) rfl)) (hts (.methodLink RL 80 yX7_init) (List.mem_of_getElem? (i := 84) rfl)) (hts (.instanceMethod yX7_init) (List.mem_of_getElem? (i := 85) rfl)) rfl (by decide +kernel) ⟨Nat.le_of_ble_eq_true rfl, Nat.le_of_ble_eq_true rfl⟩) ⟨fun a U g mk z => by obtain ⟨z0, z1, zP, zK⟩ := z; exact ⟨z0, z1, zP, va_K.moved (u := U) (U := U.calling g mk a) (Vm.Alike.refl U.vm) zK⟩, fun U hU hW => ⟨rfl, by rw [hU], by rw [hU]; exact hPc, va_K.moved hW.alike hKk⟩⟩ rfl rfl hl.1 rfl (lv_room (Nat.le_of_ble_eq_true rfl)) dL_law_12 ⟨Nat.le_of_ble_eq_true rfl, Nat.le_of_ble_eq_true rfl⟩) hS (fun q _ h => hFc q h) hFc (fun md t H1 locs ht hvm hw hB hz1 hk1 hS => ?_)
  obtain ⟨hP1, hD1⟩ := hB
  rw [ht] at hP1
  have hw : md 0 = q1 := hw
  obtain ⟨hP, hD⟩ := va_join (wr := bW ad cI cZ bS0) (w1 := mW md cI cZ mS0) hP hD [26] [0, 1, 2, 3, 4, 5, 6, 7, 8, 9, 10, 11, 12, 13, 14, 15, 16, 17, 18, 19, 20, 21, 22, 23, 24, 25] rfl rfl (by decide) (by decide) hk1 hFc hP1 hD1
  generalize H1 = H at hP hS ⊢
  have hP : va_P (dC, dI) vwCl (bW ad cI cZ bS0 ++ mW md cI cZ mS0) H := hP
  have hD : va_D (fr s) (bW ad cI cZ bS0 ++ mW md cI cZ mS0) := hD
  rw [← hw]
  refine lv_astore_n (lv' := [(2, .ref (md 0)), (1, .ref (ad 0)), (0, .ref b)]) hx hb dL_law_15 rfl hl (by decide) rfl (fun ls hl => ?_)
  refine lv_iconst (v := 1) hx hb dL_law_16 (by decide) ?_
  refine va_newa (atype := .long) (ty := .long) hx hb (hts (.arrayClass .long) (List.mem_of_getElem? (i := 6) rfl)) rfl hK hP hD hS hA (a0 := (1, .inr (.inl (fun _ => 0)))) (fun cA => rfl) (by decide) (by decide) (by decide) (Nat.le_of_ble_eq_true rfl) (Nat.le_of_ble_eq_true rfl) dL_law_17 (fun q cA H hK1 hP hD hS => ?_)
  have ej : cA = cJ := Option.some.inj ((hK1.2 3 (cA, .long) rfl).2.symm.trans hJ2)
  subst ej
  refine lv_astore_n (lv' := [(3, .ref q), (2, .ref (md 0)), (1, .ref (ad 0)), (0, .ref b)]) hx hb dL_law_19 rfl hl (by decide) rfl (fun ls hl => ?_)
  refine lv_iconst (v := 0) hx hb dL_law_20 (by decide) ?_
  refine lv_istore (lv' := [(4, .int 0), (3, .ref q), (2, .ref (md 0)), (1, .ref (ad 0)), (0, .ref b)]) hx hb dL_law_21 hl (by decide) rfl (fun ls hl => ?_)
  have hPw : va_P (dC, dI) vwCl (wW ad cI cZ cA q bS0 (fun _ => 0)) H := hP.sub [0, 1, 2, 3, 4, 5, 6, 7, 8, 9, 10, 11, 12, 13, 14, 15, 16, 17, 18, 19, 20, 21, 22, 23, 24, 25, 45] rfl
  have hPm : va_P (dC, dI) vwCl (mW md cI cZ mS0) H := hP.sub [26, 27, 28, 29, 30, 31, 32, 33, 34, 35, 36, 37, 38, 39, 40, 41, 42, 43, 44] rfl
  obtain ⟨a1, a2, a3, a4, a5, a6⟩ := st_adr (ad := ad) (md := md) (q := q) hD rfl
  have hF : LFx (dC, dI) cI cZ cA ad md q s := ⟨⟨hK, hNx, hXf, hNc⟩, ⟨fun S => bDD a1 cI cZ S, fun S => mDD a2 cI cZ S⟩, a3, a4, a5, a6⟩
  have hC : LCx p l s m c b L xs := ⟨hx, hb, hml, hown, hts, hX, hbl, hst⟩
  exact law_loop hL C0 hC hF (L + 1) 0 (Nat.zero_le L) (by omega) bS0 mS0 (fun _ => 0) H _ ls ⟨0, 0, 0, 0, 0, st_rel⟩ ⟨hPw, hPm, hS⟩ (lv_sub hl [4, 3, 2, 1, 0] rfl)
