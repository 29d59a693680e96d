/-! THE CLAIM OUT OF ONE WALK OF THE LAW'S BODY. Your part is whole_start (and what it stands on); all else here is the same for every law, but numbers. -/
def R_law : String := "BumpheraldLaw"
def lw_P (b : Addr) (xs : List Int32) (args : Array Value) (s : State) : Prop := args = #[.ref b] ∧ s.IntsAt b xs ∧ xs.length ≤ 2560 ∧ (Jvm.Cond.and given_1 narrow_1).before args s = true
def lw_Q (_ : Array Value) (s : State) (o : Outcome) (t : State) : Prop := o = .returned (some (.int 1)) ∧ Framed s o t [] 1092 9356
def lw_Z (below : List Frame) (a : Array Value) (s : State) : State → Prop := fun t => ∃ o, t.status = .running ∧ Ended t below o ∧ lw_Q a s o t
/-- the law's own end, with 1 on the stack, nothing written that was there before, its room as the claim has it -/
theorem lw_ret {p : Program} {l : Launch} {e : Env} {s : State} {m : MethodId} {below : List Frame} {meth : Method} {c : Code} {b : Nat} (hx : p.tables.exec = Jvm.exec) (hb : c.code = code) (hr : meth.sig.returnType = ret) (hlocks : meth.locks = false) {pc : Nat} {H : Heap} {ls : Array Slot} (hdg : decode code pc = .ok (.ireturn, 1)) : W p l e room_1 s m #[Value.ref b] below meth c H [] 1092 9356 (lw_Z below #[Value.ref b] s) (F0 m pc ls [.int 1]) := by
  intro T hT X
  obtain ⟨fs, hret, hrun, hended, hW, hframe⟩ := X.leave (v := some (.int 1)) (hlocks := hlocks) (fun h => by rw [hr] at h; cases h)
  have hmeth' : T.vm.method? m = some meth := X.method'
  refine ⟨T.setFrames fs, ?_, .returned (some (.int 1)), hrun, hended, rfl, ⟨_, rfl⟩, hW, hframe⟩
  jvm_step X.here [X.here.top, hx, hb, hdg, hmeth', hr, ret, narrow_b1]
  (try refine ⟨rfl, ?_⟩); (try refine ⟨rfl, ?_⟩)
  first | (intro acts; rw [hret _ acts rfl rfl rfl]) | rw [hret _ _ rfl rfl rfl]
  exact Steps.refl _
/-- what holds at the law's entry: the machine, the code, the tables' words (any of lw_tbl by 'hts w (by decide +kernel)'), the script of L ints xs at the cell b, what the Statement gives of the start (any of its parts by flat_of_before) -/
def lw_At (p : Program) (s : State) (m : MethodId) (meth : Method) (c : Code) (b L : Nat) (xs : Nat → Int32) : Prop :=
  p.tables.exec = Jvm.exec ∧ c.code = code ∧ meth.sig.returnType = ret ∧ c.maxLocals = 7 ∧ s.vm.findClass R_law = some m.cls ∧ (∀ w ∈ lw_tbl, w.before #[Value.ref b] s = true) ∧ va_X b L xs s s.heap ∧ b < s.heap.size ∧ meth.locks = false ∧ (Jvm.Cond.and given_1 narrow_1).before #[Value.ref b] s = true
set_option maxHeartbeats 4000000 in
set_option maxRecDepth 100000 in
/-- the law's loop: at its head, with k calls made, the class and the model stand alike -/
theorem law_loop {p : Program} {l : Launch} {e : Env} {s : State} {m : MethodId} {below : List Frame} {meth : Method} {c : Code} {D : va_G} {cI cZ cJ : ClassId} {ad md : Nat → Nat} {q b L : Nat} {xs : Nat → Int32} (hL : L ≤ 2560) (C0 : lw_At p s m meth c b L xs) (C1 : LCx p l s m c b L xs) (hF : LFx D cI cZ cJ ad md q s) :
    ∀ (n k : Nat), 5 * k ≤ L → L < 5 * k + n → ∀ (B M : St) (o : Nat → Int64) (H : Heap) (locs : List Loc) (ls : Array Slot), Rl B M → LSt D cI cZ cJ ad md q s B M o H locs → lv_has ls 7 (LLo b (ad 0) (md 0) q (nI (5 * k))) → W p l e room_1 s m #[Value.ref b] below meth c H locs (46 + k) (1032 + 6 * k) (lw_Z below #[Value.ref b] s) (F0 m 23 ls []) := by
  obtain ⟨hx, hb, hr, hml, hown, hts, hX, hbl, hlocks, hgv⟩ := C0
  have hbA : ¬ fr s b := Nat.not_le.mpr hbl
  intro n
  induction n with
  | zero => exact fun k h1 h2 => absurd h2 (by omega)
  | succ n ih =>
    intro k h1 h2 B M o H locs ls hRl hLS hl
    refine lv_iload hx hb dL_law_23 (lv_at hl 4 rfl) ?_
    refine lv_aload_n hx hb dL_law_25 rfl (lv_at hl 0 rfl) ?_
    refine va_slen hx hb hX hbl hbA hLS.2.2 dL_law_26 ?_
    refine lv_iconst (v := 5) hx hb dL_law_27 (by decide) ?_
    refine lv_isub hx hb dL_law_28 ?_
    refine lv_icmp_gt (tgt := 1297) hx hb dL_law_29 (by decide) (fun h => ?_) (fun h => ?_)
    · refine lv_iconst (v := 1) hx hb dL_law_1297 (by decide) ?_
      refine va_forget (fun q hq => hLS.2.2.2.2 q hq) ?_
      refine W.widen (k := 1092) (n := 9356) (by omega) (by omega) ?_
      exact lw_ret hx hb hr hlocks dL_law_1298
    · have hk : 5 * k + 5 ≤ L := l_go h1 hL h
      have hi := l_in hk hL
      refine lv_aload_n hx hb dL_law_32 rfl (lv_at hl 0 rfl) ?_
      refine lv_iload hx hb dL_law_33 (lv_at hl 4 rfl) ?_
      refine va_sld hx hb hX hbl hbA hLS.2.2 (vp_in_nI (by omega) (by omega)) dL_law_35 ?_
      refine lv_bipush (v := 31) hx hb dL_law_36 (by decide) ?_
      refine lv_iand hx hb dL_law_38 ?_
      refine lv_topi (fun z _ => ?_)
      have e1 : 1032 + 6 * (k + 1) = 1032 + 6 * k + 6 := by omega
      have kk : ∀ (B1 M1 : St) (o1 : Nat → Int64) (H1 : Heap) (locs1 : List Loc) (ls1 : Array Slot), Rl B1 M1 → LSt D cI cZ cJ ad md q s B1 M1 o1 H1 locs1 → lv_has ls1 7 (LLo b (ad 0) (md 0) q (nI (5 * k))) → W p l e room_1 s m #[Value.ref b] below meth c H1 locs1 (46 + k + 1) (1032 + 6 * k + 6) (lw_Z below #[Value.ref b] s) (F0 m 1291 ls1 []) := by
        intro B1 M1 o1 H1 locs1 ls1 hRl1 hLS1 hl1
        refine lv_iinc (v := nI (5 * (k + 1))) (lv' := [(4, .int (nI (5 * (k + 1)))), (0, .ref b), (1, .ref (ad 0)), (2, .ref (md 0)), (3, .ref q)]) hx hb dL_law_1291 hl1 (k := 4) rfl (by rw [show Int32.ofInt 5 = nI 5 from by decide]; exact l_add _ _) (by decide) rfl (fun ls hl => ?_)
        refine lv_goto (tgt := 23) hx hb dL_law_1294 (by decide) ?_
        have h3 := ih (k + 1) (by omega) (by omega) B1 M1 o1 H1 locs1 ls hRl1 hLS1 (lv_sub hl [1, 2, 3, 4, 0] rfl)
        rw [e1] at h3
        exact h3
      obtain ⟨np, nn, nf, nr, d, hR⟩ := hRl
      have hc : 46 + k + 1 ≤ 1092 := by omega
      have hs : 1032 + 6 * k + 6 ≤ 9356 := by omega
      by_cases g0 : z = nI 0
      · refine lv_tableIn (off := 89) (tgt := 128) hx hb dL_law_39 (by rw [g0]; decide) (by rw [g0]; decide) (by rw [g0]; rfl) (by decide) ?_
        exact lc_pack C1 hF hLS hR hl hi hc hs kk
      by_cases g1 : z = nI 1
      · refine lv_tableIn (off := 145) (tgt := 184) hx hb dL_law_39 (by rw [g1]; decide) (by rw [g1]; decide) (by rw [g1]; rfl) (by decide) ?_
        exact lc_need C1 hF hLS hR hl hi hc hs kk
      by_cases g2 : z = nI 2
      · refine lv_tableIn (off := 237) (tgt := 276) hx hb dL_law_39 (by rw [g2]; decide) (by rw [g2]; decide) (by rw [g2]; rfl) (by decide) ?_
        exact lc_trust C1 hF hLS hR hl hi hc hs kk
      by_cases g3 : z = nI 3
      · refine lv_tableIn (off := 305) (tgt := 344) hx hb dL_law_39 (by rw [g3]; decide) (by rw [g3]; decide) (by rw [g3]; rfl) (by decide) ?_
        exact lc_patience C1 hF hLS hR hl hi hc hs kk
      by_cases g4 : z = nI 4
      · refine lv_tableIn (off := 361) (tgt := 400) hx hb dL_law_39 (by rw [g4]; decide) (by rw [g4]; decide) (by rw [g4]; rfl) (by decide) ?_
        exact lc_freeze C1 hF hLS hR hl hi hc hs kk
      by_cases g5 : z = nI 5
      · refine lv_tableIn (off := 441) (tgt := 480) hx hb dL_law_39 (by rw [g5]; decide) (by rw [g5]; decide) (by rw [g5]; rfl) (by decide) ?_
        exact lc_raise C1 hF hLS hR hl hi hc hs kk
      by_cases g6 : z = nI 6
      · refine lv_tableIn (off := 521) (tgt := 560) hx hb dL_law_39 (by rw [g6]; decide) (by rw [g6]; decide) (by rw [g6]; rfl) (by decide) ?_
        exact lc_approve C1 hF hLS hR hl hi hc hs kk
      by_cases g7 : z = nI 7
      · refine lv_tableIn (off := 584) (tgt := 623) hx hb dL_law_39 (by rw [g7]; decide) (by rw [g7]; decide) (by rw [g7]; rfl) (by decide) ?_
        exact lc_land C1 hF hLS hR hl hi hc hs kk
      by_cases g8 : z = nI 8
      · refine lv_tableIn (off := 668) (tgt := 707) hx hb dL_law_39 (by rw [g8]; decide) (by rw [g8]; decide) (by rw [g8]; rfl) (by decide) ?_
        exact lc_close C1 hF hLS hR hl hi hc hs kk
      by_cases g9 : z = nI 9
      · refine lv_tableIn (off := 704) (tgt := 743) hx hb dL_law_39 (by rw [g9]; decide) (by rw [g9]; decide) (by rw [g9]; rfl) (by decide) ?_
        exact lc_pass C1 hF hLS hR hl hi hc hs kk
      by_cases g10 : z = nI 10
      · refine lv_tableIn (off := 760) (tgt := 799) hx hb dL_law_39 (by rw [g10]; decide) (by rw [g10]; decide) (by rw [g10]; rfl) (by decide) ?_
        exact lc_day C1 hF hLS hR hl hi hc hs kk
      by_cases g11 : z = nI 11
      · refine lv_tableIn (off := 773) (tgt := 812) hx hb dL_law_39 (by rw [g11]; decide) (by rw [g11]; decide) (by rw [g11]; rfl) (by decide) ?_
        exact lc_version C1 hF hLS hR hl hi hc hs kk
      by_cases g12 : z = nI 12
      · refine lv_tableIn (off := 829) (tgt := 868) hx hb dL_law_39 (by rw [g12]; decide) (by rw [g12]; decide) (by rw [g12]; rfl) (by decide) ?_
        exact lc_raiseOf C1 hF hLS hR hl hi hc hs kk
      by_cases g13 : z = nI 13
      · refine lv_tableIn (off := 897) (tgt := 936) hx hb dL_law_39 (by rw [g13]; decide) (by rw [g13]; decide) (by rw [g13]; rfl) (by decide) ?_
        exact lc_fails C1 hF hLS hR hl hi hc hs kk
      by_cases g14 : z = nI 14
      · refine lv_tableIn (off := 953) (tgt := 992) hx hb dL_law_39 (by rw [g14]; decide) (by rw [g14]; decide) (by rw [g14]; rfl) (by decide) ?_
        exact lc_canLand C1 hF hLS hR hl hi hc hs kk
      by_cases g15 : z = nI 15
      · refine lv_tableIn (off := 1016) (tgt := 1055) hx hb dL_law_39 (by rw [g15]; decide) (by rw [g15]; decide) (by rw [g15]; rfl) (by decide) ?_
        exact lc_load C1 hF hLS hR hl hi hc hs kk
      by_cases g16 : z = nI 16
      · refine lv_tableIn (off := 1072) (tgt := 1111) hx hb dL_law_39 (by rw [g16]; decide) (by rw [g16]; decide) (by rw [g16]; rfl) (by decide) ?_
        exact lc_fewest C1 hF hLS hR hl hi hc hs kk
      by_cases g17 : z = nI 17
      · refine lv_tableIn (off := 1128) (tgt := 1167) hx hb dL_law_39 (by rw [g17]; decide) (by rw [g17]; decide) (by rw [g17]; rfl) (by decide) ?_
        exact lc_fewestAnew C1 hF hLS hR hl hi hc hs kk
      by_cases g18 : z = nI 18
      · refine lv_tableIn (off := 1184) (tgt := 1223) hx hb dL_law_39 (by rw [g18]; decide) (by rw [g18]; decide) (by rw [g18]; rfl) (by decide) ?_
        exact lc_told C1 hF hLS hR hl hi hc hs kk
      refine lv_tableOut (tgt := 1291) hx hb dL_law_39 (lw_swout (fun j hj => ?_)) (by decide) ?_
      · match j, hj with
        | 0, _ => exact g0
        | 1, _ => exact g1
        | 2, _ => exact g2
        | 3, _ => exact g3
        | 4, _ => exact g4
        | 5, _ => exact g5
        | 6, _ => exact g6
        | 7, _ => exact g7
        | 8, _ => exact g8
        | 9, _ => exact g9
        | 10, _ => exact g10
        | 11, _ => exact g11
        | 12, _ => exact g12
        | 13, _ => exact g13
        | 14, _ => exact g14
        | 15, _ => exact g15
        | 16, _ => exact g16
        | 17, _ => exact g17
        | 18, _ => exact g18
        | j + 19, hj => exact absurd hj (by omega)
      · exact W.widen (Nat.le_add_right _ _) (Nat.le_add_right _ _) (kk B M o H locs ls ⟨np, nn, nf, nr, d, hR⟩ hLS hl)
