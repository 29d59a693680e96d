/-! the cases of the law's switch, second half -/
set_option maxHeartbeats 4000000 in
set_option maxRecDepth 100000 in
theorem lc_pass {p : Program} {l : Launch} {e : Env} {s : State} {m : MethodId} {below : List Frame} {meth : Method} {c : Code} {H : Heap} {locs : List Loc} {cells slots : Nat} {Q : State → Prop} {ls : Array Slot} {D : va_G} {cI cZ cJ : ClassId} {ad md : Nat → Nat} {q : Nat} {B M : St} {o : Nat → Int64} {b L : Nat} {xs : Nat → Int32} {np nn nf nr d : Nat} {i : Int32} (C0 : LCx p l s m c b L xs) (hF : LFx D cI cZ cJ ad md q s) (hLS : LSt D cI cZ cJ ad md q s B M o H locs) (hR : Rel B M np nn nf nr d) (hl : lv_has ls 7 (LLo b (ad 0) (md 0) q i)) (hi : ∀ j : Nat, j < 5 → vp_in (i + nI j) L) (hc : cells + 1 ≤ 1092) (hs : slots + 6 ≤ 9356)
    (kk : ∀ (B1 M1 : St) (o1 : Nat → Int64) (H1 : Heap) (locs1 : List Loc) (ls1 : Array Slot), Rl B1 M1 → LSt D cI cZ cJ ad md q s B1 M1 o1 H1 locs1 → lv_has ls1 7 (LLo b (ad 0) (md 0) q i) → W p l e room_1 s m #[Value.ref b] below meth c H1 locs1 (cells + 1) (slots + 6) Q (F0 m 1291 ls1 [])) : W p l e room_1 s m #[Value.ref b] below meth c H locs cells slots Q (F0 m 743 ls []) := by
  obtain ⟨hx, hb, hml, hown, hts, hX, hbl, hst⟩ := C0
  obtain ⟨B1, M1, ro, co, rb, hB, hM, hRl, hth, hal, hro⟩ := sim_pass hR (xs (i + nI 1).toNatClampNeg)
  refine lv_aload_n hx hb dL_law_743 rfl (lv_at hl 1 rfl) ?_
  refine l_ld hx hb hX hbl hLS.2.2 hl (nI 1) (by decide) (hi 1 (by omega)) dL_law_744 dL_law_745 dL_law_747 dL_law_748 dL_law_749 ?_
  refine lv_aload_n hx hb dL_law_750 rfl (lv_at hl 3 rfl) ?_
  refine l_callW (B' := B1) (o' := (if co = 0 then vp_updL o 0 (Int32.toInt64 ro) else o)) (r := ps_23 co) [.ref (ad 0), .int (xs (i + nI 1).toNatClampNeg), .ref q] [] ⟨hx, hb, hml, hown, hts⟩ (kL_pass l hst D ad cI cZ cJ q hF.2.1.1 hF.2.2.1.1 B (xs (i + nI 1).toNatClampNeg) o B1 ro co hB hal) (vx_cwSW 3 hts gL_law_L_pass rfl rfl rfl (by decide +kernel) ⟨Nat.le_of_ble_eq_true rfl, Nat.le_of_ble_eq_true rfl⟩) hF hLS rfl hl.1 rfl (Nat.le_of_ble_eq_true rfl) dL_law_751 hc hs (fun H locs hLS => ?_)
  refine lv_istore (lv' := [(5, .int (ps_23 co)), (0, .ref b), (1, .ref (ad 0)), (2, .ref (md 0)), (3, .ref q), (4, .int i)]) hx hb dL_law_754 hl (by decide) rfl (fun ls hl => ?_)
  have hl5 : lv_has ls 7 (LLo b (ad 0) (md 0) q i) := lv_sub hl [1, 2, 3, 4, 5] rfl
  refine lv_aload_n hx hb dL_law_756 rfl (lv_at hl 3 rfl) ?_
  refine l_ld hx hb hX hbl hLS.2.2 hl5 (nI 1) (by decide) (hi 1 (by omega)) dL_law_757 dL_law_758 dL_law_760 dL_law_761 dL_law_762 ?_
  refine l_callM (M' := M1) (r := rb) [.int (xs (i + nI 1).toNatClampNeg)] [] ⟨hx, hb, hml, hown, hts⟩ (kX7_pass l D md cI cZ hF.2.1.2 M (xs (i + nI 1).toNatClampNeg) M1 rb hM) (cwV 1 hts gL_law_X7_pass rfl rfl rfl (by decide +kernel) ⟨Nat.le_of_ble_eq_true rfl, Nat.le_of_ble_eq_true rfl⟩) hF hLS rfl hl.1 rfl (Nat.le_of_ble_eq_true rfl) dL_law_763 hc hs (fun H locs hLS => ?_)
  refine lv_istore (lv' := [(6, .int rb), (5, .int (ps_23 co)), (0, .ref b), (1, .ref (ad 0)), (2, .ref (md 0)), (3, .ref q), (4, .int i)]) hx hb dL_law_766 hl (by decide) rfl (fun ls hl => ?_)
  refine lv_aload_n hx hb dL_law_768 rfl (lv_at hl 4 rfl) ?_
  refine l_callM (M' := M1) (r := M1.1 0) [] [] ⟨hx, hb, hml, hown, hts⟩ (kX7_thrown l D md cI cZ hF.2.1.2 M1 M1 (M1.1 0) rfl) (cwV 0 hts gL_law_X7_thrown rfl rfl rfl (by decide +kernel) ⟨Nat.le_of_ble_eq_true rfl, Nat.le_of_ble_eq_true rfl⟩) hF hLS rfl hl.1 rfl (Nat.le_of_ble_eq_true rfl) dL_law_769 hc hs (fun H locs hLS => ?_)
  refine lv_iload hx hb dL_law_772 (lv_at hl 1 rfl) ?_
  refine lv_icmp_eq (tgt := 779) hx hb dL_law_774 (by decide) (fun _ => ?_) (fun h => absurd hth h)
  refine lv_iload hx hb dL_law_779 (lv_at hl 1 rfl) ?_
  refine lv_if_ne (tgt := 796) hx hb dL_law_781 (by decide) (fun h => ?_) (fun h => ?_)
  · refine lv_goto (tgt := 1291) hx hb dL_law_796 (by decide) ?_
    exact kk B1 M1 _ H locs ls hRl hLS (lv_sub hl [2, 3, 4, 5, 6] rfl)
  · have hco : co = 0 := hal.resolve_right (fun z => z h)
    subst hco
    refine lv_aload_n hx hb dL_law_784 rfl (lv_at hl 5 rfl) ?_
    refine lv_iconst (v := 0) hx hb dL_law_785 (by decide) ?_
    refine l_lald hx hb hF hLS dL_law_786 ?_
    refine lv_iload hx hb dL_law_787 (lv_at hl 0 rfl) ?_
    refine lv_i2l (v := Int32.toInt64 rb) hx hb dL_law_789 rfl ?_
    refine W.lcmp hx hb dL_law_790 ?_
    refine lv_if_eq (tgt := 796) hx hb dL_law_791 (by decide) (fun _ => ?_) (fun h => absurd (l_cmp0 (congrArg Int32.toInt64 (hro rfl))) h)
    refine lv_goto (tgt := 1291) hx hb dL_law_796 (by decide) ?_
    exact kk B1 M1 _ H locs ls hRl hLS (lv_sub hl [2, 3, 4, 5, 6] rfl)
set_option maxHeartbeats 4000000 in
set_option maxRecDepth 100000 in
theorem lc_day {p : Program} {l : Launch} {e : Env} {s : State} {m : MethodId} {below : List Frame} {meth : Method} {c : Code} {H : Heap} {locs : List Loc} {cells slots : Nat} {Q : State → Prop} {ls : Array Slot} {D : va_G} {cI cZ cJ : ClassId} {ad md : Nat → Nat} {q : Nat} {B M : St} {o : Nat → Int64} {b L : Nat} {xs : Nat → Int32} {np nn nf nr d : Nat} {i : Int32} (C0 : LCx p l s m c b L xs) (hF : LFx D cI cZ cJ ad md q s) (hLS : LSt D cI cZ cJ ad md q s B M o H locs) (hR : Rel B M np nn nf nr d) (hl : lv_has ls 7 (LLo b (ad 0) (md 0) q i)) (hi : ∀ j : Nat, j < 5 → vp_in (i + nI j) L) (hc : cells + 1 ≤ 1092) (hs : slots + 6 ≤ 9356)
    (kk : ∀ (B1 M1 : St) (o1 : Nat → Int64) (H1 : Heap) (locs1 : List Loc) (ls1 : Array Slot), Rl B1 M1 → LSt D cI cZ cJ ad md q s B1 M1 o1 H1 locs1 → lv_has ls1 7 (LLo b (ad 0) (md 0) q i) → W p l e room_1 s m #[Value.ref b] below meth c H1 locs1 (cells + 1) (slots + 6) Q (F0 m 1291 ls1 [])) : W p l e room_1 s m #[Value.ref b] below meth c H locs cells slots Q (F0 m 799 ls []) := by
  obtain ⟨hx, hb, hml, hown, hts, hX, hbl, hst⟩ := C0
  obtain ⟨M1, r, hB, hM, hRl, -⟩ := sim_day hR
  refine lv_aload_n hx hb dL_law_799 rfl (lv_at hl 1 rfl) ?_
  refine l_callB (B' := B) (r := r) [] [] ⟨hx, hb, hml, hown, hts⟩ (kX6_day l D ad cI cZ hF.2.1.1 B B r hB) (cwV 0 hts gL_law_X6_day rfl rfl rfl (by decide +kernel) ⟨Nat.le_of_ble_eq_true rfl, Nat.le_of_ble_eq_true rfl⟩) hF hLS rfl hl.1 rfl (Nat.le_of_ble_eq_true rfl) dL_law_800 (Nat.le_of_succ_le hc) (Nat.le_trans (Nat.le_add_right _ _) hs) (fun H locs hLS => ?_)
  refine lv_aload_n hx hb dL_law_803 rfl (lv_at hl 2 rfl) ?_
  refine l_callM (M' := M1) (r := r) [] [.int r] ⟨hx, hb, hml, hown, hts⟩ (kX7_day l D md cI cZ hF.2.1.2 M M1 r hM) (cwV 0 hts gL_law_X7_day rfl rfl rfl (by decide +kernel) ⟨Nat.le_of_ble_eq_true rfl, Nat.le_of_ble_eq_true rfl⟩) hF hLS rfl hl.1 rfl (Nat.le_of_ble_eq_true rfl) dL_law_804 (Nat.le_of_succ_le hc) (Nat.le_trans (Nat.le_add_right _ _) hs) (fun H locs hLS => ?_)
  refine lv_icmp_eq (tgt := 1291) hx hb dL_law_807 (by decide) (fun _ => ?_) (fun h => absurd rfl h)
  exact W.widen (Nat.le_add_right _ _) (Nat.le_add_right _ _) (kk B M1 o H locs ls hRl hLS hl)
set_option maxHeartbeats 4000000 in
set_option maxRecDepth 100000 in
theorem lc_version {p : Program} {l : Launch} {e : Env} {s : State} {m : MethodId} {below : List Frame} {meth : Method} {c : Code} {H : Heap} {locs : List Loc} {cells slots : Nat} {Q : State → Prop} {ls : Array Slot} {D : va_G} {cI cZ cJ : ClassId} {ad md : Nat → Nat} {q : Nat} {B M : St} {o : Nat → Int64} {b L : Nat} {xs : Nat → Int32} {np nn nf nr d : Nat} {i : Int32} (C0 : LCx p l s m c b L xs) (hF : LFx D cI cZ cJ ad md q s) (hLS : LSt D cI cZ cJ ad md q s B M o H locs) (hR : Rel B M np nn nf nr d) (hl : lv_has ls 7 (LLo b (ad 0) (md 0) q i)) (hi : ∀ j : Nat, j < 5 → vp_in (i + nI j) L) (hc : cells + 1 ≤ 1092) (hs : slots + 6 ≤ 9356)
    (kk : ∀ (B1 M1 : St) (o1 : Nat → Int64) (H1 : Heap) (locs1 : List Loc) (ls1 : Array Slot), Rl B1 M1 → LSt D cI cZ cJ ad md q s B1 M1 o1 H1 locs1 → lv_has ls1 7 (LLo b (ad 0) (md 0) q i) → W p l e room_1 s m #[Value.ref b] below meth c H1 locs1 (cells + 1) (slots + 6) Q (F0 m 1291 ls1 [])) : W p l e room_1 s m #[Value.ref b] below meth c H locs cells slots Q (F0 m 812 ls []) := by
  obtain ⟨hx, hb, hml, hown, hts, hX, hbl, hst⟩ := C0
  obtain ⟨B1, M1, ro, co, rb, hB, hM, hRl, hth, hal, hro⟩ := sim_version hR (xs (i + nI 1).toNatClampNeg)
  refine lv_aload_n hx hb dL_law_812 rfl (lv_at hl 1 rfl) ?_
  refine l_ld hx hb hX hbl hLS.2.2 hl (nI 1) (by decide) (hi 1 (by omega)) dL_law_813 dL_law_814 dL_law_816 dL_law_817 dL_law_818 ?_
  refine lv_aload_n hx hb dL_law_819 rfl (lv_at hl 3 rfl) ?_
  refine l_callW (B' := B1) (o' := (if co = 0 then vp_updL o 0 (Int32.toInt64 ro) else o)) (r := ps1 co) [.ref (ad 0), .int (xs (i + nI 1).toNatClampNeg), .ref q] [] ⟨hx, hb, hml, hown, hts⟩ (kL_version l hst D ad cI cZ cJ q hF.2.1.1 hF.2.2.1.1 B (xs (i + nI 1).toNatClampNeg) o B1 ro co hB hal) (vx_cwSW 3 hts gL_law_L_version rfl rfl rfl (by decide +kernel) ⟨Nat.le_of_ble_eq_true rfl, Nat.le_of_ble_eq_true rfl⟩) hF hLS rfl hl.1 rfl (Nat.le_of_ble_eq_true rfl) dL_law_820 hc hs (fun H locs hLS => ?_)
  refine lv_istore (lv' := [(5, .int (ps1 co)), (0, .ref b), (1, .ref (ad 0)), (2, .ref (md 0)), (3, .ref q), (4, .int i)]) hx hb dL_law_823 hl (by decide) rfl (fun ls hl => ?_)
  have hl5 : lv_has ls 7 (LLo b (ad 0) (md 0) q i) := lv_sub hl [1, 2, 3, 4, 5] rfl
  refine lv_aload_n hx hb dL_law_825 rfl (lv_at hl 3 rfl) ?_
  refine l_ld hx hb hX hbl hLS.2.2 hl5 (nI 1) (by decide) (hi 1 (by omega)) dL_law_826 dL_law_827 dL_law_829 dL_law_830 dL_law_831 ?_
  refine l_callM (M' := M1) (r := rb) [.int (xs (i + nI 1).toNatClampNeg)] [] ⟨hx, hb, hml, hown, hts⟩ (kX7_version l D md cI cZ hF.2.1.2 M (xs (i + nI 1).toNatClampNeg) M1 rb hM) (cwV 1 hts gL_law_X7_version rfl rfl rfl (by decide +kernel) ⟨Nat.le_of_ble_eq_true rfl, Nat.le_of_ble_eq_true rfl⟩) hF hLS rfl hl.1 rfl (Nat.le_of_ble_eq_true rfl) dL_law_832 hc hs (fun H locs hLS => ?_)
  refine lv_istore (lv' := [(6, .int rb), (5, .int (ps1 co)), (0, .ref b), (1, .ref (ad 0)), (2, .ref (md 0)), (3, .ref q), (4, .int i)]) hx hb dL_law_835 hl (by decide) rfl (fun ls hl => ?_)
  refine lv_aload_n hx hb dL_law_837 rfl (lv_at hl 4 rfl) ?_
  refine l_callM (M' := M1) (r := M1.1 0) [] [] ⟨hx, hb, hml, hown, hts⟩ (kX7_thrown l D md cI cZ hF.2.1.2 M1 M1 (M1.1 0) rfl) (cwV 0 hts gL_law_X7_thrown rfl rfl rfl (by decide +kernel) ⟨Nat.le_of_ble_eq_true rfl, Nat.le_of_ble_eq_true rfl⟩) hF hLS rfl hl.1 rfl (Nat.le_of_ble_eq_true rfl) dL_law_838 hc hs (fun H locs hLS => ?_)
  refine lv_iload hx hb dL_law_841 (lv_at hl 1 rfl) ?_
  refine lv_icmp_eq (tgt := 848) hx hb dL_law_843 (by decide) (fun _ => ?_) (fun h => absurd hth h)
  refine lv_iload hx hb dL_law_848 (lv_at hl 1 rfl) ?_
  refine lv_if_ne (tgt := 865) hx hb dL_law_850 (by decide) (fun h => ?_) (fun h => ?_)
  · refine lv_goto (tgt := 1291) hx hb dL_law_865 (by decide) ?_
    exact kk B1 M1 _ H locs ls hRl hLS (lv_sub hl [2, 3, 4, 5, 6] rfl)
  · have hco : co = 0 := hal.resolve_right (fun z => z h)
    subst hco
    refine lv_aload_n hx hb dL_law_853 rfl (lv_at hl 5 rfl) ?_
    refine lv_iconst (v := 0) hx hb dL_law_854 (by decide) ?_
    refine l_lald hx hb hF hLS dL_law_855 ?_
    refine lv_iload hx hb dL_law_856 (lv_at hl 0 rfl) ?_
    refine lv_i2l (v := Int32.toInt64 rb) hx hb dL_law_858 rfl ?_
    refine W.lcmp hx hb dL_law_859 ?_
    refine lv_if_eq (tgt := 865) hx hb dL_law_860 (by decide) (fun _ => ?_) (fun h => absurd (l_cmp0 (congrArg Int32.toInt64 (hro rfl))) h)
    refine lv_goto (tgt := 1291) hx hb dL_law_865 (by decide) ?_
    exact kk B1 M1 _ H locs ls hRl hLS (lv_sub hl [2, 3, 4, 5, 6] rfl)
set_option maxHeartbeats 4000000 in
set_option maxRecDepth 100000 in
theorem lc_raiseOf {p : Program} {l : Launch} {e : Env} {s : State} {m : MethodId} {below : List Frame} {meth : Method} {c : Code} {H : Heap} {locs : List Loc} {cells slots : Nat} {Q : State → Prop} {ls : Array Slot} {D : va_G} {cI cZ cJ : ClassId} {ad md : Nat → Nat} {q : Nat} {B M : St} {o : Nat → Int64} {b L : Nat} {xs : Nat → Int32} {np nn nf nr d : Nat} {i : Int32} (C0 : LCx p l s m c b L xs) (hF : LFx D cI cZ cJ ad md q s) (hLS : LSt D cI cZ cJ ad md q s B M o H locs) (hR : Rel B M np nn nf nr d) (hl : lv_has ls 7 (LLo b (ad 0) (md 0) q i)) (hi : ∀ j : Nat, j < 5 → vp_in (i + nI j) L) (hc : cells + 1 ≤ 1092) (hs : slots + 6 ≤ 9356)
    (kk : ∀ (B1 M1 : St) (o1 : Nat → Int64) (H1 : Heap) (locs1 : List Loc) (ls1 : Array Slot), Rl B1 M1 → LSt D cI cZ cJ ad md q s B1 M1 o1 H1 locs1 → lv_has ls1 7 (LLo b (ad 0) (md 0) q i) → W p l e room_1 s m #[Value.ref b] below meth c H1 locs1 (cells + 1) (slots + 6) Q (F0 m 1291 ls1 [])) : W p l e room_1 s m #[Value.ref b] below meth c H locs cells slots Q (F0 m 868 ls []) := by
  obtain ⟨hx, hb, hml, hown, hts, hX, hbl, hst⟩ := C0
  obtain ⟨B1, M1, ro, co, rb, hB, hM, hRl, hth, hal, hro⟩ := sim_raiseOf hR (xs (i + nI 1).toNatClampNeg) (xs (i + nI 2).toNatClampNeg)
  refine lv_aload_n hx hb dL_law_868 rfl (lv_at hl 1 rfl) ?_
  refine l_ld hx hb hX hbl hLS.2.2 hl (nI 1) (by decide) (hi 1 (by omega)) dL_law_869 dL_law_870 dL_law_872 dL_law_873 dL_law_874 ?_
  refine l_ld hx hb hX hbl hLS.2.2 hl (nI 2) (by decide) (hi 2 (by omega)) dL_law_875 dL_law_876 dL_law_878 dL_law_879 dL_law_880 ?_
  refine lv_aload_n hx hb dL_law_881 rfl (lv_at hl 3 rfl) ?_
  refine l_callW (B' := B1) (o' := (if co = 0 then vp_updL o 0 (Int32.toInt64 ro) else o)) (r := ps12 co) [.ref (ad 0), .int (xs (i + nI 1).toNatClampNeg), .int (xs (i + nI 2).toNatClampNeg), .ref q] [] ⟨hx, hb, hml, hown, hts⟩ (kL_raiseOf l hst D ad cI cZ cJ q hF.2.1.1 hF.2.2.1.1 B (xs (i + nI 1).toNatClampNeg) (xs (i + nI 2).toNatClampNeg) o B1 ro co hB hal) (vx_cwSW 4 hts gL_law_L_raiseOf rfl rfl rfl (by decide +kernel) ⟨Nat.le_of_ble_eq_true rfl, Nat.le_of_ble_eq_true rfl⟩) hF hLS rfl hl.1 rfl (Nat.le_of_ble_eq_true rfl) dL_law_882 hc hs (fun H locs hLS => ?_)
  refine lv_istore (lv' := [(5, .int (ps12 co)), (0, .ref b), (1, .ref (ad 0)), (2, .ref (md 0)), (3, .ref q), (4, .int i)]) hx hb dL_law_885 hl (by decide) rfl (fun ls hl => ?_)
  have hl5 : lv_has ls 7 (LLo b (ad 0) (md 0) q i) := lv_sub hl [1, 2, 3, 4, 5] rfl
  refine lv_aload_n hx hb dL_law_887 rfl (lv_at hl 3 rfl) ?_
  refine l_ld hx hb hX hbl hLS.2.2 hl5 (nI 1) (by decide) (hi 1 (by omega)) dL_law_888 dL_law_889 dL_law_891 dL_law_892 dL_law_893 ?_
  refine l_ld hx hb hX hbl hLS.2.2 hl5 (nI 2) (by decide) (hi 2 (by omega)) dL_law_894 dL_law_895 dL_law_897 dL_law_898 dL_law_899 ?_
  refine l_callM (M' := M1) (r := rb) [.int (xs (i + nI 1).toNatClampNeg), .int (xs (i + nI 2).toNatClampNeg)] [] ⟨hx, hb, hml, hown, hts⟩ (kX7_raiseOf l D md cI cZ hF.2.1.2 M (xs (i + nI 1).toNatClampNeg) (xs (i + nI 2).toNatClampNeg) M1 rb hM) (cwV 2 hts gL_law_X7_raiseOf rfl rfl rfl (by decide +kernel) ⟨Nat.le_of_ble_eq_true rfl, Nat.le_of_ble_eq_true rfl⟩) hF hLS rfl hl.1 rfl (Nat.le_of_ble_eq_true rfl) dL_law_900 hc hs (fun H locs hLS => ?_)
  refine lv_istore (lv' := [(6, .int rb), (5, .int (ps12 co)), (0, .ref b), (1, .ref (ad 0)), (2, .ref (md 0)), (3, .ref q), (4, .int i)]) hx hb dL_law_903 hl (by decide) rfl (fun ls hl => ?_)
  refine lv_aload_n hx hb dL_law_905 rfl (lv_at hl 4 rfl) ?_
  refine l_callM (M' := M1) (r := M1.1 0) [] [] ⟨hx, hb, hml, hown, hts⟩ (kX7_thrown l D md cI cZ hF.2.1.2 M1 M1 (M1.1 0) rfl) (cwV 0 hts gL_law_X7_thrown rfl rfl rfl (by decide +kernel) ⟨Nat.le_of_ble_eq_true rfl, Nat.le_of_ble_eq_true rfl⟩) hF hLS rfl hl.1 rfl (Nat.le_of_ble_eq_true rfl) dL_law_906 hc hs (fun H locs hLS => ?_)
  refine lv_iload hx hb dL_law_909 (lv_at hl 1 rfl) ?_
  refine lv_icmp_eq (tgt := 916) hx hb dL_law_911 (by decide) (fun _ => ?_) (fun h => absurd hth h)
  refine lv_iload hx hb dL_law_916 (lv_at hl 1 rfl) ?_
  refine lv_if_ne (tgt := 933) hx hb dL_law_918 (by decide) (fun h => ?_) (fun h => ?_)
  · refine lv_goto (tgt := 1291) hx hb dL_law_933 (by decide) ?_
    exact kk B1 M1 _ H locs ls hRl hLS (lv_sub hl [2, 3, 4, 5, 6] rfl)
  · have hco : co = 0 := hal.resolve_right (fun z => z h)
    subst hco
    refine lv_aload_n hx hb dL_law_921 rfl (lv_at hl 5 rfl) ?_
    refine lv_iconst (v := 0) hx hb dL_law_922 (by decide) ?_
    refine l_lald hx hb hF hLS dL_law_923 ?_
    refine lv_iload hx hb dL_law_924 (lv_at hl 0 rfl) ?_
    refine lv_i2l (v := Int32.toInt64 rb) hx hb dL_law_926 rfl ?_
    refine W.lcmp hx hb dL_law_927 ?_
    refine lv_if_eq (tgt := 933) hx hb dL_law_928 (by decide) (fun _ => ?_) (fun h => absurd (l_cmp0 (congrArg Int32.toInt64 (hro rfl))) h)
    refine lv_goto (tgt := 1291) hx hb dL_law_933 (by decide) ?_
    exact kk B1 M1 _ H locs ls hRl hLS (lv_sub hl [2, 3, 4, 5, 6] rfl)
set_option maxHeartbeats 4000000 in
set_option maxRecDepth 100000 in
theorem lc_fails {p : Program} {l : Launch} {e : Env} {s : State} {m : MethodId} {below : List Frame} {meth : Method} {c : Code} {H : Heap} {locs : List Loc} {cells slots : Nat} {Q : State → Prop} {ls : Array Slot} {D : va_G} {cI cZ cJ : ClassId} {ad md : Nat → Nat} {q : Nat} {B M : St} {o : Nat → Int64} {b L : Nat} {xs : Nat → Int32} {np nn nf nr d : Nat} {i : Int32} (C0 : LCx p l s m c b L xs) (hF : LFx D cI cZ cJ ad md q s) (hLS : LSt D cI cZ cJ ad md q s B M o H locs) (hR : Rel B M np nn nf nr d) (hl : lv_has ls 7 (LLo b (ad 0) (md 0) q i)) (hi : ∀ j : Nat, j < 5 → vp_in (i + nI j) L) (hc : cells + 1 ≤ 1092) (hs : slots + 6 ≤ 9356)
    (kk : ∀ (B1 M1 : St) (o1 : Nat → Int64) (H1 : Heap) (locs1 : List Loc) (ls1 : Array Slot), Rl B1 M1 → LSt D cI cZ cJ ad md q s B1 M1 o1 H1 locs1 → lv_has ls1 7 (LLo b (ad 0) (md 0) q i) → W p l e room_1 s m #[Value.ref b] below meth c H1 locs1 (cells + 1) (slots + 6) Q (F0 m 1291 ls1 [])) : W p l e room_1 s m #[Value.ref b] below meth c H locs cells slots Q (F0 m 936 ls []) := by
  obtain ⟨hx, hb, hml, hown, hts, hX, hbl, hst⟩ := C0
  obtain ⟨B1, M1, ro, co, rb, hB, hM, hRl, hth, hal, hro⟩ := sim_fails hR (xs (i + nI 1).toNatClampNeg)
  refine lv_aload_n hx hb dL_law_936 rfl (lv_at hl 1 rfl) ?_
  refine l_ld hx hb hX hbl hLS.2.2 hl (nI 1) (by decide) (hi 1 (by omega)) dL_law_937 dL_law_938 dL_law_940 dL_law_941 dL_law_942 ?_
  refine lv_aload_n hx hb dL_law_943 rfl (lv_at hl 3 rfl) ?_
  refine l_callW (B' := B1) (o' := (if co = 0 then vp_updL o 0 (Int32.toInt64 ro) else o)) (r := ps13 co) [.ref (ad 0), .int (xs (i + nI 1).toNatClampNeg), .ref q] [] ⟨hx, hb, hml, hown, hts⟩ (kL_fails l hst D ad cI cZ cJ q hF.2.1.1 hF.2.2.1.1 B (xs (i + nI 1).toNatClampNeg) o B1 ro co hB hal) (vx_cwSW 3 hts gL_law_L_fails rfl rfl rfl (by decide +kernel) ⟨Nat.le_of_ble_eq_true rfl, Nat.le_of_ble_eq_true rfl⟩) hF hLS rfl hl.1 rfl (Nat.le_of_ble_eq_true rfl) dL_law_944 hc hs (fun H locs hLS => ?_)
  refine lv_istore (lv' := [(5, .int (ps13 co)), (0, .ref b), (1, .ref (ad 0)), (2, .ref (md 0)), (3, .ref q), (4, .int i)]) hx hb dL_law_947 hl (by decide) rfl (fun ls hl => ?_)
  have hl5 : lv_has ls 7 (LLo b (ad 0) (md 0) q i) := lv_sub hl [1, 2, 3, 4, 5] rfl
  refine lv_aload_n hx hb dL_law_949 rfl (lv_at hl 3 rfl) ?_
  refine l_ld hx hb hX hbl hLS.2.2 hl5 (nI 1) (by decide) (hi 1 (by omega)) dL_law_950 dL_law_951 dL_law_953 dL_law_954 dL_law_955 ?_
  refine l_callM (M' := M1) (r := rb) [.int (xs (i + nI 1).toNatClampNeg)] [] ⟨hx, hb, hml, hown, hts⟩ (kX7_fails l D md cI cZ hF.2.1.2 M (xs (i + nI 1).toNatClampNeg) M1 rb hM) (cwV 1 hts gL_law_X7_fails rfl rfl rfl (by decide +kernel) ⟨Nat.le_of_ble_eq_true rfl, Nat.le_of_ble_eq_true rfl⟩) hF hLS rfl hl.1 rfl (Nat.le_of_ble_eq_true rfl) dL_law_956 hc hs (fun H locs hLS => ?_)
  refine lv_istore (lv' := [(6, .int rb), (5, .int (ps13 co)), (0, .ref b), (1, .ref (ad 0)), (2, .ref (md 0)), (3, .ref q), (4, .int i)]) hx hb dL_law_959 hl (by decide) rfl (fun ls hl => ?_)
  refine lv_aload_n hx hb dL_law_961 rfl (lv_at hl 4 rfl) ?_
  refine l_callM (M' := M1) (r := M1.1 0) [] [] ⟨hx, hb, hml, hown, hts⟩ (kX7_thrown l D md cI cZ hF.2.1.2 M1 M1 (M1.1 0) rfl) (cwV 0 hts gL_law_X7_thrown rfl rfl rfl (by decide +kernel) ⟨Nat.le_of_ble_eq_true rfl, Nat.le_of_ble_eq_true rfl⟩) hF hLS rfl hl.1 rfl (Nat.le_of_ble_eq_true rfl) dL_law_962 hc hs (fun H locs hLS => ?_)
  refine lv_iload hx hb dL_law_965 (lv_at hl 1 rfl) ?_
  refine lv_icmp_eq (tgt := 972) hx hb dL_law_967 (by decide) (fun _ => ?_) (fun h => absurd hth h)
  refine lv_iload hx hb dL_law_972 (lv_at hl 1 rfl) ?_
  refine lv_if_ne (tgt := 989) hx hb dL_law_974 (by decide) (fun h => ?_) (fun h => ?_)
  · refine lv_goto (tgt := 1291) hx hb dL_law_989 (by decide) ?_
    exact kk B1 M1 _ H locs ls hRl hLS (lv_sub hl [2, 3, 4, 5, 6] rfl)
  · have hco : co = 0 := hal.resolve_right (fun z => z h)
    subst hco
    refine lv_aload_n hx hb dL_law_977 rfl (lv_at hl 5 rfl) ?_
    refine lv_iconst (v := 0) hx hb dL_law_978 (by decide) ?_
    refine l_lald hx hb hF hLS dL_law_979 ?_
    refine lv_iload hx hb dL_law_980 (lv_at hl 0 rfl) ?_
    refine lv_i2l (v := Int32.toInt64 rb) hx hb dL_law_982 rfl ?_
    refine W.lcmp hx hb dL_law_983 ?_
    refine lv_if_eq (tgt := 989) hx hb dL_law_984 (by decide) (fun _ => ?_) (fun h => absurd (l_cmp0 (congrArg Int32.toInt64 (hro rfl))) h)
    refine lv_goto (tgt := 1291) hx hb dL_law_989 (by decide) ?_
    exact kk B1 M1 _ H locs ls hRl hLS (lv_sub hl [2, 3, 4, 5, 6] rfl)
set_option maxHeartbeats 4000000 in
set_option maxRecDepth 100000 in
theorem lc_canLand {p : Program} {l : Launch} {e : Env} {s : State} {m : MethodId} {below : List Frame} {meth : Method} {c : Code} {H : Heap} {locs : List Loc} {cells slots : Nat} {Q : State → Prop} {ls : Array Slot} {D : va_G} {cI cZ cJ : ClassId} {ad md : Nat → Nat} {q : Nat} {B M : St} {o : Nat → Int64} {b L : Nat} {xs : Nat → Int32} {np nn nf nr d : Nat} {i : Int32} (C0 : LCx p l s m c b L xs) (hF : LFx D cI cZ cJ ad md q s) (hLS : LSt D cI cZ cJ ad md q s B M o H locs) (hR : Rel B M np nn nf nr d) (hl : lv_has ls 7 (LLo b (ad 0) (md 0) q i)) (hi : ∀ j : Nat, j < 5 → vp_in (i + nI j) L) (hc : cells + 1 ≤ 1092) (hs : slots + 6 ≤ 9356)
    (kk : ∀ (B1 M1 : St) (o1 : Nat → Int64) (H1 : Heap) (locs1 : List Loc) (ls1 : Array Slot), Rl B1 M1 → LSt D cI cZ cJ ad md q s B1 M1 o1 H1 locs1 → lv_has ls1 7 (LLo b (ad 0) (md 0) q i) → W p l e room_1 s m #[Value.ref b] below meth c H1 locs1 (cells + 1) (slots + 6) Q (F0 m 1291 ls1 [])) : W p l e room_1 s m #[Value.ref b] below meth c H locs cells slots Q (F0 m 992 ls []) := by
  obtain ⟨hx, hb, hml, hown, hts, hX, hbl, hst⟩ := C0
  obtain ⟨B1, M1, ro, co, rb, hB, hM, hRl, hth, hal, hro⟩ := sim_canLand hR (xs (i + nI 1).toNatClampNeg)
  refine lv_aload_n hx hb dL_law_992 rfl (lv_at hl 1 rfl) ?_
  refine l_ld hx hb hX hbl hLS.2.2 hl (nI 1) (by decide) (hi 1 (by omega)) dL_law_993 dL_law_994 dL_law_996 dL_law_997 dL_law_998 ?_
  refine lv_aload_n hx hb dL_law_999 rfl (lv_at hl 3 rfl) ?_
  refine l_callW (B' := B1) (o' := (if co = 0 then vp_updL o 0 (zb ro) else o)) (r := ps13 co) [.ref (ad 0), .int (xs (i + nI 1).toNatClampNeg), .ref q] [] ⟨hx, hb, hml, hown, hts⟩ (kL_canLand l hst D ad cI cZ cJ q hF.2.1.1 hF.2.2.1.1 B (xs (i + nI 1).toNatClampNeg) o B1 ro co hB hal) (vx_cwSW 3 hts gL_law_L_canLand rfl rfl rfl (by decide +kernel) ⟨Nat.le_of_ble_eq_true rfl, Nat.le_of_ble_eq_true rfl⟩) hF hLS rfl hl.1 rfl (Nat.le_of_ble_eq_true rfl) dL_law_1000 hc hs (fun H locs hLS => ?_)
  refine lv_istore (lv' := [(5, .int (ps13 co)), (0, .ref b), (1, .ref (ad 0)), (2, .ref (md 0)), (3, .ref q), (4, .int i)]) hx hb dL_law_1003 hl (by decide) rfl (fun ls hl => ?_)
  have hl5 : lv_has ls 7 (LLo b (ad 0) (md 0) q i) := lv_sub hl [1, 2, 3, 4, 5] rfl
  refine lv_aload_n hx hb dL_law_1005 rfl (lv_at hl 3 rfl) ?_
  refine l_ld hx hb hX hbl hLS.2.2 hl5 (nI 1) (by decide) (hi 1 (by omega)) dL_law_1006 dL_law_1007 dL_law_1009 dL_law_1010 dL_law_1011 ?_
  refine l_callM (M' := M1) (r := rb) [.int (xs (i + nI 1).toNatClampNeg)] [] ⟨hx, hb, hml, hown, hts⟩ (kX7_canLand l D md cI cZ hF.2.1.2 M (xs (i + nI 1).toNatClampNeg) M1 rb hM) (cwV 1 hts gL_law_X7_canLand rfl rfl rfl (by decide +kernel) ⟨Nat.le_of_ble_eq_true rfl, Nat.le_of_ble_eq_true rfl⟩) hF hLS rfl hl.1 rfl (Nat.le_of_ble_eq_true rfl) dL_law_1012 hc hs (fun H locs hLS => ?_)
  refine lv_istore (lv' := [(6, .int rb), (5, .int (ps13 co)), (0, .ref b), (1, .ref (ad 0)), (2, .ref (md 0)), (3, .ref q), (4, .int i)]) hx hb dL_law_1015 hl (by decide) rfl (fun ls hl => ?_)
  refine lv_aload_n hx hb dL_law_1017 rfl (lv_at hl 4 rfl) ?_
  refine l_callM (M' := M1) (r := M1.1 0) [] [] ⟨hx, hb, hml, hown, hts⟩ (kX7_thrown l D md cI cZ hF.2.1.2 M1 M1 (M1.1 0) rfl) (cwV 0 hts gL_law_X7_thrown rfl rfl rfl (by decide +kernel) ⟨Nat.le_of_ble_eq_true rfl, Nat.le_of_ble_eq_true rfl⟩) hF hLS rfl hl.1 rfl (Nat.le_of_ble_eq_true rfl) dL_law_1018 hc hs (fun H locs hLS => ?_)
  refine lv_iload hx hb dL_law_1021 (lv_at hl 1 rfl) ?_
  refine lv_icmp_eq (tgt := 1028) hx hb dL_law_1023 (by decide) (fun _ => ?_) (fun h => absurd hth h)
  refine lv_iload hx hb dL_law_1028 (lv_at hl 1 rfl) ?_
  refine lv_if_ne (tgt := 1052) hx hb dL_law_1030 (by decide) (fun h => ?_) (fun h => ?_)
  · refine lv_goto (tgt := 1291) hx hb dL_law_1052 (by decide) ?_
    exact kk B1 M1 _ H locs ls hRl hLS (lv_sub hl [2, 3, 4, 5, 6] rfl)
  · have hco : co = 0 := hal.resolve_right (fun z => z h)
    subst hco
    refine lv_aload_n hx hb dL_law_1033 rfl (lv_at hl 5 rfl) ?_
    refine lv_iconst (v := 0) hx hb dL_law_1034 (by decide) ?_
    refine l_lald hx hb hF hLS dL_law_1035 ?_
    refine lv_iload hx hb dL_law_1036 (lv_at hl 0 rfl) ?_
    refine lv_if_eq (tgt := 1045) hx hb dL_law_1038 (by decide) (fun hz => ?_) (fun hz => ?_)
    · refine lv_lconst (v := 0) hx hb dL_law_1045 rfl ?_
      refine W.lcmp hx hb dL_law_1046 ?_
      refine lv_if_eq (tgt := 1052) hx hb dL_law_1047 (by decide) (fun _ => ?_) (fun h => absurd (l_cmp0 (show zb ro = 0 from by rw [hro rfl]; unfold zb; rw [if_pos hz])) h)
      refine lv_goto (tgt := 1291) hx hb dL_law_1052 (by decide) ?_
      exact kk B1 M1 _ H locs ls hRl hLS (lv_sub hl [2, 3, 4, 5, 6] rfl)
    · refine lv_lconst (v := 1) hx hb dL_law_1041 rfl ?_
      refine lv_goto (tgt := 1046) hx hb dL_law_1042 (by decide) ?_
      refine W.lcmp hx hb dL_law_1046 ?_
      refine lv_if_eq (tgt := 1052) hx hb dL_law_1047 (by decide) (fun _ => ?_) (fun h => absurd (l_cmp0 (show zb ro = 1 from by rw [hro rfl]; unfold zb; rw [if_neg hz])) h)
      refine lv_goto (tgt := 1291) hx hb dL_law_1052 (by decide) ?_
      exact kk B1 M1 _ H locs ls hRl hLS (lv_sub hl [2, 3, 4, 5, 6] rfl)
set_option maxHeartbeats 4000000 in
set_option maxRecDepth 100000 in
theorem lc_load {p : Program} {l : Launch} {e : Env} {s : State} {m : MethodId} {below : List Frame} {meth : Method} {c : Code} {H : Heap} {locs : List Loc} {cells slots : Nat} {Q : State → Prop} {ls : Array Slot} {D : va_G} {cI cZ cJ : ClassId} {ad md : Nat → Nat} {q : Nat} {B M : St} {o : Nat → Int64} {b L : Nat} {xs : Nat → Int32} {np nn nf nr d : Nat} {i : Int32} (C0 : LCx p l s m c b L xs) (hF : LFx D cI cZ cJ ad md q s) (hLS : LSt D cI cZ cJ ad md q s B M o H locs) (hR : Rel B M np nn nf nr d) (hl : lv_has ls 7 (LLo b (ad 0) (md 0) q i)) (hi : ∀ j : Nat, j < 5 → vp_in (i + nI j) L) (hc : cells + 1 ≤ 1092) (hs : slots + 6 ≤ 9356)
    (kk : ∀ (B1 M1 : St) (o1 : Nat → Int64) (H1 : Heap) (locs1 : List Loc) (ls1 : Array Slot), Rl B1 M1 → LSt D cI cZ cJ ad md q s B1 M1 o1 H1 locs1 → lv_has ls1 7 (LLo b (ad 0) (md 0) q i) → W p l e room_1 s m #[Value.ref b] below meth c H1 locs1 (cells + 1) (slots + 6) Q (F0 m 1291 ls1 [])) : W p l e room_1 s m #[Value.ref b] below meth c H locs cells slots Q (F0 m 1055 ls []) := by
  obtain ⟨hx, hb, hml, hown, hts, hX, hbl, hst⟩ := C0
  obtain ⟨B1, M1, ro, co, rb, hB, hM, hRl, hth, hal, hro⟩ := sim_load hR (xs (i + nI 1).toNatClampNeg)
  refine lv_aload_n hx hb dL_law_1055 rfl (lv_at hl 1 rfl) ?_
  refine l_ld hx hb hX hbl hLS.2.2 hl (nI 1) (by decide) (hi 1 (by omega)) dL_law_1056 dL_law_1057 dL_law_1059 dL_law_1060 dL_law_1061 ?_
  refine lv_aload_n hx hb dL_law_1062 rfl (lv_at hl 3 rfl) ?_
  refine l_callW (B' := B1) (o' := (if co = 0 then vp_updL o 0 (Int32.toInt64 ro) else o)) (r := ps1 co) [.ref (ad 0), .int (xs (i + nI 1).toNatClampNeg), .ref q] [] ⟨hx, hb, hml, hown, hts⟩ (kL_load l hst D ad cI cZ cJ q hF.2.1.1 hF.2.2.1.1 B (xs (i + nI 1).toNatClampNeg) o B1 ro co hB hal) (vx_cwSW 3 hts gL_law_L_load rfl rfl rfl (by decide +kernel) ⟨Nat.le_of_ble_eq_true rfl, Nat.le_of_ble_eq_true rfl⟩) hF hLS rfl hl.1 rfl (Nat.le_of_ble_eq_true rfl) dL_law_1063 hc hs (fun H locs hLS => ?_)
  refine lv_istore (lv' := [(5, .int (ps1 co)), (0, .ref b), (1, .ref (ad 0)), (2, .ref (md 0)), (3, .ref q), (4, .int i)]) hx hb dL_law_1066 hl (by decide) rfl (fun ls hl => ?_)
  have hl5 : lv_has ls 7 (LLo b (ad 0) (md 0) q i) := lv_sub hl [1, 2, 3, 4, 5] rfl
  refine lv_aload_n hx hb dL_law_1068 rfl (lv_at hl 3 rfl) ?_
  refine l_ld hx hb hX hbl hLS.2.2 hl5 (nI 1) (by decide) (hi 1 (by omega)) dL_law_1069 dL_law_1070 dL_law_1072 dL_law_1073 dL_law_1074 ?_
  refine l_callM (M' := M1) (r := rb) [.int (xs (i + nI 1).toNatClampNeg)] [] ⟨hx, hb, hml, hown, hts⟩ (kX7_load l D md cI cZ hF.2.1.2 M (xs (i + nI 1).toNatClampNeg) M1 rb hM) (cwV 1 hts gL_law_X7_load rfl rfl rfl (by decide +kernel) ⟨Nat.le_of_ble_eq_true rfl, Nat.le_of_ble_eq_true rfl⟩) hF hLS rfl hl.1 rfl (Nat.le_of_ble_eq_true rfl) dL_law_1075 hc hs (fun H locs hLS => ?_)
  refine lv_istore (lv' := [(6, .int rb), (5, .int (ps1 co)), (0, .ref b), (1, .ref (ad 0)), (2, .ref (md 0)), (3, .ref q), (4, .int i)]) hx hb dL_law_1078 hl (by decide) rfl (fun ls hl => ?_)
  refine lv_aload_n hx hb dL_law_1080 rfl (lv_at hl 4 rfl) ?_
  refine l_callM (M' := M1) (r := M1.1 0) [] [] ⟨hx, hb, hml, hown, hts⟩ (kX7_thrown l D md cI cZ hF.2.1.2 M1 M1 (M1.1 0) rfl) (cwV 0 hts gL_law_X7_thrown rfl rfl rfl (by decide +kernel) ⟨Nat.le_of_ble_eq_true rfl, Nat.le_of_ble_eq_true rfl⟩) hF hLS rfl hl.1 rfl (Nat.le_of_ble_eq_true rfl) dL_law_1081 hc hs (fun H locs hLS => ?_)
  refine lv_iload hx hb dL_law_1084 (lv_at hl 1 rfl) ?_
  refine lv_icmp_eq (tgt := 1091) hx hb dL_law_1086 (by decide) (fun _ => ?_) (fun h => absurd hth h)
  refine lv_iload hx hb dL_law_1091 (lv_at hl 1 rfl) ?_
  refine lv_if_ne (tgt := 1108) hx hb dL_law_1093 (by decide) (fun h => ?_) (fun h => ?_)
  · refine lv_goto (tgt := 1291) hx hb dL_law_1108 (by decide) ?_
    exact kk B1 M1 _ H locs ls hRl hLS (lv_sub hl [2, 3, 4, 5, 6] rfl)
  · have hco : co = 0 := hal.resolve_right (fun z => z h)
    subst hco
    refine lv_aload_n hx hb dL_law_1096 rfl (lv_at hl 5 rfl) ?_
    refine lv_iconst (v := 0) hx hb dL_law_1097 (by decide) ?_
    refine l_lald hx hb hF hLS dL_law_1098 ?_
    refine lv_iload hx hb dL_law_1099 (lv_at hl 0 rfl) ?_
    refine lv_i2l (v := Int32.toInt64 rb) hx hb dL_law_1101 rfl ?_
    refine W.lcmp hx hb dL_law_1102 ?_
    refine lv_if_eq (tgt := 1108) hx hb dL_law_1103 (by decide) (fun _ => ?_) (fun h => absurd (l_cmp0 (congrArg Int32.toInt64 (hro rfl))) h)
    refine lv_goto (tgt := 1291) hx hb dL_law_1108 (by decide) ?_
    exact kk B1 M1 _ H locs ls hRl hLS (lv_sub hl [2, 3, 4, 5, 6] rfl)
set_option maxHeartbeats 4000000 in
set_option maxRecDepth 100000 in
theorem lc_fewest {p : Program} {l : Launch} {e : Env} {s : State} {m : MethodId} {below : List Frame} {meth : Method} {c : Code} {H : Heap} {locs : List Loc} {cells slots : Nat} {Q : State → Prop} {ls : Array Slot} {D : va_G} {cI cZ cJ : ClassId} {ad md : Nat → Nat} {q : Nat} {B M : St} {o : Nat → Int64} {b L : Nat} {xs : Nat → Int32} {np nn nf nr d : Nat} {i : Int32} (C0 : LCx p l s m c b L xs) (hF : LFx D cI cZ cJ ad md q s) (hLS : LSt D cI cZ cJ ad md q s B M o H locs) (hR : Rel B M np nn nf nr d) (hl : lv_has ls 7 (LLo b (ad 0) (md 0) q i)) (hi : ∀ j : Nat, j < 5 → vp_in (i + nI j) L) (hc : cells + 1 ≤ 1092) (hs : slots + 6 ≤ 9356)
    (kk : ∀ (B1 M1 : St) (o1 : Nat → Int64) (H1 : Heap) (locs1 : List Loc) (ls1 : Array Slot), Rl B1 M1 → LSt D cI cZ cJ ad md q s B1 M1 o1 H1 locs1 → lv_has ls1 7 (LLo b (ad 0) (md 0) q i) → W p l e room_1 s m #[Value.ref b] below meth c H1 locs1 (cells + 1) (slots + 6) Q (F0 m 1291 ls1 [])) : W p l e room_1 s m #[Value.ref b] below meth c H locs cells slots Q (F0 m 1111 ls []) := by
  obtain ⟨hx, hb, hml, hown, hts, hX, hbl, hst⟩ := C0
  obtain ⟨B1, M1, ro, co, rb, hB, hM, hRl, hth, hal, hro⟩ := sim_fewest hR (xs (i + nI 1).toNatClampNeg)
  refine lv_aload_n hx hb dL_law_1111 rfl (lv_at hl 1 rfl) ?_
  refine l_ld hx hb hX hbl hLS.2.2 hl (nI 1) (by decide) (hi 1 (by omega)) dL_law_1112 dL_law_1113 dL_law_1115 dL_law_1116 dL_law_1117 ?_
  refine lv_aload_n hx hb dL_law_1118 rfl (lv_at hl 3 rfl) ?_
  refine l_callW (B' := B1) (o' := (if co = 0 then vp_updL o 0 (Int32.toInt64 ro) else o)) (r := ps13 co) [.ref (ad 0), .int (xs (i + nI 1).toNatClampNeg), .ref q] [] ⟨hx, hb, hml, hown, hts⟩ (kL_fewest l hst D ad cI cZ cJ q hF.2.1.1 hF.2.2.1.1 B (xs (i + nI 1).toNatClampNeg) o B1 ro co hB hal) (vx_cwSW 3 hts gL_law_L_fewest rfl rfl rfl (by decide +kernel) ⟨Nat.le_of_ble_eq_true rfl, Nat.le_of_ble_eq_true rfl⟩) hF hLS rfl hl.1 rfl (Nat.le_of_ble_eq_true rfl) dL_law_1119 hc hs (fun H locs hLS => ?_)
  refine lv_istore (lv' := [(5, .int (ps13 co)), (0, .ref b), (1, .ref (ad 0)), (2, .ref (md 0)), (3, .ref q), (4, .int i)]) hx hb dL_law_1122 hl (by decide) rfl (fun ls hl => ?_)
  have hl5 : lv_has ls 7 (LLo b (ad 0) (md 0) q i) := lv_sub hl [1, 2, 3, 4, 5] rfl
  refine lv_aload_n hx hb dL_law_1124 rfl (lv_at hl 3 rfl) ?_
  refine l_ld hx hb hX hbl hLS.2.2 hl5 (nI 1) (by decide) (hi 1 (by omega)) dL_law_1125 dL_law_1126 dL_law_1128 dL_law_1129 dL_law_1130 ?_
  refine l_callM (M' := M1) (r := rb) [.int (xs (i + nI 1).toNatClampNeg)] [] ⟨hx, hb, hml, hown, hts⟩ (kX7_fewest l D md cI cZ hF.2.1.2 M (xs (i + nI 1).toNatClampNeg) M1 rb hM) (cwV 1 hts gL_law_X7_fewest rfl rfl rfl (by decide +kernel) ⟨Nat.le_of_ble_eq_true rfl, Nat.le_of_ble_eq_true rfl⟩) hF hLS rfl hl.1 rfl (Nat.le_of_ble_eq_true rfl) dL_law_1131 hc hs (fun H locs hLS => ?_)
  refine lv_istore (lv' := [(6, .int rb), (5, .int (ps13 co)), (0, .ref b), (1, .ref (ad 0)), (2, .ref (md 0)), (3, .ref q), (4, .int i)]) hx hb dL_law_1134 hl (by decide) rfl (fun ls hl => ?_)
  refine lv_aload_n hx hb dL_law_1136 rfl (lv_at hl 4 rfl) ?_
  refine l_callM (M' := M1) (r := M1.1 0) [] [] ⟨hx, hb, hml, hown, hts⟩ (kX7_thrown l D md cI cZ hF.2.1.2 M1 M1 (M1.1 0) rfl) (cwV 0 hts gL_law_X7_thrown rfl rfl rfl (by decide +kernel) ⟨Nat.le_of_ble_eq_true rfl, Nat.le_of_ble_eq_true rfl⟩) hF hLS rfl hl.1 rfl (Nat.le_of_ble_eq_true rfl) dL_law_1137 hc hs (fun H locs hLS => ?_)
  refine lv_iload hx hb dL_law_1140 (lv_at hl 1 rfl) ?_
  refine lv_icmp_eq (tgt := 1147) hx hb dL_law_1142 (by decide) (fun _ => ?_) (fun h => absurd hth h)
  refine lv_iload hx hb dL_law_1147 (lv_at hl 1 rfl) ?_
  refine lv_if_ne (tgt := 1164) hx hb dL_law_1149 (by decide) (fun h => ?_) (fun h => ?_)
  · refine lv_goto (tgt := 1291) hx hb dL_law_1164 (by decide) ?_
    exact kk B1 M1 _ H locs ls hRl hLS (lv_sub hl [2, 3, 4, 5, 6] rfl)
  · have hco : co = 0 := hal.resolve_right (fun z => z h)
    subst hco
    refine lv_aload_n hx hb dL_law_1152 rfl (lv_at hl 5 rfl) ?_
    refine lv_iconst (v := 0) hx hb dL_law_1153 (by decide) ?_
    refine l_lald hx hb hF hLS dL_law_1154 ?_
    refine lv_iload hx hb dL_law_1155 (lv_at hl 0 rfl) ?_
    refine lv_i2l (v := Int32.toInt64 rb) hx hb dL_law_1157 rfl ?_
    refine W.lcmp hx hb dL_law_1158 ?_
    refine lv_if_eq (tgt := 1164) hx hb dL_law_1159 (by decide) (fun _ => ?_) (fun h => absurd (l_cmp0 (congrArg Int32.toInt64 (hro rfl))) h)
    refine lv_goto (tgt := 1291) hx hb dL_law_1164 (by decide) ?_
    exact kk B1 M1 _ H locs ls hRl hLS (lv_sub hl [2, 3, 4, 5, 6] rfl)
set_option maxHeartbeats 4000000 in
set_option maxRecDepth 100000 in
theorem lc_fewestAnew {p : Program} {l : Launch} {e : Env} {s : State} {m : MethodId} {below : List Frame} {meth : Method} {c : Code} {H : Heap} {locs : List Loc} {cells slots : Nat} {Q : State → Prop} {ls : Array Slot} {D : va_G} {cI cZ cJ : ClassId} {ad md : Nat → Nat} {q : Nat} {B M : St} {o : Nat → Int64} {b L : Nat} {xs : Nat → Int32} {np nn nf nr d : Nat} {i : Int32} (C0 : LCx p l s m c b L xs) (hF : LFx D cI cZ cJ ad md q s) (hLS : LSt D cI cZ cJ ad md q s B M o H locs) (hR : Rel B M np nn nf nr d) (hl : lv_has ls 7 (LLo b (ad 0) (md 0) q i)) (hi : ∀ j : Nat, j < 5 → vp_in (i + nI j) L) (hc : cells + 1 ≤ 1092) (hs : slots + 6 ≤ 9356)
    (kk : ∀ (B1 M1 : St) (o1 : Nat → Int64) (H1 : Heap) (locs1 : List Loc) (ls1 : Array Slot), Rl B1 M1 → LSt D cI cZ cJ ad md q s B1 M1 o1 H1 locs1 → lv_has ls1 7 (LLo b (ad 0) (md 0) q i) → W p l e room_1 s m #[Value.ref b] below meth c H1 locs1 (cells + 1) (slots + 6) Q (F0 m 1291 ls1 [])) : W p l e room_1 s m #[Value.ref b] below meth c H locs cells slots Q (F0 m 1167 ls []) := by
  obtain ⟨hx, hb, hml, hown, hts, hX, hbl, hst⟩ := C0
  obtain ⟨B1, M1, ro, co, rb, hB, hM, hRl, hth, hal, hro⟩ := sim_fewestAnew hR (xs (i + nI 1).toNatClampNeg)
  refine lv_aload_n hx hb dL_law_1167 rfl (lv_at hl 1 rfl) ?_
  refine l_ld hx hb hX hbl hLS.2.2 hl (nI 1) (by decide) (hi 1 (by omega)) dL_law_1168 dL_law_1169 dL_law_1171 dL_law_1172 dL_law_1173 ?_
  refine lv_aload_n hx hb dL_law_1174 rfl (lv_at hl 3 rfl) ?_
  refine l_callW (B' := B1) (o' := (if co = 0 then vp_updL o 0 (Int32.toInt64 ro) else o)) (r := ps13 co) [.ref (ad 0), .int (xs (i + nI 1).toNatClampNeg), .ref q] [] ⟨hx, hb, hml, hown, hts⟩ (kL_fewestAnew l hst D ad cI cZ cJ q hF.2.1.1 hF.2.2.1.1 B (xs (i + nI 1).toNatClampNeg) o B1 ro co hB hal) (vx_cwSW 3 hts gL_law_L_fewestAnew rfl rfl rfl (by decide +kernel) ⟨Nat.le_of_ble_eq_true rfl, Nat.le_of_ble_eq_true rfl⟩) hF hLS rfl hl.1 rfl (Nat.le_of_ble_eq_true rfl) dL_law_1175 hc hs (fun H locs hLS => ?_)
  refine lv_istore (lv' := [(5, .int (ps13 co)), (0, .ref b), (1, .ref (ad 0)), (2, .ref (md 0)), (3, .ref q), (4, .int i)]) hx hb dL_law_1178 hl (by decide) rfl (fun ls hl => ?_)
  have hl5 : lv_has ls 7 (LLo b (ad 0) (md 0) q i) := lv_sub hl [1, 2, 3, 4, 5] rfl
  refine lv_aload_n hx hb dL_law_1180 rfl (lv_at hl 3 rfl) ?_
  refine l_ld hx hb hX hbl hLS.2.2 hl5 (nI 1) (by decide) (hi 1 (by omega)) dL_law_1181 dL_law_1182 dL_law_1184 dL_law_1185 dL_law_1186 ?_
  refine l_callM (M' := M1) (r := rb) [.int (xs (i + nI 1).toNatClampNeg)] [] ⟨hx, hb, hml, hown, hts⟩ (kX7_fewestAnew l D md cI cZ hF.2.1.2 M (xs (i + nI 1).toNatClampNeg) M1 rb hM) (cwV 1 hts gL_law_X7_fewestAnew rfl rfl rfl (by decide +kernel) ⟨Nat.le_of_ble_eq_true rfl, Nat.le_of_ble_eq_true rfl⟩) hF hLS rfl hl.1 rfl (Nat.le_of_ble_eq_true rfl) dL_law_1187 hc hs (fun H locs hLS => ?_)
  refine lv_istore (lv' := [(6, .int rb), (5, .int (ps13 co)), (0, .ref b), (1, .ref (ad 0)), (2, .ref (md 0)), (3, .ref q), (4, .int i)]) hx hb dL_law_1190 hl (by decide) rfl (fun ls hl => ?_)
  refine lv_aload_n hx hb dL_law_1192 rfl (lv_at hl 4 rfl) ?_
  refine l_callM (M' := M1) (r := M1.1 0) [] [] ⟨hx, hb, hml, hown, hts⟩ (kX7_thrown l D md cI cZ hF.2.1.2 M1 M1 (M1.1 0) rfl) (cwV 0 hts gL_law_X7_thrown rfl rfl rfl (by decide +kernel) ⟨Nat.le_of_ble_eq_true rfl, Nat.le_of_ble_eq_true rfl⟩) hF hLS rfl hl.1 rfl (Nat.le_of_ble_eq_true rfl) dL_law_1193 hc hs (fun H locs hLS => ?_)
  refine lv_iload hx hb dL_law_1196 (lv_at hl 1 rfl) ?_
  refine lv_icmp_eq (tgt := 1203) hx hb dL_law_1198 (by decide) (fun _ => ?_) (fun h => absurd hth h)
  refine lv_iload hx hb dL_law_1203 (lv_at hl 1 rfl) ?_
  refine lv_if_ne (tgt := 1220) hx hb dL_law_1205 (by decide) (fun h => ?_) (fun h => ?_)
  · refine lv_goto (tgt := 1291) hx hb dL_law_1220 (by decide) ?_
    exact kk B1 M1 _ H locs ls hRl hLS (lv_sub hl [2, 3, 4, 5, 6] rfl)
  · have hco : co = 0 := hal.resolve_right (fun z => z h)
    subst hco
    refine lv_aload_n hx hb dL_law_1208 rfl (lv_at hl 5 rfl) ?_
    refine lv_iconst (v := 0) hx hb dL_law_1209 (by decide) ?_
    refine l_lald hx hb hF hLS dL_law_1210 ?_
    refine lv_iload hx hb dL_law_1211 (lv_at hl 0 rfl) ?_
    refine lv_i2l (v := Int32.toInt64 rb) hx hb dL_law_1213 rfl ?_
    refine W.lcmp hx hb dL_law_1214 ?_
    refine lv_if_eq (tgt := 1220) hx hb dL_law_1215 (by decide) (fun _ => ?_) (fun h => absurd (l_cmp0 (congrArg Int32.toInt64 (hro rfl))) h)
    refine lv_goto (tgt := 1291) hx hb dL_law_1220 (by decide) ?_
    exact kk B1 M1 _ H locs ls hRl hLS (lv_sub hl [2, 3, 4, 5, 6] rfl)
set_option maxHeartbeats 4000000 in
set_option maxRecDepth 100000 in
theorem lc_told {p : Program} {l : Launch} {e : Env} {s : State} {m : MethodId} {below : List Frame} {meth : Method} {c : Code} {H : Heap} {locs : List Loc} {cells slots : Nat} {Q : State → Prop} {ls : Array Slot} {D : va_G} {cI cZ cJ : ClassId} {ad md : Nat → Nat} {q : Nat} {B M : St} {o : Nat → Int64} {b L : Nat} {xs : Nat → Int32} {np nn nf nr d : Nat} {i : Int32} (C0 : LCx p l s m c b L xs) (hF : LFx D cI cZ cJ ad md q s) (hLS : LSt D cI cZ cJ ad md q s B M o H locs) (hR : Rel B M np nn nf nr d) (hl : lv_has ls 7 (LLo b (ad 0) (md 0) q i)) (hi : ∀ j : Nat, j < 5 → vp_in (i + nI j) L) (hc : cells + 1 ≤ 1092) (hs : slots + 6 ≤ 9356)
    (kk : ∀ (B1 M1 : St) (o1 : Nat → Int64) (H1 : Heap) (locs1 : List Loc) (ls1 : Array Slot), Rl B1 M1 → LSt D cI cZ cJ ad md q s B1 M1 o1 H1 locs1 → lv_has ls1 7 (LLo b (ad 0) (md 0) q i) → W p l e room_1 s m #[Value.ref b] below meth c H1 locs1 (cells + 1) (slots + 6) Q (F0 m 1291 ls1 [])) : W p l e room_1 s m #[Value.ref b] below meth c H locs cells slots Q (F0 m 1223 ls []) := by
  obtain ⟨hx, hb, hml, hown, hts, hX, hbl, hst⟩ := C0
  obtain ⟨B1, M1, ro, co, rb, hB, hM, hRl, hth, hal, hro⟩ := sim_told hR (xs (i + nI 1).toNatClampNeg) (xs (i + nI 2).toNatClampNeg)
  refine lv_aload_n hx hb dL_law_1223 rfl (lv_at hl 1 rfl) ?_
  refine l_ld hx hb hX hbl hLS.2.2 hl (nI 1) (by decide) (hi 1 (by omega)) dL_law_1224 dL_law_1225 dL_law_1227 dL_law_1228 dL_law_1229 ?_
  refine l_ld hx hb hX hbl hLS.2.2 hl (nI 2) (by decide) (hi 2 (by omega)) dL_law_1230 dL_law_1231 dL_law_1233 dL_law_1234 dL_law_1235 ?_
  refine lv_aload_n hx hb dL_law_1236 rfl (lv_at hl 3 rfl) ?_
  refine l_callW (B' := B1) (o' := (if co = 0 then vp_updL o 0 (Int32.toInt64 ro) else o)) (r := ps13 co) [.ref (ad 0), .int (xs (i + nI 1).toNatClampNeg), .int (xs (i + nI 2).toNatClampNeg), .ref q] [] ⟨hx, hb, hml, hown, hts⟩ (kL_told l hst D ad cI cZ cJ q hF.2.1.1 hF.2.2.1.1 B (xs (i + nI 1).toNatClampNeg) (xs (i + nI 2).toNatClampNeg) o B1 ro co hB hal) (vx_cwSW 4 hts gL_law_L_told rfl rfl rfl (by decide +kernel) ⟨Nat.le_of_ble_eq_true rfl, Nat.le_of_ble_eq_true rfl⟩) hF hLS rfl hl.1 rfl (Nat.le_of_ble_eq_true rfl) dL_law_1237 hc hs (fun H locs hLS => ?_)
  refine lv_istore (lv' := [(5, .int (ps13 co)), (0, .ref b), (1, .ref (ad 0)), (2, .ref (md 0)), (3, .ref q), (4, .int i)]) hx hb dL_law_1240 hl (by decide) rfl (fun ls hl => ?_)
  have hl5 : lv_has ls 7 (LLo b (ad 0) (md 0) q i) := lv_sub hl [1, 2, 3, 4, 5] rfl
  refine lv_aload_n hx hb dL_law_1242 rfl (lv_at hl 3 rfl) ?_
  refine l_ld hx hb hX hbl hLS.2.2 hl5 (nI 1) (by decide) (hi 1 (by omega)) dL_law_1243 dL_law_1244 dL_law_1246 dL_law_1247 dL_law_1248 ?_
  refine l_ld hx hb hX hbl hLS.2.2 hl5 (nI 2) (by decide) (hi 2 (by omega)) dL_law_1249 dL_law_1250 dL_law_1252 dL_law_1253 dL_law_1254 ?_
  refine l_callM (M' := M1) (r := rb) [.int (xs (i + nI 1).toNatClampNeg), .int (xs (i + nI 2).toNatClampNeg)] [] ⟨hx, hb, hml, hown, hts⟩ (kX7_told l D md cI cZ hF.2.1.2 M (xs (i + nI 1).toNatClampNeg) (xs (i + nI 2).toNatClampNeg) M1 rb hM) (cwV 2 hts gL_law_X7_told rfl rfl rfl (by decide +kernel) ⟨Nat.le_of_ble_eq_true rfl, Nat.le_of_ble_eq_true rfl⟩) hF hLS rfl hl.1 rfl (Nat.le_of_ble_eq_true rfl) dL_law_1255 hc hs (fun H locs hLS => ?_)
  refine lv_istore (lv' := [(6, .int rb), (5, .int (ps13 co)), (0, .ref b), (1, .ref (ad 0)), (2, .ref (md 0)), (3, .ref q), (4, .int i)]) hx hb dL_law_1258 hl (by decide) rfl (fun ls hl => ?_)
  refine lv_aload_n hx hb dL_law_1260 rfl (lv_at hl 4 rfl) ?_
  refine l_callM (M' := M1) (r := M1.1 0) [] [] ⟨hx, hb, hml, hown, hts⟩ (kX7_thrown l D md cI cZ hF.2.1.2 M1 M1 (M1.1 0) rfl) (cwV 0 hts gL_law_X7_thrown rfl rfl rfl (by decide +kernel) ⟨Nat.le_of_ble_eq_true rfl, Nat.le_of_ble_eq_true rfl⟩) hF hLS rfl hl.1 rfl (Nat.le_of_ble_eq_true rfl) dL_law_1261 hc hs (fun H locs hLS => ?_)
  refine lv_iload hx hb dL_law_1264 (lv_at hl 1 rfl) ?_
  refine lv_icmp_eq (tgt := 1271) hx hb dL_law_1266 (by decide) (fun _ => ?_) (fun h => absurd hth h)
  refine lv_iload hx hb dL_law_1271 (lv_at hl 1 rfl) ?_
  refine lv_if_ne (tgt := 1288) hx hb dL_law_1273 (by decide) (fun h => ?_) (fun h => ?_)
  · refine lv_goto (tgt := 1291) hx hb dL_law_1288 (by decide) ?_
    exact kk B1 M1 _ H locs ls hRl hLS (lv_sub hl [2, 3, 4, 5, 6] rfl)
  · have hco : co = 0 := hal.resolve_right (fun z => z h)
    subst hco
    refine lv_aload_n hx hb dL_law_1276 rfl (lv_at hl 5 rfl) ?_
    refine lv_iconst (v := 0) hx hb dL_law_1277 (by decide) ?_
    refine l_lald hx hb hF hLS dL_law_1278 ?_
    refine lv_iload hx hb dL_law_1279 (lv_at hl 0 rfl) ?_
    refine lv_i2l (v := Int32.toInt64 rb) hx hb dL_law_1281 rfl ?_
    refine W.lcmp hx hb dL_law_1282 ?_
    refine lv_if_eq (tgt := 1288) hx hb dL_law_1283 (by decide) (fun _ => ?_) (fun h => absurd (l_cmp0 (congrArg Int32.toInt64 (hro rfl))) h)
    refine lv_goto (tgt := 1291) hx hb dL_law_1288 (by decide) ?_
    exact kk B1 M1 _ H locs ls hRl hLS (lv_sub hl [2, 3, 4, 5, 6] rfl)
