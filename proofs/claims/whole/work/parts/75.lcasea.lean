/-! the cases of the law's switch, first half -/
set_option maxHeartbeats 4000000 in
set_option maxRecDepth 100000 in
theorem lc_pack {p : Program} {l : Launch} {e : Env} {s : State} {m : MethodId} {below : List Frame} {meth : Method} {c : Code} {H : Heap} {locs : List Loc} {cells slots : Nat} {Q : State → Prop} {ls : Array Slot} {D : va_G} {cI cZ cJ : ClassId} {ad md : Nat → Nat} {q : Nat} {B M : St} {o : Nat → Int64} {b L : Nat} {xs : Nat → Int32} {np nn nf nr d : Nat} {i : Int32} (C0 : LCx p l s m c b L xs) (hF : LFx D cI cZ cJ ad md q s) (hLS : LSt D cI cZ cJ ad md q s B M o H locs) (hR : Rel B M np nn nf nr d) (hl : lv_has ls 7 (LLo b (ad 0) (md 0) q i)) (hi : ∀ j : Nat, j < 5 → vp_in (i + nI j) L) (hc : cells + 1 ≤ 1092) (hs : slots + 6 ≤ 9356)
    (kk : ∀ (B1 M1 : St) (o1 : Nat → Int64) (H1 : Heap) (locs1 : List Loc) (ls1 : Array Slot), Rl B1 M1 → LSt D cI cZ cJ ad md q s B1 M1 o1 H1 locs1 → lv_has ls1 7 (LLo b (ad 0) (md 0) q i) → W p l e room_1 s m #[Value.ref b] below meth c H1 locs1 (cells + 1) (slots + 6) Q (F0 m 1291 ls1 [])) : W p l e room_1 s m #[Value.ref b] below meth c H locs cells slots Q (F0 m 128 ls []) := by
  obtain ⟨hx, hb, hml, hown, hts, hX, hbl, hst⟩ := C0
  obtain ⟨B1, M1, ro, co, rb, hB, hM, hRl, hth, hal, hro⟩ := sim_pack hR (xs (i + nI 1).toNatClampNeg)
  refine lv_aload_n hx hb dL_law_128 rfl (lv_at hl 1 rfl) ?_
  refine l_ld hx hb hX hbl hLS.2.2 hl (nI 1) (by decide) (hi 1 (by omega)) dL_law_129 dL_law_130 dL_law_132 dL_law_133 dL_law_134 ?_
  refine lv_aload_n hx hb dL_law_135 rfl (lv_at hl 3 rfl) ?_
  refine l_callW (B' := B1) (o' := (if co = 0 then vp_updL o 0 (Int32.toInt64 ro) else o)) (r := ps_23 co) [.ref (ad 0), .int (xs (i + nI 1).toNatClampNeg), .ref q] [] ⟨hx, hb, hml, hown, hts⟩ (kL_pack l hst D ad cI cZ cJ q hF.2.1.1 hF.2.2.1.1 B (xs (i + nI 1).toNatClampNeg) o B1 ro co hB hal) (vx_cwSW 3 hts gL_law_L_pack rfl rfl rfl (by decide +kernel) ⟨Nat.le_of_ble_eq_true rfl, Nat.le_of_ble_eq_true rfl⟩) hF hLS rfl hl.1 rfl (Nat.le_of_ble_eq_true rfl) dL_law_136 hc hs (fun H locs hLS => ?_)
  refine lv_istore (lv' := [(5, .int (ps_23 co)), (0, .ref b), (1, .ref (ad 0)), (2, .ref (md 0)), (3, .ref q), (4, .int i)]) hx hb dL_law_139 hl (by decide) rfl (fun ls hl => ?_)
  have hl5 : lv_has ls 7 (LLo b (ad 0) (md 0) q i) := lv_sub hl [1, 2, 3, 4, 5] rfl
  refine lv_aload_n hx hb dL_law_141 rfl (lv_at hl 3 rfl) ?_
  refine l_ld hx hb hX hbl hLS.2.2 hl5 (nI 1) (by decide) (hi 1 (by omega)) dL_law_142 dL_law_143 dL_law_145 dL_law_146 dL_law_147 ?_
  refine l_callM (M' := M1) (r := rb) [.int (xs (i + nI 1).toNatClampNeg)] [] ⟨hx, hb, hml, hown, hts⟩ (kX7_pack l D md cI cZ hF.2.1.2 M (xs (i + nI 1).toNatClampNeg) M1 rb hM) (cwV 1 hts gL_law_X7_pack rfl rfl rfl (by decide +kernel) ⟨Nat.le_of_ble_eq_true rfl, Nat.le_of_ble_eq_true rfl⟩) hF hLS rfl hl.1 rfl (Nat.le_of_ble_eq_true rfl) dL_law_148 hc hs (fun H locs hLS => ?_)
  refine lv_istore (lv' := [(6, .int rb), (5, .int (ps_23 co)), (0, .ref b), (1, .ref (ad 0)), (2, .ref (md 0)), (3, .ref q), (4, .int i)]) hx hb dL_law_151 hl (by decide) rfl (fun ls hl => ?_)
  refine lv_aload_n hx hb dL_law_153 rfl (lv_at hl 4 rfl) ?_
  refine l_callM (M' := M1) (r := M1.1 0) [] [] ⟨hx, hb, hml, hown, hts⟩ (kX7_thrown l D md cI cZ hF.2.1.2 M1 M1 (M1.1 0) rfl) (cwV 0 hts gL_law_X7_thrown rfl rfl rfl (by decide +kernel) ⟨Nat.le_of_ble_eq_true rfl, Nat.le_of_ble_eq_true rfl⟩) hF hLS rfl hl.1 rfl (Nat.le_of_ble_eq_true rfl) dL_law_154 hc hs (fun H locs hLS => ?_)
  refine lv_iload hx hb dL_law_157 (lv_at hl 1 rfl) ?_
  refine lv_icmp_eq (tgt := 164) hx hb dL_law_159 (by decide) (fun _ => ?_) (fun h => absurd hth h)
  refine lv_iload hx hb dL_law_164 (lv_at hl 1 rfl) ?_
  refine lv_if_ne (tgt := 181) hx hb dL_law_166 (by decide) (fun h => ?_) (fun h => ?_)
  · refine lv_goto (tgt := 1291) hx hb dL_law_181 (by decide) ?_
    exact kk B1 M1 _ H locs ls hRl hLS (lv_sub hl [2, 3, 4, 5, 6] rfl)
  · have hco : co = 0 := hal.resolve_right (fun z => z h)
    subst hco
    refine lv_aload_n hx hb dL_law_169 rfl (lv_at hl 5 rfl) ?_
    refine lv_iconst (v := 0) hx hb dL_law_170 (by decide) ?_
    refine l_lald hx hb hF hLS dL_law_171 ?_
    refine lv_iload hx hb dL_law_172 (lv_at hl 0 rfl) ?_
    refine lv_i2l (v := Int32.toInt64 rb) hx hb dL_law_174 rfl ?_
    refine W.lcmp hx hb dL_law_175 ?_
    refine lv_if_eq (tgt := 181) hx hb dL_law_176 (by decide) (fun _ => ?_) (fun h => absurd (l_cmp0 (congrArg Int32.toInt64 (hro rfl))) h)
    refine lv_goto (tgt := 1291) hx hb dL_law_181 (by decide) ?_
    exact kk B1 M1 _ H locs ls hRl hLS (lv_sub hl [2, 3, 4, 5, 6] rfl)
set_option maxHeartbeats 4000000 in
set_option maxRecDepth 100000 in
theorem lc_need {p : Program} {l : Launch} {e : Env} {s : State} {m : MethodId} {below : List Frame} {meth : Method} {c : Code} {H : Heap} {locs : List Loc} {cells slots : Nat} {Q : State → Prop} {ls : Array Slot} {D : va_G} {cI cZ cJ : ClassId} {ad md : Nat → Nat} {q : Nat} {B M : St} {o : Nat → Int64} {b L : Nat} {xs : Nat → Int32} {np nn nf nr d : Nat} {i : Int32} (C0 : LCx p l s m c b L xs) (hF : LFx D cI cZ cJ ad md q s) (hLS : LSt D cI cZ cJ ad md q s B M o H locs) (hR : Rel B M np nn nf nr d) (hl : lv_has ls 7 (LLo b (ad 0) (md 0) q i)) (hi : ∀ j : Nat, j < 5 → vp_in (i + nI j) L) (hc : cells + 1 ≤ 1092) (hs : slots + 6 ≤ 9356)
    (kk : ∀ (B1 M1 : St) (o1 : Nat → Int64) (H1 : Heap) (locs1 : List Loc) (ls1 : Array Slot), Rl B1 M1 → LSt D cI cZ cJ ad md q s B1 M1 o1 H1 locs1 → lv_has ls1 7 (LLo b (ad 0) (md 0) q i) → W p l e room_1 s m #[Value.ref b] below meth c H1 locs1 (cells + 1) (slots + 6) Q (F0 m 1291 ls1 [])) : W p l e room_1 s m #[Value.ref b] below meth c H locs cells slots Q (F0 m 184 ls []) := by
  obtain ⟨hx, hb, hml, hown, hts, hX, hbl, hst⟩ := C0
  obtain ⟨B1, M1, ro, co, rb, hB, hM, hRl, hth, hal, hro⟩ := sim_need hR (xs (i + nI 1).toNatClampNeg) (xs (i + nI 2).toNatClampNeg) (xs (i + nI 3).toNatClampNeg) (xs (i + nI 4).toNatClampNeg)
  refine lv_aload_n hx hb dL_law_184 rfl (lv_at hl 1 rfl) ?_
  refine l_ld hx hb hX hbl hLS.2.2 hl (nI 1) (by decide) (hi 1 (by omega)) dL_law_185 dL_law_186 dL_law_188 dL_law_189 dL_law_190 ?_
  refine l_ld hx hb hX hbl hLS.2.2 hl (nI 2) (by decide) (hi 2 (by omega)) dL_law_191 dL_law_192 dL_law_194 dL_law_195 dL_law_196 ?_
  refine l_ld hx hb hX hbl hLS.2.2 hl (nI 3) (by decide) (hi 3 (by omega)) dL_law_197 dL_law_198 dL_law_200 dL_law_201 dL_law_202 ?_
  refine l_ld hx hb hX hbl hLS.2.2 hl (nI 4) (by decide) (hi 4 (by omega)) dL_law_203 dL_law_204 dL_law_206 dL_law_207 dL_law_208 ?_
  refine lv_aload_n hx hb dL_law_209 rfl (lv_at hl 3 rfl) ?_
  refine l_callW (B' := B1) (o' := (if co = 0 then vp_updL o 0 (Int32.toInt64 ro) else o)) (r := ps123 co) [.ref (ad 0), .int (xs (i + nI 1).toNatClampNeg), .int (xs (i + nI 2).toNatClampNeg), .int (xs (i + nI 3).toNatClampNeg), .int (xs (i + nI 4).toNatClampNeg), .ref q] [] ⟨hx, hb, hml, hown, hts⟩ (kL_need l hst D ad cI cZ cJ q hF.2.1.1 hF.2.2.1.1 B (xs (i + nI 1).toNatClampNeg) (xs (i + nI 2).toNatClampNeg) (xs (i + nI 3).toNatClampNeg) (xs (i + nI 4).toNatClampNeg) o B1 ro co hB hal) (vx_cwSW 6 hts gL_law_L_need rfl rfl rfl (by decide +kernel) ⟨Nat.le_of_ble_eq_true rfl, Nat.le_of_ble_eq_true rfl⟩) hF hLS rfl hl.1 rfl (Nat.le_of_ble_eq_true rfl) dL_law_210 hc hs (fun H locs hLS => ?_)
  refine lv_istore (lv' := [(5, .int (ps123 co)), (0, .ref b), (1, .ref (ad 0)), (2, .ref (md 0)), (3, .ref q), (4, .int i)]) hx hb dL_law_213 hl (by decide) rfl (fun ls hl => ?_)
  have hl5 : lv_has ls 7 (LLo b (ad 0) (md 0) q i) := lv_sub hl [1, 2, 3, 4, 5] rfl
  refine lv_aload_n hx hb dL_law_215 rfl (lv_at hl 3 rfl) ?_
  refine l_ld hx hb hX hbl hLS.2.2 hl5 (nI 1) (by decide) (hi 1 (by omega)) dL_law_216 dL_law_217 dL_law_219 dL_law_220 dL_law_221 ?_
  refine l_ld hx hb hX hbl hLS.2.2 hl5 (nI 2) (by decide) (hi 2 (by omega)) dL_law_222 dL_law_223 dL_law_225 dL_law_226 dL_law_227 ?_
  refine l_ld hx hb hX hbl hLS.2.2 hl5 (nI 3) (by decide) (hi 3 (by omega)) dL_law_228 dL_law_229 dL_law_231 dL_law_232 dL_law_233 ?_
  refine l_ld hx hb hX hbl hLS.2.2 hl5 (nI 4) (by decide) (hi 4 (by omega)) dL_law_234 dL_law_235 dL_law_237 dL_law_238 dL_law_239 ?_
  refine l_callM (M' := M1) (r := rb) [.int (xs (i + nI 1).toNatClampNeg), .int (xs (i + nI 2).toNatClampNeg), .int (xs (i + nI 3).toNatClampNeg), .int (xs (i + nI 4).toNatClampNeg)] [] ⟨hx, hb, hml, hown, hts⟩ (kX7_need l D md cI cZ hF.2.1.2 M (xs (i + nI 1).toNatClampNeg) (xs (i + nI 2).toNatClampNeg) (xs (i + nI 3).toNatClampNeg) (xs (i + nI 4).toNatClampNeg) M1 rb hM) (cwV 4 hts gL_law_X7_need rfl rfl rfl (by decide +kernel) ⟨Nat.le_of_ble_eq_true rfl, Nat.le_of_ble_eq_true rfl⟩) hF hLS rfl hl.1 rfl (Nat.le_of_ble_eq_true rfl) dL_law_240 hc hs (fun H locs hLS => ?_)
  refine lv_istore (lv' := [(6, .int rb), (5, .int (ps123 co)), (0, .ref b), (1, .ref (ad 0)), (2, .ref (md 0)), (3, .ref q), (4, .int i)]) hx hb dL_law_243 hl (by decide) rfl (fun ls hl => ?_)
  refine lv_aload_n hx hb dL_law_245 rfl (lv_at hl 4 rfl) ?_
  refine l_callM (M' := M1) (r := M1.1 0) [] [] ⟨hx, hb, hml, hown, hts⟩ (kX7_thrown l D md cI cZ hF.2.1.2 M1 M1 (M1.1 0) rfl) (cwV 0 hts gL_law_X7_thrown rfl rfl rfl (by decide +kernel) ⟨Nat.le_of_ble_eq_true rfl, Nat.le_of_ble_eq_true rfl⟩) hF hLS rfl hl.1 rfl (Nat.le_of_ble_eq_true rfl) dL_law_246 hc hs (fun H locs hLS => ?_)
  refine lv_iload hx hb dL_law_249 (lv_at hl 1 rfl) ?_
  refine lv_icmp_eq (tgt := 256) hx hb dL_law_251 (by decide) (fun _ => ?_) (fun h => absurd hth h)
  refine lv_iload hx hb dL_law_256 (lv_at hl 1 rfl) ?_
  refine lv_if_ne (tgt := 273) hx hb dL_law_258 (by decide) (fun h => ?_) (fun h => ?_)
  · refine lv_goto (tgt := 1291) hx hb dL_law_273 (by decide) ?_
    exact kk B1 M1 _ H locs ls hRl hLS (lv_sub hl [2, 3, 4, 5, 6] rfl)
  · have hco : co = 0 := hal.resolve_right (fun z => z h)
    subst hco
    refine lv_aload_n hx hb dL_law_261 rfl (lv_at hl 5 rfl) ?_
    refine lv_iconst (v := 0) hx hb dL_law_262 (by decide) ?_
    refine l_lald hx hb hF hLS dL_law_263 ?_
    refine lv_iload hx hb dL_law_264 (lv_at hl 0 rfl) ?_
    refine lv_i2l (v := Int32.toInt64 rb) hx hb dL_law_266 rfl ?_
    refine W.lcmp hx hb dL_law_267 ?_
    refine lv_if_eq (tgt := 273) hx hb dL_law_268 (by decide) (fun _ => ?_) (fun h => absurd (l_cmp0 (congrArg Int32.toInt64 (hro rfl))) h)
    refine lv_goto (tgt := 1291) hx hb dL_law_273 (by decide) ?_
    exact kk B1 M1 _ H locs ls hRl hLS (lv_sub hl [2, 3, 4, 5, 6] rfl)
set_option maxHeartbeats 4000000 in
set_option maxRecDepth 100000 in
theorem lc_trust {p : Program} {l : Launch} {e : Env} {s : State} {m : MethodId} {below : List Frame} {meth : Method} {c : Code} {H : Heap} {locs : List Loc} {cells slots : Nat} {Q : State → Prop} {ls : Array Slot} {D : va_G} {cI cZ cJ : ClassId} {ad md : Nat → Nat} {q : Nat} {B M : St} {o : Nat → Int64} {b L : Nat} {xs : Nat → Int32} {np nn nf nr d : Nat} {i : Int32} (C0 : LCx p l s m c b L xs) (hF : LFx D cI cZ cJ ad md q s) (hLS : LSt D cI cZ cJ ad md q s B M o H locs) (hR : Rel B M np nn nf nr d) (hl : lv_has ls 7 (LLo b (ad 0) (md 0) q i)) (hi : ∀ j : Nat, j < 5 → vp_in (i + nI j) L) (hc : cells + 1 ≤ 1092) (hs : slots + 6 ≤ 9356)
    (kk : ∀ (B1 M1 : St) (o1 : Nat → Int64) (H1 : Heap) (locs1 : List Loc) (ls1 : Array Slot), Rl B1 M1 → LSt D cI cZ cJ ad md q s B1 M1 o1 H1 locs1 → lv_has ls1 7 (LLo b (ad 0) (md 0) q i) → W p l e room_1 s m #[Value.ref b] below meth c H1 locs1 (cells + 1) (slots + 6) Q (F0 m 1291 ls1 [])) : W p l e room_1 s m #[Value.ref b] below meth c H locs cells slots Q (F0 m 276 ls []) := by
  obtain ⟨hx, hb, hml, hown, hts, hX, hbl, hst⟩ := C0
  obtain ⟨B1, M1, ro, co, rb, hB, hM, hRl, hth, hal, hro⟩ := sim_trust hR (xs (i + nI 1).toNatClampNeg) (xs (i + nI 2).toNatClampNeg)
  refine lv_aload_n hx hb dL_law_276 rfl (lv_at hl 1 rfl) ?_
  refine l_ld hx hb hX hbl hLS.2.2 hl (nI 1) (by decide) (hi 1 (by omega)) dL_law_277 dL_law_278 dL_law_280 dL_law_281 dL_law_282 ?_
  refine l_ld hx hb hX hbl hLS.2.2 hl (nI 2) (by decide) (hi 2 (by omega)) dL_law_283 dL_law_284 dL_law_286 dL_law_287 dL_law_288 ?_
  refine lv_aload_n hx hb dL_law_289 rfl (lv_at hl 3 rfl) ?_
  refine l_callW (B' := B1) (o' := (if co = 0 then vp_updL o 0 (Int32.toInt64 ro) else o)) (r := ps12 co) [.ref (ad 0), .int (xs (i + nI 1).toNatClampNeg), .int (xs (i + nI 2).toNatClampNeg), .ref q] [] ⟨hx, hb, hml, hown, hts⟩ (kL_trust l hst D ad cI cZ cJ q hF.2.1.1 hF.2.2.1.1 B (xs (i + nI 1).toNatClampNeg) (xs (i + nI 2).toNatClampNeg) o B1 ro co hB hal) (vx_cwSW 4 hts gL_law_L_trust rfl rfl rfl (by decide +kernel) ⟨Nat.le_of_ble_eq_true rfl, Nat.le_of_ble_eq_true rfl⟩) hF hLS rfl hl.1 rfl (Nat.le_of_ble_eq_true rfl) dL_law_290 hc hs (fun H locs hLS => ?_)
  refine lv_istore (lv' := [(5, .int (ps12 co)), (0, .ref b), (1, .ref (ad 0)), (2, .ref (md 0)), (3, .ref q), (4, .int i)]) hx hb dL_law_293 hl (by decide) rfl (fun ls hl => ?_)
  have hl5 : lv_has ls 7 (LLo b (ad 0) (md 0) q i) := lv_sub hl [1, 2, 3, 4, 5] rfl
  refine lv_aload_n hx hb dL_law_295 rfl (lv_at hl 3 rfl) ?_
  refine l_ld hx hb hX hbl hLS.2.2 hl5 (nI 1) (by decide) (hi 1 (by omega)) dL_law_296 dL_law_297 dL_law_299 dL_law_300 dL_law_301 ?_
  refine l_ld hx hb hX hbl hLS.2.2 hl5 (nI 2) (by decide) (hi 2 (by omega)) dL_law_302 dL_law_303 dL_law_305 dL_law_306 dL_law_307 ?_
  refine l_callM (M' := M1) (r := rb) [.int (xs (i + nI 1).toNatClampNeg), .int (xs (i + nI 2).toNatClampNeg)] [] ⟨hx, hb, hml, hown, hts⟩ (kX7_trust l D md cI cZ hF.2.1.2 M (xs (i + nI 1).toNatClampNeg) (xs (i + nI 2).toNatClampNeg) M1 rb hM) (cwV 2 hts gL_law_X7_trust rfl rfl rfl (by decide +kernel) ⟨Nat.le_of_ble_eq_true rfl, Nat.le_of_ble_eq_true rfl⟩) hF hLS rfl hl.1 rfl (Nat.le_of_ble_eq_true rfl) dL_law_308 hc hs (fun H locs hLS => ?_)
  refine lv_istore (lv' := [(6, .int rb), (5, .int (ps12 co)), (0, .ref b), (1, .ref (ad 0)), (2, .ref (md 0)), (3, .ref q), (4, .int i)]) hx hb dL_law_311 hl (by decide) rfl (fun ls hl => ?_)
  refine lv_aload_n hx hb dL_law_313 rfl (lv_at hl 4 rfl) ?_
  refine l_callM (M' := M1) (r := M1.1 0) [] [] ⟨hx, hb, hml, hown, hts⟩ (kX7_thrown l D md cI cZ hF.2.1.2 M1 M1 (M1.1 0) rfl) (cwV 0 hts gL_law_X7_thrown rfl rfl rfl (by decide +kernel) ⟨Nat.le_of_ble_eq_true rfl, Nat.le_of_ble_eq_true rfl⟩) hF hLS rfl hl.1 rfl (Nat.le_of_ble_eq_true rfl) dL_law_314 hc hs (fun H locs hLS => ?_)
  refine lv_iload hx hb dL_law_317 (lv_at hl 1 rfl) ?_
  refine lv_icmp_eq (tgt := 324) hx hb dL_law_319 (by decide) (fun _ => ?_) (fun h => absurd hth h)
  refine lv_iload hx hb dL_law_324 (lv_at hl 1 rfl) ?_
  refine lv_if_ne (tgt := 341) hx hb dL_law_326 (by decide) (fun h => ?_) (fun h => ?_)
  · refine lv_goto (tgt := 1291) hx hb dL_law_341 (by decide) ?_
    exact kk B1 M1 _ H locs ls hRl hLS (lv_sub hl [2, 3, 4, 5, 6] rfl)
  · have hco : co = 0 := hal.resolve_right (fun z => z h)
    subst hco
    refine lv_aload_n hx hb dL_law_329 rfl (lv_at hl 5 rfl) ?_
    refine lv_iconst (v := 0) hx hb dL_law_330 (by decide) ?_
    refine l_lald hx hb hF hLS dL_law_331 ?_
    refine lv_iload hx hb dL_law_332 (lv_at hl 0 rfl) ?_
    refine lv_i2l (v := Int32.toInt64 rb) hx hb dL_law_334 rfl ?_
    refine W.lcmp hx hb dL_law_335 ?_
    refine lv_if_eq (tgt := 341) hx hb dL_law_336 (by decide) (fun _ => ?_) (fun h => absurd (l_cmp0 (congrArg Int32.toInt64 (hro rfl))) h)
    refine lv_goto (tgt := 1291) hx hb dL_law_341 (by decide) ?_
    exact kk B1 M1 _ H locs ls hRl hLS (lv_sub hl [2, 3, 4, 5, 6] rfl)
set_option maxHeartbeats 4000000 in
set_option maxRecDepth 100000 in
theorem lc_patience {p : Program} {l : Launch} {e : Env} {s : State} {m : MethodId} {below : List Frame} {meth : Method} {c : Code} {H : Heap} {locs : List Loc} {cells slots : Nat} {Q : State → Prop} {ls : Array Slot} {D : va_G} {cI cZ cJ : ClassId} {ad md : Nat → Nat} {q : Nat} {B M : St} {o : Nat → Int64} {b L : Nat} {xs : Nat → Int32} {np nn nf nr d : Nat} {i : Int32} (C0 : LCx p l s m c b L xs) (hF : LFx D cI cZ cJ ad md q s) (hLS : LSt D cI cZ cJ ad md q s B M o H locs) (hR : Rel B M np nn nf nr d) (hl : lv_has ls 7 (LLo b (ad 0) (md 0) q i)) (hi : ∀ j : Nat, j < 5 → vp_in (i + nI j) L) (hc : cells + 1 ≤ 1092) (hs : slots + 6 ≤ 9356)
    (kk : ∀ (B1 M1 : St) (o1 : Nat → Int64) (H1 : Heap) (locs1 : List Loc) (ls1 : Array Slot), Rl B1 M1 → LSt D cI cZ cJ ad md q s B1 M1 o1 H1 locs1 → lv_has ls1 7 (LLo b (ad 0) (md 0) q i) → W p l e room_1 s m #[Value.ref b] below meth c H1 locs1 (cells + 1) (slots + 6) Q (F0 m 1291 ls1 [])) : W p l e room_1 s m #[Value.ref b] below meth c H locs cells slots Q (F0 m 344 ls []) := by
  obtain ⟨hx, hb, hml, hown, hts, hX, hbl, hst⟩ := C0
  obtain ⟨B1, M1, ro, co, rb, hB, hM, hRl, hth, hal, hro⟩ := sim_patience hR (xs (i + nI 1).toNatClampNeg)
  refine lv_aload_n hx hb dL_law_344 rfl (lv_at hl 1 rfl) ?_
  refine l_ld hx hb hX hbl hLS.2.2 hl (nI 1) (by decide) (hi 1 (by omega)) dL_law_345 dL_law_346 dL_law_348 dL_law_349 dL_law_350 ?_
  refine lv_aload_n hx hb dL_law_351 rfl (lv_at hl 3 rfl) ?_
  refine l_callW (B' := B1) (o' := (if co = 0 then vp_updL o 0 (Int32.toInt64 ro) else o)) (r := ps_2 co) [.ref (ad 0), .int (xs (i + nI 1).toNatClampNeg), .ref q] [] ⟨hx, hb, hml, hown, hts⟩ (kL_patience l hst D ad cI cZ cJ q hF.2.1.1 hF.2.2.1.1 B (xs (i + nI 1).toNatClampNeg) o B1 ro co hB hal) (vx_cwSW 3 hts gL_law_L_patience rfl rfl rfl (by decide +kernel) ⟨Nat.le_of_ble_eq_true rfl, Nat.le_of_ble_eq_true rfl⟩) hF hLS rfl hl.1 rfl (Nat.le_of_ble_eq_true rfl) dL_law_352 hc hs (fun H locs hLS => ?_)
  refine lv_istore (lv' := [(5, .int (ps_2 co)), (0, .ref b), (1, .ref (ad 0)), (2, .ref (md 0)), (3, .ref q), (4, .int i)]) hx hb dL_law_355 hl (by decide) rfl (fun ls hl => ?_)
  have hl5 : lv_has ls 7 (LLo b (ad 0) (md 0) q i) := lv_sub hl [1, 2, 3, 4, 5] rfl
  refine lv_aload_n hx hb dL_law_357 rfl (lv_at hl 3 rfl) ?_
  refine l_ld hx hb hX hbl hLS.2.2 hl5 (nI 1) (by decide) (hi 1 (by omega)) dL_law_358 dL_law_359 dL_law_361 dL_law_362 dL_law_363 ?_
  refine l_callM (M' := M1) (r := rb) [.int (xs (i + nI 1).toNatClampNeg)] [] ⟨hx, hb, hml, hown, hts⟩ (kX7_patience l D md cI cZ hF.2.1.2 M (xs (i + nI 1).toNatClampNeg) M1 rb hM) (cwV 1 hts gL_law_X7_patience rfl rfl rfl (by decide +kernel) ⟨Nat.le_of_ble_eq_true rfl, Nat.le_of_ble_eq_true rfl⟩) hF hLS rfl hl.1 rfl (Nat.le_of_ble_eq_true rfl) dL_law_364 hc hs (fun H locs hLS => ?_)
  refine lv_istore (lv' := [(6, .int rb), (5, .int (ps_2 co)), (0, .ref b), (1, .ref (ad 0)), (2, .ref (md 0)), (3, .ref q), (4, .int i)]) hx hb dL_law_367 hl (by decide) rfl (fun ls hl => ?_)
  refine lv_aload_n hx hb dL_law_369 rfl (lv_at hl 4 rfl) ?_
  refine l_callM (M' := M1) (r := M1.1 0) [] [] ⟨hx, hb, hml, hown, hts⟩ (kX7_thrown l D md cI cZ hF.2.1.2 M1 M1 (M1.1 0) rfl) (cwV 0 hts gL_law_X7_thrown rfl rfl rfl (by decide +kernel) ⟨Nat.le_of_ble_eq_true rfl, Nat.le_of_ble_eq_true rfl⟩) hF hLS rfl hl.1 rfl (Nat.le_of_ble_eq_true rfl) dL_law_370 hc hs (fun H locs hLS => ?_)
  refine lv_iload hx hb dL_law_373 (lv_at hl 1 rfl) ?_
  refine lv_icmp_eq (tgt := 380) hx hb dL_law_375 (by decide) (fun _ => ?_) (fun h => absurd hth h)
  refine lv_iload hx hb dL_law_380 (lv_at hl 1 rfl) ?_
  refine lv_if_ne (tgt := 397) hx hb dL_law_382 (by decide) (fun h => ?_) (fun h => ?_)
  · refine lv_goto (tgt := 1291) hx hb dL_law_397 (by decide) ?_
    exact kk B1 M1 _ H locs ls hRl hLS (lv_sub hl [2, 3, 4, 5, 6] rfl)
  · have hco : co = 0 := hal.resolve_right (fun z => z h)
    subst hco
    refine lv_aload_n hx hb dL_law_385 rfl (lv_at hl 5 rfl) ?_
    refine lv_iconst (v := 0) hx hb dL_law_386 (by decide) ?_
    refine l_lald hx hb hF hLS dL_law_387 ?_
    refine lv_iload hx hb dL_law_388 (lv_at hl 0 rfl) ?_
    refine lv_i2l (v := Int32.toInt64 rb) hx hb dL_law_390 rfl ?_
    refine W.lcmp hx hb dL_law_391 ?_
    refine lv_if_eq (tgt := 397) hx hb dL_law_392 (by decide) (fun _ => ?_) (fun h => absurd (l_cmp0 (congrArg Int32.toInt64 (hro rfl))) h)
    refine lv_goto (tgt := 1291) hx hb dL_law_397 (by decide) ?_
    exact kk B1 M1 _ H locs ls hRl hLS (lv_sub hl [2, 3, 4, 5, 6] rfl)
set_option maxHeartbeats 4000000 in
set_option maxRecDepth 100000 in
theorem lc_freeze {p : Program} {l : Launch} {e : Env} {s : State} {m : MethodId} {below : List Frame} {meth : Method} {c : Code} {H : Heap} {locs : List Loc} {cells slots : Nat} {Q : State → Prop} {ls : Array Slot} {D : va_G} {cI cZ cJ : ClassId} {ad md : Nat → Nat} {q : Nat} {B M : St} {o : Nat → Int64} {b L : Nat} {xs : Nat → Int32} {np nn nf nr d : Nat} {i : Int32} (C0 : LCx p l s m c b L xs) (hF : LFx D cI cZ cJ ad md q s) (hLS : LSt D cI cZ cJ ad md q s B M o H locs) (hR : Rel B M np nn nf nr d) (hl : lv_has ls 7 (LLo b (ad 0) (md 0) q i)) (hi : ∀ j : Nat, j < 5 → vp_in (i + nI j) L) (hc : cells + 1 ≤ 1092) (hs : slots + 6 ≤ 9356)
    (kk : ∀ (B1 M1 : St) (o1 : Nat → Int64) (H1 : Heap) (locs1 : List Loc) (ls1 : Array Slot), Rl B1 M1 → LSt D cI cZ cJ ad md q s B1 M1 o1 H1 locs1 → lv_has ls1 7 (LLo b (ad 0) (md 0) q i) → W p l e room_1 s m #[Value.ref b] below meth c H1 locs1 (cells + 1) (slots + 6) Q (F0 m 1291 ls1 [])) : W p l e room_1 s m #[Value.ref b] below meth c H locs cells slots Q (F0 m 400 ls []) := by
  obtain ⟨hx, hb, hml, hown, hts, hX, hbl, hst⟩ := C0
  obtain ⟨B1, M1, ro, co, rb, hB, hM, hRl, hth, hal, hro⟩ := sim_freeze hR (xs (i + nI 1).toNatClampNeg) (xs (i + nI 2).toNatClampNeg) (xs (i + nI 3).toNatClampNeg)
  refine lv_aload_n hx hb dL_law_400 rfl (lv_at hl 1 rfl) ?_
  refine l_ld hx hb hX hbl hLS.2.2 hl (nI 1) (by decide) (hi 1 (by omega)) dL_law_401 dL_law_402 dL_law_404 dL_law_405 dL_law_406 ?_
  refine l_ld hx hb hX hbl hLS.2.2 hl (nI 2) (by decide) (hi 2 (by omega)) dL_law_407 dL_law_408 dL_law_410 dL_law_411 dL_law_412 ?_
  refine l_ld hx hb hX hbl hLS.2.2 hl (nI 3) (by decide) (hi 3 (by omega)) dL_law_413 dL_law_414 dL_law_416 dL_law_417 dL_law_418 ?_
  refine lv_aload_n hx hb dL_law_419 rfl (lv_at hl 3 rfl) ?_
  refine l_callW (B' := B1) (o' := (if co = 0 then vp_updL o 0 (Int32.toInt64 ro) else o)) (r := ps_23 co) [.ref (ad 0), .int (xs (i + nI 1).toNatClampNeg), .int (xs (i + nI 2).toNatClampNeg), .int (xs (i + nI 3).toNatClampNeg), .ref q] [] ⟨hx, hb, hml, hown, hts⟩ (kL_freeze l hst D ad cI cZ cJ q hF.2.1.1 hF.2.2.1.1 B (xs (i + nI 1).toNatClampNeg) (xs (i + nI 2).toNatClampNeg) (xs (i + nI 3).toNatClampNeg) o B1 ro co hB hal) (vx_cwSW 5 hts gL_law_L_freeze rfl rfl rfl (by decide +kernel) ⟨Nat.le_of_ble_eq_true rfl, Nat.le_of_ble_eq_true rfl⟩) hF hLS rfl hl.1 rfl (Nat.le_of_ble_eq_true rfl) dL_law_420 hc hs (fun H locs hLS => ?_)
  refine lv_istore (lv' := [(5, .int (ps_23 co)), (0, .ref b), (1, .ref (ad 0)), (2, .ref (md 0)), (3, .ref q), (4, .int i)]) hx hb dL_law_423 hl (by decide) rfl (fun ls hl => ?_)
  have hl5 : lv_has ls 7 (LLo b (ad 0) (md 0) q i) := lv_sub hl [1, 2, 3, 4, 5] rfl
  refine lv_aload_n hx hb dL_law_425 rfl (lv_at hl 3 rfl) ?_
  refine l_ld hx hb hX hbl hLS.2.2 hl5 (nI 1) (by decide) (hi 1 (by omega)) dL_law_426 dL_law_427 dL_law_429 dL_law_430 dL_law_431 ?_
  refine l_ld hx hb hX hbl hLS.2.2 hl5 (nI 2) (by decide) (hi 2 (by omega)) dL_law_432 dL_law_433 dL_law_435 dL_law_436 dL_law_437 ?_
  refine l_ld hx hb hX hbl hLS.2.2 hl5 (nI 3) (by decide) (hi 3 (by omega)) dL_law_438 dL_law_439 dL_law_441 dL_law_442 dL_law_443 ?_
  refine l_callM (M' := M1) (r := rb) [.int (xs (i + nI 1).toNatClampNeg), .int (xs (i + nI 2).toNatClampNeg), .int (xs (i + nI 3).toNatClampNeg)] [] ⟨hx, hb, hml, hown, hts⟩ (kX7_freeze l D md cI cZ hF.2.1.2 M (xs (i + nI 1).toNatClampNeg) (xs (i + nI 2).toNatClampNeg) (xs (i + nI 3).toNatClampNeg) M1 rb hM) (cwV 3 hts gL_law_X7_freeze rfl rfl rfl (by decide +kernel) ⟨Nat.le_of_ble_eq_true rfl, Nat.le_of_ble_eq_true rfl⟩) hF hLS rfl hl.1 rfl (Nat.le_of_ble_eq_true rfl) dL_law_444 hc hs (fun H locs hLS => ?_)
  refine lv_istore (lv' := [(6, .int rb), (5, .int (ps_23 co)), (0, .ref b), (1, .ref (ad 0)), (2, .ref (md 0)), (3, .ref q), (4, .int i)]) hx hb dL_law_447 hl (by decide) rfl (fun ls hl => ?_)
  refine lv_aload_n hx hb dL_law_449 rfl (lv_at hl 4 rfl) ?_
  refine l_callM (M' := M1) (r := M1.1 0) [] [] ⟨hx, hb, hml, hown, hts⟩ (kX7_thrown l D md cI cZ hF.2.1.2 M1 M1 (M1.1 0) rfl) (cwV 0 hts gL_law_X7_thrown rfl rfl rfl (by decide +kernel) ⟨Nat.le_of_ble_eq_true rfl, Nat.le_of_ble_eq_true rfl⟩) hF hLS rfl hl.1 rfl (Nat.le_of_ble_eq_true rfl) dL_law_450 hc hs (fun H locs hLS => ?_)
  refine lv_iload hx hb dL_law_453 (lv_at hl 1 rfl) ?_
  refine lv_icmp_eq (tgt := 460) hx hb dL_law_455 (by decide) (fun _ => ?_) (fun h => absurd hth h)
  refine lv_iload hx hb dL_law_460 (lv_at hl 1 rfl) ?_
  refine lv_if_ne (tgt := 477) hx hb dL_law_462 (by decide) (fun h => ?_) (fun h => ?_)
  · refine lv_goto (tgt := 1291) hx hb dL_law_477 (by decide) ?_
    exact kk B1 M1 _ H locs ls hRl hLS (lv_sub hl [2, 3, 4, 5, 6] rfl)
  · have hco : co = 0 := hal.resolve_right (fun z => z h)
    subst hco
    refine lv_aload_n hx hb dL_law_465 rfl (lv_at hl 5 rfl) ?_
    refine lv_iconst (v := 0) hx hb dL_law_466 (by decide) ?_
    refine l_lald hx hb hF hLS dL_law_467 ?_
    refine lv_iload hx hb dL_law_468 (lv_at hl 0 rfl) ?_
    refine lv_i2l (v := Int32.toInt64 rb) hx hb dL_law_470 rfl ?_
    refine W.lcmp hx hb dL_law_471 ?_
    refine lv_if_eq (tgt := 477) hx hb dL_law_472 (by decide) (fun _ => ?_) (fun h => absurd (l_cmp0 (congrArg Int32.toInt64 (hro rfl))) h)
    refine lv_goto (tgt := 1291) hx hb dL_law_477 (by decide) ?_
    exact kk B1 M1 _ H locs ls hRl hLS (lv_sub hl [2, 3, 4, 5, 6] rfl)
set_option maxHeartbeats 4000000 in
set_option maxRecDepth 100000 in
theorem lc_raise {p : Program} {l : Launch} {e : Env} {s : State} {m : MethodId} {below : List Frame} {meth : Method} {c : Code} {H : Heap} {locs : List Loc} {cells slots : Nat} {Q : State → Prop} {ls : Array Slot} {D : va_G} {cI cZ cJ : ClassId} {ad md : Nat → Nat} {q : Nat} {B M : St} {o : Nat → Int64} {b L : Nat} {xs : Nat → Int32} {np nn nf nr d : Nat} {i : Int32} (C0 : LCx p l s m c b L xs) (hF : LFx D cI cZ cJ ad md q s) (hLS : LSt D cI cZ cJ ad md q s B M o H locs) (hR : Rel B M np nn nf nr d) (hl : lv_has ls 7 (LLo b (ad 0) (md 0) q i)) (hi : ∀ j : Nat, j < 5 → vp_in (i + nI j) L) (hc : cells + 1 ≤ 1092) (hs : slots + 6 ≤ 9356)
    (kk : ∀ (B1 M1 : St) (o1 : Nat → Int64) (H1 : Heap) (locs1 : List Loc) (ls1 : Array Slot), Rl B1 M1 → LSt D cI cZ cJ ad md q s B1 M1 o1 H1 locs1 → lv_has ls1 7 (LLo b (ad 0) (md 0) q i) → W p l e room_1 s m #[Value.ref b] below meth c H1 locs1 (cells + 1) (slots + 6) Q (F0 m 1291 ls1 [])) : W p l e room_1 s m #[Value.ref b] below meth c H locs cells slots Q (F0 m 480 ls []) := by
  obtain ⟨hx, hb, hml, hown, hts, hX, hbl, hst⟩ := C0
  obtain ⟨B1, M1, ro, co, rb, hB, hM, hRl, hth, hal, hro⟩ := sim_raise hR (xs (i + nI 1).toNatClampNeg) (xs (i + nI 2).toNatClampNeg) (xs (i + nI 3).toNatClampNeg)
  refine lv_aload_n hx hb dL_law_480 rfl (lv_at hl 1 rfl) ?_
  refine l_ld hx hb hX hbl hLS.2.2 hl (nI 1) (by decide) (hi 1 (by omega)) dL_law_481 dL_law_482 dL_law_484 dL_law_485 dL_law_486 ?_
  refine l_ld hx hb hX hbl hLS.2.2 hl (nI 2) (by decide) (hi 2 (by omega)) dL_law_487 dL_law_488 dL_law_490 dL_law_491 dL_law_492 ?_
  refine l_ld hx hb hX hbl hLS.2.2 hl (nI 3) (by decide) (hi 3 (by omega)) dL_law_493 dL_law_494 dL_law_496 dL_law_497 dL_law_498 ?_
  refine lv_aload_n hx hb dL_law_499 rfl (lv_at hl 3 rfl) ?_
  refine l_callW (B' := B1) (o' := (if co = 0 then vp_updL o 0 (Int32.toInt64 ro) else o)) (r := ps123 co) [.ref (ad 0), .int (xs (i + nI 1).toNatClampNeg), .int (xs (i + nI 2).toNatClampNeg), .int (xs (i + nI 3).toNatClampNeg), .ref q] [] ⟨hx, hb, hml, hown, hts⟩ (kL_raise l hst D ad cI cZ cJ q hF.2.1.1 hF.2.2.1.1 B (xs (i + nI 1).toNatClampNeg) (xs (i + nI 2).toNatClampNeg) (xs (i + nI 3).toNatClampNeg) o B1 ro co hB hal) (vx_cwSW 5 hts gL_law_L_raise rfl rfl rfl (by decide +kernel) ⟨Nat.le_of_ble_eq_true rfl, Nat.le_of_ble_eq_true rfl⟩) hF hLS rfl hl.1 rfl (Nat.le_of_ble_eq_true rfl) dL_law_500 hc hs (fun H locs hLS => ?_)
  refine lv_istore (lv' := [(5, .int (ps123 co)), (0, .ref b), (1, .ref (ad 0)), (2, .ref (md 0)), (3, .ref q), (4, .int i)]) hx hb dL_law_503 hl (by decide) rfl (fun ls hl => ?_)
  have hl5 : lv_has ls 7 (LLo b (ad 0) (md 0) q i) := lv_sub hl [1, 2, 3, 4, 5] rfl
  refine lv_aload_n hx hb dL_law_505 rfl (lv_at hl 3 rfl) ?_
  refine l_ld hx hb hX hbl hLS.2.2 hl5 (nI 1) (by decide) (hi 1 (by omega)) dL_law_506 dL_law_507 dL_law_509 dL_law_510 dL_law_511 ?_
  refine l_ld hx hb hX hbl hLS.2.2 hl5 (nI 2) (by decide) (hi 2 (by omega)) dL_law_512 dL_law_513 dL_law_515 dL_law_516 dL_law_517 ?_
  refine l_ld hx hb hX hbl hLS.2.2 hl5 (nI 3) (by decide) (hi 3 (by omega)) dL_law_518 dL_law_519 dL_law_521 dL_law_522 dL_law_523 ?_
  refine l_callM (M' := M1) (r := rb) [.int (xs (i + nI 1).toNatClampNeg), .int (xs (i + nI 2).toNatClampNeg), .int (xs (i + nI 3).toNatClampNeg)] [] ⟨hx, hb, hml, hown, hts⟩ (kX7_raise l D md cI cZ hF.2.1.2 M (xs (i + nI 1).toNatClampNeg) (xs (i + nI 2).toNatClampNeg) (xs (i + nI 3).toNatClampNeg) M1 rb hM) (cwV 3 hts gL_law_X7_raise rfl rfl rfl (by decide +kernel) ⟨Nat.le_of_ble_eq_true rfl, Nat.le_of_ble_eq_true rfl⟩) hF hLS rfl hl.1 rfl (Nat.le_of_ble_eq_true rfl) dL_law_524 hc hs (fun H locs hLS => ?_)
  refine lv_istore (lv' := [(6, .int rb), (5, .int (ps123 co)), (0, .ref b), (1, .ref (ad 0)), (2, .ref (md 0)), (3, .ref q), (4, .int i)]) hx hb dL_law_527 hl (by decide) rfl (fun ls hl => ?_)
  refine lv_aload_n hx hb dL_law_529 rfl (lv_at hl 4 rfl) ?_
  refine l_callM (M' := M1) (r := M1.1 0) [] [] ⟨hx, hb, hml, hown, hts⟩ (kX7_thrown l D md cI cZ hF.2.1.2 M1 M1 (M1.1 0) rfl) (cwV 0 hts gL_law_X7_thrown rfl rfl rfl (by decide +kernel) ⟨Nat.le_of_ble_eq_true rfl, Nat.le_of_ble_eq_true rfl⟩) hF hLS rfl hl.1 rfl (Nat.le_of_ble_eq_true rfl) dL_law_530 hc hs (fun H locs hLS => ?_)
  refine lv_iload hx hb dL_law_533 (lv_at hl 1 rfl) ?_
  refine lv_icmp_eq (tgt := 540) hx hb dL_law_535 (by decide) (fun _ => ?_) (fun h => absurd hth h)
  refine lv_iload hx hb dL_law_540 (lv_at hl 1 rfl) ?_
  refine lv_if_ne (tgt := 557) hx hb dL_law_542 (by decide) (fun h => ?_) (fun h => ?_)
  · refine lv_goto (tgt := 1291) hx hb dL_law_557 (by decide) ?_
    exact kk B1 M1 _ H locs ls hRl hLS (lv_sub hl [2, 3, 4, 5, 6] rfl)
  · have hco : co = 0 := hal.resolve_right (fun z => z h)
    subst hco
    refine lv_aload_n hx hb dL_law_545 rfl (lv_at hl 5 rfl) ?_
    refine lv_iconst (v := 0) hx hb dL_law_546 (by decide) ?_
    refine l_lald hx hb hF hLS dL_law_547 ?_
    refine lv_iload hx hb dL_law_548 (lv_at hl 0 rfl) ?_
    refine lv_i2l (v := Int32.toInt64 rb) hx hb dL_law_550 rfl ?_
    refine W.lcmp hx hb dL_law_551 ?_
    refine lv_if_eq (tgt := 557) hx hb dL_law_552 (by decide) (fun _ => ?_) (fun h => absurd (l_cmp0 (congrArg Int32.toInt64 (hro rfl))) h)
    refine lv_goto (tgt := 1291) hx hb dL_law_557 (by decide) ?_
    exact kk B1 M1 _ H locs ls hRl hLS (lv_sub hl [2, 3, 4, 5, 6] rfl)
set_option maxHeartbeats 4000000 in
set_option maxRecDepth 100000 in
theorem lc_approve {p : Program} {l : Launch} {e : Env} {s : State} {m : MethodId} {below : List Frame} {meth : Method} {c : Code} {H : Heap} {locs : List Loc} {cells slots : Nat} {Q : State → Prop} {ls : Array Slot} {D : va_G} {cI cZ cJ : ClassId} {ad md : Nat → Nat} {q : Nat} {B M : St} {o : Nat → Int64} {b L : Nat} {xs : Nat → Int32} {np nn nf nr d : Nat} {i : Int32} (C0 : LCx p l s m c b L xs) (hF : LFx D cI cZ cJ ad md q s) (hLS : LSt D cI cZ cJ ad md q s B M o H locs) (hR : Rel B M np nn nf nr d) (hl : lv_has ls 7 (LLo b (ad 0) (md 0) q i)) (hi : ∀ j : Nat, j < 5 → vp_in (i + nI j) L) (hc : cells + 1 ≤ 1092) (hs : slots + 6 ≤ 9356)
    (kk : ∀ (B1 M1 : St) (o1 : Nat → Int64) (H1 : Heap) (locs1 : List Loc) (ls1 : Array Slot), Rl B1 M1 → LSt D cI cZ cJ ad md q s B1 M1 o1 H1 locs1 → lv_has ls1 7 (LLo b (ad 0) (md 0) q i) → W p l e room_1 s m #[Value.ref b] below meth c H1 locs1 (cells + 1) (slots + 6) Q (F0 m 1291 ls1 [])) : W p l e room_1 s m #[Value.ref b] below meth c H locs cells slots Q (F0 m 560 ls []) := by
  obtain ⟨hx, hb, hml, hown, hts, hX, hbl, hst⟩ := C0
  obtain ⟨B1, M1, ro, co, rb, hB, hM, hRl, hth, hal, hro⟩ := sim_approve hR (xs (i + nI 1).toNatClampNeg)
  refine lv_aload_n hx hb dL_law_560 rfl (lv_at hl 1 rfl) ?_
  refine l_ld hx hb hX hbl hLS.2.2 hl (nI 1) (by decide) (hi 1 (by omega)) dL_law_561 dL_law_562 dL_law_564 dL_law_565 dL_law_566 ?_
  refine lv_aload_n hx hb dL_law_567 rfl (lv_at hl 3 rfl) ?_
  refine l_callW (B' := B1) (o' := (if co = 0 then vp_updL o 0 (zb ro) else o)) (r := ps13 co) [.ref (ad 0), .int (xs (i + nI 1).toNatClampNeg), .ref q] [] ⟨hx, hb, hml, hown, hts⟩ (kL_approve l hst D ad cI cZ cJ q hF.2.1.1 hF.2.2.1.1 B (xs (i + nI 1).toNatClampNeg) o B1 ro co hB hal) (vx_cwSW 3 hts gL_law_L_approve rfl rfl rfl (by decide +kernel) ⟨Nat.le_of_ble_eq_true rfl, Nat.le_of_ble_eq_true rfl⟩) hF hLS rfl hl.1 rfl (Nat.le_of_ble_eq_true rfl) dL_law_568 hc hs (fun H locs hLS => ?_)
  refine lv_istore (lv' := [(5, .int (ps13 co)), (0, .ref b), (1, .ref (ad 0)), (2, .ref (md 0)), (3, .ref q), (4, .int i)]) hx hb dL_law_571 hl (by decide) rfl (fun ls hl => ?_)
  have hl5 : lv_has ls 7 (LLo b (ad 0) (md 0) q i) := lv_sub hl [1, 2, 3, 4, 5] rfl
  refine lv_aload_n hx hb dL_law_573 rfl (lv_at hl 3 rfl) ?_
  refine l_ld hx hb hX hbl hLS.2.2 hl5 (nI 1) (by decide) (hi 1 (by omega)) dL_law_574 dL_law_575 dL_law_577 dL_law_578 dL_law_579 ?_
  refine l_callM (M' := M1) (r := rb) [.int (xs (i + nI 1).toNatClampNeg)] [] ⟨hx, hb, hml, hown, hts⟩ (kX7_approve l D md cI cZ hF.2.1.2 M (xs (i + nI 1).toNatClampNeg) M1 rb hM) (cwV 1 hts gL_law_X7_approve rfl rfl rfl (by decide +kernel) ⟨Nat.le_of_ble_eq_true rfl, Nat.le_of_ble_eq_true rfl⟩) hF hLS rfl hl.1 rfl (Nat.le_of_ble_eq_true rfl) dL_law_580 hc hs (fun H locs hLS => ?_)
  refine lv_istore (lv' := [(6, .int rb), (5, .int (ps13 co)), (0, .ref b), (1, .ref (ad 0)), (2, .ref (md 0)), (3, .ref q), (4, .int i)]) hx hb dL_law_583 hl (by decide) rfl (fun ls hl => ?_)
  refine lv_aload_n hx hb dL_law_585 rfl (lv_at hl 4 rfl) ?_
  refine l_callM (M' := M1) (r := M1.1 0) [] [] ⟨hx, hb, hml, hown, hts⟩ (kX7_thrown l D md cI cZ hF.2.1.2 M1 M1 (M1.1 0) rfl) (cwV 0 hts gL_law_X7_thrown rfl rfl rfl (by decide +kernel) ⟨Nat.le_of_ble_eq_true rfl, Nat.le_of_ble_eq_true rfl⟩) hF hLS rfl hl.1 rfl (Nat.le_of_ble_eq_true rfl) dL_law_586 hc hs (fun H locs hLS => ?_)
  refine lv_iload hx hb dL_law_589 (lv_at hl 1 rfl) ?_
  refine lv_icmp_eq (tgt := 596) hx hb dL_law_591 (by decide) (fun _ => ?_) (fun h => absurd hth h)
  refine lv_iload hx hb dL_law_596 (lv_at hl 1 rfl) ?_
  refine lv_if_ne (tgt := 620) hx hb dL_law_598 (by decide) (fun h => ?_) (fun h => ?_)
  · refine lv_goto (tgt := 1291) hx hb dL_law_620 (by decide) ?_
    exact kk B1 M1 _ H locs ls hRl hLS (lv_sub hl [2, 3, 4, 5, 6] rfl)
  · have hco : co = 0 := hal.resolve_right (fun z => z h)
    subst hco
    refine lv_aload_n hx hb dL_law_601 rfl (lv_at hl 5 rfl) ?_
    refine lv_iconst (v := 0) hx hb dL_law_602 (by decide) ?_
    refine l_lald hx hb hF hLS dL_law_603 ?_
    refine lv_iload hx hb dL_law_604 (lv_at hl 0 rfl) ?_
    refine lv_if_eq (tgt := 613) hx hb dL_law_606 (by decide) (fun hz => ?_) (fun hz => ?_)
    · refine lv_lconst (v := 0) hx hb dL_law_613 rfl ?_
      refine W.lcmp hx hb dL_law_614 ?_
      refine lv_if_eq (tgt := 620) hx hb dL_law_615 (by decide) (fun _ => ?_) (fun h => absurd (l_cmp0 (show zb ro = 0 from by rw [hro rfl]; unfold zb; rw [if_pos hz])) h)
      refine lv_goto (tgt := 1291) hx hb dL_law_620 (by decide) ?_
      exact kk B1 M1 _ H locs ls hRl hLS (lv_sub hl [2, 3, 4, 5, 6] rfl)
    · refine lv_lconst (v := 1) hx hb dL_law_609 rfl ?_
      refine lv_goto (tgt := 614) hx hb dL_law_610 (by decide) ?_
      refine W.lcmp hx hb dL_law_614 ?_
      refine lv_if_eq (tgt := 620) hx hb dL_law_615 (by decide) (fun _ => ?_) (fun h => absurd (l_cmp0 (show zb ro = 1 from by rw [hro rfl]; unfold zb; rw [if_neg hz])) h)
      refine lv_goto (tgt := 1291) hx hb dL_law_620 (by decide) ?_
      exact kk B1 M1 _ H locs ls hRl hLS (lv_sub hl [2, 3, 4, 5, 6] rfl)
set_option maxHeartbeats 4000000 in
set_option maxRecDepth 100000 in
theorem lc_land {p : Program} {l : Launch} {e : Env} {s : State} {m : MethodId} {below : List Frame} {meth : Method} {c : Code} {H : Heap} {locs : List Loc} {cells slots : Nat} {Q : State → Prop} {ls : Array Slot} {D : va_G} {cI cZ cJ : ClassId} {ad md : Nat → Nat} {q : Nat} {B M : St} {o : Nat → Int64} {b L : Nat} {xs : Nat → Int32} {np nn nf nr d : Nat} {i : Int32} (C0 : LCx p l s m c b L xs) (hF : LFx D cI cZ cJ ad md q s) (hLS : LSt D cI cZ cJ ad md q s B M o H locs) (hR : Rel B M np nn nf nr d) (hl : lv_has ls 7 (LLo b (ad 0) (md 0) q i)) (hi : ∀ j : Nat, j < 5 → vp_in (i + nI j) L) (hc : cells + 1 ≤ 1092) (hs : slots + 6 ≤ 9356)
    (kk : ∀ (B1 M1 : St) (o1 : Nat → Int64) (H1 : Heap) (locs1 : List Loc) (ls1 : Array Slot), Rl B1 M1 → LSt D cI cZ cJ ad md q s B1 M1 o1 H1 locs1 → lv_has ls1 7 (LLo b (ad 0) (md 0) q i) → W p l e room_1 s m #[Value.ref b] below meth c H1 locs1 (cells + 1) (slots + 6) Q (F0 m 1291 ls1 [])) : W p l e room_1 s m #[Value.ref b] below meth c H locs cells slots Q (F0 m 623 ls []) := by
  obtain ⟨hx, hb, hml, hown, hts, hX, hbl, hst⟩ := C0
  obtain ⟨B1, M1, ro, co, rb, hB, hM, hRl, hth, hal, hro⟩ := sim_land hR (xs (i + nI 1).toNatClampNeg) (b01 (xs (i + nI 2).toNatClampNeg))
  refine lv_aload_n hx hb dL_law_623 rfl (lv_at hl 1 rfl) ?_
  refine l_ld hx hb hX hbl hLS.2.2 hl (nI 1) (by decide) (hi 1 (by omega)) dL_law_624 dL_law_625 dL_law_627 dL_law_628 dL_law_629 ?_
  refine l_ld hx hb hX hbl hLS.2.2 hl (nI 2) (by decide) (hi 2 (by omega)) dL_law_630 dL_law_631 dL_law_633 dL_law_634 dL_law_635 ?_
  refine l_bool hx hb dL_law_636 dL_law_639 dL_law_640 dL_law_643 ?_
  refine lv_aload_n hx hb dL_law_644 rfl (lv_at hl 3 rfl) ?_
  refine l_callW (B' := B1) (o' := (if co = 0 then vp_updL o 0 (Int32.toInt64 ro) else o)) (r := ps13 co) [.ref (ad 0), .int (xs (i + nI 1).toNatClampNeg), .int (b01 (xs (i + nI 2).toNatClampNeg)), .ref q] [] ⟨hx, hb, hml, hown, hts⟩ (kL_land l hst D ad cI cZ cJ q hF.2.1.1 hF.2.2.1.1 B (xs (i + nI 1).toNatClampNeg) (b01 (xs (i + nI 2).toNatClampNeg)) o B1 ro co hB hal) (vx_cwSW 4 hts gL_law_L_land rfl rfl rfl (by decide +kernel) ⟨Nat.le_of_ble_eq_true rfl, Nat.le_of_ble_eq_true rfl⟩) hF hLS rfl hl.1 rfl (Nat.le_of_ble_eq_true rfl) dL_law_645 hc hs (fun H locs hLS => ?_)
  refine lv_istore (lv' := [(5, .int (ps13 co)), (0, .ref b), (1, .ref (ad 0)), (2, .ref (md 0)), (3, .ref q), (4, .int i)]) hx hb dL_law_648 hl (by decide) rfl (fun ls hl => ?_)
  have hl5 : lv_has ls 7 (LLo b (ad 0) (md 0) q i) := lv_sub hl [1, 2, 3, 4, 5] rfl
  refine lv_aload_n hx hb dL_law_650 rfl (lv_at hl 3 rfl) ?_
  refine l_ld hx hb hX hbl hLS.2.2 hl5 (nI 1) (by decide) (hi 1 (by omega)) dL_law_651 dL_law_652 dL_law_654 dL_law_655 dL_law_656 ?_
  refine l_ld hx hb hX hbl hLS.2.2 hl5 (nI 2) (by decide) (hi 2 (by omega)) dL_law_657 dL_law_658 dL_law_660 dL_law_661 dL_law_662 ?_
  refine l_bool hx hb dL_law_663 dL_law_666 dL_law_667 dL_law_670 ?_
  refine l_callM (M' := M1) (r := rb) [.int (xs (i + nI 1).toNatClampNeg), .int (b01 (xs (i + nI 2).toNatClampNeg))] [] ⟨hx, hb, hml, hown, hts⟩ (kX7_land l D md cI cZ hF.2.1.2 M (xs (i + nI 1).toNatClampNeg) (b01 (xs (i + nI 2).toNatClampNeg)) M1 rb hM) (cwV 2 hts gL_law_X7_land rfl rfl rfl (by decide +kernel) ⟨Nat.le_of_ble_eq_true rfl, Nat.le_of_ble_eq_true rfl⟩) hF hLS rfl hl.1 rfl (Nat.le_of_ble_eq_true rfl) dL_law_671 hc hs (fun H locs hLS => ?_)
  refine lv_istore (lv' := [(6, .int rb), (5, .int (ps13 co)), (0, .ref b), (1, .ref (ad 0)), (2, .ref (md 0)), (3, .ref q), (4, .int i)]) hx hb dL_law_674 hl (by decide) rfl (fun ls hl => ?_)
  refine lv_aload_n hx hb dL_law_676 rfl (lv_at hl 4 rfl) ?_
  refine l_callM (M' := M1) (r := M1.1 0) [] [] ⟨hx, hb, hml, hown, hts⟩ (kX7_thrown l D md cI cZ hF.2.1.2 M1 M1 (M1.1 0) rfl) (cwV 0 hts gL_law_X7_thrown rfl rfl rfl (by decide +kernel) ⟨Nat.le_of_ble_eq_true rfl, Nat.le_of_ble_eq_true rfl⟩) hF hLS rfl hl.1 rfl (Nat.le_of_ble_eq_true rfl) dL_law_677 hc hs (fun H locs hLS => ?_)
  refine lv_iload hx hb dL_law_680 (lv_at hl 1 rfl) ?_
  refine lv_icmp_eq (tgt := 687) hx hb dL_law_682 (by decide) (fun _ => ?_) (fun h => absurd hth h)
  refine lv_iload hx hb dL_law_687 (lv_at hl 1 rfl) ?_
  refine lv_if_ne (tgt := 704) hx hb dL_law_689 (by decide) (fun h => ?_) (fun h => ?_)
  · refine lv_goto (tgt := 1291) hx hb dL_law_704 (by decide) ?_
    exact kk B1 M1 _ H locs ls hRl hLS (lv_sub hl [2, 3, 4, 5, 6] rfl)
  · have hco : co = 0 := hal.resolve_right (fun z => z h)
    subst hco
    refine lv_aload_n hx hb dL_law_692 rfl (lv_at hl 5 rfl) ?_
    refine lv_iconst (v := 0) hx hb dL_law_693 (by decide) ?_
    refine l_lald hx hb hF hLS dL_law_694 ?_
    refine lv_iload hx hb dL_law_695 (lv_at hl 0 rfl) ?_
    refine lv_i2l (v := Int32.toInt64 rb) hx hb dL_law_697 rfl ?_
    refine W.lcmp hx hb dL_law_698 ?_
    refine lv_if_eq (tgt := 704) hx hb dL_law_699 (by decide) (fun _ => ?_) (fun h => absurd (l_cmp0 (congrArg Int32.toInt64 (hro rfl))) h)
    refine lv_goto (tgt := 1291) hx hb dL_law_704 (by decide) ?_
    exact kk B1 M1 _ H locs ls hRl hLS (lv_sub hl [2, 3, 4, 5, 6] rfl)
set_option maxHeartbeats 4000000 in
set_option maxRecDepth 100000 in
theorem lc_close {p : Program} {l : Launch} {e : Env} {s : State} {m : MethodId} {below : List Frame} {meth : Method} {c : Code} {H : Heap} {locs : List Loc} {cells slots : Nat} {Q : State → Prop} {ls : Array Slot} {D : va_G} {cI cZ cJ : ClassId} {ad md : Nat → Nat} {q : Nat} {B M : St} {o : Nat → Int64} {b L : Nat} {xs : Nat → Int32} {np nn nf nr d : Nat} {i : Int32} (C0 : LCx p l s m c b L xs) (hF : LFx D cI cZ cJ ad md q s) (hLS : LSt D cI cZ cJ ad md q s B M o H locs) (hR : Rel B M np nn nf nr d) (hl : lv_has ls 7 (LLo b (ad 0) (md 0) q i)) (hi : ∀ j : Nat, j < 5 → vp_in (i + nI j) L) (hc : cells + 1 ≤ 1092) (hs : slots + 6 ≤ 9356)
    (kk : ∀ (B1 M1 : St) (o1 : Nat → Int64) (H1 : Heap) (locs1 : List Loc) (ls1 : Array Slot), Rl B1 M1 → LSt D cI cZ cJ ad md q s B1 M1 o1 H1 locs1 → lv_has ls1 7 (LLo b (ad 0) (md 0) q i) → W p l e room_1 s m #[Value.ref b] below meth c H1 locs1 (cells + 1) (slots + 6) Q (F0 m 1291 ls1 [])) : W p l e room_1 s m #[Value.ref b] below meth c H locs cells slots Q (F0 m 707 ls []) := by
  obtain ⟨hx, hb, hml, hown, hts, hX, hbl, hst⟩ := C0
  obtain ⟨B1, M1, co, hB, hM, hRl, hth, hal⟩ := sim_close hR (xs (i + nI 1).toNatClampNeg)
  refine lv_aload_n hx hb dL_law_707 rfl (lv_at hl 1 rfl) ?_
  refine l_ld hx hb hX hbl hLS.2.2 hl (nI 1) (by decide) (hi 1 (by omega)) dL_law_708 dL_law_709 dL_law_711 dL_law_712 dL_law_713 ?_
  refine l_callW (B' := B1) (o' := o) (r := ps13 co) [.ref (ad 0), .int (xs (i + nI 1).toNatClampNeg)] [] ⟨hx, hb, hml, hown, hts⟩ (kL_close l hst D ad cI cZ cJ q hF.2.1.1 hF.2.2.1.1 B (xs (i + nI 1).toNatClampNeg) o B1 0 co hB hal) (vx_cwSW 2 hts gL_law_L_close rfl rfl rfl (by decide +kernel) ⟨Nat.le_of_ble_eq_true rfl, Nat.le_of_ble_eq_true rfl⟩) hF hLS rfl hl.1 rfl (Nat.le_of_ble_eq_true rfl) dL_law_714 hc hs (fun H locs hLS => ?_)
  refine lv_istore (lv' := [(5, .int (ps13 co)), (0, .ref b), (1, .ref (ad 0)), (2, .ref (md 0)), (3, .ref q), (4, .int i)]) hx hb dL_law_717 hl (by decide) rfl (fun ls hl => ?_)
  have hl5 : lv_has ls 7 (LLo b (ad 0) (md 0) q i) := lv_sub hl [1, 2, 3, 4, 5] rfl
  refine lv_aload_n hx hb dL_law_719 rfl (lv_at hl 3 rfl) ?_
  refine l_ld hx hb hX hbl hLS.2.2 hl5 (nI 1) (by decide) (hi 1 (by omega)) dL_law_720 dL_law_721 dL_law_723 dL_law_724 dL_law_725 ?_
  refine l_callMv (M' := M1) [.int (xs (i + nI 1).toNatClampNeg)] [] ⟨hx, hb, hml, hown, hts⟩ (kX7_close l D md cI cZ hF.2.1.2 M (xs (i + nI 1).toNatClampNeg) M1 hM) (cwV 1 hts gL_law_X7_close rfl rfl rfl (by decide +kernel) ⟨Nat.le_of_ble_eq_true rfl, Nat.le_of_ble_eq_true rfl⟩) hF hLS rfl hl.1 rfl (Nat.le_of_ble_eq_true rfl) dL_law_726 hc hs (fun H locs hLS => ?_)
  refine lv_aload_n hx hb dL_law_729 rfl (lv_at hl 3 rfl) ?_
  refine l_callM (M' := M1) (r := M1.1 0) [] [] ⟨hx, hb, hml, hown, hts⟩ (kX7_thrown l D md cI cZ hF.2.1.2 M1 M1 (M1.1 0) rfl) (cwV 0 hts gL_law_X7_thrown rfl rfl rfl (by decide +kernel) ⟨Nat.le_of_ble_eq_true rfl, Nat.le_of_ble_eq_true rfl⟩) hF hLS rfl hl.1 rfl (Nat.le_of_ble_eq_true rfl) dL_law_730 hc hs (fun H locs hLS => ?_)
  refine lv_iload hx hb dL_law_733 (lv_at hl 0 rfl) ?_
  refine lv_icmp_eq (tgt := 740) hx hb dL_law_735 (by decide) (fun _ => ?_) (fun h => absurd hth h)
  refine lv_goto (tgt := 1291) hx hb dL_law_740 (by decide) ?_
  exact kk B1 M1 _ H locs ls hRl hLS (lv_sub hl [1, 2, 3, 4, 5] rfl)
