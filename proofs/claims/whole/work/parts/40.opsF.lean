/-! landing, last part -/
theorem sim_land {B M : St} {np nn nf nr d : Nat} (h : Rel B M np nn nf nr d) (v v2 : Int32) : Sim (y6_land B v v2) (f7_land M v v2) ps13 := by
  have hr := h.nr
  rcases y_ckO h v with ⟨hv, hc⟩ | ⟨r, hr1, rfl, hv, h9, hc⟩ | ⟨r, ho, hr1, rfl, hv, h9, hc⟩
  · refine Sim.no (k := 1) (t := 1) h ?_ ?_ rfl (by omega) (by omega)
    · unfold y6_land
      rw [hc]
      rfl
    · unfold f7_land
      rw [m_isRaise, Option.bind_some, hv]
      exact no_land (by decide)
  · have lM : ldA M 9 40 (nI r) = some (M.2 9 r) := ldA_ok (by omega) (by omega)
    refine Sim.no (k := 3) (t := 2) h ?_ ?_ rfl (by omega) (by omega)
    · unfold y6_land
      rw [hc]
      rfl
    · unfold f7_land
      rw [m_isRaise, Option.bind_some, hv]
      dsimp only
      rw [if_neg (by decide), lM, Option.bind_some, if_neg h9]
      exact no_land (by decide)
  · have lM : ldA M 9 40 (nI r) = some (M.2 9 r) := ldA_ok (by omega) (by omega)
    have l14 : ldA M 14 40 (nI r) = some (M.2 14 r) := ldA_ok (by omega) (by omega)
    obtain ⟨y, y1, y2, y3⟩ := h.gOf ho
    obtain ⟨w, hB⟩ := b_landable h y2
    obtain ⟨w2, hM⟩ := m_landable h (M.2 14 r)
    have hB1 : y6_land B (nI r) v2 = if bI (decide (fcG M nn nr (M.2 14 r) = 0) && lnd M nf nr (M.2 14 r)) = 0 then some (scb B w, (0 : Int32), 3) else (fJ_bitCount_0f7a4 (scb B w) y).bind fun q18 => (fun (S9 : St) (x8 : Int32) => if v2 = 0 then (if x8 = 1 then ((f4_end S9 (nI r) 2).bind fun S13 => some (S13, x8, 0)) else ((f2_part S9 y).bind fun S15 => some (S15, x8, 0))) else ((f4_release S9 y).bind fun S17 => some (S17, x8, 0))) q18.1 q18.2 := by
      unfold y6_land
      rw [hc, xB_0]
      dsimp only
      rw [y1, Option.bind_some]
      dsimp only
      rw [hB, Option.bind_some]
    have hM1 : f7_land M (nI r) v2 = if bI (decide (fcG M nn nr (M.2 14 r) = 0) && lnd M nf nr (M.2 14 r)) = 0 then f7_land_J37 (nI r) v2 (scr M w2) else f7_land_J42 (nI r) v2 0 (scr M w2) := by
      unfold f7_land
      rw [m_isRaise, Option.bind_some, hv]
      dsimp only
      rw [if_neg (by decide), lM, Option.bind_some, if_pos h9, l14, Option.bind_some, hM, Option.bind_some]
    by_cases hbb : (decide (fcG M nn nr (M.2 14 r) = 0) && lnd M nf nr (M.2 14 r)) = true
    · rw [hbb, if_neg (by decide)] at hB1 hM1
      have hfc : fcG M nn nr (M.2 14 r) = 0 := by
        rw [Bool.and_eq_true, decide_eq_true_eq] at hbb
        exact hbb.1
      -- the states from here on
      have hR : Rel (scb B w) (sF (scr M w2) 0 0) np nn nf nr d := ((h.scr w2).scb w).th 0
      have ey2 : SetIs (opn (sF (scr M w2) 0 0) nr) y (fun q => decide ((sF (scr M w2) 0 0).2 14 q = (sF (scr M w2) 0 0).2 14 r)) := y2
      have ey3 : ∀ j, j < 32 → (opn (sF (scr M w2) 0 0) nr).length ≤ j → bt y j = false := y3
      have efc : fcG (sF (scr M w2) 0 0) nn nr ((sF (scr M w2) 0 0).2 14 r) = 0 := hfc
      have eho : r ∈ opn (sF (scr M w2) 0 0) nr := ho
      have e0 : (sF (scr M w2) 0 0).1 0 = 0 := rfl
      have hM2 : f7_land_J42 (nI r) v2 0 (scr M w2) = (ldA (sF (scr M w2) 0 0) 14 40 (nI r)).bind fun x35 => (f7_sizeOf (sF (scr M w2) 0 0) x35).bind fun q38 => (fun S37 x36 => f7_land_L69 2000 v2 x35 x36 0 S37) q38.1 q38.2 := by
        unfold f7_land_J42
        rw [f7_refused_eq, Option.bind_some, if_pos rfl]
        dsimp only
        rw [if_pos rfl]
      rw [hM2] at hM1
      generalize scb B w = B2 at hR hB1
      generalize sF (scr M w2) 0 0 = M2 at hR hM1 ey2 ey3 efc eho e0
      clear hM2 hM hB y1 y2 y3 hfc
      have k14 : ldA M2 14 40 (nI r) = some (M2.2 14 r) := ldA_ok (by omega) (by omega)
      rw [hR.count ey2 ey3, Option.bind_some] at hB1
      rw [k14, Option.bind_some, hR.size, Option.bind_some] at hM1
      dsimp only at hB1 hM1
      have hsz : (opn M2 nr).countP (fun q => decide (M2.2 14 q = M2.2 14 r)) ≤ 10 := Nat.le_trans List.countP_le_length hR.ol.2.1
      by_cases h2 : v2 = 0
      · rw [if_pos h2] at hB1
        subst h2
        by_cases h1 : (opn M2 nr).countP (fun q => decide (M2.2 14 q = M2.2 14 r)) = 1
        · rw [h1, if_pos i_1.symm] at hB1
          rw [h1, ← i_1] at hM1
          obtain ⟨S, t1, t2⟩ := fail_alone hR e0 eho h1
          rw [t1, Option.bind_some] at hB1
          have hM3 := hM1.trans (land_a hR.nr.1 hR.nr.2 (M2.2 14 r))
          exact ⟨S, _, nI 1, 0, 1, hB1, hM3, ⟨np, nn, nf, nr, d, t2⟩, e0, by omega, fun _ => rfl⟩
        · generalize hN : (opn M2 nr).countP (fun q => decide (M2.2 14 q = M2.2 14 r)) = N at h1 hsz hB1 hM1
          have hN1 : ¬ nI N = 1 := by
            rw [i_1]
            exact ne_ok (by omega) (by omega) h1
          rw [if_neg hN1] at hB1
          have hM3 := hM1.trans (land_m hR.nr.1 hR.nr.2 (M2.2 14 r) hN1)
          have ham := fun k => fld_upd (P := inG M2 (M2.2 14 r)) (t := fun _ => 0) nr 0 (M2.2 16) k
          generalize fld (fun s k => if inG M2 (M2.2 14 r) k = true then upd s k 0 else s) (M2.2 16) 0 nr = am at hM3 ham
          obtain ⟨v6, gm, u1, u2, u3⟩ := m_220 (S := lS M2 (M2.2 0) (M2.2 9) am) hR.nr.2 (M2.2 14 r) (nI N) nr 2000 0 (M2.2 14) (Nat.le_refl _) (by have := hR.nr.2; omega)
          have hself : gM (lS M2 (M2.2 0) (M2.2 9) am) (M2.2 14) = lS M2 (M2.2 0) (M2.2 9) am := gM_self (lS M2 (M2.2 0) (M2.2 9) am)
          rw [hself] at u1
          have hM4 := hM3.trans u1
          obtain ⟨g', a', p1, p2, p3⟩ := part_L hR ey2 (opn M2 nr) 0 2000 (B2.2 16) (B2.2 15) rfl (Nat.zero_le _) (by have := hR.ol.2.1; omega)
          rw [cS_self] at p1
          obtain ⟨hR2, hal⟩ := part_rel hR p2 p3 (gm := gm) (am := am) u2 ham
          have hop : opn (gM (lS M2 (M2.2 0) (M2.2 9) am) gm) nr = opn M2 nr := opn_congr rfl nr
          obtain ⟨B', M', z1, z2, z3, z4⟩ := gives (nr := nr) (v6 := v6) (nI N) ey2 (fun k hk => by
            have e9 : (lS M2 (M2.2 0) (M2.2 9) am).2 9 k = M2.2 9 k := rfl
            have hh := hR.nr.2
            rw [u3 k (by omega), bl_0, e9, mem_opn]
            simp [hk]) nr 0 0 2000 2000 _ _ hR2 hop (fun k hk hk2 => hal k hk (by simpa using hk2)) (by omega) (by rw [← hop]; rfl) (Nat.zero_le _) (by have := hR.nr.2; omega) (by have := hR.nr.2; omega)
          have hB2 : f2_part B2 y = some B' := p1.trans z1
          rw [hB2, Option.bind_some] at hB1
          exact ⟨B', M', nI N, 0, nI N, hB1, hM4.trans z2, ⟨np, nn, nf, nr, d, z3⟩, by rw [z4]; exact e0, by omega, fun _ => rfl⟩
      · rw [if_neg h2] at hB1
        obtain ⟨S, t1, t2⟩ := release hR ey2 efc
        rw [t1, Option.bind_some] at hB1
        exact ⟨S, _, _, 0, _, hB1, hM1.trans (land_p hR.1 h2 _ _), ⟨np, nn, nf, nr, d, t2⟩, e0, by omega, fun _ => rfl⟩
    · have hbf : (decide (fcG M nn nr (M.2 14 r) = 0) && lnd M nf nr (M.2 14 r)) = false := by simpa using hbb
      rw [hbf, if_pos bI_f] at hB1 hM1
      refine Sim.no (B := scb B w) (M := scr M w2) (k := 3) (t := 2) ((h.scr w2).scb w) hB1 (hM1.trans ?_) rfl (by omega) (by omega)
      exact no_land (by decide)
