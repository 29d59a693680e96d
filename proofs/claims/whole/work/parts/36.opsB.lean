/-! landing, second part: the model's three ways -/
theorem m_220s {M : St} {nr : Nat} (hr : M.1 6 = nI nr) (hrr : nr ≤ 40) (old many : Int32) (f a : Nat → Int32) {t : Int32} (ht : t ≠ 0) :
    f7_land_L220 2000 old many 0 (nI nr - 1) (lS M f (fld (fun s k => if inG M old k = true then upd s k t else s) (M.2 9) 0 nr) a) = some (lS M f (fld (fun s k => if inG M old k = true then upd s k t else s) (M.2 9) 0 nr) a, many) := by
  have hs := fun k => fld_upd (P := inG M old) (t := fun _ => t) nr 0 (M.2 9) k
  generalize fld (fun s k => if inG M old k = true then upd s k t else s) (M.2 9) 0 nr = s at hs
  refine m_220n (S := lS M f s a) hr hrr old many (fun k hk hc => ?_)
  have c1 : s k = 0 := hc.1
  have c2 : M.2 14 k = old := hc.2
  rw [hs k] at c1
  by_cases hg : inG M old k = true
  · rw [if_pos ⟨Nat.zero_le _, by omega, hg⟩] at c1
    exact ht c1
  · rw [if_neg (fun z => hg z.2.2)] at c1
    exact hg (inG_t.mpr ⟨c1, c2⟩)
theorem land_p {M : St} {np nn nf nr d : Nat} (hI : Inv M np nn nf nr d) {v2 : Int32} (hv : v2 ≠ 0) (old many : Int32) :
    f7_land_L69 2000 v2 old many 0 M = some (lS M (plan (inG M old) (M.2 10) (M.2 11) (M.2 0) 0 nr) (fld (fun s k => if inG M old k = true then upd s k 1 else s) (M.2 9) 0 nr) (M.2 16), many) := by
  obtain ⟨⟨⟨-, hpp⟩, -, -, ⟨hr, hrr⟩, -⟩, -, hpk, -⟩ := hI
  have h1 := m_l69 (M := M) hr hrr v2 old many (fun k S => stS (stS S 0 (tn (M.2 10 k)) (M.2 11 k)) 9 k 1) (fun k S k69 hk e1 e10 e11 e9 e14 => by
    obtain ⟨p, hp, hp2⟩ := hpk k hk
    have l9 : ldA S 9 40 (nI k) = some 0 := by rw [ldA_ok (by omega) (by omega), e9]
    have l14 : ldA S 14 40 (nI k) = some old := by rw [ldA_ok (by omega) (by omega), e14]
    have l10 : ldA S 10 40 (nI k) = some (nI p) := by rw [ldA_ok (by omega) (by omega), e10, hp2]
    have l11 : ldA S 11 40 (nI k) = some (M.2 11 k) := by rw [ldA_ok (by omega) (by omega), e11]
    have s0 : stA S 0 12 (nI p) (M.2 11 k) = some (stS S 0 p (M.2 11 k)) := stA_ok (by omega) (by omega)
    have s9 : stA (stS S 0 p (M.2 11 k)) 9 40 (nI k) 1 = some (stS (stS S 0 p (M.2 11 k)) 9 k 1) := stA_ok (by omega) (by omega)
    unfold f7_land_L69b
    rw [e1, hr, if_neg (le_no (by omega) (by omega)), l9, Option.bind_some, if_pos rfl, l14, Option.bind_some, if_pos rfl, if_neg hv, l10, Option.bind_some, l11, Option.bind_some, s0, Option.bind_some, s9, Option.bind_some, nI_s]
    rw [hp2, tn_nI (by omega)]) (fun k S => ⟨rfl, rfl, rfl, rfl, fun q hq => upd_ne _ _ hq⟩) nr 0 2000 M (by omega) (by omega) rfl rfl rfl rfl (fun _ _ => rfl)
  have h2 := fld_map (fun (q : (Nat → Int32) × (Nat → Int32)) => lS M q.1 q.2 (M.2 16)) (f := fun q k => (if inG M old k = true then upd q.1 (tn (M.2 10 k)) (M.2 11 k) else q.1, if inG M old k = true then upd q.2 k 1 else q.2)) (g := fun S k => if inG M old k = true then stS (stS S 0 (tn (M.2 10 k)) (M.2 11 k)) 9 k 1 else S) (fun a k => by
    by_cases hc : inG M old k = true
    · simp only [if_pos hc]
      rw [lS_0, lS_9]
    · simp only [if_neg hc]) nr 0 (M.2 0, M.2 9)
  have h3 := fld_pair (f := fun s k => if inG M old k = true then upd s (tn (M.2 10 k)) (M.2 11 k) else s) (g := fun s k => if inG M old k = true then upd s k 1 else s) nr 0 (M.2 0) (M.2 9)
  rw [h3] at h2
  dsimp only at h2
  rw [lS_self] at h2
  refine h1.trans ?_
  rw [h2]
  exact m_220s hr hrr old many _ _ (by decide)
theorem land_a {M : St} {nr : Nat} (hr : M.1 6 = nI nr) (hrr : nr ≤ 40) (old : Int32) :
    f7_land_L69 2000 0 old 1 0 M = some (lS M (M.2 0) (fld (fun s k => if inG M old k = true then upd s k 2 else s) (M.2 9) 0 nr) (M.2 16), 1) := by
  have h1 := m_l69 (M := M) hr hrr 0 old 1 (fun k S => stS S 9 k 2) (fun k S k69 hk e1 e10 e11 e9 e14 => by
    have l9 : ldA S 9 40 (nI k) = some 0 := by rw [ldA_ok (by omega) (by omega), e9]
    have l14 : ldA S 14 40 (nI k) = some old := by rw [ldA_ok (by omega) (by omega), e14]
    have s9 : stA S 9 40 (nI k) 2 = some (stS S 9 k 2) := stA_ok (by omega) (by omega)
    unfold f7_land_L69b
    rw [e1, hr, if_neg (le_no (by omega) (by omega)), l9, Option.bind_some, if_pos rfl, l14, Option.bind_some, if_pos rfl, if_pos rfl]
    unfold f7_land_J134
    rw [l9, Option.bind_some, if_pos rfl, l14, Option.bind_some, if_pos rfl, if_pos rfl, s9, Option.bind_some, nI_s]) (fun k S => ⟨rfl, rfl, rfl, rfl, fun q hq => upd_ne _ _ hq⟩) nr 0 2000 M (by omega) (by omega) rfl rfl rfl rfl (fun _ _ => rfl)
  have h2 := fld_map (fun (q : Nat → Int32) => lS M (M.2 0) q (M.2 16)) (f := fun q k => if inG M old k = true then upd q k 2 else q) (g := fun S k => if inG M old k = true then stS S 9 k 2 else S) (fun a k => by
    by_cases hc : inG M old k = true
    · simp only [if_pos hc]
      rw [lS_9]
    · simp only [if_neg hc]) nr 0 (M.2 9)
  rw [lS_self] at h2
  refine h1.trans ?_
  rw [h2]
  exact m_220s hr hrr old 1 _ _ (by decide)
theorem land_m {M : St} {nr : Nat} (hr : M.1 6 = nI nr) (hrr : nr ≤ 40) (old : Int32) {many : Int32} (hm : many ≠ 1) :
    f7_land_L69 2000 0 old many 0 M = f7_land_L220 2000 old many 0 (nI nr - 1) (lS M (M.2 0) (M.2 9) (fld (fun s k => if inG M old k = true then upd s k 0 else s) (M.2 16) 0 nr)) := by
  have h1 := m_l69 (M := M) hr hrr 0 old many (fun k S => stS S 16 k 0) (fun k S k69 hk e1 e10 e11 e9 e14 => by
    have l9 : ldA S 9 40 (nI k) = some 0 := by rw [ldA_ok (by omega) (by omega), e9]
    have l14 : ldA S 14 40 (nI k) = some old := by rw [ldA_ok (by omega) (by omega), e14]
    have s9 : stZ S 16 40 (nI k) 0 = some (stS S 16 k 0) := stZ_ok (by omega) (by omega) (Or.inl rfl)
    unfold f7_land_L69b
    rw [e1, hr, if_neg (le_no (by omega) (by omega)), l9, Option.bind_some, if_pos rfl, l14, Option.bind_some, if_pos rfl, if_pos rfl]
    unfold f7_land_J134
    rw [l9, Option.bind_some, if_pos rfl, l14, Option.bind_some, if_pos rfl, if_neg hm]
    unfold f7_land_J173
    rw [l9, Option.bind_some, if_pos rfl, l14, Option.bind_some, if_pos rfl, s9, Option.bind_some, nI_s]) (fun k S => ⟨rfl, rfl, rfl, rfl, fun q hq => rfl⟩) nr 0 2000 M (by omega) (by omega) rfl rfl rfl rfl (fun _ _ => rfl)
  have h2 := fld_map (fun (q : Nat → Int32) => lS M (M.2 0) (M.2 9) q) (f := fun q k => if inG M old k = true then upd q k 0 else q) (g := fun S k => if inG M old k = true then stS S 16 k 0 else S) (fun a k => by
    by_cases hc : inG M old k = true
    · simp only [if_pos hc]
      rw [lS_16]
    · simp only [if_neg hc]) nr 0 (M.2 16)
  rw [lS_self] at h2
  refine h1.trans ?_
  rw [h2]
