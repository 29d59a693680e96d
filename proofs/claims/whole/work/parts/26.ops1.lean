/-! the simple calls: the class and the model answer alike -/
def Rl (B M : St) : Prop := ∃ np nn nf nr d, Rel B M np nn nf nr d
def Sim (F : Option (St × Int32 × Nat)) (G : Option (St × Int32)) (pos : Nat → Int32) : Prop := ∃ B' M' r k b, F = some (B', r, k) ∧ G = some (M', b) ∧ Rl B' M' ∧ M'.1 0 = pos k ∧ (k = 0 ∨ pos k ≠ 0) ∧ (k = 0 → r = b)
/-- which place an exception has in its throws clause -/
def ps123 : Nat → Int32 | 1 => 1 | 2 => 2 | 3 => 3 | _ => 0
def ps_23 : Nat → Int32 | 2 => 1 | 3 => 2 | _ => 0
def ps12 : Nat → Int32 | 1 => 1 | 2 => 2 | _ => 0
def ps1 : Nat → Int32 | 1 => 1 | _ => 0
def ps_2 : Nat → Int32 | 2 => 1 | _ => 0
def ps13 : Nat → Int32 | 1 => 1 | 3 => 2 | _ => 0
theorem Rel.th {B M : St} {np nn nf nr d : Nat} (h : Rel B M np nn nf nr d) (t : Int32) : Rel B (sF M 0 t) np nn nf nr d := h.sc (fun q hq => sF_n M t hq) (fun _ _ => rfl) rfl (fun _ _ _ => rfl)
theorem Sim.no {B M : St} {np nn nf nr d : Nat} (h : Rel B M np nn nf nr d) {F : Option (St × Int32 × Nat)} {G : Option (St × Int32)} {pos : Nat → Int32} {k : Nat} {t : Int32} (hF : F = some (B, 0, k)) (hG : G = some (sF M 0 t, 0)) (ht : t = pos k) (hk : k ≤ 3) (hk0 : k ≠ 0) (ht0 : t ≠ 0 := by decide) : Sim F G pos :=
  ⟨B, sF M 0 t, 0, k, 0, hF, hG, ⟨np, nn, nf, nr, d, h.th t⟩, ht, Or.inr (by rw [← ht]; exact ht0), fun q => absurd q hk0⟩
theorem xB_0 (S : St) (r : Int32) (f : St × Int32 → Option (St × Int32 × Nat)) : xB (some (S, r, 0)) f = f (S, r) := rfl
theorem xB_k (S : St) (r : Int32) {k : Nat} (hk : k ≠ 0) (f : St × Int32 → Option (St × Int32 × Nat)) : xB (some (S, r, k)) f = some (S, 0, k) := by
  unfold xB
  rw [Option.bind_some, if_neg hk]
theorem m_isPack (M : St) (v : Int32) : f7_isPack M v = some (M, bI (inr v 0 (M.1 2 - 1))) := by
  unfold f7_isPack
  rw [f7_in_eq, Option.bind_some]
  dsimp only
  rw [bz_ok (bI_01 _), Option.bind_some]
theorem m_isRaise (M : St) (v : Int32) : f7_isRaise M v = some (M, bI (inr v 0 (M.1 6 - 1))) := by
  unfold f7_isRaise
  rw [f7_in_eq, Option.bind_some]
  dsimp only
  rw [bz_ok (bI_01 _), Option.bind_some]
theorem m_isReviewer (M : St) (v : Int32) : f7_isReviewer M v = some (M, bI (inr v 0 5)) := by
  unfold f7_isReviewer
  rw [f7_in_eq, Option.bind_some]
  dsimp only
  rw [bz_ok (bI_01 _), Option.bind_some]
theorem y_ckP (B : St) (v : Int32) : y6_checkPackage B v = some (B, 0, if inr v 0 (B.1 1 - 1) = true then 0 else 1) := by
  unfold y6_checkPackage
  rw [f6_isWithin_eq, Option.bind_some]
  dsimp only
  cases inr v 0 (B.1 1 - 1)
  · rw [if_pos bI_f, if_neg (by decide)]
  · rw [if_neg (by decide), if_pos rfl]
theorem y_ckV (B : St) (v : Int32) : y6_checkReviewer B v = some (B, 0, if inr v 0 5 = true then 0 else 1) := by
  unfold y6_checkReviewer
  rw [f6_isWithin_eq, Option.bind_some]
  dsimp only
  cases inr v 0 5
  · rw [if_pos bI_f, if_neg (by decide)]
  · rw [if_neg (by decide), if_pos rfl]
theorem y_ckR (B : St) (v : Int32) : y6_checkRaise B v = some (B, 0, if inr v 0 (B.1 4 - 1) = true then 0 else 1) := by
  unfold y6_checkRaise
  rw [f6_isWithin_eq, Option.bind_some]
  dsimp only
  cases inr v 0 (B.1 4 - 1)
  · rw [if_pos bI_f, if_neg (by decide)]
  · rw [if_neg (by decide), if_pos rfl]
theorem inr_5 {v : Int32} : inr v 0 5 = true ↔ ∃ j, j < 6 ∧ v = nI j := inr_ix (n := 6) (by omega)
theorem inr_lo {v : Int32} {a b : Nat} (ha : a < 2 ^ 31) (hb : b < 2 ^ 31) : inr v (nI a) (nI b) = true ↔ ∃ j, a ≤ j ∧ j ≤ b ∧ v = nI j := by
  unfold inr
  simp only [Bool.and_eq_true, decide_eq_true_eq]
  constructor
  · rintro ⟨h1, h2⟩
    have h0 : ¬ v < 0 := by
      intro q
      apply h1
      rw [Int32.lt_iff_toInt_lt] at q ⊢
      rw [nI_toInt ha]
      have : (0 : Int32).toInt = 0 := by decide
      omega
    obtain ⟨j, hj, rfl⟩ := nI_of h0
    refine ⟨j, ?_, ?_, rfl⟩
    · have h3 : ¬ j < a := fun q => h1 ((nI_ltI hj ha).mpr q)
      omega
    · have h3 : ¬ b < j := fun q => h2 ((nI_ltI hb hj).mpr q)
      omega
  · rintro ⟨j, h1, h2, rfl⟩
    refine ⟨fun q => ?_, fun q => ?_⟩
    · have := (nI_ltI (by omega) ha).mp q
      omega
    · have := (nI_ltI hb (by omega)).mp q
      omega
theorem no_pack {M : St} {v1 t : Int32} (ht : t ≠ 0) : f7_pack_J29 v1 t M = some (sF M 0 t, 0) := by
  unfold f7_pack_J29
  rw [f7_refused_eq, Option.bind_some, if_neg ht]
  rfl
theorem no_trust {M : St} {v1 v2 t : Int32} (ht : t ≠ 0) : f7_trust_J27 v1 v2 t M = some (sF M 0 t, 0) := by
  unfold f7_trust_J27
  rw [f7_refused_eq, Option.bind_some, if_neg ht]
  rfl
theorem no_patience {M : St} {v1 t : Int32} (ht : t ≠ 0) : f7_patience_J16 v1 t M = some (sF M 0 t, 0) := by
  unfold f7_patience_J16
  rw [f7_refused_eq, Option.bind_some, if_neg ht]
  rfl
theorem no_freeze {M : St} {v1 v2 v3 t : Int32} (ht : t ≠ 0) : f7_freeze_J64 v1 v2 v3 t M = some (sF M 0 t, 0) := by
  unfold f7_freeze_J64
  rw [f7_refused_eq, Option.bind_some, if_neg ht]
  rfl
theorem no_need {M : St} {v1 v2 v3 v4 t : Int32} (ht : t ≠ 0) : f7_need_J112 v1 v2 v3 v4 t M = some (sF M 0 t, 0) := by
  unfold f7_need_J112
  rw [f7_refused_eq, Option.bind_some, if_neg ht]
  rfl
theorem no_raise {M : St} {v1 v2 v3 t : Int32} (ht : t ≠ 0) : f7_raise_J147 v1 v2 v3 t M = some (sF M 0 t, 0) := by
  unfold f7_raise_J147
  rw [f7_refused_eq, Option.bind_some, if_neg ht]
  rfl
theorem no_approve {M : St} {v1 t : Int32} (ht : t ≠ 0) : f7_approve_J39 v1 t M = some (sF M 0 t, 0) := by
  unfold f7_approve_J39
  rw [f7_refused_eq, Option.bind_some, if_neg ht]
  rfl
theorem no_land {M : St} {v1 v2 t : Int32} (ht : t ≠ 0) : f7_land_J42 v1 v2 t M = some (sF M 0 t, 0) := by
  unfold f7_land_J42
  rw [f7_refused_eq, Option.bind_some, if_neg ht]
  rfl
theorem no_pass {M : St} {v1 t : Int32} (ht : t ≠ 0) : f7_pass_J32 v1 t M = some (sF M 0 t, 0) := by
  unfold f7_pass_J32
  rw [f7_refused_eq, Option.bind_some, if_neg ht]
  rfl
theorem no_version {M : St} {v1 t : Int32} (ht : t ≠ 0) : f7_version_J14 v1 t M = some (sF M 0 t, 0) := by
  unfold f7_version_J14
  rw [f7_refused_eq, Option.bind_some, if_neg ht]
  rfl
theorem no_raiseOf {M : St} {v1 v2 t : Int32} (ht : t ≠ 0) : f7_raiseOf_J28 v1 v2 t M = some (sF M 0 t, 0) := by
  unfold f7_raiseOf_J28
  rw [f7_refused_eq, Option.bind_some, if_neg ht]
  rfl
theorem no_fails {M : St} {v1 t : Int32} (ht : t ≠ 0) : f7_fails_J29 v1 t M = some (sF M 0 t, 0) := by
  unfold f7_fails_J29
  rw [f7_refused_eq, Option.bind_some, if_neg ht]
  rfl
theorem no_canLand {M : St} {v1 t : Int32} (ht : t ≠ 0) : f7_canLand_J29 v1 t M = some (sF M 0 t, 0) := by
  unfold f7_canLand_J29
  rw [f7_refused_eq, Option.bind_some, if_neg ht]
  rfl
theorem no_load {M : St} {v1 t : Int32} (ht : t ≠ 0) : f7_load_J13 v1 t M = some (sF M 0 t, 0) := by
  unfold f7_load_J13
  rw [f7_refused_eq, Option.bind_some, if_neg ht]
  rfl
theorem no_fewest {M : St} {v1 t : Int32} (ht : t ≠ 0) : f7_fewest_J29 v1 t M = some (sF M 0 t, 0) := by
  unfold f7_fewest_J29
  rw [f7_refused_eq, Option.bind_some, if_neg ht]
  rfl
theorem no_told {M : St} {v1 v2 t : Int32} (ht : t ≠ 0) : f7_told_J41 v1 v2 t M = some (sF M 0 t, 0) := by
  unfold f7_told_J41
  rw [f7_refused_eq, Option.bind_some, if_neg ht]
  rfl
theorem sim_pack {B M : St} {np nn nf nr d : Nat} (h : Rel B M np nn nf nr d) (v : Int32) : Sim (y6_pack B v) (f7_pack M v) ps_23 := by
  have f1 := h.2.2.1.2.1
  have hp := h.np
  cases hv : inr v 1 99 with
  | false =>
    refine Sim.no (k := 2) (t := 1) h ?_ ?_ rfl (by omega) (by omega)
    · unfold y6_pack
      rw [f6_isWithin_eq, Option.bind_some, hv]
      rfl
    · unfold f7_pack
      rw [f7_in_eq, Option.bind_some, hv]
      exact no_pack (by decide)
  | true =>
    have hB : y6_pack B v = if B.1 1 < 12 then ((f3_add B v).bind fun q7 => (fun (S6 : St) (x5 : Int32) => some (S6, x5, 0)) q7.1 q7.2) else some (B, (0 : Int32), 3) := by
      unfold y6_pack
      rw [f6_isWithin_eq, Option.bind_some, hv]
      rfl
    have hM : f7_pack M v = if M.1 2 = 12 then f7_pack_J29 v 2 M else f7_pack_J29 v 0 M := by
      unfold f7_pack
      rw [f7_in_eq, Option.bind_some, hv]
      rfl
    rw [f1, hp.1] at hB
    rw [hp.1] at hM
    have i12 : (12 : Int32) = nI 12 := by decide +kernel
    by_cases hc : np = 12
    · refine Sim.no (k := 3) (t := 2) h ?_ ?_ rfl (by omega) (by omega)
      · rw [hB, if_neg]
        rw [i12]
        intro q
        have := (nI_ltI (by omega) (by omega)).mp q
        omega
      · rw [hM, if_pos (by rw [hc, i12])]
        exact no_pack (by decide)
    · have hlt : np < 12 := by omega
      rw [if_pos (by rw [i12]; exact nI_lt hlt (by omega))] at hB
      rw [if_neg (by rw [i12]; exact ne_ok (by omega) (by omega) hc)] at hM
      have sB : stA B 0 12 (nI np) v = some (stS B 0 np v) := stA_ok hlt (by omega)
      have sM : stA (sF M 0 0) 0 12 (nI np) v = some (stS (sF M 0 0) 0 np v) := stA_ok hlt (by omega)
      have e1 : f3_add B v = some (sF (stS B 0 np v) 1 (nI (np + 1)), nI np) := by
        unfold f3_add stF
        rw [f1, hp.1, sB, Option.bind_some, stS_1, f1, hp.1, nI_s, Option.bind_some, sF_s, nI_pred]
      have e2 : f7_pack_J29 v 0 M = some (sF (stS (sF M 0 0) 0 np v) 2 (nI (np + 1)), nI np) := by
        unfold f7_pack_J29
        rw [f7_refused_eq, Option.bind_some, if_pos rfl]
        dsimp only
        rw [if_pos rfl]
        have e3 : (sF M 0 0).1 2 = nI np := hp.1
        unfold stF
        rw [e3, sM, Option.bind_some, stS_1, e3, nI_s, Option.bind_some, sF_s, nI_pred]
      refine ⟨sF (stS B 0 np v) 1 (nI (np + 1)), sF (stS (sF M 0 0) 0 np v) 2 (nI (np + 1)), nI np, 0, nI np, by rw [hB, e1]; rfl, by rw [hM, e2], ⟨np + 1, nn, nf, nr, d, ?_⟩, rfl, by omega, fun _ => rfl⟩
      obtain ⟨⟨i0, i1, i2, i3, i4, i5, i6, i7, i8, i9⟩, ⟨⟨a0, a2⟩, a6⟩, ⟨g0, g1, g2, g3, g4, g6⟩, hO⟩ := h
      obtain ⟨vv, hv1, hv2, hv3⟩ := (inr_lo (a := 1) (b := 99) (by omega) (by omega)).mp hv
      refine ⟨⟨⟨⟨rfl, by omega⟩, i0.2⟩, fun k hk => ?_, fun k hk => ?_, i3, i4, i5, i6, i7, fun k hk => ?_, i9.1, fun k hk => ?_, i9.2.2⟩, ⟨⟨?_, a2⟩, a6⟩, ⟨g0, rfl, g2, g3, g4, g6⟩, hO⟩
      · obtain ⟨a, b, q1, q2, q3⟩ := i1 k hk
        exact ⟨a, b, by omega, by omega, q3⟩
      · obtain ⟨p, q1, q2⟩ := i2 k hk
        exact ⟨p, by omega, q2⟩
      · obtain ⟨a, b, q1, q2, q3, q4⟩ := i1 k hk
        refine Eq.trans ?_ (i8 k hk)
        exact vio_agree (np := np) q1 q2 (by omega) q3 q4 (fun p hp2 => upd_ne _ _ (by omega))
      · show ∃ w, 1 ≤ w ∧ w ≤ 99 ∧ upd (M.2 0) np v k = nI w
        by_cases hk2 : k = np
        · exact ⟨vv, hv1, hv2, by rw [hk2, upd_at]; exact hv3⟩
        · rw [upd_ne _ _ hk2]
          exact i9.2.1 k (by omega)
      · show upd (B.2 0) np v = upd (M.2 0) np v
        rw [a0]
theorem sim_trust {B M : St} {np nn nf nr d : Nat} (h : Rel B M np nn nf nr d) (v t : Int32) : Sim (y6_trust B v t) (f7_trust M v t) ps12 := by
  cases hv : inr v 0 5 with
  | false =>
    refine Sim.no (k := 1) (t := 1) h ?_ ?_ rfl (by omega) (by omega)
    · unfold y6_trust
      rw [y_ckV, hv]
      rfl
    · unfold f7_trust
      rw [m_isReviewer, Option.bind_some, hv]
      exact no_trust (by decide)
  | true =>
    cases ht : inr t 0 9 with
    | false =>
      refine Sim.no (k := 2) (t := 2) h ?_ ?_ rfl (by omega) (by omega)
      · unfold y6_trust
        rw [y_ckV, hv, if_pos rfl, xB_0]
        dsimp only
        rw [f6_isWithin_eq, Option.bind_some, ht]
        rfl
      · unfold f7_trust
        rw [m_isReviewer, Option.bind_some, hv]
        dsimp only
        rw [if_neg (by decide), f7_in_eq, Option.bind_some, ht]
        exact no_trust (by decide)
    | true =>
      obtain ⟨j, hj, rfl⟩ := inr_5.mp hv
      have lB : ldA B 18 6 (nI j) = some (M.2 5 j) := by rw [ldA_ok hj (by omega), h.2.1.2.2.2.2.2.2]
      have sB : stA B 18 6 (nI j) t = some (stS B 18 j t) := stA_ok hj (by omega)
      have lM : ldA (sF M 0 0) 5 6 (nI j) = some (M.2 5 j) := ldA_ok hj (by omega)
      have sM : stA (sF M 0 0) 5 6 (nI j) t = some (stS (sF M 0 0) 5 j t) := stA_ok hj (by omega)
      have hB : y6_trust B (nI j) t = some (stS B 18 j t, M.2 5 j, 0) := by
        unfold y6_trust
        rw [y_ckV, hv, if_pos rfl, xB_0]
        dsimp only
        rw [f6_isWithin_eq, Option.bind_some, ht]
        dsimp only
        rw [if_neg (by decide), lB, Option.bind_some, sB, Option.bind_some]
      have hM : f7_trust M (nI j) t = some (stS (sF M 0 0) 5 j t, M.2 5 j) := by
        unfold f7_trust
        rw [m_isReviewer, Option.bind_some, hv]
        dsimp only
        rw [if_neg (by decide), f7_in_eq, Option.bind_some, ht]
        dsimp only
        rw [if_neg (by decide)]
        unfold f7_trust_J27
        rw [f7_refused_eq, Option.bind_some, if_pos rfl]
        dsimp only
        rw [if_pos rfl]
        rw [lM, Option.bind_some, sM, Option.bind_some]
      refine ⟨_, _, _, 0, _, hB, hM, ⟨np, nn, nf, nr, d, ?_⟩, rfl, by omega, fun _ => rfl⟩
      obtain ⟨hI, ⟨a0, a6, a9, a13, a14, a15, a18⟩, hF, hO⟩ := h
      refine ⟨hI, ⟨a0, a6, a9, a13, a14, a15, ?_⟩, hF, hO⟩
      show upd (B.2 18) j t = upd (M.2 5) j t
      rw [a18]
theorem sim_patience {B M : St} {np nn nf nr d : Nat} (h : Rel B M np nn nf nr d) (v : Int32) : Sim (y6_patience B v) (f7_patience M v) ps_2 := by
  cases hv : inr v 1 100 with
  | false =>
    refine Sim.no (k := 2) (t := 1) h ?_ ?_ rfl (by omega) (by omega)
    · unfold y6_patience
      rw [f6_isWithin_eq, Option.bind_some, hv]
      rfl
    · unfold f7_patience
      rw [f7_in_eq, Option.bind_some, hv]
      exact no_patience (by decide)
  | true =>
    have hB : y6_patience B v = some (sF B 6 v, B.1 6, 0) := by
      unfold y6_patience
      rw [f6_isWithin_eq, Option.bind_some, hv]
      rfl
    have hM : f7_patience M v = some (sF (sF M 0 0) 4 v, M.1 4) := by
      unfold f7_patience
      rw [f7_in_eq, Option.bind_some, hv]
      dsimp only
      rw [if_neg (by decide)]
      unfold f7_patience_J16
      rw [f7_refused_eq, Option.bind_some, if_pos rfl]
      rfl
    refine ⟨_, _, _, 0, _, hB, hM, ⟨np, nn, nf, nr, d, ?_⟩, rfl, by omega, fun _ => h.2.2.1.2.2.2.2.2⟩
    obtain ⟨⟨⟨j0, j1, j2, j3, j4, -⟩, i1⟩, hA, ⟨g0, g1, g2, g3, g4, g6⟩, hO⟩ := h
    obtain ⟨j, h1, h2, rfl⟩ := (inr_lo (a := 1) (b := 100) (by omega) (by omega)).mp hv
    exact ⟨⟨⟨j0, j1, j2, j3, j4, j, rfl, h2⟩, i1⟩, hA, ⟨g0, g1, g2, g3, g4, rfl⟩, hO⟩
theorem sim_freeze {B M : St} {np nn nf nr d : Nat} (h : Rel B M np nn nf nr d) (v a b : Int32) : Sim (y6_freeze B v a b) (f7_freeze M v a b) ps_23 := by
  have g3 := h.2.2.1.2.2.2.1
  have hf := h.1.1.2.2.1
  cases hv : (inr v 1 4095 && inr a 0 1000) && inr b a 1000 with
  | false =>
    refine Sim.no (k := 2) (t := 1) h ?_ ?_ rfl (by omega) (by omega)
    · unfold y6_freeze y6_freeze_J33
      rw [f6_isWithin_eq, Option.bind_some]
      dsimp only
      cases h1 : inr v 1 4095 with
      | false => rfl
      | true =>
        rw [if_neg (by decide), f6_isWithin_eq, Option.bind_some]
        dsimp only
        cases h2 : inr a 0 1000 with
        | false => rfl
        | true =>
          rw [if_neg (by decide), f6_isWithin_eq, Option.bind_some]
          dsimp only
          have h3 : inr b a 1000 = false := by simpa [h1, h2] using hv
          rw [h3]
          rfl
    · have hj : f7_freeze_J38 v a b 0 M = some (sF M 0 1, 0) := by
        unfold f7_freeze_J38
        rw [if_pos rfl]
        exact no_freeze (by decide)
      unfold f7_freeze f7_freeze_J37
      rw [f7_in_eq, Option.bind_some]
      dsimp only
      cases h1 : inr v 1 4095 with
      | false => exact hj
      | true =>
        rw [if_neg (by decide), f7_in_eq, Option.bind_some]
        dsimp only
        cases h2 : inr a 0 1000 with
        | false => exact hj
        | true =>
          rw [if_neg (by decide), f7_in_eq, Option.bind_some]
          dsimp only
          have h3 : inr b a 1000 = false := by simpa [h1, h2] using hv
          rw [h3]
          exact hj
  | true =>
    obtain ⟨⟨h1, h2⟩, h3⟩ : (inr v 1 4095 = true ∧ inr a 0 1000 = true) ∧ inr b a 1000 = true := by simpa using hv
    have hB : y6_freeze B v a b = if B.1 3 < 10 then ((f1_add B v a b).bind fun q13 => (fun (S12 : St) (x11 : Int32) => some (S12, x11, 0)) q13.1 q13.2) else some (B, (0 : Int32), 3) := by
      unfold y6_freeze
      rw [f6_isWithin_eq, Option.bind_some, h1]
      dsimp only
      rw [if_neg (by decide), f6_isWithin_eq, Option.bind_some, h2]
      dsimp only
      rw [if_neg (by decide), f6_isWithin_eq, Option.bind_some, h3]
      rfl
    have hM : f7_freeze M v a b = if M.1 5 = 10 then f7_freeze_J64 v a b 2 M else f7_freeze_J64 v a b 0 M := by
      unfold f7_freeze
      rw [f7_in_eq, Option.bind_some, h1]
      dsimp only
      rw [if_neg (by decide), f7_in_eq, Option.bind_some, h2]
      dsimp only
      rw [if_neg (by decide), f7_in_eq, Option.bind_some, h3]
      rfl
    rw [g3, hf.1] at hB
    rw [hf.1] at hM
    by_cases hc : nf = 10
    · refine Sim.no (k := 3) (t := 2) h ?_ ?_ rfl (by omega) (by omega)
      · rw [hB, if_neg]
        rw [i_10]
        intro q
        have := (nI_ltI (by omega) (by omega)).mp q
        omega
      · rw [hM, if_pos (by rw [hc, i_10])]
        exact no_freeze (by decide)
    · have hlt : nf < 10 := by omega
      rw [if_pos (by rw [i_10]; exact nI_lt hlt (by omega))] at hB
      rw [if_neg (by rw [i_10]; exact ne_ok (by omega) (by omega) hc)] at hM
      have s6 : ∀ (S : St) k x, stA S k 10 (nI nf) x = some (stS S k nf x) := fun S k x => stA_ok hlt (by omega)
      have e1 : f1_add B v a b = some (sF (stS (stS (stS B 6 nf v) 7 nf a) 8 nf b) 3 (nI (nf + 1)), nI (nf + 1)) := by
        unfold f1_add stF
        rw [g3, hf.1, s6, Option.bind_some, stS_1, g3, hf.1, s6, Option.bind_some, stS_1, stS_1, g3, hf.1, s6, Option.bind_some, stS_1, stS_1, stS_1, g3, hf.1, nI_s, Option.bind_some, sF_s]
      have e2 : f7_freeze_J64 v a b 0 M = some (sF (stS (stS (stS (sF M 0 0) 6 nf v) 7 nf a) 8 nf b) 5 (nI (nf + 1)), nI (nf + 1)) := by
        unfold f7_freeze_J64
        rw [f7_refused_eq, Option.bind_some, if_pos rfl]
        dsimp only
        rw [if_pos rfl]
        have e3 : (sF M 0 0).1 5 = nI nf := hf.1
        unfold stF
        rw [e3, s6, Option.bind_some, stS_1, e3, s6, Option.bind_some, stS_1, stS_1, e3, s6, Option.bind_some, stS_1, stS_1, stS_1, e3, nI_s, Option.bind_some, sF_s]
      refine ⟨_, _, nI (nf + 1), 0, nI (nf + 1), by rw [hB, e1]; rfl, by rw [hM, e2], ⟨np, nn, nf + 1, nr, d, ?_⟩, rfl, by omega, fun _ => rfl⟩
      obtain ⟨⟨⟨j0, j1, j2, j3⟩, i1⟩, ⟨a0, ⟨a6, a7, a8⟩, a9⟩, ⟨g0, g1, g2, -, g4, g6⟩, hO⟩ := h
      refine ⟨⟨⟨j0, j1, ⟨rfl, by omega⟩, j3⟩, i1⟩, ⟨a0, ⟨?_, ?_, ?_⟩, a9⟩, ⟨g0, g1, g2, rfl, g4, g6⟩, hO⟩
      · show upd (B.2 6) nf v = upd (M.2 6) nf v
        rw [a6]
      · show upd (B.2 7) nf a = upd (M.2 7) nf a
        rw [a7]
      · show upd (B.2 8) nf b = upd (M.2 8) nf b
        rw [a8]
theorem sim_need {B M : St} {np nn nf nr d : Nat} (h : Rel B M np nn nf nr d) (v1 v2 v3 v4 : Int32) : Sim (y6_need B v1 v2 v3 v4) (f7_need M v1 v2 v3 v4) ps123 := by
  have f1 := h.2.2.1.2.1
  have f2 := h.2.2.1.2.2.1
  have hp := h.np
  have hn := h.nn
  have c1 : ∀ v, inr v 0 (B.1 1 - 1) = inr v 0 (M.1 2 - 1) := fun v => by rw [f1]
  have hJ1 : f7_need_J21 v1 v2 v3 v4 0 M = some (sF M 0 1, 0) := by
    have hj : ∀ t, f7_need_J55 v1 v2 v3 v4 0 t M = some (sF M 0 1, 0) := fun t => by
      unfold f7_need_J55
      rw [if_pos rfl]
      exact no_need (by decide)
    unfold f7_need_J21 f7_need_J54
    by_cases q : v1 = v2
    · rw [if_pos q]; exact hj 0
    · rw [if_neg q, f7_in_eq, Option.bind_some]
      dsimp only
      cases inr v3 (-98) 98 with
      | false => exact hj 0
      | true =>
        rw [if_neg (by decide), f7_in_eq, Option.bind_some]
        dsimp only
        cases inr v4 v3 98 with
        | false => exact hj 0
        | true => exact hj 1
  cases k1 : inr v1 0 (M.1 2 - 1) with
  | false =>
    refine Sim.no (k := 1) (t := 1) h ?_ ?_ rfl (by omega) (by omega)
    · unfold y6_need
      rw [y_ckP, c1, k1]
      rfl
    · unfold f7_need f7_need_J20
      rw [m_isPack, Option.bind_some, k1]
      exact hJ1
  | true =>
    cases k2 : inr v2 0 (M.1 2 - 1) with
    | false =>
      refine Sim.no (k := 1) (t := 1) h ?_ ?_ rfl (by omega) (by omega)
      · unfold y6_need
        rw [y_ckP, c1, k1, if_pos rfl, xB_0]
        dsimp only
        rw [y_ckP, c1, k2]
        rfl
      · unfold f7_need f7_need_J20
        rw [m_isPack, Option.bind_some, k1]
        dsimp only
        rw [if_neg (by decide), m_isPack, Option.bind_some, k2]
        exact hJ1
    | true =>
      rw [hp.1] at k1 k2
      obtain ⟨x, hx, rfl⟩ := (inr_ix (by omega)).mp k1
      obtain ⟨y, hy, rfl⟩ := (inr_ix (by omega)).mp k2
      have hM0 : f7_need M (nI x) (nI y) v3 v4 = f7_need_J21 (nI x) (nI y) v3 v4 1 M := by
        unfold f7_need
        rw [m_isPack, Option.bind_some, hp.1, k1]
        dsimp only
        rw [if_neg (by decide), m_isPack, Option.bind_some, hp.1, k2]
        rfl
      have hB0 : y6_need B (nI x) (nI y) v3 v4 = (if nI x = nI y then y6_need_J37 B else ((f6_isWithin B v3 ((-98)) 98).bind fun q23 => (fun (S7 : St) (x6 : Int32) => if x6 = 0 then (y6_need_J37 S7) else ((f6_isWithin S7 v4 v3 98).bind fun q22 => (fun (S10 : St) (x9 : Int32) => if x9 = 0 then (y6_need_J37 S10) else ((ldA S10 0 12 (nI y)).bind fun x12 => (ldA S10 0 12 (nI x)).bind fun x13 => (f6_isWithin S10 (x12 - x13) v3 v4).bind fun q21 => (fun (S15 : St) (x14 : Int32) => if x14 = 0 then (some (S15, (0 : Int32), 3)) else (if (S15.1 2) < 20 then ((f3_addNeed S15 (nI x) (nI y) v3 v4).bind fun q20 => (fun (S19 : St) (x18 : Int32) => some (S19, x18, 0)) q20.1 q20.2) else (some (S15, (0 : Int32), 3)))) q21.1 q21.2)) q22.1 q22.2)) q23.1 q23.2)) := by
        unfold y6_need
        rw [y_ckP, c1, hp.1, k1, if_pos rfl, xB_0]
        dsimp only
        rw [y_ckP, c1, hp.1, k2, if_pos rfl, xB_0]
      -- bad arguments
      cases hg : (!decide (nI x = nI y)) && (inr v3 (-98) 98 && inr v4 v3 98) with
      | false =>
        refine Sim.no (k := 2) (t := 2) h ?_ ?_ rfl (by omega) (by omega)
        · rw [hB0]
          by_cases q : nI x = nI y
          · rw [if_pos q]; rfl
          · rw [if_neg q, f6_isWithin_eq, Option.bind_some]
            dsimp only
            cases r1 : inr v3 (-98) 98 with
            | false => rfl
            | true =>
              rw [if_neg (by decide), f6_isWithin_eq, Option.bind_some]
              dsimp only
              have r2 : inr v4 v3 98 = false := by simpa [q, r1] using hg
              rw [r2]
              rfl
        · have hj : f7_need_J55 (nI x) (nI y) v3 v4 1 0 M = some (sF M 0 2, 0) := by
            unfold f7_need_J55
            rw [if_neg (by decide), if_pos rfl]
            exact no_need (by decide)
          rw [hM0]
          unfold f7_need_J21 f7_need_J54
          by_cases q : nI x = nI y
          · rw [if_pos q]; exact hj
          · rw [if_neg q, f7_in_eq, Option.bind_some]
            dsimp only
            cases r1 : inr v3 (-98) 98 with
            | false => exact hj
            | true =>
              rw [if_neg (by decide), f7_in_eq, Option.bind_some]
              dsimp only
              have r2 : inr v4 v3 98 = false := by simpa [q, r1] using hg
              rw [r2]
              exact hj
      | true =>
        obtain ⟨q, r1, r2⟩ : ¬ nI x = nI y ∧ inr v3 (-98) 98 = true ∧ inr v4 v3 98 = true := by simpa using hg
        have lB : ∀ p, p < np → ldA B 0 12 (nI p) = some (M.2 0 p) := fun p hp2 => by rw [ldA_ok (by omega) (by omega), h.2.1.1.1]
        have lM : ∀ p, p < np → ldA M 0 12 (nI p) = some (M.2 0 p) := fun p hp2 => ldA_ok (by omega) (by omega)
        have hB1 : y6_need B (nI x) (nI y) v3 v4 = if bI (inr (M.2 0 y - M.2 0 x) v3 v4) = 0 then (some (B, (0 : Int32), 3)) else (if (B.1 2) < 20 then ((f3_addNeed B (nI x) (nI y) v3 v4).bind fun q20 => (fun (S19 : St) (x18 : Int32) => some (S19, x18, 0)) q20.1 q20.2) else (some (B, (0 : Int32), 3))) := by
          rw [hB0, if_neg q, f6_isWithin_eq, Option.bind_some, r1]
          dsimp only
          rw [if_neg (by decide), f6_isWithin_eq, Option.bind_some, r2]
          dsimp only
          rw [if_neg (by decide), lB y hy, Option.bind_some, lB x hx, Option.bind_some, f6_isWithin_eq, Option.bind_some]
        have hM1 : f7_need M (nI x) (nI y) v3 v4 = if bI (inr (M.2 0 y - M.2 0 x) v3 v4) = 0 then f7_need_J112 (nI x) (nI y) v3 v4 3 M else if M.1 3 = 20 then f7_need_J112 (nI x) (nI y) v3 v4 3 M else f7_need_J112 (nI x) (nI y) v3 v4 0 M := by
          rw [hM0]
          unfold f7_need_J21
          rw [if_neg q, f7_in_eq, Option.bind_some, r1]
          dsimp only
          rw [if_neg (by decide), f7_in_eq, Option.bind_some, r2]
          dsimp only
          rw [if_neg (by decide)]
          unfold f7_need_J55 f7_need_J107
          rw [if_neg (by decide), if_neg (by decide), lM y hy, Option.bind_some, lM x hx, Option.bind_some, f7_in_eq, Option.bind_some]
        have i20 : (20 : Int32) = nI 20 := by decide +kernel
        cases r3 : inr (M.2 0 y - M.2 0 x) v3 v4 with
        | false =>
          refine Sim.no (k := 3) (t := 3) h ?_ ?_ rfl (by omega) (by omega)
          · rw [hB1, r3]; rfl
          · rw [hM1, r3]; exact no_need (by decide)
        | true =>
          rw [r3, if_neg (by decide), f2, hn.1] at hB1
          rw [r3, if_neg (by decide), hn.1] at hM1
          by_cases hc : nn = 20
          · refine Sim.no (k := 3) (t := 3) h ?_ ?_ rfl (by omega) (by omega)
            · rw [hB1, if_neg]
              rw [i20]
              intro z
              have := (nI_ltI (by omega) (by omega)).mp z
              omega
            · rw [hM1, if_pos (by rw [hc, i20])]; exact no_need (by decide)
          · have hlt : nn < 20 := by omega
            rw [if_pos (by rw [i20]; exact nI_lt hlt (by omega))] at hB1
            rw [if_neg (by rw [i20]; exact ne_ok (by omega) (by omega) hc)] at hM1
            have s6 : ∀ (S : St) k x, stA S k 20 (nI nn) x = some (stS S k nn x) := fun S k x => stA_ok hlt (by omega)
            have e1 : f3_addNeed B (nI x) (nI y) v3 v4 = some (sF (stS (stS (stS (stS B 2 nn (nI x)) 3 nn (nI y)) 4 nn v3) 5 nn v4) 2 (nI (nn + 1)), nI (nn + 1)) := by
              unfold f3_addNeed stF
              rw [f2, hn.1, s6, Option.bind_some, stS_1, f2, hn.1, s6, Option.bind_some, stS_1, stS_1, f2, hn.1, s6, Option.bind_some, stS_1, stS_1, stS_1, f2, hn.1, s6, Option.bind_some, stS_1, stS_1, stS_1, stS_1, f2, hn.1, nI_s, Option.bind_some, sF_s]
            have e2 : f7_need_J112 (nI x) (nI y) v3 v4 0 M = some (sF (stS (stS (stS (stS (sF M 0 0) 1 nn (nI x)) 2 nn (nI y)) 3 nn v3) 4 nn v4) 3 (nI (nn + 1)), nI (nn + 1)) := by
              unfold f7_need_J112
              rw [f7_refused_eq, Option.bind_some, if_pos rfl]
              dsimp only
              rw [if_pos rfl]
              have e3 : (sF M 0 0).1 3 = nI nn := hn.1
              unfold stF
              rw [e3, s6, Option.bind_some, stS_1, e3, s6, Option.bind_some, stS_1, stS_1, e3, s6, Option.bind_some, stS_1, stS_1, stS_1, e3, s6, Option.bind_some, stS_1, stS_1, stS_1, stS_1, e3, nI_s, Option.bind_some, sF_s]
            refine ⟨_, _, nI (nn + 1), 0, nI (nn + 1), by rw [hB1, e1]; rfl, by rw [hM1, e2], ⟨np, nn + 1, nf, nr, d, ?_⟩, rfl, by omega, fun _ => rfl⟩
            obtain ⟨⟨⟨j0, j1, j2⟩, i1, i2, i3, i4, i5, i6, i7, i8, i9⟩, ⟨⟨a0, a2, a3, a4, a5⟩, a6⟩, ⟨g0, g1, g2, g3⟩, hO⟩ := h
            refine ⟨⟨⟨j0, ⟨rfl, by omega⟩, j2⟩, fun k hk => ?_, i2, i3, i4, i5, i6, i7, fun k hk => ?_, i9⟩, ⟨⟨a0, ?_, ?_, ?_, ?_⟩, a6⟩, ⟨g0, g1, rfl, g3⟩, hO⟩
            · show ∃ a b, a < np ∧ b < np ∧ upd (M.2 1) nn (nI x) k = nI a ∧ upd (M.2 2) nn (nI y) k = nI b
              by_cases hk2 : k = nn
              · subst hk2
                exact ⟨x, y, hx, hy, upd_at _ _ _, upd_at _ _ _⟩
              · obtain ⟨a, b, q1, q2, q3, q4⟩ := i1 k (by omega)
                exact ⟨a, b, q1, q2, by rw [upd_ne _ _ hk2]; exact q3, by rw [upd_ne _ _ hk2]; exact q4⟩
            · show vio (M.2 0) (upd (M.2 1) nn (nI x)) (upd (M.2 2) nn (nI y)) (upd (M.2 3) nn v3) (upd (M.2 4) nn v4) k = false
              by_cases hk2 : k = nn
              · subst hk2
                unfold vio
                rw [upd_at, upd_at, upd_at, upd_at, tn_nI (by omega), tn_nI (by omega), r3]
                rfl
              · refine Eq.trans ?_ (i8 k (by omega))
                unfold vio
                rw [upd_ne _ _ hk2, upd_ne _ _ hk2, upd_ne _ _ hk2, upd_ne _ _ hk2]
            · show upd (B.2 2) nn (nI x) = upd (M.2 1) nn (nI x)
              rw [a2]
            · show upd (B.2 3) nn (nI y) = upd (M.2 2) nn (nI y)
              rw [a3]
            · show upd (B.2 4) nn v3 = upd (M.2 3) nn v3
              rw [a4]
            · show upd (B.2 5) nn v4 = upd (M.2 4) nn v4
              rw [a5]
