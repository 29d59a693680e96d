/-! closing a raise -/
def gM (M : St) (g : Nat → Int32) : St := (M.1, fun q => if q = 14 then g else M.2 q)
theorem gM_n (M : St) (g : Nat → Int32) {q : Nat} (h : q ≠ 14) : (gM M g).2 q = M.2 q := if_neg h
theorem gM_st (M : St) (g : Nat → Int32) (j : Nat) (v : Int32) : stS (gM M g) 14 j v = gM M (upd g j v) := by
  unfold gM stS
  refine Prod.ext rfl (funext fun q => ?_)
  by_cases h : q = 14
  · subst h; rfl
  · simp [h]
theorem gM_self (M : St) : gM M (M.2 14) = M := by
  unfold gM
  refine Prod.ext rfl (funext fun q => ?_)
  by_cases h : q = 14
  · subst h; rfl
  · exact if_neg h
theorem nI_d0 : nI 0 - 1 = (-1 : Int32) := by decide +kernel
theorem nI_dm (m : Nat) : nI m + (-1) = nI m - 1 := by
  rcases Nat.eq_zero_or_pos m with h | h
  · subst h
    decide +kernel
  · obtain ⟨k, rfl⟩ : ∃ k, m = k + 1 := ⟨m - 1, by omega⟩
    rw [nI_p, nI_pred]
theorem m_set9 {M : St} {nr : Nat} (hrr : nr ≤ 40) (old : Int32) :
    ∀ (m n : Nat) (lw : Int32), m ≤ nr → m < n → ∃ lw', f7_settle_L9 n old lw (nI m - 1) M = f7_settle_L46 2000 old lw' 0 M ∧ ((∃ w, w < m ∧ M.2 9 w = 0 ∧ M.2 14 w = old ∧ (∀ q, q < w → ¬ (M.2 9 q = 0 ∧ M.2 14 q = old)) ∧ lw' = nI w) ∨ ((∀ q, q < m → ¬ (M.2 9 q = 0 ∧ M.2 14 q = old)) ∧ lw' = lw)) := by
  intro m
  induction m with
  | zero =>
    intro n lw _ hm
    obtain ⟨n, rfl⟩ : ∃ q, n = q + 1 := ⟨n - 1, by omega⟩
    refine ⟨lw, ?_, Or.inr ⟨fun q hq => absurd hq (Nat.not_lt_zero _), rfl⟩⟩
    show f7_settle_L9b (f7_settle_L9 n) old lw (nI 0 - 1) M = _
    unfold f7_settle_L9b
    rw [nI_d0, if_pos (by decide)]
  | succ m ih =>
    intro n lw hmn hm
    obtain ⟨n, rfl⟩ : ∃ q, n = q + 1 := ⟨n - 1, by omega⟩
    have l9 : ldA M 9 40 (nI m) = some (M.2 9 m) := ldA_ok (by omega) (by omega)
    have l14 : ldA M 14 40 (nI m) = some (M.2 14 m) := ldA_ok (by omega) (by omega)
    have hs : f7_settle_L9 (n + 1) old lw (nI (m + 1) - 1) M = f7_settle_L9 n old (if M.2 9 m = 0 ∧ M.2 14 m = old then nI m else lw) (nI m - 1) M := by
      show f7_settle_L9b (f7_settle_L9 n) old lw (nI (m + 1) - 1) M = _
      unfold f7_settle_L9b
      rw [nI_pred, if_neg (nI_neg (by omega)), l9, Option.bind_some, nI_dm]
      by_cases h1 : M.2 9 m = 0
      · rw [if_pos h1, l14, Option.bind_some]
        by_cases h2 : M.2 14 m = old
        · rw [if_pos h2, if_pos ⟨h1, h2⟩]
        · rw [if_neg h2, if_neg (fun q => h2 q.2)]
      · rw [if_neg h1, if_neg (fun q => h1 q.1)]
    rw [hs]
    obtain ⟨lw', r1, r2⟩ := ih n (if M.2 9 m = 0 ∧ M.2 14 m = old then nI m else lw) (by omega) (by omega)
    refine ⟨lw', r1, ?_⟩
    rcases r2 with ⟨w, w1, w2⟩ | ⟨w1, w2⟩
    · exact Or.inl ⟨w, by omega, w2⟩
    · by_cases hc : M.2 9 m = 0 ∧ M.2 14 m = old
      · rw [if_pos hc] at w2
        exact Or.inl ⟨m, by omega, hc.1, hc.2, w1, w2⟩
      · rw [if_neg hc] at w2
        refine Or.inr ⟨fun q hq => ?_, w2⟩
        by_cases hqm : q = m
        · rw [hqm]; exact hc
        · exact w1 q (by omega)
theorem m_set46 {M : St} {nr : Nat} (hr : M.1 6 = nI nr) (hrr : nr ≤ 40) (old lw : Int32) :
    ∀ (m i n : Nat) (g : Nat → Int32), i + m = nr → m < n → ∃ g', f7_settle_L46 n old lw (nI i) (gM M g) = (if lw = -1 then some (gM M g') else f7_give (gM M g') lw) ∧ ∀ k, g' k = if i ≤ k ∧ k < nr ∧ M.2 9 k = 0 ∧ g k = old then lw else g k := by
  intro m
  induction m with
  | zero =>
    intro i n g hi hm
    obtain ⟨n, rfl⟩ : ∃ q, n = q + 1 := ⟨n - 1, by omega⟩
    refine ⟨g, ?_, fun k => by rw [if_neg (fun q => by omega)]⟩
    show f7_settle_L46b (f7_settle_L46 n) old lw (nI i) (gM M g) = _
    have e6 : (gM M g).1 6 = nI nr := hr
    unfold f7_settle_L46b
    rw [e6, if_pos (le_ok (by omega) (by omega))]
    by_cases h1 : lw = -1
    · rw [if_pos h1, if_pos h1]
    · rw [if_neg h1, if_neg h1]
      cases f7_give (gM M g) lw with
      | none => rfl
      | some _ => rfl
  | succ m ih =>
    intro i n g hi hm
    obtain ⟨n, rfl⟩ : ∃ q, n = q + 1 := ⟨n - 1, by omega⟩
    have e6 : (gM M g).1 6 = nI nr := hr
    have l9 : ldA (gM M g) 9 40 (nI i) = some (M.2 9 i) := ldA_ok (by omega) (by omega)
    have l14 : ldA (gM M g) 14 40 (nI i) = some (g i) := ldA_ok (by omega) (by omega)
    have s14 : ∀ v, stA (gM M g) 14 40 (nI i) v = some (gM M (upd g i v)) := fun v => by rw [stA_ok (by omega) (by omega), gM_st]
    have hs : f7_settle_L46 (n + 1) old lw (nI i) (gM M g) = f7_settle_L46 n old lw (nI (i + 1)) (gM M (upd g i (if M.2 9 i = 0 ∧ g i = old then lw else g i))) := by
      show f7_settle_L46b (f7_settle_L46 n) old lw (nI i) (gM M g) = _
      unfold f7_settle_L46b
      rw [e6, if_neg (le_no (by omega) (by omega)), l9, Option.bind_some, nI_s]
      by_cases h1 : M.2 9 i = 0
      · rw [if_pos h1, l14, Option.bind_some]
        by_cases h2 : g i = old
        · rw [if_pos h2, s14, Option.bind_some, if_pos ⟨h1, h2⟩]
        · rw [if_neg h2, Option.bind_some, s14, Option.bind_some, if_neg (fun q => h2 q.2)]
      · rw [if_neg h1, l14, Option.bind_some, s14, Option.bind_some, if_neg (fun q => h1 q.1)]
    obtain ⟨g', r1, r2⟩ := ih (i + 1) n (upd g i (if M.2 9 i = 0 ∧ g i = old then lw else g i)) (by omega) (by omega)
    refine ⟨g', by rw [hs]; exact r1, fun k => ?_⟩
    rw [r2 k]
    by_cases hk : k = i
    · subst hk
      rw [upd_at, if_neg (fun q => by omega)]
      by_cases hc : M.2 9 k = 0 ∧ g k = old
      · rw [if_pos hc, if_pos ⟨Nat.le_refl _, by omega, hc⟩]
      · rw [if_neg hc, if_neg (fun q => hc q.2.2)]
    · rw [upd_ne _ _ hk]
      by_cases hc : i ≤ k ∧ k < nr ∧ M.2 9 k = 0 ∧ g k = old
      · rw [if_pos hc, if_pos ⟨by omega, hc.2⟩]
      · rw [if_neg hc, if_neg (fun q => hc ⟨by omega, q.2⟩)]
theorem filt_le {p q : Nat → Bool} (h : ∀ k, p k = true → q k = true) (l : List Nat) : (l.filter p).length ≤ (l.filter q).length := by
  rw [← List.countP_eq_length_filter, ← List.countP_eq_length_filter]
  exact List.countP_mono_left (fun k _ hk => h k hk)
/-- a place's own bit -/
theorem b_bitOf {B : St} {ol : List Nat} (hol : OL B ol) {r : Nat} (hr : r ∈ ol) : ∃ j, ol[j]? = some r ∧ j < 10 ∧ f4_bitOf B (nI r) = some (B, 1 <<< (nI j &&& 31)) := by
  have h10 := hol.2.1
  obtain ⟨i, hi⟩ := List.getElem?_of_mem hr
  have hr40 := (hol.2.2 i r hi).2
  rcases b_bitOf_L hol r (by omega) ol 0 2000 rfl (by omega) (by omega) with ⟨j, -, j2, j3⟩ | ⟨j1, -⟩
  · have := (List.getElem?_eq_some_iff.mp j2).1
    exact ⟨j, j2, by omega, j3⟩
  · exact absurd hr j1
/-- the states behind a closing, ahead of the giving -/
theorem close_rel {B M : St} {np nn nf nr d r : Nat} (h : Rel B M np nn nf nr d) (ho : r ∈ opn M nr) {t : Int32} (ht : t ≠ 0) {B10 : St} {g' : Nat → Int32} {lw : Int32}
    (hlw : (∃ w, w < nr ∧ upd (M.2 9) r t w = 0 ∧ M.2 14 w = M.2 14 r ∧ (∀ q, q < w → ¬ (upd (M.2 9) r t q = 0 ∧ M.2 14 q = M.2 14 r)) ∧ lw = nI w) ∨ ((∀ q, q < nr → ¬ (upd (M.2 9) r t q = 0 ∧ M.2 14 q = M.2 14 r)) ∧ lw = -1))
    (hg' : ∀ k, g' k = if k < nr ∧ upd (M.2 9) r t k = 0 ∧ M.2 14 k = M.2 14 r then lw else M.2 14 k)
    (e1 : ∀ q, q ≠ 5 → B10.1 q = B.1 q) (e2 : ∀ q, q ≠ 17 → q ≠ 16 → q ≠ 13 → B10.2 q = B.2 q) (e13 : B10.2 13 = upd (M.2 9) r t) (e16 : B10.2 16 = upd (grpF (fun q => decide (M.2 14 q = M.2 14 r) && !decide (q = r)) (opn M nr) none (B.2 16)) r (-1))
    (e5 : B10.1 5 = nI ((List.range' 0 nr).filter (fun k => decide (upd (M.2 9) r t k = 0))).length) (e17 : ∀ (j q : Nat), ((List.range' 0 nr).filter (fun k => decide (upd (M.2 9) r t k = 0)))[j]? = some q → B10.2 17 j = nI q) :
    Rel B10 (gM (stS (sF M 0 0) 9 r t) g') np nn nf nr d := by
  have hM9 : (gM (stS (sF M 0 0) 9 r t) g').2 9 = upd (M.2 9) r t := rfl
  have hop : opn (gM (stS (sF M 0 0) 9 r t) g') nr = (List.range' 0 nr).filter (fun k => decide (upd (M.2 9) r t k = 0)) := rfl
  have hr1 := mem_opn.mp ho
  have hpw := opn_pw M nr
  have hgrp : ∀ q, q ∈ opn M nr → B.2 16 q = M.2 14 q := fun q hq => h.grp hq
  obtain ⟨⟨i0, i1, i2, i3, i4, i5, i6, i7, i8, i9⟩, ⟨a0, a6, a9, a13, a14, a15, a18⟩, ⟨g0, g1, g2, g3, g4, g6⟩, ⟨o5, o17, o16⟩⟩ := h
  have hne : ∀ k, upd (M.2 9) r t k = 0 → k ≠ r ∧ M.2 9 k = 0 := fun k hk => by
    have hkr : k ≠ r := by
      rintro rfl
      rw [upd_at] at hk
      exact ht hk
    rw [upd_ne _ _ hkr] at hk
    exact ⟨hkr, hk⟩
  obtain ⟨gr, hgr1, hgr2, hgr3, hgr4⟩ := i3 r hr1.1 hr1.2
  refine ⟨⟨i0, i1, i2, fun k hk h9 => ?_, i4, fun k hk => ⟨(i5 k hk).1, ?_⟩, fun k q hk hq h1 h2 h3 => i6 k q hk hq (hne k h1).2 (hne q h2).2 h3, i7, i8, ?_, i9.2⟩, ⟨?_, ?_, ?_, ?_, ?_, ?_, ?_⟩, ⟨?_, ?_, ?_, ?_, ?_, ?_⟩, ⟨by rw [hop]; exact e5, by rw [hop]; exact e17, fun q hq => ?_⟩⟩
  · -- groups
    have h9' : upd (M.2 9) r t k = 0 := h9
    obtain ⟨hkr, hk9⟩ := hne k h9'
    show ∃ g, g ≤ k ∧ g' k = nI g ∧ upd (M.2 9) r t g = 0 ∧ g' g = nI g
    by_cases hkg : M.2 14 k = M.2 14 r
    · rcases hlw with ⟨w, w1, w2, w3, w4, w5⟩ | ⟨w1, -⟩
      · have hwk : w ≤ k := by
          rcases Nat.lt_or_ge k w with q | q
          · exact absurd ⟨h9', hkg⟩ (w4 k q)
          · exact q
        exact ⟨w, hwk, by rw [hg' k, if_pos ⟨hk, h9', hkg⟩, w5], w2, by rw [hg' w, if_pos ⟨w1, w2, w3⟩, w5]⟩
      · exact absurd ⟨h9', hkg⟩ (w1 k hk)
    · obtain ⟨g, q1, q2, q3, q4⟩ := i3 k hk hk9
      have hgr' : g ≠ r := by
        rintro rfl
        exact hkg (q2.trans q4.symm)
      have hgo : ¬ M.2 14 g = M.2 14 r := fun z => hkg (q2.trans (q4.symm.trans z))
      refine ⟨g, q1, by rw [hg' k, if_neg (fun z => hkg z.2.2), q2], by rw [upd_ne _ _ hgr']; exact q3, by rw [hg' g, if_neg (fun z => hgo z.2.2), q4]⟩
  · show upd (M.2 9) r t k = 0
    rw [upd_ne _ _ (by omega)]
    exact (i5 k hk).2
  · rw [hop]
    refine Nat.le_trans (filt_le (q := opB M) (fun k hk => ?_) _) i9.1
    have := (hne k (by simpa using hk)).2
    simp [opB, this]
  · rw [e2 0 (by decide) (by decide) (by decide), e2 2 (by decide) (by decide) (by decide), e2 3 (by decide) (by decide) (by decide), e2 4 (by decide) (by decide) (by decide), e2 5 (by decide) (by decide) (by decide)]
    exact a0
  · rw [e2 6 (by decide) (by decide) (by decide), e2 7 (by decide) (by decide) (by decide), e2 8 (by decide) (by decide) (by decide)]
    exact a6
  · rw [e2 9 (by decide) (by decide) (by decide), e2 10 (by decide) (by decide) (by decide), e2 11 (by decide) (by decide) (by decide), e2 12 (by decide) (by decide) (by decide)]
    exact a9
  · rw [e13]
    rfl
  · rw [e2 14 (by decide) (by decide) (by decide)]
    exact a14
  · rw [e2 15 (by decide) (by decide) (by decide)]
    exact a15
  · rw [e2 18 (by decide) (by decide) (by decide)]
    exact a18
  · rw [e1 0 (by decide)]; exact g0
  · rw [e1 1 (by decide)]; exact g1
  · rw [e1 2 (by decide)]; exact g2
  · rw [e1 3 (by decide)]; exact g3
  · rw [e1 4 (by decide)]; exact g4
  · rw [e1 6 (by decide)]; exact g6
  · show B10.2 16 q = if upd (M.2 9) r t q = 0 then g' q else -1
    rw [e16]
    by_cases hqr : q = r
    · subst hqr
      rw [upd_at, upd_at, if_neg ht]
    · rw [upd_ne _ _ hqr, upd_ne _ _ hqr]
      by_cases hq9 : M.2 9 q = 0
      · rw [if_pos hq9]
        have hqo : q ∈ opn M nr := mem_opn.mpr ⟨hq, hq9⟩
        have hq9' : upd (M.2 9) r t q = 0 := by rw [upd_ne _ _ hqr]; exact hq9
        by_cases hkg : M.2 14 q = M.2 14 r
        · rcases hlw with ⟨w, w1, w2, w3, w4, w5⟩ | ⟨w1, -⟩
          · obtain ⟨hwr, hw9⟩ := hne w w2
            rw [hg' q, if_pos ⟨hq, hq9', hkg⟩, w5]
            refine grpF_in (w := w) (opn M nr) (B.2 16) hpw hqo (by simp [hkg, hqr]) (mem_opn.mpr ⟨w1, hw9⟩) (by simp [w3, hwr]) (fun z hz hz2 => ?_)
            have hz3 : M.2 14 z = M.2 14 r ∧ ¬ z = r := by simpa using hz2
            rcases Nat.lt_or_ge z w with q1 | q1
            · exact absurd ⟨by rw [upd_ne _ _ hz3.2]; exact (mem_opn.mp hz).2, hz3.1⟩ (w4 z q1)
            · exact q1
          · exact absurd ⟨hq9', hkg⟩ (w1 q hq)
        · rw [hg' q, if_neg (fun z => hkg z.2.2), grpF_out _ _ _ (Or.inr (by simp [hkg]))]
          exact hgrp q hqo
      · rw [if_neg hq9, grpF_out _ _ _ (Or.inl (fun z => hq9 (mem_opn.mp z).2)), o16 q hq, if_neg hq9]
theorem sim_close {B M : St} {np nn nf nr d : Nat} (h : Rel B M np nn nf nr d) (v : Int32) : ∃ B' M' k, y6_close B v = some (B', 0, k) ∧ f7_close M v = some M' ∧ Rl B' M' ∧ M'.1 0 = ps13 k ∧ (k = 0 ∨ ps13 k ≠ 0) := by
  have hr := h.nr
  have noc : ∀ (v t : Int32), t ≠ 0 → f7_close_J29 v t M = some (sF M 0 t) := fun v t ht => by
    unfold f7_close_J29
    rw [f7_refused_eq, Option.bind_some, if_neg ht]
    rfl
  rcases y_ckO h v with ⟨hv, hc⟩ | ⟨r, hr1, rfl, hv, h9, hc⟩ | ⟨r, ho, hr1, rfl, hv, h9, hc⟩
  · refine ⟨B, sF M 0 1, 1, ?_, ?_, ⟨np, nn, nf, nr, d, h.th 1⟩, rfl, Or.inr (by decide)⟩
    · unfold y6_close
      rw [hc]
      rfl
    · unfold f7_close
      rw [m_isRaise, Option.bind_some, hv]
      exact noc _ _ (by decide)
  · have lM : ldA M 9 40 (nI r) = some (M.2 9 r) := ldA_ok (by omega) (by omega)
    refine ⟨B, sF M 0 2, 3, ?_, ?_, ⟨np, nn, nf, nr, d, h.th 2⟩, rfl, Or.inr (by decide)⟩
    · unfold y6_close
      rw [hc]
      rfl
    · unfold f7_close
      rw [m_isRaise, Option.bind_some, hv]
      dsimp only
      rw [if_neg (by decide), lM, Option.bind_some, if_neg h9]
      exact noc _ _ (by decide)
  · have h10 := h.ol.2.1
    have lM : ldA M 9 40 (nI r) = some (M.2 9 r) := ldA_ok (by omega) (by omega)
    -- the model
    have s9 : stA (sF M 0 0) 9 40 (nI r) 3 = some (stS (sF M 0 0) 9 r 3) := stA_ok (by omega) (by omega)
    have l14 : ldA (stS (sF M 0 0) 9 r 3) 14 40 (nI r) = some (M.2 14 r) := ldA_ok (by omega) (by omega)
    have hMc : f7_close M (nI r) = f7_settle (stS (sF M 0 0) 9 r 3) (M.2 14 r) := by
      unfold f7_close
      rw [m_isRaise, Option.bind_some, hv]
      dsimp only
      rw [if_neg (by decide), lM, Option.bind_some, if_pos h9]
      unfold f7_close_J29
      rw [f7_refused_eq, Option.bind_some, if_pos rfl]
      dsimp only
      rw [if_pos rfl, s9, Option.bind_some, l14, Option.bind_some]
      cases f7_settle (stS (sF M 0 0) 9 r 3) (M.2 14 r) with
      | none => rfl
      | some _ => rfl
    obtain ⟨lw, p1, p2⟩ := m_set9 (M := stS (sF M 0 0) 9 r 3) hr.2 (M.2 14 r) nr 2000 (-1) (Nat.le_refl _) (by omega)
    obtain ⟨g', p3, p4⟩ := m_set46 (M := stS (sF M 0 0) 9 r 3) (nr := nr) hr.1 hr.2 (M.2 14 r) lw nr 0 2000 ((stS (sF M 0 0) 9 r 3).2 14) (by omega) (by omega)
    rw [gM_self] at p3
    have hMs : f7_settle (stS (sF M 0 0) 9 r 3) (M.2 14 r) = if lw = -1 then some (gM (stS (sF M 0 0) 9 r 3) g') else f7_give (gM (stS (sF M 0 0) 9 r 3) g') lw := by
      unfold f7_settle
      rw [show (stS (sF M 0 0) 9 r 3).1 6 = nI nr from hr.1, p1]
      exact p3
    -- the class
    obtain ⟨y, y1, y2, y3⟩ := h.gOf ho
    obtain ⟨j, j1, j2, j3⟩ := b_bitOf h.ol ho
    have hx : SetIs (opn M nr) (y &&& ((1 <<< (nI j &&& 31)) ^^^ (-1))) (fun q => decide (M.2 14 q = M.2 14 r) && !decide (q = r)) := fun i q hq => by
      have hi := (List.getElem?_eq_some_iff.mp hq).1
      have hiff : decide (i = j) = decide (q = r) := by
        by_cases z : i = j
        · subst z
          rw [j1] at hq
          cases hq
          simp
        · have : q ≠ r := by
            rintro rfl
            exact z (opn_inj hq j1)
          simp [z, this]
      rw [b_and, y2 i q hq, b_xor, b_pw j (by omega) (by omega), b_m1 i (by omega), hiff]
      simp
    have hgr : f4_group B (y &&& ((1 <<< (nI j &&& 31)) ^^^ (-1))) = some (gB B (grpF (fun q => decide (M.2 14 q = M.2 14 r) && !decide (q = r)) (opn M nr) none (B.2 16))) := b_group h.ol hx
    -- its end: the states of B with other groups
    have hl : ((List.range' 0 nr).filter (fun k => decide (upd (M.2 9) r 3 k = 0))).length ≤ 10 := by
      refine Nat.le_trans (filt_le (q := opB M) (fun k hk => ?_) _) h10
      have hk2 : upd (M.2 9) r 3 k = 0 := by simpa using hk
      have hkr : k ≠ r := by
        rintro rfl
        rw [upd_at] at hk2
        exact absurd hk2 (by decide)
      rw [upd_ne _ _ hkr] at hk2
      simp [opB, hk2]
    have s1 : stA (gB B (grpF (fun q => decide (M.2 14 q = M.2 14 r) && !decide (q = r)) (opn M nr) none (B.2 16))) 13 40 (nI r) 3 = some (stS (gB B (grpF (fun q => decide (M.2 14 q = M.2 14 r) && !decide (q = r)) (opn M nr) none (B.2 16))) 13 r 3) := stA_ok (by omega) (by omega)
    generalize hG : grpF (fun q => decide (M.2 14 q = M.2 14 r) && !decide (q = r)) (opn M nr) none (B.2 16) = G at hgr s1
    have s2 : stA (stS (gB B G) 13 r 3) 16 40 (nI r) (-1) = some (stS (stS (gB B G) 13 r 3) 16 r (-1)) := stA_ok (by omega) (by omega)
    have e13 : (stS (stS (gB B G) 13 r 3) 16 r (-1)).2 13 = upd (M.2 9) r 3 := by
      show upd (B.2 13) r 3 = _
      rw [h.2.1.2.2.2.1]
    obtain ⟨B10, r1, r2, r3, r4, r5⟩ := b_list (S := stS (stS (gB B G) 13 r 3) 16 r (-1)) (nr := nr) (by show B.1 4 = nI nr; rw [h.2.2.1.2.2.2.2.1]; exact hr.1) hr.2 (by rw [e13]; exact hl)
    rw [e13] at r4 r5
    have hend : f4_end (gB B G) (nI r) 3 = some B10 := by
      unfold f4_end
      rw [s1, Option.bind_some, s2, Option.bind_some, r1, Option.bind_some]
    have p2' : (∃ w, w < nr ∧ upd (M.2 9) r 3 w = 0 ∧ M.2 14 w = M.2 14 r ∧ (∀ q, q < w → ¬ (upd (M.2 9) r 3 q = 0 ∧ M.2 14 q = M.2 14 r)) ∧ lw = nI w) ∨ ((∀ q, q < nr → ¬ (upd (M.2 9) r 3 q = 0 ∧ M.2 14 q = M.2 14 r)) ∧ lw = -1) := p2
    have hR : Rel B10 (gM (stS (sF M 0 0) 9 r 3) g') np nn nf nr d := by
      refine close_rel h ho (t := 3) (by decide) p2' (fun k => ?_) r2 (fun q q1 q2 q3 => ?_) (by rw [r3 13 (by decide), e13]) (by rw [r3 16 (by decide), hG]; rfl) r4 r5
      · rw [p4 k]
        by_cases hc : k < nr ∧ upd (M.2 9) r 3 k = 0 ∧ M.2 14 k = M.2 14 r
        · rw [if_pos hc]
          exact if_pos ⟨Nat.zero_le _, hc⟩
        · rw [if_neg hc]
          exact if_neg (fun z => hc z.2)
      · rw [r3 q q1, stS_n _ _ _ q2, stS_n _ _ _ q3, gB_n _ _ q2]
    have hB0 : ∀ (mate : Int32), f2_mateOf B (nI r) = some (B, mate) → f2_leave B (nI r) = (if mate = -1 then some B10 else (f4_groupOf B10 mate).bind fun q16 => (f5_giveAnew q16.1 q16.2).bind fun S15 => some S15) := fun mate hm => by
      unfold f2_leave
      rw [hm, Option.bind_some]
      dsimp only
      rw [y1, Option.bind_some]
      dsimp only
      rw [j3, Option.bind_some]
      dsimp only
      rw [hgr, Option.bind_some, hend, Option.bind_some]
    have hyc : ∀ B', f2_leave B (nI r) = some B' → y6_close B (nI r) = some (B', 0, 0) := fun B' hb => by
      unfold y6_close
      rw [hc, xB_0]
      dsimp only
      rw [hb, Option.bind_some]
    have hmate := b_mate_L h.ol (v := r) (by omega) (opn M nr) 0 2000 rfl (by omega) (by omega)
    rcases hmate with ⟨q, hq, hq1, hq2, hq3⟩ | ⟨hq1, hq2⟩
    · -- another one is left
      have hq4 : f2_mateOf B (nI r) = some (B, nI q) := hq3
      have hqg : M.2 14 q = M.2 14 r := by rw [← h.grp hq, ← h.grp ho]; exact hq2
      have hqm := mem_opn.mp hq
      have hq9 : upd (M.2 9) r 3 q = 0 := by rw [upd_ne _ _ hq1]; exact hqm.2
      rcases p2' with ⟨w, w1, w2, w3, w4, w5⟩ | ⟨w1, -⟩
      · have hqo : q ∈ opn (gM (stS (sF M 0 0) 9 r 3) g') nr := mem_opn.mpr ⟨hqm.1, hq9⟩
        obtain ⟨z, z1, z2, z3⟩ := hR.gOf hqo
        have hgq : (gM (stS (sF M 0 0) 9 r 3) g').2 14 q = lw := by
          show g' q = lw
          rw [p4 q]
          exact if_pos ⟨Nat.zero_le _, hqm.1, hq9, hqg⟩
        rw [hgq] at z2
        obtain ⟨B', M', t1, t2, t3, t4, -⟩ := give_eq hR z2
        refine ⟨B', M', 0, hyc B' ?_, ?_, ⟨np, nn, nf, nr, d, t3⟩, ?_, by omega⟩
        · rw [hB0 _ hq4, if_neg (nI_m1 (by omega)), z1, Option.bind_some, t1, Option.bind_some]
        · rw [hMc, hMs, if_neg (by rw [w5]; exact nI_m1 (by omega)), t2]
        · rw [t4]; rfl
      · exact absurd ⟨hq9, hqg⟩ (w1 q hqm.1)
    · -- it was alone
      have hq4 : f2_mateOf B (nI r) = some (B, -1) := hq2
      have hlw : lw = -1 := by
        rcases p2' with ⟨w, w1, w2, w3, -⟩ | ⟨-, w2⟩
        · exfalso
          have hwr : w ≠ r := by
            rintro rfl
            rw [upd_at] at w2
            exact absurd w2 (by decide)
          rw [upd_ne _ _ hwr] at w2
          have hwo : w ∈ opn M nr := mem_opn.mpr ⟨w1, w2⟩
          exact hq1 w hwo hwr (by rw [h.grp hwo, h.grp ho]; exact w3)
        · exact w2
      refine ⟨B10, gM (stS (sF M 0 0) 9 r 3) g', 0, hyc B10 ?_, ?_, ⟨np, nn, nf, nr, d, hR⟩, rfl, by omega⟩
      · rw [hB0 _ hq4, if_pos rfl]
      · rw [hMc, hMs, if_pos hlw]
