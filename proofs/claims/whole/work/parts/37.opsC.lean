/-! landing, third part: a group goes, in the class -/
def rdE (M : St) (nr e : Nat) (old : Int32) (k : Nat) : Prop := e ≤ k ∧ k < nr ∧ inG M old k = true
/-- the class's state where all of the group from a number on have gone -/
def RS (B M : St) (nr e : Nat) (old : Int32) (S : St) : Prop :=
  (∀ q, q ≠ 5 → S.1 q = B.1 q) ∧ (∀ q, q ≠ 17 → q ≠ 16 → q ≠ 13 → q ≠ 0 → S.2 q = B.2 q) ∧
  ((∀ k, rdE M nr e old k → S.2 0 (tn (M.2 10 k)) = M.2 11 k) ∧ ∀ p, (∀ k, rdE M nr e old k → tn (M.2 10 k) ≠ p) → S.2 0 p = M.2 0 p) ∧
  ((∀ k, rdE M nr e old k → S.2 13 k = 1) ∧ ∀ k, ¬ rdE M nr e old k → S.2 13 k = M.2 9 k) ∧
  ((∀ k, rdE M nr e old k → S.2 16 k = -1) ∧ ∀ k, ¬ rdE M nr e old k → S.2 16 k = B.2 16 k) ∧
  S.1 5 = nI ((List.range' 0 nr).filter (fun k => decide (S.2 13 k = 0))).length ∧ ∀ (j r : Nat), ((List.range' 0 nr).filter (fun k => decide (S.2 13 k = 0)))[j]? = some r → S.2 17 j = nI r
theorem rel_L {B M : St} {np nn nf nr d : Nat} (h : Rel B M np nn nf nr d) {old y : Int32} (hy : SetIs (opn M nr) y (fun q => decide (M.2 14 q = old))) :
    ∀ (e n : Nat) (S : St), e ≤ nr → e < n → RS B M nr e old S → ∃ S', f4_release_L9 n y (nI (opn M e).length - 1) S = some S' ∧ RS B M nr 0 old S' := by
  intro e
  induction e with
  | zero =>
    intro n S _ hn hS
    obtain ⟨n, rfl⟩ : ∃ q, n = q + 1 := ⟨n - 1, by omega⟩
    refine ⟨S, ?_, hS⟩
    show f4_release_L9b (f4_release_L9 n) y (nI 0 - 1) S = _
    unfold f4_release_L9b
    rw [nI_d0, if_pos (by decide)]
  | succ e ih =>
    intro n S he hn hS
    obtain ⟨n, rfl⟩ : ∃ q, n = q + 1 := ⟨n - 1, by omega⟩
    have h40 := h.nr.2
    have hpk := h.1.2.2.1
    have hnp := h.np.2
    have hi6 := h.1.2.2.2.2.2.2.1
    have hol := h.ol
    have h10 := hol.2.1
    obtain ⟨⟨a0, -⟩, -, ⟨a9, a10, -⟩, -⟩ := h.2.1
    obtain ⟨s1, s2, ⟨s3, s4⟩, ⟨s5, s6⟩, ⟨s7, s8⟩, s9, s17⟩ := hS
    have hspl : ∀ (p : Nat → Bool), (List.range' 0 nr).filter p = (List.range' 0 e).filter p ++ (List.range' e (nr - e)).filter p := fun p => by
      rw [← List.filter_append]
      refine congrArg (List.filter p) ?_
      have := List.range'_append (s := 0) (m := e) (n := nr - e) (step := 1)
      rw [show 0 + 1 * e = e by omega, show e + (nr - e) = nr by omega] at this
      exact this.symm
    have hhead : ∀ (p : Nat → Bool), p e = true → (List.range' e (nr - e)).filter p = e :: (List.range' (e + 1) (nr - e - 1)).filter p := fun p hp => by
      obtain ⟨q, hq⟩ : ∃ q, nr - e = q + 1 := ⟨nr - e - 1, by omega⟩
      rw [hq, List.range'_succ, List.filter_cons, if_pos hp]
      rfl
    by_cases ho : opB M e = true
    · have ho9 : M.2 9 e = 0 := by simpa [opB] using ho
      have hop : opn M (e + 1) = opn M e ++ [e] := opn_s ho9
      have hlen : (opn M (e + 1)).length = (opn M e).length + 1 := by rw [hop, List.length_append]; rfl
      have hat : (opn M nr)[(opn M e).length]? = some e := by
        unfold opn
        rw [hspl, hhead _ ho, List.getElem?_append_right (Nat.le_refl _), Nat.sub_self]
        rfl
      have hl10 : (opn M e).length < 10 := by
        have := (List.getElem?_eq_some_iff.mp hat).1
        omega
      have hnR : ¬ rdE M nr (e + 1) old e := fun z => by have := z.1; omega
      have he13 : S.2 13 e = 0 := (s6 e hnR).trans ho9
      have hSat : ((List.range' 0 nr).filter (fun k => decide (S.2 13 k = 0)))[(opn M e).length]? = some e := by
        have hpre : (List.range' 0 e).filter (fun k => decide (S.2 13 k = 0)) = opn M e := by
          unfold opn
          refine List.filter_congr fun k hk => ?_
          have hk2 := (List.mem_range'_1.mp hk).2
          rw [s6 k (fun z => by have := z.1; omega)]
          rfl
        rw [hspl, hhead _ (by simp [he13]), hpre, List.getElem?_append_right (Nat.le_refl _), Nat.sub_self]
        rfl
      have l17 : ldA S 17 10 (nI (opn M e).length) = some (nI e) := by rw [ldA_ok (by omega) (by omega), s17 _ _ hSat]
      rw [hlen, nI_pred]
      have hst : f4_release_L9 (n + 1) y (nI (opn M e).length) S = f4_release_L9b (f4_release_L9 n) y (nI (opn M e).length) S := rfl
      rw [hst]
      unfold f4_release_L9b
      rw [if_neg (nI_neg (by omega)), f4_isIn_eq _ (by omega), Option.bind_some, hy _ e hat, nI_dm]
      dsimp only
      by_cases hg : M.2 14 e = old
      · have hE : rdE M nr e old e := ⟨Nat.le_refl _, by omega, inG_t.mpr ⟨ho9, hg⟩⟩
        rw [if_neg (by simp [hg, bI]), l17, Option.bind_some]
        obtain ⟨p, hp, hp2⟩ := hpk e (by omega)
        have l9 : ldA S 9 40 (nI e) = some (nI p) := by rw [ldA_ok (by omega) (by omega), s2 9 (by decide) (by decide) (by decide) (by decide), a9, hp2]
        have l10 : ldA S 10 40 (nI e) = some (M.2 11 e) := by rw [ldA_ok (by omega) (by omega), s2 10 (by decide) (by decide) (by decide) (by decide), a10]
        have t0 : stA S 0 12 (nI p) (M.2 11 e) = some (stS S 0 p (M.2 11 e)) := stA_ok (by omega) (by omega)
        rw [l9, Option.bind_some, l10, Option.bind_some, t0, Option.bind_some]
        have t1 : stA (stS S 0 p (M.2 11 e)) 13 40 (nI e) 1 = some (stS (stS S 0 p (M.2 11 e)) 13 e 1) := stA_ok (by omega) (by omega)
        have t2 : stA (stS (stS S 0 p (M.2 11 e)) 13 e 1) 16 40 (nI e) (-1) = some (stS (stS (stS S 0 p (M.2 11 e)) 13 e 1) 16 e (-1)) := stA_ok (by omega) (by omega)
        have e13 : (stS (stS (stS S 0 p (M.2 11 e)) 13 e 1) 16 e (-1)).2 13 = upd (S.2 13) e 1 := rfl
        have hl : ((List.range' 0 nr).filter (fun k => decide (upd (S.2 13) e 1 k = 0))).length ≤ 10 := by
          refine Nat.le_trans (filt_le (q := opB M) (fun k hk => ?_) _) h10
          have hk2 : upd (S.2 13) e 1 k = 0 := by simpa using hk
          have hke : k ≠ e := by
            rintro rfl
            rw [upd_at] at hk2
            exact absurd hk2 (by decide)
          rw [upd_ne _ _ hke] at hk2
          by_cases hR : rdE M nr (e + 1) old k
          · rw [s5 k hR] at hk2
            exact absurd hk2 (by decide)
          · rw [s6 k hR] at hk2
            simp [opB, hk2]
        obtain ⟨S2, r1, r2, r3, r4, r5⟩ := b_list (S := stS (stS (stS S 0 p (M.2 11 e)) 13 e 1) 16 e (-1)) (nr := nr) (by show S.1 4 = nI nr; rw [s1 4 (by decide), h.2.2.1.2.2.2.2.1]; exact h.nr.1) h40 (by rw [e13]; exact hl)
        have hend : f4_end (stS S 0 p (M.2 11 e)) (nI e) 1 = some S2 := by
          unfold f4_end
          rw [t1, Option.bind_some, t2, Option.bind_some, r1, Option.bind_some]
        rw [hend, Option.bind_some]
        rw [e13] at r4 r5
        have q13 : S2.2 13 = upd (S.2 13) e 1 := (r3 13 (by decide)).trans e13
        have q16 : S2.2 16 = upd (S.2 16) e (-1) := r3 16 (by decide)
        have q0 : S2.2 0 = upd (S.2 0) p (M.2 11 e) := r3 0 (by decide)
        have hE1 : ∀ k, rdE M nr e old k → k ≠ e → rdE M nr (e + 1) old k := fun k z z2 => ⟨by have := z.1; omega, z.2⟩
        have hE2 : ∀ k, rdE M nr (e + 1) old k → rdE M nr e old k := fun k z => ⟨by have := z.1; omega, z.2⟩
        refine ih n S2 (by omega) (by omega) ⟨fun q hq => (r2 q hq).trans (s1 q hq), fun q q1 q2 q3 q4 => ?_, ⟨fun k hk => ?_, fun p' hp' => ?_⟩, ⟨fun k hk => ?_, fun k hk => ?_⟩, ⟨fun k hk => ?_, fun k hk => ?_⟩, by rw [q13]; exact r4, by rw [q13]; exact r5⟩
        · rw [r3 q q1, stS_n _ _ _ q2, stS_n _ _ _ q3, stS_n _ _ _ q4]
          exact s2 q q1 q2 q3 q4
        · rw [q0]
          by_cases hke : k = e
          · rw [hke, hp2, tn_nI (by omega), upd_at]
          · have hk1 := hE1 k hk hke
            obtain ⟨pk, hpk1, hpk2⟩ := hpk k hk.2.1
            have hne : tn (M.2 10 k) ≠ p := by
              rw [hpk2, tn_nI (by omega)]
              intro z
              exact hke (hi6 k e hk.2.1 (by omega) (inG_t.mp hk.2.2).1 ho9 (by rw [hpk2, hp2, z]))
            rw [upd_ne _ _ hne]
            exact s3 k hk1
        · have hne : p' ≠ p := by
            have := hp' e hE
            rw [hp2, tn_nI (by omega)] at this
            exact fun z => this z.symm
          rw [q0, upd_ne _ _ hne]
          exact s4 p' (fun k hk => hp' k (hE2 k hk))
        · rw [q13]
          by_cases hke : k = e
          · rw [hke, upd_at]
          · rw [upd_ne _ _ hke]
            exact s5 k (hE1 k hk hke)
        · have hke : k ≠ e := fun z => hk (by rw [z]; exact hE)
          rw [q13, upd_ne _ _ hke]
          exact s6 k (fun z => hk (hE2 k z))
        · rw [q16]
          by_cases hke : k = e
          · rw [hke, upd_at]
          · rw [upd_ne _ _ hke]
            exact s7 k (hE1 k hk hke)
        · have hke : k ≠ e := fun z => hk (by rw [z]; exact hE)
          rw [q16, upd_ne _ _ hke]
          exact s8 k (fun z => hk (hE2 k z))
      · have hE1 : ∀ k, rdE M nr e old k ↔ rdE M nr (e + 1) old k := fun k => by
          constructor
          · intro z
            have hke : k ≠ e := by
              rintro rfl
              exact hg (inG_t.mp z.2.2).2
            exact ⟨by have := z.1; omega, z.2⟩
          · intro z
            exact ⟨by have := z.1; omega, z.2⟩
        rw [if_pos (by simp [hg, bI])]
        exact ih n S (by omega) (by omega) ⟨s1, s2, ⟨fun k hk => s3 k ((hE1 k).mp hk), fun p hp => s4 p (fun k hk => hp k ((hE1 k).mpr hk))⟩, ⟨fun k hk => s5 k ((hE1 k).mp hk), fun k hk => s6 k (fun z => hk ((hE1 k).mpr z))⟩, ⟨fun k hk => s7 k ((hE1 k).mp hk), fun k hk => s8 k (fun z => hk ((hE1 k).mpr z))⟩, s9, s17⟩
    · have ho9 : ¬ M.2 9 e = 0 := by simpa [opB] using ho
      have hop : opn M (e + 1) = opn M e := by
        unfold opn
        rw [List.range'_concat, List.filter_append, List.filter_cons, if_neg (by simpa using ho)]
        simp
      have hE1 : ∀ k, rdE M nr e old k ↔ rdE M nr (e + 1) old k := fun k => by
        constructor
        · intro z
          have hke : k ≠ e := by
            rintro rfl
            exact ho9 (inG_t.mp z.2.2).1
          exact ⟨by have := z.1; omega, z.2⟩
        · intro z
          exact ⟨by have := z.1; omega, z.2⟩
      rw [hop]
      exact ih (n + 1) S (by omega) (by omega) ⟨s1, s2, ⟨fun k hk => s3 k ((hE1 k).mp hk), fun p hp => s4 p (fun k hk => hp k ((hE1 k).mpr hk))⟩, ⟨fun k hk => s5 k ((hE1 k).mp hk), fun k hk => s6 k (fun z => hk ((hE1 k).mpr z))⟩, ⟨fun k hk => s7 k ((hE1 k).mp hk), fun k hk => s8 k (fun z => hk ((hE1 k).mpr z))⟩, s9, s17⟩
