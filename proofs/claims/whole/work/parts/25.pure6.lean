/-! giving anew, step by step -/
theorem beq_of {a b : Bool} (h : a = true ↔ b = true) : a = b := by cases a <;> cases b <;> simp_all
theorem exi_below {M : St} {nr r : Nat} (hr : r ≤ nr) (p : Nat → Bool) : exi (fun k => opB M k && p k) 0 r = (opn M nr).any fun q => decide (q < r) && p q := by
  refine beq_of ?_
  rw [exi_iff, List.any_eq_true]
  constructor
  · rintro ⟨k, -, h2, h3⟩
    have h4 : opB M k = true ∧ p k = true := by simpa using h3
    exact ⟨k, mem_opn.mpr ⟨by omega, by simpa [opB] using h4.1⟩, by simp [h4.2]; omega⟩
  · rintro ⟨k, h1, h2⟩
    have h3 := mem_opn.mp h1
    have h4 : k < r ∧ p k = true := by simpa using h2
    exact ⟨k, Nat.zero_le _, by omega, by simp [opB, h3.2, h4.2]⟩
/-- whether a raise is to be given anew -/
def needs (M : St) (nr r : Nat) : Bool := decide (M.2 15 r = -1) || (opn M nr).any fun q => (!decide (nI q = nI r)) && (decide (q < r) && (decide (M.2 14 q = M.2 14 r) && decide (M.2 15 q = M.2 15 r)))
theorem b_hasOwn {B M : St} {np nn nf nr d r : Nat} (h : Rel B M np nn nf nr d) (hr : r ∈ opn M nr) : f5_hasOwnReviewer B (nI r) = some (B, bI (!needs M nr r)) := by
  have hr1 := (mem_opn.mp hr).1
  have h40 := h.nr.2
  have l14 : ldA B 14 40 (nI r) = some (M.2 15 r) := by rw [ldA_ok (by omega) (by omega), h.2.1.2.2.2.2.1]
  unfold f5_hasOwnReviewer needs
  rw [l14, Option.bind_some]
  by_cases h1 : M.2 15 r = -1
  · rw [if_pos h1]
    simp [h1, bI]
  · rw [if_neg h1, b_revA h hr (by omega), Option.bind_some]
    dsimp only
    cases hc : (opn M nr).any fun q => (!decide (nI q = nI r)) && (decide (q < r) && (decide (M.2 14 q = M.2 14 r) && decide (M.2 15 q = M.2 15 r))) with
    | true => rw [if_neg (by decide)]; simp [bI]
    | false => rw [if_pos bI_f]; simp [h1, bI]
theorem m_hasR {M : St} {nr r : Nat} (hrr : nr ≤ 40) (hr : r < nr) (who own : Int32) : f7_has M who own (nI r) (nI r) = some (M, bI ((opn M nr).any fun q => (!decide (nI q = nI r)) && (decide (q < r) && (decide (M.2 14 q = own) && decide (M.2 15 q = who))))) := by
  rw [m_has (by omega)]
  refine congrArg (fun z => some (M, bI z)) ?_
  have h1 := exi_below (M := M) (nr := nr) (r := r) (by omega) (fun q => (!decide (nI q = nI r)) && (decide (M.2 14 q = own) && decide (M.2 15 q = who)))
  refine Eq.trans ?_ (h1.trans (any_congr fun q _ => ?_))
  · unfold exi
    exact congrArg (fun f => List.any (List.range' 0 r) f) (funext fun k => by cases opB M k <;> simp)
  · cases decide (q < r) <;> simp
/-- the reviewer that a raise gets -/
def best (M : St) (nr r : Nat) : Int32 := fld (bst M nr r (M.2 14 r)) (-1) 0 6
theorem give_sim {np nn nf nr d : Nat} {own x : Int32} :
    ∀ (m i j n1 n2 : Nat) (B M : St), Rel B M np nn nf nr d → SetIs (opn M nr) x (fun r => decide (M.2 14 r = own)) → i + m = nr → (opn M nr).drop j = (List.range' i m).filter (opB M) → j ≤ (opn M nr).length → m < n1 → m < n2 →
      ∃ B' M', f5_giveAnew_L2 n1 x (nI j) B = some B' ∧ f7_give_L2 n2 own (nI i) M = some M' ∧ Rel B' M' np nn nf nr d ∧ M'.1 = M.1 ∧ (∀ q, q ≠ 15 → q ≠ 16 → M'.2 q = M.2 q) ∧ B'.1 = B.1 ∧ ∀ q, q ≠ 14 → q ≠ 15 → B'.2 q = B.2 q := by
  intro m
  induction m with
  | zero =>
    intro i j n1 n2 B M h hx hi hj hjl hn1 hn2
    obtain ⟨n1, rfl⟩ : ∃ q, n1 = q + 1 := ⟨n1 - 1, by omega⟩
    obtain ⟨n2, rfl⟩ : ∃ q, n2 = q + 1 := ⟨n2 - 1, by omega⟩
    have h40 := h.nr.2
    have hol := h.ol
    have h10 := hol.2.1
    have hj2 : (opn M nr).length ≤ j := dr_n (by rw [hj]; rfl)
    refine ⟨B, M, ?_, ?_, h, rfl, fun _ _ _ => rfl, rfl, fun _ _ _ => rfl⟩
    · show f5_giveAnew_L2b (f5_giveAnew_L2 n1) x (nI j) B = _
      unfold f5_giveAnew_L2b
      rw [hol.1, if_pos (le_ok (by omega) hj2)]
    · show f7_give_L2b (f7_give_L2 n2) own (nI i) M = _
      unfold f7_give_L2b
      rw [h.nr.1, if_pos (le_ok (by omega) (by omega))]
  | succ m ih =>
    intro i j n1 n2 B M h hx hi hj hjl hn1 hn2
    obtain ⟨n2, rfl⟩ : ∃ q, n2 = q + 1 := ⟨n2 - 1, by omega⟩
    have h40 := h.nr.2
    have hol := h.ol
    have h10 := hol.2.1
    rw [List.range'_succ, List.filter_cons] at hj
    have l9 : ldA M 9 40 (nI i) = some (M.2 9 i) := ldA_ok (by omega) (by omega)
    have l14 : ldA M 14 40 (nI i) = some (M.2 14 i) := ldA_ok (by omega) (by omega)
    have l15 : ldA M 15 40 (nI i) = some (M.2 15 i) := ldA_ok (by omega) (by omega)
    by_cases h9 : M.2 9 i = 0
    · have ho : opB M i = true := by simp [opB, h9]
      rw [if_pos ho] at hj
      obtain ⟨hj1, hj2, hj3⟩ := dr_c hj
      have hmem : i ∈ opn M nr := List.mem_of_getElem? hj1
      obtain ⟨n1, rfl⟩ : ∃ q, n1 = q + 1 := ⟨n1 - 1, by omega⟩
      have hbB : ∀ {b : Bool}, decide (M.2 14 i = own) = b → bt x j = b := fun hb => (hx j i hj1).trans hb
      by_cases h14 : M.2 14 i = own
      · -- of the group
        by_cases hnd : needs M nr i = true
        · -- given anew
          have hB : f5_giveAnew_L2 (n1 + 1) x (nI j) B = (f5_give B (nI i) (best M nr i)).bind fun S12 => f5_giveAnew_L2 n1 x (nI (j + 1)) S12 := by
            show f5_giveAnew_L2b (f5_giveAnew_L2 n1) x (nI j) B = _
            have hbest : f5_bestFor B (nI i) = some (B, best M nr i) := b_best_L h hmem 6 0 2000 (-1) 11 rfl (by omega) (Or.inl ⟨rfl, i_11⟩)
            unfold f5_giveAnew_L2b
            rw [hol.1, if_neg (le_no (by omega) (by omega)), hol.ld hj1, Option.bind_some, f4_isIn_eq _ (by omega), hbB (b := true) (by simp [h14]), Option.bind_some]
            dsimp only
            rw [if_neg (by decide), b_hasOwn h hmem, Option.bind_some, hnd]
            dsimp only
            rw [if_pos (by decide), hbest, Option.bind_some, nI_s]
          have hM : f7_give_L2 (n2 + 1) own (nI i) M = f7_give_L2 n2 own (nI (i + 1)) (stS (stS M 16 i (if M.2 16 i = 0 then 0 else if M.2 15 i = best M nr i then 1 else 0)) 15 i (best M nr i)) := by
            have hL : f7_give_L60 (f7_give_L2 n2) 2000 own (nI i) (-1) 0 M = mgx (f7_give_L2 n2) own i M (fld (bst M nr i own) (-1) 0 6) := m_best_L h.nr.1 h40 (by omega) (f7_give_L2 n2) own 6 0 2000 (-1) rfl (by omega)
            have hL2 : f7_give_L60 (f7_give_L2 n2) 2000 own (nI i) (-1) 0 M = f7_give_L2 n2 own (nI (i + 1)) (stS (stS M 16 i (if M.2 16 i = 0 then 0 else if M.2 15 i = best M nr i then 1 else 0)) 15 i (best M nr i)) := by
              rw [hL]
              unfold mgx best
              rw [h14]
            show f7_give_L2b (f7_give_L2 n2) own (nI i) M = _
            unfold f7_give_L2b
            rw [h.nr.1, if_neg (le_no (by omega) (by omega)), l9, Option.bind_some, if_pos h9, l14, Option.bind_some, if_pos h14, l15, Option.bind_some]
            by_cases hm1 : M.2 15 i = -1
            · rw [if_pos hm1, hL2]
            · rw [if_neg hm1, Option.bind_some, m_hasR h40 (by omega), Option.bind_some]
              dsimp only
              have hc : ((opn M nr).any fun q => (!decide (nI q = nI i)) && (decide (q < i) && (decide (M.2 14 q = own) && decide (M.2 15 q = M.2 15 i)))) = true := by
                unfold needs at hnd
                rw [h14] at hnd
                simpa [hm1] using hnd
              rw [hc, if_neg (by decide), hL2]
          -- both states behind it
          obtain ⟨a, ha, ha1⟩ : ∃ a : Int32, a = (if M.2 16 i = 0 then 0 else if M.2 15 i = best M nr i then 1 else 0) ∧ (a = 0 ∨ a = 1) := by
            refine ⟨_, rfl, ?_⟩
            by_cases q1 : M.2 16 i = 0
            · rw [if_pos q1]; exact Or.inl rfl
            · rw [if_neg q1]
              by_cases q2 : M.2 15 i = best M nr i
              · rw [if_pos q2]; exact Or.inr rfl
              · rw [if_neg q2]; exact Or.inl rfl
          rw [← ha] at hM
          have hg : f5_give B (nI i) (best M nr i) = some (stS (stS B 14 i (best M nr i)) 15 i a) := by
            have k14 : ldA B 14 40 (nI i) = some (M.2 15 i) := by rw [ldA_ok (by omega) (by omega), h.2.1.2.2.2.2.1]
            unfold f5_give
            rw [k14, Option.bind_some]
            by_cases q2 : M.2 15 i = best M nr i
            · rw [if_pos q2]
              have e1 : stS B 14 i (best M nr i) = B := stS_same (by rw [h.2.1.2.2.2.2.1]; exact q2)
              have e2 : stS B 15 i a = B := stS_same (by
                rw [h.2.1.2.2.2.2.2.1, ha]
                rcases h.1.2.2.2.2.1 i with q1 | q1
                · rw [if_pos q1, q1]
                · rw [if_neg (by rw [q1]; decide), if_pos q2, q1])
              rw [e1, e2]
            · rw [if_neg q2]
              have ha0 : a = 0 := by
                rw [ha]
                by_cases q1 : M.2 16 i = 0
                · rw [if_pos q1]
                · rw [if_neg q1, if_neg q2]
              have s1 : stA B 14 40 (nI i) (best M nr i) = some (stS B 14 i (best M nr i)) := stA_ok (by omega) (by omega)
              have s2 : stZ (stS B 14 i (best M nr i)) 15 40 (nI i) 0 = some (stS (stS B 14 i (best M nr i)) 15 i 0) := stZ_ok (by omega) (by omega) (Or.inl rfl)
              rw [s1, Option.bind_some, s2, Option.bind_some, ha0]
          have hR := h.rv (r := i) (by omega) (best M nr i) ha1
          have ho2 : opn (stS (stS M 16 i a) 15 i (best M nr i)) nr = opn M nr := opn_congr rfl nr
          obtain ⟨B', M', r1, r2, r3, r4, r5, r6, r7⟩ := ih (i + 1) (j + 1) n1 n2 _ _ hR (by rw [ho2]; exact hx) (by omega) (by rw [ho2]; exact hj2) (by rw [ho2]; omega) (by omega) (by omega)
          refine ⟨B', M', by rw [hB, hg]; exact r1, by rw [hM]; exact r2, r3, r4, fun q q1 q2 => ?_, r6, fun q q1 q2 => ?_⟩
          · rw [r5 q q1 q2, stS_n _ _ _ q1, stS_n _ _ _ q2]
          · rw [r7 q q1 q2, stS_n _ _ _ q2, stS_n _ _ _ q1]
        · -- has its own
          have hnd2 : needs M nr i = false := by simpa using hnd
          have hm1 : ¬ M.2 15 i = -1 := fun q => hnd (by simp [needs, q])
          obtain ⟨B', M', r1, r2, r3⟩ := ih (i + 1) (j + 1) n1 n2 B M h hx (by omega) hj2 (by omega) (by omega) (by omega)
          refine ⟨B', M', ?_, ?_, r3⟩
          · show f5_giveAnew_L2b (f5_giveAnew_L2 n1) x (nI j) B = _
            unfold f5_giveAnew_L2b
            rw [hol.1, if_neg (le_no (by omega) (by omega)), hol.ld hj1, Option.bind_some, f4_isIn_eq _ (by omega), hbB (b := true) (by simp [h14]), Option.bind_some]
            dsimp only
            rw [if_neg (by decide), b_hasOwn h hmem, Option.bind_some, hnd2]
            dsimp only
            rw [if_neg (by decide), nI_s]
            exact r1
          · show f7_give_L2b (f7_give_L2 n2) own (nI i) M = _
            unfold f7_give_L2b
            rw [h.nr.1, if_neg (le_no (by omega) (by omega)), l9, Option.bind_some, if_pos h9, l14, Option.bind_some, if_pos h14, l15, Option.bind_some, if_neg hm1, Option.bind_some, m_hasR h40 (by omega), Option.bind_some]
            dsimp only
            have hc : ((opn M nr).any fun q => (!decide (nI q = nI i)) && (decide (q < i) && (decide (M.2 14 q = own) && decide (M.2 15 q = M.2 15 i)))) = false := by
              unfold needs at hnd2
              rw [h14] at hnd2
              simpa [hm1] using hnd2
            rw [hc, if_pos bI_f, nI_s]
            exact r2
      · -- of another group
        obtain ⟨B', M', r1, r2, r3⟩ := ih (i + 1) (j + 1) n1 n2 B M h hx (by omega) hj2 (by omega) (by omega) (by omega)
        refine ⟨B', M', ?_, ?_, r3⟩
        · show f5_giveAnew_L2b (f5_giveAnew_L2 n1) x (nI j) B = _
          unfold f5_giveAnew_L2b
          rw [hol.1, if_neg (le_no (by omega) (by omega)), hol.ld hj1, Option.bind_some, f4_isIn_eq _ (by omega), hbB (b := false) (by simp [h14]), Option.bind_some]
          dsimp only
          rw [if_pos bI_f, nI_s]
          exact r1
        · show f7_give_L2b (f7_give_L2 n2) own (nI i) M = _
          unfold f7_give_L2b
          rw [h.nr.1, if_neg (le_no (by omega) (by omega)), l9, Option.bind_some, if_pos h9, l14, Option.bind_some, if_neg h14, nI_s]
          exact r2
    · have ho : ¬ opB M i = true := by simp [opB, h9]
      rw [if_neg ho] at hj
      obtain ⟨B', M', r1, r2, r3⟩ := ih (i + 1) j n1 n2 B M h hx (by omega) hj hjl (by omega) (by omega)
      refine ⟨B', M', r1, ?_, r3⟩
      show f7_give_L2b (f7_give_L2 n2) own (nI i) M = _
      unfold f7_give_L2b
      rw [h.nr.1, if_neg (le_no (by omega) (by omega)), l9, Option.bind_some, if_neg h9, nI_s]
      exact r2
/-- giving anew: the set is the group -/
theorem give_eq {B M : St} {np nn nf nr d : Nat} (h : Rel B M np nn nf nr d) {own x : Int32} (hx : SetIs (opn M nr) x (fun r => decide (M.2 14 r = own))) :
    ∃ B' M', f5_giveAnew B x = some B' ∧ f7_give M own = some M' ∧ Rel B' M' np nn nf nr d ∧ M'.1 = M.1 ∧ (∀ q, q ≠ 15 → q ≠ 16 → M'.2 q = M.2 q) ∧ B'.1 = B.1 ∧ ∀ q, q ≠ 14 → q ≠ 15 → B'.2 q = B.2 q := by
  have h40 := h.nr.2
  exact give_sim nr 0 0 2000 2000 B M h hx (by omega) rfl (Nat.zero_le _) (by omega) (by omega)
