/-! groups and the list of what is open, in the class -/
def gB (B : St) (g : Nat → Int32) : St := (B.1, fun q => if q = 16 then g else B.2 q)
theorem gB_n (B : St) (g : Nat → Int32) {q : Nat} (h : q ≠ 16) : (gB B g).2 q = B.2 q := if_neg h
theorem gB_st (B : St) (g : Nat → Int32) (j : Nat) (v : Int32) : stS (gB B g) 16 j v = gB B (upd g j v) := by
  unfold gB stS
  refine Prod.ext rfl (funext fun q => ?_)
  by_cases h : q = 16
  · subst h; rfl
  · simp [h]
theorem gB_self (B : St) : gB B (B.2 16) = B := by
  unfold gB
  refine Prod.ext rfl (funext fun q => ?_)
  by_cases h : q = 16
  · subst h; rfl
  · exact if_neg h
def lwI : Option Nat → Int32 | none => -1 | some w => nI w
/-- makes one group of those of a kind -/
def grpF (P : Nat → Bool) : List Nat → Option Nat → (Nat → Int32) → Nat → Int32
  | [], _, g => g
  | r :: l, lw, g => if P r = true then grpF P l (some (lw.getD r)) (upd g r (nI (lw.getD r))) else grpF P l lw g
theorem b_group_L {B : St} {ol : List Nat} {x : Int32} {P : Nat → Bool} (hol : OL B ol) (hx : SetIs ol x P) :
    ∀ (l : List Nat) (i n : Nat) (lw : Option Nat) (g : Nat → Int32), ol.drop i = l → i ≤ ol.length → l.length < n → (∀ w, lw = some w → w < 2 ^ 31) → f4_group_L4 n x (lwI lw) (nI i) (gB B g) = some (gB B (grpF P l lw g)) := by
  intro l
  induction l with
  | nil =>
    intro i n lw g hi hil hm hw
    obtain ⟨n, rfl⟩ : ∃ q, n = q + 1 := ⟨n - 1, by omega⟩
    have h1 := dr_n hi
    have h3 := hol.2.1
    have h5 : (gB B g).1 5 = nI ol.length := hol.1
    show f4_group_L4b (f4_group_L4 n) x (lwI lw) (nI i) (gB B g) = _
    unfold f4_group_L4b
    rw [h5, if_pos (le_ok (by omega) h1)]
    rfl
  | cons r l ih =>
    intro i n lw g hi hil hm hw
    obtain ⟨n, rfl⟩ : ∃ q, n = q + 1 := ⟨n - 1, by omega⟩
    obtain ⟨h1, h2, h3⟩ := dr_c hi
    have h10 := hol.2.1
    rw [List.length_cons] at hm
    obtain ⟨-, hr⟩ := hol.2.2 i r h1
    have h5 : (gB B g).1 5 = nI ol.length := hol.1
    have hol2 : OL (gB B g) ol := hol
    have l17 : ldA (gB B g) 17 10 (nI i) = some (nI r) := hol2.ld h1
    have hJ : ∀ w, f4_group_J36 (f4_group_L4 n) x (nI i) (nI w) (gB B g) = f4_group_L4 n x (nI w) (nI (i + 1)) (gB B (upd g r (nI w))) := fun w => by
      have s1 : stA (gB B g) 16 40 (nI r) (nI w) = some (gB B (upd g r (nI w))) := by rw [stA_ok (by omega) (by omega), gB_st]
      unfold f4_group_J36
      rw [l17, Option.bind_some, s1, Option.bind_some, nI_s]
    show f4_group_L4b (f4_group_L4 n) x (lwI lw) (nI i) (gB B g) = _
    unfold f4_group_L4b grpF
    rw [h5, if_neg (le_no (by omega) (by omega)), f4_isIn_eq _ (by omega), Option.bind_some, hx i r h1, nI_s]
    dsimp only
    cases hP : P r with
    | false =>
      rw [if_pos bI_f, if_neg (by decide)]
      exact ih (i + 1) n lw g h2 (by omega) (by omega) hw
    | true =>
      rw [if_neg (by decide), if_pos rfl]
      cases lw with
      | none =>
        rw [show lwI none = -1 from rfl, if_pos rfl, l17, Option.bind_some, hJ]
        exact ih (i + 1) n (some r) (upd g r (nI r)) h2 (by omega) (by omega) (fun w hw2 => by cases hw2; omega)
      | some w =>
        rw [show lwI (some w) = nI w from rfl, if_neg (nI_m1 (hw w rfl))]
        refine (hJ w).trans ?_
        exact ih (i + 1) n (some w) (upd g r (nI w)) h2 (by omega) (by omega) hw
theorem b_group {B : St} {ol : List Nat} {x : Int32} {P : Nat → Bool} (hol : OL B ol) (hx : SetIs ol x P) : f4_group B x = some (gB B (grpF P ol none (B.2 16))) := by
  have h10 := hol.2.1
  have h := b_group_L hol hx ol 0 2000 none (B.2 16) rfl (by omega) (by omega) (fun w hw => by cases hw)
  rw [gB_self] at h
  exact h
theorem grpF_out {P : Nat → Bool} {r : Nat} : ∀ (l : List Nat) (lw : Option Nat) (g : Nat → Int32), (r ∉ l ∨ P r = false) → grpF P l lw g r = g r
  | [], _, _, _ => rfl
  | a :: l, lw, g, h => by
    have ht : r ∉ l ∨ P r = false := h.imp (fun q z => q (List.mem_cons_of_mem _ z)) id
    unfold grpF
    by_cases hP : P a = true
    · rw [if_pos hP, grpF_out l _ _ ht]
      have hne : r ≠ a := by
        rintro rfl
        rcases h with h | h
        · exact h List.mem_cons_self
        · rw [h] at hP; cases hP
      exact upd_ne _ _ hne
    · rw [if_neg hP]
      exact grpF_out l _ _ ht
theorem grpF_some {P : Nat → Bool} {r w : Nat} : ∀ (l : List Nat) (g : Nat → Int32), l.Pairwise (· < ·) → r ∈ l → P r = true → grpF P l (some w) g r = nI w
  | [], _, _, h, _ => absurd h List.not_mem_nil
  | a :: l, g, hp, h, hP => by
    obtain ⟨h1, h2⟩ := List.pairwise_cons.mp hp
    unfold grpF
    by_cases ha : r = a
    · subst ha
      rw [if_pos hP, grpF_out l _ _ (Or.inl (fun q => by have := h1 r q; omega))]
      exact upd_at _ _ _
    · have hm : r ∈ l := by
        rcases List.mem_cons.mp h with q | q
        · exact absurd q ha
        · exact q
      by_cases hPa : P a = true
      · rw [if_pos hPa]
        exact grpF_some l _ h2 hm hP
      · rw [if_neg hPa]
        exact grpF_some l _ h2 hm hP
/-- the lowest of a kind is the group's number -/
theorem grpF_in {P : Nat → Bool} {r w : Nat} : ∀ (l : List Nat) (g : Nat → Int32), l.Pairwise (· < ·) → r ∈ l → P r = true → w ∈ l → P w = true → (∀ q ∈ l, P q = true → w ≤ q) → grpF P l none g r = nI w
  | [], _, _, h, _, _, _, _ => absurd h List.not_mem_nil
  | a :: l, g, hp, h, hP, hw, hPw, hmin => by
    obtain ⟨h1, h2⟩ := List.pairwise_cons.mp hp
    unfold grpF
    by_cases hPa : P a = true
    · have hwa : w = a := by
        have q1 := hmin a List.mem_cons_self hPa
        rcases List.mem_cons.mp hw with q | q
        · exact q
        · have := h1 w q
          omega
      subst hwa
      rw [if_pos hPa]
      show grpF P l (some w) (upd g w (nI w)) r = nI w
      by_cases ha : r = w
      · subst ha
        rw [grpF_out l _ _ (Or.inl (fun q => by have := h1 r q; omega))]
        exact upd_at _ _ _
      · have hm : r ∈ l := by
          rcases List.mem_cons.mp h with q | q
          · exact absurd q ha
          · exact q
        exact grpF_some l _ h2 hm hP
    · rw [if_neg hPa]
      have hm : r ∈ l := by
        rcases List.mem_cons.mp h with q | q
        · subst q; exact absurd hP hPa
        · exact q
      have hw2 : w ∈ l := by
        rcases List.mem_cons.mp hw with q | q
        · subst q; exact absurd hPw hPa
        · exact q
      exact grpF_in l g h2 hm hP hw2 hPw (fun q hq hq2 => hmin q (List.mem_cons_of_mem _ hq) hq2)
/-- the list of what is open is made anew -/
theorem b_list_L {S0 : St} {nr : Nat} (hr : S0.1 4 = nI nr) (hrr : nr ≤ 40) :
    ∀ (m i n : Nat) (S : St) (pre : List Nat), i + m = nr → m < n → (∀ q, q ≠ 5 → S.1 q = S0.1 q) → (∀ q, q ≠ 17 → S.2 q = S0.2 q) → S.1 5 = nI pre.length → (∀ (j r : Nat), pre[j]? = some r → S.2 17 j = nI r) → (pre ++ (List.range' i m).filter (fun k => decide (S0.2 13 k = 0))).length ≤ 10 →
      ∃ S', f4_listOpen_L7 n (nI i) S = some S' ∧ (∀ q, q ≠ 5 → S'.1 q = S0.1 q) ∧ (∀ q, q ≠ 17 → S'.2 q = S0.2 q) ∧ S'.1 5 = nI (pre ++ (List.range' i m).filter (fun k => decide (S0.2 13 k = 0))).length ∧ ∀ (j r : Nat), (pre ++ (List.range' i m).filter (fun k => decide (S0.2 13 k = 0)))[j]? = some r → S'.2 17 j = nI r := by
  intro m
  induction m with
  | zero =>
    intro i n S pre hi hm e1 e2 e5 e17 hl
    obtain ⟨n, rfl⟩ : ∃ q, n = q + 1 := ⟨n - 1, by omega⟩
    refine ⟨S, ?_, e1, e2, by simpa using e5, by simpa using e17⟩
    show f4_listOpen_L7b (f4_listOpen_L7 n) (nI i) S = _
    unfold f4_listOpen_L7b
    rw [e1 4 (by decide), hr, if_pos (le_ok (by omega) (by omega))]
  | succ m ih =>
    intro i n S pre hi hm e1 e2 e5 e17 hl
    obtain ⟨n, rfl⟩ : ∃ q, n = q + 1 := ⟨n - 1, by omega⟩
    have l13 : ldA S 13 40 (nI i) = some (S0.2 13 i) := by rw [ldA_ok (by omega) (by omega), e2 13 (by decide)]
    rw [List.range'_succ, List.filter_cons] at hl ⊢
    by_cases h0 : S0.2 13 i = 0
    · rw [if_pos (by simp [h0])] at hl ⊢
      have hpl : pre.length < 10 := by
        rw [List.length_append, List.length_cons] at hl
        omega
      have s17 : stA S 17 10 (nI pre.length) (nI i) = some (stS S 17 pre.length (nI i)) := stA_ok hpl (by omega)
      have hs : f4_listOpen_L7 (n + 1) (nI i) S = f4_listOpen_L7 n (nI (i + 1)) (sF (stS S 17 pre.length (nI i)) 5 (nI (pre.length + 1))) := by
        show f4_listOpen_L7b (f4_listOpen_L7 n) (nI i) S = _
        unfold f4_listOpen_L7b stF
        rw [e1 4 (by decide), hr, if_neg (le_no (by omega) (by omega)), l13, Option.bind_some, if_pos h0, e5, if_neg (by rw [i_10]; exact le_no (by omega) hpl), s17, Option.bind_some, stS_1, e5, nI_s, nI_s, Option.bind_some]
      obtain ⟨S', r1, r2, r3, r4, r5⟩ := ih (i + 1) n (sF (stS S 17 pre.length (nI i)) 5 (nI (pre.length + 1))) (pre ++ [i]) (by omega) (by omega) (fun q hq => by rw [sF_n _ _ hq]; exact e1 q hq) (fun q hq => by rw [sF_2, stS_n _ _ _ hq]; exact e2 q hq) (by rw [sF_s, List.length_append]; rfl) (fun j r hj => by
        rw [sF_2, stS_s]
        by_cases hjl : j < pre.length
        · rw [List.getElem?_append_left hjl] at hj
          rw [upd_ne _ _ (by omega)]
          exact e17 j r hj
        · rw [List.getElem?_append_right (by omega)] at hj
          have hj0 : j - pre.length = 0 := by
            have := (List.getElem?_eq_some_iff.mp hj).1
            simp at this
            omega
          rw [hj0] at hj
          have hjr : i = r := by simpa using hj
          have : j = pre.length := by omega
          rw [this, upd_at, hjr]) (by rw [List.append_assoc]; exact hl)
      rw [List.append_assoc] at r4 r5
      exact ⟨S', by rw [hs]; exact r1, r2, r3, r4, r5⟩
    · rw [if_neg (by simp [h0])] at hl ⊢
      obtain ⟨S', r1, r2⟩ := ih (i + 1) n S pre (by omega) (by omega) e1 e2 e5 e17 hl
      refine ⟨S', ?_, r2⟩
      show f4_listOpen_L7b (f4_listOpen_L7 n) (nI i) S = _
      unfold f4_listOpen_L7b
      rw [e1 4 (by decide), hr, if_neg (le_no (by omega) (by omega)), l13, Option.bind_some, if_neg h0, nI_s]
      exact r1
theorem b_list {S : St} {nr : Nat} (hr : S.1 4 = nI nr) (hrr : nr ≤ 40) (hl : ((List.range' 0 nr).filter (fun k => decide (S.2 13 k = 0))).length ≤ 10) :
    ∃ S', f4_listOpen S = some S' ∧ (∀ q, q ≠ 5 → S'.1 q = S.1 q) ∧ (∀ q, q ≠ 17 → S'.2 q = S.2 q) ∧ S'.1 5 = nI ((List.range' 0 nr).filter (fun k => decide (S.2 13 k = 0))).length ∧ ∀ (j r : Nat), ((List.range' 0 nr).filter (fun k => decide (S.2 13 k = 0)))[j]? = some r → S'.2 17 j = nI r := by
  unfold f4_listOpen stF
  rw [Option.bind_some]
  obtain ⟨S', r1, r2, r3, r4, r5⟩ := b_list_L (S0 := sF S 5 0) (by rw [sF_n _ _ (by decide)]; exact hr) hrr nr 0 2000 (sF S 5 0) [] (by omega) (by omega) (fun _ _ => rfl) (fun _ _ => rfl) (by rw [sF_s]; rfl) (fun j r hj => by simp at hj) hl
  exact ⟨S', r1, fun q hq => by rw [r2 q hq, sF_n _ _ hq], r3, r4, r5⟩
/-- a raise ends -/
theorem b_end {B M : St} {np nn nf nr d r : Nat} (h : Rel B M np nn nf nr d) (hr : r < nr) (t : Int32) (hl : ((List.range' 0 nr).filter (fun k => decide (upd (M.2 9) r t k = 0))).length ≤ 10) :
    ∃ S', f4_end B (nI r) t = some S' ∧ (∀ q, q ≠ 5 → S'.1 q = B.1 q) ∧ (∀ q, q ≠ 17 → q ≠ 16 → q ≠ 13 → S'.2 q = B.2 q) ∧ S'.2 13 = upd (M.2 9) r t ∧ S'.2 16 = upd (B.2 16) r (-1) ∧ S'.1 5 = nI ((List.range' 0 nr).filter (fun k => decide (upd (M.2 9) r t k = 0))).length ∧ ∀ (j q : Nat), ((List.range' 0 nr).filter (fun k => decide (upd (M.2 9) r t k = 0)))[j]? = some q → S'.2 17 j = nI q := by
  have h40 := h.nr
  have a13 := h.2.1.2.2.2.1
  have s1 : stA B 13 40 (nI r) t = some (stS B 13 r t) := stA_ok (by omega) (by omega)
  have s2 : stA (stS B 13 r t) 16 40 (nI r) (-1) = some (stS (stS B 13 r t) 16 r (-1)) := stA_ok (by omega) (by omega)
  have e13 : (stS (stS B 13 r t) 16 r (-1)).2 13 = upd (M.2 9) r t := by
    show upd (B.2 13) r t = _
    rw [a13]
  obtain ⟨S', r1, r2, r3, r4, r5⟩ := b_list (S := stS (stS B 13 r t) 16 r (-1)) (nr := nr) (by show B.1 4 = nI nr; rw [h.2.2.1.2.2.2.2.1]; exact h40.1) h40.2 (by rw [e13]; exact hl)
  rw [e13] at r4 r5
  refine ⟨S', ?_, r2, fun q q1 q2 q3 => ?_, ?_, ?_, r4, r5⟩
  · unfold f4_end
    rw [s1, Option.bind_some, s2, Option.bind_some, r1, Option.bind_some]
  · rw [r3 q q1, stS_n _ _ _ q2, stS_n _ _ _ q3]
  · rw [r3 13 (by decide), e13]
  · rw [r3 16 (by decide)]
    rfl
