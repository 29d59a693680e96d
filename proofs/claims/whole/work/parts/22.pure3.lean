/-! the class's simple loops -/
theorem dr_c {l t : List Nat} {i r : Nat} (h : l.drop i = r :: t) : l[i]? = some r ∧ l.drop (i + 1) = t ∧ i < l.length := by
  have h1 : i < l.length := by
    rcases Nat.lt_or_ge i l.length with q | q
    · exact q
    · rw [List.drop_eq_nil_of_le q] at h
      cases h
  rw [List.drop_eq_getElem_cons h1] at h
  injection h with a b
  exact ⟨by rw [List.getElem?_eq_getElem h1, a], b, h1⟩
theorem dr_n {l : List Nat} {i : Nat} (h : l.drop i = []) : l.length ≤ i := List.drop_eq_nil_iff.mp h
theorem dr_l {l t : List Nat} {i : Nat} (h : l.drop i = t) : t.length = l.length - i := by rw [← h, List.length_drop]
/-- the raises that are open, by their places -/
def OL (B : St) (ol : List Nat) : Prop := B.1 5 = nI ol.length ∧ ol.length ≤ 10 ∧ ∀ i r, ol[i]? = some r → B.2 17 i = nI r ∧ r < 40
theorem OL.ld {B : St} {ol : List Nat} (h : OL B ol) {i r : Nat} (hi : ol[i]? = some r) : ldA B 17 10 (nI i) = some (nI r) := by
  have h1 := (List.getElem?_eq_some_iff.mp hi).1
  have h2 := h.2.1
  rw [ldA_ok (by omega) (by omega), (h.2.2 i r hi).1]
/-- the class's state with other planned versions -/
def scb (B : St) (w : Nat → Int32) : St := (B.1, fun q => if q = 1 then w else B.2 q)
theorem scb_1 (B : St) (w : Nat → Int32) : (scb B w).1 = B.1 := rfl
theorem scb_n (B : St) (w : Nat → Int32) {q : Nat} (h : q ≠ 1) : (scb B w).2 q = B.2 q := if_neg h
theorem scb_self (B : St) : scb B (B.2 1) = B := by
  unfold scb
  refine Prod.ext rfl (funext fun q => ?_)
  by_cases h : q = 1
  · subst h; rfl
  · exact if_neg h
theorem scb_scb (B : St) (w w2 : Nat → Int32) : scb (scb B w) w2 = scb B w2 := by
  unfold scb
  refine Prod.ext rfl (funext fun q => ?_)
  by_cases h : q = 1
  · subst h; rfl
  · simp [h]
theorem scb_st (B : St) (w : Nat → Int32) (j : Nat) (v : Int32) : stS (scb B w) 1 j v = scb B (upd w j v) := by
  unfold scb stS
  refine Prod.ext rfl (funext fun q => ?_)
  by_cases h : q = 1
  · subst h; rfl
  · simp [h]
theorem OL.scb {B : St} {ol : List Nat} (h : OL B ol) (w : Nat → Int32) : OL (scb B w) ol := h
theorem b_startPlan_L {B : St} {np : Nat} (hp : B.1 1 = nI np) (hpp : np ≤ 12) :
    ∀ (m i n : Nat) (w : Nat → Int32), i + m = np → m < n → ∃ w', f3_startPlan_L2 n (nI i) (scb B w) = some (scb B w') ∧ (∀ p, i ≤ p → p < np → w' p = B.2 0 p) ∧ ∀ p, p < i → w' p = w p := by
  intro m
  induction m with
  | zero =>
    intro i n w hi hm
    obtain ⟨n, rfl⟩ : ∃ q, n = q + 1 := ⟨n - 1, by omega⟩
    refine ⟨w, ?_, fun p h1 h2 => by omega, fun p _ => rfl⟩
    show f3_startPlan_L2b (f3_startPlan_L2 n) (nI i) (scb B w) = _
    unfold f3_startPlan_L2b
    rw [scb_1, hp, if_pos (le_ok (by omega) (by omega))]
  | succ m ih =>
    intro i n w hi hm
    obtain ⟨n, rfl⟩ : ∃ q, n = q + 1 := ⟨n - 1, by omega⟩
    obtain ⟨w', h1, h2, h3⟩ := ih (i + 1) n (upd w i (B.2 0 i)) (by omega) (by omega)
    refine ⟨w', ?_, fun p q1 q2 => ?_, fun p q => ?_⟩
    · show f3_startPlan_L2b (f3_startPlan_L2 n) (nI i) (scb B w) = _
      have l0 : ldA (scb B w) 0 12 (nI i) = some (B.2 0 i) := ldA_ok (by omega) (by omega)
      have s1 : stA (scb B w) 1 12 (nI i) (B.2 0 i) = some (scb B (upd w i (B.2 0 i))) := by rw [stA_ok (by omega) (by omega), scb_st]
      unfold f3_startPlan_L2b
      rw [scb_1, hp, if_neg (le_no (by omega) (by omega)), l0, Option.bind_some, s1, Option.bind_some, nI_s]
      exact h1
    · rcases Nat.eq_or_lt_of_le q1 with q | q
      · subst q
        rw [h3 i (by omega)]
        exact pk_us
      · exact h2 p q q2
    · rw [h3 p (by omega)]
      exact pk_un (by omega)
/-- a set of places, as a property of raises -/
def SetIs (ol : List Nat) (x : Int32) (P : Nat → Bool) : Prop := ∀ i r, ol[i]? = some r → bt x i = P r
def plf (P : Nat → Bool) (pk tg : Nat → Int32) (l : List Nat) (f : Nat → Int32) : Nat → Int32 := l.foldl (fun f r => if P r = true then upd f (tn (pk r)) (tg r) else f) f
theorem b_plan_L {B : St} {ol : List Nat} {x : Int32} {P : Nat → Bool} (hol : OL B ol) (hx : SetIs ol x P) (hpk : ∀ (i r : Nat), ol[i]? = some r → ∃ p, p < 12 ∧ B.2 9 r = nI p) :
    ∀ (l : List Nat) (i n : Nat) (w : Nat → Int32), ol.drop i = l → i ≤ ol.length → l.length < n → f4_plan_L9 n x (nI i) (scb B w) = some (scb B (plf P (B.2 9) (B.2 10) l w)) := by
  intro l
  induction l with
  | nil =>
    intro i n w hi hil hm
    obtain ⟨n, rfl⟩ : ∃ q, n = q + 1 := ⟨n - 1, by omega⟩
    have h1 := dr_n hi
    have h3 := hol.2.1
    show f4_plan_L9b (f4_plan_L9 n) x (nI i) (scb B w) = _
    unfold f4_plan_L9b
    rw [scb_1, hol.1, if_pos (le_ok (by omega) h1)]
    rfl
  | cons r l ih =>
    intro i n w hi hil hm
    obtain ⟨n, rfl⟩ : ∃ q, n = q + 1 := ⟨n - 1, by omega⟩
    obtain ⟨h1, h2, h3⟩ := dr_c hi
    have h10 := hol.2.1
    rw [List.length_cons] at hm
    obtain ⟨p, hp, e9⟩ := hpk i r h1
    obtain ⟨-, hr⟩ := hol.2.2 i r h1
    show f4_plan_L9b (f4_plan_L9 n) x (nI i) (scb B w) = _
    have l17 : ldA (scb B w) 17 10 (nI i) = some (nI r) := (hol.scb w).ld h1
    have l9 : ldA (scb B w) 9 40 (nI r) = some (nI p) := by rw [ldA_ok (by omega) (by omega)]; exact congrArg some e9
    have l10 : ldA (scb B w) 10 40 (nI r) = some (B.2 10 r) := ldA_ok (by omega) (by omega)
    have s1 : stA (scb B w) 1 12 (nI p) (B.2 10 r) = some (scb B (upd w p (B.2 10 r))) := by rw [stA_ok (by omega) (by omega), scb_st]
    unfold f4_plan_L9b
    rw [scb_1, hol.1, if_neg (le_no (by omega) (by omega)), f4_isIn_eq _ (by omega), Option.bind_some, hx i r h1, nI_s]
    dsimp only
    cases hP : P r with
    | true =>
      rw [if_neg (by decide), l17, Option.bind_some, l9, Option.bind_some, Option.bind_some, l10, Option.bind_some, s1, Option.bind_some, ih (i + 1) n _ h2 (by omega) (by omega)]
      unfold plf
      rw [List.foldl_cons, if_pos hP, e9, tn_nI (by omega)]
    | false =>
      rw [if_pos bI_f, ih (i + 1) n _ h2 (by omega) (by omega)]
      unfold plf
      rw [List.foldl_cons, if_neg (by rw [hP]; decide)]
theorem b_holds {B : St} {k a b : Nat} (hk : k < 20) (ha : a < 12) (hb : b < 12) (e1 : B.2 2 k = nI a) (e2 : B.2 3 k = nI b) : f3_holdsInPlan B (nI k) = some (B, bI (!vio (B.2 1) (B.2 2) (B.2 3) (B.2 4) (B.2 5) k)) := by
  have l3 : ldA B 3 20 (nI k) = some (nI b) := by rw [ldA_ok (by omega) (by omega), e2]
  have l2 : ldA B 2 20 (nI k) = some (nI a) := by rw [ldA_ok (by omega) (by omega), e1]
  have l4 : ldA B 4 20 (nI k) = some (B.2 4 k) := ldA_ok (by omega) (by omega)
  have l5 : ldA B 5 20 (nI k) = some (B.2 5 k) := ldA_ok (by omega) (by omega)
  have lb : ldA B 1 12 (nI b) = some (B.2 1 b) := ldA_ok (by omega) (by omega)
  have la : ldA B 1 12 (nI a) = some (B.2 1 a) := ldA_ok (by omega) (by omega)
  unfold f3_holdsInPlan
  rw [l3, Option.bind_some, lb, Option.bind_some, l2, Option.bind_some, la, Option.bind_some, l4, Option.bind_some, l5, Option.bind_some, f6_isWithin_eq, Option.bind_some]
  dsimp only
  rw [bz_ok (bI_01 _), Option.bind_some]
  unfold vio
  rw [e1, e2, tn_nI (by omega), tn_nI (by omega), Bool.not_not]
theorem b_fip_L {B : St} {nn : Nat} (hn : B.1 2 = nI nn) (hnn : nn ≤ 20) (hix : ∀ k, k < nn → ∃ a b, a < 12 ∧ b < 12 ∧ B.2 2 k = nI a ∧ B.2 3 k = nI b) :
    ∀ (m i a n : Nat), i + m = nn → m < n → f3_failingInPlan_L4 n (nI a) (nI i) B = some (B, nI (a + cnt (vio (B.2 1) (B.2 2) (B.2 3) (B.2 4) (B.2 5)) i m)) := by
  intro m
  induction m with
  | zero =>
    intro i a n hi hm
    obtain ⟨n, rfl⟩ : ∃ q, n = q + 1 := ⟨n - 1, by omega⟩
    show f3_failingInPlan_L4b (f3_failingInPlan_L4 n) (nI a) (nI i) B = _
    unfold f3_failingInPlan_L4b
    rw [hn, if_pos (le_ok (by omega) (by omega)), cnt_0]
    rfl
  | succ m ih =>
    intro i a n hi hm
    obtain ⟨n, rfl⟩ : ∃ q, n = q + 1 := ⟨n - 1, by omega⟩
    show f3_failingInPlan_L4b (f3_failingInPlan_L4 n) (nI a) (nI i) B = _
    obtain ⟨x, y, hx, hy, e1, e2⟩ := hix i (by omega)
    unfold f3_failingInPlan_L4b
    rw [hn, if_neg (le_no (by omega) (by omega)), b_holds (by omega) hx hy e1 e2, Option.bind_some, cnt_s, nI_s, nI_s]
    dsimp only
    cases hc : vio (B.2 1) (B.2 2) (B.2 3) (B.2 4) (B.2 5) i with
    | true =>
      rw [if_pos (by decide), ih (i + 1) (a + 1) n (by omega) (by omega), if_pos rfl, Nat.add_assoc]
    | false =>
      rw [if_neg (by decide), ih (i + 1) a n (by omega) (by omega), if_neg (by decide), Nat.zero_add]
theorem b_fip {B : St} {nn : Nat} (hn : B.1 2 = nI nn) (hnn : nn ≤ 20) (hix : ∀ k, k < nn → ∃ a b, a < 12 ∧ b < 12 ∧ B.2 2 k = nI a ∧ B.2 3 k = nI b) :
    f3_failingInPlan B = some (B, nI (cnt (vio (B.2 1) (B.2 2) (B.2 3) (B.2 4) (B.2 5)) 0 nn)) := by
  unfold f3_failingInPlan
  have h := b_fip_L hn hnn hix nn 0 0 2000 (by omega) (by omega)
  rw [Nat.zero_add] at h
  exact h
/-- the first that is violated, or none -/
theorem b_ffp_L {B : St} {nn : Nat} (hn : B.1 2 = nI nn) (hnn : nn ≤ 20) (hix : ∀ k, k < nn → ∃ a b, a < 12 ∧ b < 12 ∧ B.2 2 k = nI a ∧ B.2 3 k = nI b) :
    ∀ (m i n : Nat), i + m = nn → m < n → (∃ k, i ≤ k ∧ k < nn ∧ vio (B.2 1) (B.2 2) (B.2 3) (B.2 4) (B.2 5) k = true ∧ f3_firstFailingInPlan_L2 n (nI i) B = some (B, nI k)) ∨ ((∀ k, i ≤ k → k < nn → vio (B.2 1) (B.2 2) (B.2 3) (B.2 4) (B.2 5) k = false) ∧ f3_firstFailingInPlan_L2 n (nI i) B = some (B, -1)) := by
  intro m
  induction m with
  | zero =>
    intro i n hi hm
    obtain ⟨n, rfl⟩ : ∃ q, n = q + 1 := ⟨n - 1, by omega⟩
    refine Or.inr ⟨fun k h1 h2 => by omega, ?_⟩
    show f3_firstFailingInPlan_L2b (f3_firstFailingInPlan_L2 n) (nI i) B = _
    unfold f3_firstFailingInPlan_L2b
    rw [hn, if_pos (le_ok (by omega) (by omega))]
  | succ m ih =>
    intro i n hi hm
    obtain ⟨n, rfl⟩ : ∃ q, n = q + 1 := ⟨n - 1, by omega⟩
    obtain ⟨x, y, hx, hy, e1, e2⟩ := hix i (by omega)
    have hs : f3_firstFailingInPlan_L2 (n + 1) (nI i) B = if vio (B.2 1) (B.2 2) (B.2 3) (B.2 4) (B.2 5) i = true then some (B, nI i) else f3_firstFailingInPlan_L2 n (nI (i + 1)) B := by
      show f3_firstFailingInPlan_L2b (f3_firstFailingInPlan_L2 n) (nI i) B = _
      unfold f3_firstFailingInPlan_L2b
      rw [hn, if_neg (le_no (by omega) (by omega)), b_holds (by omega) hx hy e1 e2, Option.bind_some, nI_s]
      dsimp only
      cases hc : vio (B.2 1) (B.2 2) (B.2 3) (B.2 4) (B.2 5) i with
      | true => rw [if_pos (by decide), if_pos rfl]
      | false => rw [if_neg (by decide), if_neg (by decide)]
    rw [hs]
    cases hc : vio (B.2 1) (B.2 2) (B.2 3) (B.2 4) (B.2 5) i with
    | true =>
      refine Or.inl ⟨i, Nat.le_refl _, by omega, hc, ?_⟩
      rw [if_pos rfl]
    | false =>
      rw [if_neg (by decide)]
      rcases ih (i + 1) n (by omega) (by omega) with ⟨k, k1, k2, k3, k4⟩ | ⟨k1, k2⟩
      · exact Or.inl ⟨k, by omega, k2, k3, k4⟩
      · refine Or.inr ⟨fun k q1 q2 => ?_, k2⟩
        rcases Nat.eq_or_lt_of_le q1 with q | q
        · rw [← q]; exact hc
        · exact k1 k q q2
theorem b_bitOf_L {B : St} {ol : List Nat} (hol : OL B ol) (r0 : Nat) (hr0 : r0 < 2 ^ 31) :
    ∀ (l : List Nat) (i n : Nat), ol.drop i = l → i ≤ ol.length → l.length < n → (∃ j, i ≤ j ∧ ol[j]? = some r0 ∧ f4_bitOf_L2 n (nI r0) (nI i) B = some (B, 1 <<< (nI j &&& 31))) ∨ (r0 ∉ l ∧ f4_bitOf_L2 n (nI r0) (nI i) B = some (B, 0)) := by
  intro l
  induction l with
  | nil =>
    intro i n hi hil hm
    obtain ⟨n, rfl⟩ : ∃ q, n = q + 1 := ⟨n - 1, by omega⟩
    have h1 := dr_n hi
    have h3 := hol.2.1
    refine Or.inr ⟨List.not_mem_nil, ?_⟩
    show f4_bitOf_L2b (f4_bitOf_L2 n) (nI r0) (nI i) B = _
    unfold f4_bitOf_L2b
    rw [hol.1, if_pos (le_ok (by omega) h1)]
  | cons r l ih =>
    intro i n hi hil hm
    obtain ⟨n, rfl⟩ : ∃ q, n = q + 1 := ⟨n - 1, by omega⟩
    obtain ⟨h1, h2, h3⟩ := dr_c hi
    have h10 := hol.2.1
    rw [List.length_cons] at hm
    obtain ⟨-, hr⟩ := hol.2.2 i r h1
    have hs : f4_bitOf_L2 (n + 1) (nI r0) (nI i) B = if r = r0 then some (B, 1 <<< (nI i &&& 31)) else f4_bitOf_L2 n (nI r0) (nI (i + 1)) B := by
      show f4_bitOf_L2b (f4_bitOf_L2 n) (nI r0) (nI i) B = _
      unfold f4_bitOf_L2b
      rw [hol.1, if_neg (le_no (by omega) (by omega)), hol.ld h1, Option.bind_some, nI_s]
      by_cases hc : r = r0
      · rw [if_pos (by rw [hc]), if_pos hc]
      · rw [if_neg (ne_ok (by omega) hr0 hc), if_neg hc]
    rw [hs]
    by_cases hc : r = r0
    · rw [if_pos hc]
      exact Or.inl ⟨i, Nat.le_refl _, by rw [h1, hc], rfl⟩
    · rw [if_neg hc]
      rcases ih (i + 1) n h2 (by omega) (by omega) with ⟨j, j1, j2, j3⟩ | ⟨j1, j2⟩
      · exact Or.inl ⟨j, by omega, j2, j3⟩
      · exact Or.inr ⟨fun q => by rcases List.mem_cons.mp q with q | q; exact hc q.symm; exact j1 q, j2⟩
theorem b_bitOfP_L {B : St} {ol : List Nat} (hol : OL B ol) (p0 : Int32) :
    ∀ (l : List Nat) (i n : Nat), ol.drop i = l → i ≤ ol.length → l.length < n → (∃ j r, i ≤ j ∧ ol[j]? = some r ∧ B.2 9 r = p0 ∧ f4_bitOfPackage_L2 n p0 (nI i) B = some (B, 1 <<< (nI j &&& 31))) ∨ ((∀ r ∈ l, B.2 9 r ≠ p0) ∧ f4_bitOfPackage_L2 n p0 (nI i) B = some (B, 0)) := by
  intro l
  induction l with
  | nil =>
    intro i n hi hil hm
    obtain ⟨n, rfl⟩ : ∃ q, n = q + 1 := ⟨n - 1, by omega⟩
    have h1 := dr_n hi
    have h3 := hol.2.1
    refine Or.inr ⟨fun r h => absurd h List.not_mem_nil, ?_⟩
    show f4_bitOfPackage_L2b (f4_bitOfPackage_L2 n) p0 (nI i) B = _
    unfold f4_bitOfPackage_L2b
    rw [hol.1, if_pos (le_ok (by omega) h1)]
  | cons r l ih =>
    intro i n hi hil hm
    obtain ⟨n, rfl⟩ : ∃ q, n = q + 1 := ⟨n - 1, by omega⟩
    obtain ⟨h1, h2, h3⟩ := dr_c hi
    have h10 := hol.2.1
    rw [List.length_cons] at hm
    obtain ⟨-, hr⟩ := hol.2.2 i r h1
    have l9 : ldA B 9 40 (nI r) = some (B.2 9 r) := ldA_ok (by omega) (by omega)
    have hs : f4_bitOfPackage_L2 (n + 1) p0 (nI i) B = if B.2 9 r = p0 then some (B, 1 <<< (nI i &&& 31)) else f4_bitOfPackage_L2 n p0 (nI (i + 1)) B := by
      show f4_bitOfPackage_L2b (f4_bitOfPackage_L2 n) p0 (nI i) B = _
      unfold f4_bitOfPackage_L2b
      rw [hol.1, if_neg (le_no (by omega) (by omega)), hol.ld h1, Option.bind_some, l9, Option.bind_some, nI_s]
    rw [hs]
    by_cases hc : B.2 9 r = p0
    · rw [if_pos hc]
      exact Or.inl ⟨i, r, Nat.le_refl _, h1, hc, rfl⟩
    · rw [if_neg hc]
      rcases ih (i + 1) n h2 (by omega) (by omega) with ⟨j, r', j1, j2, j3⟩ | ⟨j1, j2⟩
      · exact Or.inl ⟨j, r', by omega, j2, j3⟩
      · exact Or.inr ⟨fun r' q => by rcases List.mem_cons.mp q with q | q; rw [q]; exact hc; exact j1 r' q, j2⟩
/-- the group of a raise, as a set of places -/
theorem b_groupOf_L {B : St} {ol : List Nat} (hol : OL B ol) (v : Nat) (hv : v < 40) :
    ∀ (l : List Nat) (i n : Nat) (x : Int32), ol.drop i = l → i ≤ ol.length → l.length < n → (∀ j, j < 32 → i ≤ j → bt x j = false) → ∃ y, f4_groupOf_L4 n (nI v) x (nI i) B = some (B, y) ∧ (∀ j, j < i → bt y j = bt x j) ∧ (∀ (j r : Nat), i ≤ j → ol[j]? = some r → bt y j = decide (B.2 16 r = B.2 16 v)) ∧ ∀ j, j < 32 → ol.length ≤ j → bt y j = false := by
  intro l
  induction l with
  | nil =>
    intro i n x hi hil hm hb
    obtain ⟨n, rfl⟩ : ∃ q, n = q + 1 := ⟨n - 1, by omega⟩
    have h1 := dr_n hi
    have h3 := hol.2.1
    refine ⟨x, ?_, fun _ _ => rfl, fun j r h4 h5 => ?_, fun j h4 h5 => hb j h4 (by omega)⟩
    · show f4_groupOf_L4b (f4_groupOf_L4 n) (nI v) x (nI i) B = _
      unfold f4_groupOf_L4b
      rw [hol.1, if_pos (le_ok (by omega) h1)]
    · have := (List.getElem?_eq_some_iff.mp h5).1
      omega
  | cons r l ih =>
    intro i n x hi hil hm hb
    obtain ⟨n, rfl⟩ : ∃ q, n = q + 1 := ⟨n - 1, by omega⟩
    obtain ⟨h1, h2, h3⟩ := dr_c hi
    have h10 := hol.2.1
    rw [List.length_cons] at hm
    obtain ⟨-, hr⟩ := hol.2.2 i r h1
    have l16 : ldA B 16 40 (nI r) = some (B.2 16 r) := ldA_ok (by omega) (by omega)
    have l16v : ldA B 16 40 (nI v) = some (B.2 16 v) := ldA_ok (by omega) (by omega)
    have hs : f4_groupOf_L4 (n + 1) (nI v) x (nI i) B = f4_groupOf_L4 n (nI v) (if B.2 16 r = B.2 16 v then x ||| (1 <<< (nI i &&& 31)) else x) (nI (i + 1)) B := by
      show f4_groupOf_L4b (f4_groupOf_L4 n) (nI v) x (nI i) B = _
      unfold f4_groupOf_L4b
      rw [hol.1, if_neg (le_no (by omega) (by omega)), hol.ld h1, Option.bind_some, l16, Option.bind_some, l16v, Option.bind_some, nI_s]
      by_cases hc : B.2 16 r = B.2 16 v
      · rw [if_pos hc, if_pos hc]
      · rw [if_neg hc, if_neg hc]
    have hbit : ∀ j, j < 32 → bt (if B.2 16 r = B.2 16 v then x ||| (1 <<< (nI i &&& 31)) else x) j = (bt x j || (decide (B.2 16 r = B.2 16 v) && decide (j = i))) := by
      intro j hj
      by_cases hc : B.2 16 r = B.2 16 v
      · rw [if_pos hc, b_or, b_pw i (by omega) hj]
        simp [hc]
      · rw [if_neg hc]
        simp [hc]
    obtain ⟨y, y1, y2, y3, y4⟩ := ih (i + 1) n (if B.2 16 r = B.2 16 v then x ||| (1 <<< (nI i &&& 31)) else x) h2 (by omega) (by omega) (fun j hj hij => by
      rw [hbit j hj, hb j hj (by omega)]
      have : j ≠ i := by omega
      simp [this])
    refine ⟨y, by rw [hs]; exact y1, fun j hj => ?_, fun j r' hj hr' => ?_, y4⟩
    · rw [y2 j (by omega), hbit j (by omega)]
      have : j ≠ i := by omega
      simp [this]
    · rcases Nat.eq_or_lt_of_le hj with q | q
      · subst q
        rw [h1] at hr'
        cases hr'
        rw [y2 i (by omega), hbit i (by omega), hb i (by omega) (Nat.le_refl _)]
        simp
      · exact y3 j r' q hr'
theorem b_groupOf {B : St} {ol : List Nat} (hol : OL B ol) {v : Nat} (hv : v < 40) : ∃ y, f4_groupOf B (nI v) = some (B, y) ∧ SetIs ol y (fun r => decide (B.2 16 r = B.2 16 v)) ∧ ∀ j, j < 32 → ol.length ≤ j → bt y j = false := by
  have h10 := hol.2.1
  obtain ⟨y, y1, -, y3, y4⟩ := b_groupOf_L hol v hv ol 0 2000 0 rfl (by omega) (by omega) (fun j _ _ => b_0 j)
  exact ⟨y, y1, fun j r hr => y3 j r (Nat.zero_le _) hr, y4⟩
theorem b_areApproved_L {B : St} {ol : List Nat} {x : Int32} {P : Nat → Bool} (hol : OL B ol) (hx : SetIs ol x P) :
    ∀ (l : List Nat) (i n : Nat), ol.drop i = l → i ≤ ol.length → l.length < n → f4_areApproved_L2 n x (nI i) B = some (B, bI (l.all fun r => !P r || !decide (B.2 15 r = 0))) := by
  intro l
  induction l with
  | nil =>
    intro i n hi hil hm
    obtain ⟨n, rfl⟩ : ∃ q, n = q + 1 := ⟨n - 1, by omega⟩
    have h1 := dr_n hi
    have h3 := hol.2.1
    show f4_areApproved_L2b (f4_areApproved_L2 n) x (nI i) B = _
    unfold f4_areApproved_L2b
    rw [hol.1, if_pos (le_ok (by omega) h1)]
    rfl
  | cons r l ih =>
    intro i n hi hil hm
    obtain ⟨n, rfl⟩ : ∃ q, n = q + 1 := ⟨n - 1, by omega⟩
    obtain ⟨h1, h2, h3⟩ := dr_c hi
    have h10 := hol.2.1
    rw [List.length_cons] at hm
    obtain ⟨-, hr⟩ := hol.2.2 i r h1
    have l15 : ldA B 15 40 (nI r) = some (B.2 15 r) := ldA_ok (by omega) (by omega)
    show f4_areApproved_L2b (f4_areApproved_L2 n) x (nI i) B = _
    unfold f4_areApproved_L2b
    rw [hol.1, if_neg (le_no (by omega) (by omega)), f4_isIn_eq _ (by omega), Option.bind_some, hx i r h1, nI_s, List.all_cons]
    dsimp only
    have ih' := ih (i + 1) n h2 (by omega) (by omega)
    cases hP : P r with
    | true =>
      rw [if_neg (by decide), hol.ld h1, Option.bind_some, l15, Option.bind_some]
      by_cases hc : B.2 15 r = 0
      · rw [if_pos hc]
        simp [hc, bI]
      · rw [if_neg hc, ih']
        simp [hc]
    | false =>
      rw [if_pos bI_f, ih']
      simp
theorem b_packagesOf_L {B : St} {ol : List Nat} {x : Int32} {P : Nat → Bool} (hol : OL B ol) (hx : SetIs ol x P) (hpk : ∀ (i r : Nat), ol[i]? = some r → ∃ p, p < 12 ∧ B.2 9 r = nI p) :
    ∀ (l : List Nat) (i n : Nat) (y : Int32), ol.drop i = l → i ≤ ol.length → l.length < n → ∃ z, f4_packagesOf_L4 n x y (nI i) B = some (B, z) ∧ ∀ j, j < 32 → bt z j = (bt y j || l.any fun r => P r && decide (B.2 9 r = nI j)) := by
  intro l
  induction l with
  | nil =>
    intro i n y hi hil hm
    obtain ⟨n, rfl⟩ : ∃ q, n = q + 1 := ⟨n - 1, by omega⟩
    have h1 := dr_n hi
    have h3 := hol.2.1
    refine ⟨y, ?_, fun j _ => by simp⟩
    show f4_packagesOf_L4b (f4_packagesOf_L4 n) x y (nI i) B = _
    unfold f4_packagesOf_L4b
    rw [hol.1, if_pos (le_ok (by omega) h1)]
  | cons r l ih =>
    intro i n y hi hil hm
    obtain ⟨n, rfl⟩ : ∃ q, n = q + 1 := ⟨n - 1, by omega⟩
    obtain ⟨h1, h2, h3⟩ := dr_c hi
    have h10 := hol.2.1
    rw [List.length_cons] at hm
    obtain ⟨-, hr⟩ := hol.2.2 i r h1
    obtain ⟨p, hp, e9⟩ := hpk i r h1
    have l9 : ldA B 9 40 (nI r) = some (nI p) := by rw [ldA_ok (by omega) (by omega), e9]
    have hs : f4_packagesOf_L4 (n + 1) x y (nI i) B = f4_packagesOf_L4 n x (if P r = true then y ||| (1 <<< (nI p &&& 31)) else y) (nI (i + 1)) B := by
      show f4_packagesOf_L4b (f4_packagesOf_L4 n) x y (nI i) B = _
      unfold f4_packagesOf_L4b
      rw [hol.1, if_neg (le_no (by omega) (by omega)), f4_isIn_eq _ (by omega), Option.bind_some, hx i r h1, nI_s]
      dsimp only
      cases hP : P r with
      | true => rw [if_neg (by decide), hol.ld h1, Option.bind_some, l9, Option.bind_some, if_pos rfl]
      | false => rw [if_pos bI_f, if_neg (by decide)]
    obtain ⟨z, z1, z2⟩ := ih (i + 1) n (if P r = true then y ||| (1 <<< (nI p &&& 31)) else y) h2 (by omega) (by omega)
    refine ⟨z, by rw [hs]; exact z1, fun j hj => ?_⟩
    rw [z2 j hj, List.any_cons]
    cases hP : P r with
    | true =>
      rw [if_pos rfl, b_or, b_pw p (by omega) hj, e9]
      have he : decide (j = p) = decide (nI p = nI j) := by
        by_cases hq : j = p
        · simp [hq]
        · simp [hq, ne_ok (a := p) (b := j) (by omega) (by omega) (fun q => hq q.symm)]
      rw [he, Bool.true_and, Bool.or_assoc]
    | false =>
      rw [if_neg (by decide)]
      simp
theorem b_loadW_L {B : St} {ol : List Nat} (hol : OL B ol) (g o : Int32) :
    ∀ (l : List Nat) (i n a : Nat), ol.drop i = l → i ≤ ol.length → l.length < n → f5_loadWithout_L5 n g o (nI a) (nI i) B = some (B, nI (a + l.countP fun r => (!decide (nI r = o)) && decide (B.2 14 r = g))) := by
  intro l
  induction l with
  | nil =>
    intro i n a hi hil hm
    obtain ⟨n, rfl⟩ : ∃ q, n = q + 1 := ⟨n - 1, by omega⟩
    have h1 := dr_n hi
    have h3 := hol.2.1
    show f5_loadWithout_L5b (f5_loadWithout_L5 n) g o (nI a) (nI i) B = _
    unfold f5_loadWithout_L5b
    rw [hol.1, if_pos (le_ok (by omega) h1)]
    rfl
  | cons r l ih =>
    intro i n a hi hil hm
    obtain ⟨n, rfl⟩ : ∃ q, n = q + 1 := ⟨n - 1, by omega⟩
    obtain ⟨h1, h2, h3⟩ := dr_c hi
    have h10 := hol.2.1
    rw [List.length_cons] at hm
    obtain ⟨-, hr⟩ := hol.2.2 i r h1
    have l14 : ldA B 14 40 (nI r) = some (B.2 14 r) := ldA_ok (by omega) (by omega)
    show f5_loadWithout_L5b (f5_loadWithout_L5 n) g o (nI a) (nI i) B = _
    unfold f5_loadWithout_L5b
    rw [hol.1, if_neg (le_no (by omega) (by omega)), hol.ld h1, Option.bind_some, nI_s, nI_s, List.countP_cons]
    have ih1 := ih (i + 1) n (a + 1) h2 (by omega) (by omega)
    have ih0 := ih (i + 1) n a h2 (by omega) (by omega)
    by_cases h0 : nI r = o
    · rw [if_pos h0, ih0]
      simp [h0]
    · rw [if_neg h0, l14, Option.bind_some]
      by_cases h4 : B.2 14 r = g
      · rw [if_pos h4, ih1, if_pos (by simp [h0, h4])]
        congr 2
        congr 1
        omega
      · rw [if_neg h4, ih0]
        simp [h4]
theorem b_revA_L {B : St} {ol : List Nat} (hol : OL B ol) (who : Int32) {v e : Nat} (hv : v < 40) (he : e ≤ 40) :
    ∀ (l : List Nat) (i n : Nat), ol.drop i = l → i ≤ ol.length → l.length < n → f5_reviewsAnother_L3 n who (nI v) (nI e) (nI i) B = some (B, bI (l.any fun r => (!decide (r = v)) && (decide (r < e) && (decide (B.2 16 r = B.2 16 v) && decide (B.2 14 r = who))))) := by
  intro l
  induction l with
  | nil =>
    intro i n hi hil hm
    obtain ⟨n, rfl⟩ : ∃ q, n = q + 1 := ⟨n - 1, by omega⟩
    have h1 := dr_n hi
    have h3 := hol.2.1
    show f5_reviewsAnother_L3b (f5_reviewsAnother_L3 n) who (nI v) (nI e) (nI i) B = _
    unfold f5_reviewsAnother_L3b
    rw [hol.1, if_pos (le_ok (by omega) h1)]
    rfl
  | cons r l ih =>
    intro i n hi hil hm
    obtain ⟨n, rfl⟩ : ∃ q, n = q + 1 := ⟨n - 1, by omega⟩
    obtain ⟨h1, h2, h3⟩ := dr_c hi
    have h10 := hol.2.1
    rw [List.length_cons] at hm
    obtain ⟨-, hr⟩ := hol.2.2 i r h1
    have l14 : ldA B 14 40 (nI r) = some (B.2 14 r) := ldA_ok (by omega) (by omega)
    have l16 : ldA B 16 40 (nI r) = some (B.2 16 r) := ldA_ok (by omega) (by omega)
    have l16v : ldA B 16 40 (nI v) = some (B.2 16 v) := ldA_ok (by omega) (by omega)
    show f5_reviewsAnother_L3b (f5_reviewsAnother_L3 n) who (nI v) (nI e) (nI i) B = _
    unfold f5_reviewsAnother_L3b
    rw [hol.1, if_neg (le_no (by omega) (by omega)), hol.ld h1, Option.bind_some, nI_s, List.any_cons]
    have ih' := ih (i + 1) n h2 (by omega) (by omega)
    by_cases h0 : r = v
    · rw [if_pos (by rw [h0]), ih']
      simp [h0]
    · rw [if_neg (ne_ok (by omega) (by omega) h0)]
      by_cases h4 : r < e
      · rw [if_neg (le_no (by omega) h4), l16, Option.bind_some, l16v, Option.bind_some]
        by_cases h5 : B.2 16 r = B.2 16 v
        · rw [if_pos h5, l14, Option.bind_some]
          by_cases h6 : B.2 14 r = who
          · rw [if_pos h6]
            simp [h0, h4, h5, h6, bI]
          · rw [if_neg h6, ih']
            simp [h6]
        · rw [if_neg h5, ih']
          simp [h5]
      · rw [if_pos (le_ok (by omega) (by omega)), ih']
        simp [h4]
theorem b_mate_L {B : St} {ol : List Nat} (hol : OL B ol) {v : Nat} (hv : v < 40) :
    ∀ (l : List Nat) (i n : Nat), ol.drop i = l → i ≤ ol.length → l.length < n → (∃ r ∈ l, r ≠ v ∧ B.2 16 r = B.2 16 v ∧ f2_mateOf_L2 n (nI v) (nI i) B = some (B, nI r)) ∨ ((∀ r ∈ l, r ≠ v → B.2 16 r ≠ B.2 16 v) ∧ f2_mateOf_L2 n (nI v) (nI i) B = some (B, -1)) := by
  intro l
  induction l with
  | nil =>
    intro i n hi hil hm
    obtain ⟨n, rfl⟩ : ∃ q, n = q + 1 := ⟨n - 1, by omega⟩
    have h1 := dr_n hi
    have h3 := hol.2.1
    refine Or.inr ⟨fun r h => absurd h List.not_mem_nil, ?_⟩
    show f2_mateOf_L2b (f2_mateOf_L2 n) (nI v) (nI i) B = _
    unfold f2_mateOf_L2b
    rw [hol.1, if_pos (le_ok (by omega) h1)]
  | cons r l ih =>
    intro i n hi hil hm
    obtain ⟨n, rfl⟩ : ∃ q, n = q + 1 := ⟨n - 1, by omega⟩
    obtain ⟨h1, h2, h3⟩ := dr_c hi
    have h10 := hol.2.1
    rw [List.length_cons] at hm
    obtain ⟨-, hr⟩ := hol.2.2 i r h1
    have l16 : ldA B 16 40 (nI r) = some (B.2 16 r) := ldA_ok (by omega) (by omega)
    have l16v : ldA B 16 40 (nI v) = some (B.2 16 v) := ldA_ok (by omega) (by omega)
    have hs : f2_mateOf_L2 (n + 1) (nI v) (nI i) B = if r = v then f2_mateOf_L2 n (nI v) (nI (i + 1)) B else if B.2 16 r = B.2 16 v then some (B, nI r) else f2_mateOf_L2 n (nI v) (nI (i + 1)) B := by
      show f2_mateOf_L2b (f2_mateOf_L2 n) (nI v) (nI i) B = _
      unfold f2_mateOf_L2b
      rw [hol.1, if_neg (le_no (by omega) (by omega)), hol.ld h1, Option.bind_some, nI_s]
      by_cases hc : r = v
      · rw [if_pos (by rw [hc]), if_pos hc]
      · rw [if_neg (ne_ok (by omega) (by omega) hc), if_neg hc, l16, Option.bind_some, l16v, Option.bind_some]
    rw [hs]
    by_cases hc : r = v
    · rw [if_pos hc]
      rcases ih (i + 1) n h2 (by omega) (by omega) with ⟨j, j1, j2⟩ | ⟨j1, j2⟩
      · exact Or.inl ⟨j, List.mem_cons_of_mem _ j1, j2⟩
      · exact Or.inr ⟨fun r' q hne => by rcases List.mem_cons.mp q with q | q; exact absurd (q.trans hc) hne; exact j1 r' q hne, j2⟩
    · rw [if_neg hc]
      by_cases h4 : B.2 16 r = B.2 16 v
      · rw [if_pos h4]
        exact Or.inl ⟨r, List.mem_cons_self, hc, h4, rfl⟩
      · rw [if_neg h4]
        rcases ih (i + 1) n h2 (by omega) (by omega) with ⟨j, j1, j2⟩ | ⟨j1, j2⟩
        · exact Or.inl ⟨j, List.mem_cons_of_mem _ j1, j2⟩
        · exact Or.inr ⟨fun r' q hne => by rcases List.mem_cons.mp q with q | q; rw [q]; exact h4; exact j1 r' q hne, j2⟩
