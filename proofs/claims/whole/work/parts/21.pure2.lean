/-! the model's simple loops -/
def opB (M : St) (k : Nat) : Bool := decide (M.2 9 k = 0)
def vio (f A B L U : Nat → Int32) (k : Nat) : Bool := !inr (f (tn (B k)) - f (tn (A k))) (L k) (U k)
/-- a state with another scratch row -/
def scr (M : St) (w : Nat → Int32) : St := (M.1, fun q => if q = 17 then w else M.2 q)
theorem scr_1 (M : St) (w : Nat → Int32) : (scr M w).1 = M.1 := rfl
theorem scr_17 (M : St) (w : Nat → Int32) : (scr M w).2 17 = w := rfl
theorem scr_n (M : St) (w : Nat → Int32) {q : Nat} (h : q ≠ 17) : (scr M w).2 q = M.2 q := if_neg h
theorem scr_self (M : St) : scr M (M.2 17) = M := by
  unfold scr
  refine Prod.ext rfl (funext fun q => ?_)
  by_cases h : q = 17
  · subst h; rfl
  · exact if_neg h
theorem scr_scr (M : St) (w w2 : Nat → Int32) : scr (scr M w) w2 = scr M w2 := by
  unfold scr
  refine Prod.ext rfl (funext fun q => ?_)
  by_cases h : q = 17
  · subst h; rfl
  · simp [h]
theorem scr_st (M : St) (w : Nat → Int32) (j : Nat) (v : Int32) : stS (scr M w) 17 j v = scr M (upd w j v) := by
  unfold scr stS
  refine Prod.ext rfl (funext fun q => ?_)
  by_cases h : q = 17
  · subst h; rfl
  · simp [h]
theorem m_failing_L {M : St} {nn : Nat} (hn : M.1 3 = nI nn) (hnn : nn ≤ 20) (hix : ∀ k, k < nn → ∃ a b, a < 12 ∧ b < 12 ∧ M.2 1 k = nI a ∧ M.2 2 k = nI b) :
    ∀ (m i a n : Nat), i + m = nn → m < n → f7_failing_L4 n (nI a) (nI i) M = some (M, nI (a + cnt (vio (M.2 17) (M.2 1) (M.2 2) (M.2 3) (M.2 4)) i m)) := by
  intro m
  induction m with
  | zero =>
    intro i a n hi hm
    obtain ⟨n, rfl⟩ : ∃ q, n = q + 1 := ⟨n - 1, by omega⟩
    show f7_failing_L4b (f7_failing_L4 n) (nI a) (nI i) M = _
    unfold f7_failing_L4b
    rw [hn, if_pos (le_ok (by omega) (by omega)), cnt_0]
    rfl
  | succ m ih =>
    intro i a n hi hm
    obtain ⟨n, rfl⟩ : ∃ q, n = q + 1 := ⟨n - 1, by omega⟩
    show f7_failing_L4b (f7_failing_L4 n) (nI a) (nI i) M = _
    obtain ⟨x, y, hx, hy, e1, e2⟩ := hix i (by omega)
    have l2 : ldA M 2 20 (nI i) = some (nI y) := by rw [ldA_ok (by omega) (by omega), e2]
    have l1 : ldA M 1 20 (nI i) = some (nI x) := by rw [ldA_ok (by omega) (by omega), e1]
    have l3 : ldA M 3 20 (nI i) = some (M.2 3 i) := ldA_ok (by omega) (by omega)
    have l4 : ldA M 4 20 (nI i) = some (M.2 4 i) := ldA_ok (by omega) (by omega)
    have ly : ldA M 17 12 (nI y) = some (M.2 17 y) := ldA_ok (by omega) (by omega)
    have lx : ldA M 17 12 (nI x) = some (M.2 17 x) := ldA_ok (by omega) (by omega)
    have hv : vio (M.2 17) (M.2 1) (M.2 2) (M.2 3) (M.2 4) i = !inr (M.2 17 y - M.2 17 x) (M.2 3 i) (M.2 4 i) := by
      unfold vio
      rw [e1, e2, tn_nI (by omega), tn_nI (by omega)]
    unfold f7_failing_L4b
    rw [hn, if_neg (le_no (by omega) (by omega)), l2, Option.bind_some, ly, Option.bind_some, l1, Option.bind_some, lx, Option.bind_some, l3, Option.bind_some, l4, Option.bind_some, f7_in_eq, Option.bind_some, cnt_s, hv]
    dsimp only
    cases hc : inr (M.2 17 y - M.2 17 x) (M.2 3 i) (M.2 4 i)
    · rw [if_pos bI_f, nI_s, nI_s, ih (i + 1) (a + 1) n (by omega) (by omega)]
      simp only [Bool.not_false, if_true]
      rw [Nat.add_assoc]
    · rw [if_neg (by decide), nI_z, nI_s, ih (i + 1) a n (by omega) (by omega)]
      simp
theorem m_failing {M : St} {nn : Nat} (hn : M.1 3 = nI nn) (hnn : nn ≤ 20) (hix : ∀ k, k < nn → ∃ a b, a < 12 ∧ b < 12 ∧ M.2 1 k = nI a ∧ M.2 2 k = nI b) :
    f7_failing M = some (M, nI (cnt (vio (M.2 17) (M.2 1) (M.2 2) (M.2 3) (M.2 4)) 0 nn)) := by
  unfold f7_failing
  have h := m_failing_L hn hnn hix nn 0 0 2000 (by omega) (by omega)
  rw [Nat.zero_add] at h
  exact h
theorem m_asNow_L {M : St} {np : Nat} (hp : M.1 2 = nI np) (hpp : np ≤ 12) :
    ∀ (m i n : Nat) (w : Nat → Int32), i + m = np → m < n → ∃ w', f7_asNow_L2 n (nI i) (scr M w) = some (scr M w') ∧ (∀ p, i ≤ p → p < np → w' p = M.2 0 p) ∧ ∀ p, p < i → w' p = w p := by
  intro m
  induction m with
  | zero =>
    intro i n w hi hm
    obtain ⟨n, rfl⟩ : ∃ q, n = q + 1 := ⟨n - 1, by omega⟩
    refine ⟨w, ?_, fun p h1 h2 => by omega, fun p _ => rfl⟩
    show f7_asNow_L2b (f7_asNow_L2 n) (nI i) (scr M w) = _
    unfold f7_asNow_L2b
    rw [scr_1, hp, if_pos (le_ok (by omega) (by omega))]
  | succ m ih =>
    intro i n w hi hm
    obtain ⟨n, rfl⟩ : ∃ q, n = q + 1 := ⟨n - 1, by omega⟩
    obtain ⟨w', h1, h2, h3⟩ := ih (i + 1) n (upd w i (M.2 0 i)) (by omega) (by omega)
    refine ⟨w', ?_, fun p q1 q2 => ?_, fun p q => ?_⟩
    · show f7_asNow_L2b (f7_asNow_L2 n) (nI i) (scr M w) = _
      have l0 : ldA (scr M w) 0 12 (nI i) = some (M.2 0 i) := ldA_ok (by omega) (by omega)
      have s1 : stA (scr M w) 17 12 (nI i) (M.2 0 i) = some (scr M (upd w i (M.2 0 i))) := by rw [stA_ok (by omega) (by omega), scr_st]
      unfold f7_asNow_L2b
      rw [scr_1, hp, if_neg (le_no (by omega) (by omega)), l0, Option.bind_some, s1, Option.bind_some, nI_s]
      exact h1
    · rcases Nat.eq_or_lt_of_le q1 with q | q
      · subst q
        rw [h3 i (by omega)]
        exact pk_us
      · exact h2 p q q2
    · rw [h3 p (by omega)]
      exact pk_un (by omega)
theorem m_asNow {M : St} {np : Nat} (hp : M.1 2 = nI np) (hpp : np ≤ 12) (w : Nat → Int32) : ∃ w', f7_asNow (scr M w) = some (scr M w') ∧ ∀ p, p < np → w' p = M.2 0 p := by
  obtain ⟨w', h1, h2, -⟩ := m_asNow_L hp hpp np 0 2000 w (by omega) (by omega)
  exact ⟨w', h1, fun p h => h2 p (Nat.zero_le _) h⟩
/-- the planned versions: those of the raises of a kind over those that are -/
def plan (P : Nat → Bool) (pk tg : Nat → Int32) (f : Nat → Int32) (i m : Nat) : Nat → Int32 := fld (fun f k => if P k = true then upd f (tn (pk k)) (tg k) else f) f i m
theorem plan_0 (P : Nat → Bool) (pk tg f : Nat → Int32) (i : Nat) : plan P pk tg f i 0 = f := rfl
theorem plan_s (P : Nat → Bool) (pk tg f : Nat → Int32) (i m : Nat) : plan P pk tg f i (m + 1) = plan P pk tg (if P i = true then upd f (tn (pk i)) (tg i) else f) (i + 1) m := rfl
theorem plan_agree {P : Nat → Bool} {pk tg : Nat → Int32} {np : Nat} : ∀ {m i : Nat} {f g : Nat → Int32}, (∀ p, p < np → f p = g p) → ∀ p, p < np → plan P pk tg f i m p = plan P pk tg g i m p
  | 0, _, _, _, h, p, hp => h p hp
  | m + 1, i, f, g, h, p, hp => by
    rw [plan_s, plan_s]
    refine plan_agree (fun q hq => ?_) p hp
    by_cases hP : P i = true
    · rw [if_pos hP, if_pos hP]
      unfold upd
      by_cases hq2 : q = tn (pk i)
      · rw [if_pos hq2, if_pos hq2]
      · rw [if_neg hq2, if_neg hq2]
        exact h q hq
    · rw [if_neg hP, if_neg hP]
      exact h q hq
theorem vio_agree {A B L U f g : Nat → Int32} {np k a b : Nat} (ha : a < np) (hb : b < np) (hn : np < 2 ^ 31) (e1 : A k = nI a) (e2 : B k = nI b) (h : ∀ p, p < np → f p = g p) : vio f A B L U k = vio g A B L U k := by
  unfold vio
  rw [e1, e2, tn_nI (by omega), tn_nI (by omega), h a ha, h b hb]
/-- how many needs fail with the raises of a kind -/
def fcn (M : St) (nn nr : Nat) (P : Nat → Bool) : Nat := cnt (vio (plan P (M.2 10) (M.2 11) (M.2 0) 0 nr) (M.2 1) (M.2 2) (M.2 3) (M.2 4)) 0 nn
theorem m_fw_L {M : St} {np nn nr : Nat} (hn : M.1 3 = nI nn) (hnn : nn ≤ 20) (hix : ∀ k, k < nn → ∃ a b, a < 12 ∧ b < 12 ∧ M.2 1 k = nI a ∧ M.2 2 k = nI b) (hr : M.1 6 = nI nr) (hrr : nr ≤ 40) (hpk : ∀ k, k < nr → ∃ p, p < 12 ∧ M.2 10 k = nI p) (x y : Int32) :
    ∀ (m i n : Nat) (w : Nat → Int32), i + m = nr → m < n → f7_failsWith_L6 n x y (nI i) (scr M w) = some (scr M (plan (fun k => opB M k && (decide (M.2 14 k = x) || decide (M.2 14 k = y))) (M.2 10) (M.2 11) w i m), nI (cnt (vio (plan (fun k => opB M k && (decide (M.2 14 k = x) || decide (M.2 14 k = y))) (M.2 10) (M.2 11) w i m) (M.2 1) (M.2 2) (M.2 3) (M.2 4)) 0 nn)) := by
  intro m
  induction m with
  | zero =>
    intro i n w hi hm
    obtain ⟨n, rfl⟩ : ∃ q, n = q + 1 := ⟨n - 1, by omega⟩
    show f7_failsWith_L6b (f7_failsWith_L6 n) x y (nI i) (scr M w) = _
    have h := m_failing (M := scr M w) hn hnn hix
    unfold f7_failsWith_L6b
    rw [scr_1, hr, if_pos (le_ok (by omega) (by omega)), h, plan_0]
    rfl
  | succ m ih =>
    intro i n w hi hm
    obtain ⟨n, rfl⟩ : ∃ q, n = q + 1 := ⟨n - 1, by omega⟩
    show f7_failsWith_L6b (f7_failsWith_L6 n) x y (nI i) (scr M w) = _
    obtain ⟨p, hp, e10⟩ := hpk i (by omega)
    have l9 : ldA (scr M w) 9 40 (nI i) = some (M.2 9 i) := ldA_ok (by omega) (by omega)
    have l14 : ldA (scr M w) 14 40 (nI i) = some (M.2 14 i) := ldA_ok (by omega) (by omega)
    have hJ : f7_failsWith_J43 (f7_failsWith_L6 n) x y (nI i) (scr M w) = f7_failsWith_L6 n x y (nI (i + 1)) (scr M (upd w (tn (M.2 10 i)) (M.2 11 i))) := by
      have l10 : ldA (scr M w) 10 40 (nI i) = some (nI p) := by rw [ldA_ok (by omega) (by omega)]; exact congrArg some e10
      have l11 : ldA (scr M w) 11 40 (nI i) = some (M.2 11 i) := ldA_ok (by omega) (by omega)
      have s1 : stA (scr M w) 17 12 (nI p) (M.2 11 i) = some (scr M (upd w p (M.2 11 i))) := by rw [stA_ok (by omega) (by omega), scr_st]
      unfold f7_failsWith_J43
      rw [l10, Option.bind_some, l11, Option.bind_some, s1, Option.bind_some, nI_s, e10, tn_nI (by omega)]
    have iht := ih (i + 1) n (upd w (tn (M.2 10 i)) (M.2 11 i)) (by omega) (by omega)
    have ihf := ih (i + 1) n w (by omega) (by omega)
    unfold f7_failsWith_L6b
    rw [scr_1, hr, if_neg (le_no (by omega) (by omega)), l9, Option.bind_some, plan_s]
    by_cases h1 : M.2 9 i = 0
    · rw [if_pos h1, l14, Option.bind_some]
      by_cases h2 : M.2 14 i = x
      · rw [if_pos h2, hJ, if_pos (by simp [opB, h1, h2])]
        exact iht
      · rw [if_neg h2, Option.bind_some]
        by_cases h3 : M.2 14 i = y
        · rw [if_pos h3, hJ, if_pos (by simp [opB, h1, h3])]
          exact iht
        · rw [if_neg h3, nI_s, if_neg (by simp [opB, h2, h3])]
          exact ihf
    · rw [if_neg h1, nI_s, if_neg (by simp [opB, h1])]
      exact ihf
theorem m_failsWith {M : St} {np nn nr : Nat} (hp : M.1 2 = nI np) (hpp : np ≤ 12) (hn : M.1 3 = nI nn) (hnn : nn ≤ 20) (hix : ∀ k, k < nn → ∃ a b, a < np ∧ b < np ∧ M.2 1 k = nI a ∧ M.2 2 k = nI b) (hr : M.1 6 = nI nr) (hrr : nr ≤ 40) (hpk : ∀ k, k < nr → ∃ p, p < np ∧ M.2 10 k = nI p) (x y : Int32) (w : Nat → Int32) :
    ∃ w', f7_failsWith (scr M w) x y = some (scr M w', nI (fcn M nn nr (fun k => opB M k && (decide (M.2 14 k = x) || decide (M.2 14 k = y))))) := by
  have hix' : ∀ k, k < nn → ∃ a b, a < 12 ∧ b < 12 ∧ M.2 1 k = nI a ∧ M.2 2 k = nI b := fun k hk => by
    obtain ⟨a, b, h1, h2, h3⟩ := hix k hk
    exact ⟨a, b, by omega, by omega, h3⟩
  have hpk' : ∀ k, k < nr → ∃ p, p < 12 ∧ M.2 10 k = nI p := fun k hk => by
    obtain ⟨a, h1, h3⟩ := hpk k hk
    exact ⟨a, by omega, h3⟩
  obtain ⟨w0, h0, h1⟩ := m_asNow hp hpp w
  have hc : cnt (vio (plan (fun k => opB M k && (decide (M.2 14 k = x) || decide (M.2 14 k = y))) (M.2 10) (M.2 11) w0 0 nr) (M.2 1) (M.2 2) (M.2 3) (M.2 4)) 0 nn = fcn M nn nr (fun k => opB M k && (decide (M.2 14 k = x) || decide (M.2 14 k = y))) := by
    unfold fcn
    refine cnt_congr fun k _ hk => ?_
    obtain ⟨a, b, ha, hb, e1, e2⟩ := hix k (by omega)
    exact vio_agree ha hb (by omega) e1 e2 (fun p hp2 => plan_agree (np := np) h1 p hp2)
  refine ⟨plan (fun k => opB M k && (decide (M.2 14 k = x) || decide (M.2 14 k = y))) (M.2 10) (M.2 11) w0 0 nr, ?_⟩
  unfold f7_failsWith
  rw [h0, Option.bind_some, ← hc]
  exact m_fw_L (np := np) hn hnn hix' hr hrr hpk' x y nr 0 2000 w0 (by omega) (by omega)
theorem m_sizeOf_L {M : St} {nr : Nat} (hr : M.1 6 = nI nr) (hrr : nr ≤ 40) (g : Int32) :
    ∀ (m i a n : Nat), i + m = nr → m < n → f7_sizeOf_L4 n g (nI a) (nI i) M = some (M, nI (a + cnt (fun k => opB M k && decide (M.2 14 k = g)) i m)) := by
  intro m
  induction m with
  | zero =>
    intro i a n hi hm
    obtain ⟨n, rfl⟩ : ∃ q, n = q + 1 := ⟨n - 1, by omega⟩
    show f7_sizeOf_L4b (f7_sizeOf_L4 n) g (nI a) (nI i) M = _
    unfold f7_sizeOf_L4b
    rw [hr, if_pos (le_ok (by omega) (by omega)), cnt_0]
    rfl
  | succ m ih =>
    intro i a n hi hm
    obtain ⟨n, rfl⟩ : ∃ q, n = q + 1 := ⟨n - 1, by omega⟩
    show f7_sizeOf_L4b (f7_sizeOf_L4 n) g (nI a) (nI i) M = _
    have l9 : ldA M 9 40 (nI i) = some (M.2 9 i) := ldA_ok (by omega) (by omega)
    have l14 : ldA M 14 40 (nI i) = some (M.2 14 i) := ldA_ok (by omega) (by omega)
    unfold f7_sizeOf_L4b
    rw [hr, if_neg (le_no (by omega) (by omega)), l9, Option.bind_some, cnt_s, nI_s, nI_s, nI_z]
    have ih1 := ih (i + 1) (a + 1) n (by omega) (by omega)
    have ih0 := ih (i + 1) a n (by omega) (by omega)
    by_cases h1 : M.2 9 i = 0
    · rw [if_pos h1, l14, Option.bind_some]
      by_cases h2 : M.2 14 i = g
      · rw [if_pos h2, ih1, if_pos (by simp [opB, h1, h2]), Nat.add_assoc]
      · rw [if_neg h2, ih0, if_neg (by simp [opB, h2]), Nat.zero_add]
    · rw [if_neg h1, ih0, if_neg (by simp [opB, h1]), Nat.zero_add]
theorem m_sizeOf {M : St} {nr : Nat} (hr : M.1 6 = nI nr) (hrr : nr ≤ 40) (g : Int32) : f7_sizeOf M g = some (M, nI (cnt (fun k => opB M k && decide (M.2 14 k = g)) 0 nr)) := by
  have h := m_sizeOf_L hr hrr g nr 0 0 2000 (by omega) (by omega)
  rw [Nat.zero_add] at h
  exact h
theorem m_loadOf_L {M : St} {nr : Nat} (hr : M.1 6 = nI nr) (hrr : nr ≤ 40) (g o : Int32) :
    ∀ (m i a n : Nat), i + m = nr → m < n → f7_loadOf_L5 n g o (nI a) (nI i) M = some (M, nI (a + cnt (fun k => (!decide (nI k = o)) && (opB M k && decide (M.2 15 k = g))) i m)) := by
  intro m
  induction m with
  | zero =>
    intro i a n hi hm
    obtain ⟨n, rfl⟩ : ∃ q, n = q + 1 := ⟨n - 1, by omega⟩
    show f7_loadOf_L5b (f7_loadOf_L5 n) g o (nI a) (nI i) M = _
    unfold f7_loadOf_L5b
    rw [hr, if_pos (le_ok (by omega) (by omega)), cnt_0]
    rfl
  | succ m ih =>
    intro i a n hi hm
    obtain ⟨n, rfl⟩ : ∃ q, n = q + 1 := ⟨n - 1, by omega⟩
    show f7_loadOf_L5b (f7_loadOf_L5 n) g o (nI a) (nI i) M = _
    have l9 : ldA M 9 40 (nI i) = some (M.2 9 i) := ldA_ok (by omega) (by omega)
    have l15 : ldA M 15 40 (nI i) = some (M.2 15 i) := ldA_ok (by omega) (by omega)
    unfold f7_loadOf_L5b
    rw [hr, if_neg (le_no (by omega) (by omega)), l9, Option.bind_some, cnt_s, nI_s, nI_s, nI_z]
    have ih1 := ih (i + 1) (a + 1) n (by omega) (by omega)
    have ih0 := ih (i + 1) a n (by omega) (by omega)
    by_cases h0 : nI i = o
    · rw [if_pos h0, ih0, if_neg (by simp [h0]), Nat.zero_add]
    · rw [if_neg h0]
      by_cases h1 : M.2 9 i = 0
      · rw [if_pos h1, l15, Option.bind_some]
        by_cases h2 : M.2 15 i = g
        · rw [if_pos h2, ih1, if_pos (by simp [opB, h0, h1, h2]), Nat.add_assoc]
        · rw [if_neg h2, ih0, if_neg (by simp [opB, h2]), Nat.zero_add]
      · rw [if_neg h1, ih0, if_neg (by simp [opB, h1]), Nat.zero_add]
theorem m_loadOf {M : St} {nr : Nat} (hr : M.1 6 = nI nr) (hrr : nr ≤ 40) (g o : Int32) : f7_loadOf M g o = some (M, nI (cnt (fun k => (!decide (nI k = o)) && (opB M k && decide (M.2 15 k = g))) 0 nr)) := by
  have h := m_loadOf_L hr hrr g o nr 0 0 2000 (by omega) (by omega)
  rw [Nat.zero_add] at h
  exact h
theorem m_open_L {M : St} {nr : Nat} (hr : M.1 6 = nI nr) (hrr : nr ≤ 40) :
    ∀ (m i a n : Nat), i + m = nr → m < n → f7_open_L4 n (nI a) (nI i) M = some (M, nI (a + cnt (opB M) i m)) := by
  intro m
  induction m with
  | zero =>
    intro i a n hi hm
    obtain ⟨n, rfl⟩ : ∃ q, n = q + 1 := ⟨n - 1, by omega⟩
    show f7_open_L4b (f7_open_L4 n) (nI a) (nI i) M = _
    unfold f7_open_L4b
    rw [hr, if_pos (le_ok (by omega) (by omega)), cnt_0]
    rfl
  | succ m ih =>
    intro i a n hi hm
    obtain ⟨n, rfl⟩ : ∃ q, n = q + 1 := ⟨n - 1, by omega⟩
    show f7_open_L4b (f7_open_L4 n) (nI a) (nI i) M = _
    have l9 : ldA M 9 40 (nI i) = some (M.2 9 i) := ldA_ok (by omega) (by omega)
    unfold f7_open_L4b
    rw [hr, if_neg (le_no (by omega) (by omega)), l9, Option.bind_some, cnt_s, nI_s, nI_s, nI_z]
    have ih1 := ih (i + 1) (a + 1) n (by omega) (by omega)
    have ih0 := ih (i + 1) a n (by omega) (by omega)
    by_cases h1 : M.2 9 i = 0
    · rw [if_pos h1, ih1, if_pos (by simp [opB, h1]), Nat.add_assoc]
    · rw [if_neg h1, ih0, if_neg (by simp [opB, h1]), Nat.zero_add]
theorem m_open {M : St} {nr : Nat} (hr : M.1 6 = nI nr) (hrr : nr ≤ 40) : f7_open M = some (M, nI (cnt (opB M) 0 nr)) := by
  have h := m_open_L hr hrr nr 0 0 2000 (by omega) (by omega)
  rw [Nat.zero_add] at h
  exact h
theorem m_has_L {M : St} {e : Nat} (he : e ≤ 40) (who own wo : Int32) :
    ∀ (m i n : Nat) (b : Bool), i + m = e → m < n → f7_has_L6 n who own wo (nI e) (bI b) (nI i) M = some (M, bI (b || exi (fun k => (!decide (nI k = wo)) && (opB M k && (decide (M.2 14 k = own) && decide (M.2 15 k = who)))) i m)) := by
  intro m
  induction m with
  | zero =>
    intro i n b hi hm
    obtain ⟨n, rfl⟩ : ∃ q, n = q + 1 := ⟨n - 1, by omega⟩
    show f7_has_L6b (f7_has_L6 n) who own wo (nI e) (bI b) (nI i) M = _
    unfold f7_has_L6b
    rw [if_pos (le_ok (by omega) (by omega)), exi_0, Bool.or_false, bz_ok (bI_01 b)]
    rfl
  | succ m ih =>
    intro i n b hi hm
    obtain ⟨n, rfl⟩ : ∃ q, n = q + 1 := ⟨n - 1, by omega⟩
    show f7_has_L6b (f7_has_L6 n) who own wo (nI e) (bI b) (nI i) M = _
    have l9 : ldA M 9 40 (nI i) = some (M.2 9 i) := ldA_ok (by omega) (by omega)
    have l14 : ldA M 14 40 (nI i) = some (M.2 14 i) := ldA_ok (by omega) (by omega)
    have l15 : ldA M 15 40 (nI i) = some (M.2 15 i) := ldA_ok (by omega) (by omega)
    have ih1 : f7_has_L6 n who own wo (nI e) 1 (nI (i + 1)) M = _ := ih (i + 1) n true (by omega) (by omega)
    have ih0 : f7_has_L6 n who own wo (nI e) 0 (nI (i + 1)) M = _ := ih (i + 1) n false (by omega) (by omega)
    unfold f7_has_L6b
    rw [if_neg (le_no (by omega) (by omega)), exi_s, nI_s]
    cases b with
    | true =>
      rw [if_neg (by decide), ih1]
      simp
    | false =>
      rw [if_pos bI_f]
      by_cases h0 : nI i = wo
      · rw [if_pos h0, ih0]
        simp [h0]
      · rw [if_neg h0, l9, Option.bind_some]
        by_cases h1 : M.2 9 i = 0
        · rw [if_pos h1, l14, Option.bind_some]
          by_cases h2 : M.2 14 i = own
          · rw [if_pos h2, l15, Option.bind_some]
            by_cases h3 : M.2 15 i = who
            · rw [if_pos h3, ih1]
              simp [opB, h0, h1, h2, h3]
            · rw [if_neg h3, ih0]
              simp [opB, h0, h1, h2, h3]
          · rw [if_neg h2, ih0]
            simp [opB, h0, h1, h2]
        · rw [if_neg h1, ih0]
          simp [opB, h0, h1]
theorem m_has {M : St} {e : Nat} (he : e ≤ 40) (who own wo : Int32) : f7_has M who own wo (nI e) = some (M, bI (exi (fun k => (!decide (nI k = wo)) && (opB M k && (decide (M.2 14 k = own) && decide (M.2 15 k = who)))) 0 e)) :=
  m_has_L he who own wo e 0 2000 false (by omega) (by omega)
