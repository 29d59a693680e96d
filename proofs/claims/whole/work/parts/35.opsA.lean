/-! landing, first part: the model's loops -/
def bl (x : Int64) (i : Nat) : Bool := x.toBitVec.getLsbD i
theorem bl_or (x y : Int64) (i : Nat) : bl (x ||| y) i = (bl x i || bl y i) := by unfold bl; rw [Int64.toBitVec_or, BitVec.getLsbD_or]
theorem bl_and (x y : Int64) (i : Nat) : bl (x &&& y) i = (bl x i && bl y i) := by unfold bl; rw [Int64.toBitVec_and, BitVec.getLsbD_and]
theorem bl_1 : ∀ i, i < 64 → bl 1 i = decide (i = 0) := by decide +kernel
theorem bl_0 (i : Nat) : bl 0 i = false := BitVec.getLsbD_zero
theorem bl_ext {x y : Int64} (h : ∀ i, i < 64 → bl x i = bl y i) : x = y := Int64.toBitVec_inj.mp (BitVec.eq_of_getLsbD_eq (fun i hi => h i hi))
theorem sl_l : ∀ n, n < 40 → (((nI n).toInt64 &&& 63).toBitVec.smod 64).toNat = n := by decide +kernel
theorem bl_pw {n : Nat} (hn : n < 40) {i : Nat} (hi : i < 40) : bl ((1 : Int64) <<< ((nI n).toInt64 &&& 63)) i = decide (i = n) := by
  unfold bl
  rw [Int64.toBitVec_shiftLeft]
  show ((1 : Int64).toBitVec <<< (((nI n).toInt64 &&& 63).toBitVec.smod 64).toNat).getLsbD i = _
  rw [sl_l n hn, BitVec.getLsbD_shiftLeft]
  have h1 := bl_1 (i - n) (by omega)
  unfold bl at h1
  rw [h1]
  by_cases h : i = n
  · subst h
    simp; omega
  · rcases Nat.lt_or_ge i n with q | q
    · simp [q, h]
    · have : ¬ i - n = 0 := by omega
      simp [this, h]
theorem bl_in {x : Int64} {i : Nat} (hi : i < 40) : (lg_cmp ((x >>> ((nI i).toInt64 &&& 63)) &&& 1) 1 = 0) ↔ bl x i = true := by
  rw [lg_cmp_eq]
  have hs : ∀ j, j < 64 → bl (x >>> ((nI i).toInt64 &&& 63)) 0 = bl x i := fun j hj => by
    unfold bl
    rw [Int64.toBitVec_shiftRight]
    show (x.toBitVec.sshiftRight (((nI i).toInt64 &&& 63).toBitVec.smod 64).toNat).getLsbD 0 = _
    rw [sl_l i hi, BitVec.getLsbD_sshiftRight]
    simp; omega
  constructor
  · intro h
    have h1 : bl ((x >>> ((nI i).toInt64 &&& 63)) &&& 1) 0 = true := by rw [h]; decide +kernel
    rw [bl_and, hs 0 (by omega), bl_1 0 (by omega)] at h1
    simpa using h1
  · intro h
    refine bl_ext fun j hj => ?_
    rw [bl_and, bl_1 j hj]
    by_cases hj0 : j = 0
    · subst hj0
      rw [hs 0 (by omega), h]
      rfl
    · simp [hj0]
/-- who is in a group -/
def inG (M : St) (old : Int32) (k : Nat) : Bool := opB M k && decide (M.2 14 k = old)
theorem inG_t {M : St} {old : Int32} {k : Nat} : inG M old k = true ↔ M.2 9 k = 0 ∧ M.2 14 k = old := by
  unfold inG opB
  rw [Bool.and_eq_true, decide_eq_true_eq, decide_eq_true_eq]
theorem m_274n {S : St} {nr : Nat} (hr : S.1 6 = nI nr) (hrr : nr ≤ 40) (many : Int32) (v6 : Int64) (h0 : ∀ k, k < nr → bl v6 k = false) :
    ∀ (m i n : Nat), i + m = nr → m < n → f7_land_L274 n many v6 (nI i) S = some (S, many) := by
  intro m
  induction m with
  | zero =>
    intro i n hi hm
    obtain ⟨n, rfl⟩ : ∃ q, n = q + 1 := ⟨n - 1, by omega⟩
    show f7_land_L274b (f7_land_L274 n) many v6 (nI i) S = _
    unfold f7_land_L274b
    rw [hr, if_pos (le_ok (by omega) (by omega))]
  | succ m ih =>
    intro i n hi hm
    obtain ⟨n, rfl⟩ : ∃ q, n = q + 1 := ⟨n - 1, by omega⟩
    show f7_land_L274b (f7_land_L274 n) many v6 (nI i) S = _
    unfold f7_land_L274b
    rw [hr, if_neg (le_no (by omega) (by omega)), if_neg (fun z => absurd ((bl_in (by omega)).mp z) (by rw [h0 i (by omega)]; decide)), nI_s]
    exact ih (i + 1) n (by omega) (by omega)
theorem m_220 {S : St} {nr : Nat} (hrr : nr ≤ 40) (old many : Int32) :
    ∀ (m n : Nat) (v6 : Int64) (g : Nat → Int32), m ≤ nr → m < n → ∃ v6' g', f7_land_L220 n old many v6 (nI m - 1) (gM S g) = f7_land_L274 2000 many v6' 0 (gM S g') ∧
      (∀ k, g' k = if k < m ∧ S.2 9 k = 0 ∧ g k = old then nI k else g k) ∧ ∀ k, k < 40 → bl v6' k = (bl v6 k || (decide (k < m) && (decide (S.2 9 k = 0) && decide (g k = old)))) := by
  intro m
  induction m with
  | zero =>
    intro n v6 g _ hm
    obtain ⟨n, rfl⟩ : ∃ q, n = q + 1 := ⟨n - 1, by omega⟩
    refine ⟨v6, g, ?_, fun k => by rw [if_neg (fun q => by omega)], fun k _ => by simp⟩
    show f7_land_L220b (f7_land_L220 n) old many v6 (nI 0 - 1) (gM S g) = _
    unfold f7_land_L220b
    rw [nI_d0, if_pos (by decide)]
  | succ m ih =>
    intro n v6 g hmn hm
    obtain ⟨n, rfl⟩ : ∃ q, n = q + 1 := ⟨n - 1, by omega⟩
    have l9 : ldA (gM S g) 9 40 (nI m) = some (S.2 9 m) := ldA_ok (by omega) (by omega)
    have l14 : ldA (gM S g) 14 40 (nI m) = some (g m) := ldA_ok (by omega) (by omega)
    have s14 : stA (gM S g) 14 40 (nI m) (nI m) = some (gM S (upd g m (nI m))) := by rw [stA_ok (by omega) (by omega), gM_st]
    by_cases hc : S.2 9 m = 0 ∧ g m = old
    · obtain ⟨v6', g', r1, r2, r3⟩ := ih n (v6 ||| ((1 : Int64) <<< ((nI m).toInt64 &&& 63))) (upd g m (nI m)) (by omega) (by omega)
      refine ⟨v6', g', ?_, fun k => ?_, fun k hk => ?_⟩
      · show f7_land_L220b (f7_land_L220 n) old many v6 (nI (m + 1) - 1) (gM S g) = _
        unfold f7_land_L220b
        rw [nI_pred, if_neg (nI_neg (by omega)), l9, Option.bind_some, if_pos hc.1, l14, Option.bind_some, if_pos hc.2, s14, Option.bind_some, nI_dm]
        exact r1
      · rw [r2 k]
        by_cases hk : k = m
        · subst hk
          rw [if_neg (fun q => by omega), upd_at, if_pos ⟨by omega, hc⟩]
        · rw [upd_ne _ _ hk]
          by_cases h1 : k < m ∧ S.2 9 k = 0 ∧ g k = old
          · rw [if_pos h1, if_pos ⟨by omega, h1.2⟩]
          · rw [if_neg h1, if_neg (fun q => h1 ⟨by omega, q.2⟩)]
      · rw [r3 k hk, bl_or, bl_pw (by omega) hk]
        by_cases hkm : k = m
        · subst hkm
          simp [hc.1, hc.2]
        · rw [upd_ne _ _ hkm]
          have : decide (k < m + 1) = decide (k < m) := by
            by_cases z : k < m
            · simp [z]; omega
            · simp [z]; omega
          simp [hkm, this]
    · obtain ⟨v6', g', r1, r2, r3⟩ := ih n v6 g (by omega) (by omega)
      refine ⟨v6', g', ?_, fun k => ?_, fun k hk => ?_⟩
      · show f7_land_L220b (f7_land_L220 n) old many v6 (nI (m + 1) - 1) (gM S g) = _
        unfold f7_land_L220b
        rw [nI_pred, if_neg (nI_neg (by omega)), l9, Option.bind_some, nI_dm]
        by_cases h9 : S.2 9 m = 0
        · rw [if_pos h9, l14, Option.bind_some, if_neg (fun z => hc ⟨h9, z⟩)]
          exact r1
        · rw [if_neg h9]
          exact r1
      · rw [r2 k]
        by_cases hk : k = m
        · subst hk
          rw [if_neg (fun q => by omega), if_neg (fun q => hc q.2)]
        · by_cases h1 : k < m ∧ S.2 9 k = 0 ∧ g k = old
          · rw [if_pos h1, if_pos ⟨by omega, h1.2⟩]
          · rw [if_neg h1, if_neg (fun q => h1 ⟨by omega, q.2⟩)]
      · rw [r3 k hk]
        by_cases hkm : k = m
        · subst hkm
          have : (decide (S.2 9 k = 0) && decide (g k = old)) = false := by
            rw [Bool.and_eq_false_iff, decide_eq_false_iff_not, decide_eq_false_iff_not]
            by_cases z : S.2 9 k = 0
            · exact Or.inr fun z2 => hc ⟨z, z2⟩
            · exact Or.inl z
          rw [this]
          simp
        · have : decide (k < m + 1) = decide (k < m) := by
            by_cases z : k < m
            · simp [z]; omega
            · simp [z]; omega
          rw [this]
/-- nobody of the group is left: nothing comes behind -/
theorem m_220n {S : St} {nr : Nat} (hr : S.1 6 = nI nr) (hrr : nr ≤ 40) (old many : Int32) (hno : ∀ k, k < nr → ¬ (S.2 9 k = 0 ∧ S.2 14 k = old)) : f7_land_L220 2000 old many 0 (nI nr - 1) S = some (S, many) := by
  obtain ⟨v6', g', r1, r2, r3⟩ := m_220 (S := S) hrr old many nr 2000 0 (S.2 14) (Nat.le_refl _) (by omega)
  rw [gM_self] at r1
  have hg : g' = S.2 14 := funext fun k => by
    rw [r2 k, if_neg (fun q => hno k q.1 q.2)]
  rw [hg, gM_self] at r1
  rw [r1]
  refine m_274n hr hrr many v6' (fun k hk => ?_) nr 0 2000 (by omega) (by omega)
  rw [r3 k (by omega), bl_0]
  have : (decide (S.2 9 k = 0) && decide (S.2 14 k = old)) = false := by
    rw [Bool.and_eq_false_iff, decide_eq_false_iff_not, decide_eq_false_iff_not]
    by_cases z : S.2 9 k = 0
    · exact Or.inr fun z2 => hno k hk ⟨z, z2⟩
    · exact Or.inl z
  rw [this]
  simp
/-- the loop over all raises, whatever a step does to one of the group -/
theorem m_l69 {M : St} {nr : Nat} (hr : M.1 6 = nI nr) (hrr : nr ≤ 40) (v2 old many : Int32) (stp : Nat → St → St)
    (hst : ∀ (k : Nat) (S : St) (k69 : Int32 → Int32 → Int32 → Int32 → St → Option (St × Int32)), k < nr → S.1 = M.1 → S.2 10 = M.2 10 → S.2 11 = M.2 11 → S.2 9 k = 0 → S.2 14 k = old → f7_land_L69b k69 v2 old many (nI k) S = k69 v2 old many (nI (k + 1)) (stp k S))
    (hk : ∀ (k : Nat) (S : St), (stp k S).1 = S.1 ∧ (stp k S).2 10 = S.2 10 ∧ (stp k S).2 11 = S.2 11 ∧ (stp k S).2 14 = S.2 14 ∧ ∀ q, q ≠ k → (stp k S).2 9 q = S.2 9 q) :
    ∀ (m i n : Nat) (S : St), i + m = nr → m < n → S.1 = M.1 → S.2 10 = M.2 10 → S.2 11 = M.2 11 → S.2 14 = M.2 14 → (∀ k, i ≤ k → S.2 9 k = M.2 9 k) →
      f7_land_L69 n v2 old many (nI i) S = f7_land_L220 2000 old many 0 (nI nr - 1) (fld (fun S k => if inG M old k = true then stp k S else S) S i m) := by
  intro m
  induction m with
  | zero =>
    intro i n S hi hm h1 h10 h11 h14 h9
    obtain ⟨n, rfl⟩ : ∃ q, n = q + 1 := ⟨n - 1, by omega⟩
    show f7_land_L69b (f7_land_L69 n) v2 old many (nI i) S = _
    unfold f7_land_L69b
    rw [h1, hr, if_pos (le_ok (by omega) (by omega))]
    rfl
  | succ m ih =>
    intro i n S hi hm h1 h10 h11 h14 h9
    obtain ⟨n, rfl⟩ : ∃ q, n = q + 1 := ⟨n - 1, by omega⟩
    rw [fld_s]
    by_cases hc : inG M old i = true
    · rw [if_pos hc]
      obtain ⟨c1, c2⟩ := inG_t.mp hc
      show f7_land_L69b (f7_land_L69 n) v2 old many (nI i) S = _
      rw [hst i S _ (by omega) h1 h10 h11 (by rw [h9 i (Nat.le_refl _)]; exact c1) (by rw [h14]; exact c2)]
      obtain ⟨k1, k2, k3, k4, k5⟩ := hk i S
      exact ih (i + 1) n _ (by omega) (by omega) (k1.trans h1) (k2.trans h10) (k3.trans h11) (k4.trans h14) (fun q hq => by rw [k5 q (by omega)]; exact h9 q (by omega))
    · rw [if_neg hc]
      have l9 : ldA S 9 40 (nI i) = some (M.2 9 i) := by rw [ldA_ok (by omega) (by omega), h9 i (Nat.le_refl _)]
      have l14 : ldA S 14 40 (nI i) = some (M.2 14 i) := by rw [ldA_ok (by omega) (by omega), h14]
      refine Eq.trans ?_ (ih (i + 1) n S (by omega) (by omega) h1 h10 h11 h14 (fun q hq => h9 q (by omega)))
      show f7_land_L69b (f7_land_L69 n) v2 old many (nI i) S = _
      unfold f7_land_L69b
      rw [h1, hr, if_neg (le_no (by omega) (by omega)), l9, Option.bind_some]
      by_cases z : M.2 9 i = 0
      · have z2 : ¬ M.2 14 i = old := fun z2 => hc (inG_t.mpr ⟨z, z2⟩)
        rw [if_pos z, l14, Option.bind_some, if_neg z2]
        unfold f7_land_J134
        rw [l9, Option.bind_some, if_pos z, l14, Option.bind_some, if_neg z2]
        unfold f7_land_J173
        rw [l9, Option.bind_some, if_pos z, l14, Option.bind_some, if_neg z2, nI_s]
      · rw [if_neg z]
        unfold f7_land_J134
        rw [l9, Option.bind_some, if_neg z]
        unfold f7_land_J173
        rw [l9, Option.bind_some, if_neg z, nI_s]
/-- what a fold of single changes leaves -/
theorem fld_upd {P : Nat → Bool} {t : Nat → Int32} : ∀ (m i : Nat) (s : Nat → Int32) (k : Nat), fld (fun s k => if P k = true then upd s k (t k) else s) s i m k = if i ≤ k ∧ k < i + m ∧ P k = true then t k else s k
  | 0, i, s, k => by
    rw [fld_0, if_neg (fun q => by omega)]
  | m + 1, i, s, k => by
    rw [fld_s, fld_upd m (i + 1)]
    by_cases h1 : i + 1 ≤ k ∧ k < i + 1 + m ∧ P k = true
    · rw [if_pos h1, if_pos ⟨by omega, by omega, h1.2.2⟩]
    · rw [if_neg h1]
      by_cases hP : P i = true
      · rw [if_pos hP]
        by_cases hk : k = i
        · subst hk
          rw [upd_at, if_pos ⟨Nat.le_refl _, by omega, hP⟩]
        · rw [upd_ne _ _ hk, if_neg (fun q => h1 ⟨by omega, by omega, q.2.2⟩)]
      · rw [if_neg hP]
        by_cases hk : k = i
        · subst hk
          rw [if_neg (fun q => hP q.2.2)]
        · rw [if_neg (fun q => h1 ⟨by omega, by omega, q.2.2⟩)]
/-- the model's state with other versions, states, approvals -/
def lS (M : St) (f s a : Nat → Int32) : St := (M.1, fun q => if q = 0 then f else if q = 9 then s else if q = 16 then a else M.2 q)
theorem lS_self (M : St) : lS M (M.2 0) (M.2 9) (M.2 16) = M := by
  unfold lS
  refine Prod.ext rfl (funext fun q => ?_)
  by_cases h : q = 0
  · subst h; rfl
  · by_cases h9 : q = 9
    · subst h9; rfl
    · by_cases h16 : q = 16
      · subst h16; rfl
      · simp [h, h9, h16]
theorem lS_0 (M : St) (f s a : Nat → Int32) (j : Nat) (v : Int32) : stS (lS M f s a) 0 j v = lS M (upd f j v) s a := by
  unfold lS stS
  refine Prod.ext rfl (funext fun q => ?_)
  by_cases h : q = 0
  · subst h; rfl
  · simp [h]
theorem lS_9 (M : St) (f s a : Nat → Int32) (j : Nat) (v : Int32) : stS (lS M f s a) 9 j v = lS M f (upd s j v) a := by
  unfold lS stS
  refine Prod.ext rfl (funext fun q => ?_)
  by_cases h : q = 9
  · subst h; rfl
  · simp [h]
theorem lS_16 (M : St) (f s a : Nat → Int32) (j : Nat) (v : Int32) : stS (lS M f s a) 16 j v = lS M f s (upd a j v) := by
  unfold lS stS
  refine Prod.ext rfl (funext fun q => ?_)
  by_cases h : q = 16
  · subst h; rfl
  · simp [h]
theorem fld_map {α β : Type} (F : α → β) {f : α → Nat → α} {g : β → Nat → β} (h : ∀ a k, g (F a) k = F (f a k)) : ∀ (m i : Nat) (a : α), fld g (F a) i m = F (fld f a i m)
  | 0, _, _ => rfl
  | m + 1, i, a => by
    rw [fld_s, fld_s, h, fld_map F h m (i + 1)]
theorem fld_pair {α β : Type} {f : α → Nat → α} {g : β → Nat → β} : ∀ (m i : Nat) (a : α) (b : β), fld (fun (q : α × β) k => (f q.1 k, g q.2 k)) (a, b) i m = (fld f a i m, fld g b i m)
  | 0, _, _, _ => rfl
  | m + 1, i, a, b => by
    rw [fld_s, fld_s, fld_s, fld_pair m (i + 1)]
