/-! pure rows: bits, array operations, counts -/
/-! ===== Int32 by its bits: bt x i (kit/laws/BITS.to-paste) ===== -/
def bt (x : Int32) (i : Nat) : Bool := x.toBitVec.getLsbD i
theorem b_ext {x y : Int32} (h : ∀ i, i < 32 → bt x i = bt y i) : x = y := Int32.toBitVec_inj.mp (BitVec.eq_of_getLsbD_eq (fun i hi => h i hi))
theorem b_or (x y : Int32) (i : Nat) : bt (x ||| y) i = (bt x i || bt y i) := by unfold bt; rw [Int32.toBitVec_or, BitVec.getLsbD_or]
theorem b_and (x y : Int32) (i : Nat) : bt (x &&& y) i = (bt x i && bt y i) := by unfold bt; rw [Int32.toBitVec_and, BitVec.getLsbD_and]
theorem b_xor (x y : Int32) (i : Nat) : bt (x ^^^ y) i = (bt x i ^^ bt y i) := by unfold bt; rw [Int32.toBitVec_xor, BitVec.getLsbD_xor]
theorem b_big {x : Int32} {i : Nat} (h : 32 ≤ i) : bt x i = false := BitVec.getLsbD_of_ge _ _ h
theorem b_m1 : ∀ i, i < 32 → bt (-1) i = true := by decide +kernel
theorem b_1 : ∀ i, i < 32 → bt 1 i = decide (i = 0) := by decide +kernel
theorem b_0 (i : Nat) : bt 0 i = false := BitVec.getLsbD_zero
theorem s_l : ∀ n, n < 32 → ((nI n &&& 31).toBitVec.smod 32).toNat = n := by decide +kernel
theorem b_shl (n : Nat) (hn : n < 32) (x : Int32) {i : Nat} (hi : i < 32) : bt (x <<< (nI n &&& 31)) i = (decide (n ≤ i) && bt x (i - n)) := by
  unfold bt
  rw [Int32.toBitVec_shiftLeft]
  show (x.toBitVec <<< ((nI n &&& 31).toBitVec.smod 32).toNat).getLsbD i = _
  rw [s_l n hn, BitVec.getLsbD_shiftLeft]
  rcases Nat.lt_or_ge i n with h | h
  · simp [h, Nat.not_le.mpr h]
  · simp [hi, h, Nat.not_lt.mpr h]
theorem b_sshr (n : Nat) (hn : n < 32) (x : Int32) {i : Nat} (hi : i < 32) : bt (x >>> (nI n &&& 31)) i = if n + i < 32 then bt x (n + i) else bt x 31 := by
  unfold bt
  rw [Int32.toBitVec_shiftRight]
  show (x.toBitVec.sshiftRight ((nI n &&& 31).toBitVec.smod 32).toNat).getLsbD i = _
  rw [s_l n hn, BitVec.getLsbD_sshiftRight, BitVec.msb_eq_getLsbD_last]
  simp [hi]
/-! ===== END ===== -/
theorem b_pw (n : Nat) (hn : n < 32) {i : Nat} (hi : i < 32) : bt ((1 : Int32) <<< (nI n &&& 31)) i = decide (i = n) := by
  rw [b_shl n hn 1 hi]
  by_cases h : n ≤ i
  · rw [b_1 (i - n) (by omega)]
    by_cases h2 : i = n
    · subst h2; simp
    · have h3 : i - n ≠ 0 := by omega
      simp [h, h2, h3]
  · have h2 : i ≠ n := by omega
    simp [h, h2]
theorem b_in {x : Int32} {i : Nat} (hi : i < 32) : ((x >>> (nI i &&& 31)) &&& 1 = 0) ↔ bt x i = false := by
  constructor
  · intro h
    have h1 : bt ((x >>> (nI i &&& 31)) &&& 1) 0 = false := by rw [h, b_0]
    rw [b_and, b_1 0 (by omega), b_sshr i hi x (by omega)] at h1
    simpa [hi] using h1
  · intro h
    refine b_ext fun j hj => ?_
    rw [b_and, b_1 j hj, b_0]
    by_cases hj0 : j = 0
    · subst hj0
      rw [b_sshr i hi x (by omega)]
      simp [hi, h]
    · simp [hj0]
theorem b_in1 {x : Int32} {i : Nat} (hi : i < 32) : ((x >>> (nI i &&& 31)) &&& 1 = 1) ↔ bt x i = true := by
  constructor
  · intro h
    have h1 : bt ((x >>> (nI i &&& 31)) &&& 1) 0 = true := by rw [h, b_1 0 (by omega)]; rfl
    rw [b_and, b_1 0 (by omega), b_sshr i hi x (by omega)] at h1
    simpa [hi] using h1
  · intro h
    refine b_ext fun j hj => ?_
    rw [b_and, b_1 j hj]
    by_cases hj0 : j = 0
    · subst hj0
      rw [b_sshr i hi x (by omega)]
      simp [hi, h]
    · simp [hj0]
/-! ===== operations at a number ===== -/
def tn (x : Int32) : Nat := x.toNatClampNeg
theorem tn_nI {n : Nat} (h : n < 2 ^ 31) : tn (nI n) = n := nI_clamp h
def stS (S : St) (k j : Nat) (v : Int32) : St := (S.1, fun q => if q = k then upd (S.2 k) j v else S.2 q)
theorem stS_1 (S : St) (k j : Nat) (v : Int32) : (stS S k j v).1 = S.1 := rfl
theorem stS_s (S : St) (k j : Nat) (v : Int32) : (stS S k j v).2 k = upd (S.2 k) j v := if_pos rfl
theorem stS_n (S : St) {k q : Nat} (j : Nat) (v : Int32) (h : q ≠ k) : (stS S k j v).2 q = S.2 q := if_neg h
theorem sF_s (S : St) (k : Nat) (v : Int32) : (sF S k v).1 k = v := if_pos rfl
theorem sF_n (S : St) {k q : Nat} (v : Int32) (h : q ≠ k) : (sF S k v).1 q = S.1 q := if_neg h
theorem sF_2 (S : St) (k : Nat) (v : Int32) : (sF S k v).2 = S.2 := rfl
theorem ix_ok {n j : Nat} (h : j < n) (hn : n < 2 ^ 31) : ¬ (nI j < 0 ∨ n ≤ (nI j).toNatClampNeg) := vp_in_nI h hn
theorem ldA_ok {S : St} {k n j : Nat} (h : j < n) (hn : n < 2 ^ 31) : ldA S k n (nI j) = some (S.2 k j) := by
  unfold ldA
  rw [if_neg (ix_ok h hn), nI_clamp (by omega)]
theorem stA_ok {S : St} {k n j : Nat} {v : Int32} (h : j < n) (hn : n < 2 ^ 31) : stA S k n (nI j) v = some (stS S k j v) := by
  unfold stA sA stS
  rw [if_neg (ix_ok h hn), nI_clamp (by omega)]
theorem nar0 : vp_nar .boolean 0 = 0 := by decide +kernel
theorem nar1 : vp_nar .boolean 1 = 1 := by decide +kernel
theorem stZ_ok {S : St} {k n j : Nat} {v : Int32} (h : j < n) (hn : n < 2 ^ 31) (hv : v = 0 ∨ v = 1) : stZ S k n (nI j) v = some (stS S k j v) := by
  have hz : vp_nar .boolean v = v := by rcases hv with rfl | rfl <;> decide +kernel
  unfold stZ sA stS
  rw [if_neg (ix_ok h hn), nI_clamp (by omega), hz]
theorem bz0 : bzI 0 = some 0 := by decide +kernel
theorem bz1 : bzI 1 = some 1 := by decide +kernel
theorem bz_ok {v : Int32} (h : v = 0 ∨ v = 1) : bzI v = some v := by rcases h with rfl | rfl <;> decide +kernel
theorem le_ok {a b : Nat} (hb : b < 2 ^ 31) (h : a ≤ b) : nI a ≤ nI b := (nI_leI (by omega) hb).mpr h
theorem le_no {a b : Nat} (ha : a < 2 ^ 31) (h : b < a) : ¬ nI a ≤ nI b := fun q => absurd ((nI_leI ha (by omega)).mp q) (by omega)
theorem ne_ok {a b : Nat} (ha : a < 2 ^ 31) (hb : b < 2 ^ 31) (h : a ≠ b) : ¬ nI a = nI b := fun q => h ((nI_eq ha hb).mp q)
theorem i_0 : (0 : Int32) = nI 0 := by decide +kernel
theorem i_1 : (1 : Int32) = nI 1 := by decide +kernel
theorem i_6 : (6 : Int32) = nI 6 := by decide +kernel
theorem i_10 : (10 : Int32) = nI 10 := by decide +kernel
theorem i_11 : (11 : Int32) = nI 11 := by decide +kernel
theorem nI_s (a : Nat) : nI a + 1 = nI (a + 1) := nI_1 a
theorem nI_z (a : Nat) : nI a + 0 = nI a := by rw [i_0, nI_add]; rfl
theorem nI_p (a : Nat) : nI (a + 1) + (-1) = nI a := pk_m1 a
theorem nI_q {a : Nat} (h : 0 < a) : nI a - 1 = nI (a - 1) := by
  obtain ⟨b, rfl⟩ : ∃ b, a = b + 1 := ⟨a - 1, by omega⟩
  exact nI_pred b
theorem nI_neg {a : Nat} (h : a < 2 ^ 31) : ¬ nI a < 0 := nI_pos h
theorem nI_m1 {a : Nat} (h : a < 2 ^ 31) : ¬ nI a = -1 := by
  intro e
  have h1 := nI_pos h
  rw [e] at h1
  exact h1 (by decide)
/-! ===== counts and folds over i .. i + m - 1 ===== -/
def cnt (p : Nat → Bool) (i m : Nat) : Nat := (List.range' i m).countP p
theorem cnt_0 (p : Nat → Bool) (i : Nat) : cnt p i 0 = 0 := rfl
theorem cnt_s (p : Nat → Bool) (i m : Nat) : cnt p i (m + 1) = (if p i = true then 1 else 0) + cnt p (i + 1) m := by
  unfold cnt
  rw [List.range'_succ, List.countP_cons]
  omega
theorem cnt_le (p : Nat → Bool) (i m : Nat) : cnt p i m ≤ m := by
  unfold cnt
  exact Nat.le_trans List.countP_le_length (Nat.le_of_eq List.length_range')
theorem cnt_congr {p q : Nat → Bool} : ∀ {m i : Nat}, (∀ k, i ≤ k → k < i + m → p k = q k) → cnt p i m = cnt q i m
  | 0, _, _ => rfl
  | m + 1, i, h => by
    rw [cnt_s, cnt_s, h i (by omega) (by omega), cnt_congr (fun k h1 h2 => h k (by omega) (by omega))]
def fld {α : Type} (f : α → Nat → α) (a : α) (i m : Nat) : α := (List.range' i m).foldl f a
theorem fld_0 {α : Type} (f : α → Nat → α) (a : α) (i : Nat) : fld f a i 0 = a := rfl
theorem fld_s {α : Type} (f : α → Nat → α) (a : α) (i m : Nat) : fld f a i (m + 1) = fld f (f a i) (i + 1) m := rfl
theorem fld_congr {α : Type} {f g : α → Nat → α} : ∀ {m i : Nat} {a : α}, (∀ k b, i ≤ k → k < i + m → f b k = g b k) → fld f a i m = fld g a i m
  | 0, _, _, _ => rfl
  | m + 1, i, a, h => by
    rw [fld_s, fld_s, h i a (by omega) (by omega), fld_congr (fun k b h1 h2 => h k b (by omega) (by omega))]
/-- there is one among i .. i + m - 1 -/
def exi (p : Nat → Bool) (i m : Nat) : Bool := (List.range' i m).any p
theorem exi_0 (p : Nat → Bool) (i : Nat) : exi p i 0 = false := rfl
theorem exi_s (p : Nat → Bool) (i m : Nat) : exi p i (m + 1) = (p i || exi p (i + 1) m) := rfl
theorem exi_iff {p : Nat → Bool} {i m : Nat} : exi p i m = true ↔ ∃ k, i ≤ k ∧ k < i + m ∧ p k = true := by
  unfold exi
  rw [List.any_eq_true]
  constructor
  · rintro ⟨k, h1, h2⟩
    rw [List.mem_range'_1] at h1
    exact ⟨k, h1.1, h1.2, h2⟩
  · rintro ⟨k, h1, h2, h3⟩
    exact ⟨k, List.mem_range'_1.mpr ⟨h1, h2⟩, h3⟩
def bI (b : Bool) : Int32 := if b = true then 1 else 0
theorem bI_t : bI true = 1 := rfl
theorem bI_f : bI false = 0 := rfl
theorem bI_z {b : Bool} : bI b = 0 ↔ b = false := by cases b <;> decide
theorem bI_01 (b : Bool) : bI b = 0 ∨ bI b = 1 := by cases b <;> decide
/-! ===== the small functions ===== -/
def inr (v lo hi : Int32) : Bool := decide (¬ v < lo) && decide (¬ hi < v)
theorem f7_in_eq (S : St) (v lo hi : Int32) : f7_in S v lo hi = some (S, bI (inr v lo hi)) := by
  unfold f7_in inr
  by_cases h1 : v < lo
  · rw [if_pos h1]; simp [h1, bI]
  · rw [if_neg h1]
    by_cases h2 : hi < v
    · rw [if_pos h2]; simp [h2, bI]
    · rw [if_neg h2]; simp [h1, h2, bI]
theorem f6_isWithin_eq (S : St) (v lo hi : Int32) : f6_isWithin S v lo hi = some (S, bI (inr v lo hi)) := by
  unfold f6_isWithin inr
  by_cases h1 : v < lo
  · rw [if_pos h1]; simp [h1, bI]
  · rw [if_neg h1]
    by_cases h2 : hi < v
    · rw [if_pos h2]; simp [h2, bI]
    · rw [if_neg h2]; simp [h1, h2, bI]
theorem f4_isIn_eq (S : St) {i : Nat} (hi : i < 32) (x : Int32) : f4_isIn S (nI i) x = some (S, bI (bt x i)) := by
  unfold f4_isIn
  by_cases h : bt x i = true
  · rw [if_neg (fun q => by rw [(b_in hi).mp q] at h; cases h), h]; rfl
  · have h2 : bt x i = false := by simpa using h
    rw [if_pos ((b_in hi).mpr h2), h2]; rfl
theorem f7_refused_eq (S : St) (v : Int32) : f7_refused S v = some (sF S 0 v, if v = 0 then 0 else 1) := by
  unfold f7_refused stF
  rw [Option.bind_some]
  by_cases h : v = 0
  · rw [if_pos h, if_pos h]
  · rw [if_neg h, if_neg h]
/-- a number within 0 .. n - 1 -/
theorem inr_ix {v : Int32} {n : Nat} (hn : n < 2 ^ 31) : inr v 0 (nI n - 1) = true ↔ ∃ j, j < n ∧ v = nI j := by
  unfold inr
  simp only [Bool.and_eq_true, decide_eq_true_eq]
  constructor
  · rintro ⟨h1, h2⟩
    obtain ⟨j, hj, rfl⟩ := nI_of h1
    refine ⟨j, ?_, rfl⟩
    rcases Nat.eq_zero_or_pos n with h0 | h0
    · subst h0
      exact absurd (show nI 0 - 1 < nI j by
        rw [Int32.lt_iff_toInt_lt, nI_toInt hj]
        have : (nI 0 - 1 : Int32).toInt = -1 := by decide +kernel
        omega) h2
    · rw [nI_q h0] at h2
      have h3 : ¬ n - 1 < j := fun q => h2 ((nI_ltI (by omega) hj).mpr q)
      omega
  · rintro ⟨j, hj, rfl⟩
    refine ⟨nI_pos (by omega), ?_⟩
    rw [nI_q (by omega)]
    intro q
    have := (nI_ltI (by omega) (by omega)).mp q
    omega
