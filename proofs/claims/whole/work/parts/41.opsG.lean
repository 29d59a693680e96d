/-! the fewest, first part: trying all sets, both alike -/
theorem opn_idx {M : St} {nr r : Nat} (hr : r < nr) (h9 : M.2 9 r = 0) : (opn M nr)[(opn M r).length]? = some r := by
  have hspl : (List.range' 0 nr) = List.range' 0 r ++ List.range' r (nr - r) := by
    have := List.range'_append (s := 0) (m := r) (n := nr - r) (step := 1)
    rw [show 0 + 1 * r = r by omega, show r + (nr - r) = nr by omega] at this
    exact this.symm
  obtain ⟨q, hq⟩ : ∃ q, nr - r = q + 1 := ⟨nr - r - 1, by omega⟩
  unfold opn
  rw [hspl, List.filter_append, hq, List.range'_succ, List.filter_cons, if_pos (by simp [opB, h9]), List.getElem?_append_right (Nat.le_refl _), Nat.sub_self]
  rfl
theorem opn_pl {M : St} {nr j r : Nat} (h : (opn M nr)[j]? = some r) : (opn M r).length = j := opn_inj (opn_idx (opn_in h).1 (opn_in h).2) h
/-- a raise's place is in a set -/
def pS (M : St) (y : Int32) (r : Nat) : Bool := bt y (opn M r).length
theorem pS_set (M : St) (nr : Nat) (y : Int32) : SetIs (opn M nr) y (pS M y) := fun j r hj => by
  unfold pS
  rw [opn_pl hj]
def szS (M : St) (nr : Nat) (y : Int32) : Nat := (opn M nr).countP (pS M y)
def okS (M : St) (nn nr : Nat) (y : Int32) : Bool := decide (fcn M nn nr (fun k => opB M k && pS M y k) = 0)
def stp (M : St) (nn nr own : Nat) (q : Int32 × Nat) (v : Nat) : Int32 × Nat := if (pS M (nI v) own && (decide (szS M nr (nI v) < q.2) && okS M nn nr (nI v))) = true then (nI v, szS M nr (nI v)) else q
def finF (k46 : Int32 → Int32 → Int32 → Int32 → St → Option (St × Int32)) (v1 v3 v4 v5 v7 v8 : Int32) (S : St) : Option (St × Int32) :=
  if v8 = 0 then k46 v1 v3 v4 (v5 + 1) S else if v4 ≤ v7 then k46 v1 v3 v4 (v5 + 1) S else (f7_failing S).bind fun q7 => (fun (S5 : St) (x4 : Int32) => if x4 = 0 then k46 v1 v5 v7 (v5 + 1) S5 else k46 v1 v3 v4 (v5 + 1) S5) q7.1 q7.2
theorem m_few73 {M : St} {np nr own : Nat} (hr : M.1 6 = nI nr) (hrr : nr ≤ 40) (hnp : np ≤ 12) (hpk : ∀ k, k < nr → ∃ p, p < np ∧ M.2 10 k = nI p) (hl : (opn M nr).length ≤ 10) (how : own < nr) (k46 : Int32 → Int32 → Int32 → Int32 → St → Option (St × Int32)) (best few y : Int32) :
    ∀ (m i n c : Nat) (b : Bool) (w : Nat → Int32), i + m = nr → m < n → f7_fewest_L73 k46 n (nI own) best few y (nI (opn M i).length) (nI c) (bI b) (nI i) (scr M w) = finF k46 (nI own) best few y (nI (c + cnt (fun k => opB M k && pS M y k) i m)) (bI (b || exi (fun k => (opB M k && pS M y k) && decide (k = own)) i m)) (scr M (plan (fun k => opB M k && pS M y k) (M.2 10) (M.2 11) w i m)) := by
  intro m
  induction m with
  | zero =>
    intro i n c b w hi hm
    obtain ⟨n, rfl⟩ : ∃ q, n = q + 1 := ⟨n - 1, by omega⟩
    show f7_fewest_L73b k46 (f7_fewest_L73 k46 n) (nI own) best few y (nI (opn M i).length) (nI c) (bI b) (nI i) (scr M w) = _
    have e6 : (scr M w).1 6 = nI nr := hr
    unfold f7_fewest_L73b
    rw [e6, if_pos (le_ok (by omega) (by omega)), cnt_0, exi_0, plan_0, Bool.or_false, Nat.add_zero]
    rfl
  | succ m ih =>
    intro i n c b w hi hm
    obtain ⟨n, rfl⟩ : ∃ q, n = q + 1 := ⟨n - 1, by omega⟩
    have e6 : (scr M w).1 6 = nI nr := hr
    have l9 : ldA (scr M w) 9 40 (nI i) = some (M.2 9 i) := ldA_ok (by omega) (by omega)
    have l10 : ldA (scr M w) 10 40 (nI i) = some (M.2 10 i) := ldA_ok (by omega) (by omega)
    have l11 : ldA (scr M w) 11 40 (nI i) = some (M.2 11 i) := ldA_ok (by omega) (by omega)
    rw [cnt_s, exi_s, plan_s]
    show f7_fewest_L73b k46 (f7_fewest_L73 k46 n) (nI own) best few y (nI (opn M i).length) (nI c) (bI b) (nI i) (scr M w) = _
    unfold f7_fewest_L73b
    rw [e6, if_neg (le_no (by omega) (by omega)), l9, Option.bind_some]
    by_cases h9 : M.2 9 i = 0
    · have ho : opB M i = true := by simp [opB, h9]
      have hlen : (opn M (i + 1)).length = (opn M i).length + 1 := by rw [opn_s h9, List.length_append]; rfl
      have hl10 : (opn M i).length < 10 := by
        have := (List.getElem?_eq_some_iff.mp (opn_idx (nr := nr) (by omega) h9)).1
        omega
      rw [if_pos h9, nI_s (opn M i).length, ← hlen, nI_s i]
      by_cases hb : bt y (opn M i).length = true
      · have hp : pS M y i = true := hb
        obtain ⟨p, hp1, hp2⟩ := hpk i (by omega)
        have s17 : stA (scr M w) 17 12 (nI p) (M.2 11 i) = some (scr M (upd w p (M.2 11 i))) := by rw [stA_ok (by omega) (by omega), scr_st]
        rw [if_pos ((b_in1 (by omega)).mpr hb), l10, Option.bind_some, l11, Option.bind_some, hp2, s17, Option.bind_some, nI_s c]
        have hP : (opB M i && pS M y i) = true := by rw [ho, hp]; rfl
        rw [hP, if_pos rfl, if_pos rfl, Bool.true_and, tn_nI (by omega), show c + (1 + cnt (fun k => opB M k && pS M y k) (i + 1) m) = (c + 1) + cnt (fun k => opB M k && pS M y k) (i + 1) m by omega]
        have e := ih (i + 1) n (c + 1) (b || decide (i = own)) (upd w p (M.2 11 i)) (by omega) (by omega)
        rw [Bool.or_assoc] at e
        refine Eq.trans ?_ e
        cases b with
        | true => rw [if_neg (by decide)]; rfl
        | false =>
          rw [if_pos bI_f]
          by_cases hio : i = own
          · rw [if_pos (by rw [hio])]
            simp [hio, bI]
          · rw [if_neg (ne_ok (by omega) (by omega) hio)]
            simp [hio, bI]
      · have hp : pS M y i = false := by unfold pS; simpa using hb
        have hP : (opB M i && pS M y i) = false := by rw [hp, Bool.and_false]
        rw [if_neg (fun z => hb ((b_in1 (by omega)).mp z)), hP, if_neg (by decide), if_neg (by decide), Nat.zero_add, Bool.false_and, Bool.false_or]
        exact ih (i + 1) n c b w (by omega) (by omega)
    · have ho : opB M i = false := by simp [opB, h9]
      have hop : opn M (i + 1) = opn M i := by
        unfold opn
        rw [List.range'_concat, List.filter_append, List.filter_cons, if_neg (by simpa using ho)]
        simp
      have hP : (opB M i && pS M y i) = false := by rw [ho]; rfl
      rw [if_neg h9, nI_s, hP, if_neg (by decide), if_neg (by decide), Nat.zero_add, Bool.false_and, Bool.false_or, ← hop]
      exact ih (i + 1) n c b w (by omega) (by omega)
theorem sh_pow : ∀ n, n ≤ 10 → (1 : Int32) <<< (nI n &&& 31) = nI (2 ^ n) := by decide +kernel
theorem pow_1024 {n : Nat} (h : n ≤ 10) : 2 ^ n ≤ 1024 := Nat.pow_le_pow_right (by omega) h
theorem exi_own {M : St} {nr own : Nat} {p : Nat → Bool} (how : own < nr) (ho : opB M own = true) : exi (fun k => (opB M k && p k) && decide (k = own)) 0 nr = p own := by
  refine beq_of ?_
  rw [exi_iff]
  constructor
  · rintro ⟨k, -, -, h⟩
    simp only [Bool.and_eq_true, decide_eq_true_eq] at h
    rw [← h.2]
    exact h.1.2
  · intro h
    exact ⟨own, Nat.zero_le _, by omega, by simp [ho, h]⟩
theorem m_few46 {M : St} {np nn nf nr d own : Nat} (hI : Inv M np nn nf nr d) (how : own ∈ opn M nr) :
    ∀ (m i n few : Nat) (best : Int32) (w : Nat → Int32), i + m = 2 ^ (opn M nr).length → m < n → few ≤ 11 → ∃ w', f7_fewest_L46 n (nI own) best (nI few) (nI i) (scr M w) = some (scr M w', (fld (stp M nn nr own) (best, few) i m).1) := by
  obtain ⟨⟨⟨hp, hpp⟩, ⟨hn, hnn⟩, -, ⟨hr, hrr⟩, -⟩, hix, hpk, -, -, -, -, -, -, hl, -⟩ := hI
  have hown := mem_opn.mp how
  intro m
  induction m with
  | zero =>
    intro i n few best w hi hm hf
    obtain ⟨n, rfl⟩ : ∃ q, n = q + 1 := ⟨n - 1, by omega⟩
    have h1024 := pow_1024 hl
    refine ⟨w, ?_⟩
    show f7_fewest_L46b (f7_fewest_L46 n) (nI own) best (nI few) (nI i) (scr M w) = _
    have e1 : f7_open (scr M w) = some (scr M w, nI (opn M nr).length) := by
      rw [m_open (M := scr M w) hr hrr]
      exact congrArg (fun z => some (scr M w, nI z)) (len_opn M nr)
    unfold f7_fewest_L46b
    rw [e1, Option.bind_some]
    dsimp only
    rw [sh_pow _ hl, if_pos (le_ok (by omega) (by omega))]
    rfl
  | succ m ih =>
    intro i n few best w hi hm hf
    obtain ⟨n, rfl⟩ : ∃ q, n = q + 1 := ⟨n - 1, by omega⟩
    have h1024 := pow_1024 hl
    have e1 : f7_open (scr M w) = some (scr M w, nI (opn M nr).length) := by
      rw [m_open (M := scr M w) hr hrr]
      exact congrArg (fun z => some (scr M w, nI z)) (len_opn M nr)
    obtain ⟨w1, e2, e3⟩ := m_asNow hp hpp w
    have e4 := m_few73 hr hrr hpp hpk hl hown.1 (f7_fewest_L46 n) best (nI few) (nI i) nr 0 2000 0 false w1 (by omega) (by omega)
    have hst : f7_fewest_L46 (n + 1) (nI own) best (nI few) (nI i) (scr M w) = finF (f7_fewest_L46 n) (nI own) best (nI few) (nI i) (nI (szS M nr (nI i))) (bI (pS M (nI i) own)) (scr M (plan (fun k => opB M k && pS M (nI i) k) (M.2 10) (M.2 11) w1 0 nr)) := by
      show f7_fewest_L46b (f7_fewest_L46 n) (nI own) best (nI few) (nI i) (scr M w) = _
      unfold f7_fewest_L46b
      rw [e1, Option.bind_some]
      dsimp only
      rw [sh_pow _ hl, if_neg (le_no (by omega) (by omega)), e2, Option.bind_some]
      refine Eq.trans (show _ = f7_fewest_L73 (f7_fewest_L46 n) 2000 (nI own) best (nI few) (nI i) (nI (opn M 0).length) (nI 0) (bI false) (nI 0) (scr M w1) from rfl) (e4.trans ?_)
      rw [Nat.zero_add, cnt_opn, Bool.false_or, exi_own hown.1 (by simp [opB, hown.2])]
      rfl
    rw [hst, fld_s]
    have hsz : szS M nr (nI i) ≤ 10 := Nat.le_trans List.countP_le_length hl
    have hix' : ∀ k, k < nn → ∃ a b, a < 12 ∧ b < 12 ∧ M.2 1 k = nI a ∧ M.2 2 k = nI b := fun k hk => by
      obtain ⟨a, b, q1, q2, q3⟩ := hix k hk
      exact ⟨a, b, by omega, by omega, q3⟩
    have hfail : f7_failing (scr M (plan (fun k => opB M k && pS M (nI i) k) (M.2 10) (M.2 11) w1 0 nr)) = some (scr M (plan (fun k => opB M k && pS M (nI i) k) (M.2 10) (M.2 11) w1 0 nr), nI (cnt (vio (plan (fun k => opB M k && pS M (nI i) k) (M.2 10) (M.2 11) w1 0 nr) (M.2 1) (M.2 2) (M.2 3) (M.2 4)) 0 nn)) := m_failing (M := scr M (plan (fun k => opB M k && pS M (nI i) k) (M.2 10) (M.2 11) w1 0 nr)) hn hnn hix'
    have hfc : cnt (vio (plan (fun k => opB M k && pS M (nI i) k) (M.2 10) (M.2 11) w1 0 nr) (M.2 1) (M.2 2) (M.2 3) (M.2 4)) 0 nn = fcn M nn nr (fun k => opB M k && pS M (nI i) k) := by
      unfold fcn
      refine cnt_congr fun k _ hk => ?_
      obtain ⟨a, b, q1, q2, q3, q4⟩ := hix k (by omega)
      exact vio_agree q1 q2 (by omega) q3 q4 (fun p hp2 => plan_agree (np := np) (fun q hq => e3 q hq) p hp2)
    rw [hfc] at hfail
    have hfl := fcn_le M nn nr (fun k => opB M k && pS M (nI i) k)
    unfold finF stp
    by_cases h1 : pS M (nI i) own = true
    · rw [if_neg (by rw [h1]; decide), h1, Bool.true_and]
      by_cases h2 : szS M nr (nI i) < few
      · rw [if_neg (le_no (by omega) (by omega)), hfail, Option.bind_some]
        dsimp only
        by_cases h3 : fcn M nn nr (fun k => opB M k && pS M (nI i) k) = 0
        · have h4 : okS M nn nr (nI i) = true := by unfold okS; rw [h3]; rfl
          rw [h3, if_pos i_0.symm, h4, if_pos (by simp [h2]), nI_s]
          exact ih (i + 1) n _ _ _ (by omega) (by omega) (by omega)
        · have h4 : okS M nn nr (nI i) = false := by unfold okS; simp [h3]
          rw [if_neg (by rw [i_0]; exact ne_ok (by omega) (by omega) h3), h4, if_neg (by simp), nI_s]
          exact ih (i + 1) n _ _ _ (by omega) (by omega) hf
      · rw [if_pos (le_ok (by omega) (by omega)), if_neg (by simp [h2]), nI_s]
        exact ih (i + 1) n _ _ _ (by omega) (by omega) hf
    · have h1' : pS M (nI i) own = false := by simpa using h1
      rw [if_pos (by rw [h1']; rfl), if_neg (by simp [h1']), nI_s]
      exact ih (i + 1) n _ _ _ (by omega) (by omega) hf
theorem and_pw {x : Int32} {j : Nat} (hj : j < 32) : x &&& (1 <<< (nI j &&& 31)) = 0 ↔ bt x j = false := by
  constructor
  · intro h
    have h1 : bt (x &&& (1 <<< (nI j &&& 31))) j = false := by rw [h, b_0]
    rw [b_and, b_pw j hj hj] at h1
    simpa using h1
  · intro h
    refine b_ext fun i hi => ?_
    rw [b_and, b_pw j hj hi, b_0]
    by_cases hij : i = j
    · rw [hij, h]; rfl
    · simp [hij]
theorem bt_big {v n : Nat} (hv : v < 2 ^ n) {j : Nat} (hj : j < 32) (hn : n ≤ j) : bt (nI v) j = false := by
  rw [bt_nI hj]
  exact Nat.testBit_lt_two_pow (Nat.lt_of_lt_of_le hv (Nat.pow_le_pow_right (by omega) hn))
theorem b_few8 {B M : St} {np nn nf nr d own j : Nat} (h : Rel B M np nn nf nr d) (how : (opn M nr)[j]? = some own) :
    ∀ (m i n few : Nat) (best : Int32) (w : Nat → Int32), i + m = 2 ^ (opn M nr).length → m < n → few ≤ 11 → ∃ w', f0_byAllSets_L8 n (1 <<< (nI j &&& 31)) best (nI few) (nI i) (scb B w) = some (scb B w', (fld (stp M nn nr own) (best, few) i m).1) := by
  have hl := h.ol.2.1
  have hj := (List.getElem?_eq_some_iff.mp how).1
  have h5 : B.1 5 = nI (opn M nr).length := h.ol.1
  have hnn := h.nn.2
  intro m
  induction m with
  | zero =>
    intro i n few best w hi hm hf
    obtain ⟨n, rfl⟩ : ∃ q, n = q + 1 := ⟨n - 1, by omega⟩
    have h1024 := pow_1024 hl
    refine ⟨w, ?_⟩
    have e5 : (scb B w).1 5 = nI (opn M nr).length := h5
    show f0_byAllSets_L8b (f0_byAllSets_L8 n) (1 <<< (nI j &&& 31)) best (nI few) (nI i) (scb B w) = _
    unfold f0_byAllSets_L8b
    rw [e5, sh_pow _ hl, if_pos (le_ok (by omega) (by omega))]
    rfl
  | succ m ih =>
    intro i n few best w hi hm hf
    obtain ⟨n, rfl⟩ : ∃ q, n = q + 1 := ⟨n - 1, by omega⟩
    have h1024 := pow_1024 hl
    have e5 : (scb B w).1 5 = nI (opn M nr).length := h5
    have hw := h.scb w
    have hz : ∀ k, k < 32 → (opn M nr).length ≤ k → bt (nI i) k = false := fun k hk hk2 => bt_big (n := (opn M nr).length) (by omega) hk hk2
    have hcnt : ∀ w, fJ_bitCount_0f7a4 (scb B w) (nI i) = some (scb B w, nI (szS M nr (nI i))) := fun w => (h.scb w).count (pS_set M nr (nI i)) hz
    obtain ⟨w1, hfail⟩ := b_failing hw (pS_set M nr (nI i))
    rw [scb_scb] at hfail
    have hsz : szS M nr (nI i) ≤ 10 := Nat.le_trans List.countP_le_length hl
    have hfl := fcn_le M nn nr (fun k => opB M k && pS M (nI i) k)
    rw [fld_s]
    show ∃ w', f0_byAllSets_L8b (f0_byAllSets_L8 n) (1 <<< (nI j &&& 31)) best (nI few) (nI i) (scb B w) = _
    unfold f0_byAllSets_L8b stp
    rw [e5, sh_pow _ hl, if_neg (le_no (by omega) (by omega)), nI_s]
    have hpl : pS M (nI i) own = bt (nI i) j := by unfold pS; rw [opn_pl how]
    by_cases h1 : pS M (nI i) own = true
    · rw [if_neg (fun z => by rw [(and_pw (by omega)).mp z] at hpl; rw [hpl] at h1; cases h1), hcnt w, Option.bind_some, h1, Bool.true_and]
      dsimp only
      by_cases h2 : szS M nr (nI i) < few
      · rw [if_neg (le_no (by omega) (show szS M nr (nI i) < few from h2)), hfail, Option.bind_some]
        dsimp only
        by_cases h3 : fcn M nn nr (fun k => opB M k && pS M (nI i) k) = 0
        · have h4 : okS M nn nr (nI i) = true := by unfold okS; rw [h3]; rfl
          rw [h3, if_pos i_0.symm, hcnt w1, Option.bind_some, h4, if_pos (by simp [h2])]
          exact ih (i + 1) n _ _ _ (by omega) (by omega) (by omega)
        · have h4 : okS M nn nr (nI i) = false := by unfold okS; simp [h3]
          rw [if_neg (by rw [i_0]; exact ne_ok (by omega) (by omega) h3), h4, if_neg (by simp)]
          exact ih (i + 1) n _ _ _ (by omega) (by omega) hf
      · rw [if_pos (le_ok (by omega) (show few ≤ szS M nr (nI i) by omega)), if_neg (by simp [h2])]
        exact ih (i + 1) n _ _ _ (by omega) (by omega) hf
    · have h1' : pS M (nI i) own = false := by simpa using h1
      rw [if_pos ((and_pw (by omega)).mpr (hpl.symm.trans h1')), if_neg (by simp [h1'])]
      exact ih (i + 1) n _ _ _ (by omega) (by omega) hf
