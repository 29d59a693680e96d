/-! whether a group can land; what is told of a raise -/
def frz (M : St) (r f : Nat) : Bool := inr (M.1 1) (M.2 7 f) (M.2 8 f) && bt (M.2 6 f) (tn (M.2 10 r))
def alls (p : Nat → Bool) (i m : Nat) : Bool := (List.range' i m).all p
theorem alls_0 (p : Nat → Bool) (i : Nat) : alls p i 0 = true := rfl
theorem alls_s (p : Nat → Bool) (i m : Nat) : alls p i (m + 1) = (p i && alls p (i + 1) m) := rfl
theorem alls_iff {p : Nat → Bool} {i m : Nat} : alls p i m = true ↔ ∀ k, i ≤ k → k < i + m → p k = true := by
  unfold alls
  rw [List.all_eq_true]
  constructor
  · intro h k h1 h2
    exact h k (List.mem_range'_1.mpr ⟨h1, h2⟩)
  · intro h k hk
    have := List.mem_range'_1.mp hk
    exact h k this.1 this.2
theorem m_land66 {M : St} {nf nr k : Nat} (hf : M.1 5 = nI nf) (hff : nf ≤ 10) (hrr : nr ≤ 40) (hk : k < nr) {p : Nat} (hp : p < 12) (e10 : M.2 10 k = nI p) (k17 : Int32 → Int32 → Int32 → St → Option (St × Int32)) (own : Int32) :
    ∀ (m i n : Nat) (c : Bool), i + m = nf → m < n → f7_landable_L66 k17 n own (bI c) (nI k) (nI i) M = k17 own (bI (c && alls (fun f => !frz M k f) i m)) (nI (k + 1)) M := by
  intro m
  induction m with
  | zero =>
    intro i n c hi hm
    obtain ⟨n, rfl⟩ : ∃ q, n = q + 1 := ⟨n - 1, by omega⟩
    show f7_landable_L66b k17 (f7_landable_L66 k17 n) own (bI c) (nI k) (nI i) M = _
    unfold f7_landable_L66b
    rw [hf, if_pos (le_ok (by omega) (by omega)), alls_0, Bool.and_true, nI_s]
  | succ m ih =>
    intro i n c hi hm
    obtain ⟨n, rfl⟩ : ∃ q, n = q + 1 := ⟨n - 1, by omega⟩
    show f7_landable_L66b k17 (f7_landable_L66 k17 n) own (bI c) (nI k) (nI i) M = _
    have l7 : ldA M 7 10 (nI i) = some (M.2 7 i) := ldA_ok (by omega) (by omega)
    have l8 : ldA M 8 10 (nI i) = some (M.2 8 i) := ldA_ok (by omega) (by omega)
    have l6 : ldA M 6 10 (nI i) = some (M.2 6 i) := ldA_ok (by omega) (by omega)
    have l10 : ldA M 10 40 (nI k) = some (nI p) := by rw [ldA_ok (by omega) (by omega), e10]
    have hz : frz M k i = (inr (M.1 1) (M.2 7 i) (M.2 8 i) && bt (M.2 6 i) p) := by unfold frz; rw [e10, tn_nI (by omega)]
    have ih1 : f7_landable_L66 k17 n own 1 (nI k) (nI (i + 1)) M = _ := ih (i + 1) n true (by omega) (by omega)
    have ih0 : f7_landable_L66 k17 n own 0 (nI k) (nI (i + 1)) M = _ := ih (i + 1) n false (by omega) (by omega)
    unfold f7_landable_L66b
    rw [hf, if_neg (le_no (by omega) (by omega)), alls_s, nI_s, hz]
    cases c with
    | false => rw [if_pos bI_f, ih0]; simp
    | true =>
      rw [if_neg (by decide), l7, Option.bind_some, l8, Option.bind_some, f7_in_eq, Option.bind_some]
      dsimp only
      cases h1 : inr (M.1 1) (M.2 7 i) (M.2 8 i) with
      | false => rw [if_pos bI_f, ih1]; simp
      | true =>
        rw [if_neg (by decide), l6, Option.bind_some, l10, Option.bind_some]
        cases h2 : bt (M.2 6 i) p with
        | true => rw [if_pos ((b_in1 (by omega)).mpr h2), ih0]; simp
        | false => rw [if_neg (fun q => by rw [(b_in1 (by omega)).mp q] at h2; cases h2), ih1]; simp
theorem m_land17 {M : St} {np nn nf nr d : Nat} (hI : Inv M np nn nf nr d) (own : Int32) :
    ∀ (m i n : Nat) (c : Bool), i + m = nr → m < n → f7_landable_L17 n own (bI c) (nI i) M = some (M, bI (c && alls (fun k => !(opB M k && decide (M.2 14 k = own)) || (!decide (M.2 16 k = 0) && alls (fun f => !frz M k f) 0 nf)) i m)) := by
  obtain ⟨⟨⟨-, hpp⟩, -, ⟨hf, hff⟩, ⟨hr, hrr⟩, -⟩, -, hpk, -, ha, -⟩ := hI
  intro m
  induction m with
  | zero =>
    intro i n c hi hm
    obtain ⟨n, rfl⟩ : ∃ q, n = q + 1 := ⟨n - 1, by omega⟩
    show f7_landable_L17b (f7_landable_L17 n) own (bI c) (nI i) M = _
    unfold f7_landable_L17b
    rw [hr, if_pos (le_ok (by omega) (by omega)), alls_0, Bool.and_true, bz_ok (bI_01 _), Option.bind_some]
  | succ m ih =>
    intro i n c hi hm
    obtain ⟨n, rfl⟩ : ∃ q, n = q + 1 := ⟨n - 1, by omega⟩
    show f7_landable_L17b (f7_landable_L17 n) own (bI c) (nI i) M = _
    obtain ⟨p, hp, e10⟩ := hpk i (by omega)
    have l9 : ldA M 9 40 (nI i) = some (M.2 9 i) := ldA_ok (by omega) (by omega)
    have l14 : ldA M 14 40 (nI i) = some (M.2 14 i) := ldA_ok (by omega) (by omega)
    have l16 : ldA M 16 40 (nI i) = some (M.2 16 i) := ldA_ok (by omega) (by omega)
    have h66 : ∀ c, f7_landable_L66 (f7_landable_L17 n) 2000 own (bI c) (nI i) 0 M = _ := fun c => m_land66 hf hff hrr (k := i) (by omega) (p := p) (by omega) e10 (f7_landable_L17 n) own nf 0 2000 c (by omega) (by omega)
    unfold f7_landable_L17b
    rw [hr, if_neg (le_no (by omega) (by omega)), l9, Option.bind_some, alls_s, nI_s]
    by_cases h1 : M.2 9 i = 0
    · rw [if_pos h1, l14, Option.bind_some]
      by_cases h2 : M.2 14 i = own
      · rw [if_pos h2]
        cases c with
        | false =>
          rw [if_pos bI_f]
          have h3 := h66 false
          rw [show bI false = 0 from rfl] at h3
          rw [h3, ih (i + 1) n _ (by omega) (by omega)]
          simp
        | true =>
          rw [if_neg (by decide), l16, Option.bind_some]
          by_cases h4 : M.2 16 i = 0
          · rw [if_pos h4]
            have h3 := h66 false
            rw [show bI false = 0 from rfl] at h3
            rw [h3, ih (i + 1) n _ (by omega) (by omega)]
            simp [opB, h1, h2, h4]
          · rw [if_neg h4]
            have h3 := h66 true
            rw [show bI true = 1 from rfl] at h3
            rw [h3, ih (i + 1) n _ (by omega) (by omega)]
            simp [opB, h1, h2, h4]
      · rw [if_neg h2, ih (i + 1) n c (by omega) (by omega)]
        simp [h2]
    · rw [if_neg h1, ih (i + 1) n c (by omega) (by omega)]
      simp [opB, h1]
/-- whether the raises of a group are approved and not frozen -/
def lnd (M : St) (nf nr : Nat) (own : Int32) : Bool := alls (fun k => !(opB M k && decide (M.2 14 k = own)) || (!decide (M.2 16 k = 0) && alls (fun f => !frz M k f) 0 nf)) 0 nr
def fcG (M : St) (nn nr : Nat) (own : Int32) : Nat := fcn M nn nr (fun k => opB M k && decide (M.2 14 k = own))
theorem m_landable {B M : St} {np nn nf nr d : Nat} (h : Rel B M np nn nf nr d) (own : Int32) : ∃ w, f7_landable M own = some (scr M w, bI (decide (fcG M nn nr own = 0) && lnd M nf nr own)) := by
  obtain ⟨w, hM⟩ := m_failsG h own own
  have he : fcn M nn nr (fun k => opB M k && (decide (M.2 14 k = own) || decide (M.2 14 k = own))) = fcG M nn nr own := fcn_congr fun k _ => by rw [Bool.or_self]
  rw [he] at hM
  have hI : Inv (scr M w) np nn nf nr d := (h.scr w).1
  have h17 : ∀ c, f7_landable_L17 2000 own (bI c) 0 (scr M w) = some (scr M w, bI (c && lnd M nf nr own)) := fun c => m_land17 hI own nr 0 2000 c (by omega) (by have := h.nr.2; omega)
  refine ⟨w, ?_⟩
  have hle := fcn_le M nn nr (fun k => opB M k && decide (M.2 14 k = own))
  have hnn := h.nn.2
  unfold f7_landable
  rw [hM, Option.bind_some]
  dsimp only
  by_cases hc : fcG M nn nr own = 0
  · rw [hc, if_pos nI_0]
    have h1 := h17 true
    rw [show bI true = 1 from rfl] at h1
    rw [h1]
    simp
  · rw [if_neg (fun q => hc (by
      have q2 : nI (fcG M nn nr own) = nI 0 := q.trans nI_0.symm
      exact (nI_eq (by unfold fcG; omega) (by omega)).mp q2))]
    have h1 := h17 false
    rw [show bI false = 0 from rfl] at h1
    rw [h1]
    simp [hc]
theorem b_frozen_L {B : St} {nf : Nat} (hf : B.1 3 = nI nf) (hff : nf ≤ 10) (z t : Int32) :
    ∀ (m i n : Nat), i + m = nf → m < n → f1_isFrozen_L2 n z t (nI i) B = some (B, bI (exi (fun f => (!decide (B.2 6 f &&& z = 0)) && inr t (B.2 7 f) (B.2 8 f)) i m)) := by
  intro m
  induction m with
  | zero =>
    intro i n hi hm
    obtain ⟨n, rfl⟩ : ∃ q, n = q + 1 := ⟨n - 1, by omega⟩
    show f1_isFrozen_L2b (f1_isFrozen_L2 n) z t (nI i) B = _
    unfold f1_isFrozen_L2b
    rw [hf, if_pos (le_ok (by omega) (by omega)), exi_0]
    rfl
  | succ m ih =>
    intro i n hi hm
    obtain ⟨n, rfl⟩ : ∃ q, n = q + 1 := ⟨n - 1, by omega⟩
    show f1_isFrozen_L2b (f1_isFrozen_L2 n) z t (nI i) B = _
    have l6 : ldA B 6 10 (nI i) = some (B.2 6 i) := ldA_ok (by omega) (by omega)
    have l7 : ldA B 7 10 (nI i) = some (B.2 7 i) := ldA_ok (by omega) (by omega)
    have l8 : ldA B 8 10 (nI i) = some (B.2 8 i) := ldA_ok (by omega) (by omega)
    have ih' := ih (i + 1) n (by omega) (by omega)
    unfold f1_isFrozen_L2b
    rw [hf, if_neg (le_no (by omega) (by omega)), l6, Option.bind_some, exi_s, nI_s]
    by_cases h1 : B.2 6 i &&& z = 0
    · rw [if_pos h1, ih']
      simp [h1]
    · rw [if_neg h1, l7, Option.bind_some, l8, Option.bind_some, f6_isWithin_eq, Option.bind_some]
      dsimp only
      cases h2 : inr t (B.2 7 i) (B.2 8 i) with
      | false => rw [if_pos bI_f, ih']; simp
      | true => rw [if_neg (by decide)]; simp [h1, bI]
theorem and_bits {x z : Int32} : x &&& z ≠ 0 ↔ ∃ j, j < 32 ∧ bt x j = true ∧ bt z j = true := by
  constructor
  · intro h
    refine Classical.byContradiction fun q => h (b_ext fun i hi => ?_)
    rw [b_and, b_0]
    cases h1 : bt x i with
    | false => rfl
    | true =>
      cases h2 : bt z i with
      | false => rfl
      | true => exact absurd ⟨i, hi, h1, h2⟩ q
  · rintro ⟨j, hj, h1, h2⟩ h
    have h3 : bt (x &&& z) j = false := by rw [h, b_0]
    rw [b_and, h1, h2] at h3
    cases h3
theorem b_landable {B M : St} {np nn nf nr d : Nat} (h : Rel B M np nn nf nr d) {y own : Int32} (hy : SetIs (opn M nr) y (fun q => decide (M.2 14 q = own))) : ∃ w, f6_isLandable B y = some (scb B w, bI (decide (fcG M nn nr own = 0) && lnd M nf nr own)) := by
  obtain ⟨w, hB⟩ := b_failing h hy
  have hle := fcn_le M nn nr (fun k => opB M k && decide (M.2 14 k = own))
  have hnn := h.nn.2
  have hs := h.scb w
  have hol := hs.ol
  have h10 := hol.2.1
  obtain ⟨⟨⟨⟨-, hpp⟩, -, ⟨hf, hff⟩, ⟨hr, hrr⟩, -⟩, -, hpk, -⟩, ⟨-, ⟨a6, a7, a8⟩, ⟨a9, -⟩, -, -, a15, -⟩, ⟨g0, -, -, g3, -⟩, -⟩ := hs
  have hpk' : ∀ (i r : Nat), (opn M nr)[i]? = some r → ∃ p, p < 12 ∧ (scb B w).2 9 r = nI p := fun i r hi => by
    obtain ⟨p, q1, q2⟩ := hpk r (opn_in hi).1
    exact ⟨p, by omega, by rw [a9]; exact q2⟩
  have hA := b_areApproved_L hol hy (opn M nr) 0 2000 rfl (by omega) (by omega)
  obtain ⟨z, hz1, hz2⟩ := b_packagesOf_L hol hy hpk' (opn M nr) 0 2000 0 rfl (by omega) (by omega)
  have hF := b_frozen_L (B := scb B w) (nf := nf) (by rw [g3]; exact hf) hff z ((scb B w).1 0) nf 0 2000 (by omega) (by omega)
  refine ⟨w, ?_⟩
  have hA2 : f4_areApproved (scb B w) y = _ := hA
  have hz3 : f4_packagesOf (scb B w) y = some (scb B w, z) := hz1
  have hF2 : f1_isFrozen (scb B w) z ((scb B w).1 0) = _ := hF
  -- one fact of both
  have key : ((opn M nr).all (fun r => !decide (M.2 14 r = own) || !decide ((scb B w).2 15 r = 0)) && !exi (fun f => (!decide ((scb B w).2 6 f &&& z = 0)) && inr ((scb B w).1 0) ((scb B w).2 7 f) ((scb B w).2 8 f)) 0 nf) = lnd M nf nr own := by
    refine beq_of ?_
    unfold lnd
    rw [alls_iff, Bool.and_eq_true, List.all_eq_true]
    constructor
    · rintro ⟨h1, h2⟩ k - hk
      by_cases ho : opB M k = true ∧ M.2 14 k = own
      · have hm : k ∈ opn M nr := mem_opn.mpr ⟨by omega, by simpa [opB] using ho.1⟩
        have h3 := h1 k hm
        rw [a15] at h3
        have h4 : ¬ M.2 16 k = 0 := by simpa [ho.2] using h3
        have h5 : alls (fun f => !frz M k f) 0 nf = true := by
          rw [alls_iff]
          intro f _ hf2
          cases hq : frz M k f with
          | false => rfl
          | true =>
            exfalso
            have h6 : exi (fun f => (!decide ((scb B w).2 6 f &&& z = 0)) && inr ((scb B w).1 0) ((scb B w).2 7 f) ((scb B w).2 8 f)) 0 nf = true := by
              rw [exi_iff]
              refine ⟨f, Nat.zero_le _, hf2, ?_⟩
              obtain ⟨q1, q2⟩ : inr (M.1 1) (M.2 7 f) (M.2 8 f) = true ∧ bt (M.2 6 f) (tn (M.2 10 k)) = true := by
                unfold frz at hq
                simpa using hq
              obtain ⟨p, hp1, hp2⟩ := hpk k (by omega)
              rw [hp2, tn_nI (by omega)] at q2
              have q3 : (scb B w).2 6 f &&& z ≠ 0 := and_bits.mpr ⟨p, by omega, by rw [a6]; exact q2, by
                rw [hz2 p (by omega), b_0, Bool.false_or, List.any_eq_true]
                exact ⟨k, hm, by rw [a9, hp2]; simp [ho.2]⟩⟩
              rw [g0, a7, a8, q1]
              simp [q3]
            rw [h6] at h2
            cases h2
        simp [opB, ho, h4, h5]
      · have : (opB M k && decide (M.2 14 k = own)) = false := by
          cases h1 : opB M k with
          | false => rfl
          | true =>
            have : ¬ M.2 14 k = own := fun q => ho ⟨h1, q⟩
            simp [this]
        rw [this]
        rfl
    · intro h1
      refine ⟨fun r hr => ?_, ?_⟩
      · have hm := mem_opn.mp hr
        have h2 := h1 r (Nat.zero_le _) (by omega)
        rw [a15]
        by_cases ho : M.2 14 r = own
        · have h3 : ¬ M.2 16 r = 0 ∧ alls (fun f => !frz M r f) 0 nf = true := by simpa [opB, hm.2, ho] using h2
          simp [h3.1]
        · simp [ho]
      · cases hq : exi (fun f => (!decide ((scb B w).2 6 f &&& z = 0)) && inr ((scb B w).1 0) ((scb B w).2 7 f) ((scb B w).2 8 f)) 0 nf with
        | false => rfl
        | true =>
          exfalso
          obtain ⟨f, -, hf2, hq2⟩ := exi_iff.mp hq
          obtain ⟨q1, q2⟩ : ¬ ((scb B w).2 6 f &&& z = 0) ∧ inr ((scb B w).1 0) ((scb B w).2 7 f) ((scb B w).2 8 f) = true := by simpa using hq2
          obtain ⟨j, hj, q3, q4⟩ := and_bits.mp q1
          rw [hz2 j hj, b_0, Bool.false_or, List.any_eq_true] at q4
          obtain ⟨r, hr, q5⟩ := q4
          have hm := mem_opn.mp hr
          obtain ⟨q6, q7⟩ : M.2 14 r = own ∧ (scb B w).2 9 r = nI j := by simpa using q5
          have h2 := h1 r (Nat.zero_le _) (by omega)
          have h3 : ¬ M.2 16 r = 0 ∧ alls (fun f => !frz M r f) 0 nf = true := by simpa [opB, hm.2, q6] using h2
          have h4 := alls_iff.mp h3.2 f (Nat.zero_le _) hf2
          rw [g0, a7, a8] at q2
          rw [a6] at q3
          rw [a9] at q7
          have h5 : frz M r f = true := by
            unfold frz
            rw [q7, tn_nI (by omega), q2, q3]
            rfl
          rw [h5] at h4
          cases h4
  unfold f6_isLandable
  rw [hB, Option.bind_some]
  dsimp only
  by_cases hc : fcG M nn nr own = 0
  · have hc2 : fcn M nn nr (fun k => opB M k && decide (M.2 14 k = own)) = 0 := hc
    rw [hc2, if_pos nI_0, hA2, Option.bind_some, hc]
    dsimp only
    rw [← key]
    cases h1 : (opn M nr).all (fun r => !decide (M.2 14 r = own) || !decide ((scb B w).2 15 r = 0)) with
    | false => rw [if_pos bI_f]; rfl
    | true =>
      rw [if_neg (by decide), hz3, Option.bind_some]
      dsimp only
      rw [hF2, Option.bind_some]
      dsimp only
      cases h2 : exi (fun f => (!decide ((scb B w).2 6 f &&& z = 0)) && inr ((scb B w).1 0) ((scb B w).2 7 f) ((scb B w).2 8 f)) 0 nf with
      | false => rw [if_pos bI_f]; rfl
      | true => rw [if_neg (by decide)]; rfl
  · have hc2 : ¬ nI (fcn M nn nr (fun k => opB M k && decide (M.2 14 k = own))) = 0 := fun q => hc (by
      have q2 : nI (fcG M nn nr own) = nI 0 := q.trans nI_0.symm
      exact (nI_eq (by unfold fcG; omega) (by omega)).mp q2)
    rw [if_neg hc2]
    simp [hc, bI]
theorem sim_canLand {B M : St} {np nn nf nr d : Nat} (h : Rel B M np nn nf nr d) (v : Int32) : Sim (y6_canLand B v) (f7_canLand M v) ps13 := by
  have hr := h.nr
  rcases y_ckO h v with ⟨hv, hc⟩ | ⟨r, hr1, rfl, hv, h9, hc⟩ | ⟨r, ho, hr1, rfl, hv, h9, hc⟩
  · refine Sim.no (k := 1) (t := 1) h ?_ ?_ rfl (by omega) (by omega)
    · unfold y6_canLand
      rw [hc]
      rfl
    · unfold f7_canLand
      rw [m_isRaise, Option.bind_some, hv]
      exact no_canLand (by decide)
  · have lM : ldA M 9 40 (nI r) = some (M.2 9 r) := ldA_ok (by omega) (by omega)
    refine Sim.no (k := 3) (t := 2) h ?_ ?_ rfl (by omega) (by omega)
    · unfold y6_canLand
      rw [hc]
      rfl
    · unfold f7_canLand
      rw [m_isRaise, Option.bind_some, hv]
      dsimp only
      rw [if_neg (by decide), lM, Option.bind_some, if_neg h9]
      exact no_canLand (by decide)
  · have lM : ldA M 9 40 (nI r) = some (M.2 9 r) := ldA_ok (by omega) (by omega)
    have l14 : ldA (sF M 0 0) 14 40 (nI r) = some (M.2 14 r) := ldA_ok (by omega) (by omega)
    obtain ⟨y, y1, y2, y3⟩ := h.gOf ho
    obtain ⟨w, hB⟩ := b_landable h y2
    obtain ⟨w2, hM⟩ := m_landable (h.th 0) (M.2 14 r)
    have he : (decide (fcG (sF M 0 0) nn nr (M.2 14 r) = 0) && lnd (sF M 0 0) nf nr (M.2 14 r)) = (decide (fcG M nn nr (M.2 14 r) = 0) && lnd M nf nr (M.2 14 r)) := rfl
    rw [he] at hM
    generalize (decide (fcG M nn nr (M.2 14 r) = 0) && lnd M nf nr (M.2 14 r)) = bb at hB hM
    refine ⟨scb B w, scr (sF M 0 0) w2, bI bb, 0, bI bb, ?_, ?_, ⟨np, nn, nf, nr, d, ((h.th 0).scr w2).scb w⟩, rfl, by omega, fun _ => rfl⟩
    · unfold y6_canLand
      rw [hc, xB_0]
      dsimp only
      rw [y1, Option.bind_some]
      dsimp only
      rw [hB, Option.bind_some]
      dsimp only
      rw [bz_ok (bI_01 _), Option.bind_some]
    · unfold f7_canLand
      rw [m_isRaise, Option.bind_some, hv]
      dsimp only
      rw [if_neg (by decide), lM, Option.bind_some, if_pos h9]
      unfold f7_canLand_J29
      rw [f7_refused_eq, Option.bind_some, if_pos rfl]
      dsimp only
      rw [if_pos rfl, l14, Option.bind_some, hM, Option.bind_some]
      dsimp only
      cases bb with
      | false => rw [if_pos bI_f]; rfl
      | true => rw [if_neg (by decide)]; rfl
