/-! what is asked: the class and the model answer alike -/
theorem bt_nI {v i : Nat} (hi : i < 32) : bt (nI v) i = v.testBit i := by
  unfold bt
  show (BitVec.ofNat 32 v).getLsbD i = _
  rw [BitVec.getLsbD_ofNat]
  simp [hi]
theorem small_of {y : Int32} {n : Nat} (hn : n ≤ 31) (h : ∀ j, j < 32 → n ≤ j → bt y j = false) : ∃ v, v < 2 ^ n ∧ y = nI v := by
  refine ⟨y.toBitVec.toNat, ?_, ?_⟩
  · refine Nat.lt_pow_two_of_testBit _ fun i hi => ?_
    by_cases h32 : i < 32
    · exact h i h32 hi
    · have := y.toBitVec.isLt
      exact Nat.testBit_lt_two_pow (Nat.lt_of_lt_of_le this (Nat.pow_le_pow_right (by omega) (by omega)))
  · refine b_ext fun i hi => ?_
    rw [bt_nI hi]
    rfl
def pop (v : Nat) : Nat := (List.range' 0 10).countP (fun i => v.testBit i)
set_option maxRecDepth 100000 in
set_option maxHeartbeats 4000000 in
theorem bc_all : ∀ v, v < 1024 → (fJ_bitCount_0f7a4 ((fun _ => 0), fun _ _ => 0) (nI v)).map (fun q => q.2) = some (nI (pop v)) := by decide +kernel
theorem bc_state (S T : St) (x : Int32) : (fJ_bitCount_0f7a4 S x).map (fun q => q.2) = (fJ_bitCount_0f7a4 T x).map (fun q => q.2) := rfl
theorem b_count {B : St} {y : Int32} (h : ∀ j, j < 32 → 10 ≤ j → bt y j = false) : fJ_bitCount_0f7a4 B y = some (B, nI (cnt (bt y) 0 10)) := by
  obtain ⟨v, hv, rfl⟩ := small_of (n := 10) (by omega) h
  have h1 := bc_all v hv
  rw [bc_state _ B] at h1
  have h2 : ∃ z, fJ_bitCount_0f7a4 B (nI v) = some (B, z) := ⟨_, rfl⟩
  obtain ⟨z, hz⟩ := h2
  rw [hz] at h1 ⊢
  have h3 : z = nI (pop v) := Option.some.inj h1
  rw [h3]
  refine congrArg (fun q => some (B, nI q)) ?_
  unfold pop cnt
  exact countP_congr2 fun i hi => by
    have := (List.mem_range'_1.mp hi).2
    rw [bt_nI (by omega)]
theorem cnt_app (p : Nat → Bool) : ∀ (a i b : Nat), cnt p i (a + b) = cnt p i a + cnt p (i + a) b
  | 0, i, b => by rw [Nat.zero_add, cnt_0, Nat.zero_add, Nat.add_zero]
  | a + 1, i, b => by
    rw [show a + 1 + b = (a + b) + 1 by omega, cnt_s, cnt_s, cnt_app p a (i + 1) b, show i + 1 + a = i + (a + 1) by omega, Nat.add_assoc]
theorem cnt_none {p : Nat → Bool} : ∀ {m i : Nat}, (∀ k, i ≤ k → k < i + m → p k = false) → cnt p i m = 0
  | 0, _, _ => rfl
  | m + 1, i, h => by
    rw [cnt_s, h i (by omega) (by omega), cnt_none (fun k h1 h2 => h k (by omega) (by omega))]
    rfl
theorem cnt_list {b P : Nat → Bool} : ∀ (l : List Nat) (i0 : Nat), (∀ (i r : Nat), l[i]? = some r → b (i0 + i) = P r) → l.countP P = cnt b i0 l.length
  | [], _, _ => rfl
  | r :: l, i0, h => by
    have h0 := h 0 r rfl
    rw [Nat.add_zero] at h0
    rw [List.countP_cons, List.length_cons, cnt_s, h0, cnt_list l (i0 + 1) (fun i q hq => by
      have := h (i + 1) q hq
      rw [← this]
      congr 1
      omega)]
    omega
theorem cnt_set {B M : St} {np nn nf nr d : Nat} (h : Rel B M np nn nf nr d) {y : Int32} {P : Nat → Bool} (hy : SetIs (opn M nr) y P) (hz : ∀ j, j < 32 → (opn M nr).length ≤ j → bt y j = false) : cnt (bt y) 0 10 = (opn M nr).countP P := by
  have h10 := h.ol.2.1
  rw [cnt_list (b := bt y) (opn M nr) 0 (fun i r hi => by rw [Nat.zero_add]; exact hy i r hi)]
  obtain ⟨c, hc⟩ : ∃ c, 10 = (opn M nr).length + c := ⟨10 - (opn M nr).length, by omega⟩
  have h1 : cnt (bt y) 0 ((opn M nr).length + c) = cnt (bt y) 0 (opn M nr).length := by
    have h2 : cnt (bt y) (0 + (opn M nr).length) c = 0 := cnt_none (fun k h1 h2 => hz k (by omega) (by omega))
    rw [cnt_app, h2, Nat.add_zero]
  rw [← hc] at h1
  exact h1
/-- the set of a raise's group -/
theorem Rel.gOf {B M : St} {np nn nf nr d r : Nat} (h : Rel B M np nn nf nr d) (hr : r ∈ opn M nr) : ∃ y, f4_groupOf B (nI r) = some (B, y) ∧ SetIs (opn M nr) y (fun q => decide (M.2 14 q = M.2 14 r)) ∧ ∀ j, j < 32 → (opn M nr).length ≤ j → bt y j = false := by
  have h1 := (mem_opn.mp hr).1
  have h40 := h.nr.2
  obtain ⟨y, y1, y2, y3⟩ := b_groupOf h.ol (v := r) (by omega)
  refine ⟨y, y1, fun i q hq => ?_, y3⟩
  rw [y2 i q hq]
  dsimp only
  rw [h.grp (List.mem_of_getElem? hq), h.grp hr]
theorem Rel.size {B M : St} {np nn nf nr d : Nat} (h : Rel B M np nn nf nr d) (g : Int32) : f7_sizeOf M g = some (M, nI ((opn M nr).countP fun q => decide (M.2 14 q = g))) := by
  rw [m_sizeOf h.nr.1 h.nr.2, cnt_opn]
theorem Rel.count {B M : St} {np nn nf nr d : Nat} (h : Rel B M np nn nf nr d) {y : Int32} {P : Nat → Bool} (hy : SetIs (opn M nr) y P) (hz : ∀ j, j < 32 → (opn M nr).length ≤ j → bt y j = false) : fJ_bitCount_0f7a4 B y = some (B, nI ((opn M nr).countP P)) := by
  have h10 := h.ol.2.1
  rw [b_count (fun j h1 h2 => hz j h1 (by omega)), cnt_set h hy hz]
/-- how many needs fail with a group -/
theorem m_failsG {B M : St} {np nn nf nr d : Nat} (h : Rel B M np nn nf nr d) (x y : Int32) : ∃ w, f7_failsWith M x y = some (scr M w, nI (fcn M nn nr (fun k => opB M k && (decide (M.2 14 k = x) || decide (M.2 14 k = y))))) := by
  have h1 := m_failsWith (M := M) h.np.1 h.np.2 h.nn.1 h.nn.2 h.1.2.1 h.nr.1 h.nr.2 h.1.2.2.1 x y (M.2 17)
  rw [scr_self] at h1
  exact h1
theorem fcn_le (M : St) (nn nr : Nat) (P : Nat → Bool) : fcn M nn nr P ≤ nn := cnt_le _ _ _
theorem sim_version {B M : St} {np nn nf nr d : Nat} (h : Rel B M np nn nf nr d) (v : Int32) : Sim (y6_version B v) (f7_version M v) ps1 := by
  have f1 := h.2.2.1.2.1
  have hp := h.np
  cases hv : inr v 0 (M.1 2 - 1) with
  | false =>
    refine Sim.no (k := 1) (t := 1) h ?_ ?_ rfl (by omega) (by omega)
    · unfold y6_version
      rw [y_ckP, f1, hv]
      rfl
    · unfold f7_version
      rw [m_isPack, Option.bind_some, hv]
      exact no_version (by decide)
  | true =>
    have hv2 := hv
    rw [hp.1] at hv2
    obtain ⟨j, hj, rfl⟩ := (inr_ix (by omega)).mp hv2
    have lB : ldA B 0 12 (nI j) = some (M.2 0 j) := by rw [ldA_ok (by omega) (by omega), h.2.1.1.1]
    have lM : ldA (sF M 0 0) 0 12 (nI j) = some (M.2 0 j) := ldA_ok (by omega) (by omega)
    refine ⟨B, sF M 0 0, M.2 0 j, 0, M.2 0 j, ?_, ?_, ⟨np, nn, nf, nr, d, h.th 0⟩, rfl, by omega, fun _ => rfl⟩
    · unfold y6_version
      rw [y_ckP, f1, hv, if_pos rfl, xB_0]
      dsimp only
      rw [lB, Option.bind_some]
    · unfold f7_version
      rw [m_isPack, Option.bind_some, hv]
      dsimp only
      rw [if_neg (by decide)]
      unfold f7_version_J14
      rw [f7_refused_eq, Option.bind_some, if_pos rfl]
      dsimp only
      rw [if_pos rfl, lM, Option.bind_some]
theorem sim_load {B M : St} {np nn nf nr d : Nat} (h : Rel B M np nn nf nr d) (v : Int32) : Sim (y6_load B v) (f7_load M v) ps1 := by
  have h10 := h.ol.2.1
  cases hv : inr v 0 5 with
  | false =>
    refine Sim.no (k := 1) (t := 1) h ?_ ?_ rfl (by omega) (by omega)
    · unfold y6_load
      rw [y_ckV, hv]
      rfl
    · unfold f7_load
      rw [m_isReviewer, Option.bind_some, hv]
      exact no_load (by decide)
  | true =>
    have hB : f5_loadWithout B v (-1) = some (B, nI (0 + (opn M nr).countP fun r => (!decide (nI r = -1)) && decide (B.2 14 r = v))) := b_loadW_L h.ol v (-1) (opn M nr) 0 2000 0 rfl (by omega) (by omega)
    have hM : f7_loadOf (sF M 0 0) v (-1) = _ := m_loadOf (M := sF M 0 0) h.nr.1 h.nr.2 v (-1)
    have he : cnt (fun k => (!decide (nI k = -1)) && (opB (sF M 0 0) k && decide ((sF M 0 0).2 15 k = v))) 0 nr = 0 + (opn M nr).countP fun r => (!decide (nI r = -1)) && decide (B.2 14 r = v) := by
      rw [Nat.zero_add, h.2.1.2.2.2.2.1, ← cnt_opn]
      refine cnt_congr fun k _ _ => ?_
      show ((!decide (nI k = -1)) && (opB M k && decide (M.2 15 k = v))) = _
      cases opB M k <;> simp
    rw [he] at hM
    refine ⟨B, sF M 0 0, nI (0 + (opn M nr).countP fun r => (!decide (nI r = -1)) && decide (B.2 14 r = v)), 0, nI (0 + (opn M nr).countP fun r => (!decide (nI r = -1)) && decide (B.2 14 r = v)), ?_, ?_, ⟨np, nn, nf, nr, d, h.th 0⟩, rfl, by omega, fun _ => rfl⟩
    · unfold y6_load
      rw [y_ckV, hv, if_pos rfl, xB_0]
      dsimp only
      rw [hB, Option.bind_some]
    · unfold f7_load
      rw [m_isReviewer, Option.bind_some, hv]
      dsimp only
      rw [if_neg (by decide)]
      unfold f7_load_J13
      rw [f7_refused_eq, Option.bind_some, if_pos rfl]
      dsimp only
      rw [if_pos rfl, hM, Option.bind_some]
/-- a number of a raise: there is none, it is not open, it is -/
theorem y_ckO {B M : St} {np nn nf nr d : Nat} (h : Rel B M np nn nf nr d) (v : Int32) :
    (inr v 0 (M.1 6 - 1) = false ∧ y6_checkOpen B v = some (B, 0, 1)) ∨ (∃ r, r < nr ∧ v = nI r ∧ inr (nI r) 0 (M.1 6 - 1) = true ∧ M.2 9 r ≠ 0 ∧ y6_checkOpen B (nI r) = some (B, 0, 3)) ∨ ∃ r, r ∈ opn M nr ∧ r < nr ∧ v = nI r ∧ inr (nI r) 0 (M.1 6 - 1) = true ∧ M.2 9 r = 0 ∧ y6_checkOpen B (nI r) = some (B, 0, 0) := by
  have f4 := h.2.2.1.2.2.2.2.1
  have hr := h.nr
  cases hv : inr v 0 (M.1 6 - 1) with
  | false =>
    refine Or.inl ⟨rfl, ?_⟩
    unfold y6_checkOpen
    rw [y_ckR, f4, hv]
    rfl
  | true =>
    have hv2 := hv
    rw [hr.1] at hv2
    obtain ⟨r, hj, rfl⟩ := (inr_ix (by omega)).mp hv2
    have lB : ldA B 13 40 (nI r) = some (M.2 9 r) := by rw [ldA_ok (by omega) (by omega), h.2.1.2.2.2.1]
    have hc : y6_checkOpen B (nI r) = if M.2 9 r = 0 then some (B, 0, 0) else some (B, 0, 3) := by
      unfold y6_checkOpen
      rw [y_ckR, f4, hv, if_pos rfl, xB_0]
      dsimp only
      rw [lB, Option.bind_some]
    by_cases h9 : M.2 9 r = 0
    · exact Or.inr (Or.inr ⟨r, mem_opn.mpr ⟨hj, h9⟩, hj, rfl, hv, h9, by rw [hc, if_pos h9]⟩)
    · exact Or.inr (Or.inl ⟨r, hj, rfl, hv, h9, by rw [hc, if_neg h9]⟩)
theorem sim_fails {B M : St} {np nn nf nr d : Nat} (h : Rel B M np nn nf nr d) (v : Int32) : Sim (y6_fails B v) (f7_fails M v) ps13 := by
  have hr := h.nr
  rcases y_ckO h v with ⟨hv, hc⟩ | ⟨r, hr1, rfl, hv, h9, hc⟩ | ⟨r, ho, hr1, rfl, hv, h9, hc⟩
  · refine Sim.no (k := 1) (t := 1) h ?_ ?_ rfl (by omega) (by omega)
    · unfold y6_fails
      rw [hc]
      rfl
    · unfold f7_fails
      rw [m_isRaise, Option.bind_some, hv]
      exact no_fails (by decide)
  · have lM : ldA M 9 40 (nI r) = some (M.2 9 r) := ldA_ok (by omega) (by omega)
    refine Sim.no (k := 3) (t := 2) h ?_ ?_ rfl (by omega) (by omega)
    · unfold y6_fails
      rw [hc]
      rfl
    · unfold f7_fails
      rw [m_isRaise, Option.bind_some, hv]
      dsimp only
      rw [if_neg (by decide), lM, Option.bind_some, if_neg h9]
      exact no_fails (by decide)
  · have lM : ldA M 9 40 (nI r) = some (M.2 9 r) := ldA_ok (by omega) (by omega)
    have l14 : ldA (sF M 0 0) 14 40 (nI r) = some (M.2 14 r) := ldA_ok (by omega) (by omega)
    obtain ⟨y, y1, y2, y3⟩ := h.gOf ho
    obtain ⟨w, hB⟩ := b_failing h y2
    obtain ⟨w2, hM⟩ := m_failsG (h.th 0) (M.2 14 r) (M.2 14 r)
    have he : fcn (sF M 0 0) nn nr (fun k => opB (sF M 0 0) k && (decide ((sF M 0 0).2 14 k = M.2 14 r) || decide ((sF M 0 0).2 14 k = M.2 14 r))) = fcn M nn nr (fun k => opB M k && decide (M.2 14 k = M.2 14 r)) := by
      show fcn M nn nr _ = _
      exact fcn_congr fun k _ => by rw [Bool.or_self]; rfl
    rw [he] at hM
    refine ⟨scb B w, scr (sF M 0 0) w2, nI (fcn M nn nr (fun k => opB M k && decide (M.2 14 k = M.2 14 r))), 0, nI (fcn M nn nr (fun k => opB M k && decide (M.2 14 k = M.2 14 r))), ?_, ?_, ⟨np, nn, nf, nr, d, ((h.th 0).scr w2).scb w⟩, rfl, by omega, fun _ => rfl⟩
    · unfold y6_fails
      rw [hc, xB_0]
      dsimp only
      rw [y1, Option.bind_some]
      dsimp only
      rw [hB, Option.bind_some]
    · unfold f7_fails
      rw [m_isRaise, Option.bind_some, hv]
      dsimp only
      rw [if_neg (by decide), lM, Option.bind_some, if_pos h9]
      unfold f7_fails_J29
      rw [f7_refused_eq, Option.bind_some, if_pos rfl]
      dsimp only
      rw [if_pos rfl, l14, Option.bind_some, Option.bind_some, hM, Option.bind_some]
theorem sim_approve {B M : St} {np nn nf nr d : Nat} (h : Rel B M np nn nf nr d) (v : Int32) : Sim (y6_approve B v) (f7_approve M v) ps13 := by
  have hr := h.nr
  rcases y_ckO h v with ⟨hv, hc⟩ | ⟨r, hr1, rfl, hv, h9, hc⟩ | ⟨r, ho, hr1, rfl, hv, h9, hc⟩
  · refine Sim.no (k := 1) (t := 1) h ?_ ?_ rfl (by omega) (by omega)
    · unfold y6_approve
      rw [hc]
      rfl
    · unfold f7_approve
      rw [m_isRaise, Option.bind_some, hv]
      exact no_approve (by decide)
  · have lM : ldA M 9 40 (nI r) = some (M.2 9 r) := ldA_ok (by omega) (by omega)
    refine Sim.no (k := 3) (t := 2) h ?_ ?_ rfl (by omega) (by omega)
    · unfold y6_approve
      rw [hc]
      rfl
    · unfold f7_approve f7_approve_J34
      rw [m_isRaise, Option.bind_some, hv]
      dsimp only
      rw [if_neg (by decide), lM, Option.bind_some, if_neg h9]
      exact no_approve (by decide)
  · have lM : ldA M 9 40 (nI r) = some (M.2 9 r) := ldA_ok (by omega) (by omega)
    have l15 : ldA M 15 40 (nI r) = some (M.2 15 r) := ldA_ok (by omega) (by omega)
    have lB : ldA B 14 40 (nI r) = some (M.2 15 r) := by rw [ldA_ok (by omega) (by omega), h.2.1.2.2.2.2.1]
    by_cases h15 : M.2 15 r = -1
    · refine Sim.no (k := 3) (t := 2) h ?_ ?_ rfl (by omega) (by omega)
      · unfold y6_approve
        rw [hc, xB_0]
        dsimp only
        rw [lB, Option.bind_some, if_pos h15]
      · unfold f7_approve f7_approve_J34
        rw [m_isRaise, Option.bind_some, hv]
        dsimp only
        rw [if_neg (by decide), lM, Option.bind_some, if_pos h9, l15, Option.bind_some, if_pos h15]
        exact no_approve (by decide)
    · have a01 := h.1.2.2.2.2.1 r
      have lB2 : ldA B 15 40 (nI r) = some (M.2 16 r) := by rw [ldA_ok (by omega) (by omega), h.2.1.2.2.2.2.2.1]
      have sB : stZ B 15 40 (nI r) 1 = some (stS B 15 r 1) := stZ_ok (by omega) (by omega) (Or.inr rfl)
      have l16 : ldA (sF M 0 0) 16 40 (nI r) = some (M.2 16 r) := ldA_ok (by omega) (by omega)
      have sM : stZ (sF M 0 0) 16 40 (nI r) 1 = some (stS (sF M 0 0) 16 r 1) := stZ_ok (by omega) (by omega) (Or.inr rfl)
      refine ⟨stS B 15 r 1, stS (sF M 0 0) 16 r 1, M.2 16 r, 0, M.2 16 r, ?_, ?_, ⟨np, nn, nf, nr, d, ?_⟩, rfl, by omega, fun _ => rfl⟩
      · unfold y6_approve
        rw [hc, xB_0]
        dsimp only
        rw [lB, Option.bind_some, if_neg h15, lB2, Option.bind_some, sB, Option.bind_some, bz_ok a01, Option.bind_some]
      · unfold f7_approve
        rw [m_isRaise, Option.bind_some, hv]
        dsimp only
        rw [if_neg (by decide), lM, Option.bind_some, if_pos h9, l15, Option.bind_some, if_neg h15]
        unfold f7_approve_J39
        rw [f7_refused_eq, Option.bind_some, if_pos rfl]
        dsimp only
        rw [if_pos rfl, l16, Option.bind_some, sM, Option.bind_some, bz_ok a01, Option.bind_some]
      · have h2 := (h.th 0).rv hr1 (M.2 15 r) (a := 1) (Or.inr rfl)
        have e1 : stS (stS (sF M 0 0) 16 r 1) 15 r (M.2 15 r) = stS (sF M 0 0) 16 r 1 := stS_same rfl
        have e2 : stS B 14 r (M.2 15 r) = B := stS_same (by rw [h.2.1.2.2.2.2.1])
        rw [e1, e2] at h2
        exact h2
