/-! what is told of a raise -/
theorem inr_06 {v : Int32} : inr v 0 6 = true ↔ v = 0 ∨ v = 1 ∨ v = 2 ∨ v = 3 ∨ v = 4 ∨ v = 5 ∨ v = 6 := by
  constructor
  · intro h
    obtain ⟨j, -, h2, rfl⟩ := (inr_lo (a := 0) (b := 6) (by omega) (by omega)).mp h
    match j, h2 with
    | 0, _ => exact Or.inl rfl
    | 1, _ => exact Or.inr (Or.inl rfl)
    | 2, _ => exact Or.inr (Or.inr (Or.inl rfl))
    | 3, _ => exact Or.inr (Or.inr (Or.inr (Or.inl rfl)))
    | 4, _ => exact Or.inr (Or.inr (Or.inr (Or.inr (Or.inl rfl))))
    | 5, _ => exact Or.inr (Or.inr (Or.inr (Or.inr (Or.inr (Or.inl rfl)))))
    | 6, _ => exact Or.inr (Or.inr (Or.inr (Or.inr (Or.inr (Or.inr rfl)))))
    | n + 7, h => exact absurd h (by omega)
  · rintro (rfl | rfl | rfl | rfl | rfl | rfl | rfl) <;> decide
theorem sim_raiseOf {B M : St} {np nn nf nr d : Nat} (h : Rel B M np nn nf nr d) (v t : Int32) : Sim (y6_raiseOf B v t) (f7_raiseOf M v t) ps12 := by
  have hr := h.nr
  have f4 := h.2.2.1.2.2.2.2.1
  cases hv : inr v 0 (M.1 6 - 1) with
  | false =>
    refine Sim.no (k := 1) (t := 1) h ?_ ?_ rfl (by omega) (by omega)
    · unfold y6_raiseOf
      rw [y_ckR, f4, hv]
      rfl
    · unfold f7_raiseOf
      rw [m_isRaise, Option.bind_some, hv]
      exact no_raiseOf (by decide)
  | true =>
    have hv2 := hv
    rw [hr.1] at hv2
    obtain ⟨r, hj, rfl⟩ := (inr_ix (by omega)).mp hv2
    have hM0 : f7_raiseOf M (nI r) t = if bI (inr t 0 6) = 0 then f7_raiseOf_J28 (nI r) t 2 M else f7_raiseOf_J28 (nI r) t 0 M := by
      unfold f7_raiseOf
      rw [m_isRaise, Option.bind_some, hv]
      dsimp only
      rw [if_neg (by decide), f7_in_eq, Option.bind_some]
    cases ht : inr t 0 6 with
    | false =>
      have hn : ∀ c, t = c → inr c 0 6 = true → False := fun c hc q => by rw [← hc, ht] at q; cases q
      refine Sim.no (k := 2) (t := 2) h ?_ ?_ rfl (by omega) (by omega)
      · unfold y6_raiseOf
        rw [y_ckR, f4, hv, if_pos rfl, xB_0]
        dsimp only
        rw [if_neg (fun q => hn 0 q (by decide)), if_neg (fun q => hn 1 q (by decide)), if_neg (fun q => hn 2 q (by decide)), if_neg (fun q => hn 3 q (by decide)), if_neg (fun q => hn 4 q (by decide)), if_neg (fun q => hn 5 q (by decide)), if_neg (fun q => hn 6 q (by decide))]
      · rw [hM0, ht, if_pos bI_f]
        exact no_raiseOf (by decide)
    | true =>
      rw [ht, if_neg (by decide)] at hM0
      have fin : ∀ x, y6_raiseOf B (nI r) t = some (B, x, 0) → f7_raiseOf_J28 (nI r) t 0 M = some (sF M 0 0, x) → Sim (y6_raiseOf B (nI r) t) (f7_raiseOf M (nI r) t) ps12 := fun x q1 q2 =>
        ⟨B, sF M 0 0, x, 0, x, q1, by rw [hM0]; exact q2, ⟨np, nn, nf, nr, d, h.th 0⟩, rfl, by omega, fun _ => rfl⟩
      have lB : ∀ k, ldA B k 40 (nI r) = some (B.2 k r) := fun k => ldA_ok (by omega) (by omega)
      have lM : ∀ k, ldA (sF M 0 0) k 40 (nI r) = some (M.2 k r) := fun k => ldA_ok (by omega) (by omega)
      obtain ⟨-, -, ⟨a9, a10, -⟩, a13, a14, a15, -⟩ := h.2.1
      have hg := h.2.2.2.2.2 r hj
      rcases inr_06.mp ht with rfl | rfl | rfl | rfl | rfl | rfl | rfl
      · refine fin (M.2 9 r) ?_ ?_
        · unfold y6_raiseOf
          rw [y_ckR, f4, hv, if_pos rfl, xB_0]
          dsimp only
          rw [if_pos rfl, lB, Option.bind_some, a13]
        · unfold f7_raiseOf_J28
          rw [f7_refused_eq, Option.bind_some, if_pos rfl]
          dsimp only
          rw [if_pos rfl, if_pos rfl, lM, Option.bind_some]
      · refine fin (M.2 10 r) ?_ ?_
        · unfold y6_raiseOf
          rw [y_ckR, f4, hv, if_pos rfl, xB_0]
          dsimp only
          rw [if_neg (by decide), if_pos rfl, lB, Option.bind_some, a9]
        · unfold f7_raiseOf_J28
          rw [f7_refused_eq, Option.bind_some, if_pos rfl]
          dsimp only
          rw [if_pos rfl, if_neg (by decide), if_pos rfl, lM, Option.bind_some]
      · refine fin (M.2 11 r) ?_ ?_
        · unfold y6_raiseOf
          rw [y_ckR, f4, hv, if_pos rfl, xB_0]
          dsimp only
          rw [if_neg (by decide), if_neg (by decide), if_pos rfl, lB, Option.bind_some, a10]
        · unfold f7_raiseOf_J28
          rw [f7_refused_eq, Option.bind_some, if_pos rfl]
          dsimp only
          rw [if_pos rfl, if_neg (by decide), if_neg (by decide), if_pos rfl, lM, Option.bind_some]
      · refine fin (M.2 15 r) ?_ ?_
        · unfold y6_raiseOf
          rw [y_ckR, f4, hv, if_pos rfl, xB_0]
          dsimp only
          rw [if_neg (by decide), if_neg (by decide), if_neg (by decide), if_pos rfl, lB, Option.bind_some, a14]
        · unfold f7_raiseOf_J28
          rw [f7_refused_eq, Option.bind_some, if_pos rfl]
          dsimp only
          rw [if_pos rfl, if_neg (by decide), if_neg (by decide), if_neg (by decide), if_pos rfl, lM, Option.bind_some]
      · refine fin (if M.2 16 r = 0 then 0 else 1) ?_ ?_
        · unfold y6_raiseOf
          rw [y_ckR, f4, hv, if_pos rfl, xB_0]
          dsimp only
          rw [if_neg (by decide), if_neg (by decide), if_neg (by decide), if_neg (by decide), if_pos rfl, lB, Option.bind_some, a15]
          by_cases q : M.2 16 r = 0
          · rw [if_pos q, if_pos q]
          · rw [if_neg q, if_neg q]
        · unfold f7_raiseOf_J28
          rw [f7_refused_eq, Option.bind_some, if_pos rfl]
          dsimp only
          rw [if_pos rfl, if_neg (by decide), if_neg (by decide), if_neg (by decide), if_neg (by decide), if_pos rfl, lM, Option.bind_some]
          by_cases q : M.2 16 r = 0
          · rw [if_pos q, if_pos q]
          · rw [if_neg q, if_neg q]
      · refine fin (if M.2 9 r = 0 then M.2 14 r else -1) ?_ ?_
        · unfold y6_raiseOf
          rw [y_ckR, f4, hv, if_pos rfl, xB_0]
          dsimp only
          rw [if_neg (by decide), if_neg (by decide), if_neg (by decide), if_neg (by decide), if_neg (by decide), if_pos rfl, lB, Option.bind_some, hg]
        · unfold f7_raiseOf_J28
          rw [f7_refused_eq, Option.bind_some, if_pos rfl]
          dsimp only
          rw [if_pos rfl, if_neg (by decide), if_neg (by decide), if_neg (by decide), if_neg (by decide), if_neg (by decide), if_pos rfl, lM, Option.bind_some]
          by_cases q : M.2 9 r = 0
          · rw [if_pos q, if_pos q, lM, Option.bind_some]
          · rw [if_neg q, if_neg q]
      · by_cases h9 : M.2 9 r = 0
        · have ho : r ∈ opn M nr := mem_opn.mpr ⟨hj, h9⟩
          obtain ⟨y, y1, y2, y3⟩ := h.gOf ho
          refine fin (nI ((opn M nr).countP fun q => decide (M.2 14 q = M.2 14 r))) ?_ ?_
          · unfold y6_raiseOf
            rw [y_ckR, f4, hv, if_pos rfl, xB_0]
            dsimp only
            rw [if_neg (by decide), if_neg (by decide), if_neg (by decide), if_neg (by decide), if_neg (by decide), if_neg (by decide), if_pos rfl, y1, Option.bind_some]
            dsimp only
            rw [h.count y2 y3, Option.bind_some]
          · unfold f7_raiseOf_J28
            rw [f7_refused_eq, Option.bind_some, if_pos rfl]
            dsimp only
            rw [if_pos rfl, if_neg (by decide), if_neg (by decide), if_neg (by decide), if_neg (by decide), if_neg (by decide), if_neg (by decide), lM, Option.bind_some, if_pos h9, lM, Option.bind_some, (h.th 0).size, Option.bind_some]
            rfl
        · obtain ⟨y, y1, y2, y3⟩ := b_groupOf h.ol (v := r) (by omega)
          have y4 : SetIs (opn M nr) y (fun _ => false) := fun i q hq => by
            have hm := List.mem_of_getElem? hq
            rw [y2 i q hq]
            dsimp only
            rw [h.grp hm, hg, if_neg h9]
            obtain ⟨g, hgk, q1, -⟩ := h.1.2.2.2.1 q (mem_opn.mp hm).1 (mem_opn.mp hm).2
            have hlt : g < 2 ^ 31 := by
              have := (mem_opn.mp hm).1
              omega
            rw [q1]
            simp [nI_m1 hlt]
          have hz : (opn M nr).countP (fun _ => false) = 0 := by simp
          refine fin 0 ?_ ?_
          · unfold y6_raiseOf
            rw [y_ckR, f4, hv, if_pos rfl, xB_0]
            dsimp only
            rw [if_neg (by decide), if_neg (by decide), if_neg (by decide), if_neg (by decide), if_neg (by decide), if_neg (by decide), if_pos rfl, y1, Option.bind_some]
            dsimp only
            rw [h.count y4 y3, Option.bind_some, hz]
            rfl
          · unfold f7_raiseOf_J28
            rw [f7_refused_eq, Option.bind_some, if_pos rfl]
            dsimp only
            rw [if_pos rfl, if_neg (by decide), if_neg (by decide), if_neg (by decide), if_neg (by decide), if_neg (by decide), if_neg (by decide), lM, Option.bind_some, if_neg h9]
theorem at3 {t : Int32} {c : Nat} (hc : c ≤ 10) (hc1 : 1 ≤ c) (h3 : 3 ≤ t) : (3 + (nI c - 1) ≤ t) ↔ (nI c - 1 ≤ t - 3) := by
  rw [nI_q hc1, show (3 : Int32) = nI 3 from rfl, nI_add]
  have h0 : ¬ t < 0 := by
    intro q
    rw [Int32.lt_iff_toInt_lt] at q
    rw [Int32.le_iff_toInt_le] at h3
    have e1 : (0 : Int32).toInt = 0 := by decide
    have e2 : (3 : Int32).toInt = 3 := by decide
    omega
  obtain ⟨k, hk, rfl⟩ := nI_of h0
  have hk3 : 3 ≤ k := (nI_leI (a := 3) (b := k) (by omega) hk).mp h3
  rw [pk_sub hk3, nI_leI (by omega) hk, nI_leI (by omega) (by omega)]
  omega
theorem sim_told {B M : St} {np nn nf nr d : Nat} (h : Rel B M np nn nf nr d) (v t : Int32) : Sim (y6_told B v t) (f7_told M v t) ps13 := by
  have hr := h.nr
  have hJ16 : f7_told_J16 v t M = some (sF M 0 1, 0) := by
    unfold f7_told_J16 f7_told_J17
    rw [if_pos rfl]
    exact no_told (by decide)
  by_cases h0 : 0 ≤ t
  · have h0' : ¬ t < 0 := fun q => by
      rw [Int32.lt_iff_toInt_lt] at q
      rw [Int32.le_iff_toInt_le] at h0
      omega
    have hB0 : ∀ k, y6_checkOpen B v = some (B, 0, k) → k ≠ 0 → y6_told B v t = some (B, 0, k) := fun k hk hk0 => by
      unfold y6_told
      rw [if_pos h0, hk, xB_k _ _ hk0]
    rcases y_ckO h v with ⟨hv, hc⟩ | ⟨r, hr1, rfl, hv, h9, hc⟩ | ⟨r, ho, hr1, rfl, hv, h9, hc⟩
    · refine Sim.no (k := 1) (t := 1) h (hB0 1 hc (by omega)) ?_ rfl (by omega) (by omega)
      unfold f7_told
      rw [m_isRaise, Option.bind_some, hv]
      exact hJ16
    · have lM : ldA M 9 40 (nI r) = some (M.2 9 r) := ldA_ok (by omega) (by omega)
      refine Sim.no (k := 3) (t := 2) h (hB0 3 hc (by omega)) ?_ rfl (by omega) (by omega)
      unfold f7_told
      rw [m_isRaise, Option.bind_some, hv]
      dsimp only
      rw [if_neg (by decide), if_neg h0']
      unfold f7_told_J17
      rw [if_neg (by decide), lM, Option.bind_some, if_neg h9]
      exact no_told (by decide)
    · have lM : ldA M 9 40 (nI r) = some (M.2 9 r) := ldA_ok (by omega) (by omega)
      have lB : ∀ k, ldA B k 40 (nI r) = some (B.2 k r) := fun k => ldA_ok (by omega) (by omega)
      have lM2 : ∀ k, ldA (sF M 0 0) k 40 (nI r) = some (M.2 k r) := fun k => ldA_ok (by omega) (by omega)
      obtain ⟨-, -, ⟨a9, a10, -⟩, -⟩ := h.2.1
      have hM0 : f7_told M (nI r) t = f7_told_J41 (nI r) t 0 M := by
        unfold f7_told
        rw [m_isRaise, Option.bind_some, hv]
        dsimp only
        rw [if_neg (by decide), if_neg h0']
        unfold f7_told_J17
        rw [if_neg (by decide), lM, Option.bind_some, if_pos h9]
      have fin : ∀ x, y6_told B (nI r) t = some (B, x, 0) → f7_told_J41 (nI r) t 0 M = some (sF M 0 0, x) → Sim (y6_told B (nI r) t) (f7_told M (nI r) t) ps13 := fun x q1 q2 =>
        ⟨B, sF M 0 0, x, 0, x, q1, by rw [hM0]; exact q2, ⟨np, nn, nf, nr, d, h.th 0⟩, rfl, by omega, fun _ => rfl⟩
      have dv : ∀ x : Int32, dvI x 10 = some (x / 10) := fun x => by unfold dvI; rw [if_neg (by decide)]
      have rm : ∀ x : Int32, rmI x 10 = some (x - x / 10 * 10) := fun x => by unfold rmI; rw [if_neg (by decide)]
      by_cases t0 : t = 0
      · subst t0
        refine fin _ (by
          unfold y6_told
          rw [if_pos h0, hc, xB_0]
          dsimp only
          rw [if_pos rfl, lB, Option.bind_some, a9]) (by
          unfold f7_told_J41
          rw [f7_refused_eq, Option.bind_some, if_pos rfl]
          dsimp only
          rw [if_pos rfl, if_neg (by decide), if_pos rfl, lM2, Option.bind_some])
      · by_cases t1 : t = 1
        · subst t1
          refine fin _ (by
            unfold y6_told
            rw [if_pos h0, hc, xB_0]
            dsimp only
            rw [if_neg (by decide), if_pos rfl, lB, Option.bind_some, dv, Option.bind_some, a10]) (by
            unfold f7_told_J41
            rw [f7_refused_eq, Option.bind_some, if_pos rfl]
            dsimp only
            rw [if_pos rfl, if_neg (by decide), if_neg (by decide), if_pos rfl, lM2, Option.bind_some, dv, Option.bind_some])
        · by_cases t2 : t = 2
          · subst t2
            refine fin _ (by
              unfold y6_told
              rw [if_pos h0, hc, xB_0]
              dsimp only
              rw [if_neg (by decide), if_neg (by decide), if_pos rfl, lB, Option.bind_some, rm, Option.bind_some, a10]) (by
              unfold f7_told_J41
              rw [f7_refused_eq, Option.bind_some, if_pos rfl]
              dsimp only
              rw [if_pos rfl, if_neg (by decide), if_neg (by decide), if_neg (by decide), lM2, Option.bind_some, rm, Option.bind_some])
          · have h3 : 3 ≤ t := by
              obtain ⟨k, hk, rfl⟩ := nI_of h0'
              rw [show (3 : Int32) = nI 3 from rfl]
              refine le_ok hk ?_
              have q0 : k ≠ 0 := fun q => t0 (by rw [q]; rfl)
              have q1 : k ≠ 1 := fun q => t1 (by rw [q]; rfl)
              have q2 : k ≠ 2 := fun q => t2 (by rw [q]; rfl)
              omega
            obtain ⟨y, y1, y2, y3⟩ := h.gOf ho
            have hcl : (opn M nr).countP (fun q => decide (M.2 14 q = M.2 14 r)) ≤ 10 := Nat.le_trans List.countP_le_length h.ol.2.1
            have hcp : 1 ≤ (opn M nr).countP (fun q => decide (M.2 14 q = M.2 14 r)) := List.countP_pos_iff.mpr ⟨r, ho, by simp⟩
            have hat := at3 hcl hcp h3
            refine fin (if nI ((opn M nr).countP fun q => decide (M.2 14 q = M.2 14 r)) - 1 ≤ t - 3 then 0 else 43) (by
              unfold y6_told
              rw [if_pos h0, hc, xB_0]
              dsimp only
              rw [if_neg t0, if_neg t1, if_neg t2, y1, Option.bind_some]
              dsimp only
              rw [h.count y2 y3, Option.bind_some]
              dsimp only
              by_cases q : nI ((opn M nr).countP fun q => decide (M.2 14 q = M.2 14 r)) - 1 ≤ t - 3
              · rw [if_pos (hat.mpr q), if_pos q]
              · rw [if_neg (fun z => q (hat.mp z)), if_neg q]) (by
              unfold f7_told_J41
              rw [f7_refused_eq, Option.bind_some, if_pos rfl]
              dsimp only
              have hsz := (h.th 0).size (M.2 14 r)
              rw [show opn (sF M 0 0) nr = opn M nr from rfl] at hsz
              rw [if_pos rfl, if_pos h3, lM2, Option.bind_some, hsz, Option.bind_some]
              dsimp only
              by_cases q : nI ((opn M nr).countP fun q => decide (M.2 14 q = M.2 14 r)) - 1 ≤ t - 3
              · rw [if_pos q]; exact if_pos q
              · rw [if_neg q]; exact if_neg q)
  · have h0' : t < 0 := by
      rw [Int32.lt_iff_toInt_lt]
      rw [Int32.le_iff_toInt_le] at h0
      have e1 : (0 : Int32).toInt = 0 := by decide
      omega
    refine Sim.no (k := 1) (t := 1) h ?_ ?_ rfl (by omega) (by omega)
    · unfold y6_told
      rw [if_neg h0]
    · unfold f7_told
      rw [m_isRaise, Option.bind_some]
      dsimp only
      cases inr v 0 (M.1 6 - 1) with
      | false => exact hJ16
      | true =>
        rw [if_neg (by decide), if_pos h0']
        exact hJ16
