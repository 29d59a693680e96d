/-! both states: what they share, what holds of them -/
def opn (M : St) (nr : Nat) : List Nat := (List.range' 0 nr).filter (opB M)
theorem mem_opn {M : St} {nr r : Nat} : r ∈ opn M nr ↔ r < nr ∧ M.2 9 r = 0 := by
  unfold opn opB
  rw [List.mem_filter, List.mem_range'_1, decide_eq_true_eq]
  constructor
  · rintro ⟨⟨-, h⟩, h2⟩
    exact ⟨by omega, h2⟩
  · rintro ⟨h, h2⟩
    exact ⟨⟨Nat.zero_le _, by omega⟩, h2⟩
theorem opn_pw (M : St) (nr : Nat) : (opn M nr).Pairwise (· < ·) := List.Pairwise.filter _ List.pairwise_lt_range'
theorem opn_inj {M : St} {nr i j r : Nat} (hi : (opn M nr)[i]? = some r) (hj : (opn M nr)[j]? = some r) : i = j := by
  obtain ⟨h1, h2⟩ := List.getElem?_eq_some_iff.mp hi
  obtain ⟨h3, h4⟩ := List.getElem?_eq_some_iff.mp hj
  have hp := List.pairwise_iff_getElem.mp (opn_pw M nr)
  rcases Nat.lt_trichotomy i j with h | h | h
  · have := hp i j h1 h3 h
    omega
  · exact h
  · have := hp j i h3 h1 h
    omega
theorem opn_at {M : St} {nr r : Nat} (h : r ∈ opn M nr) : ∃ i : Nat, (opn M nr)[i]? = some r := List.getElem?_of_mem h
theorem opn_in {M : St} {nr i r : Nat} (h : (opn M nr)[i]? = some r) : r < nr ∧ M.2 9 r = 0 := mem_opn.mp (List.mem_of_getElem? h)
theorem cnt_opn (M : St) (nr : Nat) (p : Nat → Bool) : cnt (fun k => opB M k && p k) 0 nr = (opn M nr).countP p := by
  unfold cnt opn
  rw [List.countP_filter]
  exact congrArg (fun f => List.countP f (List.range' 0 nr)) (funext fun k => Bool.and_comm _ _)
theorem exi_opn (M : St) (nr : Nat) (p : Nat → Bool) : exi (fun k => opB M k && p k) 0 nr = (opn M nr).any p := by
  unfold exi opn
  rw [List.any_filter]
theorem plan_opn (M : St) (nr : Nat) (P : Nat → Bool) (pk tg f : Nat → Int32) : plan (fun k => opB M k && P k) pk tg f 0 nr = plf P pk tg (opn M nr) f := by
  unfold plan plf opn fld
  rw [List.foldl_filter]
  refine congrArg (fun g => List.foldl g f (List.range' 0 nr)) (funext fun a => funext fun k => ?_)
  dsimp only
  by_cases hk : opB M k = true
  · rw [if_pos hk]
    by_cases hP : P k = true
    · rw [if_pos (by simp [hk, hP]), if_pos hP]
    · rw [if_neg (by simp [hP]), if_neg hP]
  · rw [if_neg hk, if_neg (by simp [hk])]
theorem opn_congr {M M' : St} (h : M'.2 9 = M.2 9) (nr : Nat) : opn M' nr = opn M nr := by
  unfold opn opB
  rw [h]
/-- what holds of the model's state -/
def Inv (M : St) (np nn nf nr d : Nat) : Prop :=
  ((M.1 2 = nI np ∧ np ≤ 12) ∧ (M.1 3 = nI nn ∧ nn ≤ 20) ∧ (M.1 5 = nI nf ∧ nf ≤ 10) ∧ (M.1 6 = nI nr ∧ nr ≤ 40) ∧ (M.1 1 = nI d ∧ d ≤ 1000) ∧ ∃ pt, M.1 4 = nI pt ∧ pt ≤ 100) ∧
  (∀ k, k < nn → ∃ a b, a < np ∧ b < np ∧ M.2 1 k = nI a ∧ M.2 2 k = nI b) ∧
  (∀ k, k < nr → ∃ p, p < np ∧ M.2 10 k = nI p) ∧
  (∀ k, k < nr → M.2 9 k = 0 → ∃ g, g ≤ k ∧ M.2 14 k = nI g ∧ M.2 9 g = 0 ∧ M.2 14 g = nI g) ∧
  (∀ k, M.2 16 k = 0 ∨ M.2 16 k = 1) ∧
  (∀ k, nr ≤ k → M.2 16 k = 0 ∧ M.2 9 k = 0) ∧
  (∀ k q, k < nr → q < nr → M.2 9 k = 0 → M.2 9 q = 0 → M.2 10 k = M.2 10 q → k = q) ∧
  ((∀ k, k < nr → ∃ t, t ≤ d ∧ M.2 13 k = nI t) ∧ ∀ k q, k ≤ q → q < nr → M.2 13 k ≤ M.2 13 q) ∧
  (∀ k, k < nn → vio (M.2 0) (M.2 1) (M.2 2) (M.2 3) (M.2 4) k = false) ∧
  (opn M nr).length ≤ 10 ∧
  (∀ k, k < np → ∃ w, 1 ≤ w ∧ w ≤ 99 ∧ M.2 0 k = nI w) ∧
  (∀ k, k < nr → ∃ w, 1 ≤ w ∧ w ≤ 99 ∧ M.2 11 k = nI w)
/-- the rows that both have -/
def Ar (B M : St) : Prop := (B.2 0 = M.2 0 ∧ B.2 2 = M.2 1 ∧ B.2 3 = M.2 2 ∧ B.2 4 = M.2 3 ∧ B.2 5 = M.2 4) ∧ (B.2 6 = M.2 6 ∧ B.2 7 = M.2 7 ∧ B.2 8 = M.2 8) ∧ (B.2 9 = M.2 10 ∧ B.2 10 = M.2 11 ∧ B.2 11 = M.2 12 ∧ B.2 12 = M.2 13) ∧ B.2 13 = M.2 9 ∧ B.2 14 = M.2 15 ∧ B.2 15 = M.2 16 ∧ B.2 18 = M.2 5
def Fi (B M : St) : Prop := B.1 0 = M.1 1 ∧ B.1 1 = M.1 2 ∧ B.1 2 = M.1 3 ∧ B.1 3 = M.1 5 ∧ B.1 4 = M.1 6 ∧ B.1 6 = M.1 4
def Op (B M : St) (nr : Nat) : Prop := B.1 5 = nI (opn M nr).length ∧ (∀ (i r : Nat), (opn M nr)[i]? = some r → B.2 17 i = nI r) ∧ ∀ r, r < nr → B.2 16 r = if M.2 9 r = 0 then M.2 14 r else -1
def Rel (B M : St) (np nn nf nr d : Nat) : Prop := Inv M np nn nf nr d ∧ Ar B M ∧ Fi B M ∧ Op B M nr
theorem Rel.ol {B M : St} {np nn nf nr d : Nat} (h : Rel B M np nn nf nr d) : OL B (opn M nr) := by
  obtain ⟨⟨⟨-, -, -, ⟨-, h40⟩, -⟩, -, -, -, -, -, -, -, -, h10, -⟩, -, -, h5, h17, -⟩ := h
  exact ⟨h5, h10, fun i r hi => ⟨h17 i r hi, by have := (opn_in hi).1; omega⟩⟩
theorem Rel.nr {B M : St} {np nn nf nr d : Nat} (h : Rel B M np nn nf nr d) : M.1 6 = nI nr ∧ nr ≤ 40 := h.1.1.2.2.2.1
theorem Rel.np {B M : St} {np nn nf nr d : Nat} (h : Rel B M np nn nf nr d) : M.1 2 = nI np ∧ np ≤ 12 := h.1.1.1
theorem Rel.nn {B M : St} {np nn nf nr d : Nat} (h : Rel B M np nn nf nr d) : M.1 3 = nI nn ∧ nn ≤ 20 := h.1.1.2.1
/-- rows that no rule speaks of: the model's plan and exception, the class's plan and who waits -/
theorem Rel.sc {B M B' M' : St} {np nn nf nr d : Nat} (h : Rel B M np nn nf nr d) (h1 : ∀ q, q ≠ 0 → M'.1 q = M.1 q) (h2 : ∀ q, q ≠ 17 → M'.2 q = M.2 q) (h3 : B'.1 = B.1) (h4 : ∀ q, q ≠ 1 → q ≠ 19 → B'.2 q = B.2 q) : Rel B' M' np nn nf nr d := by
  have ho : opn M' nr = opn M nr := opn_congr (h2 9 (by decide)) nr
  obtain ⟨hI, hA, hF, hO⟩ := h
  refine ⟨?_, ?_, ?_, ?_⟩
  · unfold Inv at hI ⊢
    rw [ho, h1 2 (by decide), h1 3 (by decide), h1 5 (by decide), h1 6 (by decide), h1 1 (by decide), h1 4 (by decide), h2 0 (by decide), h2 1 (by decide), h2 2 (by decide), h2 3 (by decide), h2 4 (by decide), h2 9 (by decide), h2 10 (by decide), h2 11 (by decide), h2 13 (by decide), h2 14 (by decide), h2 16 (by decide)]
    exact hI
  · unfold Ar at hA ⊢
    rw [h4 0 (by decide) (by decide), h4 2 (by decide) (by decide), h4 3 (by decide) (by decide), h4 4 (by decide) (by decide), h4 5 (by decide) (by decide), h4 6 (by decide) (by decide), h4 7 (by decide) (by decide), h4 8 (by decide) (by decide), h4 9 (by decide) (by decide), h4 10 (by decide) (by decide), h4 11 (by decide) (by decide), h4 12 (by decide) (by decide), h4 13 (by decide) (by decide), h4 14 (by decide) (by decide), h4 15 (by decide) (by decide), h4 18 (by decide) (by decide), h2 0 (by decide), h2 1 (by decide), h2 2 (by decide), h2 3 (by decide), h2 4 (by decide), h2 6 (by decide), h2 7 (by decide), h2 8 (by decide), h2 10 (by decide), h2 11 (by decide), h2 12 (by decide), h2 13 (by decide), h2 9 (by decide), h2 15 (by decide), h2 16 (by decide), h2 5 (by decide)]
    exact hA
  · unfold Fi at hF ⊢
    rw [h3, h1 1 (by decide), h1 2 (by decide), h1 3 (by decide), h1 5 (by decide), h1 6 (by decide), h1 4 (by decide)]
    exact hF
  · unfold Op at hO ⊢
    rw [h3, ho, h4 17 (by decide) (by decide), h4 16 (by decide) (by decide), h2 9 (by decide), h2 14 (by decide)]
    exact hO
theorem Rel.scr {B M : St} {np nn nf nr d : Nat} (h : Rel B M np nn nf nr d) (w : Nat → Int32) : Rel B (scr M w) np nn nf nr d := h.sc (fun _ _ => rfl) (fun q hq => scr_n M w hq) rfl (fun _ _ _ => rfl)
theorem Rel.scb {B M : St} {np nn nf nr d : Nat} (h : Rel B M np nn nf nr d) (w : Nat → Int32) : Rel (scb B w) M np nn nf nr d := h.sc (fun _ _ => rfl) (fun _ _ => rfl) rfl (fun q hq _ => scb_n B w hq)
/-- a group's raises, in the class's words and in the model's -/
theorem Rel.grp {B M : St} {np nn nf nr d r : Nat} (h : Rel B M np nn nf nr d) (hr : r ∈ opn M nr) : B.2 16 r = M.2 14 r := by
  have h1 := mem_opn.mp hr
  rw [h.2.2.2.2.2 r h1.1, if_pos h1.2]
theorem fcn_congr {M : St} {nn nr : Nat} {P Q : Nat → Bool} (h : ∀ k, k < nr → P k = Q k) : fcn M nn nr P = fcn M nn nr Q := by
  have h1 : plan P (M.2 10) (M.2 11) (M.2 0) 0 nr = plan Q (M.2 10) (M.2 11) (M.2 0) 0 nr := by
    unfold plan
    exact fld_congr fun k b _ hk => by rw [h k (by omega)]
  unfold fcn
  rw [h1]
/-- how many needs fail with a set -/
theorem b_failing {B M : St} {np nn nf nr d : Nat} (h : Rel B M np nn nf nr d) {x : Int32} {P : Nat → Bool} (hx : SetIs (opn M nr) x P) : ∃ w, f4_failing B x = some (scb B w, nI (fcn M nn nr (fun k => opB M k && P k))) := by
  have hol := h.ol
  have hsc := h
  obtain ⟨⟨⟨⟨hp, hpp⟩, ⟨hn, hnn⟩, -, ⟨hr, hrr⟩, -⟩, hix, hpk, -⟩, ⟨⟨a0, a2, a3, a4, a5⟩, -, ⟨a9, a10, -⟩, -⟩, ⟨-, f1, f2, -⟩, -⟩ := h
  obtain ⟨w0, s1, s2, -⟩ := b_startPlan_L (B := B) (f1.trans hp) hpp np 0 2000 (B.2 1) (by omega) (by omega)
  rw [scb_self] at s1
  have hpk' : ∀ (i r : Nat), (opn M nr)[i]? = some r → ∃ p, p < 12 ∧ B.2 9 r = nI p := fun i r hi => by
    obtain ⟨p, q1, q2⟩ := hpk r (opn_in hi).1
    exact ⟨p, by omega, by rw [a9]; exact q2⟩
  have h10 := hol.2.1
  have s3 := b_plan_L hol hx hpk' (opn M nr) 0 2000 w0 rfl (by omega) (by omega)
  have e1 : f3_startPlan B = some (scb B w0) := s1
  have e2 : f4_plan B x = some (scb B (plf P (B.2 9) (B.2 10) (opn M nr) w0)) := by
    unfold f4_plan
    rw [e1, Option.bind_some]
    exact s3
  refine ⟨plf P (B.2 9) (B.2 10) (opn M nr) w0, ?_⟩
  unfold f4_failing
  rw [e2, Option.bind_some]
  have hix' : ∀ k, k < nn → ∃ a b, a < 12 ∧ b < 12 ∧ (scb B (plf P (B.2 9) (B.2 10) (opn M nr) w0)).2 2 k = nI a ∧ (scb B (plf P (B.2 9) (B.2 10) (opn M nr) w0)).2 3 k = nI b := fun k hk => by
    obtain ⟨a, b, q1, q2, q3, q4⟩ := hix k hk
    exact ⟨a, b, by omega, by omega, (congrFun a2 k).trans q3, (congrFun a3 k).trans q4⟩
  have s4 := b_fip (B := scb B (plf P (B.2 9) (B.2 10) (opn M nr) w0)) (f2.trans hn) hnn hix'
  rw [s4, Option.bind_some]
  dsimp only
  refine congrArg (fun z => some (scb B (plf P (B.2 9) (B.2 10) (opn M nr) w0), nI z)) ?_
  unfold fcn
  refine cnt_congr fun k _ hk => ?_
  obtain ⟨a, b, ha, hb, e1, e2⟩ := hix k (by omega)
  show vio (plf P (B.2 9) (B.2 10) (opn M nr) w0) (B.2 2) (B.2 3) (B.2 4) (B.2 5) k = _
  rw [a2, a3, a4, a5, a9, a10, ← plan_opn]
  refine vio_agree ha hb (by omega) e1 e2 (fun p hp2 => plan_agree (np := np) (fun q hq => ?_) p hp2)
  rw [s2 q (Nat.zero_le _) hq, a0]
/-- the first need that fails with a set -/
theorem b_first {B M : St} {np nn nf nr d : Nat} (h : Rel B M np nn nf nr d) {x : Int32} {P : Nat → Bool} (hx : SetIs (opn M nr) x P) :
    ∃ w, (∃ k, k < nn ∧ vio (plan (fun k => opB M k && P k) (M.2 10) (M.2 11) (M.2 0) 0 nr) (M.2 1) (M.2 2) (M.2 3) (M.2 4) k = true ∧ f4_firstFailing B x = some (scb B w, nI k)) ∨ ((∀ k, k < nn → vio (plan (fun k => opB M k && P k) (M.2 10) (M.2 11) (M.2 0) 0 nr) (M.2 1) (M.2 2) (M.2 3) (M.2 4) k = false) ∧ f4_firstFailing B x = some (scb B w, -1)) := by
  have hol := h.ol
  obtain ⟨⟨⟨⟨hp, hpp⟩, ⟨hn, hnn⟩, -, ⟨hr, hrr⟩, -⟩, hix, hpk, -⟩, ⟨⟨a0, a2, a3, a4, a5⟩, -, ⟨a9, a10, -⟩, -⟩, ⟨-, f1, f2, -⟩, -⟩ := h
  obtain ⟨w0, s1, s2, -⟩ := b_startPlan_L (B := B) (f1.trans hp) hpp np 0 2000 (B.2 1) (by omega) (by omega)
  rw [scb_self] at s1
  have hpk' : ∀ (i r : Nat), (opn M nr)[i]? = some r → ∃ p, p < 12 ∧ B.2 9 r = nI p := fun i r hi => by
    obtain ⟨p, q1, q2⟩ := hpk r (opn_in hi).1
    exact ⟨p, by omega, by rw [a9]; exact q2⟩
  have h10 := hol.2.1
  have s3 := b_plan_L hol hx hpk' (opn M nr) 0 2000 w0 rfl (by omega) (by omega)
  refine ⟨plf P (B.2 9) (B.2 10) (opn M nr) w0, ?_⟩
  have hix' : ∀ k, k < nn → ∃ a b, a < 12 ∧ b < 12 ∧ (scb B (plf P (B.2 9) (B.2 10) (opn M nr) w0)).2 2 k = nI a ∧ (scb B (plf P (B.2 9) (B.2 10) (opn M nr) w0)).2 3 k = nI b := fun k hk => by
    obtain ⟨a, b, q1, q2, q3, q4⟩ := hix k hk
    exact ⟨a, b, by omega, by omega, (congrFun a2 k).trans q3, (congrFun a3 k).trans q4⟩
  have hv : ∀ k, k < nn → vio (plf P (B.2 9) (B.2 10) (opn M nr) w0) (B.2 2) (B.2 3) (B.2 4) (B.2 5) k = vio (plan (fun k => opB M k && P k) (M.2 10) (M.2 11) (M.2 0) 0 nr) (M.2 1) (M.2 2) (M.2 3) (M.2 4) k := by
    intro k hk
    obtain ⟨a, b, ha, hb, e1, e2⟩ := hix k (by omega)
    rw [a2, a3, a4, a5, a9, a10, ← plan_opn]
    refine vio_agree ha hb (by omega) e1 e2 (fun p hp2 => plan_agree (np := np) (fun q hq => ?_) p hp2)
    rw [s2 q (Nat.zero_le _) hq, a0]
  have hf : ∀ v, f3_firstFailingInPlan (scb B (plf P (B.2 9) (B.2 10) (opn M nr) w0)) = some (scb B (plf P (B.2 9) (B.2 10) (opn M nr) w0), v) → f4_firstFailing B x = some (scb B (plf P (B.2 9) (B.2 10) (opn M nr) w0), v) := by
    intro v hv
    have e1 : f3_startPlan B = some (scb B w0) := s1
    have e2 : f4_plan B x = some (scb B (plf P (B.2 9) (B.2 10) (opn M nr) w0)) := by
      unfold f4_plan
      rw [e1, Option.bind_some]
      exact s3
    unfold f4_firstFailing
    rw [e2, Option.bind_some, hv, Option.bind_some]
  rcases b_ffp_L (B := scb B (plf P (B.2 9) (B.2 10) (opn M nr) w0)) (f2.trans hn) hnn hix' nn 0 2000 (by omega) (by omega) with ⟨k, -, k2, k3, k4⟩ | ⟨k1, k2⟩
  · exact Or.inl ⟨k, k2, by rw [← hv k k2]; exact k3, hf _ k4⟩
  · exact Or.inr ⟨fun k hk => by rw [← hv k hk]; exact k1 k (Nat.zero_le _) hk, hf _ k2⟩
