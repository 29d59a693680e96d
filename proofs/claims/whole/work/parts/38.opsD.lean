/-! landing, fourth part: both states behind a group that goes, or one that fails alone -/
theorem cnt_zero {p : Nat → Bool} {i m : Nat} (h : cnt p i m = 0) {k : Nat} (h1 : i ≤ k) (h2 : k < i + m) : p k = false := by
  unfold cnt at h
  have := List.countP_eq_zero.mp h k (List.mem_range'_1.mpr ⟨h1, h2⟩)
  simpa using this
theorem plan_out {P : Nat → Bool} {pk tg : Nat → Int32} : ∀ (m i : Nat) (f : Nat → Int32) (p : Nat), (∀ k, i ≤ k → k < i + m → P k = true → tn (pk k) ≠ p) → plan P pk tg f i m p = f p
  | 0, _, _, _, _ => rfl
  | m + 1, i, f, p, h => by
    rw [plan_s, plan_out m (i + 1) _ p (fun k h1 h2 h3 => h k (by omega) (by omega) h3)]
    by_cases hP : P i = true
    · rw [if_pos hP, upd_ne _ _ (fun z => h i (Nat.le_refl _) (by omega) hP z.symm)]
    · rw [if_neg hP]
theorem plan_in {P : Nat → Bool} {pk tg : Nat → Int32} : ∀ (m i : Nat) (f : Nat → Int32) (k : Nat), (∀ a b, i ≤ a → a < i + m → i ≤ b → b < i + m → P a = true → P b = true → tn (pk a) = tn (pk b) → a = b) → i ≤ k → k < i + m → P k = true → plan P pk tg f i m (tn (pk k)) = tg k
  | 0, _, _, _, _, _, _, _ => by omega
  | m + 1, i, f, k, hinj, h1, h2, h3 => by
    rw [plan_s]
    by_cases hk : k = i
    · subst hk
      rw [if_pos h3, plan_out m (k + 1) _ _ (fun q q1 q2 q3 z => by
        have := hinj q k (by omega) (by omega) (by omega) (by omega) q3 h3 z
        omega), upd_at]
    · exact plan_in m (i + 1) _ k (fun a b a1 a2 b1 b2 => hinj a b (by omega) (by omega) (by omega) (by omega)) (by omega) (by omega) h3
theorem pass_rel {B M : St} {np nn nf nr d : Nat} (h : Rel B M np nn nf nr d) {old : Int32} (hfc : fcG M nn nr old = 0) {S : St} (hS : RS B M nr 0 old S) :
    Rel S (lS M (plan (inG M old) (M.2 10) (M.2 11) (M.2 0) 0 nr) (fld (fun s k => if inG M old k = true then upd s k 1 else s) (M.2 9) 0 nr) (M.2 16)) np nn nf nr d := by
  have hs := fun k => fld_upd (P := inG M old) (t := fun _ => 1) nr 0 (M.2 9) k
  have h10 := h.ol.2.1
  obtain ⟨⟨i0, i1, i2, i3, i4, i5, i6, i7, i8, i9, i10, i11⟩, ⟨⟨a0, a2⟩, a6, a9, a13, a14, a15, a18⟩, ⟨g0, g1, g2, g3, g4, g6⟩, ⟨o5, o17, o16⟩⟩ := h
  have hinj : ∀ a b, 0 ≤ a → a < 0 + nr → 0 ≤ b → b < 0 + nr → inG M old a = true → inG M old b = true → tn (M.2 10 a) = tn (M.2 10 b) → a = b := fun a b _ ha _ hb ha2 hb2 hab => by
    obtain ⟨pa, pa1, pa2⟩ := i2 a (by omega)
    obtain ⟨pb, pb1, pb2⟩ := i2 b (by omega)
    have := i0.1.2
    rw [pa2, pb2, tn_nI (by omega), tn_nI (by omega)] at hab
    exact i6 a b (by omega) (by omega) (inG_t.mp ha2).1 (inG_t.mp hb2).1 (by rw [pa2, pb2, hab])
  have hpi := fun k => plan_in (P := inG M old) (pk := M.2 10) (tg := M.2 11) nr 0 (M.2 0) k hinj
  have hpo := fun p => plan_out (P := inG M old) (pk := M.2 10) (tg := M.2 11) nr 0 (M.2 0) p
  have hv : ∀ k, k < nn → vio (plan (inG M old) (M.2 10) (M.2 11) (M.2 0) 0 nr) (M.2 1) (M.2 2) (M.2 3) (M.2 4) k = false := fun k hk => cnt_zero (show cnt _ 0 nn = 0 from hfc) (Nat.zero_le _) (by omega)
  generalize plan (inG M old) (M.2 10) (M.2 11) (M.2 0) 0 nr = f at hpi hpo hv
  generalize fld (fun s k => if inG M old k = true then upd s k 1 else s) (M.2 9) 0 nr = s at hs
  obtain ⟨s1, s2, ⟨s3, s4⟩, ⟨s5, s6⟩, ⟨s7, s8⟩, s9, s17⟩ := hS
  have hR : ∀ k, rdE M nr 0 old k ↔ (0 ≤ k ∧ k < 0 + nr ∧ inG M old k = true) := fun k => by
    unfold rdE
    rw [Nat.zero_add]
  have e0 : S.2 0 = f := funext fun p => by
    by_cases hp : ∃ k, rdE M nr 0 old k ∧ tn (M.2 10 k) = p
    · obtain ⟨k, k1, k2⟩ := hp
      have k3 := (hR k).mp k1
      rw [← k2, s3 k k1, hpi k k3.1 k3.2.1 k3.2.2]
    · have hp2 : ∀ k, rdE M nr 0 old k → tn (M.2 10 k) ≠ p := fun k hk z => hp ⟨k, hk, z⟩
      rw [s4 p hp2, hpo p (fun k k1 k2 k3 => hp2 k ((hR k).mpr ⟨k1, k2, k3⟩))]
  have e13 : S.2 13 = s := funext fun k => by
    rw [hs k]
    by_cases hk : rdE M nr 0 old k
    · rw [if_pos ((hR k).mp hk), s5 k hk]
    · rw [if_neg (fun z => hk ((hR k).mpr z)), s6 k hk]
  have hs0 : ∀ k, s k = 0 → M.2 9 k = 0 ∧ ¬ rdE M nr 0 old k := fun k hk => by
    rw [hs k] at hk
    by_cases z : rdE M nr 0 old k
    · rw [if_pos ((hR k).mp z)] at hk
      exact absurd hk (by decide)
    · rw [if_neg (fun q => z ((hR k).mpr q))] at hk
      exact ⟨hk, z⟩
  have hs1 : ∀ k, ¬ rdE M nr 0 old k → s k = M.2 9 k := fun k z => by
    rw [hs k, if_neg (fun q => z ((hR k).mpr q))]
  have hop : opn (lS M f s (M.2 16)) nr = (List.range' 0 nr).filter (fun k => decide (s k = 0)) := rfl
  rw [e13] at s9 s17
  refine ⟨⟨i0, i1, i2, fun k hk h9 => ?_, i4, fun k hk => ⟨(i5 k hk).1, ?_⟩, fun k q hk hq h1 h2 h3 => i6 k q hk hq (hs0 k h1).1 (hs0 q h2).1 h3, i7, hv, ?_, fun k hk => ?_, i11⟩, ⟨⟨e0, ?_⟩, ?_, ?_, ?_, ?_, ?_, ?_⟩, ⟨?_, ?_, ?_, ?_, ?_, ?_⟩, ⟨by rw [hop]; exact s9, by rw [hop]; exact s17, fun q hq => ?_⟩⟩
  · have h9' : s k = 0 := h9
    obtain ⟨k1, k2⟩ := hs0 k h9'
    obtain ⟨g, q1, q2, q3, q4⟩ := i3 k hk k1
    refine ⟨g, q1, q2, ?_, q4⟩
    show s g = 0
    rw [hs1 g (fun z => k2 ⟨Nat.zero_le _, hk, inG_t.mpr ⟨k1, by rw [q2, ← q4]; exact (inG_t.mp z.2.2).2⟩⟩)]
    exact q3
  · show s k = 0
    rw [hs1 k (fun z => by have := z.2.1; omega)]
    exact (i5 k hk).2
  · rw [hop]
    refine Nat.le_trans (filt_le (q := opB M) (fun k hk => ?_) _) h10
    have := (hs0 k (by simpa using hk)).1
    simp [opB, this]
  · show ∃ w, 1 ≤ w ∧ w ≤ 99 ∧ f k = nI w
    rw [← e0]
    by_cases hp : ∃ q, rdE M nr 0 old q ∧ tn (M.2 10 q) = k
    · obtain ⟨q, k1, k2⟩ := hp
      rw [← k2, s3 q k1]
      exact i11 q k1.2.1
    · rw [s4 k (fun q hq z => hp ⟨q, hq, z⟩)]
      exact i10 k hk
  · rw [s2 2 (by decide) (by decide) (by decide) (by decide), s2 3 (by decide) (by decide) (by decide) (by decide), s2 4 (by decide) (by decide) (by decide) (by decide), s2 5 (by decide) (by decide) (by decide) (by decide)]
    exact a2
  · rw [s2 6 (by decide) (by decide) (by decide) (by decide), s2 7 (by decide) (by decide) (by decide) (by decide), s2 8 (by decide) (by decide) (by decide) (by decide)]
    exact a6
  · rw [s2 9 (by decide) (by decide) (by decide) (by decide), s2 10 (by decide) (by decide) (by decide) (by decide), s2 11 (by decide) (by decide) (by decide) (by decide), s2 12 (by decide) (by decide) (by decide) (by decide)]
    exact a9
  · exact e13
  · rw [s2 14 (by decide) (by decide) (by decide) (by decide)]
    exact a14
  · rw [s2 15 (by decide) (by decide) (by decide) (by decide)]
    exact a15
  · rw [s2 18 (by decide) (by decide) (by decide) (by decide)]
    exact a18
  · rw [s1 0 (by decide)]; exact g0
  · rw [s1 1 (by decide)]; exact g1
  · rw [s1 2 (by decide)]; exact g2
  · rw [s1 3 (by decide)]; exact g3
  · rw [s1 4 (by decide)]; exact g4
  · rw [s1 6 (by decide)]; exact g6
  · show S.2 16 q = if s q = 0 then M.2 14 q else -1
    by_cases z : rdE M nr 0 old q
    · rw [s7 q z, hs q, if_pos ((hR q).mp z), if_neg (by decide)]
    · rw [s8 q z, hs1 q z]
      exact o16 q hq
theorem release {B M : St} {np nn nf nr d : Nat} (h : Rel B M np nn nf nr d) {old y : Int32} (hy : SetIs (opn M nr) y (fun q => decide (M.2 14 q = old))) (hfc : fcG M nn nr old = 0) :
    ∃ S, f4_release B y = some S ∧ Rel S (lS M (plan (inG M old) (M.2 10) (M.2 11) (M.2 0) 0 nr) (fld (fun s k => if inG M old k = true then upd s k 1 else s) (M.2 9) 0 nr) (M.2 16)) np nn nf nr d := by
  have hno : ∀ k, ¬ rdE M nr nr old k := fun k z => by have := z.1; have := z.2.1; omega
  have h40 := h.nr.2
  have e13 := h.2.1.2.2.2.1
  have e0 := h.2.1.1.1
  obtain ⟨o5, o17, -⟩ := h.2.2.2
  have hop : (List.range' 0 nr).filter (fun k => decide (B.2 13 k = 0)) = opn M nr := by rw [e13]; rfl
  obtain ⟨S, r1, r2⟩ := rel_L h hy nr 2000 B (Nat.le_refl _) (by omega) ⟨fun _ _ => rfl, fun _ _ _ _ _ => rfl, ⟨fun k hk => absurd hk (hno k), fun p _ => by rw [e0]⟩, ⟨fun k hk => absurd hk (hno k), fun k _ => by rw [e13]⟩, ⟨fun k hk => absurd hk (hno k), fun k _ => rfl⟩, by rw [hop]; exact o5, by rw [hop]; exact o17⟩
  refine ⟨S, ?_, pass_rel h hfc r2⟩
  unfold f4_release
  rw [o5]
  exact r1
theorem sF_same {M : St} {v : Int32} (h : M.1 0 = v) : sF M 0 v = M := by
  unfold sF
  refine Prod.ext (funext fun q => ?_) rfl
  by_cases hq : q = 0
  · subst hq
    exact h.symm
  · exact if_neg hq
theorem alone_of {M : St} {nr r : Nat} {p : Nat → Bool} (h1 : (opn M nr).countP p = 1) (hr : r ∈ opn M nr) (hp : p r = true) {q : Nat} (hq : q ∈ opn M nr) (hq2 : p q = true) : q = r := by
  rw [List.countP_eq_length_filter] at h1
  obtain ⟨a, ha⟩ := List.length_eq_one_iff.mp h1
  have m1 : r ∈ (opn M nr).filter p := List.mem_filter.mpr ⟨hr, hp⟩
  have m2 : q ∈ (opn M nr).filter p := List.mem_filter.mpr ⟨hq, hq2⟩
  rw [ha, List.mem_singleton] at m1 m2
  rw [m1, m2]
theorem fail_alone {B M : St} {np nn nf nr d r : Nat} (h : Rel B M np nn nf nr d) (h0 : M.1 0 = 0) (hr : r ∈ opn M nr) (h1 : (opn M nr).countP (fun q => decide (M.2 14 q = M.2 14 r)) = 1) :
    ∃ S, f4_end B (nI r) 2 = some S ∧ Rel S (lS M (M.2 0) (fld (fun s k => if inG M (M.2 14 r) k = true then upd s k 2 else s) (M.2 9) 0 nr) (M.2 16)) np nn nf nr d := by
  have hr1 := mem_opn.mp hr
  have h10 := h.ol.2.1
  have hal : ∀ q, q < nr → inG M (M.2 14 r) q = true → q = r := fun q hq hq2 => by
    obtain ⟨q1, q2⟩ := inG_t.mp hq2
    exact alone_of h1 hr (by simp) (mem_opn.mpr ⟨hq, q1⟩) (by simp [q2])
  have hs : fld (fun s k => if inG M (M.2 14 r) k = true then upd s k 2 else s) (M.2 9) 0 nr = upd (M.2 9) r 2 := funext fun k => by
    rw [fld_upd (t := fun _ => 2)]
    by_cases hk : k = r
    · subst hk
      rw [upd_at, if_pos ⟨Nat.zero_le _, by omega, inG_t.mpr ⟨hr1.2, rfl⟩⟩]
    · rw [upd_ne _ _ hk, if_neg (fun z => hk (hal k (by omega) z.2.2))]
  have hl : ((List.range' 0 nr).filter (fun k => decide (upd (M.2 9) r 2 k = 0))).length ≤ 10 := by
    refine Nat.le_trans (filt_le (q := opB M) (fun k hk => ?_) _) h10
    have hk2 : upd (M.2 9) r 2 k = 0 := by simpa using hk
    have hkr : k ≠ r := by
      rintro rfl
      rw [upd_at] at hk2
      exact absurd hk2 (by decide)
    rw [upd_ne _ _ hkr] at hk2
    simp [opB, hk2]
  obtain ⟨S, r1, r2, r3, r4, r5, r6, r7⟩ := b_end h hr1.1 2 hl
  have hno : ∀ q, q < nr → ¬ (upd (M.2 9) r 2 q = 0 ∧ M.2 14 q = M.2 14 r) := fun q hq z => by
    have hqr : q ≠ r := by
      rintro rfl
      have := z.1
      rw [upd_at] at this
      exact absurd this (by decide)
    have z1 := z.1
    rw [upd_ne _ _ hqr] at z1
    exact hqr (hal q hq (inG_t.mpr ⟨z1, z.2⟩))
  have hG : grpF (fun q => decide (M.2 14 q = M.2 14 r) && !decide (q = r)) (opn M nr) none (B.2 16) = B.2 16 := funext fun q => by
    refine grpF_out _ _ _ ?_
    by_cases hq : q ∈ opn M nr
    · refine Or.inr ?_
      by_cases hqr : q = r
      · simp [hqr]
      · have : ¬ M.2 14 q = M.2 14 r := fun z => hqr (hal q (mem_opn.mp hq).1 (inG_t.mpr ⟨(mem_opn.mp hq).2, z⟩))
        simp [this]
    · exact Or.inl hq
  have hR := close_rel h hr (t := 2) (by decide) (B10 := S) (g' := M.2 14) (lw := -1) (Or.inr ⟨hno, rfl⟩) (fun k => by
    by_cases hc : k < nr ∧ upd (M.2 9) r 2 k = 0 ∧ M.2 14 k = M.2 14 r
    · exact absurd hc.2 (hno k hc.1)
    · rw [if_neg hc]) r2 r3 r4 (by rw [hG]; exact r5) r6 r7
  refine ⟨S, r1, ?_⟩
  rw [hs]
  have he : gM (stS (sF M 0 0) 9 r 2) (M.2 14) = lS M (M.2 0) (upd (M.2 9) r 2) (M.2 16) := by
    rw [sF_same h0]
    unfold gM stS lS
    refine Prod.ext rfl (funext fun q => ?_)
    dsimp only
    by_cases q14 : q = 14
    · subst q14; rfl
    · by_cases q9 : q = 9
      · subst q9; rfl
      · by_cases q0 : q = 0
        · subst q0; rfl
        · by_cases q16 : q = 16
          · subst q16; rfl
          · simp [q14, q9, q0, q16]
  rw [← he]
  exact hR
