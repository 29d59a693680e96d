/-! landing, fifth part: a group parts -/
def cS (B : St) (g a : Nat → Int32) : St := (B.1, fun q => if q = 16 then g else if q = 15 then a else B.2 q)
theorem cS_self (B : St) : cS B (B.2 16) (B.2 15) = B := by
  unfold cS
  refine Prod.ext rfl (funext fun q => ?_)
  dsimp only
  by_cases h : q = 16
  · subst h; rfl
  · by_cases h2 : q = 15
    · subst h2; rfl
    · simp [h, h2]
theorem cS_g (B : St) (g a g2 : Nat → Int32) : gB (cS B g a) g2 = cS B g2 a := by
  unfold gB cS
  refine Prod.ext rfl (funext fun q => ?_)
  dsimp only
  by_cases h : q = 16
  · subst h; rfl
  · simp [h]
theorem cS_15 (B : St) (g a : Nat → Int32) (j : Nat) (v : Int32) : stS (cS B g a) 15 j v = cS B g (upd a j v) := by
  unfold stS cS
  refine Prod.ext rfl (funext fun q => ?_)
  dsimp only
  by_cases h : q = 15
  · subst h; rfl
  · simp [h]
theorem grpF_one {l : List Nat} {r : Nat} (g : Nat → Int32) (hp : l.Pairwise (· < ·)) (hr : r ∈ l) : grpF (fun q => decide (q = r)) l none g = upd g r (nI r) := funext fun k => by
  by_cases hk : k = r
  · subst hk
    rw [upd_at]
    exact grpF_in l g hp hr (by simp) hr (by simp) (fun q _ hq => Nat.le_of_eq (Eq.symm (of_decide_eq_true hq)))
  · rw [upd_ne _ _ hk]
    exact grpF_out l none g (Or.inr (by simp [hk]))
theorem set_one {M : St} {nr i r : Nat} (hi : (opn M nr)[i]? = some r) (hl : (opn M nr).length ≤ 10) : SetIs (opn M nr) (1 <<< (nI i &&& 31)) (fun q => decide (q = r)) := fun j q hq => by
  have h1 := (List.getElem?_eq_some_iff.mp hi).1
  have h2 := (List.getElem?_eq_some_iff.mp hq).1
  rw [b_pw i (by omega) (by omega)]
  by_cases hj : j = i
  · subst hj
    rw [hi] at hq
    cases hq
    simp
  · have : ¬ q = r := by
      rintro rfl
      exact hj (opn_inj hq hi)
    simp [hj, this]
theorem part_L {B M : St} {np nn nf nr d : Nat} (h : Rel B M np nn nf nr d) {old y : Int32} (hy : SetIs (opn M nr) y (fun q => decide (M.2 14 q = old))) :
    ∀ (l : List Nat) (i n : Nat) (g a : Nat → Int32), (opn M nr).drop i = l → i ≤ (opn M nr).length → l.length < n → ∃ g' a', f2_part_L2 n y (nI i) (cS B g a) = f5_giveAnew (cS B g' a') y ∧
      (∀ k, g' k = if k ∈ l ∧ M.2 14 k = old then nI k else g k) ∧ ∀ k, a' k = if k ∈ l ∧ M.2 14 k = old then 0 else a k := by
  intro l
  induction l with
  | nil =>
    intro i n g a hi hil hm
    obtain ⟨n, rfl⟩ : ∃ q, n = q + 1 := ⟨n - 1, by omega⟩
    have h1 := dr_n hi
    have h3 := h.ol.2.1
    have h5 : (cS B g a).1 5 = nI (opn M nr).length := h.ol.1
    refine ⟨g, a, ?_, fun k => by rw [if_neg (fun z => absurd z.1 List.not_mem_nil)], fun k => by rw [if_neg (fun z => absurd z.1 List.not_mem_nil)]⟩
    show f2_part_L2b (f2_part_L2 n) y (nI i) (cS B g a) = _
    unfold f2_part_L2b
    rw [h5, if_pos (le_ok (by omega) h1)]
    cases f5_giveAnew (cS B g a) y with
    | none => rfl
    | some _ => rfl
  | cons r l ih =>
    intro i n g a hi hil hm
    obtain ⟨n, rfl⟩ : ∃ q, n = q + 1 := ⟨n - 1, by omega⟩
    obtain ⟨h1, h2, h3⟩ := dr_c hi
    have h10 := h.ol.2.1
    have h40 := h.nr.2
    have hrn := (opn_in h1).1
    rw [List.length_cons] at hm
    have h5 : (cS B g a).1 5 = nI (opn M nr).length := h.ol.1
    have hpw : (r :: l).Pairwise (· < ·) := by rw [← hi]; exact List.Pairwise.sublist (List.drop_sublist _ _) (opn_pw M nr)
    have hrl : r ∉ l := fun z => by have := (List.pairwise_cons.mp hpw).1 r z; omega
    have hs : f2_part_L2 (n + 1) y (nI i) (cS B g a) = f2_part_L2 n y (nI (i + 1)) (cS B (if M.2 14 r = old then upd g r (nI r) else g) (if M.2 14 r = old then upd a r 0 else a)) := by
      show f2_part_L2b (f2_part_L2 n) y (nI i) (cS B g a) = _
      unfold f2_part_L2b
      rw [h5, if_neg (le_no (by omega) (by omega)), f4_isIn_eq _ (by omega), Option.bind_some, hy i r h1]
      dsimp only
      by_cases hg : M.2 14 r = old
      · have hol2 : OL (cS B g a) (opn M nr) := h.ol
        have e1 := b_group hol2 (set_one h1 h10)
        rw [grpF_one _ (opn_pw M nr) (List.mem_of_getElem? h1), cS_g, show (cS B g a).2 16 = g from rfl] at e1
        have l17 : ldA (cS B (upd g r (nI r)) a) 17 10 (nI i) = some (nI r) := OL.ld (show OL (cS B (upd g r (nI r)) a) (opn M nr) from h.ol) h1
        have s15 : stZ (cS B (upd g r (nI r)) a) 15 40 (nI r) 0 = some (cS B (upd g r (nI r)) (upd a r 0)) := by rw [stZ_ok (by omega) (by omega) (Or.inl rfl), cS_15]
        rw [if_neg (by simp [hg, bI]), if_pos hg, if_pos hg, e1, Option.bind_some, l17, Option.bind_some, s15, Option.bind_some, nI_s]
      · rw [if_pos (by simp [hg, bI]), if_neg hg, if_neg hg, nI_s]
    obtain ⟨g', a', r1, r2, r3⟩ := ih (i + 1) n (if M.2 14 r = old then upd g r (nI r) else g) (if M.2 14 r = old then upd a r 0 else a) h2 (by omega) (by omega)
    refine ⟨g', a', by rw [hs]; exact r1, fun k => ?_, fun k => ?_⟩
    · rw [r2 k]
      by_cases hk : k = r
      · subst hk
        rw [if_neg (fun z => hrl z.1)]
        by_cases hg : M.2 14 k = old
        · rw [if_pos hg, upd_at, if_pos ⟨List.mem_cons_self, hg⟩]
        · rw [if_neg hg, if_neg (fun z => hg z.2)]
      · have e : (if M.2 14 r = old then upd g r (nI r) else g) k = g k := by
          by_cases hg : M.2 14 r = old
          · rw [if_pos hg, upd_ne _ _ hk]
          · rw [if_neg hg]
        rw [e]
        by_cases hc : k ∈ l ∧ M.2 14 k = old
        · rw [if_pos hc, if_pos ⟨List.mem_cons_of_mem _ hc.1, hc.2⟩]
        · rw [if_neg hc, if_neg (fun z => hc ⟨(List.mem_cons.mp z.1).resolve_left hk, z.2⟩)]
    · rw [r3 k]
      by_cases hk : k = r
      · subst hk
        rw [if_neg (fun z => hrl z.1)]
        by_cases hg : M.2 14 k = old
        · rw [if_pos hg, upd_at, if_pos ⟨List.mem_cons_self, hg⟩]
        · rw [if_neg hg, if_neg (fun z => hg z.2)]
      · have e : (if M.2 14 r = old then upd a r 0 else a) k = a k := by
          by_cases hg : M.2 14 r = old
          · rw [if_pos hg, upd_ne _ _ hk]
          · rw [if_neg hg]
        rw [e]
        by_cases hc : k ∈ l ∧ M.2 14 k = old
        · rw [if_pos hc, if_pos ⟨List.mem_cons_of_mem _ hc.1, hc.2⟩]
        · rw [if_neg hc, if_neg (fun z => hc ⟨(List.mem_cons.mp z.1).resolve_left hk, z.2⟩)]
/-- both states behind a parting, ahead of the giving -/
theorem part_rel {B M : St} {np nn nf nr d : Nat} (h : Rel B M np nn nf nr d) {old : Int32} {g' a' gm am : Nat → Int32}
    (h1 : ∀ k, g' k = if k ∈ opn M nr ∧ M.2 14 k = old then nI k else B.2 16 k) (h2 : ∀ k, a' k = if k ∈ opn M nr ∧ M.2 14 k = old then 0 else B.2 15 k)
    (h3 : ∀ k, gm k = if k < nr ∧ M.2 9 k = 0 ∧ M.2 14 k = old then nI k else M.2 14 k) (h4 : ∀ k, am k = if 0 ≤ k ∧ k < 0 + nr ∧ inG M old k = true then 0 else M.2 16 k) :
    Rel (cS B g' a') (gM (lS M (M.2 0) (M.2 9) am) gm) np nn nf nr d ∧ ∀ k, k ∈ opn M nr → M.2 14 k = old → gm k = nI k ∧ ∀ q ∈ opn M nr, gm q = nI k → q = k := by
  have h40 := h.nr.2
  have hmem : ∀ k, (k ∈ opn M nr ∧ M.2 14 k = old) ↔ (k < nr ∧ M.2 9 k = 0 ∧ M.2 14 k = old) := fun k => by
    rw [mem_opn, and_assoc]
  have hmem2 : ∀ k, (0 ≤ k ∧ k < 0 + nr ∧ inG M old k = true) ↔ (k < nr ∧ M.2 9 k = 0 ∧ M.2 14 k = old) := fun k => by
    rw [inG_t, Nat.zero_add]
    exact ⟨fun z => z.2, fun z => ⟨Nat.zero_le _, z⟩⟩
  obtain ⟨⟨i0, i1, i2, i3, i4, i5, i6, i7, i8, i9⟩, ⟨a0, a6, a9, a13, a14, a15, a18⟩, ⟨g0, g1, g2, g3, g4, g6⟩, ⟨o5, o17, o16⟩⟩ := h
  have hop : opn (gM (lS M (M.2 0) (M.2 9) am) gm) nr = opn M nr := opn_congr rfl nr
  have hgi : ∀ k, k < nr ∧ M.2 9 k = 0 ∧ M.2 14 k = old → gm k = nI k := fun k hk => by rw [h3 k, if_pos hk]
  have hgo : ∀ k, ¬ (k < nr ∧ M.2 9 k = 0 ∧ M.2 14 k = old) → gm k = M.2 14 k := fun k hk => by rw [h3 k, if_neg hk]
  refine ⟨⟨⟨i0, i1, i2, fun k hk h9 => ?_, fun k => ?_, fun k hk => ⟨?_, (i5 k hk).2⟩, i6, i7, i8, by rw [hop]; exact i9.1, i9.2⟩, ⟨a0, a6, a9, a13, a14, ?_, a18⟩, ⟨g0, g1, g2, g3, g4, g6⟩, ⟨by rw [hop]; exact o5, by rw [hop]; exact o17, fun q hq => ?_⟩⟩, fun k hk hk2 => ?_⟩
  · have h9' : M.2 9 k = 0 := h9
    show ∃ g, g ≤ k ∧ gm k = nI g ∧ M.2 9 g = 0 ∧ gm g = nI g
    by_cases hc : k < nr ∧ M.2 9 k = 0 ∧ M.2 14 k = old
    · exact ⟨k, Nat.le_refl _, hgi k hc, h9', hgi k hc⟩
    · obtain ⟨g, q1, q2, q3, q4⟩ := i3 k hk h9'
      refine ⟨g, q1, by rw [hgo k hc, q2], q3, ?_⟩
      rw [hgo g (fun z => hc ⟨hk, h9', by rw [q2, ← q4]; exact z.2.2⟩), q4]
  · show am k = 0 ∨ am k = 1
    rw [h4 k]
    by_cases hc : 0 ≤ k ∧ k < 0 + nr ∧ inG M old k = true
    · rw [if_pos hc]; exact Or.inl rfl
    · rw [if_neg hc]; exact i4 k
  · show am k = 0
    rw [h4 k, if_neg (fun z => by have := z.2.1; omega)]
    exact (i5 k hk).1
  · show a' = am
    refine funext fun k => ?_
    rw [h2 k, h4 k, a15]
    by_cases hc : k < nr ∧ M.2 9 k = 0 ∧ M.2 14 k = old
    · rw [if_pos ((hmem k).mpr hc), if_pos ((hmem2 k).mpr hc)]
    · rw [if_neg (fun z => hc ((hmem k).mp z)), if_neg (fun z => hc ((hmem2 k).mp z))]
  · show g' q = if M.2 9 q = 0 then gm q else -1
    rw [h1 q]
    by_cases hc : q < nr ∧ M.2 9 q = 0 ∧ M.2 14 q = old
    · rw [if_pos ((hmem q).mpr hc), if_pos hc.2.1, hgi q hc]
    · rw [if_neg (fun z => hc ((hmem q).mp z)), o16 q hq]
      by_cases h9 : M.2 9 q = 0
      · rw [if_pos h9, if_pos h9, hgo q hc]
      · rw [if_neg h9, if_neg h9]
  · have hc := (hmem k).mp ⟨hk, hk2⟩
    refine ⟨hgi k hc, fun q hq hqk => ?_⟩
    have hq1 := mem_opn.mp hq
    by_cases hcq : q < nr ∧ M.2 9 q = 0 ∧ M.2 14 q = old
    · rw [hgi q hcq] at hqk
      exact (nI_eq (by omega) (by omega)).mp hqk
    · exfalso
      rw [hgo q hcq] at hqk
      obtain ⟨g, q1, q2, q3, q4⟩ := i3 q hq1.1 hq1.2
      rw [q2] at hqk
      have hgk : g = k := (nI_eq (by omega) (by omega)).mp hqk
      rw [hgk] at q4 q2
      exact hcq ⟨hq1.1, hq1.2, by rw [q2, ← q4]; exact hk2⟩
/-- a raise alone in its group is given anew -/
def gbd (S : St) (r : Int32) : Option St := (f5_hasOwnReviewer S r).bind fun q14 => (fun (S7 : St) (x6 : Int32) => if x6 = 0 then ((f5_bestFor S7 r).bind fun q13 => (fun (S10 : St) (x9 : Int32) => f5_give S10 r x9) q13.1 q13.2) else some S7) q14.1 q14.2
theorem ga_step {S : St} {ol : List Nat} (hol : OL S ol) {j r : Nat} (hj : ol[j]? = some r) (n : Nat) (x : Int32) : f5_giveAnew_L2 (n + 1) x (nI j) S = if bt x j = true then (gbd S (nI r)).bind fun S' => f5_giveAnew_L2 n x (nI (j + 1)) S' else f5_giveAnew_L2 n x (nI (j + 1)) S := by
  have h1 := (List.getElem?_eq_some_iff.mp hj).1
  have h10 := hol.2.1
  show f5_giveAnew_L2b (f5_giveAnew_L2 n) x (nI j) S = _
  unfold f5_giveAnew_L2b gbd
  rw [hol.1, if_neg (le_no (by omega) (by omega)), hol.ld hj, Option.bind_some, f4_isIn_eq _ (by omega), Option.bind_some, nI_s]
  dsimp only
  by_cases hb : bt x j = true
  · rw [if_neg (by rw [hb]; decide), if_pos hb]
    cases f5_hasOwnReviewer S (nI r) with
    | none => rfl
    | some q =>
      rw [Option.bind_some, Option.bind_some]
      by_cases hq : q.2 = 0
      · rw [if_pos hq, if_pos hq]
        cases f5_bestFor q.1 (nI r) with
        | none => rfl
        | some w => rfl
      · rw [if_neg hq, if_neg hq, Option.bind_some]
  · have hb2 : bt x j = false := by simpa using hb
    rw [if_pos (by rw [hb2]; decide), if_neg hb]
theorem ga_skip {S : St} {ol : List Nat} (hol : OL S ol) (x : Int32) : ∀ (m j n : Nat), j + m ≤ ol.length → (∀ k, j ≤ k → k < j + m → bt x k = false) → f5_giveAnew_L2 (n + m) x (nI j) S = f5_giveAnew_L2 n x (nI (j + m)) S
  | 0, _, _, _, _ => rfl
  | m + 1, j, n, h1, h2 => by
    have hj : ol[j]? = some ol[j] := List.getElem?_eq_some_iff.mpr ⟨by omega, rfl⟩
    have e := ga_step hol hj (n + m) x
    rw [if_neg (by rw [h2 j (Nat.le_refl _) (by omega)]; decide), ga_skip hol x m (j + 1) n (by omega) (fun k k1 k2 => h2 k (by omega) (by omega)), show j + 1 + m = j + (m + 1) by omega] at e
    exact e
theorem ga_end {S : St} {ol : List Nat} (hol : OL S ol) (x : Int32) (n : Nat) : f5_giveAnew_L2 (n + 1) x (nI ol.length) S = some S := by
  have h10 := hol.2.1
  show f5_giveAnew_L2b (f5_giveAnew_L2 n) x (nI ol.length) S = _
  unfold f5_giveAnew_L2b
  rw [hol.1, if_pos (le_ok (by omega) (Nat.le_refl _))]
theorem gbd_some {B M : St} {np nn nf nr d r : Nat} (h : Rel B M np nn nf nr d) (hr : r ∈ opn M nr) : ∃ B', gbd B (nI r) = some B' ∧ OL B' (opn M nr) := by
  have hr1 := mem_opn.mp hr
  have h40 := h.nr.2
  have hbest : f5_bestFor B (nI r) = some (B, best M nr r) := b_best_L h hr 6 0 2000 (-1) 11 rfl (by omega) (Or.inl ⟨rfl, i_11⟩)
  unfold gbd
  rw [b_hasOwn h hr, Option.bind_some]
  dsimp only
  by_cases hn : bI (!needs M nr r) = 0
  · rw [if_pos hn, hbest, Option.bind_some]
    dsimp only
    have k14 : ldA B 14 40 (nI r) = some (B.2 14 r) := ldA_ok (by omega) (by omega)
    have s1 : stA B 14 40 (nI r) (best M nr r) = some (stS B 14 r (best M nr r)) := stA_ok (by omega) (by omega)
    have s2 : stZ (stS B 14 r (best M nr r)) 15 40 (nI r) 0 = some (stS (stS B 14 r (best M nr r)) 15 r 0) := stZ_ok (by omega) (by omega) (Or.inl rfl)
    unfold f5_give
    rw [k14, Option.bind_some]
    by_cases z : B.2 14 r = best M nr r
    · rw [if_pos z]
      exact ⟨B, rfl, h.ol⟩
    · rw [if_neg z, s1, Option.bind_some, s2, Option.bind_some]
      exact ⟨_, rfl, h.ol⟩
  · rw [if_neg hn]
    exact ⟨B, rfl, h.ol⟩
theorem ga_one {B M : St} {np nn nf nr d r j : Nat} (h : Rel B M np nn nf nr d) (hj : (opn M nr)[j]? = some r) : f5_giveAnew B (1 <<< (nI j &&& 31)) = gbd B (nI r) := by
  have h10 := h.ol.2.1
  have h1 := (List.getElem?_eq_some_iff.mp hj).1
  obtain ⟨B', e1, e2⟩ := gbd_some h (List.mem_of_getElem? hj)
  have hb : ∀ k, k < 32 → bt (1 <<< (nI j &&& 31)) k = decide (k = j) := fun k hk => b_pw j (by omega) hk
  have s1 := ga_skip h.ol (1 <<< (nI j &&& 31)) j 0 (2000 - j) (by omega) (fun k _ hk => by rw [hb k (by omega)]; simp; omega)
  rw [show 2000 - j + j = 2000 by omega, Nat.zero_add] at s1
  have s2 := ga_step h.ol hj (1999 - j) (1 <<< (nI j &&& 31))
  rw [show 1999 - j + 1 = 2000 - j by omega, if_pos (by rw [hb j (by omega)]; simp), e1, Option.bind_some] at s2
  have s3 := ga_skip e2 (1 <<< (nI j &&& 31)) ((opn M nr).length - (j + 1)) (j + 1) (1998 - j - ((opn M nr).length - (j + 1)) + 1) (by omega) (fun k hk hk2 => by rw [hb k (by omega)]; simp; omega)
  rw [show 1998 - j - ((opn M nr).length - (j + 1)) + 1 + ((opn M nr).length - (j + 1)) = 1999 - j by omega, show j + 1 + ((opn M nr).length - (j + 1)) = (opn M nr).length by omega, ga_end e2] at s3
  unfold f5_giveAnew
  rw [e1]
  exact s1.trans (s2.trans s3)
/-- one after another is given anew -/
theorem gives {np nn nf nr d : Nat} {y : Int32} {v6 : Int64} {ol : List Nat} {P : Nat → Bool} (many : Int32) (hy : SetIs ol y P) (hv : ∀ k, k < nr → (bl v6 k = true ↔ k ∈ ol ∧ P k = true)) :
    ∀ (m i j n1 n2 : Nat) (B M : St), Rel B M np nn nf nr d → opn M nr = ol → (∀ k ∈ ol, P k = true → M.2 14 k = nI k ∧ ∀ q ∈ ol, M.2 14 q = nI k → q = k) → i + m = nr → ol.drop j = (List.range' i m).filter (opB M) → j ≤ ol.length → m < n1 → m < n2 →
      ∃ B' M', f5_giveAnew_L2 n1 y (nI j) B = some B' ∧ f7_land_L274 n2 many v6 (nI i) M = some (M', many) ∧ Rel B' M' np nn nf nr d ∧ M'.1 = M.1 := by
  intro m
  induction m with
  | zero =>
    intro i j n1 n2 B M h ho ha hi hj hjl hn1 hn2
    obtain ⟨n1, rfl⟩ : ∃ q, n1 = q + 1 := ⟨n1 - 1, by omega⟩
    obtain ⟨n2, rfl⟩ : ∃ q, n2 = q + 1 := ⟨n2 - 1, by omega⟩
    have h40 := h.nr.2
    have hol := h.ol
    rw [ho] at hol
    have hj2 : ol.length ≤ j := dr_n (by rw [hj]; rfl)
    have hj3 : j = ol.length := by omega
    refine ⟨B, M, by rw [hj3]; exact ga_end hol y n1, ?_, h, rfl⟩
    show f7_land_L274b (f7_land_L274 n2) many v6 (nI i) M = _
    unfold f7_land_L274b
    rw [h.nr.1, if_pos (le_ok (by omega) (by omega))]
  | succ m ih =>
    intro i j n1 n2 B M h ho ha hi hj hjl hn1 hn2
    obtain ⟨n2, rfl⟩ : ∃ q, n2 = q + 1 := ⟨n2 - 1, by omega⟩
    have h40 := h.nr.2
    have hol := h.ol
    rw [ho] at hol
    have h10 := hol.2.1
    rw [List.range'_succ, List.filter_cons] at hj
    have hM0 : f7_land_L274 (n2 + 1) many v6 (nI i) M = if bl v6 i = true then (f7_give M (nI i)).bind fun S4 => f7_land_L274 n2 many v6 (nI (i + 1)) S4 else f7_land_L274 n2 many v6 (nI (i + 1)) M := by
      show f7_land_L274b (f7_land_L274 n2) many v6 (nI i) M = _
      unfold f7_land_L274b
      rw [h.nr.1, if_neg (le_no (by omega) (by omega)), nI_s]
      by_cases hb : bl v6 i = true
      · rw [if_pos ((bl_in (by omega)).mpr hb), if_pos hb]
      · rw [if_neg (fun z => hb ((bl_in (by omega)).mp z)), if_neg hb]
    by_cases hob : opB M i = true
    · rw [if_pos hob] at hj
      obtain ⟨hj1, hj2, hj3⟩ := dr_c hj
      have hmem : i ∈ ol := List.mem_of_getElem? hj1
      obtain ⟨n1, rfl⟩ : ∃ q, n1 = q + 1 := ⟨n1 - 1, by omega⟩
      have hB0 := ga_step hol hj1 n1 y
      rw [hy j i hj1] at hB0
      by_cases hP : P i = true
      · rw [if_pos hP] at hB0
        rw [if_pos ((hv i (by omega)).mpr ⟨hmem, hP⟩)] at hM0
        obtain ⟨ha1, ha2⟩ := ha i hmem hP
        have hs1 : SetIs (opn M nr) (1 <<< (nI j &&& 31)) (fun q => decide (M.2 14 q = nI i)) := fun k q hq => by
          rw [set_one (by rw [ho]; exact hj1) (by rw [ho]; exact h10) k q hq]
          by_cases hqi : q = i
          · simp [hqi, ha1]
          · have : ¬ M.2 14 q = nI i := fun z => hqi (ha2 q (by rw [← ho]; exact List.mem_of_getElem? hq) z)
            simp [hqi, this]
        obtain ⟨B1, M1, t1, t2, t3, t4, t5, t6, t7⟩ := give_eq h hs1
        rw [ga_one h (by rw [ho]; exact hj1)] at t1
        rw [t1, Option.bind_some] at hB0
        rw [t2, Option.bind_some] at hM0
        have e9 : M1.2 9 = M.2 9 := t5 9 (by decide) (by decide)
        have e14 : M1.2 14 = M.2 14 := t5 14 (by decide) (by decide)
        have hob2 : opB M1 = opB M := by unfold opB; rw [e9]
        obtain ⟨B', M', r1, r2, r3, r4⟩ := ih (i + 1) (j + 1) n1 n2 B1 M1 t3 (by rw [opn_congr e9, ho]) (by rw [e14]; exact ha) (by omega) (by rw [hob2]; exact hj2) (by omega) (by omega) (by omega)
        exact ⟨B', M', hB0.trans r1, hM0.trans r2, r3, r4.trans t4⟩
      · rw [if_neg hP] at hB0
        rw [if_neg (fun z => hP ((hv i (by omega)).mp z).2)] at hM0
        obtain ⟨B', M', r1, r2, r3⟩ := ih (i + 1) (j + 1) n1 n2 B M h ho ha (by omega) hj2 (by omega) (by omega) (by omega)
        exact ⟨B', M', hB0.trans r1, hM0.trans r2, r3⟩
    · rw [if_neg hob] at hj
      have hnm : i ∉ ol := fun z => by
        rw [← ho] at z
        exact hob (by simp [opB, (mem_opn.mp z).2])
      rw [if_neg (fun z => hnm ((hv i (by omega)).mp z).1)] at hM0
      obtain ⟨B', M', r1, r2, r3⟩ := ih (i + 1) j n1 n2 B M h ho ha (by omega) hj hjl (by omega) (by omega)
      exact ⟨B', M', r1, hM0.trans r2, r3⟩
