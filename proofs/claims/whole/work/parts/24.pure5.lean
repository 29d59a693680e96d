/-! giving raises to reviewers: the class and the model do the same -/
theorem stS_same {S : St} {k j : Nat} {v : Int32} (h : S.2 k j = v) : stS S k j v = S := by
  unfold stS
  refine Prod.ext rfl (funext fun q => ?_)
  by_cases hq : q = k
  · subst hq
    show (if q = q then upd (S.2 q) j v else S.2 q) = S.2 q
    rw [if_pos rfl]
    funext i
    unfold upd
    by_cases hi : i = j
    · rw [if_pos hi, hi, h]
    · rw [if_neg hi]
  · exact if_neg hq
theorem upd_at (f : Nat → Int32) (k : Nat) (v : Int32) : upd f k v k = v := pk_us
theorem upd_ne (f : Nat → Int32) {k j : Nat} (v : Int32) (h : j ≠ k) : upd f k v j = f j := pk_un h
theorem Rel.rv {B M : St} {np nn nf nr d r : Nat} (h : Rel B M np nn nf nr d) (hr : r < nr) (b : Int32) {a : Int32} (ha : a = 0 ∨ a = 1) : Rel (stS (stS B 14 r b) 15 r a) (stS (stS M 16 r a) 15 r b) np nn nf nr d := by
  obtain ⟨hI, hA, hF, hO⟩ := h
  have e : ∀ q, q ≠ 15 → q ≠ 16 → (stS (stS M 16 r a) 15 r b).2 q = M.2 q := fun q h1 h2 => by rw [stS_n _ _ _ h1, stS_n _ _ _ h2]
  have eb : ∀ q, q ≠ 14 → q ≠ 15 → (stS (stS B 14 r b) 15 r a).2 q = B.2 q := fun q h1 h2 => by rw [stS_n _ _ _ h2, stS_n _ _ _ h1]
  have e1 : (stS (stS M 16 r a) 15 r b).1 = M.1 := rfl
  have e16 : (stS (stS M 16 r a) 15 r b).2 16 = upd (M.2 16) r a := rfl
  have e15 : (stS (stS M 16 r a) 15 r b).2 15 = upd (M.2 15) r b := rfl
  have eb1 : (stS (stS B 14 r b) 15 r a).1 = B.1 := rfl
  have eb14 : (stS (stS B 14 r b) 15 r a).2 14 = upd (B.2 14) r b := rfl
  have eb15 : (stS (stS B 14 r b) 15 r a).2 15 = upd (B.2 15) r a := rfl
  have ho : opn (stS (stS M 16 r a) 15 r b) nr = opn M nr := opn_congr rfl nr
  refine ⟨?_, ?_, ?_, ?_⟩
  · obtain ⟨i0, i1, i2, i3, i4, i5, i6, i7, i8, i9⟩ := hI
    unfold Inv
    rw [ho, e1, e 0 (by decide) (by decide), e 1 (by decide) (by decide), e 2 (by decide) (by decide), e 3 (by decide) (by decide), e 4 (by decide) (by decide), e 9 (by decide) (by decide), e 10 (by decide) (by decide), e 13 (by decide) (by decide), e 14 (by decide) (by decide), e16]
    refine ⟨i0, i1, i2, i3, fun k => ?_, fun k hk => ⟨?_, (i5 k hk).2⟩, i6, i7, i8, i9⟩
    · by_cases hk : k = r
      · rw [hk, upd_at]; exact ha
      · rw [upd_ne _ _ hk]; exact i4 k
    · rw [upd_ne _ _ (by omega)]; exact (i5 k hk).1
  · obtain ⟨⟨a0, a2, a3, a4, a5⟩, a6, a9, a13, a14, a15, a18⟩ := hA
    unfold Ar
    rw [eb14, eb15, e15, e16, a14, a15]
    exact ⟨⟨a0, a2, a3, a4, a5⟩, a6, a9, a13, rfl, rfl, a18⟩
  · exact hF
  · unfold Op
    rw [ho]
    exact hO
/-- how many raises a reviewer has, one not counted -/
def ldM (M : St) (nr r : Nat) (x : Int32) : Nat := (opn M nr).countP (fun k => (!decide (nI k = nI r)) && decide (M.2 15 k = x))
def mayM (M : St) (nr r : Nat) (own : Int32) (k : Nat) : Bool := (!decide (M.2 5 k < M.2 12 r)) && !((opn M nr).any fun q => (!decide (nI q = nI r)) && (decide (M.2 14 q = own) && decide (M.2 15 q = nI k)))
def bst (M : St) (nr r : Nat) (own : Int32) (b : Int32) (k : Nat) : Int32 := if mayM M nr r own k = true then (if b = -1 then nI k else if ldM M nr r b ≤ ldM M nr r (nI k) then b else nI k) else b
theorem ldM_le (M : St) (nr r : Nat) (x : Int32) : ldM M nr r x ≤ (opn M nr).length := List.countP_le_length
theorem m_load {M : St} {nr : Nat} (hr : M.1 6 = nI nr) (hrr : nr ≤ 40) (g : Int32) (r : Nat) : f7_loadOf M g (nI r) = some (M, nI (ldM M nr r g)) := by
  rw [m_loadOf hr hrr]
  refine congrArg (fun z => some (M, nI z)) ?_
  unfold ldM
  rw [← cnt_opn]
  exact cnt_congr fun k _ _ => by cases opB M k <;> simp
theorem m_hasG {M : St} {nr : Nat} (hr : M.1 6 = nI nr) (hrr : nr ≤ 40) (who own : Int32) (r : Nat) : f7_has M who own (nI r) (M.1 6) = some (M, bI ((opn M nr).any fun q => (!decide (nI q = nI r)) && (decide (M.2 14 q = own) && decide (M.2 15 q = who)))) := by
  rw [hr, m_has hrr, ← exi_opn]
  refine congrArg (fun z => some (M, bI z)) ?_
  unfold exi
  exact congrArg (fun f => List.any (List.range' 0 nr) f) (funext fun k => by cases opB M k <;> simp)
/-- what the model does behind its choice -/
def mgx (k2 : Int32 → Int32 → St → Option St) (own : Int32) (r : Nat) (M : St) (b : Int32) : Option St := k2 own (nI (r + 1)) (stS (stS M 16 r (if M.2 16 r = 0 then 0 else if M.2 15 r = b then 1 else 0)) 15 r b)
theorem m_best_L {M : St} {nr r : Nat} (hr : M.1 6 = nI nr) (hrr : nr ≤ 40) (hrn : r < nr) (k2 : Int32 → Int32 → St → Option St) (own : Int32) :
    ∀ (m i n : Nat) (b : Int32), i + m = 6 → m < n → f7_give_L60 k2 n own (nI r) b (nI i) M = mgx k2 own r M (fld (bst M nr r own) b i m) := by
  intro m
  induction m with
  | zero =>
    intro i n b hi hm
    obtain ⟨n, rfl⟩ : ∃ q, n = q + 1 := ⟨n - 1, by omega⟩
    show f7_give_L60b k2 (f7_give_L60 k2 n) own (nI r) b (nI i) M = _
    have l16 : ldA M 16 40 (nI r) = some (M.2 16 r) := ldA_ok (by omega) (by omega)
    have l15 : ldA M 15 40 (nI r) = some (M.2 15 r) := ldA_ok (by omega) (by omega)
    have z0 : stZ M 16 40 (nI r) 0 = some (stS M 16 r 0) := stZ_ok (by omega) (by omega) (Or.inl rfl)
    have z1 : stZ M 16 40 (nI r) 1 = some (stS M 16 r 1) := stZ_ok (by omega) (by omega) (Or.inr rfl)
    have s15 : ∀ a, stA (stS M 16 r a) 15 40 (nI r) b = some (stS (stS M 16 r a) 15 r b) := fun a => stA_ok (by omega) (by omega)
    unfold f7_give_L60b mgx
    rw [if_pos (by rw [i_6]; exact le_ok (by omega) (by omega)), l16, Option.bind_some, fld_0]
    by_cases h1 : M.2 16 r = 0
    · rw [if_pos h1, z0, Option.bind_some, s15, Option.bind_some, nI_s, if_pos h1]
    · rw [if_neg h1, l15, Option.bind_some, if_neg h1]
      by_cases h2 : M.2 15 r = b
      · rw [if_pos h2, z1, Option.bind_some, s15, Option.bind_some, nI_s, if_pos h2]
      · rw [if_neg h2, z0, Option.bind_some, s15, Option.bind_some, nI_s, if_neg h2]
  | succ m ih =>
    intro i n b hi hm
    obtain ⟨n, rfl⟩ : ∃ q, n = q + 1 := ⟨n - 1, by omega⟩
    show f7_give_L60b k2 (f7_give_L60 k2 n) own (nI r) b (nI i) M = _
    have l5 : ldA M 5 6 (nI i) = some (M.2 5 i) := ldA_ok (by omega) (by omega)
    have l12 : ldA M 12 40 (nI r) = some (M.2 12 r) := ldA_ok (by omega) (by omega)
    have j2 : f7_give_J102 k2 (f7_give_L60 k2 n) own (nI r) b (nI i) M = f7_give_L60 k2 n own (nI r) b (nI (i + 1)) M := by
      unfold f7_give_J102 f7_give_J103
      rw [if_pos rfl, nI_s]
    have j3 : f7_give_J103 k2 (f7_give_L60 k2 n) own (nI r) b (nI i) 1 M = f7_give_L60 k2 n own (nI r) (if b = -1 then nI i else if ldM M nr r b ≤ ldM M nr r (nI i) then b else nI i) (nI (i + 1)) M := by
      unfold f7_give_J103
      rw [if_neg (by decide), nI_s]
      by_cases hb : b = -1
      · rw [if_pos hb, if_pos hb]
      · rw [if_neg hb, if_neg hb, m_load hr hrr, Option.bind_some]
        dsimp only
        rw [m_load hr hrr, Option.bind_some]
        dsimp only
        have q1 := ldM_le M nr r b
        have q2 := ldM_le M nr r (nI i)
        have q3 : (opn M nr).length ≤ nr := Nat.le_trans (List.length_filter_le _ _) (Nat.le_of_eq List.length_range')
        by_cases hc : ldM M nr r b ≤ ldM M nr r (nI i)
        · rw [if_pos (le_ok (by omega) hc), if_pos hc]
        · rw [if_neg (le_no (by omega) (by omega)), if_neg hc]
    unfold f7_give_L60b
    rw [if_neg (by rw [i_6]; exact le_no (by omega) (by omega)), l5, Option.bind_some, l12, Option.bind_some, fld_s]
    by_cases h1 : M.2 5 i < M.2 12 r
    · rw [if_pos h1, j2, ih (i + 1) n b (by omega) (by omega)]
      have : bst M nr r own b i = b := by
        unfold bst
        rw [if_neg (by simp [mayM, h1])]
      rw [this]
    · rw [if_neg h1, m_hasG hr hrr, Option.bind_some]
      dsimp only
      cases hc : (opn M nr).any fun q => (!decide (nI q = nI r)) && (decide (M.2 14 q = own) && decide (M.2 15 q = nI i)) with
      | true =>
        rw [if_neg (by decide), j2, ih (i + 1) n b (by omega) (by omega)]
        have : bst M nr r own b i = b := by
          unfold bst
          rw [if_neg (by unfold mayM; rw [hc]; simp)]
        rw [this]
      | false =>
        rw [if_pos bI_f, j3, ih (i + 1) n _ (by omega) (by omega)]
        have : bst M nr r own b i = if b = -1 then nI i else if ldM M nr r b ≤ ldM M nr r (nI i) then b else nI i := by
          unfold bst
          rw [if_pos (by unfold mayM; rw [hc]; simp [h1])]
        rw [this]
theorem any_congr {l : List Nat} {p q : Nat → Bool} (h : ∀ r ∈ l, p r = q r) : l.any p = l.any q := by
  induction l with
  | nil => rfl
  | cons a l ih => rw [List.any_cons, List.any_cons, h a List.mem_cons_self, ih (fun r hr => h r (List.mem_cons_of_mem _ hr))]
theorem all_congr {l : List Nat} {p q : Nat → Bool} (h : ∀ r ∈ l, p r = q r) : l.all p = l.all q := by
  induction l with
  | nil => rfl
  | cons a l ih => rw [List.all_cons, List.all_cons, h a List.mem_cons_self, ih (fun r hr => h r (List.mem_cons_of_mem _ hr))]
theorem countP_congr2 {l : List Nat} {p q : Nat → Bool} (h : ∀ r ∈ l, p r = q r) : l.countP p = l.countP q := List.countP_congr (fun r hr => by rw [h r hr])
theorem dec_nI {a b : Nat} (ha : a < 2 ^ 31) (hb : b < 2 ^ 31) : decide (nI a = nI b) = decide (a = b) := by
  by_cases h : a = b
  · simp [h]
  · simp [h, ne_ok ha hb h]
theorem b_load {B M : St} {np nn nf nr d : Nat} (h : Rel B M np nn nf nr d) (g : Int32) (r : Nat) : f5_loadWithout B g (nI r) = some (B, nI (ldM M nr r g)) := by
  have h10 := h.ol.2.1
  have h1 := b_loadW_L h.ol g (nI r) (opn M nr) 0 2000 0 rfl (by omega) (by omega)
  rw [Nat.zero_add] at h1
  unfold ldM
  rw [← h.2.1.2.2.2.2.1]
  exact h1
theorem b_revA {B M : St} {np nn nf nr d : Nat} (h : Rel B M np nn nf nr d) {r e : Nat} (hr : r ∈ opn M nr) (he : e ≤ 40) (who : Int32) : f5_reviewsAnother B who (nI r) (nI e) = some (B, bI ((opn M nr).any fun q => (!decide (nI q = nI r)) && (decide (q < e) && (decide (M.2 14 q = M.2 14 r) && decide (M.2 15 q = who))))) := by
  have h10 := h.ol.2.1
  have hr1 := (mem_opn.mp hr).1
  have h40 := h.nr.2
  have h1 := b_revA_L h.ol who (v := r) (e := e) (by omega) he (opn M nr) 0 2000 rfl (by omega) (by omega)
  refine (show f5_reviewsAnother B who (nI r) (nI e) = _ from h1).trans ?_
  refine congrArg (fun z => some (B, bI z)) (any_congr fun q hq => ?_)
  have hq1 := (mem_opn.mp hq).1
  rw [h.grp hq, h.grp hr, dec_nI (by omega) (by omega), h.2.1.2.2.2.2.1]
theorem b_best_L {B M : St} {np nn nf nr d r : Nat} (h : Rel B M np nn nf nr d) (hr : r ∈ opn M nr) :
    ∀ (m i n : Nat) (b bl : Int32), i + m = 6 → m < n → (b = -1 ∧ bl = nI 11 ∨ b ≠ -1 ∧ bl = nI (ldM M nr r b)) → f5_bestFor_L8 n (nI r) b bl (nI i) B = some (B, fld (bst M nr r (M.2 14 r)) b i m) := by
  have h10 := h.ol.2.1
  have hr1 := (mem_opn.mp hr).1
  have h40 := h.nr.2
  intro m
  induction m with
  | zero =>
    intro i n b bl hi hm _
    obtain ⟨n, rfl⟩ : ∃ q, n = q + 1 := ⟨n - 1, by omega⟩
    show f5_bestFor_L8b (f5_bestFor_L8 n) (nI r) b bl (nI i) B = _
    unfold f5_bestFor_L8b
    rw [if_pos (by rw [i_6]; exact le_ok (by omega) (by omega)), fld_0]
  | succ m ih =>
    intro i n b bl hi hm hb
    obtain ⟨n, rfl⟩ : ∃ q, n = q + 1 := ⟨n - 1, by omega⟩
    show f5_bestFor_L8b (f5_bestFor_L8 n) (nI r) b bl (nI i) B = _
    have l18 : ldA B 18 6 (nI i) = some (M.2 5 i) := by rw [ldA_ok (by omega) (by omega), h.2.1.2.2.2.2.2.2]
    have l11 : ldA B 11 40 (nI r) = some (M.2 12 r) := by rw [ldA_ok (by omega) (by omega), h.2.1.2.2.1.2.2.1]
    have q2 := ldM_le M nr r (nI i)
    have hany : ((opn M nr).any fun q => (!decide (nI q = nI r)) && (decide (q < 40) && (decide (M.2 14 q = M.2 14 r) && decide (M.2 15 q = nI i)))) = ((opn M nr).any fun q => (!decide (nI q = nI r)) && (decide (M.2 14 q = M.2 14 r) && decide (M.2 15 q = nI i))) :=
      any_congr fun q hq => by
        have := (mem_opn.mp hq).1
        have h2 : q < 40 := by omega
        simp [h2]
    have hrev : f5_reviewsAnother B (nI i) (nI r) 40 = _ := b_revA h hr (e := 40) (Nat.le_refl _) (nI i)
    rw [hany] at hrev
    unfold f5_bestFor_L8b
    rw [if_neg (by rw [i_6]; exact le_no (by omega) (by omega)), b_load h, Option.bind_some, fld_s, nI_s]
    dsimp only
    -- the choice
    have key : (bl ≤ nI (ldM M nr r (nI i)) → bst M nr r (M.2 14 r) b i = b) ∧ (¬ bl ≤ nI (ldM M nr r (nI i)) → bst M nr r (M.2 14 r) b i = if mayM M nr r (M.2 14 r) i = true then nI i else b) := by
      rcases hb with ⟨rfl, rfl⟩ | ⟨hb, rfl⟩
      · refine ⟨fun q => absurd q (le_no (by omega) (by omega)), fun _ => ?_⟩
        unfold bst
        rw [if_pos rfl]
      · have q1 := ldM_le M nr r b
        unfold bst
        rw [if_neg hb]
        refine ⟨fun q => ?_, fun q => ?_⟩
        · have h3 := (nI_leI (by omega) (by omega)).mp q
          rw [if_pos h3]
          by_cases hm : mayM M nr r (M.2 14 r) i = true
          · rw [if_pos hm]
          · rw [if_neg hm]
        · have h3 : ¬ ldM M nr r b ≤ ldM M nr r (nI i) := fun z => q (le_ok (by omega) z)
          rw [if_neg h3]
    by_cases h1 : bl ≤ nI (ldM M nr r (nI i))
    · rw [if_pos h1, ih (i + 1) n b bl (by omega) (by omega) hb, key.1 h1]
    · rw [if_neg h1, l18, Option.bind_some, l11, Option.bind_some, key.2 h1]
      by_cases h2 : M.2 5 i < M.2 12 r
      · rw [if_pos h2, ih (i + 1) n b bl (by omega) (by omega) hb, if_neg (by simp [mayM, h2])]
      · rw [if_neg h2, hrev, Option.bind_some]
        dsimp only
        cases hc : (opn M nr).any fun q => (!decide (nI q = nI r)) && (decide (M.2 14 q = M.2 14 r) && decide (M.2 15 q = nI i)) with
        | true =>
          rw [if_neg (by decide), ih (i + 1) n b bl (by omega) (by omega) hb, if_neg (by unfold mayM; rw [hc]; simp)]
        | false =>
          rw [if_pos bI_f, ih (i + 1) n (nI i) _ (by omega) (by omega) (Or.inr ⟨nI_m1 (by omega), rfl⟩), if_pos (by unfold mayM; rw [hc]; simp [h2])]
