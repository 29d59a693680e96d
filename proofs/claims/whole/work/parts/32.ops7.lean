/-! making a raise -/
theorem m_raise_L {M : St} {nr : Nat} (hr : M.1 6 = nI nr) (hrr : nr ≤ 40) (v1 v2 v3 v4 v5 : Int32) :
    ∀ (m i n : Nat) (b : Bool), i + m = nr → m < n → f7_raise_L52 n v1 v2 v3 v4 v5 (bI b) (nI i) M = (if v4 = 0 then f7_raise_J147 v1 v2 v3 1 M else if v5 = 0 then f7_raise_J147 v1 v2 v3 2 M else if (b || exi (fun k => opB M k && decide (M.2 10 k = v1)) i m) = false then (if nI (cnt (opB M) 0 nr) = 10 then f7_raise_J142 v1 v2 v3 M else if M.1 6 = 40 then f7_raise_J142 v1 v2 v3 M else f7_raise_J147 v1 v2 v3 0 M) else f7_raise_J142 v1 v2 v3 M) := by
  intro m
  induction m with
  | zero =>
    intro i n b hi hm
    obtain ⟨n, rfl⟩ : ∃ q, n = q + 1 := ⟨n - 1, by omega⟩
    show f7_raise_L52b (f7_raise_L52 n) v1 v2 v3 v4 v5 (bI b) (nI i) M = _
    unfold f7_raise_L52b
    rw [hr, if_pos (le_ok (by omega) (by omega)), exi_0, Bool.or_false]
    by_cases h4 : v4 = 0
    · rw [if_pos h4, if_pos h4]
    · rw [if_neg h4, if_neg h4]
      by_cases h5 : v5 = 0
      · rw [if_pos h5, if_pos h5]
      · rw [if_neg h5, if_neg h5]
        cases b with
        | false =>
          rw [if_pos bI_f, if_pos rfl, m_open hr hrr, Option.bind_some]
          dsimp only
          rw [hr]
        | true => rw [if_neg (by decide), if_neg (by decide)]
  | succ m ih =>
    intro i n b hi hm
    obtain ⟨n, rfl⟩ : ∃ q, n = q + 1 := ⟨n - 1, by omega⟩
    have l9 : ldA M 9 40 (nI i) = some (M.2 9 i) := ldA_ok (by omega) (by omega)
    have l10 : ldA M 10 40 (nI i) = some (M.2 10 i) := ldA_ok (by omega) (by omega)
    have ih1 : f7_raise_L52 n v1 v2 v3 v4 v5 1 (nI (i + 1)) M = _ := ih (i + 1) n true (by omega) (by omega)
    have ih0 : f7_raise_L52 n v1 v2 v3 v4 v5 0 (nI (i + 1)) M = _ := ih (i + 1) n false (by omega) (by omega)
    show f7_raise_L52b (f7_raise_L52 n) v1 v2 v3 v4 v5 (bI b) (nI i) M = _
    have hs : f7_raise_L52b (f7_raise_L52 n) v1 v2 v3 v4 v5 (bI b) (nI i) M = f7_raise_L52 n v1 v2 v3 v4 v5 (bI (b || (opB M i && decide (M.2 10 i = v1)))) (nI (i + 1)) M := by
      unfold f7_raise_L52b
      rw [hr, if_neg (le_no (by omega) (by omega)), nI_s]
      cases b with
      | true => rw [if_neg (by decide)]; rfl
      | false =>
        rw [if_pos bI_f, l9, Option.bind_some]
        by_cases h1 : M.2 9 i = 0
        · rw [if_pos h1, l10, Option.bind_some]
          by_cases h2 : M.2 10 i = v1
          · rw [if_pos h2, show (false || (opB M i && decide (M.2 10 i = v1))) = true by simp [opB, h1, h2]]; rfl
          · rw [if_neg h2, show (false || (opB M i && decide (M.2 10 i = v1))) = false by simp [h2]]; rfl
        · rw [if_neg h1, show (false || (opB M i && decide (M.2 10 i = v1))) = false by simp [opB, h1]]; rfl
    rw [hs, exi_s, ← Bool.or_assoc]
    exact ih (i + 1) n _ (by omega) (by omega)
theorem pw_ne0 {j : Nat} (hj : j < 32) : ¬ (1 : Int32) <<< (nI j &&& 31) = 0 := by
  intro h
  have h1 := b_pw j hj hj
  rw [h, b_0] at h1
  simp at h1
theorem opn_s {M : St} {nr : Nat} (h : M.2 9 nr = 0) : opn M (nr + 1) = opn M nr ++ [nr] := by
  unfold opn
  rw [List.range'_1_concat, List.filter_append, Nat.zero_add]
  congr 1
  simp [opB, h]
theorem len_opn (M : St) (nr : Nat) : cnt (opB M) 0 nr = (opn M nr).length := by
  unfold cnt opn
  rw [List.countP_eq_length_filter]
/-- the states behind the making, ahead of the giving -/
theorem raise_rel {B M : St} {np nn nf nr d p w : Nat} {risk : Int32} (h : Rel B M np nn nf nr d) (hp : p < np) (hw1 : 1 ≤ w) (hw2 : w ≤ 99) (hno : ∀ r ∈ opn M nr, M.2 10 r ≠ nI p) (h10 : (opn M nr).length < 10) (h40 : nr < 40) {B3 : St}
    (e1 : ∀ q, q ≠ 5 → B3.1 q = (sF B 4 (nI (nr + 1))).1 q) (e2 : ∀ q, q ≠ 17 → B3.2 q = (stS (stS (stS (stS (stS (stS (stS (stS B 9 nr (nI p)) 10 nr (nI w)) 11 nr risk) 12 nr (nI d)) 13 nr 0) 14 nr (-1)) 15 nr 0) 16 nr (nI nr)).2 q)
    (e5 : B3.1 5 = nI (opn M nr ++ [nr]).length) (e17 : ∀ (j q : Nat), (opn M nr ++ [nr])[j]? = some q → B3.2 17 j = nI q) :
    Rel B3 (sF (stS (stS (stS (stS (stS (stS (sF M 0 0) 10 nr (nI p)) 11 nr (nI w)) 12 nr risk) 13 nr (nI d)) 14 nr (nI nr)) 15 nr (-1)) 6 (nI (nr + 1))) np nn nf (nr + 1) d := by
  have hz := h.1.2.2.2.2.2.1 nr (Nat.le_refl _)
  have hop : opn (sF (stS (stS (stS (stS (stS (stS (sF M 0 0) 10 nr (nI p)) 11 nr (nI w)) 12 nr risk) 13 nr (nI d)) 14 nr (nI nr)) 15 nr (-1)) 6 (nI (nr + 1))) (nr + 1) = opn M nr ++ [nr] := opn_s hz.2
  obtain ⟨⟨⟨j0, j1, j2, ⟨hr, hrr⟩, ⟨hd, hdd⟩, j5⟩, i1, i2, i3, i4, i5, i6, ⟨i7, i7b⟩, i8, i9, i10, i11⟩, ⟨a0, a6, ⟨a9, a10, a11, a12⟩, a13, a14, a15, a18⟩, ⟨g0, g1, g2, g3, g4, g6⟩, ⟨o5, o17, o16⟩⟩ := h
  refine ⟨⟨⟨j0, j1, j2, ⟨rfl, by omega⟩, ⟨hd, hdd⟩, j5⟩, i1, fun k hk => ?_, fun k hk h9 => ?_, i4, fun k hk => i5 k (by omega), fun k q hk hq h1 h2 h3 => ?_, ⟨fun k hk => ?_, fun k q hkq hq => ?_⟩, i8, ?_, i10, fun k hk => ?_⟩, ⟨?_, ?_, ⟨?_, ?_, ?_, ?_⟩, ?_, ?_, ?_, ?_⟩, ⟨?_, ?_, ?_, ?_, ?_, ?_⟩, ⟨by rw [hop]; exact e5, by rw [hop]; exact e17, fun q hq => ?_⟩⟩
  · show ∃ p', p' < np ∧ upd (M.2 10) nr (nI p) k = nI p'
    by_cases hk2 : k = nr
    · exact ⟨p, hp, by rw [hk2, upd_at]⟩
    · rw [upd_ne _ _ hk2]; exact i2 k (by omega)
  · show ∃ g, g ≤ k ∧ upd (M.2 14) nr (nI nr) k = nI g ∧ M.2 9 g = 0 ∧ upd (M.2 14) nr (nI nr) g = nI g
    by_cases hk2 : k = nr
    · exact ⟨nr, by omega, by rw [hk2, upd_at], hz.2, upd_at _ _ _⟩
    · obtain ⟨g, q1, q2, q3, q4⟩ := i3 k (by omega) h9
      exact ⟨g, q1, by rw [upd_ne _ _ hk2]; exact q2, q3, by rw [upd_ne _ _ (by omega)]; exact q4⟩
  · have h1' : M.2 9 k = 0 := h1
    have h2' : M.2 9 q = 0 := h2
    have h3' : upd (M.2 10) nr (nI p) k = upd (M.2 10) nr (nI p) q := h3
    by_cases hk2 : k = nr
    · by_cases hq2 : q = nr
      · omega
      · rw [hk2, upd_at, upd_ne _ _ hq2] at h3'
        exact absurd h3'.symm (hno q (mem_opn.mpr ⟨by omega, h2'⟩))
    · by_cases hq2 : q = nr
      · rw [hq2, upd_at, upd_ne _ _ hk2] at h3'
        exact absurd h3' (hno k (mem_opn.mpr ⟨by omega, h1'⟩))
      · rw [upd_ne _ _ hk2, upd_ne _ _ hq2] at h3'
        exact i6 k q (by omega) (by omega) h1' h2' h3'
  · show ∃ t, t ≤ d ∧ upd (M.2 13) nr (nI d) k = nI t
    by_cases hk2 : k = nr
    · exact ⟨d, Nat.le_refl _, by rw [hk2, upd_at]⟩
    · rw [upd_ne _ _ hk2]; exact i7 k (by omega)
  · show upd (M.2 13) nr (nI d) k ≤ upd (M.2 13) nr (nI d) q
    by_cases hq2 : q = nr
    · rw [hq2, upd_at]
      by_cases hk2 : k = nr
      · rw [hk2, upd_at]; exact le_ok (by omega) (Nat.le_refl _)
      · rw [upd_ne _ _ hk2]
        obtain ⟨t, t1, t2⟩ := i7 k (by omega)
        rw [t2]
        exact le_ok (by omega) t1
    · rw [upd_ne _ _ hq2, upd_ne _ _ (by omega)]
      exact i7b k q hkq (by omega)
  · rw [hop, List.length_append]
    show (opn M nr).length + 1 ≤ 10
    omega
  · show ∃ w', 1 ≤ w' ∧ w' ≤ 99 ∧ upd (M.2 11) nr (nI w) k = nI w'
    by_cases hk2 : k = nr
    · exact ⟨w, hw1, hw2, by rw [hk2, upd_at]⟩
    · rw [upd_ne _ _ hk2]; exact i11 k (by omega)
  · rw [e2 0 (by decide), e2 2 (by decide), e2 3 (by decide), e2 4 (by decide), e2 5 (by decide)]; exact a0
  · rw [e2 6 (by decide), e2 7 (by decide), e2 8 (by decide)]; exact a6
  · rw [e2 9 (by decide)]; show upd (B.2 9) nr (nI p) = upd (M.2 10) nr (nI p); rw [a9]
  · rw [e2 10 (by decide)]; show upd (B.2 10) nr (nI w) = upd (M.2 11) nr (nI w); rw [a10]
  · rw [e2 11 (by decide)]; show upd (B.2 11) nr risk = upd (M.2 12) nr risk; rw [a11]
  · rw [e2 12 (by decide)]; show upd (B.2 12) nr (nI d) = upd (M.2 13) nr (nI d); rw [a12]
  · rw [e2 13 (by decide)]
    show upd (B.2 13) nr 0 = M.2 9
    rw [a13]
    funext k
    by_cases hk : k = nr
    · rw [hk, upd_at, hz.2]
    · rw [upd_ne _ _ hk]
  · rw [e2 14 (by decide)]; show upd (B.2 14) nr (-1) = upd (M.2 15) nr (-1); rw [a14]
  · rw [e2 15 (by decide)]
    show upd (B.2 15) nr 0 = M.2 16
    rw [a15]
    funext k
    by_cases hk : k = nr
    · rw [hk, upd_at, hz.1]
    · rw [upd_ne _ _ hk]
  · rw [e2 18 (by decide)]; exact a18
  · rw [e1 0 (by decide)]; exact g0
  · rw [e1 1 (by decide)]; exact g1
  · rw [e1 2 (by decide)]; exact g2
  · rw [e1 3 (by decide)]; exact g3
  · rw [e1 4 (by decide)]; rfl
  · rw [e1 6 (by decide)]; exact g6
  · rw [e2 16 (by decide)]
    show upd (B.2 16) nr (nI nr) q = if M.2 9 q = 0 then upd (M.2 14) nr (nI nr) q else -1
    by_cases hk : q = nr
    · rw [hk, upd_at, upd_at, if_pos hz.2]
    · rw [upd_ne _ _ hk, upd_ne _ _ hk]
      exact o16 q (by omega)
theorem raise_m0 {M : St} {p w : Nat} {v2 v3 : Int32} (hv : inr (nI p) 0 (M.1 2 - 1) = true) (lM : ldA M 0 12 (nI p) = some (nI w)) : f7_raise M (nI p) v2 v3 = f7_raise_L52 2000 (nI p) v2 v3 1 (bI (inr v2 (nI (w + 1)) 99 && inr v3 0 9)) 0 0 M := by
  unfold f7_raise
  rw [m_isPack, Option.bind_some, hv]
  dsimp only
  rw [if_neg (by decide), lM, Option.bind_some, f7_in_eq, Option.bind_some, nI_s]
  dsimp only
  cases h1 : inr v2 (nI (w + 1)) 99 with
  | false => rw [if_pos bI_f, Bool.false_and, bI_f, bI_t]
  | true =>
    rw [if_neg (by decide), f7_in_eq, Option.bind_some]
    dsimp only
    cases h2 : inr v3 0 9 with
    | false => rw [if_pos bI_f, Bool.true_and, bI_f, bI_t]
    | true => rw [if_neg (by decide), Bool.true_and, bI_t]
theorem raise_m1 {M : St} {nr d : Nat} {p w : Nat} {v3 : Int32} (hr : M.1 6 = nI nr) (hd : M.1 1 = nI d) (hlt : nr < 40) : f7_raise_J147 (nI p) (nI w) v3 0 M = (f7_give (sF (stS (stS (stS (stS (stS (stS (sF M 0 0) 10 nr (nI p)) 11 nr (nI w)) 12 nr v3) 13 nr (nI d)) 14 nr (nI nr)) 15 nr (-1)) 6 (nI (nr + 1))) (nI nr)).bind fun S12 => some (S12, S12.1 6 - 1) := by
  have q6 : (sF M 0 0).1 6 = nI nr := hr
  have q1 : (sF M 0 0).1 1 = nI d := hd
  have a : ∀ (S : St), S.1 = (sF M 0 0).1 → ∀ k x, stA S k 40 (S.1 6) x = some (stS S k nr x) := fun S hS k x => by
    rw [hS, q6]
    exact stA_ok hlt (by omega)
  unfold f7_raise_J147
  rw [f7_refused_eq, Option.bind_some, if_pos rfl]
  dsimp only
  rw [if_pos rfl, a (sF M 0 0) rfl 10 (nI p), Option.bind_some, a (stS (sF M 0 0) 10 nr (nI p)) rfl 11 (nI w), Option.bind_some, a (stS (stS (sF M 0 0) 10 nr (nI p)) 11 nr (nI w)) rfl 12 v3, Option.bind_some]
  have c1 : (stS (stS (stS (sF M 0 0) 10 nr (nI p)) 11 nr (nI w)) 12 nr v3).1 1 = nI d := hd
  rw [c1, a (stS (stS (stS (sF M 0 0) 10 nr (nI p)) 11 nr (nI w)) 12 nr v3) rfl 13 (nI d), Option.bind_some]
  have c6 : (stS (stS (stS (stS (sF M 0 0) 10 nr (nI p)) 11 nr (nI w)) 12 nr v3) 13 nr (nI d)).1 6 = nI nr := hr
  have a4 : stA (stS (stS (stS (stS (sF M 0 0) 10 nr (nI p)) 11 nr (nI w)) 12 nr v3) 13 nr (nI d)) 14 40 ((stS (stS (stS (stS (sF M 0 0) 10 nr (nI p)) 11 nr (nI w)) 12 nr v3) 13 nr (nI d)).1 6) ((stS (stS (stS (stS (sF M 0 0) 10 nr (nI p)) 11 nr (nI w)) 12 nr v3) 13 nr (nI d)).1 6) = some (stS (stS (stS (stS (stS (sF M 0 0) 10 nr (nI p)) 11 nr (nI w)) 12 nr v3) 13 nr (nI d)) 14 nr (nI nr)) := by
    rw [c6]
    exact stA_ok hlt (by omega)
  rw [a4, Option.bind_some, a (stS (stS (stS (stS (stS (sF M 0 0) 10 nr (nI p)) 11 nr (nI w)) 12 nr v3) 13 nr (nI d)) 14 nr (nI nr)) rfl 15 (-1), Option.bind_some]
  have c7 : (stS (stS (stS (stS (stS (stS (sF M 0 0) 10 nr (nI p)) 11 nr (nI w)) 12 nr v3) 13 nr (nI d)) 14 nr (nI nr)) 15 nr (-1)).1 6 = nI nr := hr
  rw [c7, nI_s]
  unfold stF
  rw [Option.bind_some, sF_s, nI_pred]
theorem sim_raise {B M : St} {np nn nf nr d : Nat} (h : Rel B M np nn nf nr d) (v1 v2 v3 : Int32) : Sim (y6_raise B v1 v2 v3) (f7_raise M v1 v2 v3) ps123 := by
  have f1 := h.2.2.1.2.1
  have hp := h.np
  have hr := h.nr
  have h10 := h.ol.2.1
  have hL : ∀ v4 v5, f7_raise_L52 2000 v1 v2 v3 v4 v5 0 0 M = _ := fun v4 v5 => m_raise_L hr.1 hr.2 v1 v2 v3 v4 v5 nr 0 2000 false (by omega) (by omega)
  cases hv : inr v1 0 (M.1 2 - 1) with
  | false =>
    refine Sim.no (k := 1) (t := 1) h ?_ ?_ rfl (by omega) (by omega)
    · unfold y6_raise
      rw [y_ckP, f1, hv]
      rfl
    · unfold f7_raise
      rw [m_isPack, Option.bind_some, hv]
      dsimp only
      rw [if_pos bI_f, hL, if_pos bI_f]
      exact no_raise (by decide)
  | true =>
    have hv' := hv
    rw [hp.1] at hv'
    obtain ⟨p, hpn, rfl⟩ := (inr_ix (by omega)).mp hv'
    obtain ⟨w, hw1, hw2, hw3⟩ := h.1.2.2.2.2.2.2.2.2.2.2.1 p hpn
    have lM : ldA M 0 12 (nI p) = some (nI w) := by rw [ldA_ok (by omega) (by omega), hw3]
    have lB : ldA B 0 12 (nI p) = some (nI w) := by rw [ldA_ok (by omega) (by omega), h.2.1.1.1, hw3]
    have hM0 := raise_m0 (v2 := v2) (v3 := v3) hv lM
    have hg : (inr v2 (nI (w + 1)) 99 = true) ↔ (inr v2 1 99 = true ∧ nI w < v2) := by
      have i99 : (99 : Int32) = nI 99 := by decide +kernel
      rw [i99, i_1, inr_lo (by omega) (by omega), inr_lo (by omega) (by omega)]
      constructor
      · rintro ⟨j, q1, q2, rfl⟩
        exact ⟨⟨j, by omega, q2, rfl⟩, nI_lt (by omega) (by omega)⟩
      · rintro ⟨⟨j, q1, q2, rfl⟩, q3⟩
        have := (nI_ltI (by omega) (by omega)).mp q3
        exact ⟨j, by omega, q2, rfl⟩
    have hB0 : y6_raise B (nI p) v2 v3 = if inr v2 1 99 = true ∧ inr v3 0 9 = true ∧ nI w < v2 then ((f4_bitOfPackage B (nI p)).bind fun q24 => (fun (S12 : St) (x11 : Int32) => if x11 = 0 then (if 10 ≤ (S12.1 5) then (y6_raise_J93 S12) else (if (S12.1 4) < 40 then ((f4_add S12 (nI p) v2 v3 (S12.1 0)).bind fun q23 => (fun (S17 : St) (x16 : Int32) => (f4_bitOf S17 x16).bind fun q22 => (fun (S19 : St) (x18 : Int32) => (f5_giveAnew S19 x18).bind fun S21 => some (S21, x16, 0)) q22.1 q22.2) q23.1 q23.2) else (y6_raise_J93 S12))) else (y6_raise_J93 S12)) q24.1 q24.2) else some (B, 0, 2) := by
      unfold y6_raise
      rw [y_ckP, f1, hv, if_pos rfl, xB_0]
      dsimp only
      rw [f6_isWithin_eq, Option.bind_some]
      dsimp only
      cases k1 : inr v2 1 99 with
      | false => rw [if_pos bI_f, if_neg (by simp)]; rfl
      | true =>
        rw [if_neg (by decide), f6_isWithin_eq, Option.bind_some]
        dsimp only
        cases k2 : inr v3 0 9 with
        | false => rw [if_pos bI_f, if_neg (by simp)]; rfl
        | true =>
          rw [if_neg (by decide), lB, Option.bind_some]
          by_cases k3 : nI w < v2
          · rw [if_pos k3, if_pos ⟨rfl, rfl, k3⟩]
          · rw [if_neg k3, if_neg (fun z => k3 z.2.2)]
    by_cases hgood : inr v2 (nI (w + 1)) 99 = true ∧ inr v3 0 9 = true
    · -- good
      have hg1 := hg.mp hgood.1
      rw [if_pos ⟨hg1.1, hgood.2, hg1.2⟩] at hB0
      rw [hgood.1, hgood.2] at hM0
      rw [show bI (true && true) = 1 from rfl, hL, if_neg (by decide), if_neg (by decide)] at hM0
      have hhas : (false || exi (fun k => opB M k && decide (M.2 10 k = nI p)) 0 nr) = (opn M nr).any fun k => decide (M.2 10 k = nI p) := by
        rw [Bool.false_or, exi_opn]
      rw [hhas, len_opn] at hM0
      have j93 : y6_raise_J93 B = some (B, 0, 3) := rfl
      have i40 : (40 : Int32) = nI 40 := by decide +kernel
      rcases b_bitOfP_L h.ol (nI p) (opn M nr) 0 2000 rfl (by omega) (by omega) with ⟨j, r, -, j2, j3, j4⟩ | ⟨j1, j2⟩
      · -- there is one
        have j5 : f4_bitOfPackage B (nI p) = _ := j4
        have jl := (List.getElem?_eq_some_iff.mp j2).1
        refine Sim.no (k := 3) (t := 3) h ?_ ?_ rfl (by omega) (by omega)
        · rw [hB0, j5, Option.bind_some]
          dsimp only
          rw [if_neg (pw_ne0 (by omega))]
          rfl
        · rw [hM0, if_neg]
          · exact no_raise (by decide)
          · intro z
            rw [List.any_eq_false] at z
            have := z r (List.mem_of_getElem? j2)
            rw [← h.2.1.2.2.1.1] at this
            simp [j3] at this
      · have j5 : f4_bitOfPackage B (nI p) = _ := j2
        have hno : ∀ r ∈ opn M nr, M.2 10 r ≠ nI p := fun r hr2 => by rw [← h.2.1.2.2.1.1]; exact j1 r hr2
        rw [if_pos (by rw [List.any_eq_false]; intro r hr2; simp [hno r hr2])] at hM0
        rw [j5, Option.bind_some] at hB0
        dsimp only at hB0
        rw [if_pos rfl, h.2.2.2.1, h.2.2.1.2.2.2.2.1, hr.1] at hB0
        rw [hr.1] at hM0
        by_cases c10 : (opn M nr).length = 10
        · refine Sim.no (k := 3) (t := 3) h ?_ ?_ rfl (by omega) (by omega)
          · rw [hB0, if_pos (by rw [i_10]; exact le_ok (by omega) (by omega))]
            rfl
          · rw [hM0, if_pos (by rw [c10, i_10])]
            exact no_raise (by decide)
        · rw [if_neg (by rw [i_10]; exact le_no (by omega) (by omega))] at hB0
          rw [if_neg (by rw [i_10]; exact ne_ok (by omega) (by omega) c10)] at hM0
          by_cases c40 : nr = 40
          · refine Sim.no (k := 3) (t := 3) h ?_ ?_ rfl (by omega) (by omega)
            · rw [hB0, if_neg]
              · rfl
              · rw [i40]
                intro z
                have := (nI_ltI (by omega) (by omega)).mp z
                omega
            · rw [hM0, if_pos (by rw [c40, i40])]
              exact no_raise (by decide)
          · have hlt : nr < 40 := by omega
            rw [if_pos (by rw [i40]; exact nI_lt hlt (by omega))] at hB0
            rw [if_neg (by rw [i40]; exact ne_ok (by omega) (by omega) c40)] at hM0
            obtain ⟨w', hw1', hw2', rfl⟩ : ∃ w', 1 ≤ w' ∧ w' ≤ 99 ∧ v2 = nI w' := by
              have i99 : (99 : Int32) = nI 99 := by decide +kernel
              have := hg1.1
              rw [i99, i_1, inr_lo (by omega) (by omega)] at this
              exact this
            have hd : M.1 1 = nI d := h.1.1.2.2.2.2.1.1
            have hz := h.1.2.2.2.2.2.1 nr (Nat.le_refl _)
            have s40 : ∀ (S : St) k x, stA S k 40 (nI nr) x = some (stS S k nr x) := fun S k x => stA_ok hlt (by omega)
            have z40 : ∀ (S : St) k, stZ S k 40 (nI nr) 0 = some (stS S k nr 0) := fun S k => stZ_ok hlt (by omega) (Or.inl rfl)
            have f4 : B.1 4 = nI nr := by rw [h.2.2.1.2.2.2.2.1]; exact hr.1
            -- the list of what is open
            have hopn : (List.range' 0 (nr + 1)).filter (fun k => decide (upd (B.2 13) nr 0 k = 0)) = opn M nr ++ [nr] := by
              rw [← opn_s hz.2]
              unfold opn opB
              congr 1
              funext k
              rw [h.2.1.2.2.2.1]
              by_cases hk : k = nr
              · rw [hk, upd_at, hz.2]
              · rw [upd_ne _ _ hk]
            obtain ⟨B3, r1, r2, r3, r4, r5⟩ := b_list (S := sF (stS (stS (stS (stS (stS (stS (stS (stS B 9 nr (nI p)) 10 nr (nI w')) 11 nr v3) 12 nr (nI d)) 13 nr 0) 14 nr (-1)) 15 nr 0) 16 nr (nI nr)) 4 (nI (nr + 1))) (nr := nr + 1) rfl (by omega) (by
              show ((List.range' 0 (nr + 1)).filter (fun k => decide (upd (B.2 13) nr 0 k = 0))).length ≤ 10
              rw [hopn, List.length_append]
              show (opn M nr).length + 1 ≤ 10
              omega)
            have r4' : B3.1 5 = nI ((List.range' 0 (nr + 1)).filter (fun k => decide (upd (B.2 13) nr 0 k = 0))).length := r4
            have r5' : ∀ (j q : Nat), ((List.range' 0 (nr + 1)).filter (fun k => decide (upd (B.2 13) nr 0 k = 0)))[j]? = some q → B3.2 17 j = nI q := r5
            rw [hopn] at r4' r5'
            have hR := raise_rel (risk := v3) h hpn hw1' hw2' hno (by omega) hlt r2 r3 r4' r5'
            have eadd : f4_add B (nI p) (nI w') v3 (B.1 0) = some (B3, nI nr) := by
              unfold f4_add stF
              rw [h.2.2.1.1, hd, f4, s40, Option.bind_some, s40, Option.bind_some, s40, Option.bind_some, s40, Option.bind_some, s40, Option.bind_some, s40, Option.bind_some, z40, Option.bind_some, s40, Option.bind_some]
              show ((some (sF (stS (stS (stS (stS (stS (stS (stS (stS B 9 nr (nI p)) 10 nr (nI w')) 11 nr v3) 12 nr (nI d)) 13 nr 0) 14 nr (-1)) 15 nr 0) 16 nr (nI nr)) 4 (B.1 4 + 1))).bind fun S9 => (f4_listOpen S9).bind fun S11 => some (S11, nI nr)) = _
              rw [f4, nI_s, Option.bind_some, r1, Option.bind_some]
            generalize hM2 : sF (stS (stS (stS (stS (stS (stS (sF M 0 0) 10 nr (nI p)) 11 nr (nI w')) 12 nr v3) 13 nr (nI d)) 14 nr (nI nr)) 15 nr (-1)) 6 (nI (nr + 1)) = M2 at hR
            have hop2 : opn M2 (nr + 1) = opn M nr ++ [nr] := by rw [← hM2]; exact opn_s hz.2
            have e14 : M2.2 14 = upd (M.2 14) nr (nI nr) := by rw [← hM2]; rfl
            obtain ⟨j, k1, k2, k3⟩ := b_bitOf hR.ol (r := nr) (by rw [hop2]; simp)
            have hx : SetIs (opn M2 (nr + 1)) (1 <<< (nI j &&& 31)) (fun q => decide (M2.2 14 q = nI nr)) := fun i q hq => by
              have hi := (List.getElem?_eq_some_iff.mp hq).1
              have hl2 := hR.ol.2.1
              have hqm := mem_opn.mp (List.mem_of_getElem? hq)
              rw [b_pw j (by omega) (by omega), e14]
              by_cases z : i = j
              · subst z
                rw [k1] at hq
                cases hq
                simp [upd_at]
              · have hqn : q ≠ nr := by
                  rintro rfl
                  exact z (opn_inj hq k1)
                have hq9 : M.2 9 q = 0 := by
                  have := hqm.2
                  rw [← hM2] at this
                  exact this
                obtain ⟨g, g1, g2, -⟩ := h.1.2.2.2.1 q (by omega) hq9
                dsimp only
                rw [upd_ne _ _ hqn, g2]
                simp [z, ne_ok (a := g) (b := nr) (by omega) (by omega) (by omega)]
            obtain ⟨B', M', t1, t2, t3, t4, -⟩ := give_eq hR hx
            refine ⟨B', M', nI nr, 0, nI nr, ?_, ?_, ⟨np, nn, nf, nr + 1, d, t3⟩, ?_, by omega, fun _ => rfl⟩
            · rw [hB0, eadd, Option.bind_some]
              dsimp only
              rw [k3, Option.bind_some]
              dsimp only
              rw [t1, Option.bind_some]
            · rw [hM0]
              rw [raise_m1 hr.1 hd hlt, hM2, t2, Option.bind_some, t4, show M2.1 6 = nI (nr + 1) by rw [← hM2]; exact sF_s _ _ _, nI_pred]
            · rw [t4, ← hM2]; rfl
    · -- bad
      refine Sim.no (k := 2) (t := 2) h ?_ ?_ rfl (by omega) (by omega)
      · rw [hB0, if_neg (fun z => hgood ⟨hg.mpr ⟨z.1, z.2.2⟩, z.2.1⟩)]
      · have hb : (inr v2 (nI (w + 1)) 99 && inr v3 0 9) = false := by
          cases q1 : inr v2 (nI (w + 1)) 99 with
          | false => rfl
          | true =>
            cases q2 : inr v3 0 9 with
            | false => rfl
            | true => exact absurd ⟨q1, q2⟩ hgood
        rw [hM0, hb, hL, if_neg (by decide), if_pos bI_f]
        exact no_raise (by decide)
