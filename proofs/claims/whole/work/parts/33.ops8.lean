/-! a day that passes -/
theorem m_old_L {M : St} {np nn nf nr d g : Nat} (hI : Inv M np nn nf nr d) (hg : g < nr) (h9 : M.2 9 g = 0) (hgg : M.2 14 g = nI g) :
    ∀ (m i n : Nat) (a : Int32), i + m = nr → m < n → (i ≤ g ∧ a = nI 1000 ∨ g < i ∧ a = M.2 13 g) → f7_oldest_L6 n (nI g) a (nI i) M = some (M, M.2 13 g) := by
  obtain ⟨⟨-, -, -, ⟨hr, hrr⟩, ⟨hd, hdd⟩, -⟩, -, -, i3, -, -, -, ⟨i7, i7b⟩, -⟩ := hI
  intro m
  induction m with
  | zero =>
    intro i n a hi hm ha
    obtain ⟨n, rfl⟩ : ∃ q, n = q + 1 := ⟨n - 1, by omega⟩
    show f7_oldest_L6b (f7_oldest_L6 n) (nI g) a (nI i) M = _
    unfold f7_oldest_L6b
    rw [hr, if_pos (le_ok (by omega) (by omega))]
    rcases ha with ⟨q, -⟩ | ⟨-, rfl⟩
    · omega
    · rfl
  | succ m ih =>
    intro i n a hi hm ha
    obtain ⟨n, rfl⟩ : ∃ q, n = q + 1 := ⟨n - 1, by omega⟩
    have l9 : ldA M 9 40 (nI i) = some (M.2 9 i) := ldA_ok (by omega) (by omega)
    have l14 : ldA M 14 40 (nI i) = some (M.2 14 i) := ldA_ok (by omega) (by omega)
    have l13 : ldA M 13 40 (nI i) = some (M.2 13 i) := ldA_ok (by omega) (by omega)
    have hs : f7_oldest_L6 (n + 1) (nI g) a (nI i) M = f7_oldest_L6 n (nI g) (if M.2 9 i = 0 ∧ M.2 14 i = nI g ∧ ¬ a ≤ M.2 13 i then M.2 13 i else a) (nI (i + 1)) M := by
      show f7_oldest_L6b (f7_oldest_L6 n) (nI g) a (nI i) M = _
      unfold f7_oldest_L6b
      rw [hr, if_neg (le_no (by omega) (by omega)), l9, Option.bind_some, nI_s]
      by_cases h1 : M.2 9 i = 0
      · rw [if_pos h1, l14, Option.bind_some]
        by_cases h2 : M.2 14 i = nI g
        · rw [if_pos h2, l13, Option.bind_some]
          by_cases h3 : a ≤ M.2 13 i
          · rw [if_pos h3, if_neg (fun z => z.2.2 h3)]
          · rw [if_neg h3, Option.bind_some, if_pos ⟨h1, h2, h3⟩]
        · rw [if_neg h2, if_neg (fun z => h2 z.2.1)]
      · rw [if_neg h1, if_neg (fun z => h1 z.1)]
    rw [hs]
    refine ih (i + 1) n _ (by omega) (by omega) ?_
    obtain ⟨t, t1, t2⟩ := i7 g hg
    rcases ha with ⟨q1, q2⟩ | ⟨q1, q2⟩
    · by_cases hig : i = g
      · refine Or.inr ⟨by omega, ?_⟩
        subst hig
        by_cases h3 : a ≤ M.2 13 i
        · rw [if_neg (fun z => z.2.2 h3), q2, t2]
          rw [q2, t2] at h3
          have := (nI_leI (by omega) (by omega)).mp h3
          have : t = 1000 := by omega
          rw [this]
        · rw [if_pos ⟨h9, hgg, h3⟩]
      · refine Or.inl ⟨by omega, ?_⟩
        rw [if_neg, q2]
        rintro ⟨z1, z2, -⟩
        obtain ⟨g2, w1, w2, -⟩ := i3 i (by omega) z1
        rw [w2] at z2
        have := (nI_eq (by omega) (by omega)).mp z2
        omega
    · refine Or.inr ⟨by omega, ?_⟩
      rw [if_neg, q2]
      rintro ⟨-, -, z3⟩
      exact z3 (by rw [q2]; exact i7b g i (by omega) (by omega))
theorem m_old {M : St} {np nn nf nr d g : Nat} (hI : Inv M np nn nf nr d) (hg : g < nr) (h9 : M.2 9 g = 0) (hgg : M.2 14 g = nI g) : f7_oldest M (nI g) = some (M, M.2 13 g) :=
  m_old_L hI hg h9 hgg nr 0 2000 (nI 1000) (by omega) (by have := hI.1.2.2.2.1.2; omega) (Or.inl ⟨Nat.zero_le _, rfl⟩)
/-- the sets of two groups -/
theorem Rel.g2 {B M : St} {np nn nf nr d r q : Nat} (h : Rel B M np nn nf nr d) (hr : r ∈ opn M nr) (hq : q ∈ opn M nr) : ∃ y z, f4_groupOf B (nI r) = some (B, y) ∧ f4_groupOf B (nI q) = some (B, z) ∧ SetIs (opn M nr) (y ||| z) (fun k => decide (M.2 14 k = M.2 14 r) || decide (M.2 14 k = M.2 14 q)) := by
  obtain ⟨y, y1, y2, -⟩ := h.gOf hr
  obtain ⟨z, z1, z2, -⟩ := h.gOf hq
  exact ⟨y, z, y1, z1, fun i k hk => by rw [b_or, y2 i k hk, z2 i k hk]⟩
/-- what the model does behind its search -/
def mwk (own : Nat) (M : St) (b : Int32) : Option St := if b = -1 then some M else if nI own ≤ b then f7_wake_L139 2000 (nI own) b (nI own) 0 M else f7_wake_L139 2000 (nI own) b b 0 M
theorem isG {B M : St} {np nn nf nr d k : Nat} (h : Rel B M np nn nf nr d) (hk : k < nr) : (B.2 16 k = nI k) ↔ (M.2 9 k = 0 ∧ M.2 14 k = nI k) := by
  have h40 := h.nr.2
  rw [h.2.2.2.2.2 k hk]
  by_cases h9 : M.2 9 k = 0
  · rw [if_pos h9]
    exact ⟨fun q => ⟨h9, q⟩, fun q => q.2⟩
  · rw [if_neg h9]
    exact ⟨fun q => absurd q.symm (nI_m1 (by omega)), fun q => absurd q.1 h9⟩
theorem part_sim {np nn nf nr d own : Nat} :
    ∀ (m i n1 n2 : Nat) (B M : St) (y : Int32) (best : Int32) (few : Nat), Rel B M np nn nf nr d → own ∈ opn M nr → M.2 14 own = nI own → f4_groupOf B (nI own) = some (B, y) → SetIs (opn M nr) y (fun k => decide (M.2 14 k = nI own)) → few ≤ 20 → i + m = nr → m < n1 → m < n2 → (best = -1 ∨ ∃ b, b < i ∧ b ≠ own ∧ M.2 9 b = 0 ∧ M.2 14 b = nI b ∧ best = nI b) →
      ∃ w w2 best', f2_bestPartner_L24 n1 (nI own) y best (nI few) (nI i) B = some (scb B w, best') ∧ f7_wake_L37 n2 (nI own) best (nI few) (nI i) M = mwk own (scr M w2) best' ∧ (best' = -1 ∨ ∃ b, b < nr ∧ b ≠ own ∧ M.2 9 b = 0 ∧ M.2 14 b = nI b ∧ best' = nI b) := by
  intro m
  induction m with
  | zero =>
    intro i n1 n2 B M y best few h ho hgo hy1 hy2 hfew hi hn1 hn2 hb
    obtain ⟨n1, rfl⟩ : ∃ q, n1 = q + 1 := ⟨n1 - 1, by omega⟩
    obtain ⟨n2, rfl⟩ : ∃ q, n2 = q + 1 := ⟨n2 - 1, by omega⟩
    have h40 := h.nr.2
    refine ⟨B.2 1, M.2 17, best, ?_, ?_, ?_⟩
    · show f2_bestPartner_L24b (f2_bestPartner_L24 n1) (nI own) y best (nI few) (nI i) B = _
      unfold f2_bestPartner_L24b
      rw [h.2.2.1.2.2.2.2.1, h.nr.1, if_pos (le_ok (by omega) (by omega)), scb_self]
    · show f7_wake_L37b (f7_wake_L37 n2) (nI own) best (nI few) (nI i) M = _
      unfold f7_wake_L37b mwk
      rw [h.nr.1, if_pos (le_ok (by omega) (by omega)), scr_self]
    · exact hb.imp id (fun ⟨b, q1, q2⟩ => ⟨b, by omega, q2⟩)
  | succ m ih =>
    intro i n1 n2 B M y best few h ho hgo hy1 hy2 hfew hi hn1 hn2 hb
    obtain ⟨n1, rfl⟩ : ∃ q, n1 = q + 1 := ⟨n1 - 1, by omega⟩
    obtain ⟨n2, rfl⟩ : ∃ q, n2 = q + 1 := ⟨n2 - 1, by omega⟩
    have h40 := h.nr.2
    have hown := (mem_opn.mp ho).1
    have l9 : ldA M 9 40 (nI i) = some (M.2 9 i) := ldA_ok (by omega) (by omega)
    have l14 : ldA M 14 40 (nI i) = some (M.2 14 i) := ldA_ok (by omega) (by omega)
    have lB : ldA B 16 40 (nI i) = some (B.2 16 i) := ldA_ok (by omega) (by omega)
    have hb' : best = -1 ∨ ∃ b, b < i + 1 ∧ b ≠ own ∧ M.2 9 b = 0 ∧ M.2 14 b = nI b ∧ best = nI b := hb.imp id (fun ⟨b, q1, q2⟩ => ⟨b, by omega, q2⟩)
    by_cases hc : i ≠ own ∧ M.2 9 i = 0 ∧ M.2 14 i = nI i
    · obtain ⟨hio, h9, hg⟩ := hc
      have hio' : ¬ nI i = nI own := ne_ok (by omega) (by omega) hio
      have hmi : i ∈ opn M nr := mem_opn.mpr ⟨by omega, h9⟩
      obtain ⟨z, z1, z2, -⟩ := h.gOf hmi
      have hset : SetIs (opn M nr) (y ||| z) (fun k => decide (M.2 14 k = nI own) || decide (M.2 14 k = nI i)) := fun j k hk => by
        rw [b_or, hy2 j k hk, z2 j k hk, hg]
      obtain ⟨w, hB⟩ := b_failing h hset
      obtain ⟨w2, hM⟩ := m_failsG h (nI own) (nI i)
      have hle := fcn_le M nn nr (fun k => opB M k && (decide (M.2 14 k = nI own) || decide (M.2 14 k = nI i)))
      have hnn := h.nn.2
      obtain ⟨f, hf⟩ : ∃ f, f = fcn M nn nr (fun k => opB M k && (decide (M.2 14 k = nI own) || decide (M.2 14 k = nI i))) := ⟨_, rfl⟩
      rw [← hf] at hB hM hle
      have hBs : f2_bestPartner_L24 (n1 + 1) (nI own) y best (nI few) (nI i) B = if few ≤ f then f2_bestPartner_L24 n1 (nI own) y best (nI few) (nI (i + 1)) (scb B w) else f2_bestPartner_L24 n1 (nI own) y (nI i) (nI f) (nI (i + 1)) (scb B w) := by
        show f2_bestPartner_L24b (f2_bestPartner_L24 n1) (nI own) y best (nI few) (nI i) B = _
        unfold f2_bestPartner_L24b
        rw [h.2.2.1.2.2.2.2.1, h.nr.1, if_neg (le_no (by omega) (by omega)), if_neg hio', lB, Option.bind_some, if_pos ((isG h (by omega)).mpr ⟨h9, hg⟩), z1, Option.bind_some]
        dsimp only
        rw [hB, Option.bind_some, nI_s]
        dsimp only
        by_cases q : few ≤ f
        · rw [if_pos (le_ok (by omega) q), if_pos q]
        · rw [if_neg (le_no (by omega) (by omega)), if_neg q]
      have hMs : f7_wake_L37 (n2 + 1) (nI own) best (nI few) (nI i) M = if few ≤ f then f7_wake_L37 n2 (nI own) best (nI few) (nI (i + 1)) (scr M w2) else f7_wake_L37 n2 (nI own) (nI i) (nI f) (nI (i + 1)) (scr M w2) := by
        show f7_wake_L37b (f7_wake_L37 n2) (nI own) best (nI few) (nI i) M = _
        unfold f7_wake_L37b
        rw [h.nr.1, if_neg (le_no (by omega) (by omega)), l9, Option.bind_some, if_pos h9, l14, Option.bind_some, if_pos hg, if_neg hio', hM, Option.bind_some]
        dsimp only
        by_cases q : few ≤ f
        · rw [if_pos (le_ok (by omega) q), if_pos q]
          unfold f7_wake_J96
          rw [if_pos (le_ok (by omega) q), nI_s]
        · rw [if_neg (le_no (by omega) (by omega)), if_neg q]
          unfold f7_wake_J96
          rw [if_neg (le_no (by omega) (by omega)), nI_s]
      have hR : Rel (scb B w) (scr M w2) np nn nf nr d := (h.scr w2).scb w
      have hy3 : f4_groupOf (scb B w) (nI own) = some (scb B w, y) := by
        obtain ⟨y', e1, e2, e3⟩ := hR.gOf (r := own) ho
        obtain ⟨y'', e1', e2', e3'⟩ := h.gOf (r := own) ho
        have hyy : y'' = y := by
          rw [e1'] at hy1
          exact congrArg Prod.snd (Option.some.inj hy1)
        have : y' = y'' := b_ext fun j hj => by
          by_cases hjl : j < (opn M nr).length
          · have hq := List.getElem?_eq_getElem hjl
            rw [e2 j _ hq, e2' j _ hq]
            rfl
          · rw [e3 j hj (Nat.le_of_not_lt hjl), e3' j hj (Nat.le_of_not_lt hjl)]
        rw [e1, this, hyy]
      by_cases q : few ≤ f
      · obtain ⟨v, v2, b', r1, r2, r3⟩ := ih (i + 1) n1 n2 (scb B w) (scr M w2) y best few hR ho hgo hy3 hy2 hfew (by omega) (by omega) (by omega) hb'
        rw [scb_scb] at r1
        rw [scr_scr] at r2
        exact ⟨v, v2, b', by rw [hBs, if_pos q]; exact r1, by rw [hMs, if_pos q]; exact r2, r3⟩
      · obtain ⟨v, v2, b', r1, r2, r3⟩ := ih (i + 1) n1 n2 (scb B w) (scr M w2) y (nI i) f hR ho hgo hy3 hy2 (by omega) (by omega) (by omega) (by omega) (Or.inr ⟨i, by omega, hio, h9, hg, rfl⟩)
        rw [scb_scb] at r1
        rw [scr_scr] at r2
        exact ⟨v, v2, b', by rw [hBs, if_neg q]; exact r1, by rw [hMs, if_neg q]; exact r2, r3⟩
    · have hBs : f2_bestPartner_L24 (n1 + 1) (nI own) y best (nI few) (nI i) B = f2_bestPartner_L24 n1 (nI own) y best (nI few) (nI (i + 1)) B := by
        show f2_bestPartner_L24b (f2_bestPartner_L24 n1) (nI own) y best (nI few) (nI i) B = _
        unfold f2_bestPartner_L24b
        rw [h.2.2.1.2.2.2.2.1, h.nr.1, if_neg (le_no (by omega) (by omega)), nI_s]
        by_cases hio : i = own
        · rw [if_pos (by rw [hio])]
        · rw [if_neg (ne_ok (by omega) (by omega) hio), lB, Option.bind_some, if_neg (fun z => hc ⟨hio, (isG h (by omega)).mp z⟩)]
      have hMs : f7_wake_L37 (n2 + 1) (nI own) best (nI few) (nI i) M = f7_wake_L37 n2 (nI own) best (nI few) (nI (i + 1)) M := by
        show f7_wake_L37b (f7_wake_L37 n2) (nI own) best (nI few) (nI i) M = _
        unfold f7_wake_L37b
        rw [h.nr.1, if_neg (le_no (by omega) (by omega)), l9, Option.bind_some, nI_s]
        by_cases h9 : M.2 9 i = 0
        · rw [if_pos h9, l14, Option.bind_some]
          by_cases hg : M.2 14 i = nI i
          · rw [if_pos hg]
            have hio : i = own := Classical.byContradiction fun z => hc ⟨z, h9, hg⟩
            rw [if_pos (by rw [hio])]
          · rw [if_neg hg]
        · rw [if_neg h9]
      obtain ⟨v, v2, b', r1, r2, r3⟩ := ih (i + 1) n1 n2 B M y best few h ho hgo hy1 hy2 hfew (by omega) (by omega) (by omega) hb'
      exact ⟨v, v2, b', by rw [hBs]; exact r1, by rw [hMs]; exact r2, r3⟩
theorem m_w139 {M : St} {nr : Nat} (hr : M.1 6 = nI nr) (hrr : nr ≤ 40) (o1 o2 lw : Int32) :
    ∀ (m i n : Nat) (g : Nat → Int32), i + m = nr → m < n → ∃ g', f7_wake_L139 n o1 o2 lw (nI i) (gM M g) = f7_give (gM M g') lw ∧ ∀ k, g' k = if i ≤ k ∧ k < nr ∧ M.2 9 k = 0 ∧ (g k = o1 ∨ g k = o2) then lw else g k := by
  intro m
  induction m with
  | zero =>
    intro i n g hi hm
    obtain ⟨n, rfl⟩ : ∃ q, n = q + 1 := ⟨n - 1, by omega⟩
    refine ⟨g, ?_, fun k => by rw [if_neg (fun q => by omega)]⟩
    show f7_wake_L139b (f7_wake_L139 n) o1 o2 lw (nI i) (gM M g) = _
    have e6 : (gM M g).1 6 = nI nr := hr
    unfold f7_wake_L139b
    rw [e6, if_pos (le_ok (by omega) (by omega))]
    cases f7_give (gM M g) lw with
    | none => rfl
    | some _ => rfl
  | succ m ih =>
    intro i n g hi hm
    obtain ⟨n, rfl⟩ : ∃ q, n = q + 1 := ⟨n - 1, by omega⟩
    have e6 : (gM M g).1 6 = nI nr := hr
    have l9 : ldA (gM M g) 9 40 (nI i) = some (M.2 9 i) := ldA_ok (by omega) (by omega)
    have l14 : ldA (gM M g) 14 40 (nI i) = some (g i) := ldA_ok (by omega) (by omega)
    have s14 : ∀ v, stA (gM M g) 14 40 (nI i) v = some (gM M (upd g i v)) := fun v => by rw [stA_ok (by omega) (by omega), gM_st]
    have hs : f7_wake_L139 (n + 1) o1 o2 lw (nI i) (gM M g) = f7_wake_L139 n o1 o2 lw (nI (i + 1)) (gM M (upd g i (if M.2 9 i = 0 ∧ (g i = o1 ∨ g i = o2) then lw else g i))) := by
      show f7_wake_L139b (f7_wake_L139 n) o1 o2 lw (nI i) (gM M g) = _
      unfold f7_wake_L139b
      rw [e6, if_neg (le_no (by omega) (by omega)), l9, Option.bind_some, nI_s]
      by_cases h1 : M.2 9 i = 0
      · rw [if_pos h1, l14, Option.bind_some]
        by_cases h2 : g i = o1
        · rw [if_pos h2, s14, Option.bind_some, if_pos ⟨h1, Or.inl h2⟩]
        · rw [if_neg h2, Option.bind_some]
          by_cases h3 : g i = o2
          · rw [if_pos h3, s14, Option.bind_some, if_pos ⟨h1, Or.inr h3⟩]
          · rw [if_neg h3, Option.bind_some, s14, Option.bind_some, if_neg (fun q => q.2.elim h2 h3)]
      · rw [if_neg h1, l14, Option.bind_some, s14, Option.bind_some, if_neg (fun q => h1 q.1)]
    obtain ⟨g', r1, r2⟩ := ih (i + 1) n (upd g i (if M.2 9 i = 0 ∧ (g i = o1 ∨ g i = o2) then lw else g i)) (by omega) (by omega)
    refine ⟨g', by rw [hs]; exact r1, fun k => ?_⟩
    rw [r2 k]
    by_cases hk : k = i
    · subst hk
      rw [upd_at, if_neg (fun q => by omega)]
      by_cases hc : M.2 9 k = 0 ∧ (g k = o1 ∨ g k = o2)
      · rw [if_pos hc, if_pos ⟨Nat.le_refl _, by omega, hc⟩]
      · rw [if_neg hc, if_neg (fun q => hc q.2.2)]
    · rw [upd_ne _ _ hk]
      by_cases hc : i ≤ k ∧ k < nr ∧ M.2 9 k = 0 ∧ (g k = o1 ∨ g k = o2)
      · rw [if_pos hc, if_pos ⟨by omega, hc.2⟩]
      · rw [if_neg hc, if_neg (fun q => hc ⟨by omega, q.2⟩)]
