/-! joining, waking, days -/
theorem i32_nlt {a b : Int32} : ¬ a < b ↔ b ≤ a := by
  rw [Int32.lt_iff_toInt_lt, Int32.le_iff_toInt_le]
  omega
/-- the states behind a joining, ahead of the giving -/
theorem join_rel {B M : St} {np nn nf nr d own b low : Nat} (h : Rel B M np nn nf nr d) (ho : own ∈ opn M nr) (hb : b ∈ opn M nr) (hgo : M.2 14 own = nI own) (hgb : M.2 14 b = nI b) (hlow : (low = own ∧ own ≤ b) ∨ (low = b ∧ b ≤ own)) {g' : Nat → Int32}
    (hg' : ∀ k, g' k = if k < nr ∧ M.2 9 k = 0 ∧ (M.2 14 k = nI own ∨ M.2 14 k = nI b) then nI low else M.2 14 k) :
    Rel (gB B (grpF (fun k => decide (M.2 14 k = nI own) || decide (M.2 14 k = nI b)) (opn M nr) none (B.2 16))) (gM M g') np nn nf nr d ∧ ∀ k, k ∈ opn M nr → (g' k = nI low ↔ (M.2 14 k = nI own ∨ M.2 14 k = nI b)) := by
  have ho1 := mem_opn.mp ho
  have hb1 := mem_opn.mp hb
  have h40 := h.nr.2
  have hpw := opn_pw M nr
  have hlo : low < nr ∧ M.2 9 low = 0 ∧ M.2 14 low = nI low ∧ (M.2 14 low = nI own ∨ M.2 14 low = nI b) := by
    rcases hlow with ⟨rfl, -⟩ | ⟨rfl, -⟩
    · exact ⟨ho1.1, ho1.2, hgo, Or.inl hgo⟩
    · exact ⟨hb1.1, hb1.2, hgb, Or.inr hgb⟩
  have hlob : low ≤ own ∧ low ≤ b := by rcases hlow with ⟨rfl, q⟩ | ⟨rfl, q⟩ <;> omega
  have hgl : g' low = nI low := by rw [hg' low, if_pos ⟨hlo.1, hlo.2.1, hlo.2.2.2⟩]
  have hmem : ∀ k, k < nr → M.2 9 k = 0 → (M.2 14 k = nI own ∨ M.2 14 k = nI b) → low ≤ k := by
    intro k hk h9 hc
    obtain ⟨g, q1, q2, -⟩ := h.1.2.2.2.1 k hk h9
    rcases hc with hc | hc
    · rw [q2] at hc
      have := (nI_eq (by omega) (by omega)).mp hc
      omega
    · rw [q2] at hc
      have := (nI_eq (by omega) (by omega)).mp hc
      omega
  have hiff : ∀ k, k ∈ opn M nr → (g' k = nI low ↔ (M.2 14 k = nI own ∨ M.2 14 k = nI b)) := by
    intro k hk
    have hk1 := mem_opn.mp hk
    rw [hg' k]
    by_cases hc : M.2 14 k = nI own ∨ M.2 14 k = nI b
    · rw [if_pos ⟨hk1.1, hk1.2, hc⟩]
      exact ⟨fun _ => hc, fun _ => rfl⟩
    · rw [if_neg (fun z => hc z.2.2)]
      refine ⟨fun z => ?_, fun z => absurd z hc⟩
      rcases hlow with ⟨rfl, -⟩ | ⟨rfl, -⟩
      · exact Or.inl z
      · exact Or.inr z
  refine ⟨?_, hiff⟩
  have hgrp : ∀ q, q ∈ opn M nr → B.2 16 q = M.2 14 q := fun q hq => h.grp hq
  obtain ⟨⟨i0, i1, i2, i3, i4, i5, i6, i7, i8, i9⟩, hA, hF, ⟨o5, o17, o16⟩⟩ := h
  refine ⟨⟨i0, i1, i2, fun k hk h9 => ?_, i4, i5, i6, i7, i8, i9⟩, hA, hF, ⟨o5, o17, fun q hq => ?_⟩⟩
  · show ∃ g, g ≤ k ∧ g' k = nI g ∧ M.2 9 g = 0 ∧ g' g = nI g
    have h9' : M.2 9 k = 0 := h9
    by_cases hc : M.2 14 k = nI own ∨ M.2 14 k = nI b
    · exact ⟨low, hmem k hk h9' hc, by rw [hg' k, if_pos ⟨hk, h9', hc⟩], hlo.2.1, hgl⟩
    · obtain ⟨g, q1, q2, q3, q4⟩ := i3 k hk h9'
      refine ⟨g, q1, by rw [hg' k, if_neg (fun z => hc z.2.2), q2], q3, ?_⟩
      rw [hg' g, if_neg, q4]
      rintro ⟨-, -, z⟩
      rw [q4] at z
      rw [q2] at hc
      exact hc z
  · show (gB B _).2 16 q = if M.2 9 q = 0 then g' q else -1
    show grpF (fun k => decide (M.2 14 k = nI own) || decide (M.2 14 k = nI b)) (opn M nr) none (B.2 16) q = _
    by_cases h9 : M.2 9 q = 0
    · rw [if_pos h9]
      have hqo : q ∈ opn M nr := mem_opn.mpr ⟨hq, h9⟩
      by_cases hc : M.2 14 q = nI own ∨ M.2 14 q = nI b
      · rw [hg' q, if_pos ⟨hq, h9, hc⟩]
        refine grpF_in (w := low) (opn M nr) (B.2 16) hpw hqo (by simpa using hc) (mem_opn.mpr ⟨hlo.1, hlo.2.1⟩) (by simpa using hlo.2.2.2) (fun z hz hz2 => ?_)
        exact hmem z (mem_opn.mp hz).1 (mem_opn.mp hz).2 (by simpa using hz2)
      · rw [hg' q, if_neg (fun z => hc z.2.2), grpF_out _ _ _ (Or.inr (by simpa using hc))]
        exact hgrp q hqo
    · rw [if_neg h9, grpF_out _ _ _ (Or.inl (fun z => h9 (mem_opn.mp z).2)), o16 q hq, if_neg h9]
/-- what a turn of the day does, in the class -/
def btn (B : St) (i : Nat) (t : Int32) (B' : St) : Prop := f2_sleepsTooLong B (nI i) t = some (B', 0) ∨ ∃ S5 S8 x, f2_sleepsTooLong B (nI i) t = some (S5, 1) ∧ f2_bestPartner S5 (nI i) = some (S8, x) ∧ f2_join S8 (nI i) x = some B'
/-- who waits behind i: those that are their groups' lowest -/
def wtg (B M : St) (i nr : Nat) : Prop := ∀ k, i ≤ k → k < nr → B.2 19 k = bI (decide (M.2 9 k = 0) && decide (M.2 14 k = nI k))
theorem Rel.w19 {B M : St} {np nn nf nr d : Nat} (h : Rel B M np nn nf nr d) (j : Nat) (v : Int32) : Rel (stS B 19 j v) M np nn nf nr d := h.sc (fun _ _ => rfl) (fun _ _ => rfl) rfl (fun q _ h2 => stS_n B _ _ h2)
theorem wake_sim {B M : St} {np nn nf nr d i : Nat} (h : Rel B M np nn nf nr d) (ho : i ∈ opn M nr) (hgo : M.2 14 i = nI i) (hw : wtg B M (i + 1) nr) :
    ∃ B' M', btn B i (nI d) B' ∧ f7_wake M (nI i) = some M' ∧ Rel B' M' np nn nf nr d ∧ M'.1 = M.1 ∧ wtg B' M' (i + 1) nr := by
  have ho1 := mem_opn.mp ho
  have h40 := h.nr.2
  have hnn := h.nn.2
  have hd : M.1 1 = nI d := h.1.1.2.2.2.2.1.1
  have hpt : B.1 6 = M.1 4 := h.2.2.1.2.2.2.2.2
  obtain ⟨y, y1, y2, y3⟩ := h.gOf ho
  rw [hgo] at y2
  obtain ⟨w, hB⟩ := b_failing h y2
  obtain ⟨w2, hM⟩ := m_failsG h (nI i) (nI i)
  have he : fcn M nn nr (fun k => opB M k && (decide (M.2 14 k = nI i) || decide (M.2 14 k = nI i))) = fcn M nn nr (fun k => opB M k && decide (M.2 14 k = nI i)) := fcn_congr fun k _ => by rw [Bool.or_self]
  rw [he] at hM
  have hle := fcn_le M nn nr (fun k => opB M k && decide (M.2 14 k = nI i))
  obtain ⟨f, hf⟩ : ∃ f, f = fcn M nn nr (fun k => opB M k && decide (M.2 14 k = nI i)) := ⟨_, rfl⟩
  rw [← hf] at hB hM hle
  have hI2 : Inv (scr M w2) np nn nf nr d := (h.scr w2).1
  have hold : f7_oldest (scr M w2) (nI i) = some (scr M w2, M.2 13 i) := m_old hI2 ho1.1 ho1.2 hgo
  have l12 : ldA B 12 40 (nI i) = some (M.2 13 i) := by rw [ldA_ok (by omega) (by omega), h.2.1.2.2.1.2.2.2]
  have hf0 : ∀ g : Nat, g ≤ 20 → (nI g = 0 ↔ g = 0) := fun g hg => by
    rw [← nI_0, nI_eq (by omega) (by omega)]
  have hsl : f2_sleepsTooLong B (nI i) (nI d) = if nI d - M.2 13 i < M.1 4 then some (B, 0) else if f = 0 then some (scb B w, 0) else some (scb B w, 1) := by
    unfold f2_sleepsTooLong
    rw [l12, Option.bind_some, hpt]
    by_cases q : nI d - M.2 13 i < M.1 4
    · rw [if_pos q, if_pos q]
    · rw [if_neg q, if_neg q, y1, Option.bind_some]
      dsimp only
      rw [hB, Option.bind_some]
      dsimp only
      by_cases q2 : f = 0
      · rw [if_pos ((hf0 f (by omega)).mpr q2), if_pos q2]
      · rw [if_neg (fun z => q2 ((hf0 f (by omega)).mp z)), if_neg q2]
  have hwk : f7_wake M (nI i) = if f = 0 then some (scr M w2) else if M.1 4 ≤ nI d - M.2 13 i then f7_wake_L37 2000 (nI i) (-1) (nI f) 0 (scr M w2) else some (scr M w2) := by
    unfold f7_wake
    rw [hM, Option.bind_some]
    dsimp only
    by_cases q2 : f = 0
    · rw [if_pos ((hf0 f (by omega)).mpr q2), if_pos q2]
    · rw [if_neg (fun z => q2 ((hf0 f (by omega)).mp z)), if_neg q2, hold, Option.bind_some]
      dsimp only
      rw [scr_1, hd]
  have noth : ∀ B2, B2 = B ∨ B2 = scb B w → Rel B2 (scr M w2) np nn nf nr d ∧ wtg B2 (scr M w2) (i + 1) nr := fun B2 hB2 => by
    rcases hB2 with rfl | rfl
    · exact ⟨h.scr w2, hw⟩
    · exact ⟨(h.scr w2).scb w, hw⟩
  by_cases q1 : nI d - M.2 13 i < M.1 4
  · -- too young
    rw [if_pos q1] at hsl
    have hwk2 : f7_wake M (nI i) = some (scr M w2) := by
      rw [hwk]
      by_cases q2 : f = 0
      · rw [if_pos q2]
      · rw [if_neg q2, if_neg (fun z => i32_nlt.mpr z q1)]
    obtain ⟨r1, r2⟩ := noth B (Or.inl rfl)
    exact ⟨B, scr M w2, Or.inl hsl, hwk2, r1, rfl, r2⟩
  · rw [if_neg q1] at hsl
    by_cases q2 : f = 0
    · rw [if_pos q2] at hsl hwk
      obtain ⟨r1, r2⟩ := noth _ (Or.inr rfl)
      exact ⟨scb B w, scr M w2, Or.inl hsl, hwk, r1, rfl, r2⟩
    · rw [if_neg q2] at hsl hwk
      rw [if_pos (i32_nlt.mp q1)] at hwk
      -- the search
      have hR : Rel (scb B w) (scr M w2) np nn nf nr d := (h.scr w2).scb w
      obtain ⟨z, z1, z2, -⟩ := hR.gOf (r := i) ho
      rw [show (scr M w2).2 14 i = nI i from hgo] at z2
      obtain ⟨w3, hB3⟩ := b_failing hR z2
      have hf3 : fcn (scr M w2) nn nr (fun k => opB (scr M w2) k && decide ((scr M w2).2 14 k = nI i)) = f := hf.symm
      rw [hf3, scb_scb] at hB3
      have hR3 : Rel (scb B w3) (scr M w2) np nn nf nr d := (h.scr w2).scb w3
      obtain ⟨z', z1', z2', z3'⟩ := hR3.gOf (r := i) ho
      rw [show (scr M w2).2 14 i = nI i from hgo] at z2'
      have hzz : z' = z := by
        obtain ⟨zz, e1, e2, e3⟩ := hR.gOf (r := i) ho
        rw [show (scr M w2).2 14 i = nI i from hgo] at e2
        have : zz = z := by
          rw [z1] at e1
          exact (congrArg Prod.snd (Option.some.inj e1)).symm
        rw [← this]
        exact b_ext fun j hj => by
          by_cases hjl : j < (opn (scr M w2) nr).length
          · have hq := List.getElem?_eq_getElem hjl
            rw [z2' j _ hq, e2 j _ hq]
          · rw [z3' j hj (Nat.le_of_not_lt hjl), e3 j hj (Nat.le_of_not_lt hjl)]
      rw [hzz] at z1'
      obtain ⟨v, v2, best', p1, p2, p3⟩ := part_sim nr 0 2000 2000 (scb B w3) (scr M w2) z (-1) f hR3 ho hgo z1' z2 (by omega) (by omega) (by omega) (by omega) (Or.inl rfl)
      rw [scb_scb] at p1
      rw [scr_scr] at p2
      have hbp : f2_bestPartner (scb B w) (nI i) = some (scb B v, best') := by
        unfold f2_bestPartner
        rw [z1, Option.bind_some]
        dsimp only
        rw [hB3, Option.bind_some]
        exact p1
      have hwk2 : f7_wake M (nI i) = mwk i (scr M v2) best' := by rw [hwk]; exact p2
      have hR4 : Rel (scb B v) (scr M v2) np nn nf nr d := (h.scr v2).scb v
      rcases p3 with rfl | ⟨b, b1, b2, b3, b4, rfl⟩
      · -- none
        refine ⟨scb B v, scr M v2, Or.inr ⟨_, _, _, hsl, hbp, ?_⟩, ?_, hR4, rfl, hw⟩
        · unfold f2_join
          rw [if_pos rfl]
        · rw [hwk2]
          unfold mwk
          rw [if_pos rfl]
      · -- joined
        have b3' : M.2 9 b = 0 := b3
        have b4' : M.2 14 b = nI b := b4
        have hbo : b ∈ opn M nr := mem_opn.mpr ⟨b1, b3'⟩
        obtain ⟨low, hlow, hlow2⟩ : ∃ low, ((low = i ∧ i ≤ b) ∨ (low = b ∧ b ≤ i)) ∧ mwk i (scr M v2) (nI b) = f7_wake_L139 2000 (nI i) (nI b) (nI low) 0 (scr M v2) := by
          unfold mwk
          rw [if_neg (nI_m1 (by omega))]
          by_cases hib : i ≤ b
          · exact ⟨i, Or.inl ⟨rfl, hib⟩, by rw [if_pos (le_ok (by omega) hib)]⟩
          · exact ⟨b, Or.inr ⟨rfl, by omega⟩, by rw [if_neg (le_no (by omega) (by omega))]⟩
        have hlt : low < 2 ^ 31 := by rcases hlow with ⟨rfl, -⟩ | ⟨rfl, -⟩ <;> omega
        obtain ⟨g', t1, t2⟩ := m_w139 (M := scr M v2) hR4.nr.1 h40 (nI i) (nI b) (nI low) nr 0 2000 ((scr M v2).2 14) (by omega) (by omega)
        rw [gM_self] at t1
        have hg' : ∀ k, g' k = if k < nr ∧ M.2 9 k = 0 ∧ (M.2 14 k = nI i ∨ M.2 14 k = nI b) then nI low else M.2 14 k := fun k => by
          rw [t2 k]
          by_cases hc : k < nr ∧ M.2 9 k = 0 ∧ (M.2 14 k = nI i ∨ M.2 14 k = nI b)
          · rw [if_pos hc]; exact if_pos ⟨Nat.zero_le _, hc⟩
          · rw [if_neg hc]; exact if_neg (fun z => hc z.2)
        -- the class's part
        have hR5 : Rel (stS (scb B v) 19 b 0) (scr M v2) np nn nf nr d := hR4.w19 b 0
        have s19 : stZ (scb B v) 19 40 (nI b) 0 = some (stS (scb B v) 19 b 0) := stZ_ok (by omega) (by omega) (Or.inl rfl)
        obtain ⟨ya, yb, ya1, yb1, yab⟩ := hR5.g2 (r := i) (q := b) ho hbo
        rw [show (scr M v2).2 14 i = nI i from hgo, show (scr M v2).2 14 b = nI b from b4'] at yab
        have hgr := b_group hR5.ol yab
        obtain ⟨hR6, hiff⟩ := join_rel (low := low) hR5 (own := i) (b := b) ho hbo hgo b4' hlow (g' := g') hg'
        have hset : SetIs (opn (gM (scr M v2) g') nr) (ya ||| yb) (fun q => decide ((gM (scr M v2) g').2 14 q = nI low)) := fun j q hq => by
          have hqo : q ∈ opn (scr M v2) nr := List.mem_of_getElem? (show (opn (scr M v2) nr)[j]? = some q from hq)
          rw [yab j q hq]
          have e1 : ((gM (scr M v2) g').2 14 q = nI low) ↔ ((scr M v2).2 14 q = nI i ∨ (scr M v2).2 14 q = nI b) := hiff q hqo
          refine beq_of ?_
          simp only [Bool.or_eq_true, decide_eq_true_eq]
          exact e1.symm
        obtain ⟨B', M', u1, u2, u3, u4, u5, u6, u7⟩ := give_eq hR6 hset
        refine ⟨B', M', Or.inr ⟨_, _, _, hsl, hbp, ?_⟩, by rw [hwk2, hlow2]; exact t1.trans u2, u3, by rw [u4]; rfl, fun k hk1 hk2 => ?_⟩
        · unfold f2_join
          rw [if_neg (nI_m1 (by omega)), s19, Option.bind_some, ya1, Option.bind_some]
          dsimp only
          rw [yb1, Option.bind_some]
          dsimp only
          rw [hgr, Option.bind_some, u1, Option.bind_some]
        · rw [u7 19 (by decide) (by decide)]
          show upd (B.2 19) b 0 k = _
          rw [u5 9 (by decide) (by decide), u5 14 (by decide) (by decide)]
          show upd (B.2 19) b 0 k = bI (decide (M.2 9 k = 0) && decide (g' k = nI k))
          have hwk3 := hw k hk1 hk2
          by_cases hkb : k = b
          · subst hkb
            rw [upd_at]
            have hlk : low = i := by rcases hlow with ⟨q, -⟩ | ⟨-, q⟩ <;> omega
            have : ¬ g' k = nI k := by
              rw [hg' k, if_pos ⟨hk2, b3', Or.inr b4'⟩, hlk]
              exact ne_ok (by omega) (by omega) (by omega)
            simp [this, bI]
          · rw [upd_ne _ _ hkb, hwk3]
            by_cases h9 : M.2 9 k = 0
            · have e2 : decide (g' k = nI k) = decide (M.2 14 k = nI k) := by
                refine beq_of ?_
                simp only [decide_eq_true_eq]
                rw [hg' k]
                by_cases hc : M.2 14 k = nI i ∨ M.2 14 k = nI b
                · rw [if_pos ⟨hk2, h9, hc⟩]
                  constructor
                  · intro z
                    have z2 := (nI_eq hlt (by omega)).mp z
                    rcases hlow with ⟨q, -⟩ | ⟨q, -⟩ <;> omega
                  · intro z
                    rw [z] at hc
                    rcases hc with hc | hc
                    · have := (nI_eq (by omega) (by omega)).mp hc; omega
                    · have := (nI_eq (by omega) (by omega)).mp hc; omega
                · rw [if_neg (fun z => hc z.2.2)]
              rw [e2]
            · simp [h9]
theorem day_sim {np nn nf nr d : Nat} (k42 : Int32 → Int32 → St → Option (St × Int32)) (v1 v2 : Int32) :
    ∀ (m i n1 n2 : Nat) (B M : St), Rel B M np nn nf nr d → i + m = nr → m < n1 → m < n2 → wtg B M i nr →
      ∃ B' M', f2_joinSleepers_L45 n1 (nI d) (nI i) B = some B' ∧ f7_pass_L59 k42 n2 v1 v2 (nI i) M = k42 v1 (v2 + 1) M' ∧ Rel B' M' np nn nf nr d ∧ M'.1 = M.1 := by
  intro m
  induction m with
  | zero =>
    intro i n1 n2 B M h hi hn1 hn2 hw
    obtain ⟨n1, rfl⟩ : ∃ q, n1 = q + 1 := ⟨n1 - 1, by omega⟩
    obtain ⟨n2, rfl⟩ : ∃ q, n2 = q + 1 := ⟨n2 - 1, by omega⟩
    have h40 := h.nr.2
    refine ⟨B, M, ?_, ?_, h, rfl⟩
    · show f2_joinSleepers_L45b (f2_joinSleepers_L45 n1) (nI d) (nI i) B = _
      unfold f2_joinSleepers_L45b
      rw [h.2.2.1.2.2.2.2.1, h.nr.1, if_pos (le_ok (by omega) (by omega))]
    · show f7_pass_L59b k42 (f7_pass_L59 k42 n2) v1 v2 (nI i) M = _
      unfold f7_pass_L59b
      rw [h.nr.1, if_pos (le_ok (by omega) (by omega))]
  | succ m ih =>
    intro i n1 n2 B M h hi hn1 hn2 hw
    obtain ⟨n1, rfl⟩ : ∃ q, n1 = q + 1 := ⟨n1 - 1, by omega⟩
    obtain ⟨n2, rfl⟩ : ∃ q, n2 = q + 1 := ⟨n2 - 1, by omega⟩
    have h40 := h.nr.2
    have lw : ldA B 19 40 (nI i) = some (bI (decide (M.2 9 i = 0) && decide (M.2 14 i = nI i))) := by rw [ldA_ok (by omega) (by omega), hw i (Nat.le_refl _) (by omega)]
    have l9 : ldA M 9 40 (nI i) = some (M.2 9 i) := ldA_ok (by omega) (by omega)
    have l14 : ldA M 14 40 (nI i) = some (M.2 14 i) := ldA_ok (by omega) (by omega)
    have hw1 : wtg B M (i + 1) nr := fun k q1 q2 => hw k (by omega) q2
    by_cases hc : M.2 9 i = 0 ∧ M.2 14 i = nI i
    · have ho : i ∈ opn M nr := mem_opn.mpr ⟨by omega, hc.1⟩
      obtain ⟨B1, M1, r1, r2, r3, r4, r5⟩ := wake_sim h ho hc.2 hw1
      obtain ⟨B', M', u1, u2, u3, u4⟩ := ih (i + 1) n1 n2 B1 M1 r3 (by omega) (by omega) (by omega) r5
      refine ⟨B', M', ?_, ?_, u3, by rw [u4, r4]⟩
      · show f2_joinSleepers_L45b (f2_joinSleepers_L45 n1) (nI d) (nI i) B = _
        unfold f2_joinSleepers_L45b
        rw [h.2.2.1.2.2.2.2.1, h.nr.1, if_neg (le_no (by omega) (by omega)), lw, Option.bind_some, if_neg (by rw [show (decide (M.2 9 i = 0) && decide (M.2 14 i = nI i)) = true by simp [hc]]; decide), nI_s]
        rcases r1 with r1 | ⟨S5, S8, x, p1, p2, p3⟩
        · rw [r1, Option.bind_some]
          dsimp only
          rw [if_pos rfl]
          exact u1
        · rw [p1, Option.bind_some]
          dsimp only
          rw [if_neg (by decide), p2, Option.bind_some]
          dsimp only
          rw [p3, Option.bind_some]
          exact u1
      · show f7_pass_L59b k42 (f7_pass_L59 k42 n2) v1 v2 (nI i) M = _
        unfold f7_pass_L59b
        rw [h.nr.1, if_neg (le_no (by omega) (by omega)), l9, Option.bind_some, if_pos hc.1, l14, Option.bind_some, if_pos hc.2, r2, Option.bind_some, nI_s]
        exact u2
    · obtain ⟨B', M', u1, u2, u3, u4⟩ := ih (i + 1) n1 n2 B M h (by omega) (by omega) (by omega) hw1
      refine ⟨B', M', ?_, ?_, u3, u4⟩
      · show f2_joinSleepers_L45b (f2_joinSleepers_L45 n1) (nI d) (nI i) B = _
        have hf : (decide (M.2 9 i = 0) && decide (M.2 14 i = nI i)) = false := by
          cases hq : (decide (M.2 9 i = 0) && decide (M.2 14 i = nI i)) with
          | false => rfl
          | true => exact absurd (by simpa using hq) hc
        unfold f2_joinSleepers_L45b
        rw [h.2.2.1.2.2.2.2.1, h.nr.1, if_neg (le_no (by omega) (by omega)), lw, Option.bind_some, hf, if_pos bI_f, nI_s]
        exact u1
      · show f7_pass_L59b k42 (f7_pass_L59 k42 n2) v1 v2 (nI i) M = _
        unfold f7_pass_L59b
        rw [h.nr.1, if_neg (le_no (by omega) (by omega)), l9, Option.bind_some, nI_s]
        by_cases h9 : M.2 9 i = 0
        · rw [if_pos h9, l14, Option.bind_some, if_neg (fun z => hc ⟨h9, z⟩)]
          exact u2
        · rw [if_neg h9]
          exact u2
/-- who waits, at the day's begin -/
theorem wait_L {np nn nf nr d : Nat} {t : Int32} :
    ∀ (m i n : Nat) (B M : St), Rel B M np nn nf nr d → i + m = nr → m < n → (∀ k, k < i → B.2 19 k = bI (decide (M.2 9 k = 0) && decide (M.2 14 k = nI k))) → ∃ B', f2_joinSleepers_L2 n t (nI i) B = f2_joinSleepers_L45 2000 t 0 B' ∧ Rel B' M np nn nf nr d ∧ wtg B' M 0 nr := by
  intro m
  induction m with
  | zero =>
    intro i n B M h hi hm hw
    obtain ⟨n, rfl⟩ : ∃ q, n = q + 1 := ⟨n - 1, by omega⟩
    have h40 := h.nr.2
    refine ⟨B, ?_, h, fun k _ hk => hw k (by omega)⟩
    show f2_joinSleepers_L2b (f2_joinSleepers_L2 n) t (nI i) B = _
    unfold f2_joinSleepers_L2b
    rw [h.2.2.1.2.2.2.2.1, h.nr.1, if_pos (le_ok (by omega) (by omega))]
  | succ m ih =>
    intro i n B M h hi hm hw
    obtain ⟨n, rfl⟩ : ∃ q, n = q + 1 := ⟨n - 1, by omega⟩
    have h40 := h.nr.2
    have lB : ldA B 16 40 (nI i) = some (B.2 16 i) := ldA_ok (by omega) (by omega)
    have s0 : stZ B 19 40 (nI i) 0 = some (stS B 19 i 0) := stZ_ok (by omega) (by omega) (Or.inl rfl)
    have s1 : stZ B 19 40 (nI i) 1 = some (stS B 19 i 1) := stZ_ok (by omega) (by omega) (Or.inr rfl)
    have hs : f2_joinSleepers_L2 (n + 1) t (nI i) B = f2_joinSleepers_L2 n t (nI (i + 1)) (stS B 19 i (bI (decide (M.2 9 i = 0) && decide (M.2 14 i = nI i)))) := by
      show f2_joinSleepers_L2b (f2_joinSleepers_L2 n) t (nI i) B = _
      unfold f2_joinSleepers_L2b
      rw [h.2.2.1.2.2.2.2.1, h.nr.1, if_neg (le_no (by omega) (by omega)), lB, Option.bind_some, nI_s]
      by_cases hc : B.2 16 i = nI i
      · have := (isG h (by omega)).mp hc
        rw [if_pos hc, s1, Option.bind_some, show (decide (M.2 9 i = 0) && decide (M.2 14 i = nI i)) = true by simp [this], bI_t]
      · have hf : (decide (M.2 9 i = 0) && decide (M.2 14 i = nI i)) = false := by
          cases hq : (decide (M.2 9 i = 0) && decide (M.2 14 i = nI i)) with
          | false => rfl
          | true => exact absurd ((isG h (by omega)).mpr (by simpa using hq)) hc
        rw [if_neg hc, s0, Option.bind_some, hf, bI_f]
    obtain ⟨B', r1, r2⟩ := ih (i + 1) n (stS B 19 i (bI (decide (M.2 9 i = 0) && decide (M.2 14 i = nI i)))) M (h.w19 _ _) (by omega) (by omega) (fun k hk => by
      show upd (B.2 19) i _ k = _
      by_cases hki : k = i
      · rw [hki, upd_at]
      · rw [upd_ne _ _ hki]
        exact hw k (by omega))
    exact ⟨B', by rw [hs]; exact r1, r2⟩
theorem Rel.day {B M : St} {np nn nf nr d : Nat} (h : Rel B M np nn nf nr d) (hd : d + 1 ≤ 1000) : Rel (sF B 0 (nI (d + 1))) (sF M 1 (nI (d + 1))) np nn nf nr (d + 1) := by
  obtain ⟨⟨⟨j0, j1, j2, j3, ⟨j4, j4b⟩, j5⟩, i1, i2, i3, i4, i5, i6, ⟨i7, i7b⟩, i8⟩, hA, ⟨g0, g1⟩, hO⟩ := h
  refine ⟨⟨⟨j0, j1, j2, j3, ⟨rfl, hd⟩, j5⟩, i1, i2, i3, i4, i5, i6, ⟨fun k hk => ?_, i7b⟩, i8⟩, hA, ⟨rfl, g1⟩, hO⟩
  obtain ⟨t, t1, t2⟩ := i7 k hk
  exact ⟨t, by omega, t2⟩
theorem pass_L {np nn nf nr : Nat} {n : Nat} (hn : n ≤ 100) :
    ∀ (m i d f1 f2 : Nat) (B M : St), Rel B M np nn nf nr d → i + m = n → m < f1 → m < f2 → d + m ≤ 1000 → ∃ B' M', y6_pass_L44 f1 (nI n) (nI i) B = some (B', nI (d + m), 0) ∧ f7_pass_L42 f2 (nI n) (nI i) M = some (M', nI (d + m)) ∧ Rel B' M' np nn nf nr (d + m) ∧ M'.1 0 = M.1 0 := by
  intro m
  induction m with
  | zero =>
    intro i d f1 f2 B M h hi hf1 hf2 hd
    obtain ⟨f1, rfl⟩ : ∃ q, f1 = q + 1 := ⟨f1 - 1, by omega⟩
    obtain ⟨f2, rfl⟩ : ∃ q, f2 = q + 1 := ⟨f2 - 1, by omega⟩
    have hdM : M.1 1 = nI d := h.1.1.2.2.2.2.1.1
    refine ⟨B, M, ?_, ?_, h, rfl⟩
    · show y6_pass_L44b (y6_pass_L44 f1) (nI n) (nI i) B = _
      unfold y6_pass_L44b
      rw [if_pos (le_ok (by omega) (by omega)), h.2.2.1.1, hdM]
      rfl
    · show f7_pass_L42b (f7_pass_L42 f2) (nI n) (nI i) M = _
      unfold f7_pass_L42b
      rw [if_pos (le_ok (by omega) (by omega)), hdM]
      rfl
  | succ m ih =>
    intro i d f1 f2 B M h hi hf1 hf2 hd
    obtain ⟨f1, rfl⟩ : ∃ q, f1 = q + 1 := ⟨f1 - 1, by omega⟩
    obtain ⟨f2, rfl⟩ : ∃ q, f2 = q + 1 := ⟨f2 - 1, by omega⟩
    have hdM : M.1 1 = nI d := h.1.1.2.2.2.2.1.1
    have h40 := h.nr.2
    have hR := h.day (by omega)
    obtain ⟨B1, r1, r2, r3⟩ := wait_L (t := nI (d + 1)) nr 0 2000 _ _ hR (by omega) (by omega) (fun k hk => absurd hk (Nat.not_lt_zero _))
    obtain ⟨B2, M2, u1, u2, u3, u4⟩ := day_sim (f7_pass_L42 f2) (nI n) (nI i) nr 0 2000 2000 B1 _ r2 (by omega) (by omega) (by omega) r3
    obtain ⟨B', M', p1, p2, p3, p4⟩ := ih (i + 1) (d + 1) f1 f2 B2 M2 u3 (by omega) (by omega) (by omega) (by omega)
    have hj : f2_joinSleepers (sF B 0 (nI (d + 1))) (nI (d + 1)) = some B2 := by
      unfold f2_joinSleepers
      exact r1.trans u1
    have hdd : d + 1 + m = d + (m + 1) := by omega
    rw [hdd] at p1 p2 p3
    refine ⟨B', M', ?_, ?_, p3, by rw [p4, u4]; rfl⟩
    · show y6_pass_L44b (y6_pass_L44 f1) (nI n) (nI i) B = _
      unfold y6_pass_L44b stF
      rw [if_neg (le_no (by omega) (by omega)), h.2.2.1.1, hdM, nI_s, nI_s, Option.bind_some, sF_s, hj, Option.bind_some]
      exact p1
    · show f7_pass_L42b (f7_pass_L42 f2) (nI n) (nI i) M = _
      unfold f7_pass_L42b stF
      rw [if_neg (le_no (by omega) (by omega)), hdM, nI_s, Option.bind_some]
      refine u2.trans ?_
      rw [nI_s]
      exact p2
theorem sim_pass {B M : St} {np nn nf nr d : Nat} (h : Rel B M np nn nf nr d) (v : Int32) : Sim (y6_pass B v) (f7_pass M v) ps_23 := by
  have hdM : M.1 1 = nI d := h.1.1.2.2.2.2.1.1
  have hdd : d ≤ 1000 := h.1.1.2.2.2.2.1.2
  have i1000 : (1000 : Int32) = nI 1000 := by decide +kernel
  cases hv : inr v 1 100 with
  | false =>
    refine Sim.no (k := 2) (t := 1) h ?_ ?_ rfl (by omega) (by omega)
    · unfold y6_pass
      rw [f6_isWithin_eq, Option.bind_some, hv]
      rfl
    · unfold f7_pass
      rw [f7_in_eq, Option.bind_some, hv]
      exact no_pass (by decide)
  | true =>
    obtain ⟨n, n1, n2, rfl⟩ := (inr_lo (a := 1) (b := 100) (by omega) (by omega)).mp hv
    have hB : y6_pass B (nI n) = if nI (d + n) ≤ nI 1000 then y6_pass_L44 2000 (nI n) 0 B else some (B, 0, 3) := by
      unfold y6_pass
      rw [f6_isWithin_eq, Option.bind_some, hv]
      dsimp only
      rw [if_neg (by decide), h.2.2.1.1, hdM, nI_add, i1000]
    have hM : f7_pass M (nI n) = if nI (d + n) ≤ nI 1000 then f7_pass_J32 (nI n) 0 M else f7_pass_J32 (nI n) 2 M := by
      unfold f7_pass
      rw [f7_in_eq, Option.bind_some, hv]
      dsimp only
      rw [if_neg (by decide), hdM, nI_add, i1000]
    by_cases hc : d + n ≤ 1000
    · rw [if_pos (le_ok (by omega) hc)] at hB hM
      obtain ⟨B', M', p1, p2, p3, p4⟩ := pass_L (n := n) n2 n 0 d 2000 2000 B (sF M 0 0) (h.th 0) (by omega) (by omega) (by omega) hc
      refine ⟨B', M', nI (d + n), 0, nI (d + n), by rw [hB]; exact p1, ?_, ⟨np, nn, nf, nr, d + n, p3⟩, by rw [p4]; rfl, by omega, fun _ => rfl⟩
      rw [hM]
      unfold f7_pass_J32
      rw [f7_refused_eq, Option.bind_some, if_pos rfl]
      dsimp only
      rw [if_pos rfl]
      exact p2
    · rw [if_neg (le_no (by omega) (by omega))] at hB hM
      refine Sim.no (k := 3) (t := 2) h hB ?_ rfl (by omega) (by omega)
      rw [hM]
      exact no_pass (by decide)
