/-! the fewest, third part: by needs and by all sets, alike -/
theorem by_needs {B M : St} {np nn nf nr d own : Nat} (h : Rel B M np nn nf nr d) (how : own ∈ opn M nr) :
    ∀ (m i n : Nat) (y : Int32) (w : Nat → Int32), i + m = 10 → m < n → (∀ j, j < 32 → (opn M nr).length ≤ j → bt y j = false) → pS M y own = true → i + 1 ≤ szS M nr y → (∀ v, v < 2 ^ (opn M nr).length → pS M (nI v) own = true → okS M nn nr (nI v) = true → ∀ r ∈ opn M nr, pS M y r = true → pS M (nI v) r = true) →
      ∃ w', f0_byNeeds_L4 n y (nI i) (scb B w) = some (scb B w', (fld (stp M nn nr own) (-1, 11) 0 (2 ^ (opn M nr).length)).1) := by
  have hI := h.1
  have h10 := h.ol.2.1
  have hnp := h.np.2
  have hnn := h.nn.2
  obtain ⟨-, i1, -, -, -, -, -, -, i8, -⟩ := h.1
  obtain ⟨⟨a0, a2, a3, a4, a5⟩, -⟩ := h.2.1
  intro m
  induction m with
  | zero =>
    intro i n y w hi hm hz hy hsz _
    have : szS M nr y ≤ (opn M nr).length := List.countP_le_length
    omega
  | succ m ih =>
    intro i n y w hi hm hz hy hsz hsub
    obtain ⟨n, rfl⟩ : ∃ q, n = q + 1 := ⟨n - 1, by omega⟩
    show ∃ w', f0_byNeeds_L4b (f0_byNeeds_L4 n) y (nI i) (scb B w) = _
    unfold f0_byNeeds_L4b
    rw [if_neg (by rw [i_10]; exact le_no (by omega) (by omega))]
    obtain ⟨w1, hf⟩ := b_first (h.scb w) (pS_set M nr y)
    rw [scb_scb] at hf
    rcases hf with ⟨k, k1, k2, k3⟩ | ⟨k1, k2⟩
    · -- a need fails
      rw [k3, Option.bind_some]
      dsimp only
      obtain ⟨a, b, ha, hb, ea, eb⟩ := i1 k k1
      have l2 : ldA (scb B w1) 2 20 (nI k) = some (nI a) := by rw [ldA_ok (by omega) (by omega), scb_n _ _ (by decide), a2, ea]
      have l3 : ldA (scb B w1) 3 20 (nI k) = some (nI b) := by rw [ldA_ok (by omega) (by omega), scb_n _ _ (by decide), a3, eb]
      obtain ⟨xa, xa1, xa2, xa3⟩ := b_bitP (h.scb w1) a
      obtain ⟨xb, xb1, xb2, xb3⟩ := b_bitP (h.scb w1) b
      rw [if_neg (nI_m1 (by omega)), l2, Option.bind_some, xa1, Option.bind_some]
      dsimp only
      rw [l3, Option.bind_some, xb1, Option.bind_some, nI_s]
      dsimp only
      have hV : ∀ f g : Nat → Int32, f a = g a → f b = g b → vio f (M.2 1) (M.2 2) (M.2 3) (M.2 4) k = vio g (M.2 1) (M.2 2) (M.2 3) (M.2 4) k := fun f g z1 z2 => vio_two (by omega) (by omega) ea eb z1 z2
      have hok : ∀ v, okS M nn nr (nI v) = true → vio (pvS M nr (nI v)) (M.2 1) (M.2 2) (M.2 3) (M.2 4) k = false := fun v hv => by
        unfold okS at hv
        rw [decide_eq_true_eq] at hv
        exact cnt_zero (show cnt _ 0 nn = 0 from hv) (Nat.zero_le _) (by omega)
      have hk2 : vio (pvS M nr y) (M.2 1) (M.2 2) (M.2 3) (M.2 4) k = true := k2
      have hzz : ∀ j, j < 32 → (opn M nr).length ≤ j → bt ((xa ||| xb) ||| y) j = false := fun j q1 q2 => by
        rw [b_or, b_or, xa3 j q1 q2, xb3 j q1 q2, hz j q1 q2]
        rfl
      by_cases hc : ((xa ||| xb) ||| y) = y
      · -- it asks for nothing new
        rw [if_pos hc]
        refine ⟨w1, ?_⟩
        rw [fld_none _ _ _ (fun v _ hv v1 v2 _ => ?_)]
        have hs := hsub v (by omega) v1 v2
        have hin : ∀ r ∈ opn M nr, (M.2 10 r = nI a ∨ M.2 10 r = nI b) → pS M y r = true := fun r hr z => by
          rw [← hc, pS_or, pS_or]
          rcases z with z | z
          · rw [(xa2 r hr).mpr z]; rfl
          · rw [(xb2 r hr).mpr z]; simp
        have e1 : pvS M nr y a = pvS M nr (nI v) a := pv_same hI ha (fun r hr z => by rw [hin r hr (Or.inl z), hs r hr (hin r hr (Or.inl z))])
        have e2 : pvS M nr y b = pvS M nr (nI v) b := pv_same hI hb (fun r hr z => by rw [hin r hr (Or.inr z), hs r hr (hin r hr (Or.inr z))])
        rw [hV _ _ e1 e2, hok v v2] at hk2
        cases hk2
      · rw [if_neg hc, Int32.or_comm y]
        refine ih (i + 1) n _ w1 (by omega) (by omega) hzz (by rw [pS_or, hy, Bool.or_true]) ?_ (fun v hv v1 v2 r hr hr2 => ?_)
        · have hd : ∃ r, r ∈ opn M nr ∧ pS M ((xa ||| xb) ||| y) r = true ∧ pS M y r = false := by
            refine Classical.byContradiction fun hno => hc (mask_ext hzz hz fun r hr => ?_)
            cases hyr : pS M y r with
            | true => rw [pS_or, hyr, Bool.or_true]
            | false =>
              cases hyr2 : pS M ((xa ||| xb) ||| y) r with
              | false => rfl
              | true => exact absurd ⟨r, hr, hyr2, hyr⟩ hno
          obtain ⟨r, r1, r2, r3⟩ := hd
          have : szS M nr y < szS M nr ((xa ||| xb) ||| y) := countP_lt2 (opn M nr) (fun q _ hq2 => by rw [pS_or, hq2, Bool.or_true]) r1 r3 r2
          omega
        · have hs := hsub v hv v1 v2
          rw [pS_or, pS_or] at hr2
          simp only [Bool.or_eq_true] at hr2
          have hno := i8 k k1
          rcases hr2 with (z | z) | z
          · exact asks hI ha hb hV hk2 (hok v v2) hno hs hr ((xa2 r hr).mp z)
          · exact asks hI hb ha (fun f g z1 z2 => hV f g z2 z1) hk2 (hok v v2) hno hs hr ((xb2 r hr).mp z)
          · exact hs r hr z
    · -- none fails
      rw [k2, Option.bind_some]
      dsimp only
      rw [if_pos rfl]
      refine ⟨w1, ?_⟩
      obtain ⟨s, s1, s2⟩ := small_of (n := (opn M nr).length) (by omega) hz
      subst s2
      have hokk : okS M nn nr (nI s) = true := by
        unfold okS
        rw [decide_eq_true_eq]
        exact cnt_none (fun k _ hk => k1 k (by omega))
      have hle : szS M nr (nI s) ≤ (opn M nr).length := List.countP_le_length
      rw [fld_one hy hokk _ 0 (-1, 11) (Nat.zero_le _) (by omega) (show szS M nr (nI s) < 11 by omega) (fun v _ hv hvs v1 v2 => ?_)]
      have hs := hsub v (by omega) v1 v2
      have hzv : ∀ j, j < 32 → (opn M nr).length ≤ j → bt (nI v) j = false := fun j q1 q2 => bt_big (n := (opn M nr).length) (by omega) q1 q2
      have hd : ∃ r, r ∈ opn M nr ∧ pS M (nI v) r = true ∧ pS M (nI s) r = false := by
        refine Classical.byContradiction fun hno => ?_
        have : nI v = nI s := mask_ext hzv hz fun r hr => by
          cases hyr : pS M (nI s) r with
          | true => exact hs r hr hyr
          | false =>
            cases hyr2 : pS M (nI v) r with
            | false => rfl
            | true => exact absurd ⟨r, hr, hyr2, hyr⟩ hno
        have hp := pow_1024 h10
        exact hvs ((nI_eq (by omega) (by omega)).mp this)
      obtain ⟨r, r1, r2, r3⟩ := hd
      exact countP_lt2 (opn M nr) hs r1 r3 r2
theorem m_fewest {M : St} {np nn nf nr d own : Nat} (hI : Inv M np nn nf nr d) (how : own ∈ opn M nr) : ∃ w, f7_fewest_J29 (nI own) 0 M = some (scr (sF M 0 0) w, (fld (stp M nn nr own) (-1, 11) 0 (2 ^ (opn M nr).length)).1) := by
  have hI2 : Inv (sF M 0 0) np nn nf nr d := hI
  have hl : (opn M nr).length ≤ 10 := hI.2.2.2.2.2.2.2.2.2.1
  have h1024 := pow_1024 hl
  have hpos : 0 < 2 ^ (opn M nr).length := Nat.pow_pos (by omega)
  obtain ⟨w, hw⟩ := m_few46 (M := sF M 0 0) hI2 how (2 ^ (opn M nr).length - 1) 1 2000 11 (-1) ((sF M 0 0).2 17) (by show 1 + (2 ^ (opn M nr).length - 1) = 2 ^ (opn M nr).length; omega) (by omega) (by omega)
  rw [scr_self] at hw
  refine ⟨w, ?_⟩
  have e0 : fld (stp M nn nr own) (-1, 11) 0 (2 ^ (opn M nr).length) = fld (stp M nn nr own) (-1, 11) 1 (2 ^ (opn M nr).length - 1) := by
    obtain ⟨q, hq⟩ : ∃ q, 2 ^ (opn M nr).length = q + 1 := ⟨2 ^ (opn M nr).length - 1, by omega⟩
    rw [hq, fld_s, Nat.add_sub_cancel]
    have : stp M nn nr own (-1, 11) 0 = (-1, 11) := by
      unfold stp
      refine if_neg fun z => ?_
      have hz : pS M (nI 0) own = false := b_0 _
      rw [hz] at z
      cases z
    rw [this]
  rw [e0]
  unfold f7_fewest_J29
  rw [f7_refused_eq, Option.bind_some, if_pos rfl]
  dsimp only
  rw [if_pos rfl]
  exact hw
theorem sim_fewest {B M : St} {np nn nf nr d : Nat} (h : Rel B M np nn nf nr d) (v : Int32) : Sim (y6_fewest B v) (f7_fewest M v) ps13 := by
  have hr := h.nr
  rcases y_ckO h v with ⟨hv, hc⟩ | ⟨r, hr1, rfl, hv, h9, hc⟩ | ⟨r, ho, hr1, rfl, hv, h9, hc⟩
  · refine Sim.no (k := 1) (t := 1) h ?_ ?_ rfl (by omega) (by omega)
    · unfold y6_fewest
      rw [hc]
      rfl
    · unfold f7_fewest
      rw [m_isRaise, Option.bind_some, hv]
      exact no_fewest (by decide)
  · have lM : ldA M 9 40 (nI r) = some (M.2 9 r) := ldA_ok (by omega) (by omega)
    refine Sim.no (k := 3) (t := 2) h ?_ ?_ rfl (by omega) (by omega)
    · unfold y6_fewest
      rw [hc]
      rfl
    · unfold f7_fewest
      rw [m_isRaise, Option.bind_some, hv]
      dsimp only
      rw [if_neg (by decide), lM, Option.bind_some, if_neg h9]
      exact no_fewest (by decide)
  · have lM : ldA M 9 40 (nI r) = some (M.2 9 r) := ldA_ok (by omega) (by omega)
    obtain ⟨w, hM⟩ := m_fewest h.1 ho
    obtain ⟨j, j1, j2, j3⟩ := b_bitOf h.ol ho
    have h10 := h.ol.2.1
    have hjl := (List.getElem?_eq_some_iff.mp j1).1
    have hbo : ∀ q ∈ opn M nr, pS M (1 <<< (nI j &&& 31)) q = true ↔ q = r := fun q hq => by
      have hqi := opn_idx (mem_opn.mp hq).1 (mem_opn.mp hq).2
      have hql := (List.getElem?_eq_some_iff.mp hqi).1
      unfold pS
      rw [b_pw j (by omega) (by omega), decide_eq_true_eq]
      constructor
      · intro z
        rw [z, j1] at hqi
        cases hqi
        rfl
      · intro z
        rw [z]
        exact opn_pl j1
    obtain ⟨w2, hB⟩ := by_needs h ho 10 0 2000 (1 <<< (nI j &&& 31)) (B.2 1) (by omega) (by omega) (fun i hi hi2 => by rw [b_pw j (by omega) hi]; simp; omega) ((hbo r ho).mpr rfl) (by
      have : (opn M nr).countP (fun _ => false) < szS M nr (1 <<< (nI j &&& 31)) := countP_lt2 (opn M nr) (fun q _ hq => by cases hq) ho rfl ((hbo r ho).mpr rfl)
      omega) (fun v hv v1 v2 q hq hq2 => by rw [(hbo q hq).mp hq2]; exact v1)
    rw [scb_self] at hB
    refine ⟨scb B w2, scr (sF M 0 0) w, (fld (stp M nn nr r) (-1, 11) 0 (2 ^ (opn M nr).length)).1, 0, (fld (stp M nn nr r) (-1, 11) 0 (2 ^ (opn M nr).length)).1, ?_, ?_, ⟨np, nn, nf, nr, d, ((h.th 0).scr w).scb w2⟩, rfl, by omega, fun _ => rfl⟩
    · unfold y6_fewest
      rw [hc, xB_0]
      dsimp only
      rw [j3, Option.bind_some]
      dsimp only
      have hB2 : f0_byNeeds B (1 <<< (nI j &&& 31)) = some (scb B w2, (fld (stp M nn nr r) (-1, 11) 0 (2 ^ (opn M nr).length)).1) := hB
      rw [hB2, Option.bind_some]
    · unfold f7_fewest
      rw [m_isRaise, Option.bind_some, hv]
      dsimp only
      rw [if_neg (by decide), lM, Option.bind_some, if_pos h9]
      exact hM
theorem sim_fewestAnew {B M : St} {np nn nf nr d : Nat} (h : Rel B M np nn nf nr d) (v : Int32) : Sim (y6_fewestAnew B v) (f7_fewestAnew M v) ps13 := by
  have hr := h.nr
  have hw : ∀ q : St × Int32, f7_fewest M v = some q → f7_fewestAnew M v = some q := fun q hq => by
    unfold f7_fewestAnew
    rw [hq, Option.bind_some]
  rcases y_ckO h v with ⟨hv, hc⟩ | ⟨r, hr1, rfl, hv, h9, hc⟩ | ⟨r, ho, hr1, rfl, hv, h9, hc⟩
  · refine Sim.no (k := 1) (t := 1) h ?_ (hw _ ?_) rfl (by omega) (by omega)
    · unfold y6_fewestAnew
      rw [hc]
      rfl
    · unfold f7_fewest
      rw [m_isRaise, Option.bind_some, hv]
      exact no_fewest (by decide)
  · have lM : ldA M 9 40 (nI r) = some (M.2 9 r) := ldA_ok (by omega) (by omega)
    refine Sim.no (k := 3) (t := 2) h ?_ (hw _ ?_) rfl (by omega) (by omega)
    · unfold y6_fewestAnew
      rw [hc]
      rfl
    · unfold f7_fewest
      rw [m_isRaise, Option.bind_some, hv]
      dsimp only
      rw [if_neg (by decide), lM, Option.bind_some, if_neg h9]
      exact no_fewest (by decide)
  · have lM : ldA M 9 40 (nI r) = some (M.2 9 r) := ldA_ok (by omega) (by omega)
    obtain ⟨w, hM⟩ := m_fewest h.1 ho
    obtain ⟨j, j1, j2, j3⟩ := b_bitOf h.ol ho
    have h1024 := pow_1024 h.ol.2.1
    obtain ⟨w2, hB⟩ := b_few8 h j1 (2 ^ (opn M nr).length) 0 2000 11 (-1) (B.2 1) (by omega) (by omega) (by omega)
    rw [scb_self] at hB
    refine ⟨scb B w2, scr (sF M 0 0) w, (fld (stp M nn nr r) (-1, 11) 0 (2 ^ (opn M nr).length)).1, 0, (fld (stp M nn nr r) (-1, 11) 0 (2 ^ (opn M nr).length)).1, ?_, hw _ ?_, ⟨np, nn, nf, nr, d, ((h.th 0).scr w).scb w2⟩, rfl, by omega, fun _ => rfl⟩
    · unfold y6_fewestAnew
      rw [hc, xB_0]
      dsimp only
      rw [j3, Option.bind_some]
      dsimp only
      have hB2 : f0_byAllSets B (1 <<< (nI j &&& 31)) = some (scb B w2, (fld (stp M nn nr r) (-1, 11) 0 (2 ^ (opn M nr).length)).1) := hB
      rw [hB2, Option.bind_some]
    · unfold f7_fewest
      rw [m_isRaise, Option.bind_some, hv]
      dsimp only
      rw [if_neg (by decide), lM, Option.bind_some, if_pos h9]
      exact hM
theorem sim_day {B M : St} {np nn nf nr d : Nat} (h : Rel B M np nn nf nr d) : ∃ M' r, f6_day B = some (B, r) ∧ f7_day M = some (M', r) ∧ Rl B M' ∧ M'.1 0 = 0 := by
  refine ⟨sF M 0 0, B.1 0, rfl, ?_, ⟨np, nn, nf, nr, d, h.th 0⟩, rfl⟩
  rw [h.2.2.1.1]
  rfl
