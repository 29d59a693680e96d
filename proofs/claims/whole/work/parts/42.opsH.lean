/-! the fewest, second part: by needs -/
theorem fld_none {M : St} {nn nr own : Nat} : ∀ (m i : Nat) (q : Int32 × Nat), (∀ v, i ≤ v → v < i + m → pS M (nI v) own = true → okS M nn nr (nI v) = true → szS M nr (nI v) < q.2 → False) → fld (stp M nn nr own) q i m = q
  | 0, _, _, _ => rfl
  | m + 1, i, q, h => by
    rw [fld_s]
    have e : stp M nn nr own q i = q := by
      unfold stp
      refine if_neg fun z => ?_
      simp only [Bool.and_eq_true, decide_eq_true_eq] at z
      exact h i (Nat.le_refl _) (by omega) z.1 z.2.2 z.2.1
    rw [e]
    exact fld_none m (i + 1) q (fun v h1 h2 => h v (by omega) (by omega))
theorem fld_one {M : St} {nn nr own s : Nat} (h1 : pS M (nI s) own = true) (h2 : okS M nn nr (nI s) = true) : ∀ (m i : Nat) (q : Int32 × Nat), i ≤ s → s < i + m → szS M nr (nI s) < q.2 → (∀ v, i ≤ v → v < i + m → v ≠ s → pS M (nI v) own = true → okS M nn nr (nI v) = true → szS M nr (nI s) < szS M nr (nI v)) → (fld (stp M nn nr own) q i m).1 = nI s
  | 0, _, _, _, _, _, _ => by omega
  | m + 1, i, q, hi, hs, hq, h => by
    rw [fld_s]
    by_cases his : i = s
    · subst his
      have e : stp M nn nr own q i = (nI i, szS M nr (nI i)) := by
        unfold stp
        exact if_pos (by simp [h1, h2, hq])
      rw [e, fld_none m (i + 1) _ (fun v v1 v2 v3 v4 v5 => by
        have := h v (by omega) (by omega) (by omega) v3 v4
        have v6 : szS M nr (nI v) < szS M nr (nI i) := v5
        omega)]
    · refine fld_one h1 h2 m (i + 1) _ (by omega) (by omega) ?_ (fun v v1 v2 => h v (by omega) (by omega))
      unfold stp
      by_cases hc : (pS M (nI i) own && (decide (szS M nr (nI i) < q.2) && okS M nn nr (nI i))) = true
      · rw [if_pos hc]
        simp only [Bool.and_eq_true, decide_eq_true_eq] at hc
        exact h i (Nat.le_refl _) (by omega) his hc.1 hc.2.2
      · rw [if_neg hc]
        exact hq
theorem countP_lt2 {p q : Nat → Bool} {x : Nat} : ∀ (l : List Nat), (∀ r ∈ l, p r = true → q r = true) → x ∈ l → p x = false → q x = true → l.countP p < l.countP q
  | [], _, h, _, _ => absurd h List.not_mem_nil
  | a :: l, h, hx, h1, h2 => by
    have hle : l.countP p ≤ l.countP q := List.countP_mono_left (fun r hr => h r (List.mem_cons_of_mem _ hr))
    rw [List.countP_cons, List.countP_cons]
    by_cases ha : x = a
    · subst ha
      rw [if_neg (by rw [h1]; decide), if_pos h2]
      omega
    · have hm : x ∈ l := (List.mem_cons.mp hx).resolve_left ha
      have := countP_lt2 l (fun r hr => h r (List.mem_cons_of_mem _ hr)) hm h1 h2
      by_cases hp : p a = true
      · rw [if_pos hp, if_pos (h a List.mem_cons_self hp)]
        omega
      · rw [if_neg hp]
        omega
theorem mask_ext {M : St} {nr : Nat} {x y : Int32} (hx : ∀ j, j < 32 → (opn M nr).length ≤ j → bt x j = false) (hy : ∀ j, j < 32 → (opn M nr).length ≤ j → bt y j = false) (h : ∀ r ∈ opn M nr, pS M x r = pS M y r) : x = y := by
  refine b_ext fun j hj => ?_
  by_cases hl : j < (opn M nr).length
  · have hj2 : (opn M nr)[j]? = some (opn M nr)[j] := List.getElem?_eq_some_iff.mpr ⟨hl, rfl⟩
    have := h _ (List.mem_of_getElem? hj2)
    unfold pS at this
    rw [opn_pl hj2] at this
    exact this
  · rw [hx j hj (by omega), hy j hj (by omega)]
theorem vio_two {A B L U f g : Nat → Int32} {k a b : Nat} (ha : a < 2 ^ 31) (hb : b < 2 ^ 31) (e1 : A k = nI a) (e2 : B k = nI b) (h1 : f a = g a) (h2 : f b = g b) : vio f A B L U k = vio g A B L U k := by
  unfold vio
  rw [e1, e2, tn_nI ha, tn_nI hb, h1, h2]
def pvS (M : St) (nr : Nat) (y : Int32) : Nat → Int32 := plan (fun k => opB M k && pS M y k) (M.2 10) (M.2 11) (M.2 0) 0 nr
theorem pv_in {M : St} {np nn nf nr d p r : Nat} (hI : Inv M np nn nf nr d) (hp : p < np) (y : Int32) (hr : r ∈ opn M nr) (hr2 : M.2 10 r = nI p) (hy : pS M y r = true) : pvS M nr y p = M.2 11 r := by
  obtain ⟨⟨⟨-, hpp⟩, -⟩, -, i2, -, -, -, i6, -⟩ := hI
  have hr1 := mem_opn.mp hr
  have h := plan_in (P := fun k => opB M k && pS M y k) (pk := M.2 10) (tg := M.2 11) nr 0 (M.2 0) r (fun a b _ ha _ hb ha2 hb2 hab => by
    obtain ⟨pa, pa1, pa2⟩ := i2 a (by omega)
    obtain ⟨pb, pb1, pb2⟩ := i2 b (by omega)
    rw [pa2, pb2, tn_nI (by omega), tn_nI (by omega)] at hab
    simp only [Bool.and_eq_true] at ha2 hb2
    have a9 : M.2 9 a = 0 := by have := ha2.1; unfold opB at this; simpa using this
    have b9 : M.2 9 b = 0 := by have := hb2.1; unfold opB at this; simpa using this
    exact i6 a b (by omega) (by omega) a9 b9 (by rw [pa2, pb2, hab])) (Nat.zero_le _) (by omega) (by simp [opB, hr1.2, hy])
  rw [hr2, tn_nI (by omega)] at h
  exact h
theorem pv_out {M : St} {np nn nf nr d p : Nat} (hI : Inv M np nn nf nr d) (hp : p < np) (y : Int32) (hy : ∀ r ∈ opn M nr, M.2 10 r = nI p → pS M y r = false) : pvS M nr y p = M.2 0 p := by
  obtain ⟨⟨⟨-, hpp⟩, -⟩, -, i2, -⟩ := hI
  refine plan_out nr 0 (M.2 0) p fun k _ hk hk2 z => ?_
  simp only [Bool.and_eq_true] at hk2
  have k9 : M.2 9 k = 0 := by have := hk2.1; unfold opB at this; simpa using this
  obtain ⟨pk, pk1, pk2⟩ := i2 k (by omega)
  rw [pk2, tn_nI (by omega)] at z
  have := hy k (mem_opn.mpr ⟨by omega, k9⟩) (by rw [pk2, z])
  rw [hk2.2] at this
  cases this
theorem pv_same {M : St} {np nn nf nr d p : Nat} (hI : Inv M np nn nf nr d) (hp : p < np) {y v : Int32} (h : ∀ r ∈ opn M nr, M.2 10 r = nI p → pS M y r = pS M v r) : pvS M nr y p = pvS M nr v p := by
  by_cases hc : ∃ r, r ∈ opn M nr ∧ M.2 10 r = nI p ∧ pS M y r = true
  · obtain ⟨r, r1, r2, r3⟩ := hc
    rw [pv_in hI hp y r1 r2 r3, pv_in hI hp v r1 r2 (by rw [← h r r1 r2]; exact r3)]
  · have hn : ∀ r ∈ opn M nr, M.2 10 r = nI p → pS M y r = false := fun r r1 r2 => by
      cases hb : pS M y r with
      | false => rfl
      | true => exact absurd ⟨r, r1, r2, hb⟩ hc
    rw [pv_out hI hp y hn, pv_out hI hp v (fun r r1 r2 => by rw [← h r r1 r2]; exact hn r r1 r2)]
theorem opn_pk {M : St} {np nn nf nr d r q : Nat} (hI : Inv M np nn nf nr d) (hr : r ∈ opn M nr) (hq : q ∈ opn M nr) (h : M.2 10 r = M.2 10 q) : r = q := by
  obtain ⟨-, -, -, -, -, -, i6, -⟩ := hI
  exact i6 r q (mem_opn.mp hr).1 (mem_opn.mp hq).1 (mem_opn.mp hr).2 (mem_opn.mp hq).2 h
/-- whoever lets a need hold has what it asks for -/
theorem asks {M : St} {np nn nf nr d p q : Nat} (hI : Inv M np nn nf nr d) (hp : p < np) (hq : q < np) {y v : Int32} {V : (Nat → Int32) → Bool} (hV : ∀ f g, f p = g p → f q = g q → V f = V g) (h1 : V (pvS M nr y) = true) (h2 : V (pvS M nr v) = false) (h3 : V (M.2 0) = false) (hs : ∀ r ∈ opn M nr, pS M y r = true → pS M v r = true) {r : Nat} (hr : r ∈ opn M nr) (hr2 : M.2 10 r = nI p) : pS M v r = true := by
  cases hb : pS M v r with
  | true => rfl
  | false =>
    exfalso
    have hy : ∀ r' ∈ opn M nr, M.2 10 r' = nI p → pS M y r' = false ∧ pS M v r' = false := fun r' q1 q2 => by
      have e := opn_pk hI q1 hr (q2.trans hr2.symm)
      subst e
      refine ⟨?_, hb⟩
      cases hc : pS M y r' with
      | false => rfl
      | true => rw [hs r' hr hc] at hb; cases hb
    have ep : pvS M nr y p = M.2 0 p := pv_out hI hp y (fun r' q1 q2 => (hy r' q1 q2).1)
    have ep2 : pvS M nr y p = pvS M nr v p := pv_same hI hp (fun r' q1 q2 => by rw [(hy r' q1 q2).1, (hy r' q1 q2).2])
    by_cases hc : ∃ r', r' ∈ opn M nr ∧ M.2 10 r' = nI q ∧ pS M y r' ≠ pS M v r'
    · obtain ⟨r', q1, q2, q3⟩ := hc
      have hyr : pS M y r' = false := by
        cases hc : pS M y r' with
        | false => rfl
        | true => rw [hc, hs r' q1 hc] at q3; exact absurd rfl q3
      have eq : pvS M nr y q = M.2 0 q := pv_out hI hq y (fun r2 z1 z2 => by rw [opn_pk hI z1 q1 (z2.trans q2.symm)]; exact hyr)
      rw [hV _ _ ep eq, h3] at h1
      cases h1
    · have eq : pvS M nr y q = pvS M nr v q := pv_same hI hq (fun r' q1 q2 => by
        by_cases z : pS M y r' = pS M v r'
        · exact z
        · exact absurd ⟨r', q1, q2, z⟩ hc)
      rw [hV _ _ ep2 eq, h2] at h1
      cases h1
theorem b_bitP {B M : St} {np nn nf nr d : Nat} (h : Rel B M np nn nf nr d) (p : Nat) : ∃ x, f4_bitOfPackage B (nI p) = some (B, x) ∧ (∀ r ∈ opn M nr, pS M x r = true ↔ M.2 10 r = nI p) ∧ ∀ j, j < 32 → (opn M nr).length ≤ j → bt x j = false := by
  have h10 := h.ol.2.1
  have e9 : B.2 9 = M.2 10 := h.2.1.2.2.1.1
  rcases b_bitOfP_L h.ol (nI p) (opn M nr) 0 2000 rfl (Nat.zero_le _) (by omega) with ⟨j, r, -, j2, j3, j4⟩ | ⟨j1, j2⟩
  · have hj := (List.getElem?_eq_some_iff.mp j2).1
    rw [e9] at j3
    refine ⟨_, j4, fun q hq => ?_, fun i hi hi2 => by rw [b_pw j (by omega) hi]; simp; omega⟩
    have hqi := opn_idx (mem_opn.mp hq).1 (mem_opn.mp hq).2
    have hql := (List.getElem?_eq_some_iff.mp hqi).1
    unfold pS
    rw [b_pw j (by omega) (by omega), decide_eq_true_eq]
    constructor
    · intro z
      rw [z, j2] at hqi
      cases hqi
      exact j3
    · intro z
      have e := opn_pk h.1 hq (List.mem_of_getElem? j2) (z.trans j3.symm)
      rw [e]
      exact opn_pl j2
  · refine ⟨0, j2, fun q hq => ?_, fun i _ _ => b_0 i⟩
    have := j1 q hq
    rw [e9] at this
    unfold pS
    rw [b_0]
    exact ⟨fun z => absurd z (by decide), fun z => absurd z this⟩
theorem pS_or {M : St} (x y : Int32) (r : Nat) : pS M (x ||| y) r = (pS M x r || pS M y r) := b_or x y _
