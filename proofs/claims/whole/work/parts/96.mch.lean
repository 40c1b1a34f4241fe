/-! THE MACHINE: steps kept and lines noted, in rows -/
section
/-- one step kept -/
def sRl (R P a : Nat → Int32) (e j lj : Nat) : Prop :=
  kRel (fun l => P (31 * ((e + j) % 30) + l)) (P (31 * ((e + j) % 30) + 26)) (P (31 * ((e + j) % 30) + 27)) (P (31 * ((e + j) % 30) + 28)) (P (31 * ((e + j) % 30) + 29)) (fun i => a (525 + 91 * j + i)) ∧
  P (31 * ((e + j) % 30) + 30) = nI lj ∧ ∃ wj, a (525 + 91 * j + 4) = nI wj ∧ bRel R lj wj (fun i => a (525 + 91 * j + 31 + i))
/-- the machine, q lines having been noted at most since the last step -/
def mRq (B q : Nat) (m u R P a : Nat → Int32) : Prop :=
  kRel u (m 0) (m 2) (m 3) (m 4) (fun i => a (8 + i)) ∧
  ∃ lc wn k e : Nat, lc ≤ B ∧ m 6 = nI lc ∧ a 12 = nI wn ∧ bRel R lc wn (fun i => a (3255 + i)) ∧ (k ≤ 30 ∧ m 9 = nI k ∧ a 4 = nI k) ∧ (e < 30 ∧ m 8 = nI e) ∧
    ∃ lcs : Nat → Nat, lcs k = lc ∧ (∀ j, j < k → lcs j ≤ lcs (j + 1) ∧ lcs (j + 1) ≤ lcs j + if j + 1 = k then q else 2) ∧ ∀ j, j < k → sRl R P a e j (lcs j)
variable {B q : Nat} {m u R P a m2 u2 R2 P2 a2 : Nat → Int32}
theorem mRq_of {M : ev_Mem} {mc : Nat} (h : mRel B M mc a) : mRq B 2 (M.1 mc) (M.1 (mc + 1)) (M.1 (mc + 2)) (M.1 (mc + 3)) a := by
  obtain ⟨h0, lc, wn, k, e, h1, h2, h3, h4, h5, h6, lcs, h7, h8, h9⟩ := h
  exact ⟨h0, lc, wn, k, e, h1, h2, h3, h4, h5, h6, lcs, h7, fun j hj => ⟨(h8 j hj).1, by split <;> exact (h8 j hj).2⟩, h9⟩
theorem mRq_to {M : ev_Mem} {mc : Nat} (hq : q ≤ 2) (h : mRq B q (M.1 mc) (M.1 (mc + 1)) (M.1 (mc + 2)) (M.1 (mc + 3)) a) : mRel B M mc a := by
  obtain ⟨h0, lc, wn, k, e, h1, h2, h3, h4, h5, h6, lcs, h7, h8, h9⟩ := h
  refine ⟨h0, lc, wn, k, e, h1, h2, h3, h4, h5, h6, lcs, h7, fun j hj => ⟨(h8 j hj).1, ?_⟩, h9⟩
  have := (h8 j hj).2
  split at this <;> omega
theorem lRel_cq {j : Nat} {x y : Int32} (h0 : R2 (4 * j) = R (4 * j)) (h1 : R2 (4 * j + 1) = R (4 * j + 1)) (h2 : R2 (4 * j + 2) = R (4 * j + 2)) (h3 : R2 (4 * j + 3) = R (4 * j + 3)) (h : lRel R j x y) : lRel R2 j x y := by
  unfold lRel at h ⊢
  rw [h0, h1, h2, h3]; exact h
/-- the lines behind lj lines stay when line lc is noted -/
theorem bRel_nt {lj wj lc : Nat} {g : Nat → Int32} (h : bRel R lj wj g) (h1 : lj ≤ lc) (h2 : lc < lj + 60) (hR : ∀ i, i / 4 ≠ lc % 90 → R2 i = R i) : bRel R2 lj wj g := by
  obtain ⟨e, h⟩ := h
  refine ⟨e, fun i hi => lRel_cq (hR _ ?_) (hR _ ?_) (hR _ ?_) (hR _ ?_) (h i hi)⟩ <;> omega
theorem bRel_cq {lj wj : Nat} {g g2 : Nat → Int32} (h : bRel R lj wj g) (hR : ∀ i, i < 360 → R2 i = R i) (hg : ∀ i, i < 60 → g2 i = g i) : bRel R2 lj wj g2 := by
  obtain ⟨e, h⟩ := h
  refine ⟨e, fun i hi => ?_⟩
  rw [hg (2 * i) (by omega), hg (2 * i + 1) (by omega)]
  refine lRel_cq (hR _ ?_) (hR _ ?_) (hR _ ?_) (hR _ ?_) (h i hi) <;> omega
theorem kRel_cq {lo se da x lo2 se2 da2 x2 : Int32} {b b2 : Nat → Int32} (hu : ∀ l, l < 26 → u2 l = u l) (h1 : lo2 = lo) (h2 : se2 = se) (h3 : da2 = da) (h4 : x2 = x) (hb : ∀ i, i < 31 → i ≠ 4 → b2 i = b i) (h : kRel u lo se da x b) : kRel u2 lo2 se2 da2 x2 b2 := by
  obtain ⟨k1, k2, k3, k4, k5⟩ := h
  rw [h1, h2, h3, h4]
  refine ⟨fun l hl => ?_, ?_, ?_, ?_, ?_⟩
  · rw [hu l hl, hb (5 + l) (by omega) (by omega)]; exact k1 l hl
  · rw [hb 1 (by omega) (by omega)]; exact k2
  · rw [hb 2 (by omega) (by omega)]; exact k3
  · rw [hb 0 (by omega) (by omega)]; exact k4
  · rw [hb 3 (by omega) (by omega)]; exact k5
/-- a step, its place and number changed -/
theorem sRl_cq {e j lj e2 j2 : Nat} (h : sRl R P a e j lj) (hR : bRel R lj ((a (525 + 91 * j + 4)).toNatClampNeg) (fun i => a (525 + 91 * j + 31 + i)) → bRel R2 lj ((a (525 + 91 * j + 4)).toNatClampNeg) (fun i => a (525 + 91 * j + 31 + i))) (hP : ∀ i, i < 31 → P2 (31 * ((e2 + j2) % 30) + i) = P (31 * ((e + j) % 30) + i)) (ha : ∀ i, i < 91 → a2 (525 + 91 * j2 + i) = a (525 + 91 * j + i)) : sRl R2 P2 a2 e2 j2 lj := by
  obtain ⟨h1, h2, wj, h3, h4⟩ := h
  have hw : wj ≤ 30 := by have := h4.1; omega
  have h3' : a (525 + 91 * j + 4) = nI wj := h3
  rw [h3', nI_clamp (by omega)] at hR
  refine ⟨kRel_cq (fun l hl => hP l (by omega)) (hP 26 (by omega)) (hP 27 (by omega)) (hP 28 (by omega)) (hP 29 (by omega)) (fun i hi _ => ha i (by omega)) h1, by rw [hP 30 (by omega)]; exact h2, wj, by rw [ha 4 (by omega)]; exact h3, ?_⟩
  refine bRel_cq (hR h4) (fun _ _ => rfl) (fun i hi => ?_)
  have := ha (31 + i) (by omega)
  rw [← Nat.add_assoc, ← Nat.add_assoc] at this
  exact this
theorem kq_ex (h : mRq B q m u R P a) : ∃ k e lc wn, k ≤ 30 ∧ m 9 = nI k ∧ a 4 = nI k ∧ e < 30 ∧ m 8 = nI e ∧ lc ≤ B ∧ m 6 = nI lc ∧ a 12 = nI wn ∧ wn = min lc 30 := by
  obtain ⟨h0, lc, wn, k, e, h1, h2, h3, h4, h5, h6, -⟩ := h
  exact ⟨k, e, lc, wn, h5.1, h5.2.1, h5.2.2, h6.1, h6.2, h1, h2, h3, h4.1⟩
theorem kq_k (h : mRq B q m u R P a) : kRel u (m 0) (m 2) (m 3) (m 4) (fun i => a (8 + i)) := h.1
/-- what the machine shows changes, no step and no line -/
theorem mq_st (h : mRq B q m u R P a) (hk : kRel u2 (m2 0) (m2 2) (m2 3) (m2 4) (fun i => a2 (8 + i))) (hm : m2 6 = m 6 ∧ m2 8 = m 8 ∧ m2 9 = m 9) (h4 : a2 4 = a 4) (h12 : a2 12 = a 12) (ha : ∀ i, 525 ≤ i → a2 i = a i) : mRq B q m2 u2 R P a2 := by
  obtain ⟨h0, lc, wn, k, e, h1, h2, h3, h5, h6, h7, lcs, h8, h9, h10⟩ := h
  refine ⟨hk, lc, wn, k, e, h1, by rw [hm.1]; exact h2, by rw [h12]; exact h3, bRel_cq h5 (fun _ _ => rfl) (fun i _ => ha _ (by omega)), ⟨h6.1, by rw [hm.2.2]; exact h6.2.1, by rw [h4]; exact h6.2.2⟩, ⟨h7.1, by rw [hm.2.1]; exact h7.2⟩, lcs, h8, h9, fun j hj => sRl_cq (h10 j hj) id (fun _ _ => rfl) (fun i _ => ha _ (by omega))⟩
/-- rows that are alike where they are read -/
theorem mq_cg (h : mRq B q m u R P a) (hm : ∀ j, j < 10 → j ≠ 1 → j ≠ 5 → j ≠ 7 → m2 j = m j) (hu : ∀ l, l < 26 → u2 l = u l) (hR : ∀ i, i < 360 → R2 i = R i) (hP : ∀ i, i < 930 → P2 i = P i) (ha : ∀ i, i < 3315 → a2 i = a i) : mRq B q m2 u2 R2 P2 a2 := by
  obtain ⟨h0, lc, wn, k, e, h1, h2, h3, h5, h6, h7, lcs, h8, h9, h10⟩ := h
  refine ⟨kRel_cq hu (hm 0 (by omega) (by omega) (by omega) (by omega)) (hm 2 (by omega) (by omega) (by omega) (by omega)) (hm 3 (by omega) (by omega) (by omega) (by omega)) (hm 4 (by omega) (by omega) (by omega) (by omega)) (fun i hi _ => ha _ (by omega)) h0, lc, wn, k, e, h1, by rw [hm 6 (by omega) (by omega) (by omega) (by omega)]; exact h2, by rw [ha 12 (by omega)]; exact h3, bRel_cq h5 hR (fun i hi => ha _ (by omega)), ⟨h6.1, by rw [hm 9 (by omega) (by omega) (by omega) (by omega)]; exact h6.2.1, by rw [ha 4 (by omega)]; exact h6.2.2⟩, ⟨h7.1, by rw [hm 8 (by omega) (by omega) (by omega) (by omega)]; exact h7.2⟩, lcs, h8, h9, fun j hj => sRl_cq (h10 j hj) (fun z => bRel_cq z hR (fun _ _ => rfl)) (fun i hi => hP _ ?_) (fun i hi => ha _ (by omega))⟩
  omega
/-- the model keeps a step -/
def keA (a : Nat → Int32) (k : Nat) : Nat → Int32 := fun i =>
  if i = 4 then nI (min (k + 1) 30)
  else if 525 + 91 * min k 29 ≤ i ∧ i < 525 + 91 * min k 29 + 31 then a (8 + (i - (525 + 91 * min k 29)))
  else if 525 + 91 * min k 29 + 31 ≤ i ∧ i < 525 + 91 * min k 29 + 91 then a (3255 + (i - (525 + 91 * min k 29 + 31)))
  else if k = 30 ∧ 525 ≤ i ∧ i < 3164 then a (i + 91) else a i
theorem keA_4 {k : Nat} : keA a k 4 = nI (min (k + 1) 30) := if_pos rfl
theorem keA_lo {k i : Nat} (h : i ≠ 4) (h2 : i < 525 ∨ 3255 ≤ i) : keA a k i = a i := by
  unfold keA
  rw [if_neg h, if_neg (by omega), if_neg (by omega), if_neg (by omega)]
theorem keA_x {k i : Nat} (h : i < 31) : keA a k (525 + 91 * min k 29 + i) = a (8 + i) := by
  unfold keA
  rw [if_neg (by omega), if_pos (by omega), Nat.add_sub_cancel_left]
theorem keA_y {k i : Nat} (h : i < 60) : keA a k (525 + 91 * min k 29 + 31 + i) = a (3255 + i) := by
  unfold keA
  rw [if_neg (by omega), if_neg (by omega), if_pos (by omega), Nat.add_sub_cancel_left]
theorem keA_j {k j i : Nat} (hj : j < min k 29) (hi : i < 91) : keA a k (525 + 91 * j + i) = a (525 + 91 * (if k = 30 then j + 1 else j) + i) := by
  unfold keA
  rw [if_neg (by omega), if_neg (by omega), if_neg (by omega)]
  by_cases e : k = 30
  · rw [if_pos (by omega), if_pos e]
    congr 1; omega
  · rw [if_neg (by omega), if_neg e]
/-- a step is marked: the class's rows behind it -/
def mkO (m u P m2 P2 : Nat → Int32) (k e : Nat) : Prop := (∀ j, j ≠ 8 → j ≠ 9 → m2 j = m j) ∧ m2 9 = nI (min (k + 1) 30) ∧ m2 8 = nI (if k = 30 then (e + 1) % 30 else e) ∧ (∀ i, i < 31 * ((e + k) % 30) ∨ 31 * ((e + k) % 30) + 31 ≤ i → P2 i = P i) ∧ (∀ l, l < 26 → P2 (31 * ((e + k) % 30) + l) = u l) ∧ P2 (31 * ((e + k) % 30) + 26) = m 0 ∧ P2 (31 * ((e + k) % 30) + 27) = m 2 ∧ P2 (31 * ((e + k) % 30) + 28) = m 3 ∧ P2 (31 * ((e + k) % 30) + 29) = m 4 ∧ P2 (31 * ((e + k) % 30) + 30) = m 6
theorem mq_keep {k e : Nat} (h : mRq B 2 m u R P a) (hk : k ≤ 30) (hk2 : m 9 = nI k) (he : e < 30) (he2 : m 8 = nI e) (ho : mkO m u P m2 P2 k e) : mRq B 0 m2 u R P2 (keA a k) := by
  obtain ⟨h0, lc, wn, k', e', h1, h2, h3, h5, h6, h7, lcs, h8, h9, h10⟩ := h
  have ek : k' = k := (nI_eq (by omega) (by omega)).mp (h6.2.1.symm.trans hk2)
  have ee : e' = e := (nI_eq (by omega) (by omega)).mp (h7.2.symm.trans he2)
  subst ek; subst ee
  obtain ⟨o1, o2, o3, o4, o5, o6, o7, o8, o9, o10⟩ := ho
  have hnew : ∀ e2 j2, (e2 + j2) % 30 = (e' + k') % 30 → j2 = min k' 29 → sRl R P2 (keA a k') e2 j2 lc := by
    intro e2 j2 q1 q2
    subst q2
    unfold sRl
    rw [q1]
    refine ⟨kRel_cq (fun l hl => o5 l hl) o6 o7 o8 o9 (fun i hi _ => keA_x hi) h0, by rw [o10]; exact h2, wn, by rw [keA_x (i := 4) (by omega)]; exact h3, bRel_cq h5 (fun _ _ => rfl) (fun i hi => keA_y hi)⟩
  by_cases h30 : k' = 30
  · subst h30
    refine ⟨kRel_cq (fun _ _ => rfl) (o1 0 (by omega) (by omega)) (o1 2 (by omega) (by omega)) (o1 3 (by omega) (by omega)) (o1 4 (by omega) (by omega)) (fun i hi _ => keA_lo (by omega) (by omega)) h0, lc, wn, 30, (e' + 1) % 30, h1, by rw [o1 6 (by omega) (by omega)]; exact h2, by rw [keA_lo (by omega) (by omega)]; exact h3, bRel_cq h5 (fun _ _ => rfl) (fun i hi => keA_lo (by omega) (by omega)), ⟨by omega, o2, keA_4⟩, ⟨by omega, by rw [o3, if_pos rfl]⟩, fun j => if j = 30 then lc else lcs (j + 1), if_pos rfl, fun j hj => ?_, fun j hj => ?_⟩
    · show (if j = 30 then lc else lcs (j + 1)) ≤ (if j + 1 = 30 then lc else lcs (j + 1 + 1)) ∧ (if j + 1 = 30 then lc else lcs (j + 1 + 1)) ≤ (if j = 30 then lc else lcs (j + 1)) + (if j + 1 = 30 then 0 else 2)
      rw [if_neg (by omega : ¬ j = 30)]
      by_cases z : j + 1 = 30
      · rw [if_pos z, if_pos z, z, h8]; omega
      · rw [if_neg z, if_neg z]
        have := h9 (j + 1) (by omega)
        refine ⟨this.1, ?_⟩
        have := this.2
        split at this <;> omega
    · show sRl R P2 (keA a 30) ((e' + 1) % 30) j (if j = 30 then lc else lcs (j + 1))
      rw [if_neg (by omega : ¬ j = 30)]
      by_cases z : j = 29
      · subst z
        show sRl R P2 (keA a 30) ((e' + 1) % 30) 29 (lcs 30)
        rw [h8]
        exact hnew _ _ (by omega) (by omega)
      · refine sRl_cq (h10 (j + 1) (by omega)) id (fun i hi => ?_) (fun i hi => ?_)
        · rw [show ((e' + 1) % 30 + j) % 30 = (e' + (j + 1)) % 30 by omega]
          exact o4 _ (by omega)
        · rw [keA_j (by omega) hi, if_pos rfl]
  · have hk29 : min k' 29 = k' := by omega
    refine ⟨kRel_cq (fun _ _ => rfl) (o1 0 (by omega) (by omega)) (o1 2 (by omega) (by omega)) (o1 3 (by omega) (by omega)) (o1 4 (by omega) (by omega)) (fun i hi _ => keA_lo (by omega) (by omega)) h0, lc, wn, k' + 1, e', h1, by rw [o1 6 (by omega) (by omega)]; exact h2, by rw [keA_lo (by omega) (by omega)]; exact h3, bRel_cq h5 (fun _ _ => rfl) (fun i hi => keA_lo (by omega) (by omega)), ⟨by omega, by rw [o2]; congr 1; omega, by rw [keA_4]; congr 1; omega⟩, ⟨he, by rw [o3, if_neg h30]⟩, fun j => if j = k' + 1 then lc else lcs j, if_pos rfl, fun j hj => ?_, fun j hj => ?_⟩
    · show (if j = k' + 1 then lc else lcs j) ≤ (if j + 1 = k' + 1 then lc else lcs (j + 1)) ∧ (if j + 1 = k' + 1 then lc else lcs (j + 1)) ≤ (if j = k' + 1 then lc else lcs j) + (if j + 1 = k' + 1 then 0 else 2)
      rw [if_neg (by omega : ¬ j = k' + 1)]
      by_cases z : j = k'
      · subst z
        rw [if_pos rfl, if_pos rfl, h8]; omega
      · rw [if_neg (by omega : ¬ j + 1 = k' + 1), if_neg (by omega : ¬ j + 1 = k' + 1)]
        have := h9 j (by omega)
        refine ⟨this.1, ?_⟩
        have := this.2
        split at this <;> omega
    · show sRl R P2 (keA a k') e' j (if j = k' + 1 then lc else lcs j)
      rw [if_neg (by omega : ¬ j = k' + 1)]
      by_cases z : j = k'
      · subst z
        rw [h8]
        exact hnew _ _ rfl (by omega)
      · refine sRl_cq (h10 j (by omega)) id (fun i hi => o4 _ (by omega)) (fun i hi => ?_)
        rw [keA_j (by omega) hi, if_neg h30]
end
