/-! THE MACHINE: a line noted, a step taken back -/
section
variable {B q : Nat} {m u R P a m2 u2 R2 P2 a2 : Nat → Int32}
/-- the model notes a line -/
def noA (a : Nat → Int32) (wn : Nat) (v : Int32) : Nat → Int32 := fun i =>
  if i = 12 then nI (min (wn + 1) 30)
  else if i = 3255 + 2 * min wn 29 then a 8
  else if i = 3255 + 2 * min wn 29 + 1 then v
  else if wn = 30 ∧ 3255 ≤ i ∧ i < 3313 then a (i + 2) else a i
theorem noA_12 {wn : Nat} {v : Int32} : noA a wn v 12 = nI (min (wn + 1) 30) := if_pos rfl
theorem noA_lo {wn i : Nat} {v : Int32} (h : i ≠ 12) (h2 : i < 3255 ∨ 3315 ≤ i) : noA a wn v i = a i := by
  unfold noA
  rw [if_neg h, if_neg (by omega), if_neg (by omega), if_neg (by omega)]
theorem noA_x {wn : Nat} {v : Int32} : noA a wn v (3255 + 2 * min wn 29) = a 8 := by
  unfold noA
  rw [if_neg (by omega), if_pos rfl]
theorem noA_y {wn : Nat} {v : Int32} : noA a wn v (3255 + (2 * min wn 29 + 1)) = v := by
  unfold noA
  rw [if_neg (by omega), if_neg (by omega), if_pos (by omega)]
theorem noA_i {wn i : Nat} {v : Int32} (hi : i < 2 * min wn 29) : noA a wn v (3255 + i) = a (3255 + (if wn = 30 then i + 2 else i)) := by
  unfold noA
  rw [if_neg (by omega), if_neg (by omega), if_neg (by omega)]
  by_cases e : wn = 30
  · rw [if_pos (by omega), if_pos e]; rfl
  · rw [if_neg (by omega), if_neg e]
/-- a line is noted: the class's rows behind it -/
def ntO (m R m2 R2 : Nat → Int32) (lc : Nat) (x1 x2 x3 : Int32) : Prop := (∀ j, j ≠ 6 → m2 j = m j) ∧ m2 6 = nI (lc + 1) ∧ (∀ i, i / 4 ≠ lc % 90 → R2 i = R i) ∧ R2 (4 * (lc % 90)) = m 3 ∧ R2 (4 * (lc % 90) + 1) = x1 ∧ R2 (4 * (lc % 90) + 2) = x2 ∧ R2 (4 * (lc % 90) + 3) = x3
theorem lcs_up {lcs : Nat → Nat} {k : Nat} (h : ∀ j, j < k → lcs j ≤ lcs (j + 1) ∧ lcs (j + 1) ≤ lcs j + if j + 1 = k then q else 2) (hq : q ≤ 1) : ∀ i j, j + i + 1 = k → lcs j ≤ lcs k ∧ lcs k ≤ lcs j + 2 * i + q
  | 0, j, e => by
    have := h j (by omega)
    rw [if_pos (by omega), show j + 1 = k by omega] at this
    omega
  | i + 1, j, e => by
    have h1 := h j (by omega)
    rw [if_neg (by omega)] at h1
    have h2 := lcs_up h hq i (j + 1) (by omega)
    omega
theorem mq_note {lc wn p w y : Nat} {x1 x2 x3 v : Int32} (h : mRq B q m u R P a) (hq : q ≤ 1) (hB : B < 2 ^ 30) (hl : m 6 = nI lc) (hl2 : lc < 2 ^ 31) (hw : a 12 = nI wn) (hw2 : wn ≤ 30) (hp : p ≤ 25) (hw3 : w ≤ 2) (hy : y ≤ 9999) (e1 : x1 = nI p) (e2 : x2 = nI w) (e3 : x3 = nI y) (ev : v = nI ((p * 4 + w) * 10000 + y)) (ho : ntO m R m2 R2 lc x1 x2 x3) : mRq (B + 1) (q + 1) m2 u R2 P (noA a wn v) := by
  obtain ⟨h0, lc', wn', k, e, h1, h2, h3, h5, h6, h7, lcs, h8, h9, h10⟩ := h
  have elc : lc' = lc := (nI_eq (by omega) (by omega)).mp (h2.symm.trans hl)
  have ewn : wn' = wn := (nI_eq (by have := h5.1; omega) (by omega)).mp (h3.symm.trans hw)
  subst elc; subst ewn
  obtain ⟨o1, o2, o3, o4, o5, o6, o7⟩ := ho
  have hday : upto (a 8) 9999 := h0.2.2.2.1.2
  have ed : m 3 = a 8 := h0.2.2.2.1.1
  refine ⟨kRel_cq (fun _ _ => rfl) (o1 0 (by omega)) (o1 2 (by omega)) (o1 3 (by omega)) (o1 4 (by omega)) (fun i hi h4 => noA_lo (by omega) (by omega)) h0, lc' + 1, min (wn' + 1) 30, k, e, by omega, o2, noA_12, ?_, ⟨h6.1, by rw [o1 9 (by omega)]; exact h6.2.1, by rw [noA_lo (by omega) (by omega)]; exact h6.2.2⟩, ⟨h7.1, by rw [o1 8 (by omega)]; exact h7.2⟩, fun j => if j = k then lc' + 1 else lcs j, if_pos rfl, fun j hj => ?_, fun j hj => ?_⟩
  · have ew := h5.1
    refine ⟨by omega, fun i hi => ?_⟩
    by_cases z : i = min wn' 29
    · subst z
      rw [show (lc' + 1 - min (wn' + 1) 30 + min wn' 29) % 90 = lc' % 90 by omega]
      show lRel R2 (lc' % 90) (noA a wn' v (3255 + 2 * min wn' 29)) (noA a wn' v (3255 + (2 * min wn' 29 + 1)))
      rw [noA_x, noA_y]
      exact ⟨by rw [o4, ed], hday, p, w, y, hp, hw3, hy, by rw [o5, e1], by rw [o6, e2], by rw [o7, e3], ev⟩
    · have key := h5.2 (if wn' = 30 then i + 1 else i) (by split <;> omega)
      have ep : (lc' + 1 - min (wn' + 1) 30 + i) % 90 = (lc' - wn' + (if wn' = 30 then i + 1 else i)) % 90 := by split <;> omega
      show lRel R2 ((lc' + 1 - min (wn' + 1) 30 + i) % 90) (noA a wn' v (3255 + 2 * i)) (noA a wn' v (3255 + (2 * i + 1)))
      rw [noA_i (by omega), noA_i (by omega), ep]
      have g1 : (if wn' = 30 then 2 * i + 2 else 2 * i) = 2 * (if wn' = 30 then i + 1 else i) := by split <;> omega
      have g2 : (if wn' = 30 then 2 * i + 1 + 2 else 2 * i + 1) = 2 * (if wn' = 30 then i + 1 else i) + 1 := by split <;> omega
      rw [g1, g2]
      have hne : (lc' - wn' + (if wn' = 30 then i + 1 else i)) % 90 ≠ lc' % 90 := by split <;> omega
      exact lRel_cq (o3 _ (by omega)) (o3 _ (by omega)) (o3 _ (by omega)) (o3 _ (by omega)) key
  · show (if j = k then lc' + 1 else lcs j) ≤ (if j + 1 = k then lc' + 1 else lcs (j + 1)) ∧ (if j + 1 = k then lc' + 1 else lcs (j + 1)) ≤ (if j = k then lc' + 1 else lcs j) + (if j + 1 = k then q + 1 else 2)
    rw [if_neg (by omega : ¬ j = k)]
    have := h9 j hj
    by_cases z : j + 1 = k
    · rw [if_pos z, if_pos z]
      rw [if_pos z, z, h8] at this
      omega
    · rw [if_neg z, if_neg z]
      rw [if_neg z] at this
      exact this
  · show sRl R2 P (noA a wn' v) e j (if j = k then lc' + 1 else lcs j)
    rw [if_neg (by omega : ¬ j = k)]
    have hb := lcs_up h9 hq (k - j - 1) j (by omega)
    rw [h8] at hb
    refine sRl_cq (h10 j hj) (fun z => bRel_nt z hb.1 (by omega) o3) (fun _ _ => rfl) (fun i hi => noA_lo (by omega) (by omega))
/-- the model takes a step back -/
def unA (a : Nat → Int32) (k : Nat) : Nat → Int32 := fun i =>
  if i = 4 then nI (k - 1)
  else if 8 ≤ i ∧ i < 39 then a (525 + 91 * (k - 1) + (i - 8))
  else if 3255 ≤ i ∧ i < 3315 then a (525 + 91 * (k - 1) + 31 + (i - 3255)) else a i
theorem unA_4 {k : Nat} : unA a k 4 = nI (k - 1) := if_pos rfl
theorem unA_lo {k i : Nat} (h : i ≠ 4) (h2 : i < 8 ∨ (39 ≤ i ∧ i < 3255) ∨ 3315 ≤ i) : unA a k i = a i := by
  unfold unA
  rw [if_neg h, if_neg (by omega), if_neg (by omega)]
theorem unA_x {k i : Nat} (h : i < 31) : unA a k (8 + i) = a (525 + 91 * (k - 1) + i) := by
  unfold unA
  rw [if_neg (by omega), if_pos (by omega), Nat.add_sub_cancel_left]
theorem unA_y {k i : Nat} (h : i < 60) : unA a k (3255 + i) = a (525 + 91 * (k - 1) + 31 + i) := by
  unfold unA
  rw [if_neg (by omega), if_neg (by omega), if_pos (by omega), Nat.add_sub_cancel_left]
def bkO (m P m2 u2 : Nat → Int32) (k e : Nat) : Prop := m2 9 = nI (k - 1) ∧ m2 8 = m 8 ∧ (∀ l, l < 26 → u2 l = P (31 * ((e + (k - 1)) % 30) + l)) ∧ m2 0 = P (31 * ((e + (k - 1)) % 30) + 26) ∧ m2 2 = P (31 * ((e + (k - 1)) % 30) + 27) ∧ m2 3 = P (31 * ((e + (k - 1)) % 30) + 28) ∧ m2 4 = P (31 * ((e + (k - 1)) % 30) + 29) ∧ m2 6 = P (31 * ((e + (k - 1)) % 30) + 30)
theorem mq_undo {k e : Nat} (h : mRq B 2 m u R P a) (hk0 : 1 ≤ k) (hk : k ≤ 30) (hk2 : m 9 = nI k) (he : e < 30) (he2 : m 8 = nI e) (ho : bkO m P m2 u2 k e) : mRq B 2 m2 u2 R P (unA a k) := by
  obtain ⟨h0, lc, wn, k', e', h1, h2, h3, h5, h6, h7, lcs, h8, h9, h10⟩ := h
  have ek : k' = k := (nI_eq (by omega) (by omega)).mp (h6.2.1.symm.trans hk2)
  have ee : e' = e := (nI_eq (by omega) (by omega)).mp (h7.2.symm.trans he2)
  subst ek; subst ee
  obtain ⟨o1, o2, o3, o4, o5, o6, o7, o8⟩ := ho
  obtain ⟨s1, s2, wj, s3, s4⟩ := h10 (k' - 1) (by omega)
  have hlt := h9 (k' - 1) (by omega)
  rw [show k' - 1 + 1 = k' by omega, h8] at hlt
  refine ⟨kRel_cq o3 o4 o5 o6 o7 (fun i hi _ => unA_x hi) s1, lcs (k' - 1), wj, k' - 1, e', by omega, by rw [o8]; exact s2, by rw [unA_x (i := 4) (by omega)]; exact s3, bRel_cq s4 (fun _ _ => rfl) (fun i hi => unA_y hi), ⟨by omega, o1, unA_4⟩, ⟨he, by rw [o2]; exact he2⟩, lcs, rfl, fun j hj => ?_, fun j hj => ?_⟩
  · have := h9 j (by omega)
    refine ⟨this.1, ?_⟩
    have := this.2
    split at this <;> split <;> omega
  · exact sRl_cq (h10 j (by omega)) id (fun _ _ => rfl) (fun i hi => unA_lo (by omega) (by omega))
end
