/-! the lowest number at which a cost is least, and the costs along a sentence -/
section
variable {d : Nat} {N : ev_Mem}
def FARn : Nat := 1000000
/-- the lowest of the first n at which f is least, below FAR -/
def bst (f : Nat → Nat) : Nat → Option Nat
  | 0 => none
  | n + 1 => match bst f n with
    | none => if f n < FARn then some n else none
    | some m => if f n < f m then some n else some m
theorem bst_lt {f : Nat → Nat} : ∀ {n m : Nat}, bst f n = some m → m < n ∧ f m < FARn
  | 0, m, h => by cases h
  | n + 1, m, h => by
    rw [bst] at h
    cases e : bst f n with
    | none =>
      rw [e] at h
      simp only at h
      split at h
      · cases h; exact ⟨by omega, by assumption⟩
      · cases h
    | some k =>
      rw [e] at h
      simp only at h
      have := bst_lt e
      split at h
      · cases h; exact ⟨by omega, by omega⟩
      · cases h; exact ⟨by omega, this.2⟩
theorem bst_cong {f g : Nat → Nat} : ∀ {n : Nat}, (∀ i, i < n → f i = g i) → bst f n = bst g n
  | 0, _ => rfl
  | n + 1, h => by
    rw [bst, bst, bst_cong (fun i hi => h i (by omega))]
    cases e : bst g n with
    | none => simp only; rw [h n (by omega)]
    | some k =>
      simp only
      have := (bst_lt e).1
      rw [h n (by omega), h k (by omega)]
/-- the value there; FAR if there is none -/
def bsv (f : Nat → Nat) (n : Nat) : Nat := match bst f n with
  | none => FARn
  | some m => f m
theorem bsv_s (f : Nat → Nat) (n : Nat) : bsv f (n + 1) = if f n < bsv f n then f n else bsv f n := by
  unfold bsv
  rw [bst]
  cases e : bst f n with
  | none =>
    simp only
    by_cases h : f n < FARn
    · rw [if_pos h, if_pos h]
    · rw [if_neg h, if_neg h]
  | some k =>
    simp only
    by_cases h : f n < f k
    · rw [if_pos h, if_pos h]
    · rw [if_neg h, if_neg h]
theorem bsv_le {f : Nat → Nat} : ∀ {n : Nat}, bsv f n ≤ FARn ∧ ∀ i, i < n → bsv f n ≤ f i
  | 0 => ⟨Nat.le_refl _, fun i h => absurd h (by omega)⟩
  | n + 1 => by
    obtain ⟨h1, h2⟩ := bsv_le (f := f) (n := n)
    rw [bsv_s]
    split
    · refine ⟨by omega, fun i hi => ?_⟩
      rcases Nat.lt_or_ge i n with q | q
      · have := h2 i q; omega
      · rw [show i = n by omega]; exact Nat.le_refl _
    · refine ⟨h1, fun i hi => ?_⟩
      rcases Nat.lt_or_ge i n with q | q
      · exact h2 i q
      · rw [show i = n by omega]; omega
theorem bsv_at {f : Nat → Nat} {n : Nat} (h : bsv f n < FARn) : ∃ m, bst f n = some m ∧ f m = bsv f n := by
  unfold bsv at h ⊢
  cases e : bst f n with
  | none => rw [e] at h; exact absurd h (by simp)
  | some m => exact ⟨m, rfl, rfl⟩
theorem bsv_none {f : Nat → Nat} {n : Nat} (h : bst f n = none) : bsv f n = FARn := by unfold bsv; rw [h]
theorem bsv_some {f : Nat → Nat} {n m : Nat} (h : bst f n = some m) : bsv f n = f m := by unfold bsv; rw [h]
/-- two words one behind the other -/
def btw (kd : Nat → Int32) (w v : Nat) : Nat := if w = v then 3 else if kd w = 2 ∧ kd v = 2 then 1 else 0
theorem btw_le {kd : Nat → Int32} {w v : Nat} : btw kd w v ≤ 3 := by unfold btw; split; omega; split <;> omega
theorem btw_sy {kd : Nat → Int32} {w v : Nat} : btw kd w v = btw kd v w := by
  unfold btw
  by_cases h : w = v
  · rw [if_pos h, if_pos h.symm]
  · rw [if_neg h, if_neg (Ne.symm h)]
    by_cases h2 : kd w = 2 ∧ kd v = 2
    · rw [if_pos h2, if_pos ⟨h2.2, h2.1⟩]
    · rw [if_neg h2, if_neg (fun z => h2 ⟨z.2, z.1⟩)]
theorem bhd_btw {kd : Nat → Int32} {w v : Nat} (hw : w < 24) (hv : v < 24) : bhd (kd w) (kd v) (nI w) (nI v) = nI (btw kd w v) := by
  unfold bhd btw
  by_cases h : w = v
  · rw [if_pos (by rw [h]), if_pos h]; rfl
  · rw [if_neg (fun z => h ((nI_eq (by omega) (by omega)).mp z)), if_neg h]
    by_cases h2 : kd w = 2 ∧ kd v = 2
    · rw [if_pos h2, if_pos h2]; rfl
    · rw [if_neg h2, if_neg h2]; rfl
/-- what it costs to say the senses l, the first of them by word w: sn the words' stiffness (FAR: it can't be), se their senses, W words -/
def cst (kd se : Nat → Int32) (sn : Nat → Nat) (W : Nat) : List Int32 → Nat → Nat
  | [], _ => FARn
  | [s], w => if se w = s ∧ sn w < FARn then sn w else FARn
  | s :: s2 :: l, w => if se w = s ∧ sn w < FARn then (if bsv (fun v => cst kd se sn W (s2 :: l) v + btw kd w v) W < FARn then sn w + bsv (fun v => cst kd se sn W (s2 :: l) v + btw kd w v) W else FARn) else FARn
def atQ (N : ev_Mem) (x y z : Int32) : Bool := atN N x.toNatClampNeg y.toNatClampNeg z.toNatClampNeg
theorem qX11_isAt {x y z : Int32} (h : vp_in x 8 ∧ vp_in y 5 ∧ vp_in z 24) : Cl LM (d + 1) mX11_isAt [.ref 0, .int x, .int y, .int z] N (ev_R (some (.int (bi (atQ N x y z)))) N) := by
  obtain ⟨s, hs, rfl⟩ := vp_in_of h.1 (by omega)
  obtain ⟨p, hp, rfl⟩ := vp_in_of h.2.1 (by omega)
  obtain ⟨w, hw, rfl⟩ := vp_in_of h.2.2 (by omega)
  unfold atQ
  rw [nI_clamp (by omega), nI_clamp (by omega), nI_clamp (by omega)]
  exact kX11_isAt hs hp hw
theorem qX11_behind {x y : Int32} (h : vp_in x 24 ∧ vp_in y 24) : Cl LM (d + 1) mX11_behind [.ref 0, .int x, .int y] N (ev_R (some (.int (bhd (N.1 1 (39 + 13 * x + 0).toNatClampNeg) (N.1 1 (39 + 13 * y + 0).toNatClampNeg) x y))) N) := by
  obtain ⟨w, hw, rfl⟩ := vp_in_of h.1 (by omega)
  obtain ⟨v, hv, rfl⟩ := vp_in_of h.2 (by omega)
  rw [aw0 hw, aw0 hv]
  exact kX11_behind hw hv
end
