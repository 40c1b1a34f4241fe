/-! contracts: the dictionary's and the sound's small ones, the model's small ones -/
section
variable {d : Nat} {M : ev_Mem}
/-- how many of the first n letters are in a set -/
def hol (f : Nat → Int32) (s : Int32) : Nat → Nat
  | 0 => 0
  | n + 1 => hol f s n + (if hs s (f n) = true then 1 else 0)
theorem hol_le (f : Nat → Int32) (s : Int32) : ∀ n, hol f s n ≤ n
  | 0 => Nat.le_refl 0
  | n + 1 => by have := hol_le f s n; unfold hol; split <;> omega
theorem hol_yes {f : Nat → Int32} {s : Int32} {n : Nat} (h : hs s (f n) = true) : hol f s (n + 1) = hol f s n + 1 := by rw [hol, if_pos h]
theorem hol_no {f : Nat → Int32} {s : Int32} {n : Nat} (h : hs s (f n) = false) : hol f s (n + 1) = hol f s n := by rw [hol, if_neg (by rw [h]; decide)]; rfl
theorem hol_cong {f g : Nat → Int32} {s : Int32} : ∀ {n : Nat}, (∀ i, i < n → f i = g i) → hol f s n = hol g s n
  | 0, _ => rfl
  | n + 1, h => by rw [hol, hol, hol_cong (fun i hi => h i (by omega)), h n (by omega)]
theorem kX5_holesOf {w n : Nat} {s : Int32} (hw : w < 24) (hn : n ≤ 9) (hl : M.1 29 w = nI n) : Cl LX (d + 1) mX5_holesOf [.ref 82, .int (nI w), .int s] M (ev_R (some (.int (nI (hol (M.1 (5 + w)) s n)))) M) := by
  refine Cl_of rfl (Nat.le_of_ble_eq_true rfl) rfl (gX5_holesOf_0 ?_)
  have lp : ∀ j i, i + j = n → Ev LX (d + 1) mX5_holesOf 5 [some (.ref 82), some (.int (nI w)), some (.int s), some (.int (nI (hol (M.1 (5 + w)) s i))), some (.int (nI i))] [] M (ev_R (some (.int (nI (hol (M.1 (5 + w)) s n)))) M) := by
    intro j
    induction j with
    | zero =>
      intro i hi
      obtain rfl : i = n := by omega
      refine gX5_holesOf_5 ⟨vp_in_nI hw (by omega), fun _ => ⟨rfl, rfl⟩, fun h => absurd ?_ h⟩
      rw [nI_clamp (by omega), hl]
      exact nI_le (Nat.le_refl _) (by omega)
    | succ j ih =>
      intro i hi
      refine gX5_holesOf_5 ⟨vp_in_nI hw (by omega), fun h => ?_, fun _ => ⟨vp_in_nI hw (by omega), vp_in_nI (by omega) (by omega), fun h => ?_, fun h => ?_⟩⟩
      · rw [nI_clamp (by omega), hl] at h
        exact absurd h (nI_ge (by omega) (by omega))
      · rw [nI_clamp (by omega), nI_clamp (by omega)] at h
        rw [nI_1]
        have := ih (i + 1) (by omega)
        rw [hol_no h] at this
        exact this
      · rw [nI_clamp (by omega), nI_clamp (by omega)] at h
        rw [nI_1, nI_1]
        have := ih (i + 1) (by omega)
        rw [hol_yes h] at this
        exact this
  exact lp n 0 (by omega)
/-- the looks of the letters that are in a set, summed -/
def lks (f : Nat → Int32) (s : Int32) (lk : Nat → Int32) : Nat → Int32
  | 0 => 0
  | n + 1 => if hs s (f n) = true then lks f s lk n + lk (f n).toNatClampNeg else lks f s lk n
theorem lks_yes {f : Nat → Int32} {s : Int32} {lk : Nat → Int32} {n : Nat} (h : hs s (f n) = true) : lks f s lk (n + 1) = lks f s lk n + lk (f n).toNatClampNeg := by rw [lks, if_pos h]
theorem lks_no {f : Nat → Int32} {s : Int32} {lk : Nat → Int32} {n : Nat} (h : hs s (f n) = false) : lks f s lk (n + 1) = lks f s lk n := by rw [lks, if_neg (by rw [h]; decide)]
theorem lks_cong {f g : Nat → Int32} {s : Int32} {lk lk2 : Nat → Int32} : ∀ {n : Nat}, (∀ i, i < n → f i = g i) → (∀ i, i < n → lk (f i).toNatClampNeg = lk2 (f i).toNatClampNeg) → lks f s lk n = lks g s lk2 n
  | 0, _, _ => rfl
  | n + 1, h, h2 => by rw [lks, lks, lks_cong (fun i hi => h i (by omega)) (fun i hi => h2 i (by omega)), h2 n (by omega), h n (by omega)]
theorem kX5_looksOf {w n : Nat} {s : Int32} (hw : w < 24) (hn : n ≤ 9) (hl : M.1 29 w = nI n) (hf : ∀ i, i < n → vp_in (M.1 (5 + w) i) 26) : Cl LX (d + 1) mX5_looksOf [.ref 82, .int (nI w), .int s] M (ev_R (some (.int (lks (M.1 (5 + w)) s (M.1 49) n))) M) := by
  refine Cl_of rfl (Nat.le_of_ble_eq_true rfl) rfl (gX5_looksOf_0 ?_)
  have lp : ∀ j i, i + j = n → Ev LX (d + 1) mX5_looksOf 5 [some (.ref 82), some (.int (nI w)), some (.int s), some (.int (lks (M.1 (5 + w)) s (M.1 49) i)), some (.int (nI i)), none] [] M (ev_R (some (.int (lks (M.1 (5 + w)) s (M.1 49) n))) M) := by
    intro j
    induction j with
    | zero =>
      intro i hi
      obtain rfl : i = n := by omega
      refine gX5_looksOf_5 ⟨vp_in_nI hw (by omega), fun _ => ⟨rfl, rfl⟩, fun h => absurd ?_ h⟩
      rw [nI_clamp (by omega), hl]
      exact nI_le (Nat.le_refl _) (by omega)
    | succ j ih =>
      intro i hi
      refine gX5_looksOf_5 ⟨vp_in_nI hw (by omega), fun h => ?_, fun _ => ⟨vp_in_nI hw (by omega), vp_in_nI (by omega) (by omega), fun v1 e1 => ⟨fun h => ?_, fun h => ⟨?_, fun v2 e2 => ?_⟩⟩⟩⟩
      · rw [nI_clamp (by omega), hl] at h
        exact absurd h (nI_ge (by omega) (by omega))
      · rw [e1, nI_clamp (by omega), nI_clamp (by omega)] at h
        rw [nI_1]
        have := ih (i + 1) (by omega)
        rw [lks_no h] at this
        exact this
      · rw [e1, nI_clamp (by omega), nI_clamp (by omega)]
        exact hf i (by omega)
      · rw [e1, nI_clamp (by omega), nI_clamp (by omega)] at h e2
        rw [nI_1, e2]
        have := ih (i + 1) (by omega)
        rw [lks_yes h] at this
        exact this
  exact lp n 0 (by omega)
/-- a letter that can be made of one that is left -/
def mnd (mo : Nat → Int32) (s l : Int32) : Bool := iin (mo l.toNatClampNeg) 0 25 && !hs s (mo l.toNatClampNeg)
theorem kX5_isMendable {l s : Int32} (h : vp_in l 26) : Cl LX (d + 1) mX5_isMendable [.ref 82, .int l, .int s] M (ev_R (some (.int (bi (mnd (M.1 48) s l)))) M) := by
  refine Cl_of rfl (Nat.le_of_ble_eq_true rfl) rfl (gX5_isMendable_0 ⟨h, fun h1 => ⟨?_, rfl⟩, fun h1 => ⟨fun h2 => ⟨?_, rfl⟩, fun h2 => ⟨?_, rfl⟩⟩⟩)
  · rw [mnd, h1]; rfl
  · rw [mnd, h1, h2]; rfl
  · rw [mnd, h1, h2]; rfl
/-- the key that is struck -/
def kyf (k : Int32) (mo : Nat → Int32) (s l : Int32) : Int32 := if hs s l = true then (if k = 5 then mo l.toNatClampNeg else -1) else l
theorem kX5_keyFor {w i : Nat} {s : Int32} (hw : w < 24) (hi : i < 9) (hf : vp_in (M.1 (5 + w) i) 26) : Cl LX (d + 1) mX5_keyFor [.ref 82, .int (nI w), .int (nI i), .int s] M (ev_R (some (.int (kyf (M.1 30 w) (M.1 48) s (M.1 (5 + w) i)))) M) := by
  refine Cl_of rfl (Nat.le_of_ble_eq_true rfl) rfl (gX5_keyFor_0 ⟨vp_in_nI hw (by omega), vp_in_nI hi (by omega), fun v1 e1 => ⟨fun h => ⟨vp_in_nI hw (by omega), fun h2 => ⟨?_, rfl⟩, fun h2 => ⟨?_, ?_, rfl⟩⟩, fun h => ⟨?_, rfl⟩⟩⟩)
  all_goals rw [nI_clamp (by omega), nI_clamp (by omega)] at e1
  all_goals subst e1
  · rw [nI_clamp (by omega)] at h2
    rw [kyf, if_pos h, if_neg h2]
  · exact hf
  · rw [nI_clamp (by omega)] at h2
    rw [kyf, if_pos h, if_pos h2]
  · rw [kyf, if_neg (by rw [h]; decide)]
/-- the letters as a set -/
def lts (f : Nat → Int32) : Nat → Int32
  | 0 => 0
  | n + 1 => lts f n ||| (1 <<< (f n &&& 31))
theorem lts_cong {f g : Nat → Int32} : ∀ {n : Nat}, (∀ i, i < n → f i = g i) → lts f n = lts g n
  | 0, _ => rfl
  | n + 1, h => by rw [lts, lts, lts_cong (fun i hi => h i (by omega)), h n (by omega)]
theorem kX0_lettersOf {w n : Nat} (hw : w < 24) (hn : n ≤ 9) (hl : M.1 29 w = nI n) : Cl LX d mX0_lettersOf [.ref 3, .int (nI w)] M (ev_R (some (.int (lts (M.1 (5 + w)) n))) M) := by
  refine Cl_of rfl (Nat.le_of_ble_eq_true rfl) rfl (gX0_lettersOf_0 ?_)
  have lp : ∀ j i, i + j = n → Ev LX d mX0_lettersOf 4 [some (.ref 3), some (.int (nI w)), some (.int (lts (M.1 (5 + w)) i)), some (.int (nI i))] [] M (ev_R (some (.int (lts (M.1 (5 + w)) n))) M) := by
    intro j
    induction j with
    | zero =>
      intro i hi
      obtain rfl : i = n := by omega
      refine gX0_lettersOf_4 ⟨vp_in_nI hw (by omega), fun _ => ⟨rfl, rfl⟩, fun h => absurd ?_ h⟩
      rw [nI_clamp (by omega), hl]
      exact nI_le (Nat.le_refl _) (by omega)
    | succ j ih =>
      intro i hi
      refine gX0_lettersOf_4 ⟨vp_in_nI hw (by omega), fun h => ?_, fun _ => ⟨vp_in_nI hw (by omega), vp_in_nI (by omega) (by omega), fun v1 e1 => ?_⟩⟩
      · rw [nI_clamp (by omega), hl] at h
        exact absurd h (nI_ge (by omega) (by omega))
      · rw [nI_clamp (by omega), nI_clamp (by omega)] at e1
        rw [nI_1, e1]
        exact ih (i + 1) (by omega)
  exact lp n 0 (by omega)
-- the model's small ones
theorem kX11_get {x y : Int32} (h : vp_in (39 + 13 * x + y) 3315) : Cl LM d mX11_get [.ref 0, .int x, .int y] M (ev_R (some (.int (M.1 1 (39 + 13 * x + y).toNatClampNeg))) M) :=
  Cl_of rfl (Nat.le_of_ble_eq_true rfl) rfl (gX11_get_0 ⟨h, rfl, rfl⟩)
theorem kX11_isWordOf {x : Int32} : Cl LM (d + 1) mX11_isWordOf [.ref 0, .int x] M (ev_R (some (.int (bi (iin x 0 (M.1 1 0 - 1))))) M) :=
  Cl_of rfl (Nat.le_of_ble_eq_true rfl) rfl (gX11_isWordOf_0 ⟨rfl, rfl⟩)
theorem kX11_isSentence {x : Int32} : Cl LM (d + 1) mX11_isSentence [.ref 0, .int x] M (ev_R (some (.int (bi (iin x 0 (M.1 1 1 - 1))))) M) :=
  Cl_of rfl (Nat.le_of_ble_eq_true rfl) rfl (gX11_isSentence_0 ⟨rfl, rfl⟩)
theorem kX11_isLetter {x : Int32} : Cl LM (d + 1) mX11_isLetter [.int x] M (ev_R (some (.int (bi (iin x 0 25)))) M) :=
  Cl_of rfl (Nat.le_of_ble_eq_true rfl) rfl (gX11_isLetter_0 ⟨rfl, rfl⟩)
theorem kX11_lengthOf {x : Int32} (h : vp_in (351 + 6 * x) 3315) : Cl LM d mX11_lengthOf [.ref 0, .int x] M (ev_R (some (.int (M.1 1 (351 + 6 * x).toNatClampNeg))) M) :=
  Cl_of rfl (Nat.le_of_ble_eq_true rfl) rfl (gX11_lengthOf_0 ⟨h, rfl, rfl⟩)
/-- a call is refused: the reasons' row behind it -/
def rfs (M : ev_Mem) (c : Nat) (r : Nat) : ev_Mem := if 9999 ≤ M.1 c r then M else ev_wr M c r (M.1 c r + 1)
theorem kX11_refused {r : Nat} (h : r < 3) : Cl LM d mX11_refused [.ref 0, .int (nI r)] M (ev_R (some (.int (-1))) (rfs M 3 r)) := by
  refine Cl_of rfl (Nat.le_of_ble_eq_true rfl) rfl (gX11_refused_0 ⟨vp_in_nI h (by omega), fun h1 => ⟨rfl, ?_⟩, fun h1 => ⟨vp_in_nI h (by omega), vp_in_nI h (by omega), fun M1 e1 => ⟨rfl, ?_⟩⟩⟩)
  · rw [nI_clamp (by omega)] at h1
    rw [rfs, if_pos h1]
  · rw [nI_clamp (by omega)] at h1 e1
    rw [rfs, if_neg h1, e1]
theorem kX10_refuse {r : Nat} (h : r < 3) : Cl LX d mX10_refuse [.ref 0, .int (nI r)] M (ev_R (some (.int (-1))) (rfs M 117 r)) := by
  refine Cl_of rfl (Nat.le_of_ble_eq_true rfl) rfl (gX10_refuse_0 ⟨fun h1 => absurd h1 (nI_pos (by omega)), fun _ => ⟨fun h1 => absurd h1 (nI_ge (b := 3) h (by omega)), fun _ => ⟨vp_in_nI h (by omega), fun h1 => ⟨rfl, ?_⟩, fun h1 => ⟨vp_in_nI h (by omega), vp_in_nI h (by omega), fun M1 e1 => ⟨rfl, ?_⟩⟩⟩⟩⟩)
  · rw [nI_clamp (by omega)] at h1
    rw [rfs, if_pos h1]
  · rw [nI_clamp (by omega)] at h1 e1
    rw [rfs, if_neg h1, e1]
-- the law's stack, the lowest two
theorem kX1_usesOf {x : Int32} : Cl LX d mX1_usesOf [.ref 83, .int x] M (ev_R (some (.int (if iin x 0 25 = true then M.1 44 x.toNatClampNeg else 0))) M) := by
  refine Cl_of rfl (Nat.le_of_ble_eq_true rfl) rfl (gX1_usesOf_0 ⟨fun h => ⟨?_, rfl⟩, fun h => ⟨fun h2 => ⟨?_, rfl⟩, fun h2 => ⟨?_, ?_, rfl⟩⟩⟩)
  · rw [iin_f.mpr (fun q => I_nlt.mpr q.1 h)]; rfl
  · rw [iin_f.mpr (fun q => I_26.mpr q.2 h2)]; rfl
  · rw [vp_in_iff]
    have h1 := I_nlt.mp h
    have h3 := I_26.mp h2
    rw [I_le, I_0] at h1
    rw [I_le, show (25 : Int32).toInt = 25 from rfl] at h3
    omega
  · rw [if_pos (iin_t.mpr ⟨I_nlt.mp h, I_26.mp h2⟩)]
theorem kX1_push {n : Nat} {x : Int32} (hn : n < 64) (h : M.1 83 4 = nI n) : Cl LX d mX1_push [.ref 83, .int x] M (ev_R none (ev_wr (ev_wr M 85 n x) 83 4 (nI (n + 1)))) := by
  refine Cl_of rfl (Nat.le_of_ble_eq_true rfl) rfl (gX1_push_0 ⟨fun h1 => ?_, fun _ => ⟨?_, fun M1 e1 M2 e2 => ⟨rfl, ?_⟩⟩⟩)
  · rw [h] at h1
    exact absurd h1 (nI_ge (b := 64) hn (by omega))
  · rw [h]; exact vp_in_nI hn (by omega)
  · rw [h, nI_clamp (by omega)] at e1
    have : M1.1 83 4 = nI n := by rw [e1, wr_ne (by omega), h]
    rw [this, nI_1] at e2
    rw [e2, e1]
theorem kX1_pop {n : Nat} (hn : n < 64) (h : M.1 83 4 = nI (n + 1)) : Cl LX d mX1_pop [.ref 83] M (ev_R (some (.int (M.1 85 n))) (ev_wr M 83 4 (nI n))) := by
  refine Cl_of rfl (Nat.le_of_ble_eq_true rfl) rfl (gX1_pop_0 ⟨fun _ M1 e1 => ?_, fun h1 => ?_⟩)
  · rw [h, nI_pred] at e1
    have e2 : M1.1 83 4 = nI n := by rw [e1, wr_same]
    rw [e2]
    refine ⟨vp_in_nI hn (by omega), ?_, e1⟩
    rw [nI_clamp (by omega), e1, wr_ne (by omega)]
  · rw [h] at h1
    exact absurd (nI_le (a := 1) (by omega) (by omega)) h1
end
