/-! contracts: what losing keys makes of a word -/
section
variable {d : Nat} {M : ev_Mem}
/-- how much stiffer a kind makes it -/
def ext (k : Int32) (h : Nat) (lk : Int32) : Int32 := if k = 4 then nI h else if k = 5 then lk else if k = 6 then 0 else if k = 3 then 4 else k
def sec (k : Int32) (h : Nat) : Int32 := if k = 4 then 6 * nI h else if k = 6 then 9 * nI h else 0
/-- each of the first n -/
def al (p : Nat → Bool) : Nat → Bool
  | 0 => true
  | n + 1 => al p n && p n
theorem al_t {p : Nat → Bool} : ∀ {n : Nat}, al p n = true ↔ ∀ i, i < n → p i = true
  | 0 => ⟨fun _ i h => absurd h (by omega), fun _ => rfl⟩
  | n + 1 => by
    rw [al, Bool.and_eq_true, al_t]
    constructor
    · intro ⟨h1, h2⟩ i hi
      rcases Nat.lt_or_ge i n with q | q
      · exact h1 i q
      · rw [show i = n by omega]; exact h2
    · intro h
      exact ⟨fun i hi => h i (by omega), h n (by omega)⟩
theorem al_f {p : Nat → Bool} {n i : Nat} (hi : i < n) (h : p i = false) : al p n = false := by
  rw [← Bool.not_eq_true, al_t]
  intro q
  rw [q i hi] at h
  cases h
theorem al_cong {p q : Nat → Bool} : ∀ {n : Nat}, (∀ i, i < n → p i = q i) → al p n = al q n
  | 0, _ => rfl
  | n + 1, h => by rw [al, al, al_cong (fun i hi => h i (by omega)), h n (by omega)]
/-- whether a letter doesn't hinder a word of a kind -/
def cbl (k : Int32) (mo : Nat → Int32) (s l : Int32) : Bool := !(hs s l) || (decide (k = 5) && mnd mo s l)
/-- whether a word of a kind can be -/
def cbe (k : Int32) (mo : Nat → Int32) (s : Int32) (f : Nat → Int32) (n : Nat) : Bool := if k = 4 ∨ k = 6 then true else al (fun i => cbl k mo s (f i)) n
def xE (M : ev_Mem) (x s : Int32) : Int32 := ext (M.1 30 x.toNatClampNeg) (xH M x s) (xK M x s)
def xS (M : ev_Mem) (x s : Int32) : Int32 := sec (M.1 30 x.toNatClampNeg) (xH M x s)
def xC (M : ev_Mem) (x s : Int32) : Bool := cbe (M.1 30 x.toNatClampNeg) (M.1 48) s (M.1 (5 + x.toNatClampNeg)) (M.1 29 x.toNatClampNeg).toNatClampNeg
theorem wd_in {x : Int32} (h : wd M x) : vp_in x 24 := by
  obtain ⟨w, n, rfl, hw, -⟩ := h
  exact vp_in_nI hw (by omega)
theorem wd_kind {x : Int32} (h : wd M x) : ∃ k, k ≤ 6 ∧ M.1 30 x.toNatClampNeg = nI k := by
  obtain ⟨w, n, rfl, hw, -, -, -, hk, -⟩ := h
  rw [nI_clamp (by omega)]
  exact hk
theorem ext_eok : ∀ k, k < 4 → ∀ (h : Nat) (l : Int32), ext (nI k) h l = ev_eok k := by
  intro k hk h l
  match k, hk with
  | 0, _ => rfl
  | 1, _ => rfl
  | 2, _ => rfl
  | 3, _ => rfl
  | k + 4, h => exact absurd h (by omega)
theorem qX5_extraOf {x s : Int32} (h : wd M x) : Cl LX (d + 2) mX5_extraOf [.ref 82, .int x, .int s] M (ev_R (some (.int (xE M x s))) M) := by
  obtain ⟨k, hk, ek⟩ := wd_kind h
  refine Cl_of rfl (Nat.le_of_ble_eq_true rfl) rfl (gX5_extraOf_0 ⟨wd_in h, ?_⟩)
  unfold xE
  rw [ek]
  refine ⟨fun q => absurd q (nI_pos (by omega)), fun _ => ⟨fun q => ⟨fun q4 => ⟨fun q5 => ⟨?_, rfl⟩, fun q5 => ⟨h, ?_, rfl⟩⟩, fun q4 => ⟨h, ?_, rfl⟩⟩, fun q => ⟨?_, ?_, rfl⟩⟩⟩
  · have q2 : nI 4 ≤ nI k := q
    have hk4 : 4 ≤ k := (nI_leI (by omega) (by omega)).mp q2
    have : k = 6 := by
      have h4 : k ≠ 4 := fun e => q4 (by rw [e]; rfl)
      have h5 : k ≠ 5 := fun e => q5 (by rw [e]; rfl)
      omega
    rw [this]
    rfl
  · rw [q5]; rfl
  · rw [q4]; rfl
  · exact vp_in_nI (by rcases Nat.lt_or_ge k 4 with z | z; exact z; exact absurd (nI_le z (by omega)) q) (by omega)
  · have hk4 : k < 4 := by rcases Nat.lt_or_ge k 4 with z | z; exact z; exact absurd (nI_le z (by omega)) q
    rw [nI_clamp (by omega), ext_eok k hk4]
theorem qX5_secondsOf {x s : Int32} (h : wd M x) : Cl LX (d + 2) mX5_secondsOf [.ref 82, .int x, .int s] M (ev_R (some (.int (xS M x s))) M) := by
  refine Cl_of rfl (Nat.le_of_ble_eq_true rfl) rfl (gX5_secondsOf_0 ⟨wd_in h, fun q => ⟨h, ?_, rfl⟩, fun q => ⟨h, ?_, rfl⟩, fun q => ⟨?_, rfl⟩⟩)
  · unfold xS; rw [q]; rfl
  · unfold xS; rw [q]; rfl
  · unfold xS sec; rw [if_neg q.1, if_neg q.2]
theorem qX5_canBe {x s : Int32} (h : wd M x) : Cl LX (d + 2) mX5_canBe [.ref 82, .int x, .int s] M (ev_R (some (.int (bi (xC M x s)))) M) := by
  refine Cl_of rfl (Nat.le_of_ble_eq_true rfl) rfl (gX5_canBe_0 ⟨wd_in h, fun q => ⟨?_, rfl⟩, fun q4 => ⟨fun q6 => ?_, fun q => ⟨?_, rfl⟩⟩⟩)
  · unfold xC cbe; rw [if_pos (Or.inl q)]; rfl
  · obtain ⟨w, n, rfl, hw, hn, hl, hf, -⟩ := h
    have e1 : xC M (nI w) s = al (fun i => cbl (M.1 30 w) (M.1 48) s (M.1 (5 + w) i)) n := by
      rw [nI_clamp (by omega)] at q4 q6
      unfold xC cbe
      rw [nI_clamp (by omega), if_neg (fun z => z.elim q4 q6), hl, nI_clamp (by omega)]
    rw [e1, nI_clamp (by omega)]
    have lp : ∀ j i, i + j = n → (∀ i', i' < i → cbl (M.1 30 w) (M.1 48) s (M.1 (5 + w) i') = true) → Ev LX (d + 2) mX5_canBe 26 [some (.ref 82), some (.int (nI w)), some (.int s), some (.int (M.1 30 w)), some (.int (nI i)), none] [] M (ev_R (some (.int (bi (al (fun i => cbl (M.1 30 w) (M.1 48) s (M.1 (5 + w) i)) n)))) M) := by
      intro j
      induction j with
      | zero =>
        intro i hi ha
        obtain rfl : i = n := by omega
        refine gX5_canBe_26 ⟨vp_in_nI hw (by omega), fun _ => ⟨?_, rfl⟩, fun h => absurd ?_ h⟩
        · rw [al_t.mpr ha]; rfl
        · rw [nI_clamp (by omega), hl]
          exact nI_le (Nat.le_refl _) (by omega)
      | succ j ih =>
        intro i hi ha
        have nx : ∀ v1, v1 = M.1 (5 + w) i → cbl (M.1 30 w) (M.1 48) s v1 = true → Ev LX (d + 2) mX5_canBe 26 [some (.ref 82), some (.int (nI w)), some (.int s), some (.int (M.1 30 w)), some (.int (nI i + 1)), none] [] M (ev_R (some (.int (bi (al (fun i => cbl (M.1 30 w) (M.1 48) s (M.1 (5 + w) i)) n)))) M) := by
          intro v1 e1 hv
          rw [nI_1]
          refine ih (i + 1) (by omega) (fun i' hi' => ?_)
          rcases Nat.lt_or_ge i' i with z | z
          · exact ha i' z
          · rw [show i' = i by omega, ← e1]; exact hv
        have no : ∀ v1, v1 = M.1 (5 + w) i → cbl (M.1 30 w) (M.1 48) s v1 = false → (0 : Int32) = bi (al (fun i => cbl (M.1 30 w) (M.1 48) s (M.1 (5 + w) i)) n) := by
          intro v1 e1 hv
          rw [al_f (i := i) (by omega) (by rw [← e1]; exact hv)]
          rfl
        refine gX5_canBe_26 ⟨vp_in_nI hw (by omega), fun h => ?_, fun _ => ⟨vp_in_nI hw (by omega), vp_in_nI (by omega) (by omega), fun v1 e1 => ?_⟩⟩
        · rw [nI_clamp (by omega), hl] at h
          exact absurd h (nI_ge (by omega) (by omega))
        · rw [nI_clamp (by omega), nI_clamp (by omega)] at e1
          refine ⟨fun h => nx v1 e1 (by rw [cbl, h]; rfl), fun h => ⟨fun h5 => ⟨?_, rfl⟩, fun h5 => ⟨by rw [e1]; exact hf i (by omega), fun hm => nx v1 e1 (by rw [cbl, h, h5, hm]; rfl), fun hm => ⟨?_, rfl⟩⟩⟩⟩
          · rw [no v1 e1 (by rw [cbl, h, decide_eq_false h5]; rfl)]
          · rw [no v1 e1 (by rw [cbl, h, hm, Bool.and_false]; rfl)]
    exact lp n 0 (by omega) (fun i' hi' => absurd hi' (by omega))
  · unfold xC cbe; rw [if_pos (Or.inr q)]; rfl
theorem kX11_isLost {x : Int32} : Cl LM (d + 1) mX11_isLost [.ref 0, .int x] M (ev_R (some (.int (bi (hs (M.1 1 9) x)))) M) :=
  Cl_of rfl (Nat.le_of_ble_eq_true rfl) rfl (gX11_isLost_0 ⟨rfl, rfl⟩)
end
