/-! THE OUTCOME OF READING A TEXT: of two tapes that are alike it is the same -/
section
variable {b c : Nat → Nat} {n : Nat}
def bq (b c : Nat → Nat) (n : Nat) : Prop := ∀ i, i < n → b i = c i
theorem rnF_cg {q q2 : Nat → Bool} {n : Nat} (h : ∀ i, i < n → q i = q2 i) : ∀ k p, rnF q n k p = rnF q2 n k p
  | 0, p => rfl
  | k + 1, p => by
    rw [rnF, rnF]
    by_cases e : p < n
    · rw [h p e, rnF_cg h k (p + 1)]
    · rw [if_neg (fun z => e z.1), if_neg (fun z => e z.1)]
theorem rn_cg {q q2 : Nat → Bool} {n p : Nat} (h : ∀ i, i < n → q i = q2 i) : rn q n p = rn q2 n p := rnF_cg h _ _
theorem skp_cg (h : bq b c n) {p : Nat} : skp b n p = skp c n p := rn_cg (fun i hi => by rw [h i hi])
theorem srt_cg (h : bq b c n) {s : Nat} : srt b n s = srt c n s := by
  unfold srt
  by_cases e : n ≤ s
  · rw [if_pos e, if_pos e]
  · rw [if_neg e, if_neg e, h s (by omega)]
    by_cases e2 : s + 1 < n
    · rw [h (s + 1) e2]
    · rw [decide_eq_false e2, Bool.false_and, Bool.false_and]
theorem nxt_cg (h : bq b c n) {s : Nat} : nxt b n s = nxt c n s := by
  unfold nxt
  by_cases e : n ≤ s
  · rw [if_pos e, if_pos e]
  · have r1 : ∀ x, rn (fun i => soN (b i) == x) n (s + 1) = rn (fun i => soN (c i) == x) n (s + 1) := fun x => rn_cg (fun i hi => by rw [h i hi])
    rw [if_neg e, if_neg e, h s (by omega), r1 1, r1 2]
    by_cases e2 : s + 1 < n
    · rw [h (s + 1) e2]
    · rw [decide_eq_false e2, Bool.false_and, Bool.false_and]
theorem nxs_cg (h : bq b c n) {s : Nat} : nxs b n s = nxs c n s := by
  unfold nxs
  rw [nxt_cg h, skp_cg h]
theorem nxt_gn {s : Nat} (h : n ≤ s) : nxt b n s = s := by unfold nxt; rw [if_pos h]
theorem tok_in {s i : Nat} (h : i < nxt b n s - s) : s + i < n := by
  rcases Nat.lt_or_ge s n with e | e
  · have := nxt_le (b := b) (n := n) (s := s) (by omega)
    omega
  · rw [nxt_gn e] at h
    omega
theorem nuK_cg {s : Nat} : ∀ k, (∀ i, i < k → b (s + i) = c (s + i)) → nuK b s k = nuK c s k
  | 0, _ => rfl
  | k + 1, h => by rw [nuK, nuK, nuK_cg k (fun i hi => h i (by omega)), h k (by omega)]
theorem nuN_cg (h : bq b c n) {s : Nat} : nuN b n s = nuN c n s := by
  unfold nuN
  rw [← nxt_cg h]
  exact nuK_cg _ (fun i hi => h _ (tok_in hi))
theorem tkW_cg (h : bq b c n) {s : Nat} {l : List Nat} : tkW b n s l = tkW c n s l := by
  unfold tkW weq
  rw [← srt_cg h, ← nxt_cg h]
  by_cases e : nxt b n s - s = l.length
  · have : al (fun i => b (s + i) == l.getD i 0) l.length = al (fun i => c (s + i) == l.getD i 0) l.length := al_cong (fun i hi => by rw [h (s + i) (tok_in (b := b) (by omega))])
    rw [this]
  · rw [show (nxt b n s - s == l.length) = false from beq_false_of_ne e, Bool.false_and, Bool.false_and]
theorem nmN_cg (h : bq b c n) {s : Nat} : nmN b n s = nmN c n s := by
  unfold nmN
  rw [show tkW b n s = tkW c n s from funext fun l => tkW_cg h]
theorem sma_cg (h : bq b c n) {s : Nat} : sma b n s = sma c n s := by
  unfold sma
  rw [← nxt_cg h]
  exact al_cong (fun i hi => by rw [h (s + i) (tok_in (b := b) hi)])
theorem lts_cg {s : Nat} : ∀ k, (∀ i, i < k → b (s + i) = c (s + i)) → lts' b s k = lts' c s k
  | 0, _ => rfl
  | k + 1, h => by rw [lts', lts', lts_cg k (fun i hi => h i (by omega)), h k (by omega)]
theorem nuR_cg (h : bq b c n) {lo hi s : Nat} : nuR b n lo hi s = nuR c n lo hi s := by
  unfold nuR
  rw [srt_cg h, nuN_cg h, nxs_cg h]
theorem wdR_cg (h : bq b c n) {i s : Nat} : wdR b n i s = wdR c n i s := by
  unfold wdR
  rw [tkW_cg h, nxs_cg h]
theorem ltR_cg (h : bq b c n) {m s : Nat} : ltR b n m s = ltR c n m s := by
  have : lts' b s (nxt b n s - s) = lts' c s (nxt c n s - s) := by
    rw [← nxt_cg h]
    exact lts_cg _ (fun i hi => h _ (tok_in hi))
  unfold ltR
  rw [this, srt_cg h, sma_cg h, nxs_cg h, nxt_cg h]
theorem ssR_cg (h : bq b c n) : ∀ (r s : Nat), ssR b n r s = ssR c n r s
  | 0, s => rfl
  | r + 1, s => by
    rw [ssR, ssR, nuR_cg h]
    cases nuR c n 0 11 s with
    | inl e => rfl
    | inr p =>
      obtain ⟨v, s1⟩ := p
      simp only
      rw [srt_cg h, nxs_cg h, ssR_cg h r]
theorem deed_cg (h : bq b c n) {q s : Nat} : deed b n q s = deed c n q s := by
  have e1 : ∀ lo hi, nuR b n lo hi = nuR c n lo hi := fun lo hi => funext fun s => nuR_cg h
  have e2 : ∀ i, wdR b n i = wdR c n i := fun i => funext fun s => wdR_cg h
  have e3 : ∀ m, ltR b n m = ltR c n m := fun m => funext fun s => ltR_cg h
  have e4 : ∀ r, ssR b n r = ssR c n r := fun r => funext fun s => ssR_cg h r s
  unfold deed
  simp only [e1, e2, e3, e4]
theorem btP_cg (h : bq b c n) {s : Nat} {P : List Nat} : btP b n s P = btP c n s P := by
  unfold btP
  rw [srt_cg h, tkW_cg h, tkW_cg h]
theorem ptP_cg (h : bq b c n) {s : Nat} {P : List Nat} : ptP b n s P = ptP c n s P := by
  unfold ptP
  rw [srt_cg h, tkW_cg h, tkW_cg h, tkW_cg h]
theorem stp_cg (h : bq b c n) {k : Nat} {q : TS} : stp b n k q = stp c n k q := by
  have e1 : ∀ s, srt b n s = srt c n s := fun s => srt_cg h
  have e2 : ∀ s l, tkW b n s l = tkW c n s l := fun s l => tkW_cg h
  have e3 : ∀ s, nxs b n s = nxs c n s := fun s => nxs_cg h
  have e4 : ∀ s, nmN b n s = nmN c n s := fun s => nmN_cg h
  have e5 : ∀ s, nuN b n s = nuN c n s := fun s => nuN_cg h
  have e6 : ∀ s P, btP b n s P = btP c n s P := fun s P => btP_cg h
  have e7 : ∀ s P, ptP b n s P = ptP c n s P := fun s P => ptP_cg h
  unfold stp stW stB opq emq
  simp only [e1, e2, e3, e4, e5, e6, e7]
theorem rnM_cg (h : bq b c n) {k : Nat} : ∀ (j : Nat) (q : TS), rnM b n k j q = rnM c n k j q
  | 0, q => rfl
  | j + 1, q => by
    rw [rnM, rnM, stp_cg h]
    cases stp c n k q with
    | inl q2 => exact rnM_cg h j q2
    | inr R => rfl
theorem MR_cg (h : bq b c n) {k s : Nat} {P : List Nat} {w : Bool} {K : List (Nat × Nat)} {R : TR} : MR b n k s P w K R ↔ MR c n k s P w K R := by
  unfold MR
  constructor
  · rintro ⟨j, e⟩
    exact ⟨j, by rw [← rnM_cg h]; exact e⟩
  · rintro ⟨j, e⟩
    exact ⟨j, by rw [rnM_cg h]; exact e⟩
/-- a clause that was read: its kind, a deed's values, a law's code -/
abbrev CL : Type := Nat × List Nat × List (Nat × Nat)
noncomputable def smR (b : Nat → Nat) (n k s : Nat) : TR := Classical.epsilon (fun R => MR b n k s [] false [] R)
theorem smR_e {k s : Nat} {R : TR} (h : MR b n k s [] false [] R) : smR b n k s = R := MR_det (Classical.epsilon_spec (p := fun R => MR b n k s [] false [] R) ⟨R, h⟩) h
theorem smR_cg (h : bq b c n) {k s : Nat} : smR b n k s = smR c n k s := by
  unfold smR
  rw [show (fun R => MR b n k s [] false [] R) = (fun R => MR c n k s [] false [] R) from funext fun R => propext (MR_cg h)]
abbrev BR : Type := (Nat × Nat) ⊕ (List Nat × List (Nat × Nat)) × Nat
def bdS (O : TR) : BR := match O with
  | Sum.inl e => Sum.inl e
  | Sum.inr (s2, K) => Sum.inr (([], K), s2)
def bdD (O : DR) : BR := match O with
  | Sum.inl e => Sum.inl e
  | Sum.inr (vs, s2) => Sum.inr ((vs, []), s2)
noncomputable def bdR (b : Nat → Nat) (n q s : Nat) : BR := if q < 3 then bdS (smR b n q s) else bdD (deed b n q s)
theorem bdR_cg (h : bq b c n) {q s : Nat} : bdR b n q s = bdR c n q s := by
  unfold bdR
  rw [smR_cg h, deed_cg h]
def hsK (L : List CL) (k : Nat) : Bool := L.any (fun c => c.1 == k)
abbrev CR : Type := (Nat × Nat) ⊕ CL × Nat
def cs3 (b : Nat → Nat) (n q : Nat) (O : BR) : CR := match O with
  | Sum.inl e => Sum.inl e
  | Sum.inr (x, s2) => if srt b n s2 = 59 then Sum.inr ((q, x.1, x.2), nxs b n s2) else Sum.inl (1, s2)
noncomputable def cs2 (b : Nat → Nat) (n : Nat) (L : List CL) (q s : Nat) : CR := if (decide (q < 3) && hsK L q) = true then Sum.inl (4, s) else if L.length = 24 then Sum.inl (6, s) else cs3 b n q (bdR b n q (nxs b n s))
noncomputable def cs1 (b : Nat → Nat) (n : Nat) (L : List CL) (s : Nat) : CR := if rkW (tkW b n s) clW 0 = -1 then Sum.inl (1, s) else cs2 b n L (rkW (tkW b n s) clW 0).toNatClampNeg s
theorem cs1_cg (h : bq b c n) {L : List CL} {s : Nat} : cs1 b n L s = cs1 c n L s := by
  have e1 : ∀ q O, cs3 b n q O = cs3 c n q O := fun q O => by
    cases O with
    | inl e => rfl
    | inr p =>
      unfold cs3
      simp only
      rw [srt_cg h, nxs_cg h]
  unfold cs1 cs2
  rw [show tkW b n s = tkW c n s from funext fun l => tkW_cg h, e1, bdR_cg h, nxs_cg h]
/-- a whole text, f clauses at most -/
noncomputable def rdT (b : Nat → Nat) (n : Nat) : Nat → List CL → Nat → (Nat × Nat) ⊕ List CL
  | 0, L, _ => Sum.inr L
  | f + 1, L, s => if srt b n s = 0 then Sum.inr L else match cs1 b n L s with
    | Sum.inl e => Sum.inl e
    | Sum.inr (x, s2) => rdT b n f (L ++ [x]) s2
theorem rdT_cg (h : bq b c n) : ∀ (f : Nat) (L : List CL) (s : Nat), rdT b n f L s = rdT c n f L s
  | 0, _, _ => rfl
  | f + 1, L, s => by
    rw [rdT, rdT, srt_cg h, cs1_cg h]
    cases cs1 c n L s with
    | inl e => rfl
    | inr p =>
      simp only
      rw [rdT_cg h f]
/-- which clause a word begins -/
theorem rkW_t {f : List Nat → Bool} : ∀ (ws : List (List Nat)) (j : Nat), rkW f ws j = -1 ∨ ∃ i, i < ws.length ∧ rkW f ws j = nI (j + i) ∧ f (ws.getD i []) = true
  | [], _ => Or.inl rfl
  | w :: ws, j => by
    rw [rkW]
    split
    · rename_i z
      exact Or.inr ⟨0, by simp, rfl, z⟩
    · rcases rkW_t ws (j + 1) with h | ⟨i, hi, h, h2⟩
      · exact Or.inl h
      · exact Or.inr ⟨i + 1, by simp only [List.length_cons]; omega, by rw [h, show j + 1 + i = j + (i + 1) by omega], h2⟩
theorem cl_len : ∀ i, i < 10 → 3 ≤ (clW.getD i []).length := by decide +kernel
theorem cl_c (b : Nat → Nat) (n s : Nat) : rkW (tkW b n s) clW 0 = -1 ∨ ∃ q, q < 10 ∧ rkW (tkW b n s) clW 0 = nI q ∧ srt b n s = 1 ∧ s < n ∧ s + 3 ≤ nxs b n s := by
  rcases rkW_t (f := tkW b n s) clW 0 with h | ⟨i, hi, h, h2⟩
  · exact Or.inl h
  · have h1 := tkW_s h2
    have hs := srt_end (b := b) (n := n) (s := s) (by omega)
    have hl := cl_len i hi
    unfold tkW at h2
    rw [Bool.and_eq_true] at h2
    have h3 := (weq_iff.mp h2.2).1
    have el := nxt_le (b := b) (n := n) (s := s) (by omega)
    have sk := skp_le (b := b) (n := n) (p := nxt b n s) el.2.1
    refine Or.inr ⟨i, hi, by rw [h, Nat.zero_add], h1, hs, ?_⟩
    unfold nxs
    omega
end
