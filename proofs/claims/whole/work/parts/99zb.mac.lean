/-! THE MODEL'S READER OF SUMS AS A MACHINE: token, pile, whether one is whole, code -/
section
def rkN (o : Nat) : Nat := if 40 ≤ o then 0 else if o = 22 then 1 else if o = 21 then 2 else if o = 20 then 3 else if 10 ≤ o then 4 else if o = 4 ∨ o = 2 then 7 else if 7 ≤ o then 6 else 5
def stl (r : Nat) : List Nat → List (Nat × Nat) → List Nat × List (Nat × Nat)
  | [], K => ([], K)
  | p :: P, K => if r ≤ rkN p then stl r P (K ++ [(p, 0)]) else (p :: P, K)
def ctd (p : Nat) : Bool := decide (40 ≤ p) || (rkN p == 7 || p == 20)
def cnP : List Nat → Nat
  | [] => 0
  | p :: P => (if ctd p = true then 1 else 0) + cnP P
def onP : List Nat → Nat
  | [] => 0
  | p :: P => if 40 ≤ p then p else onP P
def icP : List Nat → Bool
  | [] => false
  | p :: P => if rkN p ≤ 4 then rkN p == 4 else icP P
def tpP : List Nat → Nat
  | [] => 0
  | p :: _ => p
def iaP (P : List Nat) : Bool := (onP P == 41) && (decide (40 ≤ tpP P) || (decide (1 ≤ rkN (tpP P)) && decide (rkN (tpP P) ≤ 3)))
def cmN (t : Nat) : Nat := if t = 60 then 10 else if t = 4 then 11 else if t = 62 then 12 else if t = 5 then 13 else if t = 61 then 14 else if t = 35 then 15 else 0
def wdI (i : Nat) : List Nat := sxB.getD i []
def btP (b : Nat → Nat) (n s : Nat) (P : List Nat) : Nat :=
  if srt b n s = 43 then 5 else if srt b n s = 45 then 6 else if srt b n s = 42 then 7 else if srt b n s = 47 then 8
  else if onP P = 41 then (if icP P = true then (if tkW b n s (wdI 4) = true then 21 else if tkW b n s (wdI 5) = true then 22 else 0) else cmN (srt b n s)) else 0
def ptP (b : Nat → Nat) (n s : Nat) (P : List Nat) : Option Nat :=
  if onP P = 40 then (if srt b n s = 41 then some 0 else none)
  else if onP P = 41 then (if (tkW b n s (wdI 6) && icP P) = true then some 42 else none)
  else if onP P = 42 then (if tkW b n s (wdI 7) = true then some 43 else none)
  else if onP P = 43 then (if tkW b n s (wdI 8) = true then some 0 else none)
  else none
def nxs (b : Nat → Nat) (n s : Nat) : Nat := skp b n (nxt b n s)
abbrev TS : Type := Nat × List Nat × Bool × List (Nat × Nat)
abbrev TR : Type := (Nat × Nat) ⊕ (Nat × List (Nat × Nat))
def flt (f s : Nat) : TR := Sum.inl (f, s)
def fin' (s : Nat) (K : List (Nat × Nat)) : TR := Sum.inr (s, K)
def opq (b : Nat → Nat) (n s : Nat) (P : List Nat) (K : List (Nat × Nat)) (c : Nat) : TS ⊕ TR :=
  if cnP P = 8 then Sum.inr (flt 3 s) else Sum.inl (nxs b n s, c :: P, false, K)
def stW (b : Nat → Nat) (n s : Nat) (P : List Nat) (K : List (Nat × Nat)) : TS ⊕ TR :=
  if btP b n s P = 0 then
    match ptP b n s P with
    | none => if onP P = 0 then Sum.inr (fin' s (stl 1 P K).2) else Sum.inr (flt 1 s)
    | some 0 => Sum.inl (nxs b n s, (stl 7 (stl 1 P K).1.tail ((stl 1 P K).2 ++ (if onP P = 43 then [(3, 0)] else []))).1, true, (stl 7 (stl 1 P K).1.tail ((stl 1 P K).2 ++ (if onP P = 43 then [(3, 0)] else []))).2)
    | some (x + 1) => Sum.inl (nxs b n s, (x + 1) :: (stl 1 P K).1.tail, false, (stl 1 P K).2)
  else Sum.inl (nxs b n s, btP b n s P :: (stl (if rkN (btP b n s P) = 4 then 5 else rkN (btP b n s P)) P K).1, false, (stl (if rkN (btP b n s P) = 4 then 5 else rkN (btP b n s P)) P K).2)
def nmN (b : Nat → Nat) (n s : Nat) : Int32 := rkW (tkW b n s) nmW 0
def nuN (b : Nat → Nat) (n s : Nat) : Nat := nuK b s (nxt b n s - s)
def emq (b : Nat → Nat) (n s : Nat) (P : List Nat) (K : List (Nat × Nat)) (o v : Nat) : TS ⊕ TR :=
  Sum.inl (nxs b n s, (stl 7 P (K ++ [(o, v)])).1, true, (stl 7 P (K ++ [(o, v)])).2)
def stB (b : Nat → Nat) (n k s : Nat) (P : List Nat) (K : List (Nat × Nat)) : TS ⊕ TR :=
  if srt b n s = 2 then (if 9999 < nuN b n s then Sum.inr (flt 2 s) else emq b n s P K 0 (nuN b n s))
  else if 0 ≤ nmN b n s then (if iof (nI k) (nmN b n s) = true then emq b n s P K 1 (nmN b n s).toNatClampNeg else Sum.inr (flt 5 s))
  else if srt b n s = 40 then opq b n s P K 40
  else if srt b n s = 45 then opq b n s P K 4
  else if tkW b n s (wdI 1) = true then opq b n s P K 2
  else if tkW b n s (wdI 2) = true then opq b n s P K 41
  else if (tkW b n s (wdI 3) && iaP P) = true then opq b n s P K 20
  else Sum.inr (flt 1 s)
def stp (b : Nat → Nat) (n k : Nat) (q : TS) : TS ⊕ TR := if q.2.2.1 = true then stW b n q.1 q.2.1 q.2.2.2 else stB b n k q.1 q.2.1 q.2.2.2
def rnM (b : Nat → Nat) (n k : Nat) : Nat → TS → Option TR
  | 0, _ => none
  | j + 1, q => match stp b n k q with
    | Sum.inl q2 => rnM b n k j q2
    | Sum.inr R => some R
def MR (b : Nat → Nat) (n k s : Nat) (P : List Nat) (w : Bool) (K : List (Nat × Nat)) (R : TR) : Prop := ∃ j, rnM b n k j (s, P, w, K) = some R
variable {b : Nat → Nat} {n k s : Nat} {P : List Nat} {K : List (Nat × Nat)} {R : TR}
theorem MR.go {w : Bool} {s2 : Nat} {P2 : List Nat} {w2 : Bool} {K2 : List (Nat × Nat)} (h : stp b n k (s, P, w, K) = Sum.inl (s2, P2, w2, K2)) (h2 : MR b n k s2 P2 w2 K2 R) : MR b n k s P w K R := by
  obtain ⟨j, e⟩ := h2
  refine ⟨j + 1, ?_⟩
  show (match stp b n k (s, P, w, K) with | Sum.inl q2 => rnM b n k j q2 | Sum.inr R => some R) = some R
  rw [h]
  exact e
theorem MR.en {w : Bool} (h : stp b n k (s, P, w, K) = Sum.inr R) : MR b n k s P w K R := ⟨1, by
  show (match stp b n k (s, P, w, K) with | Sum.inl q2 => rnM b n k 0 q2 | Sum.inr R => some R) = some R
  rw [h]⟩
/-- what is settled -/
def ltP (P : List Nat) (r : Nat) : Prop := P = [] ∨ rkN (tpP P) < r
theorem stl_lt {r : Nat} (h : ltP P r) : stl r P K = (P, K) := by
  cases P with
  | nil => rfl
  | cons p P =>
    rcases h with h | h
    · cases h
    · rw [stl, if_neg (show ¬ r ≤ rkN p from fun z => by have : rkN p < r := h; omega)]
theorem stl_is {r : Nat} : ∀ {P : List Nat} {K : List (Nat × Nat)}, ltP (stl r P K).1 r
  | [], K => Or.inl rfl
  | p :: P, K => by
    rw [stl]
    split
    · exact stl_is
    · rename_i z
      exact Or.inr (show rkN p < r by omega)
theorem stl_stl {r r2 : Nat} (h : r ≤ r2) : ∀ {P : List Nat} {K : List (Nat × Nat)}, stl r (stl r2 P K).1 (stl r2 P K).2 = stl r P K
  | [], K => rfl
  | p :: P, K => by
    rw [stl]
    split
    · rename_i z
      rw [stl_stl h]
      show _ = stl r (p :: P) K
      rw [stl, if_pos (by omega)]
    · rfl
theorem rk40 {p : Nat} (h : 1 ≤ rkN p) : ¬ 40 ≤ p := fun z => by unfold rkN at h; rw [if_pos z] at h; omega
theorem stl_on {r : Nat} (h : 1 ≤ r) : ∀ {P : List Nat} {K : List (Nat × Nat)}, onP (stl r P K).1 = onP P
  | [], K => rfl
  | p :: P, K => by
    rw [stl]
    split
    · rename_i z
      rw [stl_on h, onP, if_neg (rk40 (by omega))]
    · rfl
theorem stl_ic {r : Nat} (h : 5 ≤ r) : ∀ {P : List Nat} {K : List (Nat × Nat)}, icP (stl r P K).1 = icP P
  | [], K => rfl
  | p :: P, K => by
    rw [stl]
    split
    · rename_i z
      rw [stl_ic h, icP, if_neg (by omega)]
    · rfl
theorem st_dn {r r2 : Nat} {P1 : List Nat} {K1 : List (Nat × Nat)} (h : r ≤ r2) (e : stl r2 P1 K1 = (P, K)) (hl : ltP P r) : stl r P1 K1 = (P, K) := by
  rw [← stl_stl h, e]
  exact stl_lt hl
theorem st_on {r : Nat} {P1 : List Nat} {K1 : List (Nat × Nat)} (h : 1 ≤ r) (e : stl r P1 K1 = (P, K)) : onP P1 = onP P := by
  have := stl_on h (P := P1) (K := K1)
  rw [e] at this
  exact this.symm
theorem st_ic {r : Nat} {P1 : List Nat} {K1 : List (Nat × Nat)} (h : 5 ≤ r) (e : stl r P1 K1 = (P, K)) : icP P1 = icP P := by
  have := stl_ic h (P := P1) (K := K1)
  rw [e] at this
  exact this.symm
theorem stl_1 {r p : Nat} (h : r ≤ rkN p) : stl r (p :: P) K = stl r P (K ++ [(p, 0)]) := by rw [stl, if_pos h]
/-- what comes of reading one, a product or a sum -/
def fOne (b : Nat → Nat) (n k s : Nat) (P : List Nat) (s2 : Nat) (mc : List (Nat × Nat)) : Prop := ∀ K R, MR b n k s2 (stl 7 P (K ++ mc)).1 true (stl 7 P (K ++ mc)).2 R → MR b n k s P false K R
def fR (r : Nat) (b : Nat → Nat) (n k s : Nat) (P : List Nat) (s2 : Nat) (mc : List (Nat × Nat)) : Prop := ∀ K R, (∀ P1 K1, stl r P1 K1 = (P, K ++ mc) → MR b n k s2 P1 true K1 R) → MR b n k s P false K R
def fF (b : Nat → Nat) (n k s : Nat) (P : List Nat) (f s2 : Nat) : Prop := ∀ K, MR b n k s P false K (flt f s2)
/-- no sign of a sum or product -/
def noS (b : Nat → Nat) (n s : Nat) : Prop := srt b n s ≠ 43 ∧ srt b n s ≠ 45 ∧ srt b n s ≠ 42 ∧ srt b n s ≠ 47
theorem btP_s {c t : Nat} (h : (t = 43 ∧ c = 5) ∨ (t = 45 ∧ c = 6) ∨ (t = 42 ∧ c = 7) ∨ (t = 47 ∧ c = 8)) (e : srt b n s = t) : btP b n s P = c := by
  unfold btP
  rw [e]
  rcases h with ⟨rfl, rfl⟩ | ⟨rfl, rfl⟩ | ⟨rfl, rfl⟩ | ⟨rfl, rfl⟩ <;> rfl
theorem btP_n (h : noS b n s) : btP b n s P = if onP P = 41 then (if icP P = true then (if tkW b n s (wdI 4) = true then 21 else if tkW b n s (wdI 5) = true then 22 else 0) else cmN (srt b n s)) else 0 := by
  unfold btP
  rw [if_neg h.1, if_neg h.2.1, if_neg h.2.2.1, if_neg h.2.2.2]
/-- a step between two -/
theorem go_bt {c r : Nat} {P1 : List Nat} {K1 : List (Nat × Nat)} (hb : btP b n s P1 = c) (hc : c ≠ 0) (hr : (if rkN c = 4 then 5 else rkN c) = r) (e : stl r P1 K1 = (P, K)) (h : MR b n k (nxs b n s) (c :: P) false K R) : MR b n k s P1 true K1 R := by
  refine MR.go ?_ h
  unfold stp stW
  rw [if_pos rfl]
  simp only
  rw [hb, if_neg hc, hr, e]
theorem prod_0 {s2 : Nat} {mc : List (Nat × Nat)} (h : fOne b n k s P s2 mc) (hl : ltP P 6) : fR 6 b n k s P s2 mc := fun K R H => by
  refine h K R ?_
  have l7 : ltP P 7 := hl.elim Or.inl (fun z => Or.inr (by omega))
  rw [stl_lt l7]
  exact H _ _ (stl_lt hl)
theorem prod_s {c s1 s2 : Nat} {m1 m2 : List (Nat × Nat)} (h : fR 6 b n k s P s1 m1) (hc : (srt b n s1 = 42 ∧ c = 7) ∨ (srt b n s1 = 47 ∧ c = 8)) (h2 : fOne b n k (nxs b n s1) (c :: P) s2 m2) (hl : ltP P 6) : fR 6 b n k s P s2 (m1 ++ m2 ++ [(c, 0)]) := fun K R H => by
  have r6 : rkN c = 6 := by rcases hc with ⟨-, rfl⟩ | ⟨-, rfl⟩ <;> rfl
  have c0 : c ≠ 0 := by rcases hc with ⟨-, rfl⟩ | ⟨-, rfl⟩ <;> decide
  refine h K R (fun P1 K1 e => ?_)
  refine go_bt (c := c) (r := 6) (btP_s (t := srt b n s1) (by rcases hc with ⟨z, rfl⟩ | ⟨z, rfl⟩ <;> omega) rfl) c0 (by rw [r6]; rfl) e ?_
  refine h2 _ _ ?_
  rw [stl_lt (Or.inr (show rkN c < 7 by omega))]
  refine H _ _ ?_
  rw [stl_1 (by omega), stl_lt hl]
  simp only [List.append_assoc]
theorem prod_f {c s1 f s2 : Nat} {m1 : List (Nat × Nat)} (h : fR 6 b n k s P s1 m1) (hc : (srt b n s1 = 42 ∧ c = 7) ∨ (srt b n s1 = 47 ∧ c = 8)) (h2 : fF b n k (nxs b n s1) (c :: P) f s2) : fF b n k s P f s2 := fun K => by
  have r6 : rkN c = 6 := by rcases hc with ⟨-, rfl⟩ | ⟨-, rfl⟩ <;> rfl
  have c0 : c ≠ 0 := by rcases hc with ⟨-, rfl⟩ | ⟨-, rfl⟩ <;> decide
  refine h K _ (fun P1 K1 e => ?_)
  exact go_bt (c := c) (r := 6) (btP_s (t := srt b n s1) (by rcases hc with ⟨z, rfl⟩ | ⟨z, rfl⟩ <;> omega) rfl) c0 (by rw [r6]; rfl) e (h2 _)
theorem sum_0 {s2 : Nat} {mc : List (Nat × Nat)} (h : fR 6 b n k s P s2 mc) (hl : ltP P 5) : fR 5 b n k s P s2 mc := fun K R H => h K R (fun P1 K1 e => H P1 K1 (st_dn (by omega) e hl))
theorem sum_s {c s1 s2 : Nat} {m1 m2 : List (Nat × Nat)} (h : fR 5 b n k s P s1 m1) (hc : (srt b n s1 = 43 ∧ c = 5) ∨ (srt b n s1 = 45 ∧ c = 6)) (h2 : fR 6 b n k (nxs b n s1) (c :: P) s2 m2) (hl : ltP P 5) : fR 5 b n k s P s2 (m1 ++ m2 ++ [(c, 0)]) := fun K R H => by
  have r5 : rkN c = 5 := by rcases hc with ⟨-, rfl⟩ | ⟨-, rfl⟩ <;> rfl
  have c0 : c ≠ 0 := by rcases hc with ⟨-, rfl⟩ | ⟨-, rfl⟩ <;> decide
  refine h K R (fun P1 K1 e => ?_)
  refine go_bt (c := c) (r := 5) (btP_s (t := srt b n s1) (by rcases hc with ⟨z, rfl⟩ | ⟨z, rfl⟩ <;> omega) rfl) c0 (by rw [r5]; rfl) e ?_
  refine h2 _ _ (fun P2 K2 e2 => H P2 K2 ?_)
  rw [← stl_stl (r := 5) (r2 := 6) (by omega), e2]
  show stl 5 (c :: P) (K ++ m1 ++ m2) = _
  rw [stl_1 (by omega), stl_lt hl]
  simp only [List.append_assoc]
theorem sum_f {c s1 f s2 : Nat} {m1 : List (Nat × Nat)} (h : fR 5 b n k s P s1 m1) (hc : (srt b n s1 = 43 ∧ c = 5) ∨ (srt b n s1 = 45 ∧ c = 6)) (h2 : fF b n k (nxs b n s1) (c :: P) f s2) : fF b n k s P f s2 := fun K => by
  have r5 : rkN c = 5 := by rcases hc with ⟨-, rfl⟩ | ⟨-, rfl⟩ <;> rfl
  have c0 : c ≠ 0 := by rcases hc with ⟨-, rfl⟩ | ⟨-, rfl⟩ <;> decide
  refine h K _ (fun P1 K1 e => ?_)
  exact go_bt (c := c) (r := 5) (btP_s (t := srt b n s1) (by rcases hc with ⟨z, rfl⟩ | ⟨z, rfl⟩ <;> omega) rfl) c0 (by rw [r5]; rfl) e (h2 _)
end
