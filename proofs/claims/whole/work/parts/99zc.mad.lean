/-! WHAT THE MACHINE MAKES OF EACH PART OF A SUM -/
section
variable {b : Nat → Nat} {n k s : Nat} {P : List Nat} {K : List (Nat × Nat)} {R : TR}
theorem tkW_s {l : List Nat} (h : tkW b n s l = true) : srt b n s = 1 := by
  unfold tkW at h
  rw [Bool.and_eq_true, beq_iff_eq] at h
  exact h.1
theorem gD_ext {l l2 : List Nat} (h : l.length = l2.length) (h2 : ∀ i, i < l.length → l.getD i 0 = l2.getD i 0) : l = l2 := by
  refine List.ext_getElem h (fun i h3 h4 => ?_)
  have := h2 i h3
  rw [List.getD_eq_getElem?_getD, List.getD_eq_getElem?_getD, List.getElem?_eq_getElem h3, List.getElem?_eq_getElem h4] at this
  exact this
theorem tkW_ne {l l2 : List Nat} (h : tkW b n s l = true) (hn : l ≠ l2) : tkW b n s l2 = false := by
  cases z : tkW b n s l2 with
  | false => rfl
  | true =>
    exfalso
    unfold tkW at h z
    rw [Bool.and_eq_true, weq_iff] at h z
    exact hn (gD_ext (by omega) (fun i hi => by rw [← h.2.2 i (by omega), ← z.2.2 i (by omega)]))
theorem tkW_no {l : List Nat} (h : srt b n s ≠ 1) : tkW b n s l = false := by
  unfold tkW
  rw [show (srt b n s == 1) = false from beq_eq_false_iff_ne.mpr h, Bool.false_and]
theorem nm_no (h : srt b n s ≠ 1) : nmN b n s = -1 := rkW_f (fun w => tkW_no h) _ _
theorem rkW_all {f : List Nat → Bool} : ∀ (ws : List (List Nat)) (j : Nat), (∀ w ∈ ws, f w = false) → rkW f ws j = -1
  | [], _, _ => rfl
  | w :: ws, j, h => by
    rw [rkW, h w List.mem_cons_self, if_neg (by decide)]
    exact rkW_all ws _ (fun x hx => h x (List.mem_cons_of_mem _ hx))
theorem nm_wd {l : List Nat} (h : tkW b n s l = true) (hl : l ∉ nmW) : nmN b n s = -1 := rkW_all _ _ (fun w hw => tkW_ne h (fun e => hl (e ▸ hw)))
theorem rkW_c {f : List Nat → Bool} : ∀ (ws : List (List Nat)) (j : Nat), rkW f ws j = -1 ∨ ∃ i, i < ws.length ∧ rkW f ws j = nI (j + i)
  | [], _ => Or.inl rfl
  | w :: ws, j => by
    rw [rkW]
    split
    · exact Or.inr ⟨0, by simp, rfl⟩
    · rcases rkW_c ws (j + 1) with h | ⟨i, hi, h⟩
      · exact Or.inl h
      · exact Or.inr ⟨i + 1, by simp only [List.length_cons]; omega, by rw [h, show j + 1 + i = j + (i + 1) by omega]⟩
theorem nm_c (b : Nat → Nat) (n s : Nat) : nmN b n s = -1 ∨ ∃ i, i < 12 ∧ nmN b n s = nI i := by
  rcases rkW_c (f := tkW b n s) nmW 0 with h | ⟨i, hi, h⟩
  · exact Or.inl h
  · exact Or.inr ⟨i, hi, by rw [nmN, h, Nat.zero_add]⟩
theorem nI_0le {i : Nat} (h : i < 2 ^ 31) : (0 : Int32) ≤ nI i := nI_le (a := 0) (b := i) (by omega) h
theorem nm_m1 : ¬ (0 : Int32) ≤ -1 := by decide
theorem stp_f : stp b n k (s, P, false, K) = stB b n k s P K := by unfold stp; rw [if_neg (by simp)]
theorem stp_t : stp b n k (s, P, true, K) = stW b n s P K := by unfold stp; rw [if_pos rfl]
/-- one that stands alone -/
theorem one_num (h : srt b n s = 2) (h2 : nuN b n s ≤ 9999) : fOne b n k s P (nxs b n s) [(0, nuN b n s)] := fun K R H => by
  refine MR.go ?_ H
  rw [stp_f]; unfold stB emq
  rw [if_pos h, if_neg (by omega)]
theorem one_num_f (h : srt b n s = 2) (h2 : 9999 < nuN b n s) : fF b n k s P 2 s := fun K => by
  refine MR.en ?_
  rw [stp_f]; unfold stB
  rw [if_pos h, if_pos h2]
theorem one_nam {i : Nat} (hi : i < 12) (h : nmN b n s = nI i) (h2 : iof (nI k) (nI i) = true) : fOne b n k s P (nxs b n s) [(1, i)] := fun K R H => by
  have z : srt b n s ≠ 2 := fun e => by
    have := nm_no (b := b) (n := n) (s := s) (by omega)
    rw [h] at this
    exact (nI_pos (n := i) (by omega)) (by rw [this]; decide)
  refine MR.go ?_ H
  rw [stp_f]; unfold stB emq
  rw [if_neg z, h, if_pos (nI_0le (by omega)), if_pos h2, nI_clamp (by omega)]
theorem one_nam_f {i : Nat} (hi : i < 12) (h : nmN b n s = nI i) (h2 : iof (nI k) (nI i) = false) : fF b n k s P 5 s := fun K => by
  have z : srt b n s ≠ 2 := fun e => by
    have := nm_no (b := b) (n := n) (s := s) (by omega)
    rw [h] at this
    exact (nI_pos (n := i) (by omega)) (by rw [this]; decide)
  refine MR.en ?_
  rw [stp_f]; unfold stB
  rw [if_neg z, h, if_pos (nI_0le (by omega)), if_neg (by rw [h2]; decide)]
theorem one_no (h : srt b n s ≠ 2) (h1 : nmN b n s = -1) (h2 : srt b n s ≠ 40) (h3 : srt b n s ≠ 45) (h4 : tkW b n s (wdI 1) = false) (h5 : tkW b n s (wdI 2) = false) (h6 : tkW b n s (wdI 3) = true → iaP P = false) : fF b n k s P 1 s := fun K => by
  refine MR.en ?_
  rw [stp_f]; unfold stB
  have : (tkW b n s (wdI 3) && iaP P) = false := by
    cases z : tkW b n s (wdI 3) with
    | false => rfl
    | true => rw [h6 z]; rfl
  rw [if_neg h, h1, if_neg nm_m1, if_neg h2, if_neg h3, if_neg (by rw [h4]; decide), if_neg (by rw [h5]; decide), if_neg (by rw [this]; decide)]
/-- what opens: the sign or word, and what is piled -/
def opW (b : Nat → Nat) (n s : Nat) (P : List Nat) (c : Nat) : Prop := (srt b n s = 40 ∧ c = 40) ∨ (srt b n s = 45 ∧ c = 4) ∨ (tkW b n s (wdI 1) = true ∧ c = 2) ∨ (tkW b n s (wdI 2) = true ∧ c = 41) ∨ (tkW b n s (wdI 3) = true ∧ iaP P = true ∧ c = 20)
theorem wdI_n : (wdI 1 ∉ nmW ∧ wdI 2 ∉ nmW ∧ wdI 3 ∉ nmW) ∧ wdI 2 ≠ wdI 1 ∧ wdI 3 ≠ wdI 1 ∧ wdI 3 ≠ wdI 2 ∧ wdI 4 ≠ wdI 5 ∧ wdI 6 ≠ wdI 4 ∧ wdI 6 ≠ wdI 5 ∧ wdI 5 ≠ wdI 4 := by decide +kernel
theorem op_st {c : Nat} (h : opW b n s P c) : stB b n k s P K = opq b n s P K c := by
  unfold stB
  rcases h with ⟨h, rfl⟩ | ⟨h, rfl⟩ | ⟨h, rfl⟩ | ⟨h, rfl⟩ | ⟨h, h2, rfl⟩
  · rw [if_neg (by omega), nm_no (by omega), if_neg nm_m1, if_pos h]
  · rw [if_neg (by omega), nm_no (by omega), if_neg nm_m1, if_neg (by omega), if_pos h]
  · have := tkW_s h
    rw [if_neg (by omega), nm_wd h wdI_n.1.1, if_neg nm_m1, if_neg (by omega), if_neg (by omega), if_pos h]
  · have := tkW_s h
    rw [if_neg (by omega), nm_wd h wdI_n.1.2.1, if_neg nm_m1, if_neg (by omega), if_neg (by omega), tkW_ne h wdI_n.2.1, if_neg (by decide), if_pos h]
  · have := tkW_s h
    rw [if_neg (by omega), nm_wd h wdI_n.1.2.2, if_neg nm_m1, if_neg (by omega), if_neg (by omega), tkW_ne h wdI_n.2.2.1, if_neg (by decide), tkW_ne h wdI_n.2.2.2.1, if_neg (by decide), h, h2, if_pos (by decide)]
theorem op_go {c : Nat} (h : opW b n s P c) (hd : cnP P ≠ 8) (H : MR b n k (nxs b n s) (c :: P) false K R) : MR b n k s P false K R := by
  refine MR.go ?_ H
  rw [stp_f, op_st h, opq, if_neg hd]
theorem op_dp {c : Nat} (h : opW b n s P c) (hd : cnP P = 8) : fF b n k s P 3 s := fun K => by
  refine MR.en ?_
  rw [stp_f, op_st h, opq, if_pos hd]
theorem op_f {c f s2 : Nat} (h : opW b n s P c) (hd : cnP P ≠ 8) (H : fF b n k (nxs b n s) (c :: P) f s2) : fF b n k s P f s2 := fun K => op_go h hd (H K)
theorem one_un {c s2 : Nat} {mc : List (Nat × Nat)} (h : opW b n s P c) (hc : c = 4 ∨ c = 2) (hd : cnP P ≠ 8) (H : fOne b n k (nxs b n s) (c :: P) s2 mc) : fOne b n k s P s2 (mc ++ [(c, 0)]) := fun K R Z => by
  refine op_go h hd (H K R ?_)
  rw [stl_1 (by rcases hc with rfl | rfl <;> decide)]
  rw [← List.append_assoc] at Z
  exact Z
/-- what is open is shut or goes on -/
theorem stW_n {P1 : List Nat} {K1 : List (Nat × Nat)} (hb : btP b n s P1 = 0) (hp : ptP b n s P1 = none) (ho : onP P1 ≠ 0) : MR b n k s P1 true K1 (flt 1 s) := by
  refine MR.en ?_
  rw [stp_t]; unfold stW
  rw [if_pos hb, hp]
  simp only
  rw [if_neg ho]
theorem stW_0 {q : Nat} {P1 : List Nat} {K1 : List (Nat × Nat)} (hb : btP b n s P1 = 0) (hp : ptP b n s P1 = some 0) (e : stl 1 P1 K1 = (q :: P, K)) (H : MR b n k (nxs b n s) (stl 7 P (K ++ (if onP P1 = 43 then [(3, 0)] else []))).1 true (stl 7 P (K ++ (if onP P1 = 43 then [(3, 0)] else []))).2 R) : MR b n k s P1 true K1 R := by
  refine MR.go ?_ H
  rw [stp_t]; unfold stW
  rw [if_pos hb, hp, e]
  rfl
theorem stW_1 {q x : Nat} {P1 : List Nat} {K1 : List (Nat × Nat)} (hb : btP b n s P1 = 0) (hp : ptP b n s P1 = some (x + 1)) (e : stl 1 P1 K1 = (q :: P, K)) (H : MR b n k (nxs b n s) ((x + 1) :: P) false K R) : MR b n k s P1 true K1 R := by
  refine MR.go ?_ H
  rw [stp_t]; unfold stW
  rw [if_pos hb, hp, e]
  rfl
theorem lt_op {c r : Nat} (h : 40 ≤ c) (hr : 1 ≤ r) : ltP (c :: P) r := Or.inr (by show rkN c < r; unfold rkN; rw [if_pos h]; omega)
theorem on_op {c : Nat} (h : 40 ≤ c) : onP (c :: P) = c := by rw [onP, if_pos h]
theorem bt_op {c : Nat} {P1 : List Nat} (h : noS b n s) (hc : c ≠ 41) (e : onP P1 = c) : btP b n s P1 = 0 := by rw [btP_n h, e, if_neg hc]
/-- a sum in what is open -/
theorem sum_bad {c s1 : Nat} {m : List (Nat × Nat)} (h : fR 5 b n k s (c :: P) s1 m) (hn : noS b n s1) (hc : (c = 40 ∧ srt b n s1 ≠ 41) ∨ (c = 42 ∧ tkW b n s1 (wdI 7) = false) ∨ (c = 43 ∧ tkW b n s1 (wdI 8) = false)) : fF b n k s (c :: P) 1 s1 := fun K => by
  have c40 : 40 ≤ c := by rcases hc with ⟨rfl, -⟩ | ⟨rfl, -⟩ | ⟨rfl, -⟩ <;> decide
  refine h K _ (fun P1 K1 e => ?_)
  have ho : onP P1 = c := (st_on (by omega) e).trans (on_op c40)
  refine stW_n (bt_op hn (by omega) ho) ?_ (by omega)
  unfold ptP
  rw [ho]
  rcases hc with ⟨rfl, hc⟩ | ⟨rfl, hc⟩ | ⟨rfl, hc⟩
  · rw [if_pos rfl, if_neg hc]
  · rw [if_neg (by decide), if_neg (by decide), if_pos rfl, hc]; rfl
  · rw [if_neg (by decide), if_neg (by decide), if_neg (by decide), if_pos rfl, hc]; rfl
theorem one_par {s1 : Nat} {m : List (Nat × Nat)} (ho : opW b n s P 40) (hd : cnP P ≠ 8) (h : fR 5 b n k (nxs b n s) (40 :: P) s1 m) (hn : noS b n s1) (hc : srt b n s1 = 41) : fOne b n k s P (nxs b n s1) m := fun K R Z => by
  refine op_go ho hd (h K R (fun P1 K1 e => ?_))
  have ho : onP P1 = 40 := st_on (by omega) e
  refine stW_0 (q := 40) (P := P) (K := K ++ m) (bt_op hn (by omega) ho) ?_ (st_dn (by omega) e (lt_op (by omega) (by omega))) ?_
  · unfold ptP
    rw [ho, if_pos rfl, if_pos hc]
  · rw [ho, if_neg (by decide), List.append_nil]
    exact Z
theorem sum_el {s1 : Nat} {m : List (Nat × Nat)} (h : fR 5 b n k s (42 :: P) s1 m) (hn : noS b n s1) (hc : tkW b n s1 (wdI 7) = true) (H : MR b n k (nxs b n s1) (43 :: P) false (K ++ m) R) : MR b n k s (42 :: P) false K R := by
  refine h K R (fun P1 K1 e => ?_)
  have ho : onP P1 = 42 := st_on (by omega) e
  refine stW_1 (q := 42) (P := P) (K := K ++ m) (x := 42) (bt_op hn (by omega) ho) ?_ (st_dn (by omega) e (lt_op (by omega) (by omega))) H
  unfold ptP
  rw [ho, if_neg (by decide), if_neg (by decide), if_pos rfl, if_pos hc]
theorem sum_en {s1 : Nat} {m : List (Nat × Nat)} (h : fR 5 b n k s (43 :: P) s1 m) (hn : noS b n s1) (hc : tkW b n s1 (wdI 8) = true) (H : MR b n k (nxs b n s1) (stl 7 P (K ++ m ++ [(3, 0)])).1 true (stl 7 P (K ++ m ++ [(3, 0)])).2 R) : MR b n k s (43 :: P) false K R := by
  refine h K R (fun P1 K1 e => ?_)
  have ho : onP P1 = 43 := st_on (by omega) e
  refine stW_0 (q := 43) (P := P) (K := K ++ m) (bt_op hn (by omega) ho) ?_ (st_dn (by omega) e (lt_op (by omega) (by omega))) ?_
  · unfold ptP
    rw [ho, if_neg (by decide), if_neg (by decide), if_neg (by decide), if_pos rfl, if_pos hc]
  · rw [ho, if_pos rfl]
    exact H
/-- a whole law -/
theorem sum_top {s1 : Nat} {m : List (Nat × Nat)} (h : fR 5 b n k s [] s1 m) (hn : noS b n s1) : MR b n k s [] false [] (fin' s1 m) := by
  refine h [] _ (fun P1 K1 e => MR.en ?_)
  have ho : onP P1 = 0 := st_on (by omega) e
  rw [stp_t]; unfold stW
  rw [if_pos (bt_op hn (by omega) ho)]
  have hp : ptP b n s1 P1 = none := by unfold ptP; rw [ho]; rfl
  rw [hp]
  simp only
  rw [if_pos ho, st_dn (r := 1) (by omega) e (Or.inl rfl)]
  rfl
/-- questions -/
def fA (b : Nat → Nat) (n k s : Nat) (P : List Nat) (s2 : Nat) (mc : List (Nat × Nat)) : Prop := ∀ K R, (∀ P1 K1, stl 3 P1 K1 = stl 3 P (K ++ mc) → icP P1 = true → onP P1 = 41 → MR b n k s2 P1 true K1 R) → MR b n k s P false K R
def fQ (r : Nat) (b : Nat → Nat) (n k s : Nat) (P : List Nat) (s2 : Nat) (mc : List (Nat × Nat)) : Prop := ∀ K R, (∀ P1 K1, stl r P1 K1 = (P, K ++ mc) → icP P1 = true → onP P1 = 41 → MR b n k s2 P1 true K1 R) → MR b n k s P false K R
theorem ia_on (h : iaP P = true) : onP P = 41 := by
  unfold iaP at h
  rw [Bool.and_eq_true, beq_iff_eq] at h
  exact h.1
theorem ia_rk (h : iaP P = true) : P ≠ [] ∧ rkN (tpP P) ≤ 3 := by
  have ho := ia_on h
  unfold iaP at h
  rw [Bool.and_eq_true, Bool.or_eq_true, Bool.and_eq_true, decide_eq_true_iff, decide_eq_true_iff, decide_eq_true_iff] at h
  refine ⟨fun e => (by rw [e] at ho; exact absurd ho (by decide)), ?_⟩
  rcases h.2 with z | z
  · unfold rkN; rw [if_pos z]; omega
  · exact z.2
theorem ia_ic (h : iaP P = true) : icP P = false := by
  have := ia_rk h
  cases P with
  | nil => rfl
  | cons p P =>
    have z : rkN p ≤ 3 := this.2
    rw [icP, if_pos (by omega)]
    exact beq_eq_false_iff_ne.mpr (by omega)
theorem ia_lt {r : Nat} (h : iaP P = true) (hr : 4 ≤ r) : ltP P r := Or.inr (by have := (ia_rk h).2; omega)
theorem cm_rk {t c : Nat} (h : cmN t = c) (hc : c ≠ 0) : rkN c = 4 ∧ c < 40 := by
  unfold cmN at h
  subst h
  split
  · decide
  · split
    · decide
    · split
      · decide
      · split
        · decide
        · split
          · decide
          · split
            · decide
            · rename_i h1 h2 h3 h4 h5 h6
              exfalso
              apply hc
              rw [if_neg h1, if_neg h2, if_neg h3, if_neg h4, if_neg h5, if_neg h6]
theorem ask_cm {c s1 s2 : Nat} {m1 m2 : List (Nat × Nat)} (hi : iaP P = true) (h : fR 5 b n k s P s1 m1) (hn : noS b n s1) (hc : cmN (srt b n s1) = c) (c0 : c ≠ 0) (h2 : fR 5 b n k (nxs b n s1) (c :: P) s2 m2) : fA b n k s P s2 (m1 ++ m2 ++ [(c, 0)]) := fun K R H => by
  obtain ⟨r4, c40⟩ := cm_rk hc c0
  refine h K R (fun P1 K1 e => ?_)
  refine go_bt (c := c) (r := 5) ?_ c0 (by rw [r4]; rfl) e ?_
  · rw [btP_n hn, st_on (by omega) e, ia_on hi, if_pos rfl, st_ic (by omega) e, ia_ic hi, if_neg (by decide), hc]
  · refine h2 _ _ (fun P2 K2 e2 => H P2 K2 ?_ ?_ ?_)
    · rw [← stl_stl (r := 3) (r2 := 5) (by omega), e2]
      show stl 3 (c :: P) (K ++ m1 ++ m2) = _
      rw [stl_1 (by omega)]
      simp only [List.append_assoc]
    · rw [st_ic (by omega) e2, icP, if_pos (by omega), r4]; rfl
    · rw [st_on (by omega) e2, onP, if_neg (by omega)]; exact ia_on hi
theorem ask_f {c s1 f s2 : Nat} {m1 : List (Nat × Nat)} (hi : iaP P = true) (h : fR 5 b n k s P s1 m1) (hn : noS b n s1) (hc : cmN (srt b n s1) = c) (c0 : c ≠ 0) (h2 : fF b n k (nxs b n s1) (c :: P) f s2) : fF b n k s P f s2 := fun K => by
  obtain ⟨r4, c40⟩ := cm_rk hc c0
  refine h K _ (fun P1 K1 e => ?_)
  refine go_bt (c := c) (r := 5) ?_ c0 (by rw [r4]; rfl) e (h2 _)
  rw [btP_n hn, st_on (by omega) e, ia_on hi, if_pos rfl, st_ic (by omega) e, ia_ic hi, if_neg (by decide), hc]
theorem ask_bad {s1 : Nat} {m1 : List (Nat × Nat)} (hi : iaP P = true) (h : fR 5 b n k s P s1 m1) (hn : noS b n s1) (hc : cmN (srt b n s1) = 0) : fF b n k s P 1 s1 := fun K => by
  refine h K _ (fun P1 K1 e => ?_)
  have ho := (st_on (by omega) e).trans (ia_on hi)
  have hq := (st_ic (by omega) e).trans (ia_ic hi)
  refine stW_n ?_ ?_ (by rw [ho]; decide)
  · rw [btP_n hn, ho, if_pos rfl, hq, if_neg (by decide), hc]
  · unfold ptP
    rw [ho, if_neg (by decide), if_pos rfl, hq, Bool.and_false, if_neg (by decide)]
theorem ia_not (h : iaP P = true) : iaP (20 :: P) = true := by
  have e : onP (20 :: P) = 41 := show onP P = 41 from ia_on h
  unfold iaP
  rw [e]
  rfl
theorem ask_not {s2 : Nat} {mc : List (Nat × Nat)} (hi : iaP P = true) (h : tkW b n s (wdI 3) = true) (hd : cnP P ≠ 8) (H : fA b n k (nxs b n s) (20 :: P) s2 mc) : fA b n k s P s2 (mc ++ [(20, 0)]) := fun K R Z => by
  refine op_go (c := 20) (Or.inr (Or.inr (Or.inr (Or.inr ⟨h, hi, rfl⟩)))) hd (H K R (fun P1 K1 e => Z P1 K1 ?_))
  rw [e, stl_1 (by decide), List.append_assoc]
theorem both_0 {s2 : Nat} {mc : List (Nat × Nat)} (h : fA b n k s P s2 mc) (hl : ltP P 2) : fQ 2 b n k s P s2 mc := fun K R H => h K R (fun P1 K1 e => H P1 K1 (by
  rw [← stl_stl (r := 2) (r2 := 3) (by omega), e, stl_lt (r := 3) (hl.elim Or.inl (fun z => Or.inr (by omega)))]
  exact stl_lt hl))
theorem both_s {s1 s2 : Nat} {m1 m2 : List (Nat × Nat)} (h : fQ 2 b n k s P s1 m1) (hn : noS b n s1) (hw : tkW b n s1 (wdI 4) = true) (h2 : fA b n k (nxs b n s1) (21 :: P) s2 m2) (hl : ltP P 2) : fQ 2 b n k s P s2 (m1 ++ m2 ++ [(21, 0)]) := fun K R H => by
  refine h K R (fun P1 K1 e hc ho => ?_)
  refine go_bt (c := 21) (r := 2) ?_ (by decide) rfl e ?_
  · rw [btP_n hn, ho, if_pos rfl, hc, if_pos rfl, hw, if_pos rfl]
  · refine h2 _ _ (fun P2 K2 e2 => H P2 K2 ?_)
    rw [← stl_stl (r := 2) (r2 := 3) (by omega), e2, stl_lt (P := 21 :: P) (r := 3) (Or.inr (show rkN 21 < 3 by decide))]
    show stl 2 (21 :: P) (K ++ m1 ++ m2) = _
    rw [stl_1 (by decide), stl_lt hl]
    simp only [List.append_assoc]
theorem both_f {s1 f s2 : Nat} {m1 : List (Nat × Nat)} (h : fQ 2 b n k s P s1 m1) (hn : noS b n s1) (hw : tkW b n s1 (wdI 4) = true) (h2 : fF b n k (nxs b n s1) (21 :: P) f s2) : fF b n k s P f s2 := fun K => by
  refine h K _ (fun P1 K1 e hc ho => ?_)
  refine go_bt (c := 21) (r := 2) ?_ (by decide) rfl e (h2 _)
  rw [btP_n hn, ho, if_pos rfl, hc, if_pos rfl, hw, if_pos rfl]
theorem eith_0 {s2 : Nat} {mc : List (Nat × Nat)} (h : fQ 2 b n k s P s2 mc) (hl : ltP P 1) : fQ 1 b n k s P s2 mc := fun K R H => h K R (fun P1 K1 e => H P1 K1 (st_dn (by omega) e hl))
theorem eith_s {s1 s2 : Nat} {m1 m2 : List (Nat × Nat)} (h : fQ 1 b n k s P s1 m1) (hn : noS b n s1) (hw : tkW b n s1 (wdI 5) = true) (h2 : fQ 2 b n k (nxs b n s1) (22 :: P) s2 m2) (hl : ltP P 1) : fQ 1 b n k s P s2 (m1 ++ m2 ++ [(22, 0)]) := fun K R H => by
  refine h K R (fun P1 K1 e hc ho => ?_)
  refine go_bt (c := 22) (r := 1) ?_ (by decide) rfl e ?_
  · rw [btP_n hn, ho, if_pos rfl, hc, if_pos rfl, tkW_ne hw wdI_n.2.2.2.2.2.2.2, if_neg (by decide), hw, if_pos rfl]
  · refine h2 _ _ (fun P2 K2 e2 => H P2 K2 ?_)
    rw [← stl_stl (r := 1) (r2 := 2) (by omega), e2]
    show stl 1 (22 :: P) (K ++ m1 ++ m2) = _
    rw [stl_1 (by decide), stl_lt hl]
    simp only [List.append_assoc]
theorem eith_f {s1 f s2 : Nat} {m1 : List (Nat × Nat)} (h : fQ 1 b n k s P s1 m1) (hn : noS b n s1) (hw : tkW b n s1 (wdI 5) = true) (h2 : fF b n k (nxs b n s1) (22 :: P) f s2) : fF b n k s P f s2 := fun K => by
  refine h K _ (fun P1 K1 e hc ho => ?_)
  refine go_bt (c := 22) (r := 1) ?_ (by decide) rfl e (h2 _)
  rw [btP_n hn, ho, if_pos rfl, hc, if_pos rfl, tkW_ne hw wdI_n.2.2.2.2.2.2.2, if_neg (by decide), hw, if_pos rfl]
theorem ia_and (h : onP P = 41) : iaP (21 :: P) = true ∧ iaP (22 :: P) = true := by
  have e : onP (21 :: P) = 41 := h
  have e2 : onP (22 :: P) = 41 := h
  unfold iaP
  rw [e, e2]
  exact ⟨rfl, rfl⟩
theorem ia_41 : iaP (41 :: P) = true := rfl
/-- what is chosen -/
theorem ask_th {s1 : Nat} {m : List (Nat × Nat)} (h : fQ 1 b n k s (41 :: P) s1 m) (hn : noS b n s1) (hc : tkW b n s1 (wdI 6) = true) (H : MR b n k (nxs b n s1) (42 :: P) false (K ++ m) R) : MR b n k s (41 :: P) false K R := by
  refine h K R (fun P1 K1 e hq ho => ?_)
  refine stW_1 (q := 41) (P := P) (K := K ++ m) (x := 41) ?_ ?_ e H
  · rw [btP_n hn, ho, if_pos rfl, hq, if_pos rfl, tkW_ne hc wdI_n.2.2.2.2.2.1, if_neg (by decide), tkW_ne hc wdI_n.2.2.2.2.2.2.1, if_neg (by decide)]
  · unfold ptP
    rw [ho, if_neg (by decide), if_pos rfl, hc, hq, if_pos (by decide)]
theorem th_bad {s1 : Nat} {m : List (Nat × Nat)} (h : fQ 1 b n k s (41 :: P) s1 m) (hn : noS b n s1) (h4 : tkW b n s1 (wdI 4) = false) (h5 : tkW b n s1 (wdI 5) = false) (hc : tkW b n s1 (wdI 6) = false) : fF b n k s (41 :: P) 1 s1 := fun K => by
  refine h K _ (fun P1 K1 e hq ho => ?_)
  refine stW_n ?_ ?_ (by rw [ho]; decide)
  · rw [btP_n hn, ho, if_pos rfl, hq, if_pos rfl, h4, if_neg (by decide), h5, if_neg (by decide)]
  · unfold ptP
    rw [ho, if_neg (by decide), if_pos rfl, hc, Bool.false_and, if_neg (by decide)]
end
