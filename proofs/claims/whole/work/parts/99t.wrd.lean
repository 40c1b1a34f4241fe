/-! words and numbers as the class reads them -/
section
variable {d : Nat} {M N : ev_Mem}
/-- whether the letters from s to e are those of l -/
def weq (b : Nat → Nat) (s e : Nat) (l : List Nat) : Bool := (e - s == l.length) && al (fun i => b (s + i) == l.getD i 0) l.length
/-- the token at s is the word l -/
def tkW (b : Nat → Nat) (n s : Nat) (l : List Nat) : Bool := (srt b n s == 1) && weq b s (nxt b n s) l
theorem srt_lt {b : Nat → Nat} {n s : Nat} (hb : ∀ i, i < n → b i < 256) : srt b n s < 256 := by
  unfold srt
  split
  · omega
  · split
    · split <;> omega
    · exact soN_lt _ (hb s (by omega))
theorem tk_by {n i : Nat} (h : tpK M n) (hi : i < n) : byM M i < 256 := (tp_b h hi).2
theorem kX4_isToken {n s i : Nat} (hi : i < 15) (ht : tpK M n) (hs : s ≤ n) (hk : tkS M (byM M) n s) : Cl LX (d + 4) mX4_isToken [.ref 81, .ref (1010 + i)] M (ev_R (some (.int (bi (tkW (byM M) n s (sxB.getD i []))))) M) := by
  have n3 := ht.1
  obtain ⟨h5, h6, h7⟩ := hk
  have el := nxt_le (b := byM M) (n := n) (s := s) hs
  have sl := srt_lt (b := byM M) (n := n) (s := s) (fun i hi => tk_by ht hi)
  have xl := sxl_lt hi
  have fin : ∀ q : Bool, tkW (byM M) n s (sxB.getD i []) = q → ev_R (some (.int (bi (tkW (byM M) n s (sxB.getD i []))))) M (some (.int (bi q))) M := fun q e => by rw [e]; exact ⟨rfl, rfl⟩
  refine Cl_of rfl (Nat.le_of_ble_eq_true rfl) rfl (gX4_isToken_0 (d := d + 2) hi ?_)
  rw [h5, h6, h7, pk_sub el.1]
  refine ⟨fun z => ?_, fun z => ⟨fun y => ?_, fun y => ?_⟩⟩
  · refine fin false ?_
    unfold tkW
    rw [show (srt (byM M) n s == 1) = false from beq_eq_false_iff_ne.mpr (fun q => z (by rw [q]; rfl)), Bool.false_and]
  · have z1 : srt (byM M) n s = 1 := (nI_eq (b := 1) (by omega) (by omega)).mp z
    have y1 : nxt (byM M) n s - s = sxl i := (nI_eq (by omega) (by omega)).mp y
    have ev : tkW (byM M) n s (sxB.getD i []) = al (fun j => byM M (s + j) == sxc i j) (sxl i) := by
      unfold tkW weq
      rw [z1, y1]
      show ((1 == 1) && ((sxl i == sxl i) && al _ (sxl i))) = _
      rw [beq_self_eq_true, beq_self_eq_true, Bool.true_and, Bool.true_and]
      rfl
    have lp : ∀ j, j ≤ sxl i → (∀ k, k < j → byM M (s + k) = sxc i k) → Ev LX (d + 4) mX4_isToken 28 [some (.ref 81), some (.ref (1010 + i)), some (.int (nI j))] [] M (ev_R (some (.int (bi (tkW (byM M) n s (sxB.getD i []))))) M) := by
      refine dn ?_ (fun j hj ih => ?_)
      · intro ha
        refine gX4_isToken_28 (d := d) hi ⟨fun _ => fin true ?_, fun z => absurd (nI_le (Nat.le_refl _) (by omega)) z⟩
        rw [ev]
        exact al_t.mpr (fun k hk => by rw [ha k hk]; exact beq_self_eq_true _)
      · intro ha
        refine gX4_isToken_28 (d := d) hi ⟨fun z => absurd z (nI_ge hj (by omega)), fun _ => ?_⟩
        obtain ⟨c1, c2⟩ := tp_b ht (i := s + j) (by omega)
        rw [h6, nI_add, nI_clamp (by omega), nI_clamp (by omega), c1]
        have c3 := sxc_lt hi hj
        refine ⟨vp_in_nI (by omega) (by omega), vp_in_nI (by omega) (by omega), fun w => ?_, fun w => fin false ?_⟩
        · rw [nI_1]
          refine ih (fun k hk => ?_)
          by_cases e : k = j
          · rw [e]; exact (nI_eq (by omega) (by omega)).mp w
          · exact ha k (by omega)
        · rw [ev]
          exact al_f hj (beq_eq_false_iff_ne.mpr (fun q => w (by rw [q])))
    exact lp 0 (by omega) (fun k hk => absurd hk (by omega))
  · refine fin false ?_
    unfold tkW weq
    rw [show (nxt (byM M) n s - s == (sxB.getD i []).length) = false from beq_eq_false_iff_ne.mpr (fun q => y (by rw [q]; rfl)), Bool.false_and, Bool.and_false]
/-- the number that figures make, as the class has it: never above 10000 -/
def cnK (b : Nat → Nat) (s : Nat) : Nat → Nat
  | 0 => 0
  | k + 1 => min (cnK b s k * 10 + (b (s + k) - 48)) 10000
theorem cnK_le {b : Nat → Nat} {s : Nat} : ∀ k, cnK b s k ≤ 10000
  | 0 => by rw [cnK]; omega
  | k + 1 => by rw [cnK]; omega
/-- the two numbers are alike, or both too high -/
theorem num_rel {b : Nat → Nat} {s : Nat} : ∀ k, (∀ i, i < k → 48 ≤ b (s + i) ∧ b (s + i) ≤ 57) → (cnK b s k = nuK b s k ∧ nuK b s k ≤ 9999) ∨ (cnK b s k = 10000 ∧ 10000 ≤ nuK b s k)
  | 0, _ => Or.inl ⟨rfl, by rw [nuK]; omega⟩
  | k + 1, h => by
    have ih := num_rel (b := b) (s := s) k (fun i hi => h i (by omega))
    have := h k (by omega)
    rw [cnK, nuK]
    rcases ih with ⟨i1, i2⟩ | ⟨i1, i2⟩
    · rw [if_neg (by omega), i1]
      rcases Nat.lt_or_ge (10 * nuK b s k + (b (s + k) - 48)) 10000 with z | z
      · exact Or.inl (by omega)
      · exact Or.inr (by omega)
    · refine Or.inr ⟨by rw [i1]; omega, ?_⟩
      split <;> omega
/-- all of a token of figures are figures, all of a word letters -/
theorem srt_2 {b : Nat → Nat} {n s : Nat} (hb : ∀ i, i < n → b i < 256) (h : srt b n s = 2) : s < n ∧ soN (b s) = 2 ∧ nxt b n s = rn (fun i => soN (b i) == 2) n s := by
  have hs : s < n := by
    rcases Nat.lt_or_ge s n with z | z
    · exact z
    · unfold srt at h; rw [if_pos z] at h; omega
  have h2 : soN (b s) = 2 := by
    unfold srt at h
    rw [if_neg (show ¬ n ≤ s by omega)] at h
    split at h
    · split at h <;> omega
    · exact h
  refine ⟨hs, h2, ?_⟩
  unfold nxt
  rw [if_neg (show ¬ n ≤ s by omega), if_neg (by omega), if_pos h2, rn_s hs (by simp only [beq_iff_eq]; exact h2)]
theorem srt_1 {b : Nat → Nat} {n s : Nat} (hb : ∀ i, i < n → b i < 256) (h : srt b n s = 1) : s < n ∧ soN (b s) = 1 ∧ nxt b n s = rn (fun i => soN (b i) == 1) n s := by
  have hs : s < n := by
    rcases Nat.lt_or_ge s n with z | z
    · exact z
    · unfold srt at h; rw [if_pos z] at h; omega
  have h2 : soN (b s) = 1 := by
    unfold srt at h
    rw [if_neg (show ¬ n ≤ s by omega)] at h
    split at h
    · split at h <;> omega
    · exact h
  refine ⟨hs, h2, ?_⟩
  unfold nxt
  rw [if_neg (show ¬ n ≤ s by omega), if_pos h2, rn_s hs (by simp only [beq_iff_eq]; exact h2)]
theorem dig_all {b : Nat → Nat} {n s : Nat} (hb : ∀ i, i < n → b i < 256) (h : srt b n s = 2) : ∀ i, i < nxt b n s - s → 48 ≤ b (s + i) ∧ b (s + i) ≤ 57 := fun i hi => by
  obtain ⟨h1, h2, h3⟩ := srt_2 hb h
  have el := nxt_le (b := b) (n := n) (s := s) (by omega)
  have := (rn_ok (q := fun i => soN (b i) == 2) (n := n) (p := s)).2 (s + i) (by omega) (by rw [← h3]; omega)
  simp only [beq_iff_eq] at this
  exact isD_le _ (hb _ (by omega)) ((soD _ (hb _ (by omega))).mp this)
theorem let_all {b : Nat → Nat} {n s : Nat} (hb : ∀ i, i < n → b i < 256) (h : srt b n s = 1) : ∀ i, i < nxt b n s - s → 65 ≤ b (s + i) ∧ b (s + i) ≤ 122 := fun i hi => by
  obtain ⟨h1, h2, h3⟩ := srt_1 hb h
  have el := nxt_le (b := b) (n := n) (s := s) (by omega)
  have := (rn_ok (q := fun i => soN (b i) == 1) (n := n) (p := s)).2 (s + i) (by omega) (by rw [← h3]; omega)
  simp only [beq_iff_eq] at this
  exact isL_le _ (hb _ (by omega)) ((soL _ (hb _ (by omega))).mp this)
theorem kX4_number {n s : Nat} (ht : tpK M n) (hs : s ≤ n) (hk : tkS M (byM M) n s) (h2 : srt (byM M) n s = 2) : Cl LX (d + 1) mX4_number [.ref 81] M (ev_R (some (.int (nI (cnK (byM M) s (nxt (byM M) n s - s))))) M) := by
  have n3 := ht.1
  obtain ⟨h5, h6, h7⟩ := hk
  have el := nxt_le (b := byM M) (n := n) (s := s) hs
  have da := dig_all (fun i hi => tk_by ht hi) h2
  refine Cl_of rfl (Nat.le_of_ble_eq_true rfl) rfl (gX4_number_0 ?_)
  rw [h6]
  have lp : ∀ k, k ≤ nxt (byM M) n s - s → Ev LX (d + 1) mX4_number 7 [some (.ref 81), some (.int (nI (cnK (byM M) s k))), some (.int (nI (s + k)))] [] M (ev_R (some (.int (nI (cnK (byM M) s (nxt (byM M) n s - s))))) M) := by
    refine dn ?_ (fun k hk ih => ?_)
    · refine gX4_number_7 ⟨fun _ => ⟨rfl, rfl⟩, fun z => absurd ?_ z⟩
      rw [h7]; exact nI_le (by omega) (by omega)
    · refine gX4_number_7 ⟨fun z => ?_, fun _ => ?_⟩
      · rw [h7] at z; exact absurd z (nI_ge (by omega) (by omega))
      · obtain ⟨c1, c2⟩ := tp_b ht (i := s + k) (by omega)
        have := da k hk
        have cl := cnK_le (b := byM M) (s := s) k
        rw [nI_clamp (by omega), c1]
        refine ⟨vp_in_nI (by omega) (by omega), fun v ev => ?_⟩
        rw [show (10 : Int32) = nI 10 from rfl, pk_mul, nI_add, show (48 : Int32) = nI 48 from rfl, pk_sub (by omega), show (10000 : Int32) = nI 10000 from rfl, imin_nI (by omega) (by omega)] at ev
        rw [ev, nI_1, show cnK (byM M) s k * 10 + byM M (s + k) - 48 = cnK (byM M) s k * 10 + (byM M (s + k) - 48) by omega]
        rw [cnK] at ih
        exact ih
  exact lp 0 (by omega)
/-- which of the words the token is -/
def rkW (f : List Nat → Bool) : List (List Nat) → Nat → Int32
  | [], _ => -1
  | w :: ws, k => if f w = true then nI k else rkW f ws (k + 1)
/-- as the class goes through a row of words with blanks between them -/
def rkF (b : Nat → Nat) (s e : Nat) (w0 : Bool) : List Nat → Nat → Nat → Bool → Int32
  | [], rank, at', alk => if (alk && at' == e) = true then nI rank else -1
  | c :: cs, rank, at', alk => if c = 32 then (if (alk && at' == e) = true then nI rank else rkF b s e w0 cs (rank + 1) s w0) else rkF b s e w0 cs rank (at' + 1) (alk && (decide (at' < e) && b at' == c))
theorem rkF_no {b : Nat → Nat} {s e : Nat} : ∀ (l : List Nat) (k a : Nat), rkF b s e false l k a false = -1
  | [], k, a => by rw [rkF, Bool.false_and, if_neg (by decide)]
  | c :: l, k, a => by
    rw [rkF]
    split
    · rw [Bool.false_and, if_neg (by decide)]; exact rkF_no l _ _
    · rw [Bool.false_and]; exact rkF_no l _ _
theorem rkF_w {b : Nat → Nat} {s e : Nat} {w0 : Bool} {rest : List Nat} : ∀ (w : List Nat) (k i : Nat) (alk : Bool), (∀ c ∈ w, c ≠ 32) → rkF b s e w0 (w ++ rest) k (s + i) alk = rkF b s e w0 rest k (s + i + w.length) (alk && al (fun j => decide (s + i + j < e) && b (s + i + j) == w.getD j 0) w.length)
  | [], k, i, alk, _ => by
    show rkF b s e w0 rest k (s + i) alk = rkF b s e w0 rest k (s + i) (alk && true)
    rw [Bool.and_true]
  | c :: w, k, i, alk, h => by
    have hc : c ≠ 32 := h c List.mem_cons_self
    have ih := rkF_w (b := b) (s := s) (e := e) (w0 := w0) (rest := rest) w k (i + 1) (alk && (decide (s + i < e) && b (s + i) == c)) (fun x hx => h x (List.mem_cons_of_mem _ hx))
    show rkF b s e w0 (c :: (w ++ rest)) k (s + i) alk = _
    rw [rkF, if_neg hc, show s + i + 1 = s + (i + 1) by omega, ih]
    have e1 : s + (i + 1) + w.length = s + i + (c :: w).length := by simp only [List.length_cons]; omega
    rw [e1]
    congr 1
    rw [Bool.and_assoc]
    congr 1
    show _ = al (fun j => decide (s + i + j < e) && b (s + i + j) == (c :: w).getD j 0) (w.length + 1)
    have key : ∀ m, al (fun j => decide (s + i + j < e) && b (s + i + j) == (c :: w).getD j 0) (m + 1) = ((decide (s + i < e) && b (s + i) == c) && al (fun j => decide (s + (i + 1) + j < e) && b (s + (i + 1) + j) == w.getD j 0) m) := by
      intro m
      induction m with
      | zero =>
        show (true && (decide (s + i + 0 < e) && b (s + i + 0) == c)) = ((decide (s + i < e) && b (s + i) == c) && true)
        rw [Bool.true_and, Bool.and_true, Nat.add_zero]
      | succ m ihm =>
        rw [al, ihm, al, Bool.and_assoc]
        congr 2
        rw [show s + i + (m + 1) = s + (i + 1) + m by omega]
        rfl
    rw [key]
theorem weq_al {b : Nat → Nat} {s e : Nat} {w : List Nat} (hse : s ≤ e) : (al (fun j => decide (s + j < e) && b (s + j) == w.getD j 0) w.length && s + w.length == e) = weq b s e w := by
  unfold weq
  by_cases z : s + w.length = e
  · rw [show (s + w.length == e) = true from beq_iff_eq.mpr z, Bool.and_true, show (e - s == w.length) = true from beq_iff_eq.mpr (by omega), Bool.true_and]
    exact al_cong (fun j hj => by rw [decide_eq_true (show s + j < e by omega), Bool.true_and])
  · rw [show (s + w.length == e) = false from beq_eq_false_iff_ne.mpr z, Bool.and_false, show (e - s == w.length) = false from beq_eq_false_iff_ne.mpr (by omega), Bool.false_and]
theorem rkF_s {b : Nat → Nat} {s e : Nat} (hse : s ≤ e) (w rest : List Nat) (k : Nat) (h : ∀ c ∈ w, c ≠ 32) : rkF b s e true (w ++ 32 :: rest) k s true = if weq b s e w = true then nI k else rkF b s e true rest (k + 1) s true := by
  have := rkF_w (b := b) (s := s) (e := e) (w0 := true) (rest := 32 :: rest) w k 0 true h
  rw [Nat.add_zero, Bool.true_and] at this
  rw [this, rkF, if_pos rfl, weq_al hse]
theorem rkF_e {b : Nat → Nat} {s e : Nat} (hse : s ≤ e) (w : List Nat) (k : Nat) (h : ∀ c ∈ w, c ≠ 32) : rkF b s e true w k s true = if weq b s e w = true then nI k else -1 := by
  have := rkF_w (b := b) (s := s) (e := e) (w0 := true) (rest := []) w k 0 true h
  rw [Nat.add_zero, Bool.true_and, List.append_nil] at this
  rw [this, rkF, weq_al hse]
/-- words with blanks between them -/
def jn32 : List (List Nat) → List Nat
  | [] => []
  | [w] => w
  | w :: v :: ws => w ++ 32 :: jn32 (v :: ws)
theorem rkF_j {b : Nat → Nat} {s e : Nat} (hse : s ≤ e) : ∀ (ws : List (List Nat)) (k : Nat), ws ≠ [] → (∀ w ∈ ws, ∀ c ∈ w, c ≠ 32) → rkF b s e true (jn32 ws) k s true = rkW (weq b s e) ws k
  | [], k, h, _ => absurd rfl h
  | [w], k, _, h => by
    rw [jn32, rkF_e hse w k (h w List.mem_cons_self), rkW, rkW]
  | w :: v :: ws, k, _, h => by
    rw [jn32, rkF_s hse w _ k (h w List.mem_cons_self), rkW, rkF_j hse (v :: ws) (k + 1) (by simp) (fun x hx => h x (List.mem_cons_of_mem _ hx))]
def clW : List (List Nat) := [[115, 116, 105, 102, 102], [119, 101, 97, 114, 115], [110, 111, 116, 105, 99, 101, 115], [119, 111, 114, 100], [115, 97, 121], [109, 97, 107, 101], [108, 111, 115, 101], [116, 117, 114, 110], [119, 114, 105, 116, 101], [119, 101, 101, 107]]
def nmW : List (List Nat) := [[100, 97, 121], [108, 111, 115, 116], [107, 105, 110, 100], [116, 111, 108, 100], [108, 111, 110, 103], [104, 111, 108, 101, 115], [101, 120, 116, 114, 97], [108, 101, 116, 116, 101, 114], [117, 115, 101], [108, 105, 110, 101], [116, 111, 116, 97, 108], [115, 101, 99, 111, 110, 100, 115]]
theorem clW_e : sxB.getD 0 [] = jn32 clW ∧ (∀ w ∈ clW, ∀ c ∈ w, c ≠ 32) := by decide +kernel
theorem nmW_e : sxB.getD 9 [] = jn32 nmW ∧ (∀ w ∈ nmW, ∀ c ∈ w, c ≠ 32) := by decide +kernel
theorem rkW_f {f : List Nat → Bool} (h : ∀ w, f w = false) : ∀ (ws : List (List Nat)) (k : Nat), rkW f ws k = -1
  | [], _ => rfl
  | w :: ws, k => by rw [rkW, h w, if_neg (by decide)]; exact rkW_f h ws _
theorem rkW_cg {f g : List Nat → Bool} (h : ∀ w, f w = g w) : f = g := funext h
theorem kX4_rankF {n s i : Nat} (hi : i < 15) (ht : tpK M n) (hs : s ≤ n) (hk : tkS M (byM M) n s) : Cl LX (d + 4) mX4_rankIn [.ref 81, .ref (1010 + i)] M (ev_R (some (.int (rkF (byM M) s (nxt (byM M) n s) (srt (byM M) n s == 1) (sxB.getD i []) 0 s (srt (byM M) n s == 1)))) M) := by
  have n3 := ht.1
  obtain ⟨h5, h6, h7⟩ := hk
  have el := nxt_le (b := byM M) (n := n) (s := s) hs
  have sl := srt_lt (b := byM M) (n := n) (s := s) (fun i hi => tk_by ht hi)
  have xl := sxl_lt hi
  have c5 : (M.1 81 5 = 1 → (srt (byM M) n s == 1) = true) ∧ (¬ M.1 81 5 = 1 → (srt (byM M) n s == 1) = false) := ⟨fun z => by rw [h5] at z; exact beq_iff_eq.mpr ((nI_eq (b := 1) (by omega) (by omega)).mp z), fun z => beq_eq_false_iff_ne.mpr (fun q => z (by rw [h5, q]; rfl))⟩
  have dr : ∀ j, j < sxl i → (sxB.getD i []).drop j = sxc i j :: (sxB.getD i []).drop (j + 1) := fun j hj => by
    unfold sxc
    rw [List.drop_eq_getElem_cons (show j < (sxB.getD i []).length from hj), List.getD_eq_getElem?_getD (l := sxB.getD i []), List.getElem?_eq_getElem (show j < (sxB.getD i []).length from hj)]
    rfl
  have lp : ∀ j, j ≤ sxl i → ∀ (rank a : Nat) (alk : Bool), a ≤ 500 + j → rank ≤ j → rkF (byM M) s (nxt (byM M) n s) (srt (byM M) n s == 1) ((sxB.getD i []).drop j) rank a alk = rkF (byM M) s (nxt (byM M) n s) (srt (byM M) n s == 1) (sxB.getD i []) 0 s (srt (byM M) n s == 1) → Ev LX (d + 4) mX4_rankIn 25 [some (.ref 81), some (.ref (1010 + i)), some (.int (nI rank)), some (.int (nI a)), some (.int (bi alk)), some (.int (nI j))] [] M (ev_R (some (.int (rkF (byM M) s (nxt (byM M) n s) (srt (byM M) n s == 1) (sxB.getD i []) 0 s (srt (byM M) n s == 1)))) M) := by
    refine dn ?_ (fun j hj ih => ?_)
    · intro rank a alk ha hr hq
      rw [show (sxB.getD i []).drop (sxl i) = [] from List.drop_length, rkF] at hq
      have fin : ∀ v, (if (alk && a == nxt (byM M) n s) = true then nI rank else -1) = v → ev_R (some (.int (rkF (byM M) s (nxt (byM M) n s) (srt (byM M) n s == 1) (sxB.getD i []) 0 s (srt (byM M) n s == 1)))) M (some (.int v)) M := fun v e => by rw [← hq, e]; exact ⟨rfl, rfl⟩
      refine gX4_rankIn_25 hi ⟨fun _ => ?_, fun z => absurd (nI_le (Nat.le_refl _) (by omega)) z⟩
      rw [h7]
      refine ⟨fun z => fin _ ?_, fun z => ⟨fun y => fin _ ?_, fun y => fin _ ?_⟩⟩
      · rw [(bi_0 _).mp z, Bool.false_and, if_neg (by decide)]
      · rw [show (a == nxt (byM M) n s) = false from beq_eq_false_iff_ne.mpr (fun q => y (by rw [q])), Bool.and_false, if_neg (by decide)]
      · rw [(bi_n0 _).mp z, show (a == nxt (byM M) n s) = true from beq_iff_eq.mpr ((nI_eq (by omega) (by omega)).mp y), if_pos (by decide)]
    · intro rank a alk ha hr hq
      rw [dr j hj, rkF] at hq
      have c3 := sxc_lt hi hj
      refine gX4_rankIn_25 hi ⟨fun z => absurd z (nI_ge hj (by omega)), fun _ => ⟨vp_in_nI hj (by omega), ?_⟩⟩
      rw [nI_clamp (by omega), h6, h7]
      refine ⟨fun z => ?_, fun z => ?_⟩
      · have z32 : ¬ sxc i j = 32 := fun q => z (by rw [q]; rfl)
        rw [if_neg z32] at hq
        have nx : ∀ v : Bool, (alk && (decide (a < nxt (byM M) n s) && byM M a == sxc i j)) = v → Ev LX (d + 4) mX4_rankIn 25 [some (.ref 81), some (.ref (1010 + i)), some (.int (nI rank)), some (.int (nI a + 1)), some (.int (bi v)), some (.int (nI j + 1))] [] M (ev_R (some (.int (rkF (byM M) s (nxt (byM M) n s) (srt (byM M) n s == 1) (sxB.getD i []) 0 s (srt (byM M) n s == 1)))) M) := fun v ev => by
          rw [nI_1, nI_1]
          exact ih rank (a + 1) v (by omega) (by omega) (by rw [← ev]; exact hq)
        refine ⟨fun y => nx false ?_, fun y => ⟨fun w => nx false ?_, fun w => ?_⟩⟩
        · rw [(bi_0 _).mp y, Bool.false_and]
        · rw [decide_eq_false (p := a < nxt (byM M) n s) (fun q => absurd w (nI_ge q (by omega))), Bool.false_and, Bool.and_false]
        · have wl : a < nxt (byM M) n s := by
            rcases Nat.lt_or_ge a (nxt (byM M) n s) with q | q
            · exact q
            · exact absurd (nI_le q (by omega)) w
          obtain ⟨k1, k2⟩ := tp_b ht (i := a) (by omega)
          rw [nI_clamp (by omega), k1]
          refine ⟨vp_in_nI (by omega) (by omega), vp_in_nI (by omega) (by omega), fun v => nx false ?_, fun v => nx true ?_⟩
          · rw [show (byM M a == sxc i j) = false from beq_eq_false_iff_ne.mpr (fun q => v (by rw [q])), Bool.and_false, Bool.and_false]
          · rw [(bi_n0 _).mp y, decide_eq_true wl, show (byM M a == sxc i j) = true from beq_iff_eq.mpr ((nI_eq (by omega) (by omega)).mp v)]; rfl
      · have z32 : sxc i j = 32 := (nI_eq (b := 32) (by omega) (by omega)).mp z
        rw [if_pos z32] at hq
        have nx : (alk && a == nxt (byM M) n s) = false → ∀ v : Bool, (srt (byM M) n s == 1) = v → Ev LX (d + 4) mX4_rankIn 25 [some (.ref 81), some (.ref (1010 + i)), some (.int (nI rank + 1)), some (.int (nI s)), some (.int (bi v)), some (.int (nI j + 1))] [] M (ev_R (some (.int (rkF (byM M) s (nxt (byM M) n s) (srt (byM M) n s == 1) (sxB.getD i []) 0 s (srt (byM M) n s == 1)))) M) := fun e0 v ev => by
          rw [e0, if_neg (by decide)] at hq
          rw [nI_1, nI_1]
          refine ih (rank + 1) s v (by omega) (by omega) ?_
          rw [← hq, ← ev]
        refine ⟨fun y => ?_, fun y => ⟨fun w => ?_, fun w => ?_⟩⟩
        · have e0 : (alk && a == nxt (byM M) n s) = false := by rw [(bi_0 _).mp y, Bool.false_and]
          exact ⟨fun v => nx e0 false (c5.2 v), fun v => nx e0 true (c5.1 v)⟩
        · have e0 : (alk && a == nxt (byM M) n s) = false := by rw [show (a == nxt (byM M) n s) = false from beq_eq_false_iff_ne.mpr (fun q => w (by rw [q])), Bool.and_false]
          exact ⟨fun v => nx e0 false (c5.2 v), fun v => nx e0 true (c5.1 v)⟩
        · rw [(bi_n0 _).mp y, show (a == nxt (byM M) n s) = true from beq_iff_eq.mpr ((nI_eq (by omega) (by omega)).mp w), if_pos (by decide)] at hq
          rw [← hq]
          exact ⟨rfl, rfl⟩
  refine Cl_of rfl (Nat.le_of_ble_eq_true rfl) rfl (gX4_rankIn_0 hi ?_)
  rw [h6]
  refine ⟨fun z => ?_, fun z => ?_⟩
  · have := lp 0 (by omega) 0 s false (by omega) (by omega) (by rw [List.drop_zero, c5.2 z])
    exact this
  · have := lp 0 (by omega) 0 s true (by omega) (by omega) (by rw [List.drop_zero, c5.1 z])
    exact this
theorem kX4_rankIn {n s i : Nat} {ws : List (List Nat)} (hi : i < 15) (hw : sxB.getD i [] = jn32 ws ∧ (∀ w ∈ ws, ∀ c ∈ w, c ≠ 32)) (hne : ws ≠ []) (ht : tpK M n) (hs : s ≤ n) (hk : tkS M (byM M) n s) : Cl LX (d + 4) mX4_rankIn [.ref 81, .ref (1010 + i)] M (ev_R (some (.int (rkW (tkW (byM M) n s) ws 0))) M) := by
  have el := nxt_le (b := byM M) (n := n) (s := s) hs
  have := kX4_rankF (d := d) hi ht hs hk
  have e : rkF (byM M) s (nxt (byM M) n s) (srt (byM M) n s == 1) (sxB.getD i []) 0 s (srt (byM M) n s == 1) = rkW (tkW (byM M) n s) ws 0 := by
    cases z : (srt (byM M) n s == 1) with
    | false =>
      rw [rkF_no, rkW_f (fun w => by unfold tkW; rw [z, Bool.false_and])]
    | true =>
      rw [hw.1, rkF_j el.1 ws 0 hne hw.2]
      congr 1
      funext w
      unfold tkW
      rw [z, Bool.true_and]
  rw [e] at this
  exact this
end
