/-! CALLS: letters -/
section
variable {d B : Nat} {M N : ev_Mem} {W T S s f : Nat} {lo : Int32}
/-- the letters that a letter is made of, one behind another -/
def obL (N : ev_Mem) (x : Nat) : Nat → Int32
  | 0 => nI x
  | i + 1 => if iin (obL N x i) 0 25 = true then N.1 1 (399 + 2 * (obL N x i).toNatClampNeg) else -1
def fsL (N : ev_Mem) (x : Nat) : Nat → Int32
  | 0 => 0
  | i + 1 => if iin (obL N x (i + 1)) 0 25 = true then fsL N x i ||| (1 <<< (obL N x (i + 1) &&& 31)) else fsL N x i
theorem iin_K {l : Nat} (hl : l < 26) : iin (nI l) 0 25 = true := (iin_lit 25 (by omega)).mpr ⟨l, by omega, rfl⟩
theorem ob_K (h : sdR M N W T lo) {x : Nat} (hx : x < 26) : ∀ i, isK (obL N x i)
  | 0 => Or.inr ⟨x, hx, rfl⟩
  | i + 1 => by
    rcases ob_K h hx i with e | ⟨l, hl, e⟩
    · rw [obL, e, if_neg (by decide)]; exact Or.inl rfl
    · rw [obL, e, if_pos (iin_K hl), nI_clamp (by omega)]
      rcases (h.md l hl).2.1 with q | ⟨j, hj, q⟩
      · exact Or.inl q
      · exact Or.inr ⟨j, by omega, q⟩
theorem fs_bt (h : sdR M N W T lo) {x l : Nat} (hx : x < 26) (hl : l < 32) : ∀ n, bt (fsL N x n) l = true ↔ ∃ m, 1 ≤ m ∧ m ≤ n ∧ obL N x m = nI l
  | 0 => by rw [fsL, b_0]; exact ⟨fun z => Bool.noConfusion z, fun ⟨m, a, b, _⟩ => absurd a (by omega)⟩
  | n + 1 => by
    have ih := fs_bt h hx hl n
    rcases ob_K h hx (n + 1) with e | ⟨j, hj, e⟩
    · rw [fsL, e, if_neg (by decide), ih]
      refine ⟨fun ⟨m, a, b, c⟩ => ⟨m, a, by omega, c⟩, fun ⟨m, a, b, c⟩ => ⟨m, a, ?_, c⟩⟩
      by_cases q : m = n + 1
      · rw [q, e] at c; exact absurd c.symm (nI_nm1 (by omega))
      · omega
    · rw [fsL, e, if_pos (iin_K hj), b_or, Bool.or_eq_true, ih, bt_sh (by omega) hl, decide_eq_true_eq]
      constructor
      · rintro (⟨m, a, b, c⟩ | z)
        · exact ⟨m, a, by omega, c⟩
        · exact ⟨n + 1, by omega, by omega, by rw [z]; exact e⟩
      · rintro ⟨m, a, b, c⟩
        by_cases q : m = n + 1
        · rw [q, e] at c; exact Or.inr ((nI_eq (by omega) (by omega)).mp c).symm
        · exact Or.inl ⟨m, a, by omega, c⟩
theorem ob_st {x i : Nat} (e : obL N x i = -1) : ∀ j, i ≤ j → obL N x j = -1
  | 0, h => by rw [show (0 : Nat) = i by omega]; exact e
  | j + 1, h => by
    by_cases q : i = j + 1
    · rw [← q]; exact e
    · rw [obL, ob_st e j (by omega), if_neg (by decide)]
theorem fs_st {x i : Nat} (e : obL N x (i + 1) = -1) : ∀ j, i ≤ j → fsL N x j = fsL N x i
  | 0, h => by rw [show (0 : Nat) = i by omega]
  | j + 1, h => by
    by_cases q : i = j + 1
    · rw [← q]
    · rw [fsL, ob_st e (j + 1) (by omega), if_neg (by decide), fs_st e j (by omega)]
theorem cnt_add {p q : Nat → Bool} {l : Nat} (hp : p l = false) : ∀ n, l < n → (∀ i, i < n → q i = (p i || decide (i = l))) → fa_cnt q n = fa_cnt p n + 1
  | 0, h, _ => absurd h (by omega)
  | n + 1, h, hq => by
    have hn := hq n (by omega)
    by_cases e : l = n
    · subst e
      have : fa_cnt q l = fa_cnt p l := fa_cnt_cong fun k hk => by rw [hq k (by omega), decide_eq_false (p := k = l) (by omega), Bool.or_false]
      rw [decide_eq_true rfl, Bool.or_true] at hn
      rw [fa_cnt_yes hn, fa_cnt_no hp, this]
    · rw [decide_eq_false (p := n = l) (by omega), Bool.or_false] at hn
      have ih := cnt_add (q := q) hp n (by omega) (fun i hi => hq i (by omega))
      cases c : p n with
      | true => rw [c] at hn; rw [fa_cnt_yes hn, fa_cnt_yes c, ih]
      | false => rw [c] at hn; rw [fa_cnt_no hn, fa_cnt_no c, ih]
theorem cnt_less {p : Nat → Bool} {l : Nat} (hp : p l = false) : ∀ n, l < n → fa_cnt p n < n
  | 0, h => absurd h (by omega)
  | n + 1, h => by
    by_cases e : l = n
    · rw [← e, fa_cnt_no hp]
      have := fa_cnt_le p l
      omega
    · have := cnt_less hp n (by omega)
      cases c : p n with
      | true => rw [fa_cnt_yes c]; omega
      | false => rw [fa_cnt_no c]; omega
/-- once it comes back, what is found is all -/
theorem fs_cyc (h : sdR M N W T lo) {x j m0 : Nat} (hx : x < 26) (hj : j ≤ 26) (hm0 : m0 ≤ j) (e : obL N x (j + 1) = obL N x m0) (hnx : bt (fsL N x j) x = false) : fsL N x 26 &&& ((1 <<< (nI x &&& 31)) ^^^ (-1)) = fsL N x j := by
  have cyc : ∀ i, ∃ m, m ≤ j ∧ obL N x i = obL N x m := by
    intro i
    induction i with
    | zero => exact ⟨0, by omega, rfl⟩
    | succ i ih =>
      obtain ⟨m, hm, em⟩ := ih
      have es : obL N x (i + 1) = obL N x (m + 1) := by rw [obL, obL, em]
      by_cases q : m = j
      · exact ⟨m0, hm0, by rw [es, q, e]⟩
      · exact ⟨m + 1, by omega, es⟩
  refine b_ext fun l hl => ?_
  rw [b_and, b_xor, b_m1 l hl, bt_sh (by omega) hl, Bool.xor_true]
  by_cases q : l = x
  · rw [q, hnx, decide_eq_true rfl, Bool.not_true, Bool.and_false]
  · rw [decide_eq_false q, Bool.not_false, Bool.and_true]
    have a := fs_bt h hx hl 26
    have b := fs_bt h hx hl j
    have : bt (fsL N x 26) l = true ↔ bt (fsL N x j) l = true := by
      rw [a, b]
      constructor
      · rintro ⟨m, m1, m2, m3⟩
        obtain ⟨k, hk, ek⟩ := cyc m
        rw [ek] at m3
        refine ⟨k, ?_, hk, m3⟩
        rcases Nat.eq_zero_or_pos k with z | z
        · rw [z] at m3; exact absurd ((nI_eq (by omega) (by omega)).mp (show nI x = nI l from m3)).symm q
        · exact z
      · rintro ⟨m, m1, m2, m3⟩; exact ⟨m, m1, by omega, m3⟩
    cases z1 : bt (fsL N x 26) l <;> cases z2 : bt (fsL N x j) l <;> simp_all
theorem op_letters (h : RX B M N) (y : Int32) : OP 200 mX10_letters mX11_letters [.int y] B M N := by
  obtain ⟨W, S, T, Wk, Sk, Tk, h1, h2, h3, h4, h5, h6⟩ := id h
  obtain ⟨hsd, hS⟩ := RX_sd h1 h4
  cases z : iin y 0 25 with
  | false =>
    refine op_ro (v := some (.int (-1))) h ?_ ?_
    · exact Cl_of rfl (Nat.le_of_ble_eq_true rfl) rfl (gX10_letters_0 (d := 199) ⟨fun q => bb z q, fun _ => ⟨rfl, xq.rf⟩⟩)
    · exact Cl_of rfl (Nat.le_of_ble_eq_true rfl) rfl (gX11_letters_0 (d := 198) ⟨fun q => bb z q, fun _ => ⟨rfl, pe.rf⟩⟩)
  | true =>
    obtain ⟨x, hx25, rfl⟩ := (iin_lit 25 (by omega)).mp z
    have hx : x < 26 := by omega
    have e48 : ∀ l, l < 26 → M.1 48 l = N.1 1 (399 + 2 * l) := fun l hl => (hsd.md l hl).1
    refine op_ro (v := some (.int (fsL N x 26 &&& ((1 <<< (nI x &&& 31)) ^^^ (-1))))) h ?_ ?_
    · refine Cl_of rfl (Nat.le_of_ble_eq_true rfl) rfl (gX10_letters_0 (d := 199) ⟨fun _ => ?_, fun q => bb z q⟩)
      have lp : ∀ i, i ≤ 26 → ∀ l, l < 26 → obL N x i = nI l → Ev LX 200 mX10_letters 16 [some (.ref 0), some (.int (nI x)), some (.int (fsL N x i)), some (.int (nI l)), some (.int (nI i))] [] M (fun r M2 => r = some (.int (fsL N x 26 &&& ((1 <<< (nI x &&& 31)) ^^^ (-1)))) ∧ xq M M2) := by
        refine dn ?_ (fun i hi ih => ?_)
        · intro l hl el
          exact gX10_letters_16 (d := 199) ⟨fun _ => ⟨rfl, xq.rf⟩, fun q => absurd (nI_le (a := 26) (b := 26) (Nat.le_refl _) (by omega)) q⟩
        · intro l hl el
          have en : obL N x (i + 1) = N.1 1 (399 + 2 * l) := by rw [obL, el, if_pos (iin_K hl), nI_clamp (by omega)]
          refine gX10_letters_16 (d := 199) ⟨fun q => absurd q (nI_ge (b := 26) hi (by omega)), fun _ => ⟨vp_in_nI hl (by omega), ?_⟩⟩
          rw [nI_clamp (by omega), e48 l hl, ← en]
          rcases ob_K hsd hx (i + 1) with e | ⟨k, hk, e⟩
          · rw [e]
            refine ⟨fun q => absurd q (by decide), fun _ => ⟨?_, xq.rf⟩⟩
            rw [fs_st e 26 (by omega)]
          · have ef : fsL N x (i + 1) = fsL N x i ||| (1 <<< (obL N x (i + 1) &&& 31)) := by rw [fsL, e, if_pos (iin_K hk)]
            refine ⟨fun _ v1 e1 => ?_, fun q => by rw [e, iin_K hk] at q; cases q⟩
            rw [e1, ← ef, nI_1, e]
            exact ih k hk e
      exact lp 0 (by omega) x hx rfl
    · refine Cl_of rfl (Nat.le_of_ble_eq_true rfl) rfl (gX11_letters_0 (d := 198) ⟨fun _ => ⟨am_in hx, fun v1 e1 => ?_⟩, fun q => bb z q⟩)
      rw [am_at hx] at e1
      have o1 : obL N x 1 = N.1 1 (399 + 2 * x) := by
        rw [obL, show obL N x 0 = nI x from rfl, if_pos (iin_K hx), nI_clamp (by omega)]
      rw [e1, ← o1]
      have lp : ∀ k j, j + k = 26 → bt (fsL N x j) x = false → fa_cnt (fun i => bt (fsL N x j) i) 26 = j → Ev LM 200 mX11_letters 24 [some (.ref 0), some (.int (nI x)), some (.int (fsL N x j)), some (.int (obL N x (j + 1)))] [] N (fun r N2 => r = some (.int (fsL N x 26 &&& ((1 <<< (nI x &&& 31)) ^^^ (-1)))) ∧ pe N N2) := by
        intro k
        induction k with
        | zero =>
          intro j hj hnx hc
          have := cnt_less (p := fun i => bt (fsL N x j) i) hnx 26 hx
          omega
        | succ k ih =>
          intro j hj hnx hc
          refine gX11_letters_24 (d := 199) ⟨fun q => ⟨?_, pe.rf⟩, fun q => ⟨fun q2 => ⟨?_, pe.rf⟩, fun q2 => ?_⟩⟩
          · rw [fs_st q 26 (by omega)]
            congr 2
            refine b_ext fun l hl => ?_
            rw [b_and, b_xor, b_m1 l hl, bt_sh (by omega) hl, Bool.xor_true]
            by_cases e : l = x
            · rw [e, hnx, Bool.false_and]
            · rw [decide_eq_false e, Bool.not_false, Bool.and_true]
          · rw [fs_cyc hsd hx (j := j) (m0 := 0) (by omega) (by omega) q2 hnx]
          · obtain ⟨l, hl, el⟩ := (ob_K hsd hx (j + 1)).resolve_left q
            have hlx : l ≠ x := fun e => q2 (by rw [el, e])
            rw [el, hs_bt (by omega)]
            refine ⟨fun q3 => ⟨?_, pe.rf⟩, fun q3 v1 e1 => ⟨am_in hl, fun v2 e2 => ?_⟩⟩
            · obtain ⟨m, m1, m2, m3⟩ := (fs_bt hsd hx (l := l) (by omega) j).mp q3
              rw [fs_cyc hsd hx (j := j) (m0 := m) (by omega) m2 (by rw [el, m3]) hnx]
            · have ef : fsL N x (j + 1) = fsL N x j ||| (1 <<< (nI l &&& 31)) := by rw [fsL, el, if_pos (iin_K hl)]
              have en : obL N x (j + 1 + 1) = N.1 1 (399 + 2 * l) := by rw [obL, el, if_pos (iin_K hl), nI_clamp (by omega)]
              rw [am_at hl] at e2
              rw [e2, e1, ← ef, ← en]
              refine ih (j + 1) (by omega) ?_ ?_
              · rw [ef, b_or, hnx, bt_sh (by omega) (by omega), decide_eq_false (p := x = l) (fun e => hlx e.symm)]; rfl
              · rw [cnt_add (p := fun i => bt (fsL N x j) i) (l := l) q3 26 hl (fun i hi => by rw [ef, b_or, bt_sh (by omega) (by omega)]), hc]
      refine lp 26 0 (by omega) (b_0 _) ?_
      exact cnt_0.mpr (fun i hi => b_0 _)
end
