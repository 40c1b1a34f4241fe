/-! a law runs in the model -/
section
variable {d : Nat} {M : ev_Mem}
def vk (N : ev_Mem) (V : List Int64) : Prop := ∀ i, i < V.length → N.2 8 i = V.getD (V.length - 1 - i) 0
def tk (N : ev_Mem) (B : List Bool) : Prop := ∀ i, i < B.length → N.1 9 i = bi (B.getD (B.length - 1 - i) false)
theorem wl_cell {M : ev_Mem} {k j a : Nat} {v : Int64} (h : a ≠ k) : (ev_wl M k j v).2 a = M.2 a := funext fun b => if_neg (fun q => h q.1)
theorem wl_ne {M : ev_Mem} {k j a b : Nat} {v : Int64} (h : ¬ (a = k ∧ b = j)) : (ev_wl M k j v).2 a b = M.2 a b := if_neg h
theorem wl_one {M : ev_Mem} {k j : Nat} {v : Int64} : (ev_wl M k j v).1 = M.1 := rfl
theorem vk_put {V : List Int64} {x : Int64} (h : vk M V) : vk (ev_wl M 8 V.length x) (x :: V) := by
  intro i hi
  simp only [List.length_cons] at hi ⊢
  by_cases e : i = V.length
  · subst e
    rw [ev_wl_s, show V.length + 1 - 1 - V.length = 0 by omega]
    rfl
  · rw [wl_ne (by omega), h i (by omega), show V.length + 1 - 1 - i = (V.length - 1 - i) + 1 by omega]
    rfl
theorem vk_top {V : List Int64} {x : Int64} (h : vk M (x :: V)) : M.2 8 V.length = x := by
  have := h V.length (by simp)
  simp only [List.length_cons] at this
  rw [this, show V.length + 1 - 1 - V.length = 0 by omega]
  rfl
theorem vk_tail {V : List Int64} {x : Int64} (h : vk M (x :: V)) : vk M V := by
  intro i hi
  have := h i (by simp only [List.length_cons]; omega)
  simp only [List.length_cons] at this
  rw [this, show V.length + 1 - 1 - i = (V.length - 1 - i) + 1 by omega]
  rfl
theorem tk_put {B : List Bool} {b : Bool} (h : tk M B) : tk (ev_wr M 9 B.length (bi b)) (b :: B) := by
  intro i hi
  simp only [List.length_cons] at hi ⊢
  by_cases e : i = B.length
  · subst e
    rw [wr_same, show B.length + 1 - 1 - B.length = 0 by omega]
    rfl
  · rw [wr_ne (by omega), h i (by omega), show B.length + 1 - 1 - i = (B.length - 1 - i) + 1 by omega]
    rfl
theorem tk_top {B : List Bool} {b : Bool} (h : tk M (b :: B)) : M.1 9 B.length = bi b := by
  have := h B.length (by simp)
  simp only [List.length_cons] at this
  rw [this, show B.length + 1 - 1 - B.length = 0 by omega]
  rfl
theorem tk_tail {B : List Bool} {b : Bool} (h : tk M (b :: B)) : tk M B := by
  intro i hi
  have := h i (by simp only [List.length_cons]; omega)
  simp only [List.length_cons] at this
  rw [this, show B.length + 1 - 1 - i = (B.length - 1 - i) + 1 by omega]
  rfl
theorem tk_top2 {B : List Bool} {b c : Bool} (h : tk M (b :: c :: B)) : M.1 9 (B.length + 1) = bi b := tk_top (B := c :: B) h
theorem vk_top2 {V : List Int64} {x y : Int64} (h : vk M (y :: x :: V)) : M.2 8 (V.length + 1) = y := vk_top (V := x :: V) h
theorem vk_wr {V : List Int64} {j : Nat} {x : Int32} (h : vk M V) : vk (ev_wr M 9 j x) V := h
theorem tk_wl {B : List Bool} {j : Nat} {x : Int64} (h : tk M B) : tk (ev_wl M 8 j x) B := h
/-- one step of a law as the model has written it -/
def mst (tx : Nat → Int32) (cb : Nat) (nm : Nat → Int32) (us : Int64 → Int64) (i : Nat) (V : List Int64) (B : List Bool) : Option (List Int64 × List Bool) :=
  let o := tx (cb + 2 * i)
  let v := tx (cb + 2 * i + 1)
  if 1 < o then
    if o = 3 then (match V, B with
      | y :: x :: t, b :: bs => some ((if b = true then x else y) :: t, bs)
      | _, _ => none)
    else if 4 < o then
      if 10 ≤ o then
        if 20 ≤ o then
          if o = 20 then (match B with
            | b :: bs => some (V, (!b) :: bs)
            | [] => none)
          else (match B with
            | b2 :: b1 :: bs => some (V, jnb o (bi b1) (bi b2) :: bs)
            | _ => none)
        else (match V with
          | y :: x :: t => some (t, asq o x y :: B)
          | _ => none)
      else (match V with
        | y :: x :: t => some (tw o x y :: t, B)
        | _ => none)
    else if o = 4 then (match V with
      | x :: t => some ((-x) :: t, B)
      | [] => none)
    else (match V with
      | x :: t => some (us x :: t, B)
      | [] => none)
  else if o = 0 then some (v.toInt64 :: V, B)
  else if iin v 0 11 = true then some ((nm v.toNatClampNeg).toInt64 :: V, B) else none
def mgo (tx : Nat → Int32) (cb : Nat) (nm : Nat → Int32) (us : Int64 → Int64) : Nat → Nat → List Int64 → List Bool → List Int64 → List Bool → Prop
  | 0, _, V, B, V2, B2 => V = V2 ∧ B = B2
  | n + 1, i, V, B, V2, B2 => ∃ V1 B1, mst tx cb nm us i V B = some (V1, B1) ∧ (V1.length ≤ 330 ∧ B1.length ≤ 330) ∧ mgo tx cb nm us n (i + 1) V1 B1 V2 B2
/-- only the two rows of a law's values differ -/
def mfr (M M2 : ev_Mem) : Prop := (∀ k, k ≠ 9 → M2.1 k = M.1 k) ∧ ∀ k, k ≠ 8 → M2.2 k = M.2 k
theorem mfr.rf : mfr M M := ⟨fun _ _ => rfl, fun _ _ => rfl⟩
theorem mfr.tr {M1 M2 : ev_Mem} (h : mfr M M1) (k : mfr M1 M2) : mfr M M2 := ⟨fun i hi => (k.1 i hi).trans (h.1 i hi), fun i hi => (k.2 i hi).trans (h.2 i hi)⟩
theorem mfr_wr {j : Nat} {x : Int32} : mfr M (ev_wr M 9 j x) := ⟨fun _ h => wr_cell h, fun _ _ => rfl⟩
theorem mfr_wl {j : Nat} {x : Int64} : mfr M (ev_wl M 8 j x) := ⟨fun _ _ => rfl, fun _ h => wl_cell h⟩
theorem nI_m2 (n : Nat) : nI (n + 2) + (-2) = nI n := by
  rw [show nI (n + 2) = nI n + nI 2 from (nI_add n 2).symm, Int32.add_assoc, show nI 2 + (-2) = (0 : Int32) from rfl, Int32.add_zero]
theorem sum_go {cb x3 j : Nat} {Q : Option Value → ev_Mem → Prop} (h3 : x3 + 2 < 3780) (hcb : cb + 2 * j ≤ 3780) (hj : j < 2 ^ 20) : ∀ (n i : Nat) (V : List Int64) (B : List Bool) (V2 : List Int64) (B2 : List Bool) (M : ev_Mem), M.1 4 (x3 + 2) = nI j → i + n = j → V.length ≤ 330 → B.length ≤ 330 → vk M V → tk M B → mgo (M.1 4) cb (M.1 7) (usv M) n i V B V2 B2 →
    (∀ M2, mfr M M2 → vk M2 V2 → tk M2 B2 → Ev LM (d + 2) mX11_summedUp 40 [some (.ref 0), none, none, some (.int (nI x3)), some (.int (nI cb)), some (.int (nI V2.length)), some (.int (nI B2.length)), some (.int (nI j)), none, none] [] M2 Q) →
    Ev LM (d + 2) mX11_summedUp 40 [some (.ref 0), none, none, some (.int (nI x3)), some (.int (nI cb)), some (.int (nI V.length)), some (.int (nI B.length)), some (.int (nI i)), none, none] [] M Q := by
  intro n
  induction n with
  | zero =>
    intro i V B V2 B2 M hM hi hV hB hv ht hm kk
    obtain ⟨rfl, rfl⟩ := hm
    obtain rfl : i = j := by omega
    exact kk M mfr.rf hv ht
  | succ n ih =>
    intro i V B V2 B2 M hM hi hV hB hv ht hm kk
    obtain ⟨V1, B1, hs, ⟨hV1, hB1⟩, hm1⟩ := hm
    have nx : ∀ M2, mfr M M2 → vk M2 V1 → tk M2 B1 → Ev LM (d + 2) mX11_summedUp 40 [some (.ref 0), none, none, some (.int (nI x3)), some (.int (nI cb)), some (.int (nI V1.length)), some (.int (nI B1.length)), some (.int (nI i + 1)), none, none] [] M2 Q := by
      intro M2 hf hv2 ht2
      rw [nI_1]
      have eu : usv M2 = usv M := funext fun z => by unfold usv; rw [hf.1 1 (by omega)]
      exact ih (i + 1) V1 B1 V2 B2 M2 (by rw [hf.1 4 (by omega)]; exact hM) (by omega) hV1 hB1 hv2 ht2 (by rw [hf.1 4 (by omega), hf.1 7 (by omega), eu]; exact hm1) (fun M3 hf3 a b => kk M3 (hf.tr hf3) a b)
    have e3 : nI x3 + 2 = nI (x3 + 2) := nI_add x3 2
    have ec : nI cb + (2 * nI i) = nI (cb + 2 * i) := by rw [show (2 : Int32) = nI 2 from rfl, pk_mul, nI_add]
    refine gX11_summedUp_40 ⟨by rw [e3]; exact vp_in_nI h3 (by omega), fun h => ?_, fun _ => ⟨by rw [ec]; exact vp_in_nI (by omega) (by omega), fun o eo => ⟨by rw [ec, nI_1]; exact vp_in_nI (by omega) (by omega), fun v evv => ?_⟩⟩⟩
    · rw [e3, nI_clamp (by omega), hM] at h
      exact absurd h (nI_ge (by omega) (by omega))
    · rw [ec, nI_clamp (by omega)] at eo
      rw [ec, nI_1, nI_clamp (by omega)] at evv
      unfold mst at hs
      simp only [← eo, ← evv] at hs
      refine ⟨fun h1 => ⟨fun h3 => ⟨fun h4 => ⟨fun h10 => ⟨fun h20 => ⟨fun hn => ?_, fun hn => ?_⟩, fun h20 => ?_⟩, fun h10 => ?_⟩, fun h4 => ⟨fun hn => ?_, fun hn => ?_⟩⟩, fun h3 => ?_⟩, fun h1 => ⟨fun h0 => ?_, fun h0 => ?_⟩⟩
      · -- and, or
        rw [if_pos h1, if_neg h3, if_pos h4, if_pos h10, if_pos h20, if_neg hn] at hs
        match B, hB, ht, hs with
        | [], _, _, hs => cases hs
        | [b], _, _, hs => cases hs
        | b2 :: b1 :: bs, hB, ht, hs =>
          cases hs
          simp only [List.length_cons] at hB ⊢
          rw [nl_m1, nI_pred]
          refine ⟨vp_in_nI (by omega) (by omega), vp_in_nI (by omega) (by omega), vp_in_nI (by omega) (by omega), fun M1 e1 => ?_⟩
          rw [nI_clamp (by omega), nI_clamp (by omega), tk_top (tk_tail ht), tk_top2 ht] at e1
          rw [e1]
          exact nx _ mfr_wr (vk_wr hv) (tk_put (tk_tail (tk_tail ht)))
      · -- not
        rw [if_pos h1, if_neg h3, if_pos h4, if_pos h10, if_pos h20, if_pos hn] at hs
        match B, hB, ht, hs with
        | [], _, _, hs => cases hs
        | b :: bs, hB, ht, hs =>
          cases hs
          simp only [List.length_cons] at hB ⊢
          rw [nI_pred]
          refine ⟨vp_in_nI (by omega) (by omega), fun h => ⟨vp_in_nI (by omega) (by omega), fun M1 e1 => ?_⟩, fun h => ⟨vp_in_nI (by omega) (by omega), fun M1 e1 => ?_⟩⟩
          · rw [nI_clamp (by omega), tk_top ht, bi_n0] at h
            subst h
            rw [nI_clamp (by omega)] at e1
            rw [e1]
            exact nx _ mfr_wr (vk_wr hv) (tk_put (b := false) (tk_tail ht))
          · rw [nI_clamp (by omega), tk_top ht, bi_0] at h
            subst h
            rw [nI_clamp (by omega)] at e1
            rw [e1]
            exact nx _ mfr_wr (vk_wr hv) (tk_put (b := true) (tk_tail ht))
      · -- a comparison
        rw [if_pos h1, if_neg h3, if_pos h4, if_pos h10, if_neg h20] at hs
        match V, hV, hv, hs with
        | [], _, _, hs => cases hs
        | [x], _, _, hs => cases hs
        | y :: x :: t, hV, hv, hs =>
          cases hs
          simp only [List.length_cons] at hV hB1 ⊢
          rw [nI_m2, nI_1]
          refine ⟨vp_in_nI (by omega) (by omega), vp_in_nI (by omega) (by omega), vp_in_nI (by omega) (by omega), fun M1 e1 => ?_⟩
          rw [nI_clamp (by omega), nI_clamp (by omega), nI_clamp (by omega), vk_top (vk_tail hv), vk_top2 hv] at e1
          rw [e1, nI_1]
          exact nx _ mfr_wr (vk_wr (vk_tail (vk_tail hv))) (tk_put ht)
      · -- two numbers
        rw [if_pos h1, if_neg h3, if_pos h4, if_neg h10] at hs
        match V, hV, hv, hs with
        | [], _, _, hs => cases hs
        | [x], _, _, hs => cases hs
        | y :: x :: t, hV, hv, hs =>
          cases hs
          simp only [List.length_cons] at hV ⊢
          rw [nl_m1, nI_pred]
          refine ⟨vp_in_nI (by omega) (by omega), vp_in_nI (by omega) (by omega), vp_in_nI (by omega) (by omega), fun M1 e1 => ?_⟩
          rw [nI_clamp (by omega), nI_clamp (by omega), vk_top (vk_tail hv), vk_top2 hv] at e1
          rw [e1]
          exact nx _ mfr_wl (vk_put (vk_tail (vk_tail hv))) (tk_wl ht)
      · -- uses
        rw [if_pos h1, if_neg h3, if_neg h4, if_neg hn] at hs
        match V, hV, hv, hs with
        | [], _, _, hs => cases hs
        | x :: t, hV, hv, hs =>
          cases hs
          simp only [List.length_cons] at hV ⊢
          rw [nI_pred]
          refine ⟨vp_in_nI (by omega) (by omega), vp_in_nI (by omega) (by omega), fun M1 e1 => ?_⟩
          rw [nI_clamp (by omega), vk_top hv] at e1
          rw [e1]
          exact nx _ mfr_wl (vk_put (vk_tail hv)) (tk_wl ht)
      · -- minus
        rw [if_pos h1, if_neg h3, if_neg h4, if_pos hn] at hs
        match V, hV, hv, hs with
        | [], _, _, hs => cases hs
        | x :: t, hV, hv, hs =>
          cases hs
          simp only [List.length_cons] at hV ⊢
          rw [nI_pred]
          refine ⟨vp_in_nI (by omega) (by omega), vp_in_nI (by omega) (by omega), fun M1 e1 => ?_⟩
          rw [nI_clamp (by omega), vk_top hv] at e1
          rw [e1]
          exact nx _ mfr_wl (vk_put (vk_tail hv)) (tk_wl ht)
      · -- select
        rw [if_pos h1, if_pos h3] at hs
        match V, B, hV, hB, hv, ht, hs with
        | [], _, _, _, _, _, hs => cases hs
        | [x], _, _, _, _, _, hs => cases hs
        | y :: x :: t, [], _, _, _, _, hs => cases hs
        | y :: x :: t, b :: bs, hV, hB, hv, ht, hs =>
          cases hs
          simp only [List.length_cons] at hV hB ⊢
          rw [nl_m1, nl_m1, nI_pred]
          refine ⟨vp_in_nI (by omega) (by omega), fun h => ?_, fun h => ⟨vp_in_nI (by omega) (by omega), vp_in_nI (by omega) (by omega), fun M1 e1 => ?_⟩⟩
          · rw [nI_clamp (by omega), tk_top ht, bi_n0] at h
            subst h
            exact nx M mfr.rf (vk_tail hv) (tk_tail ht)
          · rw [nI_clamp (by omega), tk_top ht, bi_0] at h
            subst h
            rw [nI_clamp (by omega), nI_clamp (by omega), vk_top2 hv] at e1
            rw [e1]
            exact nx _ mfr_wl (vk_put (vk_tail (vk_tail hv))) (tk_wl (tk_tail ht))
      · -- a name
        rw [if_neg h1, if_neg h0] at hs
        by_cases hi2 : iin v 0 11 = true
        · rw [if_pos hi2] at hs
          cases hs
          obtain ⟨q, hq, rfl⟩ := (iin_lit 11 (by omega)).mp hi2
          simp only [List.length_cons] at hV1
          refine ⟨vp_in_nI (by omega) (by omega), vp_in_nI (by omega) (by omega), fun M1 e1 => ?_⟩
          rw [nI_clamp (show V.length < 2 ^ 31 by omega)] at e1
          rw [e1, nI_1]
          exact nx _ mfr_wl (vk_put hv) (tk_wl ht)
        · rw [if_neg hi2] at hs
          cases hs
      · -- a number
        rw [if_neg h1, if_pos h0] at hs
        cases hs
        simp only [List.length_cons] at hV1
        refine ⟨vp_in_nI (by omega) (by omega), fun M1 e1 => ?_⟩
        rw [nI_clamp (by omega)] at e1
        rw [e1, nI_1]
        exact nx _ mfr_wl (vk_put hv) (tk_wl ht)
/-- a clause's law: its code from i to j leaves v alone -/
theorem kX11_summedUp {t c i j : Nat} {v : Int64} (ht : t < 4) (hc : c < 24) (hi : M.1 4 (945 * t + 1 + 14 * c + 1) = nI i) (hj : M.1 4 (945 * t + 1 + 14 * c + 2) = nI j) (hij : i ≤ j) (hj3 : j ≤ 304) (hv : mgo (M.1 4) (945 * t + 337) (M.1 7) (usv M) (j - i) i [] [] [v] []) : Cl LM (d + 2) mX11_summedUp [.ref 0, .int (nI t), .int (nI c)] M (fun r M2 => r = some (.long v) ∧ mfr M M2) := by
  refine Cl_of rfl (Nat.le_of_ble_eq_true rfl) rfl (gX11_summedUp_0 (fun v1 e1 => ?_))
  have e1' : v1 = nI (945 * t + 1 + 14 * c) := by
    rw [e1, show (945 : Int32) = nI 945 from rfl, show (14 : Int32) = nI 14 from rfl, pk_mul, pk_mul, nI_1, nI_add]
  subst e1'
  refine ⟨by rw [nI_1]; exact vp_in_nI (by omega) (by omega), fun v2 e2 => ?_⟩
  rw [nI_1, nI_clamp (by omega), hi] at e2
  subst e2
  have ec : (945 : Int32) * nI t + 337 = nI (945 * t + 337) := by
    rw [show (945 : Int32) = nI 945 from rfl, show (337 : Int32) = nI 337 from rfl, pk_mul, nI_add]
  rw [ec]
  refine sum_go (d := d) (cb := 945 * t + 337) (x3 := 945 * t + 1 + 14 * c) (j := j) (by omega) (by omega) (by omega) (j - i) i [] [] [v] [] M hj (by omega) (by simp) (by simp) (fun i h => by simp at h) (fun i h => by simp at h) hv (fun M2 hf hv2 _ => ?_)
  have e3 : nI (945 * t + 1 + 14 * c) + 2 = nI (945 * t + 1 + 14 * c + 2) := nI_add _ 2
  refine gX11_summedUp_40 ⟨by rw [e3]; exact vp_in_nI (by omega) (by omega), fun _ => ⟨vp_in_nI (n := 0) (by omega) (by omega), ?_, hf⟩, fun h => absurd ?_ h⟩
  · rw [show (0 : Int32).toNatClampNeg = 0 from rfl, show M2.2 8 0 = v from vk_top (V := []) hv2]
  · rw [e3, nI_clamp (by omega), hf.1 4 (by omega), hj]
    exact nI_le (Nat.le_refl _) (by omega)
end
