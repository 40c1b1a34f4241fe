/-! WHAT THE TWO CODES OF A SUM COME TO -/
section
theorem vgo_app {c nm us : Nat → Int32} {u : Nat} : ∀ {n m p : Nat} {l : List Int32} {q : Nat} {l2 : List Int32} {r : Nat} {l3 : List Int32}, vgo c nm us u n p l q l2 → vgo c nm us u m q l2 r l3 → vgo c nm us u (n + m) p l r l3
  | 0, m, p, l, q, l2, r, l3, h, h2 => by
    obtain ⟨rfl, rfl⟩ := h
    rw [Nat.zero_add]
    exact h2
  | n + 1, m, p, l, q, l2, r, l3, h, h2 => by
    obtain ⟨hp, p1, l1, hv, hl, h⟩ := h
    rw [show n + 1 + m = (n + m) + 1 by omega]
    exact ⟨hp, p1, l1, hv, hl, vgo_app h h2⟩
theorem vgo_1 {c nm us : Nat → Int32} {u p p1 : Nat} {l l1 : List Int32} (hp : p < u) (h : vst c nm us p l = some (p1, l1)) (hl : l1.length ≤ 64) : vgo c nm us u 1 p l p1 l1 := ⟨hp, p1, l1, h, hl, rfl, rfl⟩
theorem mgo_app {tx : Nat → Int32} {cb : Nat} {nm : Nat → Int32} {us : Int64 → Int64} : ∀ {n m i : Nat} {V : List Int64} {B : List Bool} {V1 : List Int64} {B1 : List Bool} {V2 : List Int64} {B2 : List Bool}, mgo tx cb nm us n i V B V1 B1 → mgo tx cb nm us m (i + n) V1 B1 V2 B2 → mgo tx cb nm us (n + m) i V B V2 B2
  | 0, m, i, V, B, V1, B1, V2, B2, h, h2 => by
    obtain ⟨rfl, rfl⟩ := h
    rw [Nat.zero_add]
    exact h2
  | n + 1, m, i, V, B, V1, B1, V2, B2, h, h2 => by
    obtain ⟨Va, Ba, hs, hl, h⟩ := h
    rw [show n + 1 + m = (n + m) + 1 by omega]
    exact ⟨Va, Ba, hs, hl, mgo_app h (by rw [show i + 1 + n = i + (n + 1) by omega]; exact h2)⟩
theorem mgo_1 {tx : Nat → Int32} {cb : Nat} {nm : Nat → Int32} {us : Int64 → Int64} {i : Nat} {V V1 : List Int64} {B B1 : List Bool} (h : mst tx cb nm us i V B = some (V1, B1)) (hl : V1.length ≤ 330 ∧ B1.length ≤ 330) : mgo tx cb nm us 1 i V B V1 B1 := ⟨V1, B1, h, hl, rfl, rfl⟩
/-- the model's code at a place -/
def cdM (tx : Nat → Int32) (cb i : Nat) (mc : List (Nat × Nat)) : Prop := ∀ j, j < mc.length → tx (cb + 2 * (i + j)) = nI (mc.getD j (0, 0)).1 ∧ tx (cb + 2 * (i + j) + 1) = nI (mc.getD j (0, 0)).2
theorem cdM_l {tx : Nat → Int32} {cb i : Nat} {a c : List (Nat × Nat)} (h : cdM tx cb i (a ++ c)) : cdM tx cb i a := fun j hj => by
  have := h j (by rw [List.length_append]; omega)
  rw [List.getD_eq_getElem?_getD, List.getElem?_append_left hj] at this
  rw [List.getD_eq_getElem?_getD]
  exact this
theorem cdM_r {tx : Nat → Int32} {cb i : Nat} {a c : List (Nat × Nat)} (h : cdM tx cb i (a ++ c)) : cdM tx cb (i + a.length) c := fun j hj => by
  have := h (a.length + j) (by rw [List.length_append]; omega)
  rw [List.getD_eq_getElem?_getD, List.getElem?_append_right (by omega), show a.length + j - a.length = j by omega, show i + (a.length + j) = i + a.length + j by omega] at this
  rw [List.getD_eq_getElem?_getD]
  exact this
theorem cdM_1 {tx : Nat → Int32} {cb i o v : Nat} (h : cdM tx cb i [(o, v)]) : tx (cb + 2 * i) = nI o ∧ tx (cb + 2 * i + 1) = nI v := h 0 (by simp)
/-- a value: the class's code from u to v, the model's mc -/
def SV (c : Nat → Int32) (u v : Nat) (mc : List (Nat × Nat)) (k h : Nat) : Prop := (u ≤ v ∧ 1 ≤ h) ∧ ∀ c' : Nat → Int32, (∀ i, u ≤ i → i < v → c' i = c i) → ∀ f g us, agr k f g → okU us → ∃ (x : Int32) (m : Nat), m ≤ v - u ∧ bdd x ∧
  (∀ U l, v ≤ U → l.length + h ≤ 64 → vgo c' f us U m u l v (x :: l)) ∧
  (∀ tx cb i V B, cdM tx cb i mc → V.length + mc.length ≤ 330 → B.length + mc.length ≤ 330 → mgo tx cb g (usM us) mc.length i V B (x.toInt64 :: V) B)
/-- a question -/
def SQ (c : Nat → Int32) (u v : Nat) (mc : List (Nat × Nat)) (k h : Nat) : Prop := (u ≤ v ∧ 1 ≤ h) ∧ ∀ c' : Nat → Int32, (∀ i, u ≤ i → i < v → c' i = c i) → ∀ f g us, agr k f g → okU us → ∃ (x : Bool) (m : Nat), m ≤ v - u ∧
  (∀ U l, v ≤ U → l.length + h ≤ 64 → vgo c' f us U m u l v (bi x :: l)) ∧
  (∀ tx cb i V B, cdM tx cb i mc → V.length + mc.length ≤ 330 → B.length + mc.length ≤ 330 → mgo tx cb g (usM us) mc.length i V B V (x :: B))
variable {c : Nat → Int32} {u v w k : Nat}
theorem us_bd {us : Nat → Int32} {x : Int32} (h : okU us) : bdd (if iin x 0 25 = true then us x.toNatClampNeg else 0) := by
  split
  · rename_i z
    obtain ⟨j, hj, rfl⟩ := (iin_lit 25 (by omega)).mp z
    rw [nI_clamp (by omega)]
    exact upto_bd (h j (by omega)) (by omega)
  · exact ⟨by decide, by decide⟩
/-- the class's step of an operation on two -/
theorem vst_2 {c nm us : Nat → Int32} {p o : Nat} {x y : Int32} {l : List Int32} (e : c p = nI o) (h : 8 ≤ o ∧ o ≤ 19) : vst c nm us p (x :: y :: l) = some (p + 1, (clp (jn (nI o) y x)).toInt32 :: l) := by
  have q : ∀ o, o < 20 → 8 ≤ o → nI o ≠ 1 ∧ nI o ≠ 2 ∧ nI o ≠ 7 ∧ nI o ≠ 0 ∧ nI o ≠ 3 ∧ nI o ≠ 4 ∧ nI o ≠ 5 ∧ nI o ≠ 6 := by decide +kernel
  obtain ⟨q1, q2, q7, q0, q3, q4, q5, q6⟩ := q o (by omega) h.1
  unfold vst
  simp only [e, op_32 o (by omega)]
  rw [if_neg q1, if_neg q2, if_neg q7, if_neg q0, if_neg q3, if_neg q4, if_neg q5, if_neg q6]
theorem opC_b : ∀ o, 8 ≤ opC o ∧ opC o ≤ 19 := fun o => by unfold opC; (repeat' split) <;> omega
theorem iin_11 {x : Nat} (h : x < 12) : iin (nI x) 0 11 = true := (iin_lit 11 (by omega)).mpr ⟨x, by omega, rfl⟩
theorem SV.cg {c2 : Nat → Int32} {mc : List (Nat × Nat)} {h : Nat} (H : SV c u v mc k h) (e : ∀ i, u ≤ i → i < v → c2 i = c i) : SV c2 u v mc k h := ⟨H.1, fun c' hc => H.2 c' (fun i h1 h2 => (hc i h1 h2).trans (e i h1 h2))⟩
theorem SQ.cg {c2 : Nat → Int32} {mc : List (Nat × Nat)} {h : Nat} (H : SQ c u v mc k h) (e : ∀ i, u ≤ i → i < v → c2 i = c i) : SQ c2 u v mc k h := ⟨H.1, fun c' hc => H.2 c' (fun i h1 h2 => (hc i h1 h2).trans (e i h1 h2))⟩
theorem sv_num {x : Nat} (hx : x < 10000) (e : c u = enc 1 x) : SV c u (u + 1) [(0, x)] k 1 := by
  refine ⟨⟨by omega, by omega⟩, fun c' hc f g us ha ho => ⟨nI x, 1, by omega, upto_bd ⟨x, Nat.le_refl _, rfl⟩ (by omega), fun U l hU hl => ?_, fun tx cb i V B hm hV hB => ?_⟩⟩
  · have e2 : c' u = enc 1 x := (hc u (by omega) (by omega)).trans e
    obtain ⟨e3, e4⟩ := enc_1 hx
    refine vgo_1 (by omega) ?_ (by simp only [List.length_cons]; omega)
    unfold vst
    simp only [e2, e3, e4]
    rfl
  · obtain ⟨m1, m2⟩ := cdM_1 hm
    simp only [List.length_cons, List.length_nil] at hV hB
    refine mgo_1 ?_ (by simp only [List.length_cons]; omega)
    unfold mst
    simp only [m1, m2]
    rfl
theorem sv_nam {x : Nat} (hx : nmK k x) (h12 : x < 12) (e : c u = enc 2 x) : SV c u (u + 1) [(1, x)] k 1 := by
  refine ⟨⟨by omega, by omega⟩, fun c' hc f g us ha ho => ⟨f x, 1, by omega, upto_bd (ha x hx).2 (by omega), fun U l hU hl => ?_, fun tx cb i V B hm hV hB => ?_⟩⟩
  · have e2 : c' u = enc 2 x := (hc u (by omega) (by omega)).trans e
    obtain ⟨e3, e4⟩ := (enc_2 x (by omega)).1
    refine vgo_1 (by omega) ?_ (by simp only [List.length_cons]; omega)
    unfold vst
    simp only [e2, e3, e4]
    rw [if_neg (by decide), if_pos trivial, iin_11 h12, if_pos rfl, nI_clamp (by omega)]
  · obtain ⟨m1, m2⟩ := cdM_1 hm
    simp only [List.length_cons, List.length_nil] at hV hB
    refine mgo_1 ?_ (by simp only [List.length_cons]; omega)
    unfold mst
    simp only [m1, m2]
    rw [if_neg (by decide), if_neg (by decide), iin_11 h12, if_pos rfl, nI_clamp (by omega), (ha x hx).1]
theorem sv_neg {mc : List (Nat × Nat)} {h : Nat} (H : SV c u v mc k h) (e : c v = nI 3) : SV c u (v + 1) (mc ++ [(4, 0)]) k h := by
  have huv := H.1
  refine ⟨by omega, fun c' hc f g us ha ho => ?_⟩
  obtain ⟨x, m, hm, hb, h1, h2⟩ := H.2 c' (fun i a b => hc i a (by omega)) f g us ha ho
  have ev : c' v = nI 3 := (hc v (by omega) (by omega)).trans e
  refine ⟨-x, m + 1, by omega, (neg_w hb).2, fun U l hU hl => vgo_app (h1 U l (by omega) hl) (vgo_1 (by omega) ?_ (by simp only [List.length_cons]; omega)), fun tx cb i V B hd hV hB => ?_⟩
  · unfold vst
    simp only [ev, op_32 3 (by omega)]
    rfl
  · rw [List.length_append, List.length_singleton] at hV hB ⊢
    obtain ⟨d1, d2⟩ := cdM_1 (cdM_r hd)
    refine mgo_app (h2 tx cb i V B (cdM_l hd) (by omega) (by omega)) (mgo_1 ?_ (by simp only [List.length_cons]; omega))
    unfold mst
    simp only [d1, d2]
    rw [(neg_w hb).1]; rfl
theorem sv_use {mc : List (Nat × Nat)} {h : Nat} (H : SV c u v mc k h) (e : c v = nI 4) : SV c u (v + 1) (mc ++ [(2, 0)]) k h := by
  have huv := H.1
  refine ⟨by omega, fun c' hc f g us ha ho => ?_⟩
  obtain ⟨x, m, hm, hb, h1, h2⟩ := H.2 c' (fun i a b => hc i a (by omega)) f g us ha ho
  have ev : c' v = nI 4 := (hc v (by omega) (by omega)).trans e
  refine ⟨if iin x 0 25 = true then us x.toNatClampNeg else 0, m + 1, by omega, us_bd ho, fun U l hU hl => vgo_app (h1 U l (by omega) hl) (vgo_1 (by omega) ?_ (by simp only [List.length_cons]; omega)), fun tx cb i V B hd hV hB => ?_⟩
  · unfold vst
    simp only [ev, op_32 4 (by omega)]
    rfl
  · rw [List.length_append, List.length_singleton] at hV hB ⊢
    obtain ⟨d1, d2⟩ := cdM_1 (cdM_r hd)
    refine mgo_app (h2 tx cb i V B (cdM_l hd) (by omega) (by omega)) (mgo_1 ?_ (by simp only [List.length_cons]; omega))
    unfold mst
    simp only [d1, d2]
    rw [us_w]; rfl
theorem sq_not {mc : List (Nat × Nat)} {h : Nat} (H : SQ c u v mc k h) (e : c v = nI 5) : SQ c u (v + 1) (mc ++ [(20, 0)]) k h := by
  have huv := H.1
  refine ⟨by omega, fun c' hc f g us ha ho => ?_⟩
  obtain ⟨x, m, hm, h1, h2⟩ := H.2 c' (fun i a b => hc i a (by omega)) f g us ha ho
  have ev : c' v = nI 5 := (hc v (by omega) (by omega)).trans e
  refine ⟨!x, m + 1, by omega, fun U l hU hl => vgo_app (h1 U l (by omega) hl) (vgo_1 (by omega) ?_ (by simp only [List.length_cons]; omega)), fun tx cb i V B hd hV hB => ?_⟩
  · unfold vst
    simp only [ev, op_32 5 (by omega)]
    cases x <;> rfl
  · rw [List.length_append, List.length_singleton] at hV hB ⊢
    obtain ⟨d1, d2⟩ := cdM_1 (cdM_r hd)
    refine mgo_app (h2 tx cb i V B (cdM_l hd) (by omega) (by omega)) (mgo_1 ?_ (by simp only [List.length_cons]; omega))
    unfold mst
    simp only [d1, d2]
    rfl
theorem sv_bin {o h1 h2 : Nat} {m1 m2 : List (Nat × Nat)} (H1 : SV c u v m1 k h1) (H2 : SV c v w m2 k h2) (ho' : o = 5 ∨ o = 6 ∨ o = 7 ∨ o = 8) (e : c w = nI (opC o)) : SV c u (w + 1) (m1 ++ m2 ++ [(o, 0)]) k (max h1 (h2 + 1)) := by
  have ha1 := H1.1
  have ha2 := H2.1
  refine ⟨by omega, fun c' hc f g us ha ho => ?_⟩
  obtain ⟨x, n1, hn1, hb1, x1, x2⟩ := H1.2 c' (fun i a b => hc i a (by omega)) f g us ha ho
  obtain ⟨y, n2, hn2, hb2, y1, y2⟩ := H2.2 c' (fun i a b => hc i (by omega) (by omega)) f g us ha ho
  have ev : c' w = nI (opC o) := (hc w (by omega) (by omega)).trans e
  refine ⟨(clp (jn (nI (opC o)) x y)).toInt32, n1 + n2 + 1, by omega, clp_bd _, fun U l hU hl => vgo_app (vgo_app (x1 U l (by omega) (by omega)) (y1 U _ (by omega) (by simp only [List.length_cons]; omega))) (vgo_1 (by omega) ?_ (by simp only [List.length_cons]; omega)), fun tx cb i V B hd hV hB => ?_⟩
  · exact vst_2 ev (opC_b o)
  · rw [List.length_append, List.length_append, List.length_singleton] at hV hB ⊢
    obtain ⟨d1, d2⟩ := cdM_1 (cdM_r hd)
    rw [List.length_append] at d1 d2
    have q1 := x2 tx cb i V B (cdM_l (cdM_l hd)) (by omega) (by omega)
    have q2 := y2 tx cb (i + m1.length) (x.toInt64 :: V) B (cdM_r (cdM_l hd)) (by simp only [List.length_cons]; omega) (by omega)
    refine mgo_app (mgo_app q1 q2) (mgo_1 ?_ (by simp only [List.length_cons]; omega))
    rw [bin_v ho' hb1]
    unfold mst
    simp only [← Nat.add_assoc] at d1 d2 ⊢
    simp only [d1, d2]
    rcases ho' with rfl | rfl | rfl | rfl <;> rfl
theorem sq_cmp {o h1 h2 : Nat} {m1 m2 : List (Nat × Nat)} (H1 : SV c u v m1 k h1) (H2 : SV c v w m2 k h2) (ho' : 10 ≤ o ∧ o ≤ 15) (e : c w = nI (opC o)) : SQ c u (w + 1) (m1 ++ m2 ++ [(o, 0)]) k (max h1 (h2 + 1)) := by
  have ha1 := H1.1
  have ha2 := H2.1
  refine ⟨by omega, fun c' hc f g us ha ho => ?_⟩
  obtain ⟨x, n1, hn1, hb1, x1, x2⟩ := H1.2 c' (fun i a b => hc i a (by omega)) f g us ha ho
  obtain ⟨y, n2, hn2, hb2, y1, y2⟩ := H2.2 c' (fun i a b => hc i (by omega) (by omega)) f g us ha ho
  have ev : c' w = nI (opC o) := (hc w (by omega) (by omega)).trans e
  refine ⟨asq (nI o) x.toInt64 y.toInt64, n1 + n2 + 1, by omega, fun U l hU hl => vgo_app (vgo_app (x1 U l (by omega) (by omega)) (y1 U _ (by omega) (by simp only [List.length_cons]; omega))) (vgo_1 (by omega) ?_ (by simp only [List.length_cons]; omega)), fun tx cb i V B hd hV hB => ?_⟩
  · rw [← cmp_v ho']
    exact vst_2 ev (opC_b o)
  · rw [List.length_append, List.length_append, List.length_singleton] at hV hB ⊢
    obtain ⟨d1, d2⟩ := cdM_1 (cdM_r hd)
    rw [List.length_append] at d1 d2
    have q1 := x2 tx cb i V B (cdM_l (cdM_l hd)) (by omega) (by omega)
    have q2 := y2 tx cb (i + m1.length) (x.toInt64 :: V) B (cdM_r (cdM_l hd)) (by simp only [List.length_cons]; omega) (by omega)
    refine mgo_app (mgo_app q1 q2) (mgo_1 ?_ (by simp only [List.length_cons]; omega))
    unfold mst
    simp only [← Nat.add_assoc] at d1 d2 ⊢
    simp only [d1, d2]
    have : o = 10 ∨ o = 11 ∨ o = 12 ∨ o = 13 ∨ o = 14 ∨ o = 15 := by omega
    rcases this with rfl | rfl | rfl | rfl | rfl | rfl <;> rfl
theorem sq_con {o h1 h2 : Nat} {m1 m2 : List (Nat × Nat)} (H1 : SQ c u v m1 k h1) (H2 : SQ c v w m2 k h2) (ho' : o = 21 ∨ o = 22) (e : c w = nI (opC o)) : SQ c u (w + 1) (m1 ++ m2 ++ [(o, 0)]) k (max h1 (h2 + 1)) := by
  have ha1 := H1.1
  have ha2 := H2.1
  refine ⟨by omega, fun c' hc f g us ha ho => ?_⟩
  obtain ⟨x, n1, hn1, x1, x2⟩ := H1.2 c' (fun i a b => hc i a (by omega)) f g us ha ho
  obtain ⟨y, n2, hn2, y1, y2⟩ := H2.2 c' (fun i a b => hc i (by omega) (by omega)) f g us ha ho
  have ev : c' w = nI (opC o) := (hc w (by omega) (by omega)).trans e
  refine ⟨jnb (nI o) (bi x) (bi y), n1 + n2 + 1, by omega, fun U l hU hl => vgo_app (vgo_app (x1 U l (by omega) (by omega)) (y1 U _ (by omega) (by simp only [List.length_cons]; omega))) (vgo_1 (by omega) ?_ (by simp only [List.length_cons]; omega)), fun tx cb i V B hd hV hB => ?_⟩
  · rw [← con_v ho']
    exact vst_2 ev (opC_b o)
  · rw [List.length_append, List.length_append, List.length_singleton] at hV hB ⊢
    obtain ⟨d1, d2⟩ := cdM_1 (cdM_r hd)
    rw [List.length_append] at d1 d2
    have q1 := x2 tx cb i V B (cdM_l (cdM_l hd)) (by omega) (by omega)
    have q2 := y2 tx cb (i + m1.length) V (x :: B) (cdM_r (cdM_l hd)) (by omega) (by simp only [List.length_cons]; omega)
    refine mgo_app (mgo_app q1 q2) (mgo_1 ?_ (by simp only [List.length_cons]; omega))
    unfold mst
    simp only [← Nat.add_assoc] at d1 d2 ⊢
    simp only [d1, d2]
    rcases ho' with rfl | rfl <;> rfl
end
