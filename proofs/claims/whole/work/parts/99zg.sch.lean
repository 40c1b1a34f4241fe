section
variable {c : Nat → Int32} {u v w z k : Nat}
theorem sv_ch {hq h1 h2 : Nat} {mq m1 m2 : List (Nat × Nat)} (HQ : SQ c u v mq k hq) (ev : c v = enc 6 (w + 1)) (H1 : SV c (v + 1) w m1 k h1) (ew : c w = enc 7 z) (H2 : SV c (w + 1) z m2 k h2) (hz : z < 512) : SV c u z (mq ++ m1 ++ m2 ++ [(3, 0)]) k (max hq (max h1 h2)) := by
  have a0 := HQ.1
  have a1 := H1.1
  have a2 := H2.1
  refine ⟨by omega, fun c' hc f g us ha ho => ?_⟩
  obtain ⟨x, n0, hn0, x1, x2⟩ := HQ.2 c' (fun i a b => hc i a (by omega)) f g us ha ho
  obtain ⟨p, n1, hn1, hb1, p1, p2⟩ := H1.2 c' (fun i a b => hc i (by omega) (by omega)) f g us ha ho
  obtain ⟨y, n2, hn2, hb2, y1, y2⟩ := H2.2 c' (fun i a b => hc i (by omega) (by omega)) f g us ha ho
  have ev' : c' v = enc 6 (w + 1) := (hc v (by omega) (by omega)).trans ev
  have ew' : c' w = enc 7 z := (hc w (by omega) (by omega)).trans ew
  obtain ⟨i6, j6⟩ := (enc_2 (w + 1) (by omega)).2.1
  obtain ⟨i7, j7⟩ := (enc_2 z (by omega)).2.2
  have mo : ∀ tx cb i V B, cdM tx cb i (mq ++ m1 ++ m2 ++ [(3, 0)]) → V.length + (mq ++ m1 ++ m2 ++ [(3, 0)]).length ≤ 330 → B.length + (mq ++ m1 ++ m2 ++ [(3, 0)]).length ≤ 330 → mgo tx cb g (usM us) (mq ++ m1 ++ m2 ++ [(3, 0)]).length i V B ((if x = true then p else y).toInt64 :: V) B := by
    intro tx cb i V B hd hV hB
    rw [List.length_append, List.length_append, List.length_append, List.length_singleton] at hV hB ⊢
    obtain ⟨d1, d2⟩ := cdM_1 (cdM_r hd)
    rw [List.length_append, List.length_append] at d1 d2
    have q0 := x2 tx cb i V B (cdM_l (cdM_l (cdM_l hd))) (by omega) (by omega)
    have q1 := p2 tx cb (i + mq.length) V (x :: B) (cdM_r (cdM_l (cdM_l hd))) (by omega) (by simp only [List.length_cons]; omega)
    have q2 := y2 tx cb (i + (mq ++ m1).length) (p.toInt64 :: V) (x :: B) (cdM_r (cdM_l hd)) (by simp only [List.length_cons]; omega) (by simp only [List.length_cons]; omega)
    rw [List.length_append] at q2
    refine mgo_app (mgo_app (mgo_app q0 q1) q2) (mgo_1 ?_ (by simp only [List.length_cons]; omega))
    unfold mst
    simp only [← Nat.add_assoc] at d1 d2 ⊢
    simp only [d1, d2]
    cases x <;> rfl
  cases x with
  | true =>
    refine ⟨p, n0 + 1 + n1 + 1, by omega, hb1, fun U l hU hl => ?_, mo⟩
    refine vgo_app (vgo_app (vgo_app (x1 U l (by omega) (by omega)) (vgo_1 (p1 := v + 1) (l1 := l) (by omega) ?_ (by omega))) (p1 U l (by omega) (by omega))) (vgo_1 (by omega) ?_ (by simp only [List.length_cons]; omega))
    · unfold vst
      simp only [ev', i6, j6]
      rfl
    · unfold vst
      simp only [ew', i7, j7]
      rw [if_neg (by decide), if_neg (by decide), if_pos trivial, if_pos (nI_0le (by omega)), nI_clamp (by omega)]
  | false =>
    refine ⟨y, n0 + 1 + n2, by omega, hb2, fun U l hU hl => ?_, mo⟩
    refine vgo_app (vgo_app (x1 U l (by omega) (by omega)) (vgo_1 (p1 := w + 1) (l1 := l) (by omega) ?_ (by omega))) (y1 U l (by omega) (by omega))
    unfold vst
    simp only [ev', i6, j6]
    rw [if_neg (by decide), if_neg (by decide), if_neg (by decide), if_neg (by decide), if_neg (by decide), if_neg (by decide), if_neg (by decide), if_pos trivial, if_pos (show bi false = 0 from rfl), if_pos (nI_0le (by omega)), nI_clamp (by omega)]
end
