/-! MAKING OBJECTS: rows of rows, calls -/
section
variable {ids : Nat → ClassId} {ad : Nat → Nat} {b0 d C S : Nat} {y : ev_Y} {pc : Nat} {ls : List (Option Value)} {st : List Value} {h0 : Nat} {es : List va_E} {kc ks : Nat} {fs : List va_E}
/-- N rows of K ints, and the row that holds them, from the address a on -/
def ek_rw (ids : Nat → ClassId) (a N K : Nat) : List va_E := .inl (ids 3, N, .inr (.inr (.inr (.inr (fun j => some (a + 1 + j)))))) :: List.replicate N (.inl (ids 0, K, .inl (fun _ => 0)))
theorem ek_multi {idx N K : Nat} {n k : Int32} (hd : decode y.2.1 pc = .ok (.multianewarray idx 2, 4)) (hw : Cond.classLink y.1.cls idx "[[I" ∈ ev_T) (hn : ¬ n < 0) (hk0 : ¬ k < 0) (eN : n.toNatClampNeg = N) (eK : k.toNatClampNeg = K) (bN : N ≤ 1000) (bK : K ≤ 1000) (hC : kc + (1 + N) ≤ C) (hS' : ks + (N + N * K) ≤ S) (kk : Ek ids ad b0 d C S y (pc + 4) ls (.ref (h0 + es.length) :: st) h0 (es ++ ek_rw ids (h0 + es.length) N K) (kc + (1 + N)) (ks + (N + N * K)) fs) : Ek ids ad b0 d C S y pc ls (.int k :: .int n :: st) h0 es kc ks fs := by
  intro p l e R s m args below meth c H locs D lsA X hl hk
  obtain ⟨hx, hb, hr, hml, hown, hts, hlk, hnm, ⟨r1, r2, r3, r4⟩, hB, ⟨b1, b2⟩, hPW, hS⟩ := X
  have hz0 := hPW.2
  obtain ⟨kA, k1, k2⟩ := hB.2.2.2.1
  have fA : s.vm.findClass "[[I" = some (ids 3) := (hB.1.2 3 _ rfl).2
  obtain ⟨-, kI, k3, c0, k4⟩ := (hB.1.2 0 _ rfl).1 0 (fun _ => .null)
  refine w_multi hx hb hown (hts _ hw) fA k1 k2 (show s.vm.classes[ids 0]? = some kI from k3) k4 hn hk0 eN eK bN bK (by omega) (by omega) hd (fun H1 locs1 g1 g2 g3 g4 g5 => ?_)
  have hS1 : va_S (ek_A h0) s.heap H1 locs1 := by
    refine ⟨Nat.le_trans hS.1 (by omega), fun q q1 q2 => ?_, fun x hx' => ?_⟩
    · rw [g2 q (Nat.lt_of_lt_of_le q1 hS.1)]
      exact hS.2.1 q q1 q2
    · rcases g5 x hx' with z | z
      · exact hS.2.2 x z
      · show h0 ≤ x.base
        rw [z]
        omega
  have hlen : (ek_rw ids (h0 + es.length) N K).length = 1 + N := by simp [ek_rw]; omega
  rw [hz0]
  have eH : H.size = h0 + es.length := hz0
  have hPW1 : PW D h0 (es ++ ek_rw ids (h0 + es.length) N K) H1 := by
    refine ⟨?_, by rw [List.length_append, hlen]; omega⟩
    rw [wE_app]
    refine va_P.app (fun q x hq => ?_) (fun q x hq => ?_)
    · have hq' := hPW.1 q x hq
      exact hq'.kept (g2 x.1 hq'.lt)
    · obtain ⟨q1, q2⟩ := wE_ta hq
      obtain ⟨xa, xe⟩ := x
      simp only at q1 q2
      subst q2
      cases q with
      | zero =>
        cases q1
        show H1[h0 + es.length + 0]? = some (vp_cell _ _)
        rw [Nat.add_zero, ← eH, g3, vp_cell_q]
        refine congrArg some (arrV_cg (fun j hj => ?_))
        rw [if_pos hj]
        rfl
      | succ q =>
        have q1' : (List.replicate N (Sum.inl (ids 0, K, Sum.inl (fun _ => 0)) : va_E))[q]? = some xe := q1
        rw [List.getElem?_replicate] at q1'
        split at q1'
        · rename_i hq2
          cases q1'
          show H1[h0 + es.length + (q + 1)]? = some (vp_cell _ _)
          rw [show h0 + es.length + (q + 1) = H.size + 1 + q by omega, g4 q hq2]
          rfl
        · cases q1'
  exact kk p l e R s m args below meth c H1 locs1 D lsA ⟨hx, hb, hr, hml, hown, hts, hlk, hnm, ⟨r1, r2, r3, r4⟩, hB, ⟨b1, b2⟩, hPW1, hS1⟩ hl (by rw [List.length_append, hlen]; omega)
theorem Ck_of {as : List Value} {e0 : va_E} (hp : plainName y.1.cls = true) (hi : y.1.name = "<init>") (hle : (ev_sl (.ref h0 :: as)).length ≤ y.2.2.1) (hls : ev_en (.ref h0 :: as) y.2.2.1 = ls) (h : Ek ids ad b0 d C S y 0 ls [] h0 [e0] 0 0 fs) : Ck ids ad b0 d C S y as h0 e0 fs := by
  subst hls
  intro l D
  refine Met.ofW (cc := y.2.1) (maxL := y.2.2.1) (ret := y.2.2.2) hp rfl ?_
  intro p e s m args below meth c s₁ B hml hv
  obtain ⟨rfl, hPW, hB, hb0⟩ := hv
  have hts := atoms_spec (ws := Cond.code y.1 y.2.1 y.2.2.1 y.2.2.2 :: ev_T) B.pre
  have hown : s.vm.findClass y.1.cls = some m.cls := findClass_of_methodNamed B.named
  have hin : meth.name = "<init>" := ((name_of_methodNamed B.named B.method).1).trans hi
  have idm : ∀ vs : List Value, vs.map (ev_cv (fun q => q)) = vs := fun vs => by
    rw [show ev_cv (fun q => q) = id from funext fun v => by cases v <;> rfl, List.map_id]
  have hl := lv_entry ((.ref h0 :: as).map (ev_cv (fun q => q))) (n := y.2.2.1) (by rw [ev_sl_len]; exact hle)
  rw [idm] at hl
  rw [lg_entry_eq]
  refine h p l e _ s m _ below meth c s.heap [] D _ ⟨B.exec, B.bytes, B.returns, hml, hown, fun w hw => hts w (List.mem_cons_of_mem _ hw), B.notSynchronized, hin, ⟨Nat.le_refl _, Nat.le_refl _, Nat.le_refl _, Nat.le_refl _⟩, hB, ⟨hb0, hPW.2⟩, hPW, va_S.rf⟩ ⟨hl.1, hl.2.1, ?_, fun i v hi => ?_⟩ rfl
  · simp only [ev_en, List.length_append, List.length_replicate]; omega
  · rw [List.getElem?_toArray]
    by_cases hq : i < (ev_sl (.ref h0 :: as)).length
    · rw [ev_en, List.getElem?_append_left hq] at hi
      have e1 := ev_sl_len (fun q => q) (.ref h0 :: as)
      have e2 := ev_sl_at (fun q => q) (.ref h0 :: as) i v hi
      rw [idm] at e1 e2
      rw [List.getElem?_append_left (by rw [e1]; exact hq)]
      exact e2
    · rw [ev_en, List.getElem?_append_right (by omega)] at hi
      rw [List.getElem?_replicate] at hi
      split at hi <;> cases hi
theorem ek_blind {as : List Value} {e0 : va_E} {D : va_G} : FrameBlind (va_Pc (.ref h0 :: as) (fun U => PW D h0 [e0] U.heap ∧ ek_B D ids ad b0 U ∧ b0 ≤ h0)) := by
  intro a U g mk q
  obtain ⟨q0, qP, qB, qb⟩ := q
  exact ⟨q0, qP, qB.bl g mk a, qb⟩
/-- behind the call of a constructor -/
theorem ek_back {d0 : Nat} {e0 : va_E} {gs : List va_E} {C2 S2 : Nat} {st0 : List Value} {a : Array Value} {p : Program} {l : Launch} {e : Env} {R : Room} {s : State} {m : MethodId} {args : Array Value} {below : List Frame} {meth : Method} {c : Code} {H : Heap} {locs : List Loc} {D : va_G} {lsA : Array Slot} (X : ek_X ids ad b0 d0 C S y h0 (es ++ [e0]) p R s m args meth c H locs D) (hl : ev_l lsA y.2.2.1 (fun q => q) ls) (hk : kc + 1 = (es ++ [e0]).length) (hg : gs.length = C2 + 1)
    (hr : va_Run p l e R s m args below meth c H locs kc ks C2 S2 (F0 m pc lsA st0) st (ek_Q D (h0 + es.length) gs a) (ek_A (h0 + es.length)))
    (kk : Ek ids ad b0 d0 C S y (pc + 3) ls st h0 (es ++ gs) (kc + C2) (ks + S2) fs) : W p l e R s m args below meth c H locs kc ks (MQ below (ek_Q D h0 fs) args s C S (ek_A h0)) (F0 m pc lsA st0) := by
  obtain ⟨hx, hb, hr', hml, hown, hts, hlk, hnm, rr, hB, ⟨b1, b2⟩, hPW, hS⟩ := X
  have hz0 := hPW.2
  rw [List.length_append, List.length_singleton] at hz0 hk
  refine va_callv hr hS (fun q _ z => by have : h0 + es.length ≤ q := z; show h0 ≤ q; omega) (fun q z => by have : h0 + es.length ≤ q := z; show h0 ≤ q; omega) (fun u t H1 locs1 ht hvm _ hB1 hz1 hk1 hS1 => ?_)
  have hB1 : PW D (h0 + es.length) gs t.heap := hB1
  rw [ht] at hB1
  refine kk p l e R s m args below meth c H1 locs1 D lsA ⟨hx, hb, hr', hml, hown, hts, hlk, hnm, rr, hB, ⟨b1, b2⟩, ⟨?_, ?_⟩, hS1⟩ hl (by rw [List.length_append]; omega)
  · rw [wE_app]
    refine va_P.app (fun i x hi => ?_) hB1.1
    have hi' : (wE h0 (es ++ [e0]))[i]? = some x := by
      rw [wE_app, List.getElem?_append_left (List.getElem?_eq_some_iff.mp hi).1]
      exact hi
    have hx1 := hPW.1 i x hi'
    have hx2 := (wE_ta hi).2
    have hx3 := (List.getElem?_eq_some_iff.mp hi).1
    rw [wE_len] at hx3
    exact hx1.kept (hk1 x.1 hx1.lt (fun z => by have : h0 + es.length ≤ x.1 := z; omega))
  · rw [hB1.2, List.length_append]; omega
def ek_LB (z : ev_Y) (n : Nat) : Prop := ev_LB z n ∧ z.1.name = "<init>" ∧ z.2.2.2 = none ∧ Cond.instanceMethod z.1 ∈ ev_T
theorem ek_pre {s : State} {e0 : va_E} {D : va_G} {H : Heap} {locs : List Loc} {as : List Value} (hB : ek_B D ids ad b0 s) (b1 : b0 ≤ h0) (hPW : PW D h0 (es ++ [e0]) H) (hS : va_S (ek_A h0) s.heap H locs) : PreS s H (va_Pc (.ref (h0 + es.length) :: as) (fun U => PW D (h0 + es.length) [e0] U.heap ∧ ek_B D ids ad b0 U ∧ b0 ≤ h0 + es.length)) (.ref (h0 + es.length) :: as) := by
  refine ⟨ek_blind, fun U hU hW => ⟨rfl, ?_, hB.go hW hU (ek_wk b1 hS), by omega⟩⟩
  rw [hU]
  refine ⟨fun i x hi => ?_, by have := hPW.2; rw [List.length_append, List.length_singleton] at this; rw [List.length_singleton]; omega⟩
  obtain ⟨q1, q2⟩ := wE_ta hi
  have : i < 1 := (List.getElem?_eq_some_iff.mp q1).1
  obtain rfl : i = 0 := by omega
  refine hPW.1 es.length x ?_
  rw [wE_app, List.getElem?_append_right (by rw [wE_len]; exact Nat.le_refl _), wE_len, Nat.sub_self]
  exact hi
theorem ek_callI {idx n C2 S2 : Nat} {z : ev_Y} {e0 : va_E} {gs : List va_E} (as : List Value) (hd : decode y.2.1 pc = .ok (.invokespecial idx, 3)) (hw : ek_LB z n) (hm : Cond.methodLink y.1.cls idx z.1 ∈ ev_T) (hn : as.length = n) (hst : (st.map fun v => v.category).sum ≤ 8) (hC : kc + C2 ≤ C) (hS' : ks + S2 ≤ S) (hg : gs.length = C2 + 1) (hc : Ck ids ad b0 d C2 S2 z as (h0 + es.length) e0 gs) (kk : Ek ids ad b0 (d + 1) C S y (pc + 3) ls st h0 (es ++ gs) (kc + C2) (ks + S2) fs) : Ek ids ad b0 (d + 1) C S y pc ls (as.reverse ++ .ref (h0 + es.length) :: st) h0 (es ++ [e0]) kc ks fs := by
  intro p l e R s m args below meth c H locs D lsA X hl hk
  have X0 := X
  obtain ⟨hx, hb, hr', hml, hown, hts, hlk, hnm, ⟨r1, r2, r3, r4⟩, hB, ⟨b1, b2⟩, hPW, hS⟩ := X
  obtain ⟨⟨w1, w2, w3, w4⟩, w5, w6, w7⟩ := hw
  have hc' := hc l D
  rw [w6] at hc'
  have cb := callB_of (R := R) (rm := { frames := d, cells := C2, slots := S2, locals := 64 * d }) (own := y.1.cls) (index := idx) (mc := C2) (ms := S2) n hts (by have := ev_good z w2; rw [w6] at this; exact this) rfl rfl rfl (hts _ w1) (hts _ hm) w3 ⟨by show d + 1 ≤ _; omega, by show _ + 64 * d ≤ _; omega⟩
  exact ek_back X0 hl hk hg (va_runI (As := as) (rest := st) (b := h0 + es.length) ⟨hx, hb, hml, hown, hts⟩ hc' ⟨cb, w5, hts _ w7⟩ (ek_pre hB b1 hPW hS) rfl hn hl.1 rfl (lv_room hst) hd ⟨by omega, by omega⟩) kk
theorem ek_callN {idx n C2 S2 : Nat} {z : ev_Y} {e0 : va_E} {gs : List va_E} (as : List Value) (hd : decode y.2.1 pc = .ok (.invokespecial idx, 3)) (hw : ek_LB z n) (hm : Cond.methodLinkNest y.1.cls idx z.1 "WithoutE" ∈ ek_N) (hn : as.length = n) (hst : (st.map fun v => v.category).sum ≤ 8) (hC : kc + C2 ≤ C) (hS' : ks + S2 ≤ S) (hg : gs.length = C2 + 1) (hc : Ck ids ad b0 d C2 S2 z as (h0 + es.length) e0 gs) (kk : Ek ids ad b0 (d + 1) C S y (pc + 3) ls st h0 (es ++ gs) (kc + C2) (ks + S2) fs) : Ek ids ad b0 (d + 1) C S y pc ls (as.reverse ++ .ref (h0 + es.length) :: st) h0 (es ++ [e0]) kc ks fs := by
  intro p l e R s m args below meth c H locs D lsA X hl hk
  have X0 := X
  obtain ⟨hx, hb, hr', hml, hown, hts, hlk, hnm, ⟨r1, r2, r3, r4⟩, hB, ⟨b1, b2⟩, hPW, hS⟩ := X
  obtain ⟨⟨w1, w2, w3, w4⟩, w5, w6, w7⟩ := hw
  have hc' := hc l D
  rw [w6] at hc'
  have cb := va_cnB (R := R) (rm := { frames := d, cells := C2, slots := S2, locals := 64 * d }) (own := y.1.cls) (host := "WithoutE") (index := idx) (mc := C2) (ms := S2) n hts (by have := ev_good z w2; rw [w6] at this; exact this) rfl rfl rfl (hB.2.1 _ hm) (hts _ w1) w3 ⟨by show d + 1 ≤ _; omega, by show _ + 64 * d ≤ _; omega⟩
  exact ek_back X0 hl hk hg (va_runIN (As := as) (rest := st) (b := h0 + es.length) ⟨hx, hb, hml, hown, hts⟩ hc' ⟨cb, w5, hts _ w7⟩ (ek_pre hB b1 hPW hS) rfl hn hl.1 rfl (lv_room hst) hd ⟨by omega, by omega⟩) kk
end
