/-! MAKING OBJECTS: calls of what is proved over a layout; rows with their lists told -/
section
variable {L : List ev_C} {M : ev_Mem} {d : Nat}
theorem fl_5 {Q : Option Value → ev_Mem → Prop} {x1 x2 x3 : Int32} {k n : Nat} {kid : Nat → Nat} (hk : L[k]? = some (.inl (0, n, 0, kid))) (h : (((x3 ≤ x2) → (Q none M)) ∧ ((¬ x3 ≤ x2) → (vp_in x2 n ∧ (∀ M1 : ev_Mem, M1 = ev_wr M k x2.toNatClampNeg x1 → (Ev L d mJ7_fill_53178 5 [some (.ref k), some (.int x1), some (.int (x2 + 1)), some (.int x3)] [] M1 Q)))))) : Ev L d mJ7_fill_53178 5 [some (.ref k), some (.int x1), some (.int x2), some (.int x3)] [] M Q := by
  refine ev_iload_n dJ7_fill_53178_5 rfl ?_
  refine ev_iload_n dJ7_fill_53178_6 rfl ?_
  refine ev_icmp_ge (tgt := 20) dJ7_fill_53178_7 (by decide) (fun c => ?_) (fun c => ?_)
  · exact ev_vret dJ7_fill_53178_20 rfl (h.1 c)
  · replace h := h.2 c
    refine ev_aload_n dJ7_fill_53178_10 rfl ?_
    refine ev_iload_n dJ7_fill_53178_11 rfl ?_
    refine ev_iload_n dJ7_fill_53178_12 rfl ?_
    obtain ⟨c, h⟩ := h
    refine ev_iast dJ7_fill_53178_13 hk c ?_
    generalize eM1 : ev_wr M k x2.toNatClampNeg x1 = M1
    replace h := h M1 eM1.symm
    refine ev_iinc (v := x2 + 1) (ls2 := [some (.ref k), some (.int x1), some (.int (x2 + 1)), some (.int x3)]) dJ7_fill_53178_14 rfl rfl rfl ?_
    exact ev_goto (tgt := 5) dJ7_fill_53178_17 (by decide) h
theorem fl_all {k n : Nat} {kid : Nat → Nat} {v : Int32} (hk : L[k]? = some (.inl (0, n, 0, kid))) (hn : n < 2 ^ 31) : Cl L d mJ7_fill_53178 [.ref k, .int v] M (ev_R none (mfl M k n v)) := by
  refine Cl_of (ls := [some (.ref k), some (.int v), none, none]) rfl (Nat.le_of_ble_eq_true rfl) rfl ?_
  have lp : ∀ (j i : Nat), i + j = n → Ev L d mJ7_fill_53178 5 [some (.ref k), some (.int v), some (.int (nI i)), some (.int (nI n))] [] (mfl M k i v) (ev_R none (mfl M k n v)) := by
    intro j
    induction j with
    | zero =>
      intro i hi
      obtain rfl : i = n := by omega
      exact fl_5 hk ⟨fun _ => ⟨rfl, rfl⟩, fun h => absurd (nI_le (Nat.le_refl i) hn) h⟩
    | succ j ih =>
      intro i hi
      refine fl_5 hk ⟨fun h => absurd h (nI_ge (by omega) hn), fun _ => ⟨vp_in_nI (by omega) hn, fun M1 e1 => ?_⟩⟩
      rw [nI_clamp (by omega), mfl_s] at e1
      rw [nI_1, e1]
      exact ih (i + 1) (by omega)
  refine ev_iconst (v := 0) dJ7_fill_53178_0 (by decide) ?_
  refine ev_istore_n (ls2 := [some (.ref k), some (.int v), some (.int 0), none]) dJ7_fill_53178_1 (Nat.le_of_ble_eq_true rfl) rfl ?_
  refine ev_aload_n dJ7_fill_53178_2 rfl ?_
  refine ev_alen (q := 0) (v := nI n) dJ7_fill_53178_3 hk (fun _ => rfl) rfl ?_
  refine ev_istore_n (ls2 := [some (.ref k), some (.int v), some (.int 0), some (.int (nI n))]) dJ7_fill_53178_4 (Nat.le_of_ble_eq_true rfl) rfl ?_
  have := lp n 0 (by omega)
  rw [mfl_0] at this
  exact this
end
section
variable {ids : Nat → ClassId} {ad : Nat → Nat} {b0 d C S : Nat} {y : ev_Y} {pc : Nat} {ls : List (Option Value)} {st : List Value} {h0 : Nat} {es es2 : List va_E} {kc ks : Nat} {fs : List va_E}
/-- where a layout's cells stand -/
def ek_ad (h0 : Nat) (ix : Nat → Nat) (ad : Nat → Nat) (k : Nat) : Nat := if k < 1000 then h0 + ix k else ad k
theorem ek_clS {L : List ev_C} {ix : Nat → Nat} {M M2 : ev_Mem} {idx n : Nat} {z : ev_Y} (as : List Value) (hd : decode y.2.1 pc = .ok (.invokestatic idx, 3)) (hw : ev_LS y.1.cls idx z n) (hn : as.length = n) (hst : (st.map fun v => v.category).sum ≤ 8) (hC : kc ≤ C) (hS' : ks ≤ S) (hL : L.length ≤ 1000) (hi : ∀ k c, L[k]? = some c → es[ix k]? = some (ev_ent (ek_ad h0 ix ad) ids M k c)) (hj : ∀ a b, a < L.length → b < L.length → ix a = ix b → a = b) (hc : Cl L d z as M (ev_R none M2)) (hlen : es2.length = es.length) (ho : ∀ i e, es2[i]? = some e → (∃ k c, L[k]? = some c ∧ ix k = i ∧ e = ev_ent (ek_ad h0 ix ad) ids M2 k c) ∨ (es[i]? = some e ∧ ∀ k, k < L.length → ix k ≠ i)) (kk : Ek ids ad b0 (d + 1) C S y (pc + 3) ls st h0 es2 kc ks fs) : Ek ids ad b0 (d + 1) C S y pc ls ((as.map (ev_cv (ek_ad h0 ix ad))).reverse ++ st) h0 es kc ks fs := by
  intro p l e R s m args below meth c H locs D lsA X hl hk
  obtain ⟨hx, hb, hr', hml, hown, hts, hlk, hnm, ⟨r1, r2, r3, r4⟩, hB, ⟨b1, b2⟩, hPW, hS⟩ := X
  have hz0 := hPW.2
  obtain ⟨⟨w1, w2, w3, w4⟩, w5, w6⟩ := hw
  have adk : ∀ k, k < L.length → ek_ad h0 ix ad k = h0 + ix k := fun k hk => by unfold ek_ad; rw [if_pos (by omega)]
  have hA : ∀ q, ev_A L (ek_ad h0 ix ad) q → ek_A h0 q := fun q hq => by
    obtain ⟨k, k1, k2⟩ := hq
    show h0 ≤ q
    rw [k2, adk k k1]
    omega
  have hPL : va_P D ev_cl (ev_ws L (ek_ad h0 ix ad) ids M) H := fun k q hq => by
    have hkl : k < L.length := by rw [← ev_len (ad := ek_ad h0 ix ad) (ids := ids) (M := M)]; exact (List.getElem?_eq_some_iff.mp hq).1
    rw [ev_at (List.getElem?_eq_getElem hkl)] at hq
    cases hq
    have := hPW.at' (hi k _ (List.getElem?_eq_getElem hkl))
    rw [← adk k hkl] at this
    exact this
  have hJ : ev_J L (ek_ad h0 ix ad) := fun a b ha hb' e => by
    rw [adk a ha, adk b hb'] at e
    exact hj a b ha hb' (by omega)
  have cb := callB_of (R := R) (rm := ev_rm d) (own := y.1.cls) (index := idx) (mc := 0) (ms := 0) n hts (ev_good z w2) rfl rfl rfl (hts _ w1) (hts _ w5) w3 ⟨by show d + 1 ≤ _; omega, by show _ + 64 * d ≤ _; omega⟩
  have hrun := va_runS (l := l) (e := e) (below := below) (meth := meth) (locs := locs) (cells := kc) (slots := ks) (g := F0 m pc lsA ((as.map (ev_cv (ek_ad h0 ix ad))).reverse ++ st)) (As := as.map (ev_cv (ek_ad h0 ix ad))) (rest := st) ⟨hx, hb, hml, hown, hts⟩ (hc l D (ek_ad h0 ix ad) ids) ⟨cb, hts _ w6⟩ ⟨ev_blind, fun U hU hW => ⟨rfl, by rw [hU]; exact hPL, va_K.moved hW.alike hB.1, hJ, ev_Sn (ev_Sgo hW hU (ek_wk b1 hS) hB.2.2.1) (fun q hq => by have : h0 ≤ q := hA q hq; show b0 ≤ q; omega) (fun k hk => by unfold ek_ad; rw [if_neg (by omega)])⟩⟩ rfl (by rw [List.length_map]; exact hn) hl.1 rfl (lv_room hst) hd ⟨by omega, by omega⟩
  intro T hT X1
  obtain ⟨v, st₀, t, T', L1, g0, X', hL1, e1, e2, ⟨⟨r, M', hv, hq, hP⟩, hz, hkp⟩, stp⟩ := hrun T hT X1
  obtain ⟨rfl, rfl⟩ := hq
  cases hv
  rw [g0] at hz hkp
  have hz2 := X'.heapSize
  rw [e1] at hz2
  have hPW1 : PW D h0 es2 T'.heap := by
    rw [e1]
    refine ⟨fun i x hx' => ?_, by rw [hlen]; omega⟩
    obtain ⟨x1, x2⟩ := wE_ta hx'
    rcases ho i x.2 x1 with ⟨k, c2, k1, k2, k3⟩ | ⟨k1, k2⟩
    · have := hP k _ (ev_at k1)
      have kl := (List.getElem?_eq_some_iff.mp k1).1
      rw [adk k kl, k2, ← k3, ← x2] at this
      exact this
    · have hx2 : va_at D ev_cl (h0 + i, x.2) H := hPW.at' k1
      rw [← x2] at hx2
      refine va_at.kept (q := (x.1, x.2)) hx2 (hkp x.1 hx2.lt (fun zz => ?_))
      obtain ⟨k, k3, k4⟩ := zz
      rw [adk k k3, x2] at k4
      exact k2 k k3 (by omega)
  have hS1 : va_S (ek_A h0) s.heap T'.heap (locs ++ L1) := ⟨Nat.le_trans hS.1 (by rw [e1]; exact hz), fun q q1 q2 => by rw [e1, hkp q (Nat.lt_of_lt_of_le q1 hS.1) (fun zz => q2 (hA q zz))]; exact hS.2.1 q q1 q2, fun q hq' => by
    rcases List.mem_append.mp hq' with h | h
    · exact hS.2.2 q h
    · exact hA _ (hL1 q h)⟩
  obtain ⟨t2, a1, c1⟩ := kk p l e R s m args below meth c T'.heap (locs ++ L1) D lsA ⟨hx, hb, hr', hml, hown, hts, hlk, hnm, ⟨r1, r2, r3, r4⟩, hB, ⟨b1, b2⟩, hPW1, hS1⟩ hl (by rw [hlen]; exact hk) T' rfl X'
  exact ⟨t2, stp t2 a1, c1⟩
/-- a row filled with one number -/
theorem ek_fill {i n idx : Nat} {f : Nat → Int32} {v : Int32} (hd : decode y.2.1 pc = .ok (.invokestatic idx, 3)) (hw : ev_LS y.1.cls idx mJ7_fill_53178 2) (hst : (st.map fun v => v.category).sum ≤ 8) (hC : kc ≤ C) (hS' : ks ≤ S) (he : es[i]? = some (.inl (ids 0, n, .inl f))) (hn : n < 2 ^ 31) (kk : Ek ids ad b0 (d + 1) C S y (pc + 3) ls st h0 (es.set i (.inl (ids 0, n, .inl (fun j => if j < n then v else f j)))) kc ks fs) : Ek ids ad b0 (d + 1) C S y pc ls (.int v :: .ref (h0 + i) :: st) h0 es kc ks fs := by
  have hil := (List.getElem?_eq_some_iff.mp he).1
  refine ek_clS (L := [.inl (0, n, 0, ev_k0)]) (ix := fun _ => i) (M := (fun _ => f, fun _ _ => 0)) (M2 := mfl (fun _ => f, fun _ _ => 0) 0 n v) [.ref 0, .int v] hd hw rfl hst hC hS' (by simp) (fun k c hk => ?_) (fun a b ha hb _ => ?_) (fl_all (L := [.inl (0, n, 0, ev_k0)]) (k := 0) rfl hn) (by rw [List.length_set]) (fun j e hj => ?_) kk
  · have : k < 1 := (List.getElem?_eq_some_iff.mp hk).1
    obtain rfl : k = 0 := by omega
    cases hk
    exact he
  · simp only [List.length_singleton] at ha hb
    omega
  · by_cases q : j = i
    · subst q
      rw [List.getElem?_set_self hil] at hj
      cases hj
      refine Or.inl ⟨0, _, rfl, rfl, ?_⟩
      refine congrArg (fun g : Nat → Int32 => (Sum.inl (ids 0, n, Sum.inl g) : va_E)) (funext fun x => ?_)
      show (if x < n then v else f x) = if 0 = 0 ∧ x < n then v else f x
      by_cases z : x < n
      · rw [if_pos z, if_pos ⟨rfl, z⟩]
      · rw [if_neg z, if_neg (fun w => z w.2)]
    · rw [List.getElem?_set_ne (Ne.symm q)] at hj
      exact Or.inr ⟨hj, fun _ _ z => q z.symm⟩
/-- lists told -/
theorem Ek.cg (h : es = es2) (k : Ek ids ad b0 d C S y pc ls st h0 es2 kc ks fs) : Ek ids ad b0 d C S y pc ls st h0 es kc ks fs := by rw [h]; exact k
end
