section
variable {d : Nat} {M : ev_Mem}
theorem kX4_readLetter {n kt k s u : Nat} (h : rdS M n kt k s u) (hus : u ≤ s) : Cl LX (d + 3) mX4_readLetter [.ref 81] M (pR M n kt k s u 0 (List.map nI) (ltR (byM M) n 1 s)) := by
  have t := rd_tk h
  have ik := h.2.2.2.2.1
  have kt' := rd_kt h
  have e6 := h.2.1.2.1
  have el := nxt_le (b := byM M) (n := n) (s := s) t.2.2.1
  refine Cl_of rfl (Nat.le_of_ble_eq_true rfl) rfl (gX4_readLetter_0 ⟨_, kX4_checkLetters (m := 1) h (by omega), fun zr zM hz => ?_⟩)
  rcases hz with ⟨vs, s2, e, rfl, rfl⟩ | ⟨f, s2, e, rfl, hf⟩
  · have e' := e
    unfold ltR at e
    split at e
    · rename_i h1
      have hsn := srt_end (b := byM zM) (n := n) (s := s) (by omega)
      split at e
      · cases e
      · rename_i z1
        split at e
        · rename_i z2
          cases e
          have L1 : nxt (byM zM) n s - s = 1 := by omega
          unfold sma at z2
          rw [L1] at z2
          have z3 := al_t.mp z2 0 (by omega)
          rw [Nat.add_zero, Bool.and_eq_true, decide_eq_true_iff, decide_eq_true_iff] at z3
          obtain ⟨b1, b2⟩ := tp_b h.1 (i := s) hsn
          refine gX4_readLetter_5 ⟨fun _ => ⟨kt'.2, by rw [e6]; exact vp_in_nI (by omega) (by omega), by rw [kt'.1]; exact (put_c (x := 0) h (by omega)).1, fun M1 e1 => ?_⟩, fun z => absurd z (by decide)⟩
          rw [kt'.1, e6, nI_clamp (by omega), b1, show (97 : Int32) = nI 97 from rfl, pk_sub z3.1] at e1
          obtain ⟨p1, p2, p3, p4⟩ := put_c (x := nI (byM zM s - 97)) h (by omega)
          rw [← e1] at p2 p3 p4
          refine ⟨_, adv_c p2 hsn, fun zr zM2 hz => ?_⟩
          obtain ⟨rfl, a1, a2, a3⟩ := hz
          rw [pfz_by ik p3] at a1 a3
          refine gX4_readLetter_36 (Or.inl ⟨_, _, e', rfl, ?_⟩)
          rw [L1]
          refine ⟨a1, p3.tr a2 (by omega), ?_, fun i hi => ?_⟩
          · show 1 + s ≤ _; omega
          · obtain rfl : i = 0 := by
              have : i < 1 := hi
              omega
            show zM2.1 (kt + 1) u = nI (byM zM s - 97)
            rw [a2.2.2.2 u (by omega), p4]
        · cases e
    · cases e
  · exact gX4_readLetter_5 ⟨fun z => absurd rfl z, fun _ => Or.inr ⟨f, s2, e, rfl, hf⟩⟩
/-- a word's letters as the class keeps them -/
def ltC (vs : List Nat) : List Int32 := nI vs.length :: vs.map (fun x => nI (97 + x))
theorem kX4_readLetters {n kt k s u : Nat} (h : rdS M n kt k s u) (hus : u + 2 ≤ s) : Cl LX (d + 3) mX4_readLetters [.ref 81] M (pR M n kt k s u 1 ltC (ltR (byM M) n 9 s)) := by
  have t := rd_tk h
  have ik := h.2.2.2.2.1
  have kt' := rd_kt h
  have e6 := h.2.1.2.1
  have e7 := h.2.1.2.2
  have el := nxt_le (b := byM M) (n := n) (s := s) t.2.2.1
  refine Cl_of rfl (Nat.le_of_ble_eq_true rfl) rfl (gX4_readLetters_0 ⟨_, kX4_checkLetters (m := 9) h (by omega), fun zr zM hz => ?_⟩)
  rcases hz with ⟨vs, s2, e, rfl, rfl⟩ | ⟨f, s2, e, rfl, hf⟩
  · have e' := e
    unfold ltR at e
    split at e
    · rename_i h1
      have hsn := srt_end (b := byM zM) (n := n) (s := s) (by omega)
      split at e
      · cases e
      · rename_i z1
        split at e
        · rename_i z2
          cases e
          have z3 := al_t.mp z2
          refine gX4_readLetters_6 ⟨fun _ => ⟨kt'.2, by rw [kt'.1]; exact (put_c (x := 0) h (by omega)).1, fun M1 e1 => ?_⟩, fun z => absurd z (by decide)⟩
          rw [kt'.1, e6, e7, pk_sub el.1] at e1
          obtain ⟨p1, p2, p3, p4⟩ := put_c (x := nI (nxt (byM zM) n s - s)) h (by omega)
          rw [← e1] at p2 p3 p4
          have b1' := pfz_by ik p3
          have lp : ∀ j, j ≤ nxt (byM zM) n s - s → ∀ M2, rdS M2 n kt k s (u + 1 + j) → pfz kt u zM M2 → M2.1 (kt + 1) u = nI (nxt (byM zM) n s - s) → (∀ i, i < j → M2.1 (kt + 1) (u + 1 + i) = nI (byM zM (s + i))) → Ev LX (d + 3) mX4_readLetters 32 [some (.ref 81), some (.int (nI (s + j)))] [] M2 (pR zM n kt k s u 1 ltC (ltR (byM zM) n 9 s)) := by
            refine dn ?_ (fun j hj ih => ?_)
            · intro M2 r2 q2 c0 cs
              have b2 := pfz_by ik q2
              have f7 := r2.2.1.2.2
              rw [b2] at f7
              refine gX4_readLetters_32 ⟨fun _ => ⟨_, adv_c r2 hsn, fun zr M3 hz => ?_⟩, fun q => ?_⟩
              · obtain ⟨rfl, a1, a2, a3⟩ := hz
                rw [b2] at a1 a3
                refine gX4_readLetters_66 (Or.inl ⟨_, _, e', rfl, ?_⟩)
                have ll : (ltC (lts' (byM zM) s (nxt (byM zM) n s - s))).length = nxt (byM zM) n s - s + 1 := by unfold ltC; rw [List.length_cons, List.length_map, lts_len]
                have nn : nxt (byM zM) n s ≤ nxs (byM zM) n s := (skp_le (b := byM zM) (n := n) (p := nxt (byM zM) n s) el.2.1).1
                refine ⟨by rw [ll]; rw [show u + (nxt (byM zM) n s - s + 1) = u + 1 + (nxt (byM zM) n s - s) by omega]; exact a1, q2.tr a2 (by omega), by rw [ll]; omega, fun i hi => ?_⟩
                rw [ll] at hi
                rw [a2.2.2.2 _ (by omega)]
                cases i with
                | zero =>
                  show M2.1 (kt + 1) u = nI (lts' (byM zM) s (nxt (byM zM) n s - s)).length
                  rw [c0, lts_len]
                | succ i =>
                  rw [show u + (i + 1) = u + 1 + i by omega, cs i (by omega)]
                  show nI (byM zM (s + i)) = ((lts' (byM zM) s (nxt (byM zM) n s - s)).map (fun x => nI (97 + x))).getD i 0
                  have gl : ∀ m i, i < m → (lts' (byM zM) s m)[i]? = some (byM zM (s + i) - 97) := by
                    intro m
                    induction m with
                    | zero => intro i hi; omega
                    | succ m im =>
                      intro i hi
                      rw [lts']
                      rcases Nat.lt_or_ge i m with w | w
                      · rw [List.getElem?_append_left (by rw [lts_len]; exact w)]
                        exact im i w
                      · obtain rfl : i = m := by omega
                        rw [List.getElem?_append_right (by rw [lts_len]; exact Nat.le_refl _), lts_len, Nat.sub_self]
                        rfl
                  have z4 := z3 i (by omega)
                  rw [Bool.and_eq_true, decide_eq_true_iff, decide_eq_true_iff] at z4
                  rw [List.getD_eq_getElem?_getD, List.getElem?_map, gl _ _ (by omega)]
                  show nI (byM zM (s + i)) = nI (97 + (byM zM (s + i) - 97))
                  rw [show 97 + (byM zM (s + i) - 97) = byM zM (s + i) by omega]
              · rw [f7] at q
                exact absurd (nI_le (show nxt (byM zM) n s ≤ s + (nxt (byM zM) n s - s) by omega) (by omega)) q
            · intro M2 r2 q2 c0 cs
              have b2 := pfz_by ik q2
              have f7 := r2.2.1.2.2
              rw [b2] at f7
              have k2 := rd_kt r2
              obtain ⟨b1, b3⟩ := tp_b r2.1 (i := s + j) (by omega)
              rw [b2] at b1
              refine gX4_readLetters_32 ⟨fun q => ?_, fun _ => ⟨k2.2, vp_in_nI (by omega) (by omega), by rw [k2.1]; exact (put_c (x := 0) r2 (by omega)).1, fun M3 e3 => ?_⟩⟩
              · rw [f7] at q
                exact absurd q (nI_ge (by omega) (by omega))
              · rw [k2.1, nI_clamp (by omega), b1] at e3
                obtain ⟨w1, w2, w3, w4⟩ := put_c (x := nI (byM zM (s + j))) r2 (by omega)
                rw [← e3] at w2 w3 w4
                rw [nI_1, Nat.add_assoc]
                refine ih M3 w2 (q2.tr w3 (by omega)) (by rw [w3.2.2.2 u (by omega)]; exact c0) (fun i hi => ?_)
                rcases Nat.lt_or_ge i j with w | w
                · rw [w3.2.2.2 _ (by omega)]; exact cs i w
                · obtain rfl : i = j := by omega
                  exact w4
          have f6 := p2.2.1.2.1
          rw [f6]
          have := lp 0 (by omega) M1 p2 p3 p4 (fun i hi => by omega)
          rw [Nat.add_zero] at this
          exact this
        · cases e
    · cases e
  · exact gX4_readLetters_6 ⟨fun z => absurd rfl z, fun _ => Or.inr ⟨f, s2, e, rfl, hf⟩⟩
end
