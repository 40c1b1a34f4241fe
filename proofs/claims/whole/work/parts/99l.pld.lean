/-! CALL: played: clause by clause -/
section
variable {d B : Nat} {M N : ev_Mem} {W T S s f : Nat} {lo : Int32}
theorem plays {t n : Nat} (T4 : T ≤ 4) (ht : t < T) (hn24 : n ≤ 24) : ∀ j i, i + j = n → ∀ N B0 M0, B0 + 80 * j < 2 ^ 28 → RX B0 M0 N → N.1 1 2 = nI T → N.1 4 (945 * t) = nI n → ∃ (v : Option Value), vOK mX10_played v ∧ ∃ (N1 : ev_Mem), (∀ d Na, pe N Na → Ev LM (d + 22) mX11_played 21 [some (.ref 0), some (.int (nI t)), some (.int (nI i))] [] Na (fun r N2 => r = v ∧ pe N1 N2)) ∧ ∀ d B M, B + 80 * j < 2 ^ 28 → RX B M N → Ev LX (d + 22) mX10_played 20 [some (.ref 0), none, some (.ref (61 + 5 * t)), some (.int (nI i))] [] M (fun r M2 => r = v ∧ RX (B + 80 * j) M2 N1)
  | 0, i, e, N, B0, M0, hB, h0, hT, hn => by
    have e945 : (945 : Int32) * nI t = nI (945 * t) := by rw [show (945 : Int32) = nI 945 from rfl, pk_mul]
    refine ⟨some (.int (-1)), vok _, N, fun d Na hp => ?_, fun d B M hB h => ?_⟩
    · refine gX11_played_21 (d := d + 21) ?_
      rw [e945, hp.r4, nI_clamp (by omega), hn]
      exact ⟨vp_in_nI (by omega) (by omega), fun _ => ⟨rfl, hp⟩, fun z => absurd (nI_le (by omega) (by omega)) z⟩
    · obtain ⟨n2, u, ⟨a1, a2, a3⟩, -⟩ := RX_dc h hT T4 ht
      have en : n2 = n := (nI_eq (by omega) (by omega)).mp (a3.symm.trans hn)
      subst en
      refine gX10_played_20 (d := d + 21) ⟨t, by omega, rfl⟩ ?_
      rw [a2]
      exact ⟨fun _ => ⟨rfl, h⟩, fun z => absurd (nI_le (by omega) (by omega)) z⟩
  | j + 1, i, e, N, B0, M0, hB, h0, hT, hn => by
    have e945 : (945 : Int32) * nI t = nI (945 * t) := by rw [show (945 : Int32) = nI 945 from rfl, pk_mul]
    obtain ⟨gb, N1, ⟨M1, he⟩, ⟨hN2, hN4⟩, hm, hc⟩ := clause (k := i) (by omega) h0 hT T4 ht hn hn24 (by omega)
    obtain ⟨v, hv, N2, pm, px⟩ := plays T4 ht hn24 j (i + 1) (by omega) N1 (B0 + 80) M1 (by omega) he (by rw [hN2]; exact hT) (by rw [hN4]; exact hn)
    have mod : ∀ d Na Q, pe N Na → (∀ Nb, pe N1 Nb → Ev LM (d + 22) mX11_played 51 [some (.ref 0), some (.int (nI t)), some (.int (nI i))] [.int (bi gb)] Nb Q) → Ev LM (d + 22) mX11_played 21 [some (.ref 0), some (.int (nI t)), some (.int (nI i))] [] Na Q := fun d Na Q hp hk => by
      refine gX11_played_21 (d := d + 21) ?_
      rw [e945, hp.r4, nI_clamp (by omega), hn, nI_1, show (14 : Int32) * nI i = nI (14 * i) by rw [show (14 : Int32) = nI 14 from rfl, pk_mul], nI_add]
      refine ⟨vp_in_nI (by omega) (by omega), fun z => absurd z (nI_ge (by omega) (by omega)), fun _ => ⟨_, hm d Na hp, fun zr Nb q => ?_⟩⟩
      rw [q.1]
      exact hk Nb q.2
    have cls : ∀ d B M Q, B < 2 ^ 28 → RX B M N → (∀ Mb, RX (B + 80) Mb N1 → Ev LX (d + 22) mX10_played 34 [some (.ref 0), none, some (.ref (61 + 5 * t)), some (.int (nI i))] [.int (bi gb)] Mb Q) → Ev LX (d + 22) mX10_played 20 [some (.ref 0), none, some (.ref (61 + 5 * t)), some (.int (nI i))] [] M Q := fun d B M Q hB h hk => by
      obtain ⟨n2, u, ⟨a1, a2, a3⟩, -⟩ := RX_dc h hT T4 ht
      have en : n2 = n := (nI_eq (by omega) (by omega)).mp (a3.symm.trans hn)
      subst en
      refine gX10_played_20 (d := d + 21) ⟨t, by omega, rfl⟩ ?_
      rw [a2]
      refine ⟨fun z => absurd z (nI_ge (by omega) (by omega)), fun _ => ⟨_, hc d B M hB h, fun zr Mb q => ?_⟩⟩
      rw [q.1]
      exact hk Mb q.2
    cases gb with
    | false =>
      refine ⟨some (.int (nI i)), vok _, N1, fun d Na hp => mod d Na _ hp (fun Nb hb => ?_), fun d B M hB h => cls d B M _ (by omega) h (fun Mb hb => ?_)⟩
      · exact gX11_played_51 ⟨fun z => absurd rfl z, fun _ => ⟨rfl, hb⟩⟩
      · exact gX10_played_34 ⟨t, by omega, rfl⟩ ⟨fun z => absurd rfl z, fun _ => ⟨rfl, RX_up (by omega) hb⟩⟩
    | true =>
      refine ⟨v, hv, N2, fun d Na hp => mod d Na _ hp (fun Nb hb => ?_), fun d B M hB h => cls d B M _ (by omega) h (fun Mb hb => ?_)⟩
      · refine gX11_played_51 ⟨fun _ => ?_, fun z => absurd z (by decide)⟩
        rw [nI_1]; exact pm d Nb hb
      · refine gX10_played_34 ⟨t, by omega, rfl⟩ ⟨fun _ => ?_, fun z => absurd z (by decide)⟩
        rw [nI_1, show B + 80 * (j + 1) = B + 80 + 80 * j by omega]
        exact px d (B + 80) Mb (by omega) hb
theorem op_played (hB : B < 2 ^ 27) (h : RX B M N) (x : Int32) : OP 200 mX10_played mX11_played [.int x] B M N := by
  obtain ⟨W, S, T, Wk, Sk, Tk, h1, h2, h3, h4, -⟩ := id h
  obtain ⟨hsd, hS⟩ := RX_sd h1 h4
  have T4 := hsd.t4
  by_cases hx : ∃ t, t < T ∧ x = nI t
  · obtain ⟨t, ht, rfl⟩ := hx
    obtain ⟨n, u, ⟨a1, a2, a3⟩, -⟩ := RX_dc h hsd.nt T4 ht
    obtain ⟨v, hv, N1, pm, px⟩ := plays T4 ht a1 n 0 (by omega) N B M (by omega) h hsd.nt a3
    have z1 : iin (nI t) 0 (nI T - 1) = true := (iin_N (by omega)).mpr ⟨t, ht, rfl⟩
    refine ⟨v, hv, N1, ?_, ?_⟩
    · refine Cl_of rfl (Nat.le_of_ble_eq_true rfl) rfl (gX10_played_0 (d := 199) ⟨sd_okT hsd, fun _ => ⟨vp_in_nI (by omega) (by omega), ?_⟩, fun z => ?_⟩)
      · rw [nI_clamp (by omega)]
        exact Ev.mono (px 178 B M (by omega) h) (fun r M2 q => ⟨q.1, RX_up (by omega) q.2⟩)
      · rw [hsd.mt] at z; exact bb z z1
    · refine Cl_of rfl (Nat.le_of_ble_eq_true rfl) rfl (gX11_played_0 (d := 199) ⟨fun _ => pm 178 N pe.rf, fun z => ?_⟩)
      rw [hsd.nt] at z; exact bb z z1
  · have z1 : iin x 0 (nI T - 1) = false := by
      cases e : iin x 0 (nI T - 1) with
      | false => rfl
      | true => exact absurd ((iin_N (by omega)).mp e) hx
    refine op_ro (v := some (.int (-2))) h ?_ ?_
    · refine Cl_of rfl (Nat.le_of_ble_eq_true rfl) rfl (gX10_played_0 (d := 199) ⟨sd_okT hsd, fun z => ?_, fun _ => ⟨rfl, xq.rf⟩⟩)
      rw [hsd.mt] at z; exact bb z z1
    · refine Cl_of rfl (Nat.le_of_ble_eq_true rfl) rfl (gX11_played_0 (d := 199) ⟨fun z => ?_, fun _ => ⟨rfl, pe.rf⟩⟩)
      rw [hsd.nt] at z; exact bb z z1
end
