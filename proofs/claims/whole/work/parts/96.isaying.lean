/-! saying: class and model -/
theorem Wtp.ex {ν : MM} {w tp row n : Nat} (h : Wtp ν w tp row n) : n ≤ 100 := h.2.2.1
theorem i_saying (d : Nat) {ν : MM} (hI : Inv ν) : CI (fun μ => ev (d + 28) 65 0 [.ref 28] [] (fx μ)) (fun μ => ev (d + 28) 132 0 [.ref 46] [] (fx μ)) ν := by
  have hI' := hI
  obtain ⟨⟨A, T, st, H, n, m, C, S, W, ht, hs, cs, hP⟩, -⟩ := hI'
  have hP' := hP
  obtain ⟨p1, p2, p3, p4, p5, p6⟩ := hP'
  have p5' := p5
  obtain ⟨c5, c6, c7, c8⟩ := p5'
  have hF := hI.f
  have lt5 : (Int32.ofNat S < 5) = (S < 5) := O_lt (b := 5) (by omega) (by decide)
  have eq5 : (Int32.ofNat S = 5) = (S = 5) := O_eq (b := 5) (by omega) (by decide)
  by_cases hC : S < 5
  case neg =>
    refine QI.c hI ⟨-4, ν, ν, ?_, ?_, Fr.rf, Fr.rf, hI.b⟩
    · show ev (d + 28) 65 0 [.ref 28] [] (fx ν) = _
      rw [e_65_0, c5, if_neg (by rw [lt5]; exact hC), e_65_1]
    · show ev (d + 28) 132 0 [.ref 46] [] (fx ν) = _
      rw [e_132_0, c6, if_pos (by rw [eq5]; omega), e_132_1]
  obtain ⟨ch, hx, hR, hM⟩ := tape_ch p2
  obtain ⟨ν1, k1, w1, w2, w3⟩ := s_20 (d + 9) ⟨p2.1, hx, hR⟩ hI.s
  have hF1 := k1.1.2.1 hF
  have gw := pE_gd (s := 6) hx (by decide) (p := 0) (Nat.zero_le _)
  have j29 := (k1.2.1 29 (by omega) (by omega)).1
  have j47 := (k1.2.1 47 (by omega) (by omega)).1
  by_cases ok : (pAny (pOne (chS 6) ch 5) ch 0).1 = true ∧ (pAny (pOne (chS 6) ch 5) ch 0).2.1 = n
  · obtain ⟨a, e1, co⟩ := w2 ok.1 ok.2
    have e1 : ev (d + 27) 20 0 [.ref 39] [] (fx ν) = some (some (.ref a), fx ν1) := e1
    obtain ⟨ol, ot, oh⟩ := gw.2 ok.1
    have on : (pAny (pOne (chS 6) ch 5) ch 0).2.1 ≤ n := gw.1.2
    obtain ⟨X, hX⟩ : ∃ X, X = sR (sI ν1 29 1 0) 32 S (some a) := ⟨_, rfl⟩
    have b5 : gI (sI ν1 29 1 0) 29 5 = Int32.ofNat S := by rw [gI_sI, if_neg (by omega), j29, c5]
    have x3 : gI (fx X) 29 5 + 1 = Int32.ofNat (S + 1) := by
      show gI X 29 5 + 1 = _
      rw [hX, gI_sR, b5, O_p1]
    obtain ⟨ν2, hν2⟩ : ∃ ν2, ν2 = sI X 29 5 (Int32.ofNat (S + 1)) := ⟨_, rfl⟩
    have x4 : gI (fx ν2) 29 5 - 1 = Int32.ofNat S := by
      show gI ν2 29 5 - 1 = _
      rw [hν2, gI_sI, if_pos ⟨rfl, rfl⟩, O_sub1]
    have sa : shp (fx (sI ν1 29 1 0)) a = 3 := co.2.1
    have kX : Kp ν1 ν2 := by
      rw [hν2, hX]
      exact ((Kp.wI (q := 29) (k := 1) _ (by decide) rfl (by omega)).tr (Kp.wR (q := 32) (k := S) _ (by decide) ⟨by decide, by decide, by decide⟩ (fun _ c hc => by cases hc; exact sa) (fun h => by omega))).tr (Kp.wI (q := 29) (k := 5) _ (by decide) rfl (by omega))
    have i2 : ∀ q k, ¬ (q = 29 ∧ (k = 1 ∨ k = 5)) → gI ν2 q k = gI ν1 q k := fun q k h => by rw [hν2, gI_sI, if_neg (by omega), hX, gI_sR, gI_sI, if_neg (by omega)]
    have r2 : ∀ q k, gR ν2 q k = if q = 32 ∧ k = S then some a else gR ν1 q k := fun q k => by rw [hν2, gR_sI, hX, gR_sR, gR_sI]
    have a47 : ∀ k, gI ν2 47 k = gI ν 47 k := fun k => by rw [i2 47 k (by omega), j47]
    have cl : ev (d + 28) 65 0 [.ref 28] [] (fx ν) = some (some (.int (Int32.ofNat S)), fx ν2) := by
      rw [e_65_0, c5, if_pos (by rw [lt5]; exact hC), e_65_2, e1]
      show bnd 3 (some (some (rv (some a)), fx ν1)) _ = _
      rw [bnd_3, app1, e_65_3, asN_s, e_65_5, sa, b5, inb_O (by omega) (by omega), show ((cin [3] 3 || false) && true) = true from rfl, gd_t, tn_O (by omega), fx_sR _ _ (by
        have q : ∀ k, k < 5 → (fxR.getD 32 []).getD k none = none := by decide
        exact q S hC), ← hX, x3, fx_sI, ← hν2, x4]
    have hS2 : Str ν2 := fun i hi => by
      have := k1.str hI.s i hi
      exact ⟨by rw [i2 _ _ (by omega)]; exact this.1, fun j => by rw [i2 _ _ (by omega)]; exact this.2 j⟩
    obtain ⟨ν3, f3, z5, z1, -⟩ := m_132 (d + 4) (ν := ν2) (S := S) (by rw [a47]; exact c6) hC ⟨by rw [a47]; exact p2.2.1, hx, fun p hp => by rw [a47]; exact hM p hp⟩ hS2
    obtain ⟨e2, y1, y2⟩ := z1 ok.1 ok.2
    have e2 : ev (d + 28) 132 0 [.ref 46] [] (fx ν2) = _ := e2
    obtain ⟨ν4, hν4⟩ : ∃ ν4, ν4 = sI ν3 47 2 (Int32.ofNat (S + 1)) := ⟨_, rfl⟩
    rw [← hν4] at e2
    have kY : Kp ν3 ν4 := by
      rw [hν4]
      exact Kp.wI (q := 47) (k := 2) _ (by decide) rfl (by omega)
    have i4 : ∀ q k, ¬ (q = 47 ∧ k = 2) → gI ν4 q k = gI ν3 q k := fun q k h => by rw [hν4, gI_sI, if_neg (by omega)]
    have r4 : ∀ q k, gR ν4 q k = gR ν3 q k := fun q k => by rw [hν4]; rfl
    have s47 : I47 ν ν4 (5 + S) := fun k h2 h3 h5 h6 hA hB => by rw [i4 47 k (by omega), f3.2.2.2.2 k h5 hA hB, a47]
    have s29 : ∀ k, gI ν4 29 k = gI ν2 29 k := fun k => by rw [i4 29 k (by omega), f3.2.2.2.1 29 (by omega) (by omega)]
    have sR2 : ∀ q k, q ≠ 46 → gR ν4 q k = gR ν2 q k := fun q k hq => by rw [r4, f3.2.2.1 q hq]
    have rr : ∀ q k, q = 29 ∨ q = 33 ∨ (q = 32 ∧ k ≠ S) → gR ν4 q k = gR ν q k := fun q k hq => by rw [sR2 q k (by omega), r2, if_neg (by omega), (k1.2.1 q (by omega) (by omega)).2]
    have kA : Kp ν ν2 := k1.1.tr kX
    have kB : Kp ν2 ν4 := f3.1.tr kY
    have gr := (kA.tr kB).1
    have gr1 := (kX.tr kB).1
    obtain ⟨q1, q2, q3, q4⟩ := wr_rd (μ := ν4) hP gr hF (fun k h1 h2 h3 => by rw [s29, i2 29 k (by omega), j29]) (by rw [s29, hν2, gI_sI, if_neg (by omega), hX, gI_sR, gI_sI, if_pos ⟨rfl, rfl⟩]) (by rw [i4 47 5 (by omega)]; exact z5) s47 (fun k => rr 33 k (by omega))
    have zM : msz ν4 = msz ν1 := by
      have e4 : msz ν4 = msz ν3 := by rw [hν4]; rfl
      have e3 : msz ν2 = msz ν1 := by rw [hν2, hX]; rfl
      rw [e4, f3.2.1.1, e3]
    have lM : msl ν4 = msl ν1 := by
      have e4 : msl ν4 = msl ν3 := by rw [hν4]; rfl
      have e3 : msl ν2 = msl ν1 := by rw [hν2, hX]; rfl
      rw [e4, f3.2.1.2, e3]
    have hn := hx.1
    refine Kp.ci (x := Int32.ofNat S) hI cl e2 kA kB ?_ ⟨A, T, st, H, 0, m, C, S + 1, W, ht, hs, cs, q1, q2, q3, ?_, ⟨?_, ?_, by omega, fun k hk => ?_⟩, q4⟩ ?_ ?_
    · rw [i4 50 0 (by omega), f3.2.2.2.1 50 (by omega) (by omega), i2 50 0 (by omega), (k1.2.1 50 (by omega) (by omega)).1]
      exact hI.b
    · exact p4.kp (by omega) gr hF (fun a ha => by have := p4.2.2.2.1; omega) (by rw [s29, i2 29 3 (by omega), j29]) (rr 29 2 (by omega)) (by rw [i4 47 3 (by omega), f3.2.2.2.2 3 (by omega) (by omega) (by omega), a47]) (by rw [i4 47 6 (by omega), f3.2.2.2.2 6 (by omega) (by omega) (by omega), a47]) s47
    · rw [s29, hν2, gI_sI, if_pos ⟨rfl, rfl⟩]
    · rw [hν4, gI_sI, if_pos ⟨rfl, rfl⟩]
    · by_cases hk' : k = S
      · subst hk'
        refine ⟨a, (pAny (pOne (chS 6) ch 5) ch 0).2.2, ?_, co.gr gr1 hF1, ⟨?_, by omega, okTs_k ot, oh 0 (by omega), fun j hj => ?_⟩, ot⟩
        · rw [sR2 32 k (by omega), r2, if_pos ⟨rfl, rfl⟩]
        · rw [i4 47 _ (by omega)]; exact y1
        · rw [i4 47 _ (by omega)]; exact y2 j hj
      · exact p5.kp gr hF (by omega) (fun k hk => by omega) (fun k hk => rr 32 k (by omega)) s47 k (by omega)
    · have := k1.2.2.1; omega
    · have := k1.2.2.2; omega
  · have e1 := w3 ok
    have e1 : ev (d + 27) 20 0 [.ref 39] [] (fx ν) = some (some .null, fx ν1) := e1
    obtain ⟨ν2, hν2⟩ : ∃ ν2, ν2 = sI ν1 29 1 0 := ⟨_, rfl⟩
    have kX : Kp ν1 ν2 := by
      rw [hν2]
      exact Kp.wI (q := 29) (k := 1) _ (by decide) rfl (by omega)
    have i2 : ∀ q k, ¬ (q = 29 ∧ k = 1) → gI ν2 q k = gI ν1 q k := fun q k h => by rw [hν2, gI_sI, if_neg (by omega)]
    have r2 : ∀ q k, gR ν2 q k = gR ν1 q k := fun q k => by rw [hν2, gR_sI]
    have a47 : ∀ k, gI ν2 47 k = gI ν 47 k := fun k => by rw [i2 47 k (by omega), j47]
    have cl : ev (d + 28) 65 0 [.ref 28] [] (fx ν) = some (some (.int ((-10) - Int32.ofNat (pAny (pOne (chS 6) ch 5) ch 0).2.1)), fx ν2) := by
      rw [e_65_0, c5, if_pos (by rw [lt5]; exact hC), e_65_2, e1]
      show bnd 3 (some (some (rv none), fx ν1)) _ = _
      rw [bnd_3, app1, e_65_3, asN_n, ← hν2, e_65_4, i2 39 5 (by omega), w1]
    have hS2 : Str ν2 := fun i hi => by
      have := k1.str hI.s i hi
      exact ⟨by rw [i2 _ _ (by omega)]; exact this.1, fun j => by rw [i2 _ _ (by omega)]; exact this.2 j⟩
    obtain ⟨ν4, f3, z5, -, z1⟩ := m_132 (d + 4) (ν := ν2) (S := S) (by rw [a47]; exact c6) hC ⟨by rw [a47]; exact p2.2.1, hx, fun p hp => by rw [a47]; exact hM p hp⟩ hS2
    have e2 := z1 ok
    have e2 : ev (d + 28) 132 0 [.ref 46] [] (fx ν2) = _ := e2
    have s47 : I47 ν ν4 (5 + S) := fun k h2 h3 h5 h6 hA hB => by rw [f3.2.2.2.2 k h5 hA hB, a47]
    have s29 : ∀ k, gI ν4 29 k = gI ν2 29 k := fun k => by rw [f3.2.2.2.1 29 (by omega) (by omega)]
    have rr : ∀ q k, q = 29 ∨ q = 32 ∨ q = 33 → gR ν4 q k = gR ν q k := fun q k hq => by rw [f3.2.2.1 q (by omega), r2, (k1.2.1 q (by omega) (by omega)).2]
    have kA : Kp ν ν2 := k1.1.tr kX
    have gr := (kA.tr f3.1).1
    obtain ⟨q1, q2, q3, q4⟩ := wr_rd (μ := ν4) hP gr hF (fun k h1 h2 h3 => by rw [s29, i2 29 k (by omega), j29]) (by rw [s29, hν2, gI_sI, if_pos ⟨rfl, rfl⟩]) z5 s47 (fun k => rr 33 k (by omega))
    have zM : msz ν4 = msz ν1 := by
      have e3 : msz ν2 = msz ν1 := by rw [hν2]; rfl
      rw [f3.2.1.1, e3]
    have lM : msl ν4 = msl ν1 := by
      have e3 : msl ν2 = msl ν1 := by rw [hν2]; rfl
      rw [f3.2.1.2, e3]
    refine Kp.ci (x := (-10) - Int32.ofNat (pAny (pOne (chS 6) ch 5) ch 0).2.1) hI cl e2 kA f3.1 ?_ ⟨A, T, st, H, 0, m, C, S, W, ht, hs, cs, q1, q2, q3, ?_, ⟨?_, ?_, p5.2.2.1, ?_⟩, q4⟩ ?_ ?_
    · rw [f3.2.2.2.1 50 (by omega) (by omega), i2 50 0 (by omega), (k1.2.1 50 (by omega) (by omega)).1]
      exact hI.b
    · exact p4.kp (by omega) gr hF (fun a ha => by have := p4.2.2.2.1; omega) (by rw [s29, i2 29 3 (by omega), j29]) (rr 29 2 (by omega)) (by rw [f3.2.2.2.2 3 (by omega) (by omega) (by omega), a47]) (by rw [f3.2.2.2.2 6 (by omega) (by omega) (by omega), a47]) s47
    · rw [s29, i2 29 5 (by omega), j29]; exact c5
    · rw [f3.2.2.2.2 2 (by omega) (by omega) (by omega), a47]; exact c6
    · exact p5.kp gr hF (by omega) (fun k hk => by omega) (fun k _ => rr 32 k (by omega)) s47
    · have := k1.2.2.1; omega
    · have := k1.2.2.2; omega
