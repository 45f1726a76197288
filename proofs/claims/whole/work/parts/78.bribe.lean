/-! bribe -/
theorem s_52 (d : Nat) {μ : MM} {j a : Nat} (hj : j < 5) (hc : cin [0, 1, 2, 4, 6, 7, 8] (shp (fx μ) a) = true) : ev d 52 0 [.ref 29, .int (Int32.ofNat j), .ref a] [] (fx μ) = some (none, fx (sR μ 33 j (some a))) := by
  have hf : (fxR.getD 33 []).getD j none = none := by
    have q : ∀ k, k < 5 → (fxR.getD 33 []).getD k none = none := by decide
    exact q j hj
  have h5 : ¬ (5 : Int32) ≤ Int32.ofNat j := by
    have q : ∀ k, k < 5 → ¬ (5 : Int32) ≤ Int32.ofNat k := by decide
    exact q j hj
  rw [e_52_0, if_neg (O_nn j (by omega)), e_52_1, if_neg h5, e_52_2, hc, inb_O hj (by omega), Bool.and_self, gd_t, tn_O (by omega), fx_sR μ _ hf, e_52_3]
theorem i_bribe (d : Nat) {ν : MM} (hI : Inv ν) (v1 v2 : Int32) : CI (fun μ => ev (d + 4) 72 0 [.ref 28, .int v1, .int v2] [] (fx μ)) (fun μ => ev (d + 4) 146 0 [.ref 46, .int v1, .int v2] [] (fx μ)) ν := by
  have hI' := hI
  obtain ⟨⟨A, T, st, H, n, m, C, S, W, ht, hs, cs, hP⟩, -⟩ := hI'
  have hQ := hP.qx hI.b
  obtain ⟨p1, p2, p3, p4, p5, p6⟩ := hP
  have p6' := p6
  obtain ⟨w1, w2, w3, w4⟩ := p6'
  have hW := hQ.2.2.2.2.1
  obtain ⟨-, r51, -⟩ := qR (d + 3) hQ
  have cl0 : ev (d + 4) 72 0 [.ref 28, .int v1, .int v2] [] (fx ν) = asN (rv (if okN W v1 = true then gR ν 33 v1.toNatClampNeg else none)) (some (some (.int (-1)), fx ν)) fun a => if rg 0 6 v2 = true then ev (d + 4) 72 6 [.ref 28, .int v1, .int v2, .ref a] [] (fx ν) else some (some (.int (-2)), fx ν) := by
    rw [e_72_0, r51, bnd_3, app1]
    refine (e_72_1 ..).trans ?_
    rw [e_72_2]
    generalize (if okN W v1 = true then gR ν 33 v1.toNatClampNeg else none) = o
    cases o with
    | none => rw [asN_n, asN_n]
    | some a =>
      rw [asN_s, asN_s, e_72_3, e_72_4, e_72_5]
      unfold rg
      by_cases x1 : v2 < 0
      · rw [if_pos x1, decide_eq_true x1]; rfl
      · rw [if_neg x1, decide_eq_false x1]
        by_cases x2 : v2 ≤ 6
        · rw [if_pos x2, decide_eq_false (Int32.not_lt.mpr x2)]; rfl
        · rw [if_neg x2, decide_eq_true (Int32.not_le.mp x2)]; rfl
  have md0 : ∀ μ : MM, gI μ 47 1 = Int32.ofNat W → ev (d + 4) 146 0 [.ref 46, .int v1, .int v2] [] (fx μ) = if okN W v1 = true then (if rg 0 6 v2 = true then ev (d + 4) 146 6 [.ref 46, .int v1, .int v2] [] (fx μ) else some (some (.int (-2)), fx μ)) else some (some (.int (-1)), fx μ) := by
    intro μ h1
    rw [e_146_0, s_115 (d + 2) h1 w3, bnd_1, app1]
    refine (e_146_1 ..).trans ?_
    rw [bI_0, e_146_2]
    by_cases c1 : okN W v1 = true
    case neg => rw [if_neg c1, if_neg c1]
    rw [if_pos c1, if_pos c1, e_146_3, s_113r, bnd_1, app1]
    refine (e_146_4 ..).trans ?_
    rw [bI_0, e_146_5]
  have md1 := md0 ν w2
  have ref : ∀ x : Int32, ev (d + 4) 72 0 [.ref 28, .int v1, .int v2] [] (fx ν) = some (some (.int x), fx ν) → ev (d + 4) 146 0 [.ref 46, .int v1, .int v2] [] (fx ν) = some (some (.int x), fx ν) → CI (fun μ => ev (d + 4) 72 0 [.ref 28, .int v1, .int v2] [] (fx μ)) (fun μ => ev (d + 4) 146 0 [.ref 46, .int v1, .int v2] [] (fx μ)) ν := fun x a b => QI.c hI ⟨x, ν, ν, a, b, Fr.rf, Fr.rf, hI.b⟩
  by_cases c1 : okN W v1 = true
  case neg =>
    rw [if_neg c1, asN_n] at cl0
    rw [if_neg c1] at md1
    exact ref _ cl0 md1
  obtain ⟨j, r, k, v, h, co, si, ej, hjW, hj, g1, hR, hm, hr1⟩ := hW.at c1
  rw [if_pos c1, g1, asN_s] at cl0
  rw [if_pos c1] at md1
  by_cases c2 : rg 0 6 v2 = true
  case neg =>
    rw [if_neg c2] at cl0 md1
    exact ref _ cl0 md1
  rw [if_pos c2] at cl0 md1
  obtain ⟨n6, hn6, en⟩ := rg_n (hi := 6) (by decide) c2
  obtain ⟨n24, n19, n14, n34, n29⟩ := w_num j hj
  obtain ⟨ra, rs, rk, rv', rh, rco, rsi, g0, g2, g3, g4, g6, g60, g5⟩ := hR
  obtain ⟨x1, x2, x3, x4, x5⟩ := hm
  have cin7 : ∀ k, k < 7 → cin [2, 0, 1, 4, 6, 7, 8] (clsK k) = true ∧ cin [2] (clsK k) = decide (k = 6) := by decide
  obtain ⟨ca, cb⟩ := cin7 k rk
  have kq : (Int32.ofNat k = 6) = (k = 6) := O_eq (b := 6) (by omega) (by decide)
  by_cases hk : k = 6
  case neg =>
    refine ref (-3) (cl0.trans ?_) (md1.trans ?_)
    · rw [e_72_6, rs, ca, gd_t, cb, decide_eq_false hk]
      show (if (0 : Int32) = 0 then _ else _) = _
      rw [if_pos rfl, e_72_7]
    · rw [e_146_6, ej, n14, inb_O (by omega) (by omega), gd_t, tn_O (by omega), x1, if_neg (by rw [kq]; exact hk), e_146_7]
  subst hk
  have ha : 57 ≤ msz ν + 57 := by omega
  have hr := hI.f.lt (q := r) (by rw [rs]; decide)
  have mz : msz (fx ν) = msz ν + 57 := rfl
  have sA : shp (fx (alx ν 2 0 7)) (msz ν + 57) = 2 := by rw [shp_fx _ ha, shp_alx, if_pos rfl]
  have sr : shp (fx (alx ν 2 0 7)) r = 2 := by
    rw [shp_fx _ ra, shp_alx, if_neg (by omega)]
    rw [shp_fx _ ra] at rs
    exact rs
  have gr' : ∀ q, gI (fx (alx ν 2 0 7)) r q = gI ν r q := fun q => by rw [gI_fx, gI_alx, if_neg (by omega)]
  have e6 := s_6c (d + 1) ha sA (gI ν r 1) (Int32.ofNat v) (Int32.ofNat h) (Int32.ofNat co) (Int32.ofNat n6)
  obtain ⟨a0, a1, a2, a3, a4, a5⟩ := mkR_g (alx ν 2 0 7) ha 6 (gI ν r 1) (Int32.ofNat v) (Int32.ofNat h) (Int32.ofNat co)
  obtain ⟨M, hM⟩ : ∃ M : MM, M = sI (mkR (alx ν 2 0 7) (msz ν + 57) 6 (gI ν r 1) (Int32.ofNat v) (Int32.ofNat h) (Int32.ofNat co)) (msz ν + 57) 6 (Int32.ofNat n6) := ⟨_, rfl⟩
  have wM : Wa (msz ν + 57) (alx ν 2 0 7) M := by rw [hM]; exact (mkR_w _ _ _ _ _ _ _).tr (Wa.wI _ _)
  obtain ⟨kpM, loM, zM, lM⟩ := wM.nw
  have sM : shp (fx M) (msz ν + 57) = 2 := by rw [shp_fx _ ha, wM.1, shp_alx, if_pos rfl]
  have hRM : RnV M (msz ν + 57) 6 v h co n6 := by
    refine ⟨ha, sM, by decide, rv', rh, rco, hn6, ?_, ?_, ?_, ?_, fun _ => ?_, fun e => absurd rfl e, ?_⟩
    · rw [hM, gI_sI, if_neg (by omega)]; exact a0
    · rw [hM, gI_sI, if_neg (by omega)]; exact a2
    · rw [hM, gI_sI, if_neg (by omega)]; exact a3
    · rw [hM, gI_sI, if_neg (by omega)]; exact a4
    · rw [hM, gI_sI, if_pos ⟨rfl, rfl⟩]
    · rw [gR_fx _ _ ha, hM, gR_sI]
      rw [gR_fx _ _ ha] at a5
      exact a5
  have hjM : gI M (msz ν + 57) 1 = Int32.ofNat j := by rw [hM, gI_sI, if_neg (by omega), a1, hr1]
  have cinA : cin [0, 1, 2, 4, 6, 7, 8] (shp (fx M) (msz ν + 57)) = true := by rw [sM]; rfl
  obtain ⟨ν1, hν1⟩ : ∃ ν1 : MM, ν1 = sR M 33 j (some (msz ν + 57)) := ⟨_, rfl⟩
  obtain ⟨ν2, hν2⟩ : ∃ ν2 : MM, ν2 = sI ν1 47 (34 + j) (Int32.ofNat n6) := ⟨_, rfl⟩
  have kM1 : Kp M ν1 := by
    rw [hν1]
    exact Kp.wR _ (by decide) (by decide) (fun h => absurd h (by decide)) (fun _ c hc => by cases hc; exact cinA)
  have kA : Kp ν ν1 := kpM.tr kM1
  have kB : Kp ν1 ν2 := by rw [hν2]; exact Kp.wI _ (by decide) rfl (by omega)
  have gr := (kA.tr kB).1
  have grM : Gr M ν2 := (kM1.tr kB).1
  have b1 : ∀ q k, q < 57 → gI ν1 q k = gI ν q k := fun q k hq => by rw [hν1, gI_sR, (loM q hq).1]
  have hRr : RnV ν1 r 6 v h co si := RnV.gr kA.1 hI.f ⟨ra, rs, rk, rv', rh, rco, rsi, g0, g2, g3, g4, g6, g60, g5⟩
  refine Kp.ci (x := Int32.ofNat si) hI (cl0.trans ?_) ((md0 ν1 (by rw [b1 _ _ (by decide)]; exact w2)).trans ?_) kA kB ?_ ?_ ?_ ?_
  · have cinr : cin [0, 1, 2, 4, 6, 7, 8] 2 = true := rfl
    have c2' : cin [2] 2 = true := rfl
    rw [e_72_6, rs, ca, gd_t, cb]
    show (if (1 : Int32) = 0 then _ else _) = _
    rw [if_neg (by decide), e_72_8, fx_alc, mz, sr, sA, cinr, c2', gd_t, gd_t, gd_t, gd_t, gd_t, gr', gr', gr', gr', g2, g3, g4, en, e6, bnd_0, app0, ← hM]
    refine (e_72_9 ..).trans ?_
    rw [ej, s_52 _ hj cinA, bnd_0, app0, ← hν1]
    refine (e_72_10 ..).trans ?_
    refine (hs_any (d + 3) hRr _).trans ?_
    exact e_72_11 ..
  · have r14 : gI ν1 47 (14 + j) = Int32.ofNat 6 := by rw [b1 _ _ (by decide)]; exact x1
    have r34 : gI ν1 47 (34 + j) = Int32.ofNat si := by rw [b1 _ _ (by decide)]; exact x5
    rw [if_pos c1, if_pos c2, e_146_6, ej, n14, inb_O (by omega) (by omega), gd_t, tn_O (by omega), r14, if_pos (by decide), e_146_8, n34, inb_O (by omega) (by omega), gd_t, gd_t, tn_O (by omega), r34, en, ← hν2]
  · rw [hν2, gI_sI, if_neg (by omega), b1 _ _ (by decide)]
    exact hI.b
  · have ne : ∀ a k, ¬ (a = 47 ∧ k = 34 + j) → ¬ ¬ a < 57 → gI ν2 a k = gI ν a k := by
      intro a k h0 h7
      rw [hν2, gI_sI, if_neg h0, b1 a k (by omega)]
    have rR : ∀ q k, q < 57 → ¬ (q = 33 ∧ k = j) → gR ν2 q k = gR ν q k := fun q k hq h => by
      have e : gR ν2 = gR ν1 := by rw [hν2]; rfl
      rw [e, hν1, gR_sR, if_neg h, (loM q hq).2]
    have rR2 := rR 29 2 (by decide) (by omega)
    have rR32 : ∀ k, gR ν2 32 k = gR ν 32 k := fun k => rR 32 k (by decide) (by omega)
    refine ⟨A, T, st, H, n, m, C, S, W, ht, hs, cs, p1.g2 (fun k h1 h2 => ne _ _ (by omega) (by omega)) (ne _ _ (by omega) (by omega)) (fun k h1 h2 => ne _ _ (by omega) (by omega)), p2.g2 (ne _ _ (by omega) (by omega)) (fun i h1 => ne _ _ (by omega) (by omega)) (ne _ _ (by omega) (by omega)) (fun k h1 h2 => ne _ _ (by omega) (by omega)), p3.g2 (ne _ _ (by omega) (by omega)) (ne _ _ (by omega) (by omega)) (ne _ _ (by omega) (by omega)) (fun k h1 h2 => ne _ _ (by omega) (by omega)), p4.g2 gr hI.f (ne _ _ (by omega) (by omega)) rR2 (ne _ _ (by omega) (by omega)) (ne _ _ (by omega) (by omega)) (fun k h1 h2 => ne _ _ (by omega) (by omega)), p5.g2 gr hI.f (ne _ _ (by omega) (by omega)) (fun _ _ => rR32 _) (ne _ _ (by omega) (by omega)) (fun k h1 h2 => ne _ _ (by omega) (by omega)), ⟨?_, ?_, w3, fun i hi => ?_⟩⟩
    · rw [ne _ _ (by omega) (by omega)]; exact w1
    · rw [ne _ _ (by omega) (by omega)]; exact w2
    · have fM : Fsh M := kpM.2.1 hI.f
      by_cases cj : i = j
      · have gA : gI ν2 (msz ν + 57) = gI M (msz ν + 57) := ((grM.2 (msz ν + 57) (by rw [zM]; omega)).2.2 (by omega)).1
        refine ⟨msz ν + 57, 6, v, h, co, n6, ?_, hRM.gr grM fM, ⟨?_, ?_, ?_, ?_, ?_⟩, by rw [gA, cj]; exact hjM⟩
        · have e : gR ν2 = gR ν1 := by rw [hν2]; rfl
          rw [e, hν1, gR_sR, if_pos ⟨rfl, cj⟩]
        · rw [cj, ne _ _ (by omega) (by omega)]; exact x1
        · rw [cj, ne _ _ (by omega) (by omega)]; exact x2
        · rw [cj, ne _ _ (by omega) (by omega)]; exact x3
        · rw [cj, ne _ _ (by omega) (by omega)]; exact x4
        · rw [cj, hν2, gI_sI, if_pos ⟨rfl, rfl⟩]
      · obtain ⟨r', k', v', h', co', si', y1, y2, y3, y4⟩ := w4 i hi
        have qq : ∀ k, k < 7 → clsK k ≠ 99 := by decide
        have hr' := hI.f.lt (q := r') (by rw [y2.2.1]; exact qq k' y2.2.2.1)
        obtain ⟨z1, z2, z3, z4, z5⟩ := y3
        refine ⟨r', k', v', h', co', si', by rw [rR _ _ (by decide) (by omega)]; exact y1, y2.gr gr hI.f, ⟨?_, ?_, ?_, ?_, ?_⟩, by rw [((gr.2 r' hr').2.2 y2.1).1]; exact y4⟩
        · rw [ne _ _ (by omega) (by omega)]; exact z1
        · rw [ne _ _ (by omega) (by omega)]; exact z2
        · rw [ne _ _ (by omega) (by omega)]; exact z3
        · rw [ne _ _ (by omega) (by omega)]; exact z4
        · rw [ne _ _ (by omega) (by omega)]; exact z5
  · have e1 : msz ν2 = msz M := by rw [hν2, hν1]; rfl
    rw [e1, zM]
    omega
  · have e1 : msl ν2 = msl M := by rw [hν2, hν1]; rfl
    rw [e1, lM]
    omega
