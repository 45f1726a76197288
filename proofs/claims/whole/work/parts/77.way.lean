/-! way, bribe -/
theorem rgle (hi : Nat) (v : Int32) {α : Type} (x y : α) (h : hi ≤ 1000) : (if v < 0 then x else if Int32.ofNat hi < v then x else y) = if rg 0 (Int32.ofNat hi) v = true then y else x := by
  unfold rg
  by_cases a1 : v < 0
  · rw [if_pos a1, decide_eq_true a1]; rfl
  · rw [if_neg a1, decide_eq_false a1]
    by_cases a2 : Int32.ofNat hi < v
    · rw [if_pos a2, decide_eq_true a2]; rfl
    · rw [if_neg a2, decide_eq_false a2]; rfl
theorem i_way (d : Nat) {ν : MM} (hI : Inv ν) (v1 v2 v3 v4 : Int32) : CI (fun μ => ev (d + 5) 69 0 [.ref 28, .int v1, .int v2, .int v3, .int v4] [] (fx μ)) (fun μ => ev (d + 5) 141 0 [.ref 46, .int v1, .int v2, .int v3, .int v4] [] (fx μ)) ν := by
  have hI' := hI
  obtain ⟨⟨A, T, st, H, n, m, C, S, W, ht, hs, cs, hP⟩, -⟩ := hI'
  have hQ := hP.qx hI.b
  obtain ⟨p1, p2, p3, p4, p5, p6⟩ := hP
  have p6' := p6
  obtain ⟨w1, w2, w3, w4⟩ := p6'
  have cl0 : ev (d + 5) 69 0 [.ref 28, .int v1, .int v2, .int v3, .int v4] [] (fx ν) = if rg 0 6 v1 = true then (if rg 0 9 v2 = true then (if rg 0 6 v3 = true then (if rg 0 99 v4 = true then ev (d + 5) 69 10 [.ref 28, .int v1, .int v2, .int v3, .int v4] [] (fx ν) else some (some (.int (-2)), fx ν)) else some (some (.int (-2)), fx ν)) else some (some (.int (-2)), fx ν)) else some (some (.int (-1)), fx ν) := by
    rw [e_69_0, s_105, bnd_1, app1]
    refine (e_69_1 ..).trans ?_
    rw [bI_0, e_69_2, e_69_3, e_69_4, e_69_5, e_69_6, e_69_7, e_69_8, e_69_9]
    have l99 : ∀ {α : Type} (x y : α), (if v4 < 0 then x else if v4 ≤ 99 then y else x) = if rg 0 99 v4 = true then y else x := by
      intro α x y
      unfold rg
      by_cases a1 : v4 < 0
      · rw [if_pos a1, decide_eq_true a1]; rfl
      · rw [if_neg a1, decide_eq_false a1]
        by_cases a2 : v4 ≤ 99
        · rw [if_pos a2, decide_eq_false (Int32.not_lt.mpr a2)]; rfl
        · rw [if_neg a2, decide_eq_true (Int32.not_le.mp a2)]; rfl
    rw [l99]
    have l6 := fun (x y : Rs) => rgle 6 v3 x y (by decide)
    have l9 := fun (x y : Rs) => rgle 9 v2 x y (by decide)
    exact congrArg (fun z : Rs => if rg 0 6 v1 = true then z else some (some (.int (-1)), fx ν)) ((l9 _ _).trans (congrArg (fun z : Rs => if rg 0 9 v2 = true then z else some (some (.int (-2)), fx ν)) (l6 _ _)))
  have md0 : ∀ μ : MM, ev (d + 5) 141 0 [.ref 46, .int v1, .int v2, .int v3, .int v4] [] (fx μ) = if rg 0 6 v1 = true then (if rg 0 9 v2 = true then (if rg 0 6 v3 = true then (if rg 0 99 v4 = true then ev (d + 5) 141 10 [.ref 46, .int v1, .int v2, .int v3, .int v4] [] (fx μ) else some (some (.int (-2)), fx μ)) else some (some (.int (-2)), fx μ)) else some (some (.int (-2)), fx μ)) else some (some (.int (-1)), fx μ) := by
    intro μ
    rw [e_141_0, s_113r, bnd_1, app1]
    refine (e_141_1 ..).trans ?_
    rw [bI_0, e_141_2]
    by_cases c1 : rg 0 6 v1 = true
    case neg => rw [if_neg c1, if_neg c1]
    rw [if_pos c1, if_pos c1, e_141_3, s_113r, bnd_1, app1]
    refine (e_141_4 ..).trans ?_
    rw [bI_0, e_141_9]
    by_cases c2 : rg 0 9 v2 = true
    case neg => rw [if_neg c2, if_neg c2]
    rw [if_pos c2, if_pos c2, e_141_5, s_113r, bnd_1, app1]
    refine (e_141_6 ..).trans ?_
    rw [bI_0, e_141_9]
    by_cases c3 : rg 0 6 v3 = true
    case neg => rw [if_neg c3, if_neg c3]
    rw [if_pos c3, if_pos c3, e_141_7, s_113r, bnd_1, app1]
    refine (e_141_8 ..).trans ?_
    rw [bI_0, e_141_9]
  have ref : ∀ x : Int32, ev (d + 5) 69 0 [.ref 28, .int v1, .int v2, .int v3, .int v4] [] (fx ν) = some (some (.int x), fx ν) → ev (d + 5) 141 0 [.ref 46, .int v1, .int v2, .int v3, .int v4] [] (fx ν) = some (some (.int x), fx ν) → CI (fun μ => ev (d + 5) 69 0 [.ref 28, .int v1, .int v2, .int v3, .int v4] [] (fx μ)) (fun μ => ev (d + 5) 141 0 [.ref 46, .int v1, .int v2, .int v3, .int v4] [] (fx μ)) ν := fun x a b => QI.c hI ⟨x, ν, ν, a, b, Fr.rf, Fr.rf, hI.b⟩
  have md1 := md0 ν
  by_cases c1 : rg 0 6 v1 = true
  case neg => rw [if_neg c1] at cl0 md1; exact ref _ cl0 md1
  by_cases c2 : rg 0 9 v2 = true
  case neg => rw [if_pos c1, if_neg c2] at cl0 md1; exact ref _ cl0 md1
  by_cases c3 : rg 0 6 v3 = true
  case neg => rw [if_pos c1, if_pos c2, if_neg c3] at cl0 md1; exact ref _ cl0 md1
  by_cases c4 : rg 0 99 v4 = true
  case neg => rw [if_pos c1, if_pos c2, if_pos c3, if_neg c4] at cl0 md1; exact ref _ cl0 md1
  rw [if_pos c1, if_pos c2, if_pos c3, if_pos c4] at cl0 md1
  have lt : (Int32.ofNat W < 5) = (W < 5) := O_lt (b := 5) (by omega) (by decide)
  have eq : (Int32.ofNat W = 5) = (W = 5) := O_eq (b := 5) (by omega) (by decide)
  by_cases hW : W < 5
  case neg =>
    refine ref (-4) (cl0.trans ?_) (md1.trans ?_)
    · rw [e_69_10, w1, if_neg (by rw [lt]; exact hW), e_69_11]
    · rw [e_141_10, w2, if_pos (by rw [eq]; omega), e_141_11]
  obtain ⟨k, hk, ek⟩ := rg_n (hi := 6) (by decide) c1
  obtain ⟨v, hv, ev'⟩ := rg_n (hi := 9) (by decide) c2
  obtain ⟨h, hh, eh⟩ := rg_n (hi := 6) (by decide) c3
  obtain ⟨co, hco, eco⟩ := rg_n (hi := 99) (by decide) c4
  obtain ⟨M, s, hs7, e70, nw, hR, hj⟩ := s_70 d hI.f (show k < 7 by omega) hv hh hco w1
  obtain ⟨kpM, loM, zM, lM⟩ := nw
  have qk : ∀ k, k < 7 → cin [0, 1, 2, 4, 6, 7, 8] (clsK k) = true := fun k hk => clsK_in hk
  have cinA : cin [0, 1, 2, 4, 6, 7, 8] (shp (fx M) (msz ν + 57)) = true := by rw [hR.2.1]; exact qk k (by omega)
  obtain ⟨ν1, hν1⟩ : ∃ ν1 : MM, ν1 = sI (sR M 33 W (some (msz ν + 57))) 29 7 (Int32.ofNat (W + 1)) := ⟨_, rfl⟩
  obtain ⟨ν2, hν2⟩ : ∃ ν2 : MM, ν2 = sI (sI (sI (sI (sI (sI ν1 47 (14 + W) (Int32.ofNat k)) 47 (19 + W) (Int32.ofNat v)) 47 (24 + W) (Int32.ofNat h)) 47 (29 + W) (Int32.ofNat co)) 47 (34 + W) 0) 47 1 (Int32.ofNat (W + 1)) := ⟨_, rfl⟩
  have kA : Kp ν ν1 := by
    rw [hν1]
    exact kpM.tr ((Kp.wR _ (by decide) (by decide) (fun h => absurd h (by decide)) (fun _ c hc => by cases hc; exact cinA)).tr (Kp.wI _ (by decide) rfl (by omega)))
  have kB : Kp ν1 ν2 := by rw [hν2]; exact ((Kp.wI _ (by decide) rfl (by omega)).tr ((Kp.wI _ (by decide) rfl (by omega)).tr ((Kp.wI _ (by decide) rfl (by omega)).tr ((Kp.wI _ (by decide) rfl (by omega)).tr ((Kp.wI _ (by decide) rfl (by omega)).tr (Kp.wI _ (by decide) rfl (by omega)))))))
  have gr := (kA.tr kB).1
  have grM : Gr M ν2 := by
    have : Kp M ν1 := by
      rw [hν1]
      exact (Kp.wR _ (by decide) (by decide) (fun h => absurd h (by decide)) (fun _ c hc => by cases hc; exact cinA)).tr (Kp.wI _ (by decide) rfl (by omega))
    exact (this.tr kB).1
  have b47 : ∀ k, gI ν1 47 k = gI ν 47 k := fun k => by rw [hν1, gI_sI, if_neg (by omega), gI_sR, (loM 47 (by decide)).1]
  refine Kp.ci (x := Int32.ofNat W) hI (cl0.trans ?_) ((md0 ν1).trans ?_) kA kB ?_ ?_ ?_ ?_
  · have hf : (fxR.getD 33 []).getD W none = none := by
      have q : ∀ k, k < 5 → (fxR.getD 33 []).getD k none = none := by decide
      exact q W hW
    rw [e_69_10, w1, if_pos (by rw [lt]; exact hW), e_69_12, w1, ek, ev', eh, eco, e70, bnd_3r, app1]
    refine (e_69_13 (s0 := some (msz ν + 57)) ..).trans ?_
    have g29 : gI M 29 7 = Int32.ofNat W := by rw [(loM 29 (by decide)).1]; exact w1
    rw [asN_s, cinA, inb_O hW (by omega), Bool.and_self, gd_t, tn_O (by omega), fx_sR M _ hf, gI_fx, gI_sR, g29, O_succ, sI_fx, ← hν1, gI_fx, hν1, gI_sI, if_pos ⟨rfl, rfl⟩, O_sub1]
  · have r1 : gI ν1 47 1 = Int32.ofNat W := by rw [b47]; exact w2
    obtain ⟨n24, n19, n14, n34, n29⟩ := w_num W hW
    rw [if_pos c1, if_pos c2, if_pos c3, if_pos c4, e_141_10, r1, if_neg (by rw [eq]; omega), e_141_12, r1, n14, n19, n24, n29, n34, inb_O (by omega) (by omega), inb_O (by omega) (by omega), inb_O (by omega) (by omega), inb_O (by omega) (by omega), inb_O (by omega) (by omega), gd_t, gd_t, gd_t, gd_t, gd_t, tn_O (by omega), tn_O (by omega), tn_O (by omega), tn_O (by omega), tn_O (by omega), ek, ev', eh, eco]
    have e1 : gI (sI (sI (sI (sI (sI ν1 47 (14 + W) (Int32.ofNat k)) 47 (19 + W) (Int32.ofNat v)) 47 (24 + W) (Int32.ofNat h)) 47 (29 + W) (Int32.ofNat co)) 47 (34 + W) 0) 47 1 + 1 = Int32.ofNat (W + 1) := by
      rw [gI_sI, if_neg (by omega), gI_sI, if_neg (by omega), gI_sI, if_neg (by omega), gI_sI, if_neg (by omega), gI_sI, if_neg (by omega), r1, O_succ]
    rw [e1, ← hν2]
  · rw [hν2, gI_sI, if_neg (by omega), gI_sI, if_neg (by omega), gI_sI, if_neg (by omega), gI_sI, if_neg (by omega), gI_sI, if_neg (by omega), gI_sI, if_neg (by omega), hν1, gI_sI, if_neg (by omega), gI_sR, (loM 50 (by decide)).1]
    exact hI.b
  · have ne : ∀ a k, ¬ (a = 29 ∧ k = 7) → ¬ (a = 47 ∧ k = 14 + W) → ¬ (a = 47 ∧ k = 19 + W) → ¬ (a = 47 ∧ k = 24 + W) → ¬ (a = 47 ∧ k = 29 + W) → ¬ (a = 47 ∧ k = 34 + W) → ¬ (a = 47 ∧ k = 1) → ¬ ¬ a < 57 → gI ν2 a k = gI ν a k := by
      intro a k h0 h1 h2 h3 h4 h5 h6 h7
      rw [hν2, gI_sI, if_neg h6, gI_sI, if_neg h5, gI_sI, if_neg h4, gI_sI, if_neg h3, gI_sI, if_neg h2, gI_sI, if_neg h1, hν1, gI_sI, if_neg h0, gI_sR, (loM a (by omega)).1]
    have rR : ∀ q k, q < 57 → ¬ (q = 33 ∧ k = W) → gR ν2 q k = gR ν q k := fun q k hq h => by
      have e : gR ν2 = gR (sR M 33 W (some (msz ν + 57))) := by rw [hν2, hν1]; rfl
      rw [e, gR_sR, if_neg h, (loM q hq).2]
    have rR2 := rR 29 2 (by decide) (by omega)
    have rR32 : ∀ k, gR ν2 32 k = gR ν 32 k := fun k => rR 32 k (by decide) (by omega)
    refine ⟨A, T, st, H, n, m, C, S, W + 1, ht, hs, cs, p1.g2 (fun k h1 h2 => ne _ _ (by omega) (by omega) (by omega) (by omega) (by omega) (by omega) (by omega) (by omega)) (ne _ _ (by omega) (by omega) (by omega) (by omega) (by omega) (by omega) (by omega) (by omega)) (fun k h1 h2 => ne _ _ (by omega) (by omega) (by omega) (by omega) (by omega) (by omega) (by omega) (by omega)), p2.g2 (ne _ _ (by omega) (by omega) (by omega) (by omega) (by omega) (by omega) (by omega) (by omega)) (fun i h1 => ne _ _ (by omega) (by omega) (by omega) (by omega) (by omega) (by omega) (by omega) (by omega)) (ne _ _ (by omega) (by omega) (by omega) (by omega) (by omega) (by omega) (by omega) (by omega)) (fun k h1 h2 => ne _ _ (by omega) (by omega) (by omega) (by omega) (by omega) (by omega) (by omega) (by omega)), p3.g2 (ne _ _ (by omega) (by omega) (by omega) (by omega) (by omega) (by omega) (by omega) (by omega)) (ne _ _ (by omega) (by omega) (by omega) (by omega) (by omega) (by omega) (by omega) (by omega)) (ne _ _ (by omega) (by omega) (by omega) (by omega) (by omega) (by omega) (by omega) (by omega)) (fun k h1 h2 => ne _ _ (by omega) (by omega) (by omega) (by omega) (by omega) (by omega) (by omega) (by omega)), p4.g2 gr hI.f (ne _ _ (by omega) (by omega) (by omega) (by omega) (by omega) (by omega) (by omega) (by omega)) rR2 (ne _ _ (by omega) (by omega) (by omega) (by omega) (by omega) (by omega) (by omega) (by omega)) (ne _ _ (by omega) (by omega) (by omega) (by omega) (by omega) (by omega) (by omega) (by omega)) (fun k h1 h2 => ne _ _ (by omega) (by omega) (by omega) (by omega) (by omega) (by omega) (by omega) (by omega)), p5.g2 gr hI.f (ne _ _ (by omega) (by omega) (by omega) (by omega) (by omega) (by omega) (by omega) (by omega)) (fun _ _ => rR32 _) (ne _ _ (by omega) (by omega) (by omega) (by omega) (by omega) (by omega) (by omega) (by omega)) (fun k h1 h2 => ne _ _ (by omega) (by omega) (by omega) (by omega) (by omega) (by omega) (by omega) (by omega)), ⟨?_, ?_, by omega, fun j hj' => ?_⟩⟩
    · rw [hν2, gI_sI, if_neg (by omega), gI_sI, if_neg (by omega), gI_sI, if_neg (by omega), gI_sI, if_neg (by omega), gI_sI, if_neg (by omega), gI_sI, if_neg (by omega), hν1, gI_sI, if_pos ⟨rfl, rfl⟩]
    · rw [hν2, gI_sI, if_pos ⟨rfl, rfl⟩]
    · have fM : Fsh M := kpM.2.1 hI.f
      by_cases cj : j = W
      · have gA : gI ν2 (msz ν + 57) = gI M (msz ν + 57) := ((grM.2 (msz ν + 57) (by rw [zM]; omega)).2.2 (by omega)).1
        refine ⟨msz ν + 57, k, v, h, co, 0, ?_, hR.gr grM fM, ?_, by rw [gA, cj]; exact hj⟩
        · have e : gR ν2 = gR (sR M 33 W (some (msz ν + 57))) := by rw [hν2, hν1]; rfl
          rw [e, gR_sR, if_pos ⟨rfl, cj⟩]
        · rw [cj, hν2]
          refine ⟨?_, ?_, ?_, ?_, ?_⟩
          · rw [gI_sI, if_neg (by omega), gI_sI, if_neg (by omega), gI_sI, if_neg (by omega), gI_sI, if_neg (by omega), gI_sI, if_neg (by omega), gI_sI, if_pos ⟨rfl, rfl⟩]
          · rw [gI_sI, if_neg (by omega), gI_sI, if_neg (by omega), gI_sI, if_neg (by omega), gI_sI, if_neg (by omega), gI_sI, if_pos ⟨rfl, rfl⟩]
          · rw [gI_sI, if_neg (by omega), gI_sI, if_neg (by omega), gI_sI, if_neg (by omega), gI_sI, if_pos ⟨rfl, rfl⟩]
          · rw [gI_sI, if_neg (by omega), gI_sI, if_neg (by omega), gI_sI, if_pos ⟨rfl, rfl⟩]
          · rw [gI_sI, if_neg (by omega), gI_sI, if_pos ⟨rfl, rfl⟩]
            rfl
      · obtain ⟨r, k', v', h', co', si', b1, b2, b3, b4⟩ := w4 j (by omega)
        have qq : ∀ k, k < 7 → clsK k ≠ 99 := by decide
        have hr := hI.f.lt (q := r) (by rw [b2.2.1]; exact qq k' b2.2.2.1)
        obtain ⟨x1, x2, x3, x4, x5⟩ := b3
        refine ⟨r, k', v', h', co', si', by rw [rR _ _ (by decide) (by omega)]; exact b1, b2.gr gr hI.f, ⟨?_, ?_, ?_, ?_, ?_⟩, by rw [((gr.2 r hr).2.2 b2.1).1]; exact b4⟩
        · rw [ne _ _ (by omega) (by omega) (by omega) (by omega) (by omega) (by omega) (by omega) (by omega)]; exact x1
        · rw [ne _ _ (by omega) (by omega) (by omega) (by omega) (by omega) (by omega) (by omega) (by omega)]; exact x2
        · rw [ne _ _ (by omega) (by omega) (by omega) (by omega) (by omega) (by omega) (by omega) (by omega)]; exact x3
        · rw [ne _ _ (by omega) (by omega) (by omega) (by omega) (by omega) (by omega) (by omega) (by omega)]; exact x4
        · rw [ne _ _ (by omega) (by omega) (by omega) (by omega) (by omega) (by omega) (by omega) (by omega)]; exact x5
  · have e1 : msz ν2 = msz M := by rw [hν2, hν1]; rfl
    rw [e1, zM]
    omega
  · have e1 : msl ν2 = msl M := by rw [hν2, hν1]; rfl
    rw [e1, lM]
    omega
