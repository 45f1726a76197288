/-! thing, put, heed, row, now, count -/
theorem wst_new : ∀ T, T < 4 → ∀ st, st < 4 ^ T → ∀ s, s < 4 → wst st T s < 4 ^ (T + 1) := by
  intro T hT st hst s hs
  have h256 := p4_le (T := T + 1) (by omega)
  have h2 : 4 ^ T ≤ 4 ^ (T + 1) := Nat.pow_le_pow_right (by decide) (by omega)
  exact wst_lt (by omega) (by omega) (by omega) hs
theorem i_thing (d : Nat) {ν : MM} (hI : Inv ν) (v1 : Int32) : CI (fun μ => ev (d + 1) 66 0 [.ref 28, .int v1] [] (fx μ)) (fun μ => ev (d + 1) 138 0 [.ref 46, .int v1] [] (fx μ)) ν := by
  have hI' := hI
  obtain ⟨⟨A, T, st, H, n, m, C, S, W, ht, hs, cs, hP⟩, -⟩ := hI'
  have hQ := hP.qx hI.b
  obtain ⟨p1, p2, p3, p4, p5, p6⟩ := hP
  have p1' := p1
  obtain ⟨⟨a1, a2, a3⟩, ⟨a4, a5, a6⟩, b3, b4, b5, b6⟩ := p1'
  have cl0 : ev (d + 1) 66 0 [.ref 28, .int v1] [] (fx ν) = if rg 0 3 v1 = true then ev (d + 1) 66 3 [.ref 28, .int v1] [] (fx ν) else some (some (.int (-2)), fx ν) := by
    rw [e_66_0, s_104, bnd_1, app1]
    refine (e_66_1 ..).trans ?_
    rw [bI_0, e_66_2]
  have md0 : ∀ μ : MM, ev (d + 1) 138 0 [.ref 46, .int v1] [] (fx μ) = if rg 0 3 v1 = true then ev (d + 1) 138 3 [.ref 46, .int v1] [] (fx μ) else some (some (.int (-2)), fx μ) := by
    intro μ
    rw [e_138_0, s_113r, bnd_1, app1]
    refine (e_138_1 ..).trans ?_
    rw [bI_0, e_138_2]
  by_cases c : rg 0 3 v1 = true
  case neg =>
    have md1 := md0 ν
    rw [if_neg c] at cl0 md1
    exact QI.c hI ⟨_, ν, ν, cl0, md1, Fr.rf, Fr.rf, hI.b⟩
  rw [if_pos c] at cl0
  obtain ⟨s, hs4, es⟩ := rg_n (hi := 3) (by decide) c
  have lt : (Int32.ofNat T < 4) = (T < 4) := O_lt (b := 4) (by omega) (by decide)
  have eq : (Int32.ofNat T = 4) = (T = 4) := O_eq (b := 4) (by omega) (by decide)
  by_cases hT : T < 4
  case neg =>
    refine QI.c hI ⟨-4, ν, ν, cl0.trans ?_, (md0 ν).trans ?_, Fr.rf, Fr.rf, hI.b⟩
    · rw [e_66_3, a1, if_neg (by rw [lt]; exact hT), e_66_4]
    · rw [if_pos c, e_138_3, a2, if_pos (by rw [eq]; omega), e_138_4]
  have h256 := p4_le a3
  have w4 := wst_new T hT st a5 s (by omega)
  have kA : Kp ν (sI (sI ν 29 8 (Int32.ofNat (T + 1))) 29 9 (Int32.ofNat (wst st T s))) := ((Kp.wI _ (by decide) rfl (by omega)).tr (Kp.wI _ (by decide) rfl (by omega)))
  have kB : Kp (sI (sI ν 29 8 (Int32.ofNat (T + 1))) 29 9 (Int32.ofNat (wst st T s))) (sI (sI (sI (sI ν 29 8 (Int32.ofNat (T + 1))) 29 9 (Int32.ofNat (wst st T s))) 47 (10 + T) (Int32.ofNat s)) 47 0 (Int32.ofNat (T + 1))) := ((Kp.wI _ (by decide) rfl (by omega)).tr (Kp.wI _ (by decide) rfl (by omega)))
  have gr := (kA.tr kB).1
  refine Kp.ci (x := Int32.ofNat T) hI (cl0.trans ?_) ((md0 _).trans ?_) kA kB hI.b ?_ (Nat.le_add_right _ _) (Nat.le_add_right _ _)
  · have x8 : gI (sI ν 29 8 (Int32.ofNat (T + 1))) 29 9 = Int32.ofNat st := by rw [gI_sI, if_neg (by omega)]; exact a4
    rw [e_66_3, a1, if_pos (by rw [lt]; exact hT), e_66_5, a1, O_succ, x8, gI_sI, if_pos ⟨rfl, rfl⟩, O_sub1, e_108_0, bnd_1, app1, es, wst_I st (by omega) T hT s (by omega)]
    refine (e_66_6 ..).trans ?_
    rw [gI_sI, if_neg (by omega), gI_sI, if_pos ⟨rfl, rfl⟩, O_sub1]
  · have r0 : gI (sI (sI ν 29 8 (Int32.ofNat (T + 1))) 29 9 (Int32.ofNat (wst st T s))) 47 0 = Int32.ofNat T := by rw [gI_sI, if_neg (by omega), gI_sI, if_neg (by omega)]; exact a2
    rw [if_pos c, e_138_3, r0, if_neg (by rw [eq]; omega), e_138_5, r0, ten_num T hT, inb_O (by omega) (by omega), gd_t, tn_O (by omega), es]
    have e1 : gI (sI (sI (sI ν 29 8 (Int32.ofNat (T + 1))) 29 9 (Int32.ofNat (wst st T s))) 47 (10 + T) (Int32.ofNat s)) 47 0 + 1 = Int32.ofNat (T + 1) := by rw [gI_sI, if_neg (by omega), r0, O_succ]
    rw [e1]
  · have nm : ∀ a k, a ≠ 29 → a ≠ 47 → gI (sI (sI (sI (sI ν 29 8 (Int32.ofNat (T + 1))) 29 9 (Int32.ofNat (wst st T s))) 47 (10 + T) (Int32.ofNat s)) 47 0 (Int32.ofNat (T + 1))) a k = gI ν a k := by
      intro a k h1 h2
      rw [gI_sI, if_neg (by omega), gI_sI, if_neg (by omega), gI_sI, if_neg (by omega), gI_sI, if_neg (by omega)]
    have ne : ∀ a k, ¬ (a = 29 ∧ k = 8) → ¬ (a = 29 ∧ k = 9) → ¬ (a = 47 ∧ k = 10 + T) → ¬ (a = 47 ∧ k = 0) → gI (sI (sI (sI (sI ν 29 8 (Int32.ofNat (T + 1))) 29 9 (Int32.ofNat (wst st T s))) 47 (10 + T) (Int32.ofNat s)) 47 0 (Int32.ofNat (T + 1))) a k = gI ν a k := by
      intro a k h0 h1 h2 h3
      rw [gI_sI, if_neg h3, gI_sI, if_neg h2, gI_sI, if_neg h1, gI_sI, if_neg h0]
    refine ⟨A, T + 1, wst st T s, H, n, m, C, S, W, ht, hs, cs, ⟨⟨?_, ?_, by omega⟩, ⟨?_, w4, fun t ht => ?_⟩, ?_, ?_, ?_, b6⟩, p2.g2 (ne _ _ (by omega) (by omega) (by omega) (by omega)) (fun i h1 => ne _ _ (by omega) (by omega) (by omega) (by omega)) (ne _ _ (by omega) (by omega) (by omega) (by omega)) (fun k h1 h2 => ne _ _ (by omega) (by omega) (by omega) (by omega)), p3.g2 (ne _ _ (by omega) (by omega) (by omega) (by omega)) (ne _ _ (by omega) (by omega) (by omega) (by omega)) (ne _ _ (by omega) (by omega) (by omega) (by omega)) (fun k h1 h2 => ne _ _ (by omega) (by omega) (by omega) (by omega)), p4.g2 gr hI.f (ne _ _ (by omega) (by omega) (by omega) (by omega)) rfl (ne _ _ (by omega) (by omega) (by omega) (by omega)) (ne _ _ (by omega) (by omega) (by omega) (by omega)) (fun k h1 h2 => ne _ _ (by omega) (by omega) (by omega) (by omega)), p5.g2 gr hI.f (ne _ _ (by omega) (by omega) (by omega) (by omega)) (fun _ _ => rfl) (ne _ _ (by omega) (by omega) (by omega) (by omega)) (fun k h1 h2 => ne _ _ (by omega) (by omega) (by omega) (by omega)), p6.g2 gr hI.f (ne _ _ (by omega) (by omega) (by omega) (by omega)) (fun _ _ => rfl) (ne _ _ (by omega) (by omega) (by omega) (by omega)) (fun k h1 h2 => ne _ _ (by omega) (by omega) (by omega) (by omega))⟩
    · rw [gI_sI, if_neg (by omega), gI_sI, if_neg (by omega), gI_sI, if_neg (by omega), gI_sI, if_pos ⟨rfl, rfl⟩]
    · rw [gI_sI, if_pos ⟨rfl, rfl⟩]
    · rw [gI_sI, if_neg (by omega), gI_sI, if_neg (by omega), gI_sI, if_pos ⟨rfl, rfl⟩]
    · rw [wst_at st (by omega) T hT s (by omega) t (by omega)]
      by_cases ct : t = T
      · rw [if_pos ct, gI_sI, if_neg (by omega), gI_sI, if_pos ⟨rfl, by omega⟩]
      · rw [if_neg ct, ne _ _ (by omega) (by omega) (by omega) (by omega)]
        exact a6 t (by omega)
    · rw [ne _ _ (by omega) (by omega) (by omega) (by omega), ne _ _ (by omega) (by omega) (by omega) (by omega)]
      exact b3
    · rw [ne _ _ (by omega) (by omega) (by omega) (by omega), ne _ _ (by omega) (by omega) (by omega) (by omega)]
      exact b4
    · rw [ne _ _ (by omega) (by omega) (by omega) (by omega), ne _ _ (by omega) (by omega) (by omega) (by omega)]
      exact b5
theorem i_put (d : Nat) {ν : MM} (hI : Inv ν) (v1 v2 : Int32) : CI (fun μ => ev (d + 2) 67 0 [.ref 28, .int v1, .int v2] [] (fx μ)) (fun μ => ev (d + 2) 139 0 [.ref 46, .int v1, .int v2] [] (fx μ)) ν := by
  have hI' := hI
  obtain ⟨⟨A, T, st, H, n, m, C, S, W, ht, hs, cs, hP⟩, -⟩ := hI'
  have hQ := hP.qx hI.b
  obtain ⟨p1, p2, p3, p4, p5, p6⟩ := hP
  have p1' := p1
  obtain ⟨⟨a1, a2, a3⟩, ⟨a4, a5, a6⟩, b3, b4, b5, b6⟩ := p1'
  obtain ⟨-, -, -, -, r49, -⟩ := qR (d + 1) hQ
  have cl0 : ev (d + 2) 67 0 [.ref 28, .int v1, .int v2] [] (fx ν) = if okN T v1 = true then (if rg 0 3 v2 = true then ev (d + 2) 67 6 [.ref 28, .int v1, .int v2] [] (fx ν) else some (some (.int (-2)), fx ν)) else some (some (.int (-1)), fx ν) := by
    rw [e_67_0, r49, bnd_1, app1]
    refine (e_67_1 ..).trans ?_
    rw [bI_0, e_67_2, e_67_3, s_104, bnd_1, app1]
    by_cases c1 : okN T v1 = true
    · rw [if_pos c1, if_pos c1]
      refine (e_67_4 ..).trans ?_
      rw [bI_0, e_67_5]
    · rw [if_neg c1, if_neg c1]
  have md0 : ∀ μ : MM, gI μ 47 0 = Int32.ofNat T → ev (d + 2) 139 0 [.ref 46, .int v1, .int v2] [] (fx μ) = if okN T v1 = true then (if rg 0 3 v2 = true then ev (d + 2) 139 6 [.ref 46, .int v1, .int v2] [] (fx μ) else some (some (.int (-2)), fx μ)) else some (some (.int (-1)), fx μ) := by
    intro μ h0
    rw [e_139_0, s_114 d h0 (by omega), bnd_1, app1]
    refine (e_139_1 ..).trans ?_
    rw [bI_0, e_139_2, e_139_3, s_113r, bnd_1, app1]
    by_cases c1 : okN T v1 = true
    · rw [if_pos c1, if_pos c1]
      refine (e_139_4 ..).trans ?_
      rw [bI_0, e_139_5]
    · rw [if_neg c1, if_neg c1]
  by_cases c1 : okN T v1 = true
  case neg =>
    have md1 := md0 ν a2
    rw [if_neg c1] at cl0 md1
    exact QI.c hI ⟨_, ν, ν, cl0, md1, Fr.rf, Fr.rf, hI.b⟩
  by_cases c : rg 0 3 v2 = true
  case neg =>
    have md1 := md0 ν a2
    rw [if_pos c1, if_neg c] at cl0 md1
    exact QI.c hI ⟨_, ν, ν, cl0, md1, Fr.rf, Fr.rf, hI.b⟩
  rw [if_pos c1, if_pos c] at cl0
  obtain ⟨t, htT, et⟩ := okN_t (by omega) c1
  obtain ⟨s, hs4, es⟩ := rg_n (hi := 3) (by decide) c
  have h256 := p4_le a3
  have kA : Kp ν (sI ν 29 9 (Int32.ofNat (wst st t s))) := (Kp.wI _ (by decide) rfl (by omega))
  have kB : Kp (sI ν 29 9 (Int32.ofNat (wst st t s))) (sI (sI ν 29 9 (Int32.ofNat (wst st t s))) 47 (10 + t) (Int32.ofNat s)) := (Kp.wI _ (by decide) rfl (by omega))
  have gr := (kA.tr kB).1
  have r0 : gI (sI ν 29 9 (Int32.ofNat (wst st t s))) 47 0 = Int32.ofNat T := by rw [gI_sI, if_neg (by omega)]; exact a2
  refine Kp.ci (x := Int32.ofNat (stD st t)) hI (cl0.trans ?_) ((md0 _ r0).trans ?_) kA kB hI.b ?_ (Nat.le_add_right _ _) (Nat.le_add_right _ _)
  · rw [e_67_6, a4, s_107, bnd_1, app1, et, stI_n st (by omega) t (by omega)]
    refine (e_67_7 ..).trans ?_
    rw [e_108_0, bnd_1, app1, a4, es, wst_I st (by omega) t (by omega) s (by omega)]
    exact e_67_8 ..
  · have rt : gI (sI ν 29 9 (Int32.ofNat (wst st t s))) 47 (10 + t) = Int32.ofNat (stD st t) := by rw [gI_sI, if_neg (by omega)]; exact a6 t htT
    rw [if_pos c1, if_pos c, e_139_6, et, ten_num t (by omega), inb_O (by omega) (by omega), gd_t, gd_t, tn_O (by omega), rt, es]
  · 
    have ne : ∀ a k, ¬ (a = 29 ∧ k = 9) → ¬ (a = 47 ∧ k = 10 + t) → gI (sI (sI ν 29 9 (Int32.ofNat (wst st t s))) 47 (10 + t) (Int32.ofNat s)) a k = gI ν a k := by
      intro a k h0 h1
      rw [gI_sI, if_neg h1, gI_sI, if_neg h0]
    refine ⟨A, T, wst st t s, H, n, m, C, S, W, ht, hs, cs, ⟨⟨?_, ?_, a3⟩, ⟨?_, wst_lt a3 a5 htT (by omega), fun t' ht' => ?_⟩, ?_, ?_, ?_, b6⟩, p2.g2 (ne _ _ (by omega) (by omega)) (fun i h1 => ne _ _ (by omega) (by omega)) (ne _ _ (by omega) (by omega)) (fun k h1 h2 => ne _ _ (by omega) (by omega)), p3.g2 (ne _ _ (by omega) (by omega)) (ne _ _ (by omega) (by omega)) (ne _ _ (by omega) (by omega)) (fun k h1 h2 => ne _ _ (by omega) (by omega)), p4.g2 gr hI.f (ne _ _ (by omega) (by omega)) rfl (ne _ _ (by omega) (by omega)) (ne _ _ (by omega) (by omega)) (fun k h1 h2 => ne _ _ (by omega) (by omega)), p5.g2 gr hI.f (ne _ _ (by omega) (by omega)) (fun _ _ => rfl) (ne _ _ (by omega) (by omega)) (fun k h1 h2 => ne _ _ (by omega) (by omega)), p6.g2 gr hI.f (ne _ _ (by omega) (by omega)) (fun _ _ => rfl) (ne _ _ (by omega) (by omega)) (fun k h1 h2 => ne _ _ (by omega) (by omega))⟩
    · rw [ne _ _ (by omega) (by omega)]
      exact a1
    · rw [ne _ _ (by omega) (by omega)]
      exact a2
    · rw [gI_sI, if_neg (by omega), gI_sI, if_pos ⟨rfl, rfl⟩]
    · rw [wst_at st (by omega) t (by omega) s (by omega) t' (by omega)]
      by_cases ct : t' = t
      · rw [if_pos ct, gI_sI, if_pos ⟨rfl, by omega⟩]
      · rw [if_neg ct, ne _ _ (by omega) (by omega)]
        exact a6 t' ht'
    · rw [ne _ _ (by omega) (by omega), ne _ _ (by omega) (by omega)]
      exact b3
    · rw [ne _ _ (by omega) (by omega), ne _ _ (by omega) (by omega)]
      exact b4
    · rw [ne _ _ (by omega) (by omega), ne _ _ (by omega) (by omega)]
      exact b5
theorem i_heed (d : Nat) {ν : MM} (hI : Inv ν) (v1 v2 : Int32) : CI (fun μ => ev (d + 2) 84 0 [.ref 28, .int v1, .int v2] [] (fx μ)) (fun μ => ev (d + 2) 176 0 [.ref 46, .int v1, .int v2] [] (fx μ)) ν := by
  have hI' := hI
  obtain ⟨⟨A, T, st, H, n, m, C, S, W, ht, hs, cs, hP⟩, -⟩ := hI'
  have hQ := hP.qx hI.b
  obtain ⟨p1, p2, p3, p4, p5, p6⟩ := hP
  have p1' := p1
  obtain ⟨⟨a1, a2, a3⟩, b2, b3, b4, b5, b6⟩ := p1'
  obtain ⟨-, -, -, -, r49, -⟩ := qR (d + 1) hQ
  have fin : ∀ z : Int32, okHd v1 z → ev (d + 2) 84 8 [.ref 28, .int v1, .int v2] [] (fx ν) = some (some (.int 1), fx (sI (sI ν 29 11 v1) 29 12 z)) → (∀ μ : MM, gI μ 47 0 = Int32.ofNat T → ev (d + 2) 176 0 [.ref 46, .int v1, .int v2] [] (fx μ) = some (some (.int 1), fx (sI (sI μ 47 8 v1) 47 9 z))) → ev (d + 2) 84 0 [.ref 28, .int v1, .int v2] [] (fx ν) = ev (d + 2) 84 8 [.ref 28, .int v1, .int v2] [] (fx ν) → CI (fun μ => ev (d + 2) 84 0 [.ref 28, .int v1, .int v2] [] (fx μ)) (fun μ => ev (d + 2) 176 0 [.ref 46, .int v1, .int v2] [] (fx μ)) ν := by
    intro z hz e1 e2 e0
    have kA : Kp ν (sI (sI ν 29 11 v1) 29 12 z) := ((Kp.wI _ (by decide) rfl (by omega)).tr (Kp.wI _ (by decide) rfl (by omega)))
    have kB : Kp (sI (sI ν 29 11 v1) 29 12 z) (sI (sI (sI (sI ν 29 11 v1) 29 12 z) 47 8 v1) 47 9 z) := ((Kp.wI _ (by decide) rfl (by omega)).tr (Kp.wI _ (by decide) rfl (by omega)))
    have gr := (kA.tr kB).1
    have r0 : gI (sI (sI ν 29 11 v1) 29 12 z) 47 0 = Int32.ofNat T := by rw [gI_sI, if_neg (by omega), gI_sI, if_neg (by omega)]; exact a2
    refine Kp.ci (x := 1) hI (e0.trans e1) (e2 _ r0) kA kB hI.b ?_ (Nat.le_add_right _ _) (Nat.le_add_right _ _)
    have ne : ∀ a k, ¬ (a = 29 ∧ k = 11) → ¬ (a = 29 ∧ k = 12) → ¬ (a = 47 ∧ k = 8) → ¬ (a = 47 ∧ k = 9) → gI (sI (sI (sI (sI ν 29 11 v1) 29 12 z) 47 8 v1) 47 9 z) a k = gI ν a k := by
      intro a k h0 h1 h2 h3
      rw [gI_sI, if_neg h3, gI_sI, if_neg h2, gI_sI, if_neg h1, gI_sI, if_neg h0]
    refine ⟨A, T, st, H, n, m, C, S, W, v1, z, cs, ⟨⟨?_, ?_, a3⟩, ⟨?_, b2.2.1, fun t ht => ?_⟩, ?_, ⟨?_, ?_⟩, ⟨?_, ?_⟩, hz⟩, p2.g2 (ne _ _ (by omega) (by omega) (by omega) (by omega)) (fun i h1 => ne _ _ (by omega) (by omega) (by omega) (by omega)) (ne _ _ (by omega) (by omega) (by omega) (by omega)) (fun k h1 h2 => ne _ _ (by omega) (by omega) (by omega) (by omega)), p3.g2 (ne _ _ (by omega) (by omega) (by omega) (by omega)) (ne _ _ (by omega) (by omega) (by omega) (by omega)) (ne _ _ (by omega) (by omega) (by omega) (by omega)) (fun k h1 h2 => ne _ _ (by omega) (by omega) (by omega) (by omega)), p4.g2 gr hI.f (ne _ _ (by omega) (by omega) (by omega) (by omega)) rfl (ne _ _ (by omega) (by omega) (by omega) (by omega)) (ne _ _ (by omega) (by omega) (by omega) (by omega)) (fun k h1 h2 => ne _ _ (by omega) (by omega) (by omega) (by omega)), p5.g2 gr hI.f (ne _ _ (by omega) (by omega) (by omega) (by omega)) (fun _ _ => rfl) (ne _ _ (by omega) (by omega) (by omega) (by omega)) (fun k h1 h2 => ne _ _ (by omega) (by omega) (by omega) (by omega)), p6.g2 gr hI.f (ne _ _ (by omega) (by omega) (by omega) (by omega)) (fun _ _ => rfl) (ne _ _ (by omega) (by omega) (by omega) (by omega)) (fun k h1 h2 => ne _ _ (by omega) (by omega) (by omega) (by omega))⟩
    · rw [ne _ _ (by omega) (by omega) (by omega) (by omega)]
      exact a1
    · rw [ne _ _ (by omega) (by omega) (by omega) (by omega)]
      exact a2
    · rw [ne _ _ (by omega) (by omega) (by omega) (by omega)]
      exact b2.1
    · rw [ne _ _ (by omega) (by omega) (by omega) (by omega)]
      exact b2.2.2 t ht
    · rw [ne _ _ (by omega) (by omega) (by omega) (by omega), ne _ _ (by omega) (by omega) (by omega) (by omega)]
      exact b3
    · rw [gI_sI, if_neg (by omega), gI_sI, if_neg (by omega), gI_sI, if_neg (by omega), gI_sI, if_pos ⟨rfl, rfl⟩]
    · rw [gI_sI, if_neg (by omega), gI_sI, if_pos ⟨rfl, rfl⟩]
    · rw [gI_sI, if_neg (by omega), gI_sI, if_neg (by omega), gI_sI, if_pos ⟨rfl, rfl⟩]
    · rw [gI_sI, if_pos ⟨rfl, rfl⟩]
  by_cases cn : v1 = -1
  · refine fin 0 ⟨Or.inl cn, 0, by decide, rfl⟩ ?_ ?_ ?_
    · rw [e_84_8, if_pos cn, e_84_9, e_84_11]
    · intro μ _
      rw [e_176_0, if_pos cn, e_176_4, if_pos cn, e_176_8, if_pos cn, e_176_9, e_176_11]
      rfl
    · rw [e_84_0, if_pos cn, e_84_4, if_pos cn]
  have cl0 : ev (d + 2) 84 0 [.ref 28, .int v1, .int v2] [] (fx ν) = if okN T v1 = true then (if rg 0 3 v2 = true then ev (d + 2) 84 8 [.ref 28, .int v1, .int v2] [] (fx ν) else some (some (.int (-2)), fx ν)) else some (some (.int (-1)), fx ν) := by
    rw [e_84_0, if_neg cn, e_84_1, r49, bnd_1, app1]
    refine (e_84_2 ..).trans ?_
    rw [bI_0, e_84_3, e_84_4, if_neg cn, e_84_5, s_104, bnd_1, app1]
    by_cases c1 : okN T v1 = true
    · rw [if_pos c1, if_pos c1]
      refine (e_84_6 ..).trans ?_
      rw [bI_0, e_84_7]
    · rw [if_neg c1, if_neg c1]
  have md0 : ∀ μ : MM, gI μ 47 0 = Int32.ofNat T → ev (d + 2) 176 0 [.ref 46, .int v1, .int v2] [] (fx μ) = if okN T v1 = true then (if rg 0 3 v2 = true then ev (d + 2) 176 8 [.ref 46, .int v1, .int v2] [] (fx μ) else some (some (.int (-2)), fx μ)) else some (some (.int (-1)), fx μ) := by
    intro μ h0
    rw [e_176_0, if_neg cn, e_176_1, s_114 d h0 (by omega), bnd_1, app1]
    refine (e_176_2 ..).trans ?_
    rw [bI_0, e_176_3, e_176_4, if_neg cn, e_176_5, s_113r, bnd_1, app1]
    by_cases c1 : okN T v1 = true
    · rw [if_pos c1, if_pos c1]
      refine (e_176_6 ..).trans ?_
      rw [bI_0, e_176_7]
    · rw [if_neg c1, if_neg c1]
  by_cases c1 : okN T v1 = true
  case neg =>
    have md1 := md0 ν a2
    rw [if_neg c1] at cl0 md1
    exact QI.c hI ⟨_, ν, ν, cl0, md1, Fr.rf, Fr.rf, hI.b⟩
  by_cases c : rg 0 3 v2 = true
  case neg =>
    have md1 := md0 ν a2
    rw [if_pos c1, if_neg c] at cl0 md1
    exact QI.c hI ⟨_, ν, ν, cl0, md1, Fr.rf, Fr.rf, hI.b⟩
  rw [if_pos c1, if_pos c] at cl0
  obtain ⟨t, htT, et⟩ := okN_t (by omega) c1
  obtain ⟨s, hs4, es⟩ := rg_n (hi := 3) (by decide) c
  refine fin v2 ⟨Or.inr ⟨t, by omega, et⟩, s, by omega, es⟩ ?_ ?_ cl0
  · rw [e_84_8, if_neg cn, e_84_10, e_84_11]
  · intro μ h0
    rw [md0 μ h0, if_pos c1, if_pos c, e_176_8, if_neg cn, e_176_10, e_176_11]
    rfl
