/-! feed, thing, put, heed, row, now, count -/
theorem Inv.b {ν : MM} (h : Inv ν) : b01 (gI ν 50 0) = true := h.2.2.1
theorem Inv.f {ν : MM} (h : Inv ν) : Fsh ν := h.2.2.2.2.2.1
theorem lt_n (n m : Nat) (h1 : n ≤ 1000000) (h2 : m ≤ 1000000) : (Int32.ofNat n < Int32.ofNat m) = (n < m) := O_lt h1 h2
theorem i_feed (d : Nat) {ν : MM} (hI : Inv ν) (v1 : Int32) : CI (fun μ => ev (d + 1) 63 0 [.ref 28, .int v1] [] (fx μ)) (fun μ => ev (d + 1) 117 0 [.ref 46, .int v1] [] (fx μ)) ν := by
  have hI' := hI
  obtain ⟨⟨A, T, st, H, n, m, C, S, W, ht, hs, cs, hP⟩, -⟩ := hI'
  obtain ⟨p1, ⟨t1, t2, t3, t4⟩, p3, p4, p5, p6⟩ := hP
  have cl0 : ev (d + 1) 63 0 [.ref 28, .int v1] [] (fx ν) = if rg 0 127 v1 = true then ev (d + 1) 63 3 [.ref 28, .int v1] [] (fx ν) else some (some (.int (-2)), fx ν) := by
    rw [e_63_0, e_63_1, e_63_2]
    unfold rg
    by_cases x1 : v1 < 0
    · rw [if_pos x1, decide_eq_true x1]; rfl
    · rw [if_neg x1, decide_eq_false x1]
      by_cases x2 : v1 ≤ 127
      · rw [if_pos x2, decide_eq_false (Int32.not_lt.mpr x2)]; rfl
      · rw [if_neg x2, decide_eq_true (Int32.not_le.mp x2)]; rfl
  have md0 : ev (d + 1) 117 0 [.ref 46, .int v1] [] (fx ν) = if rg 0 127 v1 = true then ev (d + 1) 117 3 [.ref 46, .int v1] [] (fx ν) else some (some (.int (-2)), fx ν) := by
    rw [e_117_0, s_113r, bnd_1, app1]
    refine (e_117_1 ..).trans ?_
    rw [bI_0, e_117_2]
  by_cases c : rg 0 127 v1 = true
  case neg =>
    rw [if_neg c] at cl0 md0
    exact QI.c hI ⟨_, ν, ν, cl0, md0, Fr.rf, Fr.rf, hI.b⟩
  rw [if_pos c] at cl0 md0
  obtain ⟨b, hb, eb⟩ := rg_n (hi := 127) (by decide) c
  have lt : (Int32.ofNat n < 100) = (n < 100) := O_lt (b := 100) (by omega) (by decide)
  have eq : (Int32.ofNat n = 100) = (n = 100) := O_eq (b := 100) (by omega) (by decide)
  by_cases hn : n < 100
  case neg =>
    refine QI.c hI ⟨-4, ν, ν, cl0.trans ?_, md0.trans ?_, Fr.rf, Fr.rf, hI.b⟩
    · rw [e_63_3, t1, if_neg (by rw [lt]; exact hn), e_63_4]
    · rw [e_117_3, t2, if_pos (by rw [eq]; omega), e_117_4]
  have n52 : (52 : Int32) + Int32.ofNat n = Int32.ofNat (52 + n) := by rw [show (52 : Int32) = Int32.ofNat 52 from rfl, O_add]
  have i8 : ∀ b, b < 128 → ((Int32.ofNat b).toInt8.toInt32).toInt8.toInt32 = Int32.ofNat b := by decide +kernel
  have kA : Kp ν (sI (sI ν 30 n (Int32.ofNat b)) 29 1 (Int32.ofNat (n + 1))) := (Kp.wI _ (by decide) rfl (by omega) (fun _ => ⟨b, by omega, rfl⟩)).tr (Kp.wI _ (by decide) rfl (by omega))
  have kB : Kp (sI (sI ν 30 n (Int32.ofNat b)) 29 1 (Int32.ofNat (n + 1))) (sI (sI (sI (sI ν 30 n (Int32.ofNat b)) 29 1 (Int32.ofNat (n + 1))) 47 (52 + n) (Int32.ofNat b)) 47 5 (Int32.ofNat (n + 1))) := (Kp.wI _ (by decide) rfl (by omega)).tr (Kp.wI _ (by decide) rfl (by omega))
  have gr := (kA.tr kB).1
  refine Kp.ci (x := Int32.ofNat (n + 1)) hI (cl0.trans ?_) ((?_ : _ = _)) kA kB hI.b ?_ (Nat.le_add_right _ _) (Nat.le_add_right _ _)
  · rw [e_63_3, t1, if_pos (by rw [lt]; exact hn), e_63_5, t1, inb_O (by omega) (by omega), gd_t, tn_O (by omega), eb, i8 b (by omega)]
    have e1 : gI (sI ν 30 n (Int32.ofNat b)) 29 1 + 1 = Int32.ofNat (n + 1) := by
      rw [gI_sI, if_neg (by omega), t1, O_succ]
    rw [e1, gI_sI, if_pos ⟨rfl, rfl⟩]
  · have md1 : ev (d + 1) 117 0 [.ref 46, .int v1] [] (fx (sI (sI ν 30 n (Int32.ofNat b)) 29 1 (Int32.ofNat (n + 1)))) = ev (d + 1) 117 3 [.ref 46, .int v1] [] (fx (sI (sI ν 30 n (Int32.ofNat b)) 29 1 (Int32.ofNat (n + 1)))) := by
      rw [e_117_0, s_113r, bnd_1, app1]
      refine (e_117_1 ..).trans ?_
      rw [bI_0, if_pos c]
    have r5 : gI (sI (sI ν 30 n (Int32.ofNat b)) 29 1 (Int32.ofNat (n + 1))) 47 5 = Int32.ofNat n := by
      rw [gI_sI, if_neg (by omega), gI_sI, if_neg (by omega)]
      exact t2
    refine md1.trans ?_
    rw [e_117_3, r5, if_neg (by rw [eq]; omega), e_117_5, r5, n52, inb_O (by omega) (by omega), gd_t, tn_O (by omega), eb]
    have e1 : gI (sI (sI (sI ν 30 n (Int32.ofNat b)) 29 1 (Int32.ofNat (n + 1))) 47 (52 + n) (Int32.ofNat b)) 47 5 + 1 = Int32.ofNat (n + 1) := by
      rw [gI_sI, if_neg (by omega), r5, O_succ]
    rw [e1, gI_sI, if_pos ⟨rfl, rfl⟩]
  · have ne : ∀ a k, ¬ (a = 30 ∧ k = n) → ¬ (a = 29 ∧ k = 1) → ¬ (a = 47 ∧ k = 52 + n) → ¬ (a = 47 ∧ k = 5) → gI (sI (sI (sI (sI ν 30 n (Int32.ofNat b)) 29 1 (Int32.ofNat (n + 1))) 47 (52 + n) (Int32.ofNat b)) 47 5 (Int32.ofNat (n + 1))) a k = gI ν a k := by
      intro a k h1 h2 h3 h4
      rw [gI_sI, if_neg h4, gI_sI, if_neg h3, gI_sI, if_neg h2, gI_sI, if_neg h1]
    refine ⟨A, T, st, H, n + 1, m, C, S, W, ht, hs, cs, p1.g2 (fun k h1 h2 => ne _ _ (by omega) (by omega) (by omega) (by omega)) (ne _ _ (by omega) (by omega) (by omega) (by omega)) (fun k h1 h2 => ne _ _ (by omega) (by omega) (by omega) (by omega)), ⟨?_, ?_, by omega, fun i hi => ?_⟩, p3.g2 (ne _ _ (by omega) (by omega) (by omega) (by omega)) (ne _ _ (by omega) (by omega) (by omega) (by omega)) (ne _ _ (by omega) (by omega) (by omega) (by omega)) (fun k h1 h2 => ne _ _ (by omega) (by omega) (by omega) (by omega)), p4.g2 gr hI.f (ne _ _ (by omega) (by omega) (by omega) (by omega)) rfl (ne _ _ (by omega) (by omega) (by omega) (by omega)) (ne _ _ (by omega) (by omega) (by omega) (by omega)) (fun k h1 h2 => ne _ _ (by omega) (by omega) (by omega) (by omega)), p5.g2 gr hI.f (ne _ _ (by omega) (by omega) (by omega) (by omega)) (fun _ _ => rfl) (ne _ _ (by omega) (by omega) (by omega) (by omega)) (fun k h1 h2 => ne _ _ (by omega) (by omega) (by omega) (by omega)), p6.g2 gr hI.f (ne _ _ (by omega) (by omega) (by omega) (by omega)) (fun _ _ => rfl) (ne _ _ (by omega) (by omega) (by omega) (by omega)) (fun k h1 h2 => ne _ _ (by omega) (by omega) (by omega) (by omega))⟩
    · rw [gI_sI, if_neg (by omega), gI_sI, if_neg (by omega), gI_sI, if_pos ⟨rfl, rfl⟩]
    · rw [gI_sI, if_pos ⟨rfl, rfl⟩]
    · by_cases ci : i = n
      · refine ⟨b, by omega, ?_, ?_⟩
        · rw [gI_sI, if_neg (by omega), gI_sI, if_neg (by omega), gI_sI, if_neg (by omega), gI_sI, if_pos ⟨rfl, ci⟩]
        · rw [gI_sI, if_neg (by omega), gI_sI, if_pos ⟨rfl, by omega⟩]
      · obtain ⟨b', h1, h2, h3⟩ := t4 i (by omega)
        exact ⟨b', h1, by rw [ne _ _ (by omega) (by omega) (by omega) (by omega)]; exact h2, by rw [ne _ _ (by omega) (by omega) (by omega) (by omega)]; exact h3⟩
