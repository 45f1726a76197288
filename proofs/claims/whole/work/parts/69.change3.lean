/-! row, now, count, hour -/
theorem gb3 : ∀ j, j < 32 → gb 3 j = decide (j < 2) := by decide
theorem gbm1 : ∀ j, j < 32 → gb (-1) j = true := by decide
theorem gbs4 : ∀ s, s < 4 → ∀ j, j < 32 → (gb (Int32.ofNat s) j && decide (j < 2)) = gb (Int32.ofNat s) j := by decide
theorem two12 : ∀ i, i < 12 → ((2 : Int32) * Int32.ofNat i) &&& 31 = Int32.ofNat (2 * i) := by decide
theorem gb_stI (y : Int32) {i j : Nat} (hi : i < 12) (hj : j < 32) : gb (stI y (Int32.ofNat i)) j = (decide (j < 2) && gb y (2 * i + j)) := by
  unfold stI
  rw [two12 i hi, gb_and, gb3 j hj]
  by_cases c : j < 2
  · rw [decide_eq_true c, Bool.and_true, Bool.true_and, gb_sr y (by omega)]
  · rw [decide_eq_false c, Bool.and_false, Bool.false_and]
def wsI (x m v : Int32) : Int32 := (x &&& ((3 : Int32) <<< (((2 : Int32) * m) &&& 31) ^^^ (-1))) ||| ((v &&& 3) <<< (((2 : Int32) * m) &&& 31))
theorem st_w (x : Int32) {m s i : Nat} (hm : m < 12) (hs : s < 4) (hi : i < 12) : stI (wsI x (Int32.ofNat m) (Int32.ofNat s)) (Int32.ofNat i) = if i = m then Int32.ofNat s else stI x (Int32.ofNat i) := by
  refine I_ext fun j hj => ?_
  rw [gb_stI _ hi hj]
  by_cases c : j < 2
  case neg =>
    rw [decide_eq_false c, Bool.false_and]
    by_cases ci : i = m
    · rw [if_pos ci]
      have := gbs4 s hs j hj
      rw [decide_eq_false c, Bool.and_false] at this
      exact this
    · rw [if_neg ci, gb_stI _ hi hj, decide_eq_false c, Bool.false_and]
  have hk : 2 * i + j < 32 := by omega
  rw [decide_eq_true c, Bool.true_and]
  unfold wsI
  rw [two12 m hm, gb_or, gb_and, gb_xor, gb_sl _ (by omega), gb_sl _ (by omega), gbm1 _ hk, decide_eq_true hk, Bool.true_and]
  by_cases ci : i = m
  · rw [if_pos ci, ci, Nat.add_sub_cancel_left, decide_eq_false (show ¬ 2 * m + j < 2 * m by omega), gb3 j hj, gb_and, gb3 j hj, decide_eq_true c]
    simp
  · rw [if_neg ci, gb_stI _ hi hj, decide_eq_true c, Bool.true_and]
    by_cases cl : 2 * i + j < 2 * m
    · rw [decide_eq_true cl]
      simp
    · rw [decide_eq_false cl, gb3 _ (by omega), gb_and, gb3 _ (by omega), decide_eq_false (show ¬ 2 * i + j - 2 * m < 2 by omega)]
      simp
theorem i_row (d : Nat) {ν : MM} (hI : Inv ν) (v1 : Int32) : CI (fun μ => ev (d + 1) 95 0 [.ref 28, .int v1] [] (fx μ)) (fun μ => ev (d + 1) 180 0 [.ref 46, .int v1] [] (fx μ)) ν := by
  have hI' := hI
  obtain ⟨⟨A, T, st, H, n, m, C, S, W, ht, hs, cs, hP⟩, -⟩ := hI'
  have hQ := hP.qx hI.b
  obtain ⟨p1, p2, p3, p4, p5, p6⟩ := hP
  have p3' := p3
  obtain ⟨a1, a2, a3, a4⟩ := p3'
  by_cases cn : v1 = -1
  · have kA : Kp ν (sI (sI ν 29 13 0) 29 14 0) := ((Kp.wI _ (by decide) rfl (by omega)).tr (Kp.wI _ (by decide) rfl (by omega)))
    have kB : Kp (sI (sI ν 29 13 0) 29 14 0) (sI (sI (sI ν 29 13 0) 29 14 0) 47 4 0) := (Kp.wI _ (by decide) rfl (by omega))
    have gr := (kA.tr kB).1
    refine Kp.ci (x := 0) hI ?_ ?_ kA kB hI.b ?_ (Nat.le_add_right _ _) (Nat.le_add_right _ _)
    · show ev (d + 1) 95 0 [.ref 28, .int v1] [] (fx ν) = _
      rw [e_95_0, if_pos cn, e_95_1]
    · show ev (d + 1) 180 0 [.ref 46, .int v1] [] (fx (sI (sI ν 29 13 0) 29 14 0)) = _
      rw [e_180_0, if_pos cn, e_180_1]
    have ne : ∀ a k, ¬ (a = 29 ∧ k = 13) → ¬ (a = 29 ∧ k = 14) → ¬ (a = 47 ∧ k = 4) → gI (sI (sI (sI ν 29 13 0) 29 14 0) 47 4 0) a k = gI ν a k := by
      intro a k h0 h1 h2
      rw [gI_sI, if_neg h2, gI_sI, if_neg h1, gI_sI, if_neg h0]
    refine ⟨A, T, st, H, n, 0, C, S, W, ht, hs, cs, p1.g2 (fun k h1 h2 => ne _ _ (by omega) (by omega) (by omega)) (ne _ _ (by omega) (by omega) (by omega)) (fun k h1 h2 => ne _ _ (by omega) (by omega) (by omega)), p2.g2 (ne _ _ (by omega) (by omega) (by omega)) (fun i h1 => ne _ _ (by omega) (by omega) (by omega)) (ne _ _ (by omega) (by omega) (by omega)) (fun k h1 h2 => ne _ _ (by omega) (by omega) (by omega)), ⟨?_, ?_, by omega, fun i hi => absurd hi (by omega)⟩, p4.g2 gr hI.f (ne _ _ (by omega) (by omega) (by omega)) rfl (ne _ _ (by omega) (by omega) (by omega)) (ne _ _ (by omega) (by omega) (by omega)) (fun k h1 h2 => ne _ _ (by omega) (by omega) (by omega)), p5.g2 gr hI.f (ne _ _ (by omega) (by omega) (by omega)) (fun _ _ => rfl) (ne _ _ (by omega) (by omega) (by omega)) (fun k h1 h2 => ne _ _ (by omega) (by omega) (by omega)), p6.g2 gr hI.f (ne _ _ (by omega) (by omega) (by omega)) (fun _ _ => rfl) (ne _ _ (by omega) (by omega) (by omega)) (fun k h1 h2 => ne _ _ (by omega) (by omega) (by omega))⟩
    · rw [gI_sI, if_neg (by omega), gI_sI, if_pos ⟨rfl, rfl⟩]
      rfl
    · rw [gI_sI, if_pos ⟨rfl, rfl⟩]
      rfl
  have cl0 : ev (d + 1) 95 0 [.ref 28, .int v1] [] (fx ν) = if rg 0 3 v1 = true then ev (d + 1) 95 5 [.ref 28, .int v1] [] (fx ν) else some (some (.int (-2)), fx ν) := by
    rw [e_95_0, if_neg cn, e_95_2, s_104, bnd_1, app1]
    refine (e_95_3 ..).trans ?_
    rw [bI_0, e_95_4]
  have md0 : ∀ μ : MM, ev (d + 1) 180 0 [.ref 46, .int v1] [] (fx μ) = if rg 0 3 v1 = true then ev (d + 1) 180 5 [.ref 46, .int v1] [] (fx μ) else some (some (.int (-2)), fx μ) := by
    intro μ
    rw [e_180_0, if_neg cn, e_180_2, s_113r, bnd_1, app1]
    refine (e_180_3 ..).trans ?_
    rw [bI_0, e_180_4]
  by_cases c : rg 0 3 v1 = true
  case neg =>
    have md1 := md0 ν
    rw [if_neg c] at cl0 md1
    exact QI.c hI ⟨_, ν, ν, cl0, md1, Fr.rf, Fr.rf, hI.b⟩
  rw [if_pos c] at cl0
  obtain ⟨s, hs4, es⟩ := rg_n (hi := 3) (by decide) c
  have lt : (Int32.ofNat m < 12) = (m < 12) := O_lt (b := 12) (by omega) (by decide)
  have eq : (Int32.ofNat m = 12) = (m = 12) := O_eq (b := 12) (by omega) (by decide)
  by_cases hm : m < 12
  case neg =>
    refine QI.c hI ⟨-4, ν, ν, cl0.trans ?_, (md0 ν).trans ?_, Fr.rf, Fr.rf, hI.b⟩
    · rw [e_95_5, a1, if_neg (by rw [lt]; exact hm), e_95_6]
    · rw [if_pos c, e_180_5, a2, if_pos (by rw [eq]; omega), e_180_6]
  have n40 : ∀ i, i < 12 → (40 : Int32) + Int32.ofNat i = Int32.ofNat (40 + i) := by decide
  generalize hy : wsI (gI ν 29 13) (Int32.ofNat m) (Int32.ofNat s) = y
  have kA : Kp ν (sI (sI ν 29 13 y) 29 14 (Int32.ofNat (m + 1))) := ((Kp.wI _ (by decide) rfl (by omega)).tr (Kp.wI _ (by decide) rfl (by omega)))
  have kB : Kp (sI (sI ν 29 13 y) 29 14 (Int32.ofNat (m + 1))) (sI (sI (sI (sI ν 29 13 y) 29 14 (Int32.ofNat (m + 1))) 47 (40 + m) (Int32.ofNat s)) 47 4 (Int32.ofNat (m + 1))) := ((Kp.wI _ (by decide) rfl (by omega)).tr (Kp.wI _ (by decide) rfl (by omega)))
  have gr := (kA.tr kB).1
  refine Kp.ci (x := Int32.ofNat (m + 1)) hI (cl0.trans ?_) ((md0 _).trans ?_) kA kB hI.b ?_ (Nat.le_add_right _ _) (Nat.le_add_right _ _)
  · have y' : (gI ν 29 13 &&& ((3 : Int32) <<< (((2 : Int32) * Int32.ofNat m) &&& 31) ^^^ (-1))) ||| ((Int32.ofNat s &&& 3) <<< (((2 : Int32) * Int32.ofNat m) &&& 31)) = y := hy
    rw [e_95_5, a1, if_pos (by rw [lt]; exact hm), e_95_7, a1, e_108_0, bnd_1, app1, es, y']
    refine (e_95_8 ..).trans ?_
    have e1 : gI (sI ν 29 13 y) 29 14 + 1 = Int32.ofNat (m + 1) := by rw [gI_sI, if_neg (by omega), a1, O_succ]
    rw [e1, gI_sI, if_pos ⟨rfl, rfl⟩]
  · have r4 : gI (sI (sI ν 29 13 y) 29 14 (Int32.ofNat (m + 1))) 47 4 = Int32.ofNat m := by rw [gI_sI, if_neg (by omega), gI_sI, if_neg (by omega)]; exact a2
    rw [if_pos c, e_180_5, r4, if_neg (by rw [eq]; omega), e_180_7, r4, n40 m hm, inb_O (by omega) (by omega), gd_t, tn_O (by omega), es]
    have e1 : gI (sI (sI (sI ν 29 13 y) 29 14 (Int32.ofNat (m + 1))) 47 (40 + m) (Int32.ofNat s)) 47 4 + 1 = Int32.ofNat (m + 1) := by rw [gI_sI, if_neg (by omega), r4, O_succ]
    rw [e1, gI_sI, if_pos ⟨rfl, rfl⟩]
  · 
    have ne : ∀ a k, ¬ (a = 29 ∧ k = 13) → ¬ (a = 29 ∧ k = 14) → ¬ (a = 47 ∧ k = 40 + m) → ¬ (a = 47 ∧ k = 4) → gI (sI (sI (sI (sI ν 29 13 y) 29 14 (Int32.ofNat (m + 1))) 47 (40 + m) (Int32.ofNat s)) 47 4 (Int32.ofNat (m + 1))) a k = gI ν a k := by
      intro a k h0 h1 h2 h3
      rw [gI_sI, if_neg h3, gI_sI, if_neg h2, gI_sI, if_neg h1, gI_sI, if_neg h0]
    refine ⟨A, T, st, H, n, m + 1, C, S, W, ht, hs, cs, p1.g2 (fun k h1 h2 => ne _ _ (by omega) (by omega) (by omega) (by omega)) (ne _ _ (by omega) (by omega) (by omega) (by omega)) (fun k h1 h2 => ne _ _ (by omega) (by omega) (by omega) (by omega)), p2.g2 (ne _ _ (by omega) (by omega) (by omega) (by omega)) (fun i h1 => ne _ _ (by omega) (by omega) (by omega) (by omega)) (ne _ _ (by omega) (by omega) (by omega) (by omega)) (fun k h1 h2 => ne _ _ (by omega) (by omega) (by omega) (by omega)), ⟨?_, ?_, by omega, fun i hi => ?_⟩, p4.g2 gr hI.f (ne _ _ (by omega) (by omega) (by omega) (by omega)) rfl (ne _ _ (by omega) (by omega) (by omega) (by omega)) (ne _ _ (by omega) (by omega) (by omega) (by omega)) (fun k h1 h2 => ne _ _ (by omega) (by omega) (by omega) (by omega)), p5.g2 gr hI.f (ne _ _ (by omega) (by omega) (by omega) (by omega)) (fun _ _ => rfl) (ne _ _ (by omega) (by omega) (by omega) (by omega)) (fun k h1 h2 => ne _ _ (by omega) (by omega) (by omega) (by omega)), p6.g2 gr hI.f (ne _ _ (by omega) (by omega) (by omega) (by omega)) (fun _ _ => rfl) (ne _ _ (by omega) (by omega) (by omega) (by omega)) (fun k h1 h2 => ne _ _ (by omega) (by omega) (by omega) (by omega))⟩
    · rw [gI_sI, if_neg (by omega), gI_sI, if_neg (by omega), gI_sI, if_pos ⟨rfl, rfl⟩]
    · rw [gI_sI, if_pos ⟨rfl, rfl⟩]
    · have e13 : gI (sI (sI (sI (sI ν 29 13 y) 29 14 (Int32.ofNat (m + 1))) 47 (40 + m) (Int32.ofNat s)) 47 4 (Int32.ofNat (m + 1))) 29 13 = y := by rw [gI_sI, if_neg (by omega), gI_sI, if_neg (by omega), gI_sI, if_neg (by omega), gI_sI, if_pos ⟨rfl, rfl⟩]
      have sw := st_w (gI ν 29 13) (s := s) (i := i) hm (by omega) (by omega)
      rw [hy] at sw
      rw [e13, sw]
      by_cases ci : i = m
      · exact ⟨s, by omega, if_pos ci, by rw [gI_sI, if_neg (by omega), gI_sI, if_pos ⟨rfl, by omega⟩]⟩
      · obtain ⟨k, h1, h2, h3⟩ := a4 i (by omega)
        exact ⟨k, h1, by rw [if_neg ci]; exact h2, by rw [ne _ _ (by omega) (by omega) (by omega) (by omega)]; exact h3⟩
theorem i_now (d : Nat) {ν : MM} (hI : Inv ν) : CI (fun μ => ev d 73 0 [.ref 28] [] (fx μ)) (fun μ => ev d 147 0 [.ref 46] [] (fx μ)) ν := by
  have hI' := hI
  obtain ⟨⟨A, T, st, H, n, m, C, S, W, ht, hs, cs, hP⟩, -⟩ := hI'
  have hQ := hP.qx hI.b
  obtain ⟨p1, p2, p3, p4, p5, p6⟩ := hP
  obtain ⟨-, -, ⟨a1, a2, a3⟩, -⟩ := p1
  refine QI.c hI ⟨Int32.ofNat H, ν, ν, ?_, ?_, Fr.rf, Fr.rf, hI.b⟩
  · show ev d 73 0 [.ref 28] [] (fx ν) = _
    rw [e_73_0, a1]
  · show ev d 147 0 [.ref 46] [] (fx ν) = _
    rw [e_147_0, a2]
theorem i_count (d : Nat) {ν : MM} (hI : Inv ν) (v1 : Int32) : CI (fun μ => ev d 103 0 [.ref 28, .int v1] [] (fx μ)) (fun μ => ev d 195 0 [.ref 46, .int v1] [] (fx μ)) ν := by
  have hI' := hI
  obtain ⟨⟨A, T, st, H, n, m, C, S, W, ht, hs, cs, hP⟩, -⟩ := hI'
  have hQ := hP.qx hI.b
  obtain ⟨p1, p2, p3, p4, p5, p6⟩ := hP
  obtain ⟨k, -, t1, t2, -⟩ := hI.2.2.2.1
  have same : ev d 195 0 [.ref 46, .int v1] [] (fx ν) = ev d 103 0 [.ref 28, .int v1] [] (fx ν) := by
    rw [e_103_0, e_195_0, e_103_1, e_103_2, e_103_3, e_103_4, e_103_5, e_103_6, e_103_7, e_103_8, e_195_1, e_195_2, e_195_3, e_195_4, e_195_5, e_195_6, e_195_7, e_195_8, p1.1.1, p1.1.2.1, p6.1, p6.2.1, p5.1, p5.2.1, p4.2.1, p4.2.2.1, p3.1, p3.2.1, p2.1, p2.2.1, t1, t2]
  have val : ∃ x : Int32, ev d 103 0 [.ref 28, .int v1] [] (fx ν) = some (some (.int x), fx ν) := by
    rw [e_103_0, e_103_1, e_103_2, e_103_3, e_103_4, e_103_5, e_103_6, e_103_7, e_103_8]
    repeat' split
    all_goals exact ⟨_, rfl⟩
  obtain ⟨x, hx⟩ := val
  exact QI.c hI ⟨x, ν, ν, hx, same.trans hx, Fr.rf, Fr.rf, hI.b⟩
