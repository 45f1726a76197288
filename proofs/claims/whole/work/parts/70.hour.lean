/-! hour -/
theorem and3N : ∀ n, n < 1024 → Int32.ofNat n &&& 3 = Int32.ofNat (n % 4) &&& 3 := by decide +kernel
def moI (f : Nat) (v1 : Int32) (t : Nat) : Nat := if f = 2 then 1 else if f = 1 then (if v1 >>> (Int32.ofNat t &&& 31) &&& 1 = 1 then 1 else 0) else 0
theorem moI_le (f : Nat) (v1 : Int32) (t : Nat) : moI f v1 t ≤ 1 := by
  unfold moI
  repeat' split
  all_goals omega
def hrN (cs : List Cl) (st H : Nat) (v1 : Int32) (t : Nat) : Nat := (stD st t + tuN cs t (stD st t) H + moI (dfN cs t (stD st t) H) v1 t) % 4
theorem hrN_lt (cs : List Cl) (st H : Nat) (v1 : Int32) (t : Nat) : hrN cs st H v1 t < 4 := Nat.mod_lt _ (by decide)
def hrR (cs : List Cl) (st H : Nat) (v1 : Int32) : Nat → Nat
  | 0 => 0
  | t + 1 => wst (hrR cs st H v1 t) t (hrN cs st H v1 t)
theorem hrR_ok (cs : List Cl) (st H : Nat) (v1 : Int32) : ∀ T, T ≤ 4 → hrR cs st H v1 T < 4 ^ T ∧ ∀ t, t < T → stD (hrR cs st H v1 T) t = hrN cs st H v1 t
  | 0, _ => ⟨(by decide : 0 < 1), fun t h => absurd h (by omega)⟩
  | T + 1, h => by
    obtain ⟨a, b⟩ := hrR_ok cs st H v1 T (by omega)
    have h256 := p4_le (T := T) (by omega)
    refine ⟨wst_new T (by omega) _ a _ (hrN_lt ..), fun t ht => ?_⟩
    show stD (wst (hrR cs st H v1 T) T (hrN cs st H v1 T)) t = _
    rw [wst_at _ (by omega) T (by omega) _ (hrN_lt ..) t (by omega)]
    by_cases c : t = T
    · rw [if_pos c, c]
    · rw [if_neg c]
      exact b t (by omega)
theorem l_74 (d : Nat) {ν : MM} {A T st H : Nat} {ht hs : Int32} {cs : List Cl} (hO : CO ν A T st H ht hs cs) (v1 : Int32) : ∀ (r t : Nat), t + r = T → ev (d + 3) 74 6 [.ref 28, .int v1, .int (Int32.ofNat (hrR cs st H v1 t)), .int (Int32.ofNat t)] [] (fx ν) = ev (d + 3) 74 21 [.ref 28, .int (Int32.ofNat (hrR cs st H v1 T))] [] (fx ν)
  | 0, t, h => by
    obtain ⟨-, -, -, hT, hT4, -⟩ := hO
    rw [e_74_6, hT, if_pos (by rw [O_le (by omega) (by omega)]; omega), show t = T by omega]
  | r + 1, t, h => by
    have ih := l_74 d hO v1 r (t + 1) (by omega)
    obtain ⟨hA, hCo, hc, hT, hT4, hS, hs4, hH, hH2, -⟩ := hO
    have h256 := p4_le hT4
    have h256t := p4_le (T := t) (by omega)
    obtain ⟨a1, a2⟩ := tu_n hc t (stD st t) H
    obtain ⟨b1, b2⟩ := df_n hc t (stD st t) H
    have hd := stD_lt st t
    obtain ⟨ra, -⟩ := hrR_ok cs st H v1 t (by omega)
    rw [e_74_6, hT, if_neg (by rw [O_le (by omega) (by omega)]; omega), e_74_7, hS, s_107, bnd_1, app1, stI_n st (by omega) t (by omega)]
    refine (e_74_8 ..).trans ?_
    rw [hH, s_110 (d + 2) (t := t) (s := stD st t) (h := H) (by omega), bnd_1, app1]
    refine (e_74_9 ..).trans ?_
    rw [s_57 d _ _ hA hCo, bnd_1, app1, tog_T hc.2.2 (by omega) hd, b1]
    refine (e_74_10 ..).trans ?_
    have e2 : (Int32.ofNat (dfN cs t (stD st t) H) = 2) = (dfN cs t (stD st t) H = 2) := O_eq (b := 2) (by omega) (by decide)
    have e1 : (Int32.ofNat (dfN cs t (stD st t) H) = 1) = (dfN cs t (stD st t) H = 1) := O_eq (b := 1) (by omega) (by decide)
    have fin : ∀ mo : Nat, mo ≤ 1 → moI (dfN cs t (stD st t) H) v1 t = mo → ev (d + 3) 74 15 [.ref 28, .int v1, .int (Int32.ofNat (hrR cs st H v1 t)), .int (Int32.ofNat t), .int (Int32.ofNat (stD st t)), .int (((Int32.ofNat t ||| (Int32.ofNat (stD st t) <<< 4)) ||| (Int32.ofNat (H % 12) <<< 8)) ||| 36864)] [.int (Int32.ofNat mo)] (fx ν) = ev (d + 3) 74 21 [.ref 28, .int (Int32.ofNat (hrR cs st H v1 T))] [] (fx ν) := by
      intro mo hmo hme
      have m01 : mo = 0 ∨ mo = 1 := by omega
      have hst : ∀ x : Nat, (stD st t + tuN cs t (stD st t) H + x) % 4 = hrN cs st H v1 t → ev (d + 3) 74 19 [.ref 28, .int v1, .int (Int32.ofNat t)] [.int (Int32.ofNat x), .int (Int32.ofNat (stD st t) + Int32.ofNat (tuN cs t (stD st t) H)), .int (Int32.ofNat t), .int (Int32.ofNat (hrR cs st H v1 t))] (fx ν) = ev (d + 3) 74 21 [.ref 28, .int (Int32.ofNat (hrR cs st H v1 T))] [] (fx ν) ∨ 2 ≤ x := by
        intro x hx
        by_cases hx2 : 2 ≤ x
        · exact Or.inr hx2
        · refine Or.inl ?_
          rw [e_74_19, e_108_0, bnd_1, app1, O_add, O_add, and3N _ (by omega), hx, wst_I _ (by omega) t (by omega) _ (hrN_lt ..)]
          refine (e_74_20 ..).trans ?_
          rw [O_succ]
          exact ih
      have hx := hst mo (by unfold hrN; rw [hme])
      rcases hx with hx | hx
      case inr => omega
      rw [e_74_15, s_57 d _ _ hA hCo, bnd_1, app1, tog_T hc.2.2 (by omega) hd, a1]
      refine (e_74_16 ..).trans ?_
      rcases m01 with rfl | rfl
      · rw [if_pos (by decide), e_74_18]
        exact hx
      · rw [if_neg (by decide), e_74_17]
        exact hx
    rw [e_74_13, e_74_11, e_74_12, e_74_13, e_74_14]
    by_cases c2 : dfN cs t (stD st t) H = 2
    · rw [if_pos (by rw [e2]; exact c2)]
      exact fin 1 (Nat.le_refl _) (by unfold moI; rw [if_pos c2])
    · rw [if_neg (by rw [e2]; exact c2)]
      by_cases c1 : dfN cs t (stD st t) H = 1
      · rw [if_pos (by rw [e1]; exact c1)]
        by_cases cb : v1 >>> (Int32.ofNat t &&& 31) &&& 1 = 1
        · rw [if_pos cb]
          exact fin 1 (Nat.le_refl _) (by unfold moI; rw [if_neg c2, if_pos c1, if_pos cb])
        · rw [if_neg cb]
          exact fin 0 (by decide) (by unfold moI; rw [if_neg c2, if_pos c1, if_neg cb])
      · rw [if_neg (by rw [e1]; exact c1)]
        exact fin 0 (by decide) (by unfold moI; rw [if_neg c2, if_neg c1])
/-- what the model's hour writes -/
def PH (q k : Nat) : Bool := PS q k || (Nat.beq q 47 && (Nat.ble 10 k && Nat.blt k 14))
theorem PH57 (q k : Nat) (hq : 57 ≤ q) : PH q k = false := by
  unfold PH
  rw [PS57 q k hq, beq_n (show q ≠ 47 by omega)]
  rfl
theorem PH_PS (q k : Nat) (h : PH q k = false) : PS q k = false := (Bool.or_eq_false_iff.mp h).1
theorem PH_ne {q k : Nat} (h : PS q k = false) (h2 : ¬ (q = 47 ∧ 10 ≤ k ∧ k < 14)) : PH q k = false := by
  unfold PH
  rw [h, Bool.false_or]
  by_cases c : q = 47
  · by_cases c1 : 10 ≤ k
    · have : Nat.blt k 14 = false := by
        cases e : Nat.blt k 14 with
        | false => rfl
        | true => exact absurd ⟨c, c1, Nat.blt_eq.mp e⟩ h2
      rw [this, Bool.and_false, Bool.and_false]
    · have : Nat.ble 10 k = false := by
        cases e : Nat.ble 10 k with
        | false => rfl
        | true => exact absurd (Nat.le_of_ble_eq_true e) c1
      rw [this, Bool.false_and, Bool.and_false]
  · rw [beq_n c, Bool.false_and]
theorem PS_of {q : Nat} (hq : nsc q = true) (k : Nat) : PS q k = false := by
  unfold nsc at hq
  unfold PS Pl Pg
  generalize Nat.beq q 45 = a1 at hq ⊢
  generalize Nat.beq q 46 = a2 at hq ⊢
  generalize Nat.beq q 49 = a3 at hq ⊢
  generalize Nat.beq q 50 = a4 at hq ⊢
  generalize Nat.beq q 53 = a5 at hq ⊢
  generalize Nat.beq q 54 = a6 at hq ⊢
  generalize Nat.beq q 55 = a7 at hq ⊢
  cases a1 <;> cases a2 <;> cases a3 <;> cases a4 <;> cases a5 <;> cases a6 <;> cases a7 <;> first | rfl | cases hq
theorem Fr.kph {ν μ : MM} (f : Fr PH QS ν μ) : Kp ν μ := by
  refine ⟨f.gr PH57, f.fsh, fun q hq => funext fun k => f.rI q k (PH_ne (PS_of (kpq_nsc hq) k) ?_), ⟨f.rI 46 3 rfl, f.rI 46 21 rfl⟩, by rw [f.rR], fun k => ⟨by rw [f.rR], by rw [f.rR]⟩, fun h g => g.gr (f.gr PH57) h (fun k _ => by rw [f.rR]) (fun k _ => by rw [f.rR]), fun g i hi => by rw [f.rI 30 i (PH_ne (PS_of rfl i) (by omega))]; exact g i hi⟩
  rintro ⟨rfl, -⟩
  exact absurd hq (by decide)
theorem PH_w {t : Nat} (h : t < 4) : PH 47 (10 + t) = true := by
  have q : ∀ t, t < 4 → PH 47 (10 + t) = true := by decide
  exact q t h
theorem l_148 (d : Nat) {T st H : Nat} {cs : List Cl} (hT4 : T ≤ 4) (hc : okCs cs) (hH2 : H ≤ 1000) (v1 : Int32) : ∀ (r t : Nat) (ν : MM), t + r = T → MCo ν 47 cs → b01 (gI ν 50 0) = true → gI ν 47 0 = Int32.ofNat T → gI ν 47 7 = Int32.ofNat H → (∀ i, t ≤ i → i < T → gI ν 47 (10 + i) = Int32.ofNat (stD st i)) → ∃ ν', ev (d + 3) 148 6 [.ref 46, .int v1, .int (Int32.ofNat t)] [] (fx ν) = ev (d + 3) 148 14 [.ref 46] [] (fx ν') ∧ Fr PH QS ν ν' ∧ b01 (gI ν' 50 0) = true ∧ (∀ i, t ≤ i → i < T → gI ν' 47 (10 + i) = Int32.ofNat (hrN cs st H v1 i)) ∧ ∀ i, i < t → gI ν' 47 (10 + i) = gI ν 47 (10 + i)
  | 0, t, ν, h, hM, hb, hT, hH, hi => ⟨ν, by rw [e_148_6, hT, if_pos (by rw [O_le (by omega) (by omega)]; omega)], Fr.rf, hb, fun i h1 h2 => absurd h2 (by omega), fun _ _ => rfl⟩
  | r + 1, t, ν, h, hM, hb, hT, hH, hi => by
    obtain ⟨a1, a2⟩ := tu_n hc t (stD st t) H
    obtain ⟨c1, c2⟩ := df_n hc t (stD st t) H
    have hd := stD_lt st t
    obtain ⟨ν1, e1, f1, g12, g13, -, b1⟩ := s_135 d (ν := ν) (Int32.ofNat t) (Int32.ofNat (stD st t)) (Int32.ofNat H) 9 hM hc.2.2 hb
    rw [O_rem12 (by omega)] at g12 g13
    have g12 : gI ν1 46 12 = Int32.ofNat (tuN cs t (stD st t) H) := g12.trans a1
    have g13 : gI ν1 46 13 = Int32.ofNat (dfN cs t (stD st t) H) := g13.trans c1
    have r1 := f1.rowl (q := 47) rfl rfl rfl
    have fA : Fr PH QS ν (sI ν1 47 (10 + t) (Int32.ofNat (hrN cs st H v1 t))) := (f1.s.mono PH_PS (fun _ h => h)).tr (Fr.wI _ (PH_w (by omega)))
    have rr : ∀ k, k ≠ 10 + t → gI (sI ν1 47 (10 + t) (Int32.ofNat (hrN cs st H v1 t))) 47 k = gI ν 47 k := by
      intro k hk
      rw [gI_sI, if_neg (fun h => hk h.2), r1]
    obtain ⟨ν', e, f, b, k1, k2⟩ := l_148 d hT4 hc hH2 v1 r (t + 1) (sI ν1 47 (10 + t) (Int32.ofNat (hrN cs st H v1 t))) (by omega) (hM.of2 (rr 6 (by omega)) (fun k hk _ => rr k (by omega))) b1 (by rw [rr 0 (by omega)]; exact hT) (by rw [rr 7 (by omega)]; exact hH) (fun i h1 h2 => by rw [rr _ (by omega)]; exact hi i (by omega) h2)
    have e2 : (Int32.ofNat (dfN cs t (stD st t) H) = 2) = (dfN cs t (stD st t) H = 2) := O_eq (b := 2) (by omega) (by decide)
    have e1' : (Int32.ofNat (dfN cs t (stD st t) H) = 1) = (dfN cs t (stD st t) H = 1) := O_eq (b := 1) (by omega) (by decide)
    refine ⟨ν', ?_, fA.tr f, b, fun i h1 h2 => ?_, fun i h1 => ?_⟩
    · have fin : ∀ mo : Nat, moI (dfN cs t (stD st t) H) v1 t = mo → ev (d + 3) 148 13 [.ref 46, .int v1, .int (Int32.ofNat t)] [.int (Int32.ofNat mo)] (fx ν1) = ev (d + 3) 148 14 [.ref 46] [] (fx ν') := by
        intro mo hme
        have hmo := moI_le (dfN cs t (stD st t) H) v1 t
        have r10 : gI ν1 47 (10 + t) = Int32.ofNat (stD st t) := by rw [r1]; exact hi t (Nat.le_refl _) (by omega)
        rw [e_148_13, ten_num t (by omega), inb_O (by omega) (by omega), gd_t, gd_t, tn_O (by omega), r10, g12, O_add, O_add, O_rem4 (by omega), O_succ]
        have : (stD st t + tuN cs t (stD st t) H + mo) % 4 = hrN cs st H v1 t := by unfold hrN; rw [hme]
        rw [this]
        exact e
      rw [e_148_6, hT, if_neg (by rw [O_le (by omega) (by omega)]; omega), e_148_7, ten_num t (by omega), inb_O (by omega) (by omega), gd_t, tn_O (by omega), hi t (Nat.le_refl _) (by omega), hH, e1, bnd_0, app0]
      refine (e_148_8 ..).trans ?_
      rw [g13, e_148_11, e_148_9, g13, e_148_10, e_148_11, e_148_12]
      by_cases x2 : dfN cs t (stD st t) H = 2
      · rw [if_pos (by rw [e2]; exact x2)]
        exact fin 1 (by unfold moI; rw [if_pos x2])
      · rw [if_neg (by rw [e2]; exact x2)]
        by_cases x1 : dfN cs t (stD st t) H = 1
        · rw [if_pos (by rw [e1']; exact x1)]
          by_cases cb : v1 >>> (Int32.ofNat t &&& 31) &&& 1 = 1
          · rw [if_pos cb]
            exact fin 1 (by unfold moI; rw [if_neg x2, if_pos x1, if_pos cb])
          · rw [if_neg cb]
            exact fin 0 (by unfold moI; rw [if_neg x2, if_pos x1, if_neg cb])
        · rw [if_neg (by rw [e1']; exact x1)]
          exact fin 0 (by unfold moI; rw [if_neg x2, if_neg x1])
    · by_cases ct : i = t
      · rw [ct, k2 t (by omega), gI_sI, if_pos ⟨rfl, rfl⟩]
      · exact k1 i (by omega) h2
    · rw [k2 i (by omega), rr _ (by omega)]
theorem i_hour (d : Nat) {ν : MM} (hI : Inv ν) (v1 : Int32) : CI (fun μ => ev (d + 3) 74 0 [.ref 28, .int v1] [] (fx μ)) (fun μ => ev (d + 3) 148 0 [.ref 46, .int v1] [] (fx μ)) ν := by
  have hI' := hI
  obtain ⟨⟨A, T, st, H, n, m, C, S, W, ht, hs, cs, hP⟩, -⟩ := hI'
  have hQ := hP.qx hI.b
  obtain ⟨p1, p2, p3, p4, p5, p6⟩ := hP
  have p1' := p1
  obtain ⟨⟨a1, a2, a3⟩, ⟨a4, a5, a6⟩, ⟨a7, a8, a9⟩, b4, b5, b6⟩ := p1'
  have cl0 : ev (d + 3) 74 0 [.ref 28, .int v1] [] (fx ν) = if rg 0 15 v1 = true then ev (d + 3) 74 3 [.ref 28, .int v1] [] (fx ν) else some (some (.int (-2)), fx ν) := by
    rw [e_74_0, e_74_1, e_74_2]
    unfold rg
    by_cases x1 : v1 < 0
    · rw [if_pos x1, decide_eq_true x1]; rfl
    · rw [if_neg x1, decide_eq_false x1]
      by_cases x2 : v1 ≤ 15
      · rw [if_pos x2, decide_eq_false (Int32.not_lt.mpr x2)]; rfl
      · rw [if_neg x2, decide_eq_true (Int32.not_le.mp x2)]; rfl
  have md0 : ∀ μ : MM, ev (d + 3) 148 0 [.ref 46, .int v1] [] (fx μ) = if rg 0 15 v1 = true then ev (d + 3) 148 3 [.ref 46, .int v1] [] (fx μ) else some (some (.int (-2)), fx μ) := by
    intro μ
    rw [e_148_0, s_113r, bnd_1, app1]
    refine (e_148_1 ..).trans ?_
    rw [bI_0, e_148_2]
  by_cases c : rg 0 15 v1 = true
  case neg =>
    have md1 := md0 ν
    rw [if_neg c] at cl0 md1
    exact QI.c hI ⟨_, ν, ν, cl0, md1, Fr.rf, Fr.rf, hI.b⟩
  rw [if_pos c] at cl0
  have lt : (Int32.ofNat H < 999) = (H < 999) := O_lt (b := 999) (by omega) (by decide)
  have eq : (Int32.ofNat H = 999) = (H = 999) := O_eq (b := 999) (by omega) (by decide)
  by_cases hH : H < 999
  case neg =>
    refine QI.c hI ⟨-3, ν, ν, cl0.trans ?_, (md0 ν).trans ?_, Fr.rf, Fr.rf, hI.b⟩
    · rw [e_74_3, a7, if_neg (by rw [lt]; exact hH), e_74_4]
    · rw [if_pos c, e_148_3, a8, if_pos (by rw [eq]; omega), e_148_4]
  obtain ⟨q1, q2⟩ := hrR_ok cs st H v1 T a3
  have hc := hQ.2.1.2.1
  have kA : Kp ν (sI (sI ν 29 9 (Int32.ofNat (hrR cs st H v1 T))) 29 10 (Int32.ofNat (H + 1))) := ((Kp.wI _ (by decide) rfl (by omega)).tr (Kp.wI _ (by decide) rfl (by omega)))
  have row1 : ∀ k, gI (sI (sI ν 29 9 (Int32.ofNat (hrR cs st H v1 T))) 29 10 (Int32.ofNat (H + 1))) 47 k = gI ν 47 k := by
    intro k
    rw [gI_sI, if_neg (by omega), gI_sI, if_neg (by omega)]
  have e74 := l_74 d hQ.1 v1 T 0 (by omega)
  obtain ⟨ν', e, f, b, k1, -⟩ := l_148 d (st := st) a3 hc (show H ≤ 1000 by omega) v1 T 0 (sI (sI ν 29 9 (Int32.ofNat (hrR cs st H v1 T))) 29 10 (Int32.ofNat (H + 1))) (by omega) (hQ.2.1.1.of2 (row1 6) (fun k _ _ => row1 k)) hI.b (by rw [row1]; exact a2) (by rw [row1]; exact a8) (fun i _ hi => by rw [row1]; exact a6 i hi)
  have kB : Kp (sI (sI ν 29 9 (Int32.ofNat (hrR cs st H v1 T))) 29 10 (Int32.ofNat (H + 1))) (sI ν' 47 7 (Int32.ofNat (H + 1))) := f.kph.tr (Kp.wI _ (by decide) rfl (by omega))
  have gr := (kA.tr kB).1
  have f7 : gI ν' 47 7 = Int32.ofNat H := by
    rw [f.rI 47 7 rfl, row1]
    exact a8
  refine Kp.ci (x := Int32.ofNat (H + 1)) hI (cl0.trans ?_) ((md0 _).trans ?_) kA kB b ?_ (by show msz ν' ≤ _; rw [f.2.2.1]; exact Nat.le_add_right _ _) (by show msl ν' ≤ _; rw [f.2.2.2.1]; exact Nat.le_add_right _ _)
  · rw [e_74_3, a7, if_pos (by rw [lt]; exact hH), e_74_5]
    refine Eq.trans e74 ?_
    have e1 : gI (sI ν 29 9 (Int32.ofNat (hrR cs st H v1 T))) 29 10 + 1 = Int32.ofNat (H + 1) := by rw [gI_sI, if_neg (by omega), a7, O_succ]
    rw [e_74_21, e1, gI_sI, if_pos ⟨rfl, rfl⟩]
  · have r7 := row1 7
    rw [a8] at r7
    rw [if_pos c, e_148_3, r7, if_neg (by rw [eq]; omega), e_148_5]
    refine Eq.trans e ?_
    rw [e_148_14, f7, O_succ, gI_sI, if_pos ⟨rfl, rfl⟩]
  · have ne0 : ∀ a k, ¬ (a = 29 ∧ k = 9) → ¬ (a = 29 ∧ k = 10) → ¬ (a = 47 ∧ 10 ≤ k ∧ k < 14) → ¬ (a = 47 ∧ k = 7) → ¬ ¬ (a = 29 ∨ a = 30 ∨ a = 47) → gI (sI ν' 47 7 (Int32.ofNat (H + 1))) a k = gI ν a k := by
      intro a k h0 h1 h2 h3 h4
      have h4 := Classical.not_not.mp h4
      have hps : PS a k = false := by
        rcases h4 with rfl | rfl | rfl
        · exact PS_of rfl k
        · exact PS_of rfl k
        · exact PS_of rfl k
      rw [gI_sI, if_neg h3, f.rI a k (PH_ne hps h2), gI_sI, if_neg h1, gI_sI, if_neg h0]
    have ne := ne0
    have rR : ∀ q k, gR (sI ν' 47 7 (Int32.ofNat (H + 1))) q k = gR ν q k := fun q k => by
      show gR ν' q k = gR ν q k
      rw [f.rR]
      rfl
    refine ⟨A, T, hrR cs st H v1 T, H + 1, n, m, C, S, W, ht, hs, cs, ⟨⟨?_, ?_, a3⟩, ⟨?_, q1, fun t ht => ?_⟩, ⟨?_, ?_, by omega⟩, ?_, ?_, b6⟩, p2.g2 (ne _ _ (by omega) (by omega) (by omega) (by omega) (by omega)) (fun i h1 => ne _ _ (by omega) (by omega) (by omega) (by omega) (by omega)) (ne _ _ (by omega) (by omega) (by omega) (by omega) (by omega)) (fun k h1 h2 => ne _ _ (by omega) (by omega) (by omega) (by omega) (by omega)), p3.g2 (ne _ _ (by omega) (by omega) (by omega) (by omega) (by omega)) (ne _ _ (by omega) (by omega) (by omega) (by omega) (by omega)) (ne _ _ (by omega) (by omega) (by omega) (by omega) (by omega)) (fun k h1 h2 => ne _ _ (by omega) (by omega) (by omega) (by omega) (by omega)), p4.g2 gr hI.f (ne _ _ (by omega) (by omega) (by omega) (by omega) (by omega)) (rR 29 2) (ne _ _ (by omega) (by omega) (by omega) (by omega) (by omega)) (ne _ _ (by omega) (by omega) (by omega) (by omega) (by omega)) (fun k h1 h2 => ne _ _ (by omega) (by omega) (by omega) (by omega) (by omega)), p5.g2 gr hI.f (ne _ _ (by omega) (by omega) (by omega) (by omega) (by omega)) (fun _ _ => rR _ _) (ne _ _ (by omega) (by omega) (by omega) (by omega) (by omega)) (fun k h1 h2 => ne _ _ (by omega) (by omega) (by omega) (by omega) (by omega)), p6.g2 gr hI.f (ne _ _ (by omega) (by omega) (by omega) (by omega) (by omega)) (fun _ _ => rR _ _) (ne _ _ (by omega) (by omega) (by omega) (by omega) (by omega)) (fun k h1 h2 => ne _ _ (by omega) (by omega) (by omega) (by omega) (by omega))⟩
    · rw [ne _ _ (by omega) (by omega) (by omega) (by omega) (by omega)]
      exact a1
    · rw [ne _ _ (by omega) (by omega) (by omega) (by omega) (by omega)]
      exact a2
    · rw [gI_sI, if_neg (by omega), f.rI 29 9 rfl, gI_sI, if_neg (by omega), gI_sI, if_pos ⟨rfl, rfl⟩]
    · rw [gI_sI, if_neg (by omega), k1 t (Nat.zero_le _) ht, q2 t ht]
    · rw [gI_sI, if_neg (by omega), f.rI 29 10 rfl, gI_sI, if_pos ⟨rfl, rfl⟩]
    · rw [gI_sI, if_pos ⟨rfl, rfl⟩]
    · rw [ne _ _ (by omega) (by omega) (by omega) (by omega) (by omega), ne _ _ (by omega) (by omega) (by omega) (by omega) (by omega)]
      exact b4
    · rw [ne _ _ (by omega) (by omega) (by omega) (by omega) (by omega), ne _ _ (by omega) (by omega) (by omega) (by omega) (by omega)]
      exact b5
