/-! ways by number; which -/
def NJ (f : Nat → Int32) (H j : Nat) : Nat := tkn (f (14 + j)).toNatClampNeg (f (19 + j)).toNatClampNeg (f (24 + j)).toNatClampNeg (f (34 + j)).toNatClampNeg H
def CJ (f : Nat → Int32) (cs : List Cl) (H j : Nat) : Int32 := cst (f (14 + j)).toNatClampNeg (f (19 + j)).toNatClampNeg (f (29 + j)).toNatClampNeg cs H
theorem QW.num {ν : MM} {W : Nat} (g : QW ν W) {j : Nat} (hj : j < W) : ∃ (r k v h co si : Nat), j < 5 ∧ gR ν 33 j = some r ∧ RnV ν r k v h co si ∧ MwV ν 47 j k v h co si ∧ gI ν r 1 = Int32.ofNat j ∧ (∀ H, tkn k v h si H = NJ (gI ν 47) H j) ∧ ∀ cs H, cst k v co cs H = CJ (gI ν 47) cs H j := by
  obtain ⟨h1, h2, h3, h4⟩ := g
  obtain ⟨r, k, v, h, co, si, a1, a2, a3, a4⟩ := h4 j hj
  refine ⟨r, k, v, h, co, si, by omega, a1, a2, a3, a4, fun H => ?_, fun cs H => ?_⟩
  · obtain ⟨m1, m2, m3, m4, m5⟩ := a3
    obtain ⟨-, -, b1, b2, b3, b4, b5, -⟩ := a2
    unfold NJ
    rw [m1, m2, m3, m5, tn_O (by omega), tn_O (by omega), tn_O (by omega), tn_O (by omega)]
  · obtain ⟨m1, m2, m3, m4, m5⟩ := a3
    obtain ⟨-, -, b1, b2, b3, b4, b5, -⟩ := a2
    unfold CJ
    rw [m1, m2, m4, tn_O (by omega), tn_O (by omega), tn_O (by omega)]
theorem NJ_le {ν : MM} {W : Nat} (g : QW ν W) {j : Nat} (hj : j < W) (H : Nat) : NJ (gI ν 47) H j ≤ 12 := by
  obtain ⟨r, k, v, h, co, si, -, -, a2, -, -, e, -⟩ := g.num hj
  obtain ⟨-, -, b1, b2, b3, b4, b5, -⟩ := a2
  rw [← e]
  exact tkn_le H b3 b5
theorem tkQ (d : Nat) {ν : MM} {A T st H W S : Nat} {ht hs : Int32} {cs : List Cl} (hQ : QX ν A T st H W S ht hs cs) {j : Nat} (hj : j < W) : ev (d + 1) 143 0 [.ref 46, .int (Int32.ofNat j)] [] (fx ν) = some (some (.int (Int32.ofNat (NJ (gI ν 47) H j))), fx ν) := by
  obtain ⟨r, k, v, h, co, si, h5, -, a2, a3, -, e, -⟩ := hQ.2.2.2.2.1.num hj
  obtain ⟨-, -, b1, b2, b3, b4, b5, -⟩ := a2
  rw [← e]
  exact s_143 d h5 a3 b1 b2 b3 hQ.2.1.2.2.2.1 hQ.2.1.2.2.2.2.1
theorem costQ (d : Nat) {ν : MM} {A T st H W S : Nat} {ht hs : Int32} {cs : List Cl} (hQ : QX ν A T st H W S ht hs cs) {j : Nat} (hj : j < W) : ∃ ν', ev (d + 3) 144 0 [.ref 46, .int (Int32.ofNat j)] [] (fx ν) = some (some (.int (CJ (gI ν 47) cs H j)), fx ν') ∧ Fr PS QS ν ν' ∧ QX ν' A T st H W S ht hs cs ∧ gI ν' 47 = gI ν 47 := by
  obtain ⟨r, k, v, h, co, si, h5, -, a2, a3, -, -, e⟩ := hQ.2.2.2.2.1.num hj
  obtain ⟨-, -, b1, b2, b3, b4, b5, -⟩ := a2
  obtain ⟨c1, c2, c3, c4, c5, c6, c7⟩ := hQ.2.1
  obtain ⟨ν', e1, f1, g1⟩ := s_144 d h5 c1 c2.2.2 c3 c4 (by omega) b1 a3
  rw [e] at e1
  exact ⟨ν', e1, f1.s, hQ.fr f1.s g1, f1.s.rowS rfl⟩
def MJ (f : Nat → Int32) (cs : List Cl) (T st H : Nat) (ts : List Int32) (j : Nat) : Nat := Mso cs T st H (NJ f H j) fun r => sayT ts T (H + NJ f H j) (Int32.ofNat r)
theorem heardQ (d : Nat) {ν : MM} {A T st H W S : Nat} {ht hs : Int32} {cs : List Cl} (hQ : QX ν A T st H W S ht hs cs) {j y : Nat} {ts : List Int32} (hj : j < W) (hY : MY ν y ts) : ∃ ν', ev (d + 5) 158 0 [.ref 46, .int (Int32.ofNat y), .int (Int32.ofNat j)] [] (fx ν) = some (some (.long (Int64.ofNat (MJ (gI ν 47) cs T st H ts j))), fx ν') ∧ Fr PS QS ν ν' ∧ QX ν' A T st H W S ht hs cs ∧ gI ν' 47 = gI ν 47 := by
  obtain ⟨r, k, v, h, co, si, h5, -, a2, a3, -, e, -⟩ := hQ.2.2.2.2.1.num hj
  obtain ⟨-, -, b1, b2, b3, b4, b5, -⟩ := a2
  obtain ⟨ν', e1, f1, g1⟩ := s_158 d h5 hQ.2.1 hQ.2.2.1 hY a3 b1 b2 b3 b5
  rw [e] at e1
  exact ⟨ν', e1, f1, hQ.fr f1 g1, f1.rowS rfl⟩
/-- the class's parts of a way -/
def PJ (f : Nat → Int32) (cs : List Cl) (T st H : Nat) (ts : List Int32) (j : Nat) : Nat := MJ f cs T st H ts j * 2 ^ (48 - NJ f H j * T)
theorem partQ (d : Nat) {ν : MM} {A T st H W S : Nat} {ht hs : Int32} {cs : List Cl} (hQ : QX ν A T st H W S ht hs cs) {j c : Nat} {ts : List Int32} (hj : j < W) (hC : ClA ν c (3, 0, ts)) (hts : okTs 5 ts) : ∃ (r : Nat) (ν1 : MM), gR ν 33 j = some r ∧ ev (d + 4) 87 0 [.ref 28, .ref c, .ref r, .int 0] [] (fx ν) = some (some (.long (Int64.ofNat (PJ (gI ν 47) cs T st H ts j))), fx ν1) ∧ Fr PS QS ν ν1 ∧ gI ν1 = gI ν ∧ ∀ n, ev (n + 3) 56 0 [.ref 29, .ref r] [] (fx ν1) = some (some (.int (CJ (gI ν 47) cs H j)), fx ν1) := by
  obtain ⟨r, k, v, h, co, si, h5, a1, a2, a3, -, e, e2⟩ := hQ.2.2.2.2.1.num hj
  obtain ⟨ν1, e1, f1, g1⟩ := c87 d hQ hC hts a2
  rw [e] at e1
  obtain ⟨hA, hCo, hcs, -, -, -, -, hHc, hH2, -⟩ := hQ.1.fr f1
  refine ⟨r, ν1, a1, e1, f1, g1, fun n => ?_⟩
  have ecost := s_56 n hA hCo hcs.2.2 hHc (by omega) (a2.fr f1)
  rw [e2] at ecost
  exact ecost
theorem s156Q (d : Nat) {ν : MM} {A T st H W S : Nat} {ht hs : Int32} {cs : List Cl} (hQ : QX ν A T st H W S ht hs cs) {N : Nat} (hN : N ≤ 12) : ev (d + 1) 156 0 [.ref 46, .int (Int32.ofNat N)] [] (fx ν) = some (some (.long (Int64.ofNat (2 ^ (N * T)))), fx ν) :=
  s_156 d hQ.2.1.2.2.2.2.2.1 (Nat.le_trans (Nat.mul_le_mul hN hQ.2.1.2.2.2.2.2.2) (by decide))
def btr (P : Nat → Nat) (C : Nat → Int32) (a b : Nat) : Bool := decide (P b < P a) || (decide (P a = P b) && decide (C a < C b))
/-- the model's isBetter -/
theorem m163 (d : Nat) {ν : MM} {A T st H W S : Nat} {ht hs : Int32} {cs : List Cl} (hQ : QX ν A T st H W S ht hs cs) {a b y : Nat} {ts : List Int32} (ha : a < W) (hb : b < W) (hY : MY ν y ts) : ∃ ν', ev (d + 6) 163 0 [.ref 46, .int (Int32.ofNat y), .int (Int32.ofNat a), .int (Int32.ofNat b)] [] (fx ν) = some (some (.int (bI (btr (PJ (gI ν 47) cs T st H ts) (CJ (gI ν 47) cs H) a b))), fx ν') ∧ Fr PS QS ν ν' ∧ QX ν' A T st H W S ht hs cs ∧ gI ν' 47 = gI ν 47 := by
  have hNa := NJ_le hQ.2.2.2.2.1 ha H
  have hNb := NJ_le hQ.2.2.2.2.1 hb H
  have hT4 := hQ.2.1.2.2.2.2.2.2
  have hc := hQ.2.1.2.1
  obtain ⟨ν1, e1, f1, q1, r1⟩ := heardQ (d := d) hQ ha hY
  obtain ⟨ν2, e2, f2, q2, r2⟩ := heardQ (d := d) q1 hb (hY.of r1)
  obtain ⟨ν3, e3, f3, q3, r3⟩ := costQ (d := d + 2) q2 ha
  obtain ⟨ν4, e4, f4, q4, r4⟩ := costQ (d := d + 2) q3 hb
  have tb1 := tkQ (d + 4) q2 hb
  have ta1 := tkQ (d + 4) q1 ha
  have ta0 := tkQ (d + 4) hQ ha
  have tb0 := tkQ (d + 4) hQ hb
  rw [r1] at e2 ta1
  rw [r2, r1] at e3 tb1
  rw [r3, r2, r1] at e4
  have b163 : ∀ f : Nat → Int32, f = gI ν 47 → PJ f cs T st H ts a = MJ f cs T st H ts a * 2 ^ (48 - NJ f H a * T) ∧ PJ f cs T st H ts b = MJ f cs T st H ts b * 2 ^ (48 - NJ f H b * T) := fun f _ => ⟨rfl, rfl⟩
  obtain ⟨ba1, ba2, ba3, ba4, ba5, ba6⟩ := Mbound hc hT4 st H hNa (fun r => sayT ts T (H + NJ (gI ν 47) H a) (Int32.ofNat r))
  obtain ⟨bb1, bb2, bb3, bb4, bb5, bb6⟩ := Mbound hc hT4 st H hNb (fun r => sayT ts T (H + NJ (gI ν 47) H b) (Int32.ofNat r))
  have pa : PJ (gI ν 47) cs T st H ts a = MJ (gI ν 47) cs T st H ts a * 2 ^ (48 - NJ (gI ν 47) H a * T) := rfl
  have pb : PJ (gI ν 47) cs T st H ts b = MJ (gI ν 47) cs T st H ts b * 2 ^ (48 - NJ (gI ν 47) H b * T) := rfl
  have ba4 : MJ (gI ν 47) cs T st H ts a ≤ 2 ^ (NJ (gI ν 47) H a * T) := ba4
  have bb4 : MJ (gI ν 47) cs T st H ts b ≤ 2 ^ (NJ (gI ν 47) H b * T) := bb4
  -- the longer one
  have hh : ∃ h, h ≤ 12 ∧ NJ (gI ν 47) H a ≤ h ∧ NJ (gI ν 47) H b ≤ h ∧ ev (d + 6) 163 0 [.ref 46, .int (Int32.ofNat y), .int (Int32.ofNat a), .int (Int32.ofNat b)] [] (fx ν) = ev (d + 6) 163 6 [.ref 46, .int (Int32.ofNat y), .int (Int32.ofNat a), .int (Int32.ofNat b)] [.int (Int32.ofNat h)] (fx ν) := by
    have st : ev (d + 6) 163 0 [.ref 46, .int (Int32.ofNat y), .int (Int32.ofNat a), .int (Int32.ofNat b)] [] (fx ν) = if Int32.ofNat (NJ (gI ν 47) H a) ≤ Int32.ofNat (NJ (gI ν 47) H b) then ev (d + 6) 163 5 [.ref 46, .int (Int32.ofNat y), .int (Int32.ofNat a), .int (Int32.ofNat b)] [] (fx ν) else ev (d + 6) 163 3 [.ref 46, .int (Int32.ofNat y), .int (Int32.ofNat a), .int (Int32.ofNat b)] [] (fx ν) := by
      rw [e_163_0, ta0, bnd_1, app1]
      refine (e_163_1 ..).trans ?_
      rw [tb0, bnd_1, app1]
      exact e_163_2 ..
    rw [st]
    by_cases c : NJ (gI ν 47) H a ≤ NJ (gI ν 47) H b
    · refine ⟨_, hNb, c, Nat.le_refl _, ?_⟩
      rw [if_pos (by rw [O_le (by omega) (by omega)]; exact c), e_163_5, tb0, bnd_1, app1]
    · refine ⟨_, hNa, Nat.le_refl _, by omega, ?_⟩
      rw [if_neg (by rw [O_le (by omega) (by omega)]; exact c), e_163_3, ta0, bnd_1, app1]
      exact e_163_4 ..
  obtain ⟨h, hh12, hah, hbh, eh⟩ := hh
  have hhT : h * T ≤ 48 := Nat.le_trans (Nat.mul_le_mul hh12 hT4) (by decide)
  have haT : NJ (gI ν 47) H a * T ≤ h * T := Nat.mul_le_mul_right T hah
  have hbT : NJ (gI ν 47) H b * T ≤ h * T := Nat.mul_le_mul_right T hbh
  have h2h := p2_le hhT
  have p0 := s156Q (d + 4) q1 hh12
  have p1 := s156Q (d + 4) q1 hNa
  have p2 := s156Q (d + 4) q2 hh12
  have p3 := s156Q (d + 4) q2 hNb
  generalize NJ (gI ν 47) H a = Na at *
  generalize NJ (gI ν 47) H b = Nb at *
  generalize MJ (gI ν 47) cs T st H ts a = Ma at *
  generalize MJ (gI ν 47) cs T st H ts b = Mb at *
  have dv : ∀ {N M : Nat}, N * T ≤ h * T → M ≤ 2 ^ (N * T) → Int64.ofNat M * (Int64.ofNat (2 ^ (h * T)) / Int64.ofNat (2 ^ (N * T))) = Int64.ofNat (M * 2 ^ (h * T - N * T)) ∧ M * 2 ^ (h * T - N * T) ≤ 2 ^ (h * T) ∧ M * 2 ^ (48 - N * T) = M * 2 ^ (h * T - N * T) * 2 ^ (48 - h * T) := by
    intro N M hN hM
    have hl := p2_le (e := N * T) (by omega)
    have e : 2 ^ (h * T) / 2 ^ (N * T) = 2 ^ (h * T - N * T) := Nat.pow_div hN (by decide)
    refine ⟨by rw [← Int64.ofNat_div (by omega) (by omega), e, L_mul], ?_, ?_⟩
    · have := Nat.mul_le_mul_right (2 ^ (h * T - N * T)) hM
      rw [← Nat.pow_add, show N * T + (h * T - N * T) = h * T by omega] at this
      exact this
    · rw [Nat.mul_assoc, ← Nat.pow_add, show h * T - N * T + (48 - h * T) = 48 - N * T by omega]
  obtain ⟨da1, da2, da3⟩ := dv haT ba4
  obtain ⟨db1, db2, db3⟩ := dv hbT bb4
  rw [da3] at pa
  rw [db3] at pb
  have hE : 0 < 2 ^ (48 - h * T) := Nat.pow_pos (by decide)
  generalize Ma * 2 ^ (h * T - Na * T) = X at *
  generalize Mb * 2 ^ (h * T - Nb * T) = Y at *
  have ne0 : ∀ n, n ≤ 48 → (!decide (Int64.ofNat (2 ^ n) = 0)) = true := by
    intro n hn
    have hp : 0 < 2 ^ n := Nat.pow_pos (by decide)
    have hl := p2_le hn
    have : (Int64.ofNat (2 ^ n) = Int64.ofNat 0) = (2 ^ n = 0) := L_eq (by omega) (by omega)
    rw [decide_eq_false (by
      intro c
      have := this.mp c
      omega)]
    rfl
  have run : ev (d + 6) 163 6 [.ref 46, .int (Int32.ofNat y), .int (Int32.ofNat a), .int (Int32.ofNat b)] [.int (Int32.ofNat h)] (fx ν) = if 0 < lg_cmp (Int64.ofNat X) (Int64.ofNat Y) then ev (d + 6) 163 19 [] [] (fx ν2) else ev (d + 6) 163 15 [.ref 46, .int (Int32.ofNat a), .int (Int32.ofNat b), .long (Int64.ofNat X), .long (Int64.ofNat Y)] [] (fx ν2) := by
    refine (e_163_6 ..).trans ?_
    rw [e1, bnd_2, app1]
    refine (e_163_7 ..).trans ?_
    rw [p0, bnd_2, app1]
    refine (e_163_8 ..).trans ?_
    rw [ta1, bnd_1, app1]
    refine (e_163_9 ..).trans ?_
    rw [p1, bnd_2, app1]
    refine (e_163_10 ..).trans ?_
    rw [ne0 _ ba1, gd_t, e2, bnd_2, app1, da1]
    refine (e_163_11 ..).trans ?_
    rw [p2, bnd_2, app1]
    refine (e_163_12 ..).trans ?_
    rw [tb1, bnd_1, app1]
    refine (e_163_13 ..).trans ?_
    rw [p3, bnd_2, app1]
    refine (e_163_14 ..).trans ?_
    rw [ne0 _ bb1, gd_t, db1]
  rw [eh, run]
  have lt : (0 < lg_cmp (Int64.ofNat X) (Int64.ofNat Y)) = (Y < X) := by
    apply propext
    rw [lg_cmp_gt]
    exact Int64.ofNat_lt_iff_lt (by omega) (by omega)
  have lq : (lg_cmp (Int64.ofNat X) (Int64.ofNat Y) = 0) = (X = Y) := by
    rw [← L_eq (a := X) (b := Y) (by omega) (by omega)]
    exact propext (lg_cmp_eq ..)
  have plt : decide (PJ (gI ν 47) cs T st H ts b < PJ (gI ν 47) cs T st H ts a) = decide (Y < X) := by
    rw [pa, pb]
    exact decide_eq_decide.mpr (Nat.mul_lt_mul_right hE)
  have peq : decide (PJ (gI ν 47) cs T st H ts a = PJ (gI ν 47) cs T st H ts b) = decide (X = Y) := by
    rw [pa, pb]
    exact decide_eq_decide.mpr ⟨fun e => Nat.eq_of_mul_eq_mul_right hE e, fun e => by rw [e]⟩
  unfold btr
  rw [plt, peq]
  by_cases cl : Y < X
  · refine ⟨ν2, ?_, f1.tr f2, q2, by rw [r2, r1]⟩
    rw [if_pos (by rw [lt]; exact cl), decide_eq_true cl, e_163_19, e_163_21, b01_1, gd_t]
    rfl
  · rw [if_neg (by rw [lt]; exact cl), decide_eq_false cl, Bool.false_or]
    by_cases ce : X = Y
    · refine ⟨ν4, ?_, f1.tr (f2.tr (f3.tr f4)), q4, by rw [r4, r3, r2, r1]⟩
      rw [e_163_15, if_pos (by rw [lq]; exact ce), e_163_16, e3, bnd_1, app1]
      refine (e_163_17 ..).trans ?_
      rw [e4, bnd_1, app1]
      refine (e_163_18 ..).trans ?_
      rw [decide_eq_true ce, Bool.true_and, e_163_19, e_163_20, e_163_21, e_163_21, b01_1, b01_0, gd_t, gd_t, ite_01, not_le_d]
    · refine ⟨ν2, ?_, f1.tr f2, q2, by rw [r2, r1]⟩
      rw [e_163_15, if_neg (by rw [lq]; exact ce), decide_eq_false ce, e_163_20, e_163_21, b01_0, gd_t]
      rfl
