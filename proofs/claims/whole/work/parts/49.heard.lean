/-! the model: how often a SAYING is so when it is HEARD -/
theorem prw_congr {w w' : Nat → Nat → Nat} {r : Nat} : ∀ {T : Nat}, (∀ t, t < T → w t (stD r t) = w' t (stD r t)) → prw w T r = prw w' T r
  | 0, _ => rfl
  | T + 1, h => by
    show prw w T r * w T (stD r T) = prw w' T r * w' T (stD r T)
    rw [prw_congr (fun t ht => h t (by omega)), h T (by omega)]
theorem l_153 (d : Nat) {ν : MM} {T : Nat} (hT : gI ν 47 0 = Int32.ofNat T) (hT4 : T ≤ 4) {w : Nat → Nat → Nat} (hw : WM ν w) {r : Nat} (hr : r < 256) : ∀ (k t : Nat), t + k = T → ev (d + 1) 153 1 [.ref 46, .int (Int32.ofNat r), .long (Int64.ofNat (prw w t r)), .int (Int32.ofNat t)] [] (fx ν) = some (some (.long (Int64.ofNat (prw w T r))), fx ν)
  | 0, t, h => by
    rw [e_153_1, hT, if_pos (by rw [O_le (by omega) (by omega)]; omega), e_153_4, show t = T by omega]
  | k + 1, t, h => by
    have h4 : t < 4 := by omega
    have hd := stD_lt r t
    rw [e_153_1, hT, if_neg (by rw [O_le (by omega) (by omega)]; omega), e_153_2, s_136, bnd_1, app1, stI_n r hr t h4]
    refine (e_153_3 ..).trans ?_
    rw [ix_num t h4 _ hd, inb_O (by omega) (by omega), gd_t, tn_O (by omega), hw t h4 _ hd, L_mul, O_succ]
    exact l_153 d hT hT4 hw hr k (t + 1) (by omega)
theorem s_153 (d : Nat) {ν : MM} {T : Nat} (hT : gI ν 47 0 = Int32.ofNat T) (hT4 : T ≤ 4) {w : Nat → Nat → Nat} (hw : WM ν w) {r : Nat} (hr : r < 256) : ev (d + 1) 153 0 [.ref 46, .int (Int32.ofNat r)] [] (fx ν) = some (some (.long (Int64.ofNat (prw w T r))), fx ν) := by
  rw [e_153_0]
  exact l_153 d hT hT4 hw hr T 0 (by omega)
theorem WM.fr {ν ν' : MM} (f : Fr Pl Q0 ν ν') {w : Nat → Nat → Nat} (h : WM ν w) : WM ν' w := fun t ht k hk => by rw [f.rL _ _ rfl]; exact h t ht k hk
/-- a SAYING in the model's row -/
def MY (ν : MM) (k : Nat) (ts : List Int32) : Prop := k < 5 ∧ MSy ν 47 k ts ∧ okTs 5 ts
theorem MY.of {ν ν' : MM} {k : Nat} {ts : List Int32} (h : gI ν' 47 = gI ν 47) (g : MY ν k ts) : MY ν' k ts := ⟨g.1, MSy.of h g.2.1, g.2.2⟩
theorem say_m (d : Nat) {ν : MM} {T H k : Nat} {cs : List Cl} {ts : List Int32} (hM : MO ν T H cs) (hY : MY ν k ts) (row : Int32) {h : Nat} (hh : h ≤ 100000) : ∃ ν', ev (d + 2) 137 0 [.ref 46, .int (Int32.ofNat k), .int row, .int (Int32.ofNat h)] [] (fx ν) = some (some (.int (bI (sayT ts T h row))), fx ν') ∧ Fr Pl Q0 ν ν' ∧ MO ν' T H cs ∧ MY ν' k ts := by
  have hM' := hM
  obtain ⟨-, -, hb, -, -, hT, hT4⟩ := hM'
  obtain ⟨ν1, e1, f1, b1⟩ := s_137 d hT hT4 hY.1 hY.2.1 hY.2.2 hb row hh
  have r := f1.rowl (q := 47) rfl rfl rfl
  exact ⟨ν1, e1, f1, hM.of r b1, hY.of r⟩
theorem prw_le {cs : List Cl} (hc : okCs cs) (st H : Nat) {N : Nat} (hN : N ≤ 12) (r : Nat) : ∀ T, T ≤ 4 → prw (owt cs st H N) T r ≤ 4096 ^ T
  | 0, _ => Nat.le_refl _
  | T + 1, h => by
    have h1 := prw_le hc st H hN r T (by omega)
    have h2 := w_le (owt cs st H N T) (stD_lt r T)
    have h3 : smw (owt cs st H N T) = 2 ^ N := by unfold owt; rw [smw_oft hc, smw_w01 _ (stD_lt st T), Nat.mul_one]
    have h4 : 2 ^ N ≤ 2 ^ 12 := Nat.pow_le_pow_right (by decide) hN
    show prw (owt cs st H N) T r * owt cs st H N T (stD r T) ≤ 4096 ^ T * 4096
    exact Nat.mul_le_mul h1 (by omega)
theorem p4096 {T : Nat} (h : T ≤ 4) : 4096 ^ T ≤ 2 ^ 48 := by
  have : ∀ T, T ≤ 4 → 4096 ^ T ≤ 2 ^ 48 := by decide
  exact this T h
theorem l_157 (d : Nat) {T st H N k : Nat} {cs : List Cl} {ts : List Int32} (hN : N ≤ 12) {w : Nat → Nat → Nat} (hww : ∀ t, t < T → w t = owt cs st H N t) : ∀ (m r : Nat) (ν : MM), r + m = 4 ^ T → MO ν T H cs → MY ν k ts → WM ν w → ∃ ν', ev (d + 3) 157 1 [.ref 46, .int (Int32.ofNat k), .int (Int32.ofNat N), .long (Int64.ofNat (sso r (fun r => sayT ts T (H + N) (Int32.ofNat r)) (prw (owt cs st H N) T))), .int (Int32.ofNat r)] [] (fx ν) = some (some (.long (Int64.ofNat (Mso cs T st H N fun r => sayT ts T (H + N) (Int32.ofNat r)))), fx ν') ∧ Fr PS QS ν ν' ∧ b01 (gI ν' 50 0) = true
  | 0, r, ν, hr, hM, hY, hw => by
    have hM' := hM
    obtain ⟨-, -, hb, -, -, hT, hT4⟩ := hM'
    have h256 := p4_le hT4
    refine ⟨ν, ?_, Fr.rf, hb⟩
    rw [e_157_1, s_154 _ hT hT4, bnd_1, app1]
    refine (e_157_2 ..).trans ?_
    rw [if_pos (by rw [O_le (by omega) (by omega)]; omega), e_157_10, show r = 4 ^ T by omega]
    rfl
  | m + 1, r, ν, hr, hM, hY, hw => by
    have hM' := hM
    obtain ⟨-, hc, hb, hH, hH2, hT, hT4⟩ := hM'
    have h256 := p4_le hT4
    have hp : prw w T r = prw (owt cs st H N) T r := prw_congr fun t ht => by rw [hww t ht]
    have hle := Nat.le_trans (prw_le hc st H hN r T hT4) (p4096 hT4)
    have start : ev (d + 3) 157 1 [.ref 46, .int (Int32.ofNat k), .int (Int32.ofNat N), .long (Int64.ofNat (sso r (fun r => sayT ts T (H + N) (Int32.ofNat r)) (prw (owt cs st H N) T))), .int (Int32.ofNat r)] [] (fx ν) = if lg_cmp (Int64.ofNat (prw (owt cs st H N) T r)) 0 ≤ 0 then ev (d + 3) 157 8 [.ref 46, .int (Int32.ofNat k), .int (Int32.ofNat N), .int (Int32.ofNat r)] [.long (Int64.ofNat (sso r (fun r => sayT ts T (H + N) (Int32.ofNat r)) (prw (owt cs st H N) T)))] (fx ν) else ev (d + 3) 157 5 [.ref 46, .int (Int32.ofNat k), .int (Int32.ofNat N), .int (Int32.ofNat r), .long (Int64.ofNat (prw (owt cs st H N) T r))] [.long (Int64.ofNat (sso r (fun r => sayT ts T (H + N) (Int32.ofNat r)) (prw (owt cs st H N) T)))] (fx ν) := by
      rw [e_157_1, s_154 _ hT hT4, bnd_1, app1]
      refine (e_157_2 ..).trans ?_
      rw [if_neg (by rw [O_le (by omega) (by omega)]; omega), e_157_3, s_153 _ hT hT4 hw (by omega), bnd_2, app1, hp]
      exact e_157_4 ..
    rw [start]
    by_cases c0 : prw (owt cs st H N) T r = 0
    · obtain ⟨ν', e, f, b⟩ := l_157 d hN hww m (r + 1) ν (by omega) hM hY hw
      refine ⟨ν', ?_, f, b⟩
      rw [if_pos (by rw [lg_cmp_le, c0]; exact Int64.le_refl _), e_157_8, e_157_9, O_succ]
      rw [sso_succ, c0, show (if sayT ts T (H + N) (Int32.ofNat r) = true then (0 : Nat) else 0) = 0 by split <;> rfl] at e
      rw [show (0 : Int64) = Int64.ofNat 0 from rfl, L_add]
      exact e
    · obtain ⟨ν1, e1, f1, hM1, hY1⟩ := say_m d hM hY (Int32.ofNat r) (h := H + N) (by omega)
      obtain ⟨ν', e, f, b⟩ := l_157 d hN hww m (r + 1) ν1 (by omega) hM1 hY1 (hw.fr f1)
      refine ⟨ν', ?_, f1.s.tr f, b⟩
      rw [if_neg (by
        rw [lg_cmp_le, show (0 : Int64) = Int64.ofNat 0 from rfl]
        intro e
        have : (Int64.ofNat (prw (owt cs st H N) T r) ≤ Int64.ofNat 0) = (prw (owt cs st H N) T r ≤ 0) := L_le (by omega) (by omega)
        have := this.mp e
        omega), e_157_5, hH, O_add, e1, bnd_1, app1]
      refine (e_157_6 ..).trans ?_
      rw [bI_0]
      rw [sso_succ] at e
      by_cases c1 : sayT ts T (H + N) (Int32.ofNat r) = true
      · rw [if_pos c1, e_157_7, e_157_9, O_succ, L_add]
        rw [if_pos c1] at e
        exact e
      · rw [if_neg c1, e_157_8, e_157_9, O_succ, show (0 : Int64) = Int64.ofNat 0 from rfl, L_add]
        rw [if_neg c1] at e
        exact e
/-- the model's STATES -/
def MST (ν : MM) (T st : Nat) : Prop := st < 4 ^ T ∧ ∀ t, t < T → gI ν 47 (10 + t) = Int32.ofNat (stD st t)
/-- beginsAll(statesNow()), goesAll(hours) -/
def WH (cs : List Cl) (T st H N : Nat) : Nat → Nat → Nat := fun t k => if t < T then oft cs t H (w01 (stD st t)) N k else w01 (stD st t) k
theorem WH_o (cs : List Cl) {T : Nat} (st H N : Nat) {t : Nat} (ht : t < T) : WH cs T st H N t = owt cs st H N t := by
  funext k
  exact if_pos ht
theorem s_158 (d : Nat) {T st H w k v hs co si y : Nat} {cs : List Cl} {ts : List Int32} {ν : MM} (hw5 : w < 5) (hM : MO ν T H cs) (hS : MST ν T st) (hY : MY ν y ts) (hR : MwV ν 47 w k v hs co si) (hk : k < 7) (hv : v ≤ 9) (h6 : hs ≤ 6) (hsi : si ≤ 6) : ∃ ν', ev (d + 5) 158 0 [.ref 46, .int (Int32.ofNat y), .int (Int32.ofNat w)] [] (fx ν) = some (some (.long (Int64.ofNat (Mso cs T st H (tkn k v hs si H) fun r => sayT ts T (H + tkn k v hs si H) (Int32.ofNat r)))), fx ν') ∧ Fr PS QS ν ν' ∧ b01 (gI ν' 50 0) = true := by
  have hM' := hM
  obtain ⟨-, hc, hb, hH, hH2, hT, hT4⟩ := hM'
  have hN := tkn_le (k := k) (v := v) H h6 hsi
  have h256 := p4_le hT4
  have tkE : ∀ (d : Nat) {μ : MM}, gI μ 47 = gI ν 47 → ev (d + 1) 143 0 [.ref 46, .int (Int32.ofNat w)] [] (fx μ) = some (some (.int (Int32.ofNat (tkn k v hs si H))), fx μ) := by
    intro d μ r
    refine s_143 d (co := co) hw5 ?_ hk hv h6 (by rw [r]; exact hH) hH2
    unfold MwV at hR ⊢
    rw [r]
    exact hR
  obtain ⟨ν1, e1, f1, g1, w1⟩ := s_149 (d + 3) (ν := ν) (st := st) (Nat.lt_of_lt_of_le hS.1 h256)
  have r1 := f1.rowS (q := 47) rfl
  have hM1 : MO ν1 T H cs := hM.of r1 (by rw [g1]; exact hb)
  obtain ⟨ν2, e2, f2, b2, w2⟩ := s_152 d (N := tkn k v hs si H) (by omega) hM1 _ w1
  have r2 := f2.rowS (q := 47) rfl
  have hM2 := hM1.of r2 b2
  obtain ⟨ν3, e3, f3, b3⟩ := l_157 (d + 1) (st := st) (k := y) (ts := ts) hN (w := WH cs T st H (tkn k v hs si H)) (fun t ht => WH_o cs st H _ ht) (4 ^ T) 0 ν2 (by omega) hM2 (hY.of (by rw [r2, r1])) w2
  refine ⟨ν3, ?_, f1.tr (f2.tr f3), b3⟩
  rw [e_158_0, s_150 _ hT hT4 hS.1 hS.2, bnd_1, app1]
  refine (e_158_1 ..).trans ?_
  rw [e1, bnd_0, app0]
  refine (e_158_2 ..).trans ?_
  rw [tkE _ r1, bnd_1, app1]
  refine (e_158_3 ..).trans ?_
  rw [e2, bnd_0, app0]
  refine (e_158_4 ..).trans ?_
  rw [tkE _ (by rw [r2, r1]), bnd_1, app1]
  refine (e_158_5 ..).trans ?_
  rw [e_157_0]
  refine Eq.trans (congrArg (fun z => bnd 2 z _) e3) ?_
  rw [bnd_2, app1]
  exact e_158_6 ..
