/-! scratch: what may be written while something is asked -/
def PS (q k : Nat) : Bool := Pl q k || (Nat.beq q 45 || (Nat.beq q 53 || (Nat.beq q 54 || Nat.beq q 55)))
def QS (q : Nat) : Bool := Nat.beq q 44 || (Nat.beq q 51 || Nat.beq q 52)
theorem Fr.s {ν ν' : MM} (h : Fr Pl Q0 ν ν') : Fr PS QS ν ν' := h.mono (fun _ _ e => (Bool.or_eq_false_iff.mp e).1) (fun _ _ => rfl)
/-- of what is no scratch -/
def nsc (q : Nat) : Bool := !(Nat.beq q 45 || (Nat.beq q 46 || (Nat.beq q 49 || (Nat.beq q 50 || (Nat.beq q 53 || (Nat.beq q 54 || Nat.beq q 55))))))
theorem Fr.rowS {ν ν' : MM} (h : Fr PS QS ν ν') {q : Nat} (hq : nsc q = true) : gI ν' q = gI ν q := by
  funext k
  refine h.rI q k ?_
  unfold nsc at hq
  unfold PS Pl Pg
  generalize Nat.beq q 45 = a1 at hq ⊢
  generalize Nat.beq q 46 = a2 at hq ⊢
  generalize Nat.beq q 49 = a3 at hq ⊢
  generalize Nat.beq q 50 = a4 at hq ⊢
  generalize Nat.beq q 53 = a5 at hq ⊢
  generalize Nat.beq q 54 = a6 at hq ⊢
  generalize Nat.beq q 55 = a7 at hq ⊢
  cases a1 <;> cases a2 <;> cases a3 <;> cases a4 <;> cases a5 <;> cases a6 <;> cases a7 <;> first | rfl | cases hq
/-- what the model asks of its row -/
def MO (ν : MM) (T H : Nat) (cs : List Cl) : Prop := MCo ν 47 cs ∧ okCs cs ∧ b01 (gI ν 50 0) = true ∧ gI ν 47 7 = Int32.ofNat H ∧ H ≤ 1000 ∧ gI ν 47 0 = Int32.ofNat T ∧ T ≤ 4
theorem MO.of {ν ν' : MM} {T H : Nat} {cs : List Cl} (h : gI ν' 47 = gI ν 47) (hb : b01 (gI ν' 50 0) = true) (g : MO ν T H cs) : MO ν' T H cs := by
  obtain ⟨a, b, -, c, e, f, k⟩ := g
  exact ⟨MCo.of h a, b, hb, by rw [h]; exact c, e, by rw [h]; exact f, k⟩
theorem ge4 : ∀ i, i < 4 → ¬ (4 : Int32) ≤ Int32.ofNat i := by decide
/-- the STATE of a THING in a row that is a number -/
def stD (st t : Nat) : Nat := st / 4 ^ t % 4
theorem stD_lt (st t : Nat) : stD st t < 4 := Nat.mod_lt _ (by decide)
theorem stI_n : ∀ st, st < 256 → ∀ t, t < 4 → stI (Int32.ofNat st) (Int32.ofNat t) = Int32.ofNat (stD st t) := by decide +kernel
theorem l_166 (d : Nat) {ν : MM} {st : Nat} (hs : st < 256) {i : Nat} (hi : i < 4) : ev (d + 1) 166 1 [.ref 46, .int (Int32.ofNat st), .int (Int32.ofNat i)] [] (fx ν) = ev (d + 1) 166 1 [.ref 46, .int (Int32.ofNat st), .int (Int32.ofNat (i + 1))] [] (fx (sI ν 53 i (one4 (stD st i)))) := by
  rw [e_166_1, if_neg (ge4 i hi), e_166_2, s_136, bnd_1, app1]
  refine (e_166_3 ..).trans ?_
  rw [inb_O hi (by omega), gd_t, tn_O (by omega), O_succ, stI_n st hs i hi, (sh_num _ (stD_lt st i)).1]
  rfl
theorem s_166 (d : Nat) {ν : MM} {st : Nat} (hs : st < 256) : ∃ ν', ev (d + 1) 166 0 [.ref 46, .int (Int32.ofNat st)] [] (fx ν) = some (none, fx ν') ∧ Fr PS QS ν ν' ∧ (gI ν' 50 = gI ν 50 ∧ gI ν' 54 = gI ν 54) ∧ ∀ t, t < 4 → gI ν' 53 t = one4 (stD st t) := by
  refine ⟨sI (sI (sI (sI ν 53 0 (one4 (stD st 0))) 53 1 (one4 (stD st 1))) 53 2 (one4 (stD st 2))) 53 3 (one4 (stD st 3)), ?_, (Fr.wI _ rfl).tr ((Fr.wI _ rfl).tr ((Fr.wI _ rfl).tr (Fr.wI _ rfl))), ⟨rfl, rfl⟩, ?_⟩
  · rw [e_166_0, show (0 : Int32) = Int32.ofNat 0 from rfl, l_166 d hs (by decide), l_166 d hs (by decide), l_166 d hs (by decide), l_166 d hs (by decide), e_166_1, if_pos (by decide), e_166_4]
  · intro t ht
    match t, ht with
    | 0, _ => rfl
    | 1, _ => rfl
    | 2, _ => rfl
    | 3, _ => rfl
/-- one HOUR of mayGo -/
theorem l_168i (d : Nat) {T H n : Nat} {cs : List Cl} (hn : n ≤ 1000) (v1 : Int32) : ∀ (r i : Nat) (ν : MM), i + r = T → MO ν T H cs → ∃ ν', ev (d + 4) 168 3 [.ref 46, .int v1, .int (Int32.ofNat n), .int (Int32.ofNat i)] [] (fx ν) = ev (d + 4) 168 3 [.ref 46, .int v1, .int (Int32.ofNat n), .int (Int32.ofNat T)] [] (fx ν') ∧ Fr PS QS ν ν' ∧ (b01 (gI ν' 50 0) = true ∧ gI ν' 54 = gI ν 54) ∧ ∀ t, gI ν' 53 t = if i ≤ t ∧ t < T then myB cs t (H + n) (gI ν 53 t) else gI ν 53 t
  | 0, i, ν, hi, hM => ⟨ν, by rw [show i = T by omega], Fr.rf, ⟨hM.2.2.1, rfl⟩, fun t => by rw [if_neg (by omega)]⟩
  | r + 1, i, ν, hi, hM => by
    obtain ⟨hC, hc, hb, hH, hH2, hT, hT4⟩ := hM
    obtain ⟨ν1, e1, f1, b1⟩ := s_167 d (t := i) hC hc.2.2 hb (h := H + n) (by omega) (gI ν 53 i)
    have r53 := f1.rowl (q := 53) rfl rfl rfl
    have r54 := f1.rowl (q := 54) rfl rfl rfl
    have f2 : Fr PS QS ν (sI ν1 53 i (myB cs i (H + n) (gI ν 53 i))) := f1.s.tr (Fr.wI _ rfl)
    obtain ⟨ν', e3, f3, ⟨b3, k3⟩, g3⟩ := l_168i d hn v1 r (i + 1) (sI ν1 53 i (myB cs i (H + n) (gI ν 53 i))) (by omega) (MO.of (f2.rowS rfl) b1 ⟨hC, hc, hb, hH, hH2, hT, hT4⟩)
    refine ⟨ν', ?_, f2.tr f3, ⟨b3, k3.trans r54⟩, fun t => ?_⟩
    · rw [e_168_3, hT, if_neg (by rw [O_le (by omega) (by omega)]; omega), e_168_4, inb_O (by omega) (by omega), gd_t, tn_O (by omega), hH, O_add, e1, bnd_1, app1]
      refine (e_168_5 ..).trans ?_
      rw [inb_O (by omega) (by omega), gd_t, tn_O (by omega), O_succ]
      exact e3
    · rw [g3, gI_sI, r53]
      by_cases c : t = i
      · rw [if_neg (by omega), if_pos ⟨rfl, c⟩, if_pos (by omega), c]
      · by_cases c2 : i + 1 ≤ t ∧ t < T
        · rw [if_pos c2, if_neg (fun h : 53 = 53 ∧ t = i => c h.2), if_pos ⟨by omega, c2.2⟩]
        · rw [if_neg c2, if_neg (fun h : 53 = 53 ∧ t = i => c h.2), if_neg (by omega)]
theorem l_168 (d : Nat) {T H N : Nat} {cs : List Cl} (hN : N ≤ 1000) (x : Nat → Int32) : ∀ (r n : Nat) (ν : MM), n + r = N → MO ν T H cs → (∀ t, t < 4 → gI ν 53 t = if t < T then rch cs t H n (x t) else x t) → ∃ ν', ev (d + 4) 168 1 [.ref 46, .int (Int32.ofNat N), .int (Int32.ofNat n)] [] (fx ν) = some (none, fx ν') ∧ Fr PS QS ν ν' ∧ (b01 (gI ν' 50 0) = true ∧ gI ν' 54 = gI ν 54) ∧ ∀ t, t < 4 → gI ν' 53 t = if t < T then rch cs t H N (x t) else x t
  | 0, n, ν, hn, hM, hx => ⟨ν, by rw [e_168_1, if_pos (by rw [O_le (by omega) (by omega)]; omega), e_168_7], Fr.rf, ⟨hM.2.2.1, rfl⟩, by rw [← show n = N by omega]; exact hx⟩
  | r + 1, n, ν, hn, hM, hx => by
    obtain ⟨ν1, e1, f1, ⟨b1, k1⟩, g1⟩ := l_168i d (T := T) (H := H) (n := n) (cs := cs) (by omega) (Int32.ofNat N) T 0 ν (by omega) hM
    obtain ⟨ν2, e2, f2, ⟨b2, k2⟩, g2⟩ := l_168 d hN x r (n + 1) ν1 (by omega) (MO.of (f1.rowS rfl) b1 hM) (fun t ht => by
      rw [g1, hx t ht]
      by_cases c : t < T
      · rw [if_pos ⟨Nat.zero_le _, c⟩, if_pos c, if_pos c]; rfl
      · rw [if_neg (fun h => c h.2), if_neg c, if_neg c])
    refine ⟨ν2, ?_, f1.tr f2, ⟨b2, k2.trans k1⟩, g2⟩
    have hT : gI ν1 47 0 = Int32.ofNat T := (MO.of (f1.rowS rfl) b1 hM).2.2.2.2.2.1
    have hT4 := hM.2.2.2.2.2.2
    rw [e_168_1, if_neg (by rw [O_le (by omega) (by omega)]; omega), e_168_2]
    refine e1.trans ?_
    rw [e_168_3, hT, if_pos (by rw [O_le (by omega) (by omega)]; omega), e_168_6, O_succ]
    exact e2
/-- mayBegin, mayGo -/
theorem s_168 (d : Nat) {T H N : Nat} {cs : List Cl} (hN : N ≤ 1000) {ν : MM} (hM : MO ν T H cs) (x : Nat → Int32) (hx : ∀ t, t < 4 → gI ν 53 t = x t) : ∃ ν', ev (d + 4) 168 0 [.ref 46, .int (Int32.ofNat N)] [] (fx ν) = some (none, fx ν') ∧ Fr PS QS ν ν' ∧ (b01 (gI ν' 50 0) = true ∧ gI ν' 54 = gI ν 54) ∧ ∀ t, t < 4 → gI ν' 53 t = if t < T then rch cs t H N (x t) else x t := by
  rw [e_168_0]
  exact l_168 d hN x N 0 ν (by omega) hM (fun t ht => by rw [hx t ht]; unfold rch; split <;> rfl)
