/-! the model's mayBecome -/
theorem l_167 (d : Nat) {ν : MM} {t h : Nat} {cs : List Cl} (hM : MCo ν 47 cs) (hc : ∀ c ∈ cs, okTs 4 c.2.2) (hb : b01 (gI ν 50 0) = true) (hh : h ≤ 100000) (set x : Int32) {s : Nat} (hs : s < 4) : ∃ ν', ev (d + 3) 167 1 [.ref 46, .int (Int32.ofNat t), .int set, .int (Int32.ofNat h), .int x, .int (Int32.ofNat s)] [] (fx ν) = ev (d + 3) 167 1 [.ref 46, .int (Int32.ofNat t), .int set, .int (Int32.ofNat h), .int (if set >>> (Int32.ofNat s &&& 31) &&& 1 = 1 then x ||| stT cs t s h else x), .int (Int32.ofNat (s + 1))] [] (fx ν') ∧ Fr Pl Q0 ν ν' ∧ b01 (gI ν' 50 0) = true := by
  have h4 : ¬ (4 : Int32) ≤ Int32.ofNat s := by
    have q : ∀ i, i < 4 → ¬ (4 : Int32) ≤ Int32.ofNat i := by decide
    exact q s hs
  rw [e_167_1, if_neg h4, e_167_2]
  by_cases cb : set >>> (Int32.ofNat s &&& 31) &&& 1 = 1
  · obtain ⟨ν1, e1, f1, g0, g1, -, b1⟩ := s_135 d (ν := ν) (Int32.ofNat t) (Int32.ofNat s) (Int32.ofNat h) 9 hM hc hb
    rw [O_rem12 (by omega)] at g0 g1
    refine ⟨ν1, ?_, f1, b1⟩
    rw [if_pos cb, if_pos cb, e_167_3, e1, bnd_0, app0, e_167_4, g1, e_167_6, e_167_5, g0, e_167_7, e_167_7, g1]
    unfold stT stv tgT
    by_cases c2 : 2 ≤ tog (fb (by4 (Int32.ofNat t) (Int32.ofNat s) (Int32.ofNat (h % 12)) 9)) cs 1
    · rw [if_pos c2, if_pos c2]
      by_cases c0 : tog (fb (by4 (Int32.ofNat t) (Int32.ofNat s) (Int32.ofNat (h % 12)) 9)) cs 1 ≤ 0
      · rw [if_pos c0, if_pos c0, e_167_9, e_167_10, e_167_11, O_succ, Int32.or_assoc]
      · rw [if_neg c0, if_neg c0, e_167_8, g0, e_167_10, e_167_11, O_succ, Int32.or_assoc]
    · rw [if_neg c2, if_neg c2]
      by_cases c0 : tog (fb (by4 (Int32.ofNat t) (Int32.ofNat s) (Int32.ofNat (h % 12)) 9)) cs 1 ≤ 0
      · rw [if_pos c0, if_pos c0, e_167_9, e_167_10, e_167_11, O_succ, Int32.or_assoc]
      · rw [if_neg c0, if_neg c0, e_167_8, g0, e_167_10, e_167_11, O_succ, Int32.or_assoc]
  · refine ⟨ν, ?_, Fr.rf, hb⟩
    rw [if_neg cb, if_neg cb, e_167_11, O_succ]
def myS (cs : List Cl) (t h : Nat) (set : Int32) (x : Int32) (s : Nat) : Int32 := if set >>> (Int32.ofNat s &&& 31) &&& 1 = 1 then x ||| stT cs t s h else x
/-- what a set of STATES may become -/
def myB (cs : List Cl) (t h : Nat) (set : Int32) : Int32 := myS cs t h set (myS cs t h set (myS cs t h set (myS cs t h set 0 0) 1) 2) 3
theorem s_167 (d : Nat) {ν : MM} {t h : Nat} {cs : List Cl} (hM : MCo ν 47 cs) (hc : ∀ c ∈ cs, okTs 4 c.2.2) (hb : b01 (gI ν 50 0) = true) (hh : h ≤ 100000) (set : Int32) : ∃ ν', ev (d + 3) 167 0 [.ref 46, .int (Int32.ofNat t), .int set, .int (Int32.ofNat h)] [] (fx ν) = some (some (.int (myB cs t h set)), fx ν') ∧ Fr Pl Q0 ν ν' ∧ b01 (gI ν' 50 0) = true := by
  have go : ∀ {ν ν1 : MM}, MCo ν 47 cs → Fr Pl Q0 ν ν1 → MCo ν1 47 cs := fun h f => MCo.of (f.rowl rfl rfl rfl) h
  obtain ⟨ν1, e1, f1, b1⟩ := l_167 d (t := t) hM hc hb hh set 0 (s := 0) (by decide)
  have m1 := go hM f1
  obtain ⟨ν2, e2, f2, b2⟩ := l_167 d (t := t) m1 hc b1 hh set (myS cs t h set 0 0) (s := 1) (by decide)
  have m2 := go m1 f2
  obtain ⟨ν3, e3, f3, b3⟩ := l_167 d (t := t) m2 hc b2 hh set (myS cs t h set (myS cs t h set 0 0) 1) (s := 2) (by decide)
  have m3 := go m2 f3
  obtain ⟨ν4, e4, f4, b4⟩ := l_167 d (t := t) m3 hc b3 hh set (myS cs t h set (myS cs t h set (myS cs t h set 0 0) 1) 2) (s := 3) (by decide)
  refine ⟨ν4, ?_, f1.tr (f2.tr (f3.tr f4)), b4⟩
  rw [e_167_0]
  refine Eq.trans e1 (Eq.trans e2 (Eq.trans e3 (Eq.trans e4 ?_)))
  rw [e_167_1, if_pos (by decide), e_167_12]
  rfl
