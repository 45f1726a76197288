/-! together: the n of all CLAUSES of a word whose E holds -/
def smc (f : Int32 → Bool) (w : Int32) : List Cl → Int32 → Int32
  | [], a => a
  | c :: cs, a => smc f w cs (if c.1 = w ∧ hld f c.2.2 = true then a + c.2.1 else a)
def m2 (w s : Int32) : Int32 := if w = 1 then (if s < 2 then s else 2) else s
def tog (f : Int32 → Bool) (cs : List Cl) (w : Int32) : Int32 := m2 w (smc f w cs 0)
def CoA (ν : MM) (A : Nat) (cs : List Cl) : Prop := shp (fx ν) A = 24 ∧ aln (fx ν) A = cs.length ∧ cs.length ≤ 10 ∧ ∀ j, (h : j < cs.length) → ∃ c, gR (fx ν) A j = some c ∧ ClA ν c cs[j]
theorem beq33 : Nat.beq 3 3 = true := rfl
theorem l_57 (d : Nat) (w facts : Int32) (A n : Nat) (ν : MM) (hA : shp (fx ν) A = 24) (hn : aln (fx ν) A = n) (hn2 : n ≤ 10) : ∀ (cs : List Cl) (i : Nat) (a : Int32), i + cs.length = n → (∀ j, (h : j < cs.length) → ∃ c, gR (fx ν) A (i + j) = some c ∧ ClA ν c cs[j]) → ev (d + 2) 57 1 [.int w, .int facts, .int a, .ref A, .int (Int32.ofNat n), .int (Int32.ofNat i)] [] (fx ν) = some (some (.int (m2 w (smc (ff facts) w cs a))), fx ν)
  | [], i, a, hi, _ => by
    have hi : i + 0 = n := hi
    rw [e_57_1, if_pos (by rw [O_le (by omega) (by omega)]; omega), e_57_8, e_57_9, e_57_10, e_57_11, e_57_11]
    show _ = some (some (Value.int (m2 w a)), fx ν)
    unfold m2
    by_cases c : w = 1
    · rw [if_pos c, if_pos c]
    · rw [if_neg c, if_neg c]
  | cl :: cs, i, a, hi, hcs => by
    have hi' : i + (cs.length + 1) = n := hi
    obtain ⟨c, hc, hcl⟩ := hcs 0 (by simp)
    have hc : gR (fx ν) A i = some c := hc
    have hcl : ClA ν c cl := hcl
    have hrest : ∀ j, (h : j < cs.length) → ∃ c, gR (fx ν) A (i + 1 + j) = some c ∧ ClA ν c cs[j] := by
      intro j hj
      have := hcs (j + 1) (by simp; omega)
      rw [Nat.add_assoc, Nat.add_comm 1 j]
      exact this
    have go := l_57 d w facts A n ν hA hn hn2 cs (i + 1)
    rw [e_57_1, if_neg (by rw [O_le (by omega) (by omega)]; omega), e_57_2, hA, hn, inb_O (by omega) (by omega), tn_O (by omega), hc, asN_s, e_57_3, hcl.2.1, hcl.2.2.1, show cin [24, 25] 24 = true from rfl, show cin [3] 3 = true from rfl, Bool.and_self, gd_t, gd_t]
    have sm : smc (ff facts) w (cl :: cs) a = smc (ff facts) w cs (if cl.1 = w ∧ hld (ff facts) cl.2.2 = true then a + cl.2.1 else a) := rfl
    rw [sm]
    by_cases c0 : cl.1 = w
    · rw [if_pos c0, e_57_4]
      simp only [hcl.2.1, beq33]
      rw [s_11 d facts hcl, bnd_1, app1]
      refine (e_57_5 ..).trans ?_
      rw [bI_0]
      by_cases c1 : hld (ff facts) cl.2.2 = true
      · rw [if_pos (show cl.1 = w ∧ hld (ff facts) cl.2.2 = true from ⟨c0, c1⟩), if_pos c1, e_57_6, hcl.2.1, show cin [3] 3 = true from rfl, gd_t, e_57_7, O_succ, hcl.2.2.2.1]
        exact go _ (by omega) hrest
      · rw [if_neg (show ¬(cl.1 = w ∧ hld (ff facts) cl.2.2 = true) from fun h => c1 h.2), if_neg c1, e_57_7, O_succ]
        exact go _ (by omega) hrest
    · rw [if_neg c0, if_neg (show ¬(cl.1 = w ∧ hld (ff facts) cl.2.2 = true) from fun h => c0 h.1), e_57_7, O_succ]
      exact go _ (by omega) hrest
theorem s_57 (d : Nat) {A : Nat} {cs : List Cl} {ν : MM} (w facts : Int32) (hA : gR ν 29 2 = some A) (h : CoA ν A cs) : ev (d + 2) 57 0 [.ref 29, .int w, .int facts] [] (fx ν) = some (some (.int (tog (ff facts) cs w)), fx ν) := by
  obtain ⟨h1, h2, h3, h4⟩ := h
  rw [e_57_0, hA, asN_s, h1, h2, show cin [20, 21, 22, 23, 24, 25, 31, 32] 24 = true from rfl, gd_t]
  exact l_57 d w facts A _ ν h1 h2 h3 cs 0 0 (by omega) (fun j hj => by rw [Nat.zero_add]; exact h4 j hj)
