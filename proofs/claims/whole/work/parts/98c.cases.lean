/-! THE LAW'S CALLS: each goes through -/
theorem lg_self (x : Int64) : lg_cmp x x = 0 := by
  unfold lg_cmp
  by_cases h : x > x
  · exact absurd h Int64.lt_irrefl
  · rw [if_neg h, if_pos rfl]
theorem O_pj (i j : Nat) : Int32.ofNat i + Int32.ofNat j = Int32.ofNat (i + j) := (Int32.ofNat_add i j).symm
theorem O_q2 (i : Nat) : Int32.ofNat i + 2 = Int32.ofNat (i + 2) := O_pj i 2
theorem O_q3 (i : Nat) : Int32.ofNat i + 3 = Int32.ofNat (i + 3) := O_pj i 3
theorem O_q4 (i : Nat) : Int32.ofNat i + 4 = Int32.ofNat (i + 4) := O_pj i 4
theorem O_q5 (i : Nat) : Int32.ofNat i + 5 = Int32.ofNat (i + 5) := O_pj i 5
/-- a step of the law: from one block to the end of a call -/
def LStep (ν : MM) (i B : Nat) : Prop := ∃ ν2, ev (999 + 1) 209 B [.ref 26, .ref 28, .ref 46, .int (Int32.ofNat i)] [] (fx ν) = ev (999 + 1) 209 129 [.ref 26, .ref 28, .ref 46, .int (Int32.ofNat i)] [] (fx ν2) ∧ Inv ν2 ∧ Rm ν ν2 ∧ gI ν2 26 = gI ν 26
theorem lc_0 {ν : MM} {i N : Nat} (hI : Inv ν) (hN : aln (fx ν) 26 = N) (hi : i + 6 ≤ N) (hN2 : N ≤ 3072) : LStep ν i 5 := by
  have hI2 := hI
  obtain ⟨⟨A, T, st, H, nn, m, C, S, W, ht, hs, cs, g⟩, -⟩ := hI2
  obtain ⟨x, ν1, ν2, e1, e2, h1, h2, h3, h4, h5⟩ := i_feed 998 hI (gI ν 26 (i + 1))
  have e1 : ev 999 63 0 [.ref 28, .int (gI ν 26 (i + 1))] [] (fx ν) = some (some (.int x), fx ν1) := e1
  have e2 : ev 999 117 0 [.ref 46, .int (gI ν 26 (i + 1))] [] (fx ν1) = some (some (.int x), fx ν2) := e2
  have n1 : aln (fx ν1) 26 = N := h5.trans hN
  have b1 : inb (Int32.ofNat (i + 1)) N = true := inb_O (by omega) (by omega)
  have t1 : (Int32.ofNat (i + 1)).toNatClampNeg = i + 1 := tn_O (by omega)
  refine ⟨ν2, ?_, h1, h2, h4⟩
  rw [e_209_5, O_p1, hN, b1, gd_t, t1, e1, bnd_1, app1, e_209_6, O_p1, n1, b1, gd_t, t1, h3, e2, bnd_1, app1, e_209_7, if_pos rfl]
theorem lc_1 {ν : MM} {i N : Nat} (hI : Inv ν) (hN : aln (fx ν) 26 = N) (hi : i + 6 ≤ N) (hN2 : N ≤ 3072) : LStep ν i 9 := by
  have hI2 := hI
  obtain ⟨⟨A, T, st, H, nn, m, C, S, W, ht, hs, cs, g⟩, -⟩ := hI2
  obtain ⟨x, ν1, ν2, e1, e2, h1, h2, h3, h4, h5⟩ := i_coast 971 hI 
  have e1 : ev 999 64 0 [.ref 28] [] (fx ν) = some (some (.int x), fx ν1) := e1
  have e2 : ev 999 131 0 [.ref 46] [] (fx ν1) = some (some (.int x), fx ν2) := e2
  refine ⟨ν2, ?_, h1, h2, h4⟩
  rw [e_209_9, e1, bnd_1, app1, e_209_10, e2, bnd_1, app1, e_209_11, if_pos rfl]
theorem lc_2 {ν : MM} {i N : Nat} (hI : Inv ν) (hN : aln (fx ν) 26 = N) (hi : i + 6 ≤ N) (hN2 : N ≤ 3072) : LStep ν i 13 := by
  have hI2 := hI
  obtain ⟨⟨A, T, st, H, nn, m, C, S, W, ht, hs, cs, g⟩, -⟩ := hI2
  obtain ⟨x, ν1, ν2, e1, e2, h1, h2, h3, h4, h5⟩ := i_saying 971 hI 
  have e1 : ev 999 65 0 [.ref 28] [] (fx ν) = some (some (.int x), fx ν1) := e1
  have e2 : ev 999 132 0 [.ref 46] [] (fx ν1) = some (some (.int x), fx ν2) := e2
  refine ⟨ν2, ?_, h1, h2, h4⟩
  rw [e_209_13, e1, bnd_1, app1, e_209_14, e2, bnd_1, app1, e_209_15, if_pos rfl]
theorem lc_3 {ν : MM} {i N : Nat} (hI : Inv ν) (hN : aln (fx ν) 26 = N) (hi : i + 6 ≤ N) (hN2 : N ≤ 3072) : LStep ν i 17 := by
  have hI2 := hI
  obtain ⟨⟨A, T, st, H, nn, m, C, S, W, ht, hs, cs, g⟩, -⟩ := hI2
  obtain ⟨x, ν1, ν2, e1, e2, h1, h2, h3, h4, h5⟩ := i_thing 998 hI (gI ν 26 (i + 1))
  have e1 : ev 999 66 0 [.ref 28, .int (gI ν 26 (i + 1))] [] (fx ν) = some (some (.int x), fx ν1) := e1
  have e2 : ev 999 138 0 [.ref 46, .int (gI ν 26 (i + 1))] [] (fx ν1) = some (some (.int x), fx ν2) := e2
  have n1 : aln (fx ν1) 26 = N := h5.trans hN
  have b1 : inb (Int32.ofNat (i + 1)) N = true := inb_O (by omega) (by omega)
  have t1 : (Int32.ofNat (i + 1)).toNatClampNeg = i + 1 := tn_O (by omega)
  refine ⟨ν2, ?_, h1, h2, h4⟩
  rw [e_209_17, O_p1, hN, b1, gd_t, t1, e1, bnd_1, app1, e_209_18, O_p1, n1, b1, gd_t, t1, h3, e2, bnd_1, app1, e_209_19, if_pos rfl]
theorem lc_4 {ν : MM} {i N : Nat} (hI : Inv ν) (hN : aln (fx ν) 26 = N) (hi : i + 6 ≤ N) (hN2 : N ≤ 3072) : LStep ν i 21 := by
  have hI2 := hI
  obtain ⟨⟨A, T, st, H, nn, m, C, S, W, ht, hs, cs, g⟩, -⟩ := hI2
  obtain ⟨x, ν1, ν2, e1, e2, h1, h2, h3, h4, h5⟩ := i_put 997 hI (gI ν 26 (i + 1)) (gI ν 26 (i + 2))
  have e1 : ev 999 67 0 [.ref 28, .int (gI ν 26 (i + 1)), .int (gI ν 26 (i + 2))] [] (fx ν) = some (some (.int x), fx ν1) := e1
  have e2 : ev 999 139 0 [.ref 46, .int (gI ν 26 (i + 1)), .int (gI ν 26 (i + 2))] [] (fx ν1) = some (some (.int x), fx ν2) := e2
  have n1 : aln (fx ν1) 26 = N := h5.trans hN
  have b1 : inb (Int32.ofNat (i + 1)) N = true := inb_O (by omega) (by omega)
  have t1 : (Int32.ofNat (i + 1)).toNatClampNeg = i + 1 := tn_O (by omega)
  have b2 : inb (Int32.ofNat (i + 2)) N = true := inb_O (by omega) (by omega)
  have t2 : (Int32.ofNat (i + 2)).toNatClampNeg = i + 2 := tn_O (by omega)
  refine ⟨ν2, ?_, h1, h2, h4⟩
  rw [e_209_21, O_p1, O_q2, hN, b1, gd_t, b2, gd_t, t1, t2, e1, bnd_1, app1, e_209_22, O_p1, O_q2, n1, b1, gd_t, b2, gd_t, t1, t2, h3, e2, bnd_1, app1, e_209_23, if_pos rfl]
theorem lc_5 {ν : MM} {i N : Nat} (hI : Inv ν) (hN : aln (fx ν) 26 = N) (hi : i + 6 ≤ N) (hN2 : N ≤ 3072) : LStep ν i 25 := by
  have hI2 := hI
  obtain ⟨⟨A, T, st, H, nn, m, C, S, W, ht, hs, cs, g⟩, -⟩ := hI2
  obtain ⟨x, ν1, ν2, e1, e2, h1, h2, h3, h4, h5⟩ := QI.c hI (q_of 995 (g.qx hI.b) (gI ν 26 (i + 1)) (gI ν 26 (i + 2)))
  have e1 : ev 999 68 0 [.ref 28, .int (gI ν 26 (i + 1)), .int (gI ν 26 (i + 2))] [] (fx ν) = some (some (.int x), fx ν1) := e1
  have e2 : ev 999 140 0 [.ref 46, .int (gI ν 26 (i + 1)), .int (gI ν 26 (i + 2))] [] (fx ν1) = some (some (.int x), fx ν2) := e2
  have n1 : aln (fx ν1) 26 = N := h5.trans hN
  have b1 : inb (Int32.ofNat (i + 1)) N = true := inb_O (by omega) (by omega)
  have t1 : (Int32.ofNat (i + 1)).toNatClampNeg = i + 1 := tn_O (by omega)
  have b2 : inb (Int32.ofNat (i + 2)) N = true := inb_O (by omega) (by omega)
  have t2 : (Int32.ofNat (i + 2)).toNatClampNeg = i + 2 := tn_O (by omega)
  refine ⟨ν2, ?_, h1, h2, h4⟩
  rw [e_209_25, O_p1, O_q2, hN, b1, gd_t, b2, gd_t, t1, t2, e1, bnd_1, app1, e_209_26, O_p1, O_q2, n1, b1, gd_t, b2, gd_t, t1, t2, h3, e2, bnd_1, app1, e_209_27, if_pos rfl]
theorem lc_6 {ν : MM} {i N : Nat} (hI : Inv ν) (hN : aln (fx ν) 26 = N) (hi : i + 6 ≤ N) (hN2 : N ≤ 3072) : LStep ν i 29 := by
  have hI2 := hI
  obtain ⟨⟨A, T, st, H, nn, m, C, S, W, ht, hs, cs, g⟩, -⟩ := hI2
  obtain ⟨x, ν1, ν2, e1, e2, h1, h2, h3, h4, h5⟩ := i_way 994 hI (gI ν 26 (i + 1)) (gI ν 26 (i + 2)) (gI ν 26 (i + 3)) (gI ν 26 (i + 4))
  have e1 : ev 999 69 0 [.ref 28, .int (gI ν 26 (i + 1)), .int (gI ν 26 (i + 2)), .int (gI ν 26 (i + 3)), .int (gI ν 26 (i + 4))] [] (fx ν) = some (some (.int x), fx ν1) := e1
  have e2 : ev 999 141 0 [.ref 46, .int (gI ν 26 (i + 1)), .int (gI ν 26 (i + 2)), .int (gI ν 26 (i + 3)), .int (gI ν 26 (i + 4))] [] (fx ν1) = some (some (.int x), fx ν2) := e2
  have n1 : aln (fx ν1) 26 = N := h5.trans hN
  have b1 : inb (Int32.ofNat (i + 1)) N = true := inb_O (by omega) (by omega)
  have t1 : (Int32.ofNat (i + 1)).toNatClampNeg = i + 1 := tn_O (by omega)
  have b2 : inb (Int32.ofNat (i + 2)) N = true := inb_O (by omega) (by omega)
  have t2 : (Int32.ofNat (i + 2)).toNatClampNeg = i + 2 := tn_O (by omega)
  have b3 : inb (Int32.ofNat (i + 3)) N = true := inb_O (by omega) (by omega)
  have t3 : (Int32.ofNat (i + 3)).toNatClampNeg = i + 3 := tn_O (by omega)
  have b4 : inb (Int32.ofNat (i + 4)) N = true := inb_O (by omega) (by omega)
  have t4 : (Int32.ofNat (i + 4)).toNatClampNeg = i + 4 := tn_O (by omega)
  refine ⟨ν2, ?_, h1, h2, h4⟩
  rw [e_209_29, O_p1, O_q2, O_q3, O_q4, hN, b1, gd_t, b2, gd_t, b3, gd_t, b4, gd_t, t1, t2, t3, t4, e1, bnd_1, app1, e_209_30, O_p1, O_q2, O_q3, O_q4, n1, b1, gd_t, b2, gd_t, b3, gd_t, b4, gd_t, t1, t2, t3, t4, h3, e2, bnd_1, app1, e_209_31, if_pos rfl]
theorem lc_7 {ν : MM} {i N : Nat} (hI : Inv ν) (hN : aln (fx ν) 26 = N) (hi : i + 6 ≤ N) (hN2 : N ≤ 3072) : LStep ν i 33 := by
  have hI2 := hI
  obtain ⟨⟨A, T, st, H, nn, m, C, S, W, ht, hs, cs, g⟩, -⟩ := hI2
  obtain ⟨x, ν1, ν2, e1, e2, h1, h2, h3, h4, h5⟩ := QI.c hI (q_at 995 (g.qx hI.b) (gI ν 26 (i + 1)) (gI ν 26 (i + 2)))
  have e1 : ev 999 71 0 [.ref 28, .int (gI ν 26 (i + 1)), .int (gI ν 26 (i + 2))] [] (fx ν) = some (some (.int x), fx ν1) := e1
  have e2 : ev 999 145 0 [.ref 46, .int (gI ν 26 (i + 1)), .int (gI ν 26 (i + 2))] [] (fx ν1) = some (some (.int x), fx ν2) := e2
  have n1 : aln (fx ν1) 26 = N := h5.trans hN
  have b1 : inb (Int32.ofNat (i + 1)) N = true := inb_O (by omega) (by omega)
  have t1 : (Int32.ofNat (i + 1)).toNatClampNeg = i + 1 := tn_O (by omega)
  have b2 : inb (Int32.ofNat (i + 2)) N = true := inb_O (by omega) (by omega)
  have t2 : (Int32.ofNat (i + 2)).toNatClampNeg = i + 2 := tn_O (by omega)
  refine ⟨ν2, ?_, h1, h2, h4⟩
  rw [e_209_33, O_p1, O_q2, hN, b1, gd_t, b2, gd_t, t1, t2, e1, bnd_1, app1, e_209_34, O_p1, O_q2, n1, b1, gd_t, b2, gd_t, t1, t2, h3, e2, bnd_1, app1, e_209_35, if_pos rfl]
theorem lc_8 {ν : MM} {i N : Nat} (hI : Inv ν) (hN : aln (fx ν) 26 = N) (hi : i + 6 ≤ N) (hN2 : N ≤ 3072) : LStep ν i 37 := by
  have hI2 := hI
  obtain ⟨⟨A, T, st, H, nn, m, C, S, W, ht, hs, cs, g⟩, -⟩ := hI2
  obtain ⟨x, ν1, ν2, e1, e2, h1, h2, h3, h4, h5⟩ := i_bribe 995 hI (gI ν 26 (i + 1)) (gI ν 26 (i + 2))
  have e1 : ev 999 72 0 [.ref 28, .int (gI ν 26 (i + 1)), .int (gI ν 26 (i + 2))] [] (fx ν) = some (some (.int x), fx ν1) := e1
  have e2 : ev 999 146 0 [.ref 46, .int (gI ν 26 (i + 1)), .int (gI ν 26 (i + 2))] [] (fx ν1) = some (some (.int x), fx ν2) := e2
  have n1 : aln (fx ν1) 26 = N := h5.trans hN
  have b1 : inb (Int32.ofNat (i + 1)) N = true := inb_O (by omega) (by omega)
  have t1 : (Int32.ofNat (i + 1)).toNatClampNeg = i + 1 := tn_O (by omega)
  have b2 : inb (Int32.ofNat (i + 2)) N = true := inb_O (by omega) (by omega)
  have t2 : (Int32.ofNat (i + 2)).toNatClampNeg = i + 2 := tn_O (by omega)
  refine ⟨ν2, ?_, h1, h2, h4⟩
  rw [e_209_37, O_p1, O_q2, hN, b1, gd_t, b2, gd_t, t1, t2, e1, bnd_1, app1, e_209_38, O_p1, O_q2, n1, b1, gd_t, b2, gd_t, t1, t2, h3, e2, bnd_1, app1, e_209_39, if_pos rfl]
theorem lc_9 {ν : MM} {i N : Nat} (hI : Inv ν) (hN : aln (fx ν) 26 = N) (hi : i + 6 ≤ N) (hN2 : N ≤ 3072) : LStep ν i 41 := by
  have hI2 := hI
  obtain ⟨⟨A, T, st, H, nn, m, C, S, W, ht, hs, cs, g⟩, -⟩ := hI2
  obtain ⟨x, ν1, ν2, e1, e2, h1, h2, h3, h4, h5⟩ := i_now 999 hI 
  have e1 : ev 999 73 0 [.ref 28] [] (fx ν) = some (some (.int x), fx ν1) := e1
  have e2 : ev 999 147 0 [.ref 46] [] (fx ν1) = some (some (.int x), fx ν2) := e2
  refine ⟨ν2, ?_, h1, h2, h4⟩
  rw [e_209_41, e1, bnd_1, app1, e_209_42, e2, bnd_1, app1, e_209_43, if_pos rfl]
theorem lc_10 {ν : MM} {i N : Nat} (hI : Inv ν) (hN : aln (fx ν) 26 = N) (hi : i + 6 ≤ N) (hN2 : N ≤ 3072) : LStep ν i 45 := by
  have hI2 := hI
  obtain ⟨⟨A, T, st, H, nn, m, C, S, W, ht, hs, cs, g⟩, -⟩ := hI2
  obtain ⟨x, ν1, ν2, e1, e2, h1, h2, h3, h4, h5⟩ := i_hour 996 hI (gI ν 26 (i + 1))
  have e1 : ev 999 74 0 [.ref 28, .int (gI ν 26 (i + 1))] [] (fx ν) = some (some (.int x), fx ν1) := e1
  have e2 : ev 999 148 0 [.ref 46, .int (gI ν 26 (i + 1))] [] (fx ν1) = some (some (.int x), fx ν2) := e2
  have n1 : aln (fx ν1) 26 = N := h5.trans hN
  have b1 : inb (Int32.ofNat (i + 1)) N = true := inb_O (by omega) (by omega)
  have t1 : (Int32.ofNat (i + 1)).toNatClampNeg = i + 1 := tn_O (by omega)
  refine ⟨ν2, ?_, h1, h2, h4⟩
  rw [e_209_45, O_p1, hN, b1, gd_t, t1, e1, bnd_1, app1, e_209_46, O_p1, n1, b1, gd_t, t1, h3, e2, bnd_1, app1, e_209_47, if_pos rfl]
theorem lc_11 {ν : MM} {i N : Nat} (hI : Inv ν) (hN : aln (fx ν) 26 = N) (hi : i + 6 ≤ N) (hN2 : N ≤ 3072) : LStep ν i 49 := by
  have hI2 := hI
  obtain ⟨⟨A, T, st, H, nn, m, C, S, W, ht, hs, cs, g⟩, -⟩ := hI2
  obtain ⟨x, ν1, ν2, e1, e2, h1, h2, h3, h4, h5⟩ := QL.c hI (q_odds 993 (g.qx hI.b) (gI ν 26 (i + 1)) (gI ν 26 (i + 2)) (gI ν 26 (i + 3)))
  have e1 : ev 999 75 0 [.ref 28, .int (gI ν 26 (i + 1)), .int (gI ν 26 (i + 2)), .int (gI ν 26 (i + 3))] [] (fx ν) = some (some (.long x), fx ν1) := e1
  have e2 : ev 999 160 0 [.ref 46, .int (gI ν 26 (i + 1)), .int (gI ν 26 (i + 2)), .int (gI ν 26 (i + 3))] [] (fx ν1) = some (some (.long x), fx ν2) := e2
  have n1 : aln (fx ν1) 26 = N := h5.trans hN
  have b1 : inb (Int32.ofNat (i + 1)) N = true := inb_O (by omega) (by omega)
  have t1 : (Int32.ofNat (i + 1)).toNatClampNeg = i + 1 := tn_O (by omega)
  have b2 : inb (Int32.ofNat (i + 2)) N = true := inb_O (by omega) (by omega)
  have t2 : (Int32.ofNat (i + 2)).toNatClampNeg = i + 2 := tn_O (by omega)
  have b3 : inb (Int32.ofNat (i + 3)) N = true := inb_O (by omega) (by omega)
  have t3 : (Int32.ofNat (i + 3)).toNatClampNeg = i + 3 := tn_O (by omega)
  refine ⟨ν2, ?_, h1, h2, h4⟩
  rw [e_209_49, O_p1, O_q2, O_q3, hN, b1, gd_t, b2, gd_t, b3, gd_t, t1, t2, t3, e1, bnd_2, app1, e_209_50, O_p1, O_q2, O_q3, n1, b1, gd_t, b2, gd_t, b3, gd_t, t1, t2, t3, h3, e2, bnd_2, app1, e_209_51, lg_self, if_pos rfl]
theorem lc_12 {ν : MM} {i N : Nat} (hI : Inv ν) (hN : aln (fx ν) 26 = N) (hi : i + 6 ≤ N) (hN2 : N ≤ 3072) : LStep ν i 53 := by
  have hI2 := hI
  obtain ⟨⟨A, T, st, H, nn, m, C, S, W, ht, hs, cs, g⟩, -⟩ := hI2
  obtain ⟨x, ν1, ν2, e1, e2, h1, h2, h3, h4, h5⟩ := QI.c hI (q_sure 993 (g.qx hI.b) (gI ν 26 (i + 1)) (gI ν 26 (i + 2)))
  have e1 : ev 999 76 0 [.ref 28, .int (gI ν 26 (i + 1)), .int (gI ν 26 (i + 2))] [] (fx ν) = some (some (.int x), fx ν1) := e1
  have e2 : ev 999 161 0 [.ref 46, .int (gI ν 26 (i + 1)), .int (gI ν 26 (i + 2))] [] (fx ν1) = some (some (.int x), fx ν2) := e2
  have n1 : aln (fx ν1) 26 = N := h5.trans hN
  have b1 : inb (Int32.ofNat (i + 1)) N = true := inb_O (by omega) (by omega)
  have t1 : (Int32.ofNat (i + 1)).toNatClampNeg = i + 1 := tn_O (by omega)
  have b2 : inb (Int32.ofNat (i + 2)) N = true := inb_O (by omega) (by omega)
  have t2 : (Int32.ofNat (i + 2)).toNatClampNeg = i + 2 := tn_O (by omega)
  refine ⟨ν2, ?_, h1, h2, h4⟩
  rw [e_209_53, O_p1, O_q2, hN, b1, gd_t, b2, gd_t, t1, t2, e1, bnd_1, app1, e_209_54, O_p1, O_q2, n1, b1, gd_t, b2, gd_t, t1, t2, h3, e2, bnd_1, app1, e_209_55, if_pos rfl]
theorem lc_13 {ν : MM} {i N : Nat} (hI : Inv ν) (hN : aln (fx ν) 26 = N) (hi : i + 6 ≤ N) (hN2 : N ≤ 3072) : LStep ν i 57 := by
  have hI2 := hI
  obtain ⟨⟨A, T, st, H, nn, m, C, S, W, ht, hs, cs, g⟩, -⟩ := hI2
  obtain ⟨x, ν1, ν2, e1, e2, h1, h2, h3, h4, h5⟩ := QI.c hI (q_tell 994 (g.qx hI.b) (gI ν 26 (i + 1)) (gI ν 26 (i + 2)))
  have e1 : ev 999 77 0 [.ref 28, .int (gI ν 26 (i + 1)), .int (gI ν 26 (i + 2))] [] (fx ν) = some (some (.int x), fx ν1) := e1
  have e2 : ev 999 162 0 [.ref 46, .int (gI ν 26 (i + 1)), .int (gI ν 26 (i + 2))] [] (fx ν1) = some (some (.int x), fx ν2) := e2
  have n1 : aln (fx ν1) 26 = N := h5.trans hN
  have b1 : inb (Int32.ofNat (i + 1)) N = true := inb_O (by omega) (by omega)
  have t1 : (Int32.ofNat (i + 1)).toNatClampNeg = i + 1 := tn_O (by omega)
  have b2 : inb (Int32.ofNat (i + 2)) N = true := inb_O (by omega) (by omega)
  have t2 : (Int32.ofNat (i + 2)).toNatClampNeg = i + 2 := tn_O (by omega)
  refine ⟨ν2, ?_, h1, h2, h4⟩
  rw [e_209_57, O_p1, O_q2, hN, b1, gd_t, b2, gd_t, t1, t2, e1, bnd_1, app1, e_209_58, O_p1, O_q2, n1, b1, gd_t, b2, gd_t, t1, t2, h3, e2, bnd_1, app1, e_209_59, if_pos rfl]
theorem lc_14 {ν : MM} {i N : Nat} (hI : Inv ν) (hN : aln (fx ν) 26 = N) (hi : i + 6 ≤ N) (hN2 : N ≤ 3072) : LStep ν i 61 := by
  have hI2 := hI
  obtain ⟨⟨A, T, st, H, nn, m, C, S, W, ht, hs, cs, g⟩, -⟩ := hI2
  obtain ⟨x, ν1, ν2, e1, e2, h1, h2, h3, h4, h5⟩ := QI.c hI (q_which 992 (g.qx hI.b) (gI ν 26 (i + 1)))
  have e1 : ev 999 78 0 [.ref 28, .int (gI ν 26 (i + 1))] [] (fx ν) = some (some (.int x), fx ν1) := e1
  have e2 : ev 999 164 0 [.ref 46, .int (gI ν 26 (i + 1))] [] (fx ν1) = some (some (.int x), fx ν2) := e2
  have n1 : aln (fx ν1) 26 = N := h5.trans hN
  have b1 : inb (Int32.ofNat (i + 1)) N = true := inb_O (by omega) (by omega)
  have t1 : (Int32.ofNat (i + 1)).toNatClampNeg = i + 1 := tn_O (by omega)
  refine ⟨ν2, ?_, h1, h2, h4⟩
  rw [e_209_61, O_p1, hN, b1, gd_t, t1, e1, bnd_1, app1, e_209_62, O_p1, n1, b1, gd_t, t1, h3, e2, bnd_1, app1, e_209_63, if_pos rfl]
theorem lc_15 {ν : MM} {i N : Nat} (hI : Inv ν) (hN : aln (fx ν) 26 = N) (hi : i + 6 ≤ N) (hN2 : N ≤ 3072) : LStep ν i 65 := by
  have hI2 := hI
  obtain ⟨⟨A, T, st, H, nn, m, C, S, W, ht, hs, cs, g⟩, -⟩ := hI2
  obtain ⟨x, ν1, ν2, e1, e2, h1, h2, h3, h4, h5⟩ := QL.c hI (q_worth 993 (g.qx hI.b) (gI ν 26 (i + 1)) (gI ν 26 (i + 2)) (gI ν 26 (i + 3)) (gI ν 26 (i + 4)) (gI ν 26 (i + 5)))
  have e1 : ev 999 79 0 [.ref 28, .int (gI ν 26 (i + 1)), .int (gI ν 26 (i + 2)), .int (gI ν 26 (i + 3)), .int (gI ν 26 (i + 4)), .int (gI ν 26 (i + 5))] [] (fx ν) = some (some (.long x), fx ν1) := e1
  have e2 : ev 999 165 0 [.ref 46, .int (gI ν 26 (i + 1)), .int (gI ν 26 (i + 2)), .int (gI ν 26 (i + 3)), .int (gI ν 26 (i + 4)), .int (gI ν 26 (i + 5))] [] (fx ν1) = some (some (.long x), fx ν2) := e2
  have n1 : aln (fx ν1) 26 = N := h5.trans hN
  have b1 : inb (Int32.ofNat (i + 1)) N = true := inb_O (by omega) (by omega)
  have t1 : (Int32.ofNat (i + 1)).toNatClampNeg = i + 1 := tn_O (by omega)
  have b2 : inb (Int32.ofNat (i + 2)) N = true := inb_O (by omega) (by omega)
  have t2 : (Int32.ofNat (i + 2)).toNatClampNeg = i + 2 := tn_O (by omega)
  have b3 : inb (Int32.ofNat (i + 3)) N = true := inb_O (by omega) (by omega)
  have t3 : (Int32.ofNat (i + 3)).toNatClampNeg = i + 3 := tn_O (by omega)
  have b4 : inb (Int32.ofNat (i + 4)) N = true := inb_O (by omega) (by omega)
  have t4 : (Int32.ofNat (i + 4)).toNatClampNeg = i + 4 := tn_O (by omega)
  have b5 : inb (Int32.ofNat (i + 5)) N = true := inb_O (by omega) (by omega)
  have t5 : (Int32.ofNat (i + 5)).toNatClampNeg = i + 5 := tn_O (by omega)
  refine ⟨ν2, ?_, h1, h2, h4⟩
  rw [e_209_65, O_p1, O_q2, O_q3, O_q4, O_q5, hN, b1, gd_t, b2, gd_t, b3, gd_t, b4, gd_t, b5, gd_t, t1, t2, t3, t4, t5, e1, bnd_2, app1, e_209_66, O_p1, O_q2, O_q3, O_q4, O_q5, n1, b1, gd_t, b2, gd_t, b3, gd_t, b4, gd_t, b5, gd_t, t1, t2, t3, t4, t5, h3, e2, bnd_2, app1, e_209_67, lg_self, if_pos rfl]
theorem lc_16 {ν : MM} {i N : Nat} (hI : Inv ν) (hN : aln (fx ν) 26 = N) (hi : i + 6 ≤ N) (hN2 : N ≤ 3072) : LStep ν i 69 := by
  have hI2 := hI
  obtain ⟨⟨A, T, st, H, nn, m, C, S, W, ht, hs, cs, g⟩, -⟩ := hI2
  obtain ⟨x, ν1, ν2, e1, e2, h1, h2, h3, h4, h5⟩ := QI.c hI (q_sit 993 (g.qx hI.b) (gI ν 26 (i + 1)) (gI ν 26 (i + 2)))
  have e1 : ev 999 80 0 [.ref 28, .int (gI ν 26 (i + 1)), .int (gI ν 26 (i + 2))] [] (fx ν) = some (some (.int x), fx ν1) := e1
  have e2 : ev 999 170 0 [.ref 46, .int (gI ν 26 (i + 1)), .int (gI ν 26 (i + 2))] [] (fx ν1) = some (some (.int x), fx ν2) := e2
  have n1 : aln (fx ν1) 26 = N := h5.trans hN
  have b1 : inb (Int32.ofNat (i + 1)) N = true := inb_O (by omega) (by omega)
  have t1 : (Int32.ofNat (i + 1)).toNatClampNeg = i + 1 := tn_O (by omega)
  have b2 : inb (Int32.ofNat (i + 2)) N = true := inb_O (by omega) (by omega)
  have t2 : (Int32.ofNat (i + 2)).toNatClampNeg = i + 2 := tn_O (by omega)
  refine ⟨ν2, ?_, h1, h2, h4⟩
  rw [e_209_69, O_p1, O_q2, hN, b1, gd_t, b2, gd_t, t1, t2, e1, bnd_1, app1, e_209_70, O_p1, O_q2, n1, b1, gd_t, b2, gd_t, t1, t2, h3, e2, bnd_1, app1, e_209_71, if_pos rfl]
theorem lc_17 {ν : MM} {i N : Nat} (hI : Inv ν) (hN : aln (fx ν) 26 = N) (hi : i + 6 ≤ N) (hN2 : N ≤ 3072) : LStep ν i 73 := by
  have hI2 := hI
  obtain ⟨⟨A, T, st, H, nn, m, C, S, W, ht, hs, cs, g⟩, -⟩ := hI2
  obtain ⟨x, ν1, ν2, e1, e2, h1, h2, h3, h4, h5⟩ := QI.c hI (q_catches 996 (g.qx hI.b) (gI ν 26 (i + 1)) (gI ν 26 (i + 2)) (gI ν 26 (i + 3)))
  have e1 : ev 999 81 0 [.ref 28, .int (gI ν 26 (i + 1)), .int (gI ν 26 (i + 2)), .int (gI ν 26 (i + 3))] [] (fx ν) = some (some (.int x), fx ν1) := e1
  have e2 : ev 999 171 0 [.ref 46, .int (gI ν 26 (i + 1)), .int (gI ν 26 (i + 2)), .int (gI ν 26 (i + 3))] [] (fx ν1) = some (some (.int x), fx ν2) := e2
  have n1 : aln (fx ν1) 26 = N := h5.trans hN
  have b1 : inb (Int32.ofNat (i + 1)) N = true := inb_O (by omega) (by omega)
  have t1 : (Int32.ofNat (i + 1)).toNatClampNeg = i + 1 := tn_O (by omega)
  have b2 : inb (Int32.ofNat (i + 2)) N = true := inb_O (by omega) (by omega)
  have t2 : (Int32.ofNat (i + 2)).toNatClampNeg = i + 2 := tn_O (by omega)
  have b3 : inb (Int32.ofNat (i + 3)) N = true := inb_O (by omega) (by omega)
  have t3 : (Int32.ofNat (i + 3)).toNatClampNeg = i + 3 := tn_O (by omega)
  refine ⟨ν2, ?_, h1, h2, h4⟩
  rw [e_209_73, O_p1, O_q2, O_q3, hN, b1, gd_t, b2, gd_t, b3, gd_t, t1, t2, t3, e1, bnd_1, app1, e_209_74, O_p1, O_q2, O_q3, n1, b1, gd_t, b2, gd_t, b3, gd_t, t1, t2, t3, h3, e2, bnd_1, app1, e_209_75, if_pos rfl]
theorem lc_18 {ν : MM} {i N : Nat} (hI : Inv ν) (hN : aln (fx ν) 26 = N) (hi : i + 6 ≤ N) (hN2 : N ≤ 3072) : LStep ν i 77 := by
  have hI2 := hI
  obtain ⟨⟨A, T, st, H, nn, m, C, S, W, ht, hs, cs, g⟩, -⟩ := hI2
  obtain ⟨x, ν1, ν2, e1, e2, h1, h2, h3, h4, h5⟩ := QI.c hI (q_all 995 (g.qx hI.b) (gI ν 26 (i + 1)))
  have e1 : ev 999 82 0 [.ref 28, .int (gI ν 26 (i + 1))] [] (fx ν) = some (some (.int x), fx ν1) := e1
  have e2 : ev 999 172 0 [.ref 46, .int (gI ν 26 (i + 1))] [] (fx ν1) = some (some (.int x), fx ν2) := e2
  have n1 : aln (fx ν1) 26 = N := h5.trans hN
  have b1 : inb (Int32.ofNat (i + 1)) N = true := inb_O (by omega) (by omega)
  have t1 : (Int32.ofNat (i + 1)).toNatClampNeg = i + 1 := tn_O (by omega)
  refine ⟨ν2, ?_, h1, h2, h4⟩
  rw [e_209_77, O_p1, hN, b1, gd_t, t1, e1, bnd_1, app1, e_209_78, O_p1, n1, b1, gd_t, t1, h3, e2, bnd_1, app1, e_209_79, if_pos rfl]
theorem lc_19 {ν : MM} {i N : Nat} (hI : Inv ν) (hN : aln (fx ν) 26 = N) (hi : i + 6 ≤ N) (hN2 : N ≤ 3072) : LStep ν i 81 := by
  have hI2 := hI
  obtain ⟨⟨A, T, st, H, nn, m, C, S, W, ht, hs, cs, g⟩, -⟩ := hI2
  obtain ⟨x, ν1, ν2, e1, e2, h1, h2, h3, h4, h5⟩ := QI.c hI (q_begin 993 (g.qx hI.b) (gI ν 26 (i + 1)) (gI ν 26 (i + 2)) (gI ν 26 (i + 3)))
  have e1 : ev 999 83 0 [.ref 28, .int (gI ν 26 (i + 1)), .int (gI ν 26 (i + 2)), .int (gI ν 26 (i + 3))] [] (fx ν) = some (some (.int x), fx ν1) := e1
  have e2 : ev 999 173 0 [.ref 46, .int (gI ν 26 (i + 1)), .int (gI ν 26 (i + 2)), .int (gI ν 26 (i + 3))] [] (fx ν1) = some (some (.int x), fx ν2) := e2
  have n1 : aln (fx ν1) 26 = N := h5.trans hN
  have b1 : inb (Int32.ofNat (i + 1)) N = true := inb_O (by omega) (by omega)
  have t1 : (Int32.ofNat (i + 1)).toNatClampNeg = i + 1 := tn_O (by omega)
  have b2 : inb (Int32.ofNat (i + 2)) N = true := inb_O (by omega) (by omega)
  have t2 : (Int32.ofNat (i + 2)).toNatClampNeg = i + 2 := tn_O (by omega)
  have b3 : inb (Int32.ofNat (i + 3)) N = true := inb_O (by omega) (by omega)
  have t3 : (Int32.ofNat (i + 3)).toNatClampNeg = i + 3 := tn_O (by omega)
  refine ⟨ν2, ?_, h1, h2, h4⟩
  rw [e_209_81, O_p1, O_q2, O_q3, hN, b1, gd_t, b2, gd_t, b3, gd_t, t1, t2, t3, e1, bnd_1, app1, e_209_82, O_p1, O_q2, O_q3, n1, b1, gd_t, b2, gd_t, b3, gd_t, t1, t2, t3, h3, e2, bnd_1, app1, e_209_83, if_pos rfl]
theorem lc_20 {ν : MM} {i N : Nat} (hI : Inv ν) (hN : aln (fx ν) 26 = N) (hi : i + 6 ≤ N) (hN2 : N ≤ 3072) : LStep ν i 85 := by
  have hI2 := hI
  obtain ⟨⟨A, T, st, H, nn, m, C, S, W, ht, hs, cs, g⟩, -⟩ := hI2
  obtain ⟨x, ν1, ν2, e1, e2, h1, h2, h3, h4, h5⟩ := i_heed 997 hI (gI ν 26 (i + 1)) (gI ν 26 (i + 2))
  have e1 : ev 999 84 0 [.ref 28, .int (gI ν 26 (i + 1)), .int (gI ν 26 (i + 2))] [] (fx ν) = some (some (.int x), fx ν1) := e1
  have e2 : ev 999 176 0 [.ref 46, .int (gI ν 26 (i + 1)), .int (gI ν 26 (i + 2))] [] (fx ν1) = some (some (.int x), fx ν2) := e2
  have n1 : aln (fx ν1) 26 = N := h5.trans hN
  have b1 : inb (Int32.ofNat (i + 1)) N = true := inb_O (by omega) (by omega)
  have t1 : (Int32.ofNat (i + 1)).toNatClampNeg = i + 1 := tn_O (by omega)
  have b2 : inb (Int32.ofNat (i + 2)) N = true := inb_O (by omega) (by omega)
  have t2 : (Int32.ofNat (i + 2)).toNatClampNeg = i + 2 := tn_O (by omega)
  refine ⟨ν2, ?_, h1, h2, h4⟩
  rw [e_209_85, O_p1, O_q2, hN, b1, gd_t, b2, gd_t, t1, t2, e1, bnd_1, app1, e_209_86, O_p1, O_q2, n1, b1, gd_t, b2, gd_t, t1, t2, h3, e2, bnd_1, app1, e_209_87, if_pos rfl]
theorem lc_21 {ν : MM} {i N : Nat} (hI : Inv ν) (hN : aln (fx ν) 26 = N) (hi : i + 6 ≤ N) (hN2 : N ≤ 3072) : LStep ν i 89 := by
  have hI2 := hI
  obtain ⟨⟨A, T, st, H, nn, m, C, S, W, ht, hs, cs, g⟩, -⟩ := hI2
  obtain ⟨x, ν1, ν2, e1, e2, h1, h2, h3, h4, h5⟩ := QL.c hI (q_self 994 (g.qx hI.b) (gI ν 26 (i + 1)) (gI ν 26 (i + 2)) (gI ν 26 (i + 3)) (gI ν 26 (i + 4)))
  have e1 : ev 999 85 0 [.ref 28, .int (gI ν 26 (i + 1)), .int (gI ν 26 (i + 2)), .int (gI ν 26 (i + 3)), .int (gI ν 26 (i + 4))] [] (fx ν) = some (some (.long x), fx ν1) := e1
  have e2 : ev 999 178 0 [.ref 46, .int (gI ν 26 (i + 1)), .int (gI ν 26 (i + 2)), .int (gI ν 26 (i + 3)), .int (gI ν 26 (i + 4))] [] (fx ν1) = some (some (.long x), fx ν2) := e2
  have n1 : aln (fx ν1) 26 = N := h5.trans hN
  have b1 : inb (Int32.ofNat (i + 1)) N = true := inb_O (by omega) (by omega)
  have t1 : (Int32.ofNat (i + 1)).toNatClampNeg = i + 1 := tn_O (by omega)
  have b2 : inb (Int32.ofNat (i + 2)) N = true := inb_O (by omega) (by omega)
  have t2 : (Int32.ofNat (i + 2)).toNatClampNeg = i + 2 := tn_O (by omega)
  have b3 : inb (Int32.ofNat (i + 3)) N = true := inb_O (by omega) (by omega)
  have t3 : (Int32.ofNat (i + 3)).toNatClampNeg = i + 3 := tn_O (by omega)
  have b4 : inb (Int32.ofNat (i + 4)) N = true := inb_O (by omega) (by omega)
  have t4 : (Int32.ofNat (i + 4)).toNatClampNeg = i + 4 := tn_O (by omega)
  refine ⟨ν2, ?_, h1, h2, h4⟩
  rw [e_209_89, O_p1, O_q2, O_q3, O_q4, hN, b1, gd_t, b2, gd_t, b3, gd_t, b4, gd_t, t1, t2, t3, t4, e1, bnd_2, app1, e_209_90, O_p1, O_q2, O_q3, O_q4, n1, b1, gd_t, b2, gd_t, b3, gd_t, b4, gd_t, t1, t2, t3, t4, h3, e2, bnd_2, app1, e_209_91, lg_self, if_pos rfl]
theorem lc_22 {ν : MM} {i N : Nat} (hI : Inv ν) (hN : aln (fx ν) 26 = N) (hi : i + 6 ≤ N) (hN2 : N ≤ 3072) : LStep ν i 93 := by
  have hI2 := hI
  obtain ⟨⟨A, T, st, H, nn, m, C, S, W, ht, hs, cs, g⟩, -⟩ := hI2
  obtain ⟨x, ν1, ν2, e1, e2, h1, h2, h3, h4, h5⟩ := QI.c hI (q_back 994 (g.qx hI.b) (gI ν 26 (i + 1)) (gI ν 26 (i + 2)) (gI ν 26 (i + 3)))
  have e1 : ev 999 86 0 [.ref 28, .int (gI ν 26 (i + 1)), .int (gI ν 26 (i + 2)), .int (gI ν 26 (i + 3))] [] (fx ν) = some (some (.int x), fx ν1) := e1
  have e2 : ev 999 179 0 [.ref 46, .int (gI ν 26 (i + 1)), .int (gI ν 26 (i + 2)), .int (gI ν 26 (i + 3))] [] (fx ν1) = some (some (.int x), fx ν2) := e2
  have n1 : aln (fx ν1) 26 = N := h5.trans hN
  have b1 : inb (Int32.ofNat (i + 1)) N = true := inb_O (by omega) (by omega)
  have t1 : (Int32.ofNat (i + 1)).toNatClampNeg = i + 1 := tn_O (by omega)
  have b2 : inb (Int32.ofNat (i + 2)) N = true := inb_O (by omega) (by omega)
  have t2 : (Int32.ofNat (i + 2)).toNatClampNeg = i + 2 := tn_O (by omega)
  have b3 : inb (Int32.ofNat (i + 3)) N = true := inb_O (by omega) (by omega)
  have t3 : (Int32.ofNat (i + 3)).toNatClampNeg = i + 3 := tn_O (by omega)
  refine ⟨ν2, ?_, h1, h2, h4⟩
  rw [e_209_93, O_p1, O_q2, O_q3, hN, b1, gd_t, b2, gd_t, b3, gd_t, t1, t2, t3, e1, bnd_1, app1, e_209_94, O_p1, O_q2, O_q3, n1, b1, gd_t, b2, gd_t, b3, gd_t, t1, t2, t3, h3, e2, bnd_1, app1, e_209_95, if_pos rfl]
theorem lc_23 {ν : MM} {i N : Nat} (hI : Inv ν) (hN : aln (fx ν) 26 = N) (hi : i + 6 ≤ N) (hN2 : N ≤ 3072) : LStep ν i 97 := by
  have hI2 := hI
  obtain ⟨⟨A, T, st, H, nn, m, C, S, W, ht, hs, cs, g⟩, -⟩ := hI2
  obtain ⟨x, ν1, ν2, e1, e2, h1, h2, h3, h4, h5⟩ := i_row 998 hI (gI ν 26 (i + 1))
  have e1 : ev 999 95 0 [.ref 28, .int (gI ν 26 (i + 1))] [] (fx ν) = some (some (.int x), fx ν1) := e1
  have e2 : ev 999 180 0 [.ref 46, .int (gI ν 26 (i + 1))] [] (fx ν1) = some (some (.int x), fx ν2) := e2
  have n1 : aln (fx ν1) 26 = N := h5.trans hN
  have b1 : inb (Int32.ofNat (i + 1)) N = true := inb_O (by omega) (by omega)
  have t1 : (Int32.ofNat (i + 1)).toNatClampNeg = i + 1 := tn_O (by omega)
  refine ⟨ν2, ?_, h1, h2, h4⟩
  rw [e_209_97, O_p1, hN, b1, gd_t, t1, e1, bnd_1, app1, e_209_98, O_p1, n1, b1, gd_t, t1, h3, e2, bnd_1, app1, e_209_99, if_pos rfl]
theorem lc_24 {ν : MM} {i N : Nat} (hI : Inv ν) (hN : aln (fx ν) 26 = N) (hi : i + 6 ≤ N) (hN2 : N ≤ 3072) : LStep ν i 101 := by
  have hI2 := hI
  obtain ⟨⟨A, T, st, H, nn, m, C, S, W, ht, hs, cs, g⟩, -⟩ := hI2
  obtain ⟨x, ν1, ν2, e1, e2, h1, h2, h3, h4, h5⟩ := QI.c hI (q_looked 995 (g.qx hI.b) g.2.2.1)
  have e1 : ev 999 96 0 [.ref 28] [] (fx ν) = some (some (.int x), fx ν1) := e1
  have e2 : ev 999 181 0 [.ref 46] [] (fx ν1) = some (some (.int x), fx ν2) := e2
  refine ⟨ν2, ?_, h1, h2, h4⟩
  rw [e_209_101, e1, bnd_1, app1, e_209_102, e2, bnd_1, app1, e_209_103, if_pos rfl]
theorem lc_25 {ν : MM} {i N : Nat} (hI : Inv ν) (hN : aln (fx ν) 26 = N) (hi : i + 6 ≤ N) (hN2 : N ≤ 3072) : LStep ν i 105 := by
  have hI2 := hI
  obtain ⟨⟨A, T, st, H, nn, m, C, S, W, ht, hs, cs, g⟩, -⟩ := hI2
  obtain ⟨x, ν1, ν2, e1, e2, h1, h2, h3, h4, h5⟩ := i_act 991 hI (gI ν 26 (i + 1)) (gI ν 26 (i + 2)) (gI ν 26 (i + 3))
  have e1 : ev 999 97 0 [.ref 28, .int (gI ν 26 (i + 1)), .int (gI ν 26 (i + 2)), .int (gI ν 26 (i + 3))] [] (fx ν) = some (some (.int x), fx ν1) := e1
  have e2 : ev 999 190 0 [.ref 46, .int (gI ν 26 (i + 1)), .int (gI ν 26 (i + 2)), .int (gI ν 26 (i + 3))] [] (fx ν1) = some (some (.int x), fx ν2) := e2
  have n1 : aln (fx ν1) 26 = N := h5.trans hN
  have b1 : inb (Int32.ofNat (i + 1)) N = true := inb_O (by omega) (by omega)
  have t1 : (Int32.ofNat (i + 1)).toNatClampNeg = i + 1 := tn_O (by omega)
  have b2 : inb (Int32.ofNat (i + 2)) N = true := inb_O (by omega) (by omega)
  have t2 : (Int32.ofNat (i + 2)).toNatClampNeg = i + 2 := tn_O (by omega)
  have b3 : inb (Int32.ofNat (i + 3)) N = true := inb_O (by omega) (by omega)
  have t3 : (Int32.ofNat (i + 3)).toNatClampNeg = i + 3 := tn_O (by omega)
  refine ⟨ν2, ?_, h1, h2, h4⟩
  rw [e_209_105, O_p1, O_q2, O_q3, hN, b1, gd_t, b2, gd_t, b3, gd_t, t1, t2, t3, e1, bnd_1, app1, e_209_106, O_p1, O_q2, O_q3, n1, b1, gd_t, b2, gd_t, b3, gd_t, t1, t2, t3, h3, e2, bnd_1, app1, e_209_107, if_pos rfl]
theorem lc_26 {ν : MM} {i N : Nat} (hI : Inv ν) (hN : aln (fx ν) 26 = N) (hi : i + 6 ≤ N) (hN2 : N ≤ 3072) : LStep ν i 109 := by
  have hI2 := hI
  obtain ⟨⟨A, T, st, H, nn, m, C, S, W, ht, hs, cs, g⟩, -⟩ := hI2
  obtain ⟨x, ν1, ν2, e1, e2, h1, h2, h3, h4, h5⟩ := QI.c hI (q_trace 998 hI.2.2.2.1 hI.b (gI ν 26 (i + 1)))
  have e1 : ev 999 98 0 [.ref 28, .int (gI ν 26 (i + 1))] [] (fx ν) = some (some (.int x), fx ν1) := e1
  have e2 : ev 999 191 0 [.ref 46, .int (gI ν 26 (i + 1))] [] (fx ν1) = some (some (.int x), fx ν2) := e2
  have n1 : aln (fx ν1) 26 = N := h5.trans hN
  have b1 : inb (Int32.ofNat (i + 1)) N = true := inb_O (by omega) (by omega)
  have t1 : (Int32.ofNat (i + 1)).toNatClampNeg = i + 1 := tn_O (by omega)
  refine ⟨ν2, ?_, h1, h2, h4⟩
  rw [e_209_109, O_p1, hN, b1, gd_t, t1, e1, bnd_1, app1, e_209_110, O_p1, n1, b1, gd_t, t1, h3, e2, bnd_1, app1, e_209_111, if_pos rfl]
theorem lc_27 {ν : MM} {i N : Nat} (hI : Inv ν) (hN : aln (fx ν) 26 = N) (hi : i + 6 ≤ N) (hN2 : N ≤ 3072) : LStep ν i 113 := by
  have hI2 := hI
  obtain ⟨⟨A, T, st, H, nn, m, C, S, W, ht, hs, cs, g⟩, -⟩ := hI2
  obtain ⟨x, ν1, ν2, e1, e2, h1, h2, h3, h4, h5⟩ := QI.c hI (q_as 997 (g.qx hI.b) (gI ν 26 (i + 1)) (gI ν 26 (i + 2)))
  have e1 : ev 999 99 0 [.ref 28, .int (gI ν 26 (i + 1)), .int (gI ν 26 (i + 2))] [] (fx ν) = some (some (.int x), fx ν1) := e1
  have e2 : ev 999 192 0 [.ref 46, .int (gI ν 26 (i + 1)), .int (gI ν 26 (i + 2))] [] (fx ν1) = some (some (.int x), fx ν2) := e2
  have n1 : aln (fx ν1) 26 = N := h5.trans hN
  have b1 : inb (Int32.ofNat (i + 1)) N = true := inb_O (by omega) (by omega)
  have t1 : (Int32.ofNat (i + 1)).toNatClampNeg = i + 1 := tn_O (by omega)
  have b2 : inb (Int32.ofNat (i + 2)) N = true := inb_O (by omega) (by omega)
  have t2 : (Int32.ofNat (i + 2)).toNatClampNeg = i + 2 := tn_O (by omega)
  refine ⟨ν2, ?_, h1, h2, h4⟩
  rw [e_209_113, O_p1, O_q2, hN, b1, gd_t, b2, gd_t, t1, t2, e1, bnd_1, app1, e_209_114, O_p1, O_q2, n1, b1, gd_t, b2, gd_t, t1, t2, h3, e2, bnd_1, app1, e_209_115, if_pos rfl]
theorem lc_28 {ν : MM} {i N : Nat} (hI : Inv ν) (hN : aln (fx ν) 26 = N) (hi : i + 6 ≤ N) (hN2 : N ≤ 3072) : LStep ν i 117 := by
  have hI2 := hI
  obtain ⟨⟨A, T, st, H, nn, m, C, S, W, ht, hs, cs, g⟩, -⟩ := hI2
  obtain ⟨x, ν1, ν2, e1, e2, h1, h2, h3, h4, h5⟩ := i_image 998 hI 
  have e1 : ev 999 101 0 [.ref 28] [] (fx ν) = some (some (.int x), fx ν1) := e1
  have e2 : ev 999 193 0 [.ref 46] [] (fx ν1) = some (some (.int x), fx ν2) := e2
  refine ⟨ν2, ?_, h1, h2, h4⟩
  rw [e_209_117, e1, bnd_1, app1, e_209_118, e2, bnd_1, app1, e_209_119, if_pos rfl]
theorem lc_29 {ν : MM} {i N : Nat} (hI : Inv ν) (hN : aln (fx ν) 26 = N) (hi : i + 6 ≤ N) (hN2 : N ≤ 3072) : LStep ν i 121 := by
  have hI2 := hI
  obtain ⟨⟨A, T, st, H, nn, m, C, S, W, ht, hs, cs, g⟩, -⟩ := hI2
  obtain ⟨x, ν1, ν2, e1, e2, h1, h2, h3, h4, h5⟩ := i_undo 998 hI 
  have e1 : ev 999 102 0 [.ref 28] [] (fx ν) = some (some (.int x), fx ν1) := e1
  have e2 : ev 999 194 0 [.ref 46] [] (fx ν1) = some (some (.int x), fx ν2) := e2
  refine ⟨ν2, ?_, h1, h2, h4⟩
  rw [e_209_121, e1, bnd_1, app1, e_209_122, e2, bnd_1, app1, e_209_123, if_pos rfl]
theorem lc_30 {ν : MM} {i N : Nat} (hI : Inv ν) (hN : aln (fx ν) 26 = N) (hi : i + 6 ≤ N) (hN2 : N ≤ 3072) : LStep ν i 125 := by
  have hI2 := hI
  obtain ⟨⟨A, T, st, H, nn, m, C, S, W, ht, hs, cs, g⟩, -⟩ := hI2
  obtain ⟨x, ν1, ν2, e1, e2, h1, h2, h3, h4, h5⟩ := i_count 999 hI (gI ν 26 (i + 1))
  have e1 : ev 999 103 0 [.ref 28, .int (gI ν 26 (i + 1))] [] (fx ν) = some (some (.int x), fx ν1) := e1
  have e2 : ev 999 195 0 [.ref 46, .int (gI ν 26 (i + 1))] [] (fx ν1) = some (some (.int x), fx ν2) := e2
  have n1 : aln (fx ν1) 26 = N := h5.trans hN
  have b1 : inb (Int32.ofNat (i + 1)) N = true := inb_O (by omega) (by omega)
  have t1 : (Int32.ofNat (i + 1)).toNatClampNeg = i + 1 := tn_O (by omega)
  refine ⟨ν2, ?_, h1, h2, h4⟩
  rw [e_209_125, O_p1, hN, b1, gd_t, t1, e1, bnd_1, app1, e_209_126, O_p1, n1, b1, gd_t, t1, h3, e2, bnd_1, app1, e_209_127, if_pos rfl]
