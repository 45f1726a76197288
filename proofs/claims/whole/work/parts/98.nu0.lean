/-! the memory that the constructors leave, as a law's memory -/
def nu0 (xs : Nat → Int32) (L : Nat) : MM := (shp (k11 xs L), aln (k11 xs L), 0, msl (k11 xs L), (k11 xs L).2.2.2.2)
set_option maxRecDepth 100000 in
theorem lo_s (xs : Nat → Int32) (L : Nat) : ∀ q, q < 57 → nxt fxK[q]? (shp (k11 xs L) q) = shp (k11 xs L) q
  | 0, _ => rfl
  | 1, _ => rfl
  | 2, _ => rfl
  | 3, _ => rfl
  | 4, _ => rfl
  | 5, _ => rfl
  | 6, _ => rfl
  | 7, _ => rfl
  | 8, _ => rfl
  | 9, _ => rfl
  | 10, _ => rfl
  | 11, _ => rfl
  | 12, _ => rfl
  | 13, _ => rfl
  | 14, _ => rfl
  | 15, _ => rfl
  | 16, _ => rfl
  | 17, _ => rfl
  | 18, _ => rfl
  | 19, _ => rfl
  | 20, _ => rfl
  | 21, _ => rfl
  | 22, _ => rfl
  | 23, _ => rfl
  | 24, _ => rfl
  | 25, _ => rfl
  | 26, _ => rfl
  | 27, _ => rfl
  | 28, _ => rfl
  | 29, _ => rfl
  | 30, _ => rfl
  | 31, _ => rfl
  | 32, _ => rfl
  | 33, _ => rfl
  | 34, _ => rfl
  | 35, _ => rfl
  | 36, _ => rfl
  | 37, _ => rfl
  | 38, _ => rfl
  | 39, _ => rfl
  | 40, _ => rfl
  | 41, _ => rfl
  | 42, _ => rfl
  | 43, _ => rfl
  | 44, _ => rfl
  | 45, _ => rfl
  | 46, _ => rfl
  | 47, _ => rfl
  | 48, _ => rfl
  | 49, _ => rfl
  | 50, _ => rfl
  | 51, _ => rfl
  | 52, _ => rfl
  | 53, _ => rfl
  | 54, _ => rfl
  | 55, _ => rfl
  | 56, _ => rfl
  | n + 57, h => absurd h (by omega)
theorem nxt_s {o : Option Nat} {y x : Nat} (h : o = some y) (e : x = y) : nxt o x = x := by rw [h, e]; rfl
theorem nxo_s {o : Option Nat} {y : Nat} {x : Option Nat} (h : o = some y) (e : x = some y) : nxo o x = x := by rw [h, e]; rfl
theorem nxo_n {o x : Option Nat} (h : o = none) : nxo o x = x := by rw [h]; rfl
theorem nxt_n {o : Option Nat} {x : Nat} (h : o = none) : nxt o x = x := by rw [h]; rfl
theorem la_0 (xs : Nat → Int32) (L : Nat) : aln (k11 xs L) 0 = 0 := rfl
theorem la_1 (xs : Nat → Int32) (L : Nat) : aln (k11 xs L) 1 = 0 := rfl
theorem la_2 (xs : Nat → Int32) (L : Nat) : aln (k11 xs L) 2 = 0 := rfl
theorem la_3 (xs : Nat → Int32) (L : Nat) : aln (k11 xs L) 3 = 0 := rfl
theorem la_4 (xs : Nat → Int32) (L : Nat) : aln (k11 xs L) 4 = 0 := rfl
theorem la_5 (xs : Nat → Int32) (L : Nat) : aln (k11 xs L) 5 = 0 := rfl
theorem la_6 (xs : Nat → Int32) (L : Nat) : aln (k11 xs L) 6 = 0 := rfl
theorem la_7 (xs : Nat → Int32) (L : Nat) : aln (k11 xs L) 7 = 0 := rfl
theorem la_8 (xs : Nat → Int32) (L : Nat) : aln (k11 xs L) 8 = 0 := rfl
theorem la_9 (xs : Nat → Int32) (L : Nat) : aln (k11 xs L) 9 = 0 := rfl
theorem la_10 (xs : Nat → Int32) (L : Nat) : aln (k11 xs L) 10 = 0 := rfl
theorem la_11 (xs : Nat → Int32) (L : Nat) : aln (k11 xs L) 11 = 0 := rfl
theorem la_12 (xs : Nat → Int32) (L : Nat) : aln (k11 xs L) 12 = 0 := rfl
theorem la_13 (xs : Nat → Int32) (L : Nat) : aln (k11 xs L) 13 = strN 0 := rfl
theorem la_14 (xs : Nat → Int32) (L : Nat) : aln (k11 xs L) 14 = strN 1 := rfl
theorem la_15 (xs : Nat → Int32) (L : Nat) : aln (k11 xs L) 15 = strN 2 := rfl
theorem la_16 (xs : Nat → Int32) (L : Nat) : aln (k11 xs L) 16 = strN 3 := rfl
theorem la_17 (xs : Nat → Int32) (L : Nat) : aln (k11 xs L) 17 = strN 4 := rfl
theorem la_18 (xs : Nat → Int32) (L : Nat) : aln (k11 xs L) 18 = strN 5 := rfl
theorem la_19 (xs : Nat → Int32) (L : Nat) : aln (k11 xs L) 19 = strN 6 := rfl
theorem la_20 (xs : Nat → Int32) (L : Nat) : aln (k11 xs L) 20 = strN 7 := rfl
theorem la_21 (xs : Nat → Int32) (L : Nat) : aln (k11 xs L) 21 = strN 8 := rfl
theorem la_22 (xs : Nat → Int32) (L : Nat) : aln (k11 xs L) 22 = strN 9 := rfl
theorem la_23 (xs : Nat → Int32) (L : Nat) : aln (k11 xs L) 23 = strN 10 := rfl
theorem la_24 (xs : Nat → Int32) (L : Nat) : aln (k11 xs L) 24 = strN 11 := rfl
theorem la_25 (xs : Nat → Int32) (L : Nat) : aln (k11 xs L) 25 = strN 12 := rfl
theorem la_27 (xs : Nat → Int32) (L : Nat) : aln (k11 xs L) 27 = 0 := rfl
theorem la_28 (xs : Nat → Int32) (L : Nat) : aln (k11 xs L) 28 = 0 := rfl
theorem la_29 (xs : Nat → Int32) (L : Nat) : aln (k11 xs L) 29 = 0 := rfl
theorem la_30 (xs : Nat → Int32) (L : Nat) : aln (k11 xs L) 30 = 100 := rfl
theorem la_31 (xs : Nat → Int32) (L : Nat) : aln (k11 xs L) 31 = 0 := rfl
theorem la_32 (xs : Nat → Int32) (L : Nat) : aln (k11 xs L) 32 = 5 := rfl
theorem la_33 (xs : Nat → Int32) (L : Nat) : aln (k11 xs L) 33 = 5 := rfl
theorem la_34 (xs : Nat → Int32) (L : Nat) : aln (k11 xs L) 34 = 0 := rfl
theorem la_35 (xs : Nat → Int32) (L : Nat) : aln (k11 xs L) 35 = 100 := rfl
theorem la_36 (xs : Nat → Int32) (L : Nat) : aln (k11 xs L) 36 = 0 := rfl
theorem la_37 (xs : Nat → Int32) (L : Nat) : aln (k11 xs L) 37 = 5 := rfl
theorem la_38 (xs : Nat → Int32) (L : Nat) : aln (k11 xs L) 38 = 5 := rfl
theorem la_39 (xs : Nat → Int32) (L : Nat) : aln (k11 xs L) 39 = 0 := rfl
theorem la_40 (xs : Nat → Int32) (L : Nat) : aln (k11 xs L) 40 = 10 := rfl
theorem la_41 (xs : Nat → Int32) (L : Nat) : aln (k11 xs L) 41 = 100 := rfl
theorem la_42 (xs : Nat → Int32) (L : Nat) : aln (k11 xs L) 42 = 0 := rfl
theorem la_43 (xs : Nat → Int32) (L : Nat) : aln (k11 xs L) 43 = 20 := rfl
theorem la_44 (xs : Nat → Int32) (L : Nat) : aln (k11 xs L) 44 = 4 := rfl
theorem la_45 (xs : Nat → Int32) (L : Nat) : aln (k11 xs L) 45 = 256 := rfl
theorem la_46 (xs : Nat → Int32) (L : Nat) : aln (k11 xs L) 46 = 0 := rfl
theorem la_47 (xs : Nat → Int32) (L : Nat) : aln (k11 xs L) 47 = 1562 := rfl
theorem la_48 (xs : Nat → Int32) (L : Nat) : aln (k11 xs L) 48 = 1562 := rfl
theorem la_49 (xs : Nat → Int32) (L : Nat) : aln (k11 xs L) 49 = 5 := rfl
theorem la_50 (xs : Nat → Int32) (L : Nat) : aln (k11 xs L) 50 = 64 := rfl
theorem la_51 (xs : Nat → Int32) (L : Nat) : aln (k11 xs L) 51 = 16 := rfl
theorem la_52 (xs : Nat → Int32) (L : Nat) : aln (k11 xs L) 52 = 4 := rfl
theorem la_53 (xs : Nat → Int32) (L : Nat) : aln (k11 xs L) 53 = 4 := rfl
theorem la_54 (xs : Nat → Int32) (L : Nat) : aln (k11 xs L) 54 = 16 := rfl
theorem la_55 (xs : Nat → Int32) (L : Nat) : aln (k11 xs L) 55 = 256 := rfl
theorem la_56 (xs : Nat → Int32) (L : Nat) : aln (k11 xs L) 56 = 20 := rfl
theorem strN_fx : ∀ i, i < 13 → fxN.getD (13 + i) none = some (strN i) := by decide
theorem lo_a (xs : Nat → Int32) (L : Nat) : ∀ q, q < 57 → nxt (fxN.getD q none) (aln (k11 xs L) q) = aln (k11 xs L) q
  | 0, _ => nxt_s rfl (la_0 xs L)
  | 1, _ => nxt_s rfl (la_1 xs L)
  | 2, _ => nxt_s rfl (la_2 xs L)
  | 3, _ => nxt_s rfl (la_3 xs L)
  | 4, _ => nxt_s rfl (la_4 xs L)
  | 5, _ => nxt_s rfl (la_5 xs L)
  | 6, _ => nxt_s rfl (la_6 xs L)
  | 7, _ => nxt_s rfl (la_7 xs L)
  | 8, _ => nxt_s rfl (la_8 xs L)
  | 9, _ => nxt_s rfl (la_9 xs L)
  | 10, _ => nxt_s rfl (la_10 xs L)
  | 11, _ => nxt_s rfl (la_11 xs L)
  | 12, _ => nxt_s rfl (la_12 xs L)
  | 13, _ => nxt_s (strN_fx 0 (by decide)) (la_13 xs L)
  | 14, _ => nxt_s (strN_fx 1 (by decide)) (la_14 xs L)
  | 15, _ => nxt_s (strN_fx 2 (by decide)) (la_15 xs L)
  | 16, _ => nxt_s (strN_fx 3 (by decide)) (la_16 xs L)
  | 17, _ => nxt_s (strN_fx 4 (by decide)) (la_17 xs L)
  | 18, _ => nxt_s (strN_fx 5 (by decide)) (la_18 xs L)
  | 19, _ => nxt_s (strN_fx 6 (by decide)) (la_19 xs L)
  | 20, _ => nxt_s (strN_fx 7 (by decide)) (la_20 xs L)
  | 21, _ => nxt_s (strN_fx 8 (by decide)) (la_21 xs L)
  | 22, _ => nxt_s (strN_fx 9 (by decide)) (la_22 xs L)
  | 23, _ => nxt_s (strN_fx 10 (by decide)) (la_23 xs L)
  | 24, _ => nxt_s (strN_fx 11 (by decide)) (la_24 xs L)
  | 25, _ => nxt_s (strN_fx 12 (by decide)) (la_25 xs L)
  | 26, _ => nxt_n rfl
  | 27, _ => nxt_s rfl (la_27 xs L)
  | 28, _ => nxt_s rfl (la_28 xs L)
  | 29, _ => nxt_s rfl (la_29 xs L)
  | 30, _ => nxt_s rfl (la_30 xs L)
  | 31, _ => nxt_s rfl (la_31 xs L)
  | 32, _ => nxt_s rfl (la_32 xs L)
  | 33, _ => nxt_s rfl (la_33 xs L)
  | 34, _ => nxt_s rfl (la_34 xs L)
  | 35, _ => nxt_s rfl (la_35 xs L)
  | 36, _ => nxt_s rfl (la_36 xs L)
  | 37, _ => nxt_s rfl (la_37 xs L)
  | 38, _ => nxt_s rfl (la_38 xs L)
  | 39, _ => nxt_s rfl (la_39 xs L)
  | 40, _ => nxt_s rfl (la_40 xs L)
  | 41, _ => nxt_s rfl (la_41 xs L)
  | 42, _ => nxt_s rfl (la_42 xs L)
  | 43, _ => nxt_s rfl (la_43 xs L)
  | 44, _ => nxt_s rfl (la_44 xs L)
  | 45, _ => nxt_s rfl (la_45 xs L)
  | 46, _ => nxt_s rfl (la_46 xs L)
  | 47, _ => nxt_s rfl (la_47 xs L)
  | 48, _ => nxt_s rfl (la_48 xs L)
  | 49, _ => nxt_s rfl (la_49 xs L)
  | 50, _ => nxt_s rfl (la_50 xs L)
  | 51, _ => nxt_s rfl (la_51 xs L)
  | 52, _ => nxt_s rfl (la_52 xs L)
  | 53, _ => nxt_s rfl (la_53 xs L)
  | 54, _ => nxt_s rfl (la_54 xs L)
  | 55, _ => nxt_s rfl (la_55 xs L)
  | 56, _ => nxt_s rfl (la_56 xs L)
  | n + 57, h => absurd h (by omega)
def rT : List (Nat × Nat × Nat) := [(0, 0, 13), (1, 0, 14), (2, 0, 15), (3, 0, 16), (4, 0, 17), (5, 0, 18), (6, 0, 19), (7, 0, 20), (8, 0, 21), (9, 0, 22), (10, 0, 23), (11, 0, 24), (12, 0, 25), (28, 0, 29), (28, 1, 34), (28, 2, 39), (28, 3, 42), (28, 4, 44), (28, 5, 45), (29, 0, 30), (29, 4, 32), (29, 6, 33), (34, 0, 35), (34, 4, 37), (34, 6, 38), (39, 0, 29), (39, 1, 40), (39, 2, 41), (42, 0, 43), (46, 1, 47), (46, 2, 48), (46, 10, 49), (46, 11, 50), (46, 15, 51), (46, 16, 52), (46, 17, 53), (46, 18, 54), (46, 19, 55), (46, 20, 56)]
theorem lr_0_0 (xs : Nat → Int32) (L : Nat) : gR (k11 xs L) 0 0 = some 13 := rfl
theorem lr_1_0 (xs : Nat → Int32) (L : Nat) : gR (k11 xs L) 1 0 = some 14 := rfl
theorem lr_2_0 (xs : Nat → Int32) (L : Nat) : gR (k11 xs L) 2 0 = some 15 := rfl
theorem lr_3_0 (xs : Nat → Int32) (L : Nat) : gR (k11 xs L) 3 0 = some 16 := rfl
theorem lr_4_0 (xs : Nat → Int32) (L : Nat) : gR (k11 xs L) 4 0 = some 17 := rfl
theorem lr_5_0 (xs : Nat → Int32) (L : Nat) : gR (k11 xs L) 5 0 = some 18 := rfl
theorem lr_6_0 (xs : Nat → Int32) (L : Nat) : gR (k11 xs L) 6 0 = some 19 := rfl
theorem lr_7_0 (xs : Nat → Int32) (L : Nat) : gR (k11 xs L) 7 0 = some 20 := rfl
theorem lr_8_0 (xs : Nat → Int32) (L : Nat) : gR (k11 xs L) 8 0 = some 21 := rfl
theorem lr_9_0 (xs : Nat → Int32) (L : Nat) : gR (k11 xs L) 9 0 = some 22 := rfl
theorem lr_10_0 (xs : Nat → Int32) (L : Nat) : gR (k11 xs L) 10 0 = some 23 := rfl
theorem lr_11_0 (xs : Nat → Int32) (L : Nat) : gR (k11 xs L) 11 0 = some 24 := rfl
theorem lr_12_0 (xs : Nat → Int32) (L : Nat) : gR (k11 xs L) 12 0 = some 25 := rfl
theorem lr_28_0 (xs : Nat → Int32) (L : Nat) : gR (k11 xs L) 28 0 = some 29 := rfl
theorem lr_28_1 (xs : Nat → Int32) (L : Nat) : gR (k11 xs L) 28 1 = some 34 := rfl
theorem lr_28_2 (xs : Nat → Int32) (L : Nat) : gR (k11 xs L) 28 2 = some 39 := rfl
theorem lr_28_3 (xs : Nat → Int32) (L : Nat) : gR (k11 xs L) 28 3 = some 42 := rfl
theorem lr_28_4 (xs : Nat → Int32) (L : Nat) : gR (k11 xs L) 28 4 = some 44 := rfl
theorem lr_28_5 (xs : Nat → Int32) (L : Nat) : gR (k11 xs L) 28 5 = some 45 := rfl
theorem lr_29_0 (xs : Nat → Int32) (L : Nat) : gR (k11 xs L) 29 0 = some 30 := rfl
theorem lr_29_4 (xs : Nat → Int32) (L : Nat) : gR (k11 xs L) 29 4 = some 32 := rfl
theorem lr_29_6 (xs : Nat → Int32) (L : Nat) : gR (k11 xs L) 29 6 = some 33 := rfl
theorem lr_34_0 (xs : Nat → Int32) (L : Nat) : gR (k11 xs L) 34 0 = some 35 := rfl
theorem lr_34_4 (xs : Nat → Int32) (L : Nat) : gR (k11 xs L) 34 4 = some 37 := rfl
theorem lr_34_6 (xs : Nat → Int32) (L : Nat) : gR (k11 xs L) 34 6 = some 38 := rfl
theorem lr_39_0 (xs : Nat → Int32) (L : Nat) : gR (k11 xs L) 39 0 = some 29 := rfl
theorem lr_39_1 (xs : Nat → Int32) (L : Nat) : gR (k11 xs L) 39 1 = some 40 := rfl
theorem lr_39_2 (xs : Nat → Int32) (L : Nat) : gR (k11 xs L) 39 2 = some 41 := rfl
theorem lr_42_0 (xs : Nat → Int32) (L : Nat) : gR (k11 xs L) 42 0 = some 43 := rfl
theorem lr_46_1 (xs : Nat → Int32) (L : Nat) : gR (k11 xs L) 46 1 = some 47 := rfl
theorem lr_46_2 (xs : Nat → Int32) (L : Nat) : gR (k11 xs L) 46 2 = some 48 := rfl
theorem lr_46_10 (xs : Nat → Int32) (L : Nat) : gR (k11 xs L) 46 10 = some 49 := rfl
theorem lr_46_11 (xs : Nat → Int32) (L : Nat) : gR (k11 xs L) 46 11 = some 50 := rfl
theorem lr_46_15 (xs : Nat → Int32) (L : Nat) : gR (k11 xs L) 46 15 = some 51 := rfl
theorem lr_46_16 (xs : Nat → Int32) (L : Nat) : gR (k11 xs L) 46 16 = some 52 := rfl
theorem lr_46_17 (xs : Nat → Int32) (L : Nat) : gR (k11 xs L) 46 17 = some 53 := rfl
theorem lr_46_18 (xs : Nat → Int32) (L : Nat) : gR (k11 xs L) 46 18 = some 54 := rfl
theorem lr_46_19 (xs : Nat → Int32) (L : Nat) : gR (k11 xs L) 46 19 = some 55 := rfl
theorem lr_46_20 (xs : Nat → Int32) (L : Nat) : gR (k11 xs L) 46 20 = some 56 := rfl
theorem rT_ok (xs : Nat → Int32) (L : Nat) : ∀ e ∈ rT, gR (k11 xs L) e.1 e.2.1 = some e.2.2 := List.forall_mem_cons.mpr ⟨lr_0_0 xs L, List.forall_mem_cons.mpr ⟨lr_1_0 xs L, List.forall_mem_cons.mpr ⟨lr_2_0 xs L, List.forall_mem_cons.mpr ⟨lr_3_0 xs L, List.forall_mem_cons.mpr ⟨lr_4_0 xs L, List.forall_mem_cons.mpr ⟨lr_5_0 xs L, List.forall_mem_cons.mpr ⟨lr_6_0 xs L, List.forall_mem_cons.mpr ⟨lr_7_0 xs L, List.forall_mem_cons.mpr ⟨lr_8_0 xs L, List.forall_mem_cons.mpr ⟨lr_9_0 xs L, List.forall_mem_cons.mpr ⟨lr_10_0 xs L, List.forall_mem_cons.mpr ⟨lr_11_0 xs L, List.forall_mem_cons.mpr ⟨lr_12_0 xs L, List.forall_mem_cons.mpr ⟨lr_28_0 xs L, List.forall_mem_cons.mpr ⟨lr_28_1 xs L, List.forall_mem_cons.mpr ⟨lr_28_2 xs L, List.forall_mem_cons.mpr ⟨lr_28_3 xs L, List.forall_mem_cons.mpr ⟨lr_28_4 xs L, List.forall_mem_cons.mpr ⟨lr_28_5 xs L, List.forall_mem_cons.mpr ⟨lr_29_0 xs L, List.forall_mem_cons.mpr ⟨lr_29_4 xs L, List.forall_mem_cons.mpr ⟨lr_29_6 xs L, List.forall_mem_cons.mpr ⟨lr_34_0 xs L, List.forall_mem_cons.mpr ⟨lr_34_4 xs L, List.forall_mem_cons.mpr ⟨lr_34_6 xs L, List.forall_mem_cons.mpr ⟨lr_39_0 xs L, List.forall_mem_cons.mpr ⟨lr_39_1 xs L, List.forall_mem_cons.mpr ⟨lr_39_2 xs L, List.forall_mem_cons.mpr ⟨lr_42_0 xs L, List.forall_mem_cons.mpr ⟨lr_46_1 xs L, List.forall_mem_cons.mpr ⟨lr_46_2 xs L, List.forall_mem_cons.mpr ⟨lr_46_10 xs L, List.forall_mem_cons.mpr ⟨lr_46_11 xs L, List.forall_mem_cons.mpr ⟨lr_46_15 xs L, List.forall_mem_cons.mpr ⟨lr_46_16 xs L, List.forall_mem_cons.mpr ⟨lr_46_17 xs L, List.forall_mem_cons.mpr ⟨lr_46_18 xs L, List.forall_mem_cons.mpr ⟨lr_46_19 xs L, List.forall_mem_cons.mpr ⟨lr_46_20 xs L, fun _ h => absurd h (List.not_mem_nil)⟩⟩⟩⟩⟩⟩⟩⟩⟩⟩⟩⟩⟩⟩⟩⟩⟩⟩⟩⟩⟩⟩⟩⟩⟩⟩⟩⟩⟩⟩⟩⟩⟩⟩⟩⟩⟩⟩⟩
theorem rT_is : ∀ q, q < 57 → ∀ k, k < 21 → (fxR.getD q []).getD k none = none ∨ ∃ e ∈ rT, e.1 = q ∧ e.2.1 = k ∧ (fxR.getD q []).getD k none = some e.2.2 := by decide +kernel
theorem rT_ln : ∀ q, q < 57 → (fxR.getD q []).length ≤ 21 := by decide +kernel
theorem lo_r (xs : Nat → Int32) (L : Nat) (q : Nat) (hq : q < 57) (k : Nat) : nxo ((fxR.getD q []).getD k none) (gR (k11 xs L) q k) = gR (k11 xs L) q k := by
  by_cases hk : k < 21
  · rcases rT_is q hq k hk with h | ⟨e, he, h1, h2, h3⟩
    · exact nxo_n h
    · refine nxo_s h3 ?_
      rw [← h1, ← h2]
      exact rT_ok xs L e he
  · refine nxo_n ?_
    have := rT_ln q hq
    rw [List.getD_eq_getElem?_getD, List.getElem?_eq_none (by omega)]
    rfl
theorem fx_nu0 (xs : Nat → Int32) (L : Nat) : fx (nu0 xs L) = k11 xs L := by
  have e1 : (fun q => nxt fxK[q]? (shp (k11 xs L) q)) = shp (k11 xs L) := by
    funext q
    by_cases h : q < 57
    · exact lo_s xs L q h
    · exact nxt_n (List.getElem?_eq_none (by show 57 ≤ q; omega))
  have e2 : (fun q => nxt (fxN.getD q none) (aln (k11 xs L) q)) = aln (k11 xs L) := by
    funext q
    by_cases h : q < 57
    · exact lo_a xs L q h
    · refine nxt_n ?_
      rw [List.getD_eq_getElem?_getD, List.getElem?_eq_none (by show 57 ≤ q; omega)]
      rfl
  have e3 : (fun q k => nxo ((fxR.getD q []).getD k none) (gR (k11 xs L) q k)) = gR (k11 xs L) := by
    funext q k
    by_cases h : q < 57
    · exact lo_r xs L q h k
    · refine nxo_n ?_
      rw [List.getD_eq_getElem?_getD (l := fxR), List.getElem?_eq_none (by show 57 ≤ q; omega)]
      rfl
  have e4 : 0 + 57 = msz (k11 xs L) := rfl
  show (fun q => nxt fxK[q]? (shp (k11 xs L) q), fun q => nxt (fxN.getD q none) (aln (k11 xs L) q), 0 + 57, msl (k11 xs L), gI (k11 xs L), gL (k11 xs L), fun q k => nxo ((fxR.getD q []).getD k none) (gR (k11 xs L) q k)) = k11 xs L
  rw [e1, e2, e3, e4]
  rfl
