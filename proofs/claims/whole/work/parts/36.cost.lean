/-! what a WAY COSTS -/
theorem bq : Nat.beq 0 0 = true ∧ Nat.beq 1 0 = false ∧ Nat.beq 1 1 = true ∧ Nat.beq 2 0 = false ∧ Nat.beq 2 1 = false ∧ Nat.beq 2 2 = true ∧ Nat.beq 4 0 = false ∧ Nat.beq 4 1 = false ∧ Nat.beq 4 2 = false ∧ Nat.beq 4 4 = true ∧ Nat.beq 6 0 = false ∧ Nat.beq 6 1 = false ∧ Nat.beq 6 2 = false ∧ Nat.beq 6 4 = false ∧ Nat.beq 6 6 = true ∧ Nat.beq 7 0 = false ∧ Nat.beq 7 1 = false ∧ Nat.beq 7 2 = false ∧ Nat.beq 7 4 = false ∧ Nat.beq 7 6 = false ∧ Nat.beq 7 7 = true ∧ Nat.beq 8 0 = false ∧ Nat.beq 8 1 = false ∧ Nat.beq 8 2 = false ∧ Nat.beq 8 4 = false ∧ Nat.beq 8 6 = false ∧ Nat.beq 8 7 = false ∧ Nat.beq 8 8 = true := by decide
def cst (k v co : Nat) (cs : List Cl) (H : Nat) : Int32 := Int32.ofNat co + (if k = 4 then Int32.ofNat v else 0) + tog (fb (by4 9 9 (Int32.ofNat (H % 12)) (Int32.ofNat k))) cs 2
theorem clsK_in {k : Nat} (h : k < 7) : cin [0, 1, 2, 4, 6, 7, 8] (clsK k) = true := by
  have q : ∀ k, k < 7 → cin [0, 1, 2, 4, 6, 7, 8] (clsK k) = true := by decide
  exact q k h
theorem s_56 (d : Nat) {ν : MM} {A r k v hs co st H : Nat} {cs : List Cl} (hA : gR ν 29 2 = some A) (hC : CoA ν A cs) (hc : ∀ c ∈ cs, okTs 4 c.2.2) (hH : gI ν 29 10 = Int32.ofNat H) (hH2 : H ≤ 100000) (hR : RnV ν r k v hs co st) : ev (d + 3) 56 0 [.ref 29, .ref r] [] (fx ν) = some (some (.int (cst k v co cs H)), fx ν) := by
  obtain ⟨-, h1, hk, -, -, -, -, hk0, h2, h3, h4, -⟩ := hR
  have tail : ∀ x : Int32, ev (d + 3) 56 1 [.ref 29, .ref r] [.int x, .int (Int32.ofNat co)] (fx ν) = some (some (.int (Int32.ofNat co + x + tog (fb (by4 9 9 (Int32.ofNat (H % 12)) (Int32.ofNat k))) cs 2)), fx ν) := by
    intro x
    have n8 : (8 : Int32) &&& 31 = 8 := rfl
    have n12 : (12 : Int32) &&& 31 = 12 := rfl
    rw [e_56_1, h1, clsK_in hk, gd_t, e_111_0, bnd_1, app1, hk0, hH, O_rem12 (by omega), n8, n12]
    refine (e_56_2 ..).trans ?_
    rw [s_57 d _ _ hA hC, bnd_1, app1]
    refine (e_56_3 ..).trans ?_
    rw [tog_ff (B := 4) (y := by4 9 9 (Int32.ofNat (H % 12)) (Int32.ofNat k)) (fun a ha => packW_num k hk _ (Nat.mod_lt _ (by decide)) a ha) hc]
  have t0 : ∀ (x : Int32) (y : Rs), y = bnd 1 (some (some (.int x), fx ν)) (fun rs μ1 => ev (d + 3) 56 1 [.ref 29, .ref r] (rs ++ [.int (Int32.ofNat co)]) μ1) → (if k = 4 then Int32.ofNat v else 0) = x → y = some (some (.int (cst k v co cs H)), fx ν) := by
    intro x y e c
    rw [e, bnd_1, app1]
    refine (tail x).trans ?_
    unfold cst
    rw [c]
  rw [e_56_0, h1, clsK_in hk, gd_t, e_35_0, e_40_0, h4, h2]
  clear tail
  have hk7 : k = 0 ∨ k = 1 ∨ k = 2 ∨ k = 3 ∨ k = 4 ∨ k = 5 ∨ k = 6 := by omega
  rcases hk7 with c | c | c | c | c | c | c
  · exact t0 0 _ (by rw [c]; rfl) (if_neg (by omega))
  · exact t0 0 _ (by rw [c]; rfl) (if_neg (by omega))
  · exact t0 0 _ (by rw [c]; rfl) (if_neg (by omega))
  · exact t0 0 _ (by rw [c]; rfl) (if_neg (by omega))
  · exact t0 (Int32.ofNat v) _ (by rw [h1, c]; rfl) (if_pos c)
  · exact t0 0 _ (by rw [c]; rfl) (if_neg (by omega))
  · exact t0 0 _ (by rw [c]; rfl) (if_neg (by omega))
/-- the model's costsOf -/
theorem s_144 (d : Nat) {ν : MM} {w k v hs co st H : Nat} {cs : List Cl} (hw : w < 5) (hM : MCo ν 47 cs) (hc : ∀ c ∈ cs, okTs 4 c.2.2) (hb : b01 (gI ν 50 0) = true) (hH : gI ν 47 7 = Int32.ofNat H) (hH2 : H ≤ 100000) (hk : k < 7) (hR : MwV ν 47 w k v hs co st) : ∃ ν', ev (d + 3) 144 0 [.ref 46, .int (Int32.ofNat w)] [] (fx ν) = some (some (.int (cst k v co cs H)), fx ν') ∧ Fr Pl Q0 ν ν' ∧ b01 (gI ν' 50 0) = true := by
  obtain ⟨n24, n19, n14, n34, n29⟩ := w_num w hw
  obtain ⟨m1, m2, m3, m4, m5⟩ := hR
  obtain ⟨ν1, e1, f1, -, -, g3, g4⟩ := s_135 d (ν := ν) 9 9 (gI ν 47 7) (gI ν 47 (14 + w)) hM hc hb
  have r47 := f1.rowl (q := 47) rfl rfl rfl
  refine ⟨ν1, ?_, f1, g4⟩
  rw [e_144_0, n14, inb_O (by omega) (by omega), gd_t, tn_O (by omega), e1, bnd_0, app0, e_144_1, n29, n14, inb_O (by omega) (by omega), gd_t, inb_O (by omega) (by omega), gd_t, tn_O (by omega), tn_O (by omega), r47, m1, m4, g3, m1, hH, O_rem12 (by omega), e_144_2, n19, inb_O (by omega) (by omega), gd_t, tn_O (by omega), r47, m2, e_144_3, e_144_4, e_144_4]
  unfold cst
  have q : ∀ k, k < 7 → ((Int32.ofNat k = 4) ↔ k = 4) := by decide
  by_cases c : k = 4
  · rw [if_pos ((q k hk).mpr c), if_pos c, Int32.add_assoc, Int32.add_assoc, Int32.add_comm (tog _ _ _)]
  · rw [if_neg (fun e => c ((q k hk).mp e)), if_neg c, Int32.add_zero, Int32.add_zero]
