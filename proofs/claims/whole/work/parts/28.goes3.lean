/-! a COAST's steps; what the model looks up -/
def StA (ν : MM) (S : Nat) : Nat → List Cl → Prop
  | _, [] => True
  | i, c :: cs => okcl c ∧ (∀ j, (h : j < c.2.2.length) → gI ν S (i + j) = cvt c.2.2[j]) ∧ gI ν S (i + c.2.2.length) = kst c.1 c.2.1 ∧ StA ν S (i + c.2.2.length + 1) cs
def tln : List Cl → Nat
  | [] => 0
  | c :: cs => c.2.2.length + 1 + tln cs
theorem StA.of {ν ν' : MM} {S S' : Nat} (h : gI ν' S' = gI ν S) : ∀ {cs : List Cl} {i : Nat}, StA ν S i cs → StA ν' S' i cs
  | [], _, _ => trivial
  | c :: cs, i, g => ⟨g.1, by rw [h]; exact g.2.1, by rw [h]; exact g.2.2.1, StA.of h g.2.2.2⟩
theorem smc_cons (f : Int32 → Bool) (w : Int32) (c : Cl) (cs : List Cl) (a : Int32) : smc f w (c :: cs) a = smc f w cs (adc w c (hld f c.2.2) a) := rfl
theorem g_cls (d : Nat) (F M : Int32) (N : Nat) (hN : N ≤ 1562) (hF : F + M = Int32.ofNat N) : ∀ (cs : List Cl) (ν : MM) (i : Nat), StA ν 47 i cs → i + tln cs = N → ∃ ν', ev (d + 1) 134 4 [.ref 46, .int F, .int M, .int (Int32.ofNat 0), .int (Int32.ofNat i)] [] (fx ν) = ev (d + 1) 134 4 [.ref 46, .int F, .int M, .int (Int32.ofNat 0), .int (Int32.ofNat N)] [] (fx ν') ∧ Fr Pg Q0 ν ν' ∧ gI ν' 46 12 = smc (fb (gI ν 49)) 0 cs (gI ν 46 12) ∧ gI ν' 46 13 = smc (fb (gI ν 49)) 1 cs (gI ν 46 13) ∧ gI ν' 46 14 = smc (fb (gI ν 49)) 2 cs (gI ν 46 14) ∧ (b01 (gI ν 50 0) = true → b01 (gI ν' 50 0) = true)
  | [], ν, i, _, hi => by
    have hi : i = N := hi
    exact ⟨ν, by rw [hi], Fr.rf, rfl, rfl, rfl, fun h => h⟩
  | c :: cs, ν, i, hs, hi => by
    have hi : i + (c.2.2.length + 1 + tln cs) = N := hi
    obtain ⟨hc, h1, h2, h3⟩ := hs
    obtain ⟨ν1, e1, f1, t1, l1, b1⟩ := g_toks d F M N hN hF c.2.2 ν [] i 1 hc.2.1 hc.2.2 (by decide) trivial h1 (by omega)
    have r49 := f1.row5 (q := 49) rfl
    have r47 := f1.row5 (q := 47) rfl
    have hb : gI ν1 50 0 = bI (hld (fb (gI ν 49)) c.2.2) := by
      unfold hld
      match hq : c.2.2.foldl (stp (fb (gI ν 49))) [], l1 with
      | [b], _ => rw [hq] at t1; exact t1.1
      | [], l => exact absurd l (by decide)
      | _ :: _ :: _, l => exact absurd l (by simp)
    obtain ⟨ν2, e2, f2, g12, g13, g14⟩ := g_kst d F M hc (i := i + c.2.2.length) (h := 1) (b := hld (fb (gI ν 49)) c.2.2) (by omega) (by rw [hF, O_le (by omega) (by omega)]; omega) (by rw [r47]; exact h2) hb
    have f2' : Fr Pg Q0 ν1 ν2 := f2.mono Pk_Pg (fun _ h => h)
    have f1' : Fr Pg Q0 ν ν1 := f1.mono P5_Pg (fun _ h => h)
    have f12 := f1'.tr f2'
    have s49 := f12.row (q := 49) rfl rfl
    have s47 := f12.row (q := 47) rfl rfl
    obtain ⟨ν3, e3, f3, k12, k13, k14, b3⟩ := g_cls d F M N hN hF cs ν2 (i + c.2.2.length + 1) (StA.of s47 h3) (by omega)
    have q46 : gI ν1 46 = gI ν 46 := f1.row5 rfl
    refine ⟨ν3, e1.trans (e2.trans e3), f12.tr f3, ?_, ?_, ?_, fun h => b3 (by rw [f2.rI 50 0 rfl]; exact b1 h)⟩
    · rw [k12, g12, s49, q46, smc_cons]
    · rw [k13, g13, s49, q46, smc_cons]
    · rw [k14, g14, s49, q46, smc_cons]
theorem m2_1 (s : Int32) : m2 1 s = if s ≤ 2 then s else 2 := by
  unfold m2
  rw [if_pos rfl]
  by_cases c : s ≤ 2
  · rw [if_pos c]
    by_cases c1 : s < 2
    · rw [if_pos c1]
    · rw [if_neg c1]
      exact Int32.le_antisymm (Int32.not_lt.mp c1) c
  · rw [if_neg c, if_neg (fun h => c (Int32.le_of_lt h))]
theorem m2_0 (s : Int32) : m2 0 s = s := if_neg (by decide)
theorem m2_2 (s : Int32) : m2 2 s = s := if_neg (by decide)
theorem act_num : ∀ a, a < 10 → Int32.ofNat a ≠ -1 ∧ (162 : Int32) + 140 * Int32.ofNat a = Int32.ofNat (162 + 140 * a) ∧ (152 : Int32) + Int32.ofNat a = Int32.ofNat (152 + a) := by decide
def MCo (ν : MM) (S : Nat) (cs : List Cl) : Prop := (gI ν S 6 = -1 ∧ cs = []) ∨ ∃ a, a < 5 ∧ gI ν S 6 = Int32.ofNat a ∧ gI ν S (152 + a) = Int32.ofNat (tln cs) ∧ tln cs ≤ 140 ∧ StA ν S (162 + 140 * a) cs
/-- the end of goesThrough -/
theorem g_end (d : Nat) {F M : Int32} {N : Nat} {ν : MM} {h : Int32} (hF : F + M = Int32.ofNat N) (hN : N ≤ 1562) (hb : b01 (gI ν 50 0) = true) : ev d 134 4 [.ref 46, .int F, .int M, .int h, .int (Int32.ofNat N)] [] (fx ν) = some (some (.int (gI ν 50 0)), fx (sI ν 46 13 (m2 1 (gI ν 46 13)))) := by
  rw [e_134_4, hF, if_pos (by rw [O_le (by omega) (by omega)]; omega), e_134_39, m2_1, e_134_41, e_134_40, e_134_42, e_134_42]
  have e : ∀ v, gI (sI ν 46 13 v) 50 0 = gI ν 50 0 := fun v => rfl
  rw [e, e, hb, gd_t, gd_t]
  by_cases c : gI ν 46 13 ≤ 2
  · rw [if_pos c, if_pos c]
  · rw [if_neg c, if_neg c]
theorem s_134c (d : Nat) {ν : MM} {cs : List Cl} (h : MCo ν 47 cs) (hb : b01 (gI ν 50 0) = true) : ∃ r ν', ev (d + 1) 134 0 [.ref 46, .int (gI ν 47 6)] [] (fx ν) = some (some (.int r), fx ν') ∧ Fr Pg Q0 ν ν' ∧ gI ν' 46 12 = tog (fb (gI ν 49)) cs 0 ∧ gI ν' 46 13 = tog (fb (gI ν 49)) cs 1 ∧ gI ν' 46 14 = tog (fb (gI ν 49)) cs 2 ∧ b01 (gI ν' 50 0) = true := by
  have f0 : Fr Pg Q0 ν (sI (sI (sI ν 46 12 0) 46 13 0) 46 14 0) := (Fr.wI _ rfl).tr ((Fr.wI _ rfl).tr (Fr.wI _ rfl))
  have z49 : gI (sI (sI (sI ν 46 12 0) 46 13 0) 46 14 0) 49 = gI ν 49 := f0.row rfl rfl
  have z47 : gI (sI (sI (sI ν 46 12 0) 46 13 0) 46 14 0) 47 = gI ν 47 := f0.row rfl rfl
  have zb : b01 (gI (sI (sI (sI ν 46 12 0) 46 13 0) 46 14 0) 50 0) = true := hb
  have fin : ∀ (ν1 : MM), Fr Pg Q0 ν ν1 → gI ν1 46 12 = smc (fb (gI ν 49)) 0 cs 0 → gI ν1 46 13 = smc (fb (gI ν 49)) 1 cs 0 → gI ν1 46 14 = smc (fb (gI ν 49)) 2 cs 0 → b01 (gI ν1 50 0) = true → Fr Pg Q0 ν (sI ν1 46 13 (m2 1 (gI ν1 46 13))) ∧ gI (sI ν1 46 13 (m2 1 (gI ν1 46 13))) 46 12 = tog (fb (gI ν 49)) cs 0 ∧ gI (sI ν1 46 13 (m2 1 (gI ν1 46 13))) 46 13 = tog (fb (gI ν 49)) cs 1 ∧ gI (sI ν1 46 13 (m2 1 (gI ν1 46 13))) 46 14 = tog (fb (gI ν 49)) cs 2 ∧ b01 (gI (sI ν1 46 13 (m2 1 (gI ν1 46 13))) 50 0) = true := by
    intro ν1 f1 g1 g2 g3 g4
    refine ⟨f1.tr (Fr.wI _ rfl), ?_, ?_, ?_, g4⟩
    · show gI ν1 46 12 = _
      unfold tog
      rw [g1, m2_0]
    · show m2 1 (gI ν1 46 13) = _
      rw [g2]
      rfl
    · show gI ν1 46 14 = _
      unfold tog
      rw [g3, m2_2]
  rcases h with ⟨h6, rfl⟩ | ⟨a, ha, h6, hm, hl, hs⟩
  · rw [h6, e_134_0, if_pos rfl, e_134_1, e_134_3]
    have hF : ((162 : Int32) + 140 * (-1)) + 0 = Int32.ofNat 22 := by decide
    have hF2 : (162 : Int32) + 140 * (-1) = Int32.ofNat 22 := by decide
    have := g_end (d + 1) (F := (162 : Int32) + 140 * (-1)) (M := 0) (N := 22) (h := 0) hF (by decide) zb
    rw [← hF2] at this
    exact ⟨_, _, this, fin _ f0 rfl rfl rfl zb⟩
  · obtain ⟨n1, n2, n3⟩ := act_num a (by omega)
    rw [h6, e_134_0, if_neg n1, e_134_2, n3, inb_O (by omega) (by omega), gd_t, tn_O (by omega), z47, hm, e_134_3, n2]
    have hF : Int32.ofNat (162 + 140 * a) + Int32.ofNat (tln cs) = Int32.ofNat (162 + 140 * a + tln cs) := (Int32.ofNat_add _ _).symm
    obtain ⟨ν1, e1, f1, g1, g2, g3, g4⟩ := g_cls d _ _ _ (by omega) hF cs _ (162 + 140 * a) (StA.of z47 hs) rfl
    rw [z49] at g1 g2 g3
    exact ⟨_, _, e1.trans (g_end (d + 1) hF (by omega) (g4 zb)), fin _ (f0.tr f1) g1 g2 g3 (g4 zb)⟩
