/-! the model's weights: how often (two for each HOUR) a THING is in a STATE -/
theorem W_num : ∀ f, f < 3 → ((2 : Int32) - Int32.ofNat f).toInt64 = Int64.ofNat (2 - f) ∧ (Int32.ofNat f).toInt64 = Int64.ofNat f := by decide
theorem L_add (a b : Nat) : Int64.ofNat a + Int64.ofNat b = Int64.ofNat (a + b) := (Int64.ofNat_add a b).symm
theorem L_mul (a b : Nat) : Int64.ofNat a * Int64.ofNat b = Int64.ofNat (a * b) := (Int64.ofNat_mul a b).symm
theorem ix_num : ∀ t, t < 4 → ∀ k, k < 4 → (4 : Int32) * Int32.ofNat t + Int32.ofNat k = Int32.ofNat (4 * t + k) := by decide
/-- one STATE's share goes on -/
def addw (u : Nat → Nat) (a f n : Nat) : Nat → Nat := fun j => u j + (if j = a then (2 - f) * n else 0) + (if j = (a + 1) % 4 then f * n else 0)
def gon (cs : List Cl) (t h : Nat) (w : Nat → Nat) : Nat → Nat := addw (addw (addw (addw (fun _ => 0) (nxN cs t 0 h) (dfN cs t 0 h) (w 0)) (nxN cs t 1 h) (dfN cs t 1 h) (w 1)) (nxN cs t 2 h) (dfN cs t 2 h) (w 2)) (nxN cs t 3 h) (dfN cs t 3 h) (w 3)
def Q52 (q : Nat) : Bool := Nat.beq q 52
theorem gn_num : ∀ a, a < 4 → (Int32.ofNat a + 1) - (Int32.ofNat a + 1) / 4 * 4 = Int32.ofNat ((a + 1) % 4) ∧ (a + 1) % 4 < 4 := by decide
theorem l_151 (d : Nat) {T H h t : Nat} {cs : List Cl} (hh : h ≤ 100000) (ht : t < 4) {ν : MM} (hM : MO ν T H cs) {k : Nat} (hk : k < 4) (u : Nat → Nat) (n : Nat) (hu : ∀ j, j < 4 → gL ν 52 j = Int64.ofNat (u j)) (hw : gL ν 51 (4 * t + k) = Int64.ofNat n) : ∃ ν', ev (d + 3) 151 4 [.ref 46, .int (Int32.ofNat t), .int (Int32.ofNat h), .int (Int32.ofNat k)] [] (fx ν) = ev (d + 3) 151 4 [.ref 46, .int (Int32.ofNat t), .int (Int32.ofNat h), .int (Int32.ofNat (k + 1))] [] (fx ν') ∧ Fr PS Q52 ν ν' ∧ b01 (gI ν' 50 0) = true ∧ ∀ j, j < 4 → gL ν' 52 j = Int64.ofNat (addw u (nxN cs t k h) (dfN cs t k h) n j) := by
  obtain ⟨hC, hc, hb, -, -, -, -⟩ := hM
  obtain ⟨ν1, e1, f1, g12, g13, -, b1⟩ := s_135 d (ν := ν) (Int32.ofNat t) (Int32.ofNat k) (Int32.ofNat h) 9 hC hc.2.2 hb
  rw [O_rem12 (by omega)] at g12 g13
  obtain ⟨a1, a2⟩ := tu_n hc t k h
  obtain ⟨d1, d2⟩ := df_n hc t k h
  have g12 : gI ν1 46 12 = Int32.ofNat (tuN cs t k h) := g12.trans a1
  have g13 : gI ν1 46 13 = Int32.ofNat (dfN cs t k h) := g13.trans d1
  have hl := f1.rL
  have fa : Fr PS Q52 ν ν1 := f1.mono (fun _ _ e => (Bool.or_eq_false_iff.mp e).1) (fun _ _ => rfl)
  have ha := nx_lt cs t k h
  obtain ⟨ga, gb'⟩ := gn_num _ ha
  obtain ⟨w1, w2⟩ := W_num (dfN cs t k h) (by omega)
  refine ⟨sL (sL ν1 52 (nxN cs t k h) (Int64.ofNat (u (nxN cs t k h) + (2 - dfN cs t k h) * n))) 52 ((nxN cs t k h + 1) % 4) (Int64.ofNat (u ((nxN cs t k h + 1) % 4) + dfN cs t k h * n)), ?_, fa.tr ((Fr.wL _ rfl).tr (Fr.wL _ rfl)), b1, ?_⟩
  · rw [e_151_4, if_neg (ge4 k hk), e_151_5, e1, bnd_0, app0]
    refine (e_151_6 ..).trans ?_
    have e0 : (Int32.ofNat k + gI ν1 46 12) - (Int32.ofNat k + gI ν1 46 12) / 4 * 4 = Int32.ofNat (nxN cs t k h) := by
      rw [g12, O_add, O_rem4 (by omega)]
      rfl
    rw [e0, e_151_7, ix_num t ht k hk, inb_O (by omega) (by omega), inb_O (by omega) (by omega), gd_t, gd_t, gd_t, tn_O (by omega), tn_O (by omega), hl _ _ rfl, hl _ _ rfl, hu _ ha, hw, g13, w1, L_mul, L_add]
    rw [e_151_8, ga, ix_num t ht k hk, inb_O gb' (by omega), inb_O (by omega) (by omega), gd_t, gd_t, gd_t, tn_O (by omega), tn_O (by omega), gL_sL, gL_sL, if_neg (by omega), if_neg (by omega), hl _ _ rfl, hl _ _ rfl, hu _ gb', hw, gI_sL, g13, w2, L_mul, L_add, O_succ]
  · intro j hj
    rw [gL_sL, gL_sL, hl _ _ rfl, hu j hj]
    unfold addw
    by_cases c1 : j = (nxN cs t k h + 1) % 4
    · rw [if_pos ⟨rfl, c1⟩, if_neg (by omega), if_pos c1, ← c1]; rfl
    · rw [if_neg (fun h => c1 h.2), if_neg c1]
      by_cases c2 : j = nxN cs t k h
      · rw [if_pos ⟨rfl, c2⟩, if_pos c2, c2]; rfl
      · rw [if_neg (fun h => c2 h.2), if_neg c2]; rfl
theorem l_151a (d : Nat) (v1 v2 : Int32) {ν : MM} {k : Nat} (hk : k < 4) : ev d 151 1 [.ref 46, .int v1, .int v2, .int (Int32.ofNat k)] [] (fx ν) = ev d 151 1 [.ref 46, .int v1, .int v2, .int (Int32.ofNat (k + 1))] [] (fx (sL ν 52 k 0)) := by
  rw [e_151_1, if_neg (ge4 k hk), e_151_2, inb_O hk (by omega), gd_t, tn_O (by omega), O_succ]
theorem l_151c (d : Nat) {t : Nat} (ht : t < 4) {ν : MM} {k : Nat} (hk : k < 4) : ev d 151 10 [.ref 46, .int (Int32.ofNat t), .int (Int32.ofNat k)] [] (fx ν) = ev d 151 10 [.ref 46, .int (Int32.ofNat t), .int (Int32.ofNat (k + 1))] [] (fx (sL ν 51 (4 * t + k) (gL ν 52 k))) := by
  rw [e_151_10, if_neg (ge4 k hk), e_151_11, ix_num t ht k hk, inb_O hk (by omega), inb_O (by omega) (by omega), gd_t, gd_t, tn_O (by omega), tn_O (by omega), O_succ]
def WM (ν : MM) (w : Nat → Nat → Nat) : Prop := ∀ t, t < 4 → ∀ k, k < 4 → gL ν 51 (4 * t + k) = Int64.ofNat (w t k)
theorem Q52_S (q : Nat) (h : QS q = false) : Q52 q = false := (Bool.or_eq_false_iff.mp (Bool.or_eq_false_iff.mp h).2).2
/-- goesOn -/
theorem s_151 (d : Nat) {T H h t : Nat} {cs : List Cl} (hh : h ≤ 100000) (ht : t < 4) {ν : MM} (hM : MO ν T H cs) (w : Nat → Nat → Nat) (hw : WM ν w) : ∃ ν', ev (d + 3) 151 0 [.ref 46, .int (Int32.ofNat t), .int (Int32.ofNat h)] [] (fx ν) = some (none, fx ν') ∧ Fr PS QS ν ν' ∧ b01 (gI ν' 50 0) = true ∧ WM ν' (fun t' k => if t' = t then gon cs t h (w t) k else w t' k) := by
  have z0 : (0 : Int32) = Int32.ofNat 0 := rfl
  have f0 : Fr PS Q52 ν (sL (sL (sL (sL ν 52 0 0) 52 1 0) 52 2 0) 52 3 0) := (Fr.wL _ rfl).tr ((Fr.wL _ rfl).tr ((Fr.wL _ rfl).tr (Fr.wL _ rfl)))
  have go : ∀ {ν ν1 : MM}, Fr PS Q52 ν ν1 → b01 (gI ν1 50 0) = true → MO ν T H cs → MO ν1 T H cs := fun f b m => MO.of ((f.mono (fun _ _ e => e) Q52_S).rowS rfl) b m
  have r51 : ∀ {ν ν1 : MM}, Fr PS Q52 ν ν1 → ∀ j, gL ν1 51 j = gL ν 51 j := fun f j => f.rL 51 j rfl
  have m0 := go f0 hM.2.2.1 hM
  obtain ⟨ν1, e1, f1, b1, g1⟩ := l_151 d hh ht m0 (k := 0) (by decide) (fun _ => 0) (w t 0) (fun j hj => match j, hj with
    | 0, _ => rfl
    | 1, _ => rfl
    | 2, _ => rfl
    | 3, _ => rfl) (hw t ht 0 (by decide))
  have m1 := go f1 b1 m0
  obtain ⟨ν2, e2, f2, b2, g2⟩ := l_151 d hh ht m1 (k := 1) (by decide) _ (w t 1) g1 (by rw [r51 f1, r51 f0]; exact hw t ht 1 (by decide))
  have m2 := go f2 b2 m1
  obtain ⟨ν3, e3, f3, b3, g3⟩ := l_151 d hh ht m2 (k := 2) (by decide) _ (w t 2) g2 (by rw [r51 f2, r51 f1, r51 f0]; exact hw t ht 2 (by decide))
  have m3 := go f3 b3 m2
  obtain ⟨ν4, e4, f4, b4, g4⟩ := l_151 d hh ht m3 (k := 3) (by decide) _ (w t 3) g3 (by rw [r51 f3, r51 f2, r51 f1, r51 f0]; exact hw t ht 3 (by decide))
  have f04 : Fr PS QS ν ν4 := (f0.tr (f1.tr (f2.tr (f3.tr f4)))).mono (fun _ _ e => e) Q52_S
  refine ⟨sL (sL (sL (sL ν4 51 (4 * t + 0) (gL ν4 52 0)) 51 (4 * t + 1) (gL ν4 52 1)) 51 (4 * t + 2) (gL ν4 52 2)) 51 (4 * t + 3) (gL ν4 52 3), ?_, f04.tr ((Fr.wL _ rfl).tr ((Fr.wL _ rfl).tr ((Fr.wL _ rfl).tr (Fr.wL _ rfl)))), b4, ?_⟩
  · rw [e_151_0, z0, l_151a (d + 3) _ _ (k := 0) (by decide), l_151a (d + 3) _ _ (k := 1) (by decide), l_151a (d + 3) _ _ (k := 2) (by decide), l_151a (d + 3) _ _ (k := 3) (by decide), e_151_1, if_pos (by decide), e_151_3]
    refine Eq.trans e1 (Eq.trans e2 (Eq.trans e3 (Eq.trans e4 ?_)))
    rw [e_151_4, if_pos (by decide), e_151_9, z0, l_151c (d + 3) ht (k := 0) (by decide), l_151c (d + 3) ht (k := 1) (by decide), l_151c (d + 3) ht (k := 2) (by decide), l_151c (d + 3) ht (k := 3) (by decide), e_151_10, if_pos (by decide), e_151_12]
    rfl
  · intro t' ht' k hk
    have old : ∀ j, gL ν4 51 j = gL ν 51 j := fun j => by rw [r51 f4, r51 f3, r51 f2, r51 f1, r51 f0]
    rw [gL_sL, gL_sL, gL_sL, gL_sL, old, hw t' ht' k hk]
    show _ = Int64.ofNat (if t' = t then gon cs t h (w t) k else w t' k)
    by_cases c : t' = t
    · rw [if_pos c, c]
      match k, hk with
      | 0, _ => rw [if_neg (by omega), if_neg (by omega), if_neg (by omega), if_pos (by omega), g4 0 (by decide)]; rfl
      | 1, _ => rw [if_neg (by omega), if_neg (by omega), if_pos (by omega), g4 1 (by decide)]; rfl
      | 2, _ => rw [if_neg (by omega), if_pos (by omega), g4 2 (by decide)]; rfl
      | 3, _ => rw [if_pos (by omega), g4 3 (by decide)]; rfl
    · rw [if_neg c, if_neg (by omega), if_neg (by omega), if_neg (by omega), if_neg (by omega)]
