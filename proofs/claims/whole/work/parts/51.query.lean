/-! what is there while something is asked: class and model side by side -/
def rg (lo hi v : Int32) : Bool := !decide (v < lo) && !decide (hi < v)
theorem rg_n {hi : Nat} (h : hi ≤ 1000) {v : Int32} (g : rg 0 (Int32.ofNat hi) v = true) : ∃ n, n ≤ hi ∧ v = Int32.ofNat n := by
  unfold rg at g
  obtain ⟨h1, h2⟩ := Bool.and_eq_true_iff.mp g
  have h1 : ¬ v < 0 := fun c => by rw [decide_eq_true c] at h1; cases h1
  have h2 : ¬ Int32.ofNat hi < v := fun c => by rw [decide_eq_true c] at h2; cases h2
  have h3 : v < Int32.ofNat (hi + 1) := by
    rw [Int32.lt_iff_toInt_lt] at h2 ⊢
    have a : (Int32.ofNat hi).toInt = (hi : Int) := Int32.toInt_ofNat_of_lt (by omega)
    have b : (Int32.ofNat (hi + 1)).toInt = ((hi + 1 : Nat) : Int) := Int32.toInt_ofNat_of_lt (by omega)
    rw [a] at h2
    rw [b]
    omega
  obtain ⟨n, hn, e⟩ := O_of h1 h3 (by omega)
  exact ⟨n, by omega, e⟩
theorem s_113r (d : Nat) (v lo hi : Int32) (ν : MM) : ev d 113 0 [.int v, .int lo, .int hi] [] (fx ν) = some (some (.int (bI (rg lo hi v))), fx ν) := s_113 d v lo hi ν
theorem lt_le4 (v : Int32) (n : Nat) (hn : n ≤ 1000) : (Int32.ofNat (n + 1) ≤ v) = (Int32.ofNat n < v) := by
  apply propext
  rw [Int32.le_iff_toInt_le, Int32.lt_iff_toInt_lt]
  have a : (Int32.ofNat n).toInt = (n : Int) := Int32.toInt_ofNat_of_lt (by omega)
  have b : (Int32.ofNat (n + 1)).toInt = ((n + 1 : Nat) : Int) := Int32.toInt_ofNat_of_lt (by omega)
  rw [a, b]
  omega
theorem s_104 (d : Nat) (v : Int32) (ν : MM) : ev d 104 0 [.int v] [] (fx ν) = some (some (.int (bI (rg 0 3 v))), fx ν) := by
  have e : ((4 : Int32) ≤ v) = (3 < v) := lt_le4 v 3 (by decide)
  rw [e_104_0, e_104_3, e_104_1, e_104_2, e_104_3, e_104_4, e_104_4, b01_0, b01_1, gd_t, gd_t, ite_01, ite_f]
  unfold rg
  congr 5
theorem s_105 (d : Nat) (v : Int32) (ν : MM) : ev d 105 0 [.int v] [] (fx ν) = some (some (.int (bI (rg 0 6 v))), fx ν) := by
  rw [e_105_0, e_105_3, e_105_1, e_105_2, e_105_3, e_105_4, e_105_4, b01_0, b01_1, gd_t, gd_t, ite_01, ite_f]
  rfl
theorem rg01 (v : Int32) : rg 0 1 v = (decide (v = 0) || decide (v = 1)) := by
  cases h : rg 0 1 v with
  | true =>
    obtain ⟨n, hn, rfl⟩ := rg_n (hi := 1) (by decide) h
    have : n = 0 ∨ n = 1 := by omega
    rcases this with rfl | rfl <;> rfl
  | false =>
    symm
    rw [Bool.eq_false_iff]
    intro c
    rcases Bool.or_eq_true_iff.mp c with c | c
    · rw [of_decide_eq_true c] at h; exact absurd h (by decide)
    · rw [of_decide_eq_true c] at h; exact absurd h (by decide)
theorem s_106 (d : Nat) (v : Int32) (ν : MM) : ev d 106 0 [.int v] [] (fx ν) = some (some (.int (bI (rg 0 1 v))), fx ν) := by
  rw [rg01, e_106_0, e_106_1, e_106_2, e_106_3, e_106_4, e_106_4, b01_0, b01_1, gd_t, gd_t]
  by_cases c : v = 0
  · rw [if_pos c, decide_eq_true c]; rfl
  · rw [if_neg c, decide_eq_false c, ite_bI]; rfl
theorem asN_c (o : Option Nat) (z : Rs) : asN (rv o) z (fun _ => z) = z := by cases o <;> rfl
def QW (ν : MM) (W : Nat) : Prop := gI ν 29 7 = Int32.ofNat W ∧ gI ν 47 1 = Int32.ofNat W ∧ W ≤ 5 ∧ ∀ j, j < W → ∃ (r k v h co si : Nat), gR ν 33 j = some r ∧ RnV ν r k v h co si ∧ MwV ν 47 j k v h co si ∧ gI ν r 1 = Int32.ofNat j
def QY (ν : MM) (S : Nat) : Prop := gI ν 29 5 = Int32.ofNat S ∧ gI ν 47 2 = Int32.ofNat S ∧ S ≤ 5 ∧ ∀ k, k < S → ∃ (c : Nat) (ts : List Int32), gR ν 32 k = some c ∧ ClA ν c (3, 0, ts) ∧ MY ν k ts
def QX (ν : MM) (A T st H W S : Nat) (ht hs : Int32) (cs : List Cl) : Prop := CO ν A T st H ht hs cs ∧ MO ν T H cs ∧ MST ν T st ∧ (gI ν 47 8 = ht ∧ gI ν 47 9 = hs) ∧ QW ν W ∧ QY ν S
theorem PS57 (q k : Nat) (hq : 57 ≤ q) : PS q k = false := by
  have n : ∀ c, c < 57 → Nat.beq q c = false := fun c hc => by
    cases e : Nat.beq q c with
    | false => rfl
    | true => exact absurd (Nat.eq_of_beq_eq_true e) (by omega)
  unfold PS Pl Pg
  rw [n 45 (by omega), n 46 (by omega), n 49 (by omega), n 50 (by omega), n 53 (by omega), n 54 (by omega), n 55 (by omega)]
  rfl
theorem RnV.fr {ν ν' : MM} (f : Fr PS QS ν ν') {r k v h co si : Nat} (g : RnV ν r k v h co si) : RnV ν' r k v h co si := by
  obtain ⟨h1, h2, h3, h4, h5, h6, h7, h8, h9, h10, h11, h12, h13, h14⟩ := g
  have e : ∀ i, gI ν' r i = gI ν r i := fun i => f.rI r i (PS57 r i h1)
  exact ⟨h1, by rw [f.fs]; exact h2, h3, h4, h5, h6, h7, by rw [e]; exact h8, by rw [e]; exact h9, by rw [e]; exact h10, by rw [e]; exact h11, fun c => by rw [e]; exact h12 c, h13, by rw [f.fR]; exact h14⟩
theorem MwV.of {ν ν' : MM} {S S' w k v h co si : Nat} (e : gI ν' S' = gI ν S) (g : MwV ν S w k v h co si) : MwV ν' S' w k v h co si := by
  unfold MwV at g ⊢
  rw [e]
  exact g
theorem QW.fr {ν ν' : MM} (f : Fr PS QS ν ν') {W : Nat} (g : QW ν W) : QW ν' W := by
  obtain ⟨h1, h2, h3, h4⟩ := g
  have r29 := f.rowS (q := 29) rfl
  have r47 := f.rowS (q := 47) rfl
  refine ⟨by rw [r29]; exact h1, by rw [r47]; exact h2, h3, fun j hj => ?_⟩
  obtain ⟨r, k, v, h, co, si, a1, a2, a3, a4⟩ := h4 j hj
  exact ⟨r, k, v, h, co, si, by rw [f.rR]; exact a1, a2.fr f, a3.of r47, by rw [f.rI r 1 (PS57 r 1 a2.1)]; exact a4⟩
theorem QY.fr {ν ν' : MM} (f : Fr PS QS ν ν') {S : Nat} (g : QY ν S) : QY ν' S := by
  obtain ⟨h1, h2, h3, h4⟩ := g
  have r29 := f.rowS (q := 29) rfl
  have r47 := f.rowS (q := 47) rfl
  refine ⟨by rw [r29]; exact h1, by rw [r47]; exact h2, h3, fun j hj => ?_⟩
  obtain ⟨c, ts, a1, a2, a3⟩ := h4 j hj
  exact ⟨c, ts, by rw [f.rR]; exact a1, a2.frS f, a3.of r47⟩
theorem QX.fr {ν ν' : MM} (f : Fr PS QS ν ν') (hb : b01 (gI ν' 50 0) = true) {A T st H W S : Nat} {ht hs : Int32} {cs : List Cl} (g : QX ν A T st H W S ht hs cs) : QX ν' A T st H W S ht hs cs := by
  obtain ⟨h1, h2, h3, h4, h5, h6⟩ := g
  have r47 := f.rowS (q := 47) rfl
  exact ⟨h1.fr f, h2.of r47 hb, ⟨h3.1, fun t ht => by rw [r47]; exact h3.2 t ht⟩, by rw [r47]; exact h4, h5.fr f, h6.fr f⟩
theorem QW.at {ν : MM} {W : Nat} (g : QW ν W) {x : Int32} (hx : okN W x = true) : ∃ (j r k v h co si : Nat), x = Int32.ofNat j ∧ j < W ∧ j < 5 ∧ gR ν 33 x.toNatClampNeg = some r ∧ RnV ν r k v h co si ∧ MwV ν 47 j k v h co si ∧ gI ν r 1 = Int32.ofNat j := by
  obtain ⟨h1, h2, h3, h4⟩ := g
  obtain ⟨j, hj, e⟩ := okN_t (by omega) hx
  obtain ⟨r, k, v, h, co, si, a1, a2, a3, a4⟩ := h4 j hj
  exact ⟨j, r, k, v, h, co, si, e, hj, by omega, by rw [e, tn_O (by omega)]; exact a1, a2, a3, a4⟩
theorem QY.at {ν : MM} {S : Nat} (g : QY ν S) {x : Int32} (hx : okN S x = true) : ∃ (k c : Nat) (ts : List Int32), x = Int32.ofNat k ∧ gR ν 32 x.toNatClampNeg = some c ∧ ClA ν c (3, 0, ts) ∧ MY ν k ts := by
  obtain ⟨h1, h2, h3, h4⟩ := g
  obtain ⟨j, hj, e⟩ := okN_t (by omega) hx
  obtain ⟨c, ts, a1, a2, a3⟩ := h4 j hj
  exact ⟨j, c, ts, e, by rw [e, tn_O (by omega)]; exact a1, a2, a3⟩
