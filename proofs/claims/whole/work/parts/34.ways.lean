/-! a WAY in the memory: the class's object r, the model's numbers of way w in row S -/
def clsK (k : Nat) : Nat := [6, 0, 1, 4, 7, 8, 2].getD k 99
def RnV (ν : MM) (r k v hs co st : Nat) : Prop := 57 ≤ r ∧ shp (fx ν) r = clsK k ∧ k < 7 ∧ v ≤ 9 ∧ hs ≤ 6 ∧ co ≤ 99 ∧ st ≤ 6 ∧ gI ν r 0 = Int32.ofNat k ∧ gI ν r 2 = Int32.ofNat v ∧ gI ν r 3 = Int32.ofNat hs ∧ gI ν r 4 = Int32.ofNat co ∧ (k = 6 → gI ν r 6 = Int32.ofNat st) ∧ (k ≠ 6 → st = 0) ∧ gR (fx ν) r 5 = some 42
def MwV (ν : MM) (S w k v hs co st : Nat) : Prop := gI ν S (14 + w) = Int32.ofNat k ∧ gI ν S (19 + w) = Int32.ofNat v ∧ gI ν S (24 + w) = Int32.ofNat hs ∧ gI ν S (29 + w) = Int32.ofNat co ∧ gI ν S (34 + w) = Int32.ofNat st
/-- in numbers -/
def tkn (k v hs st h : Nat) : Nat := if k = 1 then (hs + 1) / 2 else if k = 2 then hs + (if h % 2 = 1 then v % 3 else 0) else if k = 3 then (if h % 12 < 6 then hs else 1) else if k = 4 then (hs + 1) / 2 else if k = 5 then hs + (if h % 2 = 1 then v % 3 else 0) - 1 else if k = 6 then (if h % 12 < 6 then hs else 1) + st else hs
theorem tkn_le {k v hs st : Nat} (h : Nat) (h1 : hs ≤ 6) (h2 : st ≤ 6) : tkn k v hs st h ≤ 12 := by
  have := Nat.mod_lt v (show 0 < 3 by decide)
  unfold tkn
  repeat' split
  all_goals omega
theorem tkB_n {v hs h : Nat} (hv : v ≤ 9) (hh : h ≤ 100000) : tkB (Int32.ofNat v) (Int32.ofNat hs) (Int32.ofNat h) = Int32.ofNat (hs + (if h % 2 = 1 then v % 3 else 0)) := by
  unfold tkB
  rw [O_rem2 (by omega)]
  have e3 : Int32.ofNat v - Int32.ofNat v / 3 * 3 = Int32.ofNat (v % 3) := O_rem (by omega) (by decide) (by decide)
  rw [e3, Int32.ofNat_add]
  congr 1
  by_cases c : h % 2 = 1
  · rw [if_pos c, if_pos (by rw [c]; rfl)]
  · rw [if_neg c, if_neg (by
      have : h % 2 = 0 := by omega
      rw [this]
      decide)]
    rfl
theorem tkF_n {hs h : Nat} (hh : h ≤ 100000) : tkF (Int32.ofNat hs) (Int32.ofNat h) = Int32.ofNat (if h % 12 < 6 then hs else 1) := by
  unfold tkF
  rw [O_rem12 (by omega)]
  have e : (Int32.ofNat (h % 12) < 6) = (h % 12 < 6) := O_lt (b := 6) (by omega) (by decide)
  by_cases c : h % 12 < 6
  · rw [if_pos c, if_pos (by rw [e]; exact c)]
  · rw [if_neg c, if_neg (by rw [e]; exact c)]
    rfl
theorem half_num : ∀ a, a < 8 → (Int32.ofNat a + 1) / 2 = Int32.ofNat ((a + 1) / 2) := by decide
theorem tow_num : ∀ b, b < 10 → (if Int32.ofNat b = 0 then (0 : Int32) else Int32.ofNat b - 1) = Int32.ofNat (b - 1) ∧ (if 0 < Int32.ofNat b - 1 then Int32.ofNat b - 1 else (0 : Int32)) = Int32.ofNat (b - 1) := by decide
theorem tk_n {k v hs st h : Nat} (hk : k < 7) (hv : v ≤ 9) (h6 : hs ≤ 6) (hh : h ≤ 100000) : tk (Int32.ofNat k) (Int32.ofNat v) (Int32.ofNat hs) (Int32.ofNat st) (Int32.ofNat h) = Int32.ofNat (tkn k v hs st h) := by
  have hm := Nat.mod_lt v (show 0 < 3 by decide)
  have hb : hs + (if h % 2 = 1 then v % 3 else 0) < 10 := by split <;> omega
  unfold tk
  rw [tkB_n hv hh, tkF_n hh, half_num hs (by omega), (tow_num _ hb).1]
  match k, hk with
  | 0, _ => rfl
  | 1, _ => rfl
  | 2, _ => rfl
  | 3, _ => rfl
  | 4, _ => rfl
  | 5, _ => rfl
  | 6, _ => exact (Int32.ofNat_add _ _).symm
/-- the model's takesAt in numbers -/
theorem t_142 (d : Nat) {ν : MM} {w k v hs co st h : Nat} (hw : w < 5) (hM : MwV ν 47 w k v hs co st) (hk : k < 7) (hv : v ≤ 9) (h6 : hs ≤ 6) (hh : h ≤ 100000) : ev d 142 0 [.ref 46, .int (Int32.ofNat w), .int (Int32.ofNat h)] [] (fx ν) = some (some (.int (Int32.ofNat (tkn k v hs st h))), fx ν) := by
  obtain ⟨m1, m2, m3, -, m5⟩ := hM
  rw [s_142 d hw, m1, m2, m3, m5, tk_n hk hv h6 hh]
