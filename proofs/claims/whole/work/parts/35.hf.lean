/-! the class's hoursFrom, KIND by KIND, in numbers -/
def hfR (ν : MM) (k v hs st h : Nat) : Rs := some (some (.int (Int32.ofNat (tkn k v hs st h))), fx ν)
theorem hf0 (d : Nat) {ν : MM} {r v hs co st : Nat} (h : Nat) (H : RnV ν r 0 v hs co st) : ev d 33 0 [.ref r] [] (fx ν) = hfR ν 0 v hs st h := by
  obtain ⟨-, h1, -, -, -, -, -, -, -, h3, -⟩ := H
  rw [s_33 d h1, h3]
  rfl
theorem hf1 (d : Nat) {ν : MM} {r v hs co st : Nat} (h : Nat) (H : RnV ν r 1 v hs co st) : ev d 1 0 [.ref r] [] (fx ν) = hfR ν 1 v hs st h := by
  obtain ⟨-, h1, -, -, h6, -, -, -, -, h3, -⟩ := H
  rw [s_1 d (by rw [h1]; rfl), h3, half_num hs (by omega)]
  rfl
theorem hf4 (d : Nat) {ν : MM} {r v hs co st : Nat} (h : Nat) (H : RnV ν r 4 v hs co st) : ev d 1 0 [.ref r] [] (fx ν) = hfR ν 4 v hs st h := by
  obtain ⟨-, h1, -, -, h6, -, -, -, -, h3, -⟩ := H
  rw [s_1 d (by rw [h1]; rfl), h3, half_num hs (by omega)]
  rfl
theorem hf2 (d : Nat) {ν : MM} {r v hs co st h : Nat} (hh : h ≤ 100000) (H : RnV ν r 2 v hs co st) : ev d 4 0 [.ref r, .int (Int32.ofNat h)] [] (fx ν) = hfR ν 2 v hs st h := by
  obtain ⟨-, h1, -, hv, h6, -, -, -, h2, h3, -⟩ := H
  rw [s_4 d _ (by rw [h1]; rfl), h2, h3, tkB_n hv hh]
  rfl
theorem hf3 (d : Nat) {ν : MM} {r v hs co st h : Nat} (hh : h ≤ 100000) (H : RnV ν r 3 v hs co st) : ev d 15 0 [.ref r, .int (Int32.ofNat h)] [] (fx ν) = hfR ν 3 v hs st h := by
  obtain ⟨-, h1, -, hv, h6, -, -, -, h2, h3, -⟩ := H
  rw [s_15 d _ (by rw [h1]; rfl), h3, tkF_n hh]
  rfl
theorem hf5 (d : Nat) {ν : MM} {r v hs co st h : Nat} (hh : h ≤ 100000) (H : RnV ν r 5 v hs co st) : ev (d + 1) 43 0 [.ref r, .int (Int32.ofNat h)] [] (fx ν) = hfR ν 5 v hs st h := by
  obtain ⟨-, h1, -, hv, h6, -, -, -, h2, h3, -⟩ := H
  have hm := Nat.mod_lt v (show 0 < 3 by decide)
  have hb : hs + (if h % 2 = 1 then v % 3 else 0) < 10 := by split <;> omega
  rw [s_43 d _ h1, h2, h3, tkB_n hv hh, (tow_num _ hb).2]
  rfl
theorem hf6 (d : Nat) {ν : MM} {r v hs co st h : Nat} (hh : h ≤ 100000) (H : RnV ν r 6 v hs co st) : ev (d + 1) 7 0 [.ref r, .int (Int32.ofNat h)] [] (fx ν) = hfR ν 6 v hs st h := by
  obtain ⟨-, h1, -, hv, h6, -, -, -, h2, h3, -, h4, -⟩ := H
  rw [s_7 d _ h1, h3, h4 rfl, tkF_n hh, ← Int32.ofNat_add]
  rfl
