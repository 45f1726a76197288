/-! what a WAY TAKES: the model's takesAt, the class's hoursFrom -/
def tkB (v hs h : Int32) : Int32 := hs + (if h - h / 2 * 2 = 1 then v - v / 3 * 3 else 0)
def tkF (hs h : Int32) : Int32 := if h - h / 12 * 12 < 6 then hs else 1
def tk (kd v hs st h : Int32) : Int32 := if kd = 1 then (hs + 1) / 2 else if kd = 2 then tkB v hs h else if kd = 3 then tkF hs h else if kd = 4 then (hs + 1) / 2 else if kd = 5 then (if tkB v hs h = 0 then 0 else tkB v hs h - 1) else if kd = 6 then tkF hs h + st else hs
theorem s_1 (d : Nat) {ν : MM} {r : Nat} (hs : cin [0, 7] (shp (fx ν) r) = true) : ev d 1 0 [.ref r] [] (fx ν) = some (some (.int ((gI ν r 3 + 1) / 2)), fx ν) := by
  rw [e_1_0, hs, gd_t]
theorem s_4 (d : Nat) {ν : MM} {r : Nat} (h : Int32) (hs : cin [1, 8] (shp (fx ν) r) = true) : ev d 4 0 [.ref r, .int h] [] (fx ν) = some (some (.int (tkB (gI ν r 2) (gI ν r 3) h)), fx ν) := by
  rw [e_4_0, hs, gd_t, e_4_1, hs, gd_t, e_4_2, e_4_3, e_4_3]
  unfold tkB
  by_cases c : h - h / 2 * 2 = 1
  · rw [if_pos c, if_pos c]
  · rw [if_neg c, if_neg c]
theorem s_15 (d : Nat) {ν : MM} {r : Nat} (h : Int32) (hs : cin [2, 4] (shp (fx ν) r) = true) : ev d 15 0 [.ref r, .int h] [] (fx ν) = some (some (.int (tkF (gI ν r 3) h)), fx ν) := by
  rw [e_15_0, e_15_2, hs, gd_t, e_15_1, e_15_3, e_15_3]
  unfold tkF
  by_cases c : h - h / 12 * 12 < 6
  · rw [if_pos c, if_pos c]
  · rw [if_neg c, if_neg c]
theorem s_7 (d : Nat) {ν : MM} {r : Nat} (h : Int32) (hs : shp (fx ν) r = 2) : ev (d + 1) 7 0 [.ref r, .int h] [] (fx ν) = some (some (.int (tkF (gI ν r 3) h + gI ν r 6)), fx ν) := by
  have h2 : cin [2] (shp (fx ν) r) = true := by rw [hs]; rfl
  rw [e_7_0, h2, gd_t, s_15 d h (by rw [hs]; rfl), bnd_1, app1]
  refine (e_7_1 ..).trans ?_
  rw [h2, gd_t]
theorem s_43 (d : Nat) {ν : MM} {r : Nat} (h : Int32) (hs : shp (fx ν) r = 8) : ev (d + 1) 43 0 [.ref r, .int h] [] (fx ν) = some (some (.int (if 0 < tkB (gI ν r 2) (gI ν r 3) h - 1 then tkB (gI ν r 2) (gI ν r 3) h - 1 else 0)), fx ν) := by
  have h2 : cin [8] (shp (fx ν) r) = true := by rw [hs]; rfl
  rw [e_43_0, h2, gd_t, s_4 d h (by rw [hs]; rfl), bnd_1, app1]
  exact e_43_1 ..
theorem s_33 (d : Nat) {ν : MM} {r : Nat} (hs : shp (fx ν) r = 6) : ev d 33 0 [.ref r] [] (fx ν) = some (some (.int (gI ν r 3)), fx ν) := by
  rw [e_33_0, hs]
  rfl
theorem w_num : ∀ w, w < 5 → (24 : Int32) + Int32.ofNat w = Int32.ofNat (24 + w) ∧ (19 : Int32) + Int32.ofNat w = Int32.ofNat (19 + w) ∧ (14 : Int32) + Int32.ofNat w = Int32.ofNat (14 + w) ∧ (34 : Int32) + Int32.ofNat w = Int32.ofNat (34 + w) ∧ (29 : Int32) + Int32.ofNat w = Int32.ofNat (29 + w) := by decide
theorem s_142 (d : Nat) {ν : MM} {w : Nat} (hw : w < 5) (h : Int32) : ev d 142 0 [.ref 46, .int (Int32.ofNat w), .int h] [] (fx ν) = some (some (.int (tk (gI ν 47 (14 + w)) (gI ν 47 (19 + w)) (gI ν 47 (24 + w)) (gI ν 47 (34 + w)) h)), fx ν) := by
  obtain ⟨n24, n19, n14, n34, -⟩ := w_num w hw
  have b3 : ∀ x : Int32, ev d 142 3 [.ref 46, .int (Int32.ofNat w), .int h, .int (gI ν 47 (24 + w))] [.int x, .int (gI ν 47 (24 + w))] (fx ν) = ev d 142 6 [.ref 46, .int (Int32.ofNat w), .int (gI ν 47 (24 + w)), .int (gI ν 47 (24 + w) + x)] [.int (tkF (gI ν 47 (24 + w)) h)] (fx ν) := by
    intro x
    rw [e_142_3, e_142_5, e_142_4]
    unfold tkF
    by_cases c : h - h / 12 * 12 < 6
    · rw [if_pos c, if_pos c]
    · rw [if_neg c, if_neg c]
  have b0 : ev d 142 0 [.ref 46, .int (Int32.ofNat w), .int h] [] (fx ν) = ev d 142 6 [.ref 46, .int (Int32.ofNat w), .int (gI ν 47 (24 + w)), .int (tkB (gI ν 47 (19 + w)) (gI ν 47 (24 + w)) h)] [.int (tkF (gI ν 47 (24 + w)) h)] (fx ν) := by
    rw [e_142_0, n24, inb_O (by omega) (by omega), gd_t, tn_O (by omega), e_142_1, n19, inb_O (by omega) (by omega), gd_t, tn_O (by omega), e_142_2, b3, b3]
    unfold tkB
    by_cases c : h - h / 2 * 2 = 1
    · rw [if_pos c, if_pos c]
    · rw [if_neg c, if_neg c]
  rw [b0, e_142_6, n14, inb_O (by omega) (by omega), gd_t, tn_O (by omega), e_142_7, e_142_8, e_142_9, e_142_10, e_142_11, e_142_12, e_142_12, e_142_13, e_142_14, n34, inb_O (by omega) (by omega), gd_t, tn_O (by omega), e_142_15]
  generalize gI ν 47 (14 + w) = kd
  unfold tk
  by_cases c1 : kd = 1
  · rw [if_pos c1, if_pos c1]
  · rw [if_neg c1, if_neg c1]
    by_cases c2 : kd = 2
    · rw [if_pos c2, if_pos c2]
    · rw [if_neg c2, if_neg c2]
      by_cases c3 : kd = 3
      · rw [if_pos c3, if_pos c3]
      · rw [if_neg c3, if_neg c3]
        by_cases c4 : kd = 4
        · rw [if_pos c4, if_pos c4]
        · rw [if_neg c4, if_neg c4]
          by_cases c5 : kd = 5
          · rw [if_pos c5, if_pos c5]
            by_cases c : tkB (gI ν 47 (19 + w)) (gI ν 47 (24 + w)) h = 0
            · rw [if_pos c, if_pos c]
            · rw [if_neg c, if_neg c]
          · rw [if_neg c5, if_neg c5]
            by_cases c6 : kd = 6
            · rw [if_pos c6, if_pos c6]
            · rw [if_neg c6, if_neg c6]
