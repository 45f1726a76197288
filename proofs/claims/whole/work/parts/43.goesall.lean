/-! goesAll, beginsAll, statesNow, takes -/
def oft (cs : List Cl) (t H : Nat) (w : Nat → Nat) : Nat → Nat → Nat
  | 0 => w
  | n + 1 => gon cs t (H + n) (oft cs t H w n)
theorem WM.of {ν : MM} {w w' : Nat → Nat → Nat} (h : ∀ t, t < 4 → ∀ k, k < 4 → w t k = w' t k) (g : WM ν w) : WM ν w' := fun t ht k hk => by rw [← h t ht k hk]; exact g t ht k hk
theorem l_152i (d : Nat) {T H n : Nat} {cs : List Cl} (hn : n ≤ 1000) (v1 : Int32) : ∀ (r i : Nat) (ν : MM) (w : Nat → Nat → Nat), i + r = T → MO ν T H cs → WM ν w → ∃ ν', ev (d + 4) 152 3 [.ref 46, .int v1, .int (Int32.ofNat n), .int (Int32.ofNat i)] [] (fx ν) = ev (d + 4) 152 3 [.ref 46, .int v1, .int (Int32.ofNat n), .int (Int32.ofNat T)] [] (fx ν') ∧ Fr PS QS ν ν' ∧ b01 (gI ν' 50 0) = true ∧ WM ν' (fun t k => if i ≤ t ∧ t < T then gon cs t (H + n) (w t) k else w t k)
  | 0, i, ν, w, hi, hM, hw => ⟨ν, by rw [show i = T by omega], Fr.rf, hM.2.2.1, hw.of fun t _ k _ => (if_neg (by omega)).symm⟩
  | r + 1, i, ν, w, hi, hM, hw => by
    have hM' := hM
    obtain ⟨-, -, -, hH, hH2, hT, hT4⟩ := hM'
    obtain ⟨ν1, e1, f1, b1, g1⟩ := s_151 d (h := H + n) (t := i) (by omega) (by omega) hM w hw
    obtain ⟨ν', e3, f3, b3, g3⟩ := l_152i d hn v1 r (i + 1) ν1 _ (by omega) (MO.of (f1.rowS rfl) b1 hM) g1
    refine ⟨ν', ?_, f1.tr f3, b3, g3.of fun t ht k hk => ?_⟩
    · rw [e_152_3, hT, if_neg (by rw [O_le (by omega) (by omega)]; omega), e_152_4, hH, O_add, e1, bnd_0, app0]
      refine (e_152_5 ..).trans ?_
      rw [O_succ]
      exact e3
    · by_cases c : t = i
      · subst c
        rw [if_neg (by omega), if_pos rfl, if_pos (by omega)]
      · by_cases c2 : i + 1 ≤ t ∧ t < T
        · rw [if_pos c2, if_pos (by omega)]
          congr 1
          funext j
          exact if_neg c
        · rw [if_neg c2, if_neg c, if_neg (by omega)]
theorem l_152 (d : Nat) {T H N : Nat} {cs : List Cl} (hN : N ≤ 1000) (w : Nat → Nat → Nat) : ∀ (r n : Nat) (ν : MM), n + r = N → MO ν T H cs → WM ν (fun t k => if t < T then oft cs t H (w t) n k else w t k) → ∃ ν', ev (d + 4) 152 1 [.ref 46, .int (Int32.ofNat N), .int (Int32.ofNat n)] [] (fx ν) = some (none, fx ν') ∧ Fr PS QS ν ν' ∧ b01 (gI ν' 50 0) = true ∧ WM ν' (fun t k => if t < T then oft cs t H (w t) N k else w t k)
  | 0, n, ν, hn, hM, hx => ⟨ν, by rw [e_152_1, if_pos (by rw [O_le (by omega) (by omega)]; omega), e_152_7], Fr.rf, hM.2.2.1, by rw [← show n = N by omega]; exact hx⟩
  | r + 1, n, ν, hn, hM, hx => by
    obtain ⟨ν1, e1, f1, b1, g1⟩ := l_152i d (T := T) (H := H) (n := n) (cs := cs) (by omega) (Int32.ofNat N) T 0 ν _ (by omega) hM hx
    have hM1 := MO.of (f1.rowS rfl) b1 hM
    obtain ⟨ν2, e2, f2, b2, g2⟩ := l_152 d hN w r (n + 1) ν1 (by omega) hM1 (g1.of fun t ht k hk => by
      by_cases c : t < T
      · rw [if_pos ⟨Nat.zero_le _, c⟩, if_pos c, show oft cs t H (w t) (n + 1) = gon cs t (H + n) (oft cs t H (w t) n) from rfl]
        congr 1
        funext j
        exact if_pos c
      · rw [if_neg (fun h => c h.2), if_neg c, if_neg c])
    refine ⟨ν2, ?_, f1.tr f2, b2, g2⟩
    have hT : gI ν1 47 0 = Int32.ofNat T := hM1.2.2.2.2.2.1
    have hT4 := hM.2.2.2.2.2.2
    rw [e_152_1, if_neg (by rw [O_le (by omega) (by omega)]; omega), e_152_2]
    refine e1.trans ?_
    rw [e_152_3, hT, if_pos (by rw [O_le (by omega) (by omega)]; omega), e_152_6, O_succ]
    exact e2
theorem s_152 (d : Nat) {T H N : Nat} {cs : List Cl} (hN : N ≤ 1000) {ν : MM} (hM : MO ν T H cs) (w : Nat → Nat → Nat) (hw : WM ν w) : ∃ ν', ev (d + 4) 152 0 [.ref 46, .int (Int32.ofNat N)] [] (fx ν) = some (none, fx ν') ∧ Fr PS QS ν ν' ∧ b01 (gI ν' 50 0) = true ∧ WM ν' (fun t k => if t < T then oft cs t H (w t) N k else w t k) := by
  rw [e_152_0]
  exact l_152 d hN w N 0 ν (by omega) hM (hw.of fun t ht k hk => by unfold oft; split <;> rfl)
/-! beginsAll -/
def w01 (s k : Nat) : Nat := if s = k then 1 else 0
theorem l_149 (d : Nat) {ν : MM} {st : Nat} (hs : st < 256) {t k : Nat} (ht : t < 4) (hk : k < 4) : ev (d + 1) 149 3 [.ref 46, .int (Int32.ofNat st), .int (Int32.ofNat t), .int (Int32.ofNat k)] [] (fx ν) = ev (d + 1) 149 3 [.ref 46, .int (Int32.ofNat st), .int (Int32.ofNat t), .int (Int32.ofNat (k + 1))] [] (fx (sL ν 51 (4 * t + k) (Int64.ofNat (w01 (stD st t) k)))) := by
  have h1 := stD_lt st t
  rw [e_149_3, if_neg (ge4 k hk), e_149_4, s_136, bnd_1, app1, stI_n st hs t ht, ix_num t ht k hk]
  refine (e_149_5 ..).trans ?_
  unfold w01
  by_cases c : stD st t = k
  · rw [if_pos (by rw [c]), if_pos c, e_149_6, e_149_8, inb_O (by omega) (by omega), gd_t, tn_O (by omega), O_succ]
    rfl
  · rw [if_neg (by rw [O_eq (by omega) (by omega)]; exact c), if_neg c, e_149_7, e_149_8, inb_O (by omega) (by omega), gd_t, tn_O (by omega), O_succ]
    rfl
theorem l_149t (d : Nat) {st : Nat} (hs : st < 256) : ∀ (r t : Nat) (ν : MM), t + r = 4 → (∀ t' k, t' < t → k < 4 → gL ν 51 (4 * t' + k) = Int64.ofNat (w01 (stD st t') k)) → ∃ ν', ev (d + 1) 149 1 [.ref 46, .int (Int32.ofNat st), .int (Int32.ofNat t)] [] (fx ν) = some (none, fx ν') ∧ Fr PS QS ν ν' ∧ gI ν' 50 = gI ν 50 ∧ WM ν' (fun t k => w01 (stD st t) k)
  | 0, t, ν, ht, h => ⟨ν, by rw [show t = 4 by omega, e_149_1, if_pos (by decide), e_149_10], Fr.rf, rfl, fun t' h1 k h2 => h t' k (by omega) h2⟩
  | r + 1, t, ν, ht, h => by
    obtain ⟨ν', e, f, g, w⟩ := l_149t d hs r (t + 1) (sL (sL (sL (sL ν 51 (4 * t + 0) (Int64.ofNat (w01 (stD st t) 0))) 51 (4 * t + 1) (Int64.ofNat (w01 (stD st t) 1))) 51 (4 * t + 2) (Int64.ofNat (w01 (stD st t) 2))) 51 (4 * t + 3) (Int64.ofNat (w01 (stD st t) 3))) (by omega) (by
      intro t' k h1 h2
      rw [gL_sL, gL_sL, gL_sL, gL_sL]
      by_cases c : t' = t
      · rw [c]
        match k, h2 with
        | 0, _ => rw [if_neg (by omega), if_neg (by omega), if_neg (by omega), if_pos (by omega)]
        | 1, _ => rw [if_neg (by omega), if_neg (by omega), if_pos (by omega)]
        | 2, _ => rw [if_neg (by omega), if_pos (by omega)]
        | 3, _ => rw [if_pos (by omega)]
      · rw [if_neg (by omega), if_neg (by omega), if_neg (by omega), if_neg (by omega), h t' k (by omega) h2])
    refine ⟨ν', ?_, (((Fr.wL _ rfl).tr (Fr.wL _ rfl)).tr ((Fr.wL _ rfl).tr (Fr.wL _ rfl))).tr f, g, w⟩
    have z0 : (0 : Int32) = Int32.ofNat 0 := rfl
    rw [e_149_1, if_neg (ge4 t (by omega)), e_149_2, z0, l_149 d hs (k := 0) (by omega) (by decide), l_149 d hs (k := 1) (by omega) (by decide), l_149 d hs (k := 2) (by omega) (by decide), l_149 d hs (k := 3) (by omega) (by decide), e_149_3, if_pos (by decide), e_149_9, O_succ]
    exact e
theorem s_149 (d : Nat) {ν : MM} {st : Nat} (hs : st < 256) : ∃ ν', ev (d + 1) 149 0 [.ref 46, .int (Int32.ofNat st)] [] (fx ν) = some (none, fx ν') ∧ Fr PS QS ν ν' ∧ gI ν' 50 = gI ν 50 ∧ WM ν' (fun t k => w01 (stD st t) k) := by
  rw [e_149_0]
  exact l_149t d hs 4 0 ν rfl (fun t' k h => absurd h (by omega))
/-! statesNow -/
theorem sn_num : ∀ st, st < 256 → ∀ i, i < 4 → Int32.ofNat (st % 4 ^ i) ||| Int32.ofNat (stD st i) <<< ((2 * Int32.ofNat i) &&& 31) = Int32.ofNat (st % 4 ^ (i + 1)) := by decide +kernel
theorem ten_num : ∀ i, i < 4 → (10 : Int32) + Int32.ofNat i = Int32.ofNat (10 + i) := by decide
theorem l_150 (d : Nat) {ν : MM} {T st : Nat} (hT : gI ν 47 0 = Int32.ofNat T) (hT4 : T ≤ 4) (hs : st < 4 ^ T) (hi : ∀ t, t < T → gI ν 47 (10 + t) = Int32.ofNat (stD st t)) (hs2 : st < 256) : ∀ (r i : Nat), i + r = T → ev d 150 1 [.ref 46, .int (Int32.ofNat (st % 4 ^ i)), .int (Int32.ofNat i)] [] (fx ν) = some (some (.int (Int32.ofNat st)), fx ν)
  | 0, i, h => by
    rw [e_150_1, hT, if_pos (by rw [O_le (by omega) (by omega)]; omega), e_150_3, show i = T by omega, Nat.mod_eq_of_lt hs]
  | r + 1, i, h => by
    rw [e_150_1, hT, if_neg (by rw [O_le (by omega) (by omega)]; omega), e_150_2, ten_num i (by omega), inb_O (by omega) (by omega), gd_t, tn_O (by omega), hi i (by omega), sn_num st hs2 i (by omega), O_succ]
    exact l_150 d hT hT4 hs hi hs2 r (i + 1) (by omega)
theorem p4_le {T : Nat} (h : T ≤ 4) : 4 ^ T ≤ 256 := by
  have : ∀ T, T ≤ 4 → 4 ^ T ≤ 256 := by decide
  exact this T h
theorem s_150 (d : Nat) {ν : MM} {T st : Nat} (hT : gI ν 47 0 = Int32.ofNat T) (hT4 : T ≤ 4) (hs : st < 4 ^ T) (hi : ∀ t, t < T → gI ν 47 (10 + t) = Int32.ofNat (stD st t)) : ev d 150 0 [.ref 46] [] (fx ν) = some (some (.int (Int32.ofNat st)), fx ν) := by
  have h := l_150 d hT hT4 hs hi (Nat.lt_of_lt_of_le hs (p4_le hT4)) T 0 (by omega)
  rw [show st % 4 ^ 0 = 0 by rw [Nat.pow_zero, Nat.mod_one]] at h
  rw [e_150_0]
  exact h
theorem s_143 (d : Nat) {ν : MM} {w k v hs co st H : Nat} (hw : w < 5) (hM : MwV ν 47 w k v hs co st) (hk : k < 7) (hv : v ≤ 9) (h6 : hs ≤ 6) (hH : gI ν 47 7 = Int32.ofNat H) (hh : H ≤ 1000) : ev (d + 1) 143 0 [.ref 46, .int (Int32.ofNat w)] [] (fx ν) = some (some (.int (Int32.ofNat (tkn k v hs st H))), fx ν) := by
  rw [e_143_0, hH, t_142 d hw hM hk hv h6 (by omega), bnd_1, app1]
  exact e_143_1 ..
theorem s_154 (d : Nat) {ν : MM} {T : Nat} (hT : gI ν 47 0 = Int32.ofNat T) (hT4 : T ≤ 4) : ev d 154 0 [.ref 46] [] (fx ν) = some (some (.int (Int32.ofNat (4 ^ T))), fx ν) := by
  have q : ∀ T, T ≤ 4 → (1 : Int32) <<< ((2 * Int32.ofNat T) &&& 31) = Int32.ofNat (4 ^ T) := by decide
  rw [e_154_0, hT, q T hT4]
