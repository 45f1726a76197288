/-! isTrue; the class's look-ups by number -/
theorem okN_O {n i : Nat} (hn : n ≤ 1000) (hi : i ≤ 1000) : okN n (Int32.ofNat i) = decide (i < n) := by
  unfold okN
  have h0 : ¬ Int32.ofNat i < 0 := Int32.not_lt.mpr (Int32.zero_le_ofNat_of_lt (by omega))
  rw [decide_eq_false h0]
  by_cases c : i < n
  · rw [decide_eq_true c, decide_eq_true ((O_lt (by omega) (by omega)).mpr c)]; rfl
  · rw [decide_eq_false c, decide_eq_false (fun h => c ((O_lt (by omega) (by omega)).mp h))]; rfl
theorem okN_t {n : Nat} {v : Int32} (hn : n ≤ 1000) (h : okN n v = true) : ∃ i, i < n ∧ v = Int32.ofNat i := by
  unfold okN at h
  obtain ⟨h1, h2⟩ := Bool.and_eq_true_iff.mp h
  have h1 : ¬ v < 0 := fun c => by rw [decide_eq_true c] at h1; cases h1
  exact O_of h1 (of_decide_eq_true h2) (by omega)
theorem okN_c {n : Nat} (v : Int32) : okN n v = (!decide (v < 0) && !decide (Int32.ofNat n ≤ v)) := by
  unfold okN
  rw [not_le_d]
theorem s_49 (d : Nat) {ν : MM} {T : Nat} (hT : gI ν 29 8 = Int32.ofNat T) (v : Int32) : ev d 49 0 [.ref 29, .int v] [] (fx ν) = some (some (.int (bI (okN T v))), fx ν) := by
  rw [e_49_0, e_49_1, e_49_3, e_49_2, e_49_4, e_49_4, b01_0, b01_1, gd_t, gd_t, hT, ite_01, ite_f, okN_c]
theorem O_le5 {n : Nat} (hn : n ≤ 5) {v : Int32} (h : okN n v = true) : ¬ (5 : Int32) ≤ v ∧ inb v 5 = true := by
  obtain ⟨i, hi, rfl⟩ := okN_t (by omega) h
  have q : ∀ i, i < 5 → ¬ (5 : Int32) ≤ Int32.ofNat i := by decide
  exact ⟨q i (by omega), inb_O (by omega) (by omega)⟩
theorem s_51 (d : Nat) {ν : MM} {W : Nat} (hW : gI ν 29 7 = Int32.ofNat W) (hW5 : W ≤ 5) (v : Int32) : ev d 51 0 [.ref 29, .int v] [] (fx ν) = some (some (rv (if okN W v = true then gR ν 33 v.toNatClampNeg else none)), fx ν) := by
  by_cases h : okN W v = true
  · obtain ⟨h5, h6⟩ := O_le5 hW5 h
    rw [if_pos h]
    rw [okN_c] at h
    obtain ⟨h1, h2⟩ := Bool.and_eq_true_iff.mp h
    rw [e_51_0, if_neg (fun c => by rw [decide_eq_true c] at h1; cases h1), e_51_1, hW, if_neg (fun c => by rw [decide_eq_true c] at h2; cases h2), e_51_2, if_neg h5, e_51_3, h6, gd_t, e_51_5a, asN_rv]
  · rw [if_neg h]
    rw [okN_c] at h
    rw [e_51_0, e_51_1, e_51_4, e_51_5, hW]
    by_cases c1 : v < 0
    · rw [if_pos c1]; rfl
    · by_cases c2 : Int32.ofNat W ≤ v
      · rw [if_neg c1, if_pos c2]; rfl
      · exact absurd (by rw [decide_eq_false c1, decide_eq_false c2]; rfl) h
theorem s_50 (d : Nat) {ν : MM} {W : Nat} (hW : gI ν 29 5 = Int32.ofNat W) (hW5 : W ≤ 5) (v : Int32) : ev d 50 0 [.ref 29, .int v] [] (fx ν) = some (some (rv (if okN W v = true then gR ν 32 v.toNatClampNeg else none)), fx ν) := by
  by_cases h : okN W v = true
  · obtain ⟨h5, h6⟩ := O_le5 hW5 h
    rw [if_pos h]
    rw [okN_c] at h
    obtain ⟨h1, h2⟩ := Bool.and_eq_true_iff.mp h
    rw [e_50_0, if_neg (fun c => by rw [decide_eq_true c] at h1; cases h1), e_50_1, hW, if_neg (fun c => by rw [decide_eq_true c] at h2; cases h2), e_50_2, if_neg h5, e_50_3, h6, gd_t, e_50_5a, asN_rv]
  · rw [if_neg h]
    rw [okN_c] at h
    rw [e_50_0, e_50_1, e_50_4, e_50_5, hW]
    by_cases c1 : v < 0
    · rw [if_pos c1]; rfl
    · by_cases c2 : Int32.ofNat W ≤ v
      · rw [if_neg c1, if_pos c2]; rfl
      · exact absurd (by rw [decide_eq_false c1, decide_eq_false c2]; rfl) h
/-- the model's isTrue: by[t] put down -/
def P9 (q _ : Nat) : Bool := Nat.beq q 49
theorem l_137 (d : Nat) {ν : MM} {T : Nat} (hT : gI ν 47 0 = Int32.ofNat T) (hT4 : T ≤ 4) (k row h : Int32) {i : Nat} (hi : i < 4) : ev (d + 2) 137 1 [.ref 46, .int k, .int row, .int h, .int (Int32.ofNat i)] [] (fx ν) = ev (d + 2) 137 1 [.ref 46, .int k, .int row, .int h, .int (Int32.ofNat (i + 1))] [] (fx (sI ν 49 i (rwf T row i))) := by
  have h4 : ¬ (4 : Int32) ≤ Int32.ofNat i := by
    have q : ∀ i, i < 4 → ¬ (4 : Int32) ≤ Int32.ofNat i := by decide
    exact q i hi
  rw [e_137_1, if_neg h4, e_137_2, s_114 d hT (by omega), bnd_1, app1, okN_O (by omega) (by omega)]
  refine (e_137_3 ..).trans ?_
  rw [bI_0]
  unfold rwf
  by_cases c : T ≤ i
  · rw [decide_eq_false (by omega), if_neg (by decide), if_pos c, e_137_6, e_137_7, inb_O (by omega) (by omega), gd_t, tn_O (by omega), O_succ]
  · rw [decide_eq_true (by omega), if_pos rfl, if_neg c, e_137_4, s_136, bnd_1, app1]
    refine (e_137_5 ..).trans ?_
    rw [e_137_7, inb_O (by omega) (by omega), gd_t, tn_O (by omega), O_succ]
theorem s_137 (d : Nat) {ν : MM} {T k : Nat} {ts : List Int32} (hT : gI ν 47 0 = Int32.ofNat T) (hT4 : T ≤ 4) (hk : k < 5) (hs : MSy ν 47 k ts) (ht : okTs 5 ts) (hb : b01 (gI ν 50 0) = true) (row : Int32) {h : Nat} (hh : h ≤ 100000) : ∃ ν', ev (d + 2) 137 0 [.ref 46, .int (Int32.ofNat k), .int row, .int (Int32.ofNat h)] [] (fx ν) = some (some (.int (bI (hld (fb (rwy T row (Int32.ofNat (h % 12)))) ts))), fx ν') ∧ Fr Pl Q0 ν ν' ∧ b01 (gI ν' 50 0) = true := by
  have f0 : Fr Pl Q0 ν (sI (sI (sI (sI (sI ν 49 0 (rwf T row 0)) 49 1 (rwf T row 1)) 49 2 (rwf T row 2)) 49 3 (rwf T row 3)) 49 4 (Int32.ofNat (h % 12))) := (Fr.wI _ rfl).tr ((Fr.wI _ rfl).tr ((Fr.wI _ rfl).tr ((Fr.wI _ rfl).tr (Fr.wI _ rfl))))
  have z47 := f0.rowl (q := 47) rfl rfl rfl
  obtain ⟨ν1, e1, f1, b1⟩ := s_134s d hk (MSy.of z47 hs) (by exact hb)
  have hy : hld (fb (gI (sI (sI (sI (sI (sI ν 49 0 (rwf T row 0)) 49 1 (rwf T row 1)) 49 2 (rwf T row 2)) 49 3 (rwf T row 3)) 49 4 (Int32.ofNat (h % 12))) 49)) ts = hld (fb (rwy T row (Int32.ofNat (h % 12)))) ts := by
    refine hld_congr fun t hm c5 c6 c7 => ?_
    obtain ⟨h1, h2⟩ := ht t hm
    rcases h1 with rfl | rfl | rfl | h1
    · exact absurd rfl c5
    · exact absurd rfl c6
    · exact absurd rfl c7
    · obtain ⟨a, ha, e⟩ := h2 h1
      unfold fb
      rw [e, tn_O (by omega)]
      match a, ha with
      | 0, _ => rfl
      | 1, _ => rfl
      | 2, _ => rfl
      | 3, _ => rfl
      | 4, _ => rfl
  rw [hy] at e1
  refine ⟨ν1, ?_, f0.tr (f1.mono Pl_Pg fun _ h => h), b1⟩
  rw [e_137_0]
  have z0 : (0 : Int32) = Int32.ofNat 0 := rfl
  rw [z0, l_137 d hT hT4 _ row _ (by decide), l_137 d (ν := sI ν 49 0 (rwf T row 0)) hT hT4 _ row _ (by decide), l_137 d (ν := sI (sI ν 49 0 (rwf T row 0)) 49 1 (rwf T row 1)) hT hT4 _ row _ (by decide), l_137 d (ν := sI (sI (sI ν 49 0 (rwf T row 0)) 49 1 (rwf T row 1)) 49 2 (rwf T row 2)) hT hT4 _ row _ (by decide), e_137_1, if_pos (by decide), e_137_8, O_rem12 (by omega), (say_num k hk).2.2.2, e1, bnd_1]
  refine (e_137_9 ..).trans ?_
  rw [b01_bI, gd_t]
