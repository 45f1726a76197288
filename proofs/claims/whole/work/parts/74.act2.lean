/-! acts: the model; act -/
def PN (q k : Nat) : Bool := (Nat.beq q 46 && Nat.beq k 21) || Nat.beq q 56
def MR (o : Nat → Int32) (ν μ : MM) (L : List Int32) : Prop := Fr PN Q0 ν μ ∧ gI μ 46 21 = Int32.ofNat L.length ∧ ∀ i, i < 20 → gI μ 56 i = L.getD i (o i)
theorem s_182 (d : Nat) {o : Nat → Int32} {ν μ : MM} {L : List Int32} (h : MR o ν μ L) (hl : L.length < 20) (b : Int32) : ∃ μ', ev d 182 0 [.ref 46, .int b] [] (fx μ) = some (none, fx μ') ∧ MR o ν μ' (L ++ [b]) := by
  obtain ⟨f, h1, h2⟩ := h
  refine ⟨sI (sI μ 56 L.length b) 46 21 (Int32.ofNat (L.length + 1)), ?_, f.tr ((Fr.wI _ rfl).tr (Fr.wI _ rfl)), ?_, fun i hi => ?_⟩
  · have le : ((20 : Int32) ≤ Int32.ofNat L.length) = (20 ≤ L.length) := O_le (a := 20) (by decide) (by omega)
    have e1 : gI (sI μ 56 L.length b) 46 21 + 1 = Int32.ofNat (L.length + 1) := by rw [gI_sI, if_neg (by omega), h1, O_succ]
    rw [e_182_0, h1, if_neg (by rw [le]; omega), e_182_1, h1, inb_O (by omega) (by omega), gd_t, tn_O (by omega), e_182_2, e1]
  · rw [gI_sI, if_pos ⟨rfl, rfl⟩]
    simp
  · rw [gI_sI, if_neg (by omega), gI_sI, getD_snoc]
    by_cases c : i = L.length
    · rw [if_pos ⟨rfl, c⟩, if_pos c]
    · rw [if_neg (fun h => c h.2), if_neg c]
      exact h2 i hi
/-- which WAY acts -/
def MK (ν : MM) (k i v : Nat) : Prop := k < 7 ∧ gI ν 46 22 = Int32.ofNat k ∧ gI ν 46 23 = Int32.ofNat i ∧ gI ν 46 24 = Int32.ofNat v
theorem MR.k {o : Nat → Int32} {ν μ : MM} {L : List Int32} (h : MR o ν μ L) {k i v : Nat} (g : MK ν k i v) : MK μ k i v := by
  obtain ⟨f, -, -⟩ := h
  obtain ⟨g1, g2, g3, g4⟩ := g
  exact ⟨g1, by rw [f.rI 46 22 rfl]; exact g2, by rw [f.rI 46 23 rfl]; exact g3, by rw [f.rI 46 24 rfl]; exact g4⟩
theorem s_184 (d : Nat) {o : Nat → Int32} {ν μ : MM} {L : List Int32} (h : MR o ν μ L) (hl : L.length < 20) {k i v : Nat} (g : MK ν k i v) (x : Int32) : ∃ μ', ev (d + 1) 184 0 [.ref 46, .int x] [] (fx μ) = some (some (.int (x + Int32.ofNat i)), fx μ') ∧ MR o ν μ' (L ++ [1]) := by
  obtain ⟨μ', e, h'⟩ := s_182 d h hl 1
  refine ⟨μ', ?_, h'⟩
  rw [e_184_0, e, bnd_0, app0]
  refine (e_184_1 ..).trans ?_
  rw [(h'.k g).2.2.1]
theorem un_num : ∀ k, k < 7 → (unI k 1 = decide (k = 1 ∨ k = 4)) ∧ (unI k 2 = decide (k = 2 ∨ k = 5)) ∧ (unI k 3 = decide (k = 3 ∨ k = 6)) ∧ ((Int32.ofNat k = 5) ↔ k = 5) ∧ ((Int32.ofNat k = 6) ↔ k = 6) ∧ ((Int32.ofNat k = 4) ↔ k = 4) := by decide
theorem s_185 (d : Nat) {o : Nat → Int32} {ν μ : MM} {L : List Int32} (h : MR o ν μ L) (hl : L.length < 18) {k i v : Nat} (g : MK ν k i v) (x : Int32) : ∃ μ', ev (d + 2) 185 0 [.ref 46, .int x] [] (fx μ) = some (some (.int (sndV k (Int32.ofNat i) x)), fx μ') ∧ MR o ν μ' (L ++ sndL k) := by
  have gk := h.k g
  obtain ⟨u1, -, -, u5, -⟩ := un_num k g.1
  have st : ev (d + 2) 185 0 [.ref 46, .int x] [] (fx μ) = if (k = 1 ∨ k = 4) then ev (d + 2) 185 2 [.ref 46, .int x] [] (fx μ) else if k = 5 then ev (d + 2) 185 6 [.ref 46, .int x] [] (fx μ) else ev (d + 2) 185 9 [.ref 46, .int x] [] (fx μ) := by
    have u := s_183 (d + 1) (k := 1) (by decide) g.1 μ
    rw [u1] at u
    rw [e_185_0, gk.2.1]
    refine Eq.trans (congrArg (fun z => bnd 1 z _) u) ?_
    rw [bnd_1, app1]
    refine (e_185_1 ..).trans ?_
    rw [bI_0, e_185_5, gk.2.1]
    by_cases c : k = 1 ∨ k = 4
    · rw [if_pos (decide_eq_true c), if_pos c]
    · rw [if_neg (by rw [decide_eq_false c]; decide), if_neg c]
      by_cases c5 : k = 5
      · rw [if_pos (u5.mpr c5), if_pos c5]
      · rw [if_neg (fun e => c5 (u5.mp e)), if_neg c5]
  rw [st]
  unfold sndV sndL
  by_cases c : k = 1 ∨ k = 4
  · obtain ⟨μ1, e1, h1⟩ := s_182 (d + 1) h (by omega) 11
    obtain ⟨μ', e2, h2⟩ := s_184 d h1 (by simp; omega) g (x * 3)
    rw [if_pos c, if_pos c, if_pos c]
    refine ⟨μ', ?_, by simpa using h2⟩
    rw [e_185_2, e1, bnd_0, app0]
    refine (e_185_3 ..).trans ?_
    rw [e2, bnd_1, app1]
    exact e_185_4 ..
  · rw [if_neg c, if_neg c, if_neg c]
    by_cases c5 : k = 5
    · obtain ⟨μ1, e1, h1⟩ := s_182 (d + 1) h (by omega) 51
      obtain ⟨μ', e2, h2⟩ := s_184 d h1 (by simp; omega) g x
      rw [if_pos c5, if_pos c5, if_pos c5]
      refine ⟨μ', ?_, by simpa using h2⟩
      rw [e_185_6, e1, bnd_0, app0]
      refine (e_185_7 ..).trans ?_
      rw [e2, bnd_1, app1]
      refine (e_185_8 ..).trans ?_
      rw [(h2.k g).2.2.1]
    · obtain ⟨μ', e2, h2⟩ := s_184 (d + 0) h (by omega) g x
      rw [if_neg c5, if_neg c5, if_neg c5]
      refine ⟨μ', ?_, h2⟩
      obtain ⟨μ'', e3, h3⟩ := s_184 d h (by omega) g x
      have e2 : ev (d + 1) 184 0 [.ref 46, .int x] [] (fx μ) = some (some (.int (x + Int32.ofNat i)), fx μ') := e2
      rw [e_185_9, e2, bnd_1, app1]
      exact e_185_10 ..
theorem s_186 (d : Nat) {o : Nat → Int32} {ν μ : MM} {L : List Int32} (h : MR o ν μ L) (hl : L.length < 17) {k i v : Nat} (g : MK ν k i v) (x : Int32) : ∃ μ', ev (d + 3) 186 0 [.ref 46, .int x] [] (fx μ) = some (some (.int (ptV k (Int32.ofNat i) (Int32.ofNat v) x)), fx μ') ∧ MR o ν μ' (L ++ ptL k) := by
  obtain ⟨μ1, e1, h1⟩ := s_182 (d + 2) h (by omega) 2
  obtain ⟨μ', e2, h2⟩ := s_185 d h1 (by simp; omega) g x
  refine ⟨μ', ?_, by simpa [ptL] using h2⟩
  rw [e_186_0, e1, bnd_0, app0]
  refine (e_186_1 ..).trans ?_
  rw [e2, bnd_1, app1]
  refine (e_186_2 ..).trans ?_
  rw [(h2.k g).2.2.2]
  rfl
theorem s_187 (d : Nat) {o : Nat → Int32} {ν μ : MM} {L : List Int32} (h : MR o ν μ L) (hl : L.length < 16) {k i v : Nat} (g : MK ν k i v) (x : Int32) : ∃ μ', ev (d + 4) 187 0 [.ref 46, .int x] [] (fx μ) = some (some (.int (tkV k (Int32.ofNat i) (Int32.ofNat v) x)), fx μ') ∧ MR o ν μ' (L ++ tkL k) := by
  have gk := h.k g
  obtain ⟨-, u2, -, -, u6, -⟩ := un_num k g.1
  have st : ev (d + 4) 187 0 [.ref 46, .int x] [] (fx μ) = if (k = 2 ∨ k = 5) then ev (d + 4) 187 2 [.ref 46, .int x] [] (fx μ) else if k = 6 then ev (d + 4) 187 6 [.ref 46, .int x] [] (fx μ) else ev (d + 4) 187 9 [.ref 46, .int x] [] (fx μ) := by
    have u := s_183 (d + 3) (k := 2) (by decide) g.1 μ
    rw [u2] at u
    rw [e_187_0, gk.2.1]
    refine Eq.trans (congrArg (fun z => bnd 1 z _) u) ?_
    rw [bnd_1, app1]
    refine (e_187_1 ..).trans ?_
    rw [bI_0, e_187_5, gk.2.1]
    by_cases c : k = 2 ∨ k = 5
    · rw [if_pos (decide_eq_true c), if_pos c]
    · rw [if_neg (by rw [decide_eq_false c]; decide), if_neg c]
      by_cases c5 : k = 6
      · rw [if_pos (u6.mpr c5), if_pos c5]
      · rw [if_neg (fun e => c5 (u6.mp e)), if_neg c5]
  rw [st]
  unfold tkV tkL
  by_cases c : k = 2 ∨ k = 5
  · obtain ⟨μ1, e1, h1⟩ := s_182 (d + 3) h (by omega) 21
    obtain ⟨μ', e2, h2⟩ := s_186 d h1 (by simp; omega) g x
    rw [if_pos c, if_pos c, if_pos c]
    refine ⟨μ', ?_, by simpa using h2⟩
    rw [e_187_2, e1, bnd_0, app0]
    refine (e_187_3 ..).trans ?_
    rw [e2, bnd_1, app1]
    exact e_187_4 ..
  · rw [if_neg c, if_neg c, if_neg c]
    by_cases c5 : k = 6
    · obtain ⟨μ1, e1, h1⟩ := s_182 (d + 3) h (by omega) 61
      obtain ⟨μ', e2, h2⟩ := s_186 d h1 (by simp; omega) g x
      rw [if_pos c5, if_pos c5, if_pos c5]
      refine ⟨μ', ?_, by simpa using h2⟩
      rw [e_187_6, e1, bnd_0, app0]
      refine (e_187_7 ..).trans ?_
      rw [e2, bnd_1, app1]
      refine (e_187_8 ..).trans ?_
      rw [(h2.k g).2.2.2]
    · obtain ⟨μ', e2, h2⟩ := s_186 d h (by omega) g x
      rw [if_neg c5, if_neg c5, if_neg c5]
      refine ⟨μ', ?_, h2⟩
      rw [e_187_9, e2, bnd_1, app1]
      exact e_187_10 ..
theorem s_188 (d : Nat) {o : Nat → Int32} {ν μ : MM} {L : List Int32} (h : MR o ν μ L) (hl : L.length < 15) {k i v : Nat} (g : MK ν k i v) (x : Int32) : ∃ μ', ev (d + 5) 188 0 [.ref 46, .int x] [] (fx μ) = some (some (.int (tlV k (Int32.ofNat i) (Int32.ofNat v) x)), fx μ') ∧ MR o ν μ' (L ++ tlL k) := by
  obtain ⟨μ1, e1, h1⟩ := s_182 (d + 4) h (by omega) 3
  obtain ⟨μ', e2, h2⟩ := s_187 d h1 (by simp; omega) g x
  refine ⟨μ', ?_, by simpa [tlL] using h2⟩
  rw [e_188_0, e1, bnd_0, app0]
  refine (e_188_1 ..).trans ?_
  rw [e2, bnd_1, app1]
  exact e_188_2 ..
theorem s_189 (d : Nat) {o : Nat → Int32} {ν μ : MM} {L : List Int32} (h : MR o ν μ L) (hl : L.length < 10) {k i v : Nat} (g : MK ν k i v) (x : Int32) : ∃ μ', ev (d + 6) 189 0 [.ref 46, .int x] [] (fx μ) = some (some (.int (teV k (Int32.ofNat i) (Int32.ofNat v) x)), fx μ') ∧ MR o ν μ' (L ++ teL k) := by
  have gk := h.k g
  obtain ⟨-, -, u3, -, -, u4⟩ := un_num k g.1
  have st : ev (d + 6) 189 0 [.ref 46, .int x] [] (fx μ) = if (k = 3 ∨ k = 6) then ev (d + 6) 189 2 [.ref 46, .int x] [] (fx μ) else if k = 4 then ev (d + 6) 189 6 [.ref 46, .int x] [] (fx μ) else ev (d + 6) 189 10 [.ref 46, .int x] [] (fx μ) := by
    have u := s_183 (d + 5) (k := 3) (by decide) g.1 μ
    rw [u3] at u
    rw [e_189_0, gk.2.1]
    refine Eq.trans (congrArg (fun z => bnd 1 z _) u) ?_
    rw [bnd_1, app1]
    refine (e_189_1 ..).trans ?_
    rw [bI_0, e_189_5, gk.2.1]
    by_cases c : k = 3 ∨ k = 6
    · rw [if_pos (decide_eq_true c), if_pos c]
    · rw [if_neg (by rw [decide_eq_false c]; decide), if_neg c]
      by_cases c5 : k = 4
      · rw [if_pos (u4.mpr c5), if_pos c5]
      · rw [if_neg (fun e => c5 (u4.mp e)), if_neg c5]
  rw [st]
  unfold teV teL
  by_cases c : k = 3 ∨ k = 6
  · obtain ⟨μ1, e1, h1⟩ := s_182 (d + 5) h (by omega) 31
    obtain ⟨μ', e2, h2⟩ := s_188 d h1 (by simp; omega) g x
    rw [if_pos c, if_pos c, if_pos c]
    refine ⟨μ', ?_, by simpa using h2⟩
    rw [e_189_2, e1, bnd_0, app0]
    refine (e_189_3 ..).trans ?_
    rw [e2, bnd_1, app1]
    exact e_189_4 ..
  · rw [if_neg c, if_neg c, if_neg c]
    by_cases c5 : k = 4
    · obtain ⟨μ1, e1, h1⟩ := s_182 (d + 5) h (by omega) 41
      obtain ⟨μ2, e2, h2⟩ := s_188 d h1 (by simp; omega) g (x - 1)
      have l2 : (L ++ [41] ++ tlL k).length < 18 := by
        have := (lens k g.1).2.2.2.1
        simp only [List.length_append, List.length_cons, List.length_nil]
        omega
      obtain ⟨μ', e3, h3⟩ := s_185 (d + 3) h2 l2 g 2
      rw [if_pos c5, if_pos c5, if_pos c5]
      refine ⟨μ', ?_, by simpa using h3⟩
      rw [e_189_6, e1, bnd_0, app0]
      refine (e_189_7 ..).trans ?_
      rw [e2, bnd_1, app1]
      refine (e_189_8 ..).trans ?_
      rw [e3, bnd_1, app1]
      exact e_189_9 ..
    · obtain ⟨μ', e2, h2⟩ := s_188 d h (by omega) g x
      rw [if_neg c5, if_neg c5, if_neg c5]
      refine ⟨μ', ?_, h2⟩
      rw [e_189_10, e2, bnd_1, app1]
      exact e_189_11 ..
