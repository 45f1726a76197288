/-! acts -/
def sndV (k : Nat) (i x : Int32) : Int32 := if k = 1 ∨ k = 4 then x * 3 + i else if k = 5 then (x + i) ^^^ i else x + i
def sndL (k : Nat) : List Int32 := if k = 1 ∨ k = 4 then [11, 1] else if k = 5 then [51, 1] else [1]
def ptV (k : Nat) (i v x : Int32) : Int32 := sndV k i x - v
def ptL (k : Nat) : List Int32 := 2 :: sndL k
def tkV (k : Nat) (i v x : Int32) : Int32 := if k = 2 ∨ k = 5 then -ptV k i v x else if k = 6 then ptV k i v x + v else ptV k i v x
def tkL (k : Nat) : List Int32 := if k = 2 ∨ k = 5 then 21 :: ptL k else if k = 6 then 61 :: ptL k else ptL k
def tlV (k : Nat) (i v x : Int32) : Int32 := tkV k i v x * 2
def tlL (k : Nat) : List Int32 := 3 :: tkL k
def teV (k : Nat) (i v x : Int32) : Int32 := if k = 3 ∨ k = 6 then tlV k i v x ^^^ 7 else if k = 4 then tlV k i v (x - 1) + sndV k i 2 else tlV k i v x
def teL (k : Nat) : List Int32 := if k = 3 ∨ k = 6 then 31 :: tlL k else if k = 4 then 41 :: (tlL k ++ sndL k) else tlL k
theorem lens : ∀ k, k < 7 → (sndL k).length ≤ 2 ∧ (ptL k).length ≤ 3 ∧ (tkL k).length ≤ 4 ∧ (tlL k).length ≤ 5 ∧ (teL k).length ≤ 9 := by decide
def PT (q _ : Nat) : Bool := Nat.beq q 42 || Nat.beq q 43
def CR (o : Nat → Int32) (ν μ : MM) (L : List Int32) : Prop := Fr PT Q0 ν μ ∧ gI μ 42 1 = Int32.ofNat L.length ∧ ∀ i, i < 20 → gI μ 43 i = L.getD i (o i)
theorem getD_snoc (L : List Int32) (b : Int32) (i : Nat) (x : Int32) : (L ++ [b]).getD i x = if i = L.length then b else L.getD i x := by
  by_cases c : i = L.length
  · rw [if_pos c, c]
    simp
  · rw [if_neg c]
    by_cases h : i < L.length
    · simp [List.getD_eq_getElem?_getD, List.getElem?_append_left h]
    · have h1 : (L ++ [b]).length ≤ i := by simp; omega
      rw [List.getD_eq_getElem?_getD, List.getD_eq_getElem?_getD, List.getElem?_eq_none h1, List.getElem?_eq_none (by omega)]
theorem s_46 (d : Nat) {o : Nat → Int32} {ν μ : MM} {L : List Int32} (h : CR o ν μ L) (hl : L.length < 20) (b : Int32) : ∃ μ', ev d 46 0 [.ref 42, .int b] [] (fx μ) = some (none, fx μ') ∧ CR o ν μ' (L ++ [b]) := by
  obtain ⟨f, h1, h2⟩ := h
  refine ⟨sI (sI μ 43 L.length b) 42 1 (Int32.ofNat (L.length + 1)), ?_, f.tr ((Fr.wI _ rfl).tr (Fr.wI _ rfl)), ?_, fun i hi => ?_⟩
  · have s42 : cin [9] (shp (fx μ) 42) = true := rfl
    have s43 : cin [20, 21, 22, 23, 24, 25, 31, 32] (shp (fx μ) 43) = true := rfl
    have s43' : cin [20] (shp (fx μ) 43) = true := rfl
    have r42 : gR (fx μ) 42 0 = some 43 := rfl
    have a43 : aln (fx μ) 43 = 20 := rfl
    have le : (Int32.ofNat 20 ≤ Int32.ofNat L.length) = (20 ≤ L.length) := O_le (by decide) (by omega)
    have e1 : gI (sI μ 43 L.length b) 42 1 + 1 = Int32.ofNat (L.length + 1) := by rw [gI_sI, if_neg (by omega), h1, O_succ]
    rw [e_46_0, s42, gd_t, gd_t, r42, asR_s, s43, gd_t, a43, h1, if_neg (by rw [le]; omega), e_46_1, s42, gd_t, gd_t, r42, asR_s, s43', a43, h1, inb_O (by omega) (by omega), Bool.and_self, gd_t, tn_O (by omega), e_46_2]
    have s42' : cin [9] (shp (fx (sI μ 43 L.length b)) 42) = true := rfl
    rw [s42', gd_t, gd_t, e1]
  · rw [gI_sI, if_pos ⟨rfl, rfl⟩]
    simp
  · rw [gI_sI, if_neg (by omega), gI_sI, getD_snoc]
    by_cases c : i = L.length
    · rw [if_pos ⟨rfl, c⟩, if_pos c]
    · rw [if_neg (fun h => c h.2), if_neg c]
      exact h2 i hi
theorem CR.ob {o : Nat → Int32} {ν μ : MM} {L : List Int32} (h : CR o ν μ L) {r k v hh co si : Nat} (g : RnV ν r k v hh co si) : shp (fx μ) r = clsK k ∧ gI μ r = gI ν r ∧ gR (fx μ) r 5 = some 42 := by
  obtain ⟨f, -, -⟩ := h
  refine ⟨by rw [f.fs]; exact g.2.1, funext fun j => f.rI r j ?_, by rw [f.fR]; exact g.2.2.2.2.2.2.2.2.2.2.2.2.2⟩
  unfold PT
  have := g.1
  rw [beq_n (show r ≠ 42 by omega), beq_n (show r ≠ 43 by omega)]
  rfl
theorem s_36 (d : Nat) {o : Nat → Int32} {ν μ : MM} {L : List Int32} (h : CR o ν μ L) (hl : L.length < 20) {r k v hh co si i : Nat} (g : RnV ν r k v hh co si) (hi : gI ν r 1 = Int32.ofNat i) (x : Int32) : ∃ μ', ev (d + 1) 36 0 [.ref r, .int x] [] (fx μ) = some (some (.int (x + Int32.ofNat i)), fx μ') ∧ CR o ν μ' (L ++ [1]) := by
  obtain ⟨hs, hg, h5⟩ := h.ob g
  obtain ⟨μ', e, h'⟩ := s_46 d h hl 1
  obtain ⟨hs', hg', -⟩ := h'.ob g
  refine ⟨μ', ?_, h'⟩
  have b9 : Nat.beq (shp (fx μ) 42) 9 = true := rfl
  rw [e_36_0, hs, clsK_in g.2.2.1, gd_t, h5, asR_s, b9]
  refine Eq.trans (congrArg (fun z => bnd 0 z _) e) ?_
  rw [bnd_0, app0]
  refine (e_36_1 ..).trans ?_
  rw [hs', clsK_in g.2.2.1, gd_t, hg', hi]
theorem s_2 (d : Nat) {o : Nat → Int32} {ν μ : MM} {L : List Int32} (h : CR o ν μ L) (hl : L.length < 19) {r k v hh co si i : Nat} (g : RnV ν r k v hh co si) (hk : k = 1 ∨ k = 4) (hi : gI ν r 1 = Int32.ofNat i) (x : Int32) : ∃ μ', ev (d + 2) 2 0 [.ref r, .int x] [] (fx μ) = some (some (.int (x * 3 + Int32.ofNat i)), fx μ') ∧ CR o ν μ' (L ++ [11, 1]) := by
  obtain ⟨hs, hg, h5⟩ := h.ob g
  obtain ⟨μ1, e, h'⟩ := s_46 (d + 1) h (by omega) 11
  obtain ⟨hs', hg', -⟩ := h'.ob g
  obtain ⟨μ', e2, h2⟩ := s_36 d h' (by simp; omega) g hi (x * 3)
  have ck : cin [0, 7] (clsK k) = true := by rcases hk with rfl | rfl <;> rfl
  refine ⟨μ', ?_, by simpa using h2⟩
  have b9 : Nat.beq (shp (fx μ) 42) 9 = true := rfl
  rw [e_2_0, hs, ck, gd_t, h5, asR_s, b9]
  refine Eq.trans (congrArg (fun z => bnd 0 z _) e) ?_
  rw [bnd_0, app0]
  refine (e_2_1 ..).trans ?_
  rw [hs', ck, gd_t, e2, bnd_1, app1]
  exact e_2_2 ..
theorem s_44 (d : Nat) {o : Nat → Int32} {ν μ : MM} {L : List Int32} (h : CR o ν μ L) (hl : L.length < 19) {r v hh co si i : Nat} (g : RnV ν r 5 v hh co si) (hi : gI ν r 1 = Int32.ofNat i) (x : Int32) : ∃ μ', ev (d + 2) 44 0 [.ref r, .int x] [] (fx μ) = some (some (.int ((x + Int32.ofNat i) ^^^ Int32.ofNat i)), fx μ') ∧ CR o ν μ' (L ++ [51, 1]) := by
  obtain ⟨hs, hg, h5⟩ := h.ob g
  obtain ⟨μ1, e, h'⟩ := s_46 (d + 1) h (by omega) 51
  obtain ⟨hs', hg', -⟩ := h'.ob g
  obtain ⟨μ', e2, h2⟩ := s_36 d h' (by simp; omega) g hi x
  obtain ⟨hs2, hg2, -⟩ := h2.ob g
  have ck : cin [8] (clsK 5) = true := rfl
  refine ⟨μ', ?_, by simpa using h2⟩
  have b9 : Nat.beq (shp (fx μ) 42) 9 = true := rfl
  rw [e_44_0, hs, ck, gd_t, h5, asR_s, b9]
  refine Eq.trans (congrArg (fun z => bnd 0 z _) e) ?_
  rw [bnd_0, app0]
  refine (e_44_1 ..).trans ?_
  rw [hs', ck, gd_t, e2, bnd_1, app1]
  refine (e_44_2 ..).trans ?_
  rw [hs2, ck, gd_t, hg2, hi]
theorem snd_any (d : Nat) {o : Nat → Int32} {ν μ : MM} {L : List Int32} (h : CR o ν μ L) (hl : L.length < 18) {r k v hh co si i : Nat} (g : RnV ν r k v hh co si) (hi : gI ν r 1 = Int32.ofNat i) (x : Int32) (K : List Value → MM → Rs) : ∃ μ', (match Nat.beq (shp (fx μ) r) 0 with | true => bnd 1 (ev (d + 2) 2 0 [.ref r, .int x] [] (fx μ)) K | false => (match Nat.beq (shp (fx μ) r) 1 with | true => bnd 1 (ev (d + 2) 36 0 [.ref r, .int x] [] (fx μ)) K | false => (match Nat.beq (shp (fx μ) r) 2 with | true => bnd 1 (ev (d + 2) 36 0 [.ref r, .int x] [] (fx μ)) K | false => (match Nat.beq (shp (fx μ) r) 4 with | true => bnd 1 (ev (d + 2) 36 0 [.ref r, .int x] [] (fx μ)) K | false => (match Nat.beq (shp (fx μ) r) 6 with | true => bnd 1 (ev (d + 2) 36 0 [.ref r, .int x] [] (fx μ)) K | false => (match Nat.beq (shp (fx μ) r) 7 with | true => bnd 1 (ev (d + 2) 2 0 [.ref r, .int x] [] (fx μ)) K | false => (match Nat.beq (shp (fx μ) r) 8 with | true => bnd 1 (ev (d + 2) 44 0 [.ref r, .int x] [] (fx μ)) K | false => (none : Rs)))))))) = K [.int (sndV k (Int32.ofNat i) x)] (fx μ') ∧ CR o ν μ' (L ++ sndL k) := by
  obtain ⟨hs, -, -⟩ := h.ob g
  have hk := g.2.2.1
  have hk7 : k = 0 ∨ k = 1 ∨ k = 2 ∨ k = 3 ∨ k = 4 ∨ k = 5 ∨ k = 6 := by omega
  rcases hk7 with rfl | rfl | rfl | rfl | rfl | rfl | rfl
  · obtain ⟨μ', e, h'⟩ := s_36 (d + 1) h (by omega) g hi x
    refine ⟨μ', ?_, h'⟩
    rw [hs]
    exact congrArg (fun z => bnd 1 z K) e
  · obtain ⟨μ', e, h'⟩ := s_2 d h (by omega) g (by decide) hi x
    refine ⟨μ', ?_, h'⟩
    rw [hs]
    exact congrArg (fun z => bnd 1 z K) e
  · obtain ⟨μ', e, h'⟩ := s_36 (d + 1) h (by omega) g hi x
    refine ⟨μ', ?_, h'⟩
    rw [hs]
    exact congrArg (fun z => bnd 1 z K) e
  · obtain ⟨μ', e, h'⟩ := s_36 (d + 1) h (by omega) g hi x
    refine ⟨μ', ?_, h'⟩
    rw [hs]
    exact congrArg (fun z => bnd 1 z K) e
  · obtain ⟨μ', e, h'⟩ := s_2 d h (by omega) g (by decide) hi x
    refine ⟨μ', ?_, h'⟩
    rw [hs]
    exact congrArg (fun z => bnd 1 z K) e
  · obtain ⟨μ', e, h'⟩ := s_44 d h (by omega) g hi x
    refine ⟨μ', ?_, h'⟩
    rw [hs]
    exact congrArg (fun z => bnd 1 z K) e
  · obtain ⟨μ', e, h'⟩ := s_36 (d + 1) h (by omega) g hi x
    refine ⟨μ', ?_, h'⟩
    rw [hs]
    exact congrArg (fun z => bnd 1 z K) e
theorem s_37 (d : Nat) {o : Nat → Int32} {ν μ : MM} {L : List Int32} (h : CR o ν μ L) (hl : L.length < 17) {r k v hh co si i : Nat} (g : RnV ν r k v hh co si) (hi : gI ν r 1 = Int32.ofNat i) (x : Int32) : ∃ μ', ev (d + 3) 37 0 [.ref r, .int x] [] (fx μ) = some (some (.int (ptV k (Int32.ofNat i) (Int32.ofNat v) x)), fx μ') ∧ CR o ν μ' (L ++ ptL k) := by
  obtain ⟨hs, hg, h5⟩ := h.ob g
  obtain ⟨μ1, e, h'⟩ := s_46 (d + 2) h (by omega) 2
  obtain ⟨μ', e2, h2⟩ := snd_any d h' (by simp; omega) g hi x (fun rs μ1 => ev (d + 3) 37 2 [.ref r] (rs ++ []) μ1)
  obtain ⟨hs2, hg2, -⟩ := h2.ob g
  refine ⟨μ', ?_, by simpa [ptL] using h2⟩
  have b9 : Nat.beq (shp (fx μ) 42) 9 = true := rfl
  rw [e_37_0, hs, clsK_in g.2.2.1, gd_t, h5, asR_s, b9]
  refine Eq.trans (congrArg (fun z => bnd 0 z _) e) ?_
  rw [bnd_0, app0]
  refine (e_37_1 ..).trans ?_
  refine Eq.trans e2 ?_
  refine (e_37_2 ..).trans ?_
  rw [hs2, clsK_in g.2.2.1, gd_t, hg2, g.2.2.2.2.2.2.2.2.1]
  rfl
theorem s_5 (d : Nat) {o : Nat → Int32} {ν μ : MM} {L : List Int32} (h : CR o ν μ L) (hl : L.length < 16) {r k v hh co si i : Nat} (g : RnV ν r k v hh co si) (hk : k = 2 ∨ k = 5) (hi : gI ν r 1 = Int32.ofNat i) (x : Int32) : ∃ μ', ev (d + 4) 5 0 [.ref r, .int x] [] (fx μ) = some (some (.int (tkV k (Int32.ofNat i) (Int32.ofNat v) x)), fx μ') ∧ CR o ν μ' (L ++ tkL k) := by
  obtain ⟨hs, hg, h5⟩ := h.ob g
  obtain ⟨μ1, e, h'⟩ := s_46 (d + 3) h (by omega) 21
  obtain ⟨hs', -, -⟩ := h'.ob g
  obtain ⟨μ', e2, h2⟩ := s_37 d h' (by simp; omega) g hi x
  obtain ⟨hs2, hg2, -⟩ := h2.ob g
  have ck : cin [1, 8] (clsK k) = true := by rcases hk with rfl | rfl <;> rfl
  refine ⟨μ', ?_, ?_⟩
  · have b9 : Nat.beq (shp (fx μ) 42) 9 = true := rfl
    rw [e_5_0, hs, ck, gd_t, h5, asR_s, b9]
    refine Eq.trans (congrArg (fun z => bnd 0 z _) e) ?_
    rw [bnd_0, app0]
    refine (e_5_1 ..).trans ?_
    rw [hs', ck, gd_t, e2, bnd_1, app1]
    refine (e_5_2 ..).trans ?_
    unfold tkV
    rw [if_pos hk]
  · have e3 : L ++ tkL k = (L ++ [21]) ++ ptL k := by
      rcases hk with rfl | rfl <;> simp [tkL]
    rw [e3]
    exact h2
theorem s_9 (d : Nat) {o : Nat → Int32} {ν μ : MM} {L : List Int32} (h : CR o ν μ L) (hl : L.length < 16) {r k v hh co si i : Nat} (g : RnV ν r k v hh co si) (hk : k = 6) (hi : gI ν r 1 = Int32.ofNat i) (x : Int32) : ∃ μ', ev (d + 4) 9 0 [.ref r, .int x] [] (fx μ) = some (some (.int (tkV k (Int32.ofNat i) (Int32.ofNat v) x)), fx μ') ∧ CR o ν μ' (L ++ tkL k) := by
  obtain ⟨hs, hg, h5⟩ := h.ob g
  obtain ⟨μ1, e, h'⟩ := s_46 (d + 3) h (by omega) 61
  obtain ⟨hs', -, -⟩ := h'.ob g
  obtain ⟨μ', e2, h2⟩ := s_37 d h' (by simp; omega) g hi x
  obtain ⟨hs2, hg2, -⟩ := h2.ob g
  have ck : cin [2] (clsK k) = true := by subst hk; rfl
  refine ⟨μ', ?_, ?_⟩
  · have b9 : Nat.beq (shp (fx μ) 42) 9 = true := rfl
    rw [e_9_0, hs, ck, gd_t, h5, asR_s, b9]
    refine Eq.trans (congrArg (fun z => bnd 0 z _) e) ?_
    rw [bnd_0, app0]
    refine (e_9_1 ..).trans ?_
    rw [hs', ck, gd_t, e2, bnd_1, app1]
    refine (e_9_2 ..).trans ?_
    rw [hs2, ck, gd_t, hg2, g.2.2.2.2.2.2.2.2.1]
    subst hk
    rfl
  · have e3 : L ++ tkL k = (L ++ [61]) ++ ptL k := by
      subst hk; simp [tkL]
    rw [e3]
    exact h2
theorem tks_any (d : Nat) {o : Nat → Int32} {ν μ : MM} {L : List Int32} (h : CR o ν μ L) (hl : L.length < 16) {r k v hh co si i : Nat} (g : RnV ν r k v hh co si) (hi : gI ν r 1 = Int32.ofNat i) (x : Int32) (K : List Value → MM → Rs) : ∃ μ', (match Nat.beq (shp (fx μ) r) 0 with | true => bnd 1 (ev (d + 4) 37 0 [.ref r, .int x] [] (fx μ)) K | false => (match Nat.beq (shp (fx μ) r) 1 with | true => bnd 1 (ev (d + 4) 5 0 [.ref r, .int x] [] (fx μ)) K | false => (match Nat.beq (shp (fx μ) r) 2 with | true => bnd 1 (ev (d + 4) 9 0 [.ref r, .int x] [] (fx μ)) K | false => (match Nat.beq (shp (fx μ) r) 4 with | true => bnd 1 (ev (d + 4) 37 0 [.ref r, .int x] [] (fx μ)) K | false => (match Nat.beq (shp (fx μ) r) 6 with | true => bnd 1 (ev (d + 4) 37 0 [.ref r, .int x] [] (fx μ)) K | false => (match Nat.beq (shp (fx μ) r) 7 with | true => bnd 1 (ev (d + 4) 37 0 [.ref r, .int x] [] (fx μ)) K | false => (match Nat.beq (shp (fx μ) r) 8 with | true => bnd 1 (ev (d + 4) 5 0 [.ref r, .int x] [] (fx μ)) K | false => (none : Rs)))))))) = K [.int (tkV k (Int32.ofNat i) (Int32.ofNat v) x)] (fx μ') ∧ CR o ν μ' (L ++ tkL k) := by
  obtain ⟨hs, -, -⟩ := h.ob g
  have hk := g.2.2.1
  have hk7 : k = 0 ∨ k = 1 ∨ k = 2 ∨ k = 3 ∨ k = 4 ∨ k = 5 ∨ k = 6 := by omega
  rcases hk7 with rfl | rfl | rfl | rfl | rfl | rfl | rfl
  · obtain ⟨μ', e, h'⟩ := s_37 (d + 1) h (by omega) g hi x
    refine ⟨μ', ?_, h'⟩
    rw [hs]
    exact congrArg (fun z => bnd 1 z K) e
  · obtain ⟨μ', e, h'⟩ := s_37 (d + 1) h (by omega) g hi x
    refine ⟨μ', ?_, h'⟩
    rw [hs]
    exact congrArg (fun z => bnd 1 z K) e
  · obtain ⟨μ', e, h'⟩ := s_5 d h (by omega) g (by decide) hi x
    refine ⟨μ', ?_, h'⟩
    rw [hs]
    exact congrArg (fun z => bnd 1 z K) e
  · obtain ⟨μ', e, h'⟩ := s_37 (d + 1) h (by omega) g hi x
    refine ⟨μ', ?_, h'⟩
    rw [hs]
    exact congrArg (fun z => bnd 1 z K) e
  · obtain ⟨μ', e, h'⟩ := s_37 (d + 1) h (by omega) g hi x
    refine ⟨μ', ?_, h'⟩
    rw [hs]
    exact congrArg (fun z => bnd 1 z K) e
  · obtain ⟨μ', e, h'⟩ := s_5 d h (by omega) g (by decide) hi x
    refine ⟨μ', ?_, h'⟩
    rw [hs]
    exact congrArg (fun z => bnd 1 z K) e
  · obtain ⟨μ', e, h'⟩ := s_9 d h (by omega) g rfl hi x
    refine ⟨μ', ?_, h'⟩
    rw [hs]
    exact congrArg (fun z => bnd 1 z K) e
theorem s_38 (d : Nat) {o : Nat → Int32} {ν μ : MM} {L : List Int32} (h : CR o ν μ L) (hl : L.length < 15) {r k v hh co si i : Nat} (g : RnV ν r k v hh co si) (hi : gI ν r 1 = Int32.ofNat i) (x : Int32) : ∃ μ', ev (d + 5) 38 0 [.ref r, .int x] [] (fx μ) = some (some (.int (tlV k (Int32.ofNat i) (Int32.ofNat v) x)), fx μ') ∧ CR o ν μ' (L ++ tlL k) := by
  obtain ⟨hs, hg, h5⟩ := h.ob g
  obtain ⟨μ1, e, h'⟩ := s_46 (d + 4) h (by omega) 3
  obtain ⟨μ', e2, h2⟩ := tks_any d h' (by simp; omega) g hi x (fun rs μ1 => ev (d + 5) 38 2 [] (rs ++ []) μ1)
  refine ⟨μ', ?_, by simpa [tlL] using h2⟩
  have b9 : Nat.beq (shp (fx μ) 42) 9 = true := rfl
  rw [e_38_0, hs, clsK_in g.2.2.1, gd_t, h5, asR_s, b9]
  refine Eq.trans (congrArg (fun z => bnd 0 z _) e) ?_
  rw [bnd_0, app0]
  refine (e_38_1 ..).trans ?_
  refine Eq.trans e2 ?_
  exact e_38_2 ..
theorem s_16 (d : Nat) {o : Nat → Int32} {ν μ : MM} {L : List Int32} (h : CR o ν μ L) (hl : L.length < 14) {r k v hh co si i : Nat} (g : RnV ν r k v hh co si) (hk : k = 3 ∨ k = 6) (hi : gI ν r 1 = Int32.ofNat i) (x : Int32) : ∃ μ', ev (d + 6) 16 0 [.ref r, .int x] [] (fx μ) = some (some (.int (teV k (Int32.ofNat i) (Int32.ofNat v) x)), fx μ') ∧ CR o ν μ' (L ++ teL k) := by
  obtain ⟨hs, hg, h5⟩ := h.ob g
  obtain ⟨μ1, e, h'⟩ := s_46 (d + 5) h (by omega) 31
  obtain ⟨hs', -, -⟩ := h'.ob g
  obtain ⟨μ', e2, h2⟩ := s_38 d h' (by simp; omega) g hi x
  have ck : cin [2, 4] (clsK k) = true := by rcases hk with rfl | rfl <;> rfl
  refine ⟨μ', ?_, ?_⟩
  · have b9 : Nat.beq (shp (fx μ) 42) 9 = true := rfl
    rw [e_16_0, hs, ck, gd_t, h5, asR_s, b9]
    refine Eq.trans (congrArg (fun z => bnd 0 z _) e) ?_
    rw [bnd_0, app0]
    refine (e_16_1 ..).trans ?_
    rw [hs', ck, gd_t, e2, bnd_1, app1]
    refine (e_16_2 ..).trans ?_
    unfold teV
    rw [if_pos hk]
  · have e3 : L ++ teL k = (L ++ [31]) ++ tlL k := by
      rcases hk with rfl | rfl <;> simp [teL]
    rw [e3]
    exact h2
theorem s_41 (d : Nat) {o : Nat → Int32} {ν μ : MM} {L : List Int32} (h : CR o ν μ L) (hl : L.length < 10) {r v hh co si i : Nat} (g : RnV ν r 4 v hh co si) (hi : gI ν r 1 = Int32.ofNat i) (x : Int32) : ∃ μ', ev (d + 6) 41 0 [.ref r, .int x] [] (fx μ) = some (some (.int (teV 4 (Int32.ofNat i) (Int32.ofNat v) x)), fx μ') ∧ CR o ν μ' (L ++ teL 4) := by
  obtain ⟨hs, hg, h5⟩ := h.ob g
  obtain ⟨μ1, e, h'⟩ := s_46 (d + 5) h (by omega) 41
  obtain ⟨hs', -, -⟩ := h'.ob g
  obtain ⟨μ2, e2, h2⟩ := s_38 d h' (by simp; omega) g hi (x - 1)
  obtain ⟨hs2, -, -⟩ := h2.ob g
  have l2 : (L ++ [41] ++ tlL 4).length < 19 := by
    have : (tlL 4).length = 4 := rfl
    simp only [List.length_append, List.length_cons, List.length_nil, this]
    omega
  obtain ⟨μ', e3, h3⟩ := s_2 (d + 3) h2 l2 g (by decide) hi 2
  have ck : cin [7] (clsK 4) = true := rfl
  refine ⟨μ', ?_, ?_⟩
  · have b9 : Nat.beq (shp (fx μ) 42) 9 = true := rfl
    rw [e_41_0, hs, ck, gd_t, h5, asR_s, b9]
    refine Eq.trans (congrArg (fun z => bnd 0 z _) e) ?_
    rw [bnd_0, app0]
    refine (e_41_1 ..).trans ?_
    rw [hs', ck, gd_t, e2, bnd_1, app1]
    refine (e_41_2 ..).trans ?_
    rw [hs2]
    refine Eq.trans (congrArg (fun z => bnd 1 z _) e3) ?_
    rw [bnd_1, app1]
    exact e_41_3 ..
  · have e4 : L ++ teL 4 = L ++ [41] ++ tlL 4 ++ [11, 1] := by simp [teL, tlL, tkL, ptL, sndL]
    rw [e4]
    exact h3
theorem tes_any (d : Nat) {o : Nat → Int32} {ν μ : MM} {L : List Int32} (h : CR o ν μ L) (hl : L.length < 10) {r k v hh co si i : Nat} (g : RnV ν r k v hh co si) (hi : gI ν r 1 = Int32.ofNat i) (x : Int32) (K : List Value → MM → Rs) : ∃ μ', (match Nat.beq (shp (fx μ) r) 0 with | true => bnd 1 (ev (d + 6) 38 0 [.ref r, .int x] [] (fx μ)) K | false => (match Nat.beq (shp (fx μ) r) 1 with | true => bnd 1 (ev (d + 6) 38 0 [.ref r, .int x] [] (fx μ)) K | false => (match Nat.beq (shp (fx μ) r) 2 with | true => bnd 1 (ev (d + 6) 16 0 [.ref r, .int x] [] (fx μ)) K | false => (match Nat.beq (shp (fx μ) r) 4 with | true => bnd 1 (ev (d + 6) 16 0 [.ref r, .int x] [] (fx μ)) K | false => (match Nat.beq (shp (fx μ) r) 6 with | true => bnd 1 (ev (d + 6) 38 0 [.ref r, .int x] [] (fx μ)) K | false => (match Nat.beq (shp (fx μ) r) 7 with | true => bnd 1 (ev (d + 6) 41 0 [.ref r, .int x] [] (fx μ)) K | false => (match Nat.beq (shp (fx μ) r) 8 with | true => bnd 1 (ev (d + 6) 38 0 [.ref r, .int x] [] (fx μ)) K | false => (none : Rs)))))))) = K [.int (teV k (Int32.ofNat i) (Int32.ofNat v) x)] (fx μ') ∧ CR o ν μ' (L ++ teL k) := by
  obtain ⟨hs, -, -⟩ := h.ob g
  have hk := g.2.2.1
  have hk7 : k = 0 ∨ k = 1 ∨ k = 2 ∨ k = 3 ∨ k = 4 ∨ k = 5 ∨ k = 6 := by omega
  rcases hk7 with rfl | rfl | rfl | rfl | rfl | rfl | rfl
  · obtain ⟨μ', e, h'⟩ := s_38 (d + 1) h (by omega) g hi x
    refine ⟨μ', ?_, h'⟩
    rw [hs]
    exact congrArg (fun z => bnd 1 z K) e
  · obtain ⟨μ', e, h'⟩ := s_38 (d + 1) h (by omega) g hi x
    refine ⟨μ', ?_, h'⟩
    rw [hs]
    exact congrArg (fun z => bnd 1 z K) e
  · obtain ⟨μ', e, h'⟩ := s_38 (d + 1) h (by omega) g hi x
    refine ⟨μ', ?_, h'⟩
    rw [hs]
    exact congrArg (fun z => bnd 1 z K) e
  · obtain ⟨μ', e, h'⟩ := s_16 d h (by omega) g (by decide) hi x
    refine ⟨μ', ?_, h'⟩
    rw [hs]
    exact congrArg (fun z => bnd 1 z K) e
  · obtain ⟨μ', e, h'⟩ := s_41 d h (by omega) g hi x
    refine ⟨μ', ?_, h'⟩
    rw [hs]
    exact congrArg (fun z => bnd 1 z K) e
  · obtain ⟨μ', e, h'⟩ := s_38 (d + 1) h (by omega) g hi x
    refine ⟨μ', ?_, h'⟩
    rw [hs]
    exact congrArg (fun z => bnd 1 z K) e
  · obtain ⟨μ', e, h'⟩ := s_16 d h (by omega) g (by decide) hi x
    refine ⟨μ', ?_, h'⟩
    rw [hs]
    exact congrArg (fun z => bnd 1 z K) e
