/-! FRAMES: all stays but ints at P and longs at Q -/
def Fr (P : Nat → Nat → Bool) (Q : Nat → Bool) (ν ν' : MM) : Prop := shp ν' = shp ν ∧ aln ν' = aln ν ∧ msz ν' = msz ν ∧ msl ν' = msl ν ∧ gR ν' = gR ν ∧ (∀ q k, P q k = false → gI ν' q k = gI ν q k) ∧ ∀ q k, Q q = false → gL ν' q k = gL ν q k
theorem Fr.rf {P Q} {ν : MM} : Fr P Q ν ν := ⟨rfl, rfl, rfl, rfl, rfl, fun _ _ _ => rfl, fun _ _ _ => rfl⟩
theorem Fr.tr {P Q} {a b c : MM} (h : Fr P Q a b) (g : Fr P Q b c) : Fr P Q a c := ⟨g.1.trans h.1, g.2.1.trans h.2.1, g.2.2.1.trans h.2.2.1, g.2.2.2.1.trans h.2.2.2.1, g.2.2.2.2.1.trans h.2.2.2.2.1, fun q k e => (g.2.2.2.2.2.1 q k e).trans (h.2.2.2.2.2.1 q k e), fun q k e => (g.2.2.2.2.2.2 q k e).trans (h.2.2.2.2.2.2 q k e)⟩
theorem Fr.mono {P Q P' Q'} {a b : MM} (h : Fr P Q a b) (hP : ∀ q k, P' q k = false → P q k = false) (hQ : ∀ q, Q' q = false → Q q = false) : Fr P' Q' a b := ⟨h.1, h.2.1, h.2.2.1, h.2.2.2.1, h.2.2.2.2.1, fun q k e => h.2.2.2.2.2.1 q k (hP q k e), fun q k e => h.2.2.2.2.2.2 q k (hQ q e)⟩
theorem Fr.wI {P Q} {ν : MM} {q k : Nat} (v : Int32) (h : P q k = true) : Fr P Q ν (sI ν q k v) := by
  refine ⟨rfl, rfl, rfl, rfl, rfl, fun a b e => ?_, fun _ _ _ => rfl⟩
  rw [gI_sI, if_neg]
  rintro ⟨rfl, rfl⟩
  rw [h] at e
  cases e
theorem Fr.wL {P Q} {ν : MM} {q k : Nat} (v : Int64) (h : Q q = true) : Fr P Q ν (sL ν q k v) := by
  refine ⟨rfl, rfl, rfl, rfl, rfl, fun _ _ _ => rfl, fun a b e => ?_⟩
  rw [gL_sL, if_neg]
  rintro ⟨rfl, -⟩
  rw [h] at e
  cases e
theorem Fr.rI {P Q} {a b : MM} (h : Fr P Q a b) (q k : Nat) (e : P q k = false) : gI b q k = gI a q k := h.2.2.2.2.2.1 q k e
theorem Fr.rL {P Q} {a b : MM} (h : Fr P Q a b) (q k : Nat) (e : Q q = false) : gL b q k = gL a q k := h.2.2.2.2.2.2 q k e
theorem Fr.rR {P Q} {a b : MM} (h : Fr P Q a b) : gR b = gR a := h.2.2.2.2.1
theorem Fr.fR {P Q} {a b : MM} (h : Fr P Q a b) : gR (fx b) = gR (fx a) := by
  funext q k
  show nxo _ (gR b q k) = nxo _ (gR a q k)
  rw [h.rR]
theorem Fr.fs {P Q} {a b : MM} (h : Fr P Q a b) : shp (fx b) = shp (fx a) := by
  funext q
  show nxt _ (shp b q) = nxt _ (shp a q)
  rw [h.1]
theorem Fr.fa {P Q} {a b : MM} (h : Fr P Q a b) : aln (fx b) = aln (fx a) := by
  funext q
  show nxt _ (aln b q) = nxt _ (aln a q)
  rw [h.2.1]
theorem ClA.fr {P Q} {a b : MM} (h : Fr P Q a b) (hP : ∀ q k, 57 ≤ q → P q k = false) {c : Nat} {cl : Cl} (hc : ClA a c cl) : ClA b c cl := by
  obtain ⟨h0, h1, h2, h3, h4, h5, A, h6, h7, h8, h9, h10⟩ := hc
  refine ⟨h0, by rw [h.fs]; exact h1, by rw [h.rI _ _ (hP _ _ h0)]; exact h2, by rw [h.rI _ _ (hP _ _ h0)]; exact h3, h4, h5, A, h6, by rw [h.fR]; exact h7, by rw [h.fs]; exact h8, by rw [h.fa]; exact h9, fun j hj => ?_⟩
  rw [h.rI _ _ (hP _ _ h6)]
  exact h10 j hj
theorem CoA.fr {P Q} {a b : MM} (h : Fr P Q a b) (hP : ∀ q k, 57 ≤ q → P q k = false) {A : Nat} {cs : List Cl} (hc : CoA a A cs) : CoA b A cs := by
  obtain ⟨h1, h2, h3, h4⟩ := hc
  refine ⟨by rw [h.fs]; exact h1, by rw [h.fa]; exact h2, h3, fun j hj => ?_⟩
  obtain ⟨c, g1, g2⟩ := h4 j hj
  exact ⟨c, by rw [h.fR]; exact g1, g2.fr h hP⟩
