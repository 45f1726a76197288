/-! what holds between calls -/
/-- cells that are not made yet -/
def Fsh (ν : MM) : Prop := ∀ q, msz ν + 57 ≤ q → shp ν q = 99
/-- made cells stay as they are (but the fixed ones) -/
def Gr (ν ν' : MM) : Prop := msz ν ≤ msz ν' ∧ ∀ q, q < msz ν + 57 → shp (fx ν') q = shp (fx ν) q ∧ aln (fx ν') q = aln (fx ν) q ∧ (57 ≤ q → gI ν' q = gI ν q ∧ gR (fx ν') q = gR (fx ν) q)
theorem Gr.rf {ν : MM} : Gr ν ν := ⟨Nat.le_refl _, fun _ _ => ⟨rfl, rfl, fun _ => ⟨rfl, rfl⟩⟩⟩
theorem Gr.tr {a b c : MM} (h : Gr a b) (g : Gr b c) : Gr a c := by
  refine ⟨Nat.le_trans h.1 g.1, fun q hq => ?_⟩
  obtain ⟨a1, a2, a3⟩ := h.2 q hq
  obtain ⟨b1, b2, b3⟩ := g.2 q (by have := h.1; omega)
  exact ⟨b1.trans a1, b2.trans a2, fun hq => ⟨(b3 hq).1.trans (a3 hq).1, (b3 hq).2.trans (a3 hq).2⟩⟩
theorem Fr.gr {P Q} {ν ν' : MM} (f : Fr P Q ν ν') (hP : ∀ q k, 57 ≤ q → P q k = false) : Gr ν ν' := by
  refine ⟨Nat.le_of_eq f.2.2.1.symm, fun q _ => ⟨by rw [f.fs], by rw [f.fa], fun hq => ⟨funext fun k => f.rI q k (hP q k hq), by rw [f.fR]⟩⟩⟩
theorem Fr.fsh {P Q} {ν ν' : MM} (f : Fr P Q ν ν') (h : Fsh ν) : Fsh ν' := by
  intro q hq
  rw [f.1]
  exact h q (by rw [← f.2.2.1]; exact hq)
/-- what is made lies below the next place -/
theorem Fsh.lt {ν : MM} (h : Fsh ν) {q : Nat} (hs : shp (fx ν) q ≠ 99) : q < msz ν + 57 := by
  apply Classical.byContradiction
  intro c
  apply hs
  rw [shp_fx ν (by omega)]
  exact h q (by omega)
theorem ClA.lt {ν : MM} (h : Fsh ν) {c : Nat} {cl : Cl} (g : ClA ν c cl) : c < msz ν + 57 := h.lt (by rw [g.2.1]; decide)
theorem ClA.gr {ν ν' : MM} (f : Gr ν ν') (h : Fsh ν) {c : Nat} {cl : Cl} (g : ClA ν c cl) : ClA ν' c cl := by
  have hl := g.lt h
  obtain ⟨h0, h1, h2, h3, h4, h5, A, h6, h7, h8, h9, h10⟩ := g
  have hA := h.lt (q := A) (by rw [h8]; decide)
  obtain ⟨a1, a2, a3⟩ := f.2 c hl
  obtain ⟨b1, b2, b3⟩ := f.2 A hA
  refine ⟨h0, by rw [a1]; exact h1, by rw [(a3 h0).1]; exact h2, by rw [(a3 h0).1]; exact h3, h4, h5, A, h6, by rw [(a3 h0).2]; exact h7, by rw [b1]; exact h8, by rw [b2]; exact h9, fun j hj => by rw [(b3 h6).1]; exact h10 j hj⟩
theorem RnV.gr {ν ν' : MM} (f : Gr ν ν') (h : Fsh ν) {r k v hh co si : Nat} (g : RnV ν r k v hh co si) : RnV ν' r k v hh co si := by
  obtain ⟨h1, h2, h3, h4, h5, h6, h7, h8, h9, h10, h11, h12, h13, h14⟩ := g
  have q : ∀ k, k < 7 → clsK k ≠ 99 := by decide
  have hr := h.lt (q := r) (by rw [h2]; exact q k h3)
  obtain ⟨a1, a2, a3⟩ := f.2 r hr
  exact ⟨h1, by rw [a1]; exact h2, h3, h4, h5, h6, h7, by rw [(a3 h1).1]; exact h8, by rw [(a3 h1).1]; exact h9, by rw [(a3 h1).1]; exact h10, by rw [(a3 h1).1]; exact h11, fun c => by rw [(a3 h1).1]; exact h12 c, h13, by rw [(a3 h1).2]; exact h14⟩
/-- a coast in the memory, at a place of its own (or the first one, which is empty) -/
def CoB (ν : MM) (A : Nat) (cs : List Cl) : Prop := CoA ν A cs ∧ (A < 57 → cs = [])
theorem CoB.gr {ν ν' : MM} (f : Gr ν ν') (h : Fsh ν) {A : Nat} {cs : List Cl} (g : CoB ν A cs) : CoB ν' A cs := by
  obtain ⟨⟨h1, h2, h3, h4⟩, h5⟩ := g
  have hA := h.lt (q := A) (by rw [h1]; decide)
  obtain ⟨a1, a2, a3⟩ := f.2 A hA
  refine ⟨⟨by rw [a1]; exact h1, by rw [a2]; exact h2, h3, fun j hj => ?_⟩, h5⟩
  by_cases c : A < 57
  · rw [h5 c] at hj
    exact absurd hj (by simp)
  · obtain ⟨c', g1, g2⟩ := h4 j hj
    exact ⟨c', by rw [(a3 (by omega)).2]; exact g1, g2.gr f h⟩
/-! a World of the class and a row of the model's numbers -/
def Wst (ν : MM) (w row T st H : Nat) (ht hs : Int32) : Prop := (gI ν w 8 = Int32.ofNat T ∧ gI ν row 0 = Int32.ofNat T ∧ T ≤ 4) ∧ (gI ν w 9 = Int32.ofNat st ∧ st < 4 ^ T ∧ ∀ t, t < T → gI ν row (10 + t) = Int32.ofNat (stD st t)) ∧ (gI ν w 10 = Int32.ofNat H ∧ gI ν row 7 = Int32.ofNat H ∧ H ≤ 999) ∧ (gI ν w 11 = ht ∧ gI ν row 8 = ht) ∧ (gI ν w 12 = hs ∧ gI ν row 9 = hs) ∧ okHd ht hs
def Wtp (ν : MM) (w tp row n : Nat) : Prop := gI ν w 1 = Int32.ofNat n ∧ gI ν row 5 = Int32.ofNat n ∧ n ≤ 100 ∧ ∀ i, i < n → ∃ b : Nat, b < 128 ∧ gI ν tp i = Int32.ofNat b ∧ gI ν row (52 + i) = Int32.ofNat b
def Wto (ν : MM) (w row m : Nat) : Prop := gI ν w 14 = Int32.ofNat m ∧ gI ν row 4 = Int32.ofNat m ∧ m ≤ 12 ∧ ∀ i, i < m → ∃ k : Nat, k < 4 ∧ stI (gI ν w 13) (Int32.ofNat i) = Int32.ofNat k ∧ gI ν row (40 + i) = Int32.ofNat k
def Wco (ν : MM) (w row A C : Nat) (cs : List Cl) : Prop := (gR ν w 2 = some A ∧ CoB ν A cs ∧ okCs cs ∧ MCo ν row cs) ∧ gI ν w 3 = Int32.ofNat C ∧ gI ν row 3 = Int32.ofNat C ∧ C ≤ 5 ∧ ∀ a : Nat, a < 5 → gI ν row 6 = Int32.ofNat a → a < C
def Wsy (ν : MM) (w sy row S : Nat) : Prop := gI ν w 5 = Int32.ofNat S ∧ gI ν row 2 = Int32.ofNat S ∧ S ≤ 5 ∧ ∀ k, k < S → ∃ (c : Nat) (ts : List Int32), gR ν sy k = some c ∧ ClA ν c (3, 0, ts) ∧ MSy ν row k ts ∧ okTs 5 ts
def Wwy (ν : MM) (w wy row W : Nat) : Prop := gI ν w 7 = Int32.ofNat W ∧ gI ν row 1 = Int32.ofNat W ∧ W ≤ 5 ∧ ∀ j, j < W → ∃ (r k v h co si : Nat), gR ν wy j = some r ∧ RnV ν r k v h co si ∧ MwV ν row j k v h co si ∧ gI ν r 1 = Int32.ofNat j
def WP (ν : MM) (w tp sy wy row A T st H n m C S W : Nat) (ht hs : Int32) (cs : List Cl) : Prop := Wst ν w row T st H ht hs ∧ Wtp ν w tp row n ∧ Wto ν w row m ∧ Wco ν w row A C cs ∧ Wsy ν w sy row S ∧ Wwy ν w wy row W
def WR (ν : MM) (w tp sy wy row : Nat) : Prop := ∃ (A T st H n m C S W : Nat) (ht hs : Int32) (cs : List Cl), WP ν w tp sy wy row A T st H n m C S W ht hs cs
theorem Wco.gr {ν ν' : MM} (f : Gr ν ν') (h : Fsh ν) {w w' row row' A C : Nat} {cs : List Cl} (e1 : gI ν' w' = gI ν w) (e2 : gR ν' w' 2 = gR ν w 2) (e3 : gI ν' row' = gI ν row) (g : Wco ν w row A C cs) : Wco ν' w' row' A C cs := by
  obtain ⟨⟨a1, a2, a3, a4⟩, a5, a6, a7, a8⟩ := g
  exact ⟨⟨by rw [e2]; exact a1, a2.gr f h, a3, a4.of e3⟩, by rw [e1]; exact a5, by rw [e3]; exact a6, a7, by rw [e3]; exact a8⟩
theorem Wsy.gr {ν ν' : MM} (f : Gr ν ν') (h : Fsh ν) {w w' sy sy' row row' S : Nat} (e1 : gI ν' w' = gI ν w) (e2 : ∀ k, k < 5 → gR ν' sy' k = gR ν sy k) (e3 : gI ν' row' = gI ν row) (g : Wsy ν w sy row S) : Wsy ν' w' sy' row' S := by
  obtain ⟨a1, a2, a3, a4⟩ := g
  refine ⟨by rw [e1]; exact a1, by rw [e3]; exact a2, a3, fun k hk => ?_⟩
  obtain ⟨c, ts, b1, b2, b3, b4⟩ := a4 k hk
  exact ⟨c, ts, by rw [e2 k (by omega)]; exact b1, b2.gr f h, b3.of e3, b4⟩
theorem Wwy.gr {ν ν' : MM} (f : Gr ν ν') (h : Fsh ν) {w w' wy wy' row row' W : Nat} (e1 : gI ν' w' = gI ν w) (e2 : ∀ k, k < 5 → gR ν' wy' k = gR ν wy k) (e3 : gI ν' row' = gI ν row) (g : Wwy ν w wy row W) : Wwy ν' w' wy' row' W := by
  obtain ⟨a1, a2, a3, a4⟩ := g
  refine ⟨by rw [e1]; exact a1, by rw [e3]; exact a2, a3, fun j hj => ?_⟩
  obtain ⟨r, k, v, hh, co, si, b1, b2, b3, b4⟩ := a4 j hj
  have q : ∀ k, k < 7 → clsK k ≠ 99 := by decide
  have hr := h.lt (q := r) (by rw [b2.2.1]; exact q k b2.2.2.1)
  exact ⟨r, k, v, hh, co, si, by rw [e2 j (by omega)]; exact b1, b2.gr f h, b3.of e3, by rw [((f.2 r hr).2.2 b2.1).1]; exact b4⟩
/-- a World as it was, perhaps at another place -/
theorem WP.gr {ν ν' : MM} (f : Gr ν ν') (h : Fsh ν) {w tp sy wy row w' tp' sy' wy' row' A T st H n m C S W : Nat} {ht hs : Int32} {cs : List Cl} (e1 : gI ν' w' = gI ν w) (e2 : gI ν' tp' = gI ν tp) (e3 : gI ν' row' = gI ν row) (r1 : gR ν' w' 2 = gR ν w 2) (r2 : ∀ k, k < 5 → gR ν' sy' k = gR ν sy k) (r3 : ∀ k, k < 5 → gR ν' wy' k = gR ν wy k) (g : WP ν w tp sy wy row A T st H n m C S W ht hs cs) : WP ν' w' tp' sy' wy' row' A T st H n m C S W ht hs cs := by
  obtain ⟨a1, a2, a3, a4, a5, a6⟩ := g
  refine ⟨?_, ?_, ?_, a4.gr f h e1 r1 e3, a5.gr f h e1 r2 e3, a6.gr f h e1 r3 e3⟩
  · unfold Wst at a1 ⊢
    rw [e1, e3]
    exact a1
  · unfold Wtp at a2 ⊢
    rw [e1, e2, e3]
    exact a2
  · unfold Wto at a3 ⊢
    rw [e1, e3]
    exact a3
/-- the texts -/
def Str (ν : MM) : Prop := ∀ i, i < 13 → gI ν i 1 = 0 ∧ ∀ j, gI ν (13 + i) j = strB i j
/-- what may stand in the arrays of SAYINGS and WAYS -/
def Slt (ν : MM) (sy wy : Nat) : Prop := ∀ k, k < 5 → (∀ c, gR ν sy k = some c → shp (fx ν) c = 3) ∧ ∀ r, gR ν wy k = some r → cin [0, 1, 2, 4, 6, 7, 8] (shp (fx ν) r) = true
theorem cin99 : cin [0, 1, 2, 4, 6, 7, 8] 99 = false := rfl
theorem Slt.gr {ν ν' : MM} (f : Gr ν ν') (h : Fsh ν) {sy wy sy' wy' : Nat} (e1 : ∀ k, k < 5 → gR ν' sy' k = gR ν sy k) (e2 : ∀ k, k < 5 → gR ν' wy' k = gR ν wy k) (g : Slt ν sy wy) : Slt ν' sy' wy' := by
  intro k hk
  obtain ⟨g1, g2⟩ := g k hk
  refine ⟨fun c hc => ?_, fun r hr => ?_⟩
  · rw [e1 k hk] at hc
    have h3 := g1 c hc
    rw [(f.2 c (h.lt (by rw [h3]; decide))).1]
    exact h3
  · rw [e2 k hk] at hr
    have h3 := g2 r hr
    rw [(f.2 r (h.lt (fun e => by rw [e, cin99] at h3; cases h3))).1]
    exact h3
/-- bytes of THE TAPE, and what stands behind them -/
def TpB (ν : MM) (tp : Nat) : Prop := ∀ i, i < 100 → ∃ b : Nat, b < 128 ∧ gI ν tp i = Int32.ofNat b
def Inv (ν : MM) : Prop := WR ν 29 30 32 33 47 ∧ (∃ b : Bool, gI ν 28 6 = bI b ∧ gI ν 46 3 = bI b ∧ (b = true → WR ν 34 35 37 38 48)) ∧ b01 (gI ν 50 0) = true ∧ QTr ν ∧ Str ν ∧ Fsh ν ∧ Slt ν 32 33 ∧ Slt ν 37 38 ∧ TpB ν 30 ∧ TpB ν 35
/-- out of a World: what the asking methods ask -/
theorem WP.qx {ν : MM} {A T st H n m C S W : Nat} {ht hs : Int32} {cs : List Cl} (hb : b01 (gI ν 50 0) = true) (g : WP ν 29 30 32 33 47 A T st H n m C S W ht hs cs) : QX ν A T st H W S ht hs cs := by
  obtain ⟨⟨⟨a1, a2, a3⟩, ⟨a4, a5, a6⟩, ⟨a7, a8, a9⟩, ⟨a10, a11⟩, ⟨a12, a13⟩, a14⟩, -, -, ⟨⟨c1, c2, c3, c4⟩, -⟩, ⟨s1, s2, s3, s4⟩, ⟨w1, w2, w3, w4⟩⟩ := g
  refine ⟨⟨c1, c2.1, c3, a1, a3, a4, a5, a7, by omega, a10, a12, a14⟩, ⟨c4, c3, hb, a8, by omega, a2, a3⟩, ⟨a5, a6⟩, ⟨a11, a13⟩, ⟨w1, w2, w3, w4⟩, s1, s2, s3, fun k hk => ?_⟩
  obtain ⟨c, ts, b1, b2, b3, b4⟩ := s4 k hk
  exact ⟨c, ts, b1, b2, by omega, b3, b4⟩
theorem WR.gr {ν ν' : MM} (f : Gr ν ν') (h : Fsh ν) {w tp sy wy row w' tp' sy' wy' row' : Nat} (e1 : gI ν' w' = gI ν w) (e2 : gI ν' tp' = gI ν tp) (e3 : gI ν' row' = gI ν row) (r1 : gR ν' w' 2 = gR ν w 2) (r2 : ∀ k, k < 5 → gR ν' sy' k = gR ν sy k) (r3 : ∀ k, k < 5 → gR ν' wy' k = gR ν wy k) (g : WR ν w tp sy wy row) : WR ν' w' tp' sy' wy' row' := by
  obtain ⟨A, T, st, H, n, m, C, S, W, ht, hs, cs, g⟩ := g
  exact ⟨A, T, st, H, n, m, C, S, W, ht, hs, cs, g.gr f h e1 e2 e3 r1 r2 r3⟩
theorem Inv.fr {ν ν' : MM} (f : Fr PS QS ν ν') (hb : b01 (gI ν' 50 0) = true) (g : Inv ν) : Inv ν' := by
  obtain ⟨g1, ⟨b, g2, g3, g4⟩, -, g5, g6, g7, g8, g9, g10, g11⟩ := g
  have gr := f.gr PS57
  have rr : ∀ q k, gR ν' q k = gR ν q k := fun q k => by rw [f.rR]
  refine ⟨g1.gr gr g7 (f.rowS rfl) (f.rowS rfl) (f.rowS rfl) (rr _ _) (fun k _ => rr _ _) (fun k _ => rr _ _), ⟨b, by rw [f.rowS (q := 28) rfl]; exact g2, by rw [f.rI 46 3 rfl]; exact g3, fun e => (g4 e).gr gr g7 (f.rowS rfl) (f.rowS rfl) (f.rowS rfl) (rr _ _) (fun k _ => rr _ _) (fun k _ => rr _ _)⟩, hb, g5.fr f, ?_, f.fsh g7, g8.gr gr g7 (fun k _ => rr _ _) (fun k _ => rr _ _), g9.gr gr g7 (fun k _ => rr _ _) (fun k _ => rr _ _), fun i hi => by rw [f.rowS (q := 30) rfl]; exact g10 i hi, fun i hi => by rw [f.rowS (q := 35) rfl]; exact g11 i hi⟩
  intro i hi
  have e1 : gI ν' i = gI ν i := by
    refine f.rowS ?_
    have q : ∀ i, i < 13 → nsc i = true := by decide
    exact q i hi
  have e2 : gI ν' (13 + i) = gI ν (13 + i) := by
    refine f.rowS ?_
    have q : ∀ i, i < 13 → nsc (13 + i) = true := by decide
    exact q i hi
  rw [e1, e2]
  exact g6 i hi
/-! a call of the class, then of the model: the same value, and all holds as before; and the room -/
def Rm (ν ν' : MM) : Prop := msz ν' ≤ msz ν + 100 ∧ msl ν' ≤ msl ν + 13000 ∧ aln (fx ν') 26 = aln (fx ν) 26
def CI (E1 E2 : MM → Rs) (ν : MM) : Prop := ∃ (x : Int32) (ν1 ν2 : MM), E1 ν = some (some (.int x), fx ν1) ∧ E2 ν1 = some (some (.int x), fx ν2) ∧ Inv ν2 ∧ Rm ν ν2 ∧ gI ν1 26 = gI ν 26 ∧ gI ν2 26 = gI ν 26 ∧ aln (fx ν1) 26 = aln (fx ν) 26
def CL (E1 E2 : MM → Rs) (ν : MM) : Prop := ∃ (x : Int64) (ν1 ν2 : MM), E1 ν = some (some (.long x), fx ν1) ∧ E2 ν1 = some (some (.long x), fx ν2) ∧ Inv ν2 ∧ Rm ν ν2 ∧ gI ν1 26 = gI ν 26 ∧ gI ν2 26 = gI ν 26 ∧ aln (fx ν1) 26 = aln (fx ν) 26
theorem Rm.fr {P Q} {ν ν' : MM} (f : Fr P Q ν ν') : Rm ν ν' := ⟨by rw [f.2.2.1]; omega, by rw [f.2.2.2.1]; omega, by rw [f.fa]⟩
theorem QI.c {E1 E2 : MM → Rs} {ν : MM} (hI : Inv ν) (h : QI E1 E2 ν) : CI E1 E2 ν := by
  obtain ⟨x, ν1, ν2, e1, e2, f1, f2, b⟩ := h
  exact ⟨x, ν1, ν2, e1, e2, hI.fr (f1.tr f2) b, Rm.fr (f1.tr f2), f1.rowS rfl, (f1.tr f2).rowS rfl, by rw [f1.fa]⟩
theorem QL.c {E1 E2 : MM → Rs} {ν : MM} (hI : Inv ν) (h : QL E1 E2 ν) : CL E1 E2 ν := by
  obtain ⟨x, ν1, ν2, e1, e2, f1, f2, b⟩ := h
  exact ⟨x, ν1, ν2, e1, e2, hI.fr (f1.tr f2) b, Rm.fr (f1.tr f2), f1.rowS rfl, (f1.tr f2).rowS rfl, by rw [f1.fa]⟩
