/-! what a changing call keeps -/
def kpq (q : Nat) : Bool := Nat.blt q 27 || (Nat.beq q 28 || (Nat.beq q 34 || (Nat.beq q 35 || (Nat.beq q 42 || (Nat.beq q 43 || (Nat.beq q 48 || Nat.beq q 56))))))
def Kp (ν μ : MM) : Prop := Gr ν μ ∧ (Fsh ν → Fsh μ) ∧ (∀ q, kpq q = true → gI μ q = gI ν q) ∧ (gI μ 46 3 = gI ν 46 3 ∧ gI μ 46 21 = gI ν 46 21) ∧ gR μ 34 2 = gR ν 34 2 ∧ (∀ k, gR μ 37 k = gR ν 37 k ∧ gR μ 38 k = gR ν 38 k) ∧ (Fsh ν → Slt ν 32 33 → Slt μ 32 33) ∧ (TpB ν 30 → TpB μ 30)
theorem Kp.rf {ν : MM} : Kp ν ν := ⟨Gr.rf, fun h => h, fun _ _ => rfl, ⟨rfl, rfl⟩, rfl, fun _ => ⟨rfl, rfl⟩, fun _ h => h, fun h => h⟩
theorem Kp.tr {a b c : MM} (h : Kp a b) (g : Kp b c) : Kp a c := ⟨h.1.tr g.1, fun x => g.2.1 (h.2.1 x), fun q hq => (g.2.2.1 q hq).trans (h.2.2.1 q hq), ⟨g.2.2.2.1.1.trans h.2.2.2.1.1, g.2.2.2.1.2.trans h.2.2.2.1.2⟩, g.2.2.2.2.1.trans h.2.2.2.2.1, fun k => ⟨(g.2.2.2.2.2.1 k).1.trans (h.2.2.2.2.2.1 k).1, (g.2.2.2.2.2.1 k).2.trans (h.2.2.2.2.2.1 k).2⟩, fun x y => g.2.2.2.2.2.2.1 (h.2.1 x) (h.2.2.2.2.2.2.1 x y), fun x => g.2.2.2.2.2.2.2 (h.2.2.2.2.2.2.2 x)⟩
theorem beq_n {q c : Nat} (h : q ≠ c) : Nat.beq q c = false := by
  cases e : Nat.beq q c with
  | false => rfl
  | true => exact absurd (Nat.eq_of_beq_eq_true e) h
theorem kpq_nsc {q : Nat} (h : kpq q = true) : nsc q = true := by
  have hq : q ≠ 45 ∧ q ≠ 46 ∧ q ≠ 49 ∧ q ≠ 50 ∧ q ≠ 53 ∧ q ≠ 54 ∧ q ≠ 55 := by
    refine ⟨?_, ?_, ?_, ?_, ?_, ?_, ?_⟩ <;> intro e <;> rw [e] at h <;> exact absurd h (by decide)
  unfold nsc
  rw [beq_n hq.1, beq_n hq.2.1, beq_n hq.2.2.1, beq_n hq.2.2.2.1, beq_n hq.2.2.2.2.1, beq_n hq.2.2.2.2.2.1, beq_n hq.2.2.2.2.2.2]
  rfl
theorem Fr.kp {ν μ : MM} (f : Fr PS QS ν μ) : Kp ν μ := ⟨f.gr PS57, f.fsh, fun q hq => f.rowS (kpq_nsc hq), ⟨f.rI 46 3 rfl, f.rI 46 21 rfl⟩, by rw [f.rR], fun k => ⟨by rw [f.rR], by rw [f.rR]⟩, fun h g => g.gr (f.gr PS57) h (fun k _ => by rw [f.rR]) (fun k _ => by rw [f.rR]), fun g i hi => by rw [f.rowS (q := 30) rfl]; exact g i hi⟩
theorem Kp.wI {ν : MM} {q k : Nat} (v : Int32) (h : q < 57) (h1 : kpq q = false) (h2 : ¬ (q = 46 ∧ (k = 3 ∨ k = 21))) (h3 : q = 30 → ∃ b : Nat, b < 128 ∧ v = Int32.ofNat b := by intro h; omega) : Kp ν (sI ν q k v) := by
  refine ⟨⟨Nat.le_refl _, fun a _ => ⟨rfl, rfl, fun ha => ⟨funext fun b => ?_, rfl⟩⟩⟩, fun h => h, fun a ha => funext fun b => ?_, ⟨?_, ?_⟩, rfl, fun _ => ⟨rfl, rfl⟩, fun _ h => h, fun g i hi => ?_⟩
  · rw [gI_sI, if_neg (by omega)]
  · rw [gI_sI, if_neg]
    rintro ⟨rfl, -⟩
    rw [h1] at ha
    cases ha
  · rw [gI_sI, if_neg (by omega)]
  · rw [gI_sI, if_neg (by omega)]
  · rw [gI_sI]
    by_cases c : 30 = q ∧ i = k
    · rw [if_pos c]
      exact h3 c.1.symm
    · rw [if_neg c]
      exact g i hi
theorem Kp.wR {ν : MM} {q k : Nat} (v : Option Nat) (h : q < 57) (h1 : q ≠ 34 ∧ q ≠ 37 ∧ q ≠ 38) (h3 : q = 32 → ∀ c, v = some c → shp (fx ν) c = 3) (h4 : q = 33 → ∀ c, v = some c → cin [0, 1, 2, 4, 6, 7, 8] (shp (fx ν) c) = true) : Kp ν (sR ν q k v) := by
  refine ⟨⟨Nat.le_refl _, fun a _ => ⟨rfl, rfl, fun ha => ⟨rfl, funext fun b => ?_⟩⟩⟩, fun h => h, fun a ha => rfl, ⟨rfl, rfl⟩, ?_, fun k' => ⟨?_, ?_⟩, fun _ g k' hk' => ⟨fun c hc => ?_, fun c hc => ?_⟩, fun h => h⟩
  · rw [gR_fx _ _ ha, gR_fx _ _ ha, gR_sR, if_neg (by omega)]
  · rw [gR_sR, if_neg (by omega)]
  · rw [gR_sR, if_neg (by omega)]
  · rw [gR_sR, if_neg (by omega)]
  · rw [gR_sR] at hc
    by_cases cc : 32 = q ∧ k' = k
    · rw [if_pos cc] at hc
      exact h3 cc.1.symm c hc
    · rw [if_neg cc] at hc
      exact (g k' hk').1 c hc
  · rw [gR_sR] at hc
    by_cases cc : 33 = q ∧ k' = k
    · rw [if_pos cc] at hc
      exact h4 cc.1.symm c hc
    · rw [if_neg cc] at hc
      exact (g k' hk').2 c hc
theorem Inv.kp {ν μ : MM} (g : Inv ν) (h : Kp ν μ) (hb : b01 (gI μ 50 0) = true) (hw : WR μ 29 30 32 33 47) : Inv μ := by
  obtain ⟨-, ⟨b, g2, g3, g4⟩, -, ⟨n, t1, t2, t3, t4⟩, g6, g7, g8, g9, g10, g11⟩ := g
  obtain ⟨k1, k2, k3, ⟨k4, k5⟩, k6, k7, k8, k9⟩ := h
  refine ⟨hw, ⟨b, by rw [k3 28 rfl]; exact g2, by rw [k4]; exact g3, fun e => (g4 e).gr k1 g7 (k3 34 rfl) (k3 35 rfl) (k3 48 rfl) k6 (fun k _ => (k7 k).1) (fun k _ => (k7 k).2)⟩, hb, ⟨n, t1, by rw [k3 42 rfl]; exact t2, by rw [k5]; exact t3, fun i hi => by rw [k3 43 rfl, k3 56 rfl]; exact t4 i hi⟩, fun i hi => ?_, k2 g7, k8 g7 g8, g9.gr k1 g7 (fun k _ => (k7 k).1) (fun k _ => (k7 k).2), k9 g10, fun i hi => by rw [k3 35 rfl]; exact g11 i hi⟩
  have q1 : ∀ i, i < 13 → kpq i = true := by decide
  have q2 : ∀ i, i < 13 → kpq (13 + i) = true := by decide
  rw [k3 _ (q1 i hi), k3 _ (q2 i hi)]
  exact g6 i hi
/-- a World's parts after a change of some numbers -/
theorem StA.of2 {ν ν' : MM} {S S' : Nat} (h : ∀ k, 152 ≤ k → k < 1562 → gI ν' S' k = gI ν S k) : ∀ {cs : List Cl} {i : Nat}, 152 ≤ i → i + tln cs ≤ 1562 → StA ν S i cs → StA ν' S' i cs
  | [], _, _, _, _ => trivial
  | c :: cs, i, hi, hl, g => by
    have hl : i + (c.2.2.length + 1 + tln cs) ≤ 1562 := hl
    exact ⟨g.1, fun j hj => by rw [h _ (by omega) (by omega)]; exact g.2.1 j hj, by rw [h _ (by omega) (by omega)]; exact g.2.2.1, StA.of2 h (by omega) (by omega) g.2.2.2⟩
theorem MCo.of2 {ν ν' : MM} {S S' : Nat} {cs : List Cl} (h6 : gI ν' S' 6 = gI ν S 6) (h : ∀ k, 152 ≤ k → k < 1562 → gI ν' S' k = gI ν S k) (g : MCo ν S cs) : MCo ν' S' cs := by
  rcases g with ⟨h1, h2⟩ | ⟨a, h1, h2, h3, h4, h5⟩
  · exact Or.inl ⟨by rw [h6]; exact h1, h2⟩
  · exact Or.inr ⟨a, h1, by rw [h6]; exact h2, by rw [h _ (by omega) (by omega)]; exact h3, h4, StA.of2 h (by omega) (by omega) h5⟩
theorem MSy.of2 {ν ν' : MM} {S S' k : Nat} {ts : List Int32} (hk : k < 5) (h : ∀ k, 152 ≤ k → k < 1562 → gI ν' S' k = gI ν S k) (g : MSy ν S k ts) : MSy ν' S' k ts := by
  obtain ⟨h1, h2, h3, h4, h5⟩ := g
  exact ⟨by rw [h _ (by omega) (by omega)]; exact h1, h2, h3, h4, fun j hj => by rw [h _ (by omega) (by omega)]; exact h5 j hj⟩
theorem MwV.of2 {ν ν' : MM} {S S' w k v h co si : Nat} (hw : w < 5) (e : ∀ k, 14 ≤ k → k < 39 → gI ν' S' k = gI ν S k) (g : MwV ν S w k v h co si) : MwV ν' S' w k v h co si := by
  obtain ⟨h1, h2, h3, h4, h5⟩ := g
  exact ⟨by rw [e _ (by omega) (by omega)]; exact h1, by rw [e _ (by omega) (by omega)]; exact h2, by rw [e _ (by omega) (by omega)]; exact h3, by rw [e _ (by omega) (by omega)]; exact h4, by rw [e _ (by omega) (by omega)]; exact h5⟩
theorem Wst.g2 {ν ν' : MM} {w w' row row' T st H : Nat} {ht hs : Int32} (e : ∀ k, 8 ≤ k → k < 13 → gI ν' w' k = gI ν w k) (r0 : gI ν' row' 0 = gI ν row 0) (r : ∀ k, 7 ≤ k → k < 14 → gI ν' row' k = gI ν row k) (g : Wst ν w row T st H ht hs) : Wst ν' w' row' T st H ht hs := by
  obtain ⟨⟨a1, a2, a3⟩, ⟨a4, a5, a6⟩, ⟨a7, a8, a9⟩, ⟨a10, a11⟩, ⟨a12, a13⟩, a14⟩ := g
  exact ⟨⟨by rw [e 8 (by omega) (by omega)]; exact a1, by rw [r0]; exact a2, a3⟩, ⟨by rw [e 9 (by omega) (by omega)]; exact a4, a5, fun t ht => by rw [r _ (by omega) (by omega)]; exact a6 t ht⟩, ⟨by rw [e 10 (by omega) (by omega)]; exact a7, by rw [r 7 (by omega) (by omega)]; exact a8, a9⟩, ⟨by rw [e 11 (by omega) (by omega)]; exact a10, by rw [r 8 (by omega) (by omega)]; exact a11⟩, ⟨by rw [e 12 (by omega) (by omega)]; exact a12, by rw [r 9 (by omega) (by omega)]; exact a13⟩, a14⟩
theorem Wtp.g2 {ν ν' : MM} {w w' tp tp' row row' n : Nat} (e : gI ν' w' 1 = gI ν w 1) (et : ∀ i, i < 100 → gI ν' tp' i = gI ν tp i) (r5 : gI ν' row' 5 = gI ν row 5) (r : ∀ k, 52 ≤ k → k < 152 → gI ν' row' k = gI ν row k) (g : Wtp ν w tp row n) : Wtp ν' w' tp' row' n := by
  obtain ⟨a1, a2, a3, a4⟩ := g
  refine ⟨by rw [e]; exact a1, by rw [r5]; exact a2, a3, fun i hi => ?_⟩
  obtain ⟨b, b1, b2, b3⟩ := a4 i hi
  exact ⟨b, b1, by rw [et i (by omega)]; exact b2, by rw [r _ (by omega) (by omega)]; exact b3⟩
theorem Wto.g2 {ν ν' : MM} {w w' row row' m : Nat} (e : gI ν' w' 13 = gI ν w 13) (e2 : gI ν' w' 14 = gI ν w 14) (r4 : gI ν' row' 4 = gI ν row 4) (r : ∀ k, 40 ≤ k → k < 52 → gI ν' row' k = gI ν row k) (g : Wto ν w row m) : Wto ν' w' row' m := by
  obtain ⟨a1, a2, a3, a4⟩ := g
  refine ⟨by rw [e2]; exact a1, by rw [r4]; exact a2, a3, fun i hi => ?_⟩
  obtain ⟨k, b1, b2, b3⟩ := a4 i hi
  exact ⟨k, b1, by rw [e]; exact b2, by rw [r _ (by omega) (by omega)]; exact b3⟩
theorem Wco.g2 {ν ν' : MM} (f : Gr ν ν') (h : Fsh ν) {w w' row row' A C : Nat} {cs : List Cl} (e : gI ν' w' 3 = gI ν w 3) (e2 : gR ν' w' 2 = gR ν w 2) (r3 : gI ν' row' 3 = gI ν row 3) (r6 : gI ν' row' 6 = gI ν row 6) (r : ∀ k, 152 ≤ k → k < 1562 → gI ν' row' k = gI ν row k) (g : Wco ν w row A C cs) : Wco ν' w' row' A C cs := by
  obtain ⟨⟨a1, a2, a3, a4⟩, a5, a6, a7, a8⟩ := g
  exact ⟨⟨by rw [e2]; exact a1, a2.gr f h, a3, a4.of2 r6 r⟩, by rw [e]; exact a5, by rw [r3]; exact a6, a7, by rw [r6]; exact a8⟩
theorem Wsy.g2 {ν ν' : MM} (f : Gr ν ν') (h : Fsh ν) {w w' sy sy' row row' S : Nat} (e : gI ν' w' 5 = gI ν w 5) (e2 : ∀ k, k < S → gR ν' sy' k = gR ν sy k) (r2 : gI ν' row' 2 = gI ν row 2) (r : ∀ k, 152 ≤ k → k < 1562 → gI ν' row' k = gI ν row k) (g : Wsy ν w sy row S) : Wsy ν' w' sy' row' S := by
  obtain ⟨a1, a2, a3, a4⟩ := g
  refine ⟨by rw [e]; exact a1, by rw [r2]; exact a2, a3, fun k hk => ?_⟩
  obtain ⟨c, ts, b1, b2, b3, b4⟩ := a4 k hk
  exact ⟨c, ts, by rw [e2 k hk]; exact b1, b2.gr f h, b3.of2 (by omega) r, b4⟩
theorem Wwy.g2 {ν ν' : MM} (f : Gr ν ν') (h : Fsh ν) {w w' wy wy' row row' W : Nat} (e : gI ν' w' 7 = gI ν w 7) (e2 : ∀ k, k < W → gR ν' wy' k = gR ν wy k) (r1 : gI ν' row' 1 = gI ν row 1) (r : ∀ k, 14 ≤ k → k < 39 → gI ν' row' k = gI ν row k) (g : Wwy ν w wy row W) : Wwy ν' w' wy' row' W := by
  obtain ⟨a1, a2, a3, a4⟩ := g
  refine ⟨by rw [e]; exact a1, by rw [r1]; exact a2, a3, fun j hj => ?_⟩
  obtain ⟨r', k, v, hh, co, si, b1, b2, b3, b4⟩ := a4 j hj
  have q : ∀ k, k < 7 → clsK k ≠ 99 := by decide
  have hr := h.lt (q := r') (by rw [b2.2.1]; exact q k b2.2.2.1)
  exact ⟨r', k, v, hh, co, si, by rw [e2 j hj]; exact b1, b2.gr f h, b3.of2 (by omega) r, by rw [((f.2 r' hr).2.2 b2.1).1]; exact b4⟩
/-- out of a change that keeps: the call's result -/
theorem Kp.ci {E1 E2 : MM → Rs} {ν ν1 ν2 : MM} {x : Int32} (hI : Inv ν) (e1 : E1 ν = some (some (.int x), fx ν1)) (e2 : E2 ν1 = some (some (.int x), fx ν2)) (k1 : Kp ν ν1) (k2 : Kp ν1 ν2) (hb : b01 (gI ν2 50 0) = true) (hw : WR ν2 29 30 32 33 47) (hz : msz ν2 ≤ msz ν + 100) (hl : msl ν2 ≤ msl ν + 13000) : CI E1 E2 ν := by
  have k12 := k1.tr k2
  exact ⟨x, ν1, ν2, e1, e2, hI.kp k12 hb hw, ⟨hz, hl, (k12.1.2 26 (by omega)).2.1⟩, k1.2.2.1 26 rfl, k12.2.2.1 26 rfl, (k1.1.2 26 (by omega)).2.1⟩
