/-! a new cell -/
def Wa (a : Nat) (μ M : MM) : Prop := shp M = shp μ ∧ aln M = aln μ ∧ msz M = msz μ ∧ msl M = msl μ ∧ ∀ q, q ≠ a → gI M q = gI μ q ∧ gR M q = gR μ q
theorem Wa.rf {a : Nat} {μ : MM} : Wa a μ μ := ⟨rfl, rfl, rfl, rfl, fun _ _ => ⟨rfl, rfl⟩⟩
theorem Wa.tr {a : Nat} {x y z : MM} (h : Wa a x y) (g : Wa a y z) : Wa a x z := ⟨g.1.trans h.1, g.2.1.trans h.2.1, g.2.2.1.trans h.2.2.1, g.2.2.2.1.trans h.2.2.2.1, fun q hq => ⟨(g.2.2.2.2 q hq).1.trans (h.2.2.2.2 q hq).1, (g.2.2.2.2 q hq).2.trans (h.2.2.2.2 q hq).2⟩⟩
theorem Wa.wI {a : Nat} {μ : MM} (k : Nat) (v : Int32) : Wa a μ (sI μ a k v) := ⟨rfl, rfl, rfl, rfl, fun q hq => ⟨funext fun b => by rw [gI_sI, if_neg (fun h => hq h.1)], rfl⟩⟩
theorem Wa.wR {a : Nat} {μ : MM} (k : Nat) (v : Option Nat) : Wa a μ (sR μ a k v) := ⟨rfl, rfl, rfl, rfl, fun q hq => ⟨rfl, funext fun b => by rw [gR_sR, if_neg (fun h => hq h.1)]⟩⟩
theorem gI_alx (ν : MM) (kd n sl q k : Nat) : gI (alx ν kd n sl) q k = if q = msz ν + 57 then 0 else gI ν q k := rfl
theorem gR_alx (ν : MM) (kd n sl q k : Nat) : gR (alx ν kd n sl) q k = if q = msz ν + 57 then none else gR ν q k := rfl
theorem shp_alx (ν : MM) (kd n sl q : Nat) : shp (alx ν kd n sl) q = if q = msz ν + 57 then kd else shp ν q := rfl
theorem aln_alx (ν : MM) (kd n sl q : Nat) : aln (alx ν kd n sl) q = if q = msz ν + 57 then n else aln ν q := rfl
/-- what a new cell leaves -/
def Nw (ν M : MM) (c s : Nat) : Prop := Kp ν M ∧ (∀ q, q < 57 → gI M q = gI ν q ∧ gR M q = gR ν q) ∧ msz M = msz ν + c ∧ msl M = msl ν + s
theorem Wa.nw {ν M : MM} {kd n sl : Nat} (h : Wa (msz ν + 57) (alx ν kd n sl) M) : Nw ν M 1 sl := by
  obtain ⟨h1, h2, h3, h4, h5⟩ := h
  have lo : ∀ q, q < 57 → gI M q = gI ν q ∧ gR M q = gR ν q := fun q hq => by
    obtain ⟨a, b⟩ := h5 q (by omega)
    rw [a, b]
    exact ⟨funext fun k => by rw [gI_alx, if_neg (by omega)], funext fun k => by rw [gR_alx, if_neg (by omega)]⟩
  have gr : Gr ν M := by
    refine ⟨by rw [h3]; exact Nat.le_succ _, fun q hq => ⟨?_, ?_, fun hq2 => ⟨?_, ?_⟩⟩⟩
    · show nxt _ (shp M q) = nxt _ (shp ν q)
      rw [h1, shp_alx, if_neg (by omega)]
    · show nxt _ (aln M q) = nxt _ (aln ν q)
      rw [h2, aln_alx, if_neg (by omega)]
    · rw [(h5 q (by omega)).1]
      exact funext fun k => by rw [gI_alx, if_neg (by omega)]
    · funext k
      rw [gR_fx _ _ hq2, gR_fx _ _ hq2, (h5 q (by omega)).2, gR_alx, if_neg (by omega)]
  refine ⟨⟨gr, fun hF q hq => ?_, fun q hq => (lo q ?_).1, ⟨by rw [(lo 46 (by decide)).1], by rw [(lo 46 (by decide)).1]⟩, by rw [(lo 34 (by decide)).2], fun k => ⟨by rw [(lo 37 (by decide)).2], by rw [(lo 38 (by decide)).2]⟩, fun hF g => g.gr gr hF (fun k _ => by rw [(lo 32 (by decide)).2]) (fun k _ => by rw [(lo 33 (by decide)).2]), fun g i hi => by rw [(lo 30 (by decide)).1]; exact g i hi⟩, lo, h3, h4⟩
  · have e : msz (alx ν kd n sl) = msz ν + 1 := rfl
    rw [h3, e] at hq
    rw [h1, shp_alx, if_neg (by omega)]
    exact hF q (by omega)
  · unfold kpq at hq
    by_cases c : q < 57
    · exact c
    · exfalso
      rw [beq_n (show q ≠ 28 by omega), beq_n (show q ≠ 34 by omega), beq_n (show q ≠ 35 by omega), beq_n (show q ≠ 42 by omega), beq_n (show q ≠ 43 by omega), beq_n (show q ≠ 48 by omega), beq_n (show q ≠ 56 by omega)] at hq
      have : Nat.blt q 27 = false := by
        cases e : Nat.blt q 27 with
        | false => rfl
        | true => exact absurd (Nat.blt_eq.mp e) (by omega)
      rw [this] at hq
      cases hq
theorem Nw.tr {a b c : MM} {m n s t : Nat} (h : Nw a b m s) (g : Nw b c n t) : Nw a c (m + n) (s + t) := ⟨h.1.tr g.1, fun q hq => ⟨(g.2.1 q hq).1.trans (h.2.1 q hq).1, (g.2.1 q hq).2.trans (h.2.1 q hq).2⟩, by rw [g.2.2.1, h.2.2.1]; omega, by rw [g.2.2.2, h.2.2.2]; omega⟩
theorem fxR_hi {q : Nat} (k : Nat) (h : 57 ≤ q) : (fxR.getD q []).getD k none = none := by
  rw [List.getD_eq_getElem?_getD (l := fxR), List.getElem?_eq_none (by exact h)]
  rfl
/-- a WAY's cell -/
def mkR (μ : MM) (a : Nat) (v1 v2 v3 v4 v5 : Int32) : MM := sR (sI (sI (sI (sI (sI μ a 0 v1) a 1 v2) a 2 v3) a 3 v4) a 4 v5) a 5 (some 42)
theorem mkR_w (μ : MM) (a : Nat) (v1 v2 v3 v4 v5 : Int32) : Wa a μ (mkR μ a v1 v2 v3 v4 v5) := (Wa.wI _ _).tr ((Wa.wI _ _).tr ((Wa.wI _ _).tr ((Wa.wI _ _).tr ((Wa.wI _ _).tr (Wa.wR _ _)))))
theorem mkR_g (μ : MM) {a : Nat} (ha : 57 ≤ a) (v1 v2 v3 v4 v5 : Int32) : gI (mkR μ a v1 v2 v3 v4 v5) a 0 = v1 ∧ gI (mkR μ a v1 v2 v3 v4 v5) a 1 = v2 ∧ gI (mkR μ a v1 v2 v3 v4 v5) a 2 = v3 ∧ gI (mkR μ a v1 v2 v3 v4 v5) a 3 = v4 ∧ gI (mkR μ a v1 v2 v3 v4 v5) a 4 = v5 ∧ gR (fx (mkR μ a v1 v2 v3 v4 v5)) a 5 = some 42 := by
  unfold mkR
  refine ⟨?_, ?_, ?_, ?_, ?_, ?_⟩
  · rw [gI_sR, gI_sI, if_neg (by omega), gI_sI, if_neg (by omega), gI_sI, if_neg (by omega), gI_sI, if_neg (by omega), gI_sI, if_pos ⟨rfl, rfl⟩]
  · rw [gI_sR, gI_sI, if_neg (by omega), gI_sI, if_neg (by omega), gI_sI, if_neg (by omega), gI_sI, if_pos ⟨rfl, rfl⟩]
  · rw [gI_sR, gI_sI, if_neg (by omega), gI_sI, if_neg (by omega), gI_sI, if_pos ⟨rfl, rfl⟩]
  · rw [gI_sR, gI_sI, if_neg (by omega), gI_sI, if_pos ⟨rfl, rfl⟩]
  · rw [gI_sR, gI_sI, if_pos ⟨rfl, rfl⟩]
  · rw [gR_fx _ _ ha, gR_sR, if_pos ⟨rfl, rfl⟩]
theorem s_32 (d : Nat) {μ : MM} {a : Nat} (ha : 57 ≤ a) (hs : cin [0, 1, 2, 4, 6, 7, 8] (shp (fx μ) a) = true) (v1 v2 v3 v4 v5 : Int32) : ev d 32 0 [.ref a, .int v1, .int v2, .int v3, .int v4, .int v5, .ref 42] [] (fx μ) = some (none, fx (mkR μ a v1 v2 v3 v4 v5)) := by
  rw [e_32_0, show cin [0, 1, 2, 4, 6, 7, 8] (shp (fx μ) a) = true from hs, gd_t, show cin [0, 1, 2, 4, 6, 7, 8] (shp (fx (sI μ a 0 v1)) a) = true from hs, gd_t, show cin [0, 1, 2, 4, 6, 7, 8] (shp (fx (sI (sI μ a 0 v1) a 1 v2)) a) = true from hs, gd_t, show cin [0, 1, 2, 4, 6, 7, 8] (shp (fx (sI (sI (sI μ a 0 v1) a 1 v2) a 2 v3)) a) = true from hs, gd_t, show cin [0, 1, 2, 4, 6, 7, 8] (shp (fx (sI (sI (sI (sI μ a 0 v1) a 1 v2) a 2 v3) a 3 v4)) a) = true from hs, gd_t, show cin [0, 1, 2, 4, 6, 7, 8] (shp (fx (sI (sI (sI (sI (sI μ a 0 v1) a 1 v2) a 2 v3) a 3 v4) a 4 v5)) a) = true from hs, gd_t, fx_sR _ _ (fxR_hi 5 ha)]
  rfl
theorem s_6c (d : Nat) {μ : MM} {a : Nat} (ha : 57 ≤ a) (hs : shp (fx μ) a = 2) (v1 v2 v3 v4 v5 : Int32) : ev (d + 2) 6 0 [.ref a, .int v1, .int v2, .int v3, .int v4, .int v5, .ref 42] [] (fx μ) = some (none, fx (sI (mkR μ a 6 v1 v2 v3 v4) a 6 v5)) := by
  have c1 : cin [2, 4] (shp (fx μ) a) = true := by rw [hs]; rfl
  have c2 : cin [0, 1, 2, 4, 6, 7, 8] (shp (fx μ) a) = true := by rw [hs]; rfl
  have hs' : shp (fx (mkR μ a 6 v1 v2 v3 v4)) a = 2 := by
    show nxt _ (shp μ a) = 2
    exact hs
  have c3 : cin [2] (shp (fx (mkR μ a 6 v1 v2 v3 v4)) a) = true := by rw [hs']; rfl
  rw [e_6_0, c1, gd_t, e_14_0, c2, gd_t, s_32 d ha c2, bnd_0, app0, e_14_1, bnd_0, app0]
  refine (e_6_1 ..).trans ?_
  rw [c3, gd_t]
/-- a new WAY -/
theorem s_70 (d : Nat) {ν : MM} {k v h co j : Nat} (hF : Fsh ν) (hk : k < 7) (hv : v ≤ 9) (hh : h ≤ 6) (hco : co ≤ 99) (hj : gI ν 29 7 = Int32.ofNat j) : ∃ M s, s ≤ 7 ∧ ev (d + 4) 70 0 [.ref 28, .int (Int32.ofNat k), .int (Int32.ofNat v), .int (Int32.ofNat h), .int (Int32.ofNat co)] [] (fx ν) = some (some (.ref (msz ν + 57)), fx M) ∧ Nw ν M 1 s ∧ RnV M (msz ν + 57) k v h co 0 ∧ gI M (msz ν + 57) 1 = Int32.ofNat j := by
  have ha : 57 ≤ msz ν + 57 := by omega
  have sA : ∀ kd sl, shp (fx (alx ν kd 0 sl)) (msz ν + 57) = kd := fun kd sl => by
    rw [shp_fx _ ha, shp_alx, if_pos rfl]
  have mz : msz (fx ν) = msz ν + 57 := rfl
  have fin : ∀ (M : MM) (kd sl : Nat), kd = clsK k → Wa (msz ν + 57) (alx ν kd 0 sl) M → gI M (msz ν + 57) 0 = Int32.ofNat k → gI M (msz ν + 57) 1 = Int32.ofNat j → gI M (msz ν + 57) 2 = Int32.ofNat v → gI M (msz ν + 57) 3 = Int32.ofNat h → gI M (msz ν + 57) 4 = Int32.ofNat co → (k = 6 → gI M (msz ν + 57) 6 = 0) → gR (fx M) (msz ν + 57) 5 = some 42 → Nw ν M 1 sl ∧ RnV M (msz ν + 57) k v h co 0 ∧ gI M (msz ν + 57) 1 = Int32.ofNat j := by
    intro M kd sl hkd hw g0 g1 g2 g3 g4 g6 g5
    refine ⟨hw.nw, ⟨ha, ?_, hk, hv, hh, hco, by omega, g0, g2, g3, g4, fun e => (g6 e).trans rfl, fun _ => rfl, g5⟩, g1⟩
    rw [shp_fx _ ha, hw.1, shp_alx, if_pos rfl, hkd]
  have con : ∀ (M0 : Nat) (kd : Nat), kd = clsK k → cin [0, 1, 2, 4, 6, 7, 8] kd = true → k ≠ 6 → (∀ v1, ev (d + 2) M0 0 [.ref (msz ν + 57), .int (Int32.ofNat k), .int (Int32.ofNat j), .int (Int32.ofNat v), .int (Int32.ofNat h), .int (Int32.ofNat co), .ref 42] [] (fx (alx ν kd 0 6)) = v1 → v1 = some (none, fx (mkR (alx ν kd 0 6) (msz ν + 57) (Int32.ofNat k) (Int32.ofNat j) (Int32.ofNat v) (Int32.ofNat h) (Int32.ofNat co)))) → True := fun _ _ _ _ _ _ => trivial
  clear con
  have k32 : ∀ (dd kd : Nat), cin [0, 1, 2, 4, 6, 7, 8] kd = true → ev dd 32 0 [.ref (msz ν + 57), .int (Int32.ofNat k), .int (Int32.ofNat j), .int (Int32.ofNat v), .int (Int32.ofNat h), .int (Int32.ofNat co), .ref 42] [] (fx (alx ν kd 0 6)) = some (none, fx (mkR (alx ν kd 0 6) (msz ν + 57) (Int32.ofNat k) (Int32.ofNat j) (Int32.ofNat v) (Int32.ofNat h) (Int32.ofNat co))) := fun dd kd hc => s_32 dd ha (by rw [sA]; exact hc) _ _ _ _ _
  have res : ∀ kd, kd = clsK k → k ≠ 6 → Nw ν (mkR (alx ν kd 0 6) (msz ν + 57) (Int32.ofNat k) (Int32.ofNat j) (Int32.ofNat v) (Int32.ofNat h) (Int32.ofNat co)) 1 6 ∧ RnV (mkR (alx ν kd 0 6) (msz ν + 57) (Int32.ofNat k) (Int32.ofNat j) (Int32.ofNat v) (Int32.ofNat h) (Int32.ofNat co)) (msz ν + 57) k v h co 0 ∧ gI (mkR (alx ν kd 0 6) (msz ν + 57) (Int32.ofNat k) (Int32.ofNat j) (Int32.ofNat v) (Int32.ofNat h) (Int32.ofNat co)) (msz ν + 57) 1 = Int32.ofNat j := by
    intro kd hkd hk6
    obtain ⟨a0, a1, a2, a3, a4, a5⟩ := mkR_g (alx ν kd 0 6) ha (Int32.ofNat k) (Int32.ofNat j) (Int32.ofNat v) (Int32.ofNat h) (Int32.ofNat co)
    exact fin _ kd 6 hkd (mkR_w _ _ _ _ _ _ _) a0 a1 a2 a3 a4 (fun e => absurd e hk6) a5
  have hk7 : k = 0 ∨ k = 1 ∨ k = 2 ∨ k = 3 ∨ k = 4 ∨ k = 5 ∨ k = 6 := by omega
  rcases hk7 with rfl | rfl | rfl | rfl | rfl | rfl | rfl
  · refine ⟨_, 6, by omega, ?_, res 6 rfl (by decide)⟩
    have c : cin [0, 1, 2, 4, 6, 7, 8] 6 = true := rfl
    rw [e_70_0, if_neg (by decide), if_neg (by decide), if_neg (by decide), if_neg (by decide), if_neg (by decide), if_neg (by decide), e_70_13, fx_alc, mz, sA, c, gd_t, hj]
    refine Eq.trans (congrArg (fun z => bnd 0 z _) (k32 (d + 3) 6 c)) ?_
    rw [bnd_0, app0]
    exact e_70_14 ..
  · refine ⟨_, 6, by omega, ?_, res 0 rfl (by decide)⟩
    have c : cin [0, 1, 2, 4, 6, 7, 8] 0 = true := rfl
    have c' : cin [0, 7] 0 = true := rfl
    rw [e_70_0, if_pos (by decide), e_70_1, fx_alc, mz, sA, c', gd_t, hj, e_0_0, sA, c, gd_t, k32 (d + 2) 0 c, bnd_0, app0, e_0_1, bnd_0, app0]
    exact e_70_2 ..
  · refine ⟨_, 6, by omega, ?_, res 1 rfl (by decide)⟩
    have c : cin [0, 1, 2, 4, 6, 7, 8] 1 = true := rfl
    have c' : cin [1, 8] 1 = true := rfl
    rw [e_70_0, if_neg (by decide), if_pos (by decide), e_70_3, fx_alc, mz, sA, c', gd_t, hj, e_3_0, sA, c, gd_t, k32 (d + 2) 1 c, bnd_0, app0, e_3_1, bnd_0, app0]
    exact e_70_4 ..
  · refine ⟨_, 6, by omega, ?_, res 4 rfl (by decide)⟩
    have c : cin [0, 1, 2, 4, 6, 7, 8] 4 = true := rfl
    have c' : cin [2, 4] 4 = true := rfl
    rw [e_70_0, if_neg (by decide), if_neg (by decide), if_pos (by decide), e_70_5, fx_alc, mz, sA, c', gd_t, hj, e_14_0, sA, c, gd_t, k32 (d + 2) 4 c, bnd_0, app0, e_14_1, bnd_0, app0]
    exact e_70_6 ..
  · refine ⟨_, 6, by omega, ?_, res 7 rfl (by decide)⟩
    have c : cin [0, 1, 2, 4, 6, 7, 8] 7 = true := rfl
    have c' : cin [7] 7 = true := rfl
    have c'' : cin [0, 7] 7 = true := rfl
    rw [e_70_0, if_neg (by decide), if_neg (by decide), if_neg (by decide), if_pos (by decide), e_70_7, fx_alc, mz, sA, c', gd_t, hj, e_39_0, sA, c'', gd_t, e_0_0, sA, c, gd_t, k32 (d + 1) 7 c, bnd_0, app0, e_0_1, bnd_0, app0, e_39_1, bnd_0, app0]
    exact e_70_8 ..
  · refine ⟨_, 6, by omega, ?_, res 8 rfl (by decide)⟩
    have c : cin [0, 1, 2, 4, 6, 7, 8] 8 = true := rfl
    have c' : cin [8] 8 = true := rfl
    have c'' : cin [1, 8] 8 = true := rfl
    rw [e_70_0, if_neg (by decide), if_neg (by decide), if_neg (by decide), if_neg (by decide), if_pos (by decide), e_70_9, fx_alc, mz, sA, c', gd_t, hj, e_42_0, sA, c'', gd_t, e_3_0, sA, c, gd_t, k32 (d + 1) 8 c, bnd_0, app0, e_3_1, bnd_0, app0, e_42_1, bnd_0, app0]
    exact e_70_10 ..
  · obtain ⟨a0, a1, a2, a3, a4, a5⟩ := mkR_g (alx ν 2 0 7) ha 6 (Int32.ofNat j) (Int32.ofNat v) (Int32.ofNat h) (Int32.ofNat co)
    have c' : cin [2] 2 = true := rfl
    have e6 := s_6c (d + 1) ha (sA 2 7) (Int32.ofNat j) (Int32.ofNat v) (Int32.ofNat h) (Int32.ofNat co) 0
    refine ⟨_, 7, by omega, ?_, fin (sI (mkR (alx ν 2 0 7) (msz ν + 57) 6 (Int32.ofNat j) (Int32.ofNat v) (Int32.ofNat h) (Int32.ofNat co)) (msz ν + 57) 6 0) 2 7 rfl ((mkR_w _ _ _ _ _ _ _).tr (Wa.wI _ _)) ?_ ?_ ?_ ?_ ?_ ?_ ?_⟩
    · rw [e_70_0, if_neg (by decide), if_neg (by decide), if_neg (by decide), if_neg (by decide), if_neg (by decide), if_pos (by decide), e_70_11, fx_alc, mz, sA, c', gd_t, hj, e6, bnd_0, app0]
      exact e_70_12 ..
    · rw [gI_sI, if_neg (by omega)]; exact a0
    · rw [gI_sI, if_neg (by omega)]; exact a1
    · rw [gI_sI, if_neg (by omega)]; exact a2
    · rw [gI_sI, if_neg (by omega)]; exact a3
    · rw [gI_sI, if_neg (by omega)]; exact a4
    · exact fun _ => by rw [gI_sI, if_pos ⟨rfl, rfl⟩]
    · rw [gR_fx _ _ ha, gR_sI]
      rw [gR_fx _ _ ha] at a5
      exact a5
