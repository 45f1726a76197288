/-! the image: a World copied -/
theorem gI_fx (μ : MM) (q k : Nat) : gI (fx μ) q k = gI μ q k := rfl
theorem sI_fx (μ : MM) (q k : Nat) (v : Int32) : sI (fx μ) q k v = fx (sI μ q k v) := rfl
theorem gI_cpI (μ : MM) (a sp d dp n x b : Nat) : gI (cpI μ a sp d dp n) x b = if x = d ∧ dp ≤ b ∧ b < dp + n then gI μ a (sp + (b - dp)) else gI μ x b := rfl
theorem fit_b : ∀ b, b < 128 → fits .byte (.int (Int32.ofNat b)) = true := by decide
def Cpd (ν ν' : MM) (w tp sy wy w2 tp2 sy2 wy2 : Nat) : Prop := (∀ k, (k = 1 ∨ k = 3 ∨ k = 5 ∨ (7 ≤ k ∧ k ≤ 14)) → gI ν' w2 k = gI ν w k) ∧ (∀ i, i < 100 → gI ν' tp2 i = gI ν tp i) ∧ gR ν' w2 2 = gR ν w 2 ∧ (∀ k, k < 5 → gR ν' sy2 k = gR ν sy k ∧ gR ν' wy2 k = gR ν wy k) ∧ (∀ q k, q ≠ w2 → q ≠ tp2 → gI ν' q k = gI ν q k) ∧ (∀ q k, q ≠ w2 → q ≠ sy2 → q ≠ wy2 → gR ν' q k = gR ν q k) ∧ shp ν' = shp ν ∧ aln ν' = aln ν ∧ msz ν' = msz ν ∧ msl ν' = msl ν
def cp8 (μ : MM) (k : Nat) : MM := sI μ 34 k (gI μ 29 k)
theorem cp8_ne {μ : MM} {k q b : Nat} (h : ¬ (q = 34 ∧ b = k)) : gI (cp8 μ k) q b = gI μ q b := if_neg h
theorem cp8_eq (μ : MM) (k : Nat) : gI (cp8 μ k) 34 k = gI μ 29 k := if_pos ⟨rfl, rfl⟩
theorem cp8_R (μ : MM) (k : Nat) : gR (cp8 μ k) = gR μ ∧ shp (cp8 μ k) = shp μ ∧ aln (cp8 μ k) = aln μ ∧ msz (cp8 μ k) = msz μ ∧ msl (cp8 μ k) = msl μ := ⟨rfl, rfl, rfl, rfl, rfl⟩
theorem nvm48 (d : Nat) (μ : MM) : ev d 48 8 [.ref 34, .ref 29] [] (fx μ) = some (none, fx (cp8 (cp8 (cp8 (cp8 (cp8 (cp8 (cp8 (cp8 μ 7) 8) 9) 10) 11) 12) 13) 14)) := e_48_8 d μ
theorem num48 (d : Nat) (μ : MM) : ∃ μ4, ev d 48 8 [.ref 34, .ref 29] [] (fx μ) = some (none, fx μ4) ∧ (∀ k, 7 ≤ k → k ≤ 14 → gI μ4 34 k = gI μ 29 k) ∧ (∀ q k, q ≠ 34 → gI μ4 q k = gI μ q k) ∧ (∀ k, k < 7 → gI μ4 34 k = gI μ 34 k) ∧ gR μ4 = gR μ ∧ shp μ4 = shp μ ∧ aln μ4 = aln μ ∧ msz μ4 = msz μ ∧ msl μ4 = msl μ := by
  refine ⟨_, nvm48 d μ, fun k h7 h14 => ?_, fun q k hq => ?_, fun k hk => ?_, ?_, ?_, ?_, ?_, ?_⟩
  · have h8 : k = 7 ∨ k = 8 ∨ k = 9 ∨ k = 10 ∨ k = 11 ∨ k = 12 ∨ k = 13 ∨ k = 14 := by omega
    rcases h8 with rfl | rfl | rfl | rfl | rfl | rfl | rfl | rfl
    · rw [cp8_ne (by omega), cp8_ne (by omega), cp8_ne (by omega), cp8_ne (by omega), cp8_ne (by omega), cp8_ne (by omega), cp8_ne (by omega), cp8_eq]
    · rw [cp8_ne (by omega), cp8_ne (by omega), cp8_ne (by omega), cp8_ne (by omega), cp8_ne (by omega), cp8_ne (by omega), cp8_eq, cp8_ne (by omega)]
    · rw [cp8_ne (by omega), cp8_ne (by omega), cp8_ne (by omega), cp8_ne (by omega), cp8_ne (by omega), cp8_eq, cp8_ne (by omega), cp8_ne (by omega)]
    · rw [cp8_ne (by omega), cp8_ne (by omega), cp8_ne (by omega), cp8_ne (by omega), cp8_eq, cp8_ne (by omega), cp8_ne (by omega), cp8_ne (by omega)]
    · rw [cp8_ne (by omega), cp8_ne (by omega), cp8_ne (by omega), cp8_eq, cp8_ne (by omega), cp8_ne (by omega), cp8_ne (by omega), cp8_ne (by omega)]
    · rw [cp8_ne (by omega), cp8_ne (by omega), cp8_eq, cp8_ne (by omega), cp8_ne (by omega), cp8_ne (by omega), cp8_ne (by omega), cp8_ne (by omega)]
    · rw [cp8_ne (by omega), cp8_eq, cp8_ne (by omega), cp8_ne (by omega), cp8_ne (by omega), cp8_ne (by omega), cp8_ne (by omega), cp8_ne (by omega)]
    · rw [cp8_eq, cp8_ne (by omega), cp8_ne (by omega), cp8_ne (by omega), cp8_ne (by omega), cp8_ne (by omega), cp8_ne (by omega), cp8_ne (by omega)]
  · rw [cp8_ne (by omega), cp8_ne (by omega), cp8_ne (by omega), cp8_ne (by omega), cp8_ne (by omega), cp8_ne (by omega), cp8_ne (by omega), cp8_ne (by omega)]
  · rw [cp8_ne (by omega), cp8_ne (by omega), cp8_ne (by omega), cp8_ne (by omega), cp8_ne (by omega), cp8_ne (by omega), cp8_ne (by omega), cp8_ne (by omega)]
  · rw [(cp8_R _ _).1, (cp8_R _ _).1, (cp8_R _ _).1, (cp8_R _ _).1, (cp8_R _ _).1, (cp8_R _ _).1, (cp8_R _ _).1, (cp8_R _ _).1]
  · rw [(cp8_R _ _).2.1, (cp8_R _ _).2.1, (cp8_R _ _).2.1, (cp8_R _ _).2.1, (cp8_R _ _).2.1, (cp8_R _ _).2.1, (cp8_R _ _).2.1, (cp8_R _ _).2.1]
  · rw [(cp8_R _ _).2.2.1, (cp8_R _ _).2.2.1, (cp8_R _ _).2.2.1, (cp8_R _ _).2.2.1, (cp8_R _ _).2.2.1, (cp8_R _ _).2.2.1, (cp8_R _ _).2.2.1, (cp8_R _ _).2.2.1]
  · rw [(cp8_R _ _).2.2.2.1, (cp8_R _ _).2.2.2.1, (cp8_R _ _).2.2.2.1, (cp8_R _ _).2.2.2.1, (cp8_R _ _).2.2.2.1, (cp8_R _ _).2.2.2.1, (cp8_R _ _).2.2.2.1, (cp8_R _ _).2.2.2.1]
  · rw [(cp8_R _ _).2.2.2.2, (cp8_R _ _).2.2.2.2, (cp8_R _ _).2.2.2.2, (cp8_R _ _).2.2.2.2, (cp8_R _ _).2.2.2.2, (cp8_R _ _).2.2.2.2, (cp8_R _ _).2.2.2.2, (cp8_R _ _).2.2.2.2]
theorem step48s (d : Nat) {μ : MM} {k : Nat} (hk : k < 5) (h : ∀ c, gR μ 32 k = some c → shp (fx μ) c = 3) : ev d 48 1 [.ref 34, .ref 29, .int (Int32.ofNat k)] [] (fx μ) = ev d 48 1 [.ref 34, .ref 29, .int (Int32.ofNat (k + 1))] [] (fx (sR μ 37 k (gR μ 32 k))) := by
  have h5 : ¬ (5 : Int32) ≤ Int32.ofNat k := by
    have q : ∀ k, k < 5 → ¬ (5 : Int32) ≤ Int32.ofNat k := by decide
    exact q k hk
  have hf : (fxR.getD 37 []).getD k none = none := by
    have q : ∀ k, k < 5 → (fxR.getD 37 []).getD k none = none := by decide
    exact q k hk
  rw [e_48_1, if_neg h5, e_48_2, if_neg h5, e_48_3, inb_O hk (by omega), gd_t, tn_O (by omega), O_succ]
  cases hc : gR μ 32 k with
  | none => rw [asN_n, gd_t, fx_sR μ none hf]
  | some c =>
    rw [asN_s, h c hc, fx_sR μ (some c) hf]
    rfl
theorem step48w (d : Nat) {μ : MM} {k : Nat} (hk : k < 5) (h : ∀ c, gR μ 33 k = some c → cin [0, 1, 2, 4, 6, 7, 8] (shp (fx μ) c) = true) : ev d 48 5 [.ref 34, .ref 29, .int (Int32.ofNat k)] [] (fx μ) = ev d 48 5 [.ref 34, .ref 29, .int (Int32.ofNat (k + 1))] [] (fx (sR μ 38 k (gR μ 33 k))) := by
  have h5 : ¬ (5 : Int32) ≤ Int32.ofNat k := by
    have q : ∀ k, k < 5 → ¬ (5 : Int32) ≤ Int32.ofNat k := by decide
    exact q k hk
  have hf : (fxR.getD 38 []).getD k none = none := by
    have q : ∀ k, k < 5 → (fxR.getD 38 []).getD k none = none := by decide
    exact q k hk
  rw [e_48_5, if_neg h5, e_48_6, if_neg h5, e_48_7, inb_O hk (by omega), gd_t, tn_O (by omega), O_succ]
  cases hc : gR μ 33 k with
  | none => rw [asN_n, gd_t, fx_sR μ none hf]
  | some c =>
    rw [asN_s, h c hc, fx_sR μ (some c) hf]
    rfl
theorem s_48 (d : Nat) {ν : MM} {A : Nat} (hA : gR ν 29 2 = some A) (hT : TpB ν 30) (hS : Slt ν 32 33) : ∃ ν', ev d 48 0 [.ref 34, .ref 29] [] (fx ν) = some (none, fx ν') ∧ Cpd ν ν' 29 30 32 33 34 35 37 38 := by
  have fit : fitB (fx ν) 30 0 100 = true := by
    unfold fitB
    rw [List.all_eq_true]
    intro i hi
    obtain ⟨b, hb, e⟩ := hT i (List.mem_range.mp hi)
    show fits .byte (.int (gI ν 30 (0 + i))) = true
    rw [Nat.zero_add, e]
    exact fit_b b hb
  obtain ⟨X, hX⟩ : ∃ X : MM, X = sI (cpI ν 30 0 35 0 100) 34 1 (gI (cpI ν 30 0 35 0 100) 29 1) := ⟨_, rfl⟩
  obtain ⟨Y, hY⟩ : ∃ Y : MM, Y = sR X 34 2 (some A) := ⟨_, rfl⟩
  obtain ⟨μ0, hμ0⟩ : ∃ μ0 : MM, μ0 = sI Y 34 3 (gI Y 29 3) := ⟨_, rfl⟩
  have rX : gR X 29 2 = some A := by rw [hX, gR_sI]; exact hA
  have e0 : ev d 48 0 [.ref 34, .ref 29] [] (fx ν) = ev d 48 1 [.ref 34, .ref 29, .int (Int32.ofNat 0)] [] (fx μ0) := by
    rw [e_48_0, fit, show (true && !decide ((0 : Int32) < 0) && !decide ((0 : Int32) < 0) && !decide ((100 : Int32) < 0) && Nat.ble (0 + 100) 100 && Nat.ble (0 + 100) 100) = true from rfl, gd_t, ← hX, rX, asN_s, fx_sR X (some A) rfl, ← hY, gI_fx, sI_fx, ← hμ0]
    rfl
  have g0 : (∀ q k, q ≠ 34 → q ≠ 35 → gI μ0 q k = gI ν q k) ∧ (∀ i, i < 100 → gI μ0 35 i = gI ν 30 i) ∧ gI μ0 34 1 = gI ν 29 1 ∧ gI μ0 34 3 = gI ν 29 3 ∧ (∀ k, k ≠ 1 → k ≠ 3 → gI μ0 34 k = gI ν 34 k) ∧ gR μ0 34 2 = some A ∧ (∀ q k, q ≠ 34 → gR μ0 q k = gR ν q k) ∧ shp μ0 = shp ν ∧ aln μ0 = aln ν ∧ msz μ0 = msz ν ∧ msl μ0 = msl ν := by
    have oX : ∀ q k, q ≠ 35 → ¬ (q = 34 ∧ k = 1) → gI X q k = gI ν q k := fun q k h1 h2 => by rw [hX, gI_sI, if_neg h2, gI_cpI, if_neg (fun h => h1 h.1)]
    have mX : gR X = gR ν ∧ shp X = shp ν ∧ aln X = aln ν ∧ msz X = msz ν ∧ msl X = msl ν := by rw [hX]; exact ⟨rfl, rfl, rfl, rfl, rfl⟩
    have mY : gI Y = gI X ∧ shp Y = shp X ∧ aln Y = aln X ∧ msz Y = msz X ∧ msl Y = msl X := by rw [hY]; exact ⟨rfl, rfl, rfl, rfl, rfl⟩
    have m0 : gR μ0 = gR Y ∧ shp μ0 = shp Y ∧ aln μ0 = aln Y ∧ msz μ0 = msz Y ∧ msl μ0 = msl Y := by rw [hμ0]; exact ⟨rfl, rfl, rfl, rfl, rfl⟩
    have rY : ∀ q k, gR Y q k = if q = 34 ∧ k = 2 then some A else gR X q k := fun q k => by rw [hY, gR_sR]
    have i0 : ∀ q k, gI μ0 q k = if q = 34 ∧ k = 3 then gI Y 29 3 else gI X q k := fun q k => by rw [hμ0, gI_sI, mY.1]
    refine ⟨fun q k h1 h2 => ?_, fun i hi => ?_, ?_, ?_, fun k h1 h2 => ?_, ?_, fun q k h1 => ?_, m0.2.1.trans (mY.2.1.trans mX.2.1), m0.2.2.1.trans (mY.2.2.1.trans mX.2.2.1), m0.2.2.2.1.trans (mY.2.2.2.1.trans mX.2.2.2.1), m0.2.2.2.2.trans (mY.2.2.2.2.trans mX.2.2.2.2)⟩
    · rw [i0, if_neg (by omega), oX _ _ h2 (by omega)]
    · rw [i0, if_neg (by omega), hX, gI_sI, if_neg (by omega), gI_cpI, if_pos ⟨rfl, by omega, by omega⟩, Nat.zero_add, Nat.sub_zero]
    · rw [i0, if_neg (by omega), hX, gI_sI, if_pos ⟨rfl, rfl⟩, gI_cpI, if_neg (by omega)]
    · rw [i0, if_pos ⟨rfl, rfl⟩, mY.1, oX _ _ (by decide) (by omega)]
    · rw [i0, if_neg (by omega), oX _ _ (by decide) (by omega)]
    · rw [m0.1, rY, if_pos ⟨rfl, rfl⟩]
    · rw [m0.1, rY, if_neg (by omega), mX.1]
  obtain ⟨a1, a2, a3, a4, a5, a6, a7, a8, a9, a10, a11⟩ := g0
  have fs : ∀ {μ : MM}, shp μ = shp ν → shp (fx μ) = shp (fx ν) := fun {μ} h => by
    funext q
    show nxt _ (shp μ q) = nxt _ (shp ν q)
    rw [h]
  -- SAYINGS
  obtain ⟨μ1, hμ1⟩ : ∃ μ1 : MM, μ1 = sR (sR (sR (sR (sR μ0 37 0 (gR ν 32 0)) 37 1 (gR ν 32 1)) 37 2 (gR ν 32 2)) 37 3 (gR ν 32 3)) 37 4 (gR ν 32 4) := ⟨_, rfl⟩
  have e1 : ev d 48 1 [.ref 34, .ref 29, .int (Int32.ofNat 0)] [] (fx μ0) = ev d 48 1 [.ref 34, .ref 29, .int (Int32.ofNat 5)] [] (fx μ1) := by
    have st : ∀ (μ : MM) (k : Nat), k < 5 → gR μ 32 k = gR ν 32 k → shp μ = shp ν → ev d 48 1 [.ref 34, .ref 29, .int (Int32.ofNat k)] [] (fx μ) = ev d 48 1 [.ref 34, .ref 29, .int (Int32.ofNat (k + 1))] [] (fx (sR μ 37 k (gR ν 32 k))) := by
      intro μ k hk h1 h2
      rw [step48s d hk (fun c hc => by rw [fs h2]; exact (hS k hk).1 c (by rw [← h1]; exact hc)), h1]
    have ne : ∀ (μ : MM) (k j : Nat) (v : Option Nat), gR (sR μ 37 k v) 32 j = gR μ 32 j := fun μ k j v => by rw [gR_sR, if_neg (by omega)]
    rw [hμ1]
    have t0 := st μ0 0 (by decide) (a7 _ _ (by decide)) a8
    have t1 := st (sR μ0 37 0 (gR ν 32 0)) 1 (by decide) (by rw [ne]; exact a7 _ _ (by decide)) a8
    have t2 := st (sR (sR μ0 37 0 (gR ν 32 0)) 37 1 (gR ν 32 1)) 2 (by decide) (by rw [ne, ne]; exact a7 _ _ (by decide)) a8
    have t3 := st (sR (sR (sR μ0 37 0 (gR ν 32 0)) 37 1 (gR ν 32 1)) 37 2 (gR ν 32 2)) 3 (by decide) (by rw [ne, ne, ne]; exact a7 _ _ (by decide)) a8
    have t4 := st (sR (sR (sR (sR μ0 37 0 (gR ν 32 0)) 37 1 (gR ν 32 1)) 37 2 (gR ν 32 2)) 37 3 (gR ν 32 3)) 4 (by decide) (by rw [ne, ne, ne, ne]; exact a7 _ _ (by decide)) a8
    exact t0.trans (t1.trans (t2.trans (t3.trans t4)))
  have g1 : gI μ1 = gI μ0 ∧ (∀ k, k < 5 → gR μ1 37 k = gR ν 32 k) ∧ (∀ q k, q ≠ 37 → gR μ1 q k = gR μ0 q k) ∧ shp μ1 = shp μ0 ∧ aln μ1 = aln μ0 ∧ msz μ1 = msz μ0 ∧ msl μ1 = msl μ0 := by
    rw [hμ1]
    refine ⟨rfl, fun k hk => ?_, fun q k hq => ?_, rfl, rfl, rfl, rfl⟩
    · rw [gR_sR, gR_sR, gR_sR, gR_sR, gR_sR]
      match k, hk with
      | 0, _ => rw [if_neg (by omega), if_neg (by omega), if_neg (by omega), if_neg (by omega), if_pos ⟨rfl, rfl⟩]
      | 1, _ => rw [if_neg (by omega), if_neg (by omega), if_neg (by omega), if_pos ⟨rfl, rfl⟩]
      | 2, _ => rw [if_neg (by omega), if_neg (by omega), if_pos ⟨rfl, rfl⟩]
      | 3, _ => rw [if_neg (by omega), if_pos ⟨rfl, rfl⟩]
      | 4, _ => rw [if_pos ⟨rfl, rfl⟩]
    · rw [gR_sR, if_neg (by omega), gR_sR, if_neg (by omega), gR_sR, if_neg (by omega), gR_sR, if_neg (by omega), gR_sR, if_neg (by omega)]
  obtain ⟨b1, b2, b3, b4, b5, b6, b7⟩ := g1
  -- WAYS
  obtain ⟨μ2, hμ2⟩ : ∃ μ2 : MM, μ2 = sI μ1 34 5 (gI ν 29 5) := ⟨_, rfl⟩
  have hw5 : gI μ1 29 5 = gI ν 29 5 := by rw [b1]; exact a1 _ _ (by decide) (by decide)
  have e2 : ev d 48 1 [.ref 34, .ref 29, .int (Int32.ofNat 5)] [] (fx μ1) = ev d 48 5 [.ref 34, .ref 29, .int (Int32.ofNat 0)] [] (fx μ2) := by
    rw [e_48_1, if_pos (by decide), e_48_4, hw5, hμ2]
    rfl
  obtain ⟨μ3, hμ3⟩ : ∃ μ3 : MM, μ3 = sR (sR (sR (sR (sR μ2 38 0 (gR ν 33 0)) 38 1 (gR ν 33 1)) 38 2 (gR ν 33 2)) 38 3 (gR ν 33 3)) 38 4 (gR ν 33 4) := ⟨_, rfl⟩
  have s2 : shp μ2 = shp ν := by rw [hμ2]; exact b4.trans a8
  have r2 : ∀ k, gR μ2 33 k = gR ν 33 k := fun k => by rw [hμ2, gR_sI, b3 _ _ (by decide)]; exact a7 _ _ (by decide)
  have e3 : ev d 48 5 [.ref 34, .ref 29, .int (Int32.ofNat 0)] [] (fx μ2) = ev d 48 5 [.ref 34, .ref 29, .int (Int32.ofNat 5)] [] (fx μ3) := by
    have st : ∀ (μ : MM) (k : Nat), k < 5 → gR μ 33 k = gR ν 33 k → shp μ = shp ν → ev d 48 5 [.ref 34, .ref 29, .int (Int32.ofNat k)] [] (fx μ) = ev d 48 5 [.ref 34, .ref 29, .int (Int32.ofNat (k + 1))] [] (fx (sR μ 38 k (gR ν 33 k))) := by
      intro μ k hk h1 h2
      rw [step48w d hk (fun c hc => by rw [fs h2]; exact (hS k hk).2 c (by rw [← h1]; exact hc)), h1]
    have ne : ∀ (μ : MM) (k j : Nat) (v : Option Nat), gR (sR μ 38 k v) 33 j = gR μ 33 j := fun μ k j v => by rw [gR_sR, if_neg (by omega)]
    rw [hμ3]
    have t0 := st μ2 0 (by decide) (r2 _) s2
    have t1 := st (sR μ2 38 0 (gR ν 33 0)) 1 (by decide) (by rw [ne]; exact r2 _) s2
    have t2 := st (sR (sR μ2 38 0 (gR ν 33 0)) 38 1 (gR ν 33 1)) 2 (by decide) (by rw [ne, ne]; exact r2 _) s2
    have t3 := st (sR (sR (sR μ2 38 0 (gR ν 33 0)) 38 1 (gR ν 33 1)) 38 2 (gR ν 33 2)) 3 (by decide) (by rw [ne, ne, ne]; exact r2 _) s2
    have t4 := st (sR (sR (sR (sR μ2 38 0 (gR ν 33 0)) 38 1 (gR ν 33 1)) 38 2 (gR ν 33 2)) 38 3 (gR ν 33 3)) 4 (by decide) (by rw [ne, ne, ne, ne]; exact r2 _) s2
    exact t0.trans (t1.trans (t2.trans (t3.trans t4)))
  have g3 : gI μ3 = gI μ2 ∧ (∀ k, k < 5 → gR μ3 38 k = gR ν 33 k) ∧ (∀ q k, q ≠ 38 → gR μ3 q k = gR μ2 q k) ∧ shp μ3 = shp μ2 ∧ aln μ3 = aln μ2 ∧ msz μ3 = msz μ2 ∧ msl μ3 = msl μ2 := by
    rw [hμ3]
    refine ⟨rfl, fun k hk => ?_, fun q k hq => ?_, rfl, rfl, rfl, rfl⟩
    · rw [gR_sR, gR_sR, gR_sR, gR_sR, gR_sR]
      match k, hk with
      | 0, _ => rw [if_neg (by omega), if_neg (by omega), if_neg (by omega), if_neg (by omega), if_pos ⟨rfl, rfl⟩]
      | 1, _ => rw [if_neg (by omega), if_neg (by omega), if_neg (by omega), if_pos ⟨rfl, rfl⟩]
      | 2, _ => rw [if_neg (by omega), if_neg (by omega), if_pos ⟨rfl, rfl⟩]
      | 3, _ => rw [if_neg (by omega), if_pos ⟨rfl, rfl⟩]
      | 4, _ => rw [if_pos ⟨rfl, rfl⟩]
    · rw [gR_sR, if_neg (by omega), gR_sR, if_neg (by omega), gR_sR, if_neg (by omega), gR_sR, if_neg (by omega), gR_sR, if_neg (by omega)]
  obtain ⟨c1, c2, c3, c4, c5, c6, c7⟩ := g3
  -- the numbers
  obtain ⟨μ4, e4', l5, k4, l4, d1, d2, d3, d4, d5⟩ := num48 d μ3
  have e4 : ev d 48 5 [.ref 34, .ref 29, .int (Int32.ofNat 5)] [] (fx μ3) = some (none, fx μ4) := by
    rw [e_48_5, if_pos (by decide)]
    exact e4'
  have w3 : ∀ k, gI μ3 29 k = gI ν 29 k := fun k => by rw [c1, hμ2, gI_sI, if_neg (by omega), b1]; exact a1 _ _ (by decide) (by decide)
  have o3 : ∀ q k, q ≠ 34 → q ≠ 35 → gI μ3 q k = gI ν q k := fun q k h1 h2 => by rw [c1, hμ2, gI_sI, if_neg (by omega), b1]; exact a1 _ _ h1 h2
  refine ⟨μ4, e0.trans (e1.trans (e2.trans (e3.trans e4))), fun k hk => ?_, fun i hi => ?_, ?_, fun k hk => ⟨?_, ?_⟩, fun q k h1 h2 => ?_, fun q k h1 h2 h3 => ?_, ?_, ?_, ?_, ?_⟩
  · rcases hk with rfl | rfl | rfl | ⟨h7, h14⟩
    · rw [l4 1 (by decide), c1, hμ2, gI_sI, if_neg (by omega), b1]; exact a3
    · rw [l4 3 (by decide), c1, hμ2, gI_sI, if_neg (by omega), b1]; exact a4
    · rw [l4 5 (by decide), c1, hμ2, gI_sI, if_pos ⟨rfl, rfl⟩]
    · rw [← w3 k]
      exact l5 k h7 h14
  · rw [k4 _ _ (by decide), c1, hμ2, gI_sI, if_neg (by omega), b1]
    exact a2 i hi
  · rw [d1, c3 _ _ (by decide), hμ2, gR_sI, b3 _ _ (by decide), hA]
    exact a6
  · rw [d1, c3 _ _ (by decide), hμ2, gR_sI]
    exact b2 k hk
  · rw [d1]
    exact c2 k hk
  · rw [k4 _ _ h1]
    exact o3 q k h1 h2
  · rw [d1, c3 _ _ h3, hμ2, gR_sI, b3 _ _ h2]
    exact a7 _ _ h1
  · rw [d2, c4, hμ2]; exact b4.trans a8
  · rw [d3, c5, hμ2]; exact b5.trans a9
  · rw [d4, c6, hμ2]; exact b6.trans a10
  · rw [d5, c7, hμ2]; exact b7.trans a11
def cp8a (μ : MM) (k : Nat) : MM := sI μ 29 k (gI μ 34 k)
theorem cp8a_ne {μ : MM} {k q b : Nat} (h : ¬ (q = 29 ∧ b = k)) : gI (cp8a μ k) q b = gI μ q b := if_neg h
theorem cp8a_eq (μ : MM) (k : Nat) : gI (cp8a μ k) 29 k = gI μ 34 k := if_pos ⟨rfl, rfl⟩
theorem cp8a_R (μ : MM) (k : Nat) : gR (cp8a μ k) = gR μ ∧ shp (cp8a μ k) = shp μ ∧ aln (cp8a μ k) = aln μ ∧ msz (cp8a μ k) = msz μ ∧ msl (cp8a μ k) = msl μ := ⟨rfl, rfl, rfl, rfl, rfl⟩
theorem nvm48a (d : Nat) (μ : MM) : ev d 48 8 [.ref 29, .ref 34] [] (fx μ) = some (none, fx (cp8a (cp8a (cp8a (cp8a (cp8a (cp8a (cp8a (cp8a μ 7) 8) 9) 10) 11) 12) 13) 14)) := e_48_8a d μ
theorem num48a (d : Nat) (μ : MM) : ∃ μ4, ev d 48 8 [.ref 29, .ref 34] [] (fx μ) = some (none, fx μ4) ∧ (∀ k, 7 ≤ k → k ≤ 14 → gI μ4 29 k = gI μ 34 k) ∧ (∀ q k, q ≠ 29 → gI μ4 q k = gI μ q k) ∧ (∀ k, k < 7 → gI μ4 29 k = gI μ 29 k) ∧ gR μ4 = gR μ ∧ shp μ4 = shp μ ∧ aln μ4 = aln μ ∧ msz μ4 = msz μ ∧ msl μ4 = msl μ := by
  refine ⟨_, nvm48a d μ, fun k h7 h14 => ?_, fun q k hq => ?_, fun k hk => ?_, ?_, ?_, ?_, ?_, ?_⟩
  · have h8 : k = 7 ∨ k = 8 ∨ k = 9 ∨ k = 10 ∨ k = 11 ∨ k = 12 ∨ k = 13 ∨ k = 14 := by omega
    rcases h8 with rfl | rfl | rfl | rfl | rfl | rfl | rfl | rfl
    · rw [cp8a_ne (by omega), cp8a_ne (by omega), cp8a_ne (by omega), cp8a_ne (by omega), cp8a_ne (by omega), cp8a_ne (by omega), cp8a_ne (by omega), cp8a_eq]
    · rw [cp8a_ne (by omega), cp8a_ne (by omega), cp8a_ne (by omega), cp8a_ne (by omega), cp8a_ne (by omega), cp8a_ne (by omega), cp8a_eq, cp8a_ne (by omega)]
    · rw [cp8a_ne (by omega), cp8a_ne (by omega), cp8a_ne (by omega), cp8a_ne (by omega), cp8a_ne (by omega), cp8a_eq, cp8a_ne (by omega), cp8a_ne (by omega)]
    · rw [cp8a_ne (by omega), cp8a_ne (by omega), cp8a_ne (by omega), cp8a_ne (by omega), cp8a_eq, cp8a_ne (by omega), cp8a_ne (by omega), cp8a_ne (by omega)]
    · rw [cp8a_ne (by omega), cp8a_ne (by omega), cp8a_ne (by omega), cp8a_eq, cp8a_ne (by omega), cp8a_ne (by omega), cp8a_ne (by omega), cp8a_ne (by omega)]
    · rw [cp8a_ne (by omega), cp8a_ne (by omega), cp8a_eq, cp8a_ne (by omega), cp8a_ne (by omega), cp8a_ne (by omega), cp8a_ne (by omega), cp8a_ne (by omega)]
    · rw [cp8a_ne (by omega), cp8a_eq, cp8a_ne (by omega), cp8a_ne (by omega), cp8a_ne (by omega), cp8a_ne (by omega), cp8a_ne (by omega), cp8a_ne (by omega)]
    · rw [cp8a_eq, cp8a_ne (by omega), cp8a_ne (by omega), cp8a_ne (by omega), cp8a_ne (by omega), cp8a_ne (by omega), cp8a_ne (by omega), cp8a_ne (by omega)]
  · rw [cp8a_ne (by omega), cp8a_ne (by omega), cp8a_ne (by omega), cp8a_ne (by omega), cp8a_ne (by omega), cp8a_ne (by omega), cp8a_ne (by omega), cp8a_ne (by omega)]
  · rw [cp8a_ne (by omega), cp8a_ne (by omega), cp8a_ne (by omega), cp8a_ne (by omega), cp8a_ne (by omega), cp8a_ne (by omega), cp8a_ne (by omega), cp8a_ne (by omega)]
  · rw [(cp8a_R _ _).1, (cp8a_R _ _).1, (cp8a_R _ _).1, (cp8a_R _ _).1, (cp8a_R _ _).1, (cp8a_R _ _).1, (cp8a_R _ _).1, (cp8a_R _ _).1]
  · rw [(cp8a_R _ _).2.1, (cp8a_R _ _).2.1, (cp8a_R _ _).2.1, (cp8a_R _ _).2.1, (cp8a_R _ _).2.1, (cp8a_R _ _).2.1, (cp8a_R _ _).2.1, (cp8a_R _ _).2.1]
  · rw [(cp8a_R _ _).2.2.1, (cp8a_R _ _).2.2.1, (cp8a_R _ _).2.2.1, (cp8a_R _ _).2.2.1, (cp8a_R _ _).2.2.1, (cp8a_R _ _).2.2.1, (cp8a_R _ _).2.2.1, (cp8a_R _ _).2.2.1]
  · rw [(cp8a_R _ _).2.2.2.1, (cp8a_R _ _).2.2.2.1, (cp8a_R _ _).2.2.2.1, (cp8a_R _ _).2.2.2.1, (cp8a_R _ _).2.2.2.1, (cp8a_R _ _).2.2.2.1, (cp8a_R _ _).2.2.2.1, (cp8a_R _ _).2.2.2.1]
  · rw [(cp8a_R _ _).2.2.2.2, (cp8a_R _ _).2.2.2.2, (cp8a_R _ _).2.2.2.2, (cp8a_R _ _).2.2.2.2, (cp8a_R _ _).2.2.2.2, (cp8a_R _ _).2.2.2.2, (cp8a_R _ _).2.2.2.2, (cp8a_R _ _).2.2.2.2]
theorem step48sa (d : Nat) {μ : MM} {k : Nat} (hk : k < 5) (h : ∀ c, gR μ 37 k = some c → shp (fx μ) c = 3) : ev d 48 1 [.ref 29, .ref 34, .int (Int32.ofNat k)] [] (fx μ) = ev d 48 1 [.ref 29, .ref 34, .int (Int32.ofNat (k + 1))] [] (fx (sR μ 32 k (gR μ 37 k))) := by
  have h5 : ¬ (5 : Int32) ≤ Int32.ofNat k := by
    have q : ∀ k, k < 5 → ¬ (5 : Int32) ≤ Int32.ofNat k := by decide
    exact q k hk
  have hf : (fxR.getD 32 []).getD k none = none := by
    have q : ∀ k, k < 5 → (fxR.getD 32 []).getD k none = none := by decide
    exact q k hk
  rw [e_48_1a, if_neg h5, e_48_2a, if_neg h5, e_48_3a, inb_O hk (by omega), gd_t, tn_O (by omega), O_succ]
  cases hc : gR μ 37 k with
  | none => rw [asN_n, gd_t, fx_sR μ none hf]
  | some c =>
    rw [asN_s, h c hc, fx_sR μ (some c) hf]
    rfl
theorem step48wa (d : Nat) {μ : MM} {k : Nat} (hk : k < 5) (h : ∀ c, gR μ 38 k = some c → cin [0, 1, 2, 4, 6, 7, 8] (shp (fx μ) c) = true) : ev d 48 5 [.ref 29, .ref 34, .int (Int32.ofNat k)] [] (fx μ) = ev d 48 5 [.ref 29, .ref 34, .int (Int32.ofNat (k + 1))] [] (fx (sR μ 33 k (gR μ 38 k))) := by
  have h5 : ¬ (5 : Int32) ≤ Int32.ofNat k := by
    have q : ∀ k, k < 5 → ¬ (5 : Int32) ≤ Int32.ofNat k := by decide
    exact q k hk
  have hf : (fxR.getD 33 []).getD k none = none := by
    have q : ∀ k, k < 5 → (fxR.getD 33 []).getD k none = none := by decide
    exact q k hk
  rw [e_48_5a, if_neg h5, e_48_6a, if_neg h5, e_48_7a, inb_O hk (by omega), gd_t, tn_O (by omega), O_succ]
  cases hc : gR μ 38 k with
  | none => rw [asN_n, gd_t, fx_sR μ none hf]
  | some c =>
    rw [asN_s, h c hc, fx_sR μ (some c) hf]
    rfl
theorem s_48a (d : Nat) {ν : MM} {A : Nat} (hA : gR ν 34 2 = some A) (hT : TpB ν 35) (hS : Slt ν 37 38) : ∃ ν', ev d 48 0 [.ref 29, .ref 34] [] (fx ν) = some (none, fx ν') ∧ Cpd ν ν' 34 35 37 38 29 30 32 33 := by
  have fit : fitB (fx ν) 35 0 100 = true := by
    unfold fitB
    rw [List.all_eq_true]
    intro i hi
    obtain ⟨b, hb, e⟩ := hT i (List.mem_range.mp hi)
    show fits .byte (.int (gI ν 35 (0 + i))) = true
    rw [Nat.zero_add, e]
    exact fit_b b hb
  obtain ⟨X, hX⟩ : ∃ X : MM, X = sI (cpI ν 35 0 30 0 100) 29 1 (gI (cpI ν 35 0 30 0 100) 34 1) := ⟨_, rfl⟩
  obtain ⟨Y, hY⟩ : ∃ Y : MM, Y = sR X 29 2 (some A) := ⟨_, rfl⟩
  obtain ⟨μ0, hμ0⟩ : ∃ μ0 : MM, μ0 = sI Y 29 3 (gI Y 34 3) := ⟨_, rfl⟩
  have rX : gR X 34 2 = some A := by rw [hX, gR_sI]; exact hA
  have e0 : ev d 48 0 [.ref 29, .ref 34] [] (fx ν) = ev d 48 1 [.ref 29, .ref 34, .int (Int32.ofNat 0)] [] (fx μ0) := by
    rw [e_48_0a, fit, show (true && !decide ((0 : Int32) < 0) && !decide ((0 : Int32) < 0) && !decide ((100 : Int32) < 0) && Nat.ble (0 + 100) 100 && Nat.ble (0 + 100) 100) = true from rfl, gd_t, ← hX, rX, asN_s, fx_sR X (some A) rfl, ← hY, gI_fx, sI_fx, ← hμ0]
    rfl
  have g0 : (∀ q k, q ≠ 29 → q ≠ 30 → gI μ0 q k = gI ν q k) ∧ (∀ i, i < 100 → gI μ0 30 i = gI ν 35 i) ∧ gI μ0 29 1 = gI ν 34 1 ∧ gI μ0 29 3 = gI ν 34 3 ∧ (∀ k, k ≠ 1 → k ≠ 3 → gI μ0 29 k = gI ν 29 k) ∧ gR μ0 29 2 = some A ∧ (∀ q k, q ≠ 29 → gR μ0 q k = gR ν q k) ∧ shp μ0 = shp ν ∧ aln μ0 = aln ν ∧ msz μ0 = msz ν ∧ msl μ0 = msl ν := by
    have oX : ∀ q k, q ≠ 30 → ¬ (q = 29 ∧ k = 1) → gI X q k = gI ν q k := fun q k h1 h2 => by rw [hX, gI_sI, if_neg h2, gI_cpI, if_neg (fun h => h1 h.1)]
    have mX : gR X = gR ν ∧ shp X = shp ν ∧ aln X = aln ν ∧ msz X = msz ν ∧ msl X = msl ν := by rw [hX]; exact ⟨rfl, rfl, rfl, rfl, rfl⟩
    have mY : gI Y = gI X ∧ shp Y = shp X ∧ aln Y = aln X ∧ msz Y = msz X ∧ msl Y = msl X := by rw [hY]; exact ⟨rfl, rfl, rfl, rfl, rfl⟩
    have m0 : gR μ0 = gR Y ∧ shp μ0 = shp Y ∧ aln μ0 = aln Y ∧ msz μ0 = msz Y ∧ msl μ0 = msl Y := by rw [hμ0]; exact ⟨rfl, rfl, rfl, rfl, rfl⟩
    have rY : ∀ q k, gR Y q k = if q = 29 ∧ k = 2 then some A else gR X q k := fun q k => by rw [hY, gR_sR]
    have i0 : ∀ q k, gI μ0 q k = if q = 29 ∧ k = 3 then gI Y 34 3 else gI X q k := fun q k => by rw [hμ0, gI_sI, mY.1]
    refine ⟨fun q k h1 h2 => ?_, fun i hi => ?_, ?_, ?_, fun k h1 h2 => ?_, ?_, fun q k h1 => ?_, m0.2.1.trans (mY.2.1.trans mX.2.1), m0.2.2.1.trans (mY.2.2.1.trans mX.2.2.1), m0.2.2.2.1.trans (mY.2.2.2.1.trans mX.2.2.2.1), m0.2.2.2.2.trans (mY.2.2.2.2.trans mX.2.2.2.2)⟩
    · rw [i0, if_neg (by omega), oX _ _ h2 (by omega)]
    · rw [i0, if_neg (by omega), hX, gI_sI, if_neg (by omega), gI_cpI, if_pos ⟨rfl, by omega, by omega⟩, Nat.zero_add, Nat.sub_zero]
    · rw [i0, if_neg (by omega), hX, gI_sI, if_pos ⟨rfl, rfl⟩, gI_cpI, if_neg (by omega)]
    · rw [i0, if_pos ⟨rfl, rfl⟩, mY.1, oX _ _ (by decide) (by omega)]
    · rw [i0, if_neg (by omega), oX _ _ (by decide) (by omega)]
    · rw [m0.1, rY, if_pos ⟨rfl, rfl⟩]
    · rw [m0.1, rY, if_neg (by omega), mX.1]
  obtain ⟨a1, a2, a3, a4, a5, a6, a7, a8, a9, a10, a11⟩ := g0
  have fs : ∀ {μ : MM}, shp μ = shp ν → shp (fx μ) = shp (fx ν) := fun {μ} h => by
    funext q
    show nxt _ (shp μ q) = nxt _ (shp ν q)
    rw [h]
  -- SAYINGS
  obtain ⟨μ1, hμ1⟩ : ∃ μ1 : MM, μ1 = sR (sR (sR (sR (sR μ0 32 0 (gR ν 37 0)) 32 1 (gR ν 37 1)) 32 2 (gR ν 37 2)) 32 3 (gR ν 37 3)) 32 4 (gR ν 37 4) := ⟨_, rfl⟩
  have e1 : ev d 48 1 [.ref 29, .ref 34, .int (Int32.ofNat 0)] [] (fx μ0) = ev d 48 1 [.ref 29, .ref 34, .int (Int32.ofNat 5)] [] (fx μ1) := by
    have st : ∀ (μ : MM) (k : Nat), k < 5 → gR μ 37 k = gR ν 37 k → shp μ = shp ν → ev d 48 1 [.ref 29, .ref 34, .int (Int32.ofNat k)] [] (fx μ) = ev d 48 1 [.ref 29, .ref 34, .int (Int32.ofNat (k + 1))] [] (fx (sR μ 32 k (gR ν 37 k))) := by
      intro μ k hk h1 h2
      rw [step48sa d hk (fun c hc => by rw [fs h2]; exact (hS k hk).1 c (by rw [← h1]; exact hc)), h1]
    have ne : ∀ (μ : MM) (k j : Nat) (v : Option Nat), gR (sR μ 32 k v) 37 j = gR μ 37 j := fun μ k j v => by rw [gR_sR, if_neg (by omega)]
    rw [hμ1]
    have t0 := st μ0 0 (by decide) (a7 _ _ (by decide)) a8
    have t1 := st (sR μ0 32 0 (gR ν 37 0)) 1 (by decide) (by rw [ne]; exact a7 _ _ (by decide)) a8
    have t2 := st (sR (sR μ0 32 0 (gR ν 37 0)) 32 1 (gR ν 37 1)) 2 (by decide) (by rw [ne, ne]; exact a7 _ _ (by decide)) a8
    have t3 := st (sR (sR (sR μ0 32 0 (gR ν 37 0)) 32 1 (gR ν 37 1)) 32 2 (gR ν 37 2)) 3 (by decide) (by rw [ne, ne, ne]; exact a7 _ _ (by decide)) a8
    have t4 := st (sR (sR (sR (sR μ0 32 0 (gR ν 37 0)) 32 1 (gR ν 37 1)) 32 2 (gR ν 37 2)) 32 3 (gR ν 37 3)) 4 (by decide) (by rw [ne, ne, ne, ne]; exact a7 _ _ (by decide)) a8
    exact t0.trans (t1.trans (t2.trans (t3.trans t4)))
  have g1 : gI μ1 = gI μ0 ∧ (∀ k, k < 5 → gR μ1 32 k = gR ν 37 k) ∧ (∀ q k, q ≠ 32 → gR μ1 q k = gR μ0 q k) ∧ shp μ1 = shp μ0 ∧ aln μ1 = aln μ0 ∧ msz μ1 = msz μ0 ∧ msl μ1 = msl μ0 := by
    rw [hμ1]
    refine ⟨rfl, fun k hk => ?_, fun q k hq => ?_, rfl, rfl, rfl, rfl⟩
    · rw [gR_sR, gR_sR, gR_sR, gR_sR, gR_sR]
      match k, hk with
      | 0, _ => rw [if_neg (by omega), if_neg (by omega), if_neg (by omega), if_neg (by omega), if_pos ⟨rfl, rfl⟩]
      | 1, _ => rw [if_neg (by omega), if_neg (by omega), if_neg (by omega), if_pos ⟨rfl, rfl⟩]
      | 2, _ => rw [if_neg (by omega), if_neg (by omega), if_pos ⟨rfl, rfl⟩]
      | 3, _ => rw [if_neg (by omega), if_pos ⟨rfl, rfl⟩]
      | 4, _ => rw [if_pos ⟨rfl, rfl⟩]
    · rw [gR_sR, if_neg (by omega), gR_sR, if_neg (by omega), gR_sR, if_neg (by omega), gR_sR, if_neg (by omega), gR_sR, if_neg (by omega)]
  obtain ⟨b1, b2, b3, b4, b5, b6, b7⟩ := g1
  -- WAYS
  obtain ⟨μ2, hμ2⟩ : ∃ μ2 : MM, μ2 = sI μ1 29 5 (gI ν 34 5) := ⟨_, rfl⟩
  have hw5 : gI μ1 34 5 = gI ν 34 5 := by rw [b1]; exact a1 _ _ (by decide) (by decide)
  have e2 : ev d 48 1 [.ref 29, .ref 34, .int (Int32.ofNat 5)] [] (fx μ1) = ev d 48 5 [.ref 29, .ref 34, .int (Int32.ofNat 0)] [] (fx μ2) := by
    rw [e_48_1a, if_pos (by decide), e_48_4a, hw5, hμ2]
    rfl
  obtain ⟨μ3, hμ3⟩ : ∃ μ3 : MM, μ3 = sR (sR (sR (sR (sR μ2 33 0 (gR ν 38 0)) 33 1 (gR ν 38 1)) 33 2 (gR ν 38 2)) 33 3 (gR ν 38 3)) 33 4 (gR ν 38 4) := ⟨_, rfl⟩
  have s2 : shp μ2 = shp ν := by rw [hμ2]; exact b4.trans a8
  have r2 : ∀ k, gR μ2 38 k = gR ν 38 k := fun k => by rw [hμ2, gR_sI, b3 _ _ (by decide)]; exact a7 _ _ (by decide)
  have e3 : ev d 48 5 [.ref 29, .ref 34, .int (Int32.ofNat 0)] [] (fx μ2) = ev d 48 5 [.ref 29, .ref 34, .int (Int32.ofNat 5)] [] (fx μ3) := by
    have st : ∀ (μ : MM) (k : Nat), k < 5 → gR μ 38 k = gR ν 38 k → shp μ = shp ν → ev d 48 5 [.ref 29, .ref 34, .int (Int32.ofNat k)] [] (fx μ) = ev d 48 5 [.ref 29, .ref 34, .int (Int32.ofNat (k + 1))] [] (fx (sR μ 33 k (gR ν 38 k))) := by
      intro μ k hk h1 h2
      rw [step48wa d hk (fun c hc => by rw [fs h2]; exact (hS k hk).2 c (by rw [← h1]; exact hc)), h1]
    have ne : ∀ (μ : MM) (k j : Nat) (v : Option Nat), gR (sR μ 33 k v) 38 j = gR μ 38 j := fun μ k j v => by rw [gR_sR, if_neg (by omega)]
    rw [hμ3]
    have t0 := st μ2 0 (by decide) (r2 _) s2
    have t1 := st (sR μ2 33 0 (gR ν 38 0)) 1 (by decide) (by rw [ne]; exact r2 _) s2
    have t2 := st (sR (sR μ2 33 0 (gR ν 38 0)) 33 1 (gR ν 38 1)) 2 (by decide) (by rw [ne, ne]; exact r2 _) s2
    have t3 := st (sR (sR (sR μ2 33 0 (gR ν 38 0)) 33 1 (gR ν 38 1)) 33 2 (gR ν 38 2)) 3 (by decide) (by rw [ne, ne, ne]; exact r2 _) s2
    have t4 := st (sR (sR (sR (sR μ2 33 0 (gR ν 38 0)) 33 1 (gR ν 38 1)) 33 2 (gR ν 38 2)) 33 3 (gR ν 38 3)) 4 (by decide) (by rw [ne, ne, ne, ne]; exact r2 _) s2
    exact t0.trans (t1.trans (t2.trans (t3.trans t4)))
  have g3 : gI μ3 = gI μ2 ∧ (∀ k, k < 5 → gR μ3 33 k = gR ν 38 k) ∧ (∀ q k, q ≠ 33 → gR μ3 q k = gR μ2 q k) ∧ shp μ3 = shp μ2 ∧ aln μ3 = aln μ2 ∧ msz μ3 = msz μ2 ∧ msl μ3 = msl μ2 := by
    rw [hμ3]
    refine ⟨rfl, fun k hk => ?_, fun q k hq => ?_, rfl, rfl, rfl, rfl⟩
    · rw [gR_sR, gR_sR, gR_sR, gR_sR, gR_sR]
      match k, hk with
      | 0, _ => rw [if_neg (by omega), if_neg (by omega), if_neg (by omega), if_neg (by omega), if_pos ⟨rfl, rfl⟩]
      | 1, _ => rw [if_neg (by omega), if_neg (by omega), if_neg (by omega), if_pos ⟨rfl, rfl⟩]
      | 2, _ => rw [if_neg (by omega), if_neg (by omega), if_pos ⟨rfl, rfl⟩]
      | 3, _ => rw [if_neg (by omega), if_pos ⟨rfl, rfl⟩]
      | 4, _ => rw [if_pos ⟨rfl, rfl⟩]
    · rw [gR_sR, if_neg (by omega), gR_sR, if_neg (by omega), gR_sR, if_neg (by omega), gR_sR, if_neg (by omega), gR_sR, if_neg (by omega)]
  obtain ⟨c1, c2, c3, c4, c5, c6, c7⟩ := g3
  -- the numbers
  obtain ⟨μ4, e4', l5, k4, l4, d1, d2, d3, d4, d5⟩ := num48a d μ3
  have e4 : ev d 48 5 [.ref 29, .ref 34, .int (Int32.ofNat 5)] [] (fx μ3) = some (none, fx μ4) := by
    rw [e_48_5a, if_pos (by decide)]
    exact e4'
  have w3 : ∀ k, gI μ3 34 k = gI ν 34 k := fun k => by rw [c1, hμ2, gI_sI, if_neg (by omega), b1]; exact a1 _ _ (by decide) (by decide)
  have o3 : ∀ q k, q ≠ 29 → q ≠ 30 → gI μ3 q k = gI ν q k := fun q k h1 h2 => by rw [c1, hμ2, gI_sI, if_neg (by omega), b1]; exact a1 _ _ h1 h2
  refine ⟨μ4, e0.trans (e1.trans (e2.trans (e3.trans e4))), fun k hk => ?_, fun i hi => ?_, ?_, fun k hk => ⟨?_, ?_⟩, fun q k h1 h2 => ?_, fun q k h1 h2 h3 => ?_, ?_, ?_, ?_, ?_⟩
  · rcases hk with rfl | rfl | rfl | ⟨h7, h14⟩
    · rw [l4 1 (by decide), c1, hμ2, gI_sI, if_neg (by omega), b1]; exact a3
    · rw [l4 3 (by decide), c1, hμ2, gI_sI, if_neg (by omega), b1]; exact a4
    · rw [l4 5 (by decide), c1, hμ2, gI_sI, if_pos ⟨rfl, rfl⟩]
    · rw [← w3 k]
      exact l5 k h7 h14
  · rw [k4 _ _ (by decide), c1, hμ2, gI_sI, if_neg (by omega), b1]
    exact a2 i hi
  · rw [d1, c3 _ _ (by decide), hμ2, gR_sI, b3 _ _ (by decide), hA]
    exact a6
  · rw [d1, c3 _ _ (by decide), hμ2, gR_sI]
    exact b2 k hk
  · rw [d1]
    exact c2 k hk
  · rw [k4 _ _ h1]
    exact o3 q k h1 h2
  · rw [d1, c3 _ _ h3, hμ2, gR_sI, b3 _ _ h2]
    exact a7 _ _ h1
  · rw [d2, c4, hμ2]; exact b4.trans a8
  · rw [d3, c5, hμ2]; exact b5.trans a9
  · rw [d4, c6, hμ2]; exact b6.trans a10
  · rw [d5, c7, hμ2]; exact b7.trans a11
