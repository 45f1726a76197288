/-! the class's reader: a new CLAUSE -/
theorem nw_of {ν M : MM} {m s : Nat} (hz : msz M = msz ν + m) (hl : msl M = msl ν + s) (h5 : ∀ q, q < msz ν + 57 → (shp M q = shp ν q ∧ aln M q = aln ν q) ∧ gI M q = gI ν q ∧ gR M q = gR ν q) (hf : ∀ q, msz M + 57 ≤ q → shp M q = shp ν q) : Nw ν M m s := by
  have lo : ∀ q, q < 57 → gI M q = gI ν q ∧ gR M q = gR ν q := fun q hq => (h5 q (by omega)).2
  have gr : Gr ν M := by
    refine ⟨by rw [hz]; exact Nat.le_add_right _ _, fun q hq => ⟨?_, ?_, fun hq2 => ⟨(h5 q hq).2.1, ?_⟩⟩⟩
    · show nxt _ (shp M q) = nxt _ (shp ν q)
      rw [(h5 q hq).1.1]
    · show nxt _ (aln M q) = nxt _ (aln ν q)
      rw [(h5 q hq).1.2]
    · funext k
      rw [gR_fx _ _ hq2, gR_fx _ _ hq2, (h5 q hq).2.2]
  refine ⟨⟨gr, fun hF q hq => ?_, fun q hq => (lo q ?_).1, ⟨by rw [(lo 46 (by decide)).1], by rw [(lo 46 (by decide)).1]⟩, by rw [(lo 34 (by decide)).2], fun k => ⟨by rw [(lo 37 (by decide)).2], by rw [(lo 38 (by decide)).2]⟩, fun hF g => g.gr gr hF (fun k _ => by rw [(lo 32 (by decide)).2]) (fun k _ => by rw [(lo 33 (by decide)).2]), fun g i hi => by rw [(lo 30 (by decide)).1]; exact g i hi⟩, lo, hz, hl⟩
  · rw [hf q hq]
    exact hF q (by omega)
  · unfold kpq at hq
    by_cases c : q < 57
    · exact c
    · exfalso
      rw [beq_n (show q ≠ 28 by omega), beq_n (show q ≠ 34 by omega), beq_n (show q ≠ 35 by omega), beq_n (show q ≠ 42 by omega), beq_n (show q ≠ 43 by omega), beq_n (show q ≠ 48 by omega), beq_n (show q ≠ 56 by omega)] at hq
      have : Nat.blt q 27 = false := by
        cases e : Nat.blt q 27 with
        | false => rfl
        | true => exact absurd (Nat.blt_eq.mp e) (by omega)
      rw [this] at hq
      cases hq
theorem fx_cpI (μ : MM) (a sp dd dp n : Nat) : cpI (fx μ) a sp dd dp n = fx (cpI μ a sp dd dp n) := rfl
theorem and_t {a b : Bool} (ha : a = true) (hb : b = true) : (a && b) = true := by rw [ha, hb]; rfl
theorem or_t {a b : Bool} (ha : a = true) : (a || b) = true := by rw [ha]; rfl
theorem n0_t {i : Nat} (h : i ≤ 1000000) : (!decide (Int32.ofNat i < 0)) = true := by
  have h1 : ¬ Int32.ofNat i < 0 := by
    show ¬ Int32.ofNat i < Int32.ofNat 0
    rw [O_lt (by omega) (by omega)]; omega
  rw [decide_eq_false h1]
  rfl
theorem s41 (μ : MM) : shp (fx μ) 41 = 20 := rfl
theorem s_207 (d : Nat) {μ : MM} {L : Nat} (hL : L < 100) : ev d 207 0 [.ref 41, .int (Int32.ofNat L)] [] (fx μ) = some (some (.ref (msz μ + 57)), fx (cpI (alx μ 20 L L) 41 0 (msz μ + 57) 0 L)) := by
  have n1 : ¬ Int32.ofNat L = 100 := by
    show ¬ Int32.ofNat L = Int32.ofNat 100
    rw [O_eq (by omega) (by omega)]; omega
  have n2 : Int32.ofNat L < 100 := by
    show Int32.ofNat L < Int32.ofNat 100
    rw [O_lt (by omega) (by omega)]; omega
  have mz : msz (fx μ) = msz μ + 57 := rfl
  have sN : shp (fx (alx μ 20 L L)) (msz μ + 57) = 20 := by rw [shp_fx _ (by omega), shp_alx, if_pos rfl]
  have aN : aln (fx (alx μ 20 L L)) (msz μ + 57) = L := by rw [aln_fx _ (by omega), aln_alx, if_pos rfl]
  have b1 : Nat.ble L 100000 = true := Nat.ble_eq.mpr (by omega)
  have b2 : Nat.ble (0 + L) 100 = true := Nat.ble_eq.mpr (by omega)
  have b3 : Nat.ble (0 + L) L = true := Nat.ble_eq.mpr (by omega)
  have z0 : (!decide ((0 : Int32) < 0)) = true := by decide
  rw [e_207_0, if_neg n1, e_207_2, if_pos n2, tn_O (by omega), fx_alc, mz, s41, sN, aN]
  refine (congrArg (fun z => gd z _) (and_t (n0_t (by omega)) b1)).trans ?_
  refine (congrArg (fun z => gd z _) (and_t (and_t (and_t (and_t (and_t (or_t (show (cin [20] 20 && cin [20] 20) = true from rfl)) z0) z0) (n0_t (by omega))) b2) b3)).trans ?_
  rw [fx_cpI]
  rfl
theorem s_21 (d : Nat) {ν : MM} {p : Nat} {ts : List Int32} (r : Rd ν p ts) (hL : ts.length < 100) (hk : ∀ t ∈ ts, okK t) (hh : hg ts 0 = some 1) (v1 v2 : Int32) : ∃ M, ev (d + 1) 21 0 [.ref 39, .int v1, .int v2] [] (fx ν) = some (some (.ref (msz ν + 57)), fx M) ∧ Nw ν M 2 (3 + ts.length) ∧ ClA M (msz ν + 57) (v1, v2, ts) := by
  obtain ⟨r1, r2, r3, r4⟩ := r
  obtain ⟨c, hc⟩ : ∃ c, c = msz ν + 57 := ⟨_, rfl⟩
  obtain ⟨ν1, hν1⟩ : ∃ ν1, ν1 = alx ν 3 0 3 := ⟨_, rfl⟩
  obtain ⟨ν2, hν2⟩ : ∃ ν2, ν2 = cpI (alx ν1 20 ts.length ts.length) 41 0 (msz ν1 + 57) 0 ts.length := ⟨_, rfl⟩
  have z1 : msz ν1 = msz ν + 1 := by rw [hν1]; rfl
  have mz : msz (fx ν) = c := hc.symm
  have i1 : gI (fx ν1) 39 3 = Int32.ofNat ts.length := by
    show gI ν1 39 3 = _
    rw [hν1, gI_alx, if_neg (by omega)]
    exact r2
  have mx : (if 0 < Int32.ofNat ts.length then Int32.ofNat ts.length else 0) = Int32.ofNat ts.length := by
    by_cases h0 : 0 < Int32.ofNat ts.length
    · rw [if_pos h0]
    · have h0' : ¬ Int32.ofNat 0 < Int32.ofNat ts.length := h0
      rw [O_lt (by omega) (by omega)] at h0'
      have : ts.length = 0 := by omega
      rw [if_neg h0, this]
      rfl
  have i2 : ∀ q k, gI ν2 q k = if q = msz ν1 + 57 ∧ 0 ≤ k ∧ k < 0 + ts.length then gI (alx ν1 20 ts.length ts.length) 41 (0 + (k - 0)) else gI (alx ν1 20 ts.length ts.length) q k := fun q k => by rw [hν2]; exact gI_cpI _ _ _ _ _ _ _ _
  have s2 : ∀ q, shp ν2 q = if q = msz ν1 + 57 then 20 else shp ν1 q := fun q => by rw [hν2]; exact shp_alx ν1 20 ts.length ts.length q
  have a2 : ∀ q, aln ν2 q = if q = msz ν1 + 57 then ts.length else aln ν1 q := fun q => by rw [hν2]; exact aln_alx ν1 20 ts.length ts.length q
  have g2 : ∀ q k, gR ν2 q k = if q = msz ν1 + 57 then none else gR ν1 q k := fun q k => by rw [hν2]; exact gR_alx ν1 20 ts.length ts.length q k
  have s1 : ∀ q, shp ν1 q = if q = c then 3 else shp ν q := fun q => by rw [hν1, hc]; exact shp_alx _ _ _ _ _
  have a1 : ∀ q, aln ν1 q = if q = c then 0 else aln ν q := fun q => by rw [hν1, hc]; exact aln_alx _ _ _ _ _
  have g1 : ∀ q k, gR ν1 q k = if q = c then none else gR ν q k := fun q k => by rw [hν1, hc]; exact gR_alx _ _ _ _ _ _
  have j1 : ∀ q k, gI ν1 q k = if q = c then 0 else gI ν q k := fun q k => by rw [hν1, hc]; exact gI_alx _ _ _ _ _ _
  have hc57 : 57 ≤ c := by omega
  have sc2 : shp (fx ν2) c = 3 := by rw [shp_fx _ hc57, s2, if_neg (by omega), s1, if_pos rfl]
  have sc3 : ∀ k v, shp (fx (sI ν2 c k v)) c = 3 := fun k v => sc2
  have sc4 : ∀ k v k' v', shp (fx (sI (sI ν2 c k v) c k' v')) c = 3 := fun k v k' v' => sc2
  obtain ⟨M, hM⟩ : ∃ M, M = sR (sI (sI ν2 c 0 v1) c 1 v2) c 2 (some (msz ν1 + 57)) := ⟨_, rfl⟩
  have sM : shp M = shp ν2 := by rw [hM]; rfl
  have aM : aln M = aln ν2 := by rw [hM]; rfl
  have iM : ∀ q k, gI M q k = if q = c ∧ k = 1 then v2 else if q = c ∧ k = 0 then v1 else gI ν2 q k := fun q k => by rw [hM, gI_sR, gI_sI, gI_sI]
  have rM : ∀ q k, gR M q k = if q = c ∧ k = 2 then some (msz ν1 + 57) else gR ν2 q k := fun q k => by rw [hM]; exact gR_sR _ _ _ _ _ _
  have zM : msz M = msz ν + 2 := by
    rw [hM, hν2, hν1]
    rfl
  have lM : msl M = msl ν + (3 + ts.length) := by
    have : msl M = msl ν + 3 + ts.length := by
      rw [hM, hν2, hν1]
      rfl
    omega
  refine ⟨M, ?_, nw_of zM lM (fun q hq => ⟨⟨?_, ?_⟩, funext fun k => ?_, funext fun k => ?_⟩) (fun q hq => ?_), ?_⟩
  · rw [e_21_0, fx_alc, ← hν1, i1, mx, s_207 d hL, ← hν2, mz, bnd_3r, app1, e_21_1, sc2, show cin [3] 3 = true from rfl, gd_t, e_10_0, sc2, show cin [3] 3 = true from rfl, gd_t, sc3, show cin [3] 3 = true from rfl, gd_t, sc4, show cin [3] 3 = true from rfl, gd_t, bnd_0, app0, fx_sR _ _ (fxR_hi 2 hc57), ← hM, e_21_2, hc]
  · rw [sM, s2, if_neg (by omega), s1, if_neg (by omega)]
  · rw [aM, a2, if_neg (by omega), a1, if_neg (by omega)]
  · rw [iM, if_neg (by omega), if_neg (by omega), i2, if_neg (by omega), gI_alx, if_neg (by omega), j1, if_neg (by omega)]
  · rw [rM, if_neg (by omega), g2, if_neg (by omega), g1, if_neg (by omega)]
  · rw [sM, s2, if_neg (by omega), s1, if_neg (by omega)]
  · rw [← hc]
    refine ⟨hc57, ?_, ?_, ?_, ⟨by omega, hk⟩, hh, msz ν1 + 57, by omega, ?_, ?_, ?_, fun j hj => ?_⟩
    · show nxt _ (shp M c) = 3
      rw [sM]
      exact sc2
    · rw [iM, if_neg (by omega), if_pos ⟨rfl, rfl⟩]
    · rw [iM, if_pos ⟨rfl, rfl⟩]
    · rw [gR_fx _ _ hc57, rM, if_pos ⟨rfl, rfl⟩]
    · rw [shp_fx _ (by omega), sM, s2, if_pos rfl]
    · rw [aln_fx _ (by omega), aM, a2, if_pos rfl]
    · have hj : j < ts.length := hj
      rw [iM, if_neg (by omega), if_neg (by omega), i2, if_pos ⟨rfl, by omega, by omega⟩, gI_alx, if_neg (by omega), j1, if_neg (by omega), Nat.zero_add, Nat.sub_zero]
      exact r4 j hj
