/-! begin -/
/-- by which rows it would be surely so -/
def bgP (cs : List Cl) (T H : Nat) (ts : List Int32) (N r : Nat) : Bool := suB (fun t => rch cs t H N (one4 (stD r t))) (fun q => sayT ts T (H + N) (Int32.ofNat q)) T
/-- from the top down: how many, the least -/
theorem l_83 (d : Nat) {n : Nat} (hn : n ≤ 256) {ν : MM} {F : Nat → Bool} (hF : FM ν n F) (v3 : Int32) : ∀ i, i ≤ n → ev (d + 1) 83 11 [.ref 28, .int v3, .int (Int32.ofNat (cnF (fun q => !F q) (n - i) i)), .int (lsF (fun q => !F q) (n - i) i), .int (Int32.ofNat i - 1)] [] (fx ν) = some (some (.int (if v3 = 0 then Int32.ofNat (cnF (fun q => !F q) n 0) else lsF (fun q => !F q) n 0)), fx ν)
  | 0, _ => by
    have e : ev (d + 1) 83 11 [.ref 28, .int v3, .int (Int32.ofNat (cnF (fun q => !F q) (n - 0) 0)), .int (lsF (fun q => !F q) (n - 0) 0), .int (Int32.ofNat 0 - 1)] [] (fx ν) = ev (d + 1) 83 16 [.int v3, .int (Int32.ofNat (cnF (fun q => !F q) (n - 0) 0)), .int (lsF (fun q => !F q) (n - 0) 0)] [] (fx ν) := by
      rw [e_83_11, if_pos (by decide)]
    rw [e, e_83_16, e_83_17, e_83_18, e_83_19, e_83_19, Nat.sub_zero]
    by_cases c : v3 = 0
    · rw [if_pos c, if_pos c]
    · rw [if_neg c, if_neg c]
  | i + 1, hi => by
    have ih := l_83 d hn hF v3 i (by omega)
    rw [show n - i = (n - (i + 1)) + 1 by omega] at ih
    have c1 : cnF (fun q => !F q) (n - (i + 1) + 1) i = cnF (fun q => !F q) (n - (i + 1)) (i + 1) + if (!F i) = true then 1 else 0 := rfl
    have c2 : lsF (fun q => !F q) (n - (i + 1) + 1) i = if (!F i) = true then Int32.ofNat i else lsF (fun q => !F q) (n - (i + 1)) (i + 1) := rfl
    rw [c1, c2, Int32.sub_eq_add_neg] at ih
    rw [O_sub1, e_83_11, if_neg (O_nn i (by omega)), e_83_12, s_92 d hF (by omega) hn, bnd_1, app1]
    refine (e_83_13 ..).trans ?_
    rw [bI_0]
    cases hb : F i with
    | true =>
      rw [hb] at ih
      rw [if_pos rfl, e_83_15]
      exact ih
    | false =>
      rw [hb] at ih
      rw [if_neg (by decide), e_83_14, e_83_15, O_succ]
      exact ih
/-- the model's reach[], isSoThen[] -/
def RM (ν : MM) (T k0 : Nat) (cs : List Cl) (H N : Nat) : Prop := ∀ k, k < k0 → ∀ t, t < T → gI ν 54 (4 * t + k) = rch cs t H N (one4 k)
theorem l_174c (d : Nat) {k : Nat} (hk : k < 4) (v1 v2 : Int32) {ν : MM} : ∃ ν', ev d 174 4 [.ref 46, .int v1, .int v2, .int (Int32.ofNat k)] [] (fx ν) = ev d 174 7 [.ref 46, .int v1, .int v2, .int (Int32.ofNat k)] [] (fx ν') ∧ Fr PS QS ν ν' ∧ gI ν' 50 = gI ν 50 ∧ ∀ j, gI ν' 54 j = if j = 12 + k then gI ν 53 3 else if j = 8 + k then gI ν 53 2 else if j = 4 + k then gI ν 53 1 else if j = k then gI ν 53 0 else gI ν 54 j := by
  have step : ∀ (μ : MM) {t : Nat}, t < 4 → ev d 174 5 [.ref 46, .int v1, .int v2, .int (Int32.ofNat k), .int (Int32.ofNat t)] [] (fx μ) = ev d 174 5 [.ref 46, .int v1, .int v2, .int (Int32.ofNat k), .int (Int32.ofNat (t + 1))] [] (fx (sI μ 54 (4 * t + k) (gI μ 53 t))) := by
    intro μ t ht
    rw [e_174_5, if_neg (ge4 t ht), e_174_6, ix_num t ht k hk, inb_O ht (by omega), inb_O (by omega) (by omega), gd_t, gd_t, tn_O (by omega), tn_O (by omega), O_succ]
  refine ⟨sI (sI (sI (sI ν 54 (4 * 0 + k) (gI ν 53 0)) 54 (4 * 1 + k) (gI ν 53 1)) 54 (4 * 2 + k) (gI ν 53 2)) 54 (4 * 3 + k) (gI ν 53 3), ?_, (Fr.wI _ rfl).tr ((Fr.wI _ rfl).tr ((Fr.wI _ rfl).tr (Fr.wI _ rfl))), rfl, fun j => ?_⟩
  · rw [e_174_4, show (0 : Int32) = Int32.ofNat 0 from rfl, step ν (t := 0) (by decide), step _ (t := 1) (by decide), step _ (t := 2) (by decide), step _ (t := 3) (by decide), e_174_5, if_pos (by decide)]
    rfl
  · rw [gI_sI, gI_sI, gI_sI, gI_sI]
    by_cases x3 : j = 12 + k
    · rw [if_pos (by omega), if_pos x3]
    rw [if_neg (by omega), if_neg x3]
    by_cases x2 : j = 8 + k
    · rw [if_pos (by omega), if_pos x2]
    rw [if_neg (by omega), if_neg x2]
    by_cases x1 : j = 4 + k
    · rw [if_pos (by omega), if_pos x1]
    rw [if_neg (by omega), if_neg x1]
    by_cases x0 : j = k
    · rw [if_pos (by omega), if_pos x0]
    · rw [if_neg (by omega), if_neg x0]
theorem n85 : ∀ k, k < 4 → (85 : Int32) * Int32.ofNat k = Int32.ofNat (85 * k) ∧ 85 * k < 256 ∧ ∀ t, t < 4 → stD (85 * k) t = k := by decide
theorem l_174k (d : Nat) {T H N : Nat} {cs : List Cl} (hN : N ≤ 1000) (v1 : Int32) : ∀ (m k : Nat) (ν : MM), k + m = 4 → MO ν T H cs → RM ν T k cs H N → ∃ ν', ev (d + 5) 174 1 [.ref 46, .int v1, .int (Int32.ofNat N), .int (Int32.ofNat k)] [] (fx ν) = ev (d + 5) 174 8 [.ref 46, .int v1, .int (Int32.ofNat N)] [] (fx ν') ∧ Fr PS QS ν ν' ∧ b01 (gI ν' 50 0) = true ∧ RM ν' T 4 cs H N
  | 0, k, ν, hk, hM, hR => ⟨ν, by rw [show k = 4 by omega, e_174_1, if_pos (by decide)], Fr.rf, hM.2.2.1, by rw [← show k = 4 by omega]; exact hR⟩
  | m + 1, k, ν, hk, hM, hR => by
    have hM' := hM
    obtain ⟨-, hc, hb, hH, hH2, hT, hT4⟩ := hM'
    obtain ⟨n1, n2, n3⟩ := n85 k (by omega)
    obtain ⟨ν1, e1, f1, ⟨b1, k1⟩, g1⟩ := s_166 (d + 3) (ν := ν) n2
    have hM1 := hM.of (f1.rowS rfl) (by rw [b1]; exact hb)
    obtain ⟨ν2, e2, f2, ⟨b2, k2⟩, g2⟩ := s_168 d hN hM1 _ g1
    have hM2 := hM1.of (f2.rowS rfl) b2
    obtain ⟨ν3, e3, f3, b3, g3⟩ := l_174c (d + 5) (show k < 4 by omega) v1 (Int32.ofNat N) (ν := ν2)
    have hM3 := hM2.of (f3.rowS rfl) (by rw [b3]; exact b2)
    obtain ⟨ν4, e4, f4, b4, g4⟩ := l_174k d hN v1 m (k + 1) ν3 (by omega) hM3 (by
      intro k' hk' t ht
      have v : ∀ t, t < T → gI ν2 53 t = rch cs t H N (one4 k) := fun t ht => by rw [g2 t (by omega), if_pos ht, n3 t (by omega)]
      rw [g3]
      by_cases ck : k' = k
      · have h4 : t = 0 ∨ t = 1 ∨ t = 2 ∨ t = 3 := by omega
        rcases h4 with rfl | rfl | rfl | rfl
        · rw [if_neg (by omega), if_neg (by omega), if_neg (by omega), if_pos (by omega), v 0 ht, ck]
        · rw [if_neg (by omega), if_neg (by omega), if_pos (by omega), v 1 ht, ck]
        · rw [if_neg (by omega), if_pos (by omega), v 2 ht, ck]
        · rw [if_pos (by omega), v 3 ht, ck]
      · rw [if_neg (by omega), if_neg (by omega), if_neg (by omega), if_neg (by omega), k2, k1]
        exact hR k' (by omega) t ht)
    refine ⟨ν4, ?_, f1.tr (f2.tr (f3.tr f4)), b4, g4⟩
    rw [e_174_1, if_neg (ge4 k (by omega)), e_174_2, n1, e1, bnd_0, app0]
    refine (e_174_3 ..).trans ?_
    rw [e2, bnd_0, app0, e3, e_174_7, O_succ]
    exact e4
def SM (ν : MM) (n : Nat) (so : Nat → Bool) : Prop := ∀ q, q < n → gI ν 55 q = bI (so q)
theorem l_174s (d : Nat) {T H N y : Nat} {cs : List Cl} {ts : List Int32} (hN : N ≤ 1000) : ∀ (m r : Nat) (ν : MM), r + m = 4 ^ T → MO ν T H cs → MY ν y ts → SM ν r (fun q => sayT ts T (H + N) (Int32.ofNat q)) → ∃ ν', ev (d + 3) 174 9 [.ref 46, .int (Int32.ofNat y), .int (Int32.ofNat N), .int (Int32.ofNat r)] [] (fx ν) = some (none, fx ν') ∧ Fr PS QS ν ν' ∧ b01 (gI ν' 50 0) = true ∧ gI ν' 54 = gI ν 54 ∧ SM ν' (4 ^ T) (fun q => sayT ts T (H + N) (Int32.ofNat q))
  | 0, r, ν, hr, hM, hY, hS => by
    have hM' := hM
    obtain ⟨-, -, hb, -, -, hT, hT4⟩ := hM'
    have h256 := p4_le hT4
    refine ⟨ν, ?_, Fr.rf, hb, rfl, by rw [← show r = 4 ^ T by omega]; exact hS⟩
    rw [e_174_9, s_154 _ hT hT4, bnd_1, app1]
    refine (e_174_10 ..).trans ?_
    rw [if_pos (by rw [O_le (by omega) (by omega)]; omega), e_174_13]
  | m + 1, r, ν, hr, hM, hY, hS => by
    have hM' := hM
    obtain ⟨-, hc, hb, hH, hH2, hT, hT4⟩ := hM'
    have h256 := p4_le hT4
    obtain ⟨ν1, e1, f1, hM1, hY1⟩ := say_m d hM hY (Int32.ofNat r) (h := H + N) (by omega)
    have r55 := f1.rowl (q := 55) rfl rfl rfl
    have r54 := f1.rowl (q := 54) rfl rfl rfl
    have f2 : Fr PS QS ν1 (sI ν1 55 r (bI (sayT ts T (H + N) (Int32.ofNat r)))) := Fr.wI _ rfl
    have r47 := f2.rowS (q := 47) rfl
    obtain ⟨ν', e, f, b, k, g⟩ := l_174s d hN m (r + 1) (sI ν1 55 r (bI (sayT ts T (H + N) (Int32.ofNat r)))) (by omega) (hM1.of r47 hM1.2.2.1) (hY1.of r47) (by
      intro q hq
      rw [gI_sI]
      by_cases cq : q = r
      · rw [if_pos ⟨rfl, cq⟩, cq]
      · rw [if_neg (fun h => cq h.2), r55]
        exact hS q (by omega))
    refine ⟨ν', ?_, f1.s.tr (f2.tr f), b, k.trans r54, g⟩
    rw [e_174_9, s_154 _ hT hT4, bnd_1, app1]
    refine (e_174_10 ..).trans ?_
    rw [if_neg (by rw [O_le (by omega) (by omega)]; omega), e_174_11, hH, O_add, e1, bnd_1, app1]
    refine (e_174_12 ..).trans ?_
    rw [inb_O (by omega) (by omega), b01_bI, Bool.and_self, gd_t, tn_O (by omega), O_succ]
    exact e
theorem s_174 (d : Nat) {T H N y : Nat} {cs : List Cl} {ts : List Int32} (hN : N ≤ 1000) {ν : MM} (hM : MO ν T H cs) (hY : MY ν y ts) : ∃ ν', ev (d + 5) 174 0 [.ref 46, .int (Int32.ofNat y), .int (Int32.ofNat N)] [] (fx ν) = some (none, fx ν') ∧ Fr PS QS ν ν' ∧ b01 (gI ν' 50 0) = true ∧ RM ν' T 4 cs H N ∧ SM ν' (4 ^ T) (fun q => sayT ts T (H + N) (Int32.ofNat q)) := by
  obtain ⟨ν1, e1, f1, b1, g1⟩ := l_174k d hN (Int32.ofNat y) 4 0 ν rfl hM (fun k hk => absurd hk (by omega))
  have r1 := f1.rowS (q := 47) rfl
  obtain ⟨ν2, e2, f2, b2, k2, g2⟩ := l_174s (d + 2) hN (4 ^ T) 0 ν1 (by omega) (hM.of r1 b1) (hY.of r1) (fun q hq => absurd hq (by omega))
  refine ⟨ν2, ?_, f1.tr f2, b2, fun k hk t ht => by rw [k2]; exact g1 k hk t ht, g2⟩
  rw [e_174_0]
  refine Eq.trans e1 ?_
  rw [e_174_8]
  exact e2
/-- reachesTruth: one row's things -/
theorem l_175i (d : Nat) {ν : MM} {T H N r q : Nat} {cs : List Cl} (hT : gI ν 47 0 = Int32.ofNat T) (hT4 : T ≤ 4) (hR : RM ν T 4 cs H N) (hr : r < 256) (hq : q < 256) (b0 : Bool) : ∀ (k t : Nat), t + k = T → ev (d + 1) 175 7 [.ref 46, .int (Int32.ofNat r), .int (Int32.ofNat q), .int (bI (b0 && canB (fun t => rch cs t H N (one4 (stD r t))) q t)), .int (Int32.ofNat t)] [] (fx ν) = ev (d + 1) 175 15 [.ref 46, .int (Int32.ofNat r), .int (Int32.ofNat q), .int (bI (b0 && canB (fun t => rch cs t H N (one4 (stD r t))) q T))] [] (fx ν)
  | 0, t, h => by
    rw [e_175_7, hT, if_pos (by rw [O_le (by omega) (by omega)]; omega), show t = T by omega]
  | k + 1, t, h => by
    have ih := l_175i d hT hT4 hR hr hq b0 k (t + 1) (by omega)
    have st : canB (fun t => rch cs t H N (one4 (stD r t))) q (t + 1) = (canB (fun t => rch cs t H N (one4 (stD r t))) q t && gb (rch cs t H N (one4 (stD r t))) (stD q t)) := rfl
    have hd := stD_lt r t
    have hd2 := stD_lt q t
    rw [st] at ih
    rw [e_175_7, hT, if_neg (by rw [O_le (by omega) (by omega)]; omega), e_175_8, bI_0]
    cases hc : (b0 && canB (fun t => rch cs t H N (one4 (stD r t))) q t) with
    | false =>
      have hall : ∀ T', t ≤ T' → (b0 && canB (fun t => rch cs t H N (one4 (stD r t))) q T') = false := by
        intro T' hle
        induction hle with
        | refl => exact hc
        | step _ ihh =>
          rw [show ∀ n, canB (fun t => rch cs t H N (one4 (stD r t))) q (n + 1) = (canB (fun t => rch cs t H N (one4 (stD r t))) q n && gb (rch cs n H N (one4 (stD r n))) (stD q n)) from fun _ => rfl, ← Bool.and_assoc, ihh]
          rfl
      rw [if_neg (by decide), hall T (by omega)]
    | true =>
      rw [← Bool.and_assoc, hc, Bool.true_and] at ih
      rw [if_pos rfl, e_175_9, s_136, bnd_1, app1, stI_n r hr t (by omega)]
      refine (e_175_10 ..).trans ?_
      rw [ix_num t (by omega) _ hd, inb_O (by omega) (by omega), gd_t, s_136, bnd_1, app1, stI_n q hq t (by omega), tn_O (by omega), hR _ hd t (by omega)]
      refine (e_175_11 ..).trans ?_
      rw [e_175_12, e_175_13, e_175_14, e_175_14, O_succ]
      have hb := bit_at (rch cs t H N (one4 (stD r t))) (s := stD q t) (by omega)
      cases hg : gb (rch cs t H N (one4 (stD r t))) (stD q t) with
      | true =>
        rw [hg] at ih
        rw [if_pos (by rw [hb]; exact hg)]
        exact ih
      | false =>
        rw [hg] at ih
        rw [if_neg (by rw [hb, hg]; decide)]
        exact ih
theorem l_175 (d : Nat) {ν : MM} {T H N r : Nat} {cs : List Cl} {so : Nat → Bool} (hT : gI ν 47 0 = Int32.ofNat T) (hT4 : T ≤ 4) (hR : RM ν T 4 cs H N) (hS : SM ν (4 ^ T) so) (hr : r < 256) : ∀ (m q : Nat), q + m = 4 ^ T → ev (d + 2) 175 1 [.ref 46, .int (Int32.ofNat r), .int (Int32.ofNat q)] [] (fx ν) = some (some (.int (bI (alF (suP (fun t => rch cs t H N (one4 (stD r t))) so T) m q))), fx ν)
  | 0, q, h => by
    have h256 := p4_le hT4
    rw [e_175_1, s_154 _ hT hT4, bnd_1, app1]
    refine (e_175_2 ..).trans ?_
    rw [if_pos (by rw [O_le (by omega) (by omega)]; omega), e_175_18]
    rfl
  | m + 1, q, h => by
    have h256 := p4_le hT4
    have ih := l_175 d hT hT4 hR hS hr m (q + 1) (by omega)
    have al : alF (suP (fun t => rch cs t H N (one4 (stD r t))) so T) (m + 1) q = (suP (fun t => rch cs t H N (one4 (stD r t))) so T q && alF (suP (fun t => rch cs t H N (one4 (stD r t))) so T) m (q + 1)) := rfl
    have sp : suP (fun t => rch cs t H N (one4 (stD r t))) so T q = !(canB (fun t => rch cs t H N (one4 (stD r t))) q T && !so q) := rfl
    have run : ev (d + 2) 175 1 [.ref 46, .int (Int32.ofNat r), .int (Int32.ofNat q)] [] (fx ν) = if (!so q && canB (fun t => rch cs t H N (one4 (stD r t))) q T) = true then some (some (.int 0), fx ν) else ev (d + 2) 175 1 [.ref 46, .int (Int32.ofNat r), .int (Int32.ofNat (q + 1))] [] (fx ν) := by
      have i := l_175i (d + 1) hT hT4 hR hr (show q < 256 by omega) (!so q) T 0 (by omega)
      rw [e_175_1, s_154 _ hT hT4, bnd_1, app1]
      refine (e_175_2 ..).trans ?_
      rw [if_neg (by rw [O_le (by omega) (by omega)]; omega), e_175_3, inb_O (by omega) (by omega), gd_t, tn_O (by omega), hS q (by omega), bI_0, e_175_4, e_175_5, e_175_6, e_175_6]
      have j : ev (d + 2) 175 15 [.ref 46, .int (Int32.ofNat r), .int (Int32.ofNat q), .int (bI (!so q && canB (fun t => rch cs t H N (one4 (stD r t))) q T))] [] (fx ν) = if (!so q && canB (fun t => rch cs t H N (one4 (stD r t))) q T) = true then some (some (.int 0), fx ν) else ev (d + 2) 175 1 [.ref 46, .int (Int32.ofNat r), .int (Int32.ofNat (q + 1))] [] (fx ν) := by
        rw [e_175_15, bI_0, e_175_16, e_175_17, O_succ]
      rw [← j, ← i]
      cases so q <;> rfl
    rw [run, al, sp, Bool.and_comm (canB _ q T)]
    cases (!so q && canB (fun t => rch cs t H N (one4 (stD r t))) q T) with
    | true => rfl
    | false => rw [if_neg (by decide), Bool.not_false, Bool.true_and]; exact ih
theorem l_173 (d : Nat) {ν : MM} {T H N : Nat} {cs : List Cl} {so : Nat → Bool} (hT : gI ν 47 0 = Int32.ofNat T) (hT4 : T ≤ 4) (hR : RM ν T 4 cs H N) (hS : SM ν (4 ^ T) so) (v3 : Int32) : ∀ (m r n : Nat) (fi : Int32), r + m = 4 ^ T → n ≤ r → ev (d + 3) 173 10 [.ref 46, .int v3, .int (Int32.ofNat n), .int fi, .int (Int32.ofNat r)] [] (fx ν) = some (some (.int (if v3 = 0 then Int32.ofNat (n + cnF (fun r => suB (fun t => rch cs t H N (one4 (stD r t))) so T) m r) else if n = 0 then (if cnF (fun r => suB (fun t => rch cs t H N (one4 (stD r t))) so T) m r = 0 then fi else lsF (fun r => suB (fun t => rch cs t H N (one4 (stD r t))) so T) m r) else fi)), fx ν)
  | 0, r, n, fi, h, hn => by
    have h256 := p4_le hT4
    rw [e_173_10, s_154 _ hT hT4, bnd_1, app1]
    refine (e_173_11 ..).trans ?_
    rw [if_pos (by rw [O_le (by omega) (by omega)]; omega), e_173_19, e_173_20, e_173_21, e_173_22, e_173_22]
    have c0 : cnF (fun r => suB (fun t => rch cs t H N (one4 (stD r t))) so T) 0 r = 0 := rfl
    rw [c0, if_pos rfl, Nat.add_zero]
    by_cases c : v3 = 0
    · rw [if_pos c, if_pos c]
    · rw [if_neg c, if_neg c]
      split <;> rfl
  | m + 1, r, n, fi, h, hn => by
    have h256 := p4_le hT4
    have c1 : cnF (fun r => suB (fun t => rch cs t H N (one4 (stD r t))) so T) (m + 1) r = cnF (fun r => suB (fun t => rch cs t H N (one4 (stD r t))) so T) m (r + 1) + if suB (fun t => rch cs t H N (one4 (stD r t))) so T = true then 1 else 0 := rfl
    have c2 : lsF (fun r => suB (fun t => rch cs t H N (one4 (stD r t))) so T) (m + 1) r = if suB (fun t => rch cs t H N (one4 (stD r t))) so T = true then Int32.ofNat r else lsF (fun r => suB (fun t => rch cs t H N (one4 (stD r t))) so T) m (r + 1) := rfl
    have e175 := l_175 d hT hT4 hR hS (show r < 256 by omega) (4 ^ T) 0 (by omega)
    have run : ev (d + 3) 173 10 [.ref 46, .int v3, .int (Int32.ofNat n), .int fi, .int (Int32.ofNat r)] [] (fx ν) = if suB (fun t => rch cs t H N (one4 (stD r t))) so T = true then ev (d + 3) 173 14 [.ref 46, .int v3, .int (Int32.ofNat n), .int fi, .int (Int32.ofNat r)] [] (fx ν) else ev (d + 3) 173 18 [.ref 46, .int v3, .int (Int32.ofNat n), .int fi, .int (Int32.ofNat r)] [] (fx ν) := by
      rw [e_173_10, s_154 _ hT hT4, bnd_1, app1]
      refine (e_173_11 ..).trans ?_
      rw [if_neg (by rw [O_le (by omega) (by omega)]; omega), e_173_12, e_175_0]
      refine Eq.trans (congrArg (fun z => bnd 1 z _) e175) ?_
      rw [bnd_1, app1]
      refine (e_173_13 ..).trans ?_
      rw [bI_0]
      rfl
    rw [run, c1, c2]
    have ez : (Int32.ofNat n = 0) = (n = 0) := O_eq (b := 0) (by omega) (by decide)
    cases hs : suB (fun t => rch cs t H N (one4 (stD r t))) so T with
    | false =>
      have ih := l_173 d hT hT4 hR hS v3 m (r + 1) n fi (by omega) (by omega)
      rw [if_neg (by decide), if_neg (show ¬ false = true by decide), if_neg (show ¬ false = true by decide), e_173_18, O_succ, ih]
      rfl
    | true =>
      rw [if_pos rfl, if_pos rfl, if_pos rfl, e_173_14]
      by_cases c0 : n = 0
      · have ih := l_173 d hT hT4 hR hS v3 m (r + 1) (n + 1) (Int32.ofNat r) (by omega) (by omega)
        generalize cnF (fun r => suB (fun t => rch cs t H N (one4 (stD r t))) so T) m (r + 1) = cn at ih ⊢
        rw [if_neg (show ¬ n + 1 = 0 by omega)] at ih
        rw [if_pos (by rw [ez]; exact c0), e_173_15, e_173_17, O_succ, e_173_18, O_succ, ih, if_pos c0, if_neg (show ¬ cn + 1 = 0 by omega), show n + 1 + cn = n + (cn + 1) by omega]
      · have ih := l_173 d hT hT4 hR hS v3 m (r + 1) (n + 1) fi (by omega) (by omega)
        generalize cnF (fun r => suB (fun t => rch cs t H N (one4 (stD r t))) so T) m (r + 1) = cn at ih ⊢
        rw [if_neg (show ¬ n + 1 = 0 by omega)] at ih
        rw [if_neg (by rw [ez]; exact c0), e_173_16, e_173_17, O_succ, e_173_18, O_succ, ih, if_neg c0, show n + 1 + cn = n + (cn + 1) by omega]
theorem lsF_0 (p : Nat → Bool) : ∀ m r, cnF p m r = 0 → lsF p m r = -5
  | 0, _, _ => rfl
  | m + 1, r, h => by
    have h : cnF p m (r + 1) + (if p r = true then 1 else 0) = 0 := h
    show (if p r = true then Int32.ofNat r else lsF p m (r + 1)) = -5
    by_cases c : p r = true
    · rw [if_pos c] at h
      omega
    · rw [if_neg c] at h ⊢
      exact lsF_0 p m (r + 1) (by omega)
theorem cnF_congr {p q : Nat → Bool} {n : Nat} (h : ∀ i, i < n → p i = q i) : ∀ m r, r + m ≤ n → cnF p m r = cnF q m r ∧ lsF p m r = lsF q m r
  | 0, _, _ => ⟨rfl, rfl⟩
  | m + 1, r, hr => by
    obtain ⟨a, b⟩ := cnF_congr h m (r + 1) (by omega)
    refine ⟨?_, ?_⟩
    · show cnF p m (r + 1) + (if p r = true then 1 else 0) = cnF q m (r + 1) + (if q r = true then 1 else 0)
      rw [a, h r (by omega)]
    · show (if p r = true then Int32.ofNat r else lsF p m (r + 1)) = (if q r = true then Int32.ofNat r else lsF q m (r + 1))
      rw [b, h r (by omega)]
theorem q_begin (d : Nat) {ν : MM} {A T st H W S : Nat} {ht hs : Int32} {cs : List Cl} (hQ : QX ν A T st H W S ht hs cs) (v1 v2 v3 : Int32) : QI (fun μ => ev (d + 6) 83 0 [.ref 28, .int v1, .int v2, .int v3] [] (fx μ)) (fun μ => ev (d + 6) 173 0 [.ref 46, .int v1, .int v2, .int v3] [] (fx μ)) ν := by
  obtain ⟨r50, r51, -⟩ := qR (d + 5) hQ
  have hb := hQ.2.1.2.2.1
  have cs0 : ev (d + 6) 83 0 [.ref 28, .int v1, .int v2, .int v3] [] (fx ν) = asN (rv (if okN S v1 = true then gR ν 32 v1.toNatClampNeg else none)) (some (some (.int (-1)), fx ν)) fun a => asN (rv (if okN W v2 = true then gR ν 33 v2.toNatClampNeg else none)) (some (some (.int (-1)), fx ν)) fun b => if rg 0 1 v3 = true then ev (d + 6) 83 7 [.ref 28, .int v3, .ref a, .ref b] [] (fx ν) else some (some (.int (-1)), fx ν) := by
    rw [e_83_0, r50, bnd_3, app1]
    refine (e_83_1 ..).trans ?_
    generalize (if okN S v1 = true then gR ν 32 v1.toNatClampNeg else none) = o1
    cases o1 with
    | none =>
      rw [asN_n, asN_n, r51, bnd_3, app1]
      refine (e_83_2 ..).trans ?_
      rw [asN_c, e_83_6]
    | some a =>
      rw [asN_s, asN_s, r51, bnd_3, app1]
      refine (e_83_2a ..).trans ?_
      generalize (if okN W v2 = true then gR ν 33 v2.toNatClampNeg else none) = o2
      cases o2 with
      | none => rw [asN_n, asN_n, e_83_3, e_83_6]
      | some b =>
        rw [asN_s, asN_s, e_83_3a, e_83_4, e_83_5, e_83_6]
        unfold rg
        by_cases x1 : v3 < 0
        · rw [if_pos x1, decide_eq_true x1]; rfl
        · rw [if_neg x1, decide_eq_false x1]
          by_cases x2 : v3 ≤ 1
          · rw [if_pos x2, decide_eq_false (Int32.not_lt.mpr x2)]; rfl
          · rw [if_neg x2, decide_eq_true (Int32.not_le.mp x2)]; rfl
  have md0 : ∀ {μ : MM}, QX μ A T st H W S ht hs cs → ev (d + 6) 173 0 [.ref 46, .int v1, .int v2, .int v3] [] (fx μ) = if ((okN S v1 && okN W v2) && rg 0 1 v3) = true then ev (d + 6) 173 7 [.ref 46, .int v1, .int v2, .int v3] [] (fx μ) else some (some (.int (-1)), fx μ) := by
    intro μ hQ
    obtain ⟨-, -, r116, r115, -⟩ := qR (d + 4) hQ
    rw [e_173_0, r116, bnd_1, app1]
    refine (e_173_1 ..).trans ?_
    rw [bI_0, e_173_2, r115, bnd_1, app1, e_173_6]
    by_cases c1 : okN S v1 = true
    · rw [if_pos c1, c1, Bool.true_and]
      refine (e_173_3 ..).trans ?_
      rw [bI_0, e_173_6, e_173_4, s_113r, bnd_1, app1]
      by_cases c2 : okN W v2 = true
      · rw [if_pos c2, c2, Bool.true_and]
        refine (e_173_5 ..).trans ?_
        rw [bI_0, e_173_6]
      · rw [if_neg c2, Bool.eq_false_iff.mpr c2]
        rfl
    · rw [if_neg c1, Bool.eq_false_iff.mpr c1]
      rfl
  by_cases c1 : okN S v1 = true
  case neg =>
    rw [if_neg c1, asN_n] at cs0
    exact ⟨_, ν, ν, cs0, (md0 hQ).trans (by rw [Bool.eq_false_iff.mpr c1]; rfl), Fr.rf, Fr.rf, hb⟩
  obtain ⟨y, cc, ts, ey, g1, hC, hY⟩ := hQ.2.2.2.2.2.at c1
  by_cases c2 : okN W v2 = true
  case neg =>
    rw [if_pos c1, if_neg c2, g1, asN_s, asN_n] at cs0
    exact ⟨_, ν, ν, cs0, (md0 hQ).trans (by rw [Bool.eq_false_iff.mpr c2, Bool.and_false]; rfl), Fr.rf, Fr.rf, hb⟩
  obtain ⟨j, r', k', v', h', co', si', ej, hjW, hj, g2', -⟩ := hQ.2.2.2.2.1.at c2
  obtain ⟨r, k, v, h, co, si, h5, g2, hR, hm, -, eN, -⟩ := hQ.2.2.2.2.1.num hjW
  have g2 : gR ν 33 v2.toNatClampNeg = some r := by rw [ej, tn_O (by omega)]; exact g2
  rw [if_pos c1, if_pos c2, g1, g2, asN_s, asN_s] at cs0
  by_cases c3 : rg 0 1 v3 = true
  case neg =>
    rw [if_neg c3] at cs0
    exact ⟨_, ν, ν, cs0, (md0 hQ).trans (by rw [Bool.eq_false_iff.mpr c3, Bool.and_false]; rfl), Fr.rf, Fr.rf, hb⟩
  rw [if_pos c3] at cs0
  have hO := hQ.1
  obtain ⟨-, -, hc, hT, hT4, hS, hs4, hH, hH2, -⟩ := hQ.1
  have h256 := p4_le hT4
  have hNl := NJ_le hQ.2.2.2.2.1 hjW H
  obtain ⟨ν1, e1, f1, b1, F1⟩ := s_90 d (N := NJ (gI ν 47) H j) (cl := (3, 0, ts)) (by omega) hY.2.2 hO hC
  have hb1 : b01 (gI ν1 50 0) = true := by rw [b1]; exact hb
  have hQ1 := hQ.fr f1 hb1
  have r47 := f1.rowS (q := 47) rfl
  have tk1 := tkQ (d + 4) hQ1 hjW
  rw [r47] at tk1
  obtain ⟨ν2, e2, f2, b2, R2, S2⟩ := s_174 d (N := NJ (gI ν 47) H j) (by omega) hQ1.2.1 (hY.of r47)
  have r47' := f2.rowS (q := 47) rfl
  have hT2 : gI ν2 47 0 = Int32.ofNat T := by rw [r47']; exact hQ1.2.1.2.2.2.2.2.1
  have hT1 : gI ν1 29 8 = Int32.ofNat T := by rw [f1.rowS (q := 29) rfl]; exact hT
  have L1 := l_83 (d + 5) h256 F1 v3 (4 ^ T) (Nat.le_refl _)
  have L2 := l_173 (d + 3) hT2 hT4 R2 S2 v3 (4 ^ T) 0 0 (-5) (by omega) (Nat.le_refl _)
  have cg := cnF_congr (p := fun q => !FB (fun t i => rch cs t H (NJ (gI ν 47) H j) (one4 i)) (fun q => !sayT ts T (H + NJ (gI ν 47) H j) (Int32.ofNat q)) T q) (q := fun r => suB (fun t => rch cs t H (NJ (gI ν 47) H j) (one4 (stD r t))) (fun q => sayT ts T (H + NJ (gI ν 47) H j) (Int32.ofNat q)) T) (n := 4 ^ T) (fun i hi => by
    have := FB_suB (fun t i => rch cs t H (NJ (gI ν 47) H j) (one4 i)) (fun q => sayT ts T (H + NJ (gI ν 47) H j) (Int32.ofNat q)) hT4 hi
    rw [this, Bool.not_not]) (4 ^ T) 0 (by omega)
  have L1 : ev (d + 6) 83 11 [.ref 28, .int v3, .int 0, .int (-5), .int (Int32.ofNat (4 ^ T) - 1)] [] (fx ν1) = some (some (.int (if v3 = 0 then Int32.ofNat (cnF (fun q => !FB (fun t i => rch cs t H (NJ (gI ν 47) H j) (one4 i)) (fun q => !sayT ts T (H + NJ (gI ν 47) H j) (Int32.ofNat q)) T q) (4 ^ T) 0) else lsF (fun q => !FB (fun t i => rch cs t H (NJ (gI ν 47) H j) (one4 i)) (fun q => !sayT ts T (H + NJ (gI ν 47) H j) (Int32.ofNat q)) T q) (4 ^ T) 0)), fx ν1) := by
    rw [Nat.sub_self] at L1
    exact L1
  rw [cg.1, cg.2] at L1
  refine ⟨if v3 = 0 then Int32.ofNat (cnF (fun r => suB (fun t => rch cs t H (NJ (gI ν 47) H j) (one4 (stD r t))) (fun q => sayT ts T (H + NJ (gI ν 47) H j) (Int32.ofNat q)) T) (4 ^ T) 0) else lsF (fun r => suB (fun t => rch cs t H (NJ (gI ν 47) H j) (one4 (stD r t))) (fun q => sayT ts T (H + NJ (gI ν 47) H j) (Int32.ofNat q)) T) (4 ^ T) 0, ν1, ν2, cs0.trans ?_, (md0 hQ1).trans ?_, f1, f2, b2⟩
  · rw [e_83_7]
    refine (hf_any (d + 4) hR hH (by omega) _).trans ?_
    rw [eN]
    refine (e_83_8 ..).trans ?_
    refine Eq.trans (congrArg (fun z => bnd 0 z _) e1) ?_
    rw [bnd_0, app0]
    refine (e_83_9 ..).trans ?_
    rw [s_53 _ hT1 hT4, bnd_1, app1]
    refine (e_83_10 ..).trans ?_
    exact L1
  · rw [c1, c2, c3, if_pos (show ((true && true) && true) = true from rfl), e_173_7, ej, tk1, bnd_1, app1]
    refine (e_173_8 ..).trans ?_
    rw [ey]
    refine Eq.trans (congrArg (fun z => bnd 0 z _) e2) ?_
    rw [bnd_0, app0]
    refine (e_173_9 ..).trans ?_
    refine Eq.trans L2 ?_
    rw [Nat.zero_add, if_pos rfl]
    by_cases c : v3 = 0
    · rw [if_pos c, if_pos c]
    · rw [if_neg c, if_neg c]
      by_cases c0 : cnF (fun r => suB (fun t => rch cs t H (NJ (gI ν 47) H j) (one4 (stD r t))) (fun q => sayT ts T (H + NJ (gI ν 47) H j) (Int32.ofNat q)) T) (4 ^ T) 0 = 0
      · rw [if_pos c0, lsF_0 _ _ _ c0]
      · rw [if_neg c0]
