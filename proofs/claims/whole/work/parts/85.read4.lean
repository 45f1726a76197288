/-! the class's reader: E and F at every depth -/
theorem s_29v (d : Nat) (v : Int32) {ν : MM} {n s p c : Nat} {ch : Nat → Nat} (hv : Int32.ofNat c = v) (g : CxR ν n s ch) {ts : List Int32} (h : Rd ν p ts) (hpn : p ≤ n) (hc : c ≤ 128) : ev (d + 1) 29 0 [.ref 39, .int v] [] (fx ν) = if ch p = c then some (some (.int 1), fx (sI ν 39 5 (Int32.ofNat (p + 1)))) else some (some (.int 0), fx ν) := by
  rw [← hv]
  exact s_29 d g h hpn hc
theorem Cnt.st {E E' : Rs} {K : MM → Rs} {ν μ : MM} {ts : List Int32} {r : PRs} (f : Fr RP QN ν μ) (e : E' = E) (h : Cnt E K μ ts r) : Cnt E' K ν ts r := by
  obtain ⟨ν', h1, h2, h3, h4⟩ := h
  exact ⟨ν', f.tr h1, h2, fun c => ⟨e.trans (h3 c).1, (h3 c).2⟩, fun c => e.trans (h4 c)⟩
theorem s_24c (d : Nat) {n s m e : Nat} {ch : Nat → Nat} {v1 : Int32} {one : Nat → PRs} (ho : OnE n s ch v1 m e one) (he : 0 < e) {k p : Nat} {ts : List Int32} {ν : MM} (hk : k < 100) (g : CxR ν n s ch) (r : Rd ν p ts) (hpn : p ≤ n) (hl : ts.length ≤ p) : Cnt (ev (d + e + 1) 24 2 [.ref 39, .int v1, .int (Int32.ofNat k)] [] (fx ν)) (fun μ => ev (d + e + 1) 24 15 [.ref 39, .int v1, .int (Int32.ofNat k)] [] (fx μ)) ν ts (pEv one ch p) := by
  have hw := ho.2 d ν p ts g r hpn hl
  have gw := ho.1 p hpn
  have e0 : ev (d + e + 1) 24 2 [.ref 39, .int v1, .int (Int32.ofNat k)] [] (fx ν) = bnd 1 (ev (d + e) 25 0 [.ref 39, .int v1] [] (fx ν)) fun rs μ1 => ev (d + e + 1) 24 4 [.ref 39, .int v1, .int (Int32.ofNat k)] (rs ++ []) μ1 := by
    rw [e_24_2, if_neg (lt100 hk), e_24_3]
  rw [e0]
  unfold pEv
  revert hw gw
  obtain ⟨b, q, ws⟩ := one p
  rintro ⟨ν2, f2, w2, w3, w4⟩ gw
  cases b with
  | false =>
    refine Cnt.no f2 w2 ?_
    rw [w4 rfl, bnd_1, app1, e_24_4, if_pos rfl, e_24_5]
  | true =>
    obtain ⟨w5, w6⟩ := w3 rfl
    refine Cnt.st f2 ?_ (s_24a d ho he p ts hl 100 0 q ws ν2 (by omega) (g.fr f2) w6 (gw.mono (Nat.le_succ m)))
    rw [w5]
    show bnd 1 (some (some (.int 1), fx ν2)) _ = _
    rw [bnd_1, app1, e_24_4, if_neg (by decide)]
    exact e_24_6 ..
theorem s_24d (d : Nat) {n s m e : Nat} {ch : Nat → Nat} {v1 : Int32} {one : Nat → PRs} (ho : OnE n s ch v1 m e one) (he : 0 < e) (p0 : Nat) (ts : List Int32) (hl : ts.length ≤ p0) : ∀ (f k p : Nat) (us : List Int32) (ν : MM), k + f = 99 → CxR ν n s ch → Rd ν p (ts ++ us) → Gd n (chS s).length (m + 2) p0 (true, p, us) → Cnt (ev (d + e + 1) 24 17 [.ref 39, .int v1, .int (Int32.ofNat k)] [] (fx ν)) K1 ν ts (pOr one ch f p us) := by
  obtain ⟨e', rfl⟩ : ∃ e', e = e' + 1 := ⟨e - 1, by omega⟩
  intro f
  induction f with
  | zero =>
    intro k p us ν hk g r gd
    have hpn : p ≤ n := gd.1.2
    have h29 := s_29v (d + e') 124 (c := 124) rfl g r hpn (by decide)
    have hk' : k = 99 := by omega
    have e0 : ev (d + (e' + 1) + 1) 24 17 [.ref 39, .int v1, .int (Int32.ofNat k)] [] (fx ν) = bnd 1 (ev (d + e' + 1) 29 0 [.ref 39, .int 124] [] (fx ν)) fun rs μ1 => ev (d + (e' + 1) + 1) 24 18 [.ref 39, .int v1, .int (Int32.ofNat k)] (rs ++ []) μ1 := by
      rw [e_24_17]
      rfl
    rw [e0, h29]
    show Cnt _ K1 ν ts (if ch p = 124 then (true, p + 1, us) else (true, p, us))
    by_cases c : ch p = 124
    · rw [if_pos c, if_pos c]
      obtain ⟨f1, r1⟩ := Fr.rd (p + 1) r
      refine Cnt.yes f1 r1 ?_
      rw [bnd_1, app1, e_24_18, e_24_1, if_neg (by decide), hk', e_24_2, if_pos (by decide), e_24_19]
      rfl
    · rw [if_neg c, if_neg c]
      refine Cnt.yes Fr.rf r ?_
      rw [bnd_1, app1, e_24_18, e_24_1, if_pos rfl, e_24_19]
      rfl
  | succ f ih =>
    intro k p us ν hk g r gd
    have hpn : p ≤ n := gd.1.2
    have a0 : p0 ≤ p := gd.1.1
    have a1 : p0 + us.length + 2 ≤ p := (gd.2 rfl).1
    have h29 := s_29v (d + e') 124 (c := 124) rfl g r hpn (by decide)
    have e0 : ev (d + (e' + 1) + 1) 24 17 [.ref 39, .int v1, .int (Int32.ofNat k)] [] (fx ν) = bnd 1 (ev (d + e' + 1) 29 0 [.ref 39, .int 124] [] (fx ν)) fun rs μ1 => ev (d + (e' + 1) + 1) 24 18 [.ref 39, .int v1, .int (Int32.ofNat k)] (rs ++ []) μ1 := by
      rw [e_24_17]
      rfl
    rw [e0, h29]
    show Cnt _ K1 ν ts (if ch p = 124 then (match pEv one ch (p + 1) with
      | (true, q, ws) => pOr one ch f q (us ++ ws ++ [7])
      | (false, q, _) => (false, q, [])) else (true, p, us))
    by_cases c : ch p = 124
    · rw [if_pos c, if_pos c]
      have hp : p < n := g.1.2.1.lt c (by decide)
      obtain ⟨f1, r1⟩ := Fr.rd (p + 1) r
      have g1 := g.fr f1
      have hw := s_24c d ho (Nat.succ_pos e') (k := k + 1) (by omega) g1 r1 hp (by rw [List.length_append]; omega)
      have gw := pEv_gd g.1.2.1 ho.1 (p + 1) hp
      revert hw gw
      obtain ⟨b, q, ws⟩ := pEv one ch (p + 1)
      rintro ⟨ν2, f2, w2, w3, w4⟩ gw
      have e1 : bnd 1 (some (some (.int 1), fx (sI ν 39 5 (Int32.ofNat (p + 1))))) (fun rs μ1 => ev (d + (e' + 1) + 1) 24 18 [.ref 39, .int v1, .int (Int32.ofNat k)] (rs ++ []) μ1) = ev (d + (e' + 1) + 1) 24 2 [.ref 39, .int v1, .int (Int32.ofNat (k + 1))] [] (fx (sI ν 39 5 (Int32.ofNat (p + 1)))) := by
        rw [bnd_1, app1, e_24_18, e_24_1, if_neg (by decide), O_p1]
      cases b with
      | false =>
        refine Cnt.no (f1.tr f2) w2 ?_
        rw [e1, w4 rfl]
      | true =>
        obtain ⟨w5, w6⟩ := w3 rfl
        have b4 : p + 1 + ws.length + 2 ≤ q := (gw.2 rfl).1
        have b5 : q ≤ n := gw.1.2
        have hn := g.1.2.1.1
        have w6 : Rd ν2 q (ts ++ us ++ ws) := w6
        obtain ⟨ν3, e3, f3, r3⟩ := s_31 (d + (e' + 1)) w6 (by rw [List.length_append, List.length_append]; omega) 7
        have g3 := (g1.fr f2).fr f3
        have gd3 := Gd.or gd gw
        have r3' : Rd ν3 q (ts ++ (us ++ ws ++ [7])) := by
          rw [← List.append_assoc, ← List.append_assoc]
          exact r3
        refine Cnt.st ((f1.tr f2).tr f3) ?_ (ih (k + 1) q (us ++ ws ++ [7]) ν3 (by omega) g3 r3' gd3)
        rw [e1, w5]
        show ev (d + (e' + 1) + 1) 24 15 [.ref 39, .int v1, .int (Int32.ofNat (k + 1))] [] (fx ν2) = _
        have hk1 : ¬ Int32.ofNat (k + 1) ≤ 0 := by
          show ¬ Int32.ofNat (k + 1) ≤ Int32.ofNat 0
          rw [O_le (by omega) (by omega)]; omega
        rw [e_24_15, if_neg hk1, e_24_16, e3, bnd_0, app0]
    · rw [if_neg c, if_neg c]
      refine Cnt.yes Fr.rf r ?_
      rw [bnd_1, app1, e_24_18, e_24_1, if_pos rfl, e_24_19]
      rfl
theorem s_24 (d : Nat) {n s m e : Nat} {ch : Nat → Nat} {v1 : Int32} {one : Nat → PRs} (ho : OnE n s ch v1 m e one) (he : 0 < e) {p : Nat} {ts : List Int32} {ν : MM} (g : CxR ν n s ch) (r : Rd ν p ts) (hpn : p ≤ n) (hl : ts.length ≤ p) : Cnt (ev (d + e + 1) 24 0 [.ref 39, .int v1] [] (fx ν)) K1 ν ts (pAny one ch p) := by
  have hw := s_24c d ho he (k := 0) (by omega) g r hpn hl
  have gw := pEv_gd g.1.2.1 ho.1 p hpn
  have e0 : ev (d + e + 1) 24 0 [.ref 39, .int v1] [] (fx ν) = ev (d + e + 1) 24 2 [.ref 39, .int v1, .int (Int32.ofNat 0)] [] (fx ν) := by
    rw [e_24_0, e_24_1, if_neg (by decide)]
    rfl
  rw [e0]
  unfold pAny
  revert hw gw
  obtain ⟨b, q, ws⟩ := pEv one ch p
  rintro ⟨ν2, f2, w2, w3, w4⟩ gw
  cases b with
  | false => exact Cnt.no f2 w2 (w4 rfl)
  | true =>
    obtain ⟨w5, w6⟩ := w3 rfl
    refine Cnt.st f2 ?_ (s_24d d ho he p ts hl 99 0 q ws ν2 (by omega) (g.fr f2) w6 (gw.mono (Nat.le_succ _)))
    rw [w5]
    show ev (d + e + 1) 24 15 [.ref 39, .int v1, .int (Int32.ofNat 0)] [] (fx ν2) = _
    rw [e_24_15, if_pos (by decide)]
/-- so many NOTs behind what was read -/
def pNot (j : Nat) (r : PRs) : PRs := match r with
  | (true, q, us) => (true, q, us ++ List.replicate j 5)
  | (false, q, _) => (false, q, [])
theorem lle5 {w k : Nat} (hw : w ≤ 5) (hk : k ≤ w) : (Int32.ofNat w ≤ Int32.ofNat k) = (w ≤ k) := O_le (by omega) (by omega)
/-- NOTs come behind what was read well -/
theorem s_25w (d w : Nat) (hw : w ≤ 5) : ∀ (j k p : Nat) (us : List Int32) (ν : MM), k + j = w → Rd ν p us → us.length + j ≤ 100 → ∃ ν', ev (d + 1) 25 16 [.ref 39, .int (Int32.ofNat w), .int 1, .int (Int32.ofNat k)] [] (fx ν) = some (some (.int 1), fx ν') ∧ Fr RP QN ν ν' ∧ Rd ν' p (us ++ List.replicate j 5) := by
  intro j
  induction j with
  | zero =>
    intro k p us ν hk r hl
    refine ⟨ν, ?_, Fr.rf, by rw [List.replicate_zero, List.append_nil]; exact r⟩
    rw [e_25_16, if_pos (by rw [lle5 hw (by omega)]; omega), e_25_19, b01_1, gd_t]
  | succ j ih =>
    intro k p us ν hk r hl
    obtain ⟨ν1, e1, f1, r1⟩ := s_31 d r (by omega) 5
    obtain ⟨ν2, e2, f2, r2⟩ := ih (k + 1) p (us ++ [5]) ν1 (by omega) r1 (by rw [List.length_append, List.length_singleton]; omega)
    refine ⟨ν2, ?_, f1.tr f2, ?_⟩
    · rw [e_25_16, if_neg (by rw [lle5 hw (by omega)]; omega), e_25_17, e1, bnd_0, app0, e_25_18, O_p1, e2]
    · rw [List.replicate_succ]
      rw [List.append_assoc] at r2
      exact r2
/-- .. and behind what was not: they count for nothing -/
theorem s_25n (d w : Nat) (hw : w ≤ 5) : ∀ (j k p : Nat) (ν : MM), k + j = w → Plc ν p → ∃ ν', ev (d + 1) 25 16 [.ref 39, .int (Int32.ofNat w), .int 0, .int (Int32.ofNat k)] [] (fx ν) = some (some (.int 0), fx ν') ∧ Fr RP QN ν ν' ∧ Plc ν' p := by
  intro j
  induction j with
  | zero =>
    intro k p ν hk r
    refine ⟨ν, ?_, Fr.rf, r⟩
    rw [e_25_16, if_pos (by rw [lle5 hw (by omega)]; omega), e_25_19, b01_0, gd_t]
  | succ j ih =>
    intro k p ν hk r
    obtain ⟨ν1, e1, f1, r1⟩ := s_31b d r 5
    obtain ⟨ν2, e2, f2, r2⟩ := ih (k + 1) p ν1 (by omega) r1
    refine ⟨ν2, ?_, f1.tr f2, r2⟩
    rw [e_25_16, if_neg (by rw [lle5 hw (by omega)]; omega), e_25_17, e1, bnd_0, app0, e_25_18, O_p1, e2]
theorem f_25y (d : Nat) {a w q : Nat} (hw : w ≤ 5) (ha : a ≤ w) {E : Rs} {ν ν' : MM} {ts us : List Int32} (f : Fr RP QN ν ν') (r : Rd ν' q (ts ++ us)) (hl : ts.length + us.length + (w - a) ≤ 100) (e : E = ev (d + 1) 25 15 [.ref 39, .int (Int32.ofNat a), .int (Int32.ofNat w)] [.int 1] (fx ν')) : Cnt E K1 ν ts (pNot (w - a) (true, q, us)) := by
  obtain ⟨ν2, e2, f2, r2⟩ := s_25w d w hw (w - a) a q (ts ++ us) ν' (by omega) r (by rw [List.length_append]; omega)
  refine Cnt.yes (f.tr f2) (by rw [← List.append_assoc]; exact r2) ?_
  rw [e, e_25_15, e2]
  rfl
theorem f_25n (d : Nat) {a w q : Nat} (hw : w ≤ 5) (ha : a ≤ w) {E : Rs} {ν ν' : MM} {ts us : List Int32} (f : Fr RP QN ν ν') (r : Plc ν' q) (e : E = ev (d + 1) 25 15 [.ref 39, .int (Int32.ofNat a), .int (Int32.ofNat w)] [.int 0] (fx ν')) : Cnt E K1 ν ts (pNot (w - a) (false, q, us)) := by
  obtain ⟨ν2, e2, f2, r2⟩ := s_25n d w hw (w - a) a q ν' (by omega) r
  refine Cnt.no (f.tr f2) r2 ?_
  rw [e, e_25_15, e2]
/-- a TEST: no ! and no ( more -/
theorem f_25t (d : Nat) {a w p n s : Nat} {ch : Nat → Nat} (hw : w ≤ 5) (ha : a ≤ w) {ν : MM} {ts : List Int32} (g : CxR ν n s ch) (r : Rd ν p ts) (hpn : p ≤ n) (hn : ∀ c, c ∈ chS s → c < 128) (hB : (chS s).length ≤ 5) (hl : ts.length + (w - a) ≤ p) : Cnt (ev (d + 6) 25 14 [.ref 39, .int (Int32.ofNat a), .int (Int32.ofNat w)] [] (fx ν)) K1 ν ts (pNot (w - a) (pTst (chS s) ch p)) := by
  have hw26 := s_26 d g r hpn hn (by omega)
  have gw := pTst_gd g.1.2.1 hn hB hpn
  have hx := g.1.2.1.1
  rw [e_25_14]
  revert hw26 gw
  obtain ⟨b, q, ws⟩ := pTst (chS s) ch p
  rintro ⟨ν2, f2, w2, w3, w4⟩ gw
  cases b with
  | false =>
    refine f_25n (d + 5) hw ha f2 w2 ?_
    rw [w4 rfl, bnd_1, app1]
  | true =>
    obtain ⟨w5, w6⟩ := w3 rfl
    have b4 : p + ws.length + 2 ≤ q := (gw.2 rfl).1
    have b5 : q ≤ n := gw.1.2
    refine f_25y (d + 5) hw ha f2 w6 (by omega) ?_
    rw [w5]
    show bnd 1 (some (some (.int 1), fx ν2)) _ = _
    rw [bnd_1, app1]
theorem no_33 : ∀ s, s < 13 → ixN (chS s) 33 = none ∧ ixN (chS s) 40 = none := by decide
theorem pOne_0 {s p : Nat} {ch : Nat → Nat} (hs : s < 13) : pOne (chS s) ch 0 p = pTst (chS s) ch p := by
  obtain ⟨h1, h2⟩ := no_33 s hs
  show (if ch p = 33 ∨ ch p = 40 then (false, p, []) else pTst (chS s) ch p) = pTst (chS s) ch p
  by_cases c : ch p = 33 ∨ ch p = 40
  · rw [if_pos c]
    unfold pTst
    rcases c with c | c
    · rw [c, h1]
    · rw [c, h2]
  · rw [if_neg c]
theorem Cnt.n0 {E : Rs} {K : MM → Rs} {ν : MM} {ts : List Int32} {r : PRs} (h : Cnt E K ν ts (pNot 0 r)) : Cnt E K ν ts r := by
  obtain ⟨b, q, us⟩ := r
  obtain ⟨ν', h1, h2, h3, h4⟩ := h
  cases b with
  | true =>
    refine ⟨ν', h1, h2, fun c => ⟨(h3 c).1, ?_⟩, fun c => by cases c⟩
    have := (h3 c).2
    have this : Rd ν' q (ts ++ (us ++ [])) := this
    rw [List.append_nil] at this
    exact this
  | false => exact ⟨ν', h1, h2, fun c => (by cases c), fun _ => h4 rfl⟩
theorem pNot_s (j q : Nat) (us : List Int32) : pNot j (true, q, us ++ [5]) = pNot (j + 1) (true, q, us) := by
  show (true, q, us ++ [5] ++ List.replicate j 5) = (true, q, us ++ List.replicate (j + 1) 5)
  rw [List.replicate_succ, List.append_assoc]
  rfl
theorem s_25l {n s : Nat} {ch : Nat → Nat} (hx : okTx ch n) (hs : s < 13) (hn : ∀ c, c ∈ chS s → c < 128) : ∀ (o w : Nat), w + o = 5 → ∀ (a d p : Nat) (ts : List Int32) (ν : MM), a ≤ w → CxR ν n s ch → Rd ν p ts → p ≤ n → ts.length + (w - a) ≤ p → Cnt (ev (d + (6 + 2 * o)) 25 1 [.ref 39, .int (Int32.ofNat a), .int (Int32.ofNat w)] [] (fx ν)) K1 ν ts (pNot (w - a) (pOne (chS s) ch o p)) := by
  have hB : (chS s).length ≤ 5 := by
    have := chS_len s hs
    omega
  intro o
  induction o with
  | zero =>
    intro w hw a d p ts ν ha g r hpn hl
    have hw' : w = 5 := by omega
    rw [pOne_0 hs]
    have h := f_25t d (by omega) ha g r hpn hn hB hl
    have e : ev (d + (6 + 2 * 0)) 25 1 [.ref 39, .int (Int32.ofNat a), .int (Int32.ofNat w)] [] (fx ν) = ev (d + 6) 25 14 [.ref 39, .int (Int32.ofNat a), .int (Int32.ofNat w)] [] (fx ν) := by
      rw [hw', e_25_1, if_pos (by decide), e_25_5, if_pos (by decide)]
    rw [e]
    exact h
  | succ o ih =>
    intro w hw a d p ts ν ha g r hpn hl
    have ih1 : OnE n s ch (Int32.ofNat (w + 1)) (2 * o) (6 + 2 * o) (pOne (chS s) ch o) := by
      refine ⟨fun p hp => pOne_gd hx hn hB o p hp, fun d ν p ts g r hpn hl => ?_⟩
      have h := ih (w + 1) (by omega) (w + 1) d p ts ν (Nat.le_refl _) g r hpn (by omega)
      rw [Nat.sub_self] at h
      rw [e_25_0]
      exact h.n0
    have ed : d + (6 + 2 * (o + 1)) = d + (6 + 2 * o) + 1 + 1 := by omega
    have ew : ¬ (5 : Int32) ≤ Int32.ofNat w := by
      show ¬ Int32.ofNat 5 ≤ Int32.ofNat w
      rw [O_le (by omega) (by omega)]; omega
    have n40 := s_29v (d + (6 + 2 * o)) 40 (c := 40) rfl g r hpn (by decide)
    have n33 := s_29v (d + (6 + 2 * o)) 33 (c := 33) rfl g r hpn (by decide)
    rw [ed]
    show Cnt _ K1 ν ts (pNot (w - a) (if ch p = 33 then (match pOne (chS s) ch o (p + 1) with
        | (true, q, us) => (true, q, us ++ [5])
        | (false, q, _) => (false, q, []))
      else if ch p = 40 then (match pAny (pOne (chS s) ch o) ch (p + 1) with
        | (true, q, us) => if ch q = 41 then (true, q + 1, us) else (false, q, [])
        | (false, q, _) => (false, q, []))
      else pTst (chS s) ch p))
    obtain ⟨f1, r1⟩ := Fr.rd (p + 1) r
    have g1 := g.fr f1
    by_cases c33 : ch p = 33
    · have hp : p < n := hx.lt c33 (by decide)
      have h := ih (w + 1) (by omega) a (d + 2) (p + 1) ts _ (by omega) g1 r1 hp (by omega)
      rw [show d + 2 + (6 + 2 * o) = d + (6 + 2 * o) + 1 + 1 by omega, show w + 1 - a = w - a + 1 by omega] at h
      rw [if_pos c33]
      have e : ev (d + (6 + 2 * o) + 1 + 1) 25 1 [.ref 39, .int (Int32.ofNat a), .int (Int32.ofNat w)] [] (fx ν) = ev (d + (6 + 2 * o) + 1 + 1) 25 1 [.ref 39, .int (Int32.ofNat a), .int (Int32.ofNat (w + 1))] [] (fx (sI ν 39 5 (Int32.ofNat (p + 1)))) := by
        rw [e_25_1, if_neg ew, e_25_2, n33, if_pos c33, bnd_1, app1, e_25_3, if_neg (by decide), e_25_4, O_p1]
      rw [e]
      revert h
      obtain ⟨b, q, ws⟩ := pOne (chS s) ch o (p + 1)
      intro h
      cases b with
      | true =>
        show Cnt _ K1 ν ts (pNot (w - a) (true, q, ws ++ [5]))
        rw [pNot_s]
        exact Cnt.st f1 rfl h
      | false => exact Cnt.st f1 rfl h
    · rw [if_neg c33]
      have e0 : ev (d + (6 + 2 * o) + 1 + 1) 25 1 [.ref 39, .int (Int32.ofNat a), .int (Int32.ofNat w)] [] (fx ν) = bnd 1 (if ch p = 40 then some (some (.int 1), fx (sI ν 39 5 (Int32.ofNat (p + 1)))) else some (some (.int 0), fx ν)) fun rs μ1 => ev (d + (6 + 2 * o) + 1 + 1) 25 7 [.ref 39, .int (Int32.ofNat a), .int (Int32.ofNat w)] (rs ++ []) μ1 := by
        rw [e_25_1, if_neg ew, e_25_2, n33, if_neg c33, bnd_1, app1, e_25_3, if_pos rfl, e_25_5, if_neg ew, e_25_6, n40]
      rw [e0]
      by_cases c40 : ch p = 40
      · have hp : p < n := hx.lt c40 (by decide)
        have hw' := s_24 d ih1 (by omega) g1 r1 hp (by omega)
        have gw := pAny_gd hx ih1.1 (p + 1) hp
        rw [if_pos c40, if_pos c40, bnd_1, app1, e_25_7, if_neg (by decide), e_25_8, O_p1]
        have hx1 := hx.1
        revert hw' gw
        obtain ⟨b, q, ws⟩ := pAny (pOne (chS s) ch o) ch (p + 1)
        rintro ⟨ν2, f2, w2, w3, w4⟩ gw
        cases b with
        | false =>
          refine f_25n (d + (6 + 2 * o) + 1) (by omega) ha (f1.tr f2) w2 (us := []) ?_
          rw [w4 rfl, bnd_1, app1, e_25_9, if_pos rfl, e_25_13]
        | true =>
          obtain ⟨w5, w6⟩ := w3 rfl
          have b4 : p + 1 + ws.length + 2 ≤ q := (gw.2 rfl).1
          have b5 : q ≤ n := gw.1.2
          have w6 : Rd ν2 q (ts ++ ws) := w6
          have n41 := s_29v (d + (6 + 2 * o)) 41 (c := 41) rfl (g1.fr f2) w6 b5 (by decide)
          rw [w5]
          show Cnt (bnd 1 (some (some (.int 1), fx ν2)) _) K1 ν ts (pNot (w - a) (if ch q = 41 then (true, q + 1, ws) else (false, q, [])))
          rw [bnd_1, app1, e_25_9, if_neg (by decide), e_25_10, n41]
          by_cases c41 : ch q = 41
          · rw [if_pos c41, if_pos c41]
            obtain ⟨f3, r3⟩ := Fr.rd (q + 1) w6
            refine f_25y (d + (6 + 2 * o) + 1) (by omega) ha ((f1.tr f2).tr f3) r3 (by omega) ?_
            rw [bnd_1, app1, e_25_11, if_neg (by decide), e_25_12]
          · rw [if_neg c41, if_neg c41]
            refine f_25n (d + (6 + 2 * o) + 1) (by omega) ha (f1.tr f2) w2 (us := []) ?_
            rw [bnd_1, app1, e_25_11, if_pos rfl, e_25_13]
      · rw [if_neg c40, if_neg c40, bnd_1, app1, e_25_7, if_pos rfl]
        have h := f_25t (d + 1 + 2 * o + 1) (by omega) ha g r hpn hn hB hl
        rw [show d + 1 + 2 * o + 1 + 6 = d + (6 + 2 * o) + 1 + 1 by omega] at h
        exact h
theorem s_25 {n s : Nat} {ch : Nat → Nat} (hx : okTx ch n) (hs : s < 13) (hn : ∀ c, c ∈ chS s → c < 128) : ∀ (o a : Nat), a + o = 5 → OnE n s ch (Int32.ofNat a) (2 * o) (6 + 2 * o) (pOne (chS s) ch o) := by
  intro o a ha
  have hB : (chS s).length ≤ 5 := by
    have := chS_len s hs
    omega
  refine ⟨fun p hp => pOne_gd hx hn hB o p hp, fun d ν p ts g r hpn hl => ?_⟩
  have h := s_25l hx hs hn o a ha a d p ts ν (Nat.le_refl _) g r hpn (by omega)
  rw [Nat.sub_self] at h
  rw [e_25_0]
  exact h.n0
