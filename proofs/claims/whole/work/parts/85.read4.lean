/-! the class's reader: E and F at every depth -/
theorem s_29v (d : Nat) (v : Int32) {ν : MM} {n s p c : Nat} {ch : Nat → Nat} (hv : Int32.ofNat c = v) (g : CxR ν n s ch) {ts : List Int32} (h : Rd ν p ts) (hpn : p ≤ n) (hc : c ≤ 128) : ev (d + 1) 29 0 [.ref 39, .int v] [] (fx ν) = if ch p = c then some (some (.int 1), fx (sI ν 39 5 (Int32.ofNat (p + 1)))) else some (some (.int 0), fx ν) := by
  rw [← hv]
  exact s_29 d g h hpn hc
theorem Cnt.st {E E' : Rs} {K : MM → Rs} {ν μ : MM} {ts : List Int32} {r : PRs} (f : Fr RP QN ν μ) (e : E' = E) (h : Cnt E K μ ts r) : Cnt E' K ν ts r := by
  obtain ⟨ν', h1, h2, h3, h4⟩ := h
  exact ⟨ν', f.tr h1, h2, fun c => ⟨e.trans (h3 c).1, (h3 c).2⟩, fun c => e.trans (h4 c)⟩
theorem s_24c (d : Nat) {n s m e : Nat} {ch : Nat → Nat} {v1 : Int32} {one : Nat → PRs} (ho : OnE n s ch v1 m e one) (he : 0 < e) {k p : Nat} {ts : List Int32} {ν : MM} (hk : k < 100) (g : CxR ν n s ch) (r : Rd ν p ts) (hpn : p ≤ n) (hl : ts.length ≤ p) : Cnt (ev (d + e + 1) 24 2 [.ref 39, .int v1, .int (Int32.ofNat k)] [] (fx ν)) (fun μ => ev (d + e + 1) 24 15 [.ref 39, .int v1, .int (Int32.ofNat k)] [] (fx μ)) ν ts (pEv one ch p) := by
  have hw := ho.2 d ν p ts g r hpn hl
  have gw := ho.1 p hpn
  have e0 : ev (d + e + 1) 24 2 [.ref 39, .int v1, .int (Int32.ofNat k)] [] (fx ν) = bnd 1 (ev (d + e) 25 0 [.ref 39, .int v1] [] (fx ν)) fun rs μ1 => ev (d + e + 1) 24 4 [.ref 39, .int v1, .int (Int32.ofNat k)] (rs ++ []) μ1 := by
    rw [e_24_2, if_neg (lt100 hk), e_24_3]
  rw [e0]
  unfold pEv
  revert hw gw
  obtain ⟨b, q, ws⟩ := one p
  rintro ⟨ν2, f2, w2, w3, w4⟩ gw
  cases b with
  | false =>
    refine Cnt.no f2 w2 ?_
    rw [w4 rfl, bnd_1, app1, e_24_4, if_pos rfl, e_24_5]
  | true =>
    obtain ⟨w5, w6⟩ := w3 rfl
    refine Cnt.st f2 ?_ (s_24a d ho he p ts hl 100 0 q ws ν2 (by omega) (g.fr f2) w6 (gw.mono (Nat.le_succ m)))
    rw [w5]
    show bnd 1 (some (some (.int 1), fx ν2)) _ = _
    rw [bnd_1, app1, e_24_4, if_neg (by decide)]
    exact e_24_6 ..
theorem s_24d (d : Nat) {n s m e : Nat} {ch : Nat → Nat} {v1 : Int32} {one : Nat → PRs} (ho : OnE n s ch v1 m e one) (he : 0 < e) (p0 : Nat) (ts : List Int32) (hl : ts.length ≤ p0) : ∀ (f k p : Nat) (us : List Int32) (ν : MM), k + f = 99 → CxR ν n s ch → Rd ν p (ts ++ us) → Gd n (chS s).length (m + 2) p0 (true, p, us) → Cnt (ev (d + e + 1) 24 17 [.ref 39, .int v1, .int (Int32.ofNat k)] [] (fx ν)) K1 ν ts (pOr one ch f p us) := by
  obtain ⟨e', rfl⟩ : ∃ e', e = e' + 1 := ⟨e - 1, by omega⟩
  intro f
  induction f with
  | zero =>
    intro k p us ν hk g r gd
    have hpn : p ≤ n := gd.1.2
    have h29 := s_29v (d + e') 124 (c := 124) rfl g r hpn (by decide)
    have hk' : k = 99 := by omega
    have e0 : ev (d + (e' + 1) + 1) 24 17 [.ref 39, .int v1, .int (Int32.ofNat k)] [] (fx ν) = bnd 1 (ev (d + e' + 1) 29 0 [.ref 39, .int 124] [] (fx ν)) fun rs μ1 => ev (d + (e' + 1) + 1) 24 18 [.ref 39, .int v1, .int (Int32.ofNat k)] (rs ++ []) μ1 := by
      rw [e_24_17]
      rfl
    rw [e0, h29]
    show Cnt _ K1 ν ts (if ch p = 124 then (true, p + 1, us) else (true, p, us))
    by_cases c : ch p = 124
    · rw [if_pos c, if_pos c]
      obtain ⟨f1, r1⟩ := Fr.rd (p + 1) r
      refine Cnt.yes f1 r1 ?_
      rw [bnd_1, app1, e_24_18, e_24_1, if_neg (by decide), hk', e_24_2, if_pos (by decide), e_24_19]
      rfl
    · rw [if_neg c, if_neg c]
      refine Cnt.yes Fr.rf r ?_
      rw [bnd_1, app1, e_24_18, e_24_1, if_pos rfl, e_24_19]
      rfl
  | succ f ih =>
    intro k p us ν hk g r gd
    have hpn : p ≤ n := gd.1.2
    have a0 : p0 ≤ p := gd.1.1
    have a1 : p0 + us.length + 2 ≤ p := (gd.2 rfl).1
    have h29 := s_29v (d + e') 124 (c := 124) rfl g r hpn (by decide)
    have e0 : ev (d + (e' + 1) + 1) 24 17 [.ref 39, .int v1, .int (Int32.ofNat k)] [] (fx ν) = bnd 1 (ev (d + e' + 1) 29 0 [.ref 39, .int 124] [] (fx ν)) fun rs μ1 => ev (d + (e' + 1) + 1) 24 18 [.ref 39, .int v1, .int (Int32.ofNat k)] (rs ++ []) μ1 := by
      rw [e_24_17]
      rfl
    rw [e0, h29]
    show Cnt _ K1 ν ts (if ch p = 124 then (match pEv one ch (p + 1) with
      | (true, q, ws) => pOr one ch f q (us ++ ws ++ [7])
      | (false, q, _) => (false, q, [])) else (true, p, us))
    by_cases c : ch p = 124
    · rw [if_pos c, if_pos c]
      have hp : p < n := g.1.2.1.lt c (by decide)
      obtain ⟨f1, r1⟩ := Fr.rd (p + 1) r
      have g1 := g.fr f1
      have hw := s_24c d ho (Nat.succ_pos e') (k := k + 1) (by omega) g1 r1 hp (by rw [List.length_append]; omega)
      have gw := pEv_gd g.1.2.1 ho.1 (p + 1) hp
      revert hw gw
      obtain ⟨b, q, ws⟩ := pEv one ch (p + 1)
      rintro ⟨ν2, f2, w2, w3, w4⟩ gw
      have e1 : bnd 1 (some (some (.int 1), fx (sI ν 39 5 (Int32.ofNat (p + 1))))) (fun rs μ1 => ev (d + (e' + 1) + 1) 24 18 [.ref 39, .int v1, .int (Int32.ofNat k)] (rs ++ []) μ1) = ev (d + (e' + 1) + 1) 24 2 [.ref 39, .int v1, .int (Int32.ofNat (k + 1))] [] (fx (sI ν 39 5 (Int32.ofNat (p + 1)))) := by
        rw [bnd_1, app1, e_24_18, e_24_1, if_neg (by decide), O_p1]
      cases b with
      | false =>
        refine Cnt.no (f1.tr f2) w2 ?_
        rw [e1, w4 rfl]
      | true =>
        obtain ⟨w5, w6⟩ := w3 rfl
        have b4 : p + 1 + ws.length + 2 ≤ q := (gw.2 rfl).1
        have b5 : q ≤ n := gw.1.2
        have hn := g.1.2.1.1
        have w6 : Rd ν2 q (ts ++ us ++ ws) := w6
        obtain ⟨ν3, e3, f3, r3⟩ := s_31 (d + (e' + 1)) w6 (by rw [List.length_append, List.length_append]; omega) 7
        have g3 := (g1.fr f2).fr f3
        have gd3 := Gd.or gd gw
        have r3' : Rd ν3 q (ts ++ (us ++ ws ++ [7])) := by
          rw [← List.append_assoc, ← List.append_assoc]
          exact r3
        refine Cnt.st ((f1.tr f2).tr f3) ?_ (ih (k + 1) q (us ++ ws ++ [7]) ν3 (by omega) g3 r3' gd3)
        rw [e1, w5]
        show ev (d + (e' + 1) + 1) 24 15 [.ref 39, .int v1, .int (Int32.ofNat (k + 1))] [] (fx ν2) = _
        have hk1 : ¬ Int32.ofNat (k + 1) ≤ 0 := by
          show ¬ Int32.ofNat (k + 1) ≤ Int32.ofNat 0
          rw [O_le (by omega) (by omega)]; omega
        rw [e_24_15, if_neg hk1, e_24_16, e3, bnd_0, app0]
    · rw [if_neg c, if_neg c]
      refine Cnt.yes Fr.rf r ?_
      rw [bnd_1, app1, e_24_18, e_24_1, if_pos rfl, e_24_19]
      rfl
theorem s_24 (d : Nat) {n s m e : Nat} {ch : Nat → Nat} {v1 : Int32} {one : Nat → PRs} (ho : OnE n s ch v1 m e one) (he : 0 < e) {p : Nat} {ts : List Int32} {ν : MM} (g : CxR ν n s ch) (r : Rd ν p ts) (hpn : p ≤ n) (hl : ts.length ≤ p) : Cnt (ev (d + e + 1) 24 0 [.ref 39, .int v1] [] (fx ν)) K1 ν ts (pAny one ch p) := by
  have hw := s_24c d ho he (k := 0) (by omega) g r hpn hl
  have gw := pEv_gd g.1.2.1 ho.1 p hpn
  have e0 : ev (d + e + 1) 24 0 [.ref 39, .int v1] [] (fx ν) = ev (d + e + 1) 24 2 [.ref 39, .int v1, .int (Int32.ofNat 0)] [] (fx ν) := by
    rw [e_24_0, e_24_1, if_neg (by decide)]
    rfl
  rw [e0]
  unfold pAny
  revert hw gw
  obtain ⟨b, q, ws⟩ := pEv one ch p
  rintro ⟨ν2, f2, w2, w3, w4⟩ gw
  cases b with
  | false => exact Cnt.no f2 w2 (w4 rfl)
  | true =>
    obtain ⟨w5, w6⟩ := w3 rfl
    refine Cnt.st f2 ?_ (s_24d d ho he p ts hl 99 0 q ws ν2 (by omega) (g.fr f2) w6 (gw.mono (Nat.le_succ _)))
    rw [w5]
    show ev (d + e + 1) 24 15 [.ref 39, .int v1, .int (Int32.ofNat 0)] [] (fx ν2) = _
    rw [e_24_15, if_pos (by decide)]
theorem s_25h (d : Nat) (v1 : Int32) {ν : MM} {n s p : Nat} {ch : Nat → Nat} (g : CxR ν n s ch) (hp : gI ν 39 5 = Int32.ofNat p) (hpn : p ≤ n) : ev (d + 1) 25 0 [.ref 39, .int v1] [] (fx ν) = if ch p = 33 ∨ ch p = 40 then ev (d + 1) 25 6 [.ref 39, .int v1] [] (fx ν) else bnd 1 (ev d 26 0 [.ref 39] [] (fx ν)) fun rs μ1 => ev (d + 1) 25 5 [] (rs ++ []) μ1 := by
  have hc := g.ch p
  have q1 : (Int32.ofNat (ch p) = 33) = (ch p = 33) := O_eq (b := 33) (by omega) (by decide)
  have q2 : (Int32.ofNat (ch p) = 40) = (ch p = 40) := O_eq (b := 40) (by omega) (by decide)
  rw [e_25_0, s_30 d g hp hpn, bnd_1, app1, e_25_1]
  by_cases c1 : ch p = 33
  · rw [if_pos (by rw [q1]; exact c1), if_pos (Or.inl c1)]
  · rw [if_neg (by rw [q1]; exact c1), e_25_2, s_30 d g hp hpn, bnd_1, app1, e_25_3]
    by_cases c2 : ch p = 40
    · rw [if_pos (by rw [q2]; exact c2), if_pos (Or.inr c2)]
    · rw [if_neg (by rw [q2]; exact c2), if_neg (by rintro (h | h) <;> contradiction), e_25_4]
theorem Cnt.m5 (d : Nat) {E : Rs} {ν : MM} {ts : List Int32} {r : PRs} (h : Cnt E K1 ν ts r) : Cnt (bnd 1 E fun rs μ1 => ev d 25 5 [] (rs ++ []) μ1) K1 ν ts r := by
  obtain ⟨ν', h1, h2, h3, h4⟩ := h
  refine ⟨ν', h1, h2, fun c => ⟨?_, (h3 c).2⟩, fun c => ?_⟩
  · rw [(h3 c).1]
    show bnd 1 (some (some (.int 1), fx ν')) _ = _
    rw [bnd_1, app1, e_25_5, b01_1, gd_t]
    rfl
  · rw [h4 c, bnd_1, app1, e_25_5, b01_0, gd_t]
theorem s_25 {n s : Nat} {ch : Nat → Nat} (hx : okTx ch n) (hs : s < 13) (hn : ∀ c, c ∈ chS s → c < 128) : ∀ (o a : Nat), a + o = 5 → OnE n s ch (Int32.ofNat a) (2 * o) (6 + 2 * o) (pOne (chS s) ch o) := by
  have hB := chS_len s hs
  intro o
  induction o with
  | zero =>
    intro a ha
    have ha' : a = 5 := by omega
    refine ⟨fun p hp => pOne_gd hx hn (by omega) 0 p hp, fun d ν p ts g r hpn hl => ?_⟩
    show Cnt (ev (d + 5 + 1) 25 0 [.ref 39, .int (Int32.ofNat a)] [] (fx ν)) K1 ν ts (if ch p = 33 ∨ ch p = 40 then (false, p, []) else pTst (chS s) ch p)
    rw [s_25h (d + 5) _ g r.1 hpn]
    by_cases c : ch p = 33 ∨ ch p = 40
    · rw [if_pos c, if_pos c]
      refine Cnt.no Fr.rf r.1 ?_
      rw [ha', e_25_6, if_neg (by decide), e_25_7]
    · rw [if_neg c, if_neg c]
      exact (s_26 d g r hpn hn hl).m5 _
  | succ o ih =>
    intro a ha
    have ih' := ih (a + 1) (by omega)
    refine ⟨fun p hp => pOne_gd hx hn (by omega) (o + 1) p hp, fun d ν p ts g r hpn hl => ?_⟩
    have ed : d + (6 + 2 * (o + 1)) = d + (6 + 2 * o) + 1 + 1 := by omega
    have ea : Int32.ofNat a < 5 := by
      show Int32.ofNat a < Int32.ofNat 5
      rw [O_lt (by omega) (by omega)]; omega
    rw [ed, s_25h (d + (6 + 2 * o) + 1) _ g r.1 hpn]
    show Cnt _ K1 ν ts (if ch p = 33 then (match pOne (chS s) ch o (p + 1) with
        | (true, q, us) => (true, q, us ++ [5])
        | (false, q, _) => (false, q, []))
      else if ch p = 40 then (match pAny (pOne (chS s) ch o) ch (p + 1) with
        | (true, q, us) => if ch q = 41 then (true, q + 1, us) else (false, q, [])
        | (false, q, _) => (false, q, []))
      else pTst (chS s) ch p)
    obtain ⟨f1, r1⟩ := Fr.rd (p + 1) r
    have g1 := g.fr f1
    have n40 := s_29v (d + (6 + 2 * o)) 40 (c := 40) rfl g r hpn (by decide)
    have n33 := s_29v (d + (6 + 2 * o)) 33 (c := 33) rfl g r hpn (by decide)
    by_cases c33 : ch p = 33
    · have hp : p < n := hx.lt c33 (by decide)
      have hw := ih'.2 (d + 1) _ (p + 1) ts g1 r1 hp (by omega)
      have gw := ih'.1 (p + 1) hp
      rw [show d + 1 + (6 + 2 * o) = d + (6 + 2 * o) + 1 by omega] at hw
      rw [if_pos (Or.inl c33), if_pos c33, e_25_6, if_pos ea, e_25_8, n40, if_neg (by omega), bnd_1, app1, e_25_9, if_pos rfl, e_25_17, n33, if_pos c33, bnd_1, app1, e_25_18, if_neg (by decide), e_25_19, O_p1]
      revert hw gw
      obtain ⟨b, q, ws⟩ := pOne (chS s) ch o (p + 1)
      rintro ⟨ν2, f2, w2, w3, w4⟩ gw
      cases b with
      | false =>
        refine Cnt.no (f1.tr f2) w2 ?_
        rw [w4 rfl, bnd_1, app1, e_25_20, if_pos rfl, e_25_21]
      | true =>
        obtain ⟨w5, w6⟩ := w3 rfl
        have b4 : p + 1 + ws.length + 2 ≤ q := (gw.2 rfl).1
        have b5 : q ≤ n := gw.1.2
        have w6 : Rd ν2 q (ts ++ ws) := w6
        obtain ⟨ν3, e3, f3, r3⟩ := s_31 (d + (6 + 2 * o) + 1) w6 (by have := hx.1; rw [List.length_append]; omega) 5
        refine Cnt.yes ((f1.tr f2).tr f3) (by rw [← List.append_assoc]; exact r3) ?_
        rw [w5]
        show bnd 1 (some (some (.int 1), fx ν2)) _ = _
        rw [bnd_1, app1, e_25_20, if_neg (by decide), e_25_22, e3, bnd_0, app0, e_25_23]
        rfl
    · rw [if_neg c33]
      by_cases c40 : ch p = 40
      · have hp : p < n := hx.lt c40 (by decide)
        have hw := s_24 d ih' (by omega) g1 r1 hp (by omega)
        have gw := pAny_gd hx ih'.1 (p + 1) hp
        rw [if_pos (Or.inr c40), if_pos c40, e_25_6, if_pos ea, e_25_8, n40, if_pos c40, bnd_1, app1, e_25_9, if_neg (by decide), e_25_10, O_p1]
        revert hw gw
        obtain ⟨b, q, ws⟩ := pAny (pOne (chS s) ch o) ch (p + 1)
        rintro ⟨ν2, f2, w2, w3, w4⟩ gw
        cases b with
        | false =>
          refine Cnt.no (f1.tr f2) w2 ?_
          rw [w4 rfl, bnd_1, app1, e_25_11, if_pos rfl, e_25_15, e_25_16, b01_0, gd_t]
        | true =>
          obtain ⟨w5, w6⟩ := w3 rfl
          have b5 : q ≤ n := gw.1.2
          have w6 : Rd ν2 q (ts ++ ws) := w6
          have n41 := s_29v (d + (6 + 2 * o)) 41 (c := 41) rfl (g1.fr f2) w6 b5 (by decide)
          rw [w5]
          show Cnt (bnd 1 (some (some (.int 1), fx ν2)) _) K1 ν ts (if ch q = 41 then (true, q + 1, ws) else (false, q, []))
          rw [bnd_1, app1, e_25_11, if_neg (by decide), e_25_12, n41]
          by_cases c41 : ch q = 41
          · rw [if_pos c41, if_pos c41]
            obtain ⟨f3, r3⟩ := Fr.rd (q + 1) w6
            refine Cnt.yes ((f1.tr f2).tr f3) r3 ?_
            rw [bnd_1, app1, e_25_13, if_neg (by decide), e_25_14, e_25_16, b01_1, gd_t]
            rfl
          · rw [if_neg c41, if_neg c41]
            refine Cnt.no (f1.tr f2) w2 ?_
            rw [bnd_1, app1, e_25_13, if_pos rfl, e_25_15, e_25_16, b01_0, gd_t]
      · rw [if_neg c40, if_neg (by rintro (h | h) <;> contradiction)]
        have h26 := s_26 (d + 1 + 2 * o + 1) g r hpn hn hl
        rw [show d + 1 + 2 * o + 1 + 5 = d + (6 + 2 * o) + 1 by omega] at h26
        exact h26.m5 _
