/-! the class's reader: what reading keeps; a CLAUSE -/
def Kq (ν μ : MM) (m s : Nat) : Prop := Kp ν μ ∧ (∀ q, q < 57 → q ≠ 39 ∧ q ≠ 40 ∧ q ≠ 41 → gI μ q = gI ν q ∧ gR μ q = gR ν q) ∧ msz μ ≤ msz ν + m ∧ msl μ ≤ msl ν + s
theorem Kq.rf {ν : MM} : Kq ν ν 0 0 := ⟨Kp.rf, fun _ _ _ => ⟨rfl, rfl⟩, Nat.le_refl _, Nat.le_refl _⟩
theorem Kq.tr {a b c : MM} {m n s t : Nat} (h : Kq a b m s) (g : Kq b c n t) : Kq a c (m + n) (s + t) := ⟨h.1.tr g.1, fun q h1 h2 => ⟨(g.2.1 q h1 h2).1.trans (h.2.1 q h1 h2).1, (g.2.1 q h1 h2).2.trans (h.2.1 q h1 h2).2⟩, by have := h.2.2.1; have := g.2.2.1; omega, by have := h.2.2.2; have := g.2.2.2; omega⟩
theorem Kq.le {a b : MM} {m m' s s' : Nat} (h : Kq a b m s) (h1 : m ≤ m') (h2 : s ≤ s') : Kq a b m' s' := ⟨h.1, h.2.1, by have := h.2.2.1; omega, by have := h.2.2.2; omega⟩
theorem kpq_ne {q c : Nat} (h : kpq q = true) (hc : kpq c = false) : q ≠ c := fun e => by
  rw [e, hc] at h
  cases h
theorem RP57 : ∀ q k, 57 ≤ q → RP q k = false := fun q k h => RP_ne ⟨by omega, by omega⟩
theorem Fr.kpR {ν μ : MM} (f : Fr RP QN ν μ) : Kp ν μ := ⟨f.gr RP57, f.fsh, fun q hq => funext fun k => f.rI q k (RP_ne ⟨kpq_ne hq rfl, kpq_ne hq rfl⟩), ⟨f.rI 46 3 rfl, f.rI 46 21 rfl⟩, by rw [f.rR], fun k => ⟨by rw [f.rR], by rw [f.rR]⟩, fun h g => g.gr (f.gr RP57) h (fun k _ => by rw [f.rR]) (fun k _ => by rw [f.rR]), fun g i hi => by rw [f.rI 30 i rfl]; exact g i hi⟩
theorem Fr.kq {ν μ : MM} (f : Fr RP QN ν μ) : Kq ν μ 0 0 := ⟨f.kpR, fun q h1 h2 => ⟨funext fun k => f.rI q k (RP_ne ⟨h2.2.2, h2.1⟩), by rw [f.rR]⟩, Nat.le_of_eq f.2.2.1, Nat.le_of_eq f.2.2.2.1⟩
theorem Nw.kq {ν M : MM} {m s : Nat} (h : Nw ν M m s) : Kq ν M m s := ⟨h.1, fun q h1 _ => h.2.1 q h1, Nat.le_of_eq h.2.2.1, Nat.le_of_eq h.2.2.2⟩
theorem Kq.str {ν μ : MM} {m s : Nat} (h : Kq ν μ m s) (g : Str ν) : Str μ := by
  intro i hi
  rw [(h.2.1 i (by omega) (by omega)).1, (h.2.1 (13 + i) (by omega) (by omega)).1]
  exact g i hi
theorem CxR.kq {ν μ : MM} {n s m t : Nat} {ch : Nat → Nat} (h : Kq ν μ m t) (h4 : gR μ 39 4 = gR ν 39 4) (g : CxR ν n s ch) : CxR μ n s ch := by
  obtain ⟨⟨g1, g2, g3⟩, g4, g5, g6, g7⟩ := g
  exact ⟨⟨by rw [(h.2.1 29 (by omega) (by omega)).1]; exact g1, g2, fun p hp => by rw [(h.2.1 30 (by omega) (by omega)).1]; exact g3 p hp⟩, h.str g4, by rw [h4]; exact g5, g6, g7⟩
abbrev PCs : Type := Bool × Nat × Cl
def no0 (q : Nat) : PCs := (false, q, (0, 0, []))
def pCl (ch : Nat → Nat) (p : Nat) : PCs := if (pHd ch p).1 = true then (match pNum ch (pHd ch p).2.1 with
    | none => no0 (pHd ch p).2.1
    | some (v, q) => if ch q = 32 then (match pAny (pOne (chS 1) ch 5) ch (q + 1) with
      | (true, q3, ts) => (true, q3, (Int32.ofNat (pHd ch p).2.2, Int32.ofNat v, ts))
      | (false, q3, _) => no0 q3) else no0 q) else no0 (pHd ch p).2.1
theorem pHd_gd {ch : Nat → Nat} {n p : Nat} (h : okTx ch n) (hp : p ≤ n) : p ≤ (pHd ch p).2.1 ∧ (pHd ch p).2.1 ≤ n ∧ (pHd ch p).2.2 < 3 := by
  unfold pHd
  by_cases c1 : ch p = 116
  · rw [if_pos c1]
    have := pAll_gd h (ch_lo 8 (by decide)) hp
    exact ⟨this.1, this.2.1, by show 0 < 3; decide⟩
  · rw [if_neg c1]
    by_cases c2 : ch p = 100
    · have hp1 : p < n := h.lt c2 (by decide)
      rw [if_pos c2]
      by_cases c3 : ch (p + 1) = 114
      · rw [if_pos c3]
        have := pAll_gd h (ch_lo 10 (by decide)) hp1
        exact ⟨Nat.le_trans (Nat.le_succ p) this.1, this.2.1, by show 1 < 3; decide⟩
      · rw [if_neg c3]
        have := pAll_gd h (ch_lo 11 (by decide)) hp1
        exact ⟨Nat.le_trans (Nat.le_succ p) this.1, this.2.1, by show 2 < 3; decide⟩
    · rw [if_neg c2]
      exact ⟨Nat.le_refl _, hp, by show 0 < 3; decide⟩
def okP (n p : Nat) (r : PCs) : Prop := (p ≤ r.2.1 ∧ r.2.1 ≤ n) ∧ (r.1 = true → p + r.2.2.2.2.length + 1 ≤ r.2.1 ∧ okcl r.2.2 ∧ okTs 4 r.2.2.2.2)
theorem okP.no {n p q : Nat} (h1 : p ≤ q) (h2 : q ≤ n) : okP n p (no0 q) := ⟨⟨h1, h2⟩, fun c => by cases c⟩
theorem okTs_k {B : Nat} {ts : List Int32} (h : okTs B ts) : ∀ t ∈ ts, okK t := fun t ht => (h t ht).1
theorem w3_O {w : Nat} (h : w < 3) : Int32.ofNat w = 0 ∨ Int32.ofNat w = 1 ∨ Int32.ofNat w = 2 := by
  have q : ∀ w, w < 3 → Int32.ofNat w = 0 ∨ Int32.ofNat w = 1 ∨ Int32.ofNat w = 2 := by decide
  exact q w h
theorem ch1l : (chS 1).length = 4 := by decide
theorem pE_gd {ch : Nat → Nat} {n p s : Nat} (h : okTx ch n) (hs : s < 13) (hp : p ≤ n) : Gd n (chS s).length 12 p (pAny (pOne (chS s) ch 5) ch p) := pAny_gd h (fun p hp => pOne_gd h (ch_lo s hs) (by have := chS_len s hs; omega) 5 p hp) p hp
theorem pCl_gd {ch : Nat → Nat} {n p : Nat} (h : okTx ch n) (hp : p ≤ n) : okP n p (pCl ch p) := by
  obtain ⟨h1, h2, h3⟩ := pHd_gd h hp
  unfold pCl
  revert h1 h2 h3
  obtain ⟨b, q, w⟩ := pHd ch p
  intro h1 h2 h3
  have h1 : p ≤ q := h1
  have h2 : q ≤ n := h2
  have h3 : w < 3 := h3
  cases b with
  | false => exact okP.no h1 h2
  | true =>
    rw [if_pos rfl]
    show okP n p (match pNum ch q with
      | none => no0 q
      | some (v, q) => if ch q = 32 then (match pAny (pOne (chS 1) ch 5) ch (q + 1) with
        | (true, q3, ts) => (true, q3, (Int32.ofNat w, Int32.ofNat v, ts))
        | (false, q3, _) => no0 q3) else no0 q)
    cases e : pNum ch q with
    | none => exact okP.no h1 h2
    | some vq =>
      obtain ⟨v, q2⟩ := vq
      obtain ⟨v1, v2, v3⟩ := pNum_ok h e
      show okP n p (if ch q2 = 32 then (match pAny (pOne (chS 1) ch 5) ch (q2 + 1) with
        | (true, q3, ts) => (true, q3, (Int32.ofNat w, Int32.ofNat v, ts))
        | (false, q3, _) => no0 q3) else no0 q2)
      by_cases c : ch q2 = 32
      · rw [if_pos c]
        have hq2 : q2 < n := h.lt c (by decide)
        have gw := pE_gd (s := 1) h (by decide) (p := q2 + 1) hq2
        rw [ch1l] at gw
        revert gw
        obtain ⟨b, q3, ts⟩ := pAny (pOne (chS 1) ch 5) ch (q2 + 1)
        intro gw
        have a1 : q2 + 1 ≤ q3 := gw.1.1
        cases b with
        | false => exact okP.no (by omega) gw.1.2
        | true =>
          obtain ⟨a2, a3, a4⟩ := gw.2 rfl
          have a2 : q2 + 1 + ts.length + 2 ≤ q3 := a2
          exact ⟨⟨by show p ≤ q3; omega, gw.1.2⟩, fun _ => ⟨by show p + ts.length + 1 ≤ q3; omega, ⟨⟨w3_O h3, v, v1, rfl⟩, okTs_k a3, a4 0 (by omega)⟩, a3⟩⟩
      · rw [if_neg c]
        exact okP.no (by omega) v3
theorem s_24s (d : Nat) {ν : MM} {n s p : Nat} {ch : Nat → Nat} {ts : List Int32} (g : CxR ν n s ch) (r : Rd ν p ts) (hpn : p ≤ n) (hl : ts.length ≤ p) : Cnt (ev (d + 17) 24 0 [.ref 39, .int 0] [] (fx ν)) K1 ν ts (pAny (pOne (chS s) ch 5) ch p) := by
  have h := s_24 d (s_25 g.1.2.1 g.2.2.2.1 (ch_lo s g.2.2.2.1) 5 0 rfl) (by omega) g r hpn hl
  exact h
/-- what reading a CLAUSE comes to -/
def ClR (E : Rs) (ν : MM) (r : PCs) : Prop := ∃ ν', Kq ν ν' 2 103 ∧ (∀ k, gR ν' 39 k = gR ν 39 k ∧ gR ν' 40 k = gR ν 40 k) ∧ gI ν' 39 5 = Int32.ofNat r.2.1 ∧ (r.1 = true → ∃ c, E = some (some (.ref c), fx ν') ∧ ClA ν' c r.2.2) ∧ (r.1 = false → E = some (some .null, fx ν'))
theorem s_22 (d : Nat) {ν : MM} {n p : Nat} {ch : Nat → Nat} (g : CxR ν n 1 ch) (hp : gI ν 39 5 = Int32.ofNat p) (hpn : p ≤ n) : ClR (ev (d + 18) 22 0 [.ref 39] [] (fx ν)) ν (pCl ch p) := by
  obtain ⟨ν1, f1, w1, w2, w3⟩ := s_22a (d + 12) g hp hpn
  obtain ⟨h1, h2, h3⟩ := pHd_gd g.1.2.1 hpn
  have hx := g.1.2.1
  have fin : ∀ {μ : MM} {q : Nat}, Fr RP QN ν μ → gI μ 39 5 = Int32.ofNat q → ev (d + 18) 22 0 [.ref 39] [] (fx ν) = some (some .null, fx μ) → ClR (ev (d + 18) 22 0 [.ref 39] [] (fx ν)) ν (no0 q) := fun f e h => ⟨_, f.kq.le (Nat.zero_le _) (Nat.zero_le _), fun k => ⟨by rw [f.rR], by rw [f.rR]⟩, e, fun c => (by cases c), fun _ => h⟩
  unfold pCl
  revert w1 w2 w3 h1 h2 h3
  obtain ⟨b, q, w⟩ := pHd ch p
  intro w1 w2 w3 h1 h2 h3
  have h2 : q ≤ n := h2
  have h3 : w < 3 := h3
  cases b with
  | false => exact fin f1 w1 (w3 rfl)
  | true =>
    obtain ⟨w4, r1⟩ := w2 rfl
    have w4 : ev (d + 18) 22 0 [.ref 39] [] (fx ν) = ev (d + 18) 22 5 [.ref 39, .int (Int32.ofNat w)] [] (fx ν1) := w4
    have r1 : Rd ν1 q [] := r1
    have g1 := g.fr f1
    obtain ⟨n1, n2⟩ := s_27 (d + 16) g1 r1 h2
    rw [if_pos rfl]
    show ClR _ ν (match pNum ch q with
      | none => no0 q
      | some (v, q) => if ch q = 32 then (match pAny (pOne (chS 1) ch 5) ch (q + 1) with
        | (true, q3, ts) => (true, q3, (Int32.ofNat w, Int32.ofNat v, ts))
        | (false, q3, _) => no0 q3) else no0 q)
    cases e : pNum ch q with
    | none =>
      refine fin f1 w1 ?_
      rw [w4, e_22_5, n1 e, bnd_1, app1, e_22_6, if_pos (by decide), e_22_11]
    | some vq =>
      obtain ⟨v, q2⟩ := vq
      obtain ⟨v1, v2, v3⟩ := pNum_ok hx e
      obtain ⟨ν2, e2, f2, r2⟩ := n2 v q2 e
      have g2 := g1.fr f2
      have hv0 : ¬ Int32.ofNat v < 0 := by
        show ¬ Int32.ofNat v < Int32.ofNat 0
        rw [O_lt (by omega) (by omega)]; omega
      have n32 := s_29v (d + 16) 32 (c := 32) rfl g2 r2 v3 (by decide)
      have e5 : ev (d + 18) 22 0 [.ref 39] [] (fx ν) = bnd 1 (if ch q2 = 32 then some (some (.int 1), fx (sI ν2 39 5 (Int32.ofNat (q2 + 1)))) else some (some (.int 0), fx ν2)) fun rs μ1 => ev (d + 18) 22 8 [.ref 39, .int (Int32.ofNat w), .int (Int32.ofNat v)] (rs ++ []) μ1 := by
        rw [w4, e_22_5, e2, bnd_1, app1, e_22_6, if_neg hv0, e_22_7, n32]
      show ClR _ ν (if ch q2 = 32 then (match pAny (pOne (chS 1) ch 5) ch (q2 + 1) with
        | (true, q3, ts) => (true, q3, (Int32.ofNat w, Int32.ofNat v, ts))
        | (false, q3, _) => no0 q3) else no0 q2)
      by_cases c : ch q2 = 32
      · rw [if_pos c] at e5
        have hq2 : q2 < n := hx.lt c (by decide)
        obtain ⟨f3, r3⟩ := Fr.rd (q2 + 1) r2
        have g3 := g2.fr f3
        have hw := s_24s d g3 r3 hq2 (Nat.zero_le _)
        have gw := pE_gd (s := 1) hx (by decide) (p := q2 + 1) hq2
        have e6 : ev (d + 18) 22 0 [.ref 39] [] (fx ν) = bnd 1 (ev (d + 17) 24 0 [.ref 39, .int 0] [] (fx (sI ν2 39 5 (Int32.ofNat (q2 + 1))))) fun rs μ1 => ev (d + 18) 22 10 [.ref 39, .int (Int32.ofNat w), .int (Int32.ofNat v)] (rs ++ []) μ1 := by
          rw [e5, bnd_1, app1, e_22_8, if_neg (by decide), e_22_9]
        rw [if_pos c]
        revert hw gw
        obtain ⟨b, q3, ts⟩ := pAny (pOne (chS 1) ch 5) ch (q2 + 1)
        rintro ⟨ν4, f4, x2, x3, x4⟩ gw
        cases b with
        | false =>
          refine fin (((f1.tr f2).tr f3).tr f4) x2.1 ?_
          rw [e6, x4 rfl, bnd_1, app1, e_22_10, if_pos rfl, e_22_11]
        | true =>
          obtain ⟨x5, x6⟩ := x3 rfl
          have x6 : Rd ν4 q3 ts := x6
          obtain ⟨a2, a3, a4⟩ := gw.2 rfl
          have a2 : q2 + 1 + ts.length + 2 ≤ q3 := a2
          have a5 : q3 ≤ n := gw.1.2
          have hn := hx.1
          obtain ⟨M, m1, m2, m3⟩ := s_21 (d + 16) x6 (by omega) (okTs_k a3) (a4 0 (by omega)) (Int32.ofNat w) (Int32.ofNat v)
          have f14 := ((f1.tr f2).tr f3).tr f4
          refine ⟨M, (f14.kq.tr m2.kq).le (by omega) (by omega), fun k => ⟨?_, ?_⟩, ?_, fun _ => ⟨_, ?_, m3⟩, fun c => by cases c⟩
          · rw [(m2.2.1 39 (by omega)).2, f14.rR]
          · rw [(m2.2.1 40 (by omega)).2, f14.rR]
          · rw [(m2.2.1 39 (by omega)).1]
            exact x6.1
          · rw [e6, x5]
            show bnd 1 (some (some (.int 1), fx ν4)) _ = _
            rw [bnd_1, app1, e_22_10, if_neg (by decide), e_22_12, m1]
            show bnd 3 (some (some (rv (some (msz ν4 + 57))), fx M)) _ = _
            rw [bnd_3, app1, e_22_13, asN_s]
      · rw [if_neg c] at e5
        rw [if_neg c]
        refine fin (f1.tr f2) r2.1 ?_
        rw [e5, bnd_1, app1, e_22_8, if_pos rfl, e_22_11]
