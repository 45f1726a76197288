/-! the class's reader: COASTS and SAYINGS -/
def pCo (ch : Nat → Nat) : Nat → Nat → List Cl → Bool × Nat × List Cl
  | 0, p, cs => (true, p, cs)
  | f + 1, p, cs => match pCl ch p with
    | (true, q, c) => if f ≠ 0 ∧ ch q = 59 then pCo ch f (q + 1) (cs ++ [c]) else (true, q, cs ++ [c])
    | (false, q, _) => (false, q, [])
def ClS (ν : MM) (cs : List Cl) : Prop := ∀ i, (h : i < cs.length) → ∃ c, gR ν 40 i = some c ∧ ClA ν c cs[i]
theorem ClS.gr {ν μ : MM} {cs : List Cl} (f : Gr ν μ) (hF : Fsh ν) (h : ∀ k, gR μ 40 k = gR ν 40 k) (g : ClS ν cs) : ClS μ cs := fun i hi => by
  obtain ⟨c, h1, h2⟩ := g i hi
  exact ⟨c, by rw [h]; exact h1, h2.gr f hF⟩
theorem fx_sI (μ : MM) (q k : Nat) (v : Int32) : sI (fx μ) q k v = fx (sI μ q k v) := rfl
theorem Kp.w40 {ν : MM} (k : Nat) (v : Option Nat) : Kp ν (sR ν 40 k v) := Kp.wR v (by decide) ⟨by decide, by decide, by decide⟩ (fun h => by omega) (fun h => by omega)
theorem Kq.w40 {ν : MM} (k : Nat) (v : Option Nat) : Kq ν (sR ν 40 k v) 0 0 := ⟨Kp.w40 k v, fun q _ h => ⟨rfl, funext fun b => by rw [gR_sR, if_neg (by omega)]⟩, Nat.le_refl _, Nat.le_refl _⟩
theorem ClS.put {ν : MM} {cs : List Cl} {c : Nat} {cl : Cl} (hF : Fsh ν) (g : ClS ν cs) (h : ClA ν c cl) : ClS (sR ν 40 cs.length (some c)) (cs ++ [cl]) := fun i hi => by
  have gr := (Kp.w40 (ν := ν) cs.length (some c)).1
  rw [List.length_append, List.length_singleton] at hi
  by_cases e : i = cs.length
  · subst e
    refine ⟨c, by rw [gR_sR, if_pos ⟨rfl, rfl⟩], ?_⟩
    rw [List.getElem_append_right (Nat.le_refl _)]
    simp only [Nat.sub_self, List.getElem_cons_zero]
    exact h.gr gr hF
  · have hi' : i < cs.length := by omega
    obtain ⟨c', h1, h2⟩ := g i hi'
    refine ⟨c', by rw [gR_sR, if_neg (by omega)]; exact h1, ?_⟩
    rw [List.getElem_append_left hi']
    exact h2.gr gr hF
/-- what reading CLAUSES comes to -/
def CoR (d : Nat) (E : Rs) (ν : MM) (m s : Nat) (r : Bool × Nat × List Cl) : Prop := ∃ ν', Kq ν ν' m s ∧ gI ν' 39 5 = Int32.ofNat r.2.1 ∧ (r.1 = true → E = ev (d + 19) 18 12 [.ref 39, .int (Int32.ofNat r.2.2.length)] [] (fx ν') ∧ ClS ν' r.2.2) ∧ (r.1 = false → E = some (some .null, fx ν'))
theorem s_18l (d : Nat) {n : Nat} {ch : Nat → Nat} : ∀ (f p : Nat) (cs : List Cl) (ν : MM), cs.length + (f + 1) = 10 → CxR ν n 1 ch → gI ν 39 5 = Int32.ofNat p → p ≤ n → ClS ν cs → Fsh ν → CoR d (ev (d + 19) 18 3 [.ref 39, .int (Int32.ofNat cs.length)] [] (fx ν)) ν (2 * (f + 1)) (103 * (f + 1)) (pCo ch (f + 1) p cs) := by
  intro f
  induction f with
  | zero =>
    intro p cs ν hf g hp hpn hs hF
    obtain ⟨ν1, k1, k39, w1, w2, w3⟩ := s_22 d g hp hpn
    show CoR d _ ν 2 103 (match pCl ch p with
      | (true, q, c) => if 0 ≠ 0 ∧ ch q = 59 then pCo ch 0 (q + 1) (cs ++ [c]) else (true, q, cs ++ [c])
      | (false, q, _) => (false, q, []))
    revert w1 w2 w3
    obtain ⟨b, q, c⟩ := pCl ch p
    intro w1 w2 w3
    cases b with
    | false =>
      refine ⟨ν1, k1, w1, fun c => (by cases c), fun _ => ?_⟩
      rw [e_18_3, w3 rfl, bnd_3n, app1]
      show ev (d + 19) 18 4 [.ref 39, .int (Int32.ofNat cs.length)] [rv none] (fx ν1) = _
      rw [e_18_4, asN_n, e_18_5]
    | true =>
      obtain ⟨a, e1, h1⟩ := w2 rfl
      have h1 : ClA ν1 a c := h1
      have hF1 := k1.1.2.1 hF
      have hs1 := hs.gr k1.1.1 hF (fun k => (k39 k).2)
      have h10 : (10 : Int32) ≤ Int32.ofNat (cs.length + 1) := by
        show Int32.ofNat 10 ≤ Int32.ofNat (cs.length + 1)
        rw [O_le (by omega) (by omega)]; omega
      show CoR d _ ν 2 103 (if 0 ≠ 0 ∧ ch q = 59 then pCo ch 0 (q + 1) (cs ++ [c]) else (true, q, cs ++ [c]))
      rw [if_neg (fun h => h.1 rfl)]
      refine ⟨sR ν1 40 cs.length (some a), (k1.tr (Kq.w40 _ _)).le (by omega) (by omega), w1, fun _ => ⟨?_, hs1.put hF1 h1⟩, fun c => by cases c⟩
      rw [e_18_3, e1]
      show bnd 3 (some (some (rv (some a)), fx ν1)) _ = _
      rw [bnd_3, app1, e_18_4, asN_s, e_18_6, h1.2.1, inb_O (by omega) (by omega), show ((cin [3] 3 || false) && true) = true from rfl, gd_t, O_p1, if_pos h10, tn_O (by omega), fx_sR _ _ rfl, e_18_10, e_18_11, e_18_1, if_pos rfl, List.length_append, List.length_singleton]
  | succ f ih =>
    intro p cs ν hf g hp hpn hs hF
    obtain ⟨ν1, k1, k39, w1, w2, w3⟩ := s_22 d g hp hpn
    have gw := pCl_gd g.1.2.1 hpn
    show CoR d _ ν (2 * (f + 1 + 1)) (103 * (f + 1 + 1)) (match pCl ch p with
      | (true, q, c) => if f + 1 ≠ 0 ∧ ch q = 59 then pCo ch (f + 1) (q + 1) (cs ++ [c]) else (true, q, cs ++ [c])
      | (false, q, _) => (false, q, []))
    revert w1 w2 w3 gw
    obtain ⟨b, q, c⟩ := pCl ch p
    intro w1 w2 w3 gw
    cases b with
    | false =>
      refine ⟨ν1, k1.le (by omega) (by omega), w1, fun c => (by cases c), fun _ => ?_⟩
      rw [e_18_3, w3 rfl, bnd_3n, app1]
      show ev (d + 19) 18 4 [.ref 39, .int (Int32.ofNat cs.length)] [rv none] (fx ν1) = _
      rw [e_18_4, asN_n, e_18_5]
    | true =>
      obtain ⟨a, e1, h1⟩ := w2 rfl
      have h1 : ClA ν1 a c := h1
      have hq : q ≤ n := gw.1.2
      have w1 : gI ν1 39 5 = Int32.ofNat q := w1
      have hF1 := k1.1.2.1 hF
      have hs1 := hs.gr k1.1.1 hF (fun k => (k39 k).2)
      have h10 : ¬ (10 : Int32) ≤ Int32.ofNat (cs.length + 1) := by
        show ¬ Int32.ofNat 10 ≤ Int32.ofNat (cs.length + 1)
        rw [O_le (by omega) (by omega)]; omega
      obtain ⟨ν2, hν2⟩ : ∃ ν2, ν2 = sR ν1 40 cs.length (some a) := ⟨_, rfl⟩
      have k2 : Kq ν ν2 2 103 := by rw [hν2]; exact (k1.tr (Kq.w40 _ _)).le (by omega) (by omega)
      have s2 : ClS ν2 (cs ++ [c]) := by rw [hν2]; exact hs1.put hF1 h1
      have r2 : ∀ k, gR ν2 39 k = gR ν 39 k := fun k => by rw [hν2, gR_sR, if_neg (by omega)]; exact (k39 k).1
      have i2 : gI ν2 39 5 = Int32.ofNat q := by rw [hν2]; exact w1
      have g2 := g.kq k2 (r2 4)
      have hF2 := k2.1.2.1 hF
      have hL : (cs ++ [c]).length = cs.length + 1 := by rw [List.length_append, List.length_singleton]
      have hc := g.ch q
      have e0 : ev (d + 19) 18 3 [.ref 39, .int (Int32.ofNat cs.length)] [] (fx ν) = bnd 1 (ev (d + 18) 29 0 [.ref 39, .int 59] [] (fx ν2)) fun rs μ1 => ev (d + 19) 18 8 [.ref 39, .int (Int32.ofNat (cs.length + 1))] (rs ++ []) μ1 := by
        rw [e_18_3, e1]
        show bnd 3 (some (some (rv (some a)), fx ν1)) _ = _
        rw [bnd_3, app1, e_18_4, asN_s, e_18_6, h1.2.1, inb_O (by omega) (by omega), show ((cin [3] 3 || false) && true) = true from rfl, gd_t, O_p1, if_neg h10, tn_O (by omega), fx_sR _ _ rfl, ← hν2, e_18_7]
      have q59 : (Int32.ofNat (ch q) = 59) = (ch q = 59) := O_eq (b := 59) (by omega) (by decide)
      have n59 : ev (d + 18) 29 0 [.ref 39, .int 59] [] (fx ν2) = if ch q = 59 then some (some (.int 1), fx (sI ν2 39 5 (Int32.ofNat (q + 1)))) else some (some (.int 0), fx ν2) := by
        rw [e_29_0, s_30 _ g2 i2 hq, bnd_1, app1, e_29_1]
        by_cases e : ch q = 59
        · rw [if_pos e, if_pos (by rw [q59]; exact e), e_29_3, i2, O_p1]
        · rw [if_neg e, if_neg (by rw [q59]; exact e), e_29_2]
      show CoR d _ ν (2 * (f + 1 + 1)) (103 * (f + 1 + 1)) (if f + 1 ≠ 0 ∧ ch q = 59 then pCo ch (f + 1) (q + 1) (cs ++ [c]) else (true, q, cs ++ [c]))
      by_cases c59 : ch q = 59
      · rw [if_pos ⟨Nat.succ_ne_zero f, c59⟩]
        have hq1 : q < n := g.1.2.1.lt c59 (by decide)
        have f3 : Fr RP QN ν2 (sI ν2 39 5 (Int32.ofNat (q + 1))) := Fr.wI _ rfl
        obtain ⟨ν4, k4, x1, x2, x3⟩ := ih (q + 1) (cs ++ [c]) (sI ν2 39 5 (Int32.ofNat (q + 1))) (by rw [hL]; omega) (g2.fr f3) (by rw [gI_sI, if_pos ⟨rfl, rfl⟩]) hq1 (s2.gr f3.kpR.1 hF2 (fun k => rfl)) (f3.fsh hF2)
        have e3 : ev (d + 19) 18 3 [.ref 39, .int (Int32.ofNat cs.length)] [] (fx ν) = ev (d + 19) 18 3 [.ref 39, .int (Int32.ofNat (cs ++ [c]).length)] [] (fx (sI ν2 39 5 (Int32.ofNat (q + 1)))) := by
          have h10' : ¬ (10 : Int32) ≤ Int32.ofNat (cs ++ [c]).length := by rw [hL]; exact h10
          rw [e0, n59, if_pos c59, bnd_1, app1, e_18_8, if_neg (by decide), e_18_9, e_18_11, e_18_1, if_neg (by decide), ← hL, e_18_2, if_neg h10']
        exact ⟨ν4, ((k2.tr f3.kq).tr k4).le (by omega) (by omega), x1, fun h => ⟨e3.trans (x2 h).1, (x2 h).2⟩, fun h => e3.trans (x3 h)⟩
      · rw [if_neg (fun h => c59 h.2)]
        refine ⟨ν2, k2.le (by omega) (by omega), i2, fun _ => ⟨?_, s2⟩, fun c => by cases c⟩
        rw [e0, n59, if_neg c59, bnd_1, app1, e_18_8, if_pos rfl, e_18_10, e_18_11, e_18_1, if_pos rfl, hL]
theorem s_19l (d : Nat) {ν : MM} {cs : List Cl} (hc : cs.length ≤ 10) (hs : ClS ν cs) (hF : Fsh ν) : ∀ (m i : Nat) (M : MM), i + m = cs.length → Wa (msz ν + 57) (alx ν 24 cs.length cs.length) M → (∀ k, k < i → gR M (msz ν + 57) k = gR ν 40 k) → ∃ M', ev d 19 1 [.ref 39, .ref (msz ν + 57), .int (Int32.ofNat i)] [] (fx M) = some (some (.ref (msz ν + 57)), fx M') ∧ Wa (msz ν + 57) (alx ν 24 cs.length cs.length) M' ∧ ∀ k, k < cs.length → gR M' (msz ν + 57) k = gR ν 40 k := by
  intro m
  induction m with
  | zero =>
    intro i M hi hW hk
    have sA : shp (fx M) (msz ν + 57) = 24 := by rw [shp_fx _ (by omega), hW.1, shp_alx, if_pos rfl]
    have aA : aln (fx M) (msz ν + 57) = cs.length := by rw [aln_fx _ (by omega), hW.2.1, aln_alx, if_pos rfl]
    refine ⟨M, ?_, hW, fun k h => hk k (by omega)⟩
    rw [e_19_1, sA, aA, show cin [20, 21, 22, 23, 24, 25, 31, 32] 24 = true from rfl, gd_t, if_pos (by rw [O_le (by omega) (by omega)]; omega), e_19_4]
  | succ m ih =>
    intro i M hi hW hk
    have sA : shp (fx M) (msz ν + 57) = 24 := by rw [shp_fx _ (by omega), hW.1, shp_alx, if_pos rfl]
    have aA : aln (fx M) (msz ν + 57) = cs.length := by rw [aln_fx _ (by omega), hW.2.1, aln_alx, if_pos rfl]
    obtain ⟨c, h1, h2⟩ := hs i (by omega)
    have hcl := h2.lt hF
    have r40 : gR M 40 i = some c := by rw [(hW.2.2.2.2 40 (by omega)).2, gR_alx, if_neg (by omega)]; exact h1
    have sc : shp (fx M) c = 3 := by
      have := h2.2.1
      rw [shp_fx _ h2.1] at this ⊢
      rw [hW.1, shp_alx, if_neg (by omega)]
      exact this
    have h10 : ¬ (10 : Int32) ≤ Int32.ofNat i := by
      show ¬ Int32.ofNat 10 ≤ Int32.ofNat i
      rw [O_le (by omega) (by omega)]; omega
    obtain ⟨M', e1, e2, e3⟩ := ih (i + 1) (sR M (msz ν + 57) i (some c)) (by omega) (hW.tr (Wa.wR _ _)) (fun k h => by
      rw [gR_sR]
      by_cases e : k = i
      · rw [if_pos ⟨rfl, e⟩, e, h1]
      · rw [if_neg (fun h => e h.2)]
        exact hk k (by omega))
    refine ⟨M', ?_, e2, e3⟩
    rw [e_19_1, sA, aA, show cin [20, 21, 22, 23, 24, 25, 31, 32] 24 = true from rfl, gd_t, if_neg (by rw [O_le (by omega) (by omega)]; omega), e_19_2, if_neg h10, e_19_3, inb_O (by omega) (by omega), gd_t, tn_O (by omega), r40, asN_s, sA, sc, aA, inb_O (by omega) (by omega)]
    show gd true _ = _
    rw [gd_t, fx_sR _ _ (fxR_hi i (by omega)), O_p1]
    exact e1
theorem s_19 (d : Nat) {ν : MM} {cs : List Cl} (hc : cs.length ≤ 10) (hs : ClS ν cs) (hF : Fsh ν) : ∃ M, ev d 19 0 [.ref 39, .int (Int32.ofNat cs.length)] [] (fx ν) = some (some (.ref (msz ν + 57)), fx M) ∧ Nw ν M 1 cs.length ∧ CoA M (msz ν + 57) cs := by
  obtain ⟨M, e1, e2, e3⟩ := s_19l d hc hs hF cs.length 0 (alx ν 24 cs.length cs.length) (by omega) Wa.rf (fun k h => absurd h (Nat.not_lt_zero k))
  have mx : (if 0 < Int32.ofNat cs.length then Int32.ofNat cs.length else 0) = Int32.ofNat cs.length := by
    by_cases h0 : 0 < Int32.ofNat cs.length
    · rw [if_pos h0]
    · have h0' : ¬ Int32.ofNat 0 < Int32.ofNat cs.length := h0
      rw [O_lt (by omega) (by omega)] at h0'
      have : cs.length = 0 := by omega
      rw [if_neg h0, this]
      rfl
  have nw := e2.nw
  refine ⟨M, ?_, nw, ?_, ?_, hc, fun j hj => ?_⟩
  · rw [e_19_0, mx, tn_O (by omega)]
    refine (congrArg (fun z => gd z _) (and_t (n0_t (by omega)) (Nat.ble_eq.mpr (by omega)))).trans ?_
    rw [gd_t, fx_alc]
    exact e1
  · rw [shp_fx _ (by omega), e2.1, shp_alx, if_pos rfl]
  · rw [aln_fx _ (by omega), e2.2.1, aln_alx, if_pos rfl]
  · obtain ⟨c, h1, h2⟩ := hs j hj
    exact ⟨c, by rw [gR_fx _ _ (by omega), e3 j hj]; exact h1, h2.gr nw.1.1 hF⟩
/-- THE TAPE of the class -/
def TpR (ν : MM) (n : Nat) (ch : Nat → Nat) : Prop := gI ν 29 1 = Int32.ofNat n ∧ okTx ch n ∧ ∀ p, p < n → gI ν 30 p = Int32.ofNat (ch p)
theorem Kp.w39 {ν : MM} (v : Option Nat) : Kp ν (sR ν 39 4 v) := Kp.wR v (by decide) ⟨by decide, by decide, by decide⟩ (fun h => by omega) (fun h => by omega)
theorem Kq.w39 {ν : MM} (v : Option Nat) : Kq ν (sR ν 39 4 v) 0 0 := ⟨Kp.w39 v, fun q _ h => ⟨rfl, funext fun b => by rw [gR_sR, if_neg (by omega)]⟩, Nat.le_refl _, Nat.le_refl _⟩
def CoG (n : Nat) (r : Bool × Nat × List Cl) : Prop := r.2.1 ≤ n ∧ (r.1 = true → okCs r.2.2 ∧ tln r.2.2 ≤ n)
theorem pCo_gd {ch : Nat → Nat} {n : Nat} (h : okTx ch n) : ∀ (f p : Nat) (cs : List Cl), p ≤ n → tln cs ≤ p → cs.length + f ≤ 10 → (∀ c ∈ cs, okcl c) → (∀ c ∈ cs, okTs 4 c.2.2) → CoG n (pCo ch f p cs)
  | 0, p, cs, hp, ht, hl, h1, h2 => ⟨hp, fun _ => ⟨⟨h1, by show cs.length ≤ 10; omega, h2⟩, by show tln cs ≤ n; omega⟩⟩
  | f + 1, p, cs, hp, ht, hl, h1, h2 => by
    have gw := pCl_gd h hp
    show CoG n (match pCl ch p with
      | (true, q, c) => if f ≠ 0 ∧ ch q = 59 then pCo ch f (q + 1) (cs ++ [c]) else (true, q, cs ++ [c])
      | (false, q, _) => (false, q, []))
    revert gw
    obtain ⟨b, q, c⟩ := pCl ch p
    intro gw
    have hq : q ≤ n := gw.1.2
    cases b with
    | false => exact ⟨hq, fun c => by cases c⟩
    | true =>
      obtain ⟨a1, a2, a3⟩ := gw.2 rfl
      have a1 : p + c.2.2.length + 1 ≤ q := a1
      have tl : ∀ (cs : List Cl), tln (cs ++ [c]) = tln cs + (c.2.2.length + 1) := by
        intro cs
        induction cs with
        | nil =>
          show c.2.2.length + 1 + 0 = 0 + (c.2.2.length + 1)
          omega
        | cons x cs ih =>
          show x.2.2.length + 1 + tln (cs ++ [c]) = x.2.2.length + 1 + tln cs + (c.2.2.length + 1)
          rw [ih]; omega
      have hL : (cs ++ [c]).length = cs.length + 1 := by rw [List.length_append, List.length_singleton]
      have h1' : ∀ x ∈ cs ++ [c], okcl x := fun x hx => (List.mem_append.mp hx).elim (h1 x) (fun hx => by rw [List.mem_singleton.mp hx]; exact a2)
      have h2' : ∀ x ∈ cs ++ [c], okTs 4 x.2.2 := fun x hx => (List.mem_append.mp hx).elim (h2 x) (fun hx => by rw [List.mem_singleton.mp hx]; exact a3)
      show CoG n (if f ≠ 0 ∧ ch q = 59 then pCo ch f (q + 1) (cs ++ [c]) else (true, q, cs ++ [c]))
      by_cases c59 : f ≠ 0 ∧ ch q = 59
      · rw [if_pos c59]
        have hq1 : q < n := h.lt c59.2 (by decide)
        exact pCo_gd h f (q + 1) (cs ++ [c]) hq1 (by rw [tl]; omega) (by rw [hL]; omega) h1' h2'
      · rw [if_neg c59]
        exact ⟨hq, fun _ => ⟨⟨h1', by rw [hL]; omega, h2'⟩, by show tln (cs ++ [c]) ≤ n; rw [tl]; omega⟩⟩
/-- a COAST -/
theorem s_18 (d : Nat) {ν : MM} {n : Nat} {ch : Nat → Nat} (t : TpR ν n ch) (hS : Str ν) (hF : Fsh ν) : ∃ ν', Kq ν ν' 21 1040 ∧ gI ν' 39 5 = Int32.ofNat (pCo ch 10 0 []).2.1 ∧ ((pCo ch 10 0 []).1 = true → (pCo ch 10 0 []).2.1 = n → ∃ A, 57 ≤ A ∧ ev (d + 19) 18 0 [.ref 39] [] (fx ν) = some (some (.ref A), fx ν') ∧ CoA ν' A (pCo ch 10 0 []).2.2) ∧ (¬ ((pCo ch 10 0 []).1 = true ∧ (pCo ch 10 0 []).2.1 = n) → ev (d + 19) 18 0 [.ref 39] [] (fx ν) = some (some .null, fx ν')) := by
  obtain ⟨ν0, hν0⟩ : ∃ ν0, ν0 = sI (sR ν 39 4 (some 1)) 39 5 0 := ⟨_, rfl⟩
  have k0 : Kq ν ν0 0 0 := by rw [hν0]; exact (Kq.w39 (ν := ν) _).tr (Fr.wI (P := RP) (Q := QN) (ν := sR ν 39 4 (some 1)) (q := 39) (k := 5) 0 rfl).kq
  have r0 : gR ν0 39 4 = some 1 := by rw [hν0]; rfl
  have i0 : gI ν0 39 5 = Int32.ofNat 0 := by rw [hν0]; rfl
  have g0 : CxR ν0 n 1 ch := ⟨⟨by rw [(k0.2.1 29 (by omega) (by omega)).1]; exact t.1, t.2.1, fun p hp => by rw [(k0.2.1 30 (by omega) (by omega)).1]; exact t.2.2 p hp⟩, k0.str hS, r0, by decide, by decide⟩
  have hF0 := k0.1.2.1 hF
  obtain ⟨ν1, k1, w1, w2, w3⟩ := s_18l d 9 0 [] ν0 rfl g0 i0 (Nat.zero_le _) (fun i hi => absurd hi (Nat.not_lt_zero i)) hF0
  have gw := pCo_gd t.2.1 10 0 [] (Nat.zero_le _) (Nat.le_refl _) (by decide) (fun c hc => by cases hc) (fun c hc => by cases hc)
  have e0 : ev (d + 19) 18 0 [.ref 39] [] (fx ν) = ev (d + 19) 18 3 [.ref 39, .int (Int32.ofNat ([] : List Cl).length)] [] (fx ν0) := by
    rw [e_18_0, fx_sR _ _ rfl, fx_sI, ← hν0, e_18_1, if_neg (by decide), e_18_2, if_neg (by decide)]
    rfl
  have n29 : gI ν1 29 1 = Int32.ofNat n := by rw [(k1.2.1 29 (by omega) (by omega)).1]; exact g0.1.1
  revert w1 w2 w3 gw
  obtain ⟨b, q, cs⟩ := pCo ch 10 0 []
  intro w1 w2 w3 gw
  have w1 : gI ν1 39 5 = Int32.ofNat q := w1
  have hq : q ≤ n := gw.1
  have hn := t.2.1.1
  cases b with
  | false => exact ⟨ν1, (k0.tr k1).le (by omega) (by omega), w1, fun c => (by cases c), fun _ => e0.trans (w3 rfl)⟩
  | true =>
    obtain ⟨w4, w5⟩ := w2 rfl
    have w5 : ClS ν1 cs := w5
    have hcs : cs.length ≤ 10 := (gw.2 rfl).1.2.1
    have w4 : ev (d + 19) 18 3 [.ref 39, .int (Int32.ofNat ([] : List Cl).length)] [] (fx ν0) = ev (d + 19) 18 12 [.ref 39, .int (Int32.ofNat cs.length)] [] (fx ν1) := w4
    by_cases e : q = n
    · obtain ⟨M, m1, m2, m3⟩ := s_19 (d + 18) hcs w5 (k1.1.2.1 hF0)
      refine ⟨M, ((k0.tr k1).tr m2.kq).le (by omega) (by omega), ?_, fun _ _ => ⟨msz ν1 + 57, Nat.le_add_left _ _, ?_, m3⟩, fun h => absurd ⟨rfl, e⟩ h⟩
      · rw [(m2.2.1 39 (by omega)).1]; exact w1
      · rw [e0, w4, e_18_12, w1, n29, if_pos (by rw [e]), e_18_13, m1]
        show bnd 3 (some (some (rv (some (msz ν1 + 57))), fx M)) _ = _
        rw [bnd_3, app1, e_18_14, e_18_16a, asN_s]
    · have ne : ¬ Int32.ofNat q = Int32.ofNat n := by rw [O_eq (by omega) (by omega)]; exact e
      refine ⟨ν1, (k0.tr k1).le (by omega) (by omega), w1, fun _ h => absurd h e, fun _ => ?_⟩
      rw [e0, w4, e_18_12, w1, n29, if_neg ne, e_18_15, e_18_16]
/-- a SAYING -/
theorem s_20 (d : Nat) {ν : MM} {n : Nat} {ch : Nat → Nat} (t : TpR ν n ch) (hS : Str ν) : ∃ ν', Kq ν ν' 2 103 ∧ gI ν' 39 5 = Int32.ofNat (pAny (pOne (chS 6) ch 5) ch 0).2.1 ∧ ((pAny (pOne (chS 6) ch 5) ch 0).1 = true → (pAny (pOne (chS 6) ch 5) ch 0).2.1 = n → ∃ c, ev (d + 18) 20 0 [.ref 39] [] (fx ν) = some (some (.ref c), fx ν') ∧ ClA ν' c (3, 0, (pAny (pOne (chS 6) ch 5) ch 0).2.2)) ∧ (¬ ((pAny (pOne (chS 6) ch 5) ch 0).1 = true ∧ (pAny (pOne (chS 6) ch 5) ch 0).2.1 = n) → ev (d + 18) 20 0 [.ref 39] [] (fx ν) = some (some .null, fx ν')) := by
  obtain ⟨ν0, hν0⟩ : ∃ ν0, ν0 = sI (sI (sR ν 39 4 (some 6)) 39 5 0) 39 3 0 := ⟨_, rfl⟩
  have k0 : Kq ν ν0 0 0 := by rw [hν0]; exact ((Kq.w39 (ν := ν) _).tr (Fr.wI (P := RP) (Q := QN) (ν := sR ν 39 4 (some 6)) (q := 39) (k := 5) 0 rfl).kq).tr (Fr.wI (P := RP) (Q := QN) (q := 39) (k := 3) 0 rfl).kq
  have r0 : gR ν0 39 4 = some 6 := by rw [hν0]; rfl
  have i0 : Rd ν0 0 [] := ⟨by rw [hν0]; rfl, by rw [hν0]; rfl, Nat.zero_le _, fun j hj => absurd hj (Nat.not_lt_zero j)⟩
  have g0 : CxR ν0 n 6 ch := ⟨⟨by rw [(k0.2.1 29 (by omega) (by omega)).1]; exact t.1, t.2.1, fun p hp => by rw [(k0.2.1 30 (by omega) (by omega)).1]; exact t.2.2 p hp⟩, k0.str hS, r0, by decide, by decide⟩
  have hw := s_24s d g0 i0 (Nat.zero_le _) (Nat.zero_le _)
  have gw := pE_gd (s := 6) t.2.1 (by decide) (p := 0) (Nat.zero_le _)
  have e0 : ev (d + 18) 20 0 [.ref 39] [] (fx ν) = bnd 1 (ev (d + 17) 24 0 [.ref 39, .int 0] [] (fx ν0)) fun rs μ1 => ev (d + 18) 20 1 [.ref 39] (rs ++ []) μ1 := by
    rw [e_20_0, fx_sR _ _ rfl, fx_sI, fx_sI, ← hν0]
  revert hw gw
  obtain ⟨b, q, ts⟩ := pAny (pOne (chS 6) ch 5) ch 0
  rintro ⟨ν1, f1, w0, w2, w3⟩ gw
  have w1 : gI ν1 39 5 = Int32.ofNat q := w0.1
  have hq : q ≤ n := gw.1.2
  have hn := t.2.1.1
  have n29 : gI ν1 29 1 = Int32.ofNat n := by rw [(f1.kq.2.1 29 (by omega) (by omega)).1]; exact g0.1.1
  cases b with
  | false =>
    refine ⟨ν1, (k0.tr f1.kq).le (by omega) (by omega), w1, fun c => (by cases c), fun _ => ?_⟩
    rw [e0, w3 rfl, bnd_1, app1, e_20_1, if_pos rfl, e_20_5, e_20_6]
  | true =>
    obtain ⟨w4, w5⟩ := w2 rfl
    have w5 : Rd ν1 q ts := w5
    obtain ⟨a2, a3, a4⟩ := gw.2 rfl
    have a2 : 0 + ts.length + 2 ≤ q := a2
    by_cases e : q = n
    · obtain ⟨M, m1, m2, m3⟩ := s_21 (d + 16) w5 (by omega) (okTs_k a3) (a4 0 (by omega)) 3 0
      refine ⟨M, ((k0.tr f1.kq).tr m2.kq).le (by omega) (by omega), ?_, fun _ _ => ⟨_, ?_, m3⟩, fun h => absurd ⟨rfl, e⟩ h⟩
      · rw [(m2.2.1 39 (by omega)).1]; exact w1
      · rw [e0, w4]
        show bnd 1 (some (some (.int 1), fx ν1)) _ = _
        rw [bnd_1, app1, e_20_1, if_neg (by decide), e_20_2, w1, n29, if_pos (by rw [e]), e_20_3, m1]
        show bnd 3 (some (some (rv (some (msz ν1 + 57))), fx M)) _ = _
        rw [bnd_3, app1, e_20_4, e_20_6a, asN_s]
    · have ne : ¬ Int32.ofNat q = Int32.ofNat n := by rw [O_eq (by omega) (by omega)]; exact e
      refine ⟨ν1, (k0.tr f1.kq).le (by omega) (by omega), w1, fun _ h => absurd h e, fun _ => ?_⟩
      rw [e0, w4]
      show bnd 1 (some (some (.int 1), fx ν1)) _ = _
      rw [bnd_1, app1, e_20_1, if_neg (by decide), e_20_2, w1, n29, if_neg ne, e_20_5, e_20_6]
