/-! the class's reader: words; the head of a CLAUSE -/
abbrev PWs : Type := Bool × Nat
def pAll (ch : Nat → Nat) : List Nat → Nat → PWs
  | [], p => (true, p)
  | c :: l, p => if ch p = c then pAll ch l (p + 1) else (false, p)
theorem pAll_app {ch : Nat → Nat} : ∀ {a b : List Nat} {p : Nat}, pAll ch (a ++ b) p = match pAll ch a p with
    | (true, q) => pAll ch b q
    | (false, q) => (false, q)
  | [], _, _ => rfl
  | c :: a, b, p => by
    show (if ch p = c then pAll ch (a ++ b) (p + 1) else (false, p)) = match (if ch p = c then pAll ch a (p + 1) else (false, p)) with
      | (true, q) => pAll ch b q
      | (false, q) => (false, q)
    by_cases e : ch p = c
    · rw [if_pos e, if_pos e]
      exact pAll_app
    · rw [if_neg e, if_neg e]
theorem pAll_gd {ch : Nat → Nat} {n : Nat} (h : okTx ch n) : ∀ {l : List Nat} {p : Nat}, (∀ c, c ∈ l → c < 128) → p ≤ n → p ≤ (pAll ch l p).2 ∧ (pAll ch l p).2 ≤ n ∧ ((pAll ch l p).1 = true → (pAll ch l p).2 = p + l.length)
  | [], p, _, hp => ⟨Nat.le_refl _, hp, fun _ => rfl⟩
  | c :: l, p, hl, hp => by
    show p ≤ (if ch p = c then pAll ch l (p + 1) else (false, p)).2 ∧ (if ch p = c then pAll ch l (p + 1) else (false, p)).2 ≤ n ∧ ((if ch p = c then pAll ch l (p + 1) else (false, p)).1 = true → (if ch p = c then pAll ch l (p + 1) else (false, p)).2 = p + (l.length + 1))
    by_cases e : ch p = c
    · have hp1 : p < n := h.lt e (hl c (by simp))
      obtain ⟨h1, h2, h3⟩ := pAll_gd h (l := l) (p := p + 1) (fun c hc => hl c (List.mem_cons_of_mem _ hc)) hp1
      rw [if_pos e]
      exact ⟨by omega, h2, fun c => by rw [h3 c]; omega⟩
    · rw [if_neg e]
      exact ⟨Nat.le_refl _, hp, fun c => by cases c⟩
theorem s_28 (d : Nat) {n s i : Nat} {ch : Nat → Nat} (hi : i < 13) {ts : List Int32} : ∀ (m k p : Nat) (ν : MM), k + m = strN i → CxR ν n s ch → Rd ν p ts → p ≤ n → ∃ ν', ev (d + 4) 28 1 [.ref 39, .ref i, .int (Int32.ofNat k)] [] (fx ν) = some (some (.int (bI (pAll ch ((chS i).drop k) p).1)), fx ν') ∧ Fr RP QN ν ν' ∧ Rd ν' (pAll ch ((chS i).drop k) p).2 ts := by
  obtain ⟨hl, hl5⟩ := chS_len i hi
  intro m
  induction m with
  | zero =>
    intro k p ν hk g r hpn
    obtain ⟨h1, h2⟩ := g.2.1 i hi
    have h3 : Int32.ofNat (strN i) ≤ Int32.ofNat k := by rw [O_le (by omega) (by omega)]; omega
    have e0 : ev (d + 4) 28 1 [.ref 39, .ref i, .int (Int32.ofNat k)] [] (fx ν) = ev (d + 4) 28 8 [] [] (fx ν) := by
      rw [e_28_1, sh30 ν hi]
      show bnd 1 (ev (d + 3) 196 0 [.ref i] [] (fx ν)) _ = _
      rw [s_196 _ hi h1, bnd_1, app1, e_28_2, if_pos h3]
    rw [e0, List.drop_eq_nil_of_le (by omega), e_28_8]
    exact ⟨ν, rfl, Fr.rf, r⟩
  | succ m ih =>
    intro k p ν hk g r hpn
    obtain ⟨h1, h2⟩ := g.2.1 i hi
    have h3 : ¬ Int32.ofNat (strN i) ≤ Int32.ofNat k := by rw [O_le (by omega) (by omega)]; omega
    obtain ⟨q1, q2, q3, q4⟩ := strB_ch (i := i) (j := k) hi (by omega)
    have hd : (chS i).drop k = (chS i).getD k 0 :: (chS i).drop (k + 1) := by
      rw [List.drop_eq_getElem_cons (by omega), List.getD_eq_getElem?_getD, List.getElem?_eq_getElem (by omega)]
      rfl
    have e0 : ev (d + 4) 28 1 [.ref 39, .ref i, .int (Int32.ofNat k)] [] (fx ν) = bnd 1 (ev (d + 2 + 1) 29 0 [.ref 39, .int (Int32.ofNat ((chS i).getD k 0))] [] (fx ν)) fun rs μ1 => ev (d + 4) 28 5 [.ref 39, .ref i, .int (Int32.ofNat k)] (rs ++ []) μ1 := by
      rw [e_28_1, sh30 ν hi]
      show bnd 1 (ev (d + 3) 196 0 [.ref i] [] (fx ν)) _ = _
      rw [s_196 _ hi h1, bnd_1, app1, e_28_2, if_neg h3, e_28_3, sh30 ν hi]
      show bnd 1 (ev (d + 3) 197 0 [.ref i, .int (Int32.ofNat k)] [] (fx ν)) _ = _
      rw [s_197 d g.2.1 hi (by omega), bnd_1, app1, e_28_4]
    rw [e0, s_29 (d + 2) g r hpn (by omega), hd]
    show ∃ ν', bnd 1 (if ch p = (chS i).getD k 0 then _ else _) _ = some (some (.int (bI (if ch p = (chS i).getD k 0 then pAll ch ((chS i).drop (k + 1)) (p + 1) else (false, p)).1)), fx ν') ∧ Fr RP QN ν ν' ∧ Rd ν' (if ch p = (chS i).getD k 0 then pAll ch ((chS i).drop (k + 1)) (p + 1) else (false, p)).2 ts
    by_cases c : ch p = (chS i).getD k 0
    · rw [if_pos c, if_pos c]
      have hp : p < n := g.1.2.1.lt c q2
      obtain ⟨f1, r1⟩ := Fr.rd (p + 1) r
      obtain ⟨ν', w1, w2, w3⟩ := ih (k + 1) (p + 1) _ (by omega) (g.fr f1) r1 hp
      refine ⟨ν', ?_, f1.tr w2, w3⟩
      rw [bnd_1, app1, e_28_5, if_neg (by decide), e_28_7, O_p1, w1]
    · rw [if_neg c, if_neg c]
      refine ⟨ν, ?_, Fr.rf, r⟩
      rw [bnd_1, app1, e_28_5, if_pos rfl, e_28_6]
      rfl
/-- reads on: to K when it is well, else the answer is null -/
def Cnn (E : Rs) (K : MM → Rs) (ν : MM) (b : Bool) (q : Nat) (ts : List Int32) : Prop := ∃ ν', Fr RP QN ν ν' ∧ gI ν' 39 5 = Int32.ofNat q ∧ (b = true → E = K ν' ∧ Rd ν' q ts) ∧ (b = false → E = some (some .null, fx ν'))
abbrev PHs : Type := Bool × Nat × Nat
def pHd (ch : Nat → Nat) (p : Nat) : PHs := if ch p = 116 then ((pAll ch (chS 8) p).1, (pAll ch (chS 8) p).2, 0) else if ch p = 100 then (if ch (p + 1) = 114 then ((pAll ch (chS 10) (p + 1)).1, (pAll ch (chS 10) (p + 1)).2, 1) else ((pAll ch (chS 11) (p + 1)).1, (pAll ch (chS 11) (p + 1)).2, 2)) else (false, p, 0)
theorem ch8 : chS 8 = chS 2 ++ [32] := by decide
theorem ch10 : chS 10 = chS 3 ++ [32] := by decide
theorem ch11 : chS 11 = chS 4 ++ [32] := by decide
theorem ch_lo (i : Nat) (hi : i < 13) : ∀ c, c ∈ chS i → c < 128 := by
  have q : ∀ i, i < 13 → ∀ c, c ∈ chS i → c < 128 := by decide
  exact q i hi
/-- a word of signs, and the blank behind it -/
theorem s_22w (d : Nat) {ν ν0 : MM} {n s i j w p : Nat} {ch : Nat → Nat} (hi : i < 13) (hj : chS j = chS i ++ [32]) (hw : w < 3) (g : CxR ν n s ch) (r : Rd ν p []) (hpn : p ≤ n) (f0 : Fr RP QN ν0 ν) {E : Rs} (e : ∀ b ν', ev (d + 4) 28 0 [.ref 39, .ref i] [] (fx ν) = some (some (.int (bI b)), fx ν') → E = bnd 1 (some (some (.int (if b = true then Int32.ofNat w else -1)), fx ν')) fun rs μ1 => ev (d + 6) 22 1 [.ref 39] (rs ++ []) μ1) : Cnn E (fun μ => ev (d + 6) 22 5 [.ref 39, .int (Int32.ofNat w)] [] (fx μ)) ν0 (pAll ch (chS j) p).1 (pAll ch (chS j) p).2 [] := by
  obtain ⟨ν1, w1, w2, w3⟩ := s_28 d hi (ts := []) (strN i) 0 p ν (by omega) g r hpn
  rw [List.drop_zero] at w1 w3
  have e1 := e _ ν1 ((e_28_0 ..).trans w1)
  rw [hj, pAll_app]
  obtain ⟨a1, a2, a3⟩ := pAll_gd g.1.2.1 (ch_lo i hi) hpn
  revert e1 w3 a1 a2 a3
  obtain ⟨b, q⟩ := pAll ch (chS i) p
  intro w3 e1 a1 a2 a3
  have w3 : Rd ν1 q [] := w3
  have e1 : E = bnd 1 (some (some (.int (if b = true then Int32.ofNat w else -1)), fx ν1)) fun rs μ1 => ev (d + 6) 22 1 [.ref 39] (rs ++ []) μ1 := e1
  cases b with
  | false =>
    refine ⟨ν1, f0.tr w2, w3.1, fun c => (by cases c), fun _ => ?_⟩
    rw [e1, if_neg (by decide), bnd_1, app1, e_22_1, if_pos (by decide), e_22_4]
  | true =>
    have hq : q ≤ n := a2
    have n32 := s_29v (d + 4) 32 (c := 32) rfl (g.fr w2) w3 hq (by decide)
    have hw0 : ¬ Int32.ofNat w < 0 := by
      show ¬ Int32.ofNat w < Int32.ofNat 0
      rw [O_lt (by omega) (by omega)]; omega
    have e2 : E = bnd 1 (if ch q = 32 then some (some (.int 1), fx (sI ν1 39 5 (Int32.ofNat (q + 1)))) else some (some (.int 0), fx ν1)) fun rs μ1 => ev (d + 6) 22 3 [.ref 39, .int (Int32.ofNat w)] (rs ++ []) μ1 := by
      rw [e1, if_pos rfl, bnd_1, app1, e_22_1, if_neg hw0, e_22_2, n32]
    show Cnn E _ ν0 (if ch q = 32 then (true, q + 1) else (false, q)).1 (if ch q = 32 then (true, q + 1) else (false, q)).2 []
    rw [e2]
    by_cases c : ch q = 32
    · rw [if_pos c, if_pos c]
      obtain ⟨f1, r1⟩ := Fr.rd (q + 1) w3
      refine ⟨_, (f0.tr w2).tr f1, r1.1, fun _ => ⟨?_, r1⟩, fun c => by cases c⟩
      rw [bnd_1, app1, e_22_3, if_neg (by decide)]
    · rw [if_neg c, if_neg c]
      refine ⟨_, f0.tr w2, w3.1, fun c => (by cases c), fun _ => ?_⟩
      rw [bnd_1, app1, e_22_3, if_pos rfl, e_22_4]
theorem bnd_23 (d : Nat) {x : Int32} {μ : MM} {E : Rs} (h : E = some (some (.int x), μ)) : bnd 1 E (fun rs μ1 => ev d 22 1 [.ref 39] (rs ++ []) μ1) = bnd 1 (some (some (.int x), μ)) fun rs μ1 => ev d 22 1 [.ref 39] (rs ++ []) μ1 := by rw [h]
theorem s_22a (d : Nat) {ν : MM} {n s p : Nat} {ch : Nat → Nat} (g : CxR ν n s ch) (hp : gI ν 39 5 = Int32.ofNat p) (hpn : p ≤ n) : Cnn (ev (d + 6) 22 0 [.ref 39] [] (fx ν)) (fun μ => ev (d + 6) 22 5 [.ref 39, .int (Int32.ofNat (pHd ch p).2.2)] [] (fx μ)) ν (pHd ch p).1 (pHd ch p).2.1 [] := by
  have f0 : Fr RP QN ν (sI ν 39 3 0) := Fr.wI _ rfl
  have r0 : Rd (sI ν 39 3 0) p [] := ⟨by rw [gI_sI, if_neg (by omega)]; exact hp, by rw [gI_sI, if_pos ⟨rfl, rfl⟩]; rfl, Nat.zero_le _, fun j hj => absurd hj (Nat.not_lt_zero j)⟩
  have g0 := g.fr f0
  have hc := g.ch p
  have hc1 := g.ch (p + 1)
  have q1 : (Int32.ofNat (ch p) = 116) = (ch p = 116) := O_eq (b := 116) (by omega) (by decide)
  have q3 : (Int32.ofNat (ch (p + 1)) = 114) = (ch (p + 1) = 114) := O_eq (b := 114) (by omega) (by decide)
  unfold pHd
  by_cases c1 : ch p = 116
  · rw [if_pos c1]
    refine s_22w d (i := 2) (j := 8) (w := 0) (by decide) ch8 (by decide) g0 r0 hpn f0 fun b ν' e => ?_
    rw [e_22_0, e_23_0, s_30 _ g0 r0.1 hpn, bnd_1, app1, e_23_1, if_pos (by rw [q1]; exact c1), e_23_2, e, bnd_1, app1, e_23_3, bI_0]
    cases b with
    | true =>
      rw [if_pos rfl, if_pos rfl]
      refine bnd_23 _ ?_
      rw [e_23_4, e_23_6]
      rfl
    | false =>
      rw [if_neg (by decide), if_neg (by decide)]
      refine bnd_23 _ ?_
      rw [e_23_5, e_23_6]
  · rw [if_neg c1]
    have n100 := s_29v (d + 3) 100 (c := 100) rfl g0 r0 hpn (by decide)
    have e1 : ev (d + 6) 22 0 [.ref 39] [] (fx ν) = bnd 1 (bnd 1 (if ch p = 100 then some (some (.int 1), fx (sI (sI ν 39 3 0) 39 5 (Int32.ofNat (p + 1)))) else some (some (.int 0), fx (sI ν 39 3 0))) fun rs μ1 => ev (d + 5) 23 8 [.ref 39] (rs ++ []) μ1) fun rs μ1 => ev (d + 6) 22 1 [.ref 39] (rs ++ []) μ1 := by
      rw [e_22_0, e_23_0, s_30 _ g0 r0.1 hpn, bnd_1, app1, e_23_1, if_neg (by rw [q1]; exact c1), e_23_7, n100]
    rw [e1]
    by_cases c2 : ch p = 100
    · rw [if_pos c2, if_pos c2]
      have hp1 : p < n := g.1.2.1.lt c2 (by decide)
      obtain ⟨f1, r1⟩ := Fr.rd (p + 1) r0
      have g1 := g0.fr f1
      rw [bnd_1, app1, e_23_8, if_neg (by decide), e_23_10, s_30 _ g1 r1.1 hp1, bnd_1, app1, e_23_11]
      by_cases c3 : ch (p + 1) = 114
      · rw [if_pos c3, if_pos (by rw [q3]; exact c3)]
        refine s_22w d (i := 3) (j := 10) (w := 1) (by decide) ch10 (by decide) g1 r1 hp1 (f0.tr f1) fun b ν' e => ?_
        rw [e_23_12, e, bnd_1, app1, e_23_13, bI_0]
        cases b with
        | true =>
          rw [if_pos rfl, if_pos rfl]
          refine bnd_23 _ ?_
          rw [e_23_14, e_23_16]
          rfl
        | false =>
          rw [if_neg (by decide), if_neg (by decide)]
          refine bnd_23 _ ?_
          rw [e_23_15, e_23_16]
      · rw [if_neg c3, if_neg (by rw [q3]; exact c3)]
        refine s_22w d (i := 4) (j := 11) (w := 2) (by decide) ch11 (by decide) g1 r1 hp1 (f0.tr f1) fun b ν' e => ?_
        rw [e_23_17, e, bnd_1, app1, e_23_18, bI_0]
        cases b with
        | true =>
          rw [if_pos rfl, if_pos rfl]
          refine bnd_23 _ ?_
          rw [e_23_19, e_23_21]
          rfl
        | false =>
          rw [if_neg (by decide), if_neg (by decide)]
          refine bnd_23 _ ?_
          rw [e_23_20, e_23_21]
    · rw [if_neg c2, if_neg c2]
      refine ⟨_, f0, r0.1, fun c => (by cases c), fun _ => ?_⟩
      rw [bnd_1, app1, e_23_8, if_pos rfl, e_23_9, bnd_1, app1, e_22_1, if_pos (by decide), e_22_4]
