/-! the class's reader: a TEST, and what is made of them -/
theorem u16_O (c : Nat) (hc : c ≤ 128) : ((Int32.ofNat c).toUInt32 % 65536).toInt32 = Int32.ofNat c := by
  have q : ∀ c, c < 129 → ((Int32.ofNat c).toUInt32 % 65536).toInt32 = Int32.ofNat c := by decide +kernel
  exact q c (by omega)
theorem neg1_lt : ¬ (0 : Int32) ≤ -1 := by decide
theorem pos_O {a : Nat} (h : a ≤ 1000000) : (0 : Int32) ≤ Int32.ofNat a := by
  show Int32.ofNat 0 ≤ Int32.ofNat a
  rw [O_le (by omega) (by omega)]; omega
theorem ch5 : chS 5 = [60, 61, 62] := by decide
theorem tok_O (a b v : Nat) (ha : a < 5) (hb : b < 3) (hv : v < 100) : (Int32.ofNat a ||| Int32.ofNat b <<< (3 &&& 31)) ||| Int32.ofNat v <<< (5 &&& 31) = Int32.ofNat (a + 8 * b + 32 * v) := by
  have q : ∀ a, a < 5 → ∀ b, b < 3 → ∀ v, v < 100 → (Int32.ofNat a ||| Int32.ofNat b <<< (3 &&& 31)) ||| Int32.ofNat v <<< (5 &&& 31) = Int32.ofNat (a + 8 * b + 32 * v) := by decide +kernel
  exact q a ha b hb v hv
theorem Cnt.no {E : Rs} {K : MM → Rs} {ν ν' : MM} {ts : List Int32} {q : Nat} {us : List Int32} (f : Fr RP QN ν ν') (h : Plc ν' q) (e : E = some (some (.int 0), fx ν')) : Cnt E K ν ts (false, q, us) := ⟨ν', f, h, fun c => (by cases c), fun _ => e⟩
theorem Cnt.yes {E : Rs} {K : MM → Rs} {ν ν' : MM} {ts us : List Int32} {q : Nat} (f : Fr RP QN ν ν') (h : Rd ν' q (ts ++ us)) (e : E = K ν') : Cnt E K ν ts (true, q, us) := ⟨ν', f, h.plc, fun _ => ⟨e, h⟩, fun c => by cases c⟩
theorem s_26 (d : Nat) {ν : MM} {n s p : Nat} {ch : Nat → Nat} (g : CxR ν n s ch) {ts : List Int32} (h : Rd ν p ts) (hpn : p ≤ n) (hn : ∀ c, c ∈ chS s → c < 128) (hl : ts.length ≤ p) : Cnt (ev (d + 5) 26 0 [.ref 39] [] (fx ν)) K1 ν ts (pTst (chS s) ch p) := by
  have hS := g.2.1
  have hs := g.2.2.2.1
  have hs0 := g.2.2.2.2
  have hnl := chS_len s hs
  have e0 : ev (d + 5) 26 0 [.ref 39] [] (fx ν) = ev (d + 5) 26 2 [.ref 39] [.int (ixI (chS s) (ch p))] (fx ν) := by
    rw [e_26_0 _ _ s g.2.2.1, s_30 _ g h.1 hpn, bnd_1, app1, e_26_1, sh30 ν hs]
    show bnd 1 (ev (d + 4) 198 0 [.ref s, .int ((Int32.ofNat (ch p)).toUInt32 % 65536).toInt32] [] (fx ν)) _ = _
    rw [u16_O _ (g.ch p), s_198 d hS hs hs0 (g.ch p), bnd_1, app1]
  unfold pTst
  rw [e0]
  unfold ixI
  cases i1 : ixN (chS s) (ch p) with
  | none => exact Cnt.no Fr.rf h.plc (by rw [e_26_2, if_neg neg1_lt, e_26_3])
  | some a =>
    have ha := ixN_lt i1
    have hp : p < n := g.1.2.1.lt rfl (hn _ (ixN_mem i1))
    obtain ⟨f1, r1⟩ := Fr.rd (p + 1) h
    have g1 := g.fr f1
    have e1 : ev (d + 5) 26 2 [.ref 39] [.int (Int32.ofNat a)] (fx ν) = ev (d + 5) 26 6 [.ref 39, .int (Int32.ofNat a)] [.int (ixI (chS 5) (ch (p + 1)))] (fx (sI ν 39 5 (Int32.ofNat (p + 1)))) := by
      rw [e_26_2, if_pos (pos_O (by omega)), e_26_4, h.1, O_p1, s_30 _ g1 r1.1 hp, bnd_1, app1, e_26_5, sh30 _ (by decide)]
      show bnd 1 (ev (d + 4) 198 0 [.ref 5, .int ((Int32.ofNat (ch (p + 1))).toUInt32 % 65536).toInt32] [] (fx (sI ν 39 5 (Int32.ofNat (p + 1))))) _ = _
      rw [u16_O _ (g.ch _), s_198 d g1.2.1 (by decide) (by decide) (g.ch _), bnd_1, app1]
    show Cnt (ev (d + 5) 26 2 [.ref 39] [.int (Int32.ofNat a)] (fx ν)) K1 ν ts (match ixN [60, 61, 62] (ch (p + 1)) with
      | none => (false, p + 1, [])
      | some h => match pNum ch (p + 2) with
        | none => (false, p + 2, [])
        | some (v, q) => (true, q, [Int32.ofNat (a + 8 * h + 32 * v)]))
    rw [e1, ch5]
    unfold ixI
    cases i2 : ixN [60, 61, 62] (ch (p + 1)) with
    | none => exact Cnt.no f1 r1.plc (by rw [e_26_6, if_neg neg1_lt, e_26_7])
    | some b =>
      have hb : b < 3 := ixN_lt i2
      have hp1 : p + 1 < n := by
        refine g.1.2.1.lt rfl ?_
        have := ixN_mem i2
        simp at this
        omega
      obtain ⟨f2, r2⟩ := Fr.rd (p + 2) r1
      have g2 := g1.fr f2
      obtain ⟨n1, n2⟩ := s_27 (d + 3) g2 r2 hp1
      have e2 : ev (d + 5) 26 6 [.ref 39, .int (Int32.ofNat a)] [.int (Int32.ofNat b)] (fx (sI ν 39 5 (Int32.ofNat (p + 1)))) = bnd 1 (ev (d + 4) 27 0 [.ref 39] [] (fx (sI (sI ν 39 5 (Int32.ofNat (p + 1))) 39 5 (Int32.ofNat (p + 2))))) fun rs μ1 => ev (d + 5) 26 9 [.ref 39, .int (Int32.ofNat a), .int (Int32.ofNat b)] (rs ++ []) μ1 := by
        rw [e_26_6, if_pos (pos_O (by omega)), e_26_8, r1.1, O_p1]
      show Cnt (ev (d + 5) 26 6 [.ref 39, .int (Int32.ofNat a)] [.int (Int32.ofNat b)] (fx (sI ν 39 5 (Int32.ofNat (p + 1))))) K1 ν ts (match pNum ch (p + 2) with
        | none => (false, p + 2, [])
        | some (v, q) => (true, q, [Int32.ofNat (a + 8 * b + 32 * v)]))
      rw [e2]
      cases i3 : pNum ch (p + 2) with
      | none => exact Cnt.no (f1.tr f2) r2.plc (by rw [n1 i3, bnd_1, app1, e_26_9, if_neg neg1_lt, e_26_10])
      | some vq =>
        obtain ⟨v, q⟩ := vq
        obtain ⟨v1, v2, v3⟩ := pNum_ok g.1.2.1 i3
        obtain ⟨ν3, e3, f3, r3⟩ := n2 v q i3
        obtain ⟨ν4, e4, f4, r4⟩ := s_31 (d + 4) r3 (by have := g.1.2.1.1; omega) (Int32.ofNat (a + 8 * b + 32 * v))
        refine Cnt.yes (((f1.tr f2).tr f3).tr f4) r4 ?_
        rw [e3, bnd_1, app1, e_26_9, if_pos (pos_O (by omega)), e_26_11, e_12_0, tok_O a b v (by omega) hb v1, bnd_1, app1, e_26_12, e4, bnd_0, app0, e_26_13]
        rfl
