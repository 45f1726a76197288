/-! the class's reader: & and |, ! and ( -/
theorem Gd.and {n B m p0 p q : Nat} {us ws : List Int32} (g : Gd n B (m + 1) p0 (true, p, us)) (w : Gd n B m (p + 1) (true, q, ws)) : Gd n B (m + 1) p0 (true, q, us ++ ws ++ [6]) := by
  obtain ⟨⟨a1, a2⟩, a3⟩ := g
  obtain ⟨⟨b1, b2⟩, b3⟩ := w
  obtain ⟨a4, a5, a6⟩ := a3 rfl
  obtain ⟨b4, b5, b6⟩ := b3 rfl
  have a1 : p0 ≤ p := a1
  have b1 : p + 1 ≤ q := b1
  have a4 : p0 + us.length + 2 ≤ p := a4
  have b4 : p + 1 + ws.length + 2 ≤ q := b4
  refine ⟨⟨by show p0 ≤ q; omega, b2⟩, fun _ => ⟨?_, okTs_app (okTs_app a5 b5) okTs_6, fun hh hl => ?_⟩⟩
  · show p0 + (us ++ ws ++ [6]).length + 2 ≤ q
    rw [List.length_append, List.length_append, List.length_singleton]
    omega
  · have e1 : hg us hh = some (hh + 1) := a6 hh hl
    have e2 : hg ws (hh + 1) = some (hh + 1 + 1) := b6 (hh + 1) (by omega)
    show hg (us ++ ws ++ [6]) hh = some (hh + 1)
    rw [List.append_assoc, hg_app e1, hg_app e2, hg_6]
theorem Gd.or {n B m p0 p q : Nat} {us ws : List Int32} (g : Gd n B (m + 1) p0 (true, p, us)) (w : Gd n B m (p + 1) (true, q, ws)) : Gd n B (m + 1) p0 (true, q, us ++ ws ++ [7]) := by
  obtain ⟨⟨a1, a2⟩, a3⟩ := g
  obtain ⟨⟨b1, b2⟩, b3⟩ := w
  obtain ⟨a4, a5, a6⟩ := a3 rfl
  obtain ⟨b4, b5, b6⟩ := b3 rfl
  have a1 : p0 ≤ p := a1
  have b1 : p + 1 ≤ q := b1
  have a4 : p0 + us.length + 2 ≤ p := a4
  have b4 : p + 1 + ws.length + 2 ≤ q := b4
  refine ⟨⟨by show p0 ≤ q; omega, b2⟩, fun _ => ⟨?_, okTs_app (okTs_app a5 b5) okTs_7, fun hh hl => ?_⟩⟩
  · show p0 + (us ++ ws ++ [7]).length + 2 ≤ q
    rw [List.length_append, List.length_append, List.length_singleton]
    omega
  · have e1 : hg us hh = some (hh + 1) := a6 hh hl
    have e2 : hg ws (hh + 1) = some (hh + 1 + 1) := b6 (hh + 1) (by omega)
    show hg (us ++ ws ++ [7]) hh = some (hh + 1)
    rw [List.append_assoc, hg_app e1, hg_app e2, hg_7]
/-- what reading one F does, at a depth -/
def OnE (n s : Nat) (ch : Nat → Nat) (v1 : Int32) (m e : Nat) (one : Nat → PRs) : Prop := (∀ p, p ≤ n → Gd n (chS s).length m p (one p)) ∧ ∀ (d : Nat) (ν : MM) (p : Nat) (ts : List Int32), CxR ν n s ch → Rd ν p ts → p ≤ n → ts.length ≤ p → Cnt (ev (d + e) 25 0 [.ref 39, .int v1] [] (fx ν)) K1 ν ts (one p)
theorem Cnt.pre {E : Rs} {K : MM → Rs} {ν μ : MM} {ts us vs : List Int32} {b : Bool} {q : Nat} (f : Fr RP QN ν μ) (h : Cnt E K μ (ts ++ us) (b, q, vs)) : Cnt E K ν ts (b, q, us ++ vs) := by
  obtain ⟨ν', h1, h2, h3, h4⟩ := h
  exact ⟨ν', f.tr h1, h2, fun c => ⟨(h3 c).1, by rw [← List.append_assoc]; exact (h3 c).2⟩, h4⟩
theorem lt100 {k : Nat} (h : k < 100) : ¬ (100 : Int32) ≤ Int32.ofNat k := by
  show ¬ Int32.ofNat 100 ≤ Int32.ofNat k
  rw [O_le (by omega) (by omega)]; omega
theorem s_24a (d : Nat) {n s m e : Nat} {ch : Nat → Nat} {v1 v3 : Int32} {one : Nat → PRs} (ho : OnE n s ch v1 m e one) (he : 0 < e) (p0 : Nat) (ts : List Int32) (hl : ts.length ≤ p0) : ∀ (f k p : Nat) (us : List Int32) (ν : MM), k + f = 100 → CxR ν n s ch → Rd ν p (ts ++ us) → Gd n (chS s).length (m + 1) p0 (true, p, us) → Cnt (ev (d + e + 1) 24 7 [.ref 39, .int v1, .int v3, .int (Int32.ofNat k)] [] (fx ν)) (fun μ => ev (d + e + 1) 24 15 [.ref 39, .int v1, .int v3] [] (fx μ)) ν ts (pAnd one ch f p us)
  | 0, k, p, us, ν, hk, g, r, gd => by
    refine Cnt.yes Fr.rf r ?_
    have hk' : k = 100 := by omega
    rw [hk', e_24_7, if_pos (by decide)]
  | f + 1, k, p, us, ν, hk, g, r, gd => by
    obtain ⟨e', rfl⟩ : ∃ e', e = e' + 1 := ⟨e - 1, by omega⟩
    have hpn : p ≤ n := gd.1.2
    have hn := g.1.2.1.1
    have a0 : p0 ≤ p := gd.1.1
    have a1 : p0 + us.length + 2 ≤ p := (gd.2 rfl).1
    have h29 := s_29 (d + e') (c := 38) g r hpn (by decide)
    have e0 : ev (d + (e' + 1) + 1) 24 7 [.ref 39, .int v1, .int v3, .int (Int32.ofNat k)] [] (fx ν) = bnd 1 (ev (d + e' + 1) 29 0 [.ref 39, .int (Int32.ofNat 38)] [] (fx ν)) fun rs μ1 => ev (d + (e' + 1) + 1) 24 9 [.ref 39, .int v1, .int v3, .int (Int32.ofNat k)] (rs ++ []) μ1 := by
      rw [e_24_7, if_neg (lt100 (by omega)), e_24_8]
      rfl
    rw [e0, h29]
    show Cnt _ _ ν ts (if ch p = 38 then (match one (p + 1) with
      | (true, q, ws) => pAnd one ch f q (us ++ ws ++ [6])
      | (false, q, _) => (false, q, [])) else (true, p, us))
    by_cases c : ch p = 38
    · rw [if_pos c, if_pos c]
      have hp : p < n := g.1.2.1.lt c (by decide)
      obtain ⟨f1, r1⟩ := Fr.rd (p + 1) r
      have g1 := g.fr f1
      have hw := ho.2 d _ (p + 1) (ts ++ us) g1 r1 hp (by rw [List.length_append]; omega)
      have gw := ho.1 (p + 1) hp
      revert hw gw
      obtain ⟨b, q, ws⟩ := one (p + 1)
      rintro ⟨ν2, f2, w2, w3, w4⟩ gw
      cases b with
      | false =>
        refine Cnt.no (f1.tr f2) w2 ?_
        rw [bnd_1, app1, e_24_9, if_neg (by decide), e_24_10, w4 rfl, bnd_1, app1, e_24_11, if_pos rfl, e_24_12]
      | true =>
        obtain ⟨w5, w6⟩ := w3 rfl
        have b4 : p + 1 + ws.length + 2 ≤ q := (gw.2 rfl).1
        have b5 : q ≤ n := gw.1.2
        have w6 : Rd ν2 q (ts ++ us ++ ws) := w6
        obtain ⟨ν3, e3, f3, r3⟩ := s_31 (d + (e' + 1)) w6 (by rw [List.length_append, List.length_append]; omega) 6
        have g3 := (g1.fr f2).fr f3
        have gd3 := Gd.and gd gw
        have r3' : Rd ν3 q (ts ++ (us ++ ws ++ [6])) := by
          rw [← List.append_assoc, ← List.append_assoc]
          exact r3
        obtain ⟨ν4, f4, x2, x3, x4⟩ := s_24a d ho (Nat.succ_pos _) p0 ts hl f (k + 1) q (us ++ ws ++ [6]) ν3 (by omega) g3 r3' gd3
        have e4 : bnd 1 (some (some (.int 1), fx (sI ν 39 5 (Int32.ofNat (p + 1))))) (fun rs μ1 => ev (d + (e' + 1) + 1) 24 9 [.ref 39, .int v1, .int v3, .int (Int32.ofNat k)] (rs ++ []) μ1) = ev (d + (e' + 1) + 1) 24 7 [.ref 39, .int v1, .int v3, .int (Int32.ofNat (k + 1))] [] (fx ν3) := by
          rw [bnd_1, app1, e_24_9, if_neg (by decide), e_24_10, w5]
          show bnd 1 (some (some (.int 1), fx ν2)) _ = _
          rw [bnd_1, app1, e_24_11, if_neg (by decide), e_24_13, e3, bnd_0, app0, e_24_14, O_p1]
        rw [e4]
        exact ⟨ν4, ((f1.tr f2).tr f3).tr f4, x2, x3, x4⟩
    · rw [if_neg c, if_neg c]
      refine Cnt.yes Fr.rf r ?_
      rw [bnd_1, app1, e_24_9, if_pos rfl]
