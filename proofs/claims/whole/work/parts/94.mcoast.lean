/-! the model's reader: COASTS and SAYINGS -/
def stl : List Cl → List Int32
  | [] => []
  | c :: cs => (c.2.2.map cvt ++ [kst c.1 c.2.1]) ++ stl cs
theorem stl_app (c : Cl) : ∀ (cs : List Cl), stl (cs ++ [c]) = stl cs ++ (c.2.2.map cvt ++ [kst c.1 c.2.1])
  | [] => by
    show (c.2.2.map cvt ++ [kst c.1 c.2.1]) ++ [] = [] ++ (c.2.2.map cvt ++ [kst c.1 c.2.1])
    rw [List.append_nil, List.nil_append]
  | x :: cs => by
    show (x.2.2.map cvt ++ [kst x.1 x.2.1]) ++ stl (cs ++ [c]) = ((x.2.2.map cvt ++ [kst x.1 x.2.1]) ++ stl cs) ++ (c.2.2.map cvt ++ [kst c.1 c.2.1])
    rw [stl_app c cs, ← List.append_assoc]
theorem stl_len : ∀ (cs : List Cl), (stl cs).length = tln cs
  | [] => rfl
  | c :: cs => by
    show ((c.2.2.map cvt ++ [kst c.1 c.2.1]) ++ stl cs).length = c.2.2.length + 1 + tln cs
    rw [List.length_append, List.length_append, List.length_map, List.length_singleton, stl_len cs]
theorem StA_of {ν : MM} {S : Nat} : ∀ {cs : List Cl} {i : Nat}, (∀ c ∈ cs, okcl c) → (∀ j, (h : j < (stl cs).length) → gI ν S (i + j) = (stl cs)[j]) → StA ν S i cs
  | [], _, _, _ => trivial
  | c :: cs, i, h1, h2 => by
    have hL : (stl (c :: cs)).length = c.2.2.length + 1 + tln cs := stl_len (c :: cs)
    have hm : (c.2.2.map cvt).length = c.2.2.length := List.length_map ..
    have hm1 : (c.2.2.map cvt ++ [kst c.1 c.2.1]).length = c.2.2.length + 1 := by rw [List.length_append, hm, List.length_singleton]
    have hx : ((c.2.2.map cvt ++ [kst c.1 c.2.1]) ++ stl cs).length = c.2.2.length + 1 + tln cs := hL
    have h2 : ∀ j, (h : j < ((c.2.2.map cvt ++ [kst c.1 c.2.1]) ++ stl cs).length) → gI ν S (i + j) = ((c.2.2.map cvt ++ [kst c.1 c.2.1]) ++ stl cs)[j] := h2
    refine ⟨h1 c (by simp), fun j hj => ?_, ?_, StA_of (fun c hc => h1 c (List.mem_cons_of_mem _ hc)) fun j hj => ?_⟩
    · rw [h2 j (by omega), List.getElem_append_left (by omega), List.getElem_append_left (by omega), List.getElem_map]
    · rw [h2 c.2.2.length (by omega), List.getElem_append_left (by omega), List.getElem_append_right (by omega)]
      simp
    · have hj' := hj
      rw [stl_len] at hj'
      rw [show i + c.2.2.length + 1 + j = i + (c.2.2.length + 1 + j) by omega, h2 (c.2.2.length + 1 + j) (by omega), List.getElem_append_right (by omega)]
      congr 1
      omega
def CoM (d : Nat) (E : Rs) (A : Nat) (ν : MM) (r : Bool × Nat × List Cl) : Prop := ∃ ν', E = ev (d + 27) 131 10 [.ref 46] [] (fx ν') ∧ (r.1 = true → Fr (PM A) QN ν ν' ∧ gI ν' 46 9 = gI ν 46 9 ∧ Md ν' A r.2.1 (stl r.2.2)) ∧ (r.1 = false → Wr ν ν' A r.2.1)
theorem m_131l (d : Nat) {n A : Nat} {ch : Nat → Nat} : ∀ (f p : Nat) (cs : List Cl) (ν : MM) (E : Rs), cs.length + (f + 1) = 10 → CxM ν n 7 A ch → Md ν A p (stl cs) → gI ν 46 9 = Int32.ofNat 0 → p ≤ n → tln cs ≤ p → (∀ ν', ev (d + 26) 129 0 [.ref 46] [] (fx ν) = some (none, fx ν') → E = ev (d + 27) 131 4 [.ref 46, .int (Int32.ofNat (cs.length + 1))] [] (fx ν')) → CoM d E A ν (pCo ch (f + 1) p cs) := by
  intro f
  induction f with
  | zero =>
    intro p cs ν E hf g h h9 hpn ht hE
    obtain ⟨ν1, e1, w1, w2⟩ := m_129 d g h h9 hpn (by rw [stl_len]; exact ht)
    have e2 := hE ν1 e1
    show CoM d E A ν (match pCl ch p with
      | (true, q, c) => if 0 ≠ 0 ∧ ch q = 59 then pCo ch 0 (q + 1) (cs ++ [c]) else (true, q, cs ++ [c])
      | (false, q, _) => (false, q, []))
    revert w1 w2
    obtain ⟨b, q, c⟩ := pCl ch p
    intro w1 w2
    cases b with
    | false =>
      have w := w2 rfl
      refine ⟨ν1, ?_, fun c => (by cases c), fun _ => w⟩
      rw [e2, e_131_4, w.2.2.2, if_neg wr1]
    | true =>
      obtain ⟨f1, i1, r1⟩ := w1 rfl
      have h10 : (10 : Int32) ≤ Int32.ofNat (cs.length + 1) := by
        show Int32.ofNat 10 ≤ Int32.ofNat (cs.length + 1)
        rw [O_le (by omega) (by omega)]; omega
      show CoM d E A ν (if 0 ≠ 0 ∧ ch q = 59 then pCo ch 0 (q + 1) (cs ++ [c]) else (true, q, cs ++ [c]))
      rw [if_neg (fun h => h.1 rfl)]
      refine ⟨ν1, ?_, fun _ => ⟨f1, i1, ?_⟩, fun c => by cases c⟩
      · rw [e2, e_131_4, r1.2.1, if_pos rfl, e_131_5, if_pos h10]
      · show Md ν1 A q (stl (cs ++ [c]))
        rw [stl_app]
        exact r1
  | succ f ih =>
    intro p cs ν E hf g h h9 hpn ht hE
    obtain ⟨ν1, e1, w1, w2⟩ := m_129 d g h h9 hpn (by rw [stl_len]; exact ht)
    have gw := pCl_gd g.1.2.1 hpn
    have e2 := hE ν1 e1
    show CoM d E A ν (match pCl ch p with
      | (true, q, c) => if f + 1 ≠ 0 ∧ ch q = 59 then pCo ch (f + 1) (q + 1) (cs ++ [c]) else (true, q, cs ++ [c])
      | (false, q, _) => (false, q, []))
    revert w1 w2 gw
    obtain ⟨b, q, c⟩ := pCl ch p
    intro w1 w2 gw
    cases b with
    | false =>
      have w := w2 rfl
      refine ⟨ν1, ?_, fun c => (by cases c), fun _ => w⟩
      rw [e2, e_131_4, w.2.2.2, if_neg wr1]
    | true =>
      obtain ⟨f1, i1, r1⟩ := w1 rfl
      have r1 : Md ν1 A q (stl (cs ++ [c])) := by
        rw [stl_app]
        exact r1
      have hq : q ≤ n := gw.1.2
      have a1 : p + c.2.2.length + 1 ≤ q := (gw.2 rfl).1
      have g1 := g.fr f1
      have hch := g.ch q
      have q59 : (hv (ch q) = 59) = (ch q = 59) := hv_eq (k := 59) hch (by decide)
      have h10 : ¬ (10 : Int32) ≤ Int32.ofNat (cs.length + 1) := by
        show ¬ Int32.ofNat 10 ≤ Int32.ofNat (cs.length + 1)
        rw [O_le (by omega) (by omega)]; omega
      have hL : (cs ++ [c]).length = cs.length + 1 := by rw [List.length_append, List.length_singleton]
      have tl : tln (cs ++ [c]) = tln cs + (c.2.2.length + 1) := by
        rw [← stl_len, stl_app, List.length_append, List.length_append, List.length_map, List.length_singleton, stl_len]
      have e3 : E = if ch q = 59 then ev (d + 27) 131 8 [.ref 46, .int (Int32.ofNat (cs.length + 1))] [] (fx ν1) else ev (d + 27) 131 10 [.ref 46] [] (fx ν1) := by
        rw [e2, e_131_4, r1.2.1, if_pos rfl, e_131_5, if_neg h10, e_131_6, m_118 _ g1 r1.1 hq, bnd_1, app1, e_131_7]
        by_cases e : ch q = 59
        · rw [if_pos e, if_pos (by rw [q59]; exact e)]
        · rw [if_neg e, if_neg (by rw [q59]; exact e)]
      show CoM d E A ν (if f + 1 ≠ 0 ∧ ch q = 59 then pCo ch (f + 1) (q + 1) (cs ++ [c]) else (true, q, cs ++ [c]))
      by_cases c59 : ch q = 59
      · rw [if_pos ⟨Nat.succ_ne_zero f, c59⟩]
        have hq1 : q < n := g.1.2.1.lt c59 (by decide)
        obtain ⟨f2, r2, i2⟩ := r1.at (q + 1)
        obtain ⟨ν4, x1, x2, x3⟩ := ih (q + 1) (cs ++ [c]) _ E (by rw [hL]; omega) (g1.fr f2) r2 (i2.trans (i1.trans h9)) hq1 (by rw [tl]; omega) (fun ν' e => by
          rw [e3, if_pos c59, e_131_8, r1.1, O_p1, e, bnd_0, app0, e_131_9, O_p1, hL])
        exact ⟨ν4, x1, fun h => ⟨(f1.tr f2).tr (x2 h).1, (x2 h).2.1.trans (i2.trans i1), (x2 h).2.2⟩, fun h => (x3 h).pre (f1.tr f2) (i2.trans i1)⟩
      · rw [if_neg (fun h => c59 h.2)]
        exact ⟨ν1, by rw [e3, if_neg c59], fun _ => ⟨f1, i1, r1⟩, fun c => by cases c⟩
/-! what reading of the model keeps -/
def FmA (A : Nat) (ν ν' : MM) : Prop := Kp ν ν' ∧ (msz ν' = msz ν ∧ msl ν' = msl ν) ∧ (∀ q, q ≠ 46 → gR ν' q = gR ν q) ∧ (∀ q, q ≠ 46 → q ≠ 47 → gI ν' q = gI ν q) ∧ ∀ k, k ≠ 5 → k ≠ 152 + A → ¬ (162 + 140 * A ≤ k ∧ k < 302 + 140 * A) → gI ν' 47 k = gI ν 47 k
theorem FmA.tr {A : Nat} {a b c : MM} (h : FmA A a b) (g : FmA A b c) : FmA A a c := ⟨h.1.tr g.1, ⟨g.2.1.1.trans h.2.1.1, g.2.1.2.trans h.2.1.2⟩, fun q hq => (g.2.2.1 q hq).trans (h.2.2.1 q hq), fun q h1 h2 => (g.2.2.2.1 q h1 h2).trans (h.2.2.2.1 q h1 h2), fun k h1 h2 h3 => (g.2.2.2.2 k h1 h2 h3).trans (h.2.2.2.2 k h1 h2 h3)⟩
theorem PM57 (A : Nat) : ∀ q k, 57 ≤ q → PM A q k = false := fun q k h => PM_ne (by omega)
theorem Fr.kpM {A : Nat} {ν μ : MM} (f : Fr (PM A) QN ν μ) : Kp ν μ := ⟨f.gr (PM57 A), f.fsh, fun q hq => funext fun k => f.rI q k (PM_ne (by
  have h1 := kpq_ne hq (c := 46) rfl
  have h2 := kpq_ne hq (c := 47) rfl
  omega)), ⟨f.rI 46 3 (PM_ne (by omega)), f.rI 46 21 (PM_ne (by omega))⟩, by rw [f.rR], fun k => ⟨by rw [f.rR], by rw [f.rR]⟩, fun h g => g.gr (f.gr (PM57 A)) h (fun k _ => by rw [f.rR]) (fun k _ => by rw [f.rR]), fun g i hi => by rw [f.rI 30 i (PM_ne (by omega))]; exact g i hi⟩
theorem Fr.fmA {A : Nat} {ν μ : MM} (f : Fr (PM A) QN ν μ) : FmA A ν μ := ⟨f.kpM, ⟨f.2.2.1, f.2.2.2.1⟩, fun q _ => by rw [f.rR], fun q h1 h2 => funext fun k => f.rI q k (PM_ne (by omega)), fun k h1 h2 h3 => f.rI 47 k (PM_ne (by omega))⟩
theorem Kp.w46 {ν : MM} (v : Option Nat) : Kp ν (sR ν 46 5 v) := Kp.wR v (by decide) ⟨by decide, by decide, by decide⟩ (fun h => by omega) (fun h => by omega)
theorem Beg_I (ν : MM) (A s n q k : Nat) : gI (Beg ν A s n) q k = if q = 46 ∧ k = 9 then 0 else if q = 46 ∧ k = 8 then 0 else if q = 46 ∧ k = 6 then 0 else if q = 47 ∧ k = 152 + A then 0 else if q = 47 ∧ k = 5 then 0 else if q = 46 ∧ k = 7 then Int32.ofNat n else if q = 46 ∧ k = 4 then Int32.ofNat A else gI ν q k := by
  unfold Beg
  rw [gI_sI, gI_sI, gI_sI, gI_sI, gI_sI, gI_sI, gI_sR, gI_sI]
theorem Beg_R (ν : MM) (A s n q k : Nat) : gR (Beg ν A s n) q k = if q = 46 ∧ k = 5 then some s else gR ν q k := by
  unfold Beg
  rw [gR_sI, gR_sI, gR_sI, gR_sI, gR_sI, gR_sI, gR_sR, gR_sI]
theorem Beg_k (ν : MM) (A s n : Nat) : Kp ν (Beg ν A s n) := by
  unfold Beg
  exact (((((((Kp.wI (q := 46) (k := 4) _ (by decide) rfl (by omega)).tr (Kp.w46 _)).tr (Kp.wI (q := 46) (k := 7) _ (by decide) rfl (by omega))).tr (Kp.wI (q := 47) (k := 5) _ (by decide) rfl (by omega))).tr (Kp.wI (q := 47) (k := 152 + A) _ (by decide) rfl (by omega))).tr (Kp.wI (q := 46) (k := 6) _ (by decide) rfl (by omega))).tr (Kp.wI (q := 46) (k := 8) _ (by decide) rfl (by omega))).tr (Kp.wI (q := 46) (k := 9) _ (by decide) rfl (by omega))
theorem Beg_f (ν : MM) (A s n : Nat) : FmA A ν (Beg ν A s n) := by
  refine ⟨Beg_k ν A s n, ⟨rfl, rfl⟩, fun q hq => funext fun k => ?_, fun q h1 h2 => funext fun k => ?_, fun k h1 h2 h3 => ?_⟩
  · rw [Beg_R, if_neg (by omega)]
  · rw [Beg_I, if_neg (by omega), if_neg (by omega), if_neg (by omega), if_neg (by omega), if_neg (by omega), if_neg (by omega), if_neg (by omega)]
  · rw [Beg_I, if_neg (by omega), if_neg (by omega), if_neg (by omega), if_neg (by omega), if_neg (by omega), if_neg (by omega), if_neg (by omega)]
/-- THE TAPE of the model -/
def TpM (ν : MM) (n : Nat) (ch : Nat → Nat) : Prop := gI ν 47 5 = Int32.ofNat n ∧ okTx ch n ∧ ∀ p, p < n → gI ν 47 (52 + p) = Int32.ofNat (ch p)
theorem FmA.str {A : Nat} {ν μ : MM} (f : FmA A ν μ) (g : Str ν) : Str μ := by
  intro i hi
  rw [f.2.2.2.1 i (by omega) (by omega), f.2.2.2.1 (13 + i) (by omega) (by omega)]
  exact g i hi
theorem Beg_x {ν : MM} {A s n : Nat} {ch : Nat → Nat} (hA : A < 10) (hs : s < 13) (hs0 : 0 < strN s) (t : TpM ν n ch) (hS : Str ν) : CxM (Beg ν A s n) n s A ch ∧ Md (Beg ν A s n) A 0 [] ∧ gI (Beg ν A s n) 46 9 = Int32.ofNat 0 ∧ gI (Beg ν A s n) 47 5 = 0 := by
  obtain ⟨t1, t2, t3⟩ := t
  have hn := t2.1
  refine ⟨⟨⟨?_, t2, fun p hp => ?_⟩, (Beg_f ν A s n).str hS, ⟨?_, hs, hs0⟩, ?_, hA⟩, ⟨?_, ?_, ?_, Nat.zero_le _, fun j hj => absurd hj (Nat.not_lt_zero j)⟩, ?_, ?_⟩
  · rw [Beg_I, if_neg (by omega), if_neg (by omega), if_neg (by omega), if_neg (by omega), if_neg (by omega), if_pos ⟨rfl, rfl⟩]
  · rw [Beg_I, if_neg (by omega), if_neg (by omega), if_neg (by omega), if_neg (by omega), if_neg (by omega), if_neg (by omega), if_neg (by omega)]
    exact t3 p hp
  · rw [Beg_R, if_pos ⟨rfl, rfl⟩]
  · rw [Beg_I, if_neg (by omega), if_neg (by omega), if_neg (by omega), if_neg (by omega), if_neg (by omega), if_neg (by omega), if_pos ⟨rfl, rfl⟩]
  · rw [Beg_I, if_neg (by omega), if_neg (by omega), if_pos ⟨rfl, rfl⟩]
    rfl
  · rw [Beg_I, if_neg (by omega), if_pos ⟨rfl, rfl⟩]
  · rw [Beg_I, if_neg (by omega), if_neg (by omega), if_neg (by omega), if_pos ⟨rfl, rfl⟩]
    rfl
  · rw [Beg_I, if_pos ⟨rfl, rfl⟩]
    rfl
  · rw [Beg_I, if_neg (by omega), if_neg (by omega), if_neg (by omega), if_neg (by omega), if_pos ⟨rfl, rfl⟩]
theorem m_131 (d : Nat) {ν : MM} {n C : Nat} {ch : Nat → Nat} (hC : gI ν 47 3 = Int32.ofNat C) (hC5 : C < 5) (t : TpM ν n ch) (hS : Str ν) : ∃ ν1, FmA C ν ν1 ∧ gI ν1 47 5 = 0 ∧ ((pCo ch 10 0 []).1 = true → (pCo ch 10 0 []).2.1 = n → ev (d + 27) 131 0 [.ref 46] [] (fx ν) = some (some (.int (Int32.ofNat C)), fx (sI (sI ν1 47 3 (Int32.ofNat (C + 1))) 47 6 (Int32.ofNat C))) ∧ gI ν1 47 (152 + C) = Int32.ofNat (tln (pCo ch 10 0 []).2.2) ∧ ∀ j, (h : j < (stl (pCo ch 10 0 []).2.2).length) → gI ν1 47 (162 + 140 * C + j) = (stl (pCo ch 10 0 []).2.2)[j]) ∧ (¬ ((pCo ch 10 0 []).1 = true ∧ (pCo ch 10 0 []).2.1 = n) → ev (d + 27) 131 0 [.ref 46] [] (fx ν) = some (some (.int ((-10) - Int32.ofNat (pCo ch 10 0 []).2.1)), fx ν1)) := by
  have t2 := t.2.1
  obtain ⟨g0, r0, h9, h5⟩ := Beg_x (ν := ν) (A := C) (s := 7) (by omega) (by decide) (by decide) t hS
  have n5 : ¬ Int32.ofNat C = 5 := by
    show ¬ Int32.ofNat C = Int32.ofNat 5
    rw [O_eq (by omega) (by omega)]; omega
  obtain ⟨ν1, e1, w1, w2⟩ := m_131l d 9 0 [] (Beg ν C 7 n) (ev (d + 27) 131 0 [.ref 46] [] (fx ν)) rfl g0 r0 h9 (Nat.zero_le _) (Nat.le_refl _) (fun ν' e => by
    rw [e_131_0, hC, if_neg n5, e_131_2, hC, m_130 (d + 26) (by omega) t.1, bnd_0, app0, e_131_3, e, bnd_0, app0]
    rfl)
  have gw := pCo_gd t2 10 0 [] (Nat.zero_le _) (Nat.le_refl _) (by decide) (fun c hc => by cases hc) (fun c hc => by cases hc)
  have f0 := Beg_f ν C 7 n
  revert w1 w2 gw
  obtain ⟨b, q, cs⟩ := pCo ch 10 0 []
  intro w1 w2 gw
  have hq : q ≤ n := gw.1
  have hn := t2.1
  cases b with
  | false =>
    have w := w2 rfl
    have w6 : gI ν1 46 6 = Int32.ofNat q := w.2.2.1
    refine ⟨ν1, f0.tr w.1.fmA, by rw [w.1.rI 47 5 (PM_ne (by omega))]; exact h5, fun c => (by cases c), fun _ => ?_⟩
    rw [e1, e_131_10, w.2.2.2, if_neg wr1, e_131_12, w6]
  | true =>
    obtain ⟨f1, i1, r1⟩ := w1 rfl
    have r1 : Md ν1 C q (stl cs) := r1
    have g1 := g0.fr f1
    have x5 : gI ν1 47 5 = 0 := by rw [f1.rI 47 5 (PM_ne (by omega))]; exact h5
    by_cases e : q = n
    · have x3 : gI ν1 47 3 + 1 = Int32.ofNat (C + 1) := by rw [f1.rI 47 3 (PM_ne (by omega)), f0.2.2.2.2 3 (by omega) (by omega) (by omega), hC, O_p1]
      refine ⟨ν1, f0.tr f1.fmA, x5, fun _ _ => ⟨?_, ?_, r1.2.2.2.2⟩, fun h => absurd ⟨rfl, e⟩ h⟩
      · have y4 : gI (sI ν1 47 3 (Int32.ofNat (C + 1))) 46 4 = Int32.ofNat C := by rw [gI_sI, if_neg (by omega)]; exact g1.2.2.2.1
        have y5 : gI (sI (sI ν1 47 3 (Int32.ofNat (C + 1))) 47 6 (Int32.ofNat C)) 46 4 = Int32.ofNat C := by rw [gI_sI, if_neg (by omega)]; exact y4
        rw [e1, e_131_10, r1.2.1, if_pos rfl, e_131_11, r1.1, g1.1.1, if_pos (by rw [e]), e_131_13, x3, y4, y5]
      · rw [r1.2.2.1, stl_len]
    · have ne : ¬ Int32.ofNat q = Int32.ofNat n := by rw [O_eq (by omega) (by omega)]; exact e
      refine ⟨ν1, f0.tr f1.fmA, x5, fun _ h => absurd h e, fun _ => ?_⟩
      rw [e1, e_131_10, r1.2.1, if_pos rfl, e_131_11, r1.1, g1.1.1, if_neg ne, e_131_12, r1.1]
theorem m_132 (d : Nat) {ν : MM} {n S : Nat} {ch : Nat → Nat} (hC : gI ν 47 2 = Int32.ofNat S) (hC5 : S < 5) (t : TpM ν n ch) (hS : Str ν) : ∃ ν1, FmA (5 + S) ν ν1 ∧ gI ν1 47 5 = 0 ∧ ((pAny (pOne (chS 6) ch 5) ch 0).1 = true → (pAny (pOne (chS 6) ch 5) ch 0).2.1 = n → ev (d + 24) 132 0 [.ref 46] [] (fx ν) = some (some (.int (Int32.ofNat S)), fx (sI ν1 47 2 (Int32.ofNat (S + 1)))) ∧ gI ν1 47 (157 + S) = Int32.ofNat (pAny (pOne (chS 6) ch 5) ch 0).2.2.length ∧ ∀ j, (h : j < (pAny (pOne (chS 6) ch 5) ch 0).2.2.length) → gI ν1 47 (862 + 140 * S + j) = cvt (pAny (pOne (chS 6) ch 5) ch 0).2.2[j]) ∧ (¬ ((pAny (pOne (chS 6) ch 5) ch 0).1 = true ∧ (pAny (pOne (chS 6) ch 5) ch 0).2.1 = n) → ev (d + 24) 132 0 [.ref 46] [] (fx ν) = some (some (.int ((-10) - Int32.ofNat (pAny (pOne (chS 6) ch 5) ch 0).2.1)), fx ν1)) := by
  have t2 := t.2.1
  obtain ⟨g0, r0, h9, h5⟩ := Beg_x (ν := ν) (A := 5 + S) (s := 12) (by omega) (by decide) (by decide) t hS
  have n5 : ¬ Int32.ofNat S = 5 := by
    show ¬ Int32.ofNat S = Int32.ofNat 5
    rw [O_eq (by omega) (by omega)]; omega
  have a5 : (5 : Int32) + Int32.ofNat S = Int32.ofNat (5 + S) := (Int32.ofNat_add 5 S).symm
  have hw := m_126s d g0 r0 h9 (Nat.zero_le _) (Nat.zero_le _)
  rw [ch612] at hw
  have gw := pE_gd (s := 6) t2 (by decide) (p := 0) (Nat.zero_le _)
  have f0 := Beg_f ν (5 + S) 12 n
  have e0 : ev (d + 24) 132 0 [.ref 46] [] (fx ν) = bnd 0 (ev (d + 23) 126 0 [.ref 46] [] (fx (Beg ν (5 + S) 12 n))) fun rs μ1 => ev (d + 24) 132 4 [.ref 46] (rs ++ []) μ1 := by
    rw [e_132_0, hC, if_neg n5, e_132_2, hC, a5, m_130 (d + 23) (by omega) t.1, bnd_0, app0, e_132_3]
  revert hw gw
  obtain ⟨b, q, ts⟩ := pAny (pOne (chS 6) ch 5) ch 0
  rintro ⟨ν1, e1, w1, w2⟩ gw
  have hq : q ≤ n := gw.1.2
  have hn := t2.1
  cases b with
  | false =>
    have w := w2 rfl
    have w6 : gI ν1 46 6 = Int32.ofNat q := w.2.2.1
    refine ⟨ν1, f0.tr w.1.fmA, by rw [w.1.rI 47 5 (PM_ne (by omega))]; exact h5, fun c => (by cases c), fun _ => ?_⟩
    rw [e0, e1, bnd_0, app0, e_132_4, w.2.2.2, if_neg wr1, e_132_6, w6]
  | true =>
    obtain ⟨f1, i1, r1⟩ := w1 rfl
    have r1 : Md ν1 (5 + S) q (ts.map cvt) := r1
    have g1 := g0.fr f1
    have x5 : gI ν1 47 5 = 0 := by rw [f1.rI 47 5 (PM_ne (by omega))]; exact h5
    by_cases e : q = n
    · have x3 : gI ν1 47 2 + 1 = Int32.ofNat (S + 1) := by rw [f1.rI 47 2 (PM_ne (by omega)), f0.2.2.2.2 2 (by omega) (by omega) (by omega), hC, O_p1]
      refine ⟨ν1, f0.tr f1.fmA, x5, fun _ _ => ⟨?_, ?_, fun j hj => ?_⟩, fun h => absurd ⟨rfl, e⟩ h⟩
      · have y4 : gI (sI ν1 47 2 (Int32.ofNat (S + 1))) 47 2 - 1 = Int32.ofNat S := by rw [gI_sI, if_pos ⟨rfl, rfl⟩, O_sub1]
        rw [e0, e1, bnd_0, app0, e_132_4, r1.2.1, if_pos rfl, e_132_5, r1.1, g1.1.1, if_pos (by rw [e]), e_132_7, x3, y4]
      · have := r1.2.2.1
        rw [List.length_map] at this
        rw [show 157 + S = 152 + (5 + S) by omega]
        exact this
      · have hj : j < ts.length := hj
        have := r1.2.2.2.2 j (by rw [List.length_map]; exact hj)
        rw [List.getElem_map] at this
        rw [show 862 + 140 * S + j = 162 + 140 * (5 + S) + j by omega]
        exact this
    · have ne : ¬ Int32.ofNat q = Int32.ofNat n := by rw [O_eq (by omega) (by omega)]; exact e
      refine ⟨ν1, f0.tr f1.fmA, x5, fun _ h => absurd h e, fun _ => ?_⟩
      rw [e0, e1, bnd_0, app0, e_132_4, r1.2.1, if_pos rfl, e_132_5, r1.1, g1.1.1, if_neg ne, e_132_6, r1.1]
