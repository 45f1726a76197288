/-! back, looked -/
theorem myB_one (cs : List Cl) (t h : Nat) {s : Nat} (hs : s < 4) : myB cs t h (one4 s) = stT cs t s h := by
  unfold myB myS
  match s, hs with
  | 0, _ => rw [if_neg (by decide), if_neg (by decide), if_neg (by decide), if_pos (by decide), Int32.zero_or]
  | 1, _ => rw [if_neg (by decide), if_neg (by decide), if_pos (by decide), if_neg (by decide), Int32.zero_or]
  | 2, _ => rw [if_neg (by decide), if_pos (by decide), if_neg (by decide), if_neg (by decide), Int32.zero_or]
  | 3, _ => rw [if_pos (by decide), if_neg (by decide), if_neg (by decide), if_neg (by decide), Int32.zero_or]
theorem one_sh {s : Nat} (hs : s < 4) : (1 : Int32) <<< (Int32.ofNat s &&& 31) = one4 s := by
  rw [(sh_num s hs).1]
  rfl
/-- the class's back: from which STATES -/
def bkS (f : Nat → Int32) (v2 x : Int32) (k : Nat) : Int32 := if f k >>> (v2 &&& 31) &&& 1 = 1 then x ||| (1 : Int32) <<< (Int32.ofNat k &&& 31) else x
theorem l_86 (d : Nat) {ν : MM} (v2 : Int32) (f : Nat → Int32) (hf : ∀ i, i < 4 → S4 (f i)) (x : Int32) {k : Nat} (hk : k < 4) : ev (d + 1) 86 10 [.int v2, .int (pk4 f), .int x, .int (Int32.ofNat k)] [] (fx ν) = ev (d + 1) 86 10 [.int v2, .int (pk4 f), .int (bkS f v2 x k), .int (Int32.ofNat (k + 1))] [] (fx ν) := by
  rw [e_86_10, if_neg (ge4 k hk), e_86_11, s_109 d f hf hk, bnd_1, app1]
  refine (e_86_12 ..).trans ?_
  unfold bkS
  by_cases c : f k >>> (v2 &&& 31) &&& 1 = 1
  · rw [if_pos c, if_pos c, e_86_13, e_86_14, O_succ]
  · rw [if_neg c, if_neg c, e_86_14, O_succ]
theorem l_179h (d : Nat) {A T st H W S t M : Nat} {ht hs : Int32} {cs : List Cl} (hM6 : M ≤ 6) (v2 v4 v5 x : Int32) : ∀ (r n : Nat) (ν : MM), n + r = M → QX ν A T st H W S ht hs cs → ∃ ν', ev (d + 4) 179 11 [.ref 46, .int (Int32.ofNat t), .int v2, .int (Int32.ofNat M), .int v4, .int v5, .int (rch cs t H n x), .int (Int32.ofNat n)] [] (fx ν) = ev (d + 4) 179 14 [.ref 46, .int (Int32.ofNat t), .int v2, .int (Int32.ofNat M), .int v4, .int v5, .int (rch cs t H M x)] [] (fx ν') ∧ Fr PS QS ν ν' ∧ QX ν' A T st H W S ht hs cs
  | 0, n, ν, hn, hQ => ⟨ν, by rw [e_179_11, if_pos (by rw [O_le (by omega) (by omega)]; omega), show n = M by omega], Fr.rf, hQ⟩
  | r + 1, n, ν, hn, hQ => by
    obtain ⟨hC, hc, hb, hH, hH2, hT, hT4⟩ := hQ.2.1
    obtain ⟨ν1, e1, f1, b1⟩ := s_167 d (t := t) hC hc.2.2 hb (h := H + n) (by omega) (rch cs t H n x)
    obtain ⟨ν2, e2, f2, q2⟩ := l_179h d hM6 v2 v4 v5 x r (n + 1) ν1 (by omega) (hQ.fr f1.s b1)
    refine ⟨ν2, ?_, f1.s.tr f2, q2⟩
    rw [e_179_11, if_neg (by rw [O_le (by omega) (by omega)]; omega), e_179_12, hH, O_add, e1, bnd_1, app1]
    refine (e_179_13 ..).trans ?_
    rw [O_succ]
    exact e2
theorem l_179 (d : Nat) {A T st H W S t M : Nat} {ht hs : Int32} {cs : List Cl} (hM6 : M ≤ 6) (v2 x : Int32) {k : Nat} (hk : k < 4) {ν : MM} (hQ : QX ν A T st H W S ht hs cs) : ∃ ν', ev (d + 4) 179 9 [.ref 46, .int (Int32.ofNat t), .int v2, .int (Int32.ofNat M), .int x, .int (Int32.ofNat k)] [] (fx ν) = ev (d + 4) 179 9 [.ref 46, .int (Int32.ofNat t), .int v2, .int (Int32.ofNat M), .int (bkS (fun s => rch cs t H M (one4 s)) v2 x k), .int (Int32.ofNat (k + 1))] [] (fx ν') ∧ Fr PS QS ν ν' ∧ QX ν' A T st H W S ht hs cs := by
  obtain ⟨ν1, e1, f1, q1⟩ := l_179h d (t := t) hM6 v2 x (Int32.ofNat k) (one4 k) M 0 ν (by omega) hQ
  refine ⟨ν1, ?_, f1, q1⟩
  rw [e_179_9, if_neg (ge4 k hk), e_179_10, one_sh hk]
  refine e1.trans ?_
  rw [e_179_14]
  unfold bkS
  by_cases c : rch cs t H M (one4 k) >>> (v2 &&& 31) &&& 1 = 1
  · rw [if_pos c, if_pos c, e_179_15, e_179_17, O_succ]
  · rw [if_neg c, if_neg c, e_179_16, e_179_17, O_succ, Int32.or_zero]
theorem q_back (d : Nat) {ν : MM} {A T st H W S : Nat} {ht hs : Int32} {cs : List Cl} (hQ : QX ν A T st H W S ht hs cs) (v1 v2 v3 : Int32) : QI (fun μ => ev (d + 5) 86 0 [.ref 28, .int v1, .int v2, .int v3] [] (fx μ)) (fun μ => ev (d + 5) 179 0 [.ref 46, .int v1, .int v2, .int v3] [] (fx μ)) ν := by
  obtain ⟨-, -, -, -, r49, -⟩ := qR (d + 4) hQ
  obtain ⟨-, -, -, -, -, r114⟩ := qR (d + 3) hQ
  have hb := hQ.2.1.2.2.1
  have cl0 : ev (d + 5) 86 0 [.ref 28, .int v1, .int v2, .int v3] [] (fx ν) = if okN T v1 = true then (if (rg 0 3 v2 && rg 0 6 v3) = true then ev (d + 5) 86 8 [.ref 28, .int v1, .int v2, .int v3] [] (fx ν) else some (some (.int (-2)), fx ν)) else some (some (.int (-1)), fx ν) := by
    rw [e_86_0, r49, bnd_1, app1]
    refine (e_86_1 ..).trans ?_
    rw [bI_0, e_86_2]
    by_cases c1 : okN T v1 = true
    case neg => rw [if_neg c1, if_neg c1]
    rw [if_pos c1, if_pos c1, e_86_3, s_104, bnd_1, app1]
    refine (e_86_4 ..).trans ?_
    rw [bI_0, e_86_7, e_86_5, e_86_6, e_86_7]
    cases rg 0 3 v2 with
    | false => rfl
    | true =>
      rw [Bool.true_and, if_pos rfl]
      unfold rg
      by_cases x1 : v3 < 0
      · rw [if_pos x1, decide_eq_true x1]; rfl
      · rw [if_neg x1, decide_eq_false x1]
        by_cases x2 : v3 ≤ 6
        · rw [if_pos x2, decide_eq_false (Int32.not_lt.mpr x2)]; rfl
        · rw [if_neg x2, decide_eq_true (Int32.not_le.mp x2)]; rfl
  have md0 : ev (d + 5) 179 0 [.ref 46, .int v1, .int v2, .int v3] [] (fx ν) = if okN T v1 = true then (if (rg 0 3 v2 && rg 0 6 v3) = true then ev (d + 5) 179 8 [.ref 46, .int v1, .int v2, .int v3] [] (fx ν) else some (some (.int (-2)), fx ν)) else some (some (.int (-1)), fx ν) := by
    rw [e_179_0, r114, bnd_1, app1]
    refine (e_179_1 ..).trans ?_
    rw [bI_0, e_179_2]
    by_cases c1 : okN T v1 = true
    case neg => rw [if_neg c1, if_neg c1]
    rw [if_pos c1, if_pos c1, e_179_3, s_113r, bnd_1, app1]
    refine (e_179_4 ..).trans ?_
    rw [bI_0, e_179_7, e_179_5, s_113r, bnd_1, app1]
    cases rg 0 3 v2 with
    | false => rfl
    | true =>
      rw [Bool.true_and, if_pos rfl]
      refine (e_179_6 ..).trans ?_
      rw [bI_0, e_179_7]
  by_cases c1 : okN T v1 = true
  case neg =>
    rw [if_neg c1] at cl0 md0
    exact ⟨_, ν, ν, cl0, md0, Fr.rf, Fr.rf, hb⟩
  rw [if_pos c1] at cl0 md0
  by_cases c2 : (rg 0 3 v2 && rg 0 6 v3) = true
  case neg =>
    rw [if_neg c2] at cl0 md0
    exact ⟨_, ν, ν, cl0, md0, Fr.rf, Fr.rf, hb⟩
  rw [if_pos c2] at cl0 md0
  obtain ⟨c2, c3⟩ := Bool.and_eq_true_iff.mp c2
  obtain ⟨n, hn, en⟩ := rg_n (hi := 6) (by decide) c3
  obtain ⟨hA, hCo, hc, hT, hT4, hS, hs4, hHc, hH2, -⟩ := hQ.1
  obtain ⟨t, ht', et⟩ := okN_t (by omega) c1
  obtain ⟨ν1, e1, f1, q1⟩ := l_179 (d + 1) (t := t) hn v2 0 (k := 0) (by decide) hQ
  obtain ⟨ν2, e2, f2, q2⟩ := l_179 (d + 1) (t := t) hn v2 (bkS (fun s => rch cs t H n (one4 s)) v2 0 0) (k := 1) (by decide) q1
  obtain ⟨ν3, e3, f3, q3⟩ := l_179 (d + 1) (t := t) hn v2 (bkS (fun s => rch cs t H n (one4 s)) v2 (bkS (fun s => rch cs t H n (one4 s)) v2 0 0) 1) (k := 2) (by decide) q2
  obtain ⟨ν4, e4, f4, q4⟩ := l_179 (d + 1) (t := t) hn v2 (bkS (fun s => rch cs t H n (one4 s)) v2 (bkS (fun s => rch cs t H n (one4 s)) v2 (bkS (fun s => rch cs t H n (one4 s)) v2 0 0) 1) 2) (k := 3) (by decide) q3
  refine ⟨bkS (fun s => rch cs t H n (one4 s)) v2 (bkS (fun s => rch cs t H n (one4 s)) v2 (bkS (fun s => rch cs t H n (one4 s)) v2 (bkS (fun s => rch cs t H n (one4 s)) v2 0 0) 1) 2) 3, ν, ν4, cl0.trans ?_, md0.trans ?_, Fr.rf, f1.tr (f2.tr (f3.tr f4)), q4.2.1.2.2.1⟩
  · have hS4 : ∀ i, i < 4 → S4 (rch cs t H n (one4 i)) := fun i hi => S4_rch hc t H n (S4_one hi)
    rw [e_86_8, et, en, s_59 d hA hCo hc (by omega) hHc hH2 (by omega), bnd_1, app1]
    refine (e_86_9 ..).trans ?_
    refine (l_86 (d + 4) v2 (fun s => rch cs t H n (one4 s)) hS4 0 (k := 0) (by decide)).trans ?_
    rw [l_86 (d + 4) v2 _ hS4 _ (k := 1) (by decide), l_86 (d + 4) v2 _ hS4 _ (k := 2) (by decide), l_86 (d + 4) v2 _ hS4 _ (k := 3) (by decide), e_86_10, if_pos (by decide), e_86_15]
  · rw [e_179_8, et, en]
    refine Eq.trans e1 (Eq.trans e2 (Eq.trans e3 (Eq.trans e4 ?_)))
    rw [e_179_9, if_pos (by decide), e_179_18]
/-! looked -/
def QT (ν : MM) (n : Nat) : Prop := gI ν 29 14 = Int32.ofNat n ∧ gI ν 47 4 = Int32.ofNat n ∧ n ≤ 12 ∧ ∀ i, i < n → ∃ k, k < 4 ∧ stI (gI ν 29 13) (Int32.ofNat i) = Int32.ofNat k ∧ gI ν 47 (40 + i) = Int32.ofNat k
theorem QT.fr {ν ν' : MM} (f : Fr PS QS ν ν') {n : Nat} (g : QT ν n) : QT ν' n := by
  unfold QT at g ⊢
  rw [f.rowS (q := 29) rfl, f.rowS (q := 47) rfl]
  exact g
def mbL (cs : List Cl) (H s0 : Nat) (f : Nat → Int32) : Nat → Int32
  | 0 => one4 s0
  | i + 1 => stT cs 0 (f (40 + i)).toNatClampNeg (H + i)
def lkF (cs : List Cl) (H s0 : Nat) (f : Nat → Int32) (n : Nat) : Nat → Nat → Int32
  | 0, _ => -5
  | r + 1, i => if mbL cs H s0 f i >>> (f (40 + i) &&& 31) &&& 1 = 0 then Int32.ofNat i else lkF cs H s0 f n r (i + 1)
theorem l_96 (d : Nat) {ν : MM} {A T st H W S n : Nat} {ht hs : Int32} {cs : List Cl} (hQ : QX ν A T st H W S ht hs cs) (hT : QT ν n) (s0 : Nat) : ∀ (r i : Nat), i + r = n → ev (d + 4) 96 5 [.ref 28, .int (mbL cs H s0 (gI ν 47) i), .int (Int32.ofNat i)] [] (fx ν) = some (some (.int (lkF cs H s0 (gI ν 47) n r i)), fx ν)
  | 0, i, hi => by
    obtain ⟨h1, h2, h3, h4⟩ := hT
    rw [e_96_5, h1, if_pos (by rw [O_le (by omega) (by omega)]; omega), e_96_12]
    rfl
  | r + 1, i, hi => by
    have ih := l_96 d hQ hT s0 r (i + 1) (by omega)
    obtain ⟨h1, h2, h3, h4⟩ := hT
    obtain ⟨k, hk, g1, g2⟩ := h4 i (by omega)
    obtain ⟨hA, hCo, hc, -, hT4, -, -, hHc, hH2, -⟩ := hQ.1
    rw [e_96_5, h1, if_neg (by rw [O_le (by omega) (by omega)]; omega), e_96_6, s_107, bnd_1, app1, g1]
    refine (e_96_7 ..).trans ?_
    unfold lkF
    rw [g2]
    by_cases c : mbL cs H s0 (gI ν 47) i >>> (Int32.ofNat k &&& 31) &&& 1 = 0
    · rw [if_pos c, if_pos c, e_96_8]
    · rw [if_neg c, if_neg c, e_96_9, hHc, O_add]
      have e58 := s_58 d hA hCo hc.2.2 (t := 0) (h := H + i) (by decide) (by omega)
      rw [show (0 : Int32) = Int32.ofNat 0 from rfl, e58, bnd_1, app1]
      refine (e_96_10 ..).trans ?_
      rw [s_109 (d + 3) _ (fun s hs => S4_stT hc hs) hk, bnd_1, app1]
      refine (e_96_11 ..).trans ?_
      have em : mbL cs H s0 (gI ν 47) (i + 1) = stT cs 0 k (H + i) := by
        show stT cs 0 (gI ν 47 (40 + i)).toNatClampNeg (H + i) = _
        rw [g2, tn_O (by omega)]
      rw [em] at ih
      rw [O_succ]
      exact ih
theorem l_181 (d : Nat) {A T st H W S n : Nat} {ht hs : Int32} {cs : List Cl} (f : Nat → Int32) (hT1 : 0 < T) : ∀ (r i : Nat) (ν : MM), i + r = n → gI ν 47 = f → QX ν A T st H W S ht hs cs → QT ν n → ∃ ν', ev (d + 4) 181 3 [.ref 46, .int (Int32.ofNat i)] [] (fx ν) = some (some (.int (lkF cs H (stD st 0) f n r i)), fx ν') ∧ Fr PS QS ν ν' ∧ b01 (gI ν' 50 0) = true
  | 0, i, ν, hi, hf, hQ, hT => by
    obtain ⟨h1, h2, h3, h4⟩ := hT
    refine ⟨ν, ?_, Fr.rf, hQ.2.1.2.2.1⟩
    rw [e_181_3, h2, if_pos (by rw [O_le (by omega) (by omega)]; omega), e_181_10]
    rfl
  | r + 1, i, ν, hi, hf, hQ, hT => by
    have hT' := hT
    obtain ⟨h1, h2, h3, h4⟩ := hT'
    obtain ⟨k, hk, g1, g2⟩ := h4 i (by omega)
    obtain ⟨hC, hc, hb, hH, hH2, -, -⟩ := hQ.2.1
    have n40 : ∀ i, i < 12 → (40 : Int32) + Int32.ofNat i = Int32.ofNat (40 + i) := by decide
    have n40' : ∀ i, i < 12 → (40 : Int32) + Int32.ofNat (i + 1) - 1 = Int32.ofNat (40 + i) := by decide
    have ez : (Int32.ofNat i = 0) = (i = 0) := O_eq (b := 0) (by omega) (by decide)
    have mid : ∃ ν1, ev (d + 4) 181 3 [.ref 46, .int (Int32.ofNat i)] [] (fx ν) = ev (d + 4) 181 7 [.ref 46, .int (Int32.ofNat i)] [.int (mbL cs H (stD st 0) f i)] (fx ν1) ∧ Fr PS QS ν ν1 ∧ QX ν1 A T st H W S ht hs cs ∧ gI ν1 47 = f := by
      cases i with
      | zero =>
        refine ⟨ν, ?_, Fr.rf, hQ, hf⟩
        have hst := hQ.2.2.1.2 0 hT1
        rw [e_181_3, h2, if_neg (by rw [O_le (by omega) (by omega)]; omega), e_181_4, if_pos (by rw [ez]), e_181_5, show gI ν 47 10 = Int32.ofNat (stD st 0) from hst, one_sh (stD_lt st 0)]
        rfl
      | succ i =>
        obtain ⟨k', hk', g1', g2'⟩ := h4 i (by omega)
        obtain ⟨ν1, e1, f1, b1⟩ := s_167 d (t := 0) (h := H + i) hC hc.2.2 hb (by omega) (one4 k')
        refine ⟨ν1, ?_, f1.s, hQ.fr f1.s b1, (f1.s.rowS rfl).trans hf⟩
        have hh : Int32.ofNat H + Int32.ofNat (i + 1) - 1 = Int32.ofNat (H + i) := by
          rw [O_add, show H + (i + 1) = (H + i) + 1 by omega, O_sub1]
        rw [e_181_3, h2, if_neg (by rw [O_le (by omega) (by omega)]; omega), e_181_4, if_neg (by rw [ez]; omega), e_181_6, n40' i (by omega), inb_O (by omega) (by omega), gd_t, tn_O (by omega), g2', one_sh hk', hH, hh]
        refine Eq.trans (congrArg (fun z => bnd 1 z _) e1) ?_
        rw [bnd_1, app1, myB_one cs 0 (H + i) hk']
        show _ = ev (d + 4) 181 7 [.ref 46, .int (Int32.ofNat (i + 1))] [.int (stT cs 0 (f (40 + i)).toNatClampNeg (H + i))] (fx ν1)
        rw [← hf, g2', tn_O (by omega)]
    obtain ⟨ν1, e1, f1, q1, r1⟩ := mid
    have hg : gI ν1 47 (40 + i) = Int32.ofNat k := by rw [r1, ← hf]; exact g2
    have hfk : f (40 + i) = Int32.ofNat k := by rw [← hf]; exact g2
    obtain ⟨ν2, e2, f2, b2⟩ := l_181 d f hT1 r (i + 1) ν1 (by omega) r1 q1 (hT.fr f1)
    have cont : ev (d + 4) 181 7 [.ref 46, .int (Int32.ofNat i)] [.int (mbL cs H (stD st 0) f i)] (fx ν1) = if mbL cs H (stD st 0) f i >>> (Int32.ofNat k &&& 31) &&& 1 = 0 then some (some (.int (Int32.ofNat i)), fx ν1) else ev (d + 4) 181 3 [.ref 46, .int (Int32.ofNat (i + 1))] [] (fx ν1) := by
      rw [e_181_7, n40 i (by omega), inb_O (by omega) (by omega), gd_t, tn_O (by omega), hg, e_181_8, e_181_9, O_succ]
    have lk : lkF cs H (stD st 0) f n (r + 1) i = if mbL cs H (stD st 0) f i >>> (Int32.ofNat k &&& 31) &&& 1 = 0 then Int32.ofNat i else lkF cs H (stD st 0) f n r (i + 1) := by
      rw [← hfk]
      rfl
    rw [lk]
    by_cases c : mbL cs H (stD st 0) f i >>> (Int32.ofNat k &&& 31) &&& 1 = 0
    · rw [if_pos c] at cont ⊢
      exact ⟨ν1, e1.trans cont, f1, q1.2.1.2.2.1⟩
    · rw [if_neg c] at cont ⊢
      exact ⟨ν2, e1.trans (cont.trans e2), f1.tr f2, b2⟩
theorem q_looked (d : Nat) {ν : MM} {A T st H W S n : Nat} {ht hs : Int32} {cs : List Cl} (hQ : QX ν A T st H W S ht hs cs) (hT : QT ν n) : QI (fun μ => ev (d + 4) 96 0 [.ref 28] [] (fx μ)) (fun μ => ev (d + 4) 181 0 [.ref 46] [] (fx μ)) ν := by
  obtain ⟨-, -, -, -, r49, -⟩ := qR (d + 3) hQ
  have hb := hQ.2.1.2.2.1
  have hTm := hQ.2.1.2.2.2.2.2.1
  have hT4 := hQ.2.1.2.2.2.2.2.2
  have ok : okN T 0 = decide (0 < T) := okN_O (i := 0) (by omega) (by decide)
  have ez : (Int32.ofNat T = 0) = (T = 0) := O_eq (b := 0) (by omega) (by decide)
  have cl0 : ev (d + 4) 96 0 [.ref 28] [] (fx ν) = if 0 < T then ev (d + 4) 96 3 [.ref 28] [] (fx ν) else some (some (.int (-3)), fx ν) := by
    rw [e_96_0, r49, bnd_1, app1]
    refine (e_96_1 ..).trans ?_
    rw [bI_0, ok, e_96_2]
    by_cases c : 0 < T
    · rw [if_pos (decide_eq_true c), if_pos c]
    · rw [if_neg (by rw [decide_eq_false c]; decide), if_neg c]
  by_cases c : 0 < T
  · rw [if_pos c] at cl0
    obtain ⟨ν', e, f, b⟩ := l_181 d (gI ν 47) c n 0 ν (by omega) rfl hQ hT
    have e1 := l_96 d hQ hT (stD st 0) n 0 (by omega)
    obtain ⟨-, -, -, -, -, hS, hs4, -⟩ := hQ.1
    refine ⟨lkF cs H (stD st 0) (gI ν 47) n n 0, ν, ν', cl0.trans ?_, ?_, Fr.rf, f, b⟩
    · rw [e_96_3, hS, s_107, bnd_1, app1, show (0 : Int32) = Int32.ofNat 0 from rfl, stI_n st (Nat.lt_of_lt_of_le hs4 (p4_le hT4)) 0 (by decide)]
      refine (e_96_4 ..).trans ?_
      rw [one_sh (stD_lt st 0)]
      exact e1
    · show ev (d + 4) 181 0 [.ref 46] [] (fx ν) = _
      rw [e_181_0, hTm, if_neg (by rw [ez]; omega), e_181_2]
      exact e
  · rw [if_neg c] at cl0
    refine ⟨_, ν, ν, cl0, ?_, Fr.rf, Fr.rf, hb⟩
    show ev (d + 4) 181 0 [.ref 46] [] (fx ν) = _
    rw [e_181_0, hTm, if_pos (by rw [ez]; omega), e_181_1]
