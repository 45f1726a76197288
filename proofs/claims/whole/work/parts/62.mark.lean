/-! the class: markFails, carryBack -/
def FM (ν : MM) (n : Nat) (F : Nat → Bool) : Prop := ∀ q, q < n → gI ν 45 q = bI (F q)
theorem s_53 (d : Nat) {ν : MM} {T : Nat} (hT : gI ν 29 8 = Int32.ofNat T) (hT4 : T ≤ 4) : ev d 53 0 [.ref 29] [] (fx ν) = some (some (.int (Int32.ofNat (4 ^ T))), fx ν) := by
  have q : ∀ T, T ≤ 4 → (1 : Int32) <<< ((2 * Int32.ofNat T) &&& 31) = Int32.ofNat (4 ^ T) := by decide
  rw [e_53_0, hT, q T hT4]
theorem O_nn (i : Nat) (h : i ≤ 1000000) : ¬ Int32.ofNat i < 0 := Int32.not_lt.mpr (Int32.zero_le_ofNat_of_lt (by omega))
theorem s_92 (d : Nat) {ν : MM} {n q : Nat} {F : Nat → Bool} (hF : FM ν n F) (hq : q < n) (hn : n ≤ 256) : ev d 92 0 [.ref 28, .int (Int32.ofNat q)] [] (fx ν) = some (some (.int (bI (F q))), fx ν) := by
  have h256 : ¬ (256 : Int32) ≤ Int32.ofNat q := by
    have : ((256 : Int32) ≤ Int32.ofNat q) = (256 ≤ q) := O_le (a := 256) (by decide) (by omega)
    rw [this]
    omega
  rw [e_92_0, if_neg (O_nn q (by omega)), e_92_1, if_neg h256, e_92_2, inb_O (by omega) (by omega), gd_t, tn_O (by omega), hF q hq, bI_0, e_92_3, e_92_4, e_92_5, e_92_5, b01_0, b01_1, gd_t, gd_t]
  cases F q <;> rfl
theorem s_93 (d : Nat) {ν : MM} {q : Nat} (hq : q < 256) (b : Bool) : ev d 93 0 [.ref 28, .int (Int32.ofNat q), .int (bI b)] [] (fx ν) = some (none, fx (sI ν 45 q (bI b))) := by
  have h256 : ¬ (256 : Int32) ≤ Int32.ofNat q := by
    have : ((256 : Int32) ≤ Int32.ofNat q) = (256 ≤ q) := O_le (a := 256) (by decide) (by omega)
    rw [this]
    omega
  rw [e_93_0, if_neg (O_nn q (by omega)), e_93_1, if_neg h256, e_93_2, inb_O (by omega) (by omega), b01_bI, Bool.and_self, gd_t, tn_O (by omega), e_93_3]
theorem FM.w {ν : MM} {n : Nat} {F : Nat → Bool} (h : FM ν n F) (q : Nat) (b : Bool) : FM (sI ν 45 q (bI b)) n (fun i => if i = q then b else F i) := by
  intro i hi
  show gI (sI ν 45 q (bI b)) 45 i = bI (if i = q then b else F i)
  rw [gI_sI]
  by_cases c : i = q
  · rw [if_pos ⟨rfl, c⟩, if_pos c]
  · rw [if_neg (fun h => c h.2), if_neg c, h i hi]
theorem FM.of {ν : MM} {n : Nat} {F G : Nat → Bool} (h : FM ν n F) (e : ∀ i, i < n → F i = G i) : FM ν n G := fun i hi => by rw [← e i hi]; exact h i hi
/-- the first loop of carryBack: what fails -/
theorem l_91a (d : Nat) {ν : MM} {T t r : Nat} (hT4 : T ≤ 4) (ht : t < T) (hr : r < 4 ^ T) {F : Nat → Bool} (hF : FM ν (4 ^ T) F) (v2 x : Int32) {s : Nat} (hs : s < 4) : ev (d + 1) 91 6 [.ref 28, .int (Int32.ofNat t), .int v2, .int (Int32.ofNat r), .int x, .int (Int32.ofNat s)] [] (fx ν) = ev (d + 1) 91 6 [.ref 28, .int (Int32.ofNat t), .int v2, .int (Int32.ofNat r), .int (x ||| (if F (wst r t s) = true then (1 : Int32) <<< (Int32.ofNat s &&& 31) else 0)), .int (Int32.ofNat (s + 1))] [] (fx ν) := by
  have h256 := p4_le hT4
  rw [e_91_6, if_neg (ge4 s hs), e_91_7, e_108_0, bnd_1, app1, wst_I r (by omega) t (by omega) s hs]
  refine (e_91_8 ..).trans ?_
  rw [s_92 d hF (wst_lt hT4 hr ht hs) (by omega), bnd_1, app1]
  refine (e_91_9 ..).trans ?_
  rw [bI_0, e_91_10, e_91_11, e_91_12, e_91_12, O_succ]
  cases F (wst r t s) <;> rfl
/-- the second loop: what it becomes -/
theorem l_91b (d : Nat) {ν : MM} {T t r : Nat} (hT4 : T ≤ 4) (ht : t < T) (hr : r < 4 ^ T) (f : Nat → Int32) (hf : ∀ i, i < 4 → S4 (f i)) (p : Nat → Bool) {s : Nat} (hs : s < 4) : ev (d + 1) 91 14 [.ref 28, .int (Int32.ofNat t), .int (pk4 f), .int (Int32.ofNat r), .int (setI p), .int (Int32.ofNat s)] [] (fx ν) = ev (d + 1) 91 14 [.ref 28, .int (Int32.ofNat t), .int (pk4 f), .int (Int32.ofNat r), .int (setI p), .int (Int32.ofNat (s + 1))] [] (fx (sI ν 45 (wst r t s) (bI ((((gb (f s) 0 && p 0) || (gb (f s) 1 && p 1)) || (gb (f s) 2 && p 2)) || (gb (f s) 3 && p 3))))) := by
  have h256 := p4_le hT4
  have hw := wst_lt hT4 hr ht hs
  rw [e_91_14, if_neg (ge4 s hs), e_91_15, e_108_0, bnd_1, app1, wst_I r (by omega) t (by omega) s hs]
  refine (e_91_16 ..).trans ?_
  rw [s_109 d f hf hs, bnd_1, app1]
  refine (e_91_17 ..).trans ?_
  have e := and0 (p := p) (f s) (hf s hs)
  cases hb : (((gb (f s) 0 && p 0) || (gb (f s) 1 && p 1)) || (gb (f s) 2 && p 2)) || (gb (f s) 3 && p 3) with
  | false =>
    rw [if_pos (by rw [e]; exact hb), e_91_19, e_91_20]
    have := s_93 d (ν := ν) (q := wst r t s) (by omega) false
    refine Eq.trans (congrArg (fun z => bnd 0 z _) this) ?_
    rw [bnd_0, app0]
    refine (e_91_21 ..).trans ?_
    rw [O_succ]
  | true =>
    rw [if_neg (by rw [e, hb]; decide), e_91_18, e_91_20]
    have := s_93 d (ν := ν) (q := wst r t s) (by omega) true
    refine Eq.trans (congrArg (fun z => bnd 0 z _) this) ?_
    rw [bnd_0, app0]
    refine (e_91_21 ..).trans ?_
    rw [O_succ]
/-- what fails, the rows before n carried back by thing t -/
def mix (R : Nat → Nat → Int32) (F : Nat → Bool) (t n : Nat) : Nat → Bool := fun q => if wst q t 0 < n then FB R F (t + 1) q else FB R F t q
theorem l_91 (d : Nat) {T t : Nat} (hT4 : T ≤ 4) (ht : t < T) {R : Nat → Nat → Int32} (hR : ∀ t i, i < 4 → S4 (R t i)) (F : Nat → Bool) : ∀ (k r : Nat) (ν : MM), r + k = 4 ^ T → gI ν 29 8 = Int32.ofNat T → FM ν (4 ^ T) (mix R F t r) → ∃ ν', ev (d + 2) 91 1 [.ref 28, .int (Int32.ofNat t), .int (pk4 (R t)), .int (Int32.ofNat r)] [] (fx ν) = some (none, fx ν') ∧ Fr PS QS ν ν' ∧ gI ν' 50 = gI ν 50 ∧ FM ν' (4 ^ T) (FB R F (t + 1))
  | 0, r, ν, hr, hT, hF => by
    have h256 := p4_le hT4
    refine ⟨ν, ?_, Fr.rf, rfl, hF.of fun q hq => ?_⟩
    · rw [e_91_1, s_53 _ hT hT4, bnd_1, app1]
      refine (e_91_2 ..).trans ?_
      rw [if_pos (by rw [O_le (by omega) (by omega)]; omega), e_91_23]
    · exact if_pos (by have := wst_lt hT4 hq ht (show 0 < 4 by decide); omega)
  | k + 1, r, ν, hr, hT, hF => by
    have h256 := p4_le hT4
    have start : ev (d + 2) 91 1 [.ref 28, .int (Int32.ofNat t), .int (pk4 (R t)), .int (Int32.ofNat r)] [] (fx ν) = if Int32.ofNat (stD r t) = 0 then ev (d + 2) 91 5 [.ref 28, .int (Int32.ofNat t), .int (pk4 (R t)), .int (Int32.ofNat r)] [] (fx ν) else ev (d + 2) 91 22 [.ref 28, .int (Int32.ofNat t), .int (pk4 (R t)), .int (Int32.ofNat r)] [] (fx ν) := by
      rw [e_91_1, s_53 _ hT hT4, bnd_1, app1]
      refine (e_91_2 ..).trans ?_
      rw [if_neg (by rw [O_le (by omega) (by omega)]; omega), e_91_3, s_107, bnd_1, app1, stI_n r (by omega) t (by omega)]
      exact e_91_4 ..
    have hd := stD_lt r t
    have ez : (Int32.ofNat (stD r t) = 0) = (stD r t = 0) := O_eq (b := 0) (by omega) (by decide)
    by_cases c : stD r t = 0
    · rw [if_pos (by rw [ez]; exact c)] at start
      have hp : ∀ s, s < 4 → mix R F t r (wst r t s) = FB R F t (wst r t s) := by
        intro s hs
        unfold mix
        rw [wst_wst r (by omega) t (by omega) s hs 0 (by decide), if_neg]
        have := wst_self r (by omega) t (by omega)
        rw [c] at this
        omega
      have e0 := l_91a (d + 1) hT4 ht (show r < 4 ^ T by omega) hF (pk4 (R t)) 0 (s := 0) (by decide)
      have e1 := fun x => l_91a (d + 1) hT4 ht (show r < 4 ^ T by omega) hF (pk4 (R t)) x (s := 1) (by decide)
      have e2 := fun x => l_91a (d + 1) hT4 ht (show r < 4 ^ T by omega) hF (pk4 (R t)) x (s := 2) (by decide)
      have e3 := fun x => l_91a (d + 1) hT4 ht (show r < 4 ^ T by omega) hF (pk4 (R t)) x (s := 3) (by decide)
      rw [hp 0 (by decide)] at e0
      rw [hp 1 (by decide)] at e1
      rw [hp 2 (by decide)] at e2
      rw [hp 3 (by decide)] at e3
      have g := fun (μ : MM) (s : Nat) (hs : s < 4) => l_91b (d + 1) (ν := μ) hT4 ht (show r < 4 ^ T by omega) (R t) (fun i hi => hR t i hi) (fun s => FB R F t (wst r t s)) hs
      have eFB : ∀ s, s < 4 → ((((gb (R t s) 0 && FB R F t (wst r t 0)) || (gb (R t s) 1 && FB R F t (wst r t 1))) || (gb (R t s) 2 && FB R F t (wst r t 2))) || (gb (R t s) 3 && FB R F t (wst r t 3))) = FB R F (t + 1) (wst r t s) := by
        intro s hs
        rw [FB_s, wst_at r (by omega) t (by omega) s hs t (by omega), if_pos rfl, wst_wst r (by omega) t (by omega) s hs 0 (by decide), wst_wst r (by omega) t (by omega) s hs 1 (by decide), wst_wst r (by omega) t (by omega) s hs 2 (by decide), wst_wst r (by omega) t (by omega) s hs 3 (by decide)]
      obtain ⟨ν', e, f, b, gF⟩ := l_91 d hT4 ht hR F k (r + 1) (sI (sI (sI (sI ν 45 (wst r t 0) (bI (FB R F (t + 1) (wst r t 0)))) 45 (wst r t 1) (bI (FB R F (t + 1) (wst r t 1)))) 45 (wst r t 2) (bI (FB R F (t + 1) (wst r t 2)))) 45 (wst r t 3) (bI (FB R F (t + 1) (wst r t 3)))) (by omega) hT (((((hF.w _ _).w _ _).w _ _).w _ _).of fun q hq => by
        have hq4 := stD_lt q t
        have hself := wst_self q (by omega) t (by omega)
        by_cases cq : wst q t 0 = r
        · have hin : q = wst r t (stD q t) := by
            rw [← cq, wst_wst q (by omega) t (by omega) 0 (by decide) _ hq4, hself]
          have res : mix R F t (r + 1) q = FB R F (t + 1) q := if_pos (by omega)
          rw [res]
          have h4 : stD q t = 0 ∨ stD q t = 1 ∨ stD q t = 2 ∨ stD q t = 3 := by omega
          rcases h4 with h | h | h | h
          · rw [h] at hin
            by_cases x3 : q = wst r t 3
            · rw [if_pos x3, ← x3]
            rw [if_neg x3]
            by_cases x2 : q = wst r t 2
            · rw [if_pos x2, ← x2]
            rw [if_neg x2]
            by_cases x1 : q = wst r t 1
            · rw [if_pos x1, ← x1]
            rw [if_neg x1, if_pos hin, ← hin]
          · rw [h] at hin
            by_cases x3 : q = wst r t 3
            · rw [if_pos x3, ← x3]
            rw [if_neg x3]
            by_cases x2 : q = wst r t 2
            · rw [if_pos x2, ← x2]
            rw [if_neg x2, if_pos hin, ← hin]
          · rw [h] at hin
            by_cases x3 : q = wst r t 3
            · rw [if_pos x3, ← x3]
            rw [if_neg x3, if_pos hin, ← hin]
          · rw [h] at hin
            rw [if_pos hin, ← hin]
        · have no : ∀ s, s < 4 → ¬ q = wst r t s := by
            intro s hs e
            apply cq
            rw [e, wst_wst r (by omega) t (by omega) s hs 0 (by decide)]
            have := wst_self r (by omega) t (by omega)
            rw [c] at this
            exact this
          rw [if_neg (no 3 (by decide)), if_neg (no 2 (by decide)), if_neg (no 1 (by decide)), if_neg (no 0 (by decide))]
          unfold mix
          by_cases cl : wst q t 0 < r
          · rw [if_pos cl, if_pos (by omega)]
          · rw [if_neg cl, if_neg (by omega)])
      refine ⟨ν', ?_, ((Fr.wI _ rfl).tr ((Fr.wI _ rfl).tr ((Fr.wI _ rfl).tr (Fr.wI _ rfl)))).tr f, b, gF⟩
      rw [start, e_91_5]
      refine Eq.trans e0 ?_
      rw [e1, e2, e3, e_91_6, if_pos (by decide), e_91_13]
      refine Eq.trans (g ν 0 (by decide)) ?_
      rw [g _ 1 (by decide), g _ 2 (by decide), g _ 3 (by decide), e_91_14, if_pos (by decide), e_91_22, O_succ, eFB 0 (by decide), eFB 1 (by decide), eFB 2 (by decide), eFB 3 (by decide)]
      exact e
    · rw [if_neg (by rw [ez]; exact c)] at start
      obtain ⟨ν', e, f, b, gF⟩ := l_91 d hT4 ht hR F k (r + 1) ν (by omega) hT (hF.of fun q hq => by
        have hne : wst q t 0 ≠ r := by
          intro e
          have := wst_at q (by omega) t (by omega) 0 (by decide) t (by omega)
          rw [e, if_pos rfl] at this
          exact c this
        unfold mix
        by_cases cl : wst q t 0 < r
        · rw [if_pos cl, if_pos (by omega)]
        · rw [if_neg cl, if_neg (by omega)])
      refine ⟨ν', ?_, f, b, gF⟩
      rw [start, e_91_22, O_succ]
      exact e
theorem s_91 (d : Nat) {T t : Nat} (hT4 : T ≤ 4) (ht : t < T) {R : Nat → Nat → Int32} (hR : ∀ t i, i < 4 → S4 (R t i)) (F : Nat → Bool) {ν : MM} (hT : gI ν 29 8 = Int32.ofNat T) (hF : FM ν (4 ^ T) (FB R F t)) : ∃ ν', ev (d + 2) 91 0 [.ref 28, .int (Int32.ofNat t), .int (pk4 (R t))] [] (fx ν) = some (none, fx ν') ∧ Fr PS QS ν ν' ∧ gI ν' 50 = gI ν 50 ∧ FM ν' (4 ^ T) (FB R F (t + 1)) := by
  rw [e_91_0]
  exact l_91 d hT4 ht hR F (4 ^ T) 0 ν (by omega) hT (hF.of fun q hq => (if_neg (by omega)).symm)
/-- markFails: the rows of STATES then -/
theorem l_90 (d : Nat) {T H N c : Nat} (hT4 : T ≤ 4) (hHN : H + N ≤ 100000) {cl : Cl} (hts : okTs 5 cl.2.2) : ∀ (k r : Nat) (ν : MM), r + k = 4 ^ T → gI ν 29 8 = Int32.ofNat T → gI ν 29 10 = Int32.ofNat H → ClA ν c cl → FM ν r (fun q => !sayT cl.2.2 T (H + N) (Int32.ofNat q)) → ∃ ν', ev (d + 2) 90 1 [.ref 28, .ref c, .int (Int32.ofNat N), .int (Int32.ofNat r)] [] (fx ν) = ev (d + 2) 90 10 [.ref 28, .int (Int32.ofNat N)] [] (fx ν') ∧ Fr PS QS ν ν' ∧ gI ν' 50 = gI ν 50 ∧ FM ν' (4 ^ T) (fun q => !sayT cl.2.2 T (H + N) (Int32.ofNat q))
  | 0, r, ν, hr, hT, hH, hC, hF => by
    have h256 := p4_le hT4
    refine ⟨ν, ?_, Fr.rf, rfl, by rw [← show r = 4 ^ T by omega]; exact hF⟩
    rw [e_90_1, s_53 _ hT hT4, bnd_1, app1]
    refine (e_90_2 ..).trans ?_
    rw [if_pos (by rw [O_le (by omega) (by omega)]; omega)]
  | k + 1, r, ν, hr, hT, hH, hC, hF => by
    have h256 := p4_le hT4
    have f1 : Fr PS QS ν (sI ν 45 r (bI (!sayT cl.2.2 T (H + N) (Int32.ofNat r)))) := Fr.wI _ rfl
    obtain ⟨ν', e, f, b, gF⟩ := l_90 d hT4 hHN hts k (r + 1) (sI ν 45 r (bI (!sayT cl.2.2 T (H + N) (Int32.ofNat r)))) (by omega) hT hH (hC.frS f1) (by
      intro q hq
      rw [gI_sI]
      by_cases cq : q = r
      · rw [if_pos ⟨rfl, cq⟩, cq]
      · rw [if_neg (fun h => cq h.2), hF q (by omega)])
    refine ⟨ν', ?_, f1.tr f, b, gF⟩
    have h256' : ¬ (256 : Int32) ≤ Int32.ofNat r := by
      have : ((256 : Int32) ≤ Int32.ofNat r) = (256 ≤ r) := O_le (a := 256) (by decide) (by omega)
      rw [this]
      omega
    rw [e_90_1, s_53 _ hT hT4, bnd_1, app1]
    refine (e_90_2 ..).trans ?_
    rw [if_neg (by rw [O_le (by omega) (by omega)]; omega), e_90_3, if_neg h256', e_90_4, hH, O_add, s_55 d hT hT4 _ hHN, bnd_1, app1]
    refine (e_90_5 ..).trans ?_
    rw [hC.2.1, beq33]
    show bnd 1 (ev (d + 1) 11 0 [.ref c, .int (packR (rwf T (Int32.ofNat r)) (Int32.ofNat ((H + N) % 12)))] [] (fx ν)) _ = _
    rw [say_c d hC hts, bnd_1, app1]
    refine (e_90_6 ..).trans ?_
    rw [bI_0, e_90_7, e_90_8, e_90_9, e_90_9, inb_O (by omega) (by omega), b01_0, b01_1, Bool.and_self, gd_t, gd_t, tn_O (by omega), O_succ]
    rw [← e]
    cases sayT cl.2.2 T (H + N) (Int32.ofNat r) <;> rfl
theorem l_90t (d : Nat) {A T st H N : Nat} {ht hs : Int32} {cs : List Cl} (hN : N ≤ 1000) (F : Nat → Bool) : ∀ (k t : Nat) (ν : MM), t + k = T → CO ν A T st H ht hs cs → FM ν (4 ^ T) (FB (fun t i => rch cs t H N (one4 i)) F t) → ∃ ν', ev (d + 5) 90 11 [.ref 28, .int (Int32.ofNat N), .int (Int32.ofNat t)] [] (fx ν) = some (none, fx ν') ∧ Fr PS QS ν ν' ∧ gI ν' 50 = gI ν 50 ∧ FM ν' (4 ^ T) (FB (fun t i => rch cs t H N (one4 i)) F T)
  | 0, t, ν, hk, hO, hF => by
    obtain ⟨-, -, -, hT, hT4, -⟩ := hO
    refine ⟨ν, ?_, Fr.rf, rfl, by rw [← show t = T by omega]; rw [← show t = T by omega] at hF; exact hF⟩
    rw [e_90_11, hT, if_pos (by rw [O_le (by omega) (by omega)]; omega), e_90_15]
  | k + 1, t, ν, hk, hO, hF => by
    have hO' := hO
    obtain ⟨hA, hCo, hc, hT, hT4, hS, hs4, hH, hH2, -⟩ := hO'
    obtain ⟨ν1, e1, f1, b1, g1⟩ := s_91 (d + 2) hT4 (show t < T by omega) (R := fun t i => rch cs t H N (one4 i)) (fun t i hi => S4_rch hc t H N (S4_one hi)) F hT hF
    obtain ⟨ν2, e2, f2, b2, g2⟩ := l_90t d hN F k (t + 1) ν1 (by omega) (CO.fr f1 hO) g1
    refine ⟨ν2, ?_, f1.tr f2, b2.trans b1, g2⟩
    rw [e_90_11, hT, if_neg (by rw [O_le (by omega) (by omega)]; omega), e_90_12, s_59 d hA hCo hc (by omega) hH hH2 hN, bnd_1, app1]
    refine (e_90_13 ..).trans ?_
    rw [e1, bnd_0, app0]
    refine (e_90_14 ..).trans ?_
    rw [O_succ]
    exact e2
theorem s_90 (d : Nat) {A T st H N c : Nat} {ht hs : Int32} {cs : List Cl} (hN : N ≤ 1000) {cl : Cl} (hts : okTs 5 cl.2.2) {ν : MM} (hO : CO ν A T st H ht hs cs) (hC : ClA ν c cl) : ∃ ν', ev (d + 5) 90 0 [.ref 28, .ref c, .int (Int32.ofNat N)] [] (fx ν) = some (none, fx ν') ∧ Fr PS QS ν ν' ∧ gI ν' 50 = gI ν 50 ∧ FM ν' (4 ^ T) (FB (fun t i => rch cs t H N (one4 i)) (fun q => !sayT cl.2.2 T (H + N) (Int32.ofNat q)) T) := by
  have hO' := hO
  obtain ⟨-, -, -, hT, hT4, -, -, hH, hH2, -⟩ := hO'
  obtain ⟨ν1, e1, f1, b1, g1⟩ := l_90 (d + 3) hT4 (show H + N ≤ 100000 by omega) hts (4 ^ T) 0 ν (by omega) hT hH hC (fun q hq => absurd hq (by omega))
  obtain ⟨ν2, e2, f2, b2, g2⟩ := l_90t d hN _ T 0 ν1 (by omega) (hO.fr f1) g1
  refine ⟨ν2, ?_, f1.tr f2, b2.trans b1, g2⟩
  rw [e_90_0]
  refine Eq.trans e1 ?_
  rw [e_90_10]
  exact e2
