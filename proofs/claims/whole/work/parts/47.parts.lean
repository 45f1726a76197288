/-! the class: a call of hoursFrom by KIND; in how many parts a SAYING is so -/
theorem hf_any (d : Nat) {ν : MM} {r k v hs co st h : Nat} (H : RnV ν r k v hs co st) {x : Int32} (hx : x = Int32.ofNat h) (hh : h ≤ 100000) (K : List Value → MM → Rs) : (match Nat.beq (shp (fx ν) r) 0 with
  | true => bnd 1 (ev (d + 1) 1 0 [.ref r] [] (fx ν)) K
  | false => (match Nat.beq (shp (fx ν) r) 1 with
    | true => bnd 1 (ev (d + 1) 4 0 [.ref r, .int x] [] (fx ν)) K
    | false => (match Nat.beq (shp (fx ν) r) 2 with
      | true => bnd 1 (ev (d + 1) 7 0 [.ref r, .int x] [] (fx ν)) K
      | false => (match Nat.beq (shp (fx ν) r) 4 with
        | true => bnd 1 (ev (d + 1) 15 0 [.ref r, .int x] [] (fx ν)) K
        | false => (match Nat.beq (shp (fx ν) r) 6 with
          | true => bnd 1 (ev (d + 1) 33 0 [.ref r] [] (fx ν)) K
          | false => (match Nat.beq (shp (fx ν) r) 7 with
            | true => bnd 1 (ev (d + 1) 1 0 [.ref r] [] (fx ν)) K
            | false => (match Nat.beq (shp (fx ν) r) 8 with
              | true => bnd 1 (ev (d + 1) 43 0 [.ref r, .int x] [] (fx ν)) K
              | false => (none : Rs)))))))) = K [.int (Int32.ofNat (tkn k v hs st h))] (fx ν) := by
  subst hx
  have H' := H
  obtain ⟨-, h1, hk, -⟩ := H'
  have hk7 : k = 0 ∨ k = 1 ∨ k = 2 ∨ k = 3 ∨ k = 4 ∨ k = 5 ∨ k = 6 := by omega
  rcases hk7 with c | c | c | c | c | c | c
  · subst c
    rw [h1]
    exact congrArg (fun z => bnd 1 z K) (hf0 (d + 1) h H)
  · subst c
    rw [h1]
    exact congrArg (fun z => bnd 1 z K) (hf1 (d + 1) h H)
  · subst c
    rw [h1]
    exact congrArg (fun z => bnd 1 z K) (hf2 (d + 1) hh H)
  · subst c
    rw [h1]
    exact congrArg (fun z => bnd 1 z K) (hf3 (d + 1) hh H)
  · subst c
    rw [h1]
    exact congrArg (fun z => bnd 1 z K) (hf4 (d + 1) h H)
  · subst c
    rw [h1]
    exact congrArg (fun z => bnd 1 z K) (hf5 d hh H)
  · subst c
    rw [h1]
    exact congrArg (fun z => bnd 1 z K) (hf6 d hh H)
/-- a SAYING in a row of STATES -/
def sayT (ts : List Int32) (T : Nat) (h : Nat) (row : Int32) : Bool := hld (fb (rwy T row (Int32.ofNat (h % 12)))) ts
theorem say_c (d : Nat) {ν : MM} {c T : Nat} {cl : Cl} (hC : ClA ν c cl) (ht : okTs 5 cl.2.2) (row : Int32) (h : Nat) : ev (d + 1) 11 0 [.ref c, .int (packR (rwf T row) (Int32.ofNat (h % 12)))] [] (fx ν) = some (some (.int (bI (sayT cl.2.2 T h row))), fx ν) := by
  rw [s_11 d _ hC, hld_ff (packR_ok T row (Nat.mod_lt h (by decide))) ht]
  rfl
/-- what is told by hand, as a row -/
def hdI (t s row : Int32) : Int32 := if t = -1 then row else (row &&& ((3 : Int32) <<< (((2 : Int32) * t) &&& 31) ^^^ (-1))) ||| s <<< (((2 : Int32) * t) &&& 31)
def okHd (t s : Int32) : Prop := (t = -1 ∨ ∃ i, i < 4 ∧ t = Int32.ofNat i) ∧ ∃ k, k < 4 ∧ s = Int32.ofNat k
theorem s_54 (d : Nat) {ν : MM} {t s : Int32} (h : okHd t s) (h1 : gI ν 29 11 = t) (h2 : gI ν 29 12 = s) (row : Int32) : ev (d + 1) 54 0 [.ref 29, .int row] [] (fx ν) = some (some (.int (hdI t s row)), fx ν) := by
  rw [e_54_0, h1]
  unfold hdI
  by_cases c : t = -1
  · rw [if_pos c, if_pos c, e_54_1, e_54_3]
  · rw [if_neg c, if_neg c, e_54_2, e_108_0, bnd_1, app1, h1, h2]
    refine (e_54_3 ..).trans ?_
    obtain ⟨-, k, hk, rfl⟩ := h
    have q : ∀ k, k < 4 → Int32.ofNat k &&& 3 = Int32.ofNat k := by decide
    rw [q k hk]
theorem s_177 (d : Nat) {ν : MM} {t s : Int32} (h1 : gI ν 47 8 = t) (h2 : gI ν 47 9 = s) (row : Int32) : ev d 177 0 [.ref 46, .int row] [] (fx ν) = some (some (.int (hdI t s row)), fx ν) := by
  rw [e_177_0, h1]
  unfold hdI
  by_cases c : t = -1
  · rw [if_pos c, if_pos c, e_177_1, e_177_3]
  · rw [if_neg c, if_neg c, e_177_2, e_177_3, h2]
/-- what the class asks of its world -/
def CO (ν : MM) (A T st H : Nat) (ht hs : Int32) (cs : List Cl) : Prop := gR ν 29 2 = some A ∧ CoA ν A cs ∧ okCs cs ∧ gI ν 29 8 = Int32.ofNat T ∧ T ≤ 4 ∧ gI ν 29 9 = Int32.ofNat st ∧ st < 4 ^ T ∧ gI ν 29 10 = Int32.ofNat H ∧ H ≤ 1000 ∧ gI ν 29 11 = ht ∧ gI ν 29 12 = hs ∧ okHd ht hs
theorem CoA.L {ν : MM} {A q k : Nat} {v : Int64} {cs : List Cl} (h : CoA ν A cs) : CoA (sL ν q k v) A cs := h
theorem CO.fr {ν ν' : MM} (f : Fr PS QS ν ν') {A T st H : Nat} {ht hs : Int32} {cs : List Cl} (h : CO ν A T st H ht hs cs) : CO ν' A T st H ht hs cs := by
  obtain ⟨h1, h2, h3, h4, h5, h6, h7, h8, h9, h10, h11, h12⟩ := h
  have r := f.rowS (q := 29) rfl
  have fP : ∀ q k, 57 ≤ q → PS q k = false := by
    intro q k hq
    have n : ∀ c, c < 57 → Nat.beq q c = false := fun c hc => by
      cases e : Nat.beq q c with
      | false => rfl
      | true => exact absurd (Nat.eq_of_beq_eq_true e) (by omega)
    unfold PS Pl Pg
    rw [n 45 (by omega), n 46 (by omega), n 49 (by omega), n 50 (by omega), n 53 (by omega), n 54 (by omega), n 55 (by omega)]
    rfl
  refine ⟨by rw [f.rR]; exact h1, h2.fr f fP, h3, by rw [r]; exact h4, h5, by rw [r]; exact h6, h7, by rw [r]; exact h8, h9, by rw [r]; exact h10, by rw [r]; exact h11, h12⟩
/-- whether a SAYING is so in a row, as SELF tells -/
def soW (ts : List Int32) (T h : Nat) (ht hs : Int32) (what : Nat) (r : Nat) : Bool := (decide (what = 1) || sayT ts T h (Int32.ofNat r)) && (decide (what = 0) || sayT ts T h (hdI ht hs (Int32.ofNat r)))
theorem wh_num : ∀ w, w < 3 → ((Int32.ofNat w = 1) = (w = 1)) ∧ ((Int32.ofNat w = 0) = (w = 0)) := by
  intro w hw
  exact ⟨O_eq (b := 1) (by omega) (by decide), O_eq (b := 0) (by omega) (by decide)⟩
theorem s_89 (d : Nat) {ν : MM} {A T st H c : Nat} {ht hs : Int32} {cs : List Cl} (hO : CO ν A T st H ht hs cs) {cl : Cl} (hC : ClA ν c cl) (hts : okTs 5 cl.2.2) (r : Nat) {h what : Nat} (hh : h ≤ 100000) (hw : what < 3) : ev (d + 2) 89 0 [.ref 28, .ref c, .int (Int32.ofNat r), .int (Int32.ofNat h), .int (Int32.ofNat what)] [] (fx ν) = some (some (.int (bI (soW cl.2.2 T h ht hs what r))), fx ν) := by
  obtain ⟨-, -, -, hT, hT4, -, -, -, -, h11, h12, hok⟩ := hO
  obtain ⟨n1, n0⟩ := wh_num what hw
  have b5 : ∀ b : Bool, (decide (what = 1) || b) = true → ev (d + 2) 89 5 [.ref 28, .ref c, .int (Int32.ofNat r), .int (Int32.ofNat h), .int (Int32.ofNat what)] [] (fx ν) = some (some (.int (bI ((decide (what = 1) || b) && (decide (what = 0) || sayT cl.2.2 T h (hdI ht hs (Int32.ofNat r)))))), fx ν) := by
    intro b hb
    rw [hb, Bool.true_and, e_89_5]
    by_cases c0 : what = 0
    · rw [if_pos (by rw [n0]; exact c0), e_89_10, e_89_12, b01_1, gd_t, decide_eq_true c0, Bool.true_or]
      rfl
    · rw [if_neg (by rw [n0]; exact c0), e_89_6, s_54 d hok h11 h12, bnd_1, app1]
      refine (e_89_7 ..).trans ?_
      rw [s_55 d hT hT4 _ hh, bnd_1, app1]
      refine (e_89_8 ..).trans ?_
      rw [hC.2.1, beq33]
      show bnd 1 (ev (d + 1) 11 0 [.ref c, .int (packR (rwf T (hdI ht hs (Int32.ofNat r))) (Int32.ofNat (h % 12)))] [] (fx ν)) _ = _
      rw [say_c d hC hts, bnd_1, app1]
      refine (e_89_9 ..).trans ?_
      rw [bI_0, decide_eq_false c0, Bool.false_or, e_89_10, e_89_11, e_89_12, e_89_12, b01_0, b01_1, gd_t, gd_t]
      cases sayT cl.2.2 T h (hdI ht hs (Int32.ofNat r)) <;> rfl
  unfold soW
  rw [e_89_0]
  by_cases c1 : what = 1
  · rw [if_pos (by rw [n1]; exact c1)]
    exact b5 _ (by rw [decide_eq_true c1]; rfl)
  · rw [if_neg (by rw [n1]; exact c1), e_89_1, s_55 d hT hT4 _ hh, bnd_1, app1]
    refine (e_89_2 ..).trans ?_
    rw [hC.2.1, beq33]
    show bnd 1 (ev (d + 1) 11 0 [.ref c, .int (packR (rwf T (Int32.ofNat r)) (Int32.ofNat (h % 12)))] [] (fx ν)) _ = _
    rw [say_c d hC hts, bnd_1, app1]
    refine (e_89_3 ..).trans ?_
    rw [bI_0]
    by_cases cs' : sayT cl.2.2 T h (Int32.ofNat r) = true
    · rw [if_pos cs']
      exact b5 _ (by rw [cs', Bool.or_true])
    · rw [if_neg cs', e_89_4, Bool.eq_false_iff.mpr cs', decide_eq_false c1]
      rfl
