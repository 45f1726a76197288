/-! partsSo -/
theorem l_88 (d : Nat) {ν : MM} {u : Nat → Nat → Nat} (hu : ∀ t, t < 4 → ∀ k, k < 4 → u t k ≤ 4096) (hL : ∀ t, t < 4 → gL ν 44 t = Int64.ofNat (pkw (u t))) {r : Nat} (hr : r < 256) (x : Nat) {t : Nat} (ht : t < 4) : ev (d + 1) 88 1 [.ref 28, .int (Int32.ofNat r), .long (Int64.ofNat x), .int (Int32.ofNat t)] [] (fx ν) = ev (d + 1) 88 1 [.ref 28, .int (Int32.ofNat r), .long (Int64.ofNat (x * u t (stD r t))), .int (Int32.ofNat (t + 1))] [] (fx ν) := by
  rw [e_88_1, if_neg (ge4 t ht), e_88_2, inb_O ht (by omega), gd_t, s_107, bnd_1, app1, tn_O (by omega), hL t ht, stI_n r hr t ht]
  refine (e_88_3 ..).trans ?_
  rw [s_61 d (hu t ht) (stD_lt r t), bnd_2, app1]
  refine (e_88_4 ..).trans ?_
  rw [L_mul, O_succ]
theorem s_88 (d : Nat) {ν : MM} {u : Nat → Nat → Nat} (hu : ∀ t, t < 4 → ∀ k, k < 4 → u t k ≤ 4096) (hL : ∀ t, t < 4 → gL ν 44 t = Int64.ofNat (pkw (u t))) {r : Nat} (hr : r < 256) : ev (d + 1) 88 0 [.ref 28, .int (Int32.ofNat r)] [] (fx ν) = some (some (.long (Int64.ofNat ((((1 * u 0 (stD r 0)) * u 1 (stD r 1)) * u 2 (stD r 2)) * u 3 (stD r 3)))), fx ν) := by
  rw [e_88_0, show (1 : Int64) = Int64.ofNat 1 from rfl, show (0 : Int32) = Int32.ofNat 0 from rfl, l_88 d hu hL hr _ (t := 0) (by decide), l_88 d hu hL hr _ (t := 1) (by decide), l_88 d hu hL hr _ (t := 2) (by decide), l_88 d hu hL hr _ (t := 3) (by decide), e_88_1, if_pos (by decide), e_88_5]
theorem clp_le {cs : List Cl} (hc : okCs cs) {T st H N : Nat} (hN : N ≤ 12) (r : Nat) : clp cs T st H N r ≤ 2 ^ 48 := by
  have h := fun t => chN_le hc (T := T) (st := st) (H := H) (N := N) hN t (stD_lt r t)
  unfold clp
  rw [Nat.one_mul]
  exact Nat.le_trans (Nat.mul_le_mul (Nat.mul_le_mul (Nat.mul_le_mul (h 0) (h 1)) (h 2)) (h 3)) (by decide)
theorem l_87r (d : Nat) {A T st H N c : Nat} {ht hs : Int32} {cs : List Cl} (hN : N ≤ 12) {cl : Cl} (hts : okTs 5 cl.2.2) {what : Nat} (hw : what < 3) {ν : MM} (hO : CO ν A T st H ht hs cs) (hC : ClA ν c cl) (hL : ∀ t, t < 4 → gL ν 44 t = Int64.ofNat (pkw (chN cs T st H N t))) : ∀ (k r : Nat), r + k = 4 ^ T → ev (d + 3) 87 6 [.ref 28, .ref c, .int (Int32.ofNat what), .int (Int32.ofNat N), .long (Int64.ofNat (sso r (soW cl.2.2 T (H + N) ht hs what) (clp cs T st H N))), .int (Int32.ofNat r)] [] (fx ν) = some (some (.long (Int64.ofNat (sso (4 ^ T) (soW cl.2.2 T (H + N) ht hs what) (clp cs T st H N)))), fx ν) := by
  have hO' := hO
  obtain ⟨-, -, hcs, hT, hT4, -, -, hH, hH2, -⟩ := hO'
  have h256 := p4_le hT4
  have rows : ev (d + 2) 53 0 [.ref 29] [] (fx ν) = some (some (.int (Int32.ofNat (4 ^ T))), fx ν) := by
    have q : ∀ T, T ≤ 4 → (1 : Int32) <<< ((2 * Int32.ofNat T) &&& 31) = Int32.ofNat (4 ^ T) := by decide
    rw [e_53_0, hT, q T hT4]
  intro k
  induction k with
  | zero =>
    intro r hr
    rw [e_87_6, rows, bnd_1, app1]
    refine (e_87_7 ..).trans ?_
    rw [if_pos (by rw [O_le (by omega) (by omega)]; omega), e_87_14, show r = 4 ^ T by omega]
  | succ k ih =>
    intro r hr
    have go := ih (r + 1) (by omega)
    rw [sso_succ] at go
    rw [e_87_6, rows, bnd_1, app1]
    refine (e_87_7 ..).trans ?_
    have hb := clp_le hcs (T := T) (st := st) (H := H) hN r
    have h88 := s_88 (d + 1) (u := chN cs T st H N) (fun t _ k hk => chN_le hcs hN t hk) hL (r := r) (by omega)
    rw [if_neg (by rw [O_le (by omega) (by omega)]; omega), e_87_8, h88, bnd_2, app1]
    refine (e_87_9 ..).trans ?_
    by_cases c0 : clp cs T st H N r = 0
    · rw [if_pos (by rw [lg_cmp_eq]; exact congrArg Int64.ofNat c0), e_87_13, O_succ]
      rw [c0, show (if soW cl.2.2 T (H + N) ht hs what r = true then (0 : Nat) else 0) = 0 by split <;> rfl, Nat.add_zero] at go
      exact go
    · rw [if_neg (by
        rw [lg_cmp_eq, show (0 : Int64) = Int64.ofNat 0 from rfl]
        intro e
        have : (Int64.ofNat (clp cs T st H N r) = Int64.ofNat 0) = (clp cs T st H N r = 0) := L_eq (by omega) (by omega)
        exact c0 (this.mp e)), e_87_10, hH, O_add, s_89 d hO hC hts r (by omega) hw, bnd_1, app1]
      refine (e_87_11 ..).trans ?_
      rw [bI_0]
      by_cases c1 : soW cl.2.2 T (H + N) ht hs what r = true
      · rw [if_pos c1, e_87_12, e_87_13, O_succ]
        rw [if_pos c1, ← L_add] at go
        exact go
      · rw [if_neg c1, e_87_13, O_succ]
        rw [if_neg c1, Nat.add_zero] at go
        exact go
theorem ClA.frS {ν ν' : MM} (f : Fr PS QS ν ν') {c : Nat} {cl : Cl} (h : ClA ν c cl) : ClA ν' c cl := by
  refine h.fr f ?_
  intro q k hq
  have n : ∀ c, c < 57 → Nat.beq q c = false := fun c hc => by
    cases e : Nat.beq q c with
    | false => rfl
    | true => exact absurd (Nat.eq_of_beq_eq_true e) (by omega)
  unfold PS Pl Pg
  rw [n 45 (by omega), n 46 (by omega), n 49 (by omega), n 50 (by omega), n 53 (by omega), n 54 (by omega), n 55 (by omega)]
  rfl
theorem l_87c (d : Nat) {A T st H N : Nat} {ht hs : Int32} {cs : List Cl} (hN : N ≤ 12) (c : Nat) (w : Int32) {ν : MM} (hO : CO ν A T st H ht hs cs) {t : Nat} (h4 : t < 4) : ev (d + 4) 87 2 [.ref 28, .ref c, .int w, .int (Int32.ofNat N), .int (Int32.ofNat t)] [] (fx ν) = ev (d + 4) 87 2 [.ref 28, .ref c, .int w, .int (Int32.ofNat N), .int (Int32.ofNat (t + 1))] [] (fx (sL ν 44 t (Int64.ofNat (pkw (chN cs T st H N t))))) := by
  obtain ⟨hA, hCo, hc, hT, hT4, hS, hs4, hH, hH2, -⟩ := hO
  rw [e_87_2, if_neg (ge4 t h4), e_87_3, s_60 d hA hCo hc h4 hH hH2 hT hT4 hS (Nat.lt_of_lt_of_le hs4 (p4_le hT4)) hN, bnd_2, app1]
  refine (e_87_4 ..).trans ?_
  rw [inb_O h4 (by omega), gd_t, tn_O (by omega), O_succ]
theorem s_87 (d : Nat) {A T st H c r k v hs' co si : Nat} {ht hs : Int32} {cs : List Cl} {cl : Cl} (hts : okTs 5 cl.2.2) {what : Nat} (hw : what < 3) {ν : MM} (hO : CO ν A T st H ht hs cs) (hC : ClA ν c cl) (hR : RnV ν r k v hs' co si) : ∃ ν', ev (d + 4) 87 0 [.ref 28, .ref c, .ref r, .int (Int32.ofNat what)] [] (fx ν) = some (some (.long (Int64.ofNat (sso (4 ^ T) (soW cl.2.2 T (H + tkn k v hs' si H) ht hs what) (clp cs T st H (tkn k v hs' si H))))), fx ν') ∧ Fr PS QS ν ν' ∧ gI ν' = gI ν := by
  have hO' := hO
  obtain ⟨-, -, -, -, -, -, -, hH, hH2, -⟩ := hO'
  have hR' := hR
  obtain ⟨-, -, hk, hv, h6, -, hsi, -⟩ := hR'
  have hN := tkn_le (k := k) (v := v) H h6 hsi
  generalize hNe : tkn k v hs' si H = N at hN
  refine ⟨sL (sL (sL (sL ν 44 0 (Int64.ofNat (pkw (chN cs T st H N 0)))) 44 1 (Int64.ofNat (pkw (chN cs T st H N 1)))) 44 2 (Int64.ofNat (pkw (chN cs T st H N 2)))) 44 3 (Int64.ofNat (pkw (chN cs T st H N 3))), ?_, (Fr.wL _ rfl).tr ((Fr.wL _ rfl).tr ((Fr.wL _ rfl).tr (Fr.wL _ rfl))), rfl⟩
  have f1 : ∀ {μ : MM} (t : Nat) (v : Int64), Fr PS QS μ (sL μ 44 t v) := fun t v => Fr.wL _ rfl
  rw [e_87_0]
  refine (hf_any (d + 2) hR hH (by omega) _).trans ?_
  rw [hNe]
  refine (e_87_1 ..).trans ?_
  have o1 := hO.fr (f1 0 (Int64.ofNat (pkw (chN cs T st H N 0))))
  have o2 := o1.fr (f1 1 (Int64.ofNat (pkw (chN cs T st H N 1))))
  have o3 := o2.fr (f1 2 (Int64.ofNat (pkw (chN cs T st H N 2))))
  have o4 := o3.fr (f1 3 (Int64.ofNat (pkw (chN cs T st H N 3))))
  rw [show (0 : Int32) = Int32.ofNat 0 from rfl, l_87c d hN c _ hO (t := 0) (by decide), l_87c d hN c _ o1 (t := 1) (by decide), l_87c d hN c _ o2 (t := 2) (by decide), l_87c d hN c _ o3 (t := 3) (by decide), e_87_2, if_pos (by decide), e_87_5]
  refine l_87r (d + 1) hN hts hw o4 (hC.frS ((f1 0 _).tr ((f1 1 _).tr ((f1 2 _).tr (f1 3 _))))) ?_ (4 ^ T) 0 (by omega)
  intro t ht'
  match t, ht' with
  | 0, _ => rfl
  | 1, _ => rfl
  | 2, _ => rfl
  | 3, _ => rfl
