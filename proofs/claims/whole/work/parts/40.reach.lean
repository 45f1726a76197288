/-! where a THING may come to: the class's reach, packed; the model's sets -/
theorem S4_myS {cs : List Cl} (h : okCs cs) {t k s : Nat} (hs : s < 4) {set x : Int32} (hx : S4 x) : S4 (myS cs t k set x s) := by
  unfold myS
  split
  · rw [stT_F h hs]
    exact S4_or hx (S4_stF (nx_lt ..) (df_n h t s k).2)
  · exact hx
theorem S4_myB {cs : List Cl} (h : okCs cs) (t k : Nat) (set : Int32) : S4 (myB cs t k set) :=
  S4_myS h (by decide) (S4_myS h (by decide) (S4_myS h (by decide) (S4_myS h (by decide) S4_0)))
theorem S4_stT {cs : List Cl} (h : okCs cs) {t k s : Nat} (hs : s < 4) : S4 (stT cs t s k) := by
  rw [stT_F h hs]
  exact S4_stF (nx_lt ..) (df_n h t s k).2
/-- a set of STATES, so many HOURS on -/
def rch (cs : List Cl) (t H : Nat) : Nat → Int32 → Int32
  | 0, x => x
  | n + 1, x => myB cs t (H + n) (rch cs t H n x)
def one4 (s : Nat) : Int32 := (1 : Int32) <<< Int32.ofNat s
theorem S4_one {s : Nat} (hs : s < 4) : S4 (one4 s) := by
  intro j hj
  unfold one4
  rw [gb_sl _ (by omega), gb_one, decide_eq_false (show ¬ j - s = 0 by omega), Bool.and_false]
theorem S4_rch {cs : List Cl} (h : okCs cs) (t H : Nat) : ∀ (n : Nat) {x : Int32}, S4 x → S4 (rch cs t H n x)
  | 0, _, hx => hx
  | _ + 1, _, _ => S4_myB h _ _ _
theorem s_109 (d : Nat) (f : Nat → Int32) (hf : ∀ i, i < 4 → S4 (f i)) {i : Nat} (hi : i < 4) (ν : MM) : ev d 109 0 [.int (pk4 f), .int (Int32.ofNat i)] [] (fx ν) = some (some (.int (f i)), fx ν) := by
  rw [e_109_0, pk4_at f hf hi]
/-- one STATE's set goes on -/
theorem l_59i (d : Nat) {ν : MM} {t k : Nat} {cs : List Cl} (hc : okCs cs) (v2 : Int32) (f : Nat → Int32) (hf : ∀ i, i < 4 → S4 (f i)) (v4 v6 x : Int32) {i s : Nat} (hi : i < 4) (hs : s < 4) (v1 : Int32) : ev (d + 1) 59 6 [.ref 29, .int v1, .int v2, .int (pk4 f), .int v4, .int (pk4 fun s => stT cs t s k), .int v6, .int (Int32.ofNat i), .int x, .int (Int32.ofNat s)] [] (fx ν) = ev (d + 1) 59 6 [.ref 29, .int v1, .int v2, .int (pk4 f), .int v4, .int (pk4 fun s => stT cs t s k), .int v6, .int (Int32.ofNat i), .int (myS cs t k (f i) x s), .int (Int32.ofNat (s + 1))] [] (fx ν) := by
  have h4 : ¬ (4 : Int32) ≤ Int32.ofNat s := by
    have q : ∀ i, i < 4 → ¬ (4 : Int32) ≤ Int32.ofNat i := by decide
    exact q s hs
  rw [e_59_6, if_neg h4, e_59_7, s_109 d f hf hi, bnd_1, app1]
  refine (e_59_8 ..).trans ?_
  unfold myS
  by_cases c : f i >>> (Int32.ofNat s &&& 31) &&& 1 = 1
  · rw [if_pos c, if_pos c, e_59_9, s_109 d _ (fun i hi => S4_stT hc hi) hs, bnd_1, app1]
    refine (e_59_10 ..).trans ?_
    rw [e_59_12, O_succ]
  · rw [if_neg c, if_neg c, e_59_11, e_59_12, O_succ, Int32.or_zero]
theorem l_59f (d : Nat) {ν : MM} {t k : Nat} {cs : List Cl} (hc : okCs cs) (v2 : Int32) (f : Nat → Int32) (hf : ∀ i, i < 4 → S4 (f i)) (v4 v6 : Int32) {i : Nat} (hi : i < 4) (v1 : Int32) : ev (d + 1) 59 4 [.ref 29, .int v1, .int v2, .int (pk4 f), .int v4, .int (pk4 fun s => stT cs t s k), .int v6, .int (Int32.ofNat i)] [] (fx ν) = ev (d + 1) 59 4 [.ref 29, .int v1, .int v2, .int (pk4 f), .int v4, .int (pk4 fun s => stT cs t s k), .int (v6 ||| myB cs t k (f i) <<< ((4 * Int32.ofNat i) &&& 31)), .int (Int32.ofNat (i + 1))] [] (fx ν) := by
  have h4 : ¬ (4 : Int32) ≤ Int32.ofNat i := by
    have q : ∀ i, i < 4 → ¬ (4 : Int32) ≤ Int32.ofNat i := by decide
    exact q i hi
  rw [e_59_4, if_neg h4, e_59_5]
  have z0 : (0 : Int32) = Int32.ofNat 0 := rfl
  refine (l_59i d hc v2 f hf v4 v6 0 (s := 0) hi (by decide) v1).trans ?_
  rw [l_59i d hc v2 f hf v4 v6 _ hi (by decide) v1, l_59i d hc v2 f hf v4 v6 _ hi (by decide) v1, l_59i d hc v2 f hf v4 v6 _ hi (by decide) v1, e_59_6, if_pos (by decide), e_59_13, O_succ]
  rfl
theorem l_59 (d : Nat) {ν : MM} {A t H : Nat} {cs : List Cl} (hA : gR ν 29 2 = some A) (hC : CoA ν A cs) (hc : okCs cs) (ht : t < 4) (hH : gI ν 29 10 = Int32.ofNat H) (hH2 : H ≤ 1000) {N : Nat} (hN : N ≤ 1000) (x0 : Nat → Int32) (h0 : ∀ i, i < 4 → S4 (x0 i)) : ∀ (r n : Nat), n + r = N → ev (d + 4) 59 1 [.ref 29, .int (Int32.ofNat t), .int (Int32.ofNat N), .int (pk4 fun s => rch cs t H n (x0 s)), .int (Int32.ofNat n)] [] (fx ν) = some (some (.int (pk4 fun s => rch cs t H N (x0 s))), fx ν)
  | 0, n, hn => by
    have : n = N := by omega
    rw [e_59_1, if_pos (by rw [O_le (by omega) (by omega)]; omega), e_59_15, this]
  | r + 1, n, hn => by
    have hf : ∀ i, i < 4 → S4 (rch cs t H n (x0 i)) := fun i hi => S4_rch hc t H n (h0 i hi)
    rw [e_59_1, if_neg (by rw [O_le (by omega) (by omega)]; omega), e_59_2, hH, O_add, s_58 d hA hC hc.2.2 ht (by omega), bnd_1, app1]
    refine (e_59_3 ..).trans ?_
    refine (l_59f (d + 3) hc _ _ hf _ 0 (i := 0) (by decide) _).trans ?_
    rw [l_59f (d + 3) hc _ _ hf _ _ (by decide) _, l_59f (d + 3) hc _ _ hf _ _ (by decide) _, l_59f (d + 3) hc _ _ hf _ _ (by decide) _, e_59_4, if_pos (by decide), e_59_14, O_succ]
    exact l_59 d hA hC hc ht hH hH2 hN x0 h0 r (n + 1) (by omega)
theorem s_59 (d : Nat) {ν : MM} {A t H : Nat} {cs : List Cl} (hA : gR ν 29 2 = some A) (hC : CoA ν A cs) (hc : okCs cs) (ht : t < 4) (hH : gI ν 29 10 = Int32.ofNat H) (hH2 : H ≤ 1000) {N : Nat} (hN : N ≤ 1000) : ev (d + 4) 59 0 [.ref 29, .int (Int32.ofNat t), .int (Int32.ofNat N)] [] (fx ν) = some (some (.int (pk4 fun s => rch cs t H N (one4 s))), fx ν) := by
  have e : (33825 : Int32) = pk4 fun s => rch cs t H 0 (one4 s) := by
    show (33825 : Int32) = pk4 one4
    decide
  rw [e_59_0, e]
  exact l_59 d hA hC hc ht hH hH2 hN one4 (fun i hi => S4_one hi) N 0 (by omega)
