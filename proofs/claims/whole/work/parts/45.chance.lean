/-! the class's chances -/
theorem s_61 (d : Nat) {u : Nat → Nat} (h : ∀ k, k < 4 → u k ≤ 4096) {a : Nat} (ha : a < 4) (ν : MM) : ev d 61 0 [.long (Int64.ofNat (pkw u)), .int (Int32.ofNat a)] [] (fx ν) = some (some (.long (Int64.ofNat (u a))), fx ν) := by
  rw [e_61_0, pkw_at h ha]
theorem l_60s (d : Nat) {ν : MM} {A t H n : Nat} {cs : List Cl} (hA : gR ν 29 2 = some A) (hC : CoA ν A cs) (hc : okCs cs) (ht : t < 4) (hH : gI ν 29 10 = Int32.ofNat H) (hH2 : H ≤ 1000) (hn : n ≤ 1000) {u : Nat → Nat} (hu : ∀ k, k < 4 → u k ≤ 4096) (v2 : Int32) (v : Nat → Nat) {s : Nat} (hs : s < 4) : ev (d + 3) 60 6 [.ref 29, .int (Int32.ofNat t), .int v2, .long (Int64.ofNat (pkw u)), .int (Int32.ofNat n), .long (Int64.ofNat (pkw v)), .int (Int32.ofNat s)] [] (fx ν) = ev (d + 3) 60 6 [.ref 29, .int (Int32.ofNat t), .int v2, .long (Int64.ofNat (pkw u)), .int (Int32.ofNat n), .long (Int64.ofNat (pkw (addw v (nxN cs t s (H + n)) (dfN cs t s (H + n)) (u s / 2)))), .int (Int32.ofNat (s + 1))] [] (fx ν) := by
  have hus := hu s hs
  rw [e_60_6, if_neg (ge4 s hs), e_60_7, s_61 _ hu hs, bnd_2, app1]
  refine (e_60_8 ..).trans ?_
  rw [L_half (by omega)]
  by_cases c : u s / 2 = 0
  · rw [if_pos (by rw [lg_cmp_eq, c]; rfl), c, addw_0, e_60_15, O_succ]
  · rw [if_neg (by rw [lg_cmp_eq, show (0 : Int64) = Int64.ofNat 0 from rfl, L_eq (by omega) (by omega)]; exact c), e_60_9, hH, O_add, s_110 _ (by omega), bnd_1, app1]
    refine (e_60_10 ..).trans ?_
    rw [s_57 d _ _ hA hC, bnd_1, app1]
    refine (e_60_11 ..).trans ?_
    rw [s_57 d _ _ hA hC, bnd_1, app1, tog_T hc.2.2 ht hs, tog_T hc.2.2 ht hs]
    refine (e_60_12 ..).trans ?_
    obtain ⟨a1, a2⟩ := tu_n hc t s (H + n)
    obtain ⟨b1, b2⟩ := df_n hc t s (H + n)
    obtain ⟨w1, w2⟩ := W_num (dfN cs t s (H + n)) (by omega)
    have e0 : Int32.ofNat (s + tuN cs t s (H + n)) - Int32.ofNat (s + tuN cs t s (H + n)) / 4 * 4 = Int32.ofNat (nxN cs t s (H + n)) := O_rem4 (by omega)
    have e1 : (Int32.ofNat (s + tuN cs t s (H + n)) + 1) - (Int32.ofNat (s + tuN cs t s (H + n)) + 1) / 4 * 4 = Int32.ofNat ((nxN cs t s (H + n) + 1) % 4) := by
      rw [O_succ, O_rem4 (by omega)]
      congr 1
      unfold nxN
      omega
    rw [a1, b1, O_add, e_60_13, e0, w1, L_mul, L_shl16 _ (nx_lt ..), L_add, pkw_add _ _ (nx_lt ..), e_60_14, e1, w2, L_mul, L_shl16 _ (Nat.mod_lt _ (by decide)), L_add, pkw_add _ _ (Nat.mod_lt _ (by decide)), e_60_15, O_succ, addw_adf, Nat.mul_comm (u s / 2), Nat.mul_comm (u s / 2)]
theorem oft_le {cs : List Cl} (hc : okCs cs) (t H : Nat) {s : Nat} (hs : s < 4) {n : Nat} (hn : n ≤ 12) {k : Nat} (hk : k < 4) : oft cs t H (w01 s) n k * 2 ^ (12 - n) ≤ 4096 := by
  have h1 := w_le (oft cs t H (w01 s) n) hk
  rw [smw_oft hc, smw_w01 s hs, Nat.mul_one] at h1
  have h2 : 2 ^ n * 2 ^ (12 - n) = 4096 := by
    rw [← Nat.pow_add, show n + (12 - n) = 12 by omega]
  rw [← h2]
  exact Nat.mul_le_mul_right _ h1
theorem l_60 (d : Nat) {ν : MM} {A t H : Nat} {cs : List Cl} (hA : gR ν 29 2 = some A) (hC : CoA ν A cs) (hc : okCs cs) (ht : t < 4) (hH : gI ν 29 10 = Int32.ofNat H) (hH2 : H ≤ 1000) {N : Nat} (hN : N ≤ 12) {s : Nat} (hs : s < 4) : ∀ (r n : Nat), n + r = N → ev (d + 3) 60 4 [.ref 29, .int (Int32.ofNat t), .int (Int32.ofNat N), .long (Int64.ofNat (pkw fun k => oft cs t H (w01 s) n k * 2 ^ (12 - n))), .int (Int32.ofNat n)] [] (fx ν) = some (some (.long (Int64.ofNat (pkw fun k => oft cs t H (w01 s) N k * 2 ^ (12 - N)))), fx ν)
  | 0, n, hn => by
    rw [e_60_4, if_pos (by rw [O_le (by omega) (by omega)]; omega), e_60_17, show n = N by omega]
  | r + 1, n, hn => by
    have hu : ∀ k, k < 4 → (fun k => oft cs t H (w01 s) n k * 2 ^ (12 - n)) k ≤ 4096 := fun k hk => oft_le hc t H hs (by omega) hk
    have z0 : (0 : Int32) = Int32.ofNat 0 := rfl
    have hz : (0 : Int64) = Int64.ofNat (pkw fun _ => 0) := rfl
    have hh : ∀ k, oft cs t H (w01 s) n k * 2 ^ (12 - n) / 2 = oft cs t H (w01 s) n k * 2 ^ (12 - (n + 1)) := by
      intro k
      rw [show 12 - n = (12 - (n + 1)) + 1 by omega, Nat.pow_succ, ← Nat.mul_assoc, Nat.mul_div_cancel _ (by decide)]
    have hg : (fun k => oft cs t H (w01 s) (n + 1) k * 2 ^ (12 - (n + 1))) = gon cs t (H + n) (fun k => oft cs t H (w01 s) n k * 2 ^ (12 - n) / 2) := by
      rw [show (fun k => oft cs t H (w01 s) n k * 2 ^ (12 - n) / 2) = fun k => oft cs t H (w01 s) n k * 2 ^ (12 - (n + 1)) from funext hh, ← gon_mul]
      rfl
    rw [e_60_4, if_neg (by rw [O_le (by omega) (by omega)]; omega), e_60_5, z0, hz, l_60s d hA hC hc ht hH hH2 (by omega) hu _ _ (s := 0) (by decide), l_60s d hA hC hc ht hH hH2 (by omega) hu _ _ (s := 1) (by decide), l_60s d hA hC hc ht hH hH2 (by omega) hu _ _ (s := 2) (by decide), l_60s d hA hC hc ht hH hH2 (by omega) hu _ _ (s := 3) (by decide), e_60_6, if_pos (by decide), e_60_16, O_succ]
    have go := l_60 d hA hC hc ht hH hH2 hN hs r (n + 1) (by omega)
    rw [hg] at go
    exact go
/-- chances of a THING, as the class packs them -/
def chN (cs : List Cl) (T st H N t : Nat) : Nat → Nat := fun k => if t < T then oft cs t H (w01 (stD st t)) N k * 2 ^ (12 - N) else w01 0 k * 4096
theorem chN_le {cs : List Cl} (hc : okCs cs) {T st H N : Nat} (hN : N ≤ 12) (t : Nat) {k : Nat} (hk : k < 4) : chN cs T st H N t k ≤ 4096 := by
  unfold chN
  split
  · exact oft_le hc t H (stD_lt ..) hN hk
  · have q : ∀ k, k < 4 → w01 0 k * 4096 ≤ 4096 := by decide
    exact q k hk
theorem s_60 (d : Nat) {ν : MM} {A T st t H : Nat} {cs : List Cl} (hA : gR ν 29 2 = some A) (hC : CoA ν A cs) (hc : okCs cs) (ht : t < 4) (hH : gI ν 29 10 = Int32.ofNat H) (hH2 : H ≤ 1000) (hT : gI ν 29 8 = Int32.ofNat T) (hT4 : T ≤ 4) (hS : gI ν 29 9 = Int32.ofNat st) (hs : st < 256) {N : Nat} (hN : N ≤ 12) : ev (d + 3) 60 0 [.ref 29, .int (Int32.ofNat t), .int (Int32.ofNat N)] [] (fx ν) = some (some (.long (Int64.ofNat (pkw (chN cs T st H N t)))), fx ν) := by
  unfold chN
  by_cases c : t < T
  · simp only [if_pos c]
    have e : ∀ s, s < 4 → (4096 : Int64) <<< (((16 : Int32) * Int32.ofNat s).toInt64 &&& 63) = Int64.ofNat (pkw fun k => w01 s k * 2 ^ (12 - 0)) := by decide
    rw [e_60_0, hT, if_pos (by rw [O_lt (by omega) (by omega)]; exact c), e_60_2, hS, s_107, bnd_1, app1, stI_n st hs t ht]
    refine (e_60_3 ..).trans ?_
    rw [e _ (stD_lt st t)]
    exact l_60 d hA hC hc ht hH hH2 hN (stD_lt st t) N 0 (by omega)
  · simp only [if_neg c]
    rw [e_60_0, hT, if_neg (by rw [O_lt (by omega) (by omega)]; exact c), e_60_1]
    rfl
