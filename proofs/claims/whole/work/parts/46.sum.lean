/-! sums over rows of STATES -/
def rsum : Nat → (Nat → Nat) → Nat
  | 0, _ => 0
  | n + 1, f => rsum n f + f n
theorem rsum_add (a : Nat) (f : Nat → Nat) : ∀ b, rsum (a + b) f = rsum a f + rsum b (fun i => f (a + i))
  | 0 => rfl
  | b + 1 => by
    show rsum (a + b) f + f (a + b) = _
    rw [rsum_add a f b, Nat.add_assoc]
    rfl
theorem rsum_congr {f g : Nat → Nat} : ∀ {n : Nat}, (∀ i, i < n → f i = g i) → rsum n f = rsum n g
  | 0, _ => rfl
  | n + 1, h => by
    show rsum n f + f n = rsum n g + g n
    rw [rsum_congr (fun i hi => h i (by omega)), h n (by omega)]
theorem rsum_mul (f : Nat → Nat) (c : Nat) : ∀ n, rsum n (fun i => f i * c) = rsum n f * c
  | 0 => (Nat.zero_mul c).symm
  | n + 1 => by
    show rsum n (fun i => f i * c) + f n * c = (rsum n f + f n) * c
    rw [rsum_mul f c n, Nat.add_mul]
theorem rsum_le {f g : Nat → Nat} : ∀ {n : Nat}, (∀ i, i < n → f i ≤ g i) → rsum n f ≤ rsum n g
  | 0, _ => Nat.le_refl _
  | n + 1, h => Nat.add_le_add (rsum_le fun i hi => h i (by omega)) (h n (by omega))
theorem rsum_pos {f : Nat → Nat} : ∀ {n : Nat}, 0 < rsum n f → ∃ i, i < n ∧ 0 < f i
  | 0, h => absurd h (Nat.lt_irrefl 0)
  | n + 1, h => by
    have h : 0 < rsum n f + f n := h
    by_cases c : 0 < f n
    · exact ⟨n, by omega, c⟩
    · obtain ⟨i, h1, h2⟩ := rsum_pos (f := f) (n := n) (by omega)
      exact ⟨i, by omega, h2⟩
/-- the weights of a row together -/
def prw (w : Nat → Nat → Nat) : Nat → Nat → Nat
  | 0, _ => 1
  | t + 1, r => prw w t r * w t (stD r t)
theorem stD_lo {T : Nat} (hT : T < 4) (k : Nat) {r t : Nat} (ht : t < T) : stD (4 ^ T * k + r) t = stD r t := by
  unfold stD
  match T, hT, t, ht with
  | 1, _, 0, _ => show (4 * k + r) / 1 % 4 = r / 1 % 4; omega
  | 2, _, 0, _ => show (16 * k + r) / 1 % 4 = r / 1 % 4; omega
  | 2, _, 1, _ => show (16 * k + r) / 4 % 4 = r / 4 % 4; omega
  | 3, _, 0, _ => show (64 * k + r) / 1 % 4 = r / 1 % 4; omega
  | 3, _, 1, _ => show (64 * k + r) / 4 % 4 = r / 4 % 4; omega
  | 3, _, 2, _ => show (64 * k + r) / 16 % 4 = r / 16 % 4; omega
theorem stD_hi {T : Nat} {k r : Nat} (hk : k < 4) (hr : r < 4 ^ T) : stD (4 ^ T * k + r) T = k := by
  unfold stD
  rw [Nat.mul_add_div (Nat.pow_pos (by decide)), Nat.div_eq_of_lt hr, Nat.add_zero, Nat.mod_eq_of_lt hk]
theorem prw_lo {T : Nat} (hT : T < 4) (w : Nat → Nat → Nat) (k : Nat) {r : Nat} : ∀ t, t ≤ T → prw w t (4 ^ T * k + r) = prw w t r
  | 0, _ => rfl
  | t + 1, h => by
    show prw w t (4 ^ T * k + r) * w t (stD (4 ^ T * k + r) t) = prw w t r * w t (stD r t)
    rw [prw_lo hT w k t (by omega), stD_lo hT k (by omega)]
theorem rsum_prw (w : Nat → Nat → Nat) (S : Nat) : ∀ T, T ≤ 4 → (∀ t, t < T → smw (w t) = S) → rsum (4 ^ T) (prw w T) = S ^ T
  | 0, _, _ => rfl
  | T + 1, hT, h => by
    have ih := rsum_prw w S T (by omega) (fun t ht => h t (by omega))
    have e : ∀ k, k < 4 → rsum (4 ^ T) (fun r => prw w (T + 1) (4 ^ T * k + r)) = S ^ T * w T k := by
      intro k hk
      rw [← ih, ← rsum_mul]
      refine rsum_congr fun r hr => ?_
      show prw w T (4 ^ T * k + r) * w T (stD (4 ^ T * k + r) T) = _
      rw [prw_lo (by omega) w k T (Nat.le_refl _), stD_hi hk hr]
    have hp : 4 ^ (T + 1) = 4 ^ T * 0 + 4 ^ T + 4 ^ T + 4 ^ T + 4 ^ T := by rw [Nat.pow_succ]; omega
    have e1 := e 1 (by decide)
    have e0 := e 0 (by decide)
    have e2 := e 2 (by decide)
    have e3 := e 3 (by decide)
    rw [show 4 ^ T * 0 = 0 by omega] at e0
    rw [show 4 ^ T * 1 = 4 ^ T by omega] at e1
    rw [show 4 ^ T * 2 = 4 ^ T + 4 ^ T by omega] at e2
    rw [show 4 ^ T * 3 = 4 ^ T + 4 ^ T + 4 ^ T by omega] at e3
    simp only [Nat.zero_add] at e0
    rw [hp, Nat.mul_zero, Nat.zero_add, rsum_add, rsum_add, rsum_add, e1, e2, e3]
    rw [show rsum (4 ^ T) (prw w (T + 1)) = S ^ T * w T 0 from e0, Nat.pow_succ, ← h T (by omega)]
    unfold smw
    rw [Nat.mul_add, Nat.mul_add, Nat.mul_add]
/-- what of the rows is so, together -/
def sso (n : Nat) (so : Nat → Bool) (f : Nat → Nat) : Nat := rsum n fun r => if so r = true then f r else 0
theorem sso_le (n : Nat) (so : Nat → Bool) (f : Nat → Nat) : sso n so f ≤ rsum n f := rsum_le fun i _ => by split <;> omega
theorem sso_mul (n : Nat) (so : Nat → Bool) (f : Nat → Nat) (c : Nat) : sso n so (fun r => f r * c) = sso n so f * c := by
  unfold sso
  rw [← rsum_mul]
  refine rsum_congr fun i _ => ?_
  split
  · rfl
  · exact (Nat.zero_mul c).symm
theorem sso_congr {n : Nat} {so so' : Nat → Bool} {f g : Nat → Nat} (h : ∀ i, i < n → so i = so' i) (h2 : ∀ i, i < n → f i = g i) : sso n so f = sso n so' g := rsum_congr fun i hi => by rw [h i hi, h2 i hi]
theorem sso_succ (n : Nat) (so : Nat → Bool) (f : Nat → Nat) : sso (n + 1) so f = sso n so f + if so n = true then f n else 0 := rfl
/-- the class's parts of a row are the model's, times a power of 2 -/
def clp (cs : List Cl) (T st H N : Nat) (r : Nat) : Nat := (((1 * chN cs T st H N 0 (stD r 0)) * chN cs T st H N 1 (stD r 1)) * chN cs T st H N 2 (stD r 2)) * chN cs T st H N 3 (stD r 3)
def owt (cs : List Cl) (st H N : Nat) (t : Nat) : Nat → Nat := oft cs t H (w01 (stD st t)) N
theorem stD_out {T r t : Nat} (hr : r < 4 ^ T) (ht : T ≤ t) : stD r t = 0 := by
  unfold stD
  have : r < 4 ^ t := Nat.lt_of_lt_of_le hr (Nat.pow_le_pow_right (by decide) ht)
  rw [Nat.div_eq_of_lt this]
theorem clp_prw (cs : List Cl) {T st H N r : Nat} (hT : T ≤ 4) (hN : N ≤ 12) (hr : r < 4 ^ T) : clp cs T st H N r = prw (owt cs st H N) T r * 2 ^ (48 - N * T) := by
  have hin : ∀ t, t < T → chN cs T st H N t (stD r t) = owt cs st H N t (stD r t) * 2 ^ (12 - N) := fun t ht => by
    unfold chN
    rw [if_pos ht]
    rfl
  have hout : ∀ t, T ≤ t → chN cs T st H N t (stD r t) = 2 ^ 12 := fun t ht => by
    unfold chN
    rw [if_neg (by omega), stD_out hr ht]
    rfl
  unfold clp
  have pw : ∀ a b c, a + b = c → 2 ^ a * 2 ^ b = 2 ^ c := fun a b c h => by rw [← Nat.pow_add, h]
  match T, hT with
  | 0, _ =>
    rw [hout 0 (by omega), hout 1 (by omega), hout 2 (by omega), hout 3 (by omega)]
    show _ = 1 * 2 ^ 48
    decide
  | 1, _ =>
    rw [hin 0 (by omega), hout 1 (by omega), hout 2 (by omega), hout 3 (by omega)]
    show _ = 1 * owt cs st H N 0 (stD r 0) * 2 ^ (48 - N * 1)
    rw [← Nat.mul_assoc 1, Nat.mul_assoc _ (2 ^ (12 - N)), pw _ _ (24 - N) (by omega), Nat.mul_assoc _ (2 ^ (24 - N)), pw _ _ (36 - N) (by omega), Nat.mul_assoc _ (2 ^ (36 - N)), pw _ _ (48 - N * 1) (by omega)]
  | 2, _ =>
    rw [hin 0 (by omega), hin 1 (by omega), hout 2 (by omega), hout 3 (by omega)]
    show _ = 1 * owt cs st H N 0 (stD r 0) * owt cs st H N 1 (stD r 1) * 2 ^ (48 - N * 2)
    rw [← Nat.mul_assoc 1]
    generalize owt cs st H N 0 (stD r 0) = a
    generalize owt cs st H N 1 (stD r 1) = b
    rw [Nat.mul_mul_mul_comm (1 * a), pw _ _ (24 - N * 2) (by omega), Nat.mul_assoc _ (2 ^ (24 - N * 2)), pw _ _ (36 - N * 2) (by omega), Nat.mul_assoc _ (2 ^ (36 - N * 2)), pw _ _ (48 - N * 2) (by omega)]
  | 3, _ =>
    rw [hin 0 (by omega), hin 1 (by omega), hin 2 (by omega), hout 3 (by omega)]
    show _ = 1 * owt cs st H N 0 (stD r 0) * owt cs st H N 1 (stD r 1) * owt cs st H N 2 (stD r 2) * 2 ^ (48 - N * 3)
    rw [← Nat.mul_assoc 1]
    generalize owt cs st H N 0 (stD r 0) = a
    generalize owt cs st H N 1 (stD r 1) = b
    generalize owt cs st H N 2 (stD r 2) = c
    rw [Nat.mul_mul_mul_comm (1 * a), pw _ _ (24 - N * 2) (by omega), Nat.mul_mul_mul_comm, pw _ _ (36 - N * 3) (by omega), Nat.mul_assoc _ (2 ^ (36 - N * 3)), pw _ _ (48 - N * 3) (by omega)]
  | 4, _ =>
    rw [hin 0 (by omega), hin 1 (by omega), hin 2 (by omega), hin 3 (by omega)]
    show _ = 1 * owt cs st H N 0 (stD r 0) * owt cs st H N 1 (stD r 1) * owt cs st H N 2 (stD r 2) * owt cs st H N 3 (stD r 3) * 2 ^ (48 - N * 4)
    rw [← Nat.mul_assoc 1]
    generalize owt cs st H N 0 (stD r 0) = a
    generalize owt cs st H N 1 (stD r 1) = b
    generalize owt cs st H N 2 (stD r 2) = c
    generalize owt cs st H N 3 (stD r 3) = e
    rw [Nat.mul_mul_mul_comm (1 * a), pw _ _ (24 - N * 2) (by omega), Nat.mul_mul_mul_comm (1 * a * b) _ c, pw _ _ (36 - N * 3) (by omega), Nat.mul_mul_mul_comm (1 * a * b * c) _ e, pw _ _ (48 - N * 4) (by omega)]
theorem rsum_owt {cs : List Cl} (hc : okCs cs) (st H N : Nat) {T : Nat} (hT : T ≤ 4) : rsum (4 ^ T) (prw (owt cs st H N) T) = 2 ^ (N * T) := by
  rw [rsum_prw (owt cs st H N) (2 ^ N) T hT (fun t _ => by unfold owt; rw [smw_oft hc, smw_w01 _ (stD_lt st t), Nat.mul_one]), Nat.pow_mul]
/-- the model's number: how often it is so -/
def Mso (cs : List Cl) (T st H N : Nat) (so : Nat → Bool) : Nat := sso (4 ^ T) so (prw (owt cs st H N) T)
theorem Mso_le {cs : List Cl} (hc : okCs cs) {T : Nat} (hT : T ≤ 4) (st H N : Nat) (so : Nat → Bool) : Mso cs T st H N so ≤ 2 ^ (N * T) := by
  rw [← rsum_owt hc st H N hT]
  exact sso_le ..
theorem Cso_eq (cs : List Cl) {T st H N : Nat} (hT : T ≤ 4) (hN : N ≤ 12) (so : Nat → Bool) : sso (4 ^ T) so (clp cs T st H N) = Mso cs T st H N so * 2 ^ (48 - N * T) := by
  unfold Mso
  rw [← sso_mul]
  exact sso_congr (fun _ _ => rfl) (fun r hr => clp_prw cs hT hN hr)
