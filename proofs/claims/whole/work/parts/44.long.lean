/-! longs as numbers; packed chances -/
theorem smod64 : ∀ k, k < 64 → ((Int64.ofNat k).toBitVec.smod 64).toNat = k := by decide +kernel
theorem L_shl (a k : Nat) (hk : k < 64) : Int64.ofNat a <<< Int64.ofNat k = Int64.ofNat (a * 2 ^ k) := by
  apply Int64.toBitVec.inj
  have e := smod64 k hk
  have e2 : (Int64.ofNat a <<< Int64.ofNat k).toBitVec = (BitVec.ofNat 64 a) <<< ((Int64.ofNat k).toBitVec.smod 64).toNat := by
    show (BitVec.ofNat 64 a) <<< ((Int64.ofNat k).toBitVec.smod 64) = _
    exact BitVec.shiftLeft_eq' ..
  rw [e2, e]
  apply BitVec.eq_of_toNat_eq
  rw [BitVec.toNat_shiftLeft, BitVec.toNat_ofNat, Nat.shiftLeft_eq]
  show a % 2 ^ 64 * 2 ^ k % 2 ^ 64 = (a * 2 ^ k) % 2 ^ 64
  rw [Nat.mul_mod, Nat.mod_mod, ← Nat.mul_mod]
theorem L_shr (a k : Nat) (hk : k < 64) (ha : a < 2 ^ 63) : Int64.ofNat a >>> Int64.ofNat k = Int64.ofNat (a / 2 ^ k) := by
  apply Int64.toBitVec.inj
  have e := smod64 k hk
  have e2 : (Int64.ofNat a >>> Int64.ofNat k).toBitVec = (BitVec.ofNat 64 a).sshiftRight ((Int64.ofNat k).toBitVec.smod 64).toNat := rfl
  rw [e2, e]
  apply BitVec.eq_of_toNat_eq
  have hm : (BitVec.ofNat 64 a).msb = false := by
    rw [BitVec.msb_eq_decide, BitVec.toNat_ofNat, Nat.mod_eq_of_lt (by omega)]
    exact decide_eq_false (by omega)
  have hd : a / 2 ^ k ≤ a := Nat.div_le_self _ _
  rw [BitVec.toNat_sshiftRight_of_msb_false hm, BitVec.toNat_ofNat, Nat.shiftRight_eq_div_pow, Nat.mod_eq_of_lt (by omega)]
  show _ = (a / 2 ^ k) % 2 ^ 64
  rw [Nat.mod_eq_of_lt (by omega)]
theorem L_and (a : Nat) : Int64.ofNat a &&& 65535 = Int64.ofNat (a % 65536) := by
  apply Int64.toBitVec.inj
  apply BitVec.eq_of_toNat_eq
  show ((BitVec.ofNat 64 a) &&& 65535#64).toNat = (a % 65536) % 2 ^ 64
  rw [BitVec.toNat_and, BitVec.toNat_ofNat]
  show a % 2 ^ 64 &&& (2 ^ 16 - 1) = _
  rw [Nat.and_two_pow_sub_one_eq_mod]
  omega
theorem L_half {a : Nat} (h : a < 2 ^ 63) : Int64.ofNat a / 2 = Int64.ofNat (a / 2) := (Int64.ofNat_div h (by decide)).symm
theorem L_eq {a b : Nat} (ha : a < 2 ^ 63) (hb : b < 2 ^ 63) : (Int64.ofNat a = Int64.ofNat b) = (a = b) := by
  apply propext
  constructor
  · intro h
    have := congrArg (fun x => x.toBitVec.toNat) h
    have e : ∀ a, (Int64.ofNat a).toBitVec.toNat = a % 2 ^ 64 := fun a => rfl
    rw [e, e] at this
    omega
  · intro h; rw [h]
theorem L_le {a b : Nat} (ha : a < 2 ^ 63) (hb : b < 2 ^ 63) : (Int64.ofNat a ≤ Int64.ofNat b) = (a ≤ b) := propext (Int64.ofNat_le_iff_le ha hb)
/-- four numbers of 16 bits in one -/
def pkw (u : Nat → Nat) : Nat := u 0 + 65536 * u 1 + 4294967296 * u 2 + 281474976710656 * u 3
def p16 (a : Nat) : Nat := 2 ^ (16 * a)
theorem sh16 : ∀ a, a < 4 → ((16 : Int32) * Int32.ofNat a).toInt64 &&& 63 = Int64.ofNat (16 * a) := by decide
theorem pkw_lt {u : Nat → Nat} (h : ∀ k, k < 4 → u k ≤ 4096) : pkw u < 2 ^ 63 := by
  have h0 := h 0 (by decide)
  have h1 := h 1 (by decide)
  have h2 := h 2 (by decide)
  have h3 := h 3 (by decide)
  unfold pkw
  omega
theorem pkw_at {u : Nat → Nat} (h : ∀ k, k < 4 → u k ≤ 4096) {a : Nat} (ha : a < 4) : (Int64.ofNat (pkw u) >>> (((16 : Int32) * Int32.ofNat a).toInt64 &&& 63)) &&& 65535 = Int64.ofNat (u a) := by
  have hl := pkw_lt h
  have h0 := h 0 (by decide)
  have h1 := h 1 (by decide)
  have h2 := h 2 (by decide)
  have h3 := h 3 (by decide)
  rw [sh16 a ha, L_shr _ _ (by omega) hl, L_and]
  congr 1
  unfold pkw
  match a, ha with
  | 0, _ => show (u 0 + 65536 * u 1 + 4294967296 * u 2 + 281474976710656 * u 3) / 1 % 65536 = u 0; omega
  | 1, _ => show (u 0 + 65536 * u 1 + 4294967296 * u 2 + 281474976710656 * u 3) / 65536 % 65536 = u 1; omega
  | 2, _ => show (u 0 + 65536 * u 1 + 4294967296 * u 2 + 281474976710656 * u 3) / 4294967296 % 65536 = u 2; omega
  | 3, _ => show (u 0 + 65536 * u 1 + 4294967296 * u 2 + 281474976710656 * u 3) / 281474976710656 % 65536 = u 3; omega
/-- one field more -/
def adf (u : Nat → Nat) (a n : Nat) : Nat → Nat := fun j => u j + if j = a then n else 0
theorem pkw_add (u : Nat → Nat) {a : Nat} (n : Nat) (ha : a < 4) : pkw u + n * p16 a = pkw (adf u a n) := by
  unfold pkw adf p16
  match a, ha with
  | 0, _ => simp; omega
  | 1, _ => simp; omega
  | 2, _ => simp; omega
  | 3, _ => simp; omega
theorem addw_adf (u : Nat → Nat) (a f n : Nat) : addw u a f n = adf (adf u a ((2 - f) * n)) ((a + 1) % 4) (f * n) := rfl
theorem addw_0 (u : Nat → Nat) (a f : Nat) : addw u a f 0 = u := by
  funext j
  unfold addw
  rw [Nat.mul_zero, Nat.mul_zero]
  split <;> split <;> rfl
theorem L_shl16 (n : Nat) {a : Nat} (ha : a < 4) : Int64.ofNat n <<< (((16 : Int32) * Int32.ofNat a).toInt64 &&& 63) = Int64.ofNat (n * p16 a) := by
  rw [sh16 a ha, L_shl _ _ (by omega)]
  rfl
def smw (w : Nat → Nat) : Nat := w 0 + w 1 + w 2 + w 3
theorem smw_adf (u : Nat → Nat) {a : Nat} (n : Nat) (ha : a < 4) : smw (adf u a n) = smw u + n := by
  unfold smw adf
  match a, ha with
  | 0, _ => simp; omega
  | 1, _ => simp; omega
  | 2, _ => simp; omega
  | 3, _ => simp; omega
theorem smw_addw (u : Nat → Nat) {a f : Nat} (n : Nat) (ha : a < 4) (hf : f ≤ 2) : smw (addw u a f n) = smw u + 2 * n := by
  rw [addw_adf, smw_adf _ _ (Nat.mod_lt _ (by decide)), smw_adf _ _ ha]
  match f, hf with
  | 0, _ => omega
  | 1, _ => omega
  | 2, _ => omega
theorem smw_gon {cs : List Cl} (hc : okCs cs) (t h : Nat) (w : Nat → Nat) : smw (gon cs t h w) = 2 * smw w := by
  unfold gon
  rw [smw_addw _ _ (nx_lt ..) (df_n hc ..).2, smw_addw _ _ (nx_lt ..) (df_n hc ..).2, smw_addw _ _ (nx_lt ..) (df_n hc ..).2, smw_addw _ _ (nx_lt ..) (df_n hc ..).2]
  show 0 + 0 + 0 + 0 + 2 * w 0 + 2 * w 1 + 2 * w 2 + 2 * w 3 = 2 * (w 0 + w 1 + w 2 + w 3)
  omega
theorem smw_oft {cs : List Cl} (hc : okCs cs) (t H : Nat) (w : Nat → Nat) : ∀ n, smw (oft cs t H w n) = 2 ^ n * smw w
  | 0 => by rw [Nat.pow_zero, Nat.one_mul]; rfl
  | n + 1 => by
    show smw (gon cs t (H + n) (oft cs t H w n)) = _
    rw [smw_gon hc, smw_oft hc t H w n, Nat.pow_succ]
    rw [Nat.mul_comm (2 ^ n) 2, Nat.mul_assoc]
theorem smw_w01 : ∀ s, s < 4 → smw (w01 s) = 1 := by decide
theorem w_le (w : Nat → Nat) {k : Nat} (hk : k < 4) : w k ≤ smw w := by
  unfold smw
  match k, hk with
  | 0, _ => omega
  | 1, _ => omega
  | 2, _ => omega
  | 3, _ => omega
theorem addw_mul (u : Nat → Nat) (a f n c : Nat) : (fun j => addw u a f n j * c) = addw (fun j => u j * c) a f (n * c) := by
  funext j
  unfold addw
  rw [Nat.add_mul, Nat.add_mul, ← Nat.mul_assoc, ← Nat.mul_assoc]
  congr 1
  · congr 1
    split
    · rfl
    · exact Nat.zero_mul c
  · split
    · rfl
    · exact Nat.zero_mul c
theorem gon_mul (cs : List Cl) (t h : Nat) (w : Nat → Nat) (c : Nat) : (fun j => gon cs t h w j * c) = gon cs t h (fun j => w j * c) := by
  unfold gon
  rw [addw_mul, addw_mul, addw_mul, addw_mul]
  simp only [Nat.zero_mul]
/-! the weights' STATES are those of the sets -/
theorem bit_at (x : Int32) {s : Nat} (hs : s < 32) : (x >>> (Int32.ofNat s &&& 31) &&& 1 = 1) = (gb x s = true) := by
  have e : Int32.ofNat s &&& 31 = Int32.ofNat s := by
    have q : ∀ s, s < 32 → Int32.ofNat s &&& 31 = Int32.ofNat s := by decide
    exact q s hs
  rw [e, gb_and1, gb_sr x (by omega)]
  rfl
theorem gb_myS {cs : List Cl} {t h s : Nat} (hs : s < 4) (set x : Int32) (j : Nat) : gb (myS cs t h set x s) j = (gb x j || (gb set s && gb (stT cs t s h) j)) := by
  unfold myS
  by_cases c : gb set s = true
  · rw [if_pos (by rw [bit_at set (by omega)]; exact c), gb_or, c, Bool.true_and]
  · rw [if_neg (by rw [bit_at set (by omega)]; exact c), Bool.eq_false_iff.mpr c, Bool.false_and, Bool.or_false]
theorem addw_pos {u : Nat → Nat} {a f n : Nat} (ha : a < 4) (hf : f ≤ 2) {j : Nat} (hj : j < 4) : decide (0 < addw u a f n j) = (decide (0 < u j) || (decide (0 < n) && gb (stF a f) j)) := by
  rw [stF_gb a ha f (by omega) j (by omega)]
  unfold addw
  rw [Bool.eq_iff_iff]
  simp only [decide_eq_true_eq, Bool.or_eq_true, Bool.and_eq_true]
  by_cases c1 : j = a
  · rw [if_pos c1, if_neg (by omega)]
    match f, hf with
    | 0, _ => constructor <;> intro h <;> omega
    | 1, _ => constructor <;> intro h <;> omega
    | 2, _ => constructor <;> intro h <;> omega
  · rw [if_neg c1]
    by_cases c2 : j = (a + 1) % 4
    · rw [if_pos c2]
      match f, hf with
      | 0, _ => constructor <;> intro h <;> omega
      | 1, _ => constructor <;> intro h <;> omega
      | 2, _ => constructor <;> intro h <;> omega
    · rw [if_neg c2]
      constructor <;> intro h <;> omega
theorem gb_myB {cs : List Cl} (hc : okCs cs) {t h : Nat} {set : Int32} {w : Nat → Nat} (hw : ∀ k, k < 4 → gb set k = decide (0 < w k)) {j : Nat} (hj : j < 4) : gb (myB cs t h set) j = decide (0 < gon cs t h w j) := by
  unfold myB gon
  rw [gb_myS (by decide), gb_myS (by decide), gb_myS (by decide), gb_myS (by decide), addw_pos (nx_lt ..) (df_n hc ..).2 hj, addw_pos (nx_lt ..) (df_n hc ..).2 hj, addw_pos (nx_lt ..) (df_n hc ..).2 hj, addw_pos (nx_lt ..) (df_n hc ..).2 hj, hw 0 (by decide), hw 1 (by decide), hw 2 (by decide), hw 3 (by decide), stT_F hc (by decide), stT_F hc (by decide), stT_F hc (by decide), stT_F hc (by decide), gb_zero]
  rfl
theorem gb_rch {cs : List Cl} (hc : okCs cs) (t H : Nat) {set : Int32} {w : Nat → Nat} (hw : ∀ k, k < 4 → gb set k = decide (0 < w k)) : ∀ (n : Nat) {j : Nat}, j < 4 → gb (rch cs t H n set) j = decide (0 < oft cs t H w n j)
  | 0, j, hj => hw j hj
  | n + 1, j, hj => gb_myB hc (fun k hk => gb_rch hc t H hw n hk) hj
theorem gb_one4 : ∀ s, s < 4 → ∀ k, k < 4 → gb (one4 s) k = decide (0 < w01 s k) := by decide
